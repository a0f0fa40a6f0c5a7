/-! From a point to a corner: as many parts tight as make the shares certain, and one chosen part still slack. -/
theorem co_bt : ∀ n, n = 2 ∨ n = 3 ∨ n = 4 → ∀ i, i < n → ms_sm (2 ^ n - 1) (fun g => st_bt g i) = 2 ^ (n - 1) - 1 := by
  intro n hn
  rcases hn with rfl | rfl | rfl <;> decide +kernel
theorem co_one : ∀ n, n = 2 ∨ n = 3 ∨ n = 4 → ∀ i, i < n → 1 ≤ 2 ^ i ∧ 2 ^ i < 2 ^ n - 1 ∧ ∀ p, p < n → st_bt (2 ^ i) p = if p = i then 1 else 0 := by
  intro n hn
  rcases hn with rfl | rfl | rfl <;> decide +kernel
theorem co_single {n i : Nat} (hn : n = 2 ∨ n = 3 ∨ n = 4) (hi : i < n) (dl : Nat → Int) : st_sh n (2 ^ i) dl = dl i := by
  unfold st_sh ms_dot
  rw [ln_split n i _ hi, (co_one n hn i hi).2.2 i hi, if_pos rfl, ms_cg (g := fun _ => 0) (fun p hp => by
    by_cases hpi : p = i
    · rw [if_pos hpi]
    · rw [if_neg hpi, (co_one n hn i hi).2.2 p hp, if_neg hpi, Int.zero_mul]), ms_zero]
  omega
theorem co_all {n : Nat} (hn : n = 2 ∨ n = 3 ∨ n = 4) (dl : Nat → Int) (h0 : st_sh n (2 ^ n - 1) dl = 0) : ms_sm (2 ^ n - 1) (fun g => st_sh n g dl) = 0 := by
  have e3 : st_sh n (2 ^ n - 1) dl = ms_sm n dl := by
    unfold st_sh ms_dot
    refine ms_cg (fun i hi => ?_)
    have : st_bt (2 ^ n - 1) i = 1 := by
      unfold st_bt
      rw [Nat.testBit_two_pow_sub_one]
      simp [hi]
    rw [this, Int.one_mul]
  unfold st_sh ms_dot
  rw [ms_swap, ms_cg (g := fun i => (2 ^ (n - 1) - 1) * dl i) (fun i hi => by rw [ms_mulr, co_bt n hn i hi]), ms_mul, ← e3, h0, Int.mul_zero]
theorem co_sh0 {n : Nat} (dl : Nat → Int) : st_sh n 0 dl = 0 := by
  unfold st_sh ms_dot
  rw [ms_cg (g := fun _ => 0) (fun p _ => by
    have : st_bt 0 p = 0 := by simp [st_bt]
    rw [this, Int.zero_mul]), ms_zero]
/-- a direction that goes nowhere down goes nowhere -/
theorem co_down {n : Nat} (hn : n = 2 ∨ n = 3 ∨ n = 4) {fx : Nat → Prop} {dl : Nat → Int} (hd : st_Dir n fx dl) (hup : ∀ g, st_op n fx g → 0 ≤ st_sh n g dl) : ∀ i, i < n → dl i = 0 := by
  intro i hi
  have hnn : ∀ g, g < 2 ^ n - 1 → 0 ≤ st_sh n g dl := by
    intro g hg
    rcases Nat.eq_zero_or_pos g with h | h
    · subst h; rw [co_sh0]; exact Int.le_refl 0
    · by_cases hf : fx g
      · rw [hd.2 g h hg hf]; exact Int.le_refl 0
      · exact hup g ⟨h, hg, hf⟩
  have h1 := ms_le_of hnn (2 ^ i) (co_one n hn i hi).2.1
  rw [co_all hn dl hd.1] at h1
  have h2 := hnn (2 ^ i) (co_one n hn i hi).2.1
  rw [co_single hn hi] at h1 h2
  omega
theorem co_shlin {n g : Nat} (x y : Nat → Int) (a b : Int) : st_sh n g (fun i => a * x i + b * y i) = a * st_sh n g x + b * st_sh n g y := by
  unfold st_sh
  rw [ms_dot_add, ms_dot_mul, ms_dot_mul]
theorem co_corner {n : Nat} (hn : n = 2 ∨ n = 3 ∨ n = 4) {v : Nat → Int} {fx : Nat → Prop} {lp lq : Nat → Int} {p q : Int} (hq : 0 < q) (S0 : Nat) (hk : Bool) :
    ∀ (k : Nat) (u : Int) (x : Nat → Int), (2 ^ n - 1) - ((List.range (2 ^ n - 1)).filter (fun g => @decide (st_op n fx g ∧ q * (u * v g - st_sh n g x) = u * p) (Classical.propDecidable _))).length ≤ k → st_Fe n v fx lp lq u x → (∀ g, st_op n fx g → q * (u * v g - st_sh n g x) ≤ u * p) → (hk = true → st_op n fx S0 ∧ q * (u * v S0 - st_sh n S0 x) < u * p) →
    ∃ (u' : Int) (x' : Nat → Int), st_Fe n v fx lp lq u' x' ∧ (∀ g, st_op n fx g → q * (u' * v g - st_sh n g x') ≤ u' * p) ∧ (hk = true → q * (u' * v S0 - st_sh n S0 x') < u' * p) ∧
      ∀ dl, st_Dir n fx dl → (∀ g, st_op n fx g → q * (u' * v g - st_sh n g x') = u' * p → st_sh n g dl = 0) → ∀ i, i < n → dl i = 0 := by
  intro k
  induction k with
  | zero =>
    intro u x hc hF hle hS
    refine ⟨u, x, hF, hle, fun h => (hS h).2, fun dl hd ht => ?_⟩
    refine co_down hn hd (fun g ho => ?_)
    -- all parts are tight and open: none is left out
    have hall : ∀ j, j < 2 ^ n - 1 → @decide (st_op n fx j ∧ q * (u * v j - st_sh n j x) = u * p) (Classical.propDecidable _) = true := by
      intro j hj
      cases hb : @decide (st_op n fx j ∧ q * (u * v j - st_sh n j x) = u * p) (Classical.propDecidable _) with
      | true => rfl
      | false =>
        exfalso
        have := du_count (2 ^ n - 1) (fun g => @decide (st_op n fx g ∧ q * (u * v g - st_sh n g x) = u * p) (Classical.propDecidable _)) (fun _ => true) (fun _ _ _ => rfl) j hj hb rfl
        rw [List.filter_eq_self.mpr (fun _ _ => rfl), List.length_range] at this
        omega
    have := hall g ho.2.1
    rw [@decide_eq_true_iff _ (Classical.propDecidable _)] at this
    rw [ht g ho this.2]
    exact Int.le_refl 0
  | succ k ih =>
    intro u x hc hF hle hS
    by_cases hnd : ∀ dl, st_Dir n fx dl → (∀ g, st_op n fx g → q * (u * v g - st_sh n g x) = u * p → st_sh n g dl = 0) → ∀ i, i < n → dl i = 0
    · exact ⟨u, x, hF, hle, fun h => (hS h).2, hnd⟩
    · -- a direction along which the tight ones stay; S0 not down
      obtain ⟨dl, hd, ht, i0, hi0, hz0, hS0⟩ : ∃ dl, st_Dir n fx dl ∧ (∀ g, st_op n fx g → q * (u * v g - st_sh n g x) = u * p → st_sh n g dl = 0) ∧ ∃ i, i < n ∧ dl i ≠ 0 ∧ 0 ≤ st_sh n S0 dl := by
        obtain ⟨dl, hd, ht, i, hi, hz⟩ : ∃ dl, st_Dir n fx dl ∧ (∀ g, st_op n fx g → q * (u * v g - st_sh n g x) = u * p → st_sh n g dl = 0) ∧ ∃ i, i < n ∧ dl i ≠ 0 := by
          apply Classical.byContradiction
          intro hno
          exact hnd (fun dl h1 h2 i hi => Classical.byContradiction (fun hz => hno ⟨dl, h1, h2, i, hi, hz⟩))
        rcases Int.le_total 0 (st_sh n S0 dl) with h | h
        · exact ⟨dl, hd, ht, i, hi, hz, h⟩
        · have neg : ∀ g, st_sh n g (fun i => (-1) * dl i + 0 * dl i) = -st_sh n g dl := fun g => by rw [co_shlin]; omega
          refine ⟨fun i => (-1) * dl i + 0 * dl i, ⟨by rw [neg, hd.1]; rfl, fun g h1 h2 h3 => by rw [neg, hd.2 g h1 h2 h3]; rfl⟩, fun g h1 h2 => by rw [neg, ht g h1 h2]; rfl, i, hi, by dsimp only; omega, by rw [neg]; omega⟩
      -- someone goes down
      obtain ⟨g1, ho1, hg1⟩ : ∃ g, st_op n fx g ∧ st_sh n g dl < 0 := by
        apply Classical.byContradiction
        intro hno
        refine hz0 (co_down hn hd (fun g ho => ?_) i0 hi0)
        rcases Int.lt_or_le (st_sh n g dl) 0 with h | h
        · exact absurd ⟨g, ho, h⟩ hno
        · exact h
      obtain ⟨k0, hk0, hek, hmin⟩ := du_min (2 ^ n - 1) (fun g => @ite _ (st_op n fx g) (Classical.propDecidable _) (u * p - q * (u * v g - st_sh n g x)) 0) (fun g => @ite _ (st_op n fx g ∧ st_sh n g dl < 0) (Classical.propDecidable _) (-(q * st_sh n g dl)) 0)
        (fun g _ => by
          try dsimp only
          by_cases ho : st_op n fx g
          · rw [@if_pos _ (Classical.propDecidable _) ho]
            have := hle g ho
            omega
          · rw [@if_neg _ (Classical.propDecidable _) ho]; exact Int.le_refl 0)
        (fun g _ => by
          try dsimp only
          by_cases ho : st_op n fx g ∧ st_sh n g dl < 0
          · rw [@if_pos _ (Classical.propDecidable _) ho]
            have := Int.mul_neg_of_pos_of_neg hq ho.2
            omega
          · rw [@if_neg _ (Classical.propDecidable _) ho]; exact Int.le_refl 0)
        ⟨g1, ho1.2.1, by
          rw [@if_pos _ (Classical.propDecidable _) (⟨ho1, hg1⟩ : st_op n fx g1 ∧ st_sh n g1 dl < 0)]
          have := Int.mul_neg_of_pos_of_neg hq hg1
          omega⟩
      have hk0o : st_op n fx k0 ∧ st_sh n k0 dl < 0 := by
        apply Classical.byContradiction
        intro hno
        rw [@if_neg _ (Classical.propDecidable _) hno] at hek
        omega
      have hmin2 : ∀ g, st_op n fx g → st_sh n g dl < 0 → (u * p - q * (u * v k0 - st_sh n k0 x)) * (-(q * st_sh n g dl)) ≤ (u * p - q * (u * v g - st_sh n g x)) * (-(q * st_sh n k0 dl)) := by
        intro g ho hg
        have hkk : st_op n fx k0 ∧ st_sh n k0 dl < 0 := hk0o
        have hgg : st_op n fx g ∧ st_sh n g dl < 0 := ⟨ho, hg⟩
        have := hmin g ho.2.1 (by
          rw [@if_pos _ (Classical.propDecidable _) hgg]
          have := Int.mul_neg_of_pos_of_neg hq hg
          omega)
        rw [@if_pos _ (Classical.propDecidable _) hkk.1, @if_pos _ (Classical.propDecidable _) hgg, @if_pos _ (Classical.propDecidable _) ho, @if_pos _ (Classical.propDecidable _) hkk] at this
        exact this
      have hDp : 0 < -(q * st_sh n k0 dl) := by
        have := Int.mul_neg_of_pos_of_neg hq hk0o.2
        omega
      have hsk : 0 ≤ u * p - q * (u * v k0 - st_sh n k0 x) := by
        have := hle k0 hk0o.1
        omega
      generalize hDe : -(q * st_sh n k0 dl) = Dd at hDp hmin2
      generalize hse : u * p - q * (u * v k0 - st_sh n k0 x) = sk at hsk hmin2
      have sl : ∀ g, Dd * u * p - q * (Dd * u * v g - st_sh n g (fun i => Dd * x i + sk * dl i)) = Dd * (u * p - q * (u * v g - st_sh n g x)) + sk * (q * st_sh n g dl) := by
        intro g
        rw [co_shlin]
        grind
      have hF' : st_Fe n v fx lp lq (Dd * u) (fun i => Dd * x i + sk * dl i) := by
        refine ⟨Int.mul_pos hDp hF.1, ?_, fun g h1 h2 h3 => ?_⟩
        · rw [co_shlin, hF.2.1, hd.1]; grind
        · rw [co_shlin, hd.2 g h1 h2 h3]
          have := hF.2.2 g h1 h2 h3
          grind
      have hnn : ∀ g, st_op n fx g → 0 ≤ Dd * (u * p - q * (u * v g - st_sh n g x)) + sk * (q * st_sh n g dl) := by
        intro g ho
        have h0 : 0 ≤ u * p - q * (u * v g - st_sh n g x) := by
          have := hle g ho
          omega
        rcases Int.lt_or_le (st_sh n g dl) 0 with h | h
        · have := hmin2 g ho h
          rw [Int.mul_neg] at this
          rw [Int.mul_comm Dd]
          omega
        · have a1 := Int.mul_nonneg (Int.le_of_lt hDp) h0
          have a2 := Int.mul_nonneg hsk (Int.mul_nonneg (Int.le_of_lt hq) h)
          omega
      -- what was tight stays; k0 is tight now
      have htk : q * (Dd * u * v k0 - st_sh n k0 (fun i => Dd * x i + sk * dl i)) = Dd * u * p := by
        have := sl k0
        rw [hse] at this
        have e : q * st_sh n k0 dl = -Dd := by omega
        rw [e] at this
        grind
      have hkeep : ∀ g, st_op n fx g → q * (u * v g - st_sh n g x) = u * p → q * (Dd * u * v g - st_sh n g (fun i => Dd * x i + sk * dl i)) = Dd * u * p := by
        intro g ho ht1
        have h1 := sl g
        rw [ht g ho ht1] at h1
        have : u * p - q * (u * v g - st_sh n g x) = 0 := by omega
        rw [this] at h1
        grind
      have hk0nt : ¬ q * (u * v k0 - st_sh n k0 x) = u * p := by
        intro h
        have := ht k0 hk0o.1 h
        omega
      refine ih (Dd * u) (fun i => Dd * x i + sk * dl i) ?_ hF' (fun g ho => ?_) (fun h => ⟨(hS h).1, ?_⟩)
      · have := du_count (2 ^ n - 1) (fun g => @decide (st_op n fx g ∧ q * (u * v g - st_sh n g x) = u * p) (Classical.propDecidable _)) (fun g => @decide (st_op n fx g ∧ q * (Dd * u * v g - st_sh n g (fun i => Dd * x i + sk * dl i)) = Dd * u * p) (Classical.propDecidable _)) (fun j _ hj => by
          rw [@decide_eq_true_iff _ (Classical.propDecidable _)] at hj ⊢
          exact ⟨hj.1, hkeep j hj.1 hj.2⟩) k0 hk0 (by
          rw [@decide_eq_false_iff_not _ (Classical.propDecidable _)]
          exact fun h => hk0nt h.2) (by
          rw [@decide_eq_true_iff _ (Classical.propDecidable _)]
          exact ⟨hk0o.1, htk⟩)
        omega
      · have h1 := sl g
        have h2 := hnn g ho
        omega
      · have h1 := sl S0
        have h2 := (hS h).2
        have h3 : 0 < u * p - q * (u * v S0 - st_sh n S0 x) := by omega
        have a1 := Int.mul_pos hDp h3
        have a2 := Int.mul_nonneg hsk (Int.mul_nonneg (Int.le_of_lt hq) hS0)
        omega
