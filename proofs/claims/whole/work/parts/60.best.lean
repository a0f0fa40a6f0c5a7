/-! The best of what is offered, and a stage out of it. -/
/-- (set, top, bottom) is the best of the offers P: the greatest top / bottom, the sets of all that come to it -/
def BP (P : Nat → Int → Int → Prop) (set : Nat) (top bot : Int) : Prop :=
  (bot = 0 ∧ ∀ s t b, ¬ P s t b) ∨ (0 < bot ∧ (∃ s, P s top bot) ∧ (∀ s t b, P s t b → 0 < b ∧ t * bot ≤ top * b) ∧ ∀ g, (set.testBit g = true ↔ ∃ s t b, P s t b ∧ t * bot = top * b ∧ s.testBit g = true))
theorem BP_0 {set : Nat} {top : Int} : BP (fun _ _ _ => False) set top 0 := Or.inl ⟨rfl, fun _ _ _ h => h⟩
theorem BP_cg {P P' : Nat → Int → Int → Prop} {set : Nat} {top bot : Int} (h : BP P set top bot) (e : ∀ s t b, P s t b ↔ P' s t b) : BP P' set top bot := by
  have : P = P' := funext (fun s => funext (fun t => funext (fun b => propext (e s t b))))
  exact this ▸ h
theorem bp_tr {t b top bot t0 b0 : Int} (hb : 0 < b) (hbot : 0 < bot) (hb0 : 0 < b0) (h1 : t * bot ≤ top * b) (h2 : top * b0 ≤ t0 * bot) : t * b0 ≤ t0 * b ∧ (t * b0 = t0 * b → t * bot = top * b ∧ top * b0 = t0 * bot) := by
  have m1 : t * bot * b0 ≤ top * b * b0 := Int.mul_le_mul_of_nonneg_right h1 (by omega)
  have m2 : top * b0 * b ≤ t0 * bot * b := Int.mul_le_mul_of_nonneg_right h2 (by omega)
  have e1 : t * bot * b0 = t * b0 * bot := by grind
  have e2 : t0 * bot * b = t0 * b * bot := by grind
  have e3 : top * b * b0 = top * b0 * b := by grind
  have m3 : t * b0 * bot ≤ t0 * b * bot := by omega
  refine ⟨Int.le_of_mul_le_mul_right m3 hbot, fun e => ?_⟩
  have m4 : t * b0 * bot = t0 * b * bot := by rw [e]
  constructor
  · have : t * bot * b0 = top * b * b0 := by omega
    exact Int.eq_of_mul_eq_mul_right (by omega) this
  · have : top * b0 * b = t0 * bot * b := by omega
    exact Int.eq_of_mul_eq_mul_right (by omega) this
/-- one more offer -/
theorem BP_s {P : Nat → Int → Int → Prop} {set s0 : Nat} {top bot t0 b0 : Int} (h : BP P set top bot) (hb0 : 0 < b0) {set' : Nat} {top' bot' : Int}
    (hn : bot = 0 ∨ top * b0 < t0 * bot → set' = s0 ∧ top' = t0 ∧ bot' = b0) (he : bot ≠ 0 → t0 * bot = top * b0 → set' = set ||| s0 ∧ top' = top ∧ bot' = bot) (hl : bot ≠ 0 → t0 * bot < top * b0 → set' = set ∧ top' = top ∧ bot' = bot) :
    BP (fun s t b => P s t b ∨ (s = s0 ∧ t = t0 ∧ b = b0)) set' top' bot' := by
  have new : (bot = 0 ∨ top * b0 < t0 * bot) → BP (fun s t b => P s t b ∨ (s = s0 ∧ t = t0 ∧ b = b0)) set' top' bot' := by
    intro q
    obtain ⟨rfl, rfl, rfl⟩ := hn q
    refine Or.inr ⟨hb0, ⟨_, Or.inr ⟨rfl, rfl, rfl⟩⟩, ?_, ?_⟩
    · rintro s t b (h1 | ⟨rfl, rfl, rfl⟩)
      · rcases h with ⟨_, h2⟩ | ⟨h2, _, h4, _⟩
        · exact absurd h1 (h2 s t b)
        · have h5 := h4 s t b h1
          exact ⟨h5.1, (bp_tr h5.1 h2 hb0 h5.2 (by omega)).1⟩
      · exact ⟨hb0, Int.le_refl _⟩
    · intro g
      constructor
      · exact fun hg => ⟨_, _, _, Or.inr ⟨rfl, rfl, rfl⟩, rfl, hg⟩
      · rintro ⟨s, t, b, h1 | ⟨rfl, rfl, rfl⟩, h6, h7⟩
        · rcases h with ⟨_, h2⟩ | ⟨h2, _, h4, _⟩
          · exact absurd h1 (h2 s t b)
          · have h5 := h4 s t b h1
            have h8 := (bp_tr h5.1 h2 hb0 h5.2 (by omega)).2 h6
            omega
        · exact h7
  by_cases q0 : bot = 0
  · exact new (Or.inl q0)
  · rcases h with ⟨h1, _⟩ | ⟨h2, h3, h4, h5⟩
    · exact absurd h1 q0
    · rcases Int.lt_trichotomy (t0 * bot) (top * b0) with q | q | q
      · obtain ⟨rfl, rfl, rfl⟩ := hl q0 q
        refine Or.inr ⟨h2, ⟨_, Or.inl h3.choose_spec⟩, ?_, ?_⟩
        · rintro s t b (h1 | ⟨rfl, rfl, rfl⟩)
          · exact h4 s t b h1
          · exact ⟨hb0, Int.le_of_lt q⟩
        · intro g
          rw [h5 g]
          constructor
          · rintro ⟨s, t, b, a1, a2, a3⟩; exact ⟨s, t, b, Or.inl a1, a2, a3⟩
          · rintro ⟨s, t, b, a1 | ⟨rfl, rfl, rfl⟩, a2, a3⟩
            · exact ⟨s, t, b, a1, a2, a3⟩
            · omega
      · obtain ⟨rfl, rfl, rfl⟩ := he q0 q
        refine Or.inr ⟨h2, ⟨_, Or.inl h3.choose_spec⟩, ?_, ?_⟩
        · rintro s t b (h1 | ⟨rfl, rfl, rfl⟩)
          · exact h4 s t b h1
          · exact ⟨hb0, Int.le_of_eq q⟩
        · intro g
          rw [Nat.testBit_or, Bool.or_eq_true, h5 g]
          constructor
          · rintro (⟨s, t, b, a1, a2, a3⟩ | a3)
            · exact ⟨s, t, b, Or.inl a1, a2, a3⟩
            · exact ⟨_, _, _, Or.inr ⟨rfl, rfl, rfl⟩, q, a3⟩
          · rintro ⟨s, t, b, a1 | ⟨rfl, rfl, rfl⟩, a2, a3⟩
            · exact Or.inl ⟨s, t, b, a1, a2, a3⟩
            · exact Or.inr a3
      · exact new (Or.inr q)
section CS
variable {n d : Nat} {v : Nat → Int} {fx : Nat → Prop} {lp lq : Nat → Int} {be : Int} {A : Nat → Int} {W : Nat → Nat → Int}
/-- the directions left are those that the ways make -/
def spn (n d : Nat) (fx : Nat → Prop) (W : Nat → Nat → Int) : Prop := (∀ i, i < d → st_Dir n fx (W i)) ∧ ∀ dl, st_Dir n fx dl → ∃ (k : Int) (c : Nat → Int), k ≠ 0 ∧ ∀ p, p < n → k * dl p = ms_sm d (fun i => c i * W i p)
theorem sh_lin2 {g : Nat} {c : Nat → Int} : ∀ d, st_sh n g (fun p => ms_sm d (fun i => c i * W i p)) = ms_sm d (fun i => c i * st_sh n g (W i)) := by
  intro d
  show ms_sm n (fun p => st_bt g p * ms_sm d (fun i => c i * W i p)) = _
  rw [ms_cg (g := fun p => ms_sm d (fun i => c i * (st_bt g p * W i p))) (fun p _ => by rw [← ms_mul]; exact ms_cg (fun i _ => by grind)), ms_swap]
  refine ms_cg (fun i _ => ?_)
  rw [ms_mul]; rfl
theorem sh_k {g : Nat} {k : Int} {x : Nat → Int} : st_sh n g (fun p => k * x p) = k * st_sh n g x := ms_dot_mul n (st_bt g) x k
/-- A STAGE of the class: weights offered, complete; the best of them is the level, its parts are fixed -/
theorem cs_stage (hF : st_Fe n v fx lp lq be A) (hS : spn n d fx W) {P : Nat → Int → Int → Prop}
    (hP : ∀ s t b, P s t b → ∃ e : Nat → Int, (∀ g, 0 ≤ e g) ∧ (∀ g, ¬ st_op n fx g → e g = 0) ∧ (∀ i, i < d → ms_sm (2 ^ n - 1) (fun g => e g * st_sh n g (W i)) = 0) ∧ t = ms_sm (2 ^ n - 1) (fun g => e g * (be * v g - st_sh n g A)) ∧ b = ms_sm (2 ^ n - 1) e ∧ ∀ g, (s.testBit g = true ↔ 0 < e g))
    (hC : ∀ l : Nat → Int, (∀ g, 0 ≤ l g) → (∀ g, ¬ st_op n fx g → l g = 0) → (∀ i, i < d → ms_sm (2 ^ n - 1) (fun g => l g * st_sh n g (W i)) = 0) → (∃ g, g < 2 ^ n - 1 ∧ 0 < l g) → ∃ s t b, P s t b ∧ ∀ g, s.testBit g = true → 0 < l g)
    {set : Nat} {top bot p q : Int} (hB : BP P set top bot) (hbot : bot ≠ 0) (hq : 0 < q) (hpq : p * (bot * be) = q * top) :
    st_P n v fx lp lq (fun g => set.testBit g = true) p q ∧ st_D n fx (fun g => set.testBit g = true) ∧ ∀ g, set.testBit g = true → st_op n fx g := by
  rcases hB with ⟨h0, _⟩ | ⟨h0, ⟨s1, h1⟩, h2, h3⟩
  · exact absurd h0 hbot
  have hop : ∀ g, ¬ st_op n fx g → ¬ set.testBit g = true := by
    intro g ho hg
    obtain ⟨s, t, b, a1, a2, a3⟩ := (h3 g).mp hg
    obtain ⟨e, e1, e2, _, _, _, e6⟩ := hP s t b a1
    have := (e6 g).mp a3
    rw [e2 g ho] at this
    omega
  have hop2 : ∀ g, set.testBit g = true → st_op n fx g := fun g hg => Classical.not_not.mp (fun q => hop g q hg)
  -- one best offer for each part in the set
  have hch : ∀ j, ∃ e : Nat → Int, (∀ g, 0 ≤ e g) ∧ (∀ g, ¬ st_op n fx g → e g = 0) ∧ (∀ i, i < d → ms_sm (2 ^ n - 1) (fun g => e g * st_sh n g (W i)) = 0) ∧ ms_sm (2 ^ n - 1) (fun g => e g * (top - bot * (be * v g - st_sh n g A))) = 0 ∧ (∀ g, 0 < e g → set.testBit g = true) ∧ (set.testBit j = true → 0 < e j) := by
    intro j
    by_cases hj : set.testBit j = true
    · obtain ⟨s, t, b, a1, a2, a3⟩ := (h3 j).mp hj
      obtain ⟨e, e1, e2, e3, e4, e5, e6⟩ := hP s t b a1
      refine ⟨e, e1, e2, e3, ?_, fun g hg => (h3 g).mpr ⟨s, t, b, a1, a2, (e6 g).mpr hg⟩, fun _ => (e6 j).mp a3⟩
      rw [ms_cg (g := fun g => top * e g + (-bot) * (e g * (be * v g - st_sh n g A))) (fun g _ => by grind), ms_add, ms_mul, ms_mul, ← e4, ← e5]
      grind
    · refine ⟨fun _ => 0, fun _ => Int.le_refl 0, fun _ _ => rfl, fun i _ => ?_, ?_, fun g hg => absurd (show (0 : Int) < 0 from hg) (by decide), fun q => absurd q hj⟩
      · rw [ms_cg (g := fun _ => 0) (fun g _ => Int.zero_mul _), ms_zero]
      · rw [ms_cg (g := fun _ => 0) (fun g _ => Int.zero_mul _), ms_zero]
  have hE : ∃ E : Nat → Nat → Int, ∀ j, (∀ g, 0 ≤ E j g) ∧ (∀ g, ¬ st_op n fx g → E j g = 0) ∧ (∀ i, i < d → ms_sm (2 ^ n - 1) (fun g => E j g * st_sh n g (W i)) = 0) ∧ ms_sm (2 ^ n - 1) (fun g => E j g * (top - bot * (be * v g - st_sh n g A))) = 0 ∧ (∀ g, 0 < E j g → set.testBit g = true) ∧ (set.testBit j = true → 0 < E j j) := ⟨fun j => Classical.choose (hch j), fun j => Classical.choose_spec (hch j)⟩
  obtain ⟨E, hE⟩ := hE
  let ls : Nat → Int := fun g => ms_sm (2 ^ n - 1) (fun j => E j g)
  have ls0 : ∀ g, 0 ≤ ls g := fun g => ms_nonneg (fun j _ => (hE j).1 g)
  have lsz : ∀ g, ¬ st_op n fx g → ls g = 0 := fun g ho => by
    show ms_sm (2 ^ n - 1) (fun j => E j g) = 0
    rw [ms_cg (g := fun _ => 0) (fun j _ => (hE j).2.1 g ho), ms_zero]
  have lin : ∀ f : Nat → Int, (∀ j, ms_sm (2 ^ n - 1) (fun g => E j g * f g) = 0) → ms_sm (2 ^ n - 1) (fun g => ls g * f g) = 0 := by
    intro f hf
    rw [ms_cg (g := fun g => ms_sm (2 ^ n - 1) (fun j => E j g * f g)) (fun g _ => (ms_mulr _ _ _).symm), ms_swap, ms_cg (g := fun _ => 0) (fun j _ => hf j), ms_zero]
  have lsb : ∀ i, i < d → ms_sm (2 ^ n - 1) (fun g => ls g * st_sh n g (W i)) = 0 := fun i hi => lin _ (fun j => (hE j).2.2.1 i hi)
  have lsc : ms_sm (2 ^ n - 1) (fun g => ls g * (top - bot * (be * v g - st_sh n g A))) = 0 := lin _ (fun j => (hE j).2.2.2.1)
  have lsT : ∀ g, st_op n fx g → (0 < ls g ↔ set.testBit g = true) := by
    intro g ho
    constructor
    · intro hg
      by_cases ht : set.testBit g = true
      · exact ht
      · exfalso
        have : ls g = 0 := by
          show ms_sm (2 ^ n - 1) (fun j => E j g) = 0
          rw [ms_cg (g := fun _ => 0) (fun j _ => by
            have h1 := (hE j).1 g
            by_cases h2 : 0 < E j g
            · exact absurd ((hE j).2.2.2.2.1 g h2) ht
            · omega), ms_zero]
        omega
    · intro hg
      exact Int.lt_of_lt_of_le ((hE g).2.2.2.2.2 hg) (ms_le_of (f := fun j => E j g) (fun j _ => (hE j).1 g) g ho.2.1)
  refine ⟨?_, ⟨ls, lsz, fun g ho => ⟨ls0 g, lsT g ho⟩, ?_, ?_⟩, hop2⟩
  · have hcc : ∀ l, du_B d (2 ^ n - 1) (fun g => @decide (st_op n fx g) (Classical.propDecidable _)) (fun g i => st_sh n g (W i)) l → (∃ j, j < 2 ^ n - 1 ∧ 0 < l j) → ∃ e, du_B d (2 ^ n - 1) (fun g => @decide (st_op n fx g) (Classical.propDecidable _)) (fun g i => st_sh n g (W i)) e ∧ (∃ j, j < 2 ^ n - 1 ∧ 0 < e j) ∧ (∀ j, j < 2 ^ n - 1 → 0 < e j → 0 < l j) ∧ 0 ≤ ms_sm (2 ^ n - 1) (fun j => e j * (top - bot * (be * v j - st_sh n j A))) ∧ (ms_sm (2 ^ n - 1) (fun j => e j * (top - bot * (be * v j - st_sh n j A))) = 0 → ∀ j, j < 2 ^ n - 1 → 0 < e j → set.testBit j = true) := by
      intro l hl hne
      have lz : ∀ g, ¬ st_op n fx g → l g = 0 := fun g ho => hl.2.1 g (by simpa using ho)
      have l0 : ∀ g, 0 ≤ l g := fun g => by
        by_cases ho : st_op n fx g
        · exact hl.1 g ho.2.1
        · rw [lz g ho]; exact Int.le_refl 0
      obtain ⟨s, t, b, a1, a2⟩ := hC l l0 lz hl.2.2 hne
      obtain ⟨e, e1, e2, e3, e4, e5, e6⟩ := hP s t b a1
      have h2' := h2 s t b a1
      have ec : ms_sm (2 ^ n - 1) (fun g => e g * (top - bot * (be * v g - st_sh n g A))) = top * b - t * bot := by
        rw [ms_cg (g := fun g => top * e g + (-bot) * (e g * (be * v g - st_sh n g A))) (fun g _ => by grind), ms_add, ms_mul, ms_mul, ← e4, ← e5]
        grind
      refine ⟨e, ⟨fun j _ => e1 j, fun j hj => e2 j (by simpa using hj), e3⟩, ?_, fun j _ hj => a2 j ((e6 j).mpr hj), by rw [ec]; omega, fun hz j _ hj => (h3 j).mpr ⟨s, t, b, a1, by rw [ec] at hz; omega, (e6 j).mpr hj⟩⟩
      by_cases hx : ∃ j, j < 2 ^ n - 1 ∧ 0 < e j
      · exact hx
      · exfalso
        have : b = 0 := by
          rw [e5, ms_cg (g := fun _ => 0) (fun j hj => by
            have := e1 j
            by_cases q : 0 < e j
            · exact absurd ⟨j, hj, q⟩ hx
            · omega), ms_zero]
        omega
    obtain ⟨y, u, hu, hy⟩ := du_point hcc (ls := ls) ⟨fun j _ => ls0 j, fun j hj => lsz j (by simpa using hj), lsb⟩ lsc (fun j _ hj => lsT j (by simpa using hj))
    refine ⟨be * bot * u, fun p => bot * u * A p + 1 * ms_sm d (fun i => y i * W i p), ?_, ?_⟩
    · refine ⟨Int.mul_pos (Int.mul_pos hF.1 h0) hu, ?_, ?_⟩
      · rw [co_shlin, sh_lin2, hF.2.1, ms_cg (g := fun _ => 0) (fun i hi => by rw [(hS.1 i hi).1, Int.mul_zero]), ms_zero]
        grind
      · intro g g1 g2 g3
        rw [co_shlin, sh_lin2, ms_cg (g := fun _ => 0) (fun i hi => by rw [(hS.1 i hi).2 g g1 g2 g3, Int.mul_zero]), ms_zero]
        have := hF.2.2 g g1 g2 g3
        grind
    · intro g ho
      have hg := hy g ho.2.1 (by simpa using ho)
      have e1 : be * bot * u * v g - st_sh n g (fun p => bot * u * A p + 1 * ms_sm d (fun i => y i * W i p)) = bot * u * (be * v g - st_sh n g A) - ms_dot d (fun i => st_sh n g (W i)) y := by
        rw [co_shlin, sh_lin2]
        have : ms_sm d (fun i => y i * st_sh n g (W i)) = ms_dot d (fun i => st_sh n g (W i)) y := ms_cg (fun i _ => Int.mul_comm _ _)
        rw [this]
        grind
      have e2 : be * bot * u * p = q * (u * top) := by
        have : be * bot * u * p = u * (p * (bot * be)) := by grind
        rw [this, hpq]; grind
      rw [e1, e2]
      have e3 : ∀ z : Int, bot * u * z - ms_dot d (fun i => st_sh n g (W i)) y ≤ u * top ↔ 0 ≤ ms_dot d (fun i => st_sh n g (W i)) y + (top - bot * z) * u := by
        intro z
        have : (top - bot * z) * u = u * top - bot * u * z := by grind
        omega
      have e4 : ∀ z : Int, bot * u * z - ms_dot d (fun i => st_sh n g (W i)) y = u * top ↔ ms_dot d (fun i => st_sh n g (W i)) y + (top - bot * z) * u = 0 := by
        intro z
        have : (top - bot * z) * u = u * top - bot * u * z := by grind
        omega
      constructor
      · exact Int.mul_le_mul_of_nonneg_left ((e3 _).mpr hg.1) (Int.le_of_lt hq)
      · show _ ↔ set.testBit g = true
        rw [← hg.2, ← e4]
        exact ⟨fun e => Int.eq_of_mul_eq_mul_left (by omega) e, fun e => by rw [e]⟩
  · obtain ⟨e, e1, e2, e3, e4, e5, e6⟩ := hP s1 top bot h1
    have hx : ∃ g, g < 2 ^ n - 1 ∧ 0 < e g := by
      by_cases hx : ∃ j, j < 2 ^ n - 1 ∧ 0 < e j
      · exact hx
      · exfalso
        have : bot = 0 := by
          rw [e5, ms_cg (g := fun _ => 0) (fun j hj => by
            have := e1 j
            by_cases q : 0 < e j
            · exact absurd ⟨j, hj, q⟩ hx
            · omega), ms_zero]
        omega
    obtain ⟨g, g1, g2⟩ := hx
    have hg : set.testBit g = true := (h3 g).mpr ⟨s1, top, bot, h1, rfl, (e6 g).mpr g2⟩
    exact ⟨g, hop2 g hg, hg⟩
  · intro dl hdl
    obtain ⟨k, c, hk, hc⟩ := hS.2 dl hdl
    have e1 : k * ms_sm (2 ^ n - 1) (fun g => ls g * st_sh n g dl) = 0 := by
      rw [← ms_mul, ms_cg (g := fun g => ms_sm d (fun i => c i * (ls g * st_sh n g (W i)))) (fun g _ => by
        have : k * st_sh n g dl = st_sh n g (fun p => ms_sm d (fun i => c i * W i p)) := by
          rw [← sh_k]
          exact ms_cg (fun p hp => by show _ * (k * dl p) = _ * ms_sm d (fun i => c i * W i p); rw [hc p hp])
        have h5 : k * (ls g * st_sh n g dl) = ls g * (k * st_sh n g dl) := by grind
        rw [h5, this, sh_lin2, ← ms_mul]
        exact ms_cg (fun i _ => by grind)), ms_swap, ms_cg (g := fun _ => 0) (fun i hi => by rw [ms_mul, lsb i hi, Int.mul_zero]), ms_zero]
    rcases Int.mul_eq_zero.mp e1 with q | q
    · exact absurd q hk
    · exact q
end CS
