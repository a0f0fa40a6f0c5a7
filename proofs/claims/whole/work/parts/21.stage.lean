/-! A stage: a point that all parts left allow (tight just at T), and weights that balance (positive just at T). Both together fix level and T. -/
def st_bt (g p : Nat) : Int := if Nat.testBit g p then 1 else 0
/-- what a group has -/
def st_sh (n g : Nat) (x : Nat → Int) : Int := ms_dot n (st_bt g) x
abbrev st_op (n : Nat) (fx : Nat → Prop) (g : Nat) : Prop := 1 ≤ g ∧ g < 2 ^ n - 1 ∧ ¬ fx g
def st_Fe (n : Nat) (v : Nat → Int) (fx : Nat → Prop) (lp lq : Nat → Int) (u : Int) (x : Nat → Int) : Prop :=
  0 < u ∧ st_sh n (2 ^ n - 1) x = u * v (2 ^ n - 1) ∧ ∀ g, 1 ≤ g → g < 2 ^ n - 1 → fx g → lq g * (u * v g - st_sh n g x) = u * lp g
def st_P (n : Nat) (v : Nat → Int) (fx : Nat → Prop) (lp lq : Nat → Int) (T : Nat → Prop) (p q : Int) : Prop :=
  ∃ u x, st_Fe n v fx lp lq u x ∧ ∀ g, st_op n fx g → q * (u * v g - st_sh n g x) ≤ u * p ∧ (q * (u * v g - st_sh n g x) = u * p ↔ T g)
/-- the directions that are left -/
def st_Dir (n : Nat) (fx : Nat → Prop) (dl : Nat → Int) : Prop := st_sh n (2 ^ n - 1) dl = 0 ∧ ∀ g, 1 ≤ g → g < 2 ^ n - 1 → fx g → st_sh n g dl = 0
def st_D (n : Nat) (fx : Nat → Prop) (T : Nat → Prop) : Prop :=
  ∃ l : Nat → Int, (∀ g, ¬ st_op n fx g → l g = 0) ∧ (∀ g, st_op n fx g → 0 ≤ l g ∧ (0 < l g ↔ T g)) ∧ (∃ g, st_op n fx g ∧ T g) ∧ ∀ dl, st_Dir n fx dl → ms_sm (2 ^ n - 1) (fun g => l g * st_sh n g dl) = 0
theorem st_diff {n : Nat} {v : Nat → Int} {fx : Nat → Prop} {lp lq : Nat → Int} {u u' : Int} {x x' : Nat → Int} (hq : ∀ g, 1 ≤ g → g < 2 ^ n - 1 → fx g → 0 < lq g) (h : st_Fe n v fx lp lq u x) (h' : st_Fe n v fx lp lq u' x') : st_Dir n fx (fun i => u * x' i + (-u') * x i) := by
  obtain ⟨hu, h1, h2⟩ := h
  obtain ⟨hu', h1', h2'⟩ := h'
  have sp : ∀ g, st_sh n g (fun i => u * x' i + (-u') * x i) = u * st_sh n g x' + (-u') * st_sh n g x := by
    intro g
    unfold st_sh
    rw [ms_dot_add, ms_dot_mul, ms_dot_mul]
  refine ⟨?_, fun g hg1 hg2 hf => ?_⟩
  · rw [sp, h1, h1']
    grind
  · rw [sp]
    have a1 := h2 g hg1 hg2 hf
    have a2 := h2' g hg1 hg2 hf
    have a3 := hq g hg1 hg2 hf
    have a4 : lq g * (u * st_sh n g x' + (-u') * st_sh n g x) = 0 := by grind
    rcases Int.mul_eq_zero.mp a4 with h | h
    · omega
    · exact h
theorem st_half {n : Nat} {v : Nat → Int} {fx : Nat → Prop} {lp lq : Nat → Int} {T T' : Nat → Prop} {p q p' q' : Int} (hl : ∀ g, 1 ≤ g → g < 2 ^ n - 1 → fx g → 0 < lq g) (hq : 0 < q) (hq' : 0 < q') (hP : st_P n v fx lp lq T p q) (hD : st_D n fx T) (hP' : st_P n v fx lp lq T' p' q') :
    p * q' ≤ p' * q ∧ (p * q' = p' * q → ∀ g, st_op n fx g → T g → T' g) := by
  obtain ⟨u, x, hF, hT⟩ := hP
  obtain ⟨u', x', hF', hT'⟩ := hP'
  obtain ⟨l, l0, l1, ⟨g0, hg0, hTg0⟩, l2⟩ := hD
  have hu := hF.1
  have hu' := hF'.1
  have h1 := l2 _ (st_diff hl hF hF')
  have sp : ∀ g, st_sh n g (fun i => u * x' i + (-u') * x i) = u * st_sh n g x' + (-u') * st_sh n g x := by
    intro g
    unfold st_sh
    rw [ms_dot_add, ms_dot_mul, ms_dot_mul]
  have lnn : ∀ g, 0 ≤ l g := by
    intro g
    by_cases h : st_op n fx g
    · exact (l1 g h).1
    · rw [l0 g h]; exact Int.le_refl 0
  have hA : 0 < ms_sm (2 ^ n - 1) l := by
    have := ms_le_of (m := 2 ^ n - 1) (f := l) (fun j _ => lnn j) g0 hg0.2.1
    have := (l1 g0 hg0).2.mpr hTg0
    omega
  -- E and E'
  have e1 : u' * ms_sm (2 ^ n - 1) (fun g => l g * (u * v g - st_sh n g x)) = u * ms_sm (2 ^ n - 1) (fun g => l g * (u' * v g - st_sh n g x')) := by
    have hz : ms_sm (2 ^ n - 1) (fun g => u' * (l g * (u * v g - st_sh n g x)) + (-u) * (l g * (u' * v g - st_sh n g x'))) = 0 := by
      rw [← h1]
      exact ms_cg (fun g _ => by rw [sp]; grind)
    rw [ms_add, ms_mul, ms_mul] at hz
    grind
  have e2 : q * ms_sm (2 ^ n - 1) (fun g => l g * (u * v g - st_sh n g x)) = u * p * ms_sm (2 ^ n - 1) l := by
    rw [← ms_mul, ← ms_mul]
    refine ms_cg (fun g hg => ?_)
    by_cases ho : st_op n fx g
    · rcases Int.lt_or_eq_of_le (l1 g ho).1 with hp | hp
      · have := (hT g ho).2.mpr ((l1 g ho).2.mp hp)
        grind
      · rw [← hp]; grind
    · rw [l0 g ho]; grind
  have term : ∀ g, 0 ≤ l g * (u' * p' - q' * (u' * v g - st_sh n g x')) := by
    intro g
    by_cases ho : st_op n fx g
    · have := (hT' g ho).1
      exact Int.mul_nonneg (lnn g) (by omega)
    · rw [l0 g ho, Int.zero_mul]; exact Int.le_refl 0
  have e3 : ms_sm (2 ^ n - 1) (fun g => l g * (u' * p' - q' * (u' * v g - st_sh n g x'))) = u' * p' * ms_sm (2 ^ n - 1) l - q' * ms_sm (2 ^ n - 1) (fun g => l g * (u' * v g - st_sh n g x')) := by
    have hz : ms_sm (2 ^ n - 1) (fun g => u' * p' * l g + (-q') * (l g * (u' * v g - st_sh n g x'))) = u' * p' * ms_sm (2 ^ n - 1) l - q' * ms_sm (2 ^ n - 1) (fun g => l g * (u' * v g - st_sh n g x')) := by
      rw [ms_add, ms_mul, ms_mul]
      grind
    rw [← hz]
    exact ms_cg (fun g _ => by grind)
  have e4 := ms_nonneg (m := 2 ^ n - 1) (fun g _ => term g)
  generalize hE : ms_sm (2 ^ n - 1) (fun g => l g * (u * v g - st_sh n g x)) = E at e1 e2
  generalize hE' : ms_sm (2 ^ n - 1) (fun g => l g * (u' * v g - st_sh n g x')) = E' at e1 e3
  generalize hAA : ms_sm (2 ^ n - 1) l = A at hA e2 e3
  have key : (p' * q - p * q') * (u * u' * A) = q * u * (u' * p' * A - q' * E') := by grind
  have hpos : 0 < u * u' * A := Int.mul_pos (Int.mul_pos hu hu') hA
  rw [e3] at e4
  have hr : 0 ≤ q * u * (u' * p' * A - q' * E') := Int.mul_nonneg (Int.le_of_lt (Int.mul_pos hq hu)) e4
  constructor
  · rcases Int.lt_or_le (p' * q - p * q') 0 with hn | hn
    · exfalso
      have := Int.mul_neg_of_neg_of_pos hn hpos
      omega
    · omega
  · intro heq g ho hg
    have hz : u' * p' * A - q' * E' = 0 := by
      rw [heq, Int.sub_self, Int.zero_mul] at key
      rcases Int.mul_eq_zero.mp key.symm with h | h
      · have := Int.mul_pos hq hu
        omega
      · exact h
    have h6 := ms_le_of (m := 2 ^ n - 1) (fun g _ => term g) g ho.2.1
    rw [e3, hz] at h6
    have h7 := term g
    have h8 : l g * (u' * p' - q' * (u' * v g - st_sh n g x')) = 0 := by omega
    rcases Int.mul_eq_zero.mp h8 with h | h
    · have := (l1 g ho).2.mpr hg
      omega
    · exact (hT' g ho).2.mp (by omega)
/-- level and tight parts of a stage are what they are -/
theorem st_unique {n : Nat} {v : Nat → Int} {fx : Nat → Prop} {lp lq : Nat → Int} {T T' : Nat → Prop} {p q p' q' : Int} (hl : ∀ g, 1 ≤ g → g < 2 ^ n - 1 → fx g → 0 < lq g) (hq : 0 < q) (hq' : 0 < q') (hP : st_P n v fx lp lq T p q) (hD : st_D n fx T) (hP' : st_P n v fx lp lq T' p' q') (hD' : st_D n fx T') :
    p * q' = p' * q ∧ ∀ g, st_op n fx g → (T g ↔ T' g) := by
  have a := st_half hl hq hq' hP hD hP'
  have b := st_half hl hq' hq hP' hD' hP
  have he : p * q' = p' * q := by omega
  exact ⟨he, fun g ho => ⟨a.2 he g ho, b.2 he.symm g ho⟩⟩
