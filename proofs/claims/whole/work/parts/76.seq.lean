/-! The stages in a row. -/
theorem lw_spec {a b : Int} (hb : 0 < b) : 0 < lw a b 1 ∧ lw a b 0 * b = lw a b 1 * a ∧ Int.gcd (lw a b 0) (lw a b 1) = 1 ∧ (∀ c : Int, -c ≤ a ∧ a ≤ c → -c ≤ lw a b 0 ∧ lw a b 0 ≤ c) ∧ lw a b 1 ≤ b := by
  have hg : 0 < Int.gcd a b := Int.gcd_pos_of_ne_zero_right a (by omega)
  have ea : (Int.gcd a b : Int) * lw a b 0 = a := dvd_t (Int.gcd_dvd_left a b)
  have eb : (Int.gcd a b : Int) * lw a b 1 = b := dvd_t (Int.gcd_dvd_right a b)
  have hpos : 0 < lw a b 1 := by
    rcases Int.lt_trichotomy (lw a b 1) 0 with z | z | z
    · have := Int.mul_neg_of_pos_of_neg (show (0 : Int) < (Int.gcd a b : Int) by omega) z; omega
    · rw [z] at eb; omega
    · exact z
  refine ⟨hpos, ?_, ?_, fun c hc => ?_, ?_⟩
  · have e1 : lw a b 0 * ((Int.gcd a b : Int) * lw a b 1) = lw a b 1 * ((Int.gcd a b : Int) * lw a b 0) := by grind
    rw [eb, ea] at e1
    exact e1
  · have h1 : Int.gcd a b = Int.gcd a b * Int.gcd (lw a b 0) (lw a b 1) := by
      have := Int.gcd_mul_left (Int.gcd a b : Int) (lw a b 0) (lw a b 1)
      rw [ea, eb, Int.natAbs_natCast] at this
      exact this
    have h2 : Int.gcd a b * 1 = Int.gcd a b * Int.gcd (lw a b 0) (lw a b 1) := by omega
    exact (Nat.eq_of_mul_eq_mul_left hg h2).symm
  · exact dv_b (show (0 : Int) < (Int.gcd a b : Int) by omega) ea hc
  · exact (dv_b (show (0 : Int) < (Int.gcd a b : Int) by omega) eb (show -b ≤ b ∧ b ≤ b by omega)).2
def fxs (F : Nat → Nat) (j : Nat) : Nat → Prop := fun g => ∃ i, 1 ≤ i ∧ i < j ∧ (F i).testBit g = true
/-- stages 1 .. m: levels p / q, the parts that are fixed F -/
def stg (n : Nat) (v : Nat → Int) (m : Nat) (F : Nat → Nat) (p q lp lq : Nat → Int) : Prop := ∀ j, 1 ≤ j → j ≤ m → 0 < q j ∧ Int.gcd (p j) (q j) = 1 ∧ st_P n v (fxs F j) lp lq (fun g => (F j).testBit g = true) (p j) (q j) ∧ st_D n (fxs F j) (fun g => (F j).testBit g = true) ∧ ∀ g, (F j).testBit g = true → st_op n (fxs F j) g ∧ lp g = p j ∧ lq g = q j
theorem Fe_cg {n : Nat} {v : Nat → Int} {fx : Nat → Prop} {lp lq lp' lq' : Nat → Int} {u : Int} {x : Nat → Int} (h : ∀ g, fx g → lp g = lp' g ∧ lq g = lq' g) (hF : st_Fe n v fx lp lq u x) : st_Fe n v fx lp' lq' u x := ⟨hF.1, hF.2.1, fun g g1 g2 g3 => by rw [← (h g g3).1, ← (h g g3).2]; exact hF.2.2 g g1 g2 g3⟩
theorem stP_cg {n : Nat} {v : Nat → Int} {fx T : Nat → Prop} {lp lq lp' lq' : Nat → Int} {p q : Int} (h : ∀ g, fx g → lp g = lp' g ∧ lq g = lq' g) (hP : st_P n v fx lp lq T p q) : st_P n v fx lp' lq' T p q := by
  obtain ⟨u, x, h1, h2⟩ := hP
  exact ⟨u, x, Fe_cg h h1, h2⟩
def lpu (lp : Nat → Int) (s : Nat) (p : Int) : Nat → Int := fun g => if s.testBit g = true then p else lp g
theorem lpu_y {lp : Nat → Int} {s g : Nat} {p : Int} (h : s.testBit g = true) : lpu lp s p g = p := if_pos h
theorem lpu_n {lp : Nat → Int} {s g : Nat} {p : Int} (h : ¬ s.testBit g = true) : lpu lp s p g = lp g := if_neg h
theorem fxs_pu {F : Nat → Nat} {m s j : Nat} (hj : j ≤ m + 1) : fxs (pu F (m + 1) s) j = fxs F j := by
  funext g
  apply propext
  constructor
  · rintro ⟨i, i1, i2, i3⟩
    rw [pu_n (by omega)] at i3
    exact ⟨i, i1, i2, i3⟩
  · rintro ⟨i, i1, i2, i3⟩
    exact ⟨i, i1, i2, by rw [pu_n (by omega)]; exact i3⟩
theorem fxs_s {F : Nat → Nat} {m s g : Nat} : fxs (pu F (m + 1) s) (m + 2) g ↔ (fxs F (m + 1) g ∨ s.testBit g = true) := by
  constructor
  · rintro ⟨i, i1, i2, i3⟩
    by_cases e : i = m + 1
    · subst e; rw [pu_s] at i3; exact Or.inr i3
    · rw [pu_n e] at i3; exact Or.inl ⟨i, i1, by omega, i3⟩
  · rintro (⟨i, i1, i2, i3⟩ | h)
    · exact ⟨i, i1, by omega, by rw [pu_n (by omega)]; exact i3⟩
    · exact ⟨m + 1, by omega, by omega, by rw [pu_s]; exact h⟩
/-- one more stage -/
theorem stg_s {n : Nat} {v : Nat → Int} {m : Nat} {F : Nat → Nat} {p q lp lq : Nat → Int} (h : stg n v m F p q lp lq) {s : Nat} {P Q : Int} (hQ : 0 < Q) (hg : Int.gcd P Q = 1) (hP : st_P n v (fxs F (m + 1)) lp lq (fun g => s.testBit g = true) P Q) (hD : st_D n (fxs F (m + 1)) (fun g => s.testBit g = true)) (ho : ∀ g, s.testBit g = true → st_op n (fxs F (m + 1)) g) :
    stg n v (m + 1) (pu F (m + 1) s) (fu p (m + 1) P) (fu q (m + 1) Q) (lpu lp s P) (lpu lq s Q) := by
  have agr : ∀ g, fxs F (m + 1) g → lp g = lpu lp s P g ∧ lq g = lpu lq s Q g := fun g hf => by
    have : ¬ s.testBit g = true := fun hb => (ho g hb).2.2 hf
    rw [lpu_n this, lpu_n this]; exact ⟨rfl, rfl⟩
  intro j j1 j2
  by_cases e : j = m + 1
  · subst e
    rw [pu_s, fu_s, fu_s, fxs_pu (Nat.le_refl _)]
    exact ⟨hQ, hg, stP_cg agr hP, hD, fun g hb => ⟨ho g hb, lpu_y hb, lpu_y hb⟩⟩
  · rw [pu_n e, fu_n e, fu_n e, fxs_pu (by omega)]
    obtain ⟨a1, a2, a3, a4, a5⟩ := h j j1 (by omega)
    refine ⟨a1, a2, stP_cg (fun g hf => agr g ?_) a3, a4, fun g hb => ⟨(a5 g hb).1, ?_, ?_⟩⟩
    · obtain ⟨i, i1, i2, i3⟩ := hf
      exact ⟨i, i1, by omega, i3⟩
    · rw [← (agr g ⟨j, j1, by omega, hb⟩).1]; exact (a5 g hb).2.1
    · rw [← (agr g ⟨j, j1, by omega, hb⟩).2]; exact (a5 g hb).2.2
/-- how many parts are open -/
def cno (op : Nat) : Int := ms_sm 15 (fun g => if op.testBit g = true then 1 else 0)
theorem cno_nn (op : Nat) : 0 ≤ cno op := ms_nonneg (fun g _ => by split <;> omega)
theorem cno_pos {op g : Nat} (hg : g < 15) (h : op.testBit g = true) : 1 ≤ cno op := by
  have := ms_le_of (f := fun g => if op.testBit g = true then (1 : Int) else 0) (m := 15) (fun j _ => by split <;> omega) g hg
  rw [if_pos h] at this
  exact this
theorem cno_dif {op s : Nat} (hs : ∀ g, s.testBit g = true → op.testBit g = true ∧ g < 15) {k : Nat} (hk : s.testBit k = true) : cno (bdif op s) + 1 ≤ cno op := by
  have e : cno op = cno (bdif op s) + cno s := by
    unfold cno
    rw [← ms_add]
    refine ms_cg (fun g _ => ?_)
    rw [bdif_bit]
    have := hs g
    by_cases h1 : s.testBit g = true
    · rw [(this h1).1, h1]; rfl
    · have h2 : s.testBit g = false := by simpa using h1
      rw [h2]
      cases op.testBit g <;> rfl
  have := cno_pos (hs k hk).2 hk
  omega
theorem cno_all : ∀ n, n < 5 → 2 ≤ n → cno (2 ^ al n - 2) ≤ 14 := by decide +kernel
theorem op_all : ∀ n, n < 5 → 2 ≤ n → ∀ g, g < 16 → ((2 ^ al n - 2).testBit g = true ↔ 1 ≤ g ∧ g < al n) := by decide +kernel
theorem op_lt : ∀ n, n < 5 → 2 ^ al n - 2 < 32768 := by decide +kernel
theorem tb_hi {s g : Nat} (hs : s < 65536) (h : s.testBit g = true) : g < 16 := by
  apply Classical.byContradiction
  intro hg
  have h1 : s < 2 ^ g := Nat.lt_of_lt_of_le hs (Nat.pow_le_pow_right (n := 2) (by decide) (show 16 ≤ g by omega))
  rw [Nat.testBit_lt_two_pow h1] at h
  cases h
theorem lt_bits {s : Nat} (h : ∀ g, s.testBit g = true → g < 15) : s < 32768 := by
  apply Nat.lt_pow_two_of_testBit (n := 15)
  intro i hi
  apply Classical.byContradiction
  intro q
  have := h i (by simpa using q)
  omega
/-- the best offer's top, by its weights -/
theorem top_b {n : Nat} {Op : Nat → Prop} {al0 ac0 H : Nat → Int} (hM : ∀ g, Op g → g < 2 ^ n - 1) {hm s : Int} {s' : Nat} {t b : Int} (hb : 0 < b) (hB : BP (PAs Op al0 ac0 H) s' t b) (hH : ∀ g, Op g → -hm ≤ H g ∧ H g ≤ hm) : -(b * hm) ≤ t ∧ t ≤ b * hm := by
  rcases hB with ⟨h0, _⟩ | ⟨_, ⟨s1, h1⟩, _, _⟩
  · omega
  · obtain ⟨e, e1, e2, _, _, e5, e6, _⟩ := PA_e hM h1
    have aux : ∀ m, -(ms_sm m e * hm) ≤ ms_sm m (fun g => e g * H g) ∧ ms_sm m (fun g => e g * H g) ≤ ms_sm m e * hm := by
      intro m
      induction m with
      | zero => show -((0 : Int) * hm) ≤ 0 ∧ 0 ≤ (0 : Int) * hm; omega
      | succ m ih =>
        show -((ms_sm m e + e m) * hm) ≤ ms_sm m _ + e m * H m ∧ ms_sm m _ + e m * H m ≤ (ms_sm m e + e m) * hm
        rw [Int.add_mul]
        by_cases ho : Op m
        · have hh := hH m ho
          have a1 : e m * H m ≤ e m * hm := Int.mul_le_mul_of_nonneg_left hh.2 (e1 m)
          have a2 : e m * (-hm) ≤ e m * H m := Int.mul_le_mul_of_nonneg_left hh.1 (e1 m)
          rw [Int.mul_neg] at a2
          omega
        · rw [e2 m ho, Int.zero_mul, Int.zero_mul]; omega
    have := aux (2 ^ n - 1)
    rw [← e5, ← e6] at this
    exact this
