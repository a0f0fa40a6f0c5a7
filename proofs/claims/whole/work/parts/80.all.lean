/-! All stages of a game, once more without a heap: there are such, levels go down, numbers stay small. -/
def NU (n : Nat) (v : Nat → Int) (m : Nat) (F : Nat → Nat) (p q lp lq : Nat → Int) (be : Int) (A : Nat → Int) : Prop :=
  (1 ≤ m ∧ m ≤ 14) ∧ stg n v m F p q lp lq ∧ (∀ g, ¬ st_op n (fxs F (m + 1)) g) ∧ st_Fe n v (fxs F (m + 1)) lp lq be A ∧ be ≤ 655360000 ∧ (∀ z : Int, z ∣ be → (∀ p, p < 4 → z ∣ A p) → z ∣ 1) ∧ (∀ j, 1 ≤ j → j ≤ m → F j < 32768) ∧ ∀ p, n ≤ p → p < 4 → A p = 0
theorem NU_of {n : Nat} {v : Nat → Int} {ku wc : Nat} {F : Nat → Nat} {tt tb tf lp lq : Nat → Int} {be : Int} {A : Nat → Int} {W : Nat → Nat → Int} (h : SQ n v ku 0 wc F tt tb tf lp lq be A W) (h1 : 1 ≤ ku) : NU n v ku F tt tb lp lq be A := by
  obtain ⟨z1, z2, z3, z4, z5, z6, z7, z8⟩ := h
  have := cno_nn 0
  have hB := kB4 (wc := wc)
  have hb := z5.2.2.2.2.1
  refine ⟨⟨h1, by omega⟩, z1, fun g hg => ?_, z5.1, by omega, z8, fun j j1 j2 => (z2 j j1 j2).2, z5.2.2.1⟩
  have := (z3 g).mpr hg
  rw [Nat.zero_testBit] at this
  cases this
def nuH (n : Nat) (v : Nat → Int) : Nat → Option rr_E := fun k =>
  if k = 1 then some (.inr (0, [.int (ii (n : Int)), .ref 2])) else if k = 2 then some (.inl (0, 16, .inl (fun k => ii (v k))))
  else if k = 1000000 then some (.inl (8, 5, .inl (fun j => rr_two.getD j 0))) else if k = 1000001 then some (.inl (8, 25, .inl (fun j => rr_three.getD j 0))) else if k = 1000002 then some (.inl (8, 205, .inl (fun j => rr_four.getD j 0)))
  else if k = 13 then some (ST13 0 0 0 0 ((0 : Nat) : Int) 0 0) else if k = 14 ∨ k = 15 then some (.inl (1, 15, .inr (.inl (fun _ => jj 0)))) else if k = 16 then some (.inl (0, 15, .inl (fun _ => ii 0)))
  else if k = 17 then some (.inr (3, [.long (jj 1), .ref 18, .ref 19, .int (ii 2), .int (ii 3)])) else if k = 18 ∨ k = 21 ∨ k = 22 ∨ k = 23 then some (.inl (1, 4, .inr (.inl (fun _ => jj 0)))) else if k = 19 then some (.inl (1, 16, .inr (.inl (fun _ => jj 0))))
  else if k = 20 then some WA13 else if k = 24 then some (.inl (0, 14, .inl (fun _ => ii 0))) else some (.inl (1, 14, .inr (.inl (fun _ => jj 0))))
theorem NU_ex {n : Nat} {v : Nat → Int} (hn : 2 ≤ n ∧ n ≤ 4) (hv : ∀ k, -999 ≤ v k ∧ v k ≤ 999) (h0 : v 0 = 0) : ∃ m F p q lp lq be A, NU n v m F p q lp lq be A := by
  have h := v_solve_13 (d := 0) (N := 0) (S := 0) (n := n) (v := v) (h := nuH n v) hn rfl rfl hv h0 rfl rfl rfl (bs := 0) (ku := 0) (wc := 0) (op := 0) (oc := 0) (bt := 0) (bb := 0) rfl (tt := fun _ => 0) (tb := fun _ => 0) (tf := fun _ => 0) (A := fun _ => 0) (E := fun _ => 0) (q0 := fun _ => 0) (a0 := fun _ => 0) (c0 := fun _ => 0) (h9 := fun _ => 0) (W := fun _ _ => 0) (be := 1) (x0 := 2) (y0 := 3) rfl rfl rfl rfl rfl rfl rfl (fun w hw => by
    have : w = 0 ∨ w = 1 ∨ w = 2 := by omega
    rcases this with rfl | rfl | rfl <;> rfl) rfl rfl rfl rfl
  obtain ⟨_, _, _, _, _, h', _, _, ku, wc, F, tt, tb, tf, lp, lq, A, E, q0, a0, c0, h9, be, oc, bs, bt, bb, W, _, _, _, _, _, _, _, _, _, _, _, _, _, hs, h1, _⟩ := h
  exact ⟨ku, F, tt, tb, lp, lq, be, A, NU_of hs h1⟩
theorem stg_lq {n m j : Nat} {v : Nat → Int} {F : Nat → Nat} {p q lp lq : Nat → Int} (h : stg n v m F p q lp lq) (hj : j ≤ m + 1) : ∀ g, 1 ≤ g → g < 2 ^ n - 1 → fxs F j g → 0 < lq g := by
  rintro g _ _ ⟨i, i1, i2, i3⟩
  have := h i i1 (by omega)
  rw [(this.2.2.2.2 g i3).2.2]
  exact this.1
/-- what a stage leaves for the next -/
theorem stg_next {n m j : Nat} {v : Nat → Int} {F : Nat → Nat} {p q lp lq : Nat → Int} (h : stg n v m F p q lp lq) (h1 : 1 ≤ j) (h2 : j ≤ m) : st_P n v (fxs F (j + 1)) lp lq (fun _ => False) (p j) (q j) := by
  obtain ⟨a1, a2, ⟨u, x, a3, a4⟩, a5, a6⟩ := h j h1 h2
  refine ⟨u, x, ⟨a3.1, a3.2.1, fun g g1 g2 g3 => ?_⟩, fun g hg => ?_⟩
  · by_cases hf : fxs F j g
    · exact a3.2.2 g g1 g2 hf
    · obtain ⟨i, i1, i2, i3⟩ := g3
      have e : i = j := by
        apply Classical.byContradiction
        intro e
        exact hf ⟨i, i1, by omega, i3⟩
      subst e
      have := a6 g i3
      rw [this.2.1, this.2.2]
      exact (a4 g ⟨g1, g2, hf⟩).2.mpr i3
  · have ho : st_op n (fxs F j) g := ⟨hg.1, hg.2.1, fun ⟨i, i1, i2, i3⟩ => hg.2.2 ⟨i, i1, by omega, i3⟩⟩
    have := a4 g ho
    exact ⟨this.1, fun e => hg.2.2 ⟨j, h1, by omega, this.2.mp e⟩, False.elim⟩
/-- levels go down -/
theorem stg_dec {n m j : Nat} {v : Nat → Int} {F : Nat → Nat} {p q lp lq : Nat → Int} (h : stg n v m F p q lp lq) (h1 : 1 ≤ j) (h2 : j + 1 ≤ m) : p (j + 1) * q j < p j * q (j + 1) := by
  obtain ⟨b1, b2, b3, b4, b5⟩ := h (j + 1) (by omega) h2
  have a := h j h1 (by omega)
  have k := st_half (stg_lq h (by omega)) b1 a.1 b3 b4 (stg_next h h1 (by omega))
  rcases Int.lt_or_eq_of_le k.1 with e | e
  · exact e
  · exfalso
    obtain ⟨l, _, _, ⟨g, g1, g2⟩, _⟩ := b4
    exact k.2 e g g1 g2
theorem stg_top {n m : Nat} {v : Nat → Int} {F : Nat → Nat} {p q lp lq : Nat → Int} (hn : 2 ≤ n ∧ n ≤ 4) (hv : ∀ k, -999 ≤ v k ∧ v k ≤ 999) (h : stg n v m F p q lp lq) : ∀ j, 1 ≤ j → j ≤ m → p j ≤ 5000 * q j := by
  intro j
  induction j with
  | zero => intro q; omega
  | succ j ih =>
    intro _ h2
    by_cases e : j = 0
    · subst e
      obtain ⟨b1, b2, b3, b4, b5⟩ := h 1 (by omega) h2
      have hfx : ∀ g, ¬ fxs F 1 g := fun g ⟨i, i1, i2, _⟩ => by omega
      have hF := Fe_0 (n := n) (v := v) (lp := lp) (lq := lq) hn
      have hva := hv (2 ^ n - 1)
      have hA : ∀ p, p < n → -999 ≤ A0 (v (2 ^ n - 1)) p ∧ A0 (v (2 ^ n - 1)) p ≤ 999 := fun p _ => by unfold A0; split <;> omega
      have k := st_half (stg_lq h (by omega)) b1 (show (0 : Int) < 1 by decide) b3 b4 (p' := 5000) (q' := 1) (T' := fun g => 1 * (1 * v g - st_sh n g (A0 (v (2 ^ n - 1)))) = 1 * 5000) ⟨1, A0 (v (2 ^ n - 1)), ⟨hF.1, hF.2.1, fun g _ _ q => absurd q (hfx g)⟩, fun g hg => ⟨by
        have s := sh_b (g := g) (c := 999) (by decide) n hA
        have := hv g
        have : (n : Int) * 999 ≤ 4 * 999 := by omega
        omega, Iff.rfl⟩⟩
      have k1 : p 1 * 1 ≤ 5000 * q 1 := k.1
      show p 1 ≤ 5000 * q 1
      omega
    · have h3 := ih (by omega) (by omega)
      have h4 := stg_dec h (show 1 ≤ j by omega) h2
      have q1 := (h j (by omega) (by omega)).1
      have q2 := (h (j + 1) (by omega) h2).1
      have h5 : p j * q (j + 1) ≤ 5000 * q j * q (j + 1) := Int.mul_le_mul_of_nonneg_right h3 (by omega)
      have h6 : p (j + 1) * q j < 5000 * q (j + 1) * q j := by
        have : 5000 * q (j + 1) * q j = 5000 * q j * q (j + 1) := by grind
        omega
      have := Int.lt_of_mul_lt_mul_right h6 (by omega)
      omega
theorem bt_co : ∀ n, n < 5 → ∀ g, g < 16 → g ≤ 2 ^ n - 1 → ∀ p, p < 4 → p < n → st_bt g p + st_bt (2 ^ n - 1 - g) p = st_bt (2 ^ n - 1) p := by decide +kernel
theorem sh_co {n g : Nat} {x : Nat → Int} (hn : 2 ≤ n ∧ n ≤ 4) (hg : g ≤ 2 ^ n - 1) : st_sh n g x + st_sh n (2 ^ n - 1 - g) x = st_sh n (2 ^ n - 1) x := by
  have hA := al_b hn
  rw [al_pow] at hA
  show ms_sm n _ + ms_sm n _ = ms_sm n _
  rw [← ms_add]
  refine ms_cg (fun p hp => ?_)
  have := bt_co n (by omega) g (by omega) hg p (by omega) hp
  rw [← this]
  grind
theorem cop_dvd {k n m : Int} (h : k ∣ n * m) (hc : Int.gcd k n = 1) : k ∣ m := by
  have := Int.dvd_gcd_mul_iff_dvd_mul.mpr h
  rw [hc] at this
  simpa using this
section
variable {n m : Nat} {v : Nat → Int} {F : Nat → Nat} {p q lp lq : Nat → Int} {be : Int} {A : Nat → Int}
theorem NU_fx (h : NU n v m F p q lp lq be A) {g : Nat} (g1 : 1 ≤ g) (g2 : g < 2 ^ n - 1) : ∃ j, 1 ≤ j ∧ j ≤ m ∧ (F j).testBit g = true := by
  apply Classical.byContradiction
  intro hq
  exact h.2.2.1 g ⟨g1, g2, fun ⟨i, i1, i2, i3⟩ => hq ⟨i, i1, by omega, i3⟩⟩
theorem NU_lv (h : NU n v m F p q lp lq be A) {j g : Nat} (j1 : 1 ≤ j) (j2 : j ≤ m) (hb : (F j).testBit g = true) : (1 ≤ g ∧ g < 2 ^ n - 1) ∧ q j * (be * v g - st_sh n g A) = be * p j := by
  have := (h.2.1 j j1 j2).2.2.2.2 g hb
  have e := h.2.2.2.1.2.2 g this.1.1 this.1.2.1 ⟨j, j1, by omega, hb⟩
  rw [this.2.1, this.2.2] at e
  exact ⟨⟨this.1.1, this.1.2.1⟩, e⟩
/-- one stage fixes a part -/
theorem NU_one (h : NU n v m F p q lp lq be A) {i j g : Nat} (i1 : 1 ≤ i) (i2 : i ≤ m) (j1 : 1 ≤ j) (j2 : j ≤ m) (hi : (F i).testBit g = true) (hj : (F j).testBit g = true) : i = j := by
  have a := (h.2.1 i i1 i2).2.2.2.2 g hi
  have b := (h.2.1 j j1 j2).2.2.2.2 g hj
  rcases Nat.lt_trichotomy i j with e | e | e
  · exact absurd ⟨i, i1, e, hi⟩ b.1.2.2
  · exact e
  · exact absurd ⟨j, j1, e, hj⟩ a.1.2.2
theorem NU_ne (h : NU n v m F p q lp lq be A) {j : Nat} (j1 : 1 ≤ j) (j2 : j ≤ m) : ∃ g, (F j).testBit g = true := by
  obtain ⟨l, _, _, ⟨g, _, g2⟩, _⟩ := (h.2.1 j j1 j2).2.2.2.1
  exact ⟨g, g2⟩
theorem NU_q (h : NU n v m F p q lp lq be A) {j : Nat} (j1 : 1 ≤ j) (j2 : j ≤ m) : q j ∣ be := by
  obtain ⟨g, hg⟩ := NU_ne h j1 j2
  have e := (NU_lv h j1 j2 hg).2
  have hc := (h.2.1 j j1 j2).2.1
  have : q j ∣ p j * be := ⟨_, by rw [e]; exact Int.mul_comm _ _⟩
  exact cop_dvd this (by rw [Int.gcd_comm]; exact hc)
theorem NU_dec (h : NU n v m F p q lp lq be A) {i j : Nat} (i1 : 1 ≤ i) (hij : i < j) (j2 : j ≤ m) : p j * q i < p i * q j := by
  induction j with
  | zero => omega
  | succ j ih =>
    by_cases e : i = j
    · subst e; exact stg_dec h.2.1 i1 j2
    · have h1 := ih (by omega) (by omega)
      have h2 := stg_dec h.2.1 (show 1 ≤ j by omega) j2
      have q1 := (h.2.1 i i1 (by omega)).1
      have q2 := (h.2.1 j (by omega) (by omega)).1
      have q3 := (h.2.1 (j + 1) (by omega) j2).1
      have a1 := Int.mul_lt_mul_of_pos_right h1 q3
      have a2 := Int.mul_lt_mul_of_pos_right h2 q1
      have a3 : p (j + 1) * q i * q j < p i * q (j + 1) * q j := by
        have e1 : p (j + 1) * q i * q j = p (j + 1) * q j * q i := by grind
        have e2 : p i * q (j + 1) * q j = p i * q j * q (j + 1) := by grind
        have e3 : p j * q i * q (j + 1) = p j * q (j + 1) * q i := by grind
        omega
      exact Int.lt_of_mul_lt_mul_right a3 (by omega)
theorem NU_A (hn : 2 ≤ n ∧ n ≤ 4) (hv : ∀ k, -999 ≤ v k ∧ v k ≤ 999) (h : NU n v m F p q lp lq be A) {g : Nat} (g2 : g ≤ 2 ^ n - 1) : -(7000 * be) ≤ st_sh n g A ∧ st_sh n g A ≤ 7000 * be := by
  have hbe := h.2.2.2.1.1
  have hN := h.2.2.2.1.2.1
  have hA := al_b hn
  rw [al_pow] at hA
  have vb : ∀ g, -(999 * be) ≤ be * v g ∧ be * v g ≤ 999 * be := fun g => by
    have := ku_mul (x := be) (y := v g) (a := be) (b := 999) (by omega) (hv g)
    omega
  have lo : ∀ g, 1 ≤ g → g < 2 ^ n - 1 → -(5999 * be) ≤ st_sh n g A := fun g g1 g2 => by
    obtain ⟨j, j1, j2, hb⟩ := NU_fx h g1 g2
    have e := (NU_lv h j1 j2 hb).2
    have hq := (h.2.1 j j1 j2).1
    have hp := stg_top hn hv h.2.1 j j1 j2
    have h1 : be * p j ≤ be * (5000 * q j) := Int.mul_le_mul_of_nonneg_left hp (by omega)
    have h2 : (be * v g - st_sh n g A) * q j ≤ (5000 * be) * q j := by
      have : (be * v g - st_sh n g A) * q j = q j * (be * v g - st_sh n g A) := Int.mul_comm _ _
      have : be * (5000 * q j) = 5000 * be * q j := by grind
      omega
    have h3 := Int.le_of_mul_le_mul_right h2 hq
    have := vb g
    omega
  have vN := vb (2 ^ n - 1)
  by_cases e0 : g = 0
  · subst e0; rw [co_sh0]; omega
  · by_cases e1 : g = 2 ^ n - 1
    · subst e1; omega
    · have l1 := lo g (by omega) (by omega)
      have l2 := lo (2 ^ n - 1 - g) (by omega) (by omega)
      have := sh_co (n := n) (g := g) (x := A) hn g2
      omega
end
