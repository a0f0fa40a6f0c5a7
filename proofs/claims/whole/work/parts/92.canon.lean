/-! The stages of a game are what they are; one name for each of their numbers. -/
theorem NU_same {n : Nat} {v : Nat → Int} {m m' : Nat} {F F' : Nat → Nat} {p q lp lq p' q' lp' lq' : Nat → Int} {be be' : Int} {A A' : Nat → Int} (hn : 2 ≤ n ∧ n ≤ 4) (h : NU n v m F p q lp lq be A) (h' : NU n v m' F' p' q' lp' lq' be' A') : m = m' ∧ (∀ j, 1 ≤ j → j ≤ m → F j = F' j ∧ p j = p' j ∧ q j = q' j) ∧ be = be' ∧ ∀ i, i < 4 → A i = A' i := by
  have step : ∀ k, k ≤ m → k ≤ m' → ∀ j, 1 ≤ j → j ≤ k → F j = F' j ∧ p j = p' j ∧ q j = q' j := by
    intro k
    induction k with
    | zero => intro _ _ j j1 j2; omega
    | succ k ih =>
      intro k1 k2 j j1 j2
      by_cases e : j = k + 1
      · subst e
        have ih' := ih (by omega) (by omega)
        have efx : fxs F (k + 1) = fxs F' (k + 1) := funext (fun g => propext ⟨fun ⟨i, i1, i2, i3⟩ => ⟨i, i1, i2, by rw [← (ih' i i1 (by omega)).1]; exact i3⟩, fun ⟨i, i1, i2, i3⟩ => ⟨i, i1, i2, by rw [(ih' i i1 (by omega)).1]; exact i3⟩⟩)
        have elp : ∀ g, fxs F (k + 1) g → lp' g = lp g ∧ lq' g = lq g := fun g ⟨i, i1, i2, i3⟩ => by
          have a := (h.2.1 i i1 (by omega)).2.2.2.2 g i3
          have i3' := i3
          rw [(ih' i i1 (by omega)).1] at i3'
          have b := (h'.2.1 i i1 (by omega)).2.2.2.2 g i3'
          have c := ih' i i1 (by omega)
          exact ⟨by rw [b.2.1, a.2.1, c.2.1], by rw [b.2.2, a.2.2, c.2.2]⟩
        obtain ⟨a1, a2, a3, a4, a5⟩ := h.2.1 (k + 1) (by omega) k1
        obtain ⟨b1, b2, b3, b4, b5⟩ := h'.2.1 (k + 1) (by omega) k2
        rw [← efx] at b3 b4 b5
        have u := st_unique (stg_lq h.2.1 (by omega)) a1 b1 a3 a4 (stP_cg elp b3) b4
        have r := red_u a1 b1 u.1 a2 b2
        refine ⟨Nat.eq_of_testBit_eq (fun g => ?_), r.1, r.2⟩
        cases e1 : (F (k + 1)).testBit g
        · cases e2 : (F' (k + 1)).testBit g
          · rfl
          · have := (u.2 g (b5 g e2).1).mpr e2
            rw [e1] at this; cases this
        · exact ((u.2 g (a5 g e1).1).mp e1).symm
      · exact ih (by omega) (by omega) j j1 (by omega)
  have hm : m = m' := by
    rcases Nat.lt_trichotomy m m' with e | e | e
    · exfalso
      have s := step m (Nat.le_refl m) (by omega)
      obtain ⟨g, hg⟩ := NU_ne h' (show 1 ≤ m + 1 by omega) (show m + 1 ≤ m' by omega)
      have o := ((h'.2.1 (m + 1) (by omega) (by omega)).2.2.2.2 g hg).1
      exact h.2.2.1 g ⟨o.1, o.2.1, fun ⟨i, i1, i2, i3⟩ => o.2.2 ⟨i, i1, i2, by rw [← (s i i1 (by omega)).1]; exact i3⟩⟩
    · exact e
    · exfalso
      have s := step m' (by omega) (Nat.le_refl m')
      obtain ⟨g, hg⟩ := NU_ne h (show 1 ≤ m' + 1 by omega) (show m' + 1 ≤ m by omega)
      have o := ((h.2.1 (m' + 1) (by omega) (by omega)).2.2.2.2 g hg).1
      exact h'.2.2.1 g ⟨o.1, o.2.1, fun ⟨i, i1, i2, i3⟩ => o.2.2 ⟨i, i1, i2, by rw [(s i i1 (by omega)).1]; exact i3⟩⟩
  subst hm
  have s := step m (Nat.le_refl m) (Nat.le_refl m)
  have hb := h.2.2.2.1.1
  have hb' := h'.2.2.2.1.1
  have hn3 : n = 2 ∨ n = 3 ∨ n = 4 := by omega
  have cross : ∀ i, i < 4 → be * A' i = be' * A i := fun i hi => by
    by_cases e : i < n
    · have c1 := co_one n hn3 i e
      obtain ⟨j, j1, j2, jb⟩ := NU_fx h c1.1 c1.2.1
      have x1 := (NU_lv h j1 j2 jb).2
      have jb' := jb
      rw [(s j j1 j2).1] at jb'
      have x2 := (NU_lv h' j1 j2 jb').2
      rw [co_single hn3 e] at x1 x2
      rw [← (s j j1 j2).2.1, ← (s j j1 j2).2.2] at x2
      have hq := (h.2.1 j j1 j2).1
      refine Int.eq_of_mul_eq_mul_left (show q j ≠ 0 by omega) ?_
      grind
    · rw [h.2.2.2.2.2.2.2 i (by omega) hi, h'.2.2.2.2.2.2.2 i (by omega) hi, Int.mul_zero, Int.mul_zero]
  have one : ∀ {b b' : Int} {X Y : Nat → Int}, 0 < b → 0 < b' → (∀ z : Int, z ∣ b → (∀ p, p < 4 → z ∣ X p) → z ∣ 1) → (∀ i, i < 4 → b * Y i = b' * X i) → b ∣ b' := fun {b b' X Y} hb hb' hr hc => by
    have e1 : (Int.gcd b b' : Int) * b.tdiv (Int.gcd b b' : Int) = b := dvd_t (Int.gcd_dvd_left b b')
    have e2 : (Int.gcd b b' : Int) * b'.tdiv (Int.gcd b b' : Int) = b' := dvd_t (Int.gcd_dvd_right b b')
    have hg : 0 < Int.gcd b b' := Int.gcd_pos_of_ne_zero_left b' (by omega)
    have hco : Int.gcd (b.tdiv (Int.gcd b b' : Int)) (b'.tdiv (Int.gcd b b' : Int)) = 1 := (lw_spec (a := b) hb').2.2.1
    have h1 : b.tdiv (Int.gcd b b' : Int) ∣ 1 := by
      refine hr _ ⟨(Int.gcd b b' : Int), by rw [Int.mul_comm]; exact e1.symm⟩ (fun i hi => ?_)
      refine cop_dvd (n := b'.tdiv (Int.gcd b b' : Int)) ⟨Y i, ?_⟩ hco
      refine Int.eq_of_mul_eq_mul_left (show (Int.gcd b b' : Int) ≠ 0 by omega) ?_
      rw [← Int.mul_assoc, ← Int.mul_assoc, e1, e2]
      exact (hc i hi).symm
    have h2 : b ∣ (Int.gcd b b' : Int) := by
      obtain ⟨w, hw⟩ := h1
      exact ⟨w, by rw [← e1, Int.mul_assoc, ← hw, Int.mul_one, e1]⟩
    exact Int.dvd_trans h2 (Int.gcd_dvd_right b b')
  have d1 := one hb hb' h.2.2.2.2.2.1 cross
  have d2 := one hb' hb h'.2.2.2.2.2.1 (fun i hi => (cross i hi).symm)
  have ebe : be = be' := Int.dvd_antisymm (by omega) (by omega) d1 d2
  refine ⟨rfl, s, ebe, fun i hi => ?_⟩
  have := cross i hi
  rw [← ebe] at this
  exact (Int.eq_of_mul_eq_mul_left (by omega) this).symm
noncomputable def NUd (n : Nat) (v : Nat → Int) : Nat × (Nat → Nat) × (Nat → Int) × (Nat → Int) × Int × (Nat → Int) := Classical.epsilon (fun t => ∃ lp lq, NU n v t.1 t.2.1 t.2.2.1 t.2.2.2.1 lp lq t.2.2.2.2.1 t.2.2.2.2.2)
noncomputable def nM (n : Nat) (v : Nat → Int) : Nat := (NUd n v).1
noncomputable def nF (n : Nat) (v : Nat → Int) : Nat → Nat := (NUd n v).2.1
noncomputable def nP (n : Nat) (v : Nat → Int) : Nat → Int := (NUd n v).2.2.1
noncomputable def nQ (n : Nat) (v : Nat → Int) : Nat → Int := (NUd n v).2.2.2.1
noncomputable def nB (n : Nat) (v : Nat → Int) : Int := (NUd n v).2.2.2.2.1
noncomputable def nA (n : Nat) (v : Nat → Int) : Nat → Int := (NUd n v).2.2.2.2.2
noncomputable def nE (n : Nat) (v : Nat → Int) (g : Nat) : Int := v g * nB n v - st_sh n g (nA n v)
noncomputable def nS (n : Nat) (v : Nat → Int) (g : Nat) : Nat := Classical.epsilon (fun j => 1 ≤ j ∧ j ≤ nM n v ∧ (nF n v j).testBit g = true)
theorem NU_c {n : Nat} {v : Nat → Int} (hn : 2 ≤ n ∧ n ≤ 4) (hv : ∀ k, -999 ≤ v k ∧ v k ≤ 999) (h0 : v 0 = 0) : ∃ lp lq, NU n v (nM n v) (nF n v) (nP n v) (nQ n v) lp lq (nB n v) (nA n v) := by
  obtain ⟨m, F, p, q, lp, lq, be, A, h⟩ := NU_ex hn hv h0
  exact Classical.epsilon_spec (p := fun t : Nat × (Nat → Nat) × (Nat → Int) × (Nat → Int) × Int × (Nat → Int) => ∃ lp lq, NU n v t.1 t.2.1 t.2.2.1 t.2.2.2.1 lp lq t.2.2.2.2.1 t.2.2.2.2.2) ⟨(m, F, p, q, be, A), lp, lq, h⟩
theorem NU_n {n : Nat} {v : Nat → Int} (hn : 2 ≤ n ∧ n ≤ 4) (hv : ∀ k, -999 ≤ v k ∧ v k ≤ 999) (h0 : v 0 = 0) {m : Nat} {F : Nat → Nat} {p q lp lq : Nat → Int} {be : Int} {A : Nat → Int} (h : NU n v m F p q lp lq be A) : m = nM n v ∧ (∀ j, 1 ≤ j → j ≤ nM n v → F j = nF n v j ∧ p j = nP n v j ∧ q j = nQ n v j) ∧ be = nB n v ∧ ∀ i, i < 4 → A i = nA n v i := by
  obtain ⟨lp', lq', h'⟩ := NU_c hn hv h0
  have s := NU_same hn h h'
  refine ⟨s.1, fun j j1 j2 => s.2.1 j j1 (by rw [s.1]; exact j2), s.2.2⟩
theorem nM_b {n : Nat} {v : Nat → Int} (hn : 2 ≤ n ∧ n ≤ 4) (hv : ∀ k, -999 ≤ v k ∧ v k ≤ 999) (h0 : v 0 = 0) : 1 ≤ nM n v ∧ nM n v ≤ 14 := by
  obtain ⟨lp, lq, h⟩ := NU_c hn hv h0
  exact h.1
theorem nB_b {n : Nat} {v : Nat → Int} (hn : 2 ≤ n ∧ n ≤ 4) (hv : ∀ k, -999 ≤ v k ∧ v k ≤ 999) (h0 : v 0 = 0) : 0 < nB n v ∧ nB n v ≤ 655360000 := by
  obtain ⟨lp, lq, h⟩ := NU_c hn hv h0
  exact ⟨h.2.2.2.1.1, h.2.2.2.2.1⟩
theorem nQ_p {n : Nat} {v : Nat → Int} (hn : 2 ≤ n ∧ n ≤ 4) (hv : ∀ k, -999 ≤ v k ∧ v k ≤ 999) (h0 : v 0 = 0) {j : Nat} (h1 : 1 ≤ j) (h2 : j ≤ nM n v) : 0 < nQ n v j ∧ Int.gcd (nP n v j) (nQ n v j) = 1 ∧ nQ n v j ∣ nB n v ∧ nQ n v j ≤ 655360000 := by
  obtain ⟨lp, lq, h⟩ := NU_c hn hv h0
  have a := h.2.1 j h1 h2
  have b := NU_q h h1 h2
  have c := Int.le_of_dvd h.2.2.2.1.1 b
  have d := h.2.2.2.2.1
  exact ⟨a.1, a.2.1, b, by omega⟩
theorem nF_b {n : Nat} {v : Nat → Int} (hn : 2 ≤ n ∧ n ≤ 4) (hv : ∀ k, -999 ≤ v k ∧ v k ≤ 999) (h0 : v 0 = 0) {j : Nat} (h1 : 1 ≤ j) (h2 : j ≤ nM n v) : nF n v j < 32768 := by
  obtain ⟨lp, lq, h⟩ := NU_c hn hv h0
  exact h.2.2.2.2.2.2.1 j h1 h2
theorem nF_g {n : Nat} {v : Nat → Int} (hn : 2 ≤ n ∧ n ≤ 4) (hv : ∀ k, -999 ≤ v k ∧ v k ≤ 999) (h0 : v 0 = 0) {j g : Nat} (h1 : 1 ≤ j) (h2 : j ≤ nM n v) (hb : (nF n v j).testBit g = true) : 1 ≤ g ∧ g < al n := by
  obtain ⟨lp, lq, h⟩ := NU_c hn hv h0
  have := (h.2.1 j h1 h2).2.2.2.2 g hb
  exact ⟨this.1.1, this.1.2.1⟩
theorem nF_ne {n : Nat} {v : Nat → Int} (hn : 2 ≤ n ∧ n ≤ 4) (hv : ∀ k, -999 ≤ v k ∧ v k ≤ 999) (h0 : v 0 = 0) {j : Nat} (h1 : 1 ≤ j) (h2 : j ≤ nM n v) : ∃ g, (nF n v j).testBit g = true := by
  obtain ⟨lp, lq, h⟩ := NU_c hn hv h0
  exact NU_ne h h1 h2
theorem nS_s {n : Nat} {v : Nat → Int} (hn : 2 ≤ n ∧ n ≤ 4) (hv : ∀ k, -999 ≤ v k ∧ v k ≤ 999) (h0 : v 0 = 0) {g : Nat} (g1 : 1 ≤ g) (g2 : g < al n) : 1 ≤ nS n v g ∧ nS n v g ≤ nM n v ∧ (nF n v (nS n v g)).testBit g = true := by
  obtain ⟨lp, lq, h⟩ := NU_c hn hv h0
  obtain ⟨j, j1, j2, j3⟩ := NU_fx h g1 g2
  exact Classical.epsilon_spec (p := fun j => 1 ≤ j ∧ j ≤ nM n v ∧ (nF n v j).testBit g = true) ⟨j, j1, j2, j3⟩
theorem nS_u {n : Nat} {v : Nat → Int} (hn : 2 ≤ n ∧ n ≤ 4) (hv : ∀ k, -999 ≤ v k ∧ v k ≤ 999) (h0 : v 0 = 0) {j g : Nat} (h1 : 1 ≤ j) (h2 : j ≤ nM n v) (hb : (nF n v j).testBit g = true) : nS n v g = j := by
  obtain ⟨lp, lq, h⟩ := NU_c hn hv h0
  have a := nF_g hn hv h0 h1 h2 hb
  have b := nS_s hn hv h0 a.1 a.2
  exact NU_one h b.1 b.2.1 h1 h2 b.2.2 hb
/-- a part's grudge is its stage's level -/
theorem nE_l {n : Nat} {v : Nat → Int} (hn : 2 ≤ n ∧ n ≤ 4) (hv : ∀ k, -999 ≤ v k ∧ v k ≤ 999) (h0 : v 0 = 0) {g : Nat} (g1 : 1 ≤ g) (g2 : g < al n) : nE n v g * nQ n v (nS n v g) = nP n v (nS n v g) * nB n v := by
  obtain ⟨lp, lq, h⟩ := NU_c hn hv h0
  have s := nS_s hn hv h0 g1 g2
  have e := (NU_lv h s.1 s.2.1 s.2.2).2
  unfold nE
  grind
theorem nP_dec {n : Nat} {v : Nat → Int} (hn : 2 ≤ n ∧ n ≤ 4) (hv : ∀ k, -999 ≤ v k ∧ v k ≤ 999) (h0 : v 0 = 0) {i j : Nat} (i1 : 1 ≤ i) (hij : i < j) (j2 : j ≤ nM n v) : nP n v j * nQ n v i < nP n v i * nQ n v j := by
  obtain ⟨lp, lq, h⟩ := NU_c hn hv h0
  exact NU_dec h i1 hij j2
theorem nA_b {n : Nat} {v : Nat → Int} (hn : 2 ≤ n ∧ n ≤ 4) (hv : ∀ k, -999 ≤ v k ∧ v k ≤ 999) (h0 : v 0 = 0) {g : Nat} (g2 : g ≤ al n) : -(7000 * nB n v) ≤ st_sh n g (nA n v) ∧ st_sh n g (nA n v) ≤ 7000 * nB n v := by
  obtain ⟨lp, lq, h⟩ := NU_c hn hv h0
  exact NU_A hn hv h g2
theorem nE_b {n : Nat} {v : Nat → Int} (hn : 2 ≤ n ∧ n ≤ 4) (hv : ∀ k, -999 ≤ v k ∧ v k ≤ 999) (h0 : v 0 = 0) {g : Nat} (g2 : g ≤ al n) : -5500000000000 ≤ nE n v g ∧ nE n v g ≤ 5500000000000 := by
  have a := nA_b hn hv h0 g2
  have b := nB_b hn hv h0
  have c := ku_mul (x := v g) (y := nB n v) (a := 999) (b := 655360000) (hv g) (by omega)
  unfold nE
  omega
theorem nA_z {n : Nat} {v : Nat → Int} (hn : 2 ≤ n ∧ n ≤ 4) (hv : ∀ k, -999 ≤ v k ∧ v k ≤ 999) (h0 : v 0 = 0) {i : Nat} (h1 : n ≤ i) (h2 : i < 4) : nA n v i = 0 := by
  obtain ⟨lp, lq, h⟩ := NU_c hn hv h0
  exact h.2.2.2.2.2.2.2 i h1 h2
theorem nA_4 {n : Nat} {v : Nat → Int} (hn : 2 ≤ n ∧ n ≤ 4) (hv : ∀ k, -999 ≤ v k ∧ v k ≤ 999) (h0 : v 0 = 0) (g : Nat) : st_sh 4 g (nA n v) = st_sh n g (nA n v) := sh_cut 4 hn.2 (fun _ p1 p2 => nA_z hn hv h0 p1 p2)
theorem nA_1 {n : Nat} {v : Nat → Int} (hn : 2 ≤ n ∧ n ≤ 4) {i : Nat} (hi : i < n) : st_sh n (2 ^ i) (nA n v) = nA n v i := co_single (by omega) hi _
theorem nA_1b {n : Nat} {v : Nat → Int} (hn : 2 ≤ n ∧ n ≤ 4) (hv : ∀ k, -999 ≤ v k ∧ v k ≤ 999) (h0 : v 0 = 0) {i : Nat} (hi : i < n) : -4600000000000 ≤ nA n v i ∧ nA n v i ≤ 4600000000000 := by
  have c := co_one n (by omega) i hi
  have a := nA_b hn hv h0 (g := 2 ^ i) (by show 2 ^ i ≤ 2 ^ n - 1; omega)
  rw [nA_1 hn hi] at a
  have b := nB_b hn hv h0
  omega
/-- levels by the stage: not larger than shares allow -/
theorem nP_b {n : Nat} {v : Nat → Int} (hn : 2 ≤ n ∧ n ≤ 4) (hv : ∀ k, -999 ≤ v k ∧ v k ≤ 999) (h0 : v 0 = 0) {j : Nat} (h1 : 1 ≤ j) (h2 : j ≤ nM n v) : -(8000 * nQ n v j) ≤ nP n v j ∧ nP n v j ≤ 8000 * nQ n v j := by
  obtain ⟨g, hg⟩ := nF_ne hn hv h0 h1 h2
  have a := nF_g hn hv h0 h1 h2 hg
  have e := nE_l hn hv h0 a.1 a.2
  rw [nS_u hn hv h0 h1 h2 hg] at e
  have b := nB_b hn hv h0
  have q := (nQ_p hn hv h0 h1 h2).1
  have f : -(8000 * nB n v) ≤ nE n v g ∧ nE n v g ≤ 8000 * nB n v := by
    have x := nA_b hn hv h0 (g := g) (by omega)
    have y := ku_mul (x := v g) (y := nB n v) (a := 999) (b := nB n v) (hv g) (by omega)
    unfold nE
    omega
  have k := ku_mul (x := nE n v g) (y := nQ n v j) (a := 8000 * nB n v) (b := nQ n v j) f (by omega)
  rw [e] at k
  have i1 : 8000 * nB n v * nQ n v j = 8000 * nQ n v j * nB n v := by grind
  rw [i1] at k
  refine ⟨?_, Int.le_of_mul_le_mul_right k.2 b.1⟩
  refine Int.le_of_mul_le_mul_right (a := nB n v) ?_ b.1
  rw [Int.neg_mul]; exact k.1
/-- equal fractions have the same lowest terms -/
theorem lw_eq {a b c d z : Int} (hb : 0 < b) (hd : 0 < d) (h : a * d = c * b) : lw a b z = lw c d z := by
  have s1 := lw_spec (a := a) hb
  have s2 := lw_spec (a := c) hd
  have r := red_u s1.1 s2.1 (by
    refine Int.eq_of_mul_eq_mul_right (show b ≠ 0 by omega) ?_
    refine Int.eq_of_mul_eq_mul_right (show d ≠ 0 by omega) ?_
    calc lw a b 0 * lw c d 1 * b * d = (lw a b 0 * b) * (lw c d 1 * d) := by grind
      _ = lw a b 1 * lw c d 1 * (a * d) := by rw [s1.2.1]; grind
      _ = (lw a b 1 * b) * (lw c d 1 * c) := by rw [h]; grind
      _ = lw c d 0 * lw a b 1 * b * d := by rw [← s2.2.1]; grind) s1.2.2.1 s2.2.2.1
  by_cases e : z = 0
  · subst e; exact r.1
  · have e1 : lw a b z = lw a b 1 := by unfold lw; rw [if_neg e, if_neg (by decide)]
    have e2 : lw c d z = lw c d 1 := by unfold lw; rw [if_neg e, if_neg (by decide)]
    rw [e1, e2]; exact r.2
theorem lw_r {a b z : Int} (hb : 0 < b) (h : Int.gcd a b = 1) : lw a b z = if z = 0 then a else b := by
  unfold lw
  rw [h]
  exact Int.tdiv_one _
