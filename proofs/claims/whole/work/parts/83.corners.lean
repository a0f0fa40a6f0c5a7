/-! Corners: what the model goes through, and what the best of them tell. -/
theorem os_bit {P : Nat → Prop} {g : Nat} : ∀ m, (os P m).testBit g = true ↔ (g < m ∧ P g)
  | 0 => by
    show (0 : Nat).testBit g = true ↔ _
    rw [Nat.zero_testBit]
    exact ⟨fun h => absurd h (by decide), fun h => absurd h.1 (Nat.not_lt_zero g)⟩
  | m + 1 => by
    have ih := os_bit (P := P) (g := g) m
    by_cases h : P m
    · rw [os_y h, Nat.testBit_or, Nat.testBit_two_pow]
      by_cases e : m = g
      · subst e; simp [h]
      · simp only [e, decide_false, Bool.or_false]
        rw [ih]
        constructor
        · exact fun q => ⟨by omega, q.2⟩
        · exact fun q => ⟨by omega, q.2⟩
    · rw [os_n h, ih]
      constructor
      · exact fun q => ⟨by omega, q.2⟩
      · intro q
        refine ⟨?_, q.2⟩
        apply Classical.byContradiction
        intro e
        obtain rfl : g = m := by omega
        exact h q.2
def cND (D : Nat) (A : Nat → Nat → Int) : Prop := ∀ z : Nat → Int, (∀ q, q < D → ms_sm D (fun c => A q c * z c) = 0) → ∀ j, j < D → z j = 0
def ovr (n : Nat) (v : Nat → Int) (sc b : Int) (z : Nat → Int) (g : Nat) : Int := b * sc * v g - st_sh n g z - z n
def cor (n ce : Nat) (v : Nat → Int) (sc : Int) (le : Nat) (Rw : Nat → Nat) (rs : Nat → Int) (a b : Int) (s : Nat) : Prop := cND (n + 1) (gm n (n + 1) ce Rw rs) ∧ ∃ z : Nat → Int, 0 < b ∧ gj_sol (n + 1) (gm n (n + 1) ce Rw rs) z b ∧ a = z n ∧ (∀ g, 1 ≤ g → g < al n → le.testBit g = true → ovr n v sc b z g ≤ 0) ∧ ∀ g, s.testBit g = true ↔ (1 ≤ g ∧ g < al n ∧ le.testBit g = true ∧ ovr n v sc b z g = 0)
/-- the best of the corners seen -/
def BC (P : Int → Int → Nat → Prop) (ba bb : Int) (ti : Nat) : Prop := (bb = 0 ∧ ∀ a b s, ¬ P a b s) ∨ (0 < bb ∧ (∃ s, P ba bb s) ∧ (∀ a b s, P a b s → ba * b ≤ a * bb) ∧ ∀ g, ti.testBit g = true ↔ ∀ a b s, P a b s → a * bb = ba * b → s.testBit g = true)
theorem BC_0 {ba : Int} {ti : Nat} : BC (fun _ _ _ => False) ba 0 ti := Or.inl ⟨rfl, fun _ _ _ h => h⟩
theorem BC_cg {P Q : Int → Int → Nat → Prop} {ba bb : Int} {ti : Nat} (h : BC P ba bb ti) (e : ∀ a b s, Q a b s ↔ P a b s) : BC Q ba bb ti := by
  have : Q = P := funext (fun a => funext (fun b => funext (fun s => propext (e a b s))))
  rw [this]; exact h
theorem BC_add {P Q : Int → Int → Nat → Prop} {ba bb ba' bb' : Int} {ti ti' : Nat} (hP : ∀ a b s, P a b s → 0 < b) (h : BC P ba bb ti) {a0 b0 : Int} {s0 : Nat} (hb0 : 0 < b0) (hQ0 : Q a0 b0 s0) (hQ : ∀ a b s, Q a b s → 0 < b ∧ a * b0 = a0 * b ∧ ∀ g, s.testBit g = true ↔ s0.testBit g = true)
    (t1 : bb = 0 ∨ a0 * bb < ba * b0 → ba' = a0 ∧ bb' = b0 ∧ ti' = s0) (t2 : bb ≠ 0 → a0 * bb = ba * b0 → ba' = ba ∧ bb' = bb ∧ ti' = ti &&& s0) (t3 : bb ≠ 0 → ba * b0 < a0 * bb → ba' = ba ∧ bb' = bb ∧ ti' = ti) : BC (fun a b s => P a b s ∨ Q a b s) ba' bb' ti' := by
  rcases h with ⟨h1, h2⟩ | ⟨h1, ⟨s1, h2⟩, h3, h4⟩
  · obtain ⟨rfl, rfl, rfl⟩ := t1 (Or.inl h1)
    refine Or.inr ⟨hb0, ⟨_, Or.inr hQ0⟩, fun a b s q => ?_, fun g => ⟨fun q a b s w _ => ?_, fun q => q _ _ _ (Or.inr hQ0) rfl⟩⟩
    · rcases q with q | q
      · exact absurd q (h2 a b s)
      · have := (hQ a b s q).2.1; omega
    · rcases w with w | w
      · exact absurd w (h2 a b s)
      · exact ((hQ a b s w).2.2 g).mpr q
  · have hne : bb ≠ 0 := by omega
    rcases Int.lt_trichotomy (a0 * bb) (ba * b0) with c | c | c
    · obtain ⟨rfl, rfl, rfl⟩ := t1 (Or.inr c)
      have key : ∀ a b s, P a b s → ba' * b < a * bb' := fun a b s q => by
        have e1 := h3 a b s q
        have hb := hP a b s q
        have e2 := Int.mul_lt_mul_of_pos_right c hb
        have e3 := Int.mul_le_mul_of_nonneg_right e1 (Int.le_of_lt hb0)
        have e4 : ba' * b * bb < a * bb' * bb := by
          have i1 : ba' * b * bb = ba' * bb * b := by grind
          have i2 : ba * bb' * b = ba * b * bb' := by grind
          have i3 : a * bb' * bb = a * bb * bb' := by grind
          omega
        exact Int.lt_of_mul_lt_mul_right e4 (by omega)
      refine Or.inr ⟨hb0, ⟨_, Or.inr hQ0⟩, fun a b s q => ?_, fun g => ⟨fun q a b s w e => ?_, fun q => q _ _ _ (Or.inr hQ0) rfl⟩⟩
      · rcases q with q | q
        · have := key a b s q; omega
        · have := (hQ a b s q).2.1; omega
      · rcases w with w | w
        · have := key a b s w; omega
        · exact ((hQ a b s w).2.2 g).mpr q
    · obtain ⟨rfl, rfl, rfl⟩ := t2 hne c
      have key : ∀ a b s, Q a b s → ba' * b = a * bb' := fun a b s q => by
        have e1 := (hQ a b s q).2.1
        have e2 : (ba' * b) * b0 = (a * bb') * b0 := by
          have i1 : ba' * b * b0 = ba' * b0 * b := by grind
          have i2 : a * bb' * b0 = a * b0 * bb' := by grind
          rw [i1, i2, e1, ← c]; grind
        exact Int.eq_of_mul_eq_mul_right (by omega) e2
      refine Or.inr ⟨h1, ⟨s1, Or.inl h2⟩, fun a b s q => ?_, fun g => ?_⟩
      · rcases q with q | q
        · exact h3 a b s q
        · have := key a b s q; omega
      · rw [Nat.testBit_and, Bool.and_eq_true, h4 g]
        constructor
        · rintro ⟨q1, q2⟩ a b s w e
          rcases w with w | w
          · exact q1 a b s w e
          · exact ((hQ a b s w).2.2 g).mpr q2
        · exact fun q => ⟨fun a b s w e => q a b s (Or.inl w) e, q a0 b0 s0 (Or.inr hQ0) c⟩
    · obtain ⟨rfl, rfl, rfl⟩ := t3 hne c
      have key : ∀ a b s, Q a b s → ba' * b < a * bb' := fun a b s q => by
        have e1 := hQ a b s q
        have e2 := Int.mul_lt_mul_of_pos_right c e1.1
        have e4 : ba' * b * b0 < a * bb' * b0 := by
          have i1 : ba' * b * b0 = ba' * b0 * b := by grind
          have i2 : a * bb' * b0 = a * b0 * bb' := by grind
          have i3 : a0 * bb' * b = a0 * b * bb' := by grind
          rw [i1, i2, e1.2.1, ← i3]; exact e2
        exact Int.lt_of_mul_lt_mul_right e4 (by omega)
      refine Or.inr ⟨h1, ⟨s1, Or.inl h2⟩, fun a b s q => ?_, fun g => (h4 g).trans ⟨fun q a b s w e => ?_, fun q a b s w e => q a b s (Or.inl w) e⟩⟩
      · rcases q with q | q
        · exact h3 a b s q
        · have := key a b s q; omega
      · rcases w with w | w
        · exact q a b s w e
        · have := key a b s w; omega
/-! Selections. -/
def apR (Rw : Nat → Nat) (m : Nat) (L : List Nat) : Nat → Nat := fun k => if k < m then Rw k else L.getD (k - m) 0
def apS (v : Nat → Int) (sc : Int) (rs : Nat → Int) (m : Nat) (L : List Nat) : Nat → Int := fun k => if k < m then rs k else sc * v (L.getD (k - m) 0)
def sel (n m f le : Nat) (L : List Nat) : Prop := L.length + m = n + 1 ∧ L.Pairwise (fun a b => a < b) ∧ ∀ g, g ∈ L → f ≤ g ∧ g < al n ∧ le.testBit g = true
def Pm (n ce : Nat) (v : Nat → Int) (sc : Int) (le m f : Nat) (Rw : Nat → Nat) (rs : Nat → Int) (a b : Int) (s : Nat) : Prop := ∃ L, sel n m f le L ∧ cor n ce v sc le (apR Rw m L) (apS v sc rs m L) a b s
theorem apR_cg {Rw Rw' : Nat → Nat} {m : Nat} {L : List Nat} (h : ∀ k, k < m → Rw k = Rw' k) : apR Rw m L = apR Rw' m L := by
  funext k
  unfold apR
  by_cases e : k < m
  · rw [if_pos e, if_pos e, h k e]
  · rw [if_neg e, if_neg e]
theorem apS_cg {v : Nat → Int} {sc : Int} {rs rs' : Nat → Int} {m : Nat} {L : List Nat} (h : ∀ k, k < m → rs k = rs' k) : apS v sc rs m L = apS v sc rs' m L := by
  funext k
  unfold apS
  by_cases e : k < m
  · rw [if_pos e, if_pos e, h k e]
  · rw [if_neg e, if_neg e]
theorem Pm_cg {n ce : Nat} {v : Nat → Int} {sc : Int} {le m f : Nat} {Rw Rw' : Nat → Nat} {rs rs' : Nat → Int} (h1 : ∀ k, k < m → Rw k = Rw' k) (h2 : ∀ k, k < m → rs k = rs' k) {a b : Int} {s : Nat} : Pm n ce v sc le m f Rw rs a b s ↔ Pm n ce v sc le m f Rw' rs' a b s := by
  unfold Pm
  constructor
  · rintro ⟨L, q1, q2⟩
    rw [apR_cg h1, apS_cg h2] at q2
    exact ⟨L, q1, q2⟩
  · rintro ⟨L, q1, q2⟩
    rw [← apR_cg h1, ← apS_cg h2] at q2
    exact ⟨L, q1, q2⟩
theorem gm_cg {n D ce : Nat} {Rw Rw' : Nat → Nat} {rs rs' : Nat → Int} {q c : Nat} (h1 : Rw q = Rw' q) (h2 : rs q = rs' q) : gm n D ce Rw rs q c = gm n D ce Rw' rs' q c := by
  unfold gm
  rw [h1, h2]
theorem sol_cg {D : Nat} {A A' : Nat → Nat → Int} {z : Nat → Int} {b : Int} (h : ∀ q, q < D → ∀ c, A q c = A' q c) (hs : gj_sol D A z b) : gj_sol D A' z b := fun q hq => by
  have := hs q hq
  rw [h q hq D, ms_cg (fun c _ => by rw [h q hq c])] at this
  exact this
theorem cND_cg {D : Nat} {A A' : Nat → Nat → Int} (h : ∀ q, q < D → ∀ c, A q c = A' q c) (hs : cND D A) : cND D A' := fun z hz j hj => hs z (fun q hq => by
  rw [← hz q hq]
  exact ms_cg (fun c _ => by rw [h q hq c])) j hj
theorem cor_cg {n ce : Nat} {v : Nat → Int} {sc : Int} {le : Nat} {Rw Rw' : Nat → Nat} {rs rs' : Nat → Int} (h1 : ∀ k, k < n + 1 → Rw k = Rw' k) (h2 : ∀ k, k < n + 1 → rs k = rs' k) {a b : Int} {s : Nat} (h : cor n ce v sc le Rw rs a b s) : cor n ce v sc le Rw' rs' a b s := by
  have e : ∀ q, q < n + 1 → ∀ c, gm n (n + 1) ce Rw rs q c = gm n (n + 1) ce Rw' rs' q c := fun q hq c => gm_cg (h1 q hq) (h2 q hq)
  obtain ⟨c1, z, c2, c3, c4⟩ := h
  exact ⟨cND_cg e c1, z, c2, sol_cg e c3, c4⟩
theorem Pm_end {n ce : Nat} {v : Nat → Int} {sc : Int} {le f : Nat} {Rw : Nat → Nat} {rs : Nat → Int} {a b : Int} {s : Nat} : Pm n ce v sc le (n + 1) f Rw rs a b s ↔ cor n ce v sc le Rw rs a b s := by
  have e1 : ∀ L k, k < n + 1 → apR Rw (n + 1) L k = Rw k := fun L k hk => if_pos hk
  have e2 : ∀ L k, k < n + 1 → apS v sc rs (n + 1) L k = rs k := fun L k hk => if_pos hk
  constructor
  · rintro ⟨L, _, q⟩
    exact cor_cg (e1 L) (e2 L) q
  · intro q
    exact ⟨[], ⟨by simp, List.Pairwise.nil, fun g hg => by cases hg⟩, cor_cg (fun k hk => (e1 [] k hk).symm) (fun k hk => (e2 [] k hk).symm) q⟩
theorem ap_cons {Rw : Nat → Nat} {m g : Nat} {L : List Nat} : apR Rw m (g :: L) = apR (pu Rw m g) (m + 1) L := by
  funext k
  unfold apR
  rcases Nat.lt_trichotomy k m with e | e | e
  · rw [if_pos e, if_pos (by omega), pu_n (by omega)]
  · subst e; rw [if_neg (by omega), if_pos (by omega), pu_s, Nat.sub_self]; rfl
  · rw [if_neg (by omega), if_neg (by omega), show k - m = (k - (m + 1)) + 1 by omega]; rfl
theorem aps_cons {v : Nat → Int} {sc : Int} {rs : Nat → Int} {m g : Nat} {L : List Nat} : apS v sc rs m (g :: L) = apS v sc (fu rs m (sc * v g)) (m + 1) L := by
  funext k
  unfold apS
  rcases Nat.lt_trichotomy k m with e | e | e
  · rw [if_pos e, if_pos (by omega), fu_n (by omega)]
  · subst e; rw [if_neg (by omega), if_pos (by omega), fu_s, Nat.sub_self]; rfl
  · rw [if_neg (by omega), if_neg (by omega), show k - m = (k - (m + 1)) + 1 by omega]; rfl
/-- those whose first part is below g0 -/
def Pk (n ce : Nat) (v : Nat → Int) (sc : Int) (le m f g0 : Nat) (Rw : Nat → Nat) (rs : Nat → Int) (a b : Int) (s : Nat) : Prop := ∃ g, f ≤ g ∧ g < g0 ∧ le.testBit g = true ∧ Pm n ce v sc le (m + 1) (g + 1) (pu Rw m g) (fu rs m (sc * v g)) a b s
theorem Pm_step {n ce : Nat} {v : Nat → Int} {sc : Int} {le m f : Nat} {Rw : Nat → Nat} {rs : Nat → Int} (hm : m ≤ n) {a b : Int} {s : Nat} : Pm n ce v sc le m f Rw rs a b s ↔ Pk n ce v sc le m f (al n) Rw rs a b s := by
  constructor
  · rintro ⟨L, ⟨l1, l2, l3⟩, q⟩
    cases L with
    | nil => simp at l1; omega
    | cons g L =>
      rw [ap_cons, aps_cons] at q
      obtain ⟨g1, g2, g3⟩ := l3 g (List.mem_cons_self)
      rw [List.pairwise_cons] at l2
      refine ⟨g, g1, g2, g3, L, ⟨by rw [List.length_cons] at l1; omega, l2.2, fun g' hg' => ?_⟩, q⟩
      have := l2.1 g' hg'
      have := l3 g' (List.mem_cons_of_mem g hg')
      exact ⟨by omega, this.2⟩
  · rintro ⟨g, g1, g2, g3, L, ⟨l1, l2, l3⟩, q⟩
    refine ⟨g :: L, ⟨by rw [List.length_cons]; omega, List.pairwise_cons.mpr ⟨fun g' hg' => by have := (l3 g' hg').1; omega, l2⟩, fun g' hg' => ?_⟩, ?_⟩
    · rcases List.mem_cons.mp hg' with e | e
      · rw [e]; exact ⟨g1, g2, g3⟩
      · have := l3 g' e
        exact ⟨by omega, this.2⟩
    · rw [ap_cons, aps_cons]; exact q
theorem Pk_0 {n ce : Nat} {v : Nat → Int} {sc : Int} {le m f : Nat} {Rw : Nat → Nat} {rs : Nat → Int} {a b : Int} {s : Nat} : ¬ Pk n ce v sc le m f f Rw rs a b s := fun ⟨g, g1, g2, _⟩ => by omega
theorem Pk_n {n ce : Nat} {v : Nat → Int} {sc : Int} {le m f g0 : Nat} {Rw : Nat → Nat} {rs : Nat → Int} (hb : ¬ le.testBit g0 = true) {a b : Int} {s : Nat} : Pk n ce v sc le m f (g0 + 1) Rw rs a b s ↔ Pk n ce v sc le m f g0 Rw rs a b s := by
  constructor
  · rintro ⟨g, g1, g2, g3, q⟩
    refine ⟨g, g1, ?_, g3, q⟩
    apply Classical.byContradiction
    intro e
    obtain rfl : g = g0 := by omega
    exact hb g3
  · rintro ⟨g, g1, g2, q⟩
    exact ⟨g, g1, by omega, q⟩
theorem Pk_y {n ce : Nat} {v : Nat → Int} {sc : Int} {le m f g0 : Nat} {Rw : Nat → Nat} {rs : Nat → Int} (hf : f ≤ g0) (hb : le.testBit g0 = true) {a b : Int} {s : Nat} : Pk n ce v sc le m f (g0 + 1) Rw rs a b s ↔ (Pk n ce v sc le m f g0 Rw rs a b s ∨ Pm n ce v sc le (m + 1) (g0 + 1) (pu Rw m g0) (fu rs m (sc * v g0)) a b s) := by
  constructor
  · rintro ⟨g, g1, g2, g3, q⟩
    by_cases e : g = g0
    · subst e; exact Or.inr q
    · exact Or.inl ⟨g, g1, by omega, g3, q⟩
  · rintro (⟨g, g1, g2, q⟩ | q)
    · exact ⟨g, g1, by omega, q⟩
    · exact ⟨g0, hf, by omega, hb, q⟩
theorem cor_pos {n ce : Nat} {v : Nat → Int} {sc : Int} {le : Nat} {Rw : Nat → Nat} {rs : Nat → Int} {a b : Int} {s : Nat} (h : cor n ce v sc le Rw rs a b s) : 0 < b := by
  obtain ⟨_, z, h1, _⟩ := h
  exact h1
theorem Pm_pos {n ce : Nat} {v : Nat → Int} {sc : Int} {le m f : Nat} {Rw : Nat → Nat} {rs : Nat → Int} {a b : Int} {s : Nat} (h : Pm n ce v sc le m f Rw rs a b s) : 0 < b := by
  obtain ⟨L, _, q⟩ := h
  exact cor_pos q
theorem Pk_pos {n ce : Nat} {v : Nat → Int} {sc : Int} {le m f g0 : Nat} {Rw : Nat → Nat} {rs : Nat → Int} {a b : Int} {s : Nat} (h : Pk n ce v sc le m f g0 Rw rs a b s) : 0 < b := by
  obtain ⟨g, _, _, _, q⟩ := h
  exact Pm_pos q
/-- a corner is what it is, but for a common factor -/
theorem cor_one {n ce : Nat} {v : Nat → Int} {sc : Int} {le : Nat} {Rw : Nat → Nat} {rs : Nat → Int} {z : Nat → Int} {a b b0 : Int} {s s0 : Nat} (hb0 : 0 < b0) (hu : ∀ y w, gj_sol (n + 1) (gm n (n + 1) ce Rw rs) y w → ∀ q, q < n + 1 → b0 * y q = w * z q) (hs0 : ∀ g, s0.testBit g = true ↔ (1 ≤ g ∧ g < al n ∧ le.testBit g = true ∧ ovr n v sc b0 z g = 0)) (h : cor n ce v sc le Rw rs a b s) :
    0 < b ∧ a * b0 = z n * b ∧ (∀ g, s.testBit g = true ↔ s0.testBit g = true) ∧ ∀ g, 1 ≤ g → g < al n → le.testBit g = true → ovr n v sc b0 z g ≤ 0 := by
  obtain ⟨_, y, h1, h2, h3, h4, h5⟩ := h
  have e := hu y b h2
  have e1 := e n (by omega)
  have es : ∀ g, b0 * st_sh n g y = b * st_sh n g z := fun g => by
    unfold st_sh ms_dot
    rw [← ms_mul, ← ms_mul]
    refine ms_cg (fun p hp => ?_)
    have := e p (by omega)
    grind
  have eo : ∀ g, b0 * ovr n v sc b y g = b * ovr n v sc b0 z g := fun g => by
    unfold ovr
    have := es g
    grind
  refine ⟨h1, by rw [h3]; grind, fun g => ?_, fun g g1 g2 g3 => ?_⟩
  · rw [h5 g, hs0 g]
    constructor
    · rintro ⟨q1, q2, q3, q4⟩
      refine ⟨q1, q2, q3, ?_⟩
      have := eo g
      rw [q4, Int.mul_zero] at this
      rcases Int.mul_eq_zero.mp this.symm with q | q
      · omega
      · exact q
    · rintro ⟨q1, q2, q3, q4⟩
      refine ⟨q1, q2, q3, ?_⟩
      have := eo g
      rw [q4, Int.mul_zero] at this
      rcases Int.mul_eq_zero.mp this with q | q
      · omega
      · exact q
  · have e2 := eo g
    have e3 := h4 g g1 g2 g3
    have e4 : b * ovr n v sc b0 z g ≤ 0 := by
      rw [← e2]
      have := Int.mul_nonneg (show 0 ≤ b0 by omega) (show 0 ≤ -ovr n v sc b y g by omega)
      rw [Int.mul_neg] at this
      omega
    apply Int.not_lt.mp
    intro q
    have := Int.mul_pos h1 q
    omega
theorem cND_of {D : Nat} {A : Nat → Nat → Int} {a : Nat → Int} {b : Int} (hb : 0 < b) (hu : ∀ y w, gj_sol D A y w → ∀ q, q < D → b * y q = w * a q) : cND D A := by
  intro z hz j hj
  have h1 := hu z 0 (fun q hq => by rw [hz q hq, Int.mul_zero]) j hj
  rw [Int.zero_mul] at h1
  rcases Int.mul_eq_zero.mp h1 with q | q
  · omega
  · exact q
