/-! The least corner. -/
def ccor (n : Nat) (v : Nat → Int) (Rw : Nat → Nat) (rs : Nat → Int) (a b : Int) : Prop := cND n (gm n n 0 Rw rs) ∧ ∃ z : Nat → Int, 0 < b ∧ gj_sol n (gm n n 0 Rw rs) z b ∧ (∀ g, 1 ≤ g → g < al n → b * v g ≤ st_sh n g z) ∧ a = st_sh n (al n) z
def BD (P : Int → Int → Prop) (ba bb : Int) : Prop := (bb = 0 ∧ ∀ a b, ¬ P a b) ∨ (0 < bb ∧ P ba bb ∧ ∀ a b, P a b → ba * b ≤ a * bb)
theorem BD_cg {P Q : Int → Int → Prop} {ba bb : Int} (h : BD P ba bb) (e : ∀ a b, Q a b ↔ P a b) : BD Q ba bb := by
  have : Q = P := funext (fun a => funext (fun b => propext (e a b)))
  rw [this]; exact h
theorem BD_add {P Q : Int → Int → Prop} {ba bb ba' bb' : Int} (hP : ∀ a b, P a b → 0 < b) (h : BD P ba bb) {a0 b0 : Int} (hb0 : 0 < b0) (hQ0 : Q a0 b0) (hQ : ∀ a b, Q a b → 0 < b ∧ a * b0 = a0 * b)
    (t1 : bb = 0 ∨ a0 * bb < ba * b0 → ba' = a0 ∧ bb' = b0) (t2 : bb ≠ 0 → ba * b0 ≤ a0 * bb → ba' = ba ∧ bb' = bb) : BD (fun a b => P a b ∨ Q a b) ba' bb' := by
  rcases h with ⟨h1, h2⟩ | ⟨h1, h2, h3⟩
  · obtain ⟨rfl, rfl⟩ := t1 (Or.inl h1)
    refine Or.inr ⟨hb0, Or.inr hQ0, fun a b q => ?_⟩
    rcases q with q | q
    · exact absurd q (h2 a b)
    · have := (hQ a b q).2; omega
  · have hne : bb ≠ 0 := by omega
    rcases Int.lt_or_le (a0 * bb) (ba * b0) with c | c
    · obtain ⟨rfl, rfl⟩ := t1 (Or.inr c)
      refine Or.inr ⟨hb0, Or.inr hQ0, fun a b q => ?_⟩
      rcases q with q | q
      · have e1 := h3 a b q
        have hb := hP a b q
        have e2 := Int.mul_lt_mul_of_pos_right c hb
        have e3 := Int.mul_le_mul_of_nonneg_right e1 (Int.le_of_lt hb0)
        have e4 : ba' * b * bb < a * bb' * bb := by
          have i1 : ba' * b * bb = ba' * bb * b := by grind
          have i2 : ba * bb' * b = ba * b * bb' := by grind
          have i3 : a * bb' * bb = a * bb * bb' := by grind
          omega
        have := Int.lt_of_mul_lt_mul_right e4 (by omega)
        omega
      · have := (hQ a b q).2; omega
    · obtain ⟨rfl, rfl⟩ := t2 hne c
      refine Or.inr ⟨h1, Or.inl h2, fun a b q => ?_⟩
      rcases q with q | q
      · exact h3 a b q
      · have e1 := hQ a b q
        have e2 := Int.mul_le_mul_of_nonneg_right c (Int.le_of_lt e1.1)
        have e4 : ba' * b * b0 ≤ a * bb' * b0 := by
          have i1 : ba' * b * b0 = ba' * b0 * b := by grind
          have i2 : a * bb' * b0 = a * b0 * bb' := by grind
          have i3 : a0 * bb' * b = a0 * b * bb' := by grind
          rw [i1, i2, e1.2, ← i3]; exact e2
        exact Int.le_of_mul_le_mul_right e4 (by omega)
def csel (n m f : Nat) (L : List Nat) : Prop := L.length + m = n ∧ L.Pairwise (fun a b => a < b) ∧ ∀ g, g ∈ L → f ≤ g ∧ g < al n
def cPm (n : Nat) (v : Nat → Int) (m f : Nat) (Rw : Nat → Nat) (rs : Nat → Int) (a b : Int) : Prop := ∃ L, csel n m f L ∧ ccor n v (apR Rw m L) (apS v 1 rs m L) a b
theorem ccor_cg {n : Nat} {v : Nat → Int} {Rw Rw' : Nat → Nat} {rs rs' : Nat → Int} (h1 : ∀ k, k < n → Rw k = Rw' k) (h2 : ∀ k, k < n → rs k = rs' k) {a b : Int} (h : ccor n v Rw rs a b) : ccor n v Rw' rs' a b := by
  have e : ∀ q, q < n → ∀ c, gm n n 0 Rw rs q c = gm n n 0 Rw' rs' q c := fun q hq c => gm_cg (h1 q hq) (h2 q hq)
  obtain ⟨c1, z, c2, c3, c4⟩ := h
  exact ⟨cND_cg e c1, z, c2, sol_cg e c3, c4⟩
theorem cPm_cg {n : Nat} {v : Nat → Int} {m f : Nat} {Rw Rw' : Nat → Nat} {rs rs' : Nat → Int} (h1 : ∀ k, k < m → Rw k = Rw' k) (h2 : ∀ k, k < m → rs k = rs' k) {a b : Int} : cPm n v m f Rw rs a b ↔ cPm n v m f Rw' rs' a b := by
  unfold cPm
  constructor
  · rintro ⟨L, q1, q2⟩
    rw [apR_cg h1, apS_cg h2] at q2
    exact ⟨L, q1, q2⟩
  · rintro ⟨L, q1, q2⟩
    rw [← apR_cg h1, ← apS_cg h2] at q2
    exact ⟨L, q1, q2⟩
theorem cPm_end {n : Nat} {v : Nat → Int} {f : Nat} {Rw : Nat → Nat} {rs : Nat → Int} {a b : Int} : cPm n v n f Rw rs a b ↔ ccor n v Rw rs a b := by
  have e1 : ∀ L k, k < n → apR Rw n L k = Rw k := fun L k hk => if_pos hk
  have e2 : ∀ L k, k < n → apS v 1 rs n L k = rs k := fun L k hk => if_pos hk
  constructor
  · rintro ⟨L, _, q⟩
    exact ccor_cg (e1 L) (e2 L) q
  · intro q
    exact ⟨[], ⟨by simp, List.Pairwise.nil, fun g hg => by cases hg⟩, ccor_cg (fun k hk => (e1 [] k hk).symm) (fun k hk => (e2 [] k hk).symm) q⟩
def cPk (n : Nat) (v : Nat → Int) (m f g0 : Nat) (Rw : Nat → Nat) (rs : Nat → Int) (a b : Int) : Prop := ∃ g, f ≤ g ∧ g < g0 ∧ cPm n v (m + 1) (g + 1) (pu Rw m g) (fu rs m (v g)) a b
theorem cPm_step {n : Nat} {v : Nat → Int} {m f : Nat} {Rw : Nat → Nat} {rs : Nat → Int} (hm : m < n) {a b : Int} : cPm n v m f Rw rs a b ↔ cPk n v m f (al n) Rw rs a b := by
  constructor
  · rintro ⟨L, ⟨l1, l2, l3⟩, q⟩
    cases L with
    | nil => simp at l1; omega
    | cons g L =>
      rw [ap_cons, aps_cons, Int.one_mul] at q
      obtain ⟨g1, g2⟩ := l3 g (List.mem_cons_self)
      rw [List.pairwise_cons] at l2
      refine ⟨g, g1, g2, L, ⟨by rw [List.length_cons] at l1; omega, l2.2, fun g' hg' => ?_⟩, q⟩
      have := l2.1 g' hg'
      have := l3 g' (List.mem_cons_of_mem g hg')
      exact ⟨by omega, this.2⟩
  · rintro ⟨g, g1, g2, L, ⟨l1, l2, l3⟩, q⟩
    refine ⟨g :: L, ⟨by rw [List.length_cons]; omega, List.pairwise_cons.mpr ⟨fun g' hg' => by have := (l3 g' hg').1; omega, l2⟩, fun g' hg' => ?_⟩, ?_⟩
    · rcases List.mem_cons.mp hg' with e | e
      · rw [e]; exact ⟨g1, g2⟩
      · have := l3 g' e
        exact ⟨by omega, this.2⟩
    · rw [ap_cons, aps_cons, Int.one_mul]; exact q
theorem cPm_pos {n : Nat} {v : Nat → Int} {m f : Nat} {Rw : Nat → Nat} {rs : Nat → Int} {a b : Int} (h : cPm n v m f Rw rs a b) : 0 < b := by
  obtain ⟨L, _, _, z, q, _⟩ := h
  exact q
theorem cI_0 {n : Nat} {v : Nat → Int} {m f : Nat} {Rw : Nat → Nat} {rs : Nat → Int} {P0 : Int → Int → Prop} {ba bb : Int} (hB : BD P0 ba bb) : BD (fun a b => P0 a b ∨ cPk n v m f f Rw rs a b) ba bb := by
  refine BD_cg hB (fun a b => ⟨fun q => ?_, Or.inl⟩)
  rcases q with q | ⟨g, g1, g2, _⟩
  · exact q
  · omega
theorem cI_e {n : Nat} {v : Nat → Int} {m f : Nat} {Rw : Nat → Nat} {rs : Nat → Int} {P0 : Int → Int → Prop} {ba bb : Int} (hm : m < n) (hB : BD (fun a b => P0 a b ∨ cPk n v m f (al n) Rw rs a b) ba bb) : BD (fun a b => P0 a b ∨ cPm n v m f Rw rs a b) ba bb := by
  refine BD_cg hB (fun a b => ?_)
  rw [cPm_step hm]
theorem cI_s {n : Nat} {v : Nat → Int} {m f g : Nat} {Rw Rw' : Nat → Nat} {rs rs' : Nat → Int} {P0 : Int → Int → Prop} {ba bb : Int} (hag : ∀ k, k < m → Rw' k = Rw k ∧ rs' k = rs k) (hf : f ≤ g) (hB : BD (fun a b => (P0 a b ∨ cPk n v m f g Rw rs a b) ∨ cPm n v (m + 1) (g + 1) (pu Rw' m g) (fu rs' m (v g)) a b) ba bb) : BD (fun a b => P0 a b ∨ cPk n v m f (g + 1) Rw rs a b) ba bb := by
  have e : ∀ a b, cPm n v (m + 1) (g + 1) (pu Rw' m g) (fu rs' m (v g)) a b ↔ cPm n v (m + 1) (g + 1) (pu Rw m g) (fu rs m (v g)) a b := fun a b => cPm_cg (fun k hk => by
    by_cases e : k = m
    · subst e; rw [pu_s, pu_s]
    · rw [pu_n e, pu_n e]; exact (hag k (by omega)).1) (fun k hk => by
    by_cases e : k = m
    · subst e; rw [fu_s, fu_s]
    · rw [fu_n e, fu_n e]; exact (hag k (by omega)).2)
  refine BD_cg hB (fun a b => ?_)
  rw [e a b]
  constructor
  · rintro (q | ⟨g', g1, g2, q⟩)
    · exact Or.inl (Or.inl q)
    · by_cases e2 : g' = g
      · subst e2; exact Or.inr q
      · exact Or.inl (Or.inr ⟨g', g1, by omega, q⟩)
  · rintro ((q | ⟨g', g1, g2, q⟩) | q)
    · exact Or.inl q
    · exact Or.inr ⟨g', g1, by omega, q⟩
    · exact Or.inr ⟨g, hf, by omega, q⟩
theorem gm_row0 {n q : Nat} {Rw : Nat → Nat} {rs : Nat → Int} (z : Nat → Int) : ms_sm n (fun c => gm n n 0 Rw rs q c * z c) = st_sh n (Rw q) z := by
  refine ms_cg (fun c hc => ?_)
  unfold gm
  rw [if_pos hc]
/-- one corner: what is kept of it -/
theorem ccor_go {n : Nat} {v : Nat → Int} {f : Nat} {Rw : Nat → Nat} {rs : Nat → Int} {P0 : Int → Int → Prop} {ba bb ba' bb' : Int} {a : Nat → Int} {b : Int} (hP : ∀ a b, P0 a b → 0 < b) (hB : BD P0 ba bb) (hb : 0 < b) (hs : gj_sol n (gm n n 0 Rw rs) a b) (hu : ∀ y w, gj_sol n (gm n n 0 Rw rs) y w → ∀ q, q < n → b * y q = w * a q)
    (hc : (¬ (∀ g, 1 ≤ g → g < al n → b * v g ≤ st_sh n g a) ∧ ba' = ba ∧ bb' = bb) ∨ ((∀ g, 1 ≤ g → g < al n → b * v g ≤ st_sh n g a) ∧ (bb = 0 ∨ st_sh n (al n) a * bb < ba * b → ba' = st_sh n (al n) a ∧ bb' = b) ∧ (bb ≠ 0 → ba * b ≤ st_sh n (al n) a * bb → ba' = ba ∧ bb' = bb))) : BD (fun a b => P0 a b ∨ cPm n v n f Rw rs a b) ba' bb' := by
  have one : ∀ x y, ccor n v Rw rs x y → 0 < y ∧ x * b = st_sh n (al n) a * y ∧ ∀ g, 1 ≤ g → g < al n → b * v g ≤ st_sh n g a := fun x y ⟨_, z, z1, z2, z3, z4⟩ => by
    have e := hu z y z2
    have es : ∀ g, b * st_sh n g z = y * st_sh n g a := fun g => by
      unfold st_sh ms_dot
      rw [← ms_mul, ← ms_mul]
      refine ms_cg (fun p hp => ?_)
      have := e p hp
      grind
    refine ⟨z1, by rw [z4, Int.mul_comm, es]; exact Int.mul_comm _ _, fun g g1 g2 => ?_⟩
    have q := z3 g g1 g2
    have q2 := Int.mul_le_mul_of_nonneg_left q (Int.le_of_lt hb)
    rw [es] at q2
    refine Int.le_of_mul_le_mul_left (a := y) ?_ z1
    have : b * (y * v g) = y * (b * v g) := by grind
    omega
  rcases hc with ⟨h1, rfl, rfl⟩ | ⟨h1, t1, t2⟩
  · refine BD_cg hB (fun x y => ⟨fun q => ?_, Or.inl⟩)
    rcases q with q | q
    · exact q
    · exact absurd (one x y (cPm_end.mp q)).2.2 h1
  · exact BD_add hP hB hb (cPm_end.mpr ⟨cND_of hb hu, a, hb, hs, h1, rfl⟩) (fun x y q => ⟨(one x y (cPm_end.mp q)).1, (one x y (cPm_end.mp q)).2.1⟩) t1 t2
theorem cost_low {n : Nat} {v : Nat → Int} {P Q a b : Int} {Rw : Nat → Nat} {rs : Nat → Int} (hn : 2 ≤ n ∧ n ≤ 4) (h : CX n v P Q) (hc : ccor n v Rw rs a b) : P * b ≤ a * Q := by
  obtain ⟨h1, h2, r, h3, h4⟩ := h
  obtain ⟨_, z, z1, z2, z3, z4⟩ := hc
  have cr := row_tot n (by omega) hn.1 r h3
  have hin := row_in n (by omega) hn.1 r h3
  have e1 := rsm_le (f := fun g => b * v g) (g := fun g => st_sh n g z) r (fun x hx h0 => z3 x (by omega) (hin x hx))
  rw [rsm_mul, rsm_sh hn h3, show st_sh n (2 ^ n - 1) z = a from z4.symm] at e1
  have e2 := Int.mul_le_mul_of_nonneg_right e1 (Int.le_of_lt h1)
  have e3 : (P * b) * rone r ≤ (a * Q) * rone r := by
    have i1 : b * rsm r v * Q = b * (rsm r v * Q) := by grind
    have i2 : rone r * a * Q = (a * Q) * rone r := by grind
    have i3 : b * (P * rone r) = (P * b) * rone r := by grind
    rw [i1, h4, i3, i2] at e2; exact e2
  exact Int.le_of_mul_le_mul_right e3 (by omega)
theorem rsm_eq {f g : Nat → Int} : ∀ r : List Nat, (∀ x, x ∈ r → x ≠ 0 → f x ≤ g x) → rsm r f = rsm r g → ∀ x, x ∈ r → x ≠ 0 → f x = g x
  | [], _, _ => fun x hx => by cases hx
  | a :: r, h, e => by
    have le := rsm_le r (fun x hx h0 => h x (List.mem_cons_of_mem a hx) h0)
    have e' : rsm r f + (if a = 0 then 0 else f a) = rsm r g + (if a = 0 then 0 else g a) := e
    have hr : rsm r f = rsm r g ∧ (a ≠ 0 → f a = g a) := by
      by_cases e0 : a = 0
      · rw [if_pos e0, if_pos e0] at e'; exact ⟨by omega, fun q => absurd e0 q⟩
      · rw [if_neg e0, if_neg e0] at e'
        have := h a List.mem_cons_self e0
        exact ⟨by omega, fun _ => by omega⟩
    intro x hx h0
    rcases List.mem_cons.mp hx with q | q
    · rw [q]; exact hr.2 (by rw [← q]; exact h0)
    · exact rsm_eq r (fun x hx h0 => h x (List.mem_cons_of_mem a hx) h0) hr.1 x q h0
theorem cost_ex {n : Nat} {v : Nat → Int} {P Q : Int} {Rw : Nat → Nat} {rs : Nat → Int} (hn : 2 ≤ n ∧ n ≤ 4) (h : CX n v P Q) : ∃ a b, cPm n v 0 1 Rw rs a b ∧ a * Q = P * b := by
  have hn3 : n = 2 ∨ n = 3 ∨ n = 4 := by omega
  obtain ⟨u0, x0, p1, p2, p3⟩ := cost_pt hn h
  obtain ⟨h1, h2, r0, h3, h4⟩ := h
  obtain ⟨w, hw⟩ : ∃ w : Nat → Int, w = fun g => if g = 2 ^ n - 1 then P else Q * v g := ⟨_, rfl⟩
  have wN : w (2 ^ n - 1) = P := by rw [hw]; exact if_pos rfl
  have wg : ∀ g, g < 2 ^ n - 1 → w g = Q * v g := fun g hg => by rw [hw]; exact if_neg (by omega)
  obtain ⟨u, x, g1, g2, g3, g4⟩ := co_corner (v := w) (fx := fun _ => False) (lp := fun _ => 0) (lq := fun _ => 0) (p := 0) (q := 1) hn3 (by decide) 0 false _ u0 x0 (Nat.le_refl _) ⟨p1, by rw [p2, wN], fun g _ _ q => q.elim⟩ (fun g hg => by
    rw [wg g hg.2.1]
    have := p3 g hg.1 hg.2.1
    omega) (fun e => by cases e)
  have hu := g1.1
  have xN : st_sh n (2 ^ n - 1) x = u * P := by rw [g1.2.1, wN]
  have xg : ∀ g, 1 ≤ g → g < 2 ^ n - 1 → u * (Q * v g) ≤ st_sh n g x := fun g a b => by
    have := g2 g ⟨a, b, id⟩
    rw [wg g b, Int.one_mul, Int.mul_zero] at this
    omega
  have hin := row_in n (by omega) hn.1 r0 h3
  have cr := row_tot n (by omega) hn.1 r0 h3
  have tight : ∀ g, g ∈ r0 → g ≠ 0 → u * (Q * v g) = st_sh n g x := rsm_eq (f := fun g => u * (Q * v g)) (g := fun g => st_sh n g x) r0 (fun g hg h0 => xg g (by omega) (hin g hg)) (by
    rw [rsm_mul (c := u) (f := fun g => Q * v g), rsm_mul, rsm_sh hn h3, xN]
    grind)
  obtain ⟨TL, hTL⟩ : ∃ TL : List Nat, TL = (List.range (2 ^ n - 1)).filter (fun g => @decide (1 ≤ g ∧ u * (Q * v g) = st_sh n g x) (Classical.propDecidable _)) := ⟨_, rfl⟩
  have mTL : ∀ g, g ∈ TL ↔ (g < 2 ^ n - 1 ∧ 1 ≤ g ∧ u * (Q * v g) = st_sh n g x) := fun g => by
    rw [hTL, List.mem_filter, List.mem_range, @decide_eq_true_iff _ (Classical.propDecidable _)]
  have pTL : TL.Pairwise (fun a b => a < b) := by
    rw [hTL]
    exact List.Pairwise.filter _ List.pairwise_lt_range
  have hnd : ln_nd n ([] ++ TL.map st_bt) := by
    intro dl hdl
    have d1 : ∀ g, g ∈ TL → st_sh n g dl = 0 := fun g hg => hdl _ (List.mem_map.mpr ⟨g, hg, rfl⟩)
    have dN : st_sh n (2 ^ n - 1) dl = 0 := by
      have e := rsm_sh hn h3 dl
      have e0 : rsm r0 (fun g => st_sh n g dl) = rsm r0 (fun _ => 0) := rsm_cg r0 (fun g hg h0 => d1 g ((mTL g).mpr ⟨hin g hg, by omega, tight g hg h0⟩))
      have ez : ∀ r : List Nat, rsm r (fun _ => (0 : Int)) = 0 := by
        intro r
        induction r with
        | nil => rfl
        | cons a r ih =>
          show rsm r _ + (if a = 0 then 0 else 0) = 0
          rw [ih]; split <;> rfl
      rw [e0, ez] at e
      rcases Int.mul_eq_zero.mp e.symm with q | q
      · omega
      · exact q
    exact g4 dl ⟨dN, fun g _ _ q => q.elim⟩ (fun g hg ht => d1 g ((mTL g).mpr ⟨hg.2.1, hg.1, by
      rw [wg g hg.2.1, Int.one_mul, Int.mul_zero] at ht; omega⟩))
  obtain ⟨G, k1, k2, k3⟩ := ln_basis (C := []) (fun c _ j hj => absurd hj (Nat.not_lt_zero j)) _ _ (Nat.le_refl _) hnd
  obtain ⟨L, hLs, rfl⟩ := List.sublist_map_iff.mp k1
  rw [List.length_map] at k2
  have k2' : L.length = n := by simpa using k2
  have mL : ∀ g, g ∈ L → g < 2 ^ n - 1 ∧ 1 ≤ g ∧ u * (Q * v g) = st_sh n g x := fun g hg => (mTL g).mp (hLs.subset hg)
  have hR : ∀ r, r < n → ∃ g, g ∈ L ∧ apR Rw 0 L r = g ∧ apS v 1 rs 0 L r = v g := fun r hr => by
    have hi : r < L.length := by omega
    refine ⟨L[r], List.getElem_mem hi, ?_, ?_⟩
    · show (if r < 0 then _ else L.getD (r - 0) 0) = _
      rw [if_neg (by omega), Nat.sub_zero, List.getD_eq_getElem?_getD, List.getElem?_eq_getElem hi]; rfl
    · show (if r < 0 then _ else 1 * v (L.getD (r - 0) 0)) = _
      rw [if_neg (by omega), Nat.sub_zero, List.getD_eq_getElem?_getD, List.getElem?_eq_getElem hi, Int.one_mul]; rfl
  refine ⟨u * P, u * Q, ⟨L, ⟨by omega, pTL.sublist hLs, fun g hg => ⟨(mL g hg).2.1, (mL g hg).1⟩⟩, ?_, x, Int.mul_pos hu h1, fun r hr => ?_, fun g a b => ?_, xN.symm⟩, by grind⟩
  · intro z hz
    refine k3 z (fun r hr => ?_)
    have hr' : r ∈ L.map st_bt := by simpa using hr
    obtain ⟨g, m1, rfl⟩ := List.mem_map.mp hr'
    obtain ⟨i, hi⟩ := List.getElem?_of_mem m1
    have hilt : i < L.length := (List.getElem?_eq_some_iff.mp hi).1
    have := hz i (by omega)
    have e1 : apR Rw 0 L i = g := by
      show (if i < 0 then _ else L.getD (i - 0) 0) = _
      rw [if_neg (by omega), Nat.sub_zero, List.getD_eq_getElem?_getD, hi]; rfl
    rw [gm_row0, e1] at this
    exact this
  · obtain ⟨g, m1, m2, m3⟩ := hR r hr
    rw [gm_row0, gm_D (Nat.le_refl n), m2, m3, ← (mL g m1).2.2]
    grind
  · have := xg g a b
    have e : u * Q * v g = u * (Q * v g) := Int.mul_assoc _ _ _
    omega
theorem cost_all {n : Nat} {v : Nat → Int} {P Q ba bb : Int} {Rw : Nat → Nat} {rs : Nat → Int} (hn : 2 ≤ n ∧ n ≤ 4) (h : CX n v P Q) (hB : BD (cPm n v 0 1 Rw rs) ba bb) : 0 < bb ∧ ba * Q = P * bb := by
  obtain ⟨a, b, e1, e2⟩ := cost_ex (Rw := Rw) (rs := rs) hn h
  rcases hB with ⟨_, k⟩ | ⟨hb, k2, k3⟩
  · exact absurd e1 (k _ _)
  · refine ⟨hb, ?_⟩
    obtain ⟨L, _, c⟩ := k2
    have m1 := cost_low hn h c
    have m2 := k3 _ _ e1
    have hb1 := cPm_pos e1
    have hQ := h.1
    have m3 : ba * Q ≤ P * bb := by
      have i1 := Int.mul_le_mul_of_nonneg_right m2 (Int.le_of_lt hQ)
      have i2 : (ba * Q) * b ≤ (P * bb) * b := by
        have j1 : ba * b * Q = ba * Q * b := by grind
        have j2 : a * bb * Q = (a * Q) * bb := by grind
        have j3 : P * b * bb = P * bb * b := by grind
        rw [j1, j2, e2, j3] at i1; exact i1
      exact Int.le_of_mul_le_mul_right i2 hb1
    omega
