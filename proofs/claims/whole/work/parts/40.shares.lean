/-! Shares: grudges in order. -/
def ahd (E : Nat → Int) (k g : Nat) : Prop := E g < E k ∨ (E k = E g ∧ k < g)
theorem ahd_t {E : Nat → Int} {x y z : Nat} (h : ahd E x y) (h' : ahd E y z) : ahd E x z := by unfold ahd at *; omega
theorem ahd_i {E : Nat → Int} {x : Nat} : ¬ ahd E x x := by unfold ahd; omega
theorem ahd_or {E : Nat → Int} {x y : Nat} (h : x ≠ y) : ahd E x y ∨ ahd E y x := by unfold ahd; omega
def ah1 (E : Nat → Int) (k g : Nat) : Int := if E g < E k ∨ (E k = E g ∧ k < g) then 1 else 0
def cA (E : Nat → Int) (m g : Nat) : Int := gs m (fun k => ah1 E k g)
theorem ah1_y {E : Nat → Int} {k g : Nat} (h : ahd E k g) : ah1 E k g = 1 := if_pos h
theorem ah1_n {E : Nat → Int} {k g : Nat} (h : ¬ ahd E k g) : ah1 E k g = 0 := if_neg h
theorem gs_add {m : Nat} {f g : Nat → Int} : gs m (fun k => f k + g k) = gs m f + gs m g := by
  unfold gs
  rw [← ms_add]
  refine ms_cg (fun j _ => ?_)
  by_cases h : j = 0
  · rw [if_pos h, if_pos h, if_pos h]; rfl
  · rw [if_neg h, if_neg h, if_neg h]
theorem gs_one {g : Nat} (h1 : 1 ≤ g) : ∀ m, gs m (fun k => if k = g then 1 else 0) = if g < m then 1 else 0
  | 0 => by rw [if_neg (by omega)]; rfl
  | m + 1 => by
    by_cases hm : 1 ≤ m
    · rw [gs_s hm, gs_one h1 m]
      by_cases e : m = g
      · rw [if_pos e, if_neg (by omega), if_pos (by omega)]; rfl
      · rw [if_neg e]
        by_cases e2 : g < m
        · rw [if_pos e2, if_pos (by omega)]; rfl
        · rw [if_neg e2, if_neg (by omega)]; rfl
    · have : m = 0 := by omega
      subst this
      rw [if_neg (by omega)]; rfl
theorem gs_all : ∀ m, 1 ≤ m → gs m (fun _ => 1) = (m : Int) - 1
  | 0, h => absurd h (by decide)
  | m + 1, _ => by
    by_cases hm : 1 ≤ m
    · rw [gs_s hm, gs_all m hm]; omega
    · have : m = 0 := by omega
      subst this; rfl
/-- the foremost of those with P -/
theorem ahd_best {E : Nat → Int} {P : Nat → Prop} : ∀ m, (∃ g, 1 ≤ g ∧ g < m ∧ P g) → ∃ g, 1 ≤ g ∧ g < m ∧ P g ∧ ∀ k, 1 ≤ k → k < m → P k → ¬ ahd E k g
  | 0, ⟨g, _, h, _⟩ => absurd h (Nat.not_lt_zero g)
  | m + 1, ⟨g, h1, h2, h3⟩ => by
    by_cases hx : ∃ g, 1 ≤ g ∧ g < m ∧ P g
    · obtain ⟨b, b1, b2, b3, b4⟩ := ahd_best m hx
      by_cases hm : P m ∧ ahd E m b
      · refine ⟨m, by omega, by omega, hm.1, fun k k1 k2 k3 q => ?_⟩
        by_cases e : k = m
        · subst e; exact ahd_i q
        · exact b4 k k1 (by omega) k3 (ahd_t q hm.2)
      · refine ⟨b, b1, by omega, b3, fun k k1 k2 k3 q => ?_⟩
        by_cases e : k = m
        · subst e; exact hm ⟨k3, q⟩
        · exact b4 k k1 (by omega) k3 q
    · have e : g = m := by
        by_cases e : g = m
        · exact e
        · exact absurd ⟨g, h1, by omega, h3⟩ hx
      subst e
      refine ⟨g, h1, h2, h3, fun k k1 k2 k3 q => ?_⟩
      by_cases e : k = g
      · subst e; exact ahd_i q
      · exact hx ⟨k, k1, by omega, k3⟩
theorem cA_next {E : Nat → Int} {m g b : Nat} (hg : 1 ≤ g ∧ g < m) (hb : ahd E g b) (hbest : ∀ k, 1 ≤ k → k < m → ahd E g k → ¬ ahd E k b) : cA E m b = cA E m g + 1 := by
  unfold cA
  have h1 : gs m (fun k => ah1 E k b) = gs m (fun k => ah1 E k g + if k = g then 1 else 0) := gs_cg (fun k k1 k2 => by
    by_cases e : k = g
    · subst e
      rw [ah1_y hb, ah1_n ahd_i, if_pos rfl]; rfl
    · rw [if_neg e]
      rcases ahd_or (E := E) e with q | q
      · rw [ah1_y q, ah1_y (ahd_t q hb)]; rfl
      · rw [ah1_n (fun q' => ahd_i (ahd_t q q')), ah1_n (hbest k k1 k2 q)]; rfl)
  rw [h1, gs_add, gs_one hg.1, if_pos hg.2]
theorem cA_0 {E : Nat → Int} {m g : Nat} (h : ∀ k, 1 ≤ k → k < m → ¬ ahd E k g) : cA E m g = 0 := by
  unfold cA
  rw [gs_cg (f' := fun _ => 0) (fun k k1 k2 => ah1_n (h k k1 k2))]
  unfold gs
  rw [ms_cg (g := fun _ => 0) (fun j _ => by by_cases h : j = 0 <;> simp [h]), ms_zero]
theorem cA_last {E : Nat → Int} {m g : Nat} (hg : 1 ≤ g ∧ g < m) (h : ∀ k, 1 ≤ k → k < m → ¬ ahd E g k) : cA E m g = (m : Int) - 2 := by
  have h1 : gs m (fun k => ah1 E k g + if k = g then 1 else 0) = gs m (fun _ => 1) := gs_cg (fun k k1 k2 => by
    by_cases e : k = g
    · subst e; rw [ah1_n ahd_i, if_pos rfl]; rfl
    · rw [if_neg e, ah1_y ((ahd_or (E := E) e).resolve_right (h k k1 k2))]; rfl)
  rw [gs_add, gs_one hg.1, if_pos hg.2, gs_all m (by omega)] at h1
  show gs m (fun k => ah1 E k g) = _
  omega
/-- each place is somebody's -/
theorem cA_ex {E : Nat → Int} {m : Nat} (hm : 2 ≤ m) : ∀ k : Nat, k + 1 < m → ∃ g, 1 ≤ g ∧ g < m ∧ cA E m g = k
  | 0, _ => by
    obtain ⟨g, g1, g2, _, g4⟩ := ahd_best (E := E) (P := fun _ => True) m ⟨1, by decide, by omega, trivial⟩
    exact ⟨g, g1, g2, cA_0 (fun k k1 k2 => g4 k k1 k2 trivial)⟩
  | k + 1, hk => by
    obtain ⟨g, g1, g2, g3⟩ := cA_ex hm k (by omega)
    by_cases hx : ∃ b, 1 ≤ b ∧ b < m ∧ ahd E g b
    · obtain ⟨b, b1, b2, b3, b4⟩ := ahd_best (E := E) (P := fun b => ahd E g b) m hx
      exact ⟨b, b1, b2, by rw [cA_next ⟨g1, g2⟩ b3 b4, g3]; omega⟩
    · have := cA_last ⟨g1, g2⟩ (fun k k1 k2 q => hx ⟨k, k1, k2, q⟩)
      omega
theorem cA_b {E : Nat → Int} {m g : Nat} : -(m : Int) ≤ cA E m g ∧ cA E m g ≤ m := by
  have := gs_bd (m := m) (f := fun k => ah1 E k g) (c := 1) (by decide) (fun k _ _ => by
    show -1 ≤ ah1 E k g ∧ ah1 E k g ≤ 1
    unfold ah1
    split <;> omega)
  unfold cA
  omega
/-- who stands at place k -/
noncomputable def ino (E : Nat → Int) (m : Nat) (k : Int) : Int := ff 1 m (fun g => cA E m g = k) (-1)
theorem ino_ex {E : Nat → Int} {m : Nat} (hm : 2 ≤ m) {k : Nat} (hk : k + 1 < m) : 1 ≤ ino E m k ∧ ino E m k < m := by
  obtain ⟨g, g1, g2, g3⟩ := cA_ex (E := E) hm k hk
  rcases Classical.choose_spec (isF_e 1 (fun g => cA E m g = (k : Int)) (-1) m) with ⟨b, b1, b2, b3, b4, b5⟩ | ⟨b1, b2⟩
  · have : ino E m k = b := b5
    omega
  · exact absurd g3 (b1 g g1 g2)
theorem cA_cg {E E' : Nat → Int} {m g : Nat} (hg : 1 ≤ g ∧ g < m) (h : ∀ k, 1 ≤ k → k < m → E k = E' k) : cA E m g = cA E' m g := gs_cg (fun k k1 k2 => by unfold ah1; rw [h k k1 k2, h g hg.1 hg.2])
theorem ff_cg {a b : Nat} {P P' : Nat → Prop} {no : Int} (h : ∀ k, a ≤ k → k < b → (P k ↔ P' k)) : ff a b P no = ff a b P' no := by
  rcases Classical.choose_spec (isF_e a P no b) with ⟨g, h1, h2, h3, h4, h5⟩ | ⟨h1, h2⟩
  · rw [show ff a b P no = g from h5]
    exact ff_y h1 h2 ((h g h1 h2).mp h3) (fun k k1 k2 q => h4 k k1 k2 ((h k k1 (by omega)).mpr q))
  · rw [show ff a b P no = no from h2]
    exact ff_n (fun k k1 k2 q => h1 k k1 k2 ((h k k1 k2).mpr q))
theorem ino_cg {E E' : Nat → Int} {m : Nat} {k : Int} (h : ∀ k, 1 ≤ k → k < m → E k = E' k) : ino E m k = ino E' m k := ff_cg (fun g g1 g2 => by rw [cA_cg ⟨g1, g2⟩ h])
theorem u_sumOf_43 {d N S : Nat} {h : Nat → Option rr_E} {be x y : Int} {A : Nat → Int} (c43 : h 43 = some (.inr (3, [.long (jj be), .ref 44, .ref 45, .int (ii x), .int (ii y)]))) (c44 : h 44 = some (.inl (1, 4, .inr (.inl (fun k => jj (A k)))))) {g : Nat} (hg : g < 16) : rr_Calls (d + 1) j_Shares_sumOf [.ref 43, .int (ii (g : Int))] (N, S, h) (fun r R => r = some (.long (jj (st_sh 4 g A))) ∧ R = (N, S, h)) := by
  refine rr_meth (C := K_Shares_sumOf) (hd := h_Shares_sumOf) (mx := 5) rfl rfl (fun K hK => ?_)
  refine hK _ _ _ _ ?_
  refine s_lconst rfl (cn rfl) 0 (by decide) ?_
  refine s_lstore_n rfl (cn rfl) ?_
  refine s_iconst rfl (cn rfl) ?_
  refine s_istore rfl (ch rfl) ?_
  have lp4 : ∀ p : Nat, p ≤ 4 → ∀ (x : Int) (hx : x = st_sh p g A), K 4 [some (.ref 43), some (.int (ii (g : Int))), some (.long (jj x)), none, some (.int (ii (p : Int)))] [] (N, S, h) := by
    refine dn (fun p hp ih4 => ?_)
    intro x hx
    refine hK _ _ _ _ ?_
    refine s_iload rfl (cn rfl) rfl ?_
    refine s_aload_n rfl (cn rfl) rfl ?_
    refine s_getfield rfl (cn rfl) c43 rfl ?_
    refine s_arraylength rfl (cn rfl) c44 (by decide) ?_
    refine s_icmp_ge rfl (cn rfl) (cn rfl) ⟨by omega, by omega⟩ ⟨by omega, by omega⟩ (fun q8 => ?_) (fun q8 => ?_)
    · refine s_lload_n rfl (cn rfl) rfl ?_
      refine s_lreturn rfl ?_
      exact ⟨rl (by rw [hx, show p = 4 by omega]), rfl⟩
    · refine s_iload_n rfl (cn rfl) rfl ?_
      refine s_iload rfl (cn rfl) rfl ?_
      refine s_ishr rfl (cn rfl) ?_
      refine s_iconst rfl (cn rfl) ?_
      refine s_iand rfl (cn rfl) _ (bi_bit (by omega) (by omega)) ?_
      refine s_iconst rfl (cn rfl) ?_
      refine s_icmp_ne rfl (cn rfl) (cn rfl) (bt_b3 _ _) (by decide) (fun q15 => ?_) (fun q15 => ?_)
      · refine s_iinc rfl (cn rfl) rfl ?_
        refine s_goto rfl (ch rfl) ?_
        exact ih4 (by omega) _ (by show _ = st_sh p g A + st_bt g p * A p; rw [hx, show st_bt g p = 0 by have := bt_01 g p; omega]; omega)
      · refine s_lload_n rfl (cn rfl) rfl ?_
        refine s_aload_n rfl (cn rfl) rfl ?_
        refine s_getfield rfl (cn rfl) c43 rfl ?_
        refine s_iload rfl (cn rfl) rfl ?_
        refine s_laload rfl (cn rfl) _ rfl c44 (by omega) (by decide) rfl ?_
        refine s_ladd rfl (cn rfl) ?_
        refine s_lstore_n rfl (cn rfl) ?_
        refine s_iinc rfl (cn rfl) rfl ?_
        refine s_goto rfl (ch rfl) ?_
        exact ih4 (by omega) _ (by show _ = st_sh p g A + st_bt g p * A p; rw [hx, q15]; omega)
  exact lp4 0 (by omega) _ rfl
theorem u_sumOf_46 {d N S : Nat} {h : Nat → Option rr_E} {be x y : Int} {A : Nat → Int} (c46 : h 46 = some (.inr (3, [.long (jj be), .ref 47, .ref 48, .int (ii x), .int (ii y)]))) (c47 : h 47 = some (.inl (1, 4, .inr (.inl (fun k => jj (A k)))))) {g : Nat} (hg : g < 16) : rr_Calls (d + 1) j_Shares_sumOf [.ref 46, .int (ii (g : Int))] (N, S, h) (fun r R => r = some (.long (jj (st_sh 4 g A))) ∧ R = (N, S, h)) := by
  refine rr_meth (C := K_Shares_sumOf) (hd := h_Shares_sumOf) (mx := 5) rfl rfl (fun K hK => ?_)
  refine hK _ _ _ _ ?_
  refine s_lconst rfl (cn rfl) 0 (by decide) ?_
  refine s_lstore_n rfl (cn rfl) ?_
  refine s_iconst rfl (cn rfl) ?_
  refine s_istore rfl (ch rfl) ?_
  have lp4 : ∀ p : Nat, p ≤ 4 → ∀ (x : Int) (hx : x = st_sh p g A), K 4 [some (.ref 46), some (.int (ii (g : Int))), some (.long (jj x)), none, some (.int (ii (p : Int)))] [] (N, S, h) := by
    refine dn (fun p hp ih4 => ?_)
    intro x hx
    refine hK _ _ _ _ ?_
    refine s_iload rfl (cn rfl) rfl ?_
    refine s_aload_n rfl (cn rfl) rfl ?_
    refine s_getfield rfl (cn rfl) c46 rfl ?_
    refine s_arraylength rfl (cn rfl) c47 (by decide) ?_
    refine s_icmp_ge rfl (cn rfl) (cn rfl) ⟨by omega, by omega⟩ ⟨by omega, by omega⟩ (fun q8 => ?_) (fun q8 => ?_)
    · refine s_lload_n rfl (cn rfl) rfl ?_
      refine s_lreturn rfl ?_
      exact ⟨rl (by rw [hx, show p = 4 by omega]), rfl⟩
    · refine s_iload_n rfl (cn rfl) rfl ?_
      refine s_iload rfl (cn rfl) rfl ?_
      refine s_ishr rfl (cn rfl) ?_
      refine s_iconst rfl (cn rfl) ?_
      refine s_iand rfl (cn rfl) _ (bi_bit (by omega) (by omega)) ?_
      refine s_iconst rfl (cn rfl) ?_
      refine s_icmp_ne rfl (cn rfl) (cn rfl) (bt_b3 _ _) (by decide) (fun q15 => ?_) (fun q15 => ?_)
      · refine s_iinc rfl (cn rfl) rfl ?_
        refine s_goto rfl (ch rfl) ?_
        exact ih4 (by omega) _ (by show _ = st_sh p g A + st_bt g p * A p; rw [hx, show st_bt g p = 0 by have := bt_01 g p; omega]; omega)
      · refine s_lload_n rfl (cn rfl) rfl ?_
        refine s_aload_n rfl (cn rfl) rfl ?_
        refine s_getfield rfl (cn rfl) c46 rfl ?_
        refine s_iload rfl (cn rfl) rfl ?_
        refine s_laload rfl (cn rfl) _ rfl c47 (by omega) (by decide) rfl ?_
        refine s_ladd rfl (cn rfl) ?_
        refine s_lstore_n rfl (cn rfl) ?_
        refine s_iinc rfl (cn rfl) rfl ?_
        refine s_goto rfl (ch rfl) ?_
        exact ih4 (by omega) _ (by show _ = st_sh p g A + st_bt g p * A p; rw [hx, q15]; omega)
  exact lp4 0 (by omega) _ rfl
theorem u_sumOf_17 {d N S : Nat} {h : Nat → Option rr_E} {be x y : Int} {A : Nat → Int} (c17 : h 17 = some (.inr (3, [.long (jj be), .ref 18, .ref 19, .int (ii x), .int (ii y)]))) (c18 : h 18 = some (.inl (1, 4, .inr (.inl (fun k => jj (A k)))))) {g : Nat} (hg : g < 16) : rr_Calls (d + 1) j_Shares_sumOf [.ref 17, .int (ii (g : Int))] (N, S, h) (fun r R => r = some (.long (jj (st_sh 4 g A))) ∧ R = (N, S, h)) := by
  refine rr_meth (C := K_Shares_sumOf) (hd := h_Shares_sumOf) (mx := 5) rfl rfl (fun K hK => ?_)
  refine hK _ _ _ _ ?_
  refine s_lconst rfl (cn rfl) 0 (by decide) ?_
  refine s_lstore_n rfl (cn rfl) ?_
  refine s_iconst rfl (cn rfl) ?_
  refine s_istore rfl (ch rfl) ?_
  have lp4 : ∀ p : Nat, p ≤ 4 → ∀ (x : Int) (hx : x = st_sh p g A), K 4 [some (.ref 17), some (.int (ii (g : Int))), some (.long (jj x)), none, some (.int (ii (p : Int)))] [] (N, S, h) := by
    refine dn (fun p hp ih4 => ?_)
    intro x hx
    refine hK _ _ _ _ ?_
    refine s_iload rfl (cn rfl) rfl ?_
    refine s_aload_n rfl (cn rfl) rfl ?_
    refine s_getfield rfl (cn rfl) c17 rfl ?_
    refine s_arraylength rfl (cn rfl) c18 (by decide) ?_
    refine s_icmp_ge rfl (cn rfl) (cn rfl) ⟨by omega, by omega⟩ ⟨by omega, by omega⟩ (fun q8 => ?_) (fun q8 => ?_)
    · refine s_lload_n rfl (cn rfl) rfl ?_
      refine s_lreturn rfl ?_
      exact ⟨rl (by rw [hx, show p = 4 by omega]), rfl⟩
    · refine s_iload_n rfl (cn rfl) rfl ?_
      refine s_iload rfl (cn rfl) rfl ?_
      refine s_ishr rfl (cn rfl) ?_
      refine s_iconst rfl (cn rfl) ?_
      refine s_iand rfl (cn rfl) _ (bi_bit (by omega) (by omega)) ?_
      refine s_iconst rfl (cn rfl) ?_
      refine s_icmp_ne rfl (cn rfl) (cn rfl) (bt_b3 _ _) (by decide) (fun q15 => ?_) (fun q15 => ?_)
      · refine s_iinc rfl (cn rfl) rfl ?_
        refine s_goto rfl (ch rfl) ?_
        exact ih4 (by omega) _ (by show _ = st_sh p g A + st_bt g p * A p; rw [hx, show st_bt g p = 0 by have := bt_01 g p; omega]; omega)
      · refine s_lload_n rfl (cn rfl) rfl ?_
        refine s_aload_n rfl (cn rfl) rfl ?_
        refine s_getfield rfl (cn rfl) c17 rfl ?_
        refine s_iload rfl (cn rfl) rfl ?_
        refine s_laload rfl (cn rfl) _ rfl c18 (by omega) (by decide) rfl ?_
        refine s_ladd rfl (cn rfl) ?_
        refine s_lstore_n rfl (cn rfl) ?_
        refine s_iinc rfl (cn rfl) rfl ?_
        refine s_goto rfl (ch rfl) ?_
        exact ih4 (by omega) _ (by show _ = st_sh p g A + st_bt g p * A p; rw [hx, q15]; omega)
  exact lp4 0 (by omega) _ rfl
theorem u_sumOf_32 {d N S : Nat} {h : Nat → Option rr_E} {be x y : Int} {A : Nat → Int} (c32 : h 32 = some (.inr (3, [.long (jj be), .ref 33, .ref 34, .int (ii x), .int (ii y)]))) (c33 : h 33 = some (.inl (1, 4, .inr (.inl (fun k => jj (A k)))))) {g : Nat} (hg : g < 16) : rr_Calls (d + 1) j_Shares_sumOf [.ref 32, .int (ii (g : Int))] (N, S, h) (fun r R => r = some (.long (jj (st_sh 4 g A))) ∧ R = (N, S, h)) := by
  refine rr_meth (C := K_Shares_sumOf) (hd := h_Shares_sumOf) (mx := 5) rfl rfl (fun K hK => ?_)
  refine hK _ _ _ _ ?_
  refine s_lconst rfl (cn rfl) 0 (by decide) ?_
  refine s_lstore_n rfl (cn rfl) ?_
  refine s_iconst rfl (cn rfl) ?_
  refine s_istore rfl (ch rfl) ?_
  have lp4 : ∀ p : Nat, p ≤ 4 → ∀ (x : Int) (hx : x = st_sh p g A), K 4 [some (.ref 32), some (.int (ii (g : Int))), some (.long (jj x)), none, some (.int (ii (p : Int)))] [] (N, S, h) := by
    refine dn (fun p hp ih4 => ?_)
    intro x hx
    refine hK _ _ _ _ ?_
    refine s_iload rfl (cn rfl) rfl ?_
    refine s_aload_n rfl (cn rfl) rfl ?_
    refine s_getfield rfl (cn rfl) c32 rfl ?_
    refine s_arraylength rfl (cn rfl) c33 (by decide) ?_
    refine s_icmp_ge rfl (cn rfl) (cn rfl) ⟨by omega, by omega⟩ ⟨by omega, by omega⟩ (fun q8 => ?_) (fun q8 => ?_)
    · refine s_lload_n rfl (cn rfl) rfl ?_
      refine s_lreturn rfl ?_
      exact ⟨rl (by rw [hx, show p = 4 by omega]), rfl⟩
    · refine s_iload_n rfl (cn rfl) rfl ?_
      refine s_iload rfl (cn rfl) rfl ?_
      refine s_ishr rfl (cn rfl) ?_
      refine s_iconst rfl (cn rfl) ?_
      refine s_iand rfl (cn rfl) _ (bi_bit (by omega) (by omega)) ?_
      refine s_iconst rfl (cn rfl) ?_
      refine s_icmp_ne rfl (cn rfl) (cn rfl) (bt_b3 _ _) (by decide) (fun q15 => ?_) (fun q15 => ?_)
      · refine s_iinc rfl (cn rfl) rfl ?_
        refine s_goto rfl (ch rfl) ?_
        exact ih4 (by omega) _ (by show _ = st_sh p g A + st_bt g p * A p; rw [hx, show st_bt g p = 0 by have := bt_01 g p; omega]; omega)
      · refine s_lload_n rfl (cn rfl) rfl ?_
        refine s_aload_n rfl (cn rfl) rfl ?_
        refine s_getfield rfl (cn rfl) c32 rfl ?_
        refine s_iload rfl (cn rfl) rfl ?_
        refine s_laload rfl (cn rfl) _ rfl c33 (by omega) (by decide) rfl ?_
        refine s_ladd rfl (cn rfl) ?_
        refine s_lstore_n rfl (cn rfl) ?_
        refine s_iinc rfl (cn rfl) rfl ?_
        refine s_goto rfl (ch rfl) ?_
        exact ih4 (by omega) _ (by show _ = st_sh p g A + st_bt g p * A p; rw [hx, q15]; omega)
  exact lp4 0 (by omega) _ rfl
def msr (v A : Nat → Int) (be : Int) (E : Nat → Int) (m : Nat) : Nat → Int := fun k => if 1 ≤ k ∧ k < m then v k * be - st_sh 4 k A else E k
theorem msr_1 {v A E : Nat → Int} {be : Int} : msr v A be E 1 = E := by
  funext k
  exact if_neg (by omega)
theorem msr_s {v A E : Nat → Int} {be : Int} {m : Nat} (h : 1 ≤ m) : fu (msr v A be E m) m (v m * be - st_sh 4 m A) = msr v A be E (m + 1) := by
  funext k
  show (if k = m then v m * be - st_sh 4 m A else if 1 ≤ k ∧ k < m then v k * be - st_sh 4 k A else E k) = if 1 ≤ k ∧ k < m + 1 then v k * be - st_sh 4 k A else E k
  by_cases e : k = m
  · rw [if_pos e, if_pos (by omega), e]
  · rw [if_neg e]
    by_cases e2 : 1 ≤ k ∧ k < m
    · rw [if_pos e2, if_pos (by omega)]
    · rw [if_neg e2, if_neg (by omega)]
theorem u_measure_43 {d N S n : Nat} {v : Nat → Int} {h : Nat → Option rr_E} (hn : 2 ≤ n ∧ n ≤ 4) (c1 : h 1 = some (.inr (0, [.int (ii (n : Int)), .ref 2]))) (c2 : h 2 = some (.inl (0, 16, .inl (fun k => ii (v k))))) (hv : ∀ k, -999 ≤ v k ∧ v k ≤ 999) {be x y : Int} {A E : Nat → Int} (c43 : h 43 = some (.inr (3, [.long (jj be), .ref 44, .ref 45, .int (ii x), .int (ii y)]))) (c44 : h 44 = some (.inl (1, 4, .inr (.inl (fun k => jj (A k)))))) (c45 : h 45 = some (.inl (1, 16, .inr (.inl (fun k => jj (E k)))))) : rr_Calls (d + 2) j_Shares_measure [.ref 43, .ref 1] (N, S, h) (fun r R => r = none ∧ ∃ h', R = (N, S, h') ∧ h' 43 = some (.inr (3, [.long (jj be), .ref 44, .ref 45, .int (ii (n : Int)), .int (ii ((al n : Nat) : Int))])) ∧ h' 45 = some (.inl (1, 16, .inr (.inl (fun k => jj (msr v A be E (al n) k))))) ∧ fr [43, 45] h h') := by
  refine rr_meth (C := K_Shares_measure) (hd := h_Shares_measure) (mx := 3) rfl rfl (fun K hK => ?_)
  have hA := al_b hn
  refine hK _ _ _ _ ?_
  refine s_aload_n rfl (cn rfl) rfl ?_
  refine s_aload_n rfl (cn rfl) rfl ?_
  refine s_getfield rfl (cn rfl) c1 rfl ?_
  refine s_puti rfl (cn rfl) rfl c43 rfl ?_
  refine s_aload_n rfl (cn rfl) rfl ?_
  refine s_aload_n rfl (cn rfl) rfl ?_
  refine s_virt rfl (cn rfl) rfl rfl c1 rfl (u_all_1 hn c1) ?_
  rintro _ _ ⟨rfl, rfl⟩
  refine s_puti rfl (cn rfl) rfl rr_set_eq rfl ?_
  refine s_iconst rfl (cn rfl) ?_
  refine s_istore_n rfl (ch rfl) ?_
  have lp10 : ∀ g : Nat, g ≤ al n → ∀ (h' : Nat → Option rr_E) (h1 : 1 ≤ g) (c43 : h' 43 = some (.inr (3, [.long (jj be), .ref 44, .ref 45, .int (ii (n : Int)), .int (ii ((al n : Nat) : Int))]))) (c45 : h' 45 = some (.inl (1, 16, .inr (.inl (fun k => jj (msr v A be E g k)))))) (hf : fr [43, 45] h h'), K 10 [some (.ref 43), some (.ref 1), some (.int (ii (g : Int)))] [] (N, S, h') := by
    refine dn (fun g hg ih10 => ?_)
    intro h' h1 c43 c45 hf
    have hvg := hv g
    refine hK _ _ _ _ ?_
    refine s_iload_n rfl (cn rfl) rfl ?_
    refine s_aload_n rfl (cn rfl) rfl ?_
    refine s_getfield rfl (cn rfl) c43 rfl ?_
    refine s_icmp_ge rfl (cn rfl) (cn rfl) ⟨by omega, by omega⟩ ⟨by omega, by omega⟩ (fun q13 => ?_) (fun q13 => ?_)
    · refine s_return rfl ?_
      exact ⟨rfl, h', rfl, c43, ar_l c45 (by rw [show g = al n by omega]), hf⟩
    · refine s_aload_n rfl (cn rfl) rfl ?_
      refine s_getfield rfl (cn rfl) c43 rfl ?_
      refine s_iload_n rfl (cn rfl) rfl ?_
      refine s_aload_n rfl (cn rfl) rfl ?_
      refine s_getfield rfl (cn rfl) ((hf 1 (by decide)).trans c1) rfl ?_
      refine s_iload_n rfl (cn rfl) rfl ?_
      refine s_iaload rfl (cn rfl) _ rfl ((hf 2 (by decide)).trans c2) rfl (by omega) (by decide) rfl ?_
      refine s_i2l rfl (cn rfl) ⟨by omega, by omega⟩ ?_
      refine s_aload_n rfl (cn rfl) rfl ?_
      refine s_getfield rfl (cn rfl) c43 rfl ?_
      refine s_lmul rfl (cn rfl) ?_
      refine s_aload_n rfl (cn rfl) rfl ?_
      refine s_iload_n rfl (cn rfl) rfl ?_
      refine s_virt rfl (cn rfl) rfl rfl c43 rfl (u_sumOf_43 c43 ((hf 44 (by decide)).trans c44) (by omega)) ?_
      rintro _ _ ⟨rfl, rfl⟩
      refine s_lsub rfl (cn rfl) ?_
      refine s_lastore rfl (cn rfl) _ rfl c45 (by omega) (by decide) ?_
      refine s_iinc rfl (cn rfl) rfl ?_
      refine s_goto rfl (ch rfl) ?_
      exact ih10 (by omega) _ (by omega) c43 (ar_l rr_set_eq (msr_s h1)) (fr_s (by decide) hf)
  exact lp10 1 (by omega) _ (by omega) rr_set_eq (ar_l c45 msr_1.symm) (fr_s (by decide) (fr_s (by decide) fr_r))
theorem u_measure_46 {d N S n : Nat} {v : Nat → Int} {h : Nat → Option rr_E} (hn : 2 ≤ n ∧ n ≤ 4) (c1 : h 1 = some (.inr (0, [.int (ii (n : Int)), .ref 2]))) (c2 : h 2 = some (.inl (0, 16, .inl (fun k => ii (v k))))) (hv : ∀ k, -999 ≤ v k ∧ v k ≤ 999) {be x y : Int} {A E : Nat → Int} (c46 : h 46 = some (.inr (3, [.long (jj be), .ref 47, .ref 48, .int (ii x), .int (ii y)]))) (c47 : h 47 = some (.inl (1, 4, .inr (.inl (fun k => jj (A k)))))) (c48 : h 48 = some (.inl (1, 16, .inr (.inl (fun k => jj (E k)))))) : rr_Calls (d + 2) j_Shares_measure [.ref 46, .ref 1] (N, S, h) (fun r R => r = none ∧ ∃ h', R = (N, S, h') ∧ h' 46 = some (.inr (3, [.long (jj be), .ref 47, .ref 48, .int (ii (n : Int)), .int (ii ((al n : Nat) : Int))])) ∧ h' 48 = some (.inl (1, 16, .inr (.inl (fun k => jj (msr v A be E (al n) k))))) ∧ fr [46, 48] h h') := by
  refine rr_meth (C := K_Shares_measure) (hd := h_Shares_measure) (mx := 3) rfl rfl (fun K hK => ?_)
  have hA := al_b hn
  refine hK _ _ _ _ ?_
  refine s_aload_n rfl (cn rfl) rfl ?_
  refine s_aload_n rfl (cn rfl) rfl ?_
  refine s_getfield rfl (cn rfl) c1 rfl ?_
  refine s_puti rfl (cn rfl) rfl c46 rfl ?_
  refine s_aload_n rfl (cn rfl) rfl ?_
  refine s_aload_n rfl (cn rfl) rfl ?_
  refine s_virt rfl (cn rfl) rfl rfl c1 rfl (u_all_1 hn c1) ?_
  rintro _ _ ⟨rfl, rfl⟩
  refine s_puti rfl (cn rfl) rfl rr_set_eq rfl ?_
  refine s_iconst rfl (cn rfl) ?_
  refine s_istore_n rfl (ch rfl) ?_
  have lp10 : ∀ g : Nat, g ≤ al n → ∀ (h' : Nat → Option rr_E) (h1 : 1 ≤ g) (c46 : h' 46 = some (.inr (3, [.long (jj be), .ref 47, .ref 48, .int (ii (n : Int)), .int (ii ((al n : Nat) : Int))]))) (c48 : h' 48 = some (.inl (1, 16, .inr (.inl (fun k => jj (msr v A be E g k)))))) (hf : fr [46, 48] h h'), K 10 [some (.ref 46), some (.ref 1), some (.int (ii (g : Int)))] [] (N, S, h') := by
    refine dn (fun g hg ih10 => ?_)
    intro h' h1 c46 c48 hf
    have hvg := hv g
    refine hK _ _ _ _ ?_
    refine s_iload_n rfl (cn rfl) rfl ?_
    refine s_aload_n rfl (cn rfl) rfl ?_
    refine s_getfield rfl (cn rfl) c46 rfl ?_
    refine s_icmp_ge rfl (cn rfl) (cn rfl) ⟨by omega, by omega⟩ ⟨by omega, by omega⟩ (fun q13 => ?_) (fun q13 => ?_)
    · refine s_return rfl ?_
      exact ⟨rfl, h', rfl, c46, ar_l c48 (by rw [show g = al n by omega]), hf⟩
    · refine s_aload_n rfl (cn rfl) rfl ?_
      refine s_getfield rfl (cn rfl) c46 rfl ?_
      refine s_iload_n rfl (cn rfl) rfl ?_
      refine s_aload_n rfl (cn rfl) rfl ?_
      refine s_getfield rfl (cn rfl) ((hf 1 (by decide)).trans c1) rfl ?_
      refine s_iload_n rfl (cn rfl) rfl ?_
      refine s_iaload rfl (cn rfl) _ rfl ((hf 2 (by decide)).trans c2) rfl (by omega) (by decide) rfl ?_
      refine s_i2l rfl (cn rfl) ⟨by omega, by omega⟩ ?_
      refine s_aload_n rfl (cn rfl) rfl ?_
      refine s_getfield rfl (cn rfl) c46 rfl ?_
      refine s_lmul rfl (cn rfl) ?_
      refine s_aload_n rfl (cn rfl) rfl ?_
      refine s_iload_n rfl (cn rfl) rfl ?_
      refine s_virt rfl (cn rfl) rfl rfl c46 rfl (u_sumOf_46 c46 ((hf 47 (by decide)).trans c47) (by omega)) ?_
      rintro _ _ ⟨rfl, rfl⟩
      refine s_lsub rfl (cn rfl) ?_
      refine s_lastore rfl (cn rfl) _ rfl c48 (by omega) (by decide) ?_
      refine s_iinc rfl (cn rfl) rfl ?_
      refine s_goto rfl (ch rfl) ?_
      exact ih10 (by omega) _ (by omega) c46 (ar_l rr_set_eq (msr_s h1)) (fr_s (by decide) hf)
  exact lp10 1 (by omega) _ (by omega) rr_set_eq (ar_l c48 msr_1.symm) (fr_s (by decide) (fr_s (by decide) fr_r))
theorem u_measure_17 {d N S n : Nat} {v : Nat → Int} {h : Nat → Option rr_E} (hn : 2 ≤ n ∧ n ≤ 4) (c1 : h 1 = some (.inr (0, [.int (ii (n : Int)), .ref 2]))) (c2 : h 2 = some (.inl (0, 16, .inl (fun k => ii (v k))))) (hv : ∀ k, -999 ≤ v k ∧ v k ≤ 999) {be x y : Int} {A E : Nat → Int} (c17 : h 17 = some (.inr (3, [.long (jj be), .ref 18, .ref 19, .int (ii x), .int (ii y)]))) (c18 : h 18 = some (.inl (1, 4, .inr (.inl (fun k => jj (A k)))))) (c19 : h 19 = some (.inl (1, 16, .inr (.inl (fun k => jj (E k)))))) : rr_Calls (d + 2) j_Shares_measure [.ref 17, .ref 1] (N, S, h) (fun r R => r = none ∧ ∃ h', R = (N, S, h') ∧ h' 17 = some (.inr (3, [.long (jj be), .ref 18, .ref 19, .int (ii (n : Int)), .int (ii ((al n : Nat) : Int))])) ∧ h' 19 = some (.inl (1, 16, .inr (.inl (fun k => jj (msr v A be E (al n) k))))) ∧ fr [17, 19] h h') := by
  refine rr_meth (C := K_Shares_measure) (hd := h_Shares_measure) (mx := 3) rfl rfl (fun K hK => ?_)
  have hA := al_b hn
  refine hK _ _ _ _ ?_
  refine s_aload_n rfl (cn rfl) rfl ?_
  refine s_aload_n rfl (cn rfl) rfl ?_
  refine s_getfield rfl (cn rfl) c1 rfl ?_
  refine s_puti rfl (cn rfl) rfl c17 rfl ?_
  refine s_aload_n rfl (cn rfl) rfl ?_
  refine s_aload_n rfl (cn rfl) rfl ?_
  refine s_virt rfl (cn rfl) rfl rfl c1 rfl (u_all_1 hn c1) ?_
  rintro _ _ ⟨rfl, rfl⟩
  refine s_puti rfl (cn rfl) rfl rr_set_eq rfl ?_
  refine s_iconst rfl (cn rfl) ?_
  refine s_istore_n rfl (ch rfl) ?_
  have lp10 : ∀ g : Nat, g ≤ al n → ∀ (h' : Nat → Option rr_E) (h1 : 1 ≤ g) (c17 : h' 17 = some (.inr (3, [.long (jj be), .ref 18, .ref 19, .int (ii (n : Int)), .int (ii ((al n : Nat) : Int))]))) (c19 : h' 19 = some (.inl (1, 16, .inr (.inl (fun k => jj (msr v A be E g k)))))) (hf : fr [17, 19] h h'), K 10 [some (.ref 17), some (.ref 1), some (.int (ii (g : Int)))] [] (N, S, h') := by
    refine dn (fun g hg ih10 => ?_)
    intro h' h1 c17 c19 hf
    have hvg := hv g
    refine hK _ _ _ _ ?_
    refine s_iload_n rfl (cn rfl) rfl ?_
    refine s_aload_n rfl (cn rfl) rfl ?_
    refine s_getfield rfl (cn rfl) c17 rfl ?_
    refine s_icmp_ge rfl (cn rfl) (cn rfl) ⟨by omega, by omega⟩ ⟨by omega, by omega⟩ (fun q13 => ?_) (fun q13 => ?_)
    · refine s_return rfl ?_
      exact ⟨rfl, h', rfl, c17, ar_l c19 (by rw [show g = al n by omega]), hf⟩
    · refine s_aload_n rfl (cn rfl) rfl ?_
      refine s_getfield rfl (cn rfl) c17 rfl ?_
      refine s_iload_n rfl (cn rfl) rfl ?_
      refine s_aload_n rfl (cn rfl) rfl ?_
      refine s_getfield rfl (cn rfl) ((hf 1 (by decide)).trans c1) rfl ?_
      refine s_iload_n rfl (cn rfl) rfl ?_
      refine s_iaload rfl (cn rfl) _ rfl ((hf 2 (by decide)).trans c2) rfl (by omega) (by decide) rfl ?_
      refine s_i2l rfl (cn rfl) ⟨by omega, by omega⟩ ?_
      refine s_aload_n rfl (cn rfl) rfl ?_
      refine s_getfield rfl (cn rfl) c17 rfl ?_
      refine s_lmul rfl (cn rfl) ?_
      refine s_aload_n rfl (cn rfl) rfl ?_
      refine s_iload_n rfl (cn rfl) rfl ?_
      refine s_virt rfl (cn rfl) rfl rfl c17 rfl (u_sumOf_17 c17 ((hf 18 (by decide)).trans c18) (by omega)) ?_
      rintro _ _ ⟨rfl, rfl⟩
      refine s_lsub rfl (cn rfl) ?_
      refine s_lastore rfl (cn rfl) _ rfl c19 (by omega) (by decide) ?_
      refine s_iinc rfl (cn rfl) rfl ?_
      refine s_goto rfl (ch rfl) ?_
      exact ih10 (by omega) _ (by omega) c17 (ar_l rr_set_eq (msr_s h1)) (fr_s (by decide) hf)
  exact lp10 1 (by omega) _ (by omega) rr_set_eq (ar_l c19 msr_1.symm) (fr_s (by decide) (fr_s (by decide) fr_r))
theorem u_measure_32 {d N S n : Nat} {v : Nat → Int} {h : Nat → Option rr_E} (hn : 2 ≤ n ∧ n ≤ 4) (c5 : h 5 = some (.inr (0, [.int (ii (n : Int)), .ref 6]))) (c6 : h 6 = some (.inl (0, 16, .inl (fun k => ii (v k))))) (hv : ∀ k, -999 ≤ v k ∧ v k ≤ 999) {be x y : Int} {A E : Nat → Int} (c32 : h 32 = some (.inr (3, [.long (jj be), .ref 33, .ref 34, .int (ii x), .int (ii y)]))) (c33 : h 33 = some (.inl (1, 4, .inr (.inl (fun k => jj (A k)))))) (c34 : h 34 = some (.inl (1, 16, .inr (.inl (fun k => jj (E k)))))) : rr_Calls (d + 2) j_Shares_measure [.ref 32, .ref 5] (N, S, h) (fun r R => r = none ∧ ∃ h', R = (N, S, h') ∧ h' 32 = some (.inr (3, [.long (jj be), .ref 33, .ref 34, .int (ii (n : Int)), .int (ii ((al n : Nat) : Int))])) ∧ h' 34 = some (.inl (1, 16, .inr (.inl (fun k => jj (msr v A be E (al n) k))))) ∧ fr [32, 34] h h') := by
  refine rr_meth (C := K_Shares_measure) (hd := h_Shares_measure) (mx := 3) rfl rfl (fun K hK => ?_)
  have hA := al_b hn
  refine hK _ _ _ _ ?_
  refine s_aload_n rfl (cn rfl) rfl ?_
  refine s_aload_n rfl (cn rfl) rfl ?_
  refine s_getfield rfl (cn rfl) c5 rfl ?_
  refine s_puti rfl (cn rfl) rfl c32 rfl ?_
  refine s_aload_n rfl (cn rfl) rfl ?_
  refine s_aload_n rfl (cn rfl) rfl ?_
  refine s_virt rfl (cn rfl) rfl rfl c5 rfl (u_all_5 hn c5) ?_
  rintro _ _ ⟨rfl, rfl⟩
  refine s_puti rfl (cn rfl) rfl rr_set_eq rfl ?_
  refine s_iconst rfl (cn rfl) ?_
  refine s_istore_n rfl (ch rfl) ?_
  have lp10 : ∀ g : Nat, g ≤ al n → ∀ (h' : Nat → Option rr_E) (h1 : 1 ≤ g) (c32 : h' 32 = some (.inr (3, [.long (jj be), .ref 33, .ref 34, .int (ii (n : Int)), .int (ii ((al n : Nat) : Int))]))) (c34 : h' 34 = some (.inl (1, 16, .inr (.inl (fun k => jj (msr v A be E g k)))))) (hf : fr [32, 34] h h'), K 10 [some (.ref 32), some (.ref 5), some (.int (ii (g : Int)))] [] (N, S, h') := by
    refine dn (fun g hg ih10 => ?_)
    intro h' h1 c32 c34 hf
    have hvg := hv g
    refine hK _ _ _ _ ?_
    refine s_iload_n rfl (cn rfl) rfl ?_
    refine s_aload_n rfl (cn rfl) rfl ?_
    refine s_getfield rfl (cn rfl) c32 rfl ?_
    refine s_icmp_ge rfl (cn rfl) (cn rfl) ⟨by omega, by omega⟩ ⟨by omega, by omega⟩ (fun q13 => ?_) (fun q13 => ?_)
    · refine s_return rfl ?_
      exact ⟨rfl, h', rfl, c32, ar_l c34 (by rw [show g = al n by omega]), hf⟩
    · refine s_aload_n rfl (cn rfl) rfl ?_
      refine s_getfield rfl (cn rfl) c32 rfl ?_
      refine s_iload_n rfl (cn rfl) rfl ?_
      refine s_aload_n rfl (cn rfl) rfl ?_
      refine s_getfield rfl (cn rfl) ((hf 5 (by decide)).trans c5) rfl ?_
      refine s_iload_n rfl (cn rfl) rfl ?_
      refine s_iaload rfl (cn rfl) _ rfl ((hf 6 (by decide)).trans c6) rfl (by omega) (by decide) rfl ?_
      refine s_i2l rfl (cn rfl) ⟨by omega, by omega⟩ ?_
      refine s_aload_n rfl (cn rfl) rfl ?_
      refine s_getfield rfl (cn rfl) c32 rfl ?_
      refine s_lmul rfl (cn rfl) ?_
      refine s_aload_n rfl (cn rfl) rfl ?_
      refine s_iload_n rfl (cn rfl) rfl ?_
      refine s_virt rfl (cn rfl) rfl rfl c32 rfl (u_sumOf_32 c32 ((hf 33 (by decide)).trans c33) (by omega)) ?_
      rintro _ _ ⟨rfl, rfl⟩
      refine s_lsub rfl (cn rfl) ?_
      refine s_lastore rfl (cn rfl) _ rfl c34 (by omega) (by decide) ?_
      refine s_iinc rfl (cn rfl) rfl ?_
      refine s_goto rfl (ch rfl) ?_
      exact ih10 (by omega) _ (by omega) c32 (ar_l rr_set_eq (msr_s h1)) (fr_s (by decide) hf)
  exact lp10 1 (by omega) _ (by omega) rr_set_eq (ar_l c34 msr_1.symm) (fr_s (by decide) (fr_s (by decide) fr_r))
theorem u_ahead_43 {d N S n : Nat} {h : Nat → Option rr_E} (hn : 2 ≤ n ∧ n ≤ 4) {be : Int} {A E : Nat → Int} (c43 : h 43 = some (.inr (3, [.long (jj be), .ref 44, .ref 45, .int (ii (n : Int)), .int (ii ((al n : Nat) : Int))]))) (c44 : h 44 = some (.inl (1, 4, .inr (.inl (fun k => jj (A k)))))) (c45 : h 45 = some (.inl (1, 16, .inr (.inl (fun k => jj (E k)))))) (hE : ∀ g, 1 ≤ g → g < al n → b6 (E g)) {b : Nat} (hb : 1 ≤ b) (hb2 : b < al n) : rr_Calls (d + 1) j_Shares_countAhead [.ref 43, .int (ii (b : Int))] (N, S, h) (fun r R => r = some (.int (ii (cA E (al n) b))) ∧ R = (N, S, h)) := by
  refine rr_meth (C := K_Shares_countAhead) (hd := h_Shares_countAhead) (mx := 4) rfl rfl (fun K hK => ?_)
  have hA := al_b hn
  have eb := hE b hb hb2
  refine hK _ _ _ _ ?_
  refine s_iconst rfl (cn rfl) ?_
  refine s_istore_n rfl (cn rfl) ?_
  refine s_iconst rfl (cn rfl) ?_
  refine s_istore_n rfl (ch rfl) ?_
  have lp4 : ∀ g : Nat, g ≤ al n → ∀ (x : Int) (hx : x = gs g (fun k => ah1 E k b)) (h1 : 1 ≤ g), K 4 [some (.ref 43), some (.int (ii (b : Int))), some (.int (ii x)), some (.int (ii (g : Int)))] [] (N, S, h) := by
    refine dn (fun g hg ih4 => ?_)
    intro x hx h1
    refine hK _ _ _ _ ?_
    refine s_iload_n rfl (cn rfl) rfl ?_
    refine s_aload_n rfl (cn rfl) rfl ?_
    refine s_getfield rfl (cn rfl) c43 rfl ?_
    refine s_icmp_ge rfl (cn rfl) (cn rfl) ⟨by omega, by omega⟩ ⟨by omega, by omega⟩ (fun q7 => ?_) (fun q7 => ?_)
    · refine s_iload_n rfl (cn rfl) rfl ?_
      refine s_ireturn rfl ?_
      exact ⟨ri (by rw [hx, show g = al n by omega]; rfl), rfl⟩
    · have eg := hE g h1 (by omega)
      refine s_aload_n rfl (cn rfl) rfl ?_
      refine s_getfield rfl (cn rfl) c43 rfl ?_
      refine s_iload_n rfl (cn rfl) rfl ?_
      refine s_laload rfl (cn rfl) _ rfl c45 (by omega) (by decide) rfl ?_
      refine s_aload_n rfl (cn rfl) rfl ?_
      refine s_getfield rfl (cn rfl) c43 rfl ?_
      refine s_iload_n rfl (cn rfl) rfl ?_
      refine s_laload rfl (cn rfl) _ rfl c45 (by omega) (by decide) rfl ?_
      refine s_lcmp rfl (cn rfl) ?_
      refine s_ifl_gt rfl (cn rfl) (cn rfl) ⟨by omega, by omega⟩ ⟨by omega, by omega⟩ (fun q17 => ?_) (fun q17 => ?_)
      · refine s_iinc rfl (cn rfl) rfl ?_
        refine s_iinc rfl (cn rfl) rfl ?_
        refine s_goto rfl (ch rfl) ?_
        exact ih4 (by omega) _ (by rw [gs_s h1, hx]; unfold ah1; split <;> omega) (by omega)
      · refine s_aload_n rfl (cn rfl) rfl ?_
        refine s_getfield rfl (cn rfl) c43 rfl ?_
        refine s_iload_n rfl (cn rfl) rfl ?_
        refine s_laload rfl (cn rfl) _ rfl c45 (by omega) (by decide) rfl ?_
        refine s_aload_n rfl (cn rfl) rfl ?_
        refine s_getfield rfl (cn rfl) c43 rfl ?_
        refine s_iload_n rfl (cn rfl) rfl ?_
        refine s_laload rfl (cn rfl) _ rfl c45 (by omega) (by decide) rfl ?_
        refine s_lcmp rfl (cn rfl) ?_
        refine s_ifl_ne rfl (cn rfl) (cn rfl) ⟨by omega, by omega⟩ ⟨by omega, by omega⟩ (fun q27 => ?_) (fun q27 => ?_)
        · refine s_iinc rfl (cn rfl) rfl ?_
          refine s_goto rfl (ch rfl) ?_
          exact ih4 (by omega) _ (by rw [gs_s h1, hx]; unfold ah1; split <;> omega) (by omega)
        · refine s_iload_n rfl (cn rfl) rfl ?_
          refine s_iload_n rfl (cn rfl) rfl ?_
          refine s_icmp_ge rfl (cn rfl) (cn rfl) ⟨by omega, by omega⟩ ⟨by omega, by omega⟩ (fun q30 => ?_) (fun q30 => ?_)
          · refine s_iinc rfl (cn rfl) rfl ?_
            refine s_goto rfl (ch rfl) ?_
            exact ih4 (by omega) _ (by rw [gs_s h1, hx]; unfold ah1; split <;> omega) (by omega)
          · refine s_iinc rfl (cn rfl) rfl ?_
            refine s_iinc rfl (cn rfl) rfl ?_
            refine s_goto rfl (ch rfl) ?_
            exact ih4 (by omega) _ (by rw [gs_s h1, hx]; unfold ah1; split <;> omega) (by omega)
  exact lp4 1 (by omega) _ gs_1.symm (by omega)
theorem u_inOrder_43 {d N S n : Nat} {h : Nat → Option rr_E} (hn : 2 ≤ n ∧ n ≤ 4) {be : Int} {A E : Nat → Int} (c43 : h 43 = some (.inr (3, [.long (jj be), .ref 44, .ref 45, .int (ii (n : Int)), .int (ii ((al n : Nat) : Int))]))) (c44 : h 44 = some (.inl (1, 4, .inr (.inl (fun k => jj (A k)))))) (c45 : h 45 = some (.inl (1, 16, .inr (.inl (fun k => jj (E k)))))) (hE : ∀ g, 1 ≤ g → g < al n → b6 (E g)) {k : Int} (hk : b3 k) : rr_Calls (d + 2) j_Shares_inOrder [.ref 43, .int (ii k)] (N, S, h) (fun r R => r = some (.int (ii (ino E (al n) k))) ∧ R = (N, S, h)) := by
  refine rr_meth (C := K_Shares_inOrder) (hd := h_Shares_inOrder) (mx := 3) rfl rfl (fun K hK => ?_)
  have hA := al_b hn
  refine hK _ _ _ _ ?_
  refine s_iconst rfl (cn rfl) ?_
  refine s_istore_n rfl (ch rfl) ?_
  have lp2 : ∀ g : Nat, g ≤ al n → ∀ (h1 : 1 ≤ g) (no : ∀ j, 1 ≤ j → j < g → ¬ cA E (al n) j = k), K 2 [some (.ref 43), some (.int (ii k)), some (.int (ii (g : Int)))] [] (N, S, h) := by
    refine dn (fun g hg ih2 => ?_)
    intro h1 no
    have hcb := cA_b (E := E) (m := al n) (g := g)
    refine hK _ _ _ _ ?_
    refine s_iload_n rfl (cn rfl) rfl ?_
    refine s_aload_n rfl (cn rfl) rfl ?_
    refine s_getfield rfl (cn rfl) c43 rfl ?_
    refine s_icmp_ge rfl (cn rfl) (cn rfl) ⟨by omega, by omega⟩ ⟨by omega, by omega⟩ (fun q5 => ?_) (fun q5 => ?_)
    · refine s_iconst rfl (cn rfl) ?_
      refine s_ireturn rfl ?_
      exact ⟨ri (ff_n (fun k q1 q2 => no k q1 (by omega))), rfl⟩
    · refine s_aload_n rfl (cn rfl) rfl ?_
      refine s_iload_n rfl (cn rfl) rfl ?_
      refine s_virt rfl (cn rfl) rfl rfl c43 rfl (u_ahead_43 hn c43 c44 c45 hE h1 (by omega)) ?_
      rintro _ _ ⟨rfl, rfl⟩
      refine s_iload_n rfl (cn rfl) rfl ?_
      refine s_icmp_ne rfl (cn rfl) (cn rfl) ⟨by omega, by omega⟩ ⟨by omega, by omega⟩ (fun q10 => ?_) (fun q10 => ?_)
      · refine s_iinc rfl (cn rfl) rfl ?_
        refine s_goto rfl (ch rfl) ?_
        exact ih2 (by omega) (by omega) (fun j q1 q2 => by
            by_cases e : j = g
            · subst e; exact q10
            · exact no j q1 (by omega))
      · refine s_iload_n rfl (cn rfl) rfl ?_
        refine s_ireturn rfl ?_
        exact ⟨ri (ff_y h1 (by omega) q10 no), rfl⟩
  exact lp2 1 (by omega) (by omega) (fun k q1 q2 => absurd q2 (by omega))
theorem u_ahead_46 {d N S n : Nat} {h : Nat → Option rr_E} (hn : 2 ≤ n ∧ n ≤ 4) {be : Int} {A E : Nat → Int} (c46 : h 46 = some (.inr (3, [.long (jj be), .ref 47, .ref 48, .int (ii (n : Int)), .int (ii ((al n : Nat) : Int))]))) (c47 : h 47 = some (.inl (1, 4, .inr (.inl (fun k => jj (A k)))))) (c48 : h 48 = some (.inl (1, 16, .inr (.inl (fun k => jj (E k)))))) (hE : ∀ g, 1 ≤ g → g < al n → b6 (E g)) {b : Nat} (hb : 1 ≤ b) (hb2 : b < al n) : rr_Calls (d + 1) j_Shares_countAhead [.ref 46, .int (ii (b : Int))] (N, S, h) (fun r R => r = some (.int (ii (cA E (al n) b))) ∧ R = (N, S, h)) := by
  refine rr_meth (C := K_Shares_countAhead) (hd := h_Shares_countAhead) (mx := 4) rfl rfl (fun K hK => ?_)
  have hA := al_b hn
  have eb := hE b hb hb2
  refine hK _ _ _ _ ?_
  refine s_iconst rfl (cn rfl) ?_
  refine s_istore_n rfl (cn rfl) ?_
  refine s_iconst rfl (cn rfl) ?_
  refine s_istore_n rfl (ch rfl) ?_
  have lp4 : ∀ g : Nat, g ≤ al n → ∀ (x : Int) (hx : x = gs g (fun k => ah1 E k b)) (h1 : 1 ≤ g), K 4 [some (.ref 46), some (.int (ii (b : Int))), some (.int (ii x)), some (.int (ii (g : Int)))] [] (N, S, h) := by
    refine dn (fun g hg ih4 => ?_)
    intro x hx h1
    refine hK _ _ _ _ ?_
    refine s_iload_n rfl (cn rfl) rfl ?_
    refine s_aload_n rfl (cn rfl) rfl ?_
    refine s_getfield rfl (cn rfl) c46 rfl ?_
    refine s_icmp_ge rfl (cn rfl) (cn rfl) ⟨by omega, by omega⟩ ⟨by omega, by omega⟩ (fun q7 => ?_) (fun q7 => ?_)
    · refine s_iload_n rfl (cn rfl) rfl ?_
      refine s_ireturn rfl ?_
      exact ⟨ri (by rw [hx, show g = al n by omega]; rfl), rfl⟩
    · have eg := hE g h1 (by omega)
      refine s_aload_n rfl (cn rfl) rfl ?_
      refine s_getfield rfl (cn rfl) c46 rfl ?_
      refine s_iload_n rfl (cn rfl) rfl ?_
      refine s_laload rfl (cn rfl) _ rfl c48 (by omega) (by decide) rfl ?_
      refine s_aload_n rfl (cn rfl) rfl ?_
      refine s_getfield rfl (cn rfl) c46 rfl ?_
      refine s_iload_n rfl (cn rfl) rfl ?_
      refine s_laload rfl (cn rfl) _ rfl c48 (by omega) (by decide) rfl ?_
      refine s_lcmp rfl (cn rfl) ?_
      refine s_ifl_gt rfl (cn rfl) (cn rfl) ⟨by omega, by omega⟩ ⟨by omega, by omega⟩ (fun q17 => ?_) (fun q17 => ?_)
      · refine s_iinc rfl (cn rfl) rfl ?_
        refine s_iinc rfl (cn rfl) rfl ?_
        refine s_goto rfl (ch rfl) ?_
        exact ih4 (by omega) _ (by rw [gs_s h1, hx]; unfold ah1; split <;> omega) (by omega)
      · refine s_aload_n rfl (cn rfl) rfl ?_
        refine s_getfield rfl (cn rfl) c46 rfl ?_
        refine s_iload_n rfl (cn rfl) rfl ?_
        refine s_laload rfl (cn rfl) _ rfl c48 (by omega) (by decide) rfl ?_
        refine s_aload_n rfl (cn rfl) rfl ?_
        refine s_getfield rfl (cn rfl) c46 rfl ?_
        refine s_iload_n rfl (cn rfl) rfl ?_
        refine s_laload rfl (cn rfl) _ rfl c48 (by omega) (by decide) rfl ?_
        refine s_lcmp rfl (cn rfl) ?_
        refine s_ifl_ne rfl (cn rfl) (cn rfl) ⟨by omega, by omega⟩ ⟨by omega, by omega⟩ (fun q27 => ?_) (fun q27 => ?_)
        · refine s_iinc rfl (cn rfl) rfl ?_
          refine s_goto rfl (ch rfl) ?_
          exact ih4 (by omega) _ (by rw [gs_s h1, hx]; unfold ah1; split <;> omega) (by omega)
        · refine s_iload_n rfl (cn rfl) rfl ?_
          refine s_iload_n rfl (cn rfl) rfl ?_
          refine s_icmp_ge rfl (cn rfl) (cn rfl) ⟨by omega, by omega⟩ ⟨by omega, by omega⟩ (fun q30 => ?_) (fun q30 => ?_)
          · refine s_iinc rfl (cn rfl) rfl ?_
            refine s_goto rfl (ch rfl) ?_
            exact ih4 (by omega) _ (by rw [gs_s h1, hx]; unfold ah1; split <;> omega) (by omega)
          · refine s_iinc rfl (cn rfl) rfl ?_
            refine s_iinc rfl (cn rfl) rfl ?_
            refine s_goto rfl (ch rfl) ?_
            exact ih4 (by omega) _ (by rw [gs_s h1, hx]; unfold ah1; split <;> omega) (by omega)
  exact lp4 1 (by omega) _ gs_1.symm (by omega)
theorem u_inOrder_46 {d N S n : Nat} {h : Nat → Option rr_E} (hn : 2 ≤ n ∧ n ≤ 4) {be : Int} {A E : Nat → Int} (c46 : h 46 = some (.inr (3, [.long (jj be), .ref 47, .ref 48, .int (ii (n : Int)), .int (ii ((al n : Nat) : Int))]))) (c47 : h 47 = some (.inl (1, 4, .inr (.inl (fun k => jj (A k)))))) (c48 : h 48 = some (.inl (1, 16, .inr (.inl (fun k => jj (E k)))))) (hE : ∀ g, 1 ≤ g → g < al n → b6 (E g)) {k : Int} (hk : b3 k) : rr_Calls (d + 2) j_Shares_inOrder [.ref 46, .int (ii k)] (N, S, h) (fun r R => r = some (.int (ii (ino E (al n) k))) ∧ R = (N, S, h)) := by
  refine rr_meth (C := K_Shares_inOrder) (hd := h_Shares_inOrder) (mx := 3) rfl rfl (fun K hK => ?_)
  have hA := al_b hn
  refine hK _ _ _ _ ?_
  refine s_iconst rfl (cn rfl) ?_
  refine s_istore_n rfl (ch rfl) ?_
  have lp2 : ∀ g : Nat, g ≤ al n → ∀ (h1 : 1 ≤ g) (no : ∀ j, 1 ≤ j → j < g → ¬ cA E (al n) j = k), K 2 [some (.ref 46), some (.int (ii k)), some (.int (ii (g : Int)))] [] (N, S, h) := by
    refine dn (fun g hg ih2 => ?_)
    intro h1 no
    have hcb := cA_b (E := E) (m := al n) (g := g)
    refine hK _ _ _ _ ?_
    refine s_iload_n rfl (cn rfl) rfl ?_
    refine s_aload_n rfl (cn rfl) rfl ?_
    refine s_getfield rfl (cn rfl) c46 rfl ?_
    refine s_icmp_ge rfl (cn rfl) (cn rfl) ⟨by omega, by omega⟩ ⟨by omega, by omega⟩ (fun q5 => ?_) (fun q5 => ?_)
    · refine s_iconst rfl (cn rfl) ?_
      refine s_ireturn rfl ?_
      exact ⟨ri (ff_n (fun k q1 q2 => no k q1 (by omega))), rfl⟩
    · refine s_aload_n rfl (cn rfl) rfl ?_
      refine s_iload_n rfl (cn rfl) rfl ?_
      refine s_virt rfl (cn rfl) rfl rfl c46 rfl (u_ahead_46 hn c46 c47 c48 hE h1 (by omega)) ?_
      rintro _ _ ⟨rfl, rfl⟩
      refine s_iload_n rfl (cn rfl) rfl ?_
      refine s_icmp_ne rfl (cn rfl) (cn rfl) ⟨by omega, by omega⟩ ⟨by omega, by omega⟩ (fun q10 => ?_) (fun q10 => ?_)
      · refine s_iinc rfl (cn rfl) rfl ?_
        refine s_goto rfl (ch rfl) ?_
        exact ih2 (by omega) (by omega) (fun j q1 q2 => by
            by_cases e : j = g
            · subst e; exact q10
            · exact no j q1 (by omega))
      · refine s_iload_n rfl (cn rfl) rfl ?_
        refine s_ireturn rfl ?_
        exact ⟨ri (ff_y h1 (by omega) q10 no), rfl⟩
  exact lp2 1 (by omega) (by omega) (fun k q1 q2 => absurd q2 (by omega))
theorem u_ahead_17 {d N S n : Nat} {h : Nat → Option rr_E} (hn : 2 ≤ n ∧ n ≤ 4) {be : Int} {A E : Nat → Int} (c17 : h 17 = some (.inr (3, [.long (jj be), .ref 18, .ref 19, .int (ii (n : Int)), .int (ii ((al n : Nat) : Int))]))) (c18 : h 18 = some (.inl (1, 4, .inr (.inl (fun k => jj (A k)))))) (c19 : h 19 = some (.inl (1, 16, .inr (.inl (fun k => jj (E k)))))) (hE : ∀ g, 1 ≤ g → g < al n → b6 (E g)) {b : Nat} (hb : 1 ≤ b) (hb2 : b < al n) : rr_Calls (d + 1) j_Shares_countAhead [.ref 17, .int (ii (b : Int))] (N, S, h) (fun r R => r = some (.int (ii (cA E (al n) b))) ∧ R = (N, S, h)) := by
  refine rr_meth (C := K_Shares_countAhead) (hd := h_Shares_countAhead) (mx := 4) rfl rfl (fun K hK => ?_)
  have hA := al_b hn
  have eb := hE b hb hb2
  refine hK _ _ _ _ ?_
  refine s_iconst rfl (cn rfl) ?_
  refine s_istore_n rfl (cn rfl) ?_
  refine s_iconst rfl (cn rfl) ?_
  refine s_istore_n rfl (ch rfl) ?_
  have lp4 : ∀ g : Nat, g ≤ al n → ∀ (x : Int) (hx : x = gs g (fun k => ah1 E k b)) (h1 : 1 ≤ g), K 4 [some (.ref 17), some (.int (ii (b : Int))), some (.int (ii x)), some (.int (ii (g : Int)))] [] (N, S, h) := by
    refine dn (fun g hg ih4 => ?_)
    intro x hx h1
    refine hK _ _ _ _ ?_
    refine s_iload_n rfl (cn rfl) rfl ?_
    refine s_aload_n rfl (cn rfl) rfl ?_
    refine s_getfield rfl (cn rfl) c17 rfl ?_
    refine s_icmp_ge rfl (cn rfl) (cn rfl) ⟨by omega, by omega⟩ ⟨by omega, by omega⟩ (fun q7 => ?_) (fun q7 => ?_)
    · refine s_iload_n rfl (cn rfl) rfl ?_
      refine s_ireturn rfl ?_
      exact ⟨ri (by rw [hx, show g = al n by omega]; rfl), rfl⟩
    · have eg := hE g h1 (by omega)
      refine s_aload_n rfl (cn rfl) rfl ?_
      refine s_getfield rfl (cn rfl) c17 rfl ?_
      refine s_iload_n rfl (cn rfl) rfl ?_
      refine s_laload rfl (cn rfl) _ rfl c19 (by omega) (by decide) rfl ?_
      refine s_aload_n rfl (cn rfl) rfl ?_
      refine s_getfield rfl (cn rfl) c17 rfl ?_
      refine s_iload_n rfl (cn rfl) rfl ?_
      refine s_laload rfl (cn rfl) _ rfl c19 (by omega) (by decide) rfl ?_
      refine s_lcmp rfl (cn rfl) ?_
      refine s_ifl_gt rfl (cn rfl) (cn rfl) ⟨by omega, by omega⟩ ⟨by omega, by omega⟩ (fun q17 => ?_) (fun q17 => ?_)
      · refine s_iinc rfl (cn rfl) rfl ?_
        refine s_iinc rfl (cn rfl) rfl ?_
        refine s_goto rfl (ch rfl) ?_
        exact ih4 (by omega) _ (by rw [gs_s h1, hx]; unfold ah1; split <;> omega) (by omega)
      · refine s_aload_n rfl (cn rfl) rfl ?_
        refine s_getfield rfl (cn rfl) c17 rfl ?_
        refine s_iload_n rfl (cn rfl) rfl ?_
        refine s_laload rfl (cn rfl) _ rfl c19 (by omega) (by decide) rfl ?_
        refine s_aload_n rfl (cn rfl) rfl ?_
        refine s_getfield rfl (cn rfl) c17 rfl ?_
        refine s_iload_n rfl (cn rfl) rfl ?_
        refine s_laload rfl (cn rfl) _ rfl c19 (by omega) (by decide) rfl ?_
        refine s_lcmp rfl (cn rfl) ?_
        refine s_ifl_ne rfl (cn rfl) (cn rfl) ⟨by omega, by omega⟩ ⟨by omega, by omega⟩ (fun q27 => ?_) (fun q27 => ?_)
        · refine s_iinc rfl (cn rfl) rfl ?_
          refine s_goto rfl (ch rfl) ?_
          exact ih4 (by omega) _ (by rw [gs_s h1, hx]; unfold ah1; split <;> omega) (by omega)
        · refine s_iload_n rfl (cn rfl) rfl ?_
          refine s_iload_n rfl (cn rfl) rfl ?_
          refine s_icmp_ge rfl (cn rfl) (cn rfl) ⟨by omega, by omega⟩ ⟨by omega, by omega⟩ (fun q30 => ?_) (fun q30 => ?_)
          · refine s_iinc rfl (cn rfl) rfl ?_
            refine s_goto rfl (ch rfl) ?_
            exact ih4 (by omega) _ (by rw [gs_s h1, hx]; unfold ah1; split <;> omega) (by omega)
          · refine s_iinc rfl (cn rfl) rfl ?_
            refine s_iinc rfl (cn rfl) rfl ?_
            refine s_goto rfl (ch rfl) ?_
            exact ih4 (by omega) _ (by rw [gs_s h1, hx]; unfold ah1; split <;> omega) (by omega)
  exact lp4 1 (by omega) _ gs_1.symm (by omega)
theorem u_inOrder_17 {d N S n : Nat} {h : Nat → Option rr_E} (hn : 2 ≤ n ∧ n ≤ 4) {be : Int} {A E : Nat → Int} (c17 : h 17 = some (.inr (3, [.long (jj be), .ref 18, .ref 19, .int (ii (n : Int)), .int (ii ((al n : Nat) : Int))]))) (c18 : h 18 = some (.inl (1, 4, .inr (.inl (fun k => jj (A k)))))) (c19 : h 19 = some (.inl (1, 16, .inr (.inl (fun k => jj (E k)))))) (hE : ∀ g, 1 ≤ g → g < al n → b6 (E g)) {k : Int} (hk : b3 k) : rr_Calls (d + 2) j_Shares_inOrder [.ref 17, .int (ii k)] (N, S, h) (fun r R => r = some (.int (ii (ino E (al n) k))) ∧ R = (N, S, h)) := by
  refine rr_meth (C := K_Shares_inOrder) (hd := h_Shares_inOrder) (mx := 3) rfl rfl (fun K hK => ?_)
  have hA := al_b hn
  refine hK _ _ _ _ ?_
  refine s_iconst rfl (cn rfl) ?_
  refine s_istore_n rfl (ch rfl) ?_
  have lp2 : ∀ g : Nat, g ≤ al n → ∀ (h1 : 1 ≤ g) (no : ∀ j, 1 ≤ j → j < g → ¬ cA E (al n) j = k), K 2 [some (.ref 17), some (.int (ii k)), some (.int (ii (g : Int)))] [] (N, S, h) := by
    refine dn (fun g hg ih2 => ?_)
    intro h1 no
    have hcb := cA_b (E := E) (m := al n) (g := g)
    refine hK _ _ _ _ ?_
    refine s_iload_n rfl (cn rfl) rfl ?_
    refine s_aload_n rfl (cn rfl) rfl ?_
    refine s_getfield rfl (cn rfl) c17 rfl ?_
    refine s_icmp_ge rfl (cn rfl) (cn rfl) ⟨by omega, by omega⟩ ⟨by omega, by omega⟩ (fun q5 => ?_) (fun q5 => ?_)
    · refine s_iconst rfl (cn rfl) ?_
      refine s_ireturn rfl ?_
      exact ⟨ri (ff_n (fun k q1 q2 => no k q1 (by omega))), rfl⟩
    · refine s_aload_n rfl (cn rfl) rfl ?_
      refine s_iload_n rfl (cn rfl) rfl ?_
      refine s_virt rfl (cn rfl) rfl rfl c17 rfl (u_ahead_17 hn c17 c18 c19 hE h1 (by omega)) ?_
      rintro _ _ ⟨rfl, rfl⟩
      refine s_iload_n rfl (cn rfl) rfl ?_
      refine s_icmp_ne rfl (cn rfl) (cn rfl) ⟨by omega, by omega⟩ ⟨by omega, by omega⟩ (fun q10 => ?_) (fun q10 => ?_)
      · refine s_iinc rfl (cn rfl) rfl ?_
        refine s_goto rfl (ch rfl) ?_
        exact ih2 (by omega) (by omega) (fun j q1 q2 => by
            by_cases e : j = g
            · subst e; exact q10
            · exact no j q1 (by omega))
      · refine s_iload_n rfl (cn rfl) rfl ?_
        refine s_ireturn rfl ?_
        exact ⟨ri (ff_y h1 (by omega) q10 no), rfl⟩
  exact lp2 1 (by omega) (by omega) (fun k q1 q2 => absurd q2 (by omega))
