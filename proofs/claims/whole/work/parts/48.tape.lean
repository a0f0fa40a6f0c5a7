/-! The class's reader: the whole tape. -/
abbrev Dd : Type := Int × Int × Int
def cont (L : List Dd) (r : Nat ⊕ List Dd) : Nat ⊕ List Dd := match r with
  | .inl f => .inl f
  | .inr l => .inr (L ++ l)
noncomputable def outD (tp : Nat → Int) (tl : Nat) : Nat → Nat → Nat ⊕ List Dd
  | 0, p => .inl p
  | k + 1, p => match rD tp tl p with
    | .inl f => .inl f
    | .inr x => cont [(x.2.1, x.2.2.1, x.2.2.2)] (if x.1 = tl then .inr [] else if hr tp tl x.1 = 59 then outD tp tl k (x.1 + 1) else .inl x.1)
noncomputable def aft (tp : Nat → Int) (tl k q : Nat) : Nat ⊕ List Dd := if q = tl then .inr [] else if hr tp tl q = 59 then outD tp tl k (q + 1) else .inl q
theorem out_f {tp : Nat → Int} {tl k p f : Nat} (h : rD tp tl p = .inl f) : outD tp tl (k + 1) p = .inl f := by
  unfold outD; rw [h]
theorem out_g {tp : Nat → Int} {tl k p q : Nat} {D : Dd} (h : rD tp tl p = .inr (q, D.1, D.2.1, D.2.2)) : outD tp tl (k + 1) p = cont [D] (aft tp tl k q) := by
  show (match rD tp tl p with | .inl f => _ | .inr x => _) = _
  rw [h]; rfl
theorem cont_c {L : List Dd} {D : Dd} {r : Nat ⊕ List Dd} : cont L (cont [D] r) = cont (L ++ [D]) r := by
  cases r with
  | inl f => rfl
  | inr l => show Sum.inr (L ++ ([D] ++ l)) = Sum.inr (L ++ [D] ++ l); rw [List.append_assoc]
/-- a deed as the arrays hold it -/
def dk (D : Dd) (K x y : Int) : Prop := K = D.1 ∧ (D.1 = 0 → x = D.2.1) ∧ (D.1 = 1 ∨ D.1 = 2 ∨ D.1 = 5 → x = D.2.1 ∧ y = D.2.2)
def dw (D : Dd) : Prop := (0 ≤ D.1 ∧ D.1 ≤ 5) ∧ (-999 ≤ D.2.1 ∧ D.2.1 ≤ 999) ∧ (-999 ≤ D.2.2 ∧ D.2.2 ≤ 999)
def hold (L : List Dd) (kn fi se : Nat → Int) : Prop := ∀ j, (h : j < L.length) → dk L[j] (kn j) (fi j) (se j) ∧ dw L[j]
theorem hold_0 {kn fi se : Nat → Int} : hold [] kn fi se := fun j h => absurd h (Nat.not_lt_zero j)
theorem hold_s {L : List Dd} {D : Dd} {kn fi se kn' fi' se' : Nat → Int} (h : hold L kn fi se) (hu : ∀ j, j ≠ L.length → kn' j = kn j ∧ fi' j = fi j ∧ se' j = se j) (hd : dk D (kn' L.length) (fi' L.length) (se' L.length)) (hw : dw D) : hold (L ++ [D]) kn' fi' se' := by
  intro j hj
  rw [List.length_append, List.length_singleton] at hj
  by_cases e : j = L.length
  · subst e
    rw [List.getElem_append_right (Nat.le_refl _)]
    simp only [Nat.sub_self, List.getElem_cons_zero]
    exact ⟨hd, hw⟩
  · rw [List.getElem_append_left (show j < L.length by omega), (hu j e).1, (hu j e).2.1, (hu j e).2.2]
    exact h j (by omega)
theorem sb_l {α β : Type} {m : Nat ⊕ α} {g : α → Nat ⊕ β} {f : Nat} (h : sb m g = .inl f) : m = .inl f ∨ ∃ a, m = .inr a ∧ g a = .inl f := by
  cases m with
  | inl e =>
    have h2 : (Sum.inl e : Nat ⊕ β) = .inl f := h
    injection h2 with h3
    exact Or.inl (by rw [h3])
  | inr a => exact Or.inr ⟨a, rfl, h⟩
theorem rB_l {tp : Nat → Int} {tl p f : Nat} (h : rB tp tl p = .inl f) : f = p := by
  unfold rB at h
  split at h
  · cases h
  · injection h with h; exact h.symm
theorem rB_r {tp : Nat → Int} {tl p q : Nat} (h : rB tp tl p = .inr q) : q = p + 1 ∧ q ≤ tl := by
  unfold rB at h
  split at h
  · next e =>
    injection h with h
    have := hr_in (tp := tp) (tl := tl) (p := p) (by omega)
    omega
  · cases h
theorem rN_l {tp : Nat → Int} {tl p f : Nat} (hp : p ≤ tl) (h : rN tp tl p = .inl f) : f ≤ tl := by
  unfold rN at h
  split at h
  · cases h
  · injection h with h
    rw [← h]
    unfold rNs
    split
    · have := hr_in (tp := tp) (tl := tl) (p := p) (by omega)
      omega
    · exact hp
theorem rG_l {tp : Nat → Int} {tl p f : Nat} (h : rG tp tl p = .inl f) : f = p := by
  unfold rG at h
  by_cases g : gV tp p (plN tp tl p)
  · rw [ci_y g] at h; cases h
  · rw [ci_n g] at h; injection h with h; exact h.symm
theorem rP_l {tp : Nat → Int} {tl p f : Nat} (h : rP tp tl p = .inl f) : f = p := by
  unfold rP at h
  split at h
  · cases h
  · injection h with h; exact h.symm
theorem rA_l {tp : Nat → Int} {tl p f : Nat} {k : Int} (hp : p ≤ tl) (h : rA tp tl k p = .inl f) : f ≤ tl := by
  unfold rA at h
  split at h
  · rcases sb_l h with h | ⟨a, h1, h⟩
    · have := rB_l h; omega
    · have h2 := rB_r h1
      rcases sb_l h with h | ⟨b, h3, h⟩
      · exact rN_l (by omega) h
      · cases h
  · split at h
    · rcases sb_l h with h | ⟨a, h1, h⟩
      · have := rB_l h; omega
      · have h2 := rB_r h1
        rcases sb_l h with h | ⟨b, h3, h⟩
        · have := rG_l h; omega
        · have h4 := rG_b (by omega) h3
          rcases sb_l h with h | ⟨c, h5, h⟩
          · have := rB_l h; omega
          · have h6 := rB_r h5
            rcases sb_l h with h | ⟨e, h7, h⟩
            · exact rN_l (by omega) h
            · cases h
    · split at h
      · rcases sb_l h with h | ⟨a, h1, h⟩
        · have := rB_l h; omega
        · have h2 := rB_r h1
          rcases sb_l h with h | ⟨b, h3, h⟩
          · have := rP_l h; omega
          · have h4 := rP_b (by omega) h3
            rcases sb_l h with h | ⟨c, h5, h⟩
            · have := rB_l h; omega
            · have h6 := rB_r h5
              rcases sb_l h with h | ⟨e, h7, h⟩
              · have := rP_l h; omega
              · cases h
      · cases h
theorem rD_l {tp : Nat → Int} {tl p f : Nat} (hp : p ≤ tl) (h : rD tp tl p = .inl f) : f ≤ tl := by
  have hs := pl_s (tp := tp) hp
  unfold rD at h
  split at h
  · injection h with h; omega
  · rcases sb_l h with h | ⟨a, h1, h⟩
    · exact rA_l hs.2.1 h
    · cases h
theorem u_deed {d N S : Nat} {h : Nat → Option rr_E} {tl : Nat} {sc : Nat} {sf sv : Int} {tp : Nat → Int} {p : Nat} (htl : tl ≤ 100) (hp : p ≤ tl) (ht : ∀ p, p < tl → 1 ≤ tp p ∧ tp p ≤ 127) (c7 : h 7 = some (SC (tl : Int) (sc : Int) (p : Int) sf sv)) (c8 : h 8 = some (.inl (0, 100, .inl (fun k => ii (tp k))))) (hsc : sc < 25) {kn fi se : Nat → Int} (c9 : h 9 = some (.inl (0, 25, .inl (fun k => ii (kn k))))) (c10 : h 10 = some (.inl (0, 25, .inl (fun k => ii (fi k))))) (c11 : h 11 = some (.inl (0, 25, .inl (fun k => ii (se k))))) (c1000010 : h 1000010 = some (.inr (20, [.ref 1000020, .int (ii 0)]))) (c1000020 : h 1000020 = some (.inl (9, 6, .inl (fun j => (rr_sby.getD 0 []).getD j 0)))) (c1000011 : h 1000011 = some (.inr (20, [.ref 1000021, .int (ii 0)]))) (c1000021 : h 1000021 = some (.inl (9, 5, .inl (fun j => (rr_sby.getD 1 []).getD j 0)))) (c1000012 : h 1000012 = some (.inr (20, [.ref 1000022, .int (ii 0)]))) (c1000022 : h 1000022 = some (.inl (9, 4, .inl (fun j => (rr_sby.getD 2 []).getD j 0)))) (c1000013 : h 1000013 = some (.inr (20, [.ref 1000023, .int (ii 0)]))) (c1000023 : h 1000023 = some (.inl (9, 4, .inl (fun j => (rr_sby.getD 3 []).getD j 0)))) (c1000014 : h 1000014 = some (.inr (20, [.ref 1000024, .int (ii 0)]))) (c1000024 : h 1000024 = some (.inl (9, 4, .inl (fun j => (rr_sby.getD 4 []).getD j 0)))) (c1000015 : h 1000015 = some (.inr (20, [.ref 1000025, .int (ii 0)]))) (c1000025 : h 1000025 = some (.inl (9, 4, .inl (fun j => (rr_sby.getD 5 []).getD j 0)))) : rr_Calls (d + 7) j_Script_readDeed [.ref 7] (N, S, h) (fun r R => (∃ (q : Nat) (D : Dd), rD tp tl p = .inr (q, D.1, D.2.1, D.2.2) ∧ p + 4 ≤ q ∧ q ≤ tl ∧ dw D ∧ r = some (.int (ii 1)) ∧ ∃ h', R = (N, S, h') ∧ fr [7, 9, 10, 11] h h' ∧ ∃ (sv2 : Int) (kn2 fi2 se2 : Nat → Int), h' 7 = some (SC (tl : Int) ((sc + 1 : Nat) : Int) (q : Int) sf sv2) ∧ h' 9 = some (.inl (0, 25, .inl (fun k => ii (kn2 k)))) ∧ h' 10 = some (.inl (0, 25, .inl (fun k => ii (fi2 k)))) ∧ h' 11 = some (.inl (0, 25, .inl (fun k => ii (se2 k)))) ∧ (∀ j, j ≠ sc → kn2 j = kn j ∧ fi2 j = fi j ∧ se2 j = se j) ∧ dk D (kn2 sc) (fi2 sc) (se2 sc)) ∨ (∃ (f : Nat), rD tp tl p = .inl f ∧ r = some (.int (ii 0)) ∧ ∃ h', R = (N, S, h') ∧ fr [7, 9, 10, 11] h h' ∧ ∃ (sc2 sp2 sv2 : Int) (kn2 fi2 se2 : Nat → Int), h' 7 = some (SC (tl : Int) sc2 sp2 (f : Int) sv2) ∧ h' 9 = some (.inl (0, 25, .inl (fun k => ii (kn2 k)))) ∧ h' 10 = some (.inl (0, 25, .inl (fun k => ii (fi2 k)))) ∧ h' 11 = some (.inl (0, 25, .inl (fun k => ii (se2 k)))))) := by
  refine rr_meth (C := K_Script_readDeed) (hd := h_Script_readDeed) (mx := 3) rfl rfl (fun K hK => ?_)
  refine hK _ _ _ _ ?_
  refine s_aload_n rfl (cn rfl) rfl ?_
  refine s_getfield rfl (cn rfl) c7 rfl ?_
  refine s_istore_n rfl (cn rfl) ?_
  refine s_aload_n rfl (cn rfl) rfl ?_
  refine s_virt rfl (cn rfl) rfl rfl c7 rfl (u_pass htl hp ht c7 c8) ?_
  rintro _ _ ⟨rfl, h1, rfl, hf1, c7⟩
  obtain ⟨pl1, pl2, pl3, pl4⟩ := pl_s (tp := tp) hp
  have hkb := kd_b tp p (plN tp tl p)
  have c8 := (hf1 8 (by decide)).trans c8
  have c9 := (hf1 9 (by decide)).trans c9
  have c10 := (hf1 10 (by decide)).trans c10
  have c11 := (hf1 11 (by decide)).trans c11
  have c1000010 := (hf1 1000010 (by decide)).trans c1000010
  have c1000011 := (hf1 1000011 (by decide)).trans c1000011
  have c1000012 := (hf1 1000012 (by decide)).trans c1000012
  have c1000013 := (hf1 1000013 (by decide)).trans c1000013
  have c1000014 := (hf1 1000014 (by decide)).trans c1000014
  have c1000015 := (hf1 1000015 (by decide)).trans c1000015
  have c1000020 := (hf1 1000020 (by decide)).trans c1000020
  have c1000021 := (hf1 1000021 (by decide)).trans c1000021
  have c1000022 := (hf1 1000022 (by decide)).trans c1000022
  have c1000023 := (hf1 1000023 (by decide)).trans c1000023
  have c1000024 := (hf1 1000024 (by decide)).trans c1000024
  have c1000025 := (hf1 1000025 (by decide)).trans c1000025
  refine s_aload_n rfl (cn rfl) rfl ?_
  refine s_iload_n rfl (cn rfl) rfl ?_
  refine s_virt rfl (cn rfl) rfl rfl c7 rfl (u_kindOf htl pl2 ht c7 c8 c1000010 c1000020 c1000011 c1000021 c1000012 c1000022 c1000013 c1000023 c1000014 c1000024 c1000015 c1000025 pl1) ?_
  rintro _ _ ⟨rfl, rfl⟩
  refine s_istore_n rfl (cn rfl) ?_
  refine s_iload_n rfl (cn rfl) rfl ?_
  refine s_iconst rfl (cn rfl) ?_
  refine s_icmp_eq rfl (cn rfl) (cn rfl) ⟨by omega, by omega⟩ ⟨by omega, by omega⟩ (fun q11 => ?_) (fun q11 => ?_)
  · refine s_aload_n rfl (cn rfl) rfl ?_
    refine s_iload_n rfl (cn rfl) rfl ?_
    refine s_virt rfl (cn rfl) rfl rfl c7 rfl (u_fail c7) ?_
    rintro _ _ ⟨rfl, h9, rfl, hf9, d7⟩
    · refine s_zreturn rfl (Or.inl rfl) ?_
      exact Or.inr ⟨p, if_pos q11, rfl, h9, rfl, fr_t (fr_w hf1 (by decide)) hf9 (by decide), _, _, _, _, _, _, d7, (hf9 9 (by decide)).trans c9, (hf9 10 (by decide)).trans c10, (hf9 11 (by decide)).trans c11⟩
  · have hk5 : 0 ≤ kd tp p (plN tp tl p) ∧ kd tp p (plN tp tl p) ≤ 5 ∧ p + 4 ≤ plN tp tl p := by omega
    refine s_aload_n rfl (cn rfl) rfl ?_
    refine s_getfield rfl (cn rfl) c7 rfl ?_
    refine s_bipush rfl (cn rfl) (by decide) ?_
    refine s_icmp_lt rfl (cn rfl) (cn rfl) ⟨by omega, by omega⟩ ⟨by omega, by omega⟩ (fun q15 => ?_) (fun q15 => ?_)
    · refine s_aload_n rfl (cn rfl) rfl ?_
      refine s_getfield rfl (cn rfl) c7 rfl ?_
      refine s_aload_n rfl (cn rfl) rfl ?_
      refine s_getfield rfl (cn rfl) c7 rfl ?_
      refine s_iload_n rfl (cn rfl) rfl ?_
      refine s_iastore rfl (cn rfl) _ rfl c9 (by omega) (by decide) ?_
      refine s_aload_n rfl (cn rfl) rfl ?_
      refine s_iload_n rfl (cn rfl) rfl ?_
      refine s_virt rfl (cn rfl) rfl rfl c7 rfl (u_args (h := rr_set h1 9 (.inl (0, 25, .inl (fun j => ii (fu kn sc (kd tp p (plN tp tl p)) j))))) (kk := kd tp p (plN tp tl p)) htl pl2 ht c7 c8 hsc c10 c11 (by omega)) ?_
      rintro _ _ (⟨q, a, b, eA, la1, la2, la3, la4, rfl, h2, rfl, hf2, sv2, fi2, se2, c7, c10, c11, hu, hk0, hk1⟩ | ⟨f, eA, rfl, h2, rfl, hf2, sp2, sv2, fi2, se2, c7, c10, c11⟩)
      · have c9 : h2 9 = _ := (hf2 9 (by decide)).trans rr_set_eq
        refine s_if_ne rfl (cn rfl) (cn rfl) (by decide) (fun q29 => ?_) (fun q29 => absurd q29 (by decide))
        refine s_aload_n rfl (cn rfl) rfl ?_
        refine s_dupr rfl (cn rfl) ?_
        refine s_getfield rfl (cn rfl) c7 rfl ?_
        refine s_iconst rfl (cn rfl) ?_
        refine s_iadd rfl (cn rfl) ?_
        refine s_puti rfl (cn rfl) rfl c7 rfl ?_
        refine s_iconst rfl (cn rfl) ?_
        refine s_zreturn rfl (Or.inr rfl) ?_
        exact Or.inl ⟨q, (kd tp p (plN tp tl p), a, b), by unfold rD; rw [if_neg q11, eA]; rfl, by omega, la2, ⟨⟨hk5.1, hk5.2.1⟩, la3, la4⟩, rfl, _, rfl, fr_s (by decide) (fr_t (fr_t (fr_w hf1 (by decide)) (m := [9]) (fr_s (by decide) fr_r) (by decide)) hf2 (by decide)), _, _, _, _, rr_set_eq, c9, c10, c11, fun j hj => ⟨fu_n hj, (hu j hj).1, (hu j hj).2⟩, ⟨fu_s, fun e => hk0 e, fun e => hk1 e⟩⟩
      · have c9 : h2 9 = _ := (hf2 9 (by decide)).trans rr_set_eq
        refine s_if_ne rfl (cn rfl) (cn rfl) (by decide) (fun q29 => absurd q29 (by decide)) (fun q29 => ?_)
        refine s_iconst rfl (cn rfl) ?_
        refine s_zreturn rfl (Or.inl rfl) ?_
        exact Or.inr ⟨f, by unfold rD; rw [if_neg q11, eA]; rfl, rfl, h2, rfl, fr_t (fr_t (fr_w hf1 (by decide)) (m := [9]) (fr_s (by decide) fr_r) (by decide)) hf2 (by decide), _, _, _, _, _, _, c7, c9, c10, c11⟩
    · omega
theorem u_read {d N S : Nat} {h : Nat → Option rr_E} {tl : Nat} {sc sp sf sv : Int} {tp : Nat → Int}  (htl : tl ≤ 100)  (ht : ∀ p, p < tl → 1 ≤ tp p ∧ tp p ≤ 127) (c7 : h 7 = some (SC (tl : Int) sc sp sf sv)) (c8 : h 8 = some (.inl (0, 100, .inl (fun k => ii (tp k))))) {kn fi se : Nat → Int} (c9 : h 9 = some (.inl (0, 25, .inl (fun k => ii (kn k))))) (c10 : h 10 = some (.inl (0, 25, .inl (fun k => ii (fi k))))) (c11 : h 11 = some (.inl (0, 25, .inl (fun k => ii (se k))))) (c1000010 : h 1000010 = some (.inr (20, [.ref 1000020, .int (ii 0)]))) (c1000020 : h 1000020 = some (.inl (9, 6, .inl (fun j => (rr_sby.getD 0 []).getD j 0)))) (c1000011 : h 1000011 = some (.inr (20, [.ref 1000021, .int (ii 0)]))) (c1000021 : h 1000021 = some (.inl (9, 5, .inl (fun j => (rr_sby.getD 1 []).getD j 0)))) (c1000012 : h 1000012 = some (.inr (20, [.ref 1000022, .int (ii 0)]))) (c1000022 : h 1000022 = some (.inl (9, 4, .inl (fun j => (rr_sby.getD 2 []).getD j 0)))) (c1000013 : h 1000013 = some (.inr (20, [.ref 1000023, .int (ii 0)]))) (c1000023 : h 1000023 = some (.inl (9, 4, .inl (fun j => (rr_sby.getD 3 []).getD j 0)))) (c1000014 : h 1000014 = some (.inr (20, [.ref 1000024, .int (ii 0)]))) (c1000024 : h 1000024 = some (.inl (9, 4, .inl (fun j => (rr_sby.getD 4 []).getD j 0)))) (c1000015 : h 1000015 = some (.inr (20, [.ref 1000025, .int (ii 0)]))) (c1000025 : h 1000025 = some (.inl (9, 4, .inl (fun j => (rr_sby.getD 5 []).getD j 0)))) : rr_Calls (d + 8) j_Script_read [.ref 7] (N, S, h) (fun r R => (∃ (f : Nat), outD tp tl 101 0 = .inl f ∧ f ≤ 100 ∧ r = some (.int (ii (f : Int))) ∧ ∃ h', R = (N, S, h') ∧ fr [7, 9, 10, 11] h h' ∧ ∃ (sc2 sp2 sf2 sv2 : Int) (kn2 fi2 se2 : Nat → Int), h' 7 = some (SC (tl : Int) sc2 sp2 sf2 sv2) ∧ h' 9 = some (.inl (0, 25, .inl (fun k => ii (kn2 k)))) ∧ h' 10 = some (.inl (0, 25, .inl (fun k => ii (fi2 k)))) ∧ h' 11 = some (.inl (0, 25, .inl (fun k => ii (se2 k))))) ∨ (∃ (L : List Dd), outD tp tl 101 0 = .inr L ∧ L.length ≤ 25 ∧ r = some (.int (ii (-1))) ∧ ∃ h', R = (N, S, h') ∧ fr [7, 9, 10, 11] h h' ∧ ∃ (sp2 sf2 sv2 : Int) (kn2 fi2 se2 : Nat → Int), h' 7 = some (SC (tl : Int) ((L.length : Nat) : Int) sp2 sf2 sv2) ∧ h' 9 = some (.inl (0, 25, .inl (fun k => ii (kn2 k)))) ∧ h' 10 = some (.inl (0, 25, .inl (fun k => ii (fi2 k)))) ∧ h' 11 = some (.inl (0, 25, .inl (fun k => ii (se2 k)))) ∧ hold L kn2 fi2 se2)) := by
  refine rr_meth (C := K_Script_read) (hd := h_Script_read) (mx := 2) rfl rfl (fun K hK => ?_)
  refine hK _ _ _ _ ?_
  refine s_aload_n rfl (cn rfl) rfl ?_
  refine s_iconst rfl (cn rfl) ?_
  refine s_puti rfl (cn rfl) rfl c7 rfl ?_
  refine s_aload_n rfl (cn rfl) rfl ?_
  refine s_iconst rfl (cn rfl) ?_
  refine s_puti rfl (cn rfl) rfl rr_set_eq rfl ?_
  refine s_iconst rfl (cn rfl) ?_
  refine s_istore_n rfl (ch rfl) ?_
  have lp8 : ∀ u : Nat, u ≤ 101 → ∀ (h' : Nat → Option rr_E) (L : List Dd) (p : Nat) (sf sv : Int) (kn fi se : Nat → Int) (hL : L.length = u) (h5 : 5 * u ≤ p) (hp : p ≤ tl) (c7 : h' 7 = some (SC (tl : Int) ((L.length : Nat) : Int) (p : Int) sf sv)) (c9 : h' 9 = some (.inl (0, 25, .inl (fun k => ii (kn k))))) (c10 : h' 10 = some (.inl (0, 25, .inl (fun k => ii (fi k))))) (c11 : h' 11 = some (.inl (0, 25, .inl (fun k => ii (se k))))) (hf : fr [7, 9, 10, 11] h h') (ho : outD tp tl 101 0 = cont L (outD tp tl (101 - u) p)) (hh : hold L kn fi se), K 8 [some (.ref 7), some (.int (ii (u : Int)))] [] (N, S, h') := by
    refine dn (fun u hu ih8 => ?_)
    intro h' L p sf sv kn fi se hL h5 hp c7 c9 c10 c11 hf ho hh
    have c8 := (hf 8 (by decide)).trans c8
    have c1000010 := (hf 1000010 (by decide)).trans c1000010
    have c1000011 := (hf 1000011 (by decide)).trans c1000011
    have c1000012 := (hf 1000012 (by decide)).trans c1000012
    have c1000013 := (hf 1000013 (by decide)).trans c1000013
    have c1000014 := (hf 1000014 (by decide)).trans c1000014
    have c1000015 := (hf 1000015 (by decide)).trans c1000015
    have c1000020 := (hf 1000020 (by decide)).trans c1000020
    have c1000021 := (hf 1000021 (by decide)).trans c1000021
    have c1000022 := (hf 1000022 (by decide)).trans c1000022
    have c1000023 := (hf 1000023 (by decide)).trans c1000023
    have c1000024 := (hf 1000024 (by decide)).trans c1000024
    have c1000025 := (hf 1000025 (by decide)).trans c1000025
    refine hK _ _ _ _ ?_
    refine s_iload_n rfl (cn rfl) rfl ?_
    refine s_bipush rfl (cn rfl) (by decide) ?_
    refine s_icmp_gt rfl (cn rfl) (cn rfl) ⟨by omega, by omega⟩ ⟨by omega, by omega⟩ (fun q10 => ?_) (fun q10 => ?_)
    · omega
    · refine s_aload_n rfl (cn rfl) rfl ?_
      refine s_virt rfl (cn rfl) rfl rfl c7 rfl (u_deed htl hp ht c7 c8 (by omega) c9 c10 c11 c1000010 c1000020 c1000011 c1000021 c1000012 c1000022 c1000013 c1000023 c1000014 c1000024 c1000015 c1000025) ?_
      rintro _ _ (⟨q, D, eD, ld1, ld2, ld3, rfl, h2, rfl, hf2, sv2, kn2, fi2, se2, c7, c9, c10, c11, hu2, hd2⟩ | ⟨f, eD, rfl, h2, rfl, hf2, sc2, sp2, sv2, kn2, fi2, se2, c7, c9, c10, c11⟩)
      · have c8 := (hf2 8 (by decide)).trans c8
        have hF := fr_t hf hf2 (by decide)
        have e101 : 101 - u = (100 - u) + 1 := by omega
        have eo : outD tp tl 101 0 = cont (L ++ [D]) (aft tp tl (100 - u) q) := by rw [ho, e101, out_g eD, cont_c]
        have hbq := hr_b ht q
        have hh2 : hold (L ++ [D]) kn2 fi2 se2 := hold_s hh hu2 hd2 ld3
        have hl2 : (L ++ [D]).length = L.length + 1 := by rw [List.length_append]; rfl
        refine s_if_ne rfl (cn rfl) (cn rfl) (by decide) (fun q13 => ?_) (fun q13 => absurd q13 (by decide))
        refine s_aload_n rfl (cn rfl) rfl ?_
        refine s_getfield rfl (cn rfl) c7 rfl ?_
        refine s_aload_n rfl (cn rfl) rfl ?_
        refine s_getfield rfl (cn rfl) c7 rfl ?_
        refine s_icmp_ne rfl (cn rfl) (cn rfl) ⟨by omega, by omega⟩ ⟨by omega, by omega⟩ (fun q21 => ?_) (fun q21 => ?_)
        · refine s_aload_n rfl (cn rfl) rfl ?_
          refine s_virt rfl (cn rfl) rfl rfl c7 rfl (u_here htl ld2 ht c7 c8) ?_
          rintro _ _ ⟨rfl, rfl⟩
          refine s_bipush rfl (cn rfl) (by decide) ?_
          refine s_icmp_eq rfl (cn rfl) (cn rfl) ⟨by omega, by omega⟩ ⟨by omega, by omega⟩ (fun q27 => ?_) (fun q27 => ?_)
          · refine s_aload_n rfl (cn rfl) rfl ?_
            refine s_dupr rfl (cn rfl) ?_
            refine s_getfield rfl (cn rfl) c7 rfl ?_
            refine s_iconst rfl (cn rfl) ?_
            refine s_iadd rfl (cn rfl) ?_
            refine s_puti rfl (cn rfl) rfl c7 rfl ?_
            refine s_iinc rfl (cn rfl) rfl ?_
            refine s_goto rfl (ch rfl) ?_
            exact ih8 (by omega) _ (L ++ [D]) (q + 1) _ _ _ _ _ (by rw [hl2]; omega) (by omega) (hr_in (tp := tp) (tl := tl) (p := q) (by omega)).1 (by rw [hl2]; exact rr_set_eq) c9 c10 c11 (fr_s (by decide) hF) (by rw [eo]; unfold aft; rw [if_neg (by omega), if_pos q27, show 101 - (u + 1) = 100 - u by omega]) hh2
          · refine s_aload_n rfl (cn rfl) rfl ?_
            refine s_getfield rfl (cn rfl) c7 rfl ?_
            refine s_ireturn rfl ?_
            exact Or.inl ⟨q, by rw [eo]; unfold aft; rw [if_neg (by omega), if_neg q27]; rfl, by omega, rfl, h2, rfl, hF, _, _, _, _, _, _, _, c7, c9, c10, c11⟩
        · refine s_iconst rfl (cn rfl) ?_
          refine s_ireturn rfl ?_
          exact Or.inr ⟨L ++ [D], by rw [eo]; unfold aft; rw [if_pos (by omega)]; show Sum.inr (L ++ [D] ++ []) = _; rw [List.append_nil], by rw [hl2]; omega, rfl, h2, rfl, hF, _, _, _, _, _, _, by rw [hl2]; exact c7, c9, c10, c11, hh2⟩
      · have c8 := (hf2 8 (by decide)).trans c8
        have hF := fr_t hf hf2 (by decide)
        have e101 : 101 - u = (100 - u) + 1 := by omega
        refine s_if_ne rfl (cn rfl) (cn rfl) (by decide) (fun q13 => absurd q13 (by decide)) (fun q13 => ?_)
        refine s_aload_n rfl (cn rfl) rfl ?_
        refine s_getfield rfl (cn rfl) c7 rfl ?_
        refine s_ireturn rfl ?_
        exact Or.inl ⟨f, by rw [ho, e101, out_f eD]; rfl, by have := rD_l hp eD; omega, rfl, h2, rfl, hF, _, _, _, _, _, _, _, c7, c9, c10, c11⟩
  exact lp8 0 (by omega) _ [] 0 _ _ _ _ _ rfl (by omega) (by omega) rr_set_eq c9 c10 c11 (fr_s (by decide) (fr_s (by decide) fr_r)) (by show outD tp tl 101 0 = cont [] (outD tp tl 101 0); cases outD tp tl 101 0 <;> rfl) hold_0
