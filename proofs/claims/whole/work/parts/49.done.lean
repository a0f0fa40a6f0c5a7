/-! Deeds carried out. -/
def swp (g a b : Nat) : Nat := if st_bt g a = st_bt g b then g else g ^^^ (2 ^ a ||| 2 ^ b)
def alo (n : Nat) (v : Nat → Int) (g : Nat) : Int := ms_sm n (fun p => st_bt g p * v (2 ^ p))
/-- the worths that a deed asks for -/
def NX (n : Nat) (v : Nat → Int) (D : Dd) (g : Nat) : Int := if D.1 = 3 then (if g = al n then v g else v (al n) - v (al n ^^^ g)) else if D.1 = 4 then v g - alo n v g else v (swp g D.2.1.toNat D.2.2.toNat)
def nxt (n : Nat) (v w : Nat → Int) : Nat → Int := fun j => if 1 ≤ j ∧ j ≤ al n then w j else v j
def okN (n : Nat) (w : Nat → Int) : Prop := ∀ j, 1 ≤ j → j ≤ al n → -999 ≤ w j ∧ w j ≤ 999
noncomputable def dst (n : Nat) (v : Nat → Int) (D : Dd) : Option (Nat × (Nat → Int)) :=
  if D.1 = 0 then (if 2 ≤ D.2.1 ∧ D.2.1 ≤ 4 then some (D.2.1.toNat, zr v 16) else none)
  else if D.1 = 1 then (if (1 ≤ D.2.1 ∧ D.2.1 ≤ (al n : Int)) ∧ (-999 ≤ D.2.2 ∧ D.2.2 ≤ 999) then some (n, fu v D.2.1.toNat D.2.2) else none)
  else if D.1 = 2 then (if (1 ≤ D.2.1 ∧ D.2.1 ≤ (al n : Int)) ∧ (-999 ≤ v D.2.1.toNat + D.2.2 ∧ v D.2.1.toNat + D.2.2 ≤ 999) then some (n, fu v D.2.1.toNat (v D.2.1.toNat + D.2.2)) else none)
  else cite ((D.1 = 5 → (0 ≤ D.2.1 ∧ D.2.1 < (n : Int)) ∧ (0 ≤ D.2.2 ∧ D.2.2 < (n : Int))) ∧ okN n (NX n v D)) (some (n, nxt n v (NX n v D))) none
theorem nxt_c {n : Nat} {v w w' : Nat → Int} (h : ∀ j, 1 ≤ j → j ≤ al n → w j = w' j) : fc w v 1 1 (al n) = nxt n v w' := by
  funext j
  show (if 1 ≤ j ∧ j < 1 + al n then w (1 + (j - 1)) else v j) = if 1 ≤ j ∧ j ≤ al n then w' j else v j
  by_cases q : 1 ≤ j ∧ j ≤ al n
  · rw [if_pos (by omega), if_pos q, show 1 + (j - 1) = j by omega, h j q.1 q.2]
  · rw [if_neg (by omega), if_neg q]
theorem alo_b {n : Nat} {v : Nat → Int} (hn : 2 ≤ n ∧ n ≤ 4) (hv : ∀ k, -999 ≤ v k ∧ v k ≤ 999) (g : Nat) : -3996 ≤ alo n v g ∧ alo n v g ≤ 3996 := by
  have h := sm_bd (f := fun p => st_bt g p * v (2 ^ p)) (c := 999) (by decide) n (fun p _ => by
    show -999 ≤ st_bt g p * v (2 ^ p) ∧ st_bt g p * v (2 ^ p) ≤ 999
    have := hv (2 ^ p)
    rcases bt_01 g p with q | q <;> rw [q] <;> omega)
  unfold alo
  omega
theorem swp_b : ∀ g, g < 16 → ∀ a, a < 4 → ∀ b, b < 4 → swp g a b < 16 := by decide +kernel
theorem NX_b {n : Nat} {v : Nat → Int} {D : Dd} (hn : 2 ≤ n ∧ n ≤ 4) (hv : ∀ k, -999 ≤ v k ∧ v k ≤ 999) (g : Nat) : -6000 ≤ NX n v D g ∧ NX n v D g ≤ 6000 := by
  unfold NX
  have h1 := hv g
  have h2 := hv (al n)
  have h3 := hv (al n ^^^ g)
  have h4 := alo_b hn hv g
  have h5 := hv (swp g D.2.1.toNat D.2.2.toNat)
  split
  · split <;> omega
  · split <;> omega
noncomputable def crun : List Dd → Nat → (Nat → Int) → Int × Nat × (Nat → Int)
  | [], n, v => (0, n, v)
  | D :: L, n, v => match dst n v D with
    | none => crun L n v
    | some x => ((crun L x.1 x.2).1 + 1, (crun L x.1 x.2).2)
theorem crun_n {D : Dd} {L : List Dd} {n : Nat} {v : Nat → Int} (h : dst n v D = none) : crun (D :: L) n v = crun L n v := by
  unfold crun; rw [h]; cases L <;> rfl
theorem crun_y {D : Dd} {L : List Dd} {n n' : Nat} {v v' : Nat → Int} (h : dst n v D = some (n', v')) : crun (D :: L) n v = ((crun L n' v').1 + 1, (crun L n' v').2) := by
  show (match dst n v D with | none => _ | some x => _) = _
  rw [h]
def okV (n : Nat) (v : Nat → Int) : Prop := (2 ≤ n ∧ n ≤ 4) ∧ (∀ k, -999 ≤ v k ∧ v k ≤ 999) ∧ v 0 = 0
theorem okV_z {n : Nat} {v : Nat → Int} (h : okV n v) {m : Nat} (hm : 2 ≤ m ∧ m ≤ 4) : okV m (zr v 16) := by
  refine ⟨hm, fun k => ?_, rfl⟩
  show -999 ≤ (if k < 16 then 0 else v k) ∧ (if k < 16 then 0 else v k) ≤ 999
  split
  · omega
  · exact h.2.1 k
theorem okV_u {n : Nat} {v : Nat → Int} (h : okV n v) {g : Nat} {x : Int} (hg : 1 ≤ g) (hx : -999 ≤ x ∧ x ≤ 999) : okV n (fu v g x) := by
  refine ⟨h.1, fun k => ?_, ?_⟩
  · by_cases e : k = g
    · subst e; rw [fu_s]; exact hx
    · rw [fu_n e]; exact h.2.1 k
  · rw [fu_n (by omega)]; exact h.2.2
theorem okV_n {n : Nat} {v w : Nat → Int} (h : okV n v) (hw : okN n w) : okV n (nxt n v w) := by
  refine ⟨h.1, fun k => ?_, if_neg (by omega) |>.trans h.2.2⟩
  show -999 ≤ (if 1 ≤ k ∧ k ≤ al n then w k else v k) ∧ (if 1 ≤ k ∧ k ≤ al n then w k else v k) ≤ 999
  split
  · next q => exact hw k q.1 q.2
  · exact h.2.1 k
theorem dst_ok {n n' : Nat} {v v' : Nat → Int} {D : Dd} (h : okV n v) (hd : dst n v D = some (n', v')) : okV n' v' := by
  unfold dst at hd
  split at hd
  · split at hd
    · injection hd with hd; injection hd with h1 h2; subst h1; subst h2; exact okV_z h (by omega)
    · cases hd
  · split at hd
    · split at hd
      · next q => injection hd with hd; injection hd with h1 h2; subst h1; subst h2; exact okV_u h (by omega) q.2
      · cases hd
    · split at hd
      · split at hd
        · next q => injection hd with hd; injection hd with h1 h2; subst h1; subst h2; exact okV_u h (by omega) q.2
        · cases hd
      · by_cases q : ((D.1 = 5 → (0 ≤ D.2.1 ∧ D.2.1 < (n : Int)) ∧ (0 ≤ D.2.2 ∧ D.2.2 < (n : Int))) ∧ okN n (NX n v D))
        · rw [ci_y q] at hd; injection hd with hd; injection hd with h1 h2; subst h1; subst h2; exact okV_n h q.2
        · rw [ci_n q] at hd; cases hd
theorem dst_3 {n : Nat} {v : Nat → Int} {D : Dd} (h0 : D.1 ≠ 0) (h1 : D.1 ≠ 1) (h2 : D.1 ≠ 2) : dst n v D = cite ((D.1 = 5 → (0 ≤ D.2.1 ∧ D.2.1 < (n : Int)) ∧ (0 ≤ D.2.2 ∧ D.2.2 < (n : Int))) ∧ okN n (NX n v D)) (some (n, nxt n v (NX n v D))) none := by
  unfold dst
  rw [if_neg h0, if_neg h1, if_neg h2]
theorem u_takes {d N S n : Nat} {v : Nat → Int} {h : Nat → Option rr_E} (hn : 2 ≤ n ∧ n ≤ 4) (c1 : h 1 = some (.inr (0, [.int (ii (n : Int)), .ref 2]))) (c2 : h 2 = some (.inl (0, 16, .inl (fun k => ii (v k))))) (hv : ∀ k, -999 ≤ v k ∧ v k ≤ 999) {tl7 sc sp sf sv : Int} (c7 : h 7 = some (SC tl7 sc sp sf sv)) {w : Nat → Int} (c12 : h 12 = some (.inl (0, 16, .inl (fun k => ii (w k))))) (hw : ∀ j, 1 ≤ j → j ≤ al n → b3 (w j)) : rr_Calls (d + 2) j_Script_takesNext [.ref 7, .ref 1] (N, S, h) (fun r R => (¬ okN n w ∧ r = some (.int (ii 0)) ∧ R = (N, S, h)) ∨ (okN n w ∧ r = some (.int (ii 1)) ∧ ∃ h', R = (N, S, h') ∧ fr [2] h h' ∧ h' 2 = some (.inl (0, 16, .inl (fun k => ii (fc w v 1 1 (al n) k)))))) := by
  refine rr_meth (C := K_Script_takesNext) (hd := h_Script_takesNext) (mx := 3) rfl rfl (fun K hK => ?_)
  have hA := al_b hn
  refine hK _ _ _ _ ?_
  refine s_iconst rfl (cn rfl) ?_
  refine s_istore_n rfl (ch rfl) ?_
  have lp2 : ∀ g : Nat, g ≤ al n + 1 → ∀ (h1 : 1 ≤ g) (no : ∀ j, 1 ≤ j → j < g → -999 ≤ w j ∧ w j ≤ 999), K 2 [some (.ref 7), some (.ref 1), some (.int (ii (g : Int)))] [] (N, S, h) := by
    refine dn (fun g hg ih2 => ?_)
    intro h1 no
    refine hK _ _ _ _ ?_
    refine s_iload_n rfl (cn rfl) rfl ?_
    refine s_aload_n rfl (cn rfl) rfl ?_
    refine s_virt rfl (cn rfl) rfl rfl c1 rfl (u_all_1 hn c1) ?_
    rintro _ _ ⟨rfl, rfl⟩
    refine s_icmp_gt rfl (cn rfl) (cn rfl) ⟨by omega, by omega⟩ ⟨by omega, by omega⟩ (fun q5 => ?_) (fun q5 => ?_)
    · refine s_aload_n rfl (cn rfl) rfl ?_
      refine s_getfield rfl (cn rfl) c7 rfl ?_
      refine s_iconst rfl (cn rfl) ?_
      refine s_aload_n rfl (cn rfl) rfl ?_
      refine s_getfield rfl (cn rfl) c1 rfl ?_
      refine s_iconst rfl (cn rfl) ?_
      refine s_aload_n rfl (cn rfl) rfl ?_
      refine s_virt rfl (cn rfl) rfl rfl c1 rfl (u_all_1 hn c1) ?_
      rintro _ _ ⟨rfl, rfl⟩
      refine s_copy rfl (cn rfl) c12 c2 (sp := 1) (dp := 1) (by decide) (by decide) (by omega) (by omega) rfl ?_
      refine s_iconst rfl (cn rfl) ?_
      refine s_zreturn rfl (Or.inr rfl) ?_
      exact Or.inr ⟨fun j q1 q2 => no j q1 (by omega), rfl, _, rfl, fr_s (by decide) fr_r, rr_set_eq⟩
    · have hwg := hw g h1 (by omega)
      refine s_aload_n rfl (cn rfl) rfl ?_
      refine s_getfield rfl (cn rfl) c7 rfl ?_
      refine s_iload_n rfl (cn rfl) rfl ?_
      refine s_iaload rfl (cn rfl) _ rfl c12 rfl (by omega) (by decide) rfl ?_
      refine s_stat rfl (cn rfl) rfl rfl rfl (u_mworth (by omega)) ?_
      rintro _ _ ⟨rfl, rfl⟩
      refine s_ifb_ne rfl (cn rfl) (cn rfl) (fun q11 => ?_) (fun q11 => ?_)
      · refine s_iinc rfl (cn rfl) rfl ?_
        refine s_goto rfl (ch rfl) ?_
        exact ih2 (by omega) (by omega) (fun j q1 q2 => by
            by_cases e : j = g
            · subst e; exact q11
            · exact no j q1 (by omega))
      · refine s_iconst rfl (cn rfl) ?_
        refine s_zreturn rfl (Or.inl rfl) ?_
        exact Or.inl ⟨fun q => q11 (q g h1 (by omega)), rfl, rfl⟩
  exact lp2 1 (by omega) (by omega) (fun j q1 q2 => absurd q2 (by omega))
theorem xor_16 {a b : Nat} (ha : a < 16) (hb : b < 16) : a ^^^ b < 16 := Nat.xor_lt_two_pow (n := 4) ha hb
theorem u_dual {d N S n : Nat} {v : Nat → Int} {h : Nat → Option rr_E} (hn : 2 ≤ n ∧ n ≤ 4) (c1 : h 1 = some (.inr (0, [.int (ii (n : Int)), .ref 2]))) (c2 : h 2 = some (.inl (0, 16, .inl (fun k => ii (v k))))) (hv : ∀ k, -999 ≤ v k ∧ v k ≤ 999) {tl7 sc sp sf sv : Int} (c7 : h 7 = some (SC tl7 sc sp sf sv)) {w : Nat → Int} (c12 : h 12 = some (.inl (0, 16, .inl (fun k => ii (w k))))) {x y : Int} : rr_Calls (d + 3) j_Script_turnsDual [.ref 7, .ref 1] (N, S, h) (fun r R => (dst n v (3, x, y) = none ∧ r = some (.int (ii 0)) ∧ ∃ h', R = (N, S, h') ∧ fr [12] h h' ∧ ∃ w2 : Nat → Int, h' 12 = some (.inl (0, 16, .inl (fun k => ii (w2 k))))) ∨ (∃ v' : Nat → Int, dst n v (3, x, y) = some (n, v') ∧ r = some (.int (ii 1)) ∧ ∃ h', R = (N, S, h') ∧ fr [2, 12] h h' ∧ h' 2 = some (.inl (0, 16, .inl (fun k => ii (v' k)))) ∧ ∃ w2 : Nat → Int, h' 12 = some (.inl (0, 16, .inl (fun k => ii (w2 k)))))) := by
  refine rr_meth (C := K_Script_turnsDual) (hd := h_Script_turnsDual) (mx := 4) rfl rfl (fun K hK => ?_)
  have hA := al_b hn
  have hva := hv (al n)
  refine hK _ _ _ _ ?_
  refine s_aload_n rfl (cn rfl) rfl ?_
  refine s_virt rfl (cn rfl) rfl rfl c1 rfl (u_all_1 hn c1) ?_
  rintro _ _ ⟨rfl, rfl⟩
  refine s_istore_n rfl (cn rfl) ?_
  refine s_iconst rfl (cn rfl) ?_
  refine s_istore_n rfl (ch rfl) ?_
  have lp5 : ∀ g : Nat, g ≤ al n → ∀ (h' : Nat → Option rr_E) (w : Nat → Int) (h1 : 1 ≤ g) (c12 : h' 12 = some (.inl (0, 16, .inl (fun k => ii (w k))))) (hf : fr [12] h h') (hw : ∀ j, 1 ≤ j → j < g → w j = NX n v (3, x, y) j), K 5 [some (.ref 7), some (.ref 1), some (.int (ii ((al n : Nat) : Int))), some (.int (ii (g : Int)))] [] (N, S, h') := by
    refine dn (fun g hg ih5 => ?_)
    intro h' w h1 c12 hf hw
    have c1 := (hf 1 (by decide)).trans c1
    have c2 := (hf 2 (by decide)).trans c2
    have c7 := (hf 7 (by decide)).trans c7
    have hvg := hv g
    refine hK _ _ _ _ ?_
    refine s_iload_n rfl (cn rfl) rfl ?_
    refine s_iload_n rfl (cn rfl) rfl ?_
    refine s_icmp_ge rfl (cn rfl) (cn rfl) ⟨by omega, by omega⟩ ⟨by omega, by omega⟩ (fun q7 => ?_) (fun q7 => ?_)
    · refine s_aload_n rfl (cn rfl) rfl ?_
      refine s_getfield rfl (cn rfl) c7 rfl ?_
      refine s_iload_n rfl (cn rfl) rfl ?_
      refine s_aload_n rfl (cn rfl) rfl ?_
      refine s_getfield rfl (cn rfl) c1 rfl ?_
      refine s_iload_n rfl (cn rfl) rfl ?_
      refine s_iaload rfl (cn rfl) _ rfl c2 rfl (by omega) (by decide) rfl ?_
      refine s_iastore rfl (cn rfl) _ rfl c12 (by omega) (by decide) ?_
      have WEQ : ∀ j, 1 ≤ j → j ≤ al n → fu w (al n) (v (al n)) j = NX n v (3, x, y) j := fun j j1 j2 => by
        by_cases e : j = al n
        · subst e; rw [fu_s]; show _ = (if (3 : Int) = 3 then (if al n = al n then v (al n) else _) else _); rw [if_pos rfl, if_pos rfl]
        · rw [fu_n e]; exact hw j j1 (by omega)
      refine s_aload_n rfl (cn rfl) rfl ?_
      refine s_aload_n rfl (cn rfl) rfl ?_
      refine s_virt rfl (cn rfl) rfl rfl c7 rfl (u_takes (h := rr_set h' 12 (.inl (0, 16, .inl (fun j => ii (fu w (al n) (v (al n)) j))))) hn c1 c2 hv c7 rr_set_eq (fun j j1 j2 => by rw [WEQ j j1 j2]; have := NX_b (D := (3, x, y)) hn hv j; exact ⟨by omega, by omega⟩)) ?_
      rintro _ _ (⟨e1, rfl, rfl⟩ | ⟨e1, rfl, h2, rfl, hf2, d2⟩)
      · refine s_zreturn rfl (Or.inl rfl) ?_
        first
          | (refine Or.inl ⟨?_, rfl, _, rfl, (fr_s (by decide) hf), _, rr_set_eq⟩
             rw [dst_3 (show (3 : Int) ≠ 0 by decide) (show (3 : Int) ≠ 1 by decide) (show (3 : Int) ≠ 2 by decide)]
             exact ci_n (fun q => e1 (fun j j1 j2 => by rw [WEQ j j1 j2]; exact q.2 j j1 j2)))
          | (refine Or.inr ⟨_, ?_, rfl, h2, rfl, fr_t (fr_w (fr_s (by decide) hf) (by decide)) hf2 (by decide), ar_f d2 (nxt_c WEQ), _, (hf2 12 (by decide)).trans rr_set_eq⟩
             rw [dst_3 (show (3 : Int) ≠ 0 by decide) (show (3 : Int) ≠ 1 by decide) (show (3 : Int) ≠ 2 by decide)]
             exact ci_y ⟨fun q => absurd (show (3 : Int) = 5 from q) (by decide), fun j j1 j2 => by rw [← WEQ j j1 j2]; exact e1 j j1 j2⟩)
      · refine s_zreturn rfl (Or.inr rfl) ?_
        first
          | (refine Or.inl ⟨?_, rfl, _, rfl, (fr_s (by decide) hf), _, rr_set_eq⟩
             rw [dst_3 (show (3 : Int) ≠ 0 by decide) (show (3 : Int) ≠ 1 by decide) (show (3 : Int) ≠ 2 by decide)]
             exact ci_n (fun q => e1 (fun j j1 j2 => by rw [WEQ j j1 j2]; exact q.2 j j1 j2)))
          | (refine Or.inr ⟨_, ?_, rfl, h2, rfl, fr_t (fr_w (fr_s (by decide) hf) (by decide)) hf2 (by decide), ar_f d2 (nxt_c WEQ), _, (hf2 12 (by decide)).trans rr_set_eq⟩
             rw [dst_3 (show (3 : Int) ≠ 0 by decide) (show (3 : Int) ≠ 1 by decide) (show (3 : Int) ≠ 2 by decide)]
             exact ci_y ⟨fun q => absurd (show (3 : Int) = 5 from q) (by decide), fun j j1 j2 => by rw [← WEQ j j1 j2]; exact e1 j j1 j2⟩)
    · refine s_aload_n rfl (cn rfl) rfl ?_
      refine s_getfield rfl (cn rfl) c7 rfl ?_
      refine s_iload_n rfl (cn rfl) rfl ?_
      refine s_aload_n rfl (cn rfl) rfl ?_
      refine s_getfield rfl (cn rfl) c1 rfl ?_
      refine s_iload_n rfl (cn rfl) rfl ?_
      refine s_iaload rfl (cn rfl) _ rfl c2 rfl (by omega) (by decide) rfl ?_
      refine s_aload_n rfl (cn rfl) rfl ?_
      refine s_getfield rfl (cn rfl) c1 rfl ?_
      refine s_iload_n rfl (cn rfl) rfl ?_
      refine s_iload_n rfl (cn rfl) rfl ?_
      refine s_ixor rfl (cn rfl) _ (bi_xor _ _) ?_
      refine s_iaload rfl (cn rfl) _ rfl c2 rfl (xor_16 (by omega) (by omega)) (by decide) rfl ?_
      refine s_isub rfl (cn rfl) ?_
      refine s_iastore rfl (cn rfl) _ rfl c12 (by omega) (by decide) ?_
      refine s_iinc rfl (cn rfl) rfl ?_
      refine s_goto rfl (ch rfl) ?_
      exact ih5 (by omega) _ _ (by omega) rr_set_eq (fr_s (by decide) hf) (fun j q1 q2 => by
          by_cases e : j = g
          · subst e; rw [fu_s]; show _ = (if (3 : Int) = 3 then (if j = al n then _ else _) else _); rw [if_pos rfl, if_neg (by omega)]
          · rw [fu_n e]; exact hw j q1 (by omega))
  exact lp5 1 (by omega) _ _ (by omega) c12 fr_r (fun j q1 q2 => absurd q2 (by omega))
theorem u_zero {d N S n : Nat} {v : Nat → Int} {h : Nat → Option rr_E} (hn : 2 ≤ n ∧ n ≤ 4) (c1 : h 1 = some (.inr (0, [.int (ii (n : Int)), .ref 2]))) (c2 : h 2 = some (.inl (0, 16, .inl (fun k => ii (v k))))) (hv : ∀ k, -999 ≤ v k ∧ v k ≤ 999) {tl7 sc sp sf sv : Int} (c7 : h 7 = some (SC tl7 sc sp sf sv)) {w : Nat → Int} (c12 : h 12 = some (.inl (0, 16, .inl (fun k => ii (w k))))) {x y : Int} : rr_Calls (d + 3) j_Script_turnsZero [.ref 7, .ref 1] (N, S, h) (fun r R => (dst n v (4, x, y) = none ∧ r = some (.int (ii 0)) ∧ ∃ h', R = (N, S, h') ∧ fr [12] h h' ∧ ∃ w2 : Nat → Int, h' 12 = some (.inl (0, 16, .inl (fun k => ii (w2 k))))) ∨ (∃ v' : Nat → Int, dst n v (4, x, y) = some (n, v') ∧ r = some (.int (ii 1)) ∧ ∃ h', R = (N, S, h') ∧ fr [2, 12] h h' ∧ h' 2 = some (.inl (0, 16, .inl (fun k => ii (v' k)))) ∧ ∃ w2 : Nat → Int, h' 12 = some (.inl (0, 16, .inl (fun k => ii (w2 k)))))) := by
  refine rr_meth (C := K_Script_turnsZero) (hd := h_Script_turnsZero) (mx := 3) rfl rfl (fun K hK => ?_)
  have hA := al_b hn
  refine hK _ _ _ _ ?_
  refine s_iconst rfl (cn rfl) ?_
  refine s_istore_n rfl (ch rfl) ?_
  have lp2 : ∀ g : Nat, g ≤ al n + 1 → ∀ (h' : Nat → Option rr_E) (w : Nat → Int) (h1 : 1 ≤ g) (c12 : h' 12 = some (.inl (0, 16, .inl (fun k => ii (w k))))) (hf : fr [12] h h') (hw : ∀ j, 1 ≤ j → j < g → w j = NX n v (4, x, y) j), K 2 [some (.ref 7), some (.ref 1), some (.int (ii (g : Int)))] [] (N, S, h') := by
    refine dn (fun g hg ih2 => ?_)
    intro h' w h1 c12 hf hw
    have c1 := (hf 1 (by decide)).trans c1
    have c2 := (hf 2 (by decide)).trans c2
    have c7 := (hf 7 (by decide)).trans c7
    have hvg := hv g
    refine hK _ _ _ _ ?_
    refine s_iload_n rfl (cn rfl) rfl ?_
    refine s_aload_n rfl (cn rfl) rfl ?_
    refine s_virt rfl (cn rfl) rfl rfl c1 rfl (u_all_1 hn c1) ?_
    rintro _ _ ⟨rfl, rfl⟩
    refine s_icmp_gt rfl (cn rfl) (cn rfl) ⟨by omega, by omega⟩ ⟨by omega, by omega⟩ (fun q5 => ?_) (fun q5 => ?_)
    · have WEQ : ∀ j, 1 ≤ j → j ≤ al n → w j = NX n v (4, x, y) j := fun j j1 j2 => hw j j1 (by omega)
      refine s_aload_n rfl (cn rfl) rfl ?_
      refine s_aload_n rfl (cn rfl) rfl ?_
      refine s_virt rfl (cn rfl) rfl rfl c7 rfl (u_takes hn c1 c2 hv c7 c12 (fun j j1 j2 => by rw [WEQ j j1 j2]; have := NX_b (D := (4, x, y)) hn hv j; exact ⟨by omega, by omega⟩)) ?_
      rintro _ _ (⟨e1, rfl, rfl⟩ | ⟨e1, rfl, h2, rfl, hf2, d2⟩)
      · refine s_zreturn rfl (Or.inl rfl) ?_
        first
          | (refine Or.inl ⟨?_, rfl, _, rfl, hf, _, c12⟩
             rw [dst_3 (show (4 : Int) ≠ 0 by decide) (show (4 : Int) ≠ 1 by decide) (show (4 : Int) ≠ 2 by decide)]
             exact ci_n (fun q => e1 (fun j j1 j2 => by rw [WEQ j j1 j2]; exact q.2 j j1 j2)))
          | (refine Or.inr ⟨_, ?_, rfl, h2, rfl, fr_t (fr_w hf (by decide)) hf2 (by decide), ar_f d2 (nxt_c WEQ), _, (hf2 12 (by decide)).trans c12⟩
             rw [dst_3 (show (4 : Int) ≠ 0 by decide) (show (4 : Int) ≠ 1 by decide) (show (4 : Int) ≠ 2 by decide)]
             exact ci_y ⟨fun q => absurd (show (4 : Int) = 5 from q) (by decide), fun j j1 j2 => by rw [← WEQ j j1 j2]; exact e1 j j1 j2⟩)
      · refine s_zreturn rfl (Or.inr rfl) ?_
        first
          | (refine Or.inl ⟨?_, rfl, _, rfl, hf, _, c12⟩
             rw [dst_3 (show (4 : Int) ≠ 0 by decide) (show (4 : Int) ≠ 1 by decide) (show (4 : Int) ≠ 2 by decide)]
             exact ci_n (fun q => e1 (fun j j1 j2 => by rw [WEQ j j1 j2]; exact q.2 j j1 j2)))
          | (refine Or.inr ⟨_, ?_, rfl, h2, rfl, fr_t (fr_w hf (by decide)) hf2 (by decide), ar_f d2 (nxt_c WEQ), _, (hf2 12 (by decide)).trans c12⟩
             rw [dst_3 (show (4 : Int) ≠ 0 by decide) (show (4 : Int) ≠ 1 by decide) (show (4 : Int) ≠ 2 by decide)]
             exact ci_y ⟨fun q => absurd (show (4 : Int) = 5 from q) (by decide), fun j j1 j2 => by rw [← WEQ j j1 j2]; exact e1 j j1 j2⟩)
    · refine s_aload_n rfl (cn rfl) rfl ?_
      refine s_getfield rfl (cn rfl) c7 rfl ?_
      refine s_iload_n rfl (cn rfl) rfl ?_
      refine s_aload_n rfl (cn rfl) rfl ?_
      refine s_getfield rfl (cn rfl) c1 rfl ?_
      refine s_iload_n rfl (cn rfl) rfl ?_
      refine s_iaload rfl (cn rfl) _ rfl c2 rfl (by omega) (by decide) rfl ?_
      refine s_aload_n rfl (cn rfl) rfl ?_
      refine s_iload_n rfl (cn rfl) rfl ?_
      refine s_virt rfl (cn rfl) rfl rfl c1 rfl (u_alone hn c1 c2 (by omega)) ?_
      rintro _ _ ⟨rfl, rfl⟩
      refine s_isub rfl (cn rfl) ?_
      refine s_iastore rfl (cn rfl) _ rfl c12 (by omega) (by decide) ?_
      refine s_iinc rfl (cn rfl) rfl ?_
      refine s_goto rfl (ch rfl) ?_
      exact ih2 (by omega) _ _ (by omega) rr_set_eq (fr_s (by decide) hf) (fun j q1 q2 => by
          by_cases e : j = g
          · subst e; rw [fu_s]; show _ = (if (4 : Int) = 3 then _ else if (4 : Int) = 4 then v j - alo n v j else _); rw [if_neg (by decide), if_pos rfl]; rfl
          · rw [fu_n e]; exact hw j q1 (by omega))
  exact lp2 1 (by omega) _ _ (by omega) c12 fr_r (fun j q1 q2 => absurd q2 (by omega))
theorem u_swaps {d N S n : Nat} {v : Nat → Int} {h : Nat → Option rr_E} (hn : 2 ≤ n ∧ n ≤ 4) (c1 : h 1 = some (.inr (0, [.int (ii (n : Int)), .ref 2]))) (c2 : h 2 = some (.inl (0, 16, .inl (fun k => ii (v k))))) (hv : ∀ k, -999 ≤ v k ∧ v k ≤ 999) {tl7 sc sp sf sv : Int} (c7 : h 7 = some (SC tl7 sc sp sf sv)) {w : Nat → Int} (c12 : h 12 = some (.inl (0, 16, .inl (fun k => ii (w k))))) {a b : Nat} (ha : a < n) (hb : b < n) : rr_Calls (d + 3) j_Script_swaps [.ref 7, .int (ii (a : Int)), .int (ii (b : Int)), .ref 1] (N, S, h) (fun r R => (dst n v (5, (a : Int), (b : Int)) = none ∧ r = some (.int (ii 0)) ∧ ∃ h', R = (N, S, h') ∧ fr [12] h h' ∧ ∃ w2 : Nat → Int, h' 12 = some (.inl (0, 16, .inl (fun k => ii (w2 k))))) ∨ (∃ v' : Nat → Int, dst n v (5, (a : Int), (b : Int)) = some (n, v') ∧ r = some (.int (ii 1)) ∧ ∃ h', R = (N, S, h') ∧ fr [2, 12] h h' ∧ h' 2 = some (.inl (0, 16, .inl (fun k => ii (v' k)))) ∧ ∃ w2 : Nat → Int, h' 12 = some (.inl (0, 16, .inl (fun k => ii (w2 k)))))) := by
  refine rr_meth (C := K_Script_swaps) (hd := h_Script_swaps) (mx := 6) rfl rfl (fun K hK => ?_)
  have hA := al_b hn
  have oa := one_lt hn ha
  have ob := one_lt hn hb
  have oo := or_16 (show 2 ^ a < 16 by omega) (show 2 ^ b < 16 by omega)
  refine hK _ _ _ _ ?_
  refine s_iconst rfl (cn rfl) ?_
  refine s_istore rfl (ch rfl) ?_
  have lp2 : ∀ g : Nat, g ≤ al n + 1 → ∀ (l5 : Option Value) (h' : Nat → Option rr_E) (w : Nat → Int) (h1 : 1 ≤ g) (c12 : h' 12 = some (.inl (0, 16, .inl (fun k => ii (w k))))) (hf : fr [12] h h') (hw : ∀ j, 1 ≤ j → j < g → w j = NX n v (5, (a : Int), (b : Int)) j), K 2 [some (.ref 7), some (.int (ii (a : Int))), some (.int (ii (b : Int))), some (.ref 1), some (.int (ii (g : Int))), l5] [] (N, S, h') := by
    refine dn (fun g hg ih2 => ?_)
    intro l5 h' w h1 c12 hf hw
    have c1 := (hf 1 (by decide)).trans c1
    have c2 := (hf 2 (by decide)).trans c2
    have c7 := (hf 7 (by decide)).trans c7
    have hvg := hv g
    refine hK _ _ _ _ ?_
    refine s_iload rfl (cn rfl) rfl ?_
    refine s_aload_n rfl (cn rfl) rfl ?_
    refine s_virt rfl (cn rfl) rfl rfl c1 rfl (u_all_1 hn c1) ?_
    rintro _ _ ⟨rfl, rfl⟩
    refine s_icmp_gt rfl (cn rfl) (cn rfl) ⟨by omega, by omega⟩ ⟨by omega, by omega⟩ (fun q5 => ?_) (fun q5 => ?_)
    · have WEQ : ∀ j, 1 ≤ j → j ≤ al n → w j = NX n v (5, (a : Int), (b : Int)) j := fun j j1 j2 => hw j j1 (by omega)
      refine s_aload_n rfl (cn rfl) rfl ?_
      refine s_aload_n rfl (cn rfl) rfl ?_
      refine s_virt rfl (cn rfl) rfl rfl c7 rfl (u_takes hn c1 c2 hv c7 c12 (fun j j1 j2 => by rw [WEQ j j1 j2]; have := NX_b (D := (5, (a : Int), (b : Int))) hn hv j; exact ⟨by omega, by omega⟩)) ?_
      rintro _ _ (⟨e1, rfl, rfl⟩ | ⟨e1, rfl, h2, rfl, hf2, d2⟩)
      · refine s_zreturn rfl (Or.inl rfl) ?_
        first
          | (refine Or.inl ⟨?_, rfl, _, rfl, hf, _, c12⟩
             rw [dst_3 (show (5 : Int) ≠ 0 by decide) (show (5 : Int) ≠ 1 by decide) (show (5 : Int) ≠ 2 by decide)]
             exact ci_n (fun q => e1 (fun j j1 j2 => by rw [WEQ j j1 j2]; exact q.2 j j1 j2)))
          | (refine Or.inr ⟨_, ?_, rfl, h2, rfl, fr_t (fr_w hf (by decide)) hf2 (by decide), ar_f d2 (nxt_c WEQ), _, (hf2 12 (by decide)).trans c12⟩
             rw [dst_3 (show (5 : Int) ≠ 0 by decide) (show (5 : Int) ≠ 1 by decide) (show (5 : Int) ≠ 2 by decide)]
             exact ci_y ⟨fun _ => (show (0 ≤ (a : Int) ∧ (a : Int) < (n : Int)) ∧ (0 ≤ (b : Int) ∧ (b : Int) < (n : Int)) by omega), fun j j1 j2 => by rw [← WEQ j j1 j2]; exact e1 j j1 j2⟩)
      · refine s_zreturn rfl (Or.inr rfl) ?_
        first
          | (refine Or.inl ⟨?_, rfl, _, rfl, hf, _, c12⟩
             rw [dst_3 (show (5 : Int) ≠ 0 by decide) (show (5 : Int) ≠ 1 by decide) (show (5 : Int) ≠ 2 by decide)]
             exact ci_n (fun q => e1 (fun j j1 j2 => by rw [WEQ j j1 j2]; exact q.2 j j1 j2)))
          | (refine Or.inr ⟨_, ?_, rfl, h2, rfl, fr_t (fr_w hf (by decide)) hf2 (by decide), ar_f d2 (nxt_c WEQ), _, (hf2 12 (by decide)).trans c12⟩
             rw [dst_3 (show (5 : Int) ≠ 0 by decide) (show (5 : Int) ≠ 1 by decide) (show (5 : Int) ≠ 2 by decide)]
             exact ci_y ⟨fun _ => (show (0 ≤ (a : Int) ∧ (a : Int) < (n : Int)) ∧ (0 ≤ (b : Int) ∧ (b : Int) < (n : Int)) by omega), fun j j1 j2 => by rw [← WEQ j j1 j2]; exact e1 j j1 j2⟩)
    · refine s_iload rfl (cn rfl) rfl ?_
      refine s_iload_n rfl (cn rfl) rfl ?_
      refine s_ishr rfl (cn rfl) ?_
      refine s_iconst rfl (cn rfl) ?_
      refine s_iand rfl (cn rfl) _ (bi_bit (by omega) (by omega)) ?_
      refine s_iload rfl (cn rfl) rfl ?_
      refine s_iload_n rfl (cn rfl) rfl ?_
      refine s_ishr rfl (cn rfl) ?_
      refine s_iconst rfl (cn rfl) ?_
      refine s_iand rfl (cn rfl) _ (bi_bit (by omega) (by omega)) ?_
      refine s_icmp_eq rfl (cn rfl) (cn rfl) (bt_b3 _ _) (bt_b3 _ _) (fun q16 => ?_) (fun q16 => ?_)
      · refine s_iconst rfl (cn rfl) ?_
        refine s_istore rfl (cn rfl) ?_
        refine s_aload_n rfl (cn rfl) rfl ?_
        refine s_getfield rfl (cn rfl) c7 rfl ?_
        refine s_iload rfl (cn rfl) rfl ?_
        refine s_aload_n rfl (cn rfl) rfl ?_
        refine s_getfield rfl (cn rfl) c1 rfl ?_
        refine s_iload rfl (cn rfl) rfl ?_
        refine s_if_eq rfl (cn rfl) (cn rfl) (by decide) (fun q27 => ?_) (fun q27 => absurd q27 (by decide))
        refine s_iload rfl (cn rfl) rfl ?_
        refine s_iaload rfl (cn rfl) _ rfl c2 rfl (by first | omega | exact xor_16 (by omega) (by omega)) (by decide) rfl ?_
        refine s_iastore rfl (cn rfl) _ rfl c12 (by omega) (by decide) ?_
        refine s_iinc rfl (cn rfl) rfl ?_
        refine s_goto rfl (ch rfl) ?_
        exact ih2 (by omega) _ _ _ (by omega) rr_set_eq (fr_s (by decide) hf) (fun j q1 q2 => by
            by_cases e : j = g
            · subst e; rw [fu_s]; show _ = (if (5 : Int) = 3 then _ else if (5 : Int) = 4 then _ else v (swp j a b)); rw [if_neg (by decide), if_neg (by decide)]; unfold swp; rw [if_pos q16]
            · rw [fu_n e]; exact hw j q1 (by omega))
      · refine s_iconst rfl (cn rfl) ?_
        refine s_goto rfl (cn rfl) ?_
        refine s_istore rfl (cn rfl) ?_
        refine s_aload_n rfl (cn rfl) rfl ?_
        refine s_getfield rfl (cn rfl) c7 rfl ?_
        refine s_iload rfl (cn rfl) rfl ?_
        refine s_aload_n rfl (cn rfl) rfl ?_
        refine s_getfield rfl (cn rfl) c1 rfl ?_
        refine s_iload rfl (cn rfl) rfl ?_
        refine s_if_eq rfl (cn rfl) (cn rfl) (by decide) (fun q27 => absurd q27 (by decide)) (fun q27 => ?_)
        refine s_iload rfl (cn rfl) rfl ?_
        refine s_iconst rfl (cn rfl) ?_
        refine s_iload_n rfl (cn rfl) rfl ?_
        refine s_ishl rfl (cn rfl) _ (bi_shl1 (by omega)) ?_
        refine s_iconst rfl (cn rfl) ?_
        refine s_iload_n rfl (cn rfl) rfl ?_
        refine s_ishl rfl (cn rfl) _ (bi_shl1 (by omega)) ?_
        refine s_ior rfl (cn rfl) _ (bi_or _ _) ?_
        refine s_ixor rfl (cn rfl) _ (bi_xor _ _) ?_
        refine s_goto rfl (cn rfl) ?_
        refine s_iaload rfl (cn rfl) _ rfl c2 rfl (by first | omega | exact xor_16 (by omega) (by omega)) (by decide) rfl ?_
        refine s_iastore rfl (cn rfl) _ rfl c12 (by omega) (by decide) ?_
        refine s_iinc rfl (cn rfl) rfl ?_
        refine s_goto rfl (ch rfl) ?_
        exact ih2 (by omega) _ _ _ (by omega) rr_set_eq (fr_s (by decide) hf) (fun j q1 q2 => by
            by_cases e : j = g
            · subst e; rw [fu_s]; show _ = (if (5 : Int) = 3 then _ else if (5 : Int) = 4 then _ else v (swp j a b)); rw [if_neg (by decide), if_neg (by decide)]; unfold swp; rw [if_neg q16]
            · rw [fu_n e]; exact hw j q1 (by omega))
  exact lp2 1 (by omega) _ _ _ (by omega) c12 fr_r (fun j q1 q2 => absurd q2 (by omega))
