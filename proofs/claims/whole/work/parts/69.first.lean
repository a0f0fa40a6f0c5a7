/-! The offers of the first stage. -/
theorem rsv_b {n r : Nat} {v : Nat → Int} (hv : ∀ k, -999 ≤ v k ∧ v k ≤ 999) (h0 : v 0 = 0) (h1 : n < 5) (h2 : 2 ≤ n) (h : r < TR n) : -4995 ≤ rsm (row n r) v ∧ rsm (row n r) v ≤ 4995 := by
  rw [← rs_v h1 h2 h h0]
  have := sm_bd (f := fun j => v (TE n (5 * r + j))) (c := 999) (by decide) 5 (fun j _ => hv _)
  omega
theorem v_offer0_13 {d N S : Nat} {h : Nat → Option rr_E} {ku wc op oc bt bb t0 b0 : Int} {s s0 : Nat} (c13 : h 13 = some (ST13 ku wc op oc (s : Int) bt bb)) (h1 : bb ≠ 0 → b6 (t0 * bb)) (h2 : bb ≠ 0 → b6 (bt * b0)) (h3 : b6 bb) : rr_Calls (d + 1) j_Stages_offer [.ref 13, .int (ii (s0 : Int)), .long (jj t0), .long (jj b0)] (N, S, h) (fun r R => r = none ∧ ∃ (h' : Nat → Option rr_E) (s' : Nat) (t' b' : Int), R = (N, S, h') ∧ fr [13] h h' ∧ h' 13 = some (ST13 ku wc op oc (s' : Int) t' b') ∧ (bb = 0 ∨ bt * b0 < t0 * bb → s' = s0 ∧ t' = t0 ∧ b' = b0) ∧ (bb ≠ 0 → t0 * bb = bt * b0 → s' = s ||| s0 ∧ t' = bt ∧ b' = bb) ∧ (bb ≠ 0 → t0 * bb < bt * b0 → s' = s ∧ t' = bt ∧ b' = bb)) := by
  refine rr_meth (C := K_Stages_offer) (hd := h_Stages_offer) (mx := 10) rfl rfl (fun K hK => ?_)
  refine hK _ _ _ _ ?_
  refine s_lload_n rfl (cn rfl) rfl ?_
  refine s_aload_n rfl (cn rfl) rfl ?_
  refine s_getfield rfl (cn rfl) c13 rfl ?_
  refine s_lmul rfl (cn rfl) ?_
  refine s_lstore rfl (cn rfl) ?_
  refine s_aload_n rfl (cn rfl) rfl ?_
  refine s_getfield rfl (cn rfl) c13 rfl ?_
  refine s_lload rfl (cn rfl) rfl ?_
  refine s_lmul rfl (cn rfl) ?_
  refine s_lstore rfl (cn rfl) ?_
  refine s_aload_n rfl (cn rfl) rfl ?_
  refine s_getfield rfl (cn rfl) c13 rfl ?_
  refine s_lconst rfl (cn rfl) 0 (by decide) ?_
  refine s_lcmp rfl (cn rfl) ?_
  refine s_ifl_eq rfl (cn rfl) (cn rfl) ⟨by omega, by omega⟩ ⟨by omega, by omega⟩ (fun q14 => ?_) (fun q14 => ?_)
  · refine s_aload_n rfl (cn rfl) rfl ?_
    refine s_iload_n rfl (cn rfl) rfl ?_
    refine s_puti rfl (cn rfl) rfl c13 rfl ?_
    refine s_aload_n rfl (cn rfl) rfl ?_
    refine s_lload_n rfl (cn rfl) rfl ?_
    refine s_putl rfl (cn rfl) rfl rr_set_eq rfl ?_
    refine s_aload_n rfl (cn rfl) rfl ?_
    refine s_lload rfl (cn rfl) rfl ?_
    refine s_putl rfl (cn rfl) rfl rr_set_eq rfl ?_
    refine s_goto rfl (cn rfl) ?_
    refine s_return rfl ?_
    first
      | exact ⟨rfl, _, s0, t0, b0, rfl, fr_s (by decide) (fr_s (by decide) (fr_s (by decide) fr_r)), rr_set_eq, fun _ => ⟨rfl, rfl, rfl⟩, fun q1 q2 => by omega, fun q1 q2 => by omega⟩
      | exact ⟨rfl, _, s ||| s0, bt, bb, rfl, fr_s (by decide) fr_r, rr_set_eq, fun q => by omega, fun _ _ => ⟨rfl, rfl, rfl⟩, fun q1 q2 => by omega⟩
      | exact ⟨rfl, h, s, bt, bb, rfl, fr_r, c13, fun q => by omega, fun q1 q2 => by omega, fun _ _ => ⟨rfl, rfl, rfl⟩⟩
  · refine s_lload rfl (cn rfl) rfl ?_
    refine s_lload rfl (cn rfl) rfl ?_
    refine s_lcmp rfl (cn rfl) ?_
    refine s_ifl_le rfl (cn rfl) (cn rfl) (h1 q14) (h2 q14) (fun q18 => ?_) (fun q18 => ?_)
    · refine s_lload rfl (cn rfl) rfl ?_
      refine s_lload rfl (cn rfl) rfl ?_
      refine s_lcmp rfl (cn rfl) ?_
      refine s_ifl_ne rfl (cn rfl) (cn rfl) (h1 q14) (h2 q14) (fun q32 => ?_) (fun q32 => ?_)
      · refine s_return rfl ?_
        first
          | exact ⟨rfl, _, s0, t0, b0, rfl, fr_s (by decide) (fr_s (by decide) (fr_s (by decide) fr_r)), rr_set_eq, fun _ => ⟨rfl, rfl, rfl⟩, fun q1 q2 => by omega, fun q1 q2 => by omega⟩
          | exact ⟨rfl, _, s ||| s0, bt, bb, rfl, fr_s (by decide) fr_r, rr_set_eq, fun q => by omega, fun _ _ => ⟨rfl, rfl, rfl⟩, fun q1 q2 => by omega⟩
          | exact ⟨rfl, h, s, bt, bb, rfl, fr_r, c13, fun q => by omega, fun q1 q2 => by omega, fun _ _ => ⟨rfl, rfl, rfl⟩⟩
      · refine s_aload_n rfl (cn rfl) rfl ?_
        refine s_dupr rfl (cn rfl) ?_
        refine s_getfield rfl (cn rfl) c13 rfl ?_
        refine s_iload_n rfl (cn rfl) rfl ?_
        refine s_ior rfl (cn rfl) _ (bi_or _ _) ?_
        refine s_puti rfl (cn rfl) rfl c13 rfl ?_
        refine s_return rfl ?_
        first
          | exact ⟨rfl, _, s0, t0, b0, rfl, fr_s (by decide) (fr_s (by decide) (fr_s (by decide) fr_r)), rr_set_eq, fun _ => ⟨rfl, rfl, rfl⟩, fun q1 q2 => by omega, fun q1 q2 => by omega⟩
          | exact ⟨rfl, _, s ||| s0, bt, bb, rfl, fr_s (by decide) fr_r, rr_set_eq, fun q => by omega, fun _ _ => ⟨rfl, rfl, rfl⟩, fun q1 q2 => by omega⟩
          | exact ⟨rfl, h, s, bt, bb, rfl, fr_r, c13, fun q => by omega, fun q1 q2 => by omega, fun _ _ => ⟨rfl, rfl, rfl⟩⟩
    · refine s_aload_n rfl (cn rfl) rfl ?_
      refine s_iload_n rfl (cn rfl) rfl ?_
      refine s_puti rfl (cn rfl) rfl c13 rfl ?_
      refine s_aload_n rfl (cn rfl) rfl ?_
      refine s_lload_n rfl (cn rfl) rfl ?_
      refine s_putl rfl (cn rfl) rfl rr_set_eq rfl ?_
      refine s_aload_n rfl (cn rfl) rfl ?_
      refine s_lload rfl (cn rfl) rfl ?_
      refine s_putl rfl (cn rfl) rfl rr_set_eq rfl ?_
      refine s_goto rfl (cn rfl) ?_
      refine s_return rfl ?_
      first
        | exact ⟨rfl, _, s0, t0, b0, rfl, fr_s (by decide) (fr_s (by decide) (fr_s (by decide) fr_r)), rr_set_eq, fun _ => ⟨rfl, rfl, rfl⟩, fun q1 q2 => by omega, fun q1 q2 => by omega⟩
        | exact ⟨rfl, _, s ||| s0, bt, bb, rfl, fr_s (by decide) fr_r, rr_set_eq, fun q => by omega, fun _ _ => ⟨rfl, rfl, rfl⟩, fun q1 q2 => by omega⟩
        | exact ⟨rfl, h, s, bt, bb, rfl, fr_r, c13, fun q => by omega, fun q1 q2 => by omega, fun _ _ => ⟨rfl, rfl, rfl⟩⟩
theorem v_offer0_28 {d N S : Nat} {h : Nat → Option rr_E} {ku wc op oc bt bb t0 b0 : Int} {s s0 : Nat} (c28 : h 28 = some (ST28 ku wc op oc (s : Int) bt bb)) (h1 : bb ≠ 0 → b6 (t0 * bb)) (h2 : bb ≠ 0 → b6 (bt * b0)) (h3 : b6 bb) : rr_Calls (d + 1) j_Stages_offer [.ref 28, .int (ii (s0 : Int)), .long (jj t0), .long (jj b0)] (N, S, h) (fun r R => r = none ∧ ∃ (h' : Nat → Option rr_E) (s' : Nat) (t' b' : Int), R = (N, S, h') ∧ fr [28] h h' ∧ h' 28 = some (ST28 ku wc op oc (s' : Int) t' b') ∧ (bb = 0 ∨ bt * b0 < t0 * bb → s' = s0 ∧ t' = t0 ∧ b' = b0) ∧ (bb ≠ 0 → t0 * bb = bt * b0 → s' = s ||| s0 ∧ t' = bt ∧ b' = bb) ∧ (bb ≠ 0 → t0 * bb < bt * b0 → s' = s ∧ t' = bt ∧ b' = bb)) := by
  refine rr_meth (C := K_Stages_offer) (hd := h_Stages_offer) (mx := 10) rfl rfl (fun K hK => ?_)
  refine hK _ _ _ _ ?_
  refine s_lload_n rfl (cn rfl) rfl ?_
  refine s_aload_n rfl (cn rfl) rfl ?_
  refine s_getfield rfl (cn rfl) c28 rfl ?_
  refine s_lmul rfl (cn rfl) ?_
  refine s_lstore rfl (cn rfl) ?_
  refine s_aload_n rfl (cn rfl) rfl ?_
  refine s_getfield rfl (cn rfl) c28 rfl ?_
  refine s_lload rfl (cn rfl) rfl ?_
  refine s_lmul rfl (cn rfl) ?_
  refine s_lstore rfl (cn rfl) ?_
  refine s_aload_n rfl (cn rfl) rfl ?_
  refine s_getfield rfl (cn rfl) c28 rfl ?_
  refine s_lconst rfl (cn rfl) 0 (by decide) ?_
  refine s_lcmp rfl (cn rfl) ?_
  refine s_ifl_eq rfl (cn rfl) (cn rfl) ⟨by omega, by omega⟩ ⟨by omega, by omega⟩ (fun q14 => ?_) (fun q14 => ?_)
  · refine s_aload_n rfl (cn rfl) rfl ?_
    refine s_iload_n rfl (cn rfl) rfl ?_
    refine s_puti rfl (cn rfl) rfl c28 rfl ?_
    refine s_aload_n rfl (cn rfl) rfl ?_
    refine s_lload_n rfl (cn rfl) rfl ?_
    refine s_putl rfl (cn rfl) rfl rr_set_eq rfl ?_
    refine s_aload_n rfl (cn rfl) rfl ?_
    refine s_lload rfl (cn rfl) rfl ?_
    refine s_putl rfl (cn rfl) rfl rr_set_eq rfl ?_
    refine s_goto rfl (cn rfl) ?_
    refine s_return rfl ?_
    first
      | exact ⟨rfl, _, s0, t0, b0, rfl, fr_s (by decide) (fr_s (by decide) (fr_s (by decide) fr_r)), rr_set_eq, fun _ => ⟨rfl, rfl, rfl⟩, fun q1 q2 => by omega, fun q1 q2 => by omega⟩
      | exact ⟨rfl, _, s ||| s0, bt, bb, rfl, fr_s (by decide) fr_r, rr_set_eq, fun q => by omega, fun _ _ => ⟨rfl, rfl, rfl⟩, fun q1 q2 => by omega⟩
      | exact ⟨rfl, h, s, bt, bb, rfl, fr_r, c28, fun q => by omega, fun q1 q2 => by omega, fun _ _ => ⟨rfl, rfl, rfl⟩⟩
  · refine s_lload rfl (cn rfl) rfl ?_
    refine s_lload rfl (cn rfl) rfl ?_
    refine s_lcmp rfl (cn rfl) ?_
    refine s_ifl_le rfl (cn rfl) (cn rfl) (h1 q14) (h2 q14) (fun q18 => ?_) (fun q18 => ?_)
    · refine s_lload rfl (cn rfl) rfl ?_
      refine s_lload rfl (cn rfl) rfl ?_
      refine s_lcmp rfl (cn rfl) ?_
      refine s_ifl_ne rfl (cn rfl) (cn rfl) (h1 q14) (h2 q14) (fun q32 => ?_) (fun q32 => ?_)
      · refine s_return rfl ?_
        first
          | exact ⟨rfl, _, s0, t0, b0, rfl, fr_s (by decide) (fr_s (by decide) (fr_s (by decide) fr_r)), rr_set_eq, fun _ => ⟨rfl, rfl, rfl⟩, fun q1 q2 => by omega, fun q1 q2 => by omega⟩
          | exact ⟨rfl, _, s ||| s0, bt, bb, rfl, fr_s (by decide) fr_r, rr_set_eq, fun q => by omega, fun _ _ => ⟨rfl, rfl, rfl⟩, fun q1 q2 => by omega⟩
          | exact ⟨rfl, h, s, bt, bb, rfl, fr_r, c28, fun q => by omega, fun q1 q2 => by omega, fun _ _ => ⟨rfl, rfl, rfl⟩⟩
      · refine s_aload_n rfl (cn rfl) rfl ?_
        refine s_dupr rfl (cn rfl) ?_
        refine s_getfield rfl (cn rfl) c28 rfl ?_
        refine s_iload_n rfl (cn rfl) rfl ?_
        refine s_ior rfl (cn rfl) _ (bi_or _ _) ?_
        refine s_puti rfl (cn rfl) rfl c28 rfl ?_
        refine s_return rfl ?_
        first
          | exact ⟨rfl, _, s0, t0, b0, rfl, fr_s (by decide) (fr_s (by decide) (fr_s (by decide) fr_r)), rr_set_eq, fun _ => ⟨rfl, rfl, rfl⟩, fun q1 q2 => by omega, fun q1 q2 => by omega⟩
          | exact ⟨rfl, _, s ||| s0, bt, bb, rfl, fr_s (by decide) fr_r, rr_set_eq, fun q => by omega, fun _ _ => ⟨rfl, rfl, rfl⟩, fun q1 q2 => by omega⟩
          | exact ⟨rfl, h, s, bt, bb, rfl, fr_r, c28, fun q => by omega, fun q1 q2 => by omega, fun _ _ => ⟨rfl, rfl, rfl⟩⟩
    · refine s_aload_n rfl (cn rfl) rfl ?_
      refine s_iload_n rfl (cn rfl) rfl ?_
      refine s_puti rfl (cn rfl) rfl c28 rfl ?_
      refine s_aload_n rfl (cn rfl) rfl ?_
      refine s_lload_n rfl (cn rfl) rfl ?_
      refine s_putl rfl (cn rfl) rfl rr_set_eq rfl ?_
      refine s_aload_n rfl (cn rfl) rfl ?_
      refine s_lload rfl (cn rfl) rfl ?_
      refine s_putl rfl (cn rfl) rfl rr_set_eq rfl ?_
      refine s_goto rfl (cn rfl) ?_
      refine s_return rfl ?_
      first
        | exact ⟨rfl, _, s0, t0, b0, rfl, fr_s (by decide) (fr_s (by decide) (fr_s (by decide) fr_r)), rr_set_eq, fun _ => ⟨rfl, rfl, rfl⟩, fun q1 q2 => by omega, fun q1 q2 => by omega⟩
        | exact ⟨rfl, _, s ||| s0, bt, bb, rfl, fr_s (by decide) fr_r, rr_set_eq, fun q => by omega, fun _ _ => ⟨rfl, rfl, rfl⟩, fun q1 q2 => by omega⟩
        | exact ⟨rfl, h, s, bt, bb, rfl, fr_r, c28, fun q => by omega, fun q1 q2 => by omega, fun _ _ => ⟨rfl, rfl, rfl⟩⟩
theorem v_offerAll_13_2 {d N S : Nat} {v : Nat → Int} {h : Nat → Option rr_E} (c1 : h 1 = some (.inr (0, [.int (ii ((2 : Nat) : Int)), .ref 2]))) (c2 : h 2 = some (.inl (0, 16, .inl (fun k => ii (v k))))) (hv : ∀ k, -999 ≤ v k ∧ v k ≤ 999) (h0 : v 0 = 0) (c1000000 : h 1000000 = some (.inl (8, 5, .inl (fun j => rr_two.getD j 0)))) {ku wc op oc bt bb : Int} {s : Nat} (c13 : h 13 = some (ST13 ku wc op oc (s : Int) bt bb)) (hbb : bb = 0) : rr_Calls (d + 2) j_Balanced_offerAll [.ref 1, .ref 13] (N, S, h) (fun r R => r = none ∧ ∃ (h' : Nat → Option rr_E) (s' : Nat) (t' b' : Int), R = (N, S, h') ∧ fr [13] h h' ∧ h' 13 = some (ST13 ku wc op oc (s' : Int) t' b') ∧ BP (PT 2 v) s' t' b' ∧ (1 ≤ b' ∧ b' ≤ 5) ∧ (-10000 ≤ t' ∧ t' ≤ 10000)) := by
  refine rr_meth (C := K_Balanced_offerAll) (hd := h_Balanced_offerAll) (mx := 8) rfl rfl (fun K hK => ?_)
  have htr : TR 2 = 1 := rfl
  have hal : al 2 = 3 := rfl
  refine hK _ _ _ _ ?_
  refine s_aload_n rfl (cn rfl) rfl ?_
  refine s_getfield rfl (cn rfl) c1 rfl ?_
  refine s_stat rfl (cn rfl) rfl rfl rfl u_table_2 ?_
  rintro _ _ ⟨rfl, rfl⟩
  refine s_astore_n rfl (cn rfl) ?_
  refine s_iconst rfl (cn rfl) ?_
  refine s_istore_n rfl (ch rfl) ?_
  have lp6 : ∀ u : Nat, u ≤ TR 2 → ∀ (l4 l5 l6 l7 : Option Value) (h' : Nat → Option rr_E) (s2 : Nat) (t2 b2 : Int) (c13 : h' 13 = some (ST13 ku wc op oc (s2 : Int) t2 b2)) (hf : fr [13] h h') (hB2 : BP (fun s t b => ∃ j, j < u ∧ s = tb_sup (row 2 j) ∧ t = rsm (row 2 j) v - rone (row 2 j) * v (al 2) ∧ b = rtot (row 2 j)) s2 t2 b2) (hbd : (0 ≤ b2 ∧ b2 ≤ 5) ∧ (b2 ≠ 0 → -10000 ≤ t2 ∧ t2 ≤ 10000) ∧ (1 ≤ u → b2 ≠ 0)), K 6 [some (.ref 1), some (.ref 13), some (.ref 1000000), some (.int (ii ((5 * u : Nat) : Int))), l4, l5, l6, l7] [] (N, S, h') := by
    refine dn (fun u hu ih6 => ?_)
    intro l4 l5 l6 l7 h' s2 t2 b2 c13 hf hB2 hbd
    have c1 := (hf 1 (by decide)).trans c1
    have c2 := (hf 2 (by decide)).trans c2
    have c1000000 := (hf 1000000 (by decide)).trans c1000000
    refine hK _ _ _ _ ?_
    refine s_iload_n rfl (cn rfl) rfl ?_
    refine s_iconst rfl (cn rfl) ?_
    refine s_iadd rfl (cn rfl) ?_
    refine s_aload_n rfl (cn rfl) rfl ?_
    refine s_arraylength rfl (cn rfl) c1000000 (by decide) ?_
    refine s_icmp_gt rfl (cn rfl) (cn rfl) ⟨by omega, by omega⟩ ⟨by omega, by omega⟩ (fun q11 => ?_) (fun q11 => ?_)
    · refine s_return rfl ?_
      refine ⟨rfl, h', s2, t2, b2, rfl, hf, c13, BP_cg hB2 (fun s t b => ⟨fun ⟨j, j1, j2⟩ => ⟨row 2 j, row_mem (by decide) (by decide) (by omega), j2⟩, fun ⟨l, l1, l2⟩ => by
        obtain ⟨j, j1, rfl⟩ := mem_row (by decide) (by decide) l1
        exact ⟨j, by omega, l2⟩⟩), by omega, by omega⟩
    · refine s_iconst rfl (cn rfl) ?_
      refine s_istore rfl (cn rfl) ?_
      refine s_iconst rfl (cn rfl) ?_
      refine s_istore rfl (cn rfl) ?_
      refine s_iconst rfl (cn rfl) ?_
      refine s_istore rfl (cn rfl) ?_
      refine s_iload_n rfl (cn rfl) rfl ?_
      refine s_istore rfl (ch rfl) ?_
      have lp20 : ∀ m : Nat, m ≤ 5 → ∀ (x y : Int) (z : Nat) (hx : x = ms_sm m (fun j => ((TE 2 (5 * u + j) &&& 1 : Nat) : Int))) (hy : y = ms_sm m (fun j => if TE 2 (5 * u + j) = 0 then 0 else 1)) (hz : z = sTm (fun j => TE 2 (5 * u + j)) m) (hxb : 0 ≤ x ∧ x ≤ m), K 20 [some (.ref 1), some (.ref 13), some (.ref 1000000), some (.int (ii ((5 * u : Nat) : Int))), some (.int (ii x)), some (.int (ii y)), some (.int (ii (z : Int))), some (.int (ii ((5 * u + m : Nat) : Int)))] [] (N, S, h') := by
        refine dn (fun m hm ih20 => ?_)
        intro x y z hx hy hz hxb
        refine hK _ _ _ _ ?_
        refine s_iload rfl (cn rfl) rfl ?_
        refine s_iload_n rfl (cn rfl) rfl ?_
        refine s_iconst rfl (cn rfl) ?_
        refine s_iadd rfl (cn rfl) ?_
        refine s_icmp_ge rfl (cn rfl) (cn rfl) ⟨by omega, by omega⟩ ⟨by omega, by omega⟩ (fun q24 => ?_) (fun q24 => ?_)
        · have hc : x = rone (row 2 u) := by rw [hx, show m = 5 by omega]; exact one_5 (by decide) (by decide) (by omega)
          have ht : y = rtot (row 2 u) := by rw [hy, show m = 5 by omega]; exact rs_5 (f := fun _ => 1) (by decide) (by decide) (by omega)
          have hs : z = tb_sup (row 2 u) := by rw [hz, show m = 5 by omega]; exact sTm_5 (by decide) (by decide) (by omega)
          have rt := row_tot 2 (by decide) (by decide) (row 2 u) (row_mem (by decide) (by decide) (by omega))
          have hva := hv (al 2)
          have hsb := rsv_b (n := 2) (r := u) hv h0 (by decide) (by decide) (by omega)
          have o1 := ab_mul (x := x) (y := v (al 2)) (a := 5) (b := 999) (by omega) (by omega) (by decide) (by decide)
          refine s_aload_n rfl (cn rfl) rfl ?_
          refine s_iload rfl (cn rfl) rfl ?_
          refine s_aload_n rfl (cn rfl) rfl ?_
          refine s_aload_n rfl (cn rfl) rfl ?_
          refine s_iload_n rfl (cn rfl) rfl ?_
          refine s_stat rfl (cn rfl) rfl rfl rfl (u_sumW_2_1 (by exact c1) (by exact c2) hv h0 (by exact c1000000) (show u < TR 2 by omega)) ?_
          rintro _ _ ⟨rfl, rfl⟩
          refine s_iload rfl (cn rfl) rfl ?_
          refine s_aload_n rfl (cn rfl) rfl ?_
          refine s_getfield rfl (cn rfl) c1 rfl ?_
          refine s_aload_n rfl (cn rfl) rfl ?_
          refine s_virt rfl (cn rfl) rfl rfl c1 rfl (u_all_1 (n := 2) ⟨by decide, by decide⟩ (by exact c1)) ?_
          rintro _ _ ⟨rfl, rfl⟩
          refine s_iaload rfl (cn rfl) _ rfl c2 rfl (by omega) (by decide) rfl ?_
          refine s_imul rfl (cn rfl) ?_
          refine s_isub rfl (cn rfl) ?_
          refine s_i2l rfl (cn rfl) ⟨by omega, by omega⟩ ?_
          refine s_iload rfl (cn rfl) rfl ?_
          refine s_i2l rfl (cn rfl) ⟨by omega, by omega⟩ ?_
          refine s_virt rfl (cn rfl) rfl rfl c13 rfl (v_offer0_13 (s0 := z) (t0 := (rsm (row 2 u) v - x * v (al 2))) (b0 := y) c13 (fun _ => by have := ab_mul (x := (rsm (row 2 u) v - x * v (al 2))) (y := b2) (a := 10000) (b := 5) (by omega) (by omega) (by decide) (by decide); omega) (fun e => by have := ab_mul (x := t2) (y := y) (a := 10000) (b := 5) (by omega) (by omega) (by decide) (by decide); omega) (by omega)) ?_
          rintro _ _ ⟨rfl, h3, s3, t3, b3, rfl, hf3, d3, hn3, he3, hl3⟩
          refine s_iinc rfl (cn rfl) rfl ?_
          refine s_goto rfl (ch rfl) ?_
          exact ih6 (by omega) _ _ _ _ _ s3 t3 b3 d3 (fr_t hf hf3 (by decide)) (BP_cg (BP_s hB2 (by omega) hn3 he3 hl3) (fun s t b => ⟨fun q => by
              rcases q with ⟨j, j1, j2⟩ | ⟨rfl, rfl, rfl⟩
              · exact ⟨j, by omega, j2⟩
              · exact ⟨u, by omega, hs, by rw [hc], ht⟩, fun ⟨j, j1, j2, j3, j4⟩ => by
              by_cases e : j = u
              · subst e; exact Or.inr ⟨by rw [j2, hs], by rw [j3, hc], by rw [j4, ht]⟩
              · exact Or.inl ⟨j, by omega, j2, j3, j4⟩⟩)) (by
              rcases (show b2 = 0 ∨ (rsm (row 2 u) v - x * v (al 2)) * b2 = t2 * y ∨ (rsm (row 2 u) v - x * v (al 2)) * b2 < t2 * y ∨ t2 * y < (rsm (row 2 u) v - x * v (al 2)) * b2 by omega) with e | e | e | e
              · have := hn3 (Or.inl e); omega
              · by_cases e2 : b2 = 0
                · have := hn3 (Or.inl e2); omega
                · have := he3 e2 e; omega
              · by_cases e2 : b2 = 0
                · have := hn3 (Or.inl e2); omega
                · have := hl3 e2 e; omega
              · have := hn3 (Or.inr e); omega)
        · have t16 := TE_16 2 (by decide) (by decide) (5 * u + m) (by omega)
          have a1 := and1_b (TE 2 (5 * u + m))
          refine s_iload rfl (cn rfl) rfl ?_
          refine s_aload_n rfl (cn rfl) rfl ?_
          refine s_iload rfl (cn rfl) rfl ?_
          refine s_iaload rfl (cn rfl) _ rfl c1000000 rfl (by omega) (by decide) (TE_2 _ (by omega)) ?_
          refine s_iconst rfl (cn rfl) ?_
          refine s_iand rfl (cn rfl) _ (bi_and _ 1) ?_
          refine s_iadd rfl (cn rfl) ?_
          refine s_istore rfl (cn rfl) ?_
          refine s_iload rfl (cn rfl) rfl ?_
          refine s_aload_n rfl (cn rfl) rfl ?_
          refine s_iload rfl (cn rfl) rfl ?_
          refine s_iaload rfl (cn rfl) _ rfl c1000000 rfl (by omega) (by decide) (TE_2 _ (by omega)) ?_
          refine s_if_ne rfl (cn rfl) (cn rfl) ⟨by omega, by omega⟩ (fun q37 => ?_) (fun q37 => ?_)
          · refine s_iconst rfl (cn rfl) ?_
            refine s_iadd rfl (cn rfl) ?_
            refine s_istore rfl (cn rfl) ?_
            refine s_iload rfl (cn rfl) rfl ?_
            refine s_aload_n rfl (cn rfl) rfl ?_
            refine s_iload rfl (cn rfl) rfl ?_
            refine s_iaload rfl (cn rfl) _ rfl c1000000 rfl (by omega) (by decide) (TE_2 _ (by omega)) ?_
            refine s_if_ne rfl (cn rfl) (cn rfl) ⟨by omega, by omega⟩ (fun q47 => ?_) (fun q47 => ?_)
            · first
              | (exfalso; omega)
              | skip
                refine s_iconst rfl (cn rfl) ?_
                refine s_aload_n rfl (cn rfl) rfl ?_
                refine s_iload rfl (cn rfl) rfl ?_
                refine s_iaload rfl (cn rfl) _ rfl c1000000 rfl (by omega) (by decide) (TE_2 _ (by omega)) ?_
                refine s_ishl rfl (cn rfl) _ (bi_shl1 (by omega)) ?_
                refine s_ior rfl (cn rfl) _ (bi_or _ _) ?_
                refine s_istore rfl (cn rfl) ?_
                refine s_iinc rfl (cn rfl) rfl ?_
                refine s_goto rfl (ch rfl) ?_
                first
                  | exact ih20 (by omega) _ _ _ (by rw [hx]; rfl) (by show _ = ms_sm m _ + (if TE 2 (5 * u + m) = 0 then 0 else 1); rw [if_neg (by omega), hy]) (by show _ = if TE 2 (5 * u + m) = 0 then _ else _; rw [if_neg (by omega), hz]) (by omega)
                  | exact ih20 (by omega) _ _ _ (by rw [hx]; rfl) (by show _ = ms_sm m _ + (if TE 2 (5 * u + m) = 0 then 0 else 1); rw [if_pos (by omega), hy]) (by show _ = if TE 2 (5 * u + m) = 0 then _ else _; rw [if_pos (by omega), hz]; exact Nat.or_zero _) (by omega)
            · first
              | (exfalso; omega)
              | skip
                refine s_iconst rfl (cn rfl) ?_
                refine s_goto rfl (cn rfl) ?_
                refine s_ior rfl (cn rfl) _ (bi_or _ 0) ?_
                refine s_istore rfl (cn rfl) ?_
                refine s_iinc rfl (cn rfl) rfl ?_
                refine s_goto rfl (ch rfl) ?_
                first
                  | exact ih20 (by omega) _ _ _ (by rw [hx]; rfl) (by show _ = ms_sm m _ + (if TE 2 (5 * u + m) = 0 then 0 else 1); rw [if_neg (by omega), hy]) (by show _ = if TE 2 (5 * u + m) = 0 then _ else _; rw [if_neg (by omega), hz]) (by omega)
                  | exact ih20 (by omega) _ _ _ (by rw [hx]; rfl) (by show _ = ms_sm m _ + (if TE 2 (5 * u + m) = 0 then 0 else 1); rw [if_pos (by omega), hy]) (by show _ = if TE 2 (5 * u + m) = 0 then _ else _; rw [if_pos (by omega), hz]; exact Nat.or_zero _) (by omega)
          · refine s_iconst rfl (cn rfl) ?_
            refine s_goto rfl (cn rfl) ?_
            refine s_iadd rfl (cn rfl) ?_
            refine s_istore rfl (cn rfl) ?_
            refine s_iload rfl (cn rfl) rfl ?_
            refine s_aload_n rfl (cn rfl) rfl ?_
            refine s_iload rfl (cn rfl) rfl ?_
            refine s_iaload rfl (cn rfl) _ rfl c1000000 rfl (by omega) (by decide) (TE_2 _ (by omega)) ?_
            refine s_if_ne rfl (cn rfl) (cn rfl) ⟨by omega, by omega⟩ (fun q47 => ?_) (fun q47 => ?_)
            · first
              | (exfalso; omega)
              | skip
                refine s_iconst rfl (cn rfl) ?_
                refine s_aload_n rfl (cn rfl) rfl ?_
                refine s_iload rfl (cn rfl) rfl ?_
                refine s_iaload rfl (cn rfl) _ rfl c1000000 rfl (by omega) (by decide) (TE_2 _ (by omega)) ?_
                refine s_ishl rfl (cn rfl) _ (bi_shl1 (by omega)) ?_
                refine s_ior rfl (cn rfl) _ (bi_or _ _) ?_
                refine s_istore rfl (cn rfl) ?_
                refine s_iinc rfl (cn rfl) rfl ?_
                refine s_goto rfl (ch rfl) ?_
                first
                  | exact ih20 (by omega) _ _ _ (by rw [hx]; rfl) (by show _ = ms_sm m _ + (if TE 2 (5 * u + m) = 0 then 0 else 1); rw [if_neg (by omega), hy]) (by show _ = if TE 2 (5 * u + m) = 0 then _ else _; rw [if_neg (by omega), hz]) (by omega)
                  | exact ih20 (by omega) _ _ _ (by rw [hx]; rfl) (by show _ = ms_sm m _ + (if TE 2 (5 * u + m) = 0 then 0 else 1); rw [if_pos (by omega), hy]) (by show _ = if TE 2 (5 * u + m) = 0 then _ else _; rw [if_pos (by omega), hz]; exact Nat.or_zero _) (by omega)
            · first
              | (exfalso; omega)
              | skip
                refine s_iconst rfl (cn rfl) ?_
                refine s_goto rfl (cn rfl) ?_
                refine s_ior rfl (cn rfl) _ (bi_or _ 0) ?_
                refine s_istore rfl (cn rfl) ?_
                refine s_iinc rfl (cn rfl) rfl ?_
                refine s_goto rfl (ch rfl) ?_
                first
                  | exact ih20 (by omega) _ _ _ (by rw [hx]; rfl) (by show _ = ms_sm m _ + (if TE 2 (5 * u + m) = 0 then 0 else 1); rw [if_neg (by omega), hy]) (by show _ = if TE 2 (5 * u + m) = 0 then _ else _; rw [if_neg (by omega), hz]) (by omega)
                  | exact ih20 (by omega) _ _ _ (by rw [hx]; rfl) (by show _ = ms_sm m _ + (if TE 2 (5 * u + m) = 0 then 0 else 1); rw [if_pos (by omega), hy]) (by show _ = if TE 2 (5 * u + m) = 0 then _ else _; rw [if_pos (by omega), hz]; exact Nat.or_zero _) (by omega)
      exact lp20 0 (by omega) _ _ 0 rfl rfl rfl (by omega)
  exact lp6 0 (by omega) _ _ _ _ _ s bt bb c13 fr_r (Or.inl ⟨hbb, fun s t b ⟨j, j1, _⟩ => absurd j1 (by omega)⟩) (by omega)
theorem v_offerAll_28_2 {d N S : Nat} {v : Nat → Int} {h : Nat → Option rr_E} (c5 : h 5 = some (.inr (0, [.int (ii ((2 : Nat) : Int)), .ref 6]))) (c6 : h 6 = some (.inl (0, 16, .inl (fun k => ii (v k))))) (hv : ∀ k, -999 ≤ v k ∧ v k ≤ 999) (h0 : v 0 = 0) (c1000000 : h 1000000 = some (.inl (8, 5, .inl (fun j => rr_two.getD j 0)))) {ku wc op oc bt bb : Int} {s : Nat} (c28 : h 28 = some (ST28 ku wc op oc (s : Int) bt bb)) (hbb : bb = 0) : rr_Calls (d + 2) j_Balanced_offerAll [.ref 5, .ref 28] (N, S, h) (fun r R => r = none ∧ ∃ (h' : Nat → Option rr_E) (s' : Nat) (t' b' : Int), R = (N, S, h') ∧ fr [28] h h' ∧ h' 28 = some (ST28 ku wc op oc (s' : Int) t' b') ∧ BP (PT 2 v) s' t' b' ∧ (1 ≤ b' ∧ b' ≤ 5) ∧ (-10000 ≤ t' ∧ t' ≤ 10000)) := by
  refine rr_meth (C := K_Balanced_offerAll) (hd := h_Balanced_offerAll) (mx := 8) rfl rfl (fun K hK => ?_)
  have htr : TR 2 = 1 := rfl
  have hal : al 2 = 3 := rfl
  refine hK _ _ _ _ ?_
  refine s_aload_n rfl (cn rfl) rfl ?_
  refine s_getfield rfl (cn rfl) c5 rfl ?_
  refine s_stat rfl (cn rfl) rfl rfl rfl u_table_2 ?_
  rintro _ _ ⟨rfl, rfl⟩
  refine s_astore_n rfl (cn rfl) ?_
  refine s_iconst rfl (cn rfl) ?_
  refine s_istore_n rfl (ch rfl) ?_
  have lp6 : ∀ u : Nat, u ≤ TR 2 → ∀ (l4 l5 l6 l7 : Option Value) (h' : Nat → Option rr_E) (s2 : Nat) (t2 b2 : Int) (c28 : h' 28 = some (ST28 ku wc op oc (s2 : Int) t2 b2)) (hf : fr [28] h h') (hB2 : BP (fun s t b => ∃ j, j < u ∧ s = tb_sup (row 2 j) ∧ t = rsm (row 2 j) v - rone (row 2 j) * v (al 2) ∧ b = rtot (row 2 j)) s2 t2 b2) (hbd : (0 ≤ b2 ∧ b2 ≤ 5) ∧ (b2 ≠ 0 → -10000 ≤ t2 ∧ t2 ≤ 10000) ∧ (1 ≤ u → b2 ≠ 0)), K 6 [some (.ref 5), some (.ref 28), some (.ref 1000000), some (.int (ii ((5 * u : Nat) : Int))), l4, l5, l6, l7] [] (N, S, h') := by
    refine dn (fun u hu ih6 => ?_)
    intro l4 l5 l6 l7 h' s2 t2 b2 c28 hf hB2 hbd
    have c5 := (hf 5 (by decide)).trans c5
    have c6 := (hf 6 (by decide)).trans c6
    have c1000000 := (hf 1000000 (by decide)).trans c1000000
    refine hK _ _ _ _ ?_
    refine s_iload_n rfl (cn rfl) rfl ?_
    refine s_iconst rfl (cn rfl) ?_
    refine s_iadd rfl (cn rfl) ?_
    refine s_aload_n rfl (cn rfl) rfl ?_
    refine s_arraylength rfl (cn rfl) c1000000 (by decide) ?_
    refine s_icmp_gt rfl (cn rfl) (cn rfl) ⟨by omega, by omega⟩ ⟨by omega, by omega⟩ (fun q11 => ?_) (fun q11 => ?_)
    · refine s_return rfl ?_
      refine ⟨rfl, h', s2, t2, b2, rfl, hf, c28, BP_cg hB2 (fun s t b => ⟨fun ⟨j, j1, j2⟩ => ⟨row 2 j, row_mem (by decide) (by decide) (by omega), j2⟩, fun ⟨l, l1, l2⟩ => by
        obtain ⟨j, j1, rfl⟩ := mem_row (by decide) (by decide) l1
        exact ⟨j, by omega, l2⟩⟩), by omega, by omega⟩
    · refine s_iconst rfl (cn rfl) ?_
      refine s_istore rfl (cn rfl) ?_
      refine s_iconst rfl (cn rfl) ?_
      refine s_istore rfl (cn rfl) ?_
      refine s_iconst rfl (cn rfl) ?_
      refine s_istore rfl (cn rfl) ?_
      refine s_iload_n rfl (cn rfl) rfl ?_
      refine s_istore rfl (ch rfl) ?_
      have lp20 : ∀ m : Nat, m ≤ 5 → ∀ (x y : Int) (z : Nat) (hx : x = ms_sm m (fun j => ((TE 2 (5 * u + j) &&& 1 : Nat) : Int))) (hy : y = ms_sm m (fun j => if TE 2 (5 * u + j) = 0 then 0 else 1)) (hz : z = sTm (fun j => TE 2 (5 * u + j)) m) (hxb : 0 ≤ x ∧ x ≤ m), K 20 [some (.ref 5), some (.ref 28), some (.ref 1000000), some (.int (ii ((5 * u : Nat) : Int))), some (.int (ii x)), some (.int (ii y)), some (.int (ii (z : Int))), some (.int (ii ((5 * u + m : Nat) : Int)))] [] (N, S, h') := by
        refine dn (fun m hm ih20 => ?_)
        intro x y z hx hy hz hxb
        refine hK _ _ _ _ ?_
        refine s_iload rfl (cn rfl) rfl ?_
        refine s_iload_n rfl (cn rfl) rfl ?_
        refine s_iconst rfl (cn rfl) ?_
        refine s_iadd rfl (cn rfl) ?_
        refine s_icmp_ge rfl (cn rfl) (cn rfl) ⟨by omega, by omega⟩ ⟨by omega, by omega⟩ (fun q24 => ?_) (fun q24 => ?_)
        · have hc : x = rone (row 2 u) := by rw [hx, show m = 5 by omega]; exact one_5 (by decide) (by decide) (by omega)
          have ht : y = rtot (row 2 u) := by rw [hy, show m = 5 by omega]; exact rs_5 (f := fun _ => 1) (by decide) (by decide) (by omega)
          have hs : z = tb_sup (row 2 u) := by rw [hz, show m = 5 by omega]; exact sTm_5 (by decide) (by decide) (by omega)
          have rt := row_tot 2 (by decide) (by decide) (row 2 u) (row_mem (by decide) (by decide) (by omega))
          have hva := hv (al 2)
          have hsb := rsv_b (n := 2) (r := u) hv h0 (by decide) (by decide) (by omega)
          have o1 := ab_mul (x := x) (y := v (al 2)) (a := 5) (b := 999) (by omega) (by omega) (by decide) (by decide)
          refine s_aload_n rfl (cn rfl) rfl ?_
          refine s_iload rfl (cn rfl) rfl ?_
          refine s_aload_n rfl (cn rfl) rfl ?_
          refine s_aload_n rfl (cn rfl) rfl ?_
          refine s_iload_n rfl (cn rfl) rfl ?_
          refine s_stat rfl (cn rfl) rfl rfl rfl (u_sumW_2_5 (by exact c5) (by exact c6) hv h0 (by exact c1000000) (show u < TR 2 by omega)) ?_
          rintro _ _ ⟨rfl, rfl⟩
          refine s_iload rfl (cn rfl) rfl ?_
          refine s_aload_n rfl (cn rfl) rfl ?_
          refine s_getfield rfl (cn rfl) c5 rfl ?_
          refine s_aload_n rfl (cn rfl) rfl ?_
          refine s_virt rfl (cn rfl) rfl rfl c5 rfl (u_all_5 (n := 2) ⟨by decide, by decide⟩ (by exact c5)) ?_
          rintro _ _ ⟨rfl, rfl⟩
          refine s_iaload rfl (cn rfl) _ rfl c6 rfl (by omega) (by decide) rfl ?_
          refine s_imul rfl (cn rfl) ?_
          refine s_isub rfl (cn rfl) ?_
          refine s_i2l rfl (cn rfl) ⟨by omega, by omega⟩ ?_
          refine s_iload rfl (cn rfl) rfl ?_
          refine s_i2l rfl (cn rfl) ⟨by omega, by omega⟩ ?_
          refine s_virt rfl (cn rfl) rfl rfl c28 rfl (v_offer0_28 (s0 := z) (t0 := (rsm (row 2 u) v - x * v (al 2))) (b0 := y) c28 (fun _ => by have := ab_mul (x := (rsm (row 2 u) v - x * v (al 2))) (y := b2) (a := 10000) (b := 5) (by omega) (by omega) (by decide) (by decide); omega) (fun e => by have := ab_mul (x := t2) (y := y) (a := 10000) (b := 5) (by omega) (by omega) (by decide) (by decide); omega) (by omega)) ?_
          rintro _ _ ⟨rfl, h3, s3, t3, b3, rfl, hf3, d3, hn3, he3, hl3⟩
          refine s_iinc rfl (cn rfl) rfl ?_
          refine s_goto rfl (ch rfl) ?_
          exact ih6 (by omega) _ _ _ _ _ s3 t3 b3 d3 (fr_t hf hf3 (by decide)) (BP_cg (BP_s hB2 (by omega) hn3 he3 hl3) (fun s t b => ⟨fun q => by
              rcases q with ⟨j, j1, j2⟩ | ⟨rfl, rfl, rfl⟩
              · exact ⟨j, by omega, j2⟩
              · exact ⟨u, by omega, hs, by rw [hc], ht⟩, fun ⟨j, j1, j2, j3, j4⟩ => by
              by_cases e : j = u
              · subst e; exact Or.inr ⟨by rw [j2, hs], by rw [j3, hc], by rw [j4, ht]⟩
              · exact Or.inl ⟨j, by omega, j2, j3, j4⟩⟩)) (by
              rcases (show b2 = 0 ∨ (rsm (row 2 u) v - x * v (al 2)) * b2 = t2 * y ∨ (rsm (row 2 u) v - x * v (al 2)) * b2 < t2 * y ∨ t2 * y < (rsm (row 2 u) v - x * v (al 2)) * b2 by omega) with e | e | e | e
              · have := hn3 (Or.inl e); omega
              · by_cases e2 : b2 = 0
                · have := hn3 (Or.inl e2); omega
                · have := he3 e2 e; omega
              · by_cases e2 : b2 = 0
                · have := hn3 (Or.inl e2); omega
                · have := hl3 e2 e; omega
              · have := hn3 (Or.inr e); omega)
        · have t16 := TE_16 2 (by decide) (by decide) (5 * u + m) (by omega)
          have a1 := and1_b (TE 2 (5 * u + m))
          refine s_iload rfl (cn rfl) rfl ?_
          refine s_aload_n rfl (cn rfl) rfl ?_
          refine s_iload rfl (cn rfl) rfl ?_
          refine s_iaload rfl (cn rfl) _ rfl c1000000 rfl (by omega) (by decide) (TE_2 _ (by omega)) ?_
          refine s_iconst rfl (cn rfl) ?_
          refine s_iand rfl (cn rfl) _ (bi_and _ 1) ?_
          refine s_iadd rfl (cn rfl) ?_
          refine s_istore rfl (cn rfl) ?_
          refine s_iload rfl (cn rfl) rfl ?_
          refine s_aload_n rfl (cn rfl) rfl ?_
          refine s_iload rfl (cn rfl) rfl ?_
          refine s_iaload rfl (cn rfl) _ rfl c1000000 rfl (by omega) (by decide) (TE_2 _ (by omega)) ?_
          refine s_if_ne rfl (cn rfl) (cn rfl) ⟨by omega, by omega⟩ (fun q37 => ?_) (fun q37 => ?_)
          · refine s_iconst rfl (cn rfl) ?_
            refine s_iadd rfl (cn rfl) ?_
            refine s_istore rfl (cn rfl) ?_
            refine s_iload rfl (cn rfl) rfl ?_
            refine s_aload_n rfl (cn rfl) rfl ?_
            refine s_iload rfl (cn rfl) rfl ?_
            refine s_iaload rfl (cn rfl) _ rfl c1000000 rfl (by omega) (by decide) (TE_2 _ (by omega)) ?_
            refine s_if_ne rfl (cn rfl) (cn rfl) ⟨by omega, by omega⟩ (fun q47 => ?_) (fun q47 => ?_)
            · first
              | (exfalso; omega)
              | skip
                refine s_iconst rfl (cn rfl) ?_
                refine s_aload_n rfl (cn rfl) rfl ?_
                refine s_iload rfl (cn rfl) rfl ?_
                refine s_iaload rfl (cn rfl) _ rfl c1000000 rfl (by omega) (by decide) (TE_2 _ (by omega)) ?_
                refine s_ishl rfl (cn rfl) _ (bi_shl1 (by omega)) ?_
                refine s_ior rfl (cn rfl) _ (bi_or _ _) ?_
                refine s_istore rfl (cn rfl) ?_
                refine s_iinc rfl (cn rfl) rfl ?_
                refine s_goto rfl (ch rfl) ?_
                first
                  | exact ih20 (by omega) _ _ _ (by rw [hx]; rfl) (by show _ = ms_sm m _ + (if TE 2 (5 * u + m) = 0 then 0 else 1); rw [if_neg (by omega), hy]) (by show _ = if TE 2 (5 * u + m) = 0 then _ else _; rw [if_neg (by omega), hz]) (by omega)
                  | exact ih20 (by omega) _ _ _ (by rw [hx]; rfl) (by show _ = ms_sm m _ + (if TE 2 (5 * u + m) = 0 then 0 else 1); rw [if_pos (by omega), hy]) (by show _ = if TE 2 (5 * u + m) = 0 then _ else _; rw [if_pos (by omega), hz]; exact Nat.or_zero _) (by omega)
            · first
              | (exfalso; omega)
              | skip
                refine s_iconst rfl (cn rfl) ?_
                refine s_goto rfl (cn rfl) ?_
                refine s_ior rfl (cn rfl) _ (bi_or _ 0) ?_
                refine s_istore rfl (cn rfl) ?_
                refine s_iinc rfl (cn rfl) rfl ?_
                refine s_goto rfl (ch rfl) ?_
                first
                  | exact ih20 (by omega) _ _ _ (by rw [hx]; rfl) (by show _ = ms_sm m _ + (if TE 2 (5 * u + m) = 0 then 0 else 1); rw [if_neg (by omega), hy]) (by show _ = if TE 2 (5 * u + m) = 0 then _ else _; rw [if_neg (by omega), hz]) (by omega)
                  | exact ih20 (by omega) _ _ _ (by rw [hx]; rfl) (by show _ = ms_sm m _ + (if TE 2 (5 * u + m) = 0 then 0 else 1); rw [if_pos (by omega), hy]) (by show _ = if TE 2 (5 * u + m) = 0 then _ else _; rw [if_pos (by omega), hz]; exact Nat.or_zero _) (by omega)
          · refine s_iconst rfl (cn rfl) ?_
            refine s_goto rfl (cn rfl) ?_
            refine s_iadd rfl (cn rfl) ?_
            refine s_istore rfl (cn rfl) ?_
            refine s_iload rfl (cn rfl) rfl ?_
            refine s_aload_n rfl (cn rfl) rfl ?_
            refine s_iload rfl (cn rfl) rfl ?_
            refine s_iaload rfl (cn rfl) _ rfl c1000000 rfl (by omega) (by decide) (TE_2 _ (by omega)) ?_
            refine s_if_ne rfl (cn rfl) (cn rfl) ⟨by omega, by omega⟩ (fun q47 => ?_) (fun q47 => ?_)
            · first
              | (exfalso; omega)
              | skip
                refine s_iconst rfl (cn rfl) ?_
                refine s_aload_n rfl (cn rfl) rfl ?_
                refine s_iload rfl (cn rfl) rfl ?_
                refine s_iaload rfl (cn rfl) _ rfl c1000000 rfl (by omega) (by decide) (TE_2 _ (by omega)) ?_
                refine s_ishl rfl (cn rfl) _ (bi_shl1 (by omega)) ?_
                refine s_ior rfl (cn rfl) _ (bi_or _ _) ?_
                refine s_istore rfl (cn rfl) ?_
                refine s_iinc rfl (cn rfl) rfl ?_
                refine s_goto rfl (ch rfl) ?_
                first
                  | exact ih20 (by omega) _ _ _ (by rw [hx]; rfl) (by show _ = ms_sm m _ + (if TE 2 (5 * u + m) = 0 then 0 else 1); rw [if_neg (by omega), hy]) (by show _ = if TE 2 (5 * u + m) = 0 then _ else _; rw [if_neg (by omega), hz]) (by omega)
                  | exact ih20 (by omega) _ _ _ (by rw [hx]; rfl) (by show _ = ms_sm m _ + (if TE 2 (5 * u + m) = 0 then 0 else 1); rw [if_pos (by omega), hy]) (by show _ = if TE 2 (5 * u + m) = 0 then _ else _; rw [if_pos (by omega), hz]; exact Nat.or_zero _) (by omega)
            · first
              | (exfalso; omega)
              | skip
                refine s_iconst rfl (cn rfl) ?_
                refine s_goto rfl (cn rfl) ?_
                refine s_ior rfl (cn rfl) _ (bi_or _ 0) ?_
                refine s_istore rfl (cn rfl) ?_
                refine s_iinc rfl (cn rfl) rfl ?_
                refine s_goto rfl (ch rfl) ?_
                first
                  | exact ih20 (by omega) _ _ _ (by rw [hx]; rfl) (by show _ = ms_sm m _ + (if TE 2 (5 * u + m) = 0 then 0 else 1); rw [if_neg (by omega), hy]) (by show _ = if TE 2 (5 * u + m) = 0 then _ else _; rw [if_neg (by omega), hz]) (by omega)
                  | exact ih20 (by omega) _ _ _ (by rw [hx]; rfl) (by show _ = ms_sm m _ + (if TE 2 (5 * u + m) = 0 then 0 else 1); rw [if_pos (by omega), hy]) (by show _ = if TE 2 (5 * u + m) = 0 then _ else _; rw [if_pos (by omega), hz]; exact Nat.or_zero _) (by omega)
      exact lp20 0 (by omega) _ _ 0 rfl rfl rfl (by omega)
  exact lp6 0 (by omega) _ _ _ _ _ s bt bb c28 fr_r (Or.inl ⟨hbb, fun s t b ⟨j, j1, _⟩ => absurd j1 (by omega)⟩) (by omega)
theorem v_offerAll_13_3 {d N S : Nat} {v : Nat → Int} {h : Nat → Option rr_E} (c1 : h 1 = some (.inr (0, [.int (ii ((3 : Nat) : Int)), .ref 2]))) (c2 : h 2 = some (.inl (0, 16, .inl (fun k => ii (v k))))) (hv : ∀ k, -999 ≤ v k ∧ v k ≤ 999) (h0 : v 0 = 0) (c1000001 : h 1000001 = some (.inl (8, 25, .inl (fun j => rr_three.getD j 0)))) {ku wc op oc bt bb : Int} {s : Nat} (c13 : h 13 = some (ST13 ku wc op oc (s : Int) bt bb)) (hbb : bb = 0) : rr_Calls (d + 2) j_Balanced_offerAll [.ref 1, .ref 13] (N, S, h) (fun r R => r = none ∧ ∃ (h' : Nat → Option rr_E) (s' : Nat) (t' b' : Int), R = (N, S, h') ∧ fr [13] h h' ∧ h' 13 = some (ST13 ku wc op oc (s' : Int) t' b') ∧ BP (PT 3 v) s' t' b' ∧ (1 ≤ b' ∧ b' ≤ 5) ∧ (-10000 ≤ t' ∧ t' ≤ 10000)) := by
  refine rr_meth (C := K_Balanced_offerAll) (hd := h_Balanced_offerAll) (mx := 8) rfl rfl (fun K hK => ?_)
  have htr : TR 3 = 5 := rfl
  have hal : al 3 = 7 := rfl
  refine hK _ _ _ _ ?_
  refine s_aload_n rfl (cn rfl) rfl ?_
  refine s_getfield rfl (cn rfl) c1 rfl ?_
  refine s_stat rfl (cn rfl) rfl rfl rfl u_table_3 ?_
  rintro _ _ ⟨rfl, rfl⟩
  refine s_astore_n rfl (cn rfl) ?_
  refine s_iconst rfl (cn rfl) ?_
  refine s_istore_n rfl (ch rfl) ?_
  have lp6 : ∀ u : Nat, u ≤ TR 3 → ∀ (l4 l5 l6 l7 : Option Value) (h' : Nat → Option rr_E) (s2 : Nat) (t2 b2 : Int) (c13 : h' 13 = some (ST13 ku wc op oc (s2 : Int) t2 b2)) (hf : fr [13] h h') (hB2 : BP (fun s t b => ∃ j, j < u ∧ s = tb_sup (row 3 j) ∧ t = rsm (row 3 j) v - rone (row 3 j) * v (al 3) ∧ b = rtot (row 3 j)) s2 t2 b2) (hbd : (0 ≤ b2 ∧ b2 ≤ 5) ∧ (b2 ≠ 0 → -10000 ≤ t2 ∧ t2 ≤ 10000) ∧ (1 ≤ u → b2 ≠ 0)), K 6 [some (.ref 1), some (.ref 13), some (.ref 1000001), some (.int (ii ((5 * u : Nat) : Int))), l4, l5, l6, l7] [] (N, S, h') := by
    refine dn (fun u hu ih6 => ?_)
    intro l4 l5 l6 l7 h' s2 t2 b2 c13 hf hB2 hbd
    have c1 := (hf 1 (by decide)).trans c1
    have c2 := (hf 2 (by decide)).trans c2
    have c1000001 := (hf 1000001 (by decide)).trans c1000001
    refine hK _ _ _ _ ?_
    refine s_iload_n rfl (cn rfl) rfl ?_
    refine s_iconst rfl (cn rfl) ?_
    refine s_iadd rfl (cn rfl) ?_
    refine s_aload_n rfl (cn rfl) rfl ?_
    refine s_arraylength rfl (cn rfl) c1000001 (by decide) ?_
    refine s_icmp_gt rfl (cn rfl) (cn rfl) ⟨by omega, by omega⟩ ⟨by omega, by omega⟩ (fun q11 => ?_) (fun q11 => ?_)
    · refine s_return rfl ?_
      refine ⟨rfl, h', s2, t2, b2, rfl, hf, c13, BP_cg hB2 (fun s t b => ⟨fun ⟨j, j1, j2⟩ => ⟨row 3 j, row_mem (by decide) (by decide) (by omega), j2⟩, fun ⟨l, l1, l2⟩ => by
        obtain ⟨j, j1, rfl⟩ := mem_row (by decide) (by decide) l1
        exact ⟨j, by omega, l2⟩⟩), by omega, by omega⟩
    · refine s_iconst rfl (cn rfl) ?_
      refine s_istore rfl (cn rfl) ?_
      refine s_iconst rfl (cn rfl) ?_
      refine s_istore rfl (cn rfl) ?_
      refine s_iconst rfl (cn rfl) ?_
      refine s_istore rfl (cn rfl) ?_
      refine s_iload_n rfl (cn rfl) rfl ?_
      refine s_istore rfl (ch rfl) ?_
      have lp20 : ∀ m : Nat, m ≤ 5 → ∀ (x y : Int) (z : Nat) (hx : x = ms_sm m (fun j => ((TE 3 (5 * u + j) &&& 1 : Nat) : Int))) (hy : y = ms_sm m (fun j => if TE 3 (5 * u + j) = 0 then 0 else 1)) (hz : z = sTm (fun j => TE 3 (5 * u + j)) m) (hxb : 0 ≤ x ∧ x ≤ m), K 20 [some (.ref 1), some (.ref 13), some (.ref 1000001), some (.int (ii ((5 * u : Nat) : Int))), some (.int (ii x)), some (.int (ii y)), some (.int (ii (z : Int))), some (.int (ii ((5 * u + m : Nat) : Int)))] [] (N, S, h') := by
        refine dn (fun m hm ih20 => ?_)
        intro x y z hx hy hz hxb
        refine hK _ _ _ _ ?_
        refine s_iload rfl (cn rfl) rfl ?_
        refine s_iload_n rfl (cn rfl) rfl ?_
        refine s_iconst rfl (cn rfl) ?_
        refine s_iadd rfl (cn rfl) ?_
        refine s_icmp_ge rfl (cn rfl) (cn rfl) ⟨by omega, by omega⟩ ⟨by omega, by omega⟩ (fun q24 => ?_) (fun q24 => ?_)
        · have hc : x = rone (row 3 u) := by rw [hx, show m = 5 by omega]; exact one_5 (by decide) (by decide) (by omega)
          have ht : y = rtot (row 3 u) := by rw [hy, show m = 5 by omega]; exact rs_5 (f := fun _ => 1) (by decide) (by decide) (by omega)
          have hs : z = tb_sup (row 3 u) := by rw [hz, show m = 5 by omega]; exact sTm_5 (by decide) (by decide) (by omega)
          have rt := row_tot 3 (by decide) (by decide) (row 3 u) (row_mem (by decide) (by decide) (by omega))
          have hva := hv (al 3)
          have hsb := rsv_b (n := 3) (r := u) hv h0 (by decide) (by decide) (by omega)
          have o1 := ab_mul (x := x) (y := v (al 3)) (a := 5) (b := 999) (by omega) (by omega) (by decide) (by decide)
          refine s_aload_n rfl (cn rfl) rfl ?_
          refine s_iload rfl (cn rfl) rfl ?_
          refine s_aload_n rfl (cn rfl) rfl ?_
          refine s_aload_n rfl (cn rfl) rfl ?_
          refine s_iload_n rfl (cn rfl) rfl ?_
          refine s_stat rfl (cn rfl) rfl rfl rfl (u_sumW_3_1 (by exact c1) (by exact c2) hv h0 (by exact c1000001) (show u < TR 3 by omega)) ?_
          rintro _ _ ⟨rfl, rfl⟩
          refine s_iload rfl (cn rfl) rfl ?_
          refine s_aload_n rfl (cn rfl) rfl ?_
          refine s_getfield rfl (cn rfl) c1 rfl ?_
          refine s_aload_n rfl (cn rfl) rfl ?_
          refine s_virt rfl (cn rfl) rfl rfl c1 rfl (u_all_1 (n := 3) ⟨by decide, by decide⟩ (by exact c1)) ?_
          rintro _ _ ⟨rfl, rfl⟩
          refine s_iaload rfl (cn rfl) _ rfl c2 rfl (by omega) (by decide) rfl ?_
          refine s_imul rfl (cn rfl) ?_
          refine s_isub rfl (cn rfl) ?_
          refine s_i2l rfl (cn rfl) ⟨by omega, by omega⟩ ?_
          refine s_iload rfl (cn rfl) rfl ?_
          refine s_i2l rfl (cn rfl) ⟨by omega, by omega⟩ ?_
          refine s_virt rfl (cn rfl) rfl rfl c13 rfl (v_offer0_13 (s0 := z) (t0 := (rsm (row 3 u) v - x * v (al 3))) (b0 := y) c13 (fun _ => by have := ab_mul (x := (rsm (row 3 u) v - x * v (al 3))) (y := b2) (a := 10000) (b := 5) (by omega) (by omega) (by decide) (by decide); omega) (fun e => by have := ab_mul (x := t2) (y := y) (a := 10000) (b := 5) (by omega) (by omega) (by decide) (by decide); omega) (by omega)) ?_
          rintro _ _ ⟨rfl, h3, s3, t3, b3, rfl, hf3, d3, hn3, he3, hl3⟩
          refine s_iinc rfl (cn rfl) rfl ?_
          refine s_goto rfl (ch rfl) ?_
          exact ih6 (by omega) _ _ _ _ _ s3 t3 b3 d3 (fr_t hf hf3 (by decide)) (BP_cg (BP_s hB2 (by omega) hn3 he3 hl3) (fun s t b => ⟨fun q => by
              rcases q with ⟨j, j1, j2⟩ | ⟨rfl, rfl, rfl⟩
              · exact ⟨j, by omega, j2⟩
              · exact ⟨u, by omega, hs, by rw [hc], ht⟩, fun ⟨j, j1, j2, j3, j4⟩ => by
              by_cases e : j = u
              · subst e; exact Or.inr ⟨by rw [j2, hs], by rw [j3, hc], by rw [j4, ht]⟩
              · exact Or.inl ⟨j, by omega, j2, j3, j4⟩⟩)) (by
              rcases (show b2 = 0 ∨ (rsm (row 3 u) v - x * v (al 3)) * b2 = t2 * y ∨ (rsm (row 3 u) v - x * v (al 3)) * b2 < t2 * y ∨ t2 * y < (rsm (row 3 u) v - x * v (al 3)) * b2 by omega) with e | e | e | e
              · have := hn3 (Or.inl e); omega
              · by_cases e2 : b2 = 0
                · have := hn3 (Or.inl e2); omega
                · have := he3 e2 e; omega
              · by_cases e2 : b2 = 0
                · have := hn3 (Or.inl e2); omega
                · have := hl3 e2 e; omega
              · have := hn3 (Or.inr e); omega)
        · have t16 := TE_16 3 (by decide) (by decide) (5 * u + m) (by omega)
          have a1 := and1_b (TE 3 (5 * u + m))
          refine s_iload rfl (cn rfl) rfl ?_
          refine s_aload_n rfl (cn rfl) rfl ?_
          refine s_iload rfl (cn rfl) rfl ?_
          refine s_iaload rfl (cn rfl) _ rfl c1000001 rfl (by omega) (by decide) (TE_3 _ (by omega)) ?_
          refine s_iconst rfl (cn rfl) ?_
          refine s_iand rfl (cn rfl) _ (bi_and _ 1) ?_
          refine s_iadd rfl (cn rfl) ?_
          refine s_istore rfl (cn rfl) ?_
          refine s_iload rfl (cn rfl) rfl ?_
          refine s_aload_n rfl (cn rfl) rfl ?_
          refine s_iload rfl (cn rfl) rfl ?_
          refine s_iaload rfl (cn rfl) _ rfl c1000001 rfl (by omega) (by decide) (TE_3 _ (by omega)) ?_
          refine s_if_ne rfl (cn rfl) (cn rfl) ⟨by omega, by omega⟩ (fun q37 => ?_) (fun q37 => ?_)
          · refine s_iconst rfl (cn rfl) ?_
            refine s_iadd rfl (cn rfl) ?_
            refine s_istore rfl (cn rfl) ?_
            refine s_iload rfl (cn rfl) rfl ?_
            refine s_aload_n rfl (cn rfl) rfl ?_
            refine s_iload rfl (cn rfl) rfl ?_
            refine s_iaload rfl (cn rfl) _ rfl c1000001 rfl (by omega) (by decide) (TE_3 _ (by omega)) ?_
            refine s_if_ne rfl (cn rfl) (cn rfl) ⟨by omega, by omega⟩ (fun q47 => ?_) (fun q47 => ?_)
            · first
              | (exfalso; omega)
              | skip
                refine s_iconst rfl (cn rfl) ?_
                refine s_aload_n rfl (cn rfl) rfl ?_
                refine s_iload rfl (cn rfl) rfl ?_
                refine s_iaload rfl (cn rfl) _ rfl c1000001 rfl (by omega) (by decide) (TE_3 _ (by omega)) ?_
                refine s_ishl rfl (cn rfl) _ (bi_shl1 (by omega)) ?_
                refine s_ior rfl (cn rfl) _ (bi_or _ _) ?_
                refine s_istore rfl (cn rfl) ?_
                refine s_iinc rfl (cn rfl) rfl ?_
                refine s_goto rfl (ch rfl) ?_
                first
                  | exact ih20 (by omega) _ _ _ (by rw [hx]; rfl) (by show _ = ms_sm m _ + (if TE 3 (5 * u + m) = 0 then 0 else 1); rw [if_neg (by omega), hy]) (by show _ = if TE 3 (5 * u + m) = 0 then _ else _; rw [if_neg (by omega), hz]) (by omega)
                  | exact ih20 (by omega) _ _ _ (by rw [hx]; rfl) (by show _ = ms_sm m _ + (if TE 3 (5 * u + m) = 0 then 0 else 1); rw [if_pos (by omega), hy]) (by show _ = if TE 3 (5 * u + m) = 0 then _ else _; rw [if_pos (by omega), hz]; exact Nat.or_zero _) (by omega)
            · first
              | (exfalso; omega)
              | skip
                refine s_iconst rfl (cn rfl) ?_
                refine s_goto rfl (cn rfl) ?_
                refine s_ior rfl (cn rfl) _ (bi_or _ 0) ?_
                refine s_istore rfl (cn rfl) ?_
                refine s_iinc rfl (cn rfl) rfl ?_
                refine s_goto rfl (ch rfl) ?_
                first
                  | exact ih20 (by omega) _ _ _ (by rw [hx]; rfl) (by show _ = ms_sm m _ + (if TE 3 (5 * u + m) = 0 then 0 else 1); rw [if_neg (by omega), hy]) (by show _ = if TE 3 (5 * u + m) = 0 then _ else _; rw [if_neg (by omega), hz]) (by omega)
                  | exact ih20 (by omega) _ _ _ (by rw [hx]; rfl) (by show _ = ms_sm m _ + (if TE 3 (5 * u + m) = 0 then 0 else 1); rw [if_pos (by omega), hy]) (by show _ = if TE 3 (5 * u + m) = 0 then _ else _; rw [if_pos (by omega), hz]; exact Nat.or_zero _) (by omega)
          · refine s_iconst rfl (cn rfl) ?_
            refine s_goto rfl (cn rfl) ?_
            refine s_iadd rfl (cn rfl) ?_
            refine s_istore rfl (cn rfl) ?_
            refine s_iload rfl (cn rfl) rfl ?_
            refine s_aload_n rfl (cn rfl) rfl ?_
            refine s_iload rfl (cn rfl) rfl ?_
            refine s_iaload rfl (cn rfl) _ rfl c1000001 rfl (by omega) (by decide) (TE_3 _ (by omega)) ?_
            refine s_if_ne rfl (cn rfl) (cn rfl) ⟨by omega, by omega⟩ (fun q47 => ?_) (fun q47 => ?_)
            · first
              | (exfalso; omega)
              | skip
                refine s_iconst rfl (cn rfl) ?_
                refine s_aload_n rfl (cn rfl) rfl ?_
                refine s_iload rfl (cn rfl) rfl ?_
                refine s_iaload rfl (cn rfl) _ rfl c1000001 rfl (by omega) (by decide) (TE_3 _ (by omega)) ?_
                refine s_ishl rfl (cn rfl) _ (bi_shl1 (by omega)) ?_
                refine s_ior rfl (cn rfl) _ (bi_or _ _) ?_
                refine s_istore rfl (cn rfl) ?_
                refine s_iinc rfl (cn rfl) rfl ?_
                refine s_goto rfl (ch rfl) ?_
                first
                  | exact ih20 (by omega) _ _ _ (by rw [hx]; rfl) (by show _ = ms_sm m _ + (if TE 3 (5 * u + m) = 0 then 0 else 1); rw [if_neg (by omega), hy]) (by show _ = if TE 3 (5 * u + m) = 0 then _ else _; rw [if_neg (by omega), hz]) (by omega)
                  | exact ih20 (by omega) _ _ _ (by rw [hx]; rfl) (by show _ = ms_sm m _ + (if TE 3 (5 * u + m) = 0 then 0 else 1); rw [if_pos (by omega), hy]) (by show _ = if TE 3 (5 * u + m) = 0 then _ else _; rw [if_pos (by omega), hz]; exact Nat.or_zero _) (by omega)
            · first
              | (exfalso; omega)
              | skip
                refine s_iconst rfl (cn rfl) ?_
                refine s_goto rfl (cn rfl) ?_
                refine s_ior rfl (cn rfl) _ (bi_or _ 0) ?_
                refine s_istore rfl (cn rfl) ?_
                refine s_iinc rfl (cn rfl) rfl ?_
                refine s_goto rfl (ch rfl) ?_
                first
                  | exact ih20 (by omega) _ _ _ (by rw [hx]; rfl) (by show _ = ms_sm m _ + (if TE 3 (5 * u + m) = 0 then 0 else 1); rw [if_neg (by omega), hy]) (by show _ = if TE 3 (5 * u + m) = 0 then _ else _; rw [if_neg (by omega), hz]) (by omega)
                  | exact ih20 (by omega) _ _ _ (by rw [hx]; rfl) (by show _ = ms_sm m _ + (if TE 3 (5 * u + m) = 0 then 0 else 1); rw [if_pos (by omega), hy]) (by show _ = if TE 3 (5 * u + m) = 0 then _ else _; rw [if_pos (by omega), hz]; exact Nat.or_zero _) (by omega)
      exact lp20 0 (by omega) _ _ 0 rfl rfl rfl (by omega)
  exact lp6 0 (by omega) _ _ _ _ _ s bt bb c13 fr_r (Or.inl ⟨hbb, fun s t b ⟨j, j1, _⟩ => absurd j1 (by omega)⟩) (by omega)
theorem v_offerAll_28_3 {d N S : Nat} {v : Nat → Int} {h : Nat → Option rr_E} (c5 : h 5 = some (.inr (0, [.int (ii ((3 : Nat) : Int)), .ref 6]))) (c6 : h 6 = some (.inl (0, 16, .inl (fun k => ii (v k))))) (hv : ∀ k, -999 ≤ v k ∧ v k ≤ 999) (h0 : v 0 = 0) (c1000001 : h 1000001 = some (.inl (8, 25, .inl (fun j => rr_three.getD j 0)))) {ku wc op oc bt bb : Int} {s : Nat} (c28 : h 28 = some (ST28 ku wc op oc (s : Int) bt bb)) (hbb : bb = 0) : rr_Calls (d + 2) j_Balanced_offerAll [.ref 5, .ref 28] (N, S, h) (fun r R => r = none ∧ ∃ (h' : Nat → Option rr_E) (s' : Nat) (t' b' : Int), R = (N, S, h') ∧ fr [28] h h' ∧ h' 28 = some (ST28 ku wc op oc (s' : Int) t' b') ∧ BP (PT 3 v) s' t' b' ∧ (1 ≤ b' ∧ b' ≤ 5) ∧ (-10000 ≤ t' ∧ t' ≤ 10000)) := by
  refine rr_meth (C := K_Balanced_offerAll) (hd := h_Balanced_offerAll) (mx := 8) rfl rfl (fun K hK => ?_)
  have htr : TR 3 = 5 := rfl
  have hal : al 3 = 7 := rfl
  refine hK _ _ _ _ ?_
  refine s_aload_n rfl (cn rfl) rfl ?_
  refine s_getfield rfl (cn rfl) c5 rfl ?_
  refine s_stat rfl (cn rfl) rfl rfl rfl u_table_3 ?_
  rintro _ _ ⟨rfl, rfl⟩
  refine s_astore_n rfl (cn rfl) ?_
  refine s_iconst rfl (cn rfl) ?_
  refine s_istore_n rfl (ch rfl) ?_
  have lp6 : ∀ u : Nat, u ≤ TR 3 → ∀ (l4 l5 l6 l7 : Option Value) (h' : Nat → Option rr_E) (s2 : Nat) (t2 b2 : Int) (c28 : h' 28 = some (ST28 ku wc op oc (s2 : Int) t2 b2)) (hf : fr [28] h h') (hB2 : BP (fun s t b => ∃ j, j < u ∧ s = tb_sup (row 3 j) ∧ t = rsm (row 3 j) v - rone (row 3 j) * v (al 3) ∧ b = rtot (row 3 j)) s2 t2 b2) (hbd : (0 ≤ b2 ∧ b2 ≤ 5) ∧ (b2 ≠ 0 → -10000 ≤ t2 ∧ t2 ≤ 10000) ∧ (1 ≤ u → b2 ≠ 0)), K 6 [some (.ref 5), some (.ref 28), some (.ref 1000001), some (.int (ii ((5 * u : Nat) : Int))), l4, l5, l6, l7] [] (N, S, h') := by
    refine dn (fun u hu ih6 => ?_)
    intro l4 l5 l6 l7 h' s2 t2 b2 c28 hf hB2 hbd
    have c5 := (hf 5 (by decide)).trans c5
    have c6 := (hf 6 (by decide)).trans c6
    have c1000001 := (hf 1000001 (by decide)).trans c1000001
    refine hK _ _ _ _ ?_
    refine s_iload_n rfl (cn rfl) rfl ?_
    refine s_iconst rfl (cn rfl) ?_
    refine s_iadd rfl (cn rfl) ?_
    refine s_aload_n rfl (cn rfl) rfl ?_
    refine s_arraylength rfl (cn rfl) c1000001 (by decide) ?_
    refine s_icmp_gt rfl (cn rfl) (cn rfl) ⟨by omega, by omega⟩ ⟨by omega, by omega⟩ (fun q11 => ?_) (fun q11 => ?_)
    · refine s_return rfl ?_
      refine ⟨rfl, h', s2, t2, b2, rfl, hf, c28, BP_cg hB2 (fun s t b => ⟨fun ⟨j, j1, j2⟩ => ⟨row 3 j, row_mem (by decide) (by decide) (by omega), j2⟩, fun ⟨l, l1, l2⟩ => by
        obtain ⟨j, j1, rfl⟩ := mem_row (by decide) (by decide) l1
        exact ⟨j, by omega, l2⟩⟩), by omega, by omega⟩
    · refine s_iconst rfl (cn rfl) ?_
      refine s_istore rfl (cn rfl) ?_
      refine s_iconst rfl (cn rfl) ?_
      refine s_istore rfl (cn rfl) ?_
      refine s_iconst rfl (cn rfl) ?_
      refine s_istore rfl (cn rfl) ?_
      refine s_iload_n rfl (cn rfl) rfl ?_
      refine s_istore rfl (ch rfl) ?_
      have lp20 : ∀ m : Nat, m ≤ 5 → ∀ (x y : Int) (z : Nat) (hx : x = ms_sm m (fun j => ((TE 3 (5 * u + j) &&& 1 : Nat) : Int))) (hy : y = ms_sm m (fun j => if TE 3 (5 * u + j) = 0 then 0 else 1)) (hz : z = sTm (fun j => TE 3 (5 * u + j)) m) (hxb : 0 ≤ x ∧ x ≤ m), K 20 [some (.ref 5), some (.ref 28), some (.ref 1000001), some (.int (ii ((5 * u : Nat) : Int))), some (.int (ii x)), some (.int (ii y)), some (.int (ii (z : Int))), some (.int (ii ((5 * u + m : Nat) : Int)))] [] (N, S, h') := by
        refine dn (fun m hm ih20 => ?_)
        intro x y z hx hy hz hxb
        refine hK _ _ _ _ ?_
        refine s_iload rfl (cn rfl) rfl ?_
        refine s_iload_n rfl (cn rfl) rfl ?_
        refine s_iconst rfl (cn rfl) ?_
        refine s_iadd rfl (cn rfl) ?_
        refine s_icmp_ge rfl (cn rfl) (cn rfl) ⟨by omega, by omega⟩ ⟨by omega, by omega⟩ (fun q24 => ?_) (fun q24 => ?_)
        · have hc : x = rone (row 3 u) := by rw [hx, show m = 5 by omega]; exact one_5 (by decide) (by decide) (by omega)
          have ht : y = rtot (row 3 u) := by rw [hy, show m = 5 by omega]; exact rs_5 (f := fun _ => 1) (by decide) (by decide) (by omega)
          have hs : z = tb_sup (row 3 u) := by rw [hz, show m = 5 by omega]; exact sTm_5 (by decide) (by decide) (by omega)
          have rt := row_tot 3 (by decide) (by decide) (row 3 u) (row_mem (by decide) (by decide) (by omega))
          have hva := hv (al 3)
          have hsb := rsv_b (n := 3) (r := u) hv h0 (by decide) (by decide) (by omega)
          have o1 := ab_mul (x := x) (y := v (al 3)) (a := 5) (b := 999) (by omega) (by omega) (by decide) (by decide)
          refine s_aload_n rfl (cn rfl) rfl ?_
          refine s_iload rfl (cn rfl) rfl ?_
          refine s_aload_n rfl (cn rfl) rfl ?_
          refine s_aload_n rfl (cn rfl) rfl ?_
          refine s_iload_n rfl (cn rfl) rfl ?_
          refine s_stat rfl (cn rfl) rfl rfl rfl (u_sumW_3_5 (by exact c5) (by exact c6) hv h0 (by exact c1000001) (show u < TR 3 by omega)) ?_
          rintro _ _ ⟨rfl, rfl⟩
          refine s_iload rfl (cn rfl) rfl ?_
          refine s_aload_n rfl (cn rfl) rfl ?_
          refine s_getfield rfl (cn rfl) c5 rfl ?_
          refine s_aload_n rfl (cn rfl) rfl ?_
          refine s_virt rfl (cn rfl) rfl rfl c5 rfl (u_all_5 (n := 3) ⟨by decide, by decide⟩ (by exact c5)) ?_
          rintro _ _ ⟨rfl, rfl⟩
          refine s_iaload rfl (cn rfl) _ rfl c6 rfl (by omega) (by decide) rfl ?_
          refine s_imul rfl (cn rfl) ?_
          refine s_isub rfl (cn rfl) ?_
          refine s_i2l rfl (cn rfl) ⟨by omega, by omega⟩ ?_
          refine s_iload rfl (cn rfl) rfl ?_
          refine s_i2l rfl (cn rfl) ⟨by omega, by omega⟩ ?_
          refine s_virt rfl (cn rfl) rfl rfl c28 rfl (v_offer0_28 (s0 := z) (t0 := (rsm (row 3 u) v - x * v (al 3))) (b0 := y) c28 (fun _ => by have := ab_mul (x := (rsm (row 3 u) v - x * v (al 3))) (y := b2) (a := 10000) (b := 5) (by omega) (by omega) (by decide) (by decide); omega) (fun e => by have := ab_mul (x := t2) (y := y) (a := 10000) (b := 5) (by omega) (by omega) (by decide) (by decide); omega) (by omega)) ?_
          rintro _ _ ⟨rfl, h3, s3, t3, b3, rfl, hf3, d3, hn3, he3, hl3⟩
          refine s_iinc rfl (cn rfl) rfl ?_
          refine s_goto rfl (ch rfl) ?_
          exact ih6 (by omega) _ _ _ _ _ s3 t3 b3 d3 (fr_t hf hf3 (by decide)) (BP_cg (BP_s hB2 (by omega) hn3 he3 hl3) (fun s t b => ⟨fun q => by
              rcases q with ⟨j, j1, j2⟩ | ⟨rfl, rfl, rfl⟩
              · exact ⟨j, by omega, j2⟩
              · exact ⟨u, by omega, hs, by rw [hc], ht⟩, fun ⟨j, j1, j2, j3, j4⟩ => by
              by_cases e : j = u
              · subst e; exact Or.inr ⟨by rw [j2, hs], by rw [j3, hc], by rw [j4, ht]⟩
              · exact Or.inl ⟨j, by omega, j2, j3, j4⟩⟩)) (by
              rcases (show b2 = 0 ∨ (rsm (row 3 u) v - x * v (al 3)) * b2 = t2 * y ∨ (rsm (row 3 u) v - x * v (al 3)) * b2 < t2 * y ∨ t2 * y < (rsm (row 3 u) v - x * v (al 3)) * b2 by omega) with e | e | e | e
              · have := hn3 (Or.inl e); omega
              · by_cases e2 : b2 = 0
                · have := hn3 (Or.inl e2); omega
                · have := he3 e2 e; omega
              · by_cases e2 : b2 = 0
                · have := hn3 (Or.inl e2); omega
                · have := hl3 e2 e; omega
              · have := hn3 (Or.inr e); omega)
        · have t16 := TE_16 3 (by decide) (by decide) (5 * u + m) (by omega)
          have a1 := and1_b (TE 3 (5 * u + m))
          refine s_iload rfl (cn rfl) rfl ?_
          refine s_aload_n rfl (cn rfl) rfl ?_
          refine s_iload rfl (cn rfl) rfl ?_
          refine s_iaload rfl (cn rfl) _ rfl c1000001 rfl (by omega) (by decide) (TE_3 _ (by omega)) ?_
          refine s_iconst rfl (cn rfl) ?_
          refine s_iand rfl (cn rfl) _ (bi_and _ 1) ?_
          refine s_iadd rfl (cn rfl) ?_
          refine s_istore rfl (cn rfl) ?_
          refine s_iload rfl (cn rfl) rfl ?_
          refine s_aload_n rfl (cn rfl) rfl ?_
          refine s_iload rfl (cn rfl) rfl ?_
          refine s_iaload rfl (cn rfl) _ rfl c1000001 rfl (by omega) (by decide) (TE_3 _ (by omega)) ?_
          refine s_if_ne rfl (cn rfl) (cn rfl) ⟨by omega, by omega⟩ (fun q37 => ?_) (fun q37 => ?_)
          · refine s_iconst rfl (cn rfl) ?_
            refine s_iadd rfl (cn rfl) ?_
            refine s_istore rfl (cn rfl) ?_
            refine s_iload rfl (cn rfl) rfl ?_
            refine s_aload_n rfl (cn rfl) rfl ?_
            refine s_iload rfl (cn rfl) rfl ?_
            refine s_iaload rfl (cn rfl) _ rfl c1000001 rfl (by omega) (by decide) (TE_3 _ (by omega)) ?_
            refine s_if_ne rfl (cn rfl) (cn rfl) ⟨by omega, by omega⟩ (fun q47 => ?_) (fun q47 => ?_)
            · first
              | (exfalso; omega)
              | skip
                refine s_iconst rfl (cn rfl) ?_
                refine s_aload_n rfl (cn rfl) rfl ?_
                refine s_iload rfl (cn rfl) rfl ?_
                refine s_iaload rfl (cn rfl) _ rfl c1000001 rfl (by omega) (by decide) (TE_3 _ (by omega)) ?_
                refine s_ishl rfl (cn rfl) _ (bi_shl1 (by omega)) ?_
                refine s_ior rfl (cn rfl) _ (bi_or _ _) ?_
                refine s_istore rfl (cn rfl) ?_
                refine s_iinc rfl (cn rfl) rfl ?_
                refine s_goto rfl (ch rfl) ?_
                first
                  | exact ih20 (by omega) _ _ _ (by rw [hx]; rfl) (by show _ = ms_sm m _ + (if TE 3 (5 * u + m) = 0 then 0 else 1); rw [if_neg (by omega), hy]) (by show _ = if TE 3 (5 * u + m) = 0 then _ else _; rw [if_neg (by omega), hz]) (by omega)
                  | exact ih20 (by omega) _ _ _ (by rw [hx]; rfl) (by show _ = ms_sm m _ + (if TE 3 (5 * u + m) = 0 then 0 else 1); rw [if_pos (by omega), hy]) (by show _ = if TE 3 (5 * u + m) = 0 then _ else _; rw [if_pos (by omega), hz]; exact Nat.or_zero _) (by omega)
            · first
              | (exfalso; omega)
              | skip
                refine s_iconst rfl (cn rfl) ?_
                refine s_goto rfl (cn rfl) ?_
                refine s_ior rfl (cn rfl) _ (bi_or _ 0) ?_
                refine s_istore rfl (cn rfl) ?_
                refine s_iinc rfl (cn rfl) rfl ?_
                refine s_goto rfl (ch rfl) ?_
                first
                  | exact ih20 (by omega) _ _ _ (by rw [hx]; rfl) (by show _ = ms_sm m _ + (if TE 3 (5 * u + m) = 0 then 0 else 1); rw [if_neg (by omega), hy]) (by show _ = if TE 3 (5 * u + m) = 0 then _ else _; rw [if_neg (by omega), hz]) (by omega)
                  | exact ih20 (by omega) _ _ _ (by rw [hx]; rfl) (by show _ = ms_sm m _ + (if TE 3 (5 * u + m) = 0 then 0 else 1); rw [if_pos (by omega), hy]) (by show _ = if TE 3 (5 * u + m) = 0 then _ else _; rw [if_pos (by omega), hz]; exact Nat.or_zero _) (by omega)
          · refine s_iconst rfl (cn rfl) ?_
            refine s_goto rfl (cn rfl) ?_
            refine s_iadd rfl (cn rfl) ?_
            refine s_istore rfl (cn rfl) ?_
            refine s_iload rfl (cn rfl) rfl ?_
            refine s_aload_n rfl (cn rfl) rfl ?_
            refine s_iload rfl (cn rfl) rfl ?_
            refine s_iaload rfl (cn rfl) _ rfl c1000001 rfl (by omega) (by decide) (TE_3 _ (by omega)) ?_
            refine s_if_ne rfl (cn rfl) (cn rfl) ⟨by omega, by omega⟩ (fun q47 => ?_) (fun q47 => ?_)
            · first
              | (exfalso; omega)
              | skip
                refine s_iconst rfl (cn rfl) ?_
                refine s_aload_n rfl (cn rfl) rfl ?_
                refine s_iload rfl (cn rfl) rfl ?_
                refine s_iaload rfl (cn rfl) _ rfl c1000001 rfl (by omega) (by decide) (TE_3 _ (by omega)) ?_
                refine s_ishl rfl (cn rfl) _ (bi_shl1 (by omega)) ?_
                refine s_ior rfl (cn rfl) _ (bi_or _ _) ?_
                refine s_istore rfl (cn rfl) ?_
                refine s_iinc rfl (cn rfl) rfl ?_
                refine s_goto rfl (ch rfl) ?_
                first
                  | exact ih20 (by omega) _ _ _ (by rw [hx]; rfl) (by show _ = ms_sm m _ + (if TE 3 (5 * u + m) = 0 then 0 else 1); rw [if_neg (by omega), hy]) (by show _ = if TE 3 (5 * u + m) = 0 then _ else _; rw [if_neg (by omega), hz]) (by omega)
                  | exact ih20 (by omega) _ _ _ (by rw [hx]; rfl) (by show _ = ms_sm m _ + (if TE 3 (5 * u + m) = 0 then 0 else 1); rw [if_pos (by omega), hy]) (by show _ = if TE 3 (5 * u + m) = 0 then _ else _; rw [if_pos (by omega), hz]; exact Nat.or_zero _) (by omega)
            · first
              | (exfalso; omega)
              | skip
                refine s_iconst rfl (cn rfl) ?_
                refine s_goto rfl (cn rfl) ?_
                refine s_ior rfl (cn rfl) _ (bi_or _ 0) ?_
                refine s_istore rfl (cn rfl) ?_
                refine s_iinc rfl (cn rfl) rfl ?_
                refine s_goto rfl (ch rfl) ?_
                first
                  | exact ih20 (by omega) _ _ _ (by rw [hx]; rfl) (by show _ = ms_sm m _ + (if TE 3 (5 * u + m) = 0 then 0 else 1); rw [if_neg (by omega), hy]) (by show _ = if TE 3 (5 * u + m) = 0 then _ else _; rw [if_neg (by omega), hz]) (by omega)
                  | exact ih20 (by omega) _ _ _ (by rw [hx]; rfl) (by show _ = ms_sm m _ + (if TE 3 (5 * u + m) = 0 then 0 else 1); rw [if_pos (by omega), hy]) (by show _ = if TE 3 (5 * u + m) = 0 then _ else _; rw [if_pos (by omega), hz]; exact Nat.or_zero _) (by omega)
      exact lp20 0 (by omega) _ _ 0 rfl rfl rfl (by omega)
  exact lp6 0 (by omega) _ _ _ _ _ s bt bb c28 fr_r (Or.inl ⟨hbb, fun s t b ⟨j, j1, _⟩ => absurd j1 (by omega)⟩) (by omega)
theorem v_offerAll_13_4 {d N S : Nat} {v : Nat → Int} {h : Nat → Option rr_E} (c1 : h 1 = some (.inr (0, [.int (ii ((4 : Nat) : Int)), .ref 2]))) (c2 : h 2 = some (.inl (0, 16, .inl (fun k => ii (v k))))) (hv : ∀ k, -999 ≤ v k ∧ v k ≤ 999) (h0 : v 0 = 0) (c1000002 : h 1000002 = some (.inl (8, 205, .inl (fun j => rr_four.getD j 0)))) {ku wc op oc bt bb : Int} {s : Nat} (c13 : h 13 = some (ST13 ku wc op oc (s : Int) bt bb)) (hbb : bb = 0) : rr_Calls (d + 2) j_Balanced_offerAll [.ref 1, .ref 13] (N, S, h) (fun r R => r = none ∧ ∃ (h' : Nat → Option rr_E) (s' : Nat) (t' b' : Int), R = (N, S, h') ∧ fr [13] h h' ∧ h' 13 = some (ST13 ku wc op oc (s' : Int) t' b') ∧ BP (PT 4 v) s' t' b' ∧ (1 ≤ b' ∧ b' ≤ 5) ∧ (-10000 ≤ t' ∧ t' ≤ 10000)) := by
  refine rr_meth (C := K_Balanced_offerAll) (hd := h_Balanced_offerAll) (mx := 8) rfl rfl (fun K hK => ?_)
  have htr : TR 4 = 41 := rfl
  have hal : al 4 = 15 := rfl
  refine hK _ _ _ _ ?_
  refine s_aload_n rfl (cn rfl) rfl ?_
  refine s_getfield rfl (cn rfl) c1 rfl ?_
  refine s_stat rfl (cn rfl) rfl rfl rfl u_table_4 ?_
  rintro _ _ ⟨rfl, rfl⟩
  refine s_astore_n rfl (cn rfl) ?_
  refine s_iconst rfl (cn rfl) ?_
  refine s_istore_n rfl (ch rfl) ?_
  have lp6 : ∀ u : Nat, u ≤ TR 4 → ∀ (l4 l5 l6 l7 : Option Value) (h' : Nat → Option rr_E) (s2 : Nat) (t2 b2 : Int) (c13 : h' 13 = some (ST13 ku wc op oc (s2 : Int) t2 b2)) (hf : fr [13] h h') (hB2 : BP (fun s t b => ∃ j, j < u ∧ s = tb_sup (row 4 j) ∧ t = rsm (row 4 j) v - rone (row 4 j) * v (al 4) ∧ b = rtot (row 4 j)) s2 t2 b2) (hbd : (0 ≤ b2 ∧ b2 ≤ 5) ∧ (b2 ≠ 0 → -10000 ≤ t2 ∧ t2 ≤ 10000) ∧ (1 ≤ u → b2 ≠ 0)), K 6 [some (.ref 1), some (.ref 13), some (.ref 1000002), some (.int (ii ((5 * u : Nat) : Int))), l4, l5, l6, l7] [] (N, S, h') := by
    refine dn (fun u hu ih6 => ?_)
    intro l4 l5 l6 l7 h' s2 t2 b2 c13 hf hB2 hbd
    have c1 := (hf 1 (by decide)).trans c1
    have c2 := (hf 2 (by decide)).trans c2
    have c1000002 := (hf 1000002 (by decide)).trans c1000002
    refine hK _ _ _ _ ?_
    refine s_iload_n rfl (cn rfl) rfl ?_
    refine s_iconst rfl (cn rfl) ?_
    refine s_iadd rfl (cn rfl) ?_
    refine s_aload_n rfl (cn rfl) rfl ?_
    refine s_arraylength rfl (cn rfl) c1000002 (by decide) ?_
    refine s_icmp_gt rfl (cn rfl) (cn rfl) ⟨by omega, by omega⟩ ⟨by omega, by omega⟩ (fun q11 => ?_) (fun q11 => ?_)
    · refine s_return rfl ?_
      refine ⟨rfl, h', s2, t2, b2, rfl, hf, c13, BP_cg hB2 (fun s t b => ⟨fun ⟨j, j1, j2⟩ => ⟨row 4 j, row_mem (by decide) (by decide) (by omega), j2⟩, fun ⟨l, l1, l2⟩ => by
        obtain ⟨j, j1, rfl⟩ := mem_row (by decide) (by decide) l1
        exact ⟨j, by omega, l2⟩⟩), by omega, by omega⟩
    · refine s_iconst rfl (cn rfl) ?_
      refine s_istore rfl (cn rfl) ?_
      refine s_iconst rfl (cn rfl) ?_
      refine s_istore rfl (cn rfl) ?_
      refine s_iconst rfl (cn rfl) ?_
      refine s_istore rfl (cn rfl) ?_
      refine s_iload_n rfl (cn rfl) rfl ?_
      refine s_istore rfl (ch rfl) ?_
      have lp20 : ∀ m : Nat, m ≤ 5 → ∀ (x y : Int) (z : Nat) (hx : x = ms_sm m (fun j => ((TE 4 (5 * u + j) &&& 1 : Nat) : Int))) (hy : y = ms_sm m (fun j => if TE 4 (5 * u + j) = 0 then 0 else 1)) (hz : z = sTm (fun j => TE 4 (5 * u + j)) m) (hxb : 0 ≤ x ∧ x ≤ m), K 20 [some (.ref 1), some (.ref 13), some (.ref 1000002), some (.int (ii ((5 * u : Nat) : Int))), some (.int (ii x)), some (.int (ii y)), some (.int (ii (z : Int))), some (.int (ii ((5 * u + m : Nat) : Int)))] [] (N, S, h') := by
        refine dn (fun m hm ih20 => ?_)
        intro x y z hx hy hz hxb
        refine hK _ _ _ _ ?_
        refine s_iload rfl (cn rfl) rfl ?_
        refine s_iload_n rfl (cn rfl) rfl ?_
        refine s_iconst rfl (cn rfl) ?_
        refine s_iadd rfl (cn rfl) ?_
        refine s_icmp_ge rfl (cn rfl) (cn rfl) ⟨by omega, by omega⟩ ⟨by omega, by omega⟩ (fun q24 => ?_) (fun q24 => ?_)
        · have hc : x = rone (row 4 u) := by rw [hx, show m = 5 by omega]; exact one_5 (by decide) (by decide) (by omega)
          have ht : y = rtot (row 4 u) := by rw [hy, show m = 5 by omega]; exact rs_5 (f := fun _ => 1) (by decide) (by decide) (by omega)
          have hs : z = tb_sup (row 4 u) := by rw [hz, show m = 5 by omega]; exact sTm_5 (by decide) (by decide) (by omega)
          have rt := row_tot 4 (by decide) (by decide) (row 4 u) (row_mem (by decide) (by decide) (by omega))
          have hva := hv (al 4)
          have hsb := rsv_b (n := 4) (r := u) hv h0 (by decide) (by decide) (by omega)
          have o1 := ab_mul (x := x) (y := v (al 4)) (a := 5) (b := 999) (by omega) (by omega) (by decide) (by decide)
          refine s_aload_n rfl (cn rfl) rfl ?_
          refine s_iload rfl (cn rfl) rfl ?_
          refine s_aload_n rfl (cn rfl) rfl ?_
          refine s_aload_n rfl (cn rfl) rfl ?_
          refine s_iload_n rfl (cn rfl) rfl ?_
          refine s_stat rfl (cn rfl) rfl rfl rfl (u_sumW_4_1 (by exact c1) (by exact c2) hv h0 (by exact c1000002) (show u < TR 4 by omega)) ?_
          rintro _ _ ⟨rfl, rfl⟩
          refine s_iload rfl (cn rfl) rfl ?_
          refine s_aload_n rfl (cn rfl) rfl ?_
          refine s_getfield rfl (cn rfl) c1 rfl ?_
          refine s_aload_n rfl (cn rfl) rfl ?_
          refine s_virt rfl (cn rfl) rfl rfl c1 rfl (u_all_1 (n := 4) ⟨by decide, by decide⟩ (by exact c1)) ?_
          rintro _ _ ⟨rfl, rfl⟩
          refine s_iaload rfl (cn rfl) _ rfl c2 rfl (by omega) (by decide) rfl ?_
          refine s_imul rfl (cn rfl) ?_
          refine s_isub rfl (cn rfl) ?_
          refine s_i2l rfl (cn rfl) ⟨by omega, by omega⟩ ?_
          refine s_iload rfl (cn rfl) rfl ?_
          refine s_i2l rfl (cn rfl) ⟨by omega, by omega⟩ ?_
          refine s_virt rfl (cn rfl) rfl rfl c13 rfl (v_offer0_13 (s0 := z) (t0 := (rsm (row 4 u) v - x * v (al 4))) (b0 := y) c13 (fun _ => by have := ab_mul (x := (rsm (row 4 u) v - x * v (al 4))) (y := b2) (a := 10000) (b := 5) (by omega) (by omega) (by decide) (by decide); omega) (fun e => by have := ab_mul (x := t2) (y := y) (a := 10000) (b := 5) (by omega) (by omega) (by decide) (by decide); omega) (by omega)) ?_
          rintro _ _ ⟨rfl, h3, s3, t3, b3, rfl, hf3, d3, hn3, he3, hl3⟩
          refine s_iinc rfl (cn rfl) rfl ?_
          refine s_goto rfl (ch rfl) ?_
          exact ih6 (by omega) _ _ _ _ _ s3 t3 b3 d3 (fr_t hf hf3 (by decide)) (BP_cg (BP_s hB2 (by omega) hn3 he3 hl3) (fun s t b => ⟨fun q => by
              rcases q with ⟨j, j1, j2⟩ | ⟨rfl, rfl, rfl⟩
              · exact ⟨j, by omega, j2⟩
              · exact ⟨u, by omega, hs, by rw [hc], ht⟩, fun ⟨j, j1, j2, j3, j4⟩ => by
              by_cases e : j = u
              · subst e; exact Or.inr ⟨by rw [j2, hs], by rw [j3, hc], by rw [j4, ht]⟩
              · exact Or.inl ⟨j, by omega, j2, j3, j4⟩⟩)) (by
              rcases (show b2 = 0 ∨ (rsm (row 4 u) v - x * v (al 4)) * b2 = t2 * y ∨ (rsm (row 4 u) v - x * v (al 4)) * b2 < t2 * y ∨ t2 * y < (rsm (row 4 u) v - x * v (al 4)) * b2 by omega) with e | e | e | e
              · have := hn3 (Or.inl e); omega
              · by_cases e2 : b2 = 0
                · have := hn3 (Or.inl e2); omega
                · have := he3 e2 e; omega
              · by_cases e2 : b2 = 0
                · have := hn3 (Or.inl e2); omega
                · have := hl3 e2 e; omega
              · have := hn3 (Or.inr e); omega)
        · have t16 := TE_16 4 (by decide) (by decide) (5 * u + m) (by omega)
          have a1 := and1_b (TE 4 (5 * u + m))
          refine s_iload rfl (cn rfl) rfl ?_
          refine s_aload_n rfl (cn rfl) rfl ?_
          refine s_iload rfl (cn rfl) rfl ?_
          refine s_iaload rfl (cn rfl) _ rfl c1000002 rfl (by omega) (by decide) (TE_4 _ (by omega)) ?_
          refine s_iconst rfl (cn rfl) ?_
          refine s_iand rfl (cn rfl) _ (bi_and _ 1) ?_
          refine s_iadd rfl (cn rfl) ?_
          refine s_istore rfl (cn rfl) ?_
          refine s_iload rfl (cn rfl) rfl ?_
          refine s_aload_n rfl (cn rfl) rfl ?_
          refine s_iload rfl (cn rfl) rfl ?_
          refine s_iaload rfl (cn rfl) _ rfl c1000002 rfl (by omega) (by decide) (TE_4 _ (by omega)) ?_
          refine s_if_ne rfl (cn rfl) (cn rfl) ⟨by omega, by omega⟩ (fun q37 => ?_) (fun q37 => ?_)
          · refine s_iconst rfl (cn rfl) ?_
            refine s_iadd rfl (cn rfl) ?_
            refine s_istore rfl (cn rfl) ?_
            refine s_iload rfl (cn rfl) rfl ?_
            refine s_aload_n rfl (cn rfl) rfl ?_
            refine s_iload rfl (cn rfl) rfl ?_
            refine s_iaload rfl (cn rfl) _ rfl c1000002 rfl (by omega) (by decide) (TE_4 _ (by omega)) ?_
            refine s_if_ne rfl (cn rfl) (cn rfl) ⟨by omega, by omega⟩ (fun q47 => ?_) (fun q47 => ?_)
            · first
              | (exfalso; omega)
              | skip
                refine s_iconst rfl (cn rfl) ?_
                refine s_aload_n rfl (cn rfl) rfl ?_
                refine s_iload rfl (cn rfl) rfl ?_
                refine s_iaload rfl (cn rfl) _ rfl c1000002 rfl (by omega) (by decide) (TE_4 _ (by omega)) ?_
                refine s_ishl rfl (cn rfl) _ (bi_shl1 (by omega)) ?_
                refine s_ior rfl (cn rfl) _ (bi_or _ _) ?_
                refine s_istore rfl (cn rfl) ?_
                refine s_iinc rfl (cn rfl) rfl ?_
                refine s_goto rfl (ch rfl) ?_
                first
                  | exact ih20 (by omega) _ _ _ (by rw [hx]; rfl) (by show _ = ms_sm m _ + (if TE 4 (5 * u + m) = 0 then 0 else 1); rw [if_neg (by omega), hy]) (by show _ = if TE 4 (5 * u + m) = 0 then _ else _; rw [if_neg (by omega), hz]) (by omega)
                  | exact ih20 (by omega) _ _ _ (by rw [hx]; rfl) (by show _ = ms_sm m _ + (if TE 4 (5 * u + m) = 0 then 0 else 1); rw [if_pos (by omega), hy]) (by show _ = if TE 4 (5 * u + m) = 0 then _ else _; rw [if_pos (by omega), hz]; exact Nat.or_zero _) (by omega)
            · first
              | (exfalso; omega)
              | skip
                refine s_iconst rfl (cn rfl) ?_
                refine s_goto rfl (cn rfl) ?_
                refine s_ior rfl (cn rfl) _ (bi_or _ 0) ?_
                refine s_istore rfl (cn rfl) ?_
                refine s_iinc rfl (cn rfl) rfl ?_
                refine s_goto rfl (ch rfl) ?_
                first
                  | exact ih20 (by omega) _ _ _ (by rw [hx]; rfl) (by show _ = ms_sm m _ + (if TE 4 (5 * u + m) = 0 then 0 else 1); rw [if_neg (by omega), hy]) (by show _ = if TE 4 (5 * u + m) = 0 then _ else _; rw [if_neg (by omega), hz]) (by omega)
                  | exact ih20 (by omega) _ _ _ (by rw [hx]; rfl) (by show _ = ms_sm m _ + (if TE 4 (5 * u + m) = 0 then 0 else 1); rw [if_pos (by omega), hy]) (by show _ = if TE 4 (5 * u + m) = 0 then _ else _; rw [if_pos (by omega), hz]; exact Nat.or_zero _) (by omega)
          · refine s_iconst rfl (cn rfl) ?_
            refine s_goto rfl (cn rfl) ?_
            refine s_iadd rfl (cn rfl) ?_
            refine s_istore rfl (cn rfl) ?_
            refine s_iload rfl (cn rfl) rfl ?_
            refine s_aload_n rfl (cn rfl) rfl ?_
            refine s_iload rfl (cn rfl) rfl ?_
            refine s_iaload rfl (cn rfl) _ rfl c1000002 rfl (by omega) (by decide) (TE_4 _ (by omega)) ?_
            refine s_if_ne rfl (cn rfl) (cn rfl) ⟨by omega, by omega⟩ (fun q47 => ?_) (fun q47 => ?_)
            · first
              | (exfalso; omega)
              | skip
                refine s_iconst rfl (cn rfl) ?_
                refine s_aload_n rfl (cn rfl) rfl ?_
                refine s_iload rfl (cn rfl) rfl ?_
                refine s_iaload rfl (cn rfl) _ rfl c1000002 rfl (by omega) (by decide) (TE_4 _ (by omega)) ?_
                refine s_ishl rfl (cn rfl) _ (bi_shl1 (by omega)) ?_
                refine s_ior rfl (cn rfl) _ (bi_or _ _) ?_
                refine s_istore rfl (cn rfl) ?_
                refine s_iinc rfl (cn rfl) rfl ?_
                refine s_goto rfl (ch rfl) ?_
                first
                  | exact ih20 (by omega) _ _ _ (by rw [hx]; rfl) (by show _ = ms_sm m _ + (if TE 4 (5 * u + m) = 0 then 0 else 1); rw [if_neg (by omega), hy]) (by show _ = if TE 4 (5 * u + m) = 0 then _ else _; rw [if_neg (by omega), hz]) (by omega)
                  | exact ih20 (by omega) _ _ _ (by rw [hx]; rfl) (by show _ = ms_sm m _ + (if TE 4 (5 * u + m) = 0 then 0 else 1); rw [if_pos (by omega), hy]) (by show _ = if TE 4 (5 * u + m) = 0 then _ else _; rw [if_pos (by omega), hz]; exact Nat.or_zero _) (by omega)
            · first
              | (exfalso; omega)
              | skip
                refine s_iconst rfl (cn rfl) ?_
                refine s_goto rfl (cn rfl) ?_
                refine s_ior rfl (cn rfl) _ (bi_or _ 0) ?_
                refine s_istore rfl (cn rfl) ?_
                refine s_iinc rfl (cn rfl) rfl ?_
                refine s_goto rfl (ch rfl) ?_
                first
                  | exact ih20 (by omega) _ _ _ (by rw [hx]; rfl) (by show _ = ms_sm m _ + (if TE 4 (5 * u + m) = 0 then 0 else 1); rw [if_neg (by omega), hy]) (by show _ = if TE 4 (5 * u + m) = 0 then _ else _; rw [if_neg (by omega), hz]) (by omega)
                  | exact ih20 (by omega) _ _ _ (by rw [hx]; rfl) (by show _ = ms_sm m _ + (if TE 4 (5 * u + m) = 0 then 0 else 1); rw [if_pos (by omega), hy]) (by show _ = if TE 4 (5 * u + m) = 0 then _ else _; rw [if_pos (by omega), hz]; exact Nat.or_zero _) (by omega)
      exact lp20 0 (by omega) _ _ 0 rfl rfl rfl (by omega)
  exact lp6 0 (by omega) _ _ _ _ _ s bt bb c13 fr_r (Or.inl ⟨hbb, fun s t b ⟨j, j1, _⟩ => absurd j1 (by omega)⟩) (by omega)
theorem v_offerAll_28_4 {d N S : Nat} {v : Nat → Int} {h : Nat → Option rr_E} (c5 : h 5 = some (.inr (0, [.int (ii ((4 : Nat) : Int)), .ref 6]))) (c6 : h 6 = some (.inl (0, 16, .inl (fun k => ii (v k))))) (hv : ∀ k, -999 ≤ v k ∧ v k ≤ 999) (h0 : v 0 = 0) (c1000002 : h 1000002 = some (.inl (8, 205, .inl (fun j => rr_four.getD j 0)))) {ku wc op oc bt bb : Int} {s : Nat} (c28 : h 28 = some (ST28 ku wc op oc (s : Int) bt bb)) (hbb : bb = 0) : rr_Calls (d + 2) j_Balanced_offerAll [.ref 5, .ref 28] (N, S, h) (fun r R => r = none ∧ ∃ (h' : Nat → Option rr_E) (s' : Nat) (t' b' : Int), R = (N, S, h') ∧ fr [28] h h' ∧ h' 28 = some (ST28 ku wc op oc (s' : Int) t' b') ∧ BP (PT 4 v) s' t' b' ∧ (1 ≤ b' ∧ b' ≤ 5) ∧ (-10000 ≤ t' ∧ t' ≤ 10000)) := by
  refine rr_meth (C := K_Balanced_offerAll) (hd := h_Balanced_offerAll) (mx := 8) rfl rfl (fun K hK => ?_)
  have htr : TR 4 = 41 := rfl
  have hal : al 4 = 15 := rfl
  refine hK _ _ _ _ ?_
  refine s_aload_n rfl (cn rfl) rfl ?_
  refine s_getfield rfl (cn rfl) c5 rfl ?_
  refine s_stat rfl (cn rfl) rfl rfl rfl u_table_4 ?_
  rintro _ _ ⟨rfl, rfl⟩
  refine s_astore_n rfl (cn rfl) ?_
  refine s_iconst rfl (cn rfl) ?_
  refine s_istore_n rfl (ch rfl) ?_
  have lp6 : ∀ u : Nat, u ≤ TR 4 → ∀ (l4 l5 l6 l7 : Option Value) (h' : Nat → Option rr_E) (s2 : Nat) (t2 b2 : Int) (c28 : h' 28 = some (ST28 ku wc op oc (s2 : Int) t2 b2)) (hf : fr [28] h h') (hB2 : BP (fun s t b => ∃ j, j < u ∧ s = tb_sup (row 4 j) ∧ t = rsm (row 4 j) v - rone (row 4 j) * v (al 4) ∧ b = rtot (row 4 j)) s2 t2 b2) (hbd : (0 ≤ b2 ∧ b2 ≤ 5) ∧ (b2 ≠ 0 → -10000 ≤ t2 ∧ t2 ≤ 10000) ∧ (1 ≤ u → b2 ≠ 0)), K 6 [some (.ref 5), some (.ref 28), some (.ref 1000002), some (.int (ii ((5 * u : Nat) : Int))), l4, l5, l6, l7] [] (N, S, h') := by
    refine dn (fun u hu ih6 => ?_)
    intro l4 l5 l6 l7 h' s2 t2 b2 c28 hf hB2 hbd
    have c5 := (hf 5 (by decide)).trans c5
    have c6 := (hf 6 (by decide)).trans c6
    have c1000002 := (hf 1000002 (by decide)).trans c1000002
    refine hK _ _ _ _ ?_
    refine s_iload_n rfl (cn rfl) rfl ?_
    refine s_iconst rfl (cn rfl) ?_
    refine s_iadd rfl (cn rfl) ?_
    refine s_aload_n rfl (cn rfl) rfl ?_
    refine s_arraylength rfl (cn rfl) c1000002 (by decide) ?_
    refine s_icmp_gt rfl (cn rfl) (cn rfl) ⟨by omega, by omega⟩ ⟨by omega, by omega⟩ (fun q11 => ?_) (fun q11 => ?_)
    · refine s_return rfl ?_
      refine ⟨rfl, h', s2, t2, b2, rfl, hf, c28, BP_cg hB2 (fun s t b => ⟨fun ⟨j, j1, j2⟩ => ⟨row 4 j, row_mem (by decide) (by decide) (by omega), j2⟩, fun ⟨l, l1, l2⟩ => by
        obtain ⟨j, j1, rfl⟩ := mem_row (by decide) (by decide) l1
        exact ⟨j, by omega, l2⟩⟩), by omega, by omega⟩
    · refine s_iconst rfl (cn rfl) ?_
      refine s_istore rfl (cn rfl) ?_
      refine s_iconst rfl (cn rfl) ?_
      refine s_istore rfl (cn rfl) ?_
      refine s_iconst rfl (cn rfl) ?_
      refine s_istore rfl (cn rfl) ?_
      refine s_iload_n rfl (cn rfl) rfl ?_
      refine s_istore rfl (ch rfl) ?_
      have lp20 : ∀ m : Nat, m ≤ 5 → ∀ (x y : Int) (z : Nat) (hx : x = ms_sm m (fun j => ((TE 4 (5 * u + j) &&& 1 : Nat) : Int))) (hy : y = ms_sm m (fun j => if TE 4 (5 * u + j) = 0 then 0 else 1)) (hz : z = sTm (fun j => TE 4 (5 * u + j)) m) (hxb : 0 ≤ x ∧ x ≤ m), K 20 [some (.ref 5), some (.ref 28), some (.ref 1000002), some (.int (ii ((5 * u : Nat) : Int))), some (.int (ii x)), some (.int (ii y)), some (.int (ii (z : Int))), some (.int (ii ((5 * u + m : Nat) : Int)))] [] (N, S, h') := by
        refine dn (fun m hm ih20 => ?_)
        intro x y z hx hy hz hxb
        refine hK _ _ _ _ ?_
        refine s_iload rfl (cn rfl) rfl ?_
        refine s_iload_n rfl (cn rfl) rfl ?_
        refine s_iconst rfl (cn rfl) ?_
        refine s_iadd rfl (cn rfl) ?_
        refine s_icmp_ge rfl (cn rfl) (cn rfl) ⟨by omega, by omega⟩ ⟨by omega, by omega⟩ (fun q24 => ?_) (fun q24 => ?_)
        · have hc : x = rone (row 4 u) := by rw [hx, show m = 5 by omega]; exact one_5 (by decide) (by decide) (by omega)
          have ht : y = rtot (row 4 u) := by rw [hy, show m = 5 by omega]; exact rs_5 (f := fun _ => 1) (by decide) (by decide) (by omega)
          have hs : z = tb_sup (row 4 u) := by rw [hz, show m = 5 by omega]; exact sTm_5 (by decide) (by decide) (by omega)
          have rt := row_tot 4 (by decide) (by decide) (row 4 u) (row_mem (by decide) (by decide) (by omega))
          have hva := hv (al 4)
          have hsb := rsv_b (n := 4) (r := u) hv h0 (by decide) (by decide) (by omega)
          have o1 := ab_mul (x := x) (y := v (al 4)) (a := 5) (b := 999) (by omega) (by omega) (by decide) (by decide)
          refine s_aload_n rfl (cn rfl) rfl ?_
          refine s_iload rfl (cn rfl) rfl ?_
          refine s_aload_n rfl (cn rfl) rfl ?_
          refine s_aload_n rfl (cn rfl) rfl ?_
          refine s_iload_n rfl (cn rfl) rfl ?_
          refine s_stat rfl (cn rfl) rfl rfl rfl (u_sumW_4_5 (by exact c5) (by exact c6) hv h0 (by exact c1000002) (show u < TR 4 by omega)) ?_
          rintro _ _ ⟨rfl, rfl⟩
          refine s_iload rfl (cn rfl) rfl ?_
          refine s_aload_n rfl (cn rfl) rfl ?_
          refine s_getfield rfl (cn rfl) c5 rfl ?_
          refine s_aload_n rfl (cn rfl) rfl ?_
          refine s_virt rfl (cn rfl) rfl rfl c5 rfl (u_all_5 (n := 4) ⟨by decide, by decide⟩ (by exact c5)) ?_
          rintro _ _ ⟨rfl, rfl⟩
          refine s_iaload rfl (cn rfl) _ rfl c6 rfl (by omega) (by decide) rfl ?_
          refine s_imul rfl (cn rfl) ?_
          refine s_isub rfl (cn rfl) ?_
          refine s_i2l rfl (cn rfl) ⟨by omega, by omega⟩ ?_
          refine s_iload rfl (cn rfl) rfl ?_
          refine s_i2l rfl (cn rfl) ⟨by omega, by omega⟩ ?_
          refine s_virt rfl (cn rfl) rfl rfl c28 rfl (v_offer0_28 (s0 := z) (t0 := (rsm (row 4 u) v - x * v (al 4))) (b0 := y) c28 (fun _ => by have := ab_mul (x := (rsm (row 4 u) v - x * v (al 4))) (y := b2) (a := 10000) (b := 5) (by omega) (by omega) (by decide) (by decide); omega) (fun e => by have := ab_mul (x := t2) (y := y) (a := 10000) (b := 5) (by omega) (by omega) (by decide) (by decide); omega) (by omega)) ?_
          rintro _ _ ⟨rfl, h3, s3, t3, b3, rfl, hf3, d3, hn3, he3, hl3⟩
          refine s_iinc rfl (cn rfl) rfl ?_
          refine s_goto rfl (ch rfl) ?_
          exact ih6 (by omega) _ _ _ _ _ s3 t3 b3 d3 (fr_t hf hf3 (by decide)) (BP_cg (BP_s hB2 (by omega) hn3 he3 hl3) (fun s t b => ⟨fun q => by
              rcases q with ⟨j, j1, j2⟩ | ⟨rfl, rfl, rfl⟩
              · exact ⟨j, by omega, j2⟩
              · exact ⟨u, by omega, hs, by rw [hc], ht⟩, fun ⟨j, j1, j2, j3, j4⟩ => by
              by_cases e : j = u
              · subst e; exact Or.inr ⟨by rw [j2, hs], by rw [j3, hc], by rw [j4, ht]⟩
              · exact Or.inl ⟨j, by omega, j2, j3, j4⟩⟩)) (by
              rcases (show b2 = 0 ∨ (rsm (row 4 u) v - x * v (al 4)) * b2 = t2 * y ∨ (rsm (row 4 u) v - x * v (al 4)) * b2 < t2 * y ∨ t2 * y < (rsm (row 4 u) v - x * v (al 4)) * b2 by omega) with e | e | e | e
              · have := hn3 (Or.inl e); omega
              · by_cases e2 : b2 = 0
                · have := hn3 (Or.inl e2); omega
                · have := he3 e2 e; omega
              · by_cases e2 : b2 = 0
                · have := hn3 (Or.inl e2); omega
                · have := hl3 e2 e; omega
              · have := hn3 (Or.inr e); omega)
        · have t16 := TE_16 4 (by decide) (by decide) (5 * u + m) (by omega)
          have a1 := and1_b (TE 4 (5 * u + m))
          refine s_iload rfl (cn rfl) rfl ?_
          refine s_aload_n rfl (cn rfl) rfl ?_
          refine s_iload rfl (cn rfl) rfl ?_
          refine s_iaload rfl (cn rfl) _ rfl c1000002 rfl (by omega) (by decide) (TE_4 _ (by omega)) ?_
          refine s_iconst rfl (cn rfl) ?_
          refine s_iand rfl (cn rfl) _ (bi_and _ 1) ?_
          refine s_iadd rfl (cn rfl) ?_
          refine s_istore rfl (cn rfl) ?_
          refine s_iload rfl (cn rfl) rfl ?_
          refine s_aload_n rfl (cn rfl) rfl ?_
          refine s_iload rfl (cn rfl) rfl ?_
          refine s_iaload rfl (cn rfl) _ rfl c1000002 rfl (by omega) (by decide) (TE_4 _ (by omega)) ?_
          refine s_if_ne rfl (cn rfl) (cn rfl) ⟨by omega, by omega⟩ (fun q37 => ?_) (fun q37 => ?_)
          · refine s_iconst rfl (cn rfl) ?_
            refine s_iadd rfl (cn rfl) ?_
            refine s_istore rfl (cn rfl) ?_
            refine s_iload rfl (cn rfl) rfl ?_
            refine s_aload_n rfl (cn rfl) rfl ?_
            refine s_iload rfl (cn rfl) rfl ?_
            refine s_iaload rfl (cn rfl) _ rfl c1000002 rfl (by omega) (by decide) (TE_4 _ (by omega)) ?_
            refine s_if_ne rfl (cn rfl) (cn rfl) ⟨by omega, by omega⟩ (fun q47 => ?_) (fun q47 => ?_)
            · first
              | (exfalso; omega)
              | skip
                refine s_iconst rfl (cn rfl) ?_
                refine s_aload_n rfl (cn rfl) rfl ?_
                refine s_iload rfl (cn rfl) rfl ?_
                refine s_iaload rfl (cn rfl) _ rfl c1000002 rfl (by omega) (by decide) (TE_4 _ (by omega)) ?_
                refine s_ishl rfl (cn rfl) _ (bi_shl1 (by omega)) ?_
                refine s_ior rfl (cn rfl) _ (bi_or _ _) ?_
                refine s_istore rfl (cn rfl) ?_
                refine s_iinc rfl (cn rfl) rfl ?_
                refine s_goto rfl (ch rfl) ?_
                first
                  | exact ih20 (by omega) _ _ _ (by rw [hx]; rfl) (by show _ = ms_sm m _ + (if TE 4 (5 * u + m) = 0 then 0 else 1); rw [if_neg (by omega), hy]) (by show _ = if TE 4 (5 * u + m) = 0 then _ else _; rw [if_neg (by omega), hz]) (by omega)
                  | exact ih20 (by omega) _ _ _ (by rw [hx]; rfl) (by show _ = ms_sm m _ + (if TE 4 (5 * u + m) = 0 then 0 else 1); rw [if_pos (by omega), hy]) (by show _ = if TE 4 (5 * u + m) = 0 then _ else _; rw [if_pos (by omega), hz]; exact Nat.or_zero _) (by omega)
            · first
              | (exfalso; omega)
              | skip
                refine s_iconst rfl (cn rfl) ?_
                refine s_goto rfl (cn rfl) ?_
                refine s_ior rfl (cn rfl) _ (bi_or _ 0) ?_
                refine s_istore rfl (cn rfl) ?_
                refine s_iinc rfl (cn rfl) rfl ?_
                refine s_goto rfl (ch rfl) ?_
                first
                  | exact ih20 (by omega) _ _ _ (by rw [hx]; rfl) (by show _ = ms_sm m _ + (if TE 4 (5 * u + m) = 0 then 0 else 1); rw [if_neg (by omega), hy]) (by show _ = if TE 4 (5 * u + m) = 0 then _ else _; rw [if_neg (by omega), hz]) (by omega)
                  | exact ih20 (by omega) _ _ _ (by rw [hx]; rfl) (by show _ = ms_sm m _ + (if TE 4 (5 * u + m) = 0 then 0 else 1); rw [if_pos (by omega), hy]) (by show _ = if TE 4 (5 * u + m) = 0 then _ else _; rw [if_pos (by omega), hz]; exact Nat.or_zero _) (by omega)
          · refine s_iconst rfl (cn rfl) ?_
            refine s_goto rfl (cn rfl) ?_
            refine s_iadd rfl (cn rfl) ?_
            refine s_istore rfl (cn rfl) ?_
            refine s_iload rfl (cn rfl) rfl ?_
            refine s_aload_n rfl (cn rfl) rfl ?_
            refine s_iload rfl (cn rfl) rfl ?_
            refine s_iaload rfl (cn rfl) _ rfl c1000002 rfl (by omega) (by decide) (TE_4 _ (by omega)) ?_
            refine s_if_ne rfl (cn rfl) (cn rfl) ⟨by omega, by omega⟩ (fun q47 => ?_) (fun q47 => ?_)
            · first
              | (exfalso; omega)
              | skip
                refine s_iconst rfl (cn rfl) ?_
                refine s_aload_n rfl (cn rfl) rfl ?_
                refine s_iload rfl (cn rfl) rfl ?_
                refine s_iaload rfl (cn rfl) _ rfl c1000002 rfl (by omega) (by decide) (TE_4 _ (by omega)) ?_
                refine s_ishl rfl (cn rfl) _ (bi_shl1 (by omega)) ?_
                refine s_ior rfl (cn rfl) _ (bi_or _ _) ?_
                refine s_istore rfl (cn rfl) ?_
                refine s_iinc rfl (cn rfl) rfl ?_
                refine s_goto rfl (ch rfl) ?_
                first
                  | exact ih20 (by omega) _ _ _ (by rw [hx]; rfl) (by show _ = ms_sm m _ + (if TE 4 (5 * u + m) = 0 then 0 else 1); rw [if_neg (by omega), hy]) (by show _ = if TE 4 (5 * u + m) = 0 then _ else _; rw [if_neg (by omega), hz]) (by omega)
                  | exact ih20 (by omega) _ _ _ (by rw [hx]; rfl) (by show _ = ms_sm m _ + (if TE 4 (5 * u + m) = 0 then 0 else 1); rw [if_pos (by omega), hy]) (by show _ = if TE 4 (5 * u + m) = 0 then _ else _; rw [if_pos (by omega), hz]; exact Nat.or_zero _) (by omega)
            · first
              | (exfalso; omega)
              | skip
                refine s_iconst rfl (cn rfl) ?_
                refine s_goto rfl (cn rfl) ?_
                refine s_ior rfl (cn rfl) _ (bi_or _ 0) ?_
                refine s_istore rfl (cn rfl) ?_
                refine s_iinc rfl (cn rfl) rfl ?_
                refine s_goto rfl (ch rfl) ?_
                first
                  | exact ih20 (by omega) _ _ _ (by rw [hx]; rfl) (by show _ = ms_sm m _ + (if TE 4 (5 * u + m) = 0 then 0 else 1); rw [if_neg (by omega), hy]) (by show _ = if TE 4 (5 * u + m) = 0 then _ else _; rw [if_neg (by omega), hz]) (by omega)
                  | exact ih20 (by omega) _ _ _ (by rw [hx]; rfl) (by show _ = ms_sm m _ + (if TE 4 (5 * u + m) = 0 then 0 else 1); rw [if_pos (by omega), hy]) (by show _ = if TE 4 (5 * u + m) = 0 then _ else _; rw [if_pos (by omega), hz]; exact Nat.or_zero _) (by omega)
      exact lp20 0 (by omega) _ _ 0 rfl rfl rfl (by omega)
  exact lp6 0 (by omega) _ _ _ _ _ s bt bb c28 fr_r (Or.inl ⟨hbb, fun s t b ⟨j, j1, _⟩ => absurd j1 (by omega)⟩) (by omega)
