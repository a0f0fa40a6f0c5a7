/-! Weights: the model, and the calls. -/
theorem gs_cg {m : Nat} {f f' : Nat → Int} (h : ∀ g, 1 ≤ g → g < m → f g = f' g) : gs m f = gs m f' := by
  unfold gs
  refine ms_cg (fun j hj => ?_)
  by_cases h0 : j = 0
  · rw [if_pos h0, if_pos h0]
  · rw [if_neg h0, if_neg h0, h j (by omega) hj]
theorem swt_cg {n p : Nat} {W W' : Nat → Int} (h : ∀ g, 1 ≤ g → g < al n → W g = W' g) : swt n W p = swt n W' p := gs_cg (fun g h1 h2 => by rw [h g h1 h2])
theorem ftl_cg {n : Nat} {W W' : Nat → Int} (h : ∀ g, 1 ≤ g → g < al n → W g = W' g) : ftl n W = ftl n W' := by
  unfold ftl
  rw [gs_cg h, show (fun p => swt n W p ≠ swt n W 0) = (fun p => swt n W' p ≠ swt n W' 0) from funext (fun p => by rw [swt_cg h, swt_cg h])]
theorem ptp_cg {n : Nat} {v W W' : Nat → Int} (h : ∀ g, 1 ≤ g → g < al n → W g = W' g) : ptp n v W = ptp n v W' := by
  unfold ptp
  rw [swt_cg h, gs_cg (f := fun g => W g * v g) (f' := fun g => W' g * v g) (fun g h1 h2 => by rw [h g h1 h2])]
noncomputable def sp_tilts (n : Nat) (sz : Nat → Int) (it : Nat → Nat → Int) (a i : Int) : Int := if rws n sz it a i = 0 then ftl n (wt it a i) else rws n sz it a i
noncomputable def sp_proof (n : Nat) (v : Nat → Int) (sz : Nat → Int) (it : Nat → Nat → Int) (a i z : Int) : Int := if (z = 0 ∨ z = 1) ∧ rws n sz it a i = 0 ∧ ftl n (wt it a i) = -5 then lw (ptp n v (wt it a i)) (gs (al n) (wt it a i)) z else -9223372036854775808
theorem ftl_t {n : Nat} {W : Nat → Int} (hn : 2 ≤ n ∧ n ≤ 4) (hW : ∀ g, 1 ≤ g → g < al n → 0 ≤ W g ∧ W g ≤ 1000) (h : ftl n W = -5) : 0 < gs (al n) W := by
  have h0 : gs (al n) W ≠ 0 := fun e => by unfold ftl at h; rw [if_pos e] at h; omega
  have h1 : 0 ≤ gs (al n) W := by
    unfold gs
    refine ms_nonneg (fun j hj => ?_)
    by_cases q : j = 0
    · rw [if_pos q]; decide
    · rw [if_neg q]; exact (hW j (by omega) hj).1
  omega
theorem d_tilts {d N S n : Nat} {v : Nat → Int} {h : Nat → Option rr_E} (hn : 2 ≤ n ∧ n ≤ 4) (c1 : h 1 = some (.inr (0, [.int (ii (n : Int)), .ref 2]))) (c2 : h 2 = some (.inl (0, 16, .inl (fun k => ii (v k))))) {sz : Nat → Int} {it : Nat → Nat → Int} (hsz : ∀ l, l < 4 → -1 ≤ sz l ∧ sz l ≤ 30) (hit : ∀ l i, b6 (it l i)) (c51 : h 51 = some (.inr (1, [.ref 52, .ref 57]))) (c52 : h 52 = some AA) (c53 : ∀ l, l < 4 → h (53 + l) = some (.inl (1, 30, .inr (.inl (fun k => jj (it l k)))))) (c57 : h 57 = some (.inl (0, 4, .inl (fun k => ii (sz k))))) {x0 y0 : Int} {W0 : Nat → Int} (c49 : h 49 = some (.inr (5, [.ref 50, .int (ii x0), .int (ii y0)]))) (c50 : h 50 = some (.inl (1, 16, .inr (.inl (fun k => jj (W0 k)))))) {sl im : Int} (c0 : h 0 = some (DO sl im)) {a i : Int} (ha : b3 a) (hi : b3 i) : rr_Calls (d + 4) j_Desk_tilts [.ref 0, .int (ii a), .int (ii i)] (N, S, h) (fun r R => r = some (.int (ii (sp_tilts n sz it a i))) ∧ ∃ h', R = (N, S, h') ∧ fr [49, 50] h h' ∧ ∃ (x y : Int) (W : Nat → Int), h' 49 = some (.inr (5, [.ref 50, .int (ii x), .int (ii y)])) ∧ h' 50 = some (.inl (1, 16, .inr (.inl (fun k => jj (W k)))))) := by
  refine rr_meth (C := K_Desk_tilts) (hd := h_Desk_tilts) (mx := 4) rfl rfl (fun K hK => ?_)
  refine hK _ _ _ _ ?_
  refine s_aload_n rfl (cn rfl) rfl ?_
  refine s_getfield rfl (cn rfl) c0 rfl ?_
  refine s_iload_n rfl (cn rfl) rfl ?_
  refine s_iload_n rfl (cn rfl) rfl ?_
  refine s_aload_n rfl (cn rfl) rfl ?_
  refine s_getfield rfl (cn rfl) c0 rfl ?_
  refine s_aload_n rfl (cn rfl) rfl ?_
  refine s_getfield rfl (cn rfl) c0 rfl ?_
  refine s_virt rfl (cn rfl) rfl rfl c51 rfl (u_readW hn c1 c2 hsz hit c51 c52 c53 c57 c49 c50 ha hi) ?_
  rintro _ _ ⟨rfl, h', rfl, hf, x1, y1, W1, d49, d50, hw⟩
  have c0 := (hf 0 (by decide)).trans c0
  have c1 := (hf 1 (by decide)).trans c1
  have c2 := (hf 2 (by decide)).trans c2
  have c49 := d49
  have c50 := d50
  have hr := rws_r n sz it a i
  refine s_istore_n rfl (cn rfl) ?_
  refine s_iload_n rfl (cn rfl) rfl ?_
  refine s_if_eq rfl (cn rfl) (cn rfl) ⟨by omega, by omega⟩ (fun q11 => ?_) (fun q11 => ?_)
  · obtain ⟨rfl, rfl, hw2⟩ := hw q11
    have hW : ∀ g, 1 ≤ g → g < al n → 0 ≤ W1 g ∧ W1 g ≤ 1000 := fun g q1 q2 => by rw [hw2 g q1 q2]; exact (rws_z q11).2 g q1 q2
    refine s_aload_n rfl (cn rfl) rfl ?_
    refine s_getfield rfl (cn rfl) c0 rfl ?_
    refine s_virt rfl (cn rfl) rfl rfl c49 rfl (u_tilt hn c49 c50 hW) ?_
    rintro _ _ ⟨rfl, rfl⟩
    refine s_ireturn rfl ?_
    first
      | exact ⟨ri (by unfold sp_tilts; rw [if_pos q11]; exact ftl_cg hw2), h', rfl, hf, _, _, _, d49, d50⟩
      | exact ⟨ri (if_neg q11).symm, h', rfl, hf, _, _, _, d49, d50⟩
  · refine s_iload_n rfl (cn rfl) rfl ?_
    refine s_goto rfl (cn rfl) ?_
    refine s_ireturn rfl ?_
    first
      | exact ⟨ri (by unfold sp_tilts; rw [if_pos q11]; exact ftl_cg hw2), h', rfl, hf, _, _, _, d49, d50⟩
      | exact ⟨ri (if_neg q11).symm, h', rfl, hf, _, _, _, d49, d50⟩
theorem d_proof {d N S n : Nat} {v : Nat → Int} {h : Nat → Option rr_E} (hn : 2 ≤ n ∧ n ≤ 4) (c1 : h 1 = some (.inr (0, [.int (ii (n : Int)), .ref 2]))) (c2 : h 2 = some (.inl (0, 16, .inl (fun k => ii (v k))))) (hv : ∀ k, -999 ≤ v k ∧ v k ≤ 999) {sz : Nat → Int} {it : Nat → Nat → Int} (hsz : ∀ l, l < 4 → -1 ≤ sz l ∧ sz l ≤ 30) (hit : ∀ l i, b6 (it l i)) (c51 : h 51 = some (.inr (1, [.ref 52, .ref 57]))) (c52 : h 52 = some AA) (c53 : ∀ l, l < 4 → h (53 + l) = some (.inl (1, 30, .inr (.inl (fun k => jj (it l k)))))) (c57 : h 57 = some (.inl (0, 4, .inl (fun k => ii (sz k))))) {x0 y0 : Int} {W0 : Nat → Int} (c49 : h 49 = some (.inr (5, [.ref 50, .int (ii x0), .int (ii y0)]))) (c50 : h 50 = some (.inl (1, 16, .inr (.inl (fun k => jj (W0 k)))))) {sl im : Int} (c0 : h 0 = some (DO sl im)) {a i : Int} (ha : b3 a) (hi : b3 i) {z : Int} (hz : b3 z) : rr_Calls (d + 4) j_Desk_proof [.ref 0, .int (ii a), .int (ii i), .int (ii z)] (N, S, h) (fun r R => r = some (.long (jj (sp_proof n v sz it a i z))) ∧ ∃ h', R = (N, S, h') ∧ fr [49, 50] h h' ∧ ∃ (x y : Int) (W : Nat → Int), h' 49 = some (.inr (5, [.ref 50, .int (ii x), .int (ii y)])) ∧ h' 50 = some (.inl (1, 16, .inr (.inl (fun k => jj (W k)))))) := by
  refine rr_meth (C := K_Desk_proof) (hd := h_Desk_proof) (mx := 4) rfl rfl (fun K hK => ?_)
  refine hK _ _ _ _ ?_
  refine s_iload_n rfl (cn rfl) rfl ?_
  refine s_stat rfl (cn rfl) rfl rfl rfl (u_fpart (by omega)) ?_
  rintro _ _ ⟨rfl, rfl⟩
  refine s_ifb_eq rfl (cn rfl) (cn rfl) (fun q2 => ?_) (fun q2 => ?_)
  · refine s_ldc2_w rfl (cn rfl) ?_
    refine s_lreturn rfl ?_
    have e0 : sp_proof n v sz it a i z = _ := if_neg (fun q => by
      first
        | exact q2 q.1
        | exact q12 q.2.1
        | exact q17 (by rw [ftl_cg hw2]; exact q.2.2))
    first
      | exact ⟨rl e0.symm, h', rfl, hf, _, _, _, d49, d50⟩
      | exact ⟨rl e0.symm, h, rfl, fr_r, _, _, _, c49, c50⟩
  · refine s_aload_n rfl (cn rfl) rfl ?_
    refine s_getfield rfl (cn rfl) c0 rfl ?_
    refine s_iload_n rfl (cn rfl) rfl ?_
    refine s_iload_n rfl (cn rfl) rfl ?_
    refine s_aload_n rfl (cn rfl) rfl ?_
    refine s_getfield rfl (cn rfl) c0 rfl ?_
    refine s_aload_n rfl (cn rfl) rfl ?_
    refine s_getfield rfl (cn rfl) c0 rfl ?_
    refine s_virt rfl (cn rfl) rfl rfl c51 rfl (u_readW hn c1 c2 hsz hit c51 c52 c53 c57 c49 c50 ha hi) ?_
    rintro _ _ ⟨rfl, h', rfl, hf, x1, y1, W1, d49, d50, hw⟩
    have c0 := (hf 0 (by decide)).trans c0
    have c1 := (hf 1 (by decide)).trans c1
    have c2 := (hf 2 (by decide)).trans c2
    have c49 := d49
    have c50 := d50
    have hr := rws_r n sz it a i
    refine s_if_ne rfl (cn rfl) (cn rfl) ⟨by omega, by omega⟩ (fun q12 => ?_) (fun q12 => ?_)
    · refine s_ldc2_w rfl (cn rfl) ?_
      refine s_lreturn rfl ?_
      have e0 : sp_proof n v sz it a i z = _ := if_neg (fun q => by
        first
          | exact q2 q.1
          | exact q12 q.2.1
          | exact q17 (by rw [ftl_cg hw2]; exact q.2.2))
      first
        | exact ⟨rl e0.symm, h', rfl, hf, _, _, _, d49, d50⟩
        | exact ⟨rl e0.symm, h, rfl, fr_r, _, _, _, c49, c50⟩
    · obtain ⟨rfl, rfl, hw2⟩ := hw q12
      have hW : ∀ g, 1 ≤ g → g < al n → 0 ≤ W1 g ∧ W1 g ≤ 1000 := fun g q1 q2 => by rw [hw2 g q1 q2]; exact (rws_z q12).2 g q1 q2
      have hb1 := ftl_b n hn W1
      have hb2 := ptp_b hn hv hW
      have hb3 := tot_b hn hW
      refine s_aload_n rfl (cn rfl) rfl ?_
      refine s_getfield rfl (cn rfl) c0 rfl ?_
      refine s_virt rfl (cn rfl) rfl rfl c49 rfl (u_tilt hn c49 c50 hW) ?_
      rintro _ _ ⟨rfl, rfl⟩
      refine s_bipush rfl (cn rfl) (by decide) ?_
      refine s_icmp_eq rfl (cn rfl) (cn rfl) ⟨by omega, by omega⟩ ⟨by omega, by omega⟩ (fun q17 => ?_) (fun q17 => ?_)
      · have hb4 := ftl_t hn hW q17
        refine s_aload_n rfl (cn rfl) rfl ?_
        refine s_getfield rfl (cn rfl) c0 rfl ?_
        refine s_aload_n rfl (cn rfl) rfl ?_
        refine s_getfield rfl (cn rfl) c0 rfl ?_
        refine s_virt rfl (cn rfl) rfl rfl c49 rfl (u_provenTop hn c1 c2 hv c49 c50 hW) ?_
        rintro _ _ ⟨rfl, rfl⟩
        refine s_aload_n rfl (cn rfl) rfl ?_
        refine s_getfield rfl (cn rfl) c0 rfl ?_
        refine s_virt rfl (cn rfl) rfl rfl c49 rfl (u_total hn c49 c50 hW) ?_
        rintro _ _ ⟨rfl, rfl⟩
        refine s_iload_n rfl (cn rfl) rfl ?_
        refine s_stat rfl (cn rfl) rfl rfl rfl (u_lowest (by omega) (by omega) (by omega) (by omega)) ?_
        rintro _ _ ⟨rfl, rfl⟩
        refine s_lreturn rfl ?_
        exact ⟨rl (by unfold sp_proof; rw [if_pos ⟨q2, q12, by rw [← ftl_cg hw2]; exact q17⟩, ptp_cg hw2, gs_cg hw2]), h', rfl, hf, _, _, _, d49, d50⟩
      · refine s_ldc2_w rfl (cn rfl) ?_
        refine s_lreturn rfl ?_
        have e0 : sp_proof n v sz it a i z = _ := if_neg (fun q => by
          first
            | exact q2 q.1
            | exact q12 q.2.1
            | exact q17 (by rw [ftl_cg hw2]; exact q.2.2))
        first
          | exact ⟨rl e0.symm, h', rfl, hf, _, _, _, d49, d50⟩
          | exact ⟨rl e0.symm, h, rfl, fr_r, _, _, _, c49, c50⟩
theorem m_weight {d N S n : Nat} {kp tp pt wr fa dm ce di be od sm le sc ba bb ti rk ts tm pa : Int} {h : Nat → Option rr_E}  {q g : Nat} {w : Nat → Int} (c58 : h 58 = some (MO (n : Int) kp tp pt wr fa dm ce di be od sm le sc ba bb ti rk ts tm pa (q : Int))) (c79 : h 79 = some (.inl (1, 120, .inr (.inl (fun k => jj (w k)))))) (h1 : 1 ≤ g) (h2 : q + g ≤ 120) : rr_Calls (d + 1) j_Model_weight [.ref 58, .int (ii (g : Int))] (N, S, h) (fun r R => r = some (.long (jj (w (q + g - 1)))) ∧ R = (N, S, h)) := by
  refine rr_meth (C := K_Model_weight) (hd := h_Model_weight) (mx := 2) rfl rfl (fun K hK => ?_)
  refine hK _ _ _ _ ?_
  refine s_aload_n rfl (cn rfl) rfl ?_
  refine s_getfield rfl (cn rfl) c58 rfl ?_
  refine s_aload_n rfl (cn rfl) rfl ?_
  refine s_getfield rfl (cn rfl) c58 rfl ?_
  refine s_iload_n rfl (cn rfl) rfl ?_
  refine s_iadd rfl (cn rfl) ?_
  refine s_iconst rfl (cn rfl) ?_
  refine s_isub rfl (cn rfl) ?_
  refine s_laload rfl (cn rfl) (q + g - 1) (by omega) c79 (by omega) (by decide) rfl ?_
  refine s_lreturn rfl ?_
  exact ⟨rfl, rfl⟩
theorem m_weightOf {d N S n : Nat} {kp tp pt wr fa dm ce di be od sm le sc ba bb ti rk ts tm pa : Int} {h : Nat → Option rr_E} (hn : 2 ≤ n ∧ n ≤ 4)  {q : Nat} {w : Nat → Int} (c58 : h 58 = some (MO (n : Int) kp tp pt wr fa dm ce di be od sm le sc ba bb ti rk ts tm pa (q : Int))) (c79 : h 79 = some (.inl (1, 120, .inr (.inl (fun k => jj (w k)))))) {W : Nat → Int} (hq : q + al n ≤ 121) (hW : ∀ g, 1 ≤ g → g < al n → w (q + g - 1) = W g) (hb : ∀ g, 1 ≤ g → g < al n → 0 ≤ W g ∧ W g ≤ 1000) {p : Nat} (hp : p < n) : rr_Calls (d + 2) j_Model_weightOf [.ref 58, .int (ii (p : Int))] (N, S, h) (fun r R => r = some (.long (jj (swt n W p))) ∧ R = (N, S, h)) := by
  refine rr_meth (C := K_Model_weightOf) (hd := h_Model_weightOf) (mx := 5) rfl rfl (fun K hK => ?_)
  have hA := al_b hn
  refine hK _ _ _ _ ?_
  refine s_lconst rfl (cn rfl) 0 (by decide) ?_
  refine s_lstore_n rfl (cn rfl) ?_
  refine s_iconst rfl (cn rfl) ?_
  refine s_istore rfl (ch rfl) ?_
  have lp4 : ∀ g : Nat, g ≤ al n → ∀ (x : Int) (hx : x = gs g (fun g => st_bt g p * W g)) (h1 : 1 ≤ g), K 4 [some (.ref 58), some (.int (ii (p : Int))), some (.long (jj x)), none, some (.int (ii (g : Int)))] [] (N, S, h) := by
    refine dn (fun g hg ih4 => ?_)
    intro x hx h1
    refine hK _ _ _ _ ?_
    refine s_iload rfl (cn rfl) rfl ?_
    refine s_aload_n rfl (cn rfl) rfl ?_
    refine s_virt rfl (cn rfl) rfl rfl c58 rfl (m_all hn c58) ?_
    rintro _ _ ⟨rfl, rfl⟩
    refine s_icmp_ge rfl (cn rfl) (cn rfl) ⟨by omega, by omega⟩ ⟨by omega, by omega⟩ (fun q7 => ?_) (fun q7 => ?_)
    · refine s_lload_n rfl (cn rfl) rfl ?_
      refine s_lreturn rfl ?_
      exact ⟨rl (by rw [hx, show g = al n by omega]; rfl), rfl⟩
    · refine s_lload_n rfl (cn rfl) rfl ?_
      refine s_iload rfl (cn rfl) rfl ?_
      refine s_iload_n rfl (cn rfl) rfl ?_
      refine s_stat rfl (cn rfl) rfl rfl rfl (m_has (by omega) (by omega)) ?_
      rintro _ _ ⟨rfl, rfl⟩
      refine s_ifb_eq rfl (cn rfl) (cn rfl) (fun q12 => ?_) (fun q12 => ?_)
      · refine s_lconst rfl (cn rfl) 0 (by decide) ?_
        refine s_ladd rfl (cn rfl) ?_
        refine s_lstore_n rfl (cn rfl) ?_
        refine s_iinc rfl (cn rfl) rfl ?_
        refine s_goto rfl (ch rfl) ?_
        exact ih4 (by omega) _ (by rw [gs_s h1, hx, show st_bt g p = 0 by have := bt_01 g p; omega]; omega) (by omega)
      · refine s_aload_n rfl (cn rfl) rfl ?_
        refine s_iload rfl (cn rfl) rfl ?_
        refine s_virt rfl (cn rfl) rfl rfl c58 rfl (m_weight c58 c79 h1 (by omega)) ?_
        rintro _ _ ⟨rfl, rfl⟩
        refine s_goto rfl (cn rfl) ?_
        refine s_ladd rfl (cn rfl) ?_
        refine s_lstore_n rfl (cn rfl) ?_
        refine s_iinc rfl (cn rfl) rfl ?_
        refine s_goto rfl (ch rfl) ?_
        exact ih4 (by omega) _ (by rw [gs_s h1, hx, q12, hW g h1 (by omega)]; omega) (by omega)
  exact lp4 1 (by omega) _ gs_1.symm (by omega)
theorem m_provedBelow {d N S n : Nat} {kp tp pt wr fa dm ce di be od sm le sc ba bb ti rk ts tm pa : Int} {h : Nat → Option rr_E} (hn : 2 ≤ n ∧ n ≤ 4)  {q : Nat} {w : Nat → Int} (c58 : h 58 = some (MO (n : Int) kp tp pt wr fa dm ce di be od sm le sc ba bb ti rk ts tm pa (q : Int))) (c79 : h 79 = some (.inl (1, 120, .inr (.inl (fun k => jj (w k)))))) {W : Nat → Int} (hq : q + al n ≤ 121) (hW : ∀ g, 1 ≤ g → g < al n → w (q + g - 1) = W g) (hb : ∀ g, 1 ≤ g → g < al n → 0 ≤ W g ∧ W g ≤ 1000) : rr_Calls (d + 2) j_Model_provedBelow [.ref 58] (N, S, h) (fun r R => r = some (.long (jj (gs (al n) W))) ∧ R = (N, S, h)) := by
  refine rr_meth (C := K_Model_provedBelow) (hd := h_Model_provedBelow) (mx := 4) rfl rfl (fun K hK => ?_)
  have hA := al_b hn
  refine hK _ _ _ _ ?_
  refine s_lconst rfl (cn rfl) 0 (by decide) ?_
  refine s_lstore_n rfl (cn rfl) ?_
  refine s_iconst rfl (cn rfl) ?_
  refine s_istore_n rfl (ch rfl) ?_
  have lp4 : ∀ g : Nat, g ≤ al n → ∀ (x : Int) (hx : x = gs g W) (h1 : 1 ≤ g), K 4 [some (.ref 58), some (.long (jj x)), none, some (.int (ii (g : Int)))] [] (N, S, h) := by
    refine dn (fun g hg ih4 => ?_)
    intro x hx h1
    refine hK _ _ _ _ ?_
    refine s_iload_n rfl (cn rfl) rfl ?_
    refine s_aload_n rfl (cn rfl) rfl ?_
    refine s_virt rfl (cn rfl) rfl rfl c58 rfl (m_all hn c58) ?_
    rintro _ _ ⟨rfl, rfl⟩
    refine s_icmp_ge rfl (cn rfl) (cn rfl) ⟨by omega, by omega⟩ ⟨by omega, by omega⟩ (fun q7 => ?_) (fun q7 => ?_)
    · refine s_lload_n rfl (cn rfl) rfl ?_
      refine s_lreturn rfl ?_
      exact ⟨rl (by rw [hx, show g = al n by omega]), rfl⟩
    · refine s_lload_n rfl (cn rfl) rfl ?_
      refine s_aload_n rfl (cn rfl) rfl ?_
      refine s_iload_n rfl (cn rfl) rfl ?_
      refine s_virt rfl (cn rfl) rfl rfl c58 rfl (m_weight c58 c79 h1 (by omega)) ?_
      rintro _ _ ⟨rfl, rfl⟩
      refine s_ladd rfl (cn rfl) ?_
      refine s_lstore_n rfl (cn rfl) ?_
      refine s_iinc rfl (cn rfl) rfl ?_
      refine s_goto rfl (ch rfl) ?_
      exact ih4 (by omega) _ (by rw [gs_s h1, hx, hW g h1 (by omega)]) (by omega)
  exact lp4 1 (by omega) _ gs_1.symm (by omega)
theorem m_provedAbove {d N S n : Nat} {kp tp pt wr fa dm ce di be od sm le sc ba bb ti rk ts tm pa : Int} {h : Nat → Option rr_E} (hn : 2 ≤ n ∧ n ≤ 4)  {q : Nat} {w : Nat → Int} (c58 : h 58 = some (MO (n : Int) kp tp pt wr fa dm ce di be od sm le sc ba bb ti rk ts tm pa (q : Int))) (c79 : h 79 = some (.inl (1, 120, .inr (.inl (fun k => jj (w k)))))) {W : Nat → Int} (hq : q + al n ≤ 121) (hW : ∀ g, 1 ≤ g → g < al n → w (q + g - 1) = W g) (hb : ∀ g, 1 ≤ g → g < al n → 0 ≤ W g ∧ W g ≤ 1000) {v : Nat → Int} (c59 : h 59 = some (.inl (0, 16, .inl (fun k => ii (v k))))) (hv : ∀ k, -999 ≤ v k ∧ v k ≤ 999) : rr_Calls (d + 3) j_Model_provedAbove [.ref 58] (N, S, h) (fun r R => r = some (.long (jj (ptp n v W))) ∧ R = (N, S, h)) := by
  refine rr_meth (C := K_Model_provedAbove) (hd := h_Model_provedAbove) (mx := 4) rfl rfl (fun K hK => ?_)
  have hA := al_b hn
  have hva := hv (al n)
  refine hK _ _ _ _ ?_
  refine s_lconst rfl (cn rfl) 0 (by decide) ?_
  refine s_lstore_n rfl (cn rfl) ?_
  refine s_iconst rfl (cn rfl) ?_
  refine s_istore_n rfl (ch rfl) ?_
  have lp4 : ∀ g : Nat, g ≤ al n → ∀ (x : Int) (hx : x = gs g (fun g => W g * v g)) (h1 : 1 ≤ g), K 4 [some (.ref 58), some (.long (jj x)), none, some (.int (ii (g : Int)))] [] (N, S, h) := by
    refine dn (fun g hg ih4 => ?_)
    intro x hx h1
    have hvg := hv g
    refine hK _ _ _ _ ?_
    refine s_iload_n rfl (cn rfl) rfl ?_
    refine s_aload_n rfl (cn rfl) rfl ?_
    refine s_virt rfl (cn rfl) rfl rfl c58 rfl (m_all hn c58) ?_
    rintro _ _ ⟨rfl, rfl⟩
    refine s_icmp_ge rfl (cn rfl) (cn rfl) ⟨by omega, by omega⟩ ⟨by omega, by omega⟩ (fun q7 => ?_) (fun q7 => ?_)
    · refine s_lload_n rfl (cn rfl) rfl ?_
      refine s_aload_n rfl (cn rfl) rfl ?_
      refine s_iconst rfl (cn rfl) ?_
      refine s_virt rfl (cn rfl) rfl rfl c58 rfl (m_weightOf (p := 0) hn c58 c79 hq hW hb (by omega)) ?_
      rintro _ _ ⟨rfl, rfl⟩
      refine s_aload_n rfl (cn rfl) rfl ?_
      refine s_getfield rfl (cn rfl) c58 rfl ?_
      refine s_aload_n rfl (cn rfl) rfl ?_
      refine s_virt rfl (cn rfl) rfl rfl c58 rfl (m_all hn c58) ?_
      rintro _ _ ⟨rfl, rfl⟩
      refine s_iaload rfl (cn rfl) _ rfl c59 rfl (by omega) (by decide) rfl ?_
      refine s_i2l rfl (cn rfl) ⟨by omega, by omega⟩ ?_
      refine s_lmul rfl (cn rfl) ?_
      refine s_lsub rfl (cn rfl) ?_
      refine s_lreturn rfl ?_
      exact ⟨rl (by rw [hx, show g = al n by omega]; rfl), rfl⟩
    · refine s_lload_n rfl (cn rfl) rfl ?_
      refine s_aload_n rfl (cn rfl) rfl ?_
      refine s_iload_n rfl (cn rfl) rfl ?_
      refine s_virt rfl (cn rfl) rfl rfl c58 rfl (m_weight c58 c79 h1 (by omega)) ?_
      rintro _ _ ⟨rfl, rfl⟩
      refine s_aload_n rfl (cn rfl) rfl ?_
      refine s_getfield rfl (cn rfl) c58 rfl ?_
      refine s_iload_n rfl (cn rfl) rfl ?_
      refine s_iaload rfl (cn rfl) _ rfl c59 rfl (by omega) (by decide) rfl ?_
      refine s_i2l rfl (cn rfl) ⟨by omega, by omega⟩ ?_
      refine s_lmul rfl (cn rfl) ?_
      refine s_ladd rfl (cn rfl) ?_
      refine s_lstore_n rfl (cn rfl) ?_
      refine s_iinc rfl (cn rfl) rfl ?_
      refine s_goto rfl (ch rfl) ?_
      exact ih4 (by omega) _ (by rw [gs_s h1, hx, hW g h1 (by omega)]) (by omega)
  exact lp4 1 (by omega) _ gs_1.symm (by omega)
theorem m_tilted {d N S n : Nat} {kp tp pt wr fa dm ce di be od sm le sc ba bb ti rk ts tm pa : Int} {h : Nat → Option rr_E} (hn : 2 ≤ n ∧ n ≤ 4)  {q : Nat} {w : Nat → Int} (c58 : h 58 = some (MO (n : Int) kp tp pt wr fa dm ce di be od sm le sc ba bb ti rk ts tm pa (q : Int))) (c79 : h 79 = some (.inl (1, 120, .inr (.inl (fun k => jj (w k)))))) {W : Nat → Int} (hq : q + al n ≤ 121) (hW : ∀ g, 1 ≤ g → g < al n → w (q + g - 1) = W g) (hb : ∀ g, 1 ≤ g → g < al n → 0 ≤ W g ∧ W g ≤ 1000) : rr_Calls (d + 3) j_Model_tilted [.ref 58] (N, S, h) (fun r R => r = some (.int (ii (ftl n W))) ∧ R = (N, S, h)) := by
  refine rr_meth (C := K_Model_tilted) (hd := h_Model_tilted) (mx := 4) rfl rfl (fun K hK => ?_)
  have hA := al_b hn
  have ht := tot_b hn hb
  have hs0 := swt_b (p := 0) hn hb
  refine hK _ _ _ _ ?_
  refine s_lconst rfl (cn rfl) 0 (by decide) ?_
  refine s_lstore_n rfl (cn rfl) ?_
  refine s_iconst rfl (cn rfl) ?_
  refine s_istore_n rfl (ch rfl) ?_
  have lp4 : ∀ g : Nat, g ≤ al n → ∀ (x : Int) (hx : x = gs g W) (h1 : 1 ≤ g), K 4 [some (.ref 58), some (.long (jj x)), none, some (.int (ii (g : Int)))] [] (N, S, h) := by
    refine dn (fun g hg ih4 => ?_)
    intro x hx h1
    refine hK _ _ _ _ ?_
    refine s_iload_n rfl (cn rfl) rfl ?_
    refine s_aload_n rfl (cn rfl) rfl ?_
    refine s_virt rfl (cn rfl) rfl rfl c58 rfl (m_all hn c58) ?_
    rintro _ _ ⟨rfl, rfl⟩
    refine s_icmp_ge rfl (cn rfl) (cn rfl) ⟨by omega, by omega⟩ ⟨by omega, by omega⟩ (fun q7 => ?_) (fun q7 => ?_)
    · have hx : x = gs (al n) W := by rw [hx, show g = al n by omega]
      subst hx
      refine s_lload_n rfl (cn rfl) rfl ?_
      refine s_lconst rfl (cn rfl) 0 (by decide) ?_
      refine s_lcmp rfl (cn rfl) ?_
      refine s_ifl_ne rfl (cn rfl) (cn rfl) ⟨by omega, by omega⟩ ⟨by omega, by omega⟩ (fun q19 => ?_) (fun q19 => ?_)
      · refine s_iconst rfl (cn rfl) ?_
        refine s_istore_n rfl (ch rfl) ?_
        have lp24 : ∀ p : Nat, p ≤ n → ∀ (h1 : 1 ≤ p) (no : ∀ k, 1 ≤ k → k < p → ¬ swt n W k ≠ swt n W 0), K 24 [some (.ref 58), some (.long (jj (gs (al n) W))), none, some (.int (ii (p : Int)))] [] (N, S, h) := by
          refine dn (fun p hp ih24 => ?_)
          intro h1 no
          have hs1 := swt_b (p := p) hn hb
          refine hK _ _ _ _ ?_
          refine s_iload_n rfl (cn rfl) rfl ?_
          refine s_aload_n rfl (cn rfl) rfl ?_
          refine s_getfield rfl (cn rfl) c58 rfl ?_
          refine s_icmp_ge rfl (cn rfl) (cn rfl) ⟨by omega, by omega⟩ ⟨by omega, by omega⟩ (fun q27 => ?_) (fun q27 => ?_)
          · refine s_bipush rfl (cn rfl) (by decide) ?_
            refine s_ireturn rfl ?_
            exact ⟨ri (by unfold ftl; rw [if_neg q19]; exact ff_n (fun k q1 q2 => no k q1 (by omega))), rfl⟩
          · refine s_aload_n rfl (cn rfl) rfl ?_
            refine s_iload_n rfl (cn rfl) rfl ?_
            refine s_virt rfl (cn rfl) rfl rfl c58 rfl (m_weightOf hn c58 c79 hq hW hb (by omega)) ?_
            rintro _ _ ⟨rfl, rfl⟩
            refine s_aload_n rfl (cn rfl) rfl ?_
            refine s_iconst rfl (cn rfl) ?_
            refine s_virt rfl (cn rfl) rfl rfl c58 rfl (m_weightOf (p := 0) hn c58 c79 hq hW hb (by omega)) ?_
            rintro _ _ ⟨rfl, rfl⟩
            refine s_lcmp rfl (cn rfl) ?_
            refine s_ifl_eq rfl (cn rfl) (cn rfl) ⟨by omega, by omega⟩ ⟨by omega, by omega⟩ (fun q35 => ?_) (fun q35 => ?_)
            · refine s_iinc rfl (cn rfl) rfl ?_
              refine s_goto rfl (ch rfl) ?_
              exact ih24 (by omega) (by omega) (fun k q1 q2 => by
                  by_cases e : k = p
                  · subst e; exact fun q => q q35
                  · exact no k q1 (by omega))
            · refine s_iload_n rfl (cn rfl) rfl ?_
              refine s_ireturn rfl ?_
              exact ⟨ri (by unfold ftl; rw [if_neg q19]; exact ff_y h1 (by omega) q35 no), rfl⟩
        exact lp24 1 (by omega) (by omega) (fun k q1 q2 => absurd q2 (by omega))
      · refine s_bipush rfl (cn rfl) (by decide) ?_
        refine s_ireturn rfl ?_
        exact ⟨ri (if_pos q19).symm, rfl⟩
    · refine s_lload_n rfl (cn rfl) rfl ?_
      refine s_aload_n rfl (cn rfl) rfl ?_
      refine s_iload_n rfl (cn rfl) rfl ?_
      refine s_virt rfl (cn rfl) rfl rfl c58 rfl (m_weight c58 c79 h1 (by omega)) ?_
      rintro _ _ ⟨rfl, rfl⟩
      refine s_ladd rfl (cn rfl) ?_
      refine s_lstore_n rfl (cn rfl) ?_
      refine s_iinc rfl (cn rfl) rfl ?_
      refine s_goto rfl (ch rfl) ?_
      exact ih4 (by omega) _ (by rw [gs_s h1, hx, hW g h1 (by omega)]) (by omega)
  exact lp4 1 (by omega) _ gs_1.symm (by omega)
theorem m_tellsW {d N S n : Nat} {kp tp pt wr fa dm ce di be od sm le sc ba bb ti rk ts tm pa wa : Int} {h : Nat → Option rr_E} (hn : 2 ≤ n ∧ n ≤ 4) (c58 : h 58 = some (MO (n : Int) kp tp pt wr fa dm ce di be od sm le sc ba bb ti rk ts tm pa wa)) {sz th ms w : Nat → Int} {it : Nat → Nat → Int} (hth : ∀ l, l < 4 → (th l = 0 ∧ sz l = -1) ∨ (th l = 1 ∧ sz l = ms l ∧ 0 ≤ sz l ∧ sz l ≤ 30)) (hit : ∀ l i, l < 4 → i < 30 → w (30 * l + i) = it l i) (c77 : h 77 = some (.inl (2, 4, .inl (fun k => ii (th k))))) (c78 : h 78 = some (.inl (0, 4, .inl (fun k => ii (ms k))))) (c79 : h 79 = some (.inl (1, 120, .inr (.inl (fun k => jj (w k)))))) (hb : ∀ l i, b6 (it l i)) {a i : Int} (ha : b3 a) (hi : b3 i) : rr_Calls (d + 3) j_Model_tellsWeights [.ref 58, .int (ii a), .int (ii i)] (N, S, h) (fun r R => r = some (.int (ii (rws n sz it a i))) ∧ ∃ h', R = (N, S, h') ∧ fr [58] h h' ∧ ∃ wb : Int, h' 58 = some (MO (n : Int) kp tp pt wr fa dm ce di be od sm le sc ba bb ti rk ts tm pa wb) ∧ (rws n sz it a i = 0 → wb = ((30 * a.toNat + i.toNat : Nat) : Int))) := by
  refine rr_meth (C := K_Model_tellsWeights) (hd := h_Model_tellsWeights) (mx := 4) rfl rfl (fun K hK => ?_)
  have hA := al_b hn
  refine hK _ _ _ _ ?_
  refine s_iload_n rfl (cn rfl) rfl ?_
  refine s_stat rfl (cn rfl) rfl rfl rfl (m_isList (by omega)) ?_
  rintro _ _ ⟨rfl, rfl⟩
  refine s_ifb_ne rfl (cn rfl) (cn rfl) (fun q2 => ?_) (fun q2 => ?_)
  · obtain ⟨l, rfl⟩ := Int.eq_ofNat_of_zero_le (show 0 ≤ a by omega)
    have hl : l < 4 := by omega
    have hs := hth l hl
    refine s_aload_n rfl (cn rfl) rfl ?_
    refine s_getfield rfl (cn rfl) c58 rfl ?_
    refine s_iload_n rfl (cn rfl) rfl ?_
    refine s_baload rfl (cn rfl) _ rfl c77 rfl (by omega) (by decide) rfl ?_
    refine s_if_ne rfl (cn rfl) (cn rfl) ⟨by omega, by omega⟩ (fun q9 => ?_) (fun q9 => ?_)
    · refine s_iload_n rfl (cn rfl) rfl ?_
      refine s_if_lt rfl (cn rfl) (cn rfl) ⟨by omega, by omega⟩ (fun q13 => ?_) (fun q13 => ?_)
      · refine s_bipush rfl (cn rfl) (by decide) ?_
        refine s_ireturn rfl ?_
        have e1 : cpl sz (l : Int) i ((al n : Int) - 1) = -13 := by
          unfold cpl; rw [if_pos q2]
          show (if sz l = -1 then _ else if i < 0 ∨ sz l - ((al n : Int) - 1) < i then _ else _) = _
          rw [if_neg (by omega), if_pos (by omega)]
        exact ⟨ri (by rw [rws_n (by omega), e1]), h, rfl, fr_r, _, c58, fun q => absurd (rws_z q).1 (by omega)⟩
      · refine s_iload_n rfl (cn rfl) rfl ?_
        refine s_aload_n rfl (cn rfl) rfl ?_
        refine s_getfield rfl (cn rfl) c58 rfl ?_
        refine s_iload_n rfl (cn rfl) rfl ?_
        refine s_iaload rfl (cn rfl) _ rfl c78 rfl (by omega) (by decide) rfl ?_
        refine s_aload_n rfl (cn rfl) rfl ?_
        refine s_virt rfl (cn rfl) rfl rfl c58 rfl (m_all hn c58) ?_
        rintro _ _ ⟨rfl, rfl⟩
        refine s_isub rfl (cn rfl) ?_
        refine s_iconst rfl (cn rfl) ?_
        refine s_iadd rfl (cn rfl) ?_
        refine s_icmp_le rfl (cn rfl) (cn rfl) ⟨by omega, by omega⟩ ⟨by omega, by omega⟩ (fun q24 => ?_) (fun q24 => ?_)
        · have e1 : cpl sz (l : Int) i ((al n : Int) - 1) = 0 := by
            unfold cpl; rw [if_pos q2]
            show (if sz l = -1 then _ else if i < 0 ∨ sz l - ((al n : Int) - 1) < i then _ else _) = _
            rw [if_neg (by omega), if_neg (by omega)]
          obtain ⟨j, rfl⟩ := Int.eq_ofNat_of_zero_le (show 0 ≤ i by omega)
          have hj : j + al n ≤ 31 := by omega
          refine s_aload_n rfl (cn rfl) rfl ?_
          refine s_bipush rfl (cn rfl) (by decide) ?_
          refine s_iload_n rfl (cn rfl) rfl ?_
          refine s_imul rfl (cn rfl) ?_
          refine s_iload_n rfl (cn rfl) rfl ?_
          refine s_iadd rfl (cn rfl) ?_
          refine s_puti rfl (cn rfl) rfl c58 rfl ?_
          refine s_iconst rfl (cn rfl) ?_
          refine s_istore_n rfl (ch rfl) ?_
          have lp36 : ∀ g : Nat, g ≤ al n → ∀ (h' : Nat → Option rr_E) (h1 : 1 ≤ g) (c58 : h' 58 = some (MO (n : Int) kp tp pt wr fa dm ce di be od sm le sc ba bb ti rk ts tm pa ((30 * l + j : Nat) : Int))) (hf : fr [58] h h') (hw : ∀ k, 1 ≤ k → k < g → 0 ≤ wt it l j k ∧ wt it l j k ≤ 1000), K 36 [some (.ref 58), some (.int (ii (l : Int))), some (.int (ii (j : Int))), some (.int (ii (g : Int)))] [] (N, S, h') := by
            refine dn (fun g hg ih36 => ?_)
            intro h' h1 c58 hf hw
            have c79 := (hf 79 (by decide)).trans c79
            refine hK _ _ _ _ ?_
            refine s_iload_n rfl (cn rfl) rfl ?_
            refine s_aload_n rfl (cn rfl) rfl ?_
            refine s_virt rfl (cn rfl) rfl rfl c58 rfl (m_all hn c58) ?_
            rintro _ _ ⟨rfl, rfl⟩
            refine s_icmp_ge rfl (cn rfl) (cn rfl) ⟨by omega, by omega⟩ ⟨by omega, by omega⟩ (fun q39 => ?_) (fun q39 => ?_)
            · refine s_iconst rfl (cn rfl) ?_
              refine s_ireturn rfl ?_
              have e2 : rws n sz it (l : Int) (j : Int) = 0 := rws_0 e1 (fun g' q1 q2 => hw g' q1 (by omega))
              exact ⟨ri e2.symm, h', rfl, hf, _, c58, fun _ => rfl⟩
            · refine s_aload_n rfl (cn rfl) rfl ?_
              refine s_iload_n rfl (cn rfl) rfl ?_
              have hq := hit l (j + g - 1) hl (by omega)
              have hb2 := hb l (j + g - 1)
              rw [show 30 * l + (j + g - 1) = 30 * l + j + g - 1 by omega] at hq
              refine s_virt rfl (cn rfl) rfl rfl c58 rfl (m_weight (q := 30 * l + j) c58 c79 h1 (by omega)) ?_
              rintro _ _ ⟨rfl, rfl⟩
              rw [hq]
              refine s_lconst rfl (cn rfl) 0 (by decide) ?_
              refine s_ldc2_w rfl (cn rfl) ?_
              refine s_stat rfl (cn rfl) rfl rfl rfl (m_in (by omega) (by omega) (by omega)) ?_
              rintro _ _ ⟨rfl, rfl⟩
              refine s_ifb_ne rfl (cn rfl) (cn rfl) (fun q46 => ?_) (fun q46 => ?_)
              · refine s_iinc rfl (cn rfl) rfl ?_
                refine s_goto rfl (ch rfl) ?_
                exact ih36 (by omega) _ (by omega) c58 hf (fun k q1 q2 => by
                    by_cases e : k = g
                    · subst e; exact q46
                    · exact hw k q1 (by omega))
              · refine s_bipush rfl (cn rfl) (by decide) ?_
                refine s_ireturn rfl ?_
                have e2 : rws n sz it (l : Int) (j : Int) = -2 := rws_b (g := g) e1 h1 (by omega) q46
                exact ⟨ri e2.symm, h', rfl, hf, _, c58, fun _ => rfl⟩
          exact lp36 1 (by omega) _ (by omega) rr_set_eq (fr_s (by decide) fr_r) (fun k q1 q2 => absurd q2 (by omega))
        · refine s_bipush rfl (cn rfl) (by decide) ?_
          refine s_ireturn rfl ?_
          have e1 : cpl sz (l : Int) i ((al n : Int) - 1) = -13 := by
            unfold cpl; rw [if_pos q2]
            show (if sz l = -1 then _ else if i < 0 ∨ sz l - ((al n : Int) - 1) < i then _ else _) = _
            rw [if_neg (by omega), if_pos (by omega)]
          exact ⟨ri (by rw [rws_n (by omega), e1]), h, rfl, fr_r, _, c58, fun q => absurd (rws_z q).1 (by omega)⟩
    · refine s_bipush rfl (cn rfl) (by decide) ?_
      refine s_ireturn rfl ?_
      have e1 : cpl sz (l : Int) i ((al n : Int) - 1) = -11 := by
        unfold cpl; rw [if_pos q2]
        show (if sz l = -1 then _ else if i < 0 ∨ sz l - ((al n : Int) - 1) < i then _ else _) = _
        rw [if_pos (by omega)]
      exact ⟨ri (by rw [rws_n (by omega), e1]), h, rfl, fr_r, _, c58, fun q => absurd (rws_z q).1 (by omega)⟩
  · refine s_iconst rfl (cn rfl) ?_
    refine s_ireturn rfl ?_
    have e1 : cpl sz a i ((al n : Int) - 1) = -1 := by unfold cpl; rw [if_neg q2]
    exact ⟨ri (by rw [rws_n (by omega), e1]), h, rfl, fr_r, _, c58, fun q => absurd (rws_z q).1 (by omega)⟩
theorem m_tilts {d N S n : Nat} {kp tp pt wr fa dm ce di be od sm le sc ba bb ti rk ts tm pa wa : Int} {h : Nat → Option rr_E} (hn : 2 ≤ n ∧ n ≤ 4) (c58 : h 58 = some (MO (n : Int) kp tp pt wr fa dm ce di be od sm le sc ba bb ti rk ts tm pa wa)) {sz th ms w : Nat → Int} {it : Nat → Nat → Int} (hth : ∀ l, l < 4 → (th l = 0 ∧ sz l = -1) ∨ (th l = 1 ∧ sz l = ms l ∧ 0 ≤ sz l ∧ sz l ≤ 30)) (hit : ∀ l i, l < 4 → i < 30 → w (30 * l + i) = it l i) (c77 : h 77 = some (.inl (2, 4, .inl (fun k => ii (th k))))) (c78 : h 78 = some (.inl (0, 4, .inl (fun k => ii (ms k))))) (c79 : h 79 = some (.inl (1, 120, .inr (.inl (fun k => jj (w k)))))) (hbi : ∀ l i, b6 (it l i)) {a i : Int} (ha : b3 a) (hi : b3 i) : rr_Calls (d + 4) j_Model_tilts [.ref 58, .int (ii a), .int (ii i)] (N, S, h) (fun r R => r = some (.int (ii (sp_tilts n sz it a i))) ∧ ∃ h', R = (N, S, h') ∧ fr [58] h h' ∧ ∃ wb : Int, h' 58 = some (MO (n : Int) kp tp pt wr fa dm ce di be od sm le sc ba bb ti rk ts tm pa wb)) := by
  refine rr_meth (C := K_Model_tilts) (hd := h_Model_tilts) (mx := 4) rfl rfl (fun K hK => ?_)
  have hA := al_b hn
  refine hK _ _ _ _ ?_
  refine s_aload_n rfl (cn rfl) rfl ?_
  refine s_iload_n rfl (cn rfl) rfl ?_
  refine s_iload_n rfl (cn rfl) rfl ?_
  refine s_virt rfl (cn rfl) rfl rfl c58 rfl (m_tellsW hn c58 hth hit c77 c78 c79 hbi ha hi) ?_
  rintro _ _ ⟨rfl, h', rfl, hf, wb, c58, hwb⟩
  have c79 := (hf 79 (by decide)).trans c79
  have hr := rws_r n sz it a i
  refine s_istore_n rfl (cn rfl) ?_
  refine s_iload_n rfl (cn rfl) rfl ?_
  refine s_if_eq rfl (cn rfl) (cn rfl) ⟨by omega, by omega⟩ (fun q6 => ?_) (fun q6 => ?_)
  · have e9 := hwb q6
    subst e9
    obtain ⟨z0, hb0⟩ := rws_z q6
    obtain ⟨z1, z2, z3, z4⟩ := cpl_0 z0
    obtain ⟨l, rfl⟩ := Int.eq_ofNat_of_zero_le z1.1
    have hl : l < 4 := by omega
    obtain ⟨j, rfl⟩ := Int.eq_ofNat_of_zero_le z3
    have hs := hth l hl
    have z5 : (j : Int) ≤ sz l - ((al n : Int) - 1) := z4
    have hq : 30 * l + j + al n ≤ 121 := by omega
    have hW : ∀ g, 1 ≤ g → g < al n → w (30 * l + j + g - 1) = wt it l j g := fun g q1 q2 => by
      have := hit l (j + g - 1) hl (by omega)
      rw [show 30 * l + (j + g - 1) = 30 * l + j + g - 1 by omega] at this
      exact this
    refine s_aload_n rfl (cn rfl) rfl ?_
    refine s_virt rfl (cn rfl) rfl rfl c58 rfl (m_tilted (q := 30 * l + j) hn c58 c79 hq hW hb0) ?_
    rintro _ _ ⟨rfl, rfl⟩
    refine s_ireturn rfl ?_
    first
      | exact ⟨ri (if_pos q6).symm, h', rfl, hf, _, c58⟩
      | exact ⟨ri (if_neg q6).symm, h', rfl, hf, _, c58⟩
  · refine s_iload_n rfl (cn rfl) rfl ?_
    refine s_goto rfl (cn rfl) ?_
    refine s_ireturn rfl ?_
    first
      | exact ⟨ri (if_pos q6).symm, h', rfl, hf, _, c58⟩
      | exact ⟨ri (if_neg q6).symm, h', rfl, hf, _, c58⟩
theorem m_proof {d N S n : Nat} {kp tp pt wr fa dm ce di be od sm le sc ba bb ti rk ts tm pa wa : Int} {h : Nat → Option rr_E} (hn : 2 ≤ n ∧ n ≤ 4) (c58 : h 58 = some (MO (n : Int) kp tp pt wr fa dm ce di be od sm le sc ba bb ti rk ts tm pa wa)) {sz th ms w : Nat → Int} {it : Nat → Nat → Int} (hth : ∀ l, l < 4 → (th l = 0 ∧ sz l = -1) ∨ (th l = 1 ∧ sz l = ms l ∧ 0 ≤ sz l ∧ sz l ≤ 30)) (hit : ∀ l i, l < 4 → i < 30 → w (30 * l + i) = it l i) (c77 : h 77 = some (.inl (2, 4, .inl (fun k => ii (th k))))) (c78 : h 78 = some (.inl (0, 4, .inl (fun k => ii (ms k))))) (c79 : h 79 = some (.inl (1, 120, .inr (.inl (fun k => jj (w k)))))) (hbi : ∀ l i, b6 (it l i)) {a i : Int} (ha : b3 a) (hi : b3 i) {v : Nat → Int} (c59 : h 59 = some (.inl (0, 16, .inl (fun k => ii (v k))))) (hv : ∀ k, -999 ≤ v k ∧ v k ≤ 999) {z : Int} (hz : b3 z) : rr_Calls (d + 4) j_Model_proof [.ref 58, .int (ii a), .int (ii i), .int (ii z)] (N, S, h) (fun r R => r = some (.long (jj (sp_proof n v sz it a i z))) ∧ ∃ h', R = (N, S, h') ∧ fr [58] h h' ∧ ∃ wb : Int, h' 58 = some (MO (n : Int) kp tp pt wr fa dm ce di be od sm le sc ba bb ti rk ts tm pa wb)) := by
  refine rr_meth (C := K_Model_proof) (hd := h_Model_proof) (mx := 4) rfl rfl (fun K hK => ?_)
  have hA := al_b hn
  refine hK _ _ _ _ ?_
  refine s_iload_n rfl (cn rfl) rfl ?_
  refine s_i2l rfl (cn rfl) ⟨by omega, by omega⟩ ?_
  refine s_lconst rfl (cn rfl) 0 (by decide) ?_
  refine s_lconst rfl (cn rfl) 1 (by decide) ?_
  refine s_stat rfl (cn rfl) rfl rfl rfl (m_in (by omega) (by omega) (by omega)) ?_
  rintro _ _ ⟨rfl, rfl⟩
  refine s_ifb_eq rfl (cn rfl) (cn rfl) (fun q5 => ?_) (fun q5 => ?_)
  · refine s_ldc2_w rfl (cn rfl) ?_
    refine s_lreturn rfl ?_
    first
      | (have e0 : sp_proof n v sz it a i z = _ := if_neg (fun q => q5 (by omega))
         exact ⟨rl e0.symm, h, rfl, fr_r, _, c58⟩)
      | (have e0 : sp_proof n v sz it a i z = _ := if_neg (fun q => q10 q.2.1)
         exact ⟨rl e0.symm, h', rfl, hf, _, c58⟩)
      | (have e0 : sp_proof n v sz it (l : Int) (j : Int) z = _ := if_neg (fun q => q14 q.2.2)
         exact ⟨rl e0.symm, h', rfl, hf, _, c58⟩)
  · refine s_aload_n rfl (cn rfl) rfl ?_
    refine s_iload_n rfl (cn rfl) rfl ?_
    refine s_iload_n rfl (cn rfl) rfl ?_
    refine s_virt rfl (cn rfl) rfl rfl c58 rfl (m_tellsW hn c58 hth hit c77 c78 c79 hbi ha hi) ?_
    rintro _ _ ⟨rfl, h', rfl, hf, wb, c58, hwb⟩
    have c79 := (hf 79 (by decide)).trans c79
    have hr := rws_r n sz it a i
    have c59 := (hf 59 (by decide)).trans c59
    refine s_if_ne rfl (cn rfl) (cn rfl) ⟨by omega, by omega⟩ (fun q10 => ?_) (fun q10 => ?_)
    · refine s_ldc2_w rfl (cn rfl) ?_
      refine s_lreturn rfl ?_
      first
        | (have e0 : sp_proof n v sz it a i z = _ := if_neg (fun q => q5 (by omega))
           exact ⟨rl e0.symm, h, rfl, fr_r, _, c58⟩)
        | (have e0 : sp_proof n v sz it a i z = _ := if_neg (fun q => q10 q.2.1)
           exact ⟨rl e0.symm, h', rfl, hf, _, c58⟩)
        | (have e0 : sp_proof n v sz it (l : Int) (j : Int) z = _ := if_neg (fun q => q14 q.2.2)
           exact ⟨rl e0.symm, h', rfl, hf, _, c58⟩)
    · have e9 := hwb q10
      subst e9
      obtain ⟨z0, hb0⟩ := rws_z q10
      obtain ⟨z1, z2, z3, z4⟩ := cpl_0 z0
      obtain ⟨l, rfl⟩ := Int.eq_ofNat_of_zero_le z1.1
      have hl : l < 4 := by omega
      obtain ⟨j, rfl⟩ := Int.eq_ofNat_of_zero_le z3
      have hs := hth l hl
      have z5 : (j : Int) ≤ sz l - ((al n : Int) - 1) := z4
      have hq : 30 * l + j + al n ≤ 121 := by omega
      have hW : ∀ g, 1 ≤ g → g < al n → w (30 * l + j + g - 1) = wt it l j g := fun g q1 q2 => by
        have := hit l (j + g - 1) hl (by omega)
        rw [show 30 * l + (j + g - 1) = 30 * l + j + g - 1 by omega] at this
        exact this
      have hb1 := ftl_b n hn (wt it l j)
      have hb2 := ptp_b hn hv hb0
      have hb3 := tot_b hn hb0
      refine s_aload_n rfl (cn rfl) rfl ?_
      refine s_virt rfl (cn rfl) rfl rfl c58 rfl (m_tilted (q := 30 * l + j) hn c58 c79 hq hW hb0) ?_
      rintro _ _ ⟨rfl, rfl⟩
      refine s_bipush rfl (cn rfl) (by decide) ?_
      refine s_icmp_eq rfl (cn rfl) (cn rfl) ⟨by omega, by omega⟩ ⟨by omega, by omega⟩ (fun q14 => ?_) (fun q14 => ?_)
      · have hb4 := ftl_t hn hb0 q14
        refine s_aload_n rfl (cn rfl) rfl ?_
        refine s_virt rfl (cn rfl) rfl rfl c58 rfl (m_provedAbove (q := 30 * l + j) hn c58 c79 hq hW hb0 c59 hv) ?_
        rintro _ _ ⟨rfl, rfl⟩
        refine s_aload_n rfl (cn rfl) rfl ?_
        refine s_virt rfl (cn rfl) rfl rfl c58 rfl (m_provedBelow (q := 30 * l + j) hn c58 c79 hq hW hb0) ?_
        rintro _ _ ⟨rfl, rfl⟩
        refine s_iload_n rfl (cn rfl) rfl ?_
        refine s_stat rfl (cn rfl) rfl rfl rfl (m_lowest (by omega) (by omega) (by omega) (by omega)) ?_
        rintro _ _ ⟨rfl, rfl⟩
        refine s_lreturn rfl ?_
        exact ⟨rl (by unfold sp_proof; rw [if_pos ⟨by omega, q10, q14⟩]), h', rfl, hf, _, c58⟩
      · refine s_ldc2_w rfl (cn rfl) ?_
        refine s_lreturn rfl ?_
        first
          | (have e0 : sp_proof n v sz it a i z = _ := if_neg (fun q => q5 (by omega))
             exact ⟨rl e0.symm, h, rfl, fr_r, _, c58⟩)
          | (have e0 : sp_proof n v sz it a i z = _ := if_neg (fun q => q10 q.2.1)
             exact ⟨rl e0.symm, h', rfl, hf, _, c58⟩)
          | (have e0 : sp_proof n v sz it (l : Int) (j : Int) z = _ := if_neg (fun q => q14 q.2.2)
             exact ⟨rl e0.symm, h', rfl, hf, _, c58⟩)
