/-! Whether weights prove; told shares judged. -/
noncomputable def sp_proves (n : Nat) (v sz : Nat → Int) (it : Nat → Nat → Int) (a i : Int) : Int := if rws n sz it a i = 0 then (if ftl n (wt it a i) = -5 ∧ ptp n v (wt it a i) * nQ n v 1 = nP n v 1 * gs (al n) (wt it a i) then 1 else 0) else rws n sz it a i
def unl (n : Nat) (v : Nat → Int) (it : Nat → Nat → Int) (a i : Int) (k : Nat) : Prop := ∃ g, (nF n v k).testBit g = true ∧ tg n v it a i g * nQ n v k ≠ nP n v k * shb it a i
noncomputable def sp_judge (n : Nat) (v sz : Nat → Int) (it : Nat → Nat → Int) (a i : Int) : Int := if rss n sz it a i = 0 then (if tg n v it a i (al n) = 0 then ff 1 (nM n v + 1) (unl n v it a i) (-5) else 0) else rss n sz it a i
theorem d_proves {d N S n : Nat} {v : Nat → Int} {h : Nat → Option rr_E} (hn : 2 ≤ n ∧ n ≤ 4) (c1 : h 1 = some (.inr (0, [.int (ii (n : Int)), .ref 2]))) (c2 : h 2 = some (.inl (0, 16, .inl (fun k => ii (v k))))) (hv : ∀ k, -999 ≤ v k ∧ v k ≤ 999) {sz : Nat → Int} {it : Nat → Nat → Int} (hsz : ∀ l, l < 4 → -1 ≤ sz l ∧ sz l ≤ 30) (hit : ∀ l i, b6 (it l i)) (c51 : h 51 = some (.inr (1, [.ref 52, .ref 57]))) (c52 : h 52 = some AA) (c53 : ∀ l, l < 4 → h (53 + l) = some (.inl (1, 30, .inr (.inl (fun k => jj (it l k)))))) (c57 : h 57 = some (.inl (0, 4, .inl (fun k => ii (sz k))))) {x0 y0 : Int} {W0 : Nat → Int} (c49 : h 49 = some (.inr (5, [.ref 50, .int (ii x0), .int (ii y0)]))) (c50 : h 50 = some (.inl (1, 16, .inr (.inl (fun k => jj (W0 k)))))) (h0 : v 0 = 0) (c1000000 : h 1000000 = some (.inl (8, 5, .inl (fun j => rr_two.getD j 0)))) (c1000001 : h 1000001 = some (.inl (8, 25, .inl (fun j => rr_three.getD j 0)))) (c1000002 : h 1000002 = some (.inl (8, 205, .inl (fun j => rr_four.getD j 0)))) {sl im : Int} (c0 : h 0 = some (DO sl im)) (hsl : sl = 0 ∨ sl = 1) (hraw : RAW13 h) (hsv : sl = 0 → SV13 h n v) {a i : Int} (ha : b3 a) (hi : b3 i) : rr_Calls (d + 7) j_Desk_proves [.ref 0, .int (ii a), .int (ii i)] (N, S, h) (fun r R => r = some (.int (ii (sp_proves n v sz it a i))) ∧ ∃ (h' : Nat → Option rr_E) (sl' : Int), R = (N, S, h') ∧ fr [0, 49, 50, 13, 14, 15, 16, 17, 18, 19, 24, 25, 26, 27, 21, 22, 23] h h' ∧ h' 0 = some (DO sl' im) ∧ (sl' = 0 ∨ sl' = 1) ∧ RAW13 h' ∧ (sl' = 0 → SV13 h' n v) ∧ ∃ (x y : Int) (W : Nat → Int), h' 49 = some (.inr (5, [.ref 50, .int (ii x), .int (ii y)])) ∧ h' 50 = some (.inl (1, 16, .inr (.inl (fun k => jj (W k)))))) := by
  refine rr_meth (C := K_Desk_proves) (hd := h_Desk_proves) (mx := 5) rfl rfl (fun K hK => ?_)
  refine hK _ _ _ _ ?_
  refine s_aload_n rfl (cn rfl) rfl ?_
  refine s_getfield rfl (cn rfl) c0 rfl ?_
  refine s_iload_n rfl (cn rfl) rfl ?_
  refine s_iload_n rfl (cn rfl) rfl ?_
  refine s_aload_n rfl (cn rfl) rfl ?_
  refine s_getfield rfl (cn rfl) c0 rfl ?_
  refine s_aload_n rfl (cn rfl) rfl ?_
  refine s_getfield rfl (cn rfl) c0 rfl ?_
  refine s_virt rfl (cn rfl) rfl rfl c51 rfl (u_readW hn c1 c2 hsz hit c51 c52 c53 c57 c49 c50 ha hi) ?_
  rintro _ _ ⟨rfl, h', rfl, hf, x1, y1, W1, d49, d50, hw⟩
  have c0 := (hf 0 (by decide)).trans c0
  have c1 := (hf 1 (by decide)).trans c1
  have c2 := (hf 2 (by decide)).trans c2
  have c49 := d49
  have c50 := d50
  have hr := rws_r n sz it a i
  refine s_istore_n rfl (cn rfl) ?_
  refine s_iload_n rfl (cn rfl) rfl ?_
  refine s_if_eq rfl (cn rfl) (cn rfl) ⟨by omega, by omega⟩ (fun q11 => ?_) (fun q11 => ?_)
  · obtain ⟨rfl, rfl, hw2⟩ := hw q11
    have hW : ∀ g, 1 ≤ g → g < al n → 0 ≤ W1 g ∧ W1 g ≤ 1000 := fun g q1 q2 => by rw [hw2 g q1 q2]; exact (rws_z q11).2 g q1 q2
    have hb1 := ftl_b n hn W1
    have hb2 := ptp_b hn hv hW
    have hb3 := tot_b hn hW
    have c1000000 := (hf 1000000 (by decide)).trans c1000000
    have c1000001 := (hf 1000001 (by decide)).trans c1000001
    have c1000002 := (hf 1000002 (by decide)).trans c1000002
    refine s_aload_n rfl (cn rfl) rfl ?_
    refine s_getfield rfl (cn rfl) c0 rfl ?_
    refine s_virt rfl (cn rfl) rfl rfl c49 rfl (u_tilt hn c49 c50 hW) ?_
    rintro _ _ ⟨rfl, rfl⟩
    refine s_bipush rfl (cn rfl) (by decide) ?_
    refine s_icmp_eq rfl (cn rfl) (cn rfl) ⟨by omega, by omega⟩ ⟨by omega, by omega⟩ (fun q18 => ?_) (fun q18 => ?_)
    · refine s_aload_n rfl (cn rfl) rfl ?_
      refine s_virt rfl (cn rfl) rfl rfl c0 rfl (d_solved hn c1 c2 hv h0 c1000000 c1000001 c1000002 c0 hsl (fr_RAW13 hf (by decide) (fun i hi => by first | (simp; done) | (simp; omega)) hraw) (fun e => fr_SV13 hf (by decide) (fun i hi => by first | (simp; done) | (simp; omega)) (hsv e))) ?_
      rintro _ _ ⟨rfl, h2, rfl, hf2, c0, hs⟩
      have c1 := (hf2 1 (by decide)).trans c1
      have c2 := (hf2 2 (by decide)).trans c2
      have c49 := (hf2 49 (by decide)).trans c49
      have c50 := (hf2 50 (by decide)).trans c50
      obtain ⟨wc, oc, bt, bb, bs, tt, tb, tf, A, E, c13, c14, c15, c16, c17, c18, c19, hS, hA4, hE⟩ := SV_SW13 hn hv h0 hs
      have nMb := nM_b hn hv h0
      have nBb := nB_b hn hv h0
      refine s_astore rfl (cn rfl) ?_
      have hS1 := hS 1 (by omega) (by omega)
      have hp1 := nP_b hn hv h0 (show 1 ≤ 1 by omega) (show 1 ≤ nM n v by omega)
      have hq1 := nQ_p hn hv h0 (show 1 ≤ 1 by omega) (show 1 ≤ nM n v by omega)
      have hm1 := ku_mul (x := ptp n v W1) (y := nQ n v 1) (a := 30000000) (b := 655360000) hb2 (by omega)
      have hm2 := ku_mul (x := nP n v 1) (y := gs (al n) W1) (a := 8000 * 655360000) (b := 15000) (by omega) hb3
      refine s_aload_n rfl (cn rfl) rfl ?_
      refine s_getfield rfl (cn rfl) c0 rfl ?_
      refine s_aload_n rfl (cn rfl) rfl ?_
      refine s_getfield rfl (cn rfl) c0 rfl ?_
      refine s_virt rfl (cn rfl) rfl rfl c49 rfl (u_provenTop hn c1 c2 hv c49 c50 hW) ?_
      rintro _ _ ⟨rfl, rfl⟩
      refine s_aload rfl (cn rfl) rfl ?_
      refine s_getfield rfl (cn rfl) c13 rfl ?_
      refine s_iconst rfl (cn rfl) ?_
      refine s_laload rfl (cn rfl) 1 rfl c15 (by decide) (by decide) (congrArg jj hS1.2.1) ?_
      refine s_lmul rfl (cn rfl) ?_
      refine s_aload rfl (cn rfl) rfl ?_
      refine s_getfield rfl (cn rfl) c13 rfl ?_
      refine s_iconst rfl (cn rfl) ?_
      refine s_laload rfl (cn rfl) 1 rfl c14 (by decide) (by decide) (congrArg jj hS1.1) ?_
      refine s_aload_n rfl (cn rfl) rfl ?_
      refine s_getfield rfl (cn rfl) c0 rfl ?_
      refine s_virt rfl (cn rfl) rfl rfl c49 rfl (u_total hn c49 c50 hW) ?_
      rintro _ _ ⟨rfl, rfl⟩
      refine s_lmul rfl (cn rfl) ?_
      refine s_lcmp rfl (cn rfl) ?_
      refine s_ifl_ne rfl (cn rfl) (cn rfl) ⟨by omega, by omega⟩ ⟨by omega, by omega⟩ (fun q43 => ?_) (fun q43 => ?_)
      · refine s_iconst rfl (cn rfl) ?_
        refine s_ireturn rfl ?_
        first
          | exact ⟨ri (by unfold sp_proves; rw [if_pos q11, if_pos ⟨by rw [← ftl_cg hw2]; exact q18, by rw [← ptp_cg hw2, ← gs_cg hw2]; exact q43⟩]), ⟨h2, 0, rfl, fr_t (fr_w hf (by simp)) (fr_w (l := [0, 49, 50, 13, 14, 15, 16, 17, 18, 19, 24, 25, 26, 27, 21, 22, 23]) hf2 (by simp)) (by simp), c0, Or.inl rfl, SV_RAW13 hs, fun _ => hs, _, _, _, c49, c50⟩⟩
          | exact ⟨ri (by unfold sp_proves; rw [if_pos q11, if_neg (fun q => q43 (by rw [ptp_cg hw2, gs_cg hw2]; exact q.2))]), ⟨h2, 0, rfl, fr_t (fr_w hf (by simp)) (fr_w (l := [0, 49, 50, 13, 14, 15, 16, 17, 18, 19, 24, 25, 26, 27, 21, 22, 23]) hf2 (by simp)) (by simp), c0, Or.inl rfl, SV_RAW13 hs, fun _ => hs, _, _, _, c49, c50⟩⟩
      · refine s_iconst rfl (cn rfl) ?_
        refine s_goto rfl (cn rfl) ?_
        refine s_ireturn rfl ?_
        first
          | exact ⟨ri (by unfold sp_proves; rw [if_pos q11, if_pos ⟨by rw [← ftl_cg hw2]; exact q18, by rw [← ptp_cg hw2, ← gs_cg hw2]; exact q43⟩]), ⟨h2, 0, rfl, fr_t (fr_w hf (by simp)) (fr_w (l := [0, 49, 50, 13, 14, 15, 16, 17, 18, 19, 24, 25, 26, 27, 21, 22, 23]) hf2 (by simp)) (by simp), c0, Or.inl rfl, SV_RAW13 hs, fun _ => hs, _, _, _, c49, c50⟩⟩
          | exact ⟨ri (by unfold sp_proves; rw [if_pos q11, if_neg (fun q => q43 (by rw [ptp_cg hw2, gs_cg hw2]; exact q.2))]), ⟨h2, 0, rfl, fr_t (fr_w hf (by simp)) (fr_w (l := [0, 49, 50, 13, 14, 15, 16, 17, 18, 19, 24, 25, 26, 27, 21, 22, 23]) hf2 (by simp)) (by simp), c0, Or.inl rfl, SV_RAW13 hs, fun _ => hs, _, _, _, c49, c50⟩⟩
    · refine s_iconst rfl (cn rfl) ?_
      refine s_ireturn rfl ?_
      exact ⟨ri (by unfold sp_proves; rw [if_pos q11, if_neg (fun q => q18 (by rw [ftl_cg hw2]; exact q.1))]), ⟨h', sl, rfl, fr_w hf (by simp), c0, hsl, fr_RAW13 hf (by decide) (fun i hi => by first | (simp; done) | (simp; omega)) hraw, fun e => fr_SV13 hf (by decide) (fun i hi => by first | (simp; done) | (simp; omega)) (hsv e), _, _, _, d49, d50⟩⟩
  · refine s_iload_n rfl (cn rfl) rfl ?_
    refine s_ireturn rfl ?_
    exact ⟨ri (if_neg q11).symm, ⟨h', sl, rfl, fr_w hf (by simp), c0, hsl, fr_RAW13 hf (by decide) (fun i hi => by first | (simp; done) | (simp; omega)) hraw, fun e => fr_SV13 hf (by decide) (fun i hi => by first | (simp; done) | (simp; omega)) (hsv e), _, _, _, d49, d50⟩⟩
theorem v_unlike {d N S : Nat} {h : Nat → Option rr_E} {n : Nat} {v : Nat → Int} (hn : 2 ≤ n ∧ n ≤ 4) (hv : ∀ k, -999 ≤ v k ∧ v k ≤ 999) (h0 : v 0 = 0) {wc op oc bs bt bb : Int} (c13 : h 13 = some (ST13 ((nM n v : Nat) : Int) wc op oc bs bt bb)) {tt tb tf : Nat → Int} (c14 : h 14 = some (.inl (1, 15, .inr (.inl (fun k => jj (tt k)))))) (c15 : h 15 = some (.inl (1, 15, .inr (.inl (fun k => jj (tb k)))))) (c16 : h 16 = some (.inl (0, 15, .inl (fun k => ii (tf k))))) (hS : ∀ j, 1 ≤ j → j ≤ nM n v → tt j = nP n v j ∧ tb j = nQ n v j ∧ tf j = ((nF n v j : Nat) : Int)) {it : Nat → Nat → Int} {a i x y : Int} {E : Nat → Int} (c43 : h 43 = some (.inr (3, [.long (jj (shb it a i)), .ref 44, .ref 45, .int (ii x), .int (ii y)]))) (c45 : h 45 = some (.inl (1, 16, .inr (.inl (fun k => jj (E k)))))) (ok : okS n it a i) (hE : ∀ g, 1 ≤ g → g < al n → E g = tg n v it a i g) : rr_Calls (d + 1) j_Stages_firstUnlike [.ref 13, .ref 43] (N, S, h) (fun r R => r = some (.int (ii (ff 1 (nM n v + 1) (unl n v it a i) (-5)))) ∧ R = (N, S, h)) := by
  refine rr_meth (C := K_Stages_firstUnlike) (hd := h_Stages_firstUnlike) (mx := 4) rfl rfl (fun K hK => ?_)
  have hA := al_b hn
  have nMb := nM_b hn hv h0
  have hb := ok.1
  refine hK _ _ _ _ ?_
  refine s_iconst rfl (cn rfl) ?_
  refine s_istore_n rfl (ch rfl) ?_
  have lp2 : ∀ k : Nat, k ≤ nM n v + 1 → ∀ (l3 : Option Value) (k1 : 1 ≤ k) (no : ∀ j, 1 ≤ j → j < k → ¬ unl n v it a i j), K 2 [some (.ref 13), some (.ref 43), some (.int (ii (k : Int))), l3] [] (N, S, h) := by
    refine dn (fun k hk ih2 => ?_)
    intro l3 k1 no
    refine hK _ _ _ _ ?_
    refine s_iload_n rfl (cn rfl) rfl ?_
    refine s_aload_n rfl (cn rfl) rfl ?_
    refine s_getfield rfl (cn rfl) c13 rfl ?_
    refine s_icmp_gt rfl (cn rfl) (cn rfl) ⟨by omega, by omega⟩ ⟨by omega, by omega⟩ (fun q5 => ?_) (fun q5 => ?_)
    · refine s_bipush rfl (cn rfl) (by decide) ?_
      refine s_ireturn rfl ?_
      exact ⟨ri (ff_n (fun j q1 q2 => no j q1 (by omega))), rfl⟩
    · have hSk := hS k k1 (by omega)
      have hFb := nF_b hn hv h0 k1 (show k ≤ nM n v by omega)
      have hqk := nQ_p hn hv h0 k1 (show k ≤ nM n v by omega)
      have hpk := nP_b hn hv h0 k1 (show k ≤ nM n v by omega)
      have hm2 := ku_mul (x := nP n v k) (y := shb it a i) (a := 8000 * 655360000) (b := 1000) (by omega) (by omega)
      refine s_iconst rfl (cn rfl) ?_
      refine s_istore_n rfl (ch rfl) ?_
      have lp8 : ∀ g : Nat, g ≤ 16 → ∀ (g1 : 1 ≤ g) (no2 : ∀ w, w < g → (nF n v k).testBit w = true → tg n v it a i w * nQ n v k = nP n v k * shb it a i), K 8 [some (.ref 13), some (.ref 43), some (.int (ii (k : Int))), some (.int (ii (g : Int)))] [] (N, S, h) := by
        refine dn (fun g hg ih8 => ?_)
        intro g1 no2
        refine hK _ _ _ _ ?_
        refine s_iload_n rfl (cn rfl) rfl ?_
        refine s_bipush rfl (cn rfl) (by decide) ?_
        refine s_icmp_ge rfl (cn rfl) (cn rfl) ⟨by omega, by omega⟩ ⟨by omega, by omega⟩ (fun q10 => ?_) (fun q10 => ?_)
        · refine s_iinc rfl (cn rfl) rfl ?_
          refine s_goto rfl (ch rfl) ?_
          exact ih2 (by omega) _ (by omega) (fun j q1 q2 => by
              by_cases e : j = k
              · subst e
                rintro ⟨w, w1, w2⟩
                exact w2 (no2 w (by have := nF_g hn hv h0 k1 (by omega) w1; omega) w1)
              · exact no j q1 (by omega))
        · refine s_aload_n rfl (cn rfl) rfl ?_
          refine s_getfield rfl (cn rfl) c13 rfl ?_
          refine s_iload_n rfl (cn rfl) rfl ?_
          refine s_iaload rfl (cn rfl) _ rfl c16 rfl (by omega) (by decide) (congrArg ii hSk.2.2) ?_
          refine s_iload_n rfl (cn rfl) rfl ?_
          refine s_ishr rfl (cn rfl) ?_
          refine s_iconst rfl (cn rfl) ?_
          refine s_iand rfl (cn rfl) _ (bi_bit (by omega) (by omega)) ?_
          refine s_iconst rfl (cn rfl) ?_
          refine s_icmp_ne rfl (cn rfl) (cn rfl) (bt_b3 _ _) (by decide) (fun q20 => ?_) (fun q20 => ?_)
          · refine s_iinc rfl (cn rfl) rfl ?_
            refine s_goto rfl (ch rfl) ?_
            exact ih8 (by omega) (by omega) (fun w q1 q2 => by
                by_cases e : w = g
                · subst e; exact absurd (bt_1.mpr q2) q20
                · exact no2 w (by omega) q2)
          · have hgb := nF_g hn hv h0 k1 (show k ≤ nM n v by omega) (bt_1.mp q20)
            have hEg := hE g hgb.1 hgb.2
            have tb2 := tg_b hn hv ok g
            have hm1 := ku_mul (x := tg n v it a i g) (y := nQ n v k) (a := 5000000) (b := 655360000) tb2 (by omega)
            refine s_aload_n rfl (cn rfl) rfl ?_
            refine s_getfield rfl (cn rfl) c43 rfl ?_
            refine s_iload_n rfl (cn rfl) rfl ?_
            refine s_laload rfl (cn rfl) _ rfl c45 (by omega) (by decide) (congrArg jj hEg) ?_
            refine s_aload_n rfl (cn rfl) rfl ?_
            refine s_getfield rfl (cn rfl) c13 rfl ?_
            refine s_iload_n rfl (cn rfl) rfl ?_
            refine s_laload rfl (cn rfl) _ rfl c15 (by omega) (by decide) (congrArg jj hSk.2.1) ?_
            refine s_lmul rfl (cn rfl) ?_
            refine s_aload_n rfl (cn rfl) rfl ?_
            refine s_getfield rfl (cn rfl) c13 rfl ?_
            refine s_iload_n rfl (cn rfl) rfl ?_
            refine s_laload rfl (cn rfl) _ rfl c14 (by omega) (by decide) (congrArg jj hSk.1) ?_
            refine s_aload_n rfl (cn rfl) rfl ?_
            refine s_getfield rfl (cn rfl) c43 rfl ?_
            refine s_lmul rfl (cn rfl) ?_
            refine s_lcmp rfl (cn rfl) ?_
            refine s_ifl_eq rfl (cn rfl) (cn rfl) ⟨by omega, by omega⟩ ⟨by omega, by omega⟩ (fun q38 => ?_) (fun q38 => ?_)
            · refine s_iinc rfl (cn rfl) rfl ?_
              refine s_goto rfl (ch rfl) ?_
              exact ih8 (by omega) (by omega) (fun w q1 q2 => by
                  by_cases e : w = g
                  · subst e; exact q38
                  · exact no2 w (by omega) q2)
            · refine s_iload_n rfl (cn rfl) rfl ?_
              refine s_ireturn rfl ?_
              exact ⟨ri (ff_y k1 (by omega) ⟨g, bt_1.mp q20, q38⟩ no), rfl⟩
      exact lp8 1 (by omega) (by omega) (fun w q1 q2 => by have := nF_g hn hv h0 k1 (by omega) q2; omega)
  exact lp2 1 (by omega) _ (by omega) (fun j q1 q2 => absurd q2 (by omega))
theorem d_judge {d N S n : Nat} {v : Nat → Int} {h : Nat → Option rr_E} (hn : 2 ≤ n ∧ n ≤ 4) (c1 : h 1 = some (.inr (0, [.int (ii (n : Int)), .ref 2]))) (c2 : h 2 = some (.inl (0, 16, .inl (fun k => ii (v k))))) (hv : ∀ k, -999 ≤ v k ∧ v k ≤ 999) {sz : Nat → Int} {it : Nat → Nat → Int} (hsz : ∀ l, l < 4 → -1 ≤ sz l ∧ sz l ≤ 30) (hit : ∀ l i, b6 (it l i)) (c51 : h 51 = some (.inr (1, [.ref 52, .ref 57]))) (c52 : h 52 = some AA) (c53 : ∀ l, l < 4 → h (53 + l) = some (.inl (1, 30, .inr (.inl (fun k => jj (it l k)))))) (c57 : h 57 = some (.inl (0, 4, .inl (fun k => ii (sz k))))) {be0 x0 y0 : Int} {A0 E0 : Nat → Int} (c43 : h 43 = some (.inr (3, [.long (jj be0), .ref 44, .ref 45, .int (ii x0), .int (ii y0)]))) (c44 : h 44 = some (.inl (1, 4, .inr (.inl (fun k => jj (A0 k)))))) (c45 : h 45 = some (.inl (1, 16, .inr (.inl (fun k => jj (E0 k)))))) (h0 : v 0 = 0) (c1000000 : h 1000000 = some (.inl (8, 5, .inl (fun j => rr_two.getD j 0)))) (c1000001 : h 1000001 = some (.inl (8, 25, .inl (fun j => rr_three.getD j 0)))) (c1000002 : h 1000002 = some (.inl (8, 205, .inl (fun j => rr_four.getD j 0)))) {sl im : Int} (c0 : h 0 = some (DO sl im)) (hsl : sl = 0 ∨ sl = 1) (hraw : RAW13 h) (hsv : sl = 0 → SV13 h n v) {a i : Int} (ha : b3 a) (hi : b3 i) : rr_Calls (d + 7) j_Desk_judge [.ref 0, .int (ii a), .int (ii i)] (N, S, h) (fun r R => r = some (.int (ii (sp_judge n v sz it a i))) ∧ ∃ (h' : Nat → Option rr_E) (sl' : Int), R = (N, S, h') ∧ fr [0, 43, 44, 45, 13, 14, 15, 16, 17, 18, 19, 24, 25, 26, 27, 21, 22, 23] h h' ∧ h' 0 = some (DO sl' im) ∧ (sl' = 0 ∨ sl' = 1) ∧ RAW13 h' ∧ (sl' = 0 → SV13 h' n v) ∧ ∃ (be x y : Int) (A E : Nat → Int), h' 43 = some (.inr (3, [.long (jj be), .ref 44, .ref 45, .int (ii x), .int (ii y)])) ∧ h' 44 = some (.inl (1, 4, .inr (.inl (fun k => jj (A k))))) ∧ h' 45 = some (.inl (1, 16, .inr (.inl (fun k => jj (E k)))))) := by
  refine rr_meth (C := K_Desk_judge) (hd := h_Desk_judge) (mx := 4) rfl rfl (fun K hK => ?_)
  have hA := al_b hn
  refine hK _ _ _ _ ?_
  refine s_aload_n rfl (cn rfl) rfl ?_
  refine s_getfield rfl (cn rfl) c0 rfl ?_
  refine s_iload_n rfl (cn rfl) rfl ?_
  refine s_iload_n rfl (cn rfl) rfl ?_
  refine s_aload_n rfl (cn rfl) rfl ?_
  refine s_getfield rfl (cn rfl) c0 rfl ?_
  refine s_aload_n rfl (cn rfl) rfl ?_
  refine s_getfield rfl (cn rfl) c0 rfl ?_
  refine s_virt rfl (cn rfl) rfl rfl c51 rfl (u_readS_43 hn c1 c2 hv hsz hit c51 c52 c53 c57 c43 c44 c45 ha hi) ?_
  rintro _ _ ⟨rfl, h1', rfl, hf1, be1, x1, y1, A1, E1, d43, d44, d45, hw1⟩
  have hr1 := rss_r n sz it a i
  have c0 := (hf1 0 (by decide)).trans c0
  have c1 := (hf1 1 (by decide)).trans c1
  have c2 := (hf1 2 (by decide)).trans c2
  have c43 := d43
  have c44 := d44
  have c45 := d45
  refine s_istore_n rfl (cn rfl) ?_
  refine s_iload_n rfl (cn rfl) rfl ?_
  refine s_if_eq rfl (cn rfl) (cn rfl) ⟨by omega, by omega⟩ (fun q11 => ?_) (fun q11 => ?_)
  · obtain ⟨z01, ok1⟩ := rss_z q11
    obtain ⟨rfl, rfl, rfl, hA1, hE1⟩ := hw1 q11
    have hb1 := ok1.1
    have tb1 := tg_b hn hv ok1
    have eA : st_sh 4 (al n) A1 = st_sh n (al n) (sha n it a i) := by rw [sh_cg hA1, sh4 hn]
    have ta := tb1 (al n)
    have te : tg n v it a i (al n) = v (al n) * shb it a i - st_sh n (al n) (sha n it a i) := rfl
    have m2 := ab_mul (x := v (al n)) (y := shb it a i) (a := 999) (b := 1000) (hv _) (by omega) (by decide) (by decide)
    have c1000000 := (hf1 1000000 (by decide)).trans c1000000
    have c1000001 := (hf1 1000001 (by decide)).trans c1000001
    have c1000002 := (hf1 1000002 (by decide)).trans c1000002
    refine s_aload_n rfl (cn rfl) rfl ?_
    refine s_getfield rfl (cn rfl) c0 rfl ?_
    refine s_aload_n rfl (cn rfl) rfl ?_
    refine s_getfield rfl (cn rfl) c0 rfl ?_
    refine s_virt rfl (cn rfl) rfl rfl c43 rfl (u_good hn c1 c2 hv c43 c44 ⟨by omega, by omega⟩ ⟨by omega, by omega⟩) ?_
    rintro _ _ ⟨rfl, rfl⟩
    refine s_ifb_eq rfl (cn rfl) (cn rfl) (fun q19 => ?_) (fun q19 => ?_)
    · refine s_iconst rfl (cn rfl) ?_
      refine s_ireturn rfl ?_
      first
        | exact ⟨ri (by unfold sp_judge; rw [if_pos q11, if_neg (fun q => q19 (by omega))]), ⟨h1', sl, rfl, fr_w hf1 (by simp), c0, hsl, fr_RAW13 hf1 (by decide) (fun i hi => by first | (simp; done) | (simp; omega)) hraw, fun e => fr_SV13 hf1 (by decide) (fun i hi => by first | (simp; done) | (simp; omega)) (hsv e), _, _, _, _, _, d43, d44, d45⟩⟩
        | exact ⟨ri (by unfold sp_judge; rw [if_pos q11, if_pos (by omega)]), ⟨h2, 0, rfl, fr_t (fr_w hf1 (by simp)) (fr_w (l := [0, 43, 44, 45, 13, 14, 15, 16, 17, 18, 19, 24, 25, 26, 27, 21, 22, 23]) hf2 (by simp)) (by simp), c0, Or.inl rfl, SV_RAW13 hs, fun _ => hs, _, _, _, _, _, c43, c44, c45⟩⟩
    · refine s_aload_n rfl (cn rfl) rfl ?_
      refine s_virt rfl (cn rfl) rfl rfl c0 rfl (d_solved hn c1 c2 hv h0 c1000000 c1000001 c1000002 c0 hsl (fr_RAW13 hf1 (by decide) (fun i hi => by first | (simp; done) | (simp; omega)) hraw) (fun e => fr_SV13 hf1 (by decide) (fun i hi => by first | (simp; done) | (simp; omega)) (hsv e))) ?_
      rintro _ _ ⟨rfl, h2, rfl, hf2, c0, hs⟩
      have c1 := (hf2 1 (by decide)).trans c1
      have c2 := (hf2 2 (by decide)).trans c2
      have c43 := (hf2 43 (by decide)).trans c43
      have c44 := (hf2 44 (by decide)).trans c44
      have c45 := (hf2 45 (by decide)).trans c45
      obtain ⟨wc, oc, bt, bb, bs, tt, tb, tf, A, E, c13, c14, c15, c16, c17, c18, c19, hS, hA4, hE⟩ := SV_SW13 hn hv h0 hs
      have nMb := nM_b hn hv h0
      have nBb := nB_b hn hv h0
      refine s_aload_n rfl (cn rfl) rfl ?_
      refine s_getfield rfl (cn rfl) c0 rfl ?_
      refine s_virt rfl (cn rfl) rfl rfl c13 rfl (v_unlike hn hv h0 c13 c14 c15 c16 hS c43 c45 ok1 hE1) ?_
      rintro _ _ ⟨rfl, rfl⟩
      refine s_goto rfl (cn rfl) ?_
      refine s_ireturn rfl ?_
      first
        | exact ⟨ri (by unfold sp_judge; rw [if_pos q11, if_neg (fun q => q19 (by omega))]), ⟨h1', sl, rfl, fr_w hf1 (by simp), c0, hsl, fr_RAW13 hf1 (by decide) (fun i hi => by first | (simp; done) | (simp; omega)) hraw, fun e => fr_SV13 hf1 (by decide) (fun i hi => by first | (simp; done) | (simp; omega)) (hsv e), _, _, _, _, _, d43, d44, d45⟩⟩
        | exact ⟨ri (by unfold sp_judge; rw [if_pos q11, if_pos (by omega)]), ⟨h2, 0, rfl, fr_t (fr_w hf1 (by simp)) (fr_w (l := [0, 43, 44, 45, 13, 14, 15, 16, 17, 18, 19, 24, 25, 26, 27, 21, 22, 23]) hf2 (by simp)) (by simp), c0, Or.inl rfl, SV_RAW13 hs, fun _ => hs, _, _, _, _, _, c43, c44, c45⟩⟩
  · refine s_iload_n rfl (cn rfl) rfl ?_
    refine s_ireturn rfl ?_
    exact ⟨ri (if_neg q11).symm, ⟨h1', sl, rfl, fr_w hf1 (by simp), c0, hsl, fr_RAW13 hf1 (by decide) (fun i hi => by first | (simp; done) | (simp; omega)) hraw, fun e => fr_SV13 hf1 (by decide) (fun i hi => by first | (simp; done) | (simp; omega)) (hsv e), _, _, _, _, _, d43, d44, d45⟩⟩
theorem m_proves {d N S n : Nat} {kp tp pt wr fa dm ce di be od sm le sc ba bb rk ts tm pa wa : Int} {ti : Nat} {v : Nat → Int} {h : Nat → Option rr_E} (hn : 2 ≤ n ∧ n ≤ 4) (hv : ∀ k, -999 ≤ v k ∧ v k ≤ 999) (h0 : v 0 = 0) (c58 : h 58 = some (MO (n : Int) kp tp pt wr fa dm ce di be od sm le sc ba bb (ti : Int) rk ts tm pa wa)) (c59 : h 59 = some (.inl (0, 16, .inl (fun k => ii (v k))))) (hti : ti < 32768) (hba : -1500000000000000 ≤ ba ∧ ba ≤ 1500000000000000) (hod : od = 0 ∨ od = 1) (hW : MW h) (hL : ML h) (hs : od = 0 → MS h n v sm) {sz th ms w : Nat → Int} {it : Nat → Nat → Int} (hth : ∀ l, l < 4 → (th l = 0 ∧ sz l = -1) ∨ (th l = 1 ∧ sz l = ms l ∧ 0 ≤ sz l ∧ sz l ≤ 30)) (hit : ∀ l i, l < 4 → i < 30 → w (30 * l + i) = it l i) (c77 : h 77 = some (.inl (2, 4, .inl (fun k => ii (th k))))) (c78 : h 78 = some (.inl (0, 4, .inl (fun k => ii (ms k))))) (c79 : h 79 = some (.inl (1, 120, .inr (.inl (fun k => jj (w k)))))) (hbi : ∀ l i, b6 (it l i)) {a i : Int} (ha : b3 a) (hi : b3 i) : rr_Calls (d + (n + 7)) j_Model_proves [.ref 58, .int (ii a), .int (ii i)] (N, S, h) (fun r R => r = some (.int (ii (sp_proves n v sz it a i))) ∧ ∃ (h' : Nat → Option rr_E) (ce' di' be' sm' le' sc' ba' bb' rk' od' wa' : Int) (ti' : Nat) , R = (N, S, h') ∧ fr [58, 66, 67, 68, 69, 70, 71, 72, 73, 74] h h' ∧ h' 58 = some (MO (n : Int) kp tp pt wr fa dm ce' di' be' od' sm' le' sc' ba' bb' (ti' : Int) rk' ts tm pa wa') ∧ ti' < 32768 ∧ (-1500000000000000 ≤ ba' ∧ ba' ≤ 1500000000000000) ∧ (od' = 0 ∨ od' = 1) ∧ MW h' ∧ ML h' ∧ (od' = 0 → MS h' n v sm')) := by
  refine rr_meth (C := K_Model_proves) (hd := h_Model_proves) (mx := 4) rfl rfl (fun K hK => ?_)
  have hA := al_b hn
  refine hK _ _ _ _ ?_
  refine s_aload_n rfl (cn rfl) rfl ?_
  refine s_iload_n rfl (cn rfl) rfl ?_
  refine s_iload_n rfl (cn rfl) rfl ?_
  refine s_virt rfl (cn rfl) rfl rfl c58 rfl (calls_d (m_tellsW (d := d + (n + 3)) hn c58 hth hit c77 c78 c79 hbi ha hi) (show d + (n + 3) + 3 = d + (n + 6) by omega)) ?_
  rintro _ _ ⟨rfl, h', rfl, hf, wb, c58, hwb⟩
  have c79 := (hf 79 (by decide)).trans c79
  have hr := rws_r n sz it a i
  have c59 := (hf 59 (by decide)).trans c59
  have hW1 := fr_MW hf (by decide) hW
  have hL1' := fr_ML hf (by decide) hL
  have hs1 : od = 0 → MS h' n v sm := fun e => fr_MS hf (by decide) (hs e)
  refine s_istore_n rfl (cn rfl) ?_
  refine s_iload_n rfl (cn rfl) rfl ?_
  refine s_if_eq rfl (cn rfl) (cn rfl) ⟨by omega, by omega⟩ (fun q6 => ?_) (fun q6 => ?_)
  · have e9 := hwb q6
    subst e9
    obtain ⟨z0, hb0⟩ := rws_z q6
    obtain ⟨z1, z2, z3, z4⟩ := cpl_0 z0
    obtain ⟨l, rfl⟩ := Int.eq_ofNat_of_zero_le z1.1
    have hl : l < 4 := by omega
    obtain ⟨j, rfl⟩ := Int.eq_ofNat_of_zero_le z3
    have hs := hth l hl
    have z5 : (j : Int) ≤ sz l - ((al n : Int) - 1) := z4
    have hq : 30 * l + j + al n ≤ 121 := by omega
    have hW9 : ∀ g, 1 ≤ g → g < al n → w (30 * l + j + g - 1) = wt it l j g := fun g q1 q2 => by
      have := hit l (j + g - 1) hl (by omega)
      rw [show 30 * l + (j + g - 1) = 30 * l + j + g - 1 by omega] at this
      exact this
    have hb1 := ftl_b n hn (wt it l j)
    have hb2 := ptp_b hn hv hb0
    have hb3 := tot_b hn hb0
    refine s_aload_n rfl (cn rfl) rfl ?_
    refine s_virt rfl (cn rfl) rfl rfl c58 rfl (m_reckon hn hv h0 c58 c59 hti hba hod hW1 hL1' hs1) ?_
    rintro _ _ ⟨rfl, h2, ce', di', be', sm', le', sc', ba', bb', rk', ti', rfl, hf2, c58, hti', hba', hW', hs'⟩
    obtain ⟨LA, LB, FX, SG, esm, c70, c71, c72, c73, hL1, hSG⟩ := MS_MX hn hv h0 hs'
    subst esm
    have nMb := nM_b hn hv h0
    have nBb := nB_b hn hv h0
    have c59 := (hf2 59 (by decide)).trans c59
    have c79 := (hf2 79 (by decide)).trans c79
    refine s_aload_n rfl (cn rfl) rfl ?_
    refine s_virt rfl (cn rfl) rfl rfl c58 rfl (calls_d (m_tilted (d := d + (n + 3)) (q := 30 * l + j) hn c58 c79 hq hW9 hb0) (show d + (n + 3) + 3 = d + (n + 6) by omega)) ?_
    rintro _ _ ⟨rfl, rfl⟩
    refine s_bipush rfl (cn rfl) (by decide) ?_
    refine s_icmp_ne rfl (cn rfl) (cn rfl) ⟨by omega, by omega⟩ ⟨by omega, by omega⟩ (fun q14 => ?_) (fun q14 => ?_)
    · refine s_iconst rfl (cn rfl) ?_
      refine s_ireturn rfl ?_
      first
        | (have e9 : sp_proves n v sz it (l : Int) (j : Int) = 1 := (if_pos q6).trans (if_pos ⟨q14, q30⟩)
           exact ⟨ri e9.symm, ⟨h2, _, _, _, _, _, _, _, _, _, 0, _, ti', rfl, fr_t (fr_w hf (by simp)) hf2 (by simp), c58, hti', hba', Or.inl rfl, hW', MS_ML hs', fun _ => hs'⟩⟩)
        | (have e9 : sp_proves n v sz it (l : Int) (j : Int) = 0 := (if_pos q6).trans (if_neg (fun q => q30 q.2))
           exact ⟨ri e9.symm, ⟨h2, _, _, _, _, _, _, _, _, _, 0, _, ti', rfl, fr_t (fr_w hf (by simp)) hf2 (by simp), c58, hti', hba', Or.inl rfl, hW', MS_ML hs', fun _ => hs'⟩⟩)
        | (have e9 : sp_proves n v sz it (l : Int) (j : Int) = 0 := (if_pos q6).trans (if_neg (fun q => q14 q.1))
           exact ⟨ri e9.symm, ⟨h2, _, _, _, _, _, _, _, _, _, 0, _, ti', rfl, fr_t (fr_w hf (by simp)) hf2 (by simp), c58, hti', hba', Or.inl rfl, hW', MS_ML hs', fun _ => hs'⟩⟩)
    · have hS1 := hL1 1 (by omega) (by omega)
      have hp1 := nP_b hn hv h0 (show 1 ≤ 1 by omega) (show 1 ≤ nM n v by omega)
      have hq1 := nQ_p hn hv h0 (show 1 ≤ 1 by omega) (show 1 ≤ nM n v by omega)
      have hm1 := ku_mul (x := ptp n v (wt it l j)) (y := nQ n v 1) (a := 30000000) (b := 655360000) hb2 (by omega)
      have hm2 := ku_mul (x := nP n v 1) (y := gs (al n) (wt it l j)) (a := 8000 * 655360000) (b := 15000) (by omega) hb3
      refine s_aload_n rfl (cn rfl) rfl ?_
      refine s_virt rfl (cn rfl) rfl rfl c58 rfl (calls_d (m_provedAbove (d := d + (n + 3)) (q := 30 * l + j) hn c58 c79 hq hW9 hb0 c59 hv) (show d + (n + 3) + 3 = d + (n + 6) by omega)) ?_
      rintro _ _ ⟨rfl, rfl⟩
      refine s_aload_n rfl (cn rfl) rfl ?_
      refine s_getfield rfl (cn rfl) c58 rfl ?_
      refine s_iconst rfl (cn rfl) ?_
      refine s_laload rfl (cn rfl) 0 rfl c71 (by decide) (by decide) (congrArg jj hS1.2.1) ?_
      refine s_lmul rfl (cn rfl) ?_
      refine s_aload_n rfl (cn rfl) rfl ?_
      refine s_getfield rfl (cn rfl) c58 rfl ?_
      refine s_iconst rfl (cn rfl) ?_
      refine s_laload rfl (cn rfl) 0 rfl c70 (by decide) (by decide) (congrArg jj hS1.1) ?_
      refine s_aload_n rfl (cn rfl) rfl ?_
      refine s_virt rfl (cn rfl) rfl rfl c58 rfl (calls_d (m_provedBelow (d := d + (n + 4)) (q := 30 * l + j) hn c58 c79 hq hW9 hb0) (show d + (n + 4) + 2 = d + (n + 6) by omega)) ?_
      rintro _ _ ⟨rfl, rfl⟩
      refine s_lmul rfl (cn rfl) ?_
      refine s_lcmp rfl (cn rfl) ?_
      refine s_ifl_ne rfl (cn rfl) (cn rfl) ⟨by omega, by omega⟩ ⟨by omega, by omega⟩ (fun q30 => ?_) (fun q30 => ?_)
      · refine s_iconst rfl (cn rfl) ?_
        refine s_ireturn rfl ?_
        first
          | (have e9 : sp_proves n v sz it (l : Int) (j : Int) = 1 := (if_pos q6).trans (if_pos ⟨q14, q30⟩)
             exact ⟨ri e9.symm, ⟨h2, _, _, _, _, _, _, _, _, _, 0, _, ti', rfl, fr_t (fr_w hf (by simp)) hf2 (by simp), c58, hti', hba', Or.inl rfl, hW', MS_ML hs', fun _ => hs'⟩⟩)
          | (have e9 : sp_proves n v sz it (l : Int) (j : Int) = 0 := (if_pos q6).trans (if_neg (fun q => q30 q.2))
             exact ⟨ri e9.symm, ⟨h2, _, _, _, _, _, _, _, _, _, 0, _, ti', rfl, fr_t (fr_w hf (by simp)) hf2 (by simp), c58, hti', hba', Or.inl rfl, hW', MS_ML hs', fun _ => hs'⟩⟩)
          | (have e9 : sp_proves n v sz it (l : Int) (j : Int) = 0 := (if_pos q6).trans (if_neg (fun q => q14 q.1))
             exact ⟨ri e9.symm, ⟨h2, _, _, _, _, _, _, _, _, _, 0, _, ti', rfl, fr_t (fr_w hf (by simp)) hf2 (by simp), c58, hti', hba', Or.inl rfl, hW', MS_ML hs', fun _ => hs'⟩⟩)
      · refine s_iconst rfl (cn rfl) ?_
        refine s_goto rfl (cn rfl) ?_
        refine s_ireturn rfl ?_
        first
          | (have e9 : sp_proves n v sz it (l : Int) (j : Int) = 1 := (if_pos q6).trans (if_pos ⟨q14, q30⟩)
             exact ⟨ri e9.symm, ⟨h2, _, _, _, _, _, _, _, _, _, 0, _, ti', rfl, fr_t (fr_w hf (by simp)) hf2 (by simp), c58, hti', hba', Or.inl rfl, hW', MS_ML hs', fun _ => hs'⟩⟩)
          | (have e9 : sp_proves n v sz it (l : Int) (j : Int) = 0 := (if_pos q6).trans (if_neg (fun q => q30 q.2))
             exact ⟨ri e9.symm, ⟨h2, _, _, _, _, _, _, _, _, _, 0, _, ti', rfl, fr_t (fr_w hf (by simp)) hf2 (by simp), c58, hti', hba', Or.inl rfl, hW', MS_ML hs', fun _ => hs'⟩⟩)
          | (have e9 : sp_proves n v sz it (l : Int) (j : Int) = 0 := (if_pos q6).trans (if_neg (fun q => q14 q.1))
             exact ⟨ri e9.symm, ⟨h2, _, _, _, _, _, _, _, _, _, 0, _, ti', rfl, fr_t (fr_w hf (by simp)) hf2 (by simp), c58, hti', hba', Or.inl rfl, hW', MS_ML hs', fun _ => hs'⟩⟩)
  · refine s_iload_n rfl (cn rfl) rfl ?_
    refine s_ireturn rfl ?_
    exact ⟨ri (if_neg q6).symm, ⟨h', _, _, _, _, _, _, _, _, _, od, wb, ti, rfl, fr_w hf (by simp), c58, hti, hba, hod, hW1, hL1', hs1⟩⟩
/-- the least stage, from 0 on, of those below g that are unlike; none: all -/
noncomputable def jWf (n : Nat) (v : Nat → Int) (Q : Nat → Prop) : Nat → Int
  | 0 => (nM n v : Int)
  | g + 1 => cite ((1 ≤ g ∧ Q g) ∧ ((nS n v g : Nat) : Int) - 1 < jWf n v Q g) (((nS n v g : Nat) : Int) - 1) (jWf n v Q g)
theorem jWf_1 {n : Nat} {v : Nat → Int} {Q : Nat → Prop} : jWf n v Q 1 = (nM n v : Int) := ci_n (fun q => absurd q.1.1 (by decide))
theorem jWf_s {n : Nat} {v : Nat → Int} {Q : Nat → Prop} : ∀ m, (∀ g, 1 ≤ g → g < m → Q g → jWf n v Q m ≤ ((nS n v g : Nat) : Int) - 1) ∧ (jWf n v Q m = (nM n v : Int) ∨ ∃ g, 1 ≤ g ∧ g < m ∧ Q g ∧ jWf n v Q m = ((nS n v g : Nat) : Int) - 1)
  | 0 => ⟨fun g _ hg => absurd hg (Nat.not_lt_zero g), Or.inl rfl⟩
  | m + 1 => by
    have ih := jWf_s (n := n) (v := v) (Q := Q) m
    by_cases e : (1 ≤ m ∧ Q m) ∧ ((nS n v m : Nat) : Int) - 1 < jWf n v Q m
    · have e1 : jWf n v Q (m + 1) = ((nS n v m : Nat) : Int) - 1 := ci_y e
      refine ⟨fun g g1 hg hq => ?_, Or.inr ⟨m, e.1.1, by omega, e.1.2, e1⟩⟩
      by_cases e2 : g = m
      · subst e2; omega
      · have := ih.1 g g1 (by omega) hq; omega
    · have e1 : jWf n v Q (m + 1) = jWf n v Q m := ci_n e
      refine ⟨fun g g1 hg hq => ?_, ?_⟩
      · by_cases e2 : g = m
        · subst e2
          rw [e1]
          apply Int.not_lt.mp
          exact fun z => e ⟨⟨g1, hq⟩, z⟩
        · rw [e1]; exact ih.1 g g1 (by omega) hq
      · rw [e1]
        rcases ih.2 with z | ⟨g, g1, g2, g3, g4⟩
        · exact Or.inl z
        · exact Or.inr ⟨g, g1, by omega, g3, g4⟩
theorem jWf_b {n : Nat} {v : Nat → Int} {Q : Nat → Prop} (hn : 2 ≤ n ∧ n ≤ 4) (hv : ∀ k, -999 ≤ v k ∧ v k ≤ 999) (h0 : v 0 = 0) {m : Nat} (hm : m ≤ al n) : 0 ≤ jWf n v Q m ∧ jWf n v Q m ≤ (nM n v : Int) := by
  have a := nM_b hn hv h0
  rcases (jWf_s (n := n) (v := v) (Q := Q) m).2 with z | ⟨g, g1, g2, g3, g4⟩
  · omega
  · have := nS_s hn hv h0 g1 (show g < al n by omega)
    omega
theorem jdg_e {n : Nat} {v : Nat → Int} (hn : 2 ≤ n ∧ n ≤ 4) (hv : ∀ k, -999 ≤ v k ∧ v k ≤ 999) (h0 : v 0 = 0) {it : Nat → Nat → Int} {a i : Int} : ff 1 (nM n v + 1) (unl n v it a i) (-5) = if jWf n v (fun g => tg n v it a i g * nQ n v (nS n v g) ≠ nP n v (nS n v g) * shb it a i) (al n) = (nM n v : Int) then -5 else jWf n v (fun g => tg n v it a i g * nQ n v (nS n v g) ≠ nP n v (nS n v g) * shb it a i) (al n) + 1 := by
  have s := jWf_s (n := n) (v := v) (Q := fun g => tg n v it a i g * nQ n v (nS n v g) ≠ nP n v (nS n v g) * shb it a i) (al n)
  generalize jWf n v (fun g => tg n v it a i g * nQ n v (nS n v g) ≠ nP n v (nS n v g) * shb it a i) (al n) = x at s ⊢
  have key : ∀ k, 1 ≤ k → k < nM n v + 1 → unl n v it a i k → x ≤ (k : Int) - 1 := fun k k1 k2 ⟨g, hg, hu⟩ => by
    have b := nF_g hn hv h0 k1 (by omega) hg
    have e := nS_u hn hv h0 k1 (by omega) hg
    have := s.1 g b.1 b.2 (by rw [e]; exact hu)
    rw [e] at this; exact this
  by_cases e : x = (nM n v : Int)
  · rw [if_pos e]
    exact (ff_n (fun k k1 k2 q => by have := key k k1 k2 q; omega)).symm
  · rw [if_neg e]
    rcases s.2 with z | ⟨g, g1, g2, g3, g4⟩
    · exact absurd z e
    · have t := nS_s hn hv h0 g1 g2
      have e2 : x + 1 = ((nS n v g : Nat) : Int) := by omega
      rw [e2]
      exact (ff_y t.1 (by omega) ⟨g, t.2.2, g3⟩ (fun k k1 k2 q => by have := key k k1 (by omega) q; omega)).symm
theorem m_judge {d N S n : Nat} {kp tp pt wr fa dm ce di be od sm le sc ba bb rk ts tm pa wa : Int} {ti : Nat} {v : Nat → Int} {h : Nat → Option rr_E} (hn : 2 ≤ n ∧ n ≤ 4) (hv : ∀ k, -999 ≤ v k ∧ v k ≤ 999) (h0 : v 0 = 0) (c58 : h 58 = some (MO (n : Int) kp tp pt wr fa dm ce di be od sm le sc ba bb (ti : Int) rk ts tm pa wa)) (c59 : h 59 = some (.inl (0, 16, .inl (fun k => ii (v k))))) (hti : ti < 32768) (hba : -1500000000000000 ≤ ba ∧ ba ≤ 1500000000000000) (hod : od = 0 ∨ od = 1) (hW : MW h) (hL : ML h) (hs : od = 0 → MS h n v sm) {sz th ms w : Nat → Int} {it : Nat → Nat → Int} (hth : ∀ l, l < 4 → (th l = 0 ∧ sz l = -1) ∨ (th l = 1 ∧ sz l = ms l ∧ 0 ≤ sz l ∧ sz l ≤ 30)) (hit : ∀ l i, l < 4 → i < 30 → w (30 * l + i) = it l i) (c77 : h 77 = some (.inl (2, 4, .inl (fun k => ii (th k))))) (c78 : h 78 = some (.inl (0, 4, .inl (fun k => ii (ms k))))) (c79 : h 79 = some (.inl (1, 120, .inr (.inl (fun k => jj (w k)))))) {w2 : Nat → Int} (c75 : h 75 = some (.inl (1, 4, .inr (.inl (fun k => jj (w2 k)))))) (hbi : ∀ l i, b6 (it l i)) {a i : Int} (ha : b3 a) (hi : b3 i) : rr_Calls (d + (n + 7)) j_Model_judge [.ref 58, .int (ii a), .int (ii i)] (N, S, h) (fun r R => r = some (.int (ii (sp_judge n v sz it a i))) ∧ ∃ (h' : Nat → Option rr_E) (ce' di' be' sm' le' sc' ba' bb' rk' od' pa' : Int) (ti' : Nat) (w3 : Nat → Int), R = (N, S, h') ∧ fr [58, 66, 67, 68, 69, 70, 71, 72, 73, 74, 75] h h' ∧ h' 58 = some (MO (n : Int) kp tp pt wr fa dm ce' di' be' od' sm' le' sc' ba' bb' (ti' : Int) rk' ts tm pa' wa) ∧ ti' < 32768 ∧ (-1500000000000000 ≤ ba' ∧ ba' ≤ 1500000000000000) ∧ (od' = 0 ∨ od' = 1) ∧ MW h' ∧ ML h' ∧ (od' = 0 → MS h' n v sm') ∧ h' 75 = some (.inl (1, 4, .inr (.inl (fun k => jj (w3 k)))))) := by
  refine rr_meth (C := K_Model_judge) (hd := h_Model_judge) (mx := 7) rfl rfl (fun K hK => ?_)
  have hA := al_b hn
  refine hK _ _ _ _ ?_
  refine s_aload_n rfl (cn rfl) rfl ?_
  refine s_iload_n rfl (cn rfl) rfl ?_
  refine s_iload_n rfl (cn rfl) rfl ?_
  refine s_virt rfl (cn rfl) rfl rfl c58 rfl (calls_d (m_tellsS (d := d + (n + 3)) hn c58 hth hit c77 c78 c79 c75 hbi ha hi) (show d + (n + 3) + 3 = d + (n + 6) by omega)) ?_
  rintro _ _ ⟨rfl, h1', rfl, hf1, pb1, w1, c58, c75, hw1⟩
  have hr1 := rss_r n sz it a i
  have c59 := (hf1 59 (by decide)).trans c59
  have c77 := (hf1 77 (by decide)).trans c77
  have c78 := (hf1 78 (by decide)).trans c78
  have c79 := (hf1 79 (by decide)).trans c79
  have hW1 := fr_MW hf1 (by decide) hW
  have hLL := fr_ML hf1 (by decide) hL
  have hs1 : od = 0 → MS h1' n v sm := fun e => fr_MS hf1 (by decide) (hs e)
  refine s_istore_n rfl (cn rfl) ?_
  refine s_iload_n rfl (cn rfl) rfl ?_
  refine s_if_eq rfl (cn rfl) (cn rfl) ⟨by omega, by omega⟩ (fun q6 => ?_) (fun q6 => ?_)
  · obtain ⟨z01, ok1⟩ := rss_z q6
    obtain ⟨rfl, hw1b⟩ := hw1 q6
    have tb1 := tg_b hn hv ok1
    have hb1 := ok1.1
    refine s_aload_n rfl (cn rfl) rfl ?_
    refine s_virt rfl (cn rfl) rfl rfl c58 rfl (calls_d (m_good (d := d + (n + 2)) hn c58 c59 hv c75 ok1 hw1b) (show d + (n + 2) + 4 = d + (n + 6) by omega)) ?_
    rintro _ _ ⟨rfl, rfl⟩
    refine s_ifb_ne rfl (cn rfl) (cn rfl) (fun q11 => ?_) (fun q11 => ?_)
    · refine s_aload_n rfl (cn rfl) rfl ?_
      refine s_virt rfl (cn rfl) rfl rfl c58 rfl (m_reckon hn hv h0 c58 c59 hti hba hod hW1 hLL hs1) ?_
      rintro _ _ ⟨rfl, h2, ce', di', be', sm', le', sc', ba', bb', rk', ti', rfl, hf2, c58, hti', hba', hW', hs'⟩
      obtain ⟨LA, LB, FX, SG, esm, c70, c71, c72, c73, hL1, hSG⟩ := MS_MX hn hv h0 hs'
      subst esm
      have nMb := nM_b hn hv h0
      have nBb := nB_b hn hv h0
      have c59 := (hf2 59 (by decide)).trans c59
      have c75 := (hf2 75 (by decide)).trans c75
      refine s_aload_n rfl (cn rfl) rfl ?_
      refine s_getfield rfl (cn rfl) c58 rfl ?_
      refine s_istore rfl (cn rfl) ?_
      refine s_iconst rfl (cn rfl) ?_
      refine s_istore rfl (ch rfl) ?_
      have lp21 : ∀ g : Nat, g ≤ al n → ∀ (x : Int) (l3 l6 : Option Value) (g1 : 1 ≤ g) (hx : x = jWf n v (fun g => tg n v it a i g * nQ n v (nS n v g) ≠ nP n v (nS n v g) * shb it a i) g), K 21 [some (.ref 58), some (.int (ii a)), some (.int (ii i)), l3, some (.int (ii x)), some (.int (ii (g : Int))), l6] [] (N, S, h2) := by
        refine dn (fun g hg ih21 => ?_)
        intro x l3 l6 g1 hx
        have hjb := jWf_b (Q := (fun g => tg n v it a i g * nQ n v (nS n v g) ≠ nP n v (nS n v g) * shb it a i)) hn hv h0 hg
        refine hK _ _ _ _ ?_
        refine s_iload rfl (cn rfl) rfl ?_
        refine s_aload_n rfl (cn rfl) rfl ?_
        refine s_virt rfl (cn rfl) rfl rfl c58 rfl (m_all hn c58) ?_
        rintro _ _ ⟨rfl, rfl⟩
        refine s_icmp_ge rfl (cn rfl) (cn rfl) ⟨by omega, by omega⟩ ⟨by omega, by omega⟩ (fun q24 => ?_) (fun q24 => ?_)
        · obtain rfl : g = al n := by omega
          refine s_iload rfl (cn rfl) rfl ?_
          refine s_aload_n rfl (cn rfl) rfl ?_
          refine s_getfield rfl (cn rfl) c58 rfl ?_
          refine s_icmp_ne rfl (cn rfl) (cn rfl) ⟨by omega, by omega⟩ ⟨by omega, by omega⟩ (fun q72 => ?_) (fun q72 => ?_)
          · refine s_iload rfl (cn rfl) rfl ?_
            refine s_iconst rfl (cn rfl) ?_
            refine s_iadd rfl (cn rfl) ?_
            refine s_ireturn rfl ?_
            have ej : sp_judge n v sz it a i = _ := (if_pos q6).trans ((if_pos q11).trans (jdg_e hn hv h0))
            first
              | exact ⟨ri (by rw [ej, if_pos (by omega)]), ⟨h2, _, _, _, _, _, _, _, _, _, 0, _, ti', _, rfl, fr_t (fr_w hf1 (by simp)) (fr_w (l := [58, 66, 67, 68, 69, 70, 71, 72, 73, 74, 75]) hf2 (by simp)) (by simp), c58, hti', hba', Or.inl rfl, hW', MS_ML hs', fun _ => hs', c75⟩⟩
              | exact ⟨ri (by rw [ej, if_neg (by omega), hx]), ⟨h2, _, _, _, _, _, _, _, _, _, 0, _, ti', _, rfl, fr_t (fr_w hf1 (by simp)) (fr_w (l := [58, 66, 67, 68, 69, 70, 71, 72, 73, 74, 75]) hf2 (by simp)) (by simp), c58, hti', hba', Or.inl rfl, hW', MS_ML hs', fun _ => hs', c75⟩⟩
          · refine s_bipush rfl (cn rfl) (by decide) ?_
            refine s_goto rfl (cn rfl) ?_
            refine s_ireturn rfl ?_
            have ej : sp_judge n v sz it a i = _ := (if_pos q6).trans ((if_pos q11).trans (jdg_e hn hv h0))
            first
              | exact ⟨ri (by rw [ej, if_pos (by omega)]), ⟨h2, _, _, _, _, _, _, _, _, _, 0, _, ti', _, rfl, fr_t (fr_w hf1 (by simp)) (fr_w (l := [58, 66, 67, 68, 69, 70, 71, 72, 73, 74, 75]) hf2 (by simp)) (by simp), c58, hti', hba', Or.inl rfl, hW', MS_ML hs', fun _ => hs', c75⟩⟩
              | exact ⟨ri (by rw [ej, if_neg (by omega), hx]), ⟨h2, _, _, _, _, _, _, _, _, _, 0, _, ti', _, rfl, fr_t (fr_w hf1 (by simp)) (fr_w (l := [58, 66, 67, 68, 69, 70, 71, 72, 73, 74, 75]) hf2 (by simp)) (by simp), c58, hti', hba', Or.inl rfl, hW', MS_ML hs', fun _ => hs', c75⟩⟩
        · have hSg := hSG g g1 (by omega)
          have t1 := nS_s hn hv h0 g1 (show g < al n by omega)
          have hLg := hL1 _ t1.1 t1.2.1
          have hqk := nQ_p hn hv h0 t1.1 t1.2.1
          have hpk := nP_b hn hv h0 t1.1 t1.2.1
          have hm1 := ku_mul (x := tg n v it a i g) (y := nQ n v (nS n v g)) (a := 5000000) (b := 655360000) (tb1 g) (by omega)
          have hm2 := ku_mul (x := nP n v (nS n v g)) (y := shb it a i) (a := 8000 * 655360000) (b := 1000) (by omega) (by omega)
          refine s_aload_n rfl (cn rfl) rfl ?_
          refine s_iload rfl (cn rfl) rfl ?_
          refine s_virt rfl (cn rfl) rfl rfl c58 rfl (calls_d (m_tg (d := d + (n + 3)) (g := g) hn c58 c59 hv c75 ok1 hw1b (by omega)) (show d + (n + 3) + 3 = d + (n + 6) by omega)) ?_
          rintro _ _ ⟨rfl, rfl⟩
          refine s_aload_n rfl (cn rfl) rfl ?_
          refine s_getfield rfl (cn rfl) c58 rfl ?_
          refine s_aload_n rfl (cn rfl) rfl ?_
          refine s_getfield rfl (cn rfl) c58 rfl ?_
          refine s_iload rfl (cn rfl) rfl ?_
          refine s_iaload rfl (cn rfl) _ rfl c73 rfl (by omega) (by decide) (congrArg ii hSg) ?_
          refine s_laload rfl (cn rfl) (nS n v g - 1) (by omega) c71 (by omega) (by decide) (congrArg jj hLg.2.1) ?_
          refine s_lmul rfl (cn rfl) ?_
          refine s_aload_n rfl (cn rfl) rfl ?_
          refine s_getfield rfl (cn rfl) c58 rfl ?_
          refine s_aload_n rfl (cn rfl) rfl ?_
          refine s_getfield rfl (cn rfl) c58 rfl ?_
          refine s_iload rfl (cn rfl) rfl ?_
          refine s_iaload rfl (cn rfl) _ rfl c73 rfl (by omega) (by decide) (congrArg ii hSg) ?_
          refine s_laload rfl (cn rfl) (nS n v g - 1) (by omega) c70 (by omega) (by decide) (congrArg jj hLg.1) ?_
          refine s_aload_n rfl (cn rfl) rfl ?_
          refine s_getfield rfl (cn rfl) c58 rfl ?_
          refine s_lmul rfl (cn rfl) ?_
          refine s_lcmp rfl (cn rfl) ?_
          refine s_ifl_ne rfl (cn rfl) (cn rfl) ⟨by omega, by omega⟩ ⟨by omega, by omega⟩ (fun q47 => ?_) (fun q47 => ?_)
          · refine s_iconst rfl (cn rfl) ?_
            refine s_istore rfl (cn rfl) ?_
            refine s_iload rfl (cn rfl) rfl ?_
            refine s_if_ne rfl (cn rfl) (cn rfl) (by decide) (fun q53 => absurd q53 (by decide)) (fun q53 => ?_)
            refine s_aload_n rfl (cn rfl) rfl ?_
            refine s_getfield rfl (cn rfl) c58 rfl ?_
            refine s_iload rfl (cn rfl) rfl ?_
            refine s_iaload rfl (cn rfl) _ rfl c73 rfl (by omega) (by decide) (congrArg ii hSg) ?_
            refine s_iload rfl (cn rfl) rfl ?_
            refine s_icmp_ge rfl (cn rfl) (cn rfl) ⟨by omega, by omega⟩ ⟨by omega, by omega⟩ (fun q59 => ?_) (fun q59 => ?_)
            · refine s_iload rfl (cn rfl) rfl ?_
              refine s_istore rfl (cn rfl) ?_
              refine s_iinc rfl (cn rfl) rfl ?_
              refine s_goto rfl (ch rfl) ?_
              first
                | exact ih21 (by omega) _ _ _ (by omega) (ci_y ⟨⟨g1, q47⟩, by omega⟩).symm
                | exact ih21 (by omega) _ _ _ (by omega) (hx.trans (ci_n (fun q => by first | exact q.1.2 q47 | (have := q.2; omega))).symm)
            · refine s_aload_n rfl (cn rfl) rfl ?_
              refine s_getfield rfl (cn rfl) c58 rfl ?_
              refine s_iload rfl (cn rfl) rfl ?_
              refine s_iaload rfl (cn rfl) _ rfl c73 rfl (by omega) (by decide) (congrArg ii hSg) ?_
              refine s_goto rfl (cn rfl) ?_
              refine s_istore rfl (cn rfl) ?_
              refine s_iinc rfl (cn rfl) rfl ?_
              refine s_goto rfl (ch rfl) ?_
              first
                | exact ih21 (by omega) _ _ _ (by omega) (ci_y ⟨⟨g1, q47⟩, by omega⟩).symm
                | exact ih21 (by omega) _ _ _ (by omega) (hx.trans (ci_n (fun q => by first | exact q.1.2 q47 | (have := q.2; omega))).symm)
          · refine s_iconst rfl (cn rfl) ?_
            refine s_goto rfl (cn rfl) ?_
            refine s_istore rfl (cn rfl) ?_
            refine s_iload rfl (cn rfl) rfl ?_
            refine s_if_ne rfl (cn rfl) (cn rfl) (by decide) (fun q53 => ?_) (fun q53 => absurd q53 (by decide))
            refine s_iload rfl (cn rfl) rfl ?_
            refine s_istore rfl (cn rfl) ?_
            refine s_iinc rfl (cn rfl) rfl ?_
            refine s_goto rfl (ch rfl) ?_
            first
              | exact ih21 (by omega) _ _ _ (by omega) (ci_y ⟨⟨g1, q47⟩, by omega⟩).symm
              | exact ih21 (by omega) _ _ _ (by omega) (hx.trans (ci_n (fun q => by first | exact q.1.2 q47 | (have := q.2; omega))).symm)
      exact lp21 1 (by omega) _ _ _ (by omega) jWf_1.symm
    · refine s_iconst rfl (cn rfl) ?_
      refine s_ireturn rfl ?_
      exact ⟨ri (by unfold sp_judge; rw [if_pos q6, if_neg q11]), ⟨h1', _, _, _, _, _, _, _, _, _, od, _, ti, _, rfl, fr_w hf1 (by simp), c58, hti, hba, hod, hW1, hLL, hs1, c75⟩⟩
  · refine s_iload_n rfl (cn rfl) rfl ?_
    refine s_ireturn rfl ?_
    exact ⟨ri (if_neg q6).symm, ⟨h1', _, _, _, _, _, _, _, _, _, od, _, ti, _, rfl, fr_w hf1 (by simp), c58, hti, hba, hod, hW1, hLL, hs1, c75⟩⟩
