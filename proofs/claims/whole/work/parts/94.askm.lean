/-! What is asked of the model's stages. -/
theorem calls_w {d j : Nat} {args : List Value} {H : rr_H} {Q Q' : Option Value → rr_H → Prop} (h : rr_Calls d j args H Q) (e : ∀ r R, Q r R → Q' r R) : rr_Calls d j args H Q' := by
  obtain ⟨f, r, R, h1, h2⟩ := h
  exact ⟨f, r, R, h1, e r R h2⟩
theorem m_reckon {d N S n : Nat} {kp tp pt wr fa dm ce di be od sm le sc ba bb rk ts tm pa wa : Int} {ti : Nat} {v : Nat → Int} {h : Nat → Option rr_E} (hn : 2 ≤ n ∧ n ≤ 4) (hv : ∀ k, -999 ≤ v k ∧ v k ≤ 999) (h0 : v 0 = 0) (c58 : h 58 = some (MO (n : Int) kp tp pt wr fa dm ce di be od sm le sc ba bb (ti : Int) rk ts tm pa wa)) (c59 : h 59 = some (.inl (0, 16, .inl (fun k => ii (v k))))) (hti : ti < 32768) (hba : -1500000000000000 ≤ ba ∧ ba ≤ 1500000000000000) (hod : od = 0 ∨ od = 1) (hW : MW h) (hL : ML h) (hs : od = 0 → MS h n v sm) : rr_Calls (d + (n + 6)) j_Model_reckon [.ref 58] (N, S, h) (fun r R => r = none ∧ ∃ (h' : Nat → Option rr_E) (ce' di' be' sm' le' sc' ba' bb' rk' : Int) (ti' : Nat), R = (N, S, h') ∧ fr [58, 66, 67, 68, 69, 70, 71, 72, 73, 74] h h' ∧ h' 58 = some (MO (n : Int) kp tp pt wr fa dm ce' di' be' 0 sm' le' sc' ba' bb' (ti' : Int) rk' ts tm pa wa) ∧ ti' < 32768 ∧ (-1500000000000000 ≤ ba' ∧ ba' ≤ 1500000000000000) ∧ MW h' ∧ MS h' n v sm') := by
  rcases hod with rfl | rfl
  · refine calls_d (calls_w (m_reckon0 (d := d + (n + 5)) c58) ?_) (show d + (n + 5) + 1 = d + (n + 6) by omega)
    rintro _ _ ⟨rfl, rfl⟩
    exact ⟨rfl, h, _, _, _, _, _, _, _, _, _, ti, rfl, fr_r, c58, hti, hba, hW, hs rfl⟩
  · exact m_reckon1 hn hv h0 c58 c59 hti hba hW hL
def MX (h : Nat → Option rr_E) (n : Nat) (v : Nat → Int) (sm : Int) : Prop := ∃ LA LB FX SG : Nat → Int, sm = ((nM n v : Nat) : Int) ∧ h 70 = some (.inl (1, 16, .inr (.inl (fun k => jj (LA k))))) ∧ h 71 = some (.inl (1, 16, .inr (.inl (fun k => jj (LB k))))) ∧ h 72 = some (.inl (0, 16, .inl (fun k => ii (FX k)))) ∧ h 73 = some (.inl (0, 16, .inl (fun k => ii (SG k)))) ∧ (∀ i, 1 ≤ i → i ≤ nM n v → LA (i - 1) = nP n v i ∧ LB (i - 1) = nQ n v i ∧ FX (i - 1) = ((nF n v i : Nat) : Int)) ∧ ∀ g, 1 ≤ g → g < al n → SG g = ((nS n v g : Nat) : Int) - 1
theorem MS_MX {h : Nat → Option rr_E} {n : Nat} {v : Nat → Int} {sm : Int} (hn : 2 ≤ n ∧ n ≤ 4) (hv : ∀ k, -999 ≤ v k ∧ v k ≤ 999) (h0 : v 0 = 0) (k : MS h n v sm) : MX h n v sm := by
  obtain ⟨m, F, p, q, lp, lq, A, LA, LB, FX, SG, bN, k1, k2, k3, k4, k5, k6, k7, k8⟩ := k
  obtain ⟨e1, e2, e3, e4⟩ := NU_n hn hv h0 k1
  refine ⟨LA, LB, FX, SG, by rw [k2, e1], k3, k4, k5, k6, fun i i1 i2 => ?_, fun g g1 g2 => ?_⟩
  · have a := k7 i i1 (by omega)
    have b := e2 i i1 i2
    rw [a.1, a.2.1, a.2.2, b.1, b.2.1, b.2.2]; exact ⟨rfl, rfl, rfl⟩
  · have s := nS_s hn hv h0 g1 g2
    exact k8 _ g s.1 (by omega) (by rw [(e2 _ s.1 s.2.1).1]; exact s.2.2)
theorem m_stages {d N S n : Nat} {kp tp pt wr fa dm ce di be od sm le sc ba bb rk ts tm pa wa : Int} {ti : Nat} {v : Nat → Int} {h : Nat → Option rr_E} (hn : 2 ≤ n ∧ n ≤ 4) (hv : ∀ k, -999 ≤ v k ∧ v k ≤ 999) (h0 : v 0 = 0) (c58 : h 58 = some (MO (n : Int) kp tp pt wr fa dm ce di be od sm le sc ba bb (ti : Int) rk ts tm pa wa)) (c59 : h 59 = some (.inl (0, 16, .inl (fun k => ii (v k))))) (hti : ti < 32768) (hba : -1500000000000000 ≤ ba ∧ ba ≤ 1500000000000000) (hod : od = 0 ∨ od = 1) (hW : MW h) (hL : ML h) (hs : od = 0 → MS h n v sm) : rr_Calls (d + (n + 7)) j_Model_stages [.ref 58] (N, S, h) (fun r R => r = some (.int (ii ((nM n v : Nat) : Int))) ∧ ∃ (h' : Nat → Option rr_E) (ce' di' be' sm' le' sc' ba' bb' rk' od' : Int) (ti' : Nat), R = (N, S, h') ∧ fr [58, 66, 67, 68, 69, 70, 71, 72, 73, 74] h h' ∧ h' 58 = some (MO (n : Int) kp tp pt wr fa dm ce' di' be' od' sm' le' sc' ba' bb' (ti' : Int) rk' ts tm pa wa) ∧ ti' < 32768 ∧ (-1500000000000000 ≤ ba' ∧ ba' ≤ 1500000000000000) ∧ (od' = 0 ∨ od' = 1) ∧ MW h' ∧ ML h' ∧ (od' = 0 → MS h' n v sm')) := by
  refine rr_meth (C := K_Model_stages) (hd := h_Model_stages) (mx := 1) rfl rfl (fun K hK => ?_)
  refine hK _ _ _ _ ?_
  refine s_aload_n rfl (cn rfl) rfl ?_
  refine s_virt rfl (cn rfl) rfl rfl c58 rfl (m_reckon hn hv h0 c58 c59 hti hba hod hW hL hs) ?_
  rintro _ _ ⟨rfl, h', ce', di', be', sm', le', sc', ba', bb', rk', ti', rfl, hf, c58, hti', hba', hW', hs'⟩
  obtain ⟨LA, LB, FX, SG, esm, c70, c71, c72, c73, hL1, hSG⟩ := MS_MX hn hv h0 hs'
  subst esm
  have nMb := nM_b hn hv h0
  have nBb := nB_b hn hv h0
  have c59 := (hf 59 (by decide)).trans c59
  refine s_aload_n rfl (cn rfl) rfl ?_
  refine s_getfield rfl (cn rfl) c58 rfl ?_
  refine s_ireturn rfl ?_
  exact ⟨rfl, ⟨h', _, _, _, _, _, _, _, _, _, 0, ti', rfl, hf, c58, hti', hba', Or.inl rfl, hW', MS_ML hs', fun _ => hs'⟩⟩
theorem m_isStage {d N S n : Nat} {kp tp pt wr fa dm ce di be od sm le sc ba bb rk ts tm pa wa : Int} {ti : Nat} {v : Nat → Int} {h : Nat → Option rr_E} (hn : 2 ≤ n ∧ n ≤ 4) (hv : ∀ k, -999 ≤ v k ∧ v k ≤ 999) (h0 : v 0 = 0) (c58 : h 58 = some (MO (n : Int) kp tp pt wr fa dm ce di be od sm le sc ba bb (ti : Int) rk ts tm pa wa)) (c59 : h 59 = some (.inl (0, 16, .inl (fun k => ii (v k))))) (hti : ti < 32768) (hba : -1500000000000000 ≤ ba ∧ ba ≤ 1500000000000000) (hod : od = 0 ∨ od = 1) (hW : MW h) (hL : ML h) (hs : od = 0 → MS h n v sm) {a : Int} (ha : b3 a) : rr_Calls (d + (n + 7)) j_Model_isStage [.ref 58, .int (ii a)] (N, S, h) (fun r R => r = some (.int (rb (1 ≤ a ∧ a ≤ ((nM n v : Nat) : Int)))) ∧ ∃ (h' : Nat → Option rr_E) (ce' di' be' sm' le' sc' ba' bb' rk' : Int) (ti' : Nat), R = (N, S, h') ∧ fr [58, 66, 67, 68, 69, 70, 71, 72, 73, 74] h h' ∧ h' 58 = some (MO (n : Int) kp tp pt wr fa dm ce' di' be' 0 sm' le' sc' ba' bb' (ti' : Int) rk' ts tm pa wa) ∧ ti' < 32768 ∧ (-1500000000000000 ≤ ba' ∧ ba' ≤ 1500000000000000) ∧ MW h' ∧ MS h' n v sm') := by
  refine rr_meth (C := K_Model_isStage) (hd := h_Model_isStage) (mx := 2) rfl rfl (fun K hK => ?_)
  refine hK _ _ _ _ ?_
  refine s_aload_n rfl (cn rfl) rfl ?_
  refine s_virt rfl (cn rfl) rfl rfl c58 rfl (m_reckon hn hv h0 c58 c59 hti hba hod hW hL hs) ?_
  rintro _ _ ⟨rfl, h', ce', di', be', sm', le', sc', ba', bb', rk', ti', rfl, hf, c58, hti', hba', hW', hs'⟩
  obtain ⟨LA, LB, FX, SG, esm, c70, c71, c72, c73, hL1, hSG⟩ := MS_MX hn hv h0 hs'
  subst esm
  have nMb := nM_b hn hv h0
  have nBb := nB_b hn hv h0
  have c59 := (hf 59 (by decide)).trans c59
  refine s_iload_n rfl (cn rfl) rfl ?_
  refine s_i2l rfl (cn rfl) ⟨by omega, by omega⟩ ?_
  refine s_lconst rfl (cn rfl) 1 (by decide) ?_
  refine s_aload_n rfl (cn rfl) rfl ?_
  refine s_getfield rfl (cn rfl) c58 rfl ?_
  refine s_i2l rfl (cn rfl) ⟨by omega, by omega⟩ ?_
  refine s_stat rfl (cn rfl) rfl rfl rfl (m_in (by omega) (by omega) (by omega)) ?_
  rintro _ _ ⟨rfl, rfl⟩
  refine s_zreturn rfl (rb_01 _) ?_
  exact ⟨rfl, h', _, _, _, _, _, _, _, _, _, ti', rfl, hf, c58, hti', hba', hW', hs'⟩
theorem m_level {d N S n : Nat} {kp tp pt wr fa dm ce di be od sm le sc ba bb rk ts tm pa wa : Int} {ti : Nat} {v : Nat → Int} {h : Nat → Option rr_E} (hn : 2 ≤ n ∧ n ≤ 4) (hv : ∀ k, -999 ≤ v k ∧ v k ≤ 999) (h0 : v 0 = 0) (c58 : h 58 = some (MO (n : Int) kp tp pt wr fa dm ce di be od sm le sc ba bb (ti : Int) rk ts tm pa wa)) (c59 : h 59 = some (.inl (0, 16, .inl (fun k => ii (v k))))) (hti : ti < 32768) (hba : -1500000000000000 ≤ ba ∧ ba ≤ 1500000000000000) (hod : od = 0 ∨ od = 1) (hW : MW h) (hL : ML h) (hs : od = 0 → MS h n v sm) {a z : Int} (ha : b3 a) (hz : b3 z) : rr_Calls (d + (n + 8)) j_Model_level [.ref 58, .int (ii a), .int (ii z)] (N, S, h) (fun r R => r = some (.long (jj (sp_level n v a z))) ∧ ∃ (h' : Nat → Option rr_E) (ce' di' be' sm' le' sc' ba' bb' rk' od' : Int) (ti' : Nat), R = (N, S, h') ∧ fr [58, 66, 67, 68, 69, 70, 71, 72, 73, 74] h h' ∧ h' 58 = some (MO (n : Int) kp tp pt wr fa dm ce' di' be' od' sm' le' sc' ba' bb' (ti' : Int) rk' ts tm pa wa) ∧ ti' < 32768 ∧ (-1500000000000000 ≤ ba' ∧ ba' ≤ 1500000000000000) ∧ (od' = 0 ∨ od' = 1) ∧ MW h' ∧ ML h' ∧ (od' = 0 → MS h' n v sm')) := by
  refine rr_meth (C := K_Model_level) (hd := h_Model_level) (mx := 3) rfl rfl (fun K hK => ?_)
  refine hK _ _ _ _ ?_
  refine s_aload_n rfl (cn rfl) rfl ?_
  refine s_iload_n rfl (cn rfl) rfl ?_
  refine s_virt rfl (cn rfl) rfl rfl c58 rfl (m_isStage hn hv h0 c58 c59 hti hba hod hW hL hs ha) ?_
  rintro _ _ ⟨rfl, h', ce', di', be', sm', le', sc', ba', bb', rk', ti', rfl, hf, c58, hti', hba', hW', hs'⟩
  obtain ⟨LA, LB, FX, SG, esm, c70, c71, c72, c73, hL1, hSG⟩ := MS_MX hn hv h0 hs'
  subst esm
  have nMb := nM_b hn hv h0
  have nBb := nB_b hn hv h0
  have c59 := (hf 59 (by decide)).trans c59
  refine s_ifb_eq rfl (cn rfl) (cn rfl) (fun q3 => ?_) (fun q3 => ?_)
  · refine s_ldc2_w rfl (cn rfl) ?_
    refine s_lreturn rfl ?_
    exact ⟨rl (if_neg (fun q => by first | exact q3 q.1 | exact q9 (by omega))).symm, ⟨h', _, _, _, _, _, _, _, _, _, 0, ti', rfl, hf, c58, hti', hba', Or.inl rfl, hW', MS_ML hs', fun _ => hs'⟩⟩
  · refine s_iload_n rfl (cn rfl) rfl ?_
    refine s_i2l rfl (cn rfl) ⟨by omega, by omega⟩ ?_
    refine s_lconst rfl (cn rfl) 0 (by decide) ?_
    refine s_lconst rfl (cn rfl) 1 (by decide) ?_
    refine s_stat rfl (cn rfl) rfl rfl rfl (m_in (by omega) (by omega) (by omega)) ?_
    rintro _ _ ⟨rfl, rfl⟩
    refine s_ifb_ne rfl (cn rfl) (cn rfl) (fun q9 => ?_) (fun q9 => ?_)
    · obtain ⟨j, rfl⟩ := Int.eq_ofNat_of_zero_le (show 0 ≤ a by omega)
      have hLj := hL1 j (by omega) (by omega)
      refine s_iload_n rfl (cn rfl) rfl ?_
      refine s_if_ne rfl (cn rfl) (cn rfl) ⟨by omega, by omega⟩ (fun q13 => ?_) (fun q13 => ?_)
      · refine s_aload_n rfl (cn rfl) rfl ?_
        refine s_getfield rfl (cn rfl) c58 rfl ?_
        refine s_iload_n rfl (cn rfl) rfl ?_
        refine s_iconst rfl (cn rfl) ?_
        refine s_isub rfl (cn rfl) ?_
        refine s_laload rfl (cn rfl) (j - 1) (by omega) c71 (by omega) (by decide) (congrArg jj hLj.2.1) ?_
        refine s_lreturn rfl ?_
        first
          | exact ⟨rl (by unfold sp_level; rw [if_pos ⟨q3, by omega⟩, if_pos q13]; rfl), ⟨h', _, _, _, _, _, _, _, _, _, 0, ti', rfl, hf, c58, hti', hba', Or.inl rfl, hW', MS_ML hs', fun _ => hs'⟩⟩
          | exact ⟨rl (by unfold sp_level; rw [if_pos ⟨q3, by omega⟩, if_neg q13]; rfl), ⟨h', _, _, _, _, _, _, _, _, _, 0, ti', rfl, hf, c58, hti', hba', Or.inl rfl, hW', MS_ML hs', fun _ => hs'⟩⟩
      · refine s_aload_n rfl (cn rfl) rfl ?_
        refine s_getfield rfl (cn rfl) c58 rfl ?_
        refine s_iload_n rfl (cn rfl) rfl ?_
        refine s_iconst rfl (cn rfl) ?_
        refine s_isub rfl (cn rfl) ?_
        refine s_laload rfl (cn rfl) (j - 1) (by omega) c70 (by omega) (by decide) (congrArg jj hLj.1) ?_
        refine s_goto rfl (cn rfl) ?_
        refine s_lreturn rfl ?_
        first
          | exact ⟨rl (by unfold sp_level; rw [if_pos ⟨q3, by omega⟩, if_pos q13]; rfl), ⟨h', _, _, _, _, _, _, _, _, _, 0, ti', rfl, hf, c58, hti', hba', Or.inl rfl, hW', MS_ML hs', fun _ => hs'⟩⟩
          | exact ⟨rl (by unfold sp_level; rw [if_pos ⟨q3, by omega⟩, if_neg q13]; rfl), ⟨h', _, _, _, _, _, _, _, _, _, 0, ti', rfl, hf, c58, hti', hba', Or.inl rfl, hW', MS_ML hs', fun _ => hs'⟩⟩
    · refine s_ldc2_w rfl (cn rfl) ?_
      refine s_lreturn rfl ?_
      exact ⟨rl (if_neg (fun q => by first | exact q3 q.1 | exact q9 (by omega))).symm, ⟨h', _, _, _, _, _, _, _, _, _, 0, ti', rfl, hf, c58, hti', hba', Or.inl rfl, hW', MS_ML hs', fun _ => hs'⟩⟩
theorem m_fixed {d N S n : Nat} {kp tp pt wr fa dm ce di be od sm le sc ba bb rk ts tm pa wa : Int} {ti : Nat} {v : Nat → Int} {h : Nat → Option rr_E} (hn : 2 ≤ n ∧ n ≤ 4) (hv : ∀ k, -999 ≤ v k ∧ v k ≤ 999) (h0 : v 0 = 0) (c58 : h 58 = some (MO (n : Int) kp tp pt wr fa dm ce di be od sm le sc ba bb (ti : Int) rk ts tm pa wa)) (c59 : h 59 = some (.inl (0, 16, .inl (fun k => ii (v k))))) (hti : ti < 32768) (hba : -1500000000000000 ≤ ba ∧ ba ≤ 1500000000000000) (hod : od = 0 ∨ od = 1) (hW : MW h) (hL : ML h) (hs : od = 0 → MS h n v sm) {a : Int} (ha : b3 a) : rr_Calls (d + (n + 8)) j_Model_fixed [.ref 58, .int (ii a)] (N, S, h) (fun r R => r = some (.int (ii (sp_fixed n v a))) ∧ ∃ (h' : Nat → Option rr_E) (ce' di' be' sm' le' sc' ba' bb' rk' od' : Int) (ti' : Nat), R = (N, S, h') ∧ fr [58, 66, 67, 68, 69, 70, 71, 72, 73, 74] h h' ∧ h' 58 = some (MO (n : Int) kp tp pt wr fa dm ce' di' be' od' sm' le' sc' ba' bb' (ti' : Int) rk' ts tm pa wa) ∧ ti' < 32768 ∧ (-1500000000000000 ≤ ba' ∧ ba' ≤ 1500000000000000) ∧ (od' = 0 ∨ od' = 1) ∧ MW h' ∧ ML h' ∧ (od' = 0 → MS h' n v sm')) := by
  refine rr_meth (C := K_Model_fixed) (hd := h_Model_fixed) (mx := 2) rfl rfl (fun K hK => ?_)
  refine hK _ _ _ _ ?_
  refine s_aload_n rfl (cn rfl) rfl ?_
  refine s_iload_n rfl (cn rfl) rfl ?_
  refine s_virt rfl (cn rfl) rfl rfl c58 rfl (m_isStage hn hv h0 c58 c59 hti hba hod hW hL hs ha) ?_
  rintro _ _ ⟨rfl, h', ce', di', be', sm', le', sc', ba', bb', rk', ti', rfl, hf, c58, hti', hba', hW', hs'⟩
  obtain ⟨LA, LB, FX, SG, esm, c70, c71, c72, c73, hL1, hSG⟩ := MS_MX hn hv h0 hs'
  subst esm
  have nMb := nM_b hn hv h0
  have nBb := nB_b hn hv h0
  have c59 := (hf 59 (by decide)).trans c59
  refine s_ifb_eq rfl (cn rfl) (cn rfl) (fun q3 => ?_) (fun q3 => ?_)
  · refine s_iconst rfl (cn rfl) ?_
    refine s_ireturn rfl ?_
    first
      | exact ⟨ri (if_neg q3).symm, ⟨h', _, _, _, _, _, _, _, _, _, 0, ti', rfl, hf, c58, hti', hba', Or.inl rfl, hW', MS_ML hs', fun _ => hs'⟩⟩
      | exact ⟨ri (if_pos q3).symm, ⟨h', _, _, _, _, _, _, _, _, _, 0, ti', rfl, hf, c58, hti', hba', Or.inl rfl, hW', MS_ML hs', fun _ => hs'⟩⟩
  · obtain ⟨j, rfl⟩ := Int.eq_ofNat_of_zero_le (show 0 ≤ a by omega)
    have hLj := hL1 j (by omega) (by omega)
    refine s_aload_n rfl (cn rfl) rfl ?_
    refine s_getfield rfl (cn rfl) c58 rfl ?_
    refine s_iload_n rfl (cn rfl) rfl ?_
    refine s_iconst rfl (cn rfl) ?_
    refine s_isub rfl (cn rfl) ?_
    refine s_iaload rfl (cn rfl) (j - 1) (by omega) c72 rfl (by omega) (by decide) (congrArg ii hLj.2.2) ?_
    refine s_goto rfl (cn rfl) ?_
    refine s_ireturn rfl ?_
    first
      | exact ⟨ri (if_neg q3).symm, ⟨h', _, _, _, _, _, _, _, _, _, 0, ti', rfl, hf, c58, hti', hba', Or.inl rfl, hW', MS_ML hs', fun _ => hs'⟩⟩
      | exact ⟨ri (if_pos q3).symm, ⟨h', _, _, _, _, _, _, _, _, _, 0, ti', rfl, hf, c58, hti', hba', Or.inl rfl, hW', MS_ML hs', fun _ => hs'⟩⟩
theorem m_stageOf {d N S n : Nat} {kp tp pt wr fa dm ce di be od sm le sc ba bb rk ts tm pa wa : Int} {ti : Nat} {v : Nat → Int} {h : Nat → Option rr_E} (hn : 2 ≤ n ∧ n ≤ 4) (hv : ∀ k, -999 ≤ v k ∧ v k ≤ 999) (h0 : v 0 = 0) (c58 : h 58 = some (MO (n : Int) kp tp pt wr fa dm ce di be od sm le sc ba bb (ti : Int) rk ts tm pa wa)) (c59 : h 59 = some (.inl (0, 16, .inl (fun k => ii (v k))))) (hti : ti < 32768) (hba : -1500000000000000 ≤ ba ∧ ba ≤ 1500000000000000) (hod : od = 0 ∨ od = 1) (hW : MW h) (hL : ML h) (hs : od = 0 → MS h n v sm) {a : Int} (ha : b3 a) : rr_Calls (d + (n + 7)) j_Model_stageOf [.ref 58, .int (ii a)] (N, S, h) (fun r R => r = some (.int (ii (sp_stageOf n v a))) ∧ ∃ (h' : Nat → Option rr_E) (ce' di' be' sm' le' sc' ba' bb' rk' od' : Int) (ti' : Nat), R = (N, S, h') ∧ fr [58, 66, 67, 68, 69, 70, 71, 72, 73, 74] h h' ∧ h' 58 = some (MO (n : Int) kp tp pt wr fa dm ce' di' be' od' sm' le' sc' ba' bb' (ti' : Int) rk' ts tm pa wa) ∧ ti' < 32768 ∧ (-1500000000000000 ≤ ba' ∧ ba' ≤ 1500000000000000) ∧ (od' = 0 ∨ od' = 1) ∧ MW h' ∧ ML h' ∧ (od' = 0 → MS h' n v sm')) := by
  refine rr_meth (C := K_Model_stageOf) (hd := h_Model_stageOf) (mx := 2) rfl rfl (fun K hK => ?_)
  have hA := al_b hn
  refine hK _ _ _ _ ?_
  refine s_aload_n rfl (cn rfl) rfl ?_
  refine s_virt rfl (cn rfl) rfl rfl c58 rfl (m_reckon hn hv h0 c58 c59 hti hba hod hW hL hs) ?_
  rintro _ _ ⟨rfl, h', ce', di', be', sm', le', sc', ba', bb', rk', ti', rfl, hf, c58, hti', hba', hW', hs'⟩
  obtain ⟨LA, LB, FX, SG, esm, c70, c71, c72, c73, hL1, hSG⟩ := MS_MX hn hv h0 hs'
  subst esm
  have nMb := nM_b hn hv h0
  have nBb := nB_b hn hv h0
  have c59 := (hf 59 (by decide)).trans c59
  refine s_aload_n rfl (cn rfl) rfl ?_
  refine s_iload_n rfl (cn rfl) rfl ?_
  refine s_virt rfl (cn rfl) rfl rfl c58 rfl (m_isPart hn c58 ha) ?_
  rintro _ _ ⟨rfl, rfl⟩
  refine s_ifb_eq rfl (cn rfl) (cn rfl) (fun q5 => ?_) (fun q5 => ?_)
  · refine s_iconst rfl (cn rfl) ?_
    refine s_ireturn rfl ?_
    first
      | exact ⟨ri (if_neg q5).symm, ⟨h', _, _, _, _, _, _, _, _, _, 0, ti', rfl, hf, c58, hti', hba', Or.inl rfl, hW', MS_ML hs', fun _ => hs'⟩⟩
      | exact ⟨ri (by unfold sp_stageOf; rw [if_pos q5, Int.sub_add_cancel]; rfl), ⟨h', _, _, _, _, _, _, _, _, _, 0, ti', rfl, hf, c58, hti', hba', Or.inl rfl, hW', MS_ML hs', fun _ => hs'⟩⟩
  · obtain ⟨g, rfl⟩ := Int.eq_ofNat_of_zero_le (show 0 ≤ a by omega)
    have hSg := hSG g (by omega) (by omega)
    have hs1 := nS_s hn hv h0 (g := g) (by omega) (by omega)
    refine s_aload_n rfl (cn rfl) rfl ?_
    refine s_getfield rfl (cn rfl) c58 rfl ?_
    refine s_iload_n rfl (cn rfl) rfl ?_
    refine s_iaload rfl (cn rfl) _ rfl c73 rfl (by omega) (by decide) (congrArg ii hSg) ?_
    refine s_iconst rfl (cn rfl) ?_
    refine s_iadd rfl (cn rfl) ?_
    refine s_goto rfl (cn rfl) ?_
    refine s_ireturn rfl ?_
    first
      | exact ⟨ri (if_neg q5).symm, ⟨h', _, _, _, _, _, _, _, _, _, 0, ti', rfl, hf, c58, hti', hba', Or.inl rfl, hW', MS_ML hs', fun _ => hs'⟩⟩
      | exact ⟨ri (by unfold sp_stageOf; rw [if_pos q5, Int.sub_add_cancel]; rfl), ⟨h', _, _, _, _, _, _, _, _, _, 0, ti', rfl, hf, c58, hti', hba', Or.inl rfl, hW', MS_ML hs', fun _ => hs'⟩⟩
theorem m_fairAbove {d N S n : Nat} {kp tp pt wr fa dm ce di be od sm le sc ba bb ti rk ts tm pa wa : Int} {v LA LB SG : Nat → Int} {h : Nat → Option rr_E} (hn : 2 ≤ n ∧ n ≤ 4) (hv : ∀ k, -999 ≤ v k ∧ v k ≤ 999) (h0 : v 0 = 0) (c58 : h 58 = some (MO (n : Int) kp tp pt wr fa dm ce di be od sm le sc ba bb ti rk ts tm pa wa)) (c59 : h 59 = some (.inl (0, 16, .inl (fun k => ii (v k))))) (c70 : h 70 = some (.inl (1, 16, .inr (.inl (fun k => jj (LA k)))))) (c71 : h 71 = some (.inl (1, 16, .inr (.inl (fun k => jj (LB k)))))) (c73 : h 73 = some (.inl (0, 16, .inl (fun k => ii (SG k))))) (hL1 : ∀ i, 1 ≤ i → i ≤ nM n v → LA (i - 1) = nP n v i ∧ LB (i - 1) = nQ n v i) (hSG : ∀ g, 1 ≤ g → g < al n → SG g = ((nS n v g : Nat) : Int) - 1) {i : Nat} (hi : i < n) : rr_Calls (d + 1) j_Model_fairAbove [.ref 58, .int (ii (i : Int))] (N, S, h) (fun r R => r = some (.long (jj (v (2 ^ i) * nQ n v (nS n v (2 ^ i)) - nP n v (nS n v (2 ^ i))))) ∧ R = (N, S, h)) := by
  refine rr_meth (C := K_Model_fairAbove) (hd := h_Model_fairAbove) (mx := 2) rfl rfl (fun K hK => ?_)
  have hA := al_b hn
  have nMb := nM_b hn hv h0
  have h16 := one_lt hn hi
  have c1 := co_one n (by omega) i hi
  have hgl : 2 ^ i < al n := c1.2.1
  have hSg := hSG (2 ^ i) c1.1 hgl
  have hs1 := nS_s hn hv h0 c1.1 hgl
  have hLj := hL1 _ hs1.1 hs1.2.1
  have hvi := hv (2 ^ i)
  refine hK _ _ _ _ ?_
  refine s_aload_n rfl (cn rfl) rfl ?_
  refine s_getfield rfl (cn rfl) c58 rfl ?_
  refine s_iconst rfl (cn rfl) ?_
  refine s_iload_n rfl (cn rfl) rfl ?_
  refine s_ishl rfl (cn rfl) _ (bi_shl1 (by omega)) ?_
  refine s_iaload rfl (cn rfl) _ rfl c59 rfl (by omega) (by decide) rfl ?_
  refine s_i2l rfl (cn rfl) ⟨by omega, by omega⟩ ?_
  refine s_aload_n rfl (cn rfl) rfl ?_
  refine s_getfield rfl (cn rfl) c58 rfl ?_
  refine s_aload_n rfl (cn rfl) rfl ?_
  refine s_getfield rfl (cn rfl) c58 rfl ?_
  refine s_iconst rfl (cn rfl) ?_
  refine s_iload_n rfl (cn rfl) rfl ?_
  refine s_ishl rfl (cn rfl) _ (bi_shl1 (by omega)) ?_
  refine s_iaload rfl (cn rfl) _ rfl c73 rfl (by omega) (by decide) (congrArg ii hSg) ?_
  refine s_laload rfl (cn rfl) (nS n v (2 ^ i) - 1) (by omega) c71 (by omega) (by decide) (congrArg jj hLj.2) ?_
  refine s_lmul rfl (cn rfl) ?_
  refine s_aload_n rfl (cn rfl) rfl ?_
  refine s_getfield rfl (cn rfl) c58 rfl ?_
  refine s_aload_n rfl (cn rfl) rfl ?_
  refine s_getfield rfl (cn rfl) c58 rfl ?_
  refine s_iconst rfl (cn rfl) ?_
  refine s_iload_n rfl (cn rfl) rfl ?_
  refine s_ishl rfl (cn rfl) _ (bi_shl1 (by omega)) ?_
  refine s_iaload rfl (cn rfl) _ rfl c73 rfl (by omega) (by decide) (congrArg ii hSg) ?_
  refine s_laload rfl (cn rfl) (nS n v (2 ^ i) - 1) (by omega) c70 (by omega) (by decide) (congrArg jj hLj.1) ?_
  refine s_lsub rfl (cn rfl) ?_
  refine s_lreturn rfl ?_
  exact ⟨rfl, rfl⟩
theorem m_fairBelow {d N S n : Nat} {kp tp pt wr fa dm ce di be od sm le sc ba bb ti rk ts tm pa wa : Int} {v LA LB SG : Nat → Int} {h : Nat → Option rr_E} (hn : 2 ≤ n ∧ n ≤ 4) (hv : ∀ k, -999 ≤ v k ∧ v k ≤ 999) (h0 : v 0 = 0) (c58 : h 58 = some (MO (n : Int) kp tp pt wr fa dm ce di be od sm le sc ba bb ti rk ts tm pa wa)) (c59 : h 59 = some (.inl (0, 16, .inl (fun k => ii (v k))))) (c70 : h 70 = some (.inl (1, 16, .inr (.inl (fun k => jj (LA k)))))) (c71 : h 71 = some (.inl (1, 16, .inr (.inl (fun k => jj (LB k)))))) (c73 : h 73 = some (.inl (0, 16, .inl (fun k => ii (SG k))))) (hL1 : ∀ i, 1 ≤ i → i ≤ nM n v → LA (i - 1) = nP n v i ∧ LB (i - 1) = nQ n v i) (hSG : ∀ g, 1 ≤ g → g < al n → SG g = ((nS n v g : Nat) : Int) - 1) {i : Nat} (hi : i < n) : rr_Calls (d + 1) j_Model_fairBelow [.ref 58, .int (ii (i : Int))] (N, S, h) (fun r R => r = some (.long (jj (nQ n v (nS n v (2 ^ i))))) ∧ R = (N, S, h)) := by
  refine rr_meth (C := K_Model_fairBelow) (hd := h_Model_fairBelow) (mx := 2) rfl rfl (fun K hK => ?_)
  have hA := al_b hn
  have nMb := nM_b hn hv h0
  have h16 := one_lt hn hi
  have c1 := co_one n (by omega) i hi
  have hgl : 2 ^ i < al n := c1.2.1
  have hSg := hSG (2 ^ i) c1.1 hgl
  have hs1 := nS_s hn hv h0 c1.1 hgl
  have hLj := hL1 _ hs1.1 hs1.2.1
  have hvi := hv (2 ^ i)
  refine hK _ _ _ _ ?_
  refine s_aload_n rfl (cn rfl) rfl ?_
  refine s_getfield rfl (cn rfl) c58 rfl ?_
  refine s_aload_n rfl (cn rfl) rfl ?_
  refine s_getfield rfl (cn rfl) c58 rfl ?_
  refine s_iconst rfl (cn rfl) ?_
  refine s_iload_n rfl (cn rfl) rfl ?_
  refine s_ishl rfl (cn rfl) _ (bi_shl1 (by omega)) ?_
  refine s_iaload rfl (cn rfl) _ rfl c73 rfl (by omega) (by decide) (congrArg ii hSg) ?_
  refine s_laload rfl (cn rfl) (nS n v (2 ^ i) - 1) (by omega) c71 (by omega) (by decide) (congrArg jj hLj.2) ?_
  refine s_lreturn rfl ?_
  exact ⟨rfl, rfl⟩
theorem fair_e {n : Nat} {v : Nat → Int} (hn : 2 ≤ n ∧ n ≤ 4) (hv : ∀ k, -999 ≤ v k ∧ v k ≤ 999) (h0 : v 0 = 0) {i : Nat} (hi : i < n) : (v (2 ^ i) * nQ n v (nS n v (2 ^ i)) - nP n v (nS n v (2 ^ i))) * nB n v = nA n v i * nQ n v (nS n v (2 ^ i)) ∧ (0 < nQ n v (nS n v (2 ^ i)) ∧ nQ n v (nS n v (2 ^ i)) ≤ 655360000) ∧ (-6000000000000 ≤ v (2 ^ i) * nQ n v (nS n v (2 ^ i)) - nP n v (nS n v (2 ^ i)) ∧ v (2 ^ i) * nQ n v (nS n v (2 ^ i)) - nP n v (nS n v (2 ^ i)) ≤ 6000000000000) := by
  have c1 := co_one n (by omega) i hi
  have hs := nS_s hn hv h0 c1.1 (show 2 ^ i < al n from c1.2.1)
  have e := nE_l hn hv h0 c1.1 (show 2 ^ i < al n from c1.2.1)
  have q := nQ_p hn hv h0 hs.1 hs.2.1
  have p := nP_b hn hv h0 hs.1 hs.2.1
  have m := ku_mul (x := v (2 ^ i)) (y := nQ n v (nS n v (2 ^ i))) (a := 999) (b := 655360000) (hv _) (by omega)
  refine ⟨?_, ⟨q.1, q.2.2.2⟩, by omega, by omega⟩
  unfold nE at e
  rw [nA_1 hn hi] at e
  grind
theorem m_fair {d N S n : Nat} {kp tp pt wr fa dm ce di be od sm le sc ba bb rk ts tm pa wa : Int} {ti : Nat} {v : Nat → Int} {h : Nat → Option rr_E} (hn : 2 ≤ n ∧ n ≤ 4) (hv : ∀ k, -999 ≤ v k ∧ v k ≤ 999) (h0 : v 0 = 0) (c58 : h 58 = some (MO (n : Int) kp tp pt wr fa dm ce di be od sm le sc ba bb (ti : Int) rk ts tm pa wa)) (c59 : h 59 = some (.inl (0, 16, .inl (fun k => ii (v k))))) (hti : ti < 32768) (hba : -1500000000000000 ≤ ba ∧ ba ≤ 1500000000000000) (hod : od = 0 ∨ od = 1) (hW : MW h) (hL : ML h) (hs : od = 0 → MS h n v sm) {a z : Int} (ha : b3 a) (hz : b3 z) : rr_Calls (d + (n + 7)) j_Model_fair [.ref 58, .int (ii a), .int (ii z)] (N, S, h) (fun r R => r = some (.long (jj (sp_fair n v a z))) ∧ ∃ (h' : Nat → Option rr_E) (ce' di' be' sm' le' sc' ba' bb' rk' od' : Int) (ti' : Nat), R = (N, S, h') ∧ fr [58, 66, 67, 68, 69, 70, 71, 72, 73, 74] h h' ∧ h' 58 = some (MO (n : Int) kp tp pt wr fa dm ce' di' be' od' sm' le' sc' ba' bb' (ti' : Int) rk' ts tm pa wa) ∧ ti' < 32768 ∧ (-1500000000000000 ≤ ba' ∧ ba' ≤ 1500000000000000) ∧ (od' = 0 ∨ od' = 1) ∧ MW h' ∧ ML h' ∧ (od' = 0 → MS h' n v sm')) := by
  refine rr_meth (C := K_Model_fair) (hd := h_Model_fair) (mx := 3) rfl rfl (fun K hK => ?_)
  refine hK _ _ _ _ ?_
  refine s_aload_n rfl (cn rfl) rfl ?_
  refine s_iload_n rfl (cn rfl) rfl ?_
  refine s_virt rfl (cn rfl) rfl rfl c58 rfl (m_isOne hn c58 ha) ?_
  rintro _ _ ⟨rfl, rfl⟩
  refine s_ifb_eq rfl (cn rfl) (cn rfl) (fun q3 => ?_) (fun q3 => ?_)
  · refine s_ldc2_w rfl (cn rfl) ?_
    refine s_lreturn rfl ?_
    exact ⟨rl (if_neg (fun q => by first | exact q3 q.1 | exact q9 (by omega))).symm, ⟨h, _, _, _, _, _, _, _, _, _, od, ti, rfl, fr_r, c58, hti, hba, hod, hW, hL, hs⟩⟩
  · refine s_iload_n rfl (cn rfl) rfl ?_
    refine s_i2l rfl (cn rfl) ⟨by omega, by omega⟩ ?_
    refine s_lconst rfl (cn rfl) 0 (by decide) ?_
    refine s_lconst rfl (cn rfl) 1 (by decide) ?_
    refine s_stat rfl (cn rfl) rfl rfl rfl (m_in (by omega) (by omega) (by omega)) ?_
    rintro _ _ ⟨rfl, rfl⟩
    refine s_ifb_ne rfl (cn rfl) (cn rfl) (fun q9 => ?_) (fun q9 => ?_)
    · obtain ⟨i, rfl⟩ := Int.eq_ofNat_of_zero_le q3.1
      have hfe := fair_e hn hv h0 (show i < n by omega)
      refine s_aload_n rfl (cn rfl) rfl ?_
      refine s_virt rfl (cn rfl) rfl rfl c58 rfl (m_reckon hn hv h0 c58 c59 hti hba hod hW hL hs) ?_
      rintro _ _ ⟨rfl, h', ce', di', be', sm', le', sc', ba', bb', rk', ti', rfl, hf, c58, hti', hba', hW', hs'⟩
      obtain ⟨LA, LB, FX, SG, esm, c70, c71, c72, c73, hL1, hSG⟩ := MS_MX hn hv h0 hs'
      subst esm
      have nMb := nM_b hn hv h0
      have nBb := nB_b hn hv h0
      have c59 := (hf 59 (by decide)).trans c59
      refine s_aload_n rfl (cn rfl) rfl ?_
      refine s_iload_n rfl (cn rfl) rfl ?_
      refine s_virt rfl (cn rfl) rfl rfl c58 rfl (m_fairAbove (i := i) hn hv h0 c58 c59 c70 c71 c73 (fun i i1 i2 => ⟨(hL1 i i1 i2).1, (hL1 i i1 i2).2.1⟩) hSG (by omega)) ?_
      rintro _ _ ⟨rfl, rfl⟩
      refine s_aload_n rfl (cn rfl) rfl ?_
      refine s_iload_n rfl (cn rfl) rfl ?_
      refine s_virt rfl (cn rfl) rfl rfl c58 rfl (m_fairBelow (i := i) hn hv h0 c58 c59 c70 c71 c73 (fun i i1 i2 => ⟨(hL1 i i1 i2).1, (hL1 i i1 i2).2.1⟩) hSG (by omega)) ?_
      rintro _ _ ⟨rfl, rfl⟩
      refine s_iload_n rfl (cn rfl) rfl ?_
      refine s_stat rfl (cn rfl) rfl rfl rfl (m_lowest ⟨by omega, by omega⟩ ⟨by omega, by omega⟩ (by omega) hz) ?_
      rintro _ _ ⟨rfl, rfl⟩
      refine s_lreturn rfl ?_
      exact ⟨rl (by unfold sp_fair; rw [if_pos ⟨q3, by omega⟩]; exact lw_eq hfe.2.1.1 nBb.1 hfe.1), ⟨h', _, _, _, _, _, _, _, _, _, 0, ti', rfl, hf, c58, hti', hba', Or.inl rfl, hW', MS_ML hs', fun _ => hs'⟩⟩
    · refine s_ldc2_w rfl (cn rfl) ?_
      refine s_lreturn rfl ?_
      exact ⟨rl (if_neg (fun q => by first | exact q3 q.1 | exact q9 (by omega))).symm, ⟨h, _, _, _, _, _, _, _, _, _, od, ti, rfl, fr_r, c58, hti, hba, hod, hW, hL, hs⟩⟩
theorem m_grudge {d N S n : Nat} {kp tp pt wr fa dm ce di be od sm le sc ba bb rk ts tm pa wa : Int} {ti : Nat} {v : Nat → Int} {h : Nat → Option rr_E} (hn : 2 ≤ n ∧ n ≤ 4) (hv : ∀ k, -999 ≤ v k ∧ v k ≤ 999) (h0 : v 0 = 0) (c58 : h 58 = some (MO (n : Int) kp tp pt wr fa dm ce di be od sm le sc ba bb (ti : Int) rk ts tm pa wa)) (c59 : h 59 = some (.inl (0, 16, .inl (fun k => ii (v k))))) (hti : ti < 32768) (hba : -1500000000000000 ≤ ba ∧ ba ≤ 1500000000000000) (hod : od = 0 ∨ od = 1) (hW : MW h) (hL : ML h) (hs : od = 0 → MS h n v sm) {a z : Int} (ha : b3 a) (hz : b3 z) : rr_Calls (d + (n + 9)) j_Model_grudge [.ref 58, .int (ii a), .int (ii z)] (N, S, h) (fun r R => r = some (.long (jj (sp_grudge n v a z))) ∧ ∃ (h' : Nat → Option rr_E) (ce' di' be' sm' le' sc' ba' bb' rk' od' : Int) (ti' : Nat), R = (N, S, h') ∧ fr [58, 66, 67, 68, 69, 70, 71, 72, 73, 74] h h' ∧ h' 58 = some (MO (n : Int) kp tp pt wr fa dm ce' di' be' od' sm' le' sc' ba' bb' (ti' : Int) rk' ts tm pa wa) ∧ ti' < 32768 ∧ (-1500000000000000 ≤ ba' ∧ ba' ≤ 1500000000000000) ∧ (od' = 0 ∨ od' = 1) ∧ MW h' ∧ ML h' ∧ (od' = 0 → MS h' n v sm')) := by
  refine rr_meth (C := K_Model_grudge) (hd := h_Model_grudge) (mx := 3) rfl rfl (fun K hK => ?_)
  have hA := al_b hn
  refine hK _ _ _ _ ?_
  refine s_aload_n rfl (cn rfl) rfl ?_
  refine s_virt rfl (cn rfl) rfl rfl c58 rfl (calls_d (m_reckon (d := d + 2) hn hv h0 c58 c59 hti hba hod hW hL hs) (show d + 2 + (n + 6) = d + (n + 8) by omega)) ?_
  rintro _ _ ⟨rfl, h', ce', di', be', sm', le', sc', ba', bb', rk', ti', rfl, hf, c58, hti', hba', hW', hs'⟩
  obtain ⟨LA, LB, FX, SG, esm, c70, c71, c72, c73, hL1, hSG⟩ := MS_MX hn hv h0 hs'
  subst esm
  have nMb := nM_b hn hv h0
  have nBb := nB_b hn hv h0
  have c59 := (hf 59 (by decide)).trans c59
  refine s_aload_n rfl (cn rfl) rfl ?_
  refine s_iload_n rfl (cn rfl) rfl ?_
  refine s_virt rfl (cn rfl) rfl rfl c58 rfl (m_isPart hn c58 ha) ?_
  rintro _ _ ⟨rfl, rfl⟩
  refine s_ifb_eq rfl (cn rfl) (cn rfl) (fun q5 => ?_) (fun q5 => ?_)
  · refine s_ldc2_w rfl (cn rfl) ?_
    refine s_lreturn rfl ?_
    first
      | exact ⟨rl (if_neg (fun q => q5 q.1)).symm, ⟨h', _, _, _, _, _, _, _, _, _, 0, ti', rfl, hf, c58, hti', hba', Or.inl rfl, hW', MS_ML hs', fun _ => hs'⟩⟩
      | (refine ⟨rl ?_, ⟨h2, _, _, _, _, _, _, _, _, _, od2, ti2, rfl, fr_t hf hf2 (by simp), c58, hti2, hba2, hod2, hW2, hL2, hs2⟩⟩
         by_cases e : z = 0 ∨ z = 1
         · have e1 : sp_level n v ((nS n v g : Nat) : Int) z = _ := if_pos ⟨by omega, e⟩
           have e2 : sp_grudge n v ((g : Nat) : Int) z = _ := if_pos ⟨q5, e⟩
           exact e1.trans e2.symm
         · have e1 : sp_level n v ((nS n v g : Nat) : Int) z = _ := if_neg (fun q => e q.2)
           have e2 : sp_grudge n v ((g : Nat) : Int) z = _ := if_neg (fun q => e q.2)
           exact e1.trans e2.symm)
  · obtain ⟨g, rfl⟩ := Int.eq_ofNat_of_zero_le (show 0 ≤ a by omega)
    have hSg := hSG g (by omega) (by omega)
    have hs1 := nS_s hn hv h0 (g := g) (by omega) (by omega)
    refine s_aload_n rfl (cn rfl) rfl ?_
    refine s_aload_n rfl (cn rfl) rfl ?_
    refine s_getfield rfl (cn rfl) c58 rfl ?_
    refine s_iload_n rfl (cn rfl) rfl ?_
    refine s_iaload rfl (cn rfl) _ rfl c73 rfl (by omega) (by decide) (congrArg ii hSg) ?_
    refine s_iconst rfl (cn rfl) ?_
    refine s_iadd rfl (cn rfl) ?_
    rw [Int.sub_add_cancel]
    refine s_iload_n rfl (cn rfl) rfl ?_
    refine s_virt rfl (cn rfl) rfl rfl c58 rfl (m_level (a := ((nS n v g : Nat) : Int)) hn hv h0 c58 c59 hti' hba' (Or.inl rfl) hW' (MS_ML hs') (fun _ => hs') (by omega) hz) ?_
    rintro _ _ ⟨rfl, h2, ce2, di2, be2, sm2, le2, sc2, ba2, bb2, rk2, od2, ti2, rfl, hf2, c58, hti2, hba2, hod2, hW2, hL2, hs2⟩
    refine s_goto rfl (cn rfl) ?_
    refine s_lreturn rfl ?_
    first
      | exact ⟨rl (if_neg (fun q => q5 q.1)).symm, ⟨h', _, _, _, _, _, _, _, _, _, 0, ti', rfl, hf, c58, hti', hba', Or.inl rfl, hW', MS_ML hs', fun _ => hs'⟩⟩
      | (refine ⟨rl ?_, ⟨h2, _, _, _, _, _, _, _, _, _, od2, ti2, rfl, fr_t hf hf2 (by simp), c58, hti2, hba2, hod2, hW2, hL2, hs2⟩⟩
         by_cases e : z = 0 ∨ z = 1
         · have e1 : sp_level n v ((nS n v g : Nat) : Int) z = _ := if_pos ⟨by omega, e⟩
           have e2 : sp_grudge n v ((g : Nat) : Int) z = _ := if_pos ⟨q5, e⟩
           exact e1.trans e2.symm
         · have e1 : sp_level n v ((nS n v g : Nat) : Int) z = _ := if_neg (fun q => e q.2)
           have e2 : sp_grudge n v ((g : Nat) : Int) z = _ := if_neg (fun q => e q.2)
           exact e1.trans e2.symm)
theorem m_empty {d N S n : Nat} {kp tp pt wr fa dm ce di be od sm le sc ba bb rk ts tm pa wa : Int} {ti : Nat} {v : Nat → Int} {h : Nat → Option rr_E} (hn : 2 ≤ n ∧ n ≤ 4) (hv : ∀ k, -999 ≤ v k ∧ v k ≤ 999) (h0 : v 0 = 0) (c58 : h 58 = some (MO (n : Int) kp tp pt wr fa dm ce di be od sm le sc ba bb (ti : Int) rk ts tm pa wa)) (c59 : h 59 = some (.inl (0, 16, .inl (fun k => ii (v k))))) (hti : ti < 32768) (hba : -1500000000000000 ≤ ba ∧ ba ≤ 1500000000000000) (hod : od = 0 ∨ od = 1) (hW : MW h) (hL : ML h) (hs : od = 0 → MS h n v sm) : rr_Calls (d + (n + 7)) j_Model_empty [.ref 58] (N, S, h) (fun r R => r = some (.int (ii (sp_empty n v))) ∧ ∃ (h' : Nat → Option rr_E) (ce' di' be' sm' le' sc' ba' bb' rk' od' : Int) (ti' : Nat), R = (N, S, h') ∧ fr [58, 66, 67, 68, 69, 70, 71, 72, 73, 74] h h' ∧ h' 58 = some (MO (n : Int) kp tp pt wr fa dm ce' di' be' od' sm' le' sc' ba' bb' (ti' : Int) rk' ts tm pa wa) ∧ ti' < 32768 ∧ (-1500000000000000 ≤ ba' ∧ ba' ≤ 1500000000000000) ∧ (od' = 0 ∨ od' = 1) ∧ MW h' ∧ ML h' ∧ (od' = 0 → MS h' n v sm')) := by
  refine rr_meth (C := K_Model_empty) (hd := h_Model_empty) (mx := 1) rfl rfl (fun K hK => ?_)
  refine hK _ _ _ _ ?_
  refine s_aload_n rfl (cn rfl) rfl ?_
  refine s_virt rfl (cn rfl) rfl rfl c58 rfl (m_reckon hn hv h0 c58 c59 hti hba hod hW hL hs) ?_
  rintro _ _ ⟨rfl, h', ce', di', be', sm', le', sc', ba', bb', rk', ti', rfl, hf, c58, hti', hba', hW', hs'⟩
  obtain ⟨LA, LB, FX, SG, esm, c70, c71, c72, c73, hL1, hSG⟩ := MS_MX hn hv h0 hs'
  subst esm
  have nMb := nM_b hn hv h0
  have nBb := nB_b hn hv h0
  have c59 := (hf 59 (by decide)).trans c59
  refine s_aload_n rfl (cn rfl) rfl ?_
  refine s_getfield rfl (cn rfl) c58 rfl ?_
  refine s_iconst rfl (cn rfl) ?_
  have hS1 := hL1 1 (by omega) (by omega)
  have hp1 := nP_b hn hv h0 (show 1 ≤ 1 by omega) (show 1 ≤ nM n v by omega)
  have hq1 := nQ_p hn hv h0 (show 1 ≤ 1 by omega) (show 1 ≤ nM n v by omega)
  refine s_laload rfl (cn rfl) 0 rfl c70 (by decide) (by decide) (congrArg jj hS1.1) ?_
  refine s_lconst rfl (cn rfl) 0 (by decide) ?_
  refine s_lcmp rfl (cn rfl) ?_
  refine s_ifl_le rfl (cn rfl) (cn rfl) ⟨by omega, by omega⟩ ⟨by omega, by omega⟩ (fun q8 => ?_) (fun q8 => ?_)
  · refine s_iconst rfl (cn rfl) ?_
    refine s_ireturn rfl ?_
    first
      | exact ⟨ri (if_pos (by omega)).symm, ⟨h', _, _, _, _, _, _, _, _, _, 0, ti', rfl, hf, c58, hti', hba', Or.inl rfl, hW', MS_ML hs', fun _ => hs'⟩⟩
      | exact ⟨ri (if_neg (by omega)).symm, ⟨h', _, _, _, _, _, _, _, _, _, 0, ti', rfl, hf, c58, hti', hba', Or.inl rfl, hW', MS_ML hs', fun _ => hs'⟩⟩
  · refine s_iconst rfl (cn rfl) ?_
    refine s_goto rfl (cn rfl) ?_
    refine s_ireturn rfl ?_
    first
      | exact ⟨ri (if_pos (by omega)).symm, ⟨h', _, _, _, _, _, _, _, _, _, 0, ti', rfl, hf, c58, hti', hba', Or.inl rfl, hW', MS_ML hs', fun _ => hs'⟩⟩
      | exact ⟨ri (if_neg (by omega)).symm, ⟨h', _, _, _, _, _, _, _, _, _, 0, ti', rfl, hf, c58, hti', hba', Or.inl rfl, hW', MS_ML hs', fun _ => hs'⟩⟩
