/-! The model's deeds. -/
theorem m_deed {d N S n : Nat} {kp fa ce di be od sm le sc ba bb ti rk ts tm pa wa : Int} {h : Nat → Option rr_E}  {m : Nat} (hm : m < 26) {tl p : Nat} {ta : Nat → Int} (htl : tl ≤ 100) (hp : p ≤ tl) (ht : ∀ p, p < tl → 1 ≤ ta p ∧ ta p ≤ 127) (c58 : h 58 = some (MO (n : Int) kp (tl : Int) (p : Int) 0 fa (m : Int) ce di be od sm le sc ba bb ti rk ts tm pa wa)) (c61 : h 61 = some (.inl (0, 100, .inl (fun k => ii (ta k))))) {so on tw : Nat → Int} (c62 : h 62 = some (.inl (0, 26, .inl (fun k => ii (so k))))) (c63 : h 63 = some (.inl (0, 26, .inl (fun k => ii (on k))))) (c64 : h 64 = some (.inl (0, 26, .inl (fun k => ii (tw k))))) : rr_Calls (d + 4) j_Model_deed [.ref 58] (N, S, h) (fun r R => r = none ∧ ((∃ (q : Nat) (D : Dd), rD ta tl p = .inr (q, D.1, D.2.1, D.2.2) ∧ p + 4 ≤ q ∧ q ≤ tl ∧ dw D ∧ ∃ h', R = (N, S, h') ∧ fr [58, 62, 63, 64] h h' ∧ h' 58 = some (MO (n : Int) kp (tl : Int) (q : Int) 0 fa ((m + 1 : Nat) : Int) ce di be od sm le sc ba bb ti rk ts tm pa wa) ∧ h' 62 = some (.inl (0, 26, .inl (fun k => ii (fu so m D.1 k)))) ∧ h' 63 = some (.inl (0, 26, .inl (fun k => ii (fu on m D.2.1 k)))) ∧ h' 64 = some (.inl (0, 26, .inl (fun k => ii (fu tw m D.2.2 k))))) ∨ (∃ (f : Nat), rD ta tl p = .inl f ∧ f ≤ tl ∧ ∃ (pt2 dm2 : Int) (so2 on2 tw2 : Nat → Int), ∃ h', R = (N, S, h') ∧ fr [58, 62, 63, 64] h h' ∧ h' 58 = some (MO (n : Int) kp (tl : Int) pt2 1 (f : Int) dm2 ce di be od sm le sc ba bb ti rk ts tm pa wa) ∧ h' 62 = some (.inl (0, 26, .inl (fun k => ii (so2 k)))) ∧ h' 63 = some (.inl (0, 26, .inl (fun k => ii (on2 k)))) ∧ h' 64 = some (.inl (0, 26, .inl (fun k => ii (tw2 k))))))) := by
  refine rr_meth (C := K_Model_deed) (hd := h_Model_deed) (mx := 4) rfl rfl (fun K hK => ?_)
  have hF : fr [58, 62, 63, 64] h h := fr_r
  refine hK _ _ _ _ ?_
  refine s_aload_n rfl (cn rfl) rfl ?_
  refine s_virt rfl (cn rfl) rfl rfl c58 rfl (m_sort htl hp ht c58 c61) ?_
  rintro _ _ (⟨ek, rfl, h1, rfl, hf1, c58⟩ | ⟨ek, rfl, h1, rfl, hf1, c58⟩)
  · have c61 := (hf1 61 (by decide)).trans c61
    have c62 := (hf1 62 (by decide)).trans c62
    have c63 := (hf1 63 (by decide)).trans c63
    have c64 := (hf1 64 (by decide)).trans c64
    have hF := fr_t hF hf1 (by decide)
    obtain ⟨pl1, pl2, pl3, pl4⟩ := pl_s (tp := ta) hp
    have hkb := kd_b ta p (plN ta tl p)
    refine s_istore_n rfl (cn rfl) ?_
    refine s_aload_n rfl (cn rfl) rfl ?_
    refine s_getfield rfl (cn rfl) c58 rfl ?_
    refine s_if_eq rfl (cn rfl) (cn rfl) ⟨by omega, by omega⟩ (fun q5 => ?_) (fun q5 => ?_)
    · first
      | (exact absurd q5 (by decide))
      | skip
        refine s_iconst rfl (cn rfl) ?_
        refine s_istore_n rfl (cn rfl) ?_
        refine s_iconst rfl (cn rfl) ?_
        refine s_istore_n rfl (cn rfl) ?_
        refine s_iload_n rfl (cn rfl) rfl ?_
        refine s_if_ne rfl (cn rfl) (cn rfl) ⟨by omega, by omega⟩ (fun q12 => ?_) (fun q12 => ?_)
        · first
          | (exfalso; omega)
          | skip
            refine s_iload_n rfl (cn rfl) rfl ?_
            refine s_iconst rfl (cn rfl) ?_
            refine s_icmp_eq rfl (cn rfl) (cn rfl) ⟨by omega, by omega⟩ ⟨by omega, by omega⟩ (fun q18 => ?_) (fun q18 => ?_)
            · first
              | (exfalso; omega)
              | skip
                refine s_aload_n rfl (cn rfl) rfl ?_
                refine s_virt rfl (cn rfl) rfl rfl c58 rfl (m_group0 htl pl2 ht c58 c61) ?_
                rintro _ _ (⟨q23, x23, s1, rfl, h23, rfl, hf23, c58⟩ | ⟨f23, r23, t23, ef, rfl, h23, rfl, hf23, c58⟩)
                · have c61 := (hf23 61 (by decide)).trans c61
                  have c62 := (hf23 62 (by decide)).trans c62
                  have c63 := (hf23 63 (by decide)).trans c63
                  have c64 := (hf23 64 (by decide)).trans c64
                  have hF := fr_t hF hf23 (by decide)
                  have b23 := bG_b s1
                  refine s_istore_n rfl (cn rfl) ?_
                  refine s_aload_n rfl (cn rfl) rfl ?_
                  refine s_virt rfl (cn rfl) rfl rfl c58 rfl (m_number0 htl b23.2.1 ht c58 c61) ?_
                  rintro _ _ (⟨q26, x26, s2, rfl, h26, rfl, hf26, c58⟩ | ⟨f26, r26, t26, ef, rfl, h26, rfl, hf26, c58⟩)
                  · have c61 := (hf26 61 (by decide)).trans c61
                    have c62 := (hf26 62 (by decide)).trans c62
                    have c63 := (hf26 63 (by decide)).trans c63
                    have c64 := (hf26 64 (by decide)).trans c64
                    have hF := fr_t hF hf26 (by decide)
                    have b26 := bN_b s2
                    refine s_istore_n rfl (cn rfl) ?_
                    refine s_iload_n rfl (cn rfl) rfl ?_
                    refine s_iconst rfl (cn rfl) ?_
                    refine s_icmp_ne rfl (cn rfl) (cn rfl) ⟨by omega, by omega⟩ ⟨by omega, by omega⟩ (fun q30 => ?_) (fun q30 => ?_)
                    · first
                      | (exfalso; omega)
                      | skip
                        refine s_aload_n rfl (cn rfl) rfl ?_
                        refine s_getfield rfl (cn rfl) c58 rfl ?_
                        refine s_aload_n rfl (cn rfl) rfl ?_
                        refine s_getfield rfl (cn rfl) c58 rfl ?_
                        refine s_iload_n rfl (cn rfl) rfl ?_
                        refine s_iastore rfl (cn rfl) _ rfl c62 (by omega) (by decide) ?_
                        refine s_aload_n rfl (cn rfl) rfl ?_
                        refine s_getfield rfl (cn rfl) c58 rfl ?_
                        refine s_aload_n rfl (cn rfl) rfl ?_
                        refine s_getfield rfl (cn rfl) c58 rfl ?_
                        refine s_iload_n rfl (cn rfl) rfl ?_
                        refine s_iastore rfl (cn rfl) _ rfl c63 (by omega) (by decide) ?_
                        refine s_aload_n rfl (cn rfl) rfl ?_
                        refine s_getfield rfl (cn rfl) c58 rfl ?_
                        refine s_aload_n rfl (cn rfl) rfl ?_
                        refine s_getfield rfl (cn rfl) c58 rfl ?_
                        refine s_iload_n rfl (cn rfl) rfl ?_
                        refine s_iastore rfl (cn rfl) _ rfl c64 (by omega) (by decide) ?_
                        refine s_aload_n rfl (cn rfl) rfl ?_
                        refine s_dupr rfl (cn rfl) ?_
                        refine s_getfield rfl (cn rfl) c58 rfl ?_
                        refine s_iconst rfl (cn rfl) ?_
                        refine s_iadd rfl (cn rfl) ?_
                        refine s_puti rfl (cn rfl) rfl c58 rfl ?_
                        refine s_return rfl ?_
                        first
                          | (refine ⟨rfl, Or.inl ⟨q14, (kd ta p (plN ta tl p), x14, 0), ?_, by omega, by omega, ⟨⟨by show 0 ≤ kd ta p (plN ta tl p); omega, by show kd ta p (plN ta tl p) ≤ 5; omega⟩, (by show -999 ≤ x14 ∧ x14 ≤ (999 : Int); omega), (by show -999 ≤ 0 ∧ 0 ≤ (999 : Int); omega)⟩, _, rfl, fr_s (by decide) (fr_s (by decide) (fr_s (by decide) (fr_s (by decide) hF))), rr_set_eq, rfl, rfl, rfl⟩⟩
                             unfold rD
                             rw [if_neg ek]
                             rw [show kd ta p (plN ta tl p) = 0 by omega, rA_0, s1]; rfl
                             done)
                          | (refine ⟨rfl, Or.inl ⟨q26, (kd ta p (plN ta tl p), x23, x26), ?_, by omega, by omega, ⟨⟨by show 0 ≤ kd ta p (plN ta tl p); omega, by show kd ta p (plN ta tl p) ≤ 5; omega⟩, (by show -999 ≤ x23 ∧ x23 ≤ (999 : Int); omega), (by show -999 ≤ x26 ∧ x26 ≤ (999 : Int); omega)⟩, _, rfl, fr_s (by decide) (fr_s (by decide) (fr_s (by decide) (fr_s (by decide) hF))), rr_set_eq, rfl, rfl, rfl⟩⟩
                             unfold rD
                             rw [if_neg ek]
                             rw [rA_12 (by omega), s1]; show sb (sb (sb (rB ta tl q23) (rN ta tl)) _) _ = _; rw [s2]; rfl
                             done)
                          | (refine ⟨rfl, Or.inl ⟨q35, (kd ta p (plN ta tl p), x32, x35), ?_, by omega, by omega, ⟨⟨by show 0 ≤ kd ta p (plN ta tl p); omega, by show kd ta p (plN ta tl p) ≤ 5; omega⟩, (by show -999 ≤ x32 ∧ x32 ≤ (999 : Int); omega), (by show -999 ≤ x35 ∧ x35 ≤ (999 : Int); omega)⟩, _, rfl, fr_s (by decide) (fr_s (by decide) (fr_s (by decide) (fr_s (by decide) hF))), rr_set_eq, rfl, rfl, rfl⟩⟩
                             unfold rD
                             rw [if_neg ek]
                             rw [show kd ta p (plN ta tl p) = 5 by omega, rA_5, s1]; show sb (sb (sb (rB ta tl q32) (rP ta tl)) _) _ = _; rw [s2]; rfl
                             done)
                          | (refine ⟨rfl, Or.inl ⟨(plN ta tl p), (kd ta p (plN ta tl p), 0, 0), ?_, by omega, by omega, ⟨⟨by show 0 ≤ kd ta p (plN ta tl p); omega, by show kd ta p (plN ta tl p) ≤ 5; omega⟩, (by show -999 ≤ 0 ∧ 0 ≤ (999 : Int); omega), (by show -999 ≤ 0 ∧ 0 ≤ (999 : Int); omega)⟩, _, rfl, fr_s (by decide) (fr_s (by decide) (fr_s (by decide) (fr_s (by decide) hF))), rr_set_eq, rfl, rfl, rfl⟩⟩
                             unfold rD
                             rw [if_neg ek]
                             rw [rA_3 (by omega)]; rfl
                             done)
                          | (have eD : rD ta tl p = .inl f14 := by
                               unfold rD
                               rw [if_neg ek]
                               rw [show kd ta p (plN ta tl p) = 0 by omega, rA_0, ef]; rfl
                             refine ⟨rfl, Or.inr ⟨_, eD, rD_l hp eD, _, _, _, _, _, _, rfl, fr_s (by decide) (fr_s (by decide) (fr_s (by decide) (fr_s (by decide) hF))), rr_set_eq, rfl, rfl, rfl⟩⟩
                             done)
                          | (have eD : rD ta tl p = .inl f26 := by
                               unfold rD
                               rw [if_neg ek]
                               rw [rA_12 (by omega), s1]; show sb (sb (sb (rB ta tl q23) (rN ta tl)) _) _ = _; rw [ef]; rfl
                             refine ⟨rfl, Or.inr ⟨_, eD, rD_l hp eD, _, _, _, _, _, _, rfl, fr_s (by decide) (fr_s (by decide) (fr_s (by decide) (fr_s (by decide) hF))), rr_set_eq, rfl, rfl, rfl⟩⟩
                             done)
                          | (have eD : rD ta tl p = .inl f23 := by
                               unfold rD
                               rw [if_neg ek]
                               rw [rA_12 (by omega), ef]; rfl
                             refine ⟨rfl, Or.inr ⟨_, eD, rD_l hp eD, _, _, _, _, _, _, rfl, fr_s (by decide) (fr_s (by decide) (fr_s (by decide) (fr_s (by decide) hF))), rr_set_eq, rfl, rfl, rfl⟩⟩
                             done)
                          | (have eD : rD ta tl p = .inl f35 := by
                               unfold rD
                               rw [if_neg ek]
                               rw [show kd ta p (plN ta tl p) = 5 by omega, rA_5, s1]; show sb (sb (sb (rB ta tl q32) (rP ta tl)) _) _ = _; rw [ef]; rfl
                             refine ⟨rfl, Or.inr ⟨_, eD, rD_l hp eD, _, _, _, _, _, _, rfl, fr_s (by decide) (fr_s (by decide) (fr_s (by decide) (fr_s (by decide) hF))), rr_set_eq, rfl, rfl, rfl⟩⟩
                             done)
                          | (have eD : rD ta tl p = .inl f32 := by
                               unfold rD
                               rw [if_neg ek]
                               rw [show kd ta p (plN ta tl p) = 5 by omega, rA_5, ef]; rfl
                             refine ⟨rfl, Or.inr ⟨_, eD, rD_l hp eD, _, _, _, _, _, _, rfl, fr_s (by decide) (fr_s (by decide) (fr_s (by decide) (fr_s (by decide) hF))), rr_set_eq, rfl, rfl, rfl⟩⟩
                             done)
                    · first
                      | (exfalso; omega)
                      | skip
                        refine s_aload_n rfl (cn rfl) rfl ?_
                        refine s_virt rfl (cn rfl) rfl rfl c58 rfl (m_person0 htl pl2 ht c58 c61) ?_
                        rintro _ _ (⟨q32, x32, s1, rfl, h32, rfl, hf32, c58⟩ | ⟨f32, r32, t32, ef, rfl, h32, rfl, hf32, c58⟩)
                        · have c61 := (hf32 61 (by decide)).trans c61
                          have c62 := (hf32 62 (by decide)).trans c62
                          have c63 := (hf32 63 (by decide)).trans c63
                          have c64 := (hf32 64 (by decide)).trans c64
                          have hF := fr_t hF hf32 (by decide)
                          have b32 := bP_b s1
                          refine s_istore_n rfl (cn rfl) ?_
                          refine s_aload_n rfl (cn rfl) rfl ?_
                          refine s_virt rfl (cn rfl) rfl rfl c58 rfl (m_person0 htl b32.2.1 ht c58 c61) ?_
                          rintro _ _ (⟨q35, x35, s2, rfl, h35, rfl, hf35, c58⟩ | ⟨f35, r35, t35, ef, rfl, h35, rfl, hf35, c58⟩)
                          · have c61 := (hf35 61 (by decide)).trans c61
                            have c62 := (hf35 62 (by decide)).trans c62
                            have c63 := (hf35 63 (by decide)).trans c63
                            have c64 := (hf35 64 (by decide)).trans c64
                            have hF := fr_t hF hf35 (by decide)
                            have b35 := bP_b s2
                            refine s_istore_n rfl (cn rfl) ?_
                            refine s_aload_n rfl (cn rfl) rfl ?_
                            refine s_getfield rfl (cn rfl) c58 rfl ?_
                            refine s_aload_n rfl (cn rfl) rfl ?_
                            refine s_getfield rfl (cn rfl) c58 rfl ?_
                            refine s_iload_n rfl (cn rfl) rfl ?_
                            refine s_iastore rfl (cn rfl) _ rfl c62 (by omega) (by decide) ?_
                            refine s_aload_n rfl (cn rfl) rfl ?_
                            refine s_getfield rfl (cn rfl) c58 rfl ?_
                            refine s_aload_n rfl (cn rfl) rfl ?_
                            refine s_getfield rfl (cn rfl) c58 rfl ?_
                            refine s_iload_n rfl (cn rfl) rfl ?_
                            refine s_iastore rfl (cn rfl) _ rfl c63 (by omega) (by decide) ?_
                            refine s_aload_n rfl (cn rfl) rfl ?_
                            refine s_getfield rfl (cn rfl) c58 rfl ?_
                            refine s_aload_n rfl (cn rfl) rfl ?_
                            refine s_getfield rfl (cn rfl) c58 rfl ?_
                            refine s_iload_n rfl (cn rfl) rfl ?_
                            refine s_iastore rfl (cn rfl) _ rfl c64 (by omega) (by decide) ?_
                            refine s_aload_n rfl (cn rfl) rfl ?_
                            refine s_dupr rfl (cn rfl) ?_
                            refine s_getfield rfl (cn rfl) c58 rfl ?_
                            refine s_iconst rfl (cn rfl) ?_
                            refine s_iadd rfl (cn rfl) ?_
                            refine s_puti rfl (cn rfl) rfl c58 rfl ?_
                            refine s_return rfl ?_
                            first
                              | (refine ⟨rfl, Or.inl ⟨q14, (kd ta p (plN ta tl p), x14, 0), ?_, by omega, by omega, ⟨⟨by show 0 ≤ kd ta p (plN ta tl p); omega, by show kd ta p (plN ta tl p) ≤ 5; omega⟩, (by show -999 ≤ x14 ∧ x14 ≤ (999 : Int); omega), (by show -999 ≤ 0 ∧ 0 ≤ (999 : Int); omega)⟩, _, rfl, fr_s (by decide) (fr_s (by decide) (fr_s (by decide) (fr_s (by decide) hF))), rr_set_eq, rfl, rfl, rfl⟩⟩
                                 unfold rD
                                 rw [if_neg ek]
                                 rw [show kd ta p (plN ta tl p) = 0 by omega, rA_0, s1]; rfl
                                 done)
                              | (refine ⟨rfl, Or.inl ⟨q26, (kd ta p (plN ta tl p), x23, x26), ?_, by omega, by omega, ⟨⟨by show 0 ≤ kd ta p (plN ta tl p); omega, by show kd ta p (plN ta tl p) ≤ 5; omega⟩, (by show -999 ≤ x23 ∧ x23 ≤ (999 : Int); omega), (by show -999 ≤ x26 ∧ x26 ≤ (999 : Int); omega)⟩, _, rfl, fr_s (by decide) (fr_s (by decide) (fr_s (by decide) (fr_s (by decide) hF))), rr_set_eq, rfl, rfl, rfl⟩⟩
                                 unfold rD
                                 rw [if_neg ek]
                                 rw [rA_12 (by omega), s1]; show sb (sb (sb (rB ta tl q23) (rN ta tl)) _) _ = _; rw [s2]; rfl
                                 done)
                              | (refine ⟨rfl, Or.inl ⟨q35, (kd ta p (plN ta tl p), x32, x35), ?_, by omega, by omega, ⟨⟨by show 0 ≤ kd ta p (plN ta tl p); omega, by show kd ta p (plN ta tl p) ≤ 5; omega⟩, (by show -999 ≤ x32 ∧ x32 ≤ (999 : Int); omega), (by show -999 ≤ x35 ∧ x35 ≤ (999 : Int); omega)⟩, _, rfl, fr_s (by decide) (fr_s (by decide) (fr_s (by decide) (fr_s (by decide) hF))), rr_set_eq, rfl, rfl, rfl⟩⟩
                                 unfold rD
                                 rw [if_neg ek]
                                 rw [show kd ta p (plN ta tl p) = 5 by omega, rA_5, s1]; show sb (sb (sb (rB ta tl q32) (rP ta tl)) _) _ = _; rw [s2]; rfl
                                 done)
                              | (refine ⟨rfl, Or.inl ⟨(plN ta tl p), (kd ta p (plN ta tl p), 0, 0), ?_, by omega, by omega, ⟨⟨by show 0 ≤ kd ta p (plN ta tl p); omega, by show kd ta p (plN ta tl p) ≤ 5; omega⟩, (by show -999 ≤ 0 ∧ 0 ≤ (999 : Int); omega), (by show -999 ≤ 0 ∧ 0 ≤ (999 : Int); omega)⟩, _, rfl, fr_s (by decide) (fr_s (by decide) (fr_s (by decide) (fr_s (by decide) hF))), rr_set_eq, rfl, rfl, rfl⟩⟩
                                 unfold rD
                                 rw [if_neg ek]
                                 rw [rA_3 (by omega)]; rfl
                                 done)
                              | (have eD : rD ta tl p = .inl f14 := by
                                   unfold rD
                                   rw [if_neg ek]
                                   rw [show kd ta p (plN ta tl p) = 0 by omega, rA_0, ef]; rfl
                                 refine ⟨rfl, Or.inr ⟨_, eD, rD_l hp eD, _, _, _, _, _, _, rfl, fr_s (by decide) (fr_s (by decide) (fr_s (by decide) (fr_s (by decide) hF))), rr_set_eq, rfl, rfl, rfl⟩⟩
                                 done)
                              | (have eD : rD ta tl p = .inl f26 := by
                                   unfold rD
                                   rw [if_neg ek]
                                   rw [rA_12 (by omega), s1]; show sb (sb (sb (rB ta tl q23) (rN ta tl)) _) _ = _; rw [ef]; rfl
                                 refine ⟨rfl, Or.inr ⟨_, eD, rD_l hp eD, _, _, _, _, _, _, rfl, fr_s (by decide) (fr_s (by decide) (fr_s (by decide) (fr_s (by decide) hF))), rr_set_eq, rfl, rfl, rfl⟩⟩
                                 done)
                              | (have eD : rD ta tl p = .inl f23 := by
                                   unfold rD
                                   rw [if_neg ek]
                                   rw [rA_12 (by omega), ef]; rfl
                                 refine ⟨rfl, Or.inr ⟨_, eD, rD_l hp eD, _, _, _, _, _, _, rfl, fr_s (by decide) (fr_s (by decide) (fr_s (by decide) (fr_s (by decide) hF))), rr_set_eq, rfl, rfl, rfl⟩⟩
                                 done)
                              | (have eD : rD ta tl p = .inl f35 := by
                                   unfold rD
                                   rw [if_neg ek]
                                   rw [show kd ta p (plN ta tl p) = 5 by omega, rA_5, s1]; show sb (sb (sb (rB ta tl q32) (rP ta tl)) _) _ = _; rw [ef]; rfl
                                 refine ⟨rfl, Or.inr ⟨_, eD, rD_l hp eD, _, _, _, _, _, _, rfl, fr_s (by decide) (fr_s (by decide) (fr_s (by decide) (fr_s (by decide) hF))), rr_set_eq, rfl, rfl, rfl⟩⟩
                                 done)
                              | (have eD : rD ta tl p = .inl f32 := by
                                   unfold rD
                                   rw [if_neg ek]
                                   rw [show kd ta p (plN ta tl p) = 5 by omega, rA_5, ef]; rfl
                                 refine ⟨rfl, Or.inr ⟨_, eD, rD_l hp eD, _, _, _, _, _, _, rfl, fr_s (by decide) (fr_s (by decide) (fr_s (by decide) (fr_s (by decide) hF))), rr_set_eq, rfl, rfl, rfl⟩⟩
                                 done)
                          · have c61 := (hf35 61 (by decide)).trans c61
                            have c62 := (hf35 62 (by decide)).trans c62
                            have c63 := (hf35 63 (by decide)).trans c63
                            have c64 := (hf35 64 (by decide)).trans c64
                            have hF := fr_t hF hf35 (by decide)
                            refine s_istore_n rfl (cn rfl) ?_
                            refine s_aload_n rfl (cn rfl) rfl ?_
                            refine s_getfield rfl (cn rfl) c58 rfl ?_
                            refine s_aload_n rfl (cn rfl) rfl ?_
                            refine s_getfield rfl (cn rfl) c58 rfl ?_
                            refine s_iload_n rfl (cn rfl) rfl ?_
                            refine s_iastore rfl (cn rfl) _ rfl c62 (by omega) (by decide) ?_
                            refine s_aload_n rfl (cn rfl) rfl ?_
                            refine s_getfield rfl (cn rfl) c58 rfl ?_
                            refine s_aload_n rfl (cn rfl) rfl ?_
                            refine s_getfield rfl (cn rfl) c58 rfl ?_
                            refine s_iload_n rfl (cn rfl) rfl ?_
                            refine s_iastore rfl (cn rfl) _ rfl c63 (by omega) (by decide) ?_
                            refine s_aload_n rfl (cn rfl) rfl ?_
                            refine s_getfield rfl (cn rfl) c58 rfl ?_
                            refine s_aload_n rfl (cn rfl) rfl ?_
                            refine s_getfield rfl (cn rfl) c58 rfl ?_
                            refine s_iload_n rfl (cn rfl) rfl ?_
                            refine s_iastore rfl (cn rfl) _ rfl c64 (by omega) (by decide) ?_
                            refine s_aload_n rfl (cn rfl) rfl ?_
                            refine s_dupr rfl (cn rfl) ?_
                            refine s_getfield rfl (cn rfl) c58 rfl ?_
                            refine s_iconst rfl (cn rfl) ?_
                            refine s_iadd rfl (cn rfl) ?_
                            refine s_puti rfl (cn rfl) rfl c58 rfl ?_
                            refine s_return rfl ?_
                            first
                              | (refine ⟨rfl, Or.inl ⟨q14, (kd ta p (plN ta tl p), x14, 0), ?_, by omega, by omega, ⟨⟨by show 0 ≤ kd ta p (plN ta tl p); omega, by show kd ta p (plN ta tl p) ≤ 5; omega⟩, (by show -999 ≤ x14 ∧ x14 ≤ (999 : Int); omega), (by show -999 ≤ 0 ∧ 0 ≤ (999 : Int); omega)⟩, _, rfl, fr_s (by decide) (fr_s (by decide) (fr_s (by decide) (fr_s (by decide) hF))), rr_set_eq, rfl, rfl, rfl⟩⟩
                                 unfold rD
                                 rw [if_neg ek]
                                 rw [show kd ta p (plN ta tl p) = 0 by omega, rA_0, s1]; rfl
                                 done)
                              | (refine ⟨rfl, Or.inl ⟨q26, (kd ta p (plN ta tl p), x23, x26), ?_, by omega, by omega, ⟨⟨by show 0 ≤ kd ta p (plN ta tl p); omega, by show kd ta p (plN ta tl p) ≤ 5; omega⟩, (by show -999 ≤ x23 ∧ x23 ≤ (999 : Int); omega), (by show -999 ≤ x26 ∧ x26 ≤ (999 : Int); omega)⟩, _, rfl, fr_s (by decide) (fr_s (by decide) (fr_s (by decide) (fr_s (by decide) hF))), rr_set_eq, rfl, rfl, rfl⟩⟩
                                 unfold rD
                                 rw [if_neg ek]
                                 rw [rA_12 (by omega), s1]; show sb (sb (sb (rB ta tl q23) (rN ta tl)) _) _ = _; rw [s2]; rfl
                                 done)
                              | (refine ⟨rfl, Or.inl ⟨q35, (kd ta p (plN ta tl p), x32, x35), ?_, by omega, by omega, ⟨⟨by show 0 ≤ kd ta p (plN ta tl p); omega, by show kd ta p (plN ta tl p) ≤ 5; omega⟩, (by show -999 ≤ x32 ∧ x32 ≤ (999 : Int); omega), (by show -999 ≤ x35 ∧ x35 ≤ (999 : Int); omega)⟩, _, rfl, fr_s (by decide) (fr_s (by decide) (fr_s (by decide) (fr_s (by decide) hF))), rr_set_eq, rfl, rfl, rfl⟩⟩
                                 unfold rD
                                 rw [if_neg ek]
                                 rw [show kd ta p (plN ta tl p) = 5 by omega, rA_5, s1]; show sb (sb (sb (rB ta tl q32) (rP ta tl)) _) _ = _; rw [s2]; rfl
                                 done)
                              | (refine ⟨rfl, Or.inl ⟨(plN ta tl p), (kd ta p (plN ta tl p), 0, 0), ?_, by omega, by omega, ⟨⟨by show 0 ≤ kd ta p (plN ta tl p); omega, by show kd ta p (plN ta tl p) ≤ 5; omega⟩, (by show -999 ≤ 0 ∧ 0 ≤ (999 : Int); omega), (by show -999 ≤ 0 ∧ 0 ≤ (999 : Int); omega)⟩, _, rfl, fr_s (by decide) (fr_s (by decide) (fr_s (by decide) (fr_s (by decide) hF))), rr_set_eq, rfl, rfl, rfl⟩⟩
                                 unfold rD
                                 rw [if_neg ek]
                                 rw [rA_3 (by omega)]; rfl
                                 done)
                              | (have eD : rD ta tl p = .inl f14 := by
                                   unfold rD
                                   rw [if_neg ek]
                                   rw [show kd ta p (plN ta tl p) = 0 by omega, rA_0, ef]; rfl
                                 refine ⟨rfl, Or.inr ⟨_, eD, rD_l hp eD, _, _, _, _, _, _, rfl, fr_s (by decide) (fr_s (by decide) (fr_s (by decide) (fr_s (by decide) hF))), rr_set_eq, rfl, rfl, rfl⟩⟩
                                 done)
                              | (have eD : rD ta tl p = .inl f26 := by
                                   unfold rD
                                   rw [if_neg ek]
                                   rw [rA_12 (by omega), s1]; show sb (sb (sb (rB ta tl q23) (rN ta tl)) _) _ = _; rw [ef]; rfl
                                 refine ⟨rfl, Or.inr ⟨_, eD, rD_l hp eD, _, _, _, _, _, _, rfl, fr_s (by decide) (fr_s (by decide) (fr_s (by decide) (fr_s (by decide) hF))), rr_set_eq, rfl, rfl, rfl⟩⟩
                                 done)
                              | (have eD : rD ta tl p = .inl f23 := by
                                   unfold rD
                                   rw [if_neg ek]
                                   rw [rA_12 (by omega), ef]; rfl
                                 refine ⟨rfl, Or.inr ⟨_, eD, rD_l hp eD, _, _, _, _, _, _, rfl, fr_s (by decide) (fr_s (by decide) (fr_s (by decide) (fr_s (by decide) hF))), rr_set_eq, rfl, rfl, rfl⟩⟩
                                 done)
                              | (have eD : rD ta tl p = .inl f35 := by
                                   unfold rD
                                   rw [if_neg ek]
                                   rw [show kd ta p (plN ta tl p) = 5 by omega, rA_5, s1]; show sb (sb (sb (rB ta tl q32) (rP ta tl)) _) _ = _; rw [ef]; rfl
                                 refine ⟨rfl, Or.inr ⟨_, eD, rD_l hp eD, _, _, _, _, _, _, rfl, fr_s (by decide) (fr_s (by decide) (fr_s (by decide) (fr_s (by decide) hF))), rr_set_eq, rfl, rfl, rfl⟩⟩
                                 done)
                              | (have eD : rD ta tl p = .inl f32 := by
                                   unfold rD
                                   rw [if_neg ek]
                                   rw [show kd ta p (plN ta tl p) = 5 by omega, rA_5, ef]; rfl
                                 refine ⟨rfl, Or.inr ⟨_, eD, rD_l hp eD, _, _, _, _, _, _, rfl, fr_s (by decide) (fr_s (by decide) (fr_s (by decide) (fr_s (by decide) hF))), rr_set_eq, rfl, rfl, rfl⟩⟩
                                 done)
                        · have c61 := (hf32 61 (by decide)).trans c61
                          have c62 := (hf32 62 (by decide)).trans c62
                          have c63 := (hf32 63 (by decide)).trans c63
                          have c64 := (hf32 64 (by decide)).trans c64
                          have hF := fr_t hF hf32 (by decide)
                          refine s_istore_n rfl (cn rfl) ?_
                          refine s_aload_n rfl (cn rfl) rfl ?_
                          refine s_virt rfl (cn rfl) rfl rfl c58 rfl (m_person1 c58) ?_
                          rintro _ _ ⟨rfl, rfl⟩
                          · refine s_istore_n rfl (cn rfl) ?_
                            refine s_aload_n rfl (cn rfl) rfl ?_
                            refine s_getfield rfl (cn rfl) c58 rfl ?_
                            refine s_aload_n rfl (cn rfl) rfl ?_
                            refine s_getfield rfl (cn rfl) c58 rfl ?_
                            refine s_iload_n rfl (cn rfl) rfl ?_
                            refine s_iastore rfl (cn rfl) _ rfl c62 (by omega) (by decide) ?_
                            refine s_aload_n rfl (cn rfl) rfl ?_
                            refine s_getfield rfl (cn rfl) c58 rfl ?_
                            refine s_aload_n rfl (cn rfl) rfl ?_
                            refine s_getfield rfl (cn rfl) c58 rfl ?_
                            refine s_iload_n rfl (cn rfl) rfl ?_
                            refine s_iastore rfl (cn rfl) _ rfl c63 (by omega) (by decide) ?_
                            refine s_aload_n rfl (cn rfl) rfl ?_
                            refine s_getfield rfl (cn rfl) c58 rfl ?_
                            refine s_aload_n rfl (cn rfl) rfl ?_
                            refine s_getfield rfl (cn rfl) c58 rfl ?_
                            refine s_iload_n rfl (cn rfl) rfl ?_
                            refine s_iastore rfl (cn rfl) _ rfl c64 (by omega) (by decide) ?_
                            refine s_aload_n rfl (cn rfl) rfl ?_
                            refine s_dupr rfl (cn rfl) ?_
                            refine s_getfield rfl (cn rfl) c58 rfl ?_
                            refine s_iconst rfl (cn rfl) ?_
                            refine s_iadd rfl (cn rfl) ?_
                            refine s_puti rfl (cn rfl) rfl c58 rfl ?_
                            refine s_return rfl ?_
                            first
                              | (refine ⟨rfl, Or.inl ⟨q14, (kd ta p (plN ta tl p), x14, 0), ?_, by omega, by omega, ⟨⟨by show 0 ≤ kd ta p (plN ta tl p); omega, by show kd ta p (plN ta tl p) ≤ 5; omega⟩, (by show -999 ≤ x14 ∧ x14 ≤ (999 : Int); omega), (by show -999 ≤ 0 ∧ 0 ≤ (999 : Int); omega)⟩, _, rfl, fr_s (by decide) (fr_s (by decide) (fr_s (by decide) (fr_s (by decide) hF))), rr_set_eq, rfl, rfl, rfl⟩⟩
                                 unfold rD
                                 rw [if_neg ek]
                                 rw [show kd ta p (plN ta tl p) = 0 by omega, rA_0, s1]; rfl
                                 done)
                              | (refine ⟨rfl, Or.inl ⟨q26, (kd ta p (plN ta tl p), x23, x26), ?_, by omega, by omega, ⟨⟨by show 0 ≤ kd ta p (plN ta tl p); omega, by show kd ta p (plN ta tl p) ≤ 5; omega⟩, (by show -999 ≤ x23 ∧ x23 ≤ (999 : Int); omega), (by show -999 ≤ x26 ∧ x26 ≤ (999 : Int); omega)⟩, _, rfl, fr_s (by decide) (fr_s (by decide) (fr_s (by decide) (fr_s (by decide) hF))), rr_set_eq, rfl, rfl, rfl⟩⟩
                                 unfold rD
                                 rw [if_neg ek]
                                 rw [rA_12 (by omega), s1]; show sb (sb (sb (rB ta tl q23) (rN ta tl)) _) _ = _; rw [s2]; rfl
                                 done)
                              | (refine ⟨rfl, Or.inl ⟨q35, (kd ta p (plN ta tl p), x32, x35), ?_, by omega, by omega, ⟨⟨by show 0 ≤ kd ta p (plN ta tl p); omega, by show kd ta p (plN ta tl p) ≤ 5; omega⟩, (by show -999 ≤ x32 ∧ x32 ≤ (999 : Int); omega), (by show -999 ≤ x35 ∧ x35 ≤ (999 : Int); omega)⟩, _, rfl, fr_s (by decide) (fr_s (by decide) (fr_s (by decide) (fr_s (by decide) hF))), rr_set_eq, rfl, rfl, rfl⟩⟩
                                 unfold rD
                                 rw [if_neg ek]
                                 rw [show kd ta p (plN ta tl p) = 5 by omega, rA_5, s1]; show sb (sb (sb (rB ta tl q32) (rP ta tl)) _) _ = _; rw [s2]; rfl
                                 done)
                              | (refine ⟨rfl, Or.inl ⟨(plN ta tl p), (kd ta p (plN ta tl p), 0, 0), ?_, by omega, by omega, ⟨⟨by show 0 ≤ kd ta p (plN ta tl p); omega, by show kd ta p (plN ta tl p) ≤ 5; omega⟩, (by show -999 ≤ 0 ∧ 0 ≤ (999 : Int); omega), (by show -999 ≤ 0 ∧ 0 ≤ (999 : Int); omega)⟩, _, rfl, fr_s (by decide) (fr_s (by decide) (fr_s (by decide) (fr_s (by decide) hF))), rr_set_eq, rfl, rfl, rfl⟩⟩
                                 unfold rD
                                 rw [if_neg ek]
                                 rw [rA_3 (by omega)]; rfl
                                 done)
                              | (have eD : rD ta tl p = .inl f14 := by
                                   unfold rD
                                   rw [if_neg ek]
                                   rw [show kd ta p (plN ta tl p) = 0 by omega, rA_0, ef]; rfl
                                 refine ⟨rfl, Or.inr ⟨_, eD, rD_l hp eD, _, _, _, _, _, _, rfl, fr_s (by decide) (fr_s (by decide) (fr_s (by decide) (fr_s (by decide) hF))), rr_set_eq, rfl, rfl, rfl⟩⟩
                                 done)
                              | (have eD : rD ta tl p = .inl f26 := by
                                   unfold rD
                                   rw [if_neg ek]
                                   rw [rA_12 (by omega), s1]; show sb (sb (sb (rB ta tl q23) (rN ta tl)) _) _ = _; rw [ef]; rfl
                                 refine ⟨rfl, Or.inr ⟨_, eD, rD_l hp eD, _, _, _, _, _, _, rfl, fr_s (by decide) (fr_s (by decide) (fr_s (by decide) (fr_s (by decide) hF))), rr_set_eq, rfl, rfl, rfl⟩⟩
                                 done)
                              | (have eD : rD ta tl p = .inl f23 := by
                                   unfold rD
                                   rw [if_neg ek]
                                   rw [rA_12 (by omega), ef]; rfl
                                 refine ⟨rfl, Or.inr ⟨_, eD, rD_l hp eD, _, _, _, _, _, _, rfl, fr_s (by decide) (fr_s (by decide) (fr_s (by decide) (fr_s (by decide) hF))), rr_set_eq, rfl, rfl, rfl⟩⟩
                                 done)
                              | (have eD : rD ta tl p = .inl f35 := by
                                   unfold rD
                                   rw [if_neg ek]
                                   rw [show kd ta p (plN ta tl p) = 5 by omega, rA_5, s1]; show sb (sb (sb (rB ta tl q32) (rP ta tl)) _) _ = _; rw [ef]; rfl
                                 refine ⟨rfl, Or.inr ⟨_, eD, rD_l hp eD, _, _, _, _, _, _, rfl, fr_s (by decide) (fr_s (by decide) (fr_s (by decide) (fr_s (by decide) hF))), rr_set_eq, rfl, rfl, rfl⟩⟩
                                 done)
                              | (have eD : rD ta tl p = .inl f32 := by
                                   unfold rD
                                   rw [if_neg ek]
                                   rw [show kd ta p (plN ta tl p) = 5 by omega, rA_5, ef]; rfl
                                 refine ⟨rfl, Or.inr ⟨_, eD, rD_l hp eD, _, _, _, _, _, _, rfl, fr_s (by decide) (fr_s (by decide) (fr_s (by decide) (fr_s (by decide) hF))), rr_set_eq, rfl, rfl, rfl⟩⟩
                                 done)
                  · have c61 := (hf26 61 (by decide)).trans c61
                    have c62 := (hf26 62 (by decide)).trans c62
                    have c63 := (hf26 63 (by decide)).trans c63
                    have c64 := (hf26 64 (by decide)).trans c64
                    have hF := fr_t hF hf26 (by decide)
                    refine s_istore_n rfl (cn rfl) ?_
                    refine s_iload_n rfl (cn rfl) rfl ?_
                    refine s_iconst rfl (cn rfl) ?_
                    refine s_icmp_ne rfl (cn rfl) (cn rfl) ⟨by omega, by omega⟩ ⟨by omega, by omega⟩ (fun q30 => ?_) (fun q30 => ?_)
                    · first
                      | (exfalso; omega)
                      | skip
                        refine s_aload_n rfl (cn rfl) rfl ?_
                        refine s_getfield rfl (cn rfl) c58 rfl ?_
                        refine s_aload_n rfl (cn rfl) rfl ?_
                        refine s_getfield rfl (cn rfl) c58 rfl ?_
                        refine s_iload_n rfl (cn rfl) rfl ?_
                        refine s_iastore rfl (cn rfl) _ rfl c62 (by omega) (by decide) ?_
                        refine s_aload_n rfl (cn rfl) rfl ?_
                        refine s_getfield rfl (cn rfl) c58 rfl ?_
                        refine s_aload_n rfl (cn rfl) rfl ?_
                        refine s_getfield rfl (cn rfl) c58 rfl ?_
                        refine s_iload_n rfl (cn rfl) rfl ?_
                        refine s_iastore rfl (cn rfl) _ rfl c63 (by omega) (by decide) ?_
                        refine s_aload_n rfl (cn rfl) rfl ?_
                        refine s_getfield rfl (cn rfl) c58 rfl ?_
                        refine s_aload_n rfl (cn rfl) rfl ?_
                        refine s_getfield rfl (cn rfl) c58 rfl ?_
                        refine s_iload_n rfl (cn rfl) rfl ?_
                        refine s_iastore rfl (cn rfl) _ rfl c64 (by omega) (by decide) ?_
                        refine s_aload_n rfl (cn rfl) rfl ?_
                        refine s_dupr rfl (cn rfl) ?_
                        refine s_getfield rfl (cn rfl) c58 rfl ?_
                        refine s_iconst rfl (cn rfl) ?_
                        refine s_iadd rfl (cn rfl) ?_
                        refine s_puti rfl (cn rfl) rfl c58 rfl ?_
                        refine s_return rfl ?_
                        first
                          | (refine ⟨rfl, Or.inl ⟨q14, (kd ta p (plN ta tl p), x14, 0), ?_, by omega, by omega, ⟨⟨by show 0 ≤ kd ta p (plN ta tl p); omega, by show kd ta p (plN ta tl p) ≤ 5; omega⟩, (by show -999 ≤ x14 ∧ x14 ≤ (999 : Int); omega), (by show -999 ≤ 0 ∧ 0 ≤ (999 : Int); omega)⟩, _, rfl, fr_s (by decide) (fr_s (by decide) (fr_s (by decide) (fr_s (by decide) hF))), rr_set_eq, rfl, rfl, rfl⟩⟩
                             unfold rD
                             rw [if_neg ek]
                             rw [show kd ta p (plN ta tl p) = 0 by omega, rA_0, s1]; rfl
                             done)
                          | (refine ⟨rfl, Or.inl ⟨q26, (kd ta p (plN ta tl p), x23, x26), ?_, by omega, by omega, ⟨⟨by show 0 ≤ kd ta p (plN ta tl p); omega, by show kd ta p (plN ta tl p) ≤ 5; omega⟩, (by show -999 ≤ x23 ∧ x23 ≤ (999 : Int); omega), (by show -999 ≤ x26 ∧ x26 ≤ (999 : Int); omega)⟩, _, rfl, fr_s (by decide) (fr_s (by decide) (fr_s (by decide) (fr_s (by decide) hF))), rr_set_eq, rfl, rfl, rfl⟩⟩
                             unfold rD
                             rw [if_neg ek]
                             rw [rA_12 (by omega), s1]; show sb (sb (sb (rB ta tl q23) (rN ta tl)) _) _ = _; rw [s2]; rfl
                             done)
                          | (refine ⟨rfl, Or.inl ⟨q35, (kd ta p (plN ta tl p), x32, x35), ?_, by omega, by omega, ⟨⟨by show 0 ≤ kd ta p (plN ta tl p); omega, by show kd ta p (plN ta tl p) ≤ 5; omega⟩, (by show -999 ≤ x32 ∧ x32 ≤ (999 : Int); omega), (by show -999 ≤ x35 ∧ x35 ≤ (999 : Int); omega)⟩, _, rfl, fr_s (by decide) (fr_s (by decide) (fr_s (by decide) (fr_s (by decide) hF))), rr_set_eq, rfl, rfl, rfl⟩⟩
                             unfold rD
                             rw [if_neg ek]
                             rw [show kd ta p (plN ta tl p) = 5 by omega, rA_5, s1]; show sb (sb (sb (rB ta tl q32) (rP ta tl)) _) _ = _; rw [s2]; rfl
                             done)
                          | (refine ⟨rfl, Or.inl ⟨(plN ta tl p), (kd ta p (plN ta tl p), 0, 0), ?_, by omega, by omega, ⟨⟨by show 0 ≤ kd ta p (plN ta tl p); omega, by show kd ta p (plN ta tl p) ≤ 5; omega⟩, (by show -999 ≤ 0 ∧ 0 ≤ (999 : Int); omega), (by show -999 ≤ 0 ∧ 0 ≤ (999 : Int); omega)⟩, _, rfl, fr_s (by decide) (fr_s (by decide) (fr_s (by decide) (fr_s (by decide) hF))), rr_set_eq, rfl, rfl, rfl⟩⟩
                             unfold rD
                             rw [if_neg ek]
                             rw [rA_3 (by omega)]; rfl
                             done)
                          | (have eD : rD ta tl p = .inl f14 := by
                               unfold rD
                               rw [if_neg ek]
                               rw [show kd ta p (plN ta tl p) = 0 by omega, rA_0, ef]; rfl
                             refine ⟨rfl, Or.inr ⟨_, eD, rD_l hp eD, _, _, _, _, _, _, rfl, fr_s (by decide) (fr_s (by decide) (fr_s (by decide) (fr_s (by decide) hF))), rr_set_eq, rfl, rfl, rfl⟩⟩
                             done)
                          | (have eD : rD ta tl p = .inl f26 := by
                               unfold rD
                               rw [if_neg ek]
                               rw [rA_12 (by omega), s1]; show sb (sb (sb (rB ta tl q23) (rN ta tl)) _) _ = _; rw [ef]; rfl
                             refine ⟨rfl, Or.inr ⟨_, eD, rD_l hp eD, _, _, _, _, _, _, rfl, fr_s (by decide) (fr_s (by decide) (fr_s (by decide) (fr_s (by decide) hF))), rr_set_eq, rfl, rfl, rfl⟩⟩
                             done)
                          | (have eD : rD ta tl p = .inl f23 := by
                               unfold rD
                               rw [if_neg ek]
                               rw [rA_12 (by omega), ef]; rfl
                             refine ⟨rfl, Or.inr ⟨_, eD, rD_l hp eD, _, _, _, _, _, _, rfl, fr_s (by decide) (fr_s (by decide) (fr_s (by decide) (fr_s (by decide) hF))), rr_set_eq, rfl, rfl, rfl⟩⟩
                             done)
                          | (have eD : rD ta tl p = .inl f35 := by
                               unfold rD
                               rw [if_neg ek]
                               rw [show kd ta p (plN ta tl p) = 5 by omega, rA_5, s1]; show sb (sb (sb (rB ta tl q32) (rP ta tl)) _) _ = _; rw [ef]; rfl
                             refine ⟨rfl, Or.inr ⟨_, eD, rD_l hp eD, _, _, _, _, _, _, rfl, fr_s (by decide) (fr_s (by decide) (fr_s (by decide) (fr_s (by decide) hF))), rr_set_eq, rfl, rfl, rfl⟩⟩
                             done)
                          | (have eD : rD ta tl p = .inl f32 := by
                               unfold rD
                               rw [if_neg ek]
                               rw [show kd ta p (plN ta tl p) = 5 by omega, rA_5, ef]; rfl
                             refine ⟨rfl, Or.inr ⟨_, eD, rD_l hp eD, _, _, _, _, _, _, rfl, fr_s (by decide) (fr_s (by decide) (fr_s (by decide) (fr_s (by decide) hF))), rr_set_eq, rfl, rfl, rfl⟩⟩
                             done)
                    · first
                      | (exfalso; omega)
                      | skip
                        refine s_aload_n rfl (cn rfl) rfl ?_
                        refine s_virt rfl (cn rfl) rfl rfl c58 rfl (m_person1 c58) ?_
                        rintro _ _ ⟨rfl, rfl⟩
                        · refine s_istore_n rfl (cn rfl) ?_
                          refine s_aload_n rfl (cn rfl) rfl ?_
                          refine s_virt rfl (cn rfl) rfl rfl c58 rfl (m_person1 c58) ?_
                          rintro _ _ ⟨rfl, rfl⟩
                          · refine s_istore_n rfl (cn rfl) ?_
                            refine s_aload_n rfl (cn rfl) rfl ?_
                            refine s_getfield rfl (cn rfl) c58 rfl ?_
                            refine s_aload_n rfl (cn rfl) rfl ?_
                            refine s_getfield rfl (cn rfl) c58 rfl ?_
                            refine s_iload_n rfl (cn rfl) rfl ?_
                            refine s_iastore rfl (cn rfl) _ rfl c62 (by omega) (by decide) ?_
                            refine s_aload_n rfl (cn rfl) rfl ?_
                            refine s_getfield rfl (cn rfl) c58 rfl ?_
                            refine s_aload_n rfl (cn rfl) rfl ?_
                            refine s_getfield rfl (cn rfl) c58 rfl ?_
                            refine s_iload_n rfl (cn rfl) rfl ?_
                            refine s_iastore rfl (cn rfl) _ rfl c63 (by omega) (by decide) ?_
                            refine s_aload_n rfl (cn rfl) rfl ?_
                            refine s_getfield rfl (cn rfl) c58 rfl ?_
                            refine s_aload_n rfl (cn rfl) rfl ?_
                            refine s_getfield rfl (cn rfl) c58 rfl ?_
                            refine s_iload_n rfl (cn rfl) rfl ?_
                            refine s_iastore rfl (cn rfl) _ rfl c64 (by omega) (by decide) ?_
                            refine s_aload_n rfl (cn rfl) rfl ?_
                            refine s_dupr rfl (cn rfl) ?_
                            refine s_getfield rfl (cn rfl) c58 rfl ?_
                            refine s_iconst rfl (cn rfl) ?_
                            refine s_iadd rfl (cn rfl) ?_
                            refine s_puti rfl (cn rfl) rfl c58 rfl ?_
                            refine s_return rfl ?_
                            first
                              | (refine ⟨rfl, Or.inl ⟨q14, (kd ta p (plN ta tl p), x14, 0), ?_, by omega, by omega, ⟨⟨by show 0 ≤ kd ta p (plN ta tl p); omega, by show kd ta p (plN ta tl p) ≤ 5; omega⟩, (by show -999 ≤ x14 ∧ x14 ≤ (999 : Int); omega), (by show -999 ≤ 0 ∧ 0 ≤ (999 : Int); omega)⟩, _, rfl, fr_s (by decide) (fr_s (by decide) (fr_s (by decide) (fr_s (by decide) hF))), rr_set_eq, rfl, rfl, rfl⟩⟩
                                 unfold rD
                                 rw [if_neg ek]
                                 rw [show kd ta p (plN ta tl p) = 0 by omega, rA_0, s1]; rfl
                                 done)
                              | (refine ⟨rfl, Or.inl ⟨q26, (kd ta p (plN ta tl p), x23, x26), ?_, by omega, by omega, ⟨⟨by show 0 ≤ kd ta p (plN ta tl p); omega, by show kd ta p (plN ta tl p) ≤ 5; omega⟩, (by show -999 ≤ x23 ∧ x23 ≤ (999 : Int); omega), (by show -999 ≤ x26 ∧ x26 ≤ (999 : Int); omega)⟩, _, rfl, fr_s (by decide) (fr_s (by decide) (fr_s (by decide) (fr_s (by decide) hF))), rr_set_eq, rfl, rfl, rfl⟩⟩
                                 unfold rD
                                 rw [if_neg ek]
                                 rw [rA_12 (by omega), s1]; show sb (sb (sb (rB ta tl q23) (rN ta tl)) _) _ = _; rw [s2]; rfl
                                 done)
                              | (refine ⟨rfl, Or.inl ⟨q35, (kd ta p (plN ta tl p), x32, x35), ?_, by omega, by omega, ⟨⟨by show 0 ≤ kd ta p (plN ta tl p); omega, by show kd ta p (plN ta tl p) ≤ 5; omega⟩, (by show -999 ≤ x32 ∧ x32 ≤ (999 : Int); omega), (by show -999 ≤ x35 ∧ x35 ≤ (999 : Int); omega)⟩, _, rfl, fr_s (by decide) (fr_s (by decide) (fr_s (by decide) (fr_s (by decide) hF))), rr_set_eq, rfl, rfl, rfl⟩⟩
                                 unfold rD
                                 rw [if_neg ek]
                                 rw [show kd ta p (plN ta tl p) = 5 by omega, rA_5, s1]; show sb (sb (sb (rB ta tl q32) (rP ta tl)) _) _ = _; rw [s2]; rfl
                                 done)
                              | (refine ⟨rfl, Or.inl ⟨(plN ta tl p), (kd ta p (plN ta tl p), 0, 0), ?_, by omega, by omega, ⟨⟨by show 0 ≤ kd ta p (plN ta tl p); omega, by show kd ta p (plN ta tl p) ≤ 5; omega⟩, (by show -999 ≤ 0 ∧ 0 ≤ (999 : Int); omega), (by show -999 ≤ 0 ∧ 0 ≤ (999 : Int); omega)⟩, _, rfl, fr_s (by decide) (fr_s (by decide) (fr_s (by decide) (fr_s (by decide) hF))), rr_set_eq, rfl, rfl, rfl⟩⟩
                                 unfold rD
                                 rw [if_neg ek]
                                 rw [rA_3 (by omega)]; rfl
                                 done)
                              | (have eD : rD ta tl p = .inl f14 := by
                                   unfold rD
                                   rw [if_neg ek]
                                   rw [show kd ta p (plN ta tl p) = 0 by omega, rA_0, ef]; rfl
                                 refine ⟨rfl, Or.inr ⟨_, eD, rD_l hp eD, _, _, _, _, _, _, rfl, fr_s (by decide) (fr_s (by decide) (fr_s (by decide) (fr_s (by decide) hF))), rr_set_eq, rfl, rfl, rfl⟩⟩
                                 done)
                              | (have eD : rD ta tl p = .inl f26 := by
                                   unfold rD
                                   rw [if_neg ek]
                                   rw [rA_12 (by omega), s1]; show sb (sb (sb (rB ta tl q23) (rN ta tl)) _) _ = _; rw [ef]; rfl
                                 refine ⟨rfl, Or.inr ⟨_, eD, rD_l hp eD, _, _, _, _, _, _, rfl, fr_s (by decide) (fr_s (by decide) (fr_s (by decide) (fr_s (by decide) hF))), rr_set_eq, rfl, rfl, rfl⟩⟩
                                 done)
                              | (have eD : rD ta tl p = .inl f23 := by
                                   unfold rD
                                   rw [if_neg ek]
                                   rw [rA_12 (by omega), ef]; rfl
                                 refine ⟨rfl, Or.inr ⟨_, eD, rD_l hp eD, _, _, _, _, _, _, rfl, fr_s (by decide) (fr_s (by decide) (fr_s (by decide) (fr_s (by decide) hF))), rr_set_eq, rfl, rfl, rfl⟩⟩
                                 done)
                              | (have eD : rD ta tl p = .inl f35 := by
                                   unfold rD
                                   rw [if_neg ek]
                                   rw [show kd ta p (plN ta tl p) = 5 by omega, rA_5, s1]; show sb (sb (sb (rB ta tl q32) (rP ta tl)) _) _ = _; rw [ef]; rfl
                                 refine ⟨rfl, Or.inr ⟨_, eD, rD_l hp eD, _, _, _, _, _, _, rfl, fr_s (by decide) (fr_s (by decide) (fr_s (by decide) (fr_s (by decide) hF))), rr_set_eq, rfl, rfl, rfl⟩⟩
                                 done)
                              | (have eD : rD ta tl p = .inl f32 := by
                                   unfold rD
                                   rw [if_neg ek]
                                   rw [show kd ta p (plN ta tl p) = 5 by omega, rA_5, ef]; rfl
                                 refine ⟨rfl, Or.inr ⟨_, eD, rD_l hp eD, _, _, _, _, _, _, rfl, fr_s (by decide) (fr_s (by decide) (fr_s (by decide) (fr_s (by decide) hF))), rr_set_eq, rfl, rfl, rfl⟩⟩
                                 done)
                · have c61 := (hf23 61 (by decide)).trans c61
                  have c62 := (hf23 62 (by decide)).trans c62
                  have c63 := (hf23 63 (by decide)).trans c63
                  have c64 := (hf23 64 (by decide)).trans c64
                  have hF := fr_t hF hf23 (by decide)
                  refine s_istore_n rfl (cn rfl) ?_
                  refine s_aload_n rfl (cn rfl) rfl ?_
                  refine s_virt rfl (cn rfl) rfl rfl c58 rfl (m_number1 c58) ?_
                  rintro _ _ ⟨rfl, rfl⟩
                  · refine s_istore_n rfl (cn rfl) ?_
                    refine s_iload_n rfl (cn rfl) rfl ?_
                    refine s_iconst rfl (cn rfl) ?_
                    refine s_icmp_ne rfl (cn rfl) (cn rfl) ⟨by omega, by omega⟩ ⟨by omega, by omega⟩ (fun q30 => ?_) (fun q30 => ?_)
                    · first
                      | (exfalso; omega)
                      | skip
                        refine s_aload_n rfl (cn rfl) rfl ?_
                        refine s_getfield rfl (cn rfl) c58 rfl ?_
                        refine s_aload_n rfl (cn rfl) rfl ?_
                        refine s_getfield rfl (cn rfl) c58 rfl ?_
                        refine s_iload_n rfl (cn rfl) rfl ?_
                        refine s_iastore rfl (cn rfl) _ rfl c62 (by omega) (by decide) ?_
                        refine s_aload_n rfl (cn rfl) rfl ?_
                        refine s_getfield rfl (cn rfl) c58 rfl ?_
                        refine s_aload_n rfl (cn rfl) rfl ?_
                        refine s_getfield rfl (cn rfl) c58 rfl ?_
                        refine s_iload_n rfl (cn rfl) rfl ?_
                        refine s_iastore rfl (cn rfl) _ rfl c63 (by omega) (by decide) ?_
                        refine s_aload_n rfl (cn rfl) rfl ?_
                        refine s_getfield rfl (cn rfl) c58 rfl ?_
                        refine s_aload_n rfl (cn rfl) rfl ?_
                        refine s_getfield rfl (cn rfl) c58 rfl ?_
                        refine s_iload_n rfl (cn rfl) rfl ?_
                        refine s_iastore rfl (cn rfl) _ rfl c64 (by omega) (by decide) ?_
                        refine s_aload_n rfl (cn rfl) rfl ?_
                        refine s_dupr rfl (cn rfl) ?_
                        refine s_getfield rfl (cn rfl) c58 rfl ?_
                        refine s_iconst rfl (cn rfl) ?_
                        refine s_iadd rfl (cn rfl) ?_
                        refine s_puti rfl (cn rfl) rfl c58 rfl ?_
                        refine s_return rfl ?_
                        first
                          | (refine ⟨rfl, Or.inl ⟨q14, (kd ta p (plN ta tl p), x14, 0), ?_, by omega, by omega, ⟨⟨by show 0 ≤ kd ta p (plN ta tl p); omega, by show kd ta p (plN ta tl p) ≤ 5; omega⟩, (by show -999 ≤ x14 ∧ x14 ≤ (999 : Int); omega), (by show -999 ≤ 0 ∧ 0 ≤ (999 : Int); omega)⟩, _, rfl, fr_s (by decide) (fr_s (by decide) (fr_s (by decide) (fr_s (by decide) hF))), rr_set_eq, rfl, rfl, rfl⟩⟩
                             unfold rD
                             rw [if_neg ek]
                             rw [show kd ta p (plN ta tl p) = 0 by omega, rA_0, s1]; rfl
                             done)
                          | (refine ⟨rfl, Or.inl ⟨q26, (kd ta p (plN ta tl p), x23, x26), ?_, by omega, by omega, ⟨⟨by show 0 ≤ kd ta p (plN ta tl p); omega, by show kd ta p (plN ta tl p) ≤ 5; omega⟩, (by show -999 ≤ x23 ∧ x23 ≤ (999 : Int); omega), (by show -999 ≤ x26 ∧ x26 ≤ (999 : Int); omega)⟩, _, rfl, fr_s (by decide) (fr_s (by decide) (fr_s (by decide) (fr_s (by decide) hF))), rr_set_eq, rfl, rfl, rfl⟩⟩
                             unfold rD
                             rw [if_neg ek]
                             rw [rA_12 (by omega), s1]; show sb (sb (sb (rB ta tl q23) (rN ta tl)) _) _ = _; rw [s2]; rfl
                             done)
                          | (refine ⟨rfl, Or.inl ⟨q35, (kd ta p (plN ta tl p), x32, x35), ?_, by omega, by omega, ⟨⟨by show 0 ≤ kd ta p (plN ta tl p); omega, by show kd ta p (plN ta tl p) ≤ 5; omega⟩, (by show -999 ≤ x32 ∧ x32 ≤ (999 : Int); omega), (by show -999 ≤ x35 ∧ x35 ≤ (999 : Int); omega)⟩, _, rfl, fr_s (by decide) (fr_s (by decide) (fr_s (by decide) (fr_s (by decide) hF))), rr_set_eq, rfl, rfl, rfl⟩⟩
                             unfold rD
                             rw [if_neg ek]
                             rw [show kd ta p (plN ta tl p) = 5 by omega, rA_5, s1]; show sb (sb (sb (rB ta tl q32) (rP ta tl)) _) _ = _; rw [s2]; rfl
                             done)
                          | (refine ⟨rfl, Or.inl ⟨(plN ta tl p), (kd ta p (plN ta tl p), 0, 0), ?_, by omega, by omega, ⟨⟨by show 0 ≤ kd ta p (plN ta tl p); omega, by show kd ta p (plN ta tl p) ≤ 5; omega⟩, (by show -999 ≤ 0 ∧ 0 ≤ (999 : Int); omega), (by show -999 ≤ 0 ∧ 0 ≤ (999 : Int); omega)⟩, _, rfl, fr_s (by decide) (fr_s (by decide) (fr_s (by decide) (fr_s (by decide) hF))), rr_set_eq, rfl, rfl, rfl⟩⟩
                             unfold rD
                             rw [if_neg ek]
                             rw [rA_3 (by omega)]; rfl
                             done)
                          | (have eD : rD ta tl p = .inl f14 := by
                               unfold rD
                               rw [if_neg ek]
                               rw [show kd ta p (plN ta tl p) = 0 by omega, rA_0, ef]; rfl
                             refine ⟨rfl, Or.inr ⟨_, eD, rD_l hp eD, _, _, _, _, _, _, rfl, fr_s (by decide) (fr_s (by decide) (fr_s (by decide) (fr_s (by decide) hF))), rr_set_eq, rfl, rfl, rfl⟩⟩
                             done)
                          | (have eD : rD ta tl p = .inl f26 := by
                               unfold rD
                               rw [if_neg ek]
                               rw [rA_12 (by omega), s1]; show sb (sb (sb (rB ta tl q23) (rN ta tl)) _) _ = _; rw [ef]; rfl
                             refine ⟨rfl, Or.inr ⟨_, eD, rD_l hp eD, _, _, _, _, _, _, rfl, fr_s (by decide) (fr_s (by decide) (fr_s (by decide) (fr_s (by decide) hF))), rr_set_eq, rfl, rfl, rfl⟩⟩
                             done)
                          | (have eD : rD ta tl p = .inl f23 := by
                               unfold rD
                               rw [if_neg ek]
                               rw [rA_12 (by omega), ef]; rfl
                             refine ⟨rfl, Or.inr ⟨_, eD, rD_l hp eD, _, _, _, _, _, _, rfl, fr_s (by decide) (fr_s (by decide) (fr_s (by decide) (fr_s (by decide) hF))), rr_set_eq, rfl, rfl, rfl⟩⟩
                             done)
                          | (have eD : rD ta tl p = .inl f35 := by
                               unfold rD
                               rw [if_neg ek]
                               rw [show kd ta p (plN ta tl p) = 5 by omega, rA_5, s1]; show sb (sb (sb (rB ta tl q32) (rP ta tl)) _) _ = _; rw [ef]; rfl
                             refine ⟨rfl, Or.inr ⟨_, eD, rD_l hp eD, _, _, _, _, _, _, rfl, fr_s (by decide) (fr_s (by decide) (fr_s (by decide) (fr_s (by decide) hF))), rr_set_eq, rfl, rfl, rfl⟩⟩
                             done)
                          | (have eD : rD ta tl p = .inl f32 := by
                               unfold rD
                               rw [if_neg ek]
                               rw [show kd ta p (plN ta tl p) = 5 by omega, rA_5, ef]; rfl
                             refine ⟨rfl, Or.inr ⟨_, eD, rD_l hp eD, _, _, _, _, _, _, rfl, fr_s (by decide) (fr_s (by decide) (fr_s (by decide) (fr_s (by decide) hF))), rr_set_eq, rfl, rfl, rfl⟩⟩
                             done)
                    · first
                      | (exfalso; omega)
                      | skip
                        refine s_aload_n rfl (cn rfl) rfl ?_
                        refine s_virt rfl (cn rfl) rfl rfl c58 rfl (m_person1 c58) ?_
                        rintro _ _ ⟨rfl, rfl⟩
                        · refine s_istore_n rfl (cn rfl) ?_
                          refine s_aload_n rfl (cn rfl) rfl ?_
                          refine s_virt rfl (cn rfl) rfl rfl c58 rfl (m_person1 c58) ?_
                          rintro _ _ ⟨rfl, rfl⟩
                          · refine s_istore_n rfl (cn rfl) ?_
                            refine s_aload_n rfl (cn rfl) rfl ?_
                            refine s_getfield rfl (cn rfl) c58 rfl ?_
                            refine s_aload_n rfl (cn rfl) rfl ?_
                            refine s_getfield rfl (cn rfl) c58 rfl ?_
                            refine s_iload_n rfl (cn rfl) rfl ?_
                            refine s_iastore rfl (cn rfl) _ rfl c62 (by omega) (by decide) ?_
                            refine s_aload_n rfl (cn rfl) rfl ?_
                            refine s_getfield rfl (cn rfl) c58 rfl ?_
                            refine s_aload_n rfl (cn rfl) rfl ?_
                            refine s_getfield rfl (cn rfl) c58 rfl ?_
                            refine s_iload_n rfl (cn rfl) rfl ?_
                            refine s_iastore rfl (cn rfl) _ rfl c63 (by omega) (by decide) ?_
                            refine s_aload_n rfl (cn rfl) rfl ?_
                            refine s_getfield rfl (cn rfl) c58 rfl ?_
                            refine s_aload_n rfl (cn rfl) rfl ?_
                            refine s_getfield rfl (cn rfl) c58 rfl ?_
                            refine s_iload_n rfl (cn rfl) rfl ?_
                            refine s_iastore rfl (cn rfl) _ rfl c64 (by omega) (by decide) ?_
                            refine s_aload_n rfl (cn rfl) rfl ?_
                            refine s_dupr rfl (cn rfl) ?_
                            refine s_getfield rfl (cn rfl) c58 rfl ?_
                            refine s_iconst rfl (cn rfl) ?_
                            refine s_iadd rfl (cn rfl) ?_
                            refine s_puti rfl (cn rfl) rfl c58 rfl ?_
                            refine s_return rfl ?_
                            first
                              | (refine ⟨rfl, Or.inl ⟨q14, (kd ta p (plN ta tl p), x14, 0), ?_, by omega, by omega, ⟨⟨by show 0 ≤ kd ta p (plN ta tl p); omega, by show kd ta p (plN ta tl p) ≤ 5; omega⟩, (by show -999 ≤ x14 ∧ x14 ≤ (999 : Int); omega), (by show -999 ≤ 0 ∧ 0 ≤ (999 : Int); omega)⟩, _, rfl, fr_s (by decide) (fr_s (by decide) (fr_s (by decide) (fr_s (by decide) hF))), rr_set_eq, rfl, rfl, rfl⟩⟩
                                 unfold rD
                                 rw [if_neg ek]
                                 rw [show kd ta p (plN ta tl p) = 0 by omega, rA_0, s1]; rfl
                                 done)
                              | (refine ⟨rfl, Or.inl ⟨q26, (kd ta p (plN ta tl p), x23, x26), ?_, by omega, by omega, ⟨⟨by show 0 ≤ kd ta p (plN ta tl p); omega, by show kd ta p (plN ta tl p) ≤ 5; omega⟩, (by show -999 ≤ x23 ∧ x23 ≤ (999 : Int); omega), (by show -999 ≤ x26 ∧ x26 ≤ (999 : Int); omega)⟩, _, rfl, fr_s (by decide) (fr_s (by decide) (fr_s (by decide) (fr_s (by decide) hF))), rr_set_eq, rfl, rfl, rfl⟩⟩
                                 unfold rD
                                 rw [if_neg ek]
                                 rw [rA_12 (by omega), s1]; show sb (sb (sb (rB ta tl q23) (rN ta tl)) _) _ = _; rw [s2]; rfl
                                 done)
                              | (refine ⟨rfl, Or.inl ⟨q35, (kd ta p (plN ta tl p), x32, x35), ?_, by omega, by omega, ⟨⟨by show 0 ≤ kd ta p (plN ta tl p); omega, by show kd ta p (plN ta tl p) ≤ 5; omega⟩, (by show -999 ≤ x32 ∧ x32 ≤ (999 : Int); omega), (by show -999 ≤ x35 ∧ x35 ≤ (999 : Int); omega)⟩, _, rfl, fr_s (by decide) (fr_s (by decide) (fr_s (by decide) (fr_s (by decide) hF))), rr_set_eq, rfl, rfl, rfl⟩⟩
                                 unfold rD
                                 rw [if_neg ek]
                                 rw [show kd ta p (plN ta tl p) = 5 by omega, rA_5, s1]; show sb (sb (sb (rB ta tl q32) (rP ta tl)) _) _ = _; rw [s2]; rfl
                                 done)
                              | (refine ⟨rfl, Or.inl ⟨(plN ta tl p), (kd ta p (plN ta tl p), 0, 0), ?_, by omega, by omega, ⟨⟨by show 0 ≤ kd ta p (plN ta tl p); omega, by show kd ta p (plN ta tl p) ≤ 5; omega⟩, (by show -999 ≤ 0 ∧ 0 ≤ (999 : Int); omega), (by show -999 ≤ 0 ∧ 0 ≤ (999 : Int); omega)⟩, _, rfl, fr_s (by decide) (fr_s (by decide) (fr_s (by decide) (fr_s (by decide) hF))), rr_set_eq, rfl, rfl, rfl⟩⟩
                                 unfold rD
                                 rw [if_neg ek]
                                 rw [rA_3 (by omega)]; rfl
                                 done)
                              | (have eD : rD ta tl p = .inl f14 := by
                                   unfold rD
                                   rw [if_neg ek]
                                   rw [show kd ta p (plN ta tl p) = 0 by omega, rA_0, ef]; rfl
                                 refine ⟨rfl, Or.inr ⟨_, eD, rD_l hp eD, _, _, _, _, _, _, rfl, fr_s (by decide) (fr_s (by decide) (fr_s (by decide) (fr_s (by decide) hF))), rr_set_eq, rfl, rfl, rfl⟩⟩
                                 done)
                              | (have eD : rD ta tl p = .inl f26 := by
                                   unfold rD
                                   rw [if_neg ek]
                                   rw [rA_12 (by omega), s1]; show sb (sb (sb (rB ta tl q23) (rN ta tl)) _) _ = _; rw [ef]; rfl
                                 refine ⟨rfl, Or.inr ⟨_, eD, rD_l hp eD, _, _, _, _, _, _, rfl, fr_s (by decide) (fr_s (by decide) (fr_s (by decide) (fr_s (by decide) hF))), rr_set_eq, rfl, rfl, rfl⟩⟩
                                 done)
                              | (have eD : rD ta tl p = .inl f23 := by
                                   unfold rD
                                   rw [if_neg ek]
                                   rw [rA_12 (by omega), ef]; rfl
                                 refine ⟨rfl, Or.inr ⟨_, eD, rD_l hp eD, _, _, _, _, _, _, rfl, fr_s (by decide) (fr_s (by decide) (fr_s (by decide) (fr_s (by decide) hF))), rr_set_eq, rfl, rfl, rfl⟩⟩
                                 done)
                              | (have eD : rD ta tl p = .inl f35 := by
                                   unfold rD
                                   rw [if_neg ek]
                                   rw [show kd ta p (plN ta tl p) = 5 by omega, rA_5, s1]; show sb (sb (sb (rB ta tl q32) (rP ta tl)) _) _ = _; rw [ef]; rfl
                                 refine ⟨rfl, Or.inr ⟨_, eD, rD_l hp eD, _, _, _, _, _, _, rfl, fr_s (by decide) (fr_s (by decide) (fr_s (by decide) (fr_s (by decide) hF))), rr_set_eq, rfl, rfl, rfl⟩⟩
                                 done)
                              | (have eD : rD ta tl p = .inl f32 := by
                                   unfold rD
                                   rw [if_neg ek]
                                   rw [show kd ta p (plN ta tl p) = 5 by omega, rA_5, ef]; rfl
                                 refine ⟨rfl, Or.inr ⟨_, eD, rD_l hp eD, _, _, _, _, _, _, rfl, fr_s (by decide) (fr_s (by decide) (fr_s (by decide) (fr_s (by decide) hF))), rr_set_eq, rfl, rfl, rfl⟩⟩
                                 done)
            · first
              | (exfalso; omega)
              | skip
                refine s_iload_n rfl (cn rfl) rfl ?_
                refine s_iconst rfl (cn rfl) ?_
                refine s_icmp_ne rfl (cn rfl) (cn rfl) ⟨by omega, by omega⟩ ⟨by omega, by omega⟩ (fun q21 => ?_) (fun q21 => ?_)
                · first
                  | (exfalso; omega)
                  | skip
                    refine s_iload_n rfl (cn rfl) rfl ?_
                    refine s_iconst rfl (cn rfl) ?_
                    refine s_icmp_ne rfl (cn rfl) (cn rfl) ⟨by omega, by omega⟩ ⟨by omega, by omega⟩ (fun q30 => ?_) (fun q30 => ?_)
                    · first
                      | (exfalso; omega)
                      | skip
                        refine s_aload_n rfl (cn rfl) rfl ?_
                        refine s_getfield rfl (cn rfl) c58 rfl ?_
                        refine s_aload_n rfl (cn rfl) rfl ?_
                        refine s_getfield rfl (cn rfl) c58 rfl ?_
                        refine s_iload_n rfl (cn rfl) rfl ?_
                        refine s_iastore rfl (cn rfl) _ rfl c62 (by omega) (by decide) ?_
                        refine s_aload_n rfl (cn rfl) rfl ?_
                        refine s_getfield rfl (cn rfl) c58 rfl ?_
                        refine s_aload_n rfl (cn rfl) rfl ?_
                        refine s_getfield rfl (cn rfl) c58 rfl ?_
                        refine s_iload_n rfl (cn rfl) rfl ?_
                        refine s_iastore rfl (cn rfl) _ rfl c63 (by omega) (by decide) ?_
                        refine s_aload_n rfl (cn rfl) rfl ?_
                        refine s_getfield rfl (cn rfl) c58 rfl ?_
                        refine s_aload_n rfl (cn rfl) rfl ?_
                        refine s_getfield rfl (cn rfl) c58 rfl ?_
                        refine s_iload_n rfl (cn rfl) rfl ?_
                        refine s_iastore rfl (cn rfl) _ rfl c64 (by omega) (by decide) ?_
                        refine s_aload_n rfl (cn rfl) rfl ?_
                        refine s_dupr rfl (cn rfl) ?_
                        refine s_getfield rfl (cn rfl) c58 rfl ?_
                        refine s_iconst rfl (cn rfl) ?_
                        refine s_iadd rfl (cn rfl) ?_
                        refine s_puti rfl (cn rfl) rfl c58 rfl ?_
                        refine s_return rfl ?_
                        first
                          | (refine ⟨rfl, Or.inl ⟨q14, (kd ta p (plN ta tl p), x14, 0), ?_, by omega, by omega, ⟨⟨by show 0 ≤ kd ta p (plN ta tl p); omega, by show kd ta p (plN ta tl p) ≤ 5; omega⟩, (by show -999 ≤ x14 ∧ x14 ≤ (999 : Int); omega), (by show -999 ≤ 0 ∧ 0 ≤ (999 : Int); omega)⟩, _, rfl, fr_s (by decide) (fr_s (by decide) (fr_s (by decide) (fr_s (by decide) hF))), rr_set_eq, rfl, rfl, rfl⟩⟩
                             unfold rD
                             rw [if_neg ek]
                             rw [show kd ta p (plN ta tl p) = 0 by omega, rA_0, s1]; rfl
                             done)
                          | (refine ⟨rfl, Or.inl ⟨q26, (kd ta p (plN ta tl p), x23, x26), ?_, by omega, by omega, ⟨⟨by show 0 ≤ kd ta p (plN ta tl p); omega, by show kd ta p (plN ta tl p) ≤ 5; omega⟩, (by show -999 ≤ x23 ∧ x23 ≤ (999 : Int); omega), (by show -999 ≤ x26 ∧ x26 ≤ (999 : Int); omega)⟩, _, rfl, fr_s (by decide) (fr_s (by decide) (fr_s (by decide) (fr_s (by decide) hF))), rr_set_eq, rfl, rfl, rfl⟩⟩
                             unfold rD
                             rw [if_neg ek]
                             rw [rA_12 (by omega), s1]; show sb (sb (sb (rB ta tl q23) (rN ta tl)) _) _ = _; rw [s2]; rfl
                             done)
                          | (refine ⟨rfl, Or.inl ⟨q35, (kd ta p (plN ta tl p), x32, x35), ?_, by omega, by omega, ⟨⟨by show 0 ≤ kd ta p (plN ta tl p); omega, by show kd ta p (plN ta tl p) ≤ 5; omega⟩, (by show -999 ≤ x32 ∧ x32 ≤ (999 : Int); omega), (by show -999 ≤ x35 ∧ x35 ≤ (999 : Int); omega)⟩, _, rfl, fr_s (by decide) (fr_s (by decide) (fr_s (by decide) (fr_s (by decide) hF))), rr_set_eq, rfl, rfl, rfl⟩⟩
                             unfold rD
                             rw [if_neg ek]
                             rw [show kd ta p (plN ta tl p) = 5 by omega, rA_5, s1]; show sb (sb (sb (rB ta tl q32) (rP ta tl)) _) _ = _; rw [s2]; rfl
                             done)
                          | (refine ⟨rfl, Or.inl ⟨(plN ta tl p), (kd ta p (plN ta tl p), 0, 0), ?_, by omega, by omega, ⟨⟨by show 0 ≤ kd ta p (plN ta tl p); omega, by show kd ta p (plN ta tl p) ≤ 5; omega⟩, (by show -999 ≤ 0 ∧ 0 ≤ (999 : Int); omega), (by show -999 ≤ 0 ∧ 0 ≤ (999 : Int); omega)⟩, _, rfl, fr_s (by decide) (fr_s (by decide) (fr_s (by decide) (fr_s (by decide) hF))), rr_set_eq, rfl, rfl, rfl⟩⟩
                             unfold rD
                             rw [if_neg ek]
                             rw [rA_3 (by omega)]; rfl
                             done)
                          | (have eD : rD ta tl p = .inl f14 := by
                               unfold rD
                               rw [if_neg ek]
                               rw [show kd ta p (plN ta tl p) = 0 by omega, rA_0, ef]; rfl
                             refine ⟨rfl, Or.inr ⟨_, eD, rD_l hp eD, _, _, _, _, _, _, rfl, fr_s (by decide) (fr_s (by decide) (fr_s (by decide) (fr_s (by decide) hF))), rr_set_eq, rfl, rfl, rfl⟩⟩
                             done)
                          | (have eD : rD ta tl p = .inl f26 := by
                               unfold rD
                               rw [if_neg ek]
                               rw [rA_12 (by omega), s1]; show sb (sb (sb (rB ta tl q23) (rN ta tl)) _) _ = _; rw [ef]; rfl
                             refine ⟨rfl, Or.inr ⟨_, eD, rD_l hp eD, _, _, _, _, _, _, rfl, fr_s (by decide) (fr_s (by decide) (fr_s (by decide) (fr_s (by decide) hF))), rr_set_eq, rfl, rfl, rfl⟩⟩
                             done)
                          | (have eD : rD ta tl p = .inl f23 := by
                               unfold rD
                               rw [if_neg ek]
                               rw [rA_12 (by omega), ef]; rfl
                             refine ⟨rfl, Or.inr ⟨_, eD, rD_l hp eD, _, _, _, _, _, _, rfl, fr_s (by decide) (fr_s (by decide) (fr_s (by decide) (fr_s (by decide) hF))), rr_set_eq, rfl, rfl, rfl⟩⟩
                             done)
                          | (have eD : rD ta tl p = .inl f35 := by
                               unfold rD
                               rw [if_neg ek]
                               rw [show kd ta p (plN ta tl p) = 5 by omega, rA_5, s1]; show sb (sb (sb (rB ta tl q32) (rP ta tl)) _) _ = _; rw [ef]; rfl
                             refine ⟨rfl, Or.inr ⟨_, eD, rD_l hp eD, _, _, _, _, _, _, rfl, fr_s (by decide) (fr_s (by decide) (fr_s (by decide) (fr_s (by decide) hF))), rr_set_eq, rfl, rfl, rfl⟩⟩
                             done)
                          | (have eD : rD ta tl p = .inl f32 := by
                               unfold rD
                               rw [if_neg ek]
                               rw [show kd ta p (plN ta tl p) = 5 by omega, rA_5, ef]; rfl
                             refine ⟨rfl, Or.inr ⟨_, eD, rD_l hp eD, _, _, _, _, _, _, rfl, fr_s (by decide) (fr_s (by decide) (fr_s (by decide) (fr_s (by decide) hF))), rr_set_eq, rfl, rfl, rfl⟩⟩
                             done)
                    · first
                      | (exfalso; omega)
                      | skip
                        refine s_aload_n rfl (cn rfl) rfl ?_
                        refine s_virt rfl (cn rfl) rfl rfl c58 rfl (m_person0 htl pl2 ht c58 c61) ?_
                        rintro _ _ (⟨q32, x32, s1, rfl, h32, rfl, hf32, c58⟩ | ⟨f32, r32, t32, ef, rfl, h32, rfl, hf32, c58⟩)
                        · have c61 := (hf32 61 (by decide)).trans c61
                          have c62 := (hf32 62 (by decide)).trans c62
                          have c63 := (hf32 63 (by decide)).trans c63
                          have c64 := (hf32 64 (by decide)).trans c64
                          have hF := fr_t hF hf32 (by decide)
                          have b32 := bP_b s1
                          refine s_istore_n rfl (cn rfl) ?_
                          refine s_aload_n rfl (cn rfl) rfl ?_
                          refine s_virt rfl (cn rfl) rfl rfl c58 rfl (m_person0 htl b32.2.1 ht c58 c61) ?_
                          rintro _ _ (⟨q35, x35, s2, rfl, h35, rfl, hf35, c58⟩ | ⟨f35, r35, t35, ef, rfl, h35, rfl, hf35, c58⟩)
                          · have c61 := (hf35 61 (by decide)).trans c61
                            have c62 := (hf35 62 (by decide)).trans c62
                            have c63 := (hf35 63 (by decide)).trans c63
                            have c64 := (hf35 64 (by decide)).trans c64
                            have hF := fr_t hF hf35 (by decide)
                            have b35 := bP_b s2
                            refine s_istore_n rfl (cn rfl) ?_
                            refine s_aload_n rfl (cn rfl) rfl ?_
                            refine s_getfield rfl (cn rfl) c58 rfl ?_
                            refine s_aload_n rfl (cn rfl) rfl ?_
                            refine s_getfield rfl (cn rfl) c58 rfl ?_
                            refine s_iload_n rfl (cn rfl) rfl ?_
                            refine s_iastore rfl (cn rfl) _ rfl c62 (by omega) (by decide) ?_
                            refine s_aload_n rfl (cn rfl) rfl ?_
                            refine s_getfield rfl (cn rfl) c58 rfl ?_
                            refine s_aload_n rfl (cn rfl) rfl ?_
                            refine s_getfield rfl (cn rfl) c58 rfl ?_
                            refine s_iload_n rfl (cn rfl) rfl ?_
                            refine s_iastore rfl (cn rfl) _ rfl c63 (by omega) (by decide) ?_
                            refine s_aload_n rfl (cn rfl) rfl ?_
                            refine s_getfield rfl (cn rfl) c58 rfl ?_
                            refine s_aload_n rfl (cn rfl) rfl ?_
                            refine s_getfield rfl (cn rfl) c58 rfl ?_
                            refine s_iload_n rfl (cn rfl) rfl ?_
                            refine s_iastore rfl (cn rfl) _ rfl c64 (by omega) (by decide) ?_
                            refine s_aload_n rfl (cn rfl) rfl ?_
                            refine s_dupr rfl (cn rfl) ?_
                            refine s_getfield rfl (cn rfl) c58 rfl ?_
                            refine s_iconst rfl (cn rfl) ?_
                            refine s_iadd rfl (cn rfl) ?_
                            refine s_puti rfl (cn rfl) rfl c58 rfl ?_
                            refine s_return rfl ?_
                            first
                              | (refine ⟨rfl, Or.inl ⟨q14, (kd ta p (plN ta tl p), x14, 0), ?_, by omega, by omega, ⟨⟨by show 0 ≤ kd ta p (plN ta tl p); omega, by show kd ta p (plN ta tl p) ≤ 5; omega⟩, (by show -999 ≤ x14 ∧ x14 ≤ (999 : Int); omega), (by show -999 ≤ 0 ∧ 0 ≤ (999 : Int); omega)⟩, _, rfl, fr_s (by decide) (fr_s (by decide) (fr_s (by decide) (fr_s (by decide) hF))), rr_set_eq, rfl, rfl, rfl⟩⟩
                                 unfold rD
                                 rw [if_neg ek]
                                 rw [show kd ta p (plN ta tl p) = 0 by omega, rA_0, s1]; rfl
                                 done)
                              | (refine ⟨rfl, Or.inl ⟨q26, (kd ta p (plN ta tl p), x23, x26), ?_, by omega, by omega, ⟨⟨by show 0 ≤ kd ta p (plN ta tl p); omega, by show kd ta p (plN ta tl p) ≤ 5; omega⟩, (by show -999 ≤ x23 ∧ x23 ≤ (999 : Int); omega), (by show -999 ≤ x26 ∧ x26 ≤ (999 : Int); omega)⟩, _, rfl, fr_s (by decide) (fr_s (by decide) (fr_s (by decide) (fr_s (by decide) hF))), rr_set_eq, rfl, rfl, rfl⟩⟩
                                 unfold rD
                                 rw [if_neg ek]
                                 rw [rA_12 (by omega), s1]; show sb (sb (sb (rB ta tl q23) (rN ta tl)) _) _ = _; rw [s2]; rfl
                                 done)
                              | (refine ⟨rfl, Or.inl ⟨q35, (kd ta p (plN ta tl p), x32, x35), ?_, by omega, by omega, ⟨⟨by show 0 ≤ kd ta p (plN ta tl p); omega, by show kd ta p (plN ta tl p) ≤ 5; omega⟩, (by show -999 ≤ x32 ∧ x32 ≤ (999 : Int); omega), (by show -999 ≤ x35 ∧ x35 ≤ (999 : Int); omega)⟩, _, rfl, fr_s (by decide) (fr_s (by decide) (fr_s (by decide) (fr_s (by decide) hF))), rr_set_eq, rfl, rfl, rfl⟩⟩
                                 unfold rD
                                 rw [if_neg ek]
                                 rw [show kd ta p (plN ta tl p) = 5 by omega, rA_5, s1]; show sb (sb (sb (rB ta tl q32) (rP ta tl)) _) _ = _; rw [s2]; rfl
                                 done)
                              | (refine ⟨rfl, Or.inl ⟨(plN ta tl p), (kd ta p (plN ta tl p), 0, 0), ?_, by omega, by omega, ⟨⟨by show 0 ≤ kd ta p (plN ta tl p); omega, by show kd ta p (plN ta tl p) ≤ 5; omega⟩, (by show -999 ≤ 0 ∧ 0 ≤ (999 : Int); omega), (by show -999 ≤ 0 ∧ 0 ≤ (999 : Int); omega)⟩, _, rfl, fr_s (by decide) (fr_s (by decide) (fr_s (by decide) (fr_s (by decide) hF))), rr_set_eq, rfl, rfl, rfl⟩⟩
                                 unfold rD
                                 rw [if_neg ek]
                                 rw [rA_3 (by omega)]; rfl
                                 done)
                              | (have eD : rD ta tl p = .inl f14 := by
                                   unfold rD
                                   rw [if_neg ek]
                                   rw [show kd ta p (plN ta tl p) = 0 by omega, rA_0, ef]; rfl
                                 refine ⟨rfl, Or.inr ⟨_, eD, rD_l hp eD, _, _, _, _, _, _, rfl, fr_s (by decide) (fr_s (by decide) (fr_s (by decide) (fr_s (by decide) hF))), rr_set_eq, rfl, rfl, rfl⟩⟩
                                 done)
                              | (have eD : rD ta tl p = .inl f26 := by
                                   unfold rD
                                   rw [if_neg ek]
                                   rw [rA_12 (by omega), s1]; show sb (sb (sb (rB ta tl q23) (rN ta tl)) _) _ = _; rw [ef]; rfl
                                 refine ⟨rfl, Or.inr ⟨_, eD, rD_l hp eD, _, _, _, _, _, _, rfl, fr_s (by decide) (fr_s (by decide) (fr_s (by decide) (fr_s (by decide) hF))), rr_set_eq, rfl, rfl, rfl⟩⟩
                                 done)
                              | (have eD : rD ta tl p = .inl f23 := by
                                   unfold rD
                                   rw [if_neg ek]
                                   rw [rA_12 (by omega), ef]; rfl
                                 refine ⟨rfl, Or.inr ⟨_, eD, rD_l hp eD, _, _, _, _, _, _, rfl, fr_s (by decide) (fr_s (by decide) (fr_s (by decide) (fr_s (by decide) hF))), rr_set_eq, rfl, rfl, rfl⟩⟩
                                 done)
                              | (have eD : rD ta tl p = .inl f35 := by
                                   unfold rD
                                   rw [if_neg ek]
                                   rw [show kd ta p (plN ta tl p) = 5 by omega, rA_5, s1]; show sb (sb (sb (rB ta tl q32) (rP ta tl)) _) _ = _; rw [ef]; rfl
                                 refine ⟨rfl, Or.inr ⟨_, eD, rD_l hp eD, _, _, _, _, _, _, rfl, fr_s (by decide) (fr_s (by decide) (fr_s (by decide) (fr_s (by decide) hF))), rr_set_eq, rfl, rfl, rfl⟩⟩
                                 done)
                              | (have eD : rD ta tl p = .inl f32 := by
                                   unfold rD
                                   rw [if_neg ek]
                                   rw [show kd ta p (plN ta tl p) = 5 by omega, rA_5, ef]; rfl
                                 refine ⟨rfl, Or.inr ⟨_, eD, rD_l hp eD, _, _, _, _, _, _, rfl, fr_s (by decide) (fr_s (by decide) (fr_s (by decide) (fr_s (by decide) hF))), rr_set_eq, rfl, rfl, rfl⟩⟩
                                 done)
                          · have c61 := (hf35 61 (by decide)).trans c61
                            have c62 := (hf35 62 (by decide)).trans c62
                            have c63 := (hf35 63 (by decide)).trans c63
                            have c64 := (hf35 64 (by decide)).trans c64
                            have hF := fr_t hF hf35 (by decide)
                            refine s_istore_n rfl (cn rfl) ?_
                            refine s_aload_n rfl (cn rfl) rfl ?_
                            refine s_getfield rfl (cn rfl) c58 rfl ?_
                            refine s_aload_n rfl (cn rfl) rfl ?_
                            refine s_getfield rfl (cn rfl) c58 rfl ?_
                            refine s_iload_n rfl (cn rfl) rfl ?_
                            refine s_iastore rfl (cn rfl) _ rfl c62 (by omega) (by decide) ?_
                            refine s_aload_n rfl (cn rfl) rfl ?_
                            refine s_getfield rfl (cn rfl) c58 rfl ?_
                            refine s_aload_n rfl (cn rfl) rfl ?_
                            refine s_getfield rfl (cn rfl) c58 rfl ?_
                            refine s_iload_n rfl (cn rfl) rfl ?_
                            refine s_iastore rfl (cn rfl) _ rfl c63 (by omega) (by decide) ?_
                            refine s_aload_n rfl (cn rfl) rfl ?_
                            refine s_getfield rfl (cn rfl) c58 rfl ?_
                            refine s_aload_n rfl (cn rfl) rfl ?_
                            refine s_getfield rfl (cn rfl) c58 rfl ?_
                            refine s_iload_n rfl (cn rfl) rfl ?_
                            refine s_iastore rfl (cn rfl) _ rfl c64 (by omega) (by decide) ?_
                            refine s_aload_n rfl (cn rfl) rfl ?_
                            refine s_dupr rfl (cn rfl) ?_
                            refine s_getfield rfl (cn rfl) c58 rfl ?_
                            refine s_iconst rfl (cn rfl) ?_
                            refine s_iadd rfl (cn rfl) ?_
                            refine s_puti rfl (cn rfl) rfl c58 rfl ?_
                            refine s_return rfl ?_
                            first
                              | (refine ⟨rfl, Or.inl ⟨q14, (kd ta p (plN ta tl p), x14, 0), ?_, by omega, by omega, ⟨⟨by show 0 ≤ kd ta p (plN ta tl p); omega, by show kd ta p (plN ta tl p) ≤ 5; omega⟩, (by show -999 ≤ x14 ∧ x14 ≤ (999 : Int); omega), (by show -999 ≤ 0 ∧ 0 ≤ (999 : Int); omega)⟩, _, rfl, fr_s (by decide) (fr_s (by decide) (fr_s (by decide) (fr_s (by decide) hF))), rr_set_eq, rfl, rfl, rfl⟩⟩
                                 unfold rD
                                 rw [if_neg ek]
                                 rw [show kd ta p (plN ta tl p) = 0 by omega, rA_0, s1]; rfl
                                 done)
                              | (refine ⟨rfl, Or.inl ⟨q26, (kd ta p (plN ta tl p), x23, x26), ?_, by omega, by omega, ⟨⟨by show 0 ≤ kd ta p (plN ta tl p); omega, by show kd ta p (plN ta tl p) ≤ 5; omega⟩, (by show -999 ≤ x23 ∧ x23 ≤ (999 : Int); omega), (by show -999 ≤ x26 ∧ x26 ≤ (999 : Int); omega)⟩, _, rfl, fr_s (by decide) (fr_s (by decide) (fr_s (by decide) (fr_s (by decide) hF))), rr_set_eq, rfl, rfl, rfl⟩⟩
                                 unfold rD
                                 rw [if_neg ek]
                                 rw [rA_12 (by omega), s1]; show sb (sb (sb (rB ta tl q23) (rN ta tl)) _) _ = _; rw [s2]; rfl
                                 done)
                              | (refine ⟨rfl, Or.inl ⟨q35, (kd ta p (plN ta tl p), x32, x35), ?_, by omega, by omega, ⟨⟨by show 0 ≤ kd ta p (plN ta tl p); omega, by show kd ta p (plN ta tl p) ≤ 5; omega⟩, (by show -999 ≤ x32 ∧ x32 ≤ (999 : Int); omega), (by show -999 ≤ x35 ∧ x35 ≤ (999 : Int); omega)⟩, _, rfl, fr_s (by decide) (fr_s (by decide) (fr_s (by decide) (fr_s (by decide) hF))), rr_set_eq, rfl, rfl, rfl⟩⟩
                                 unfold rD
                                 rw [if_neg ek]
                                 rw [show kd ta p (plN ta tl p) = 5 by omega, rA_5, s1]; show sb (sb (sb (rB ta tl q32) (rP ta tl)) _) _ = _; rw [s2]; rfl
                                 done)
                              | (refine ⟨rfl, Or.inl ⟨(plN ta tl p), (kd ta p (plN ta tl p), 0, 0), ?_, by omega, by omega, ⟨⟨by show 0 ≤ kd ta p (plN ta tl p); omega, by show kd ta p (plN ta tl p) ≤ 5; omega⟩, (by show -999 ≤ 0 ∧ 0 ≤ (999 : Int); omega), (by show -999 ≤ 0 ∧ 0 ≤ (999 : Int); omega)⟩, _, rfl, fr_s (by decide) (fr_s (by decide) (fr_s (by decide) (fr_s (by decide) hF))), rr_set_eq, rfl, rfl, rfl⟩⟩
                                 unfold rD
                                 rw [if_neg ek]
                                 rw [rA_3 (by omega)]; rfl
                                 done)
                              | (have eD : rD ta tl p = .inl f14 := by
                                   unfold rD
                                   rw [if_neg ek]
                                   rw [show kd ta p (plN ta tl p) = 0 by omega, rA_0, ef]; rfl
                                 refine ⟨rfl, Or.inr ⟨_, eD, rD_l hp eD, _, _, _, _, _, _, rfl, fr_s (by decide) (fr_s (by decide) (fr_s (by decide) (fr_s (by decide) hF))), rr_set_eq, rfl, rfl, rfl⟩⟩
                                 done)
                              | (have eD : rD ta tl p = .inl f26 := by
                                   unfold rD
                                   rw [if_neg ek]
                                   rw [rA_12 (by omega), s1]; show sb (sb (sb (rB ta tl q23) (rN ta tl)) _) _ = _; rw [ef]; rfl
                                 refine ⟨rfl, Or.inr ⟨_, eD, rD_l hp eD, _, _, _, _, _, _, rfl, fr_s (by decide) (fr_s (by decide) (fr_s (by decide) (fr_s (by decide) hF))), rr_set_eq, rfl, rfl, rfl⟩⟩
                                 done)
                              | (have eD : rD ta tl p = .inl f23 := by
                                   unfold rD
                                   rw [if_neg ek]
                                   rw [rA_12 (by omega), ef]; rfl
                                 refine ⟨rfl, Or.inr ⟨_, eD, rD_l hp eD, _, _, _, _, _, _, rfl, fr_s (by decide) (fr_s (by decide) (fr_s (by decide) (fr_s (by decide) hF))), rr_set_eq, rfl, rfl, rfl⟩⟩
                                 done)
                              | (have eD : rD ta tl p = .inl f35 := by
                                   unfold rD
                                   rw [if_neg ek]
                                   rw [show kd ta p (plN ta tl p) = 5 by omega, rA_5, s1]; show sb (sb (sb (rB ta tl q32) (rP ta tl)) _) _ = _; rw [ef]; rfl
                                 refine ⟨rfl, Or.inr ⟨_, eD, rD_l hp eD, _, _, _, _, _, _, rfl, fr_s (by decide) (fr_s (by decide) (fr_s (by decide) (fr_s (by decide) hF))), rr_set_eq, rfl, rfl, rfl⟩⟩
                                 done)
                              | (have eD : rD ta tl p = .inl f32 := by
                                   unfold rD
                                   rw [if_neg ek]
                                   rw [show kd ta p (plN ta tl p) = 5 by omega, rA_5, ef]; rfl
                                 refine ⟨rfl, Or.inr ⟨_, eD, rD_l hp eD, _, _, _, _, _, _, rfl, fr_s (by decide) (fr_s (by decide) (fr_s (by decide) (fr_s (by decide) hF))), rr_set_eq, rfl, rfl, rfl⟩⟩
                                 done)
                        · have c61 := (hf32 61 (by decide)).trans c61
                          have c62 := (hf32 62 (by decide)).trans c62
                          have c63 := (hf32 63 (by decide)).trans c63
                          have c64 := (hf32 64 (by decide)).trans c64
                          have hF := fr_t hF hf32 (by decide)
                          refine s_istore_n rfl (cn rfl) ?_
                          refine s_aload_n rfl (cn rfl) rfl ?_
                          refine s_virt rfl (cn rfl) rfl rfl c58 rfl (m_person1 c58) ?_
                          rintro _ _ ⟨rfl, rfl⟩
                          · refine s_istore_n rfl (cn rfl) ?_
                            refine s_aload_n rfl (cn rfl) rfl ?_
                            refine s_getfield rfl (cn rfl) c58 rfl ?_
                            refine s_aload_n rfl (cn rfl) rfl ?_
                            refine s_getfield rfl (cn rfl) c58 rfl ?_
                            refine s_iload_n rfl (cn rfl) rfl ?_
                            refine s_iastore rfl (cn rfl) _ rfl c62 (by omega) (by decide) ?_
                            refine s_aload_n rfl (cn rfl) rfl ?_
                            refine s_getfield rfl (cn rfl) c58 rfl ?_
                            refine s_aload_n rfl (cn rfl) rfl ?_
                            refine s_getfield rfl (cn rfl) c58 rfl ?_
                            refine s_iload_n rfl (cn rfl) rfl ?_
                            refine s_iastore rfl (cn rfl) _ rfl c63 (by omega) (by decide) ?_
                            refine s_aload_n rfl (cn rfl) rfl ?_
                            refine s_getfield rfl (cn rfl) c58 rfl ?_
                            refine s_aload_n rfl (cn rfl) rfl ?_
                            refine s_getfield rfl (cn rfl) c58 rfl ?_
                            refine s_iload_n rfl (cn rfl) rfl ?_
                            refine s_iastore rfl (cn rfl) _ rfl c64 (by omega) (by decide) ?_
                            refine s_aload_n rfl (cn rfl) rfl ?_
                            refine s_dupr rfl (cn rfl) ?_
                            refine s_getfield rfl (cn rfl) c58 rfl ?_
                            refine s_iconst rfl (cn rfl) ?_
                            refine s_iadd rfl (cn rfl) ?_
                            refine s_puti rfl (cn rfl) rfl c58 rfl ?_
                            refine s_return rfl ?_
                            first
                              | (refine ⟨rfl, Or.inl ⟨q14, (kd ta p (plN ta tl p), x14, 0), ?_, by omega, by omega, ⟨⟨by show 0 ≤ kd ta p (plN ta tl p); omega, by show kd ta p (plN ta tl p) ≤ 5; omega⟩, (by show -999 ≤ x14 ∧ x14 ≤ (999 : Int); omega), (by show -999 ≤ 0 ∧ 0 ≤ (999 : Int); omega)⟩, _, rfl, fr_s (by decide) (fr_s (by decide) (fr_s (by decide) (fr_s (by decide) hF))), rr_set_eq, rfl, rfl, rfl⟩⟩
                                 unfold rD
                                 rw [if_neg ek]
                                 rw [show kd ta p (plN ta tl p) = 0 by omega, rA_0, s1]; rfl
                                 done)
                              | (refine ⟨rfl, Or.inl ⟨q26, (kd ta p (plN ta tl p), x23, x26), ?_, by omega, by omega, ⟨⟨by show 0 ≤ kd ta p (plN ta tl p); omega, by show kd ta p (plN ta tl p) ≤ 5; omega⟩, (by show -999 ≤ x23 ∧ x23 ≤ (999 : Int); omega), (by show -999 ≤ x26 ∧ x26 ≤ (999 : Int); omega)⟩, _, rfl, fr_s (by decide) (fr_s (by decide) (fr_s (by decide) (fr_s (by decide) hF))), rr_set_eq, rfl, rfl, rfl⟩⟩
                                 unfold rD
                                 rw [if_neg ek]
                                 rw [rA_12 (by omega), s1]; show sb (sb (sb (rB ta tl q23) (rN ta tl)) _) _ = _; rw [s2]; rfl
                                 done)
                              | (refine ⟨rfl, Or.inl ⟨q35, (kd ta p (plN ta tl p), x32, x35), ?_, by omega, by omega, ⟨⟨by show 0 ≤ kd ta p (plN ta tl p); omega, by show kd ta p (plN ta tl p) ≤ 5; omega⟩, (by show -999 ≤ x32 ∧ x32 ≤ (999 : Int); omega), (by show -999 ≤ x35 ∧ x35 ≤ (999 : Int); omega)⟩, _, rfl, fr_s (by decide) (fr_s (by decide) (fr_s (by decide) (fr_s (by decide) hF))), rr_set_eq, rfl, rfl, rfl⟩⟩
                                 unfold rD
                                 rw [if_neg ek]
                                 rw [show kd ta p (plN ta tl p) = 5 by omega, rA_5, s1]; show sb (sb (sb (rB ta tl q32) (rP ta tl)) _) _ = _; rw [s2]; rfl
                                 done)
                              | (refine ⟨rfl, Or.inl ⟨(plN ta tl p), (kd ta p (plN ta tl p), 0, 0), ?_, by omega, by omega, ⟨⟨by show 0 ≤ kd ta p (plN ta tl p); omega, by show kd ta p (plN ta tl p) ≤ 5; omega⟩, (by show -999 ≤ 0 ∧ 0 ≤ (999 : Int); omega), (by show -999 ≤ 0 ∧ 0 ≤ (999 : Int); omega)⟩, _, rfl, fr_s (by decide) (fr_s (by decide) (fr_s (by decide) (fr_s (by decide) hF))), rr_set_eq, rfl, rfl, rfl⟩⟩
                                 unfold rD
                                 rw [if_neg ek]
                                 rw [rA_3 (by omega)]; rfl
                                 done)
                              | (have eD : rD ta tl p = .inl f14 := by
                                   unfold rD
                                   rw [if_neg ek]
                                   rw [show kd ta p (plN ta tl p) = 0 by omega, rA_0, ef]; rfl
                                 refine ⟨rfl, Or.inr ⟨_, eD, rD_l hp eD, _, _, _, _, _, _, rfl, fr_s (by decide) (fr_s (by decide) (fr_s (by decide) (fr_s (by decide) hF))), rr_set_eq, rfl, rfl, rfl⟩⟩
                                 done)
                              | (have eD : rD ta tl p = .inl f26 := by
                                   unfold rD
                                   rw [if_neg ek]
                                   rw [rA_12 (by omega), s1]; show sb (sb (sb (rB ta tl q23) (rN ta tl)) _) _ = _; rw [ef]; rfl
                                 refine ⟨rfl, Or.inr ⟨_, eD, rD_l hp eD, _, _, _, _, _, _, rfl, fr_s (by decide) (fr_s (by decide) (fr_s (by decide) (fr_s (by decide) hF))), rr_set_eq, rfl, rfl, rfl⟩⟩
                                 done)
                              | (have eD : rD ta tl p = .inl f23 := by
                                   unfold rD
                                   rw [if_neg ek]
                                   rw [rA_12 (by omega), ef]; rfl
                                 refine ⟨rfl, Or.inr ⟨_, eD, rD_l hp eD, _, _, _, _, _, _, rfl, fr_s (by decide) (fr_s (by decide) (fr_s (by decide) (fr_s (by decide) hF))), rr_set_eq, rfl, rfl, rfl⟩⟩
                                 done)
                              | (have eD : rD ta tl p = .inl f35 := by
                                   unfold rD
                                   rw [if_neg ek]
                                   rw [show kd ta p (plN ta tl p) = 5 by omega, rA_5, s1]; show sb (sb (sb (rB ta tl q32) (rP ta tl)) _) _ = _; rw [ef]; rfl
                                 refine ⟨rfl, Or.inr ⟨_, eD, rD_l hp eD, _, _, _, _, _, _, rfl, fr_s (by decide) (fr_s (by decide) (fr_s (by decide) (fr_s (by decide) hF))), rr_set_eq, rfl, rfl, rfl⟩⟩
                                 done)
                              | (have eD : rD ta tl p = .inl f32 := by
                                   unfold rD
                                   rw [if_neg ek]
                                   rw [show kd ta p (plN ta tl p) = 5 by omega, rA_5, ef]; rfl
                                 refine ⟨rfl, Or.inr ⟨_, eD, rD_l hp eD, _, _, _, _, _, _, rfl, fr_s (by decide) (fr_s (by decide) (fr_s (by decide) (fr_s (by decide) hF))), rr_set_eq, rfl, rfl, rfl⟩⟩
                                 done)
                · first
                  | (exfalso; omega)
                  | skip
                    refine s_aload_n rfl (cn rfl) rfl ?_
                    refine s_virt rfl (cn rfl) rfl rfl c58 rfl (m_group0 htl pl2 ht c58 c61) ?_
                    rintro _ _ (⟨q23, x23, s1, rfl, h23, rfl, hf23, c58⟩ | ⟨f23, r23, t23, ef, rfl, h23, rfl, hf23, c58⟩)
                    · have c61 := (hf23 61 (by decide)).trans c61
                      have c62 := (hf23 62 (by decide)).trans c62
                      have c63 := (hf23 63 (by decide)).trans c63
                      have c64 := (hf23 64 (by decide)).trans c64
                      have hF := fr_t hF hf23 (by decide)
                      have b23 := bG_b s1
                      refine s_istore_n rfl (cn rfl) ?_
                      refine s_aload_n rfl (cn rfl) rfl ?_
                      refine s_virt rfl (cn rfl) rfl rfl c58 rfl (m_number0 htl b23.2.1 ht c58 c61) ?_
                      rintro _ _ (⟨q26, x26, s2, rfl, h26, rfl, hf26, c58⟩ | ⟨f26, r26, t26, ef, rfl, h26, rfl, hf26, c58⟩)
                      · have c61 := (hf26 61 (by decide)).trans c61
                        have c62 := (hf26 62 (by decide)).trans c62
                        have c63 := (hf26 63 (by decide)).trans c63
                        have c64 := (hf26 64 (by decide)).trans c64
                        have hF := fr_t hF hf26 (by decide)
                        have b26 := bN_b s2
                        refine s_istore_n rfl (cn rfl) ?_
                        refine s_iload_n rfl (cn rfl) rfl ?_
                        refine s_iconst rfl (cn rfl) ?_
                        refine s_icmp_ne rfl (cn rfl) (cn rfl) ⟨by omega, by omega⟩ ⟨by omega, by omega⟩ (fun q30 => ?_) (fun q30 => ?_)
                        · first
                          | (exfalso; omega)
                          | skip
                            refine s_aload_n rfl (cn rfl) rfl ?_
                            refine s_getfield rfl (cn rfl) c58 rfl ?_
                            refine s_aload_n rfl (cn rfl) rfl ?_
                            refine s_getfield rfl (cn rfl) c58 rfl ?_
                            refine s_iload_n rfl (cn rfl) rfl ?_
                            refine s_iastore rfl (cn rfl) _ rfl c62 (by omega) (by decide) ?_
                            refine s_aload_n rfl (cn rfl) rfl ?_
                            refine s_getfield rfl (cn rfl) c58 rfl ?_
                            refine s_aload_n rfl (cn rfl) rfl ?_
                            refine s_getfield rfl (cn rfl) c58 rfl ?_
                            refine s_iload_n rfl (cn rfl) rfl ?_
                            refine s_iastore rfl (cn rfl) _ rfl c63 (by omega) (by decide) ?_
                            refine s_aload_n rfl (cn rfl) rfl ?_
                            refine s_getfield rfl (cn rfl) c58 rfl ?_
                            refine s_aload_n rfl (cn rfl) rfl ?_
                            refine s_getfield rfl (cn rfl) c58 rfl ?_
                            refine s_iload_n rfl (cn rfl) rfl ?_
                            refine s_iastore rfl (cn rfl) _ rfl c64 (by omega) (by decide) ?_
                            refine s_aload_n rfl (cn rfl) rfl ?_
                            refine s_dupr rfl (cn rfl) ?_
                            refine s_getfield rfl (cn rfl) c58 rfl ?_
                            refine s_iconst rfl (cn rfl) ?_
                            refine s_iadd rfl (cn rfl) ?_
                            refine s_puti rfl (cn rfl) rfl c58 rfl ?_
                            refine s_return rfl ?_
                            first
                              | (refine ⟨rfl, Or.inl ⟨q14, (kd ta p (plN ta tl p), x14, 0), ?_, by omega, by omega, ⟨⟨by show 0 ≤ kd ta p (plN ta tl p); omega, by show kd ta p (plN ta tl p) ≤ 5; omega⟩, (by show -999 ≤ x14 ∧ x14 ≤ (999 : Int); omega), (by show -999 ≤ 0 ∧ 0 ≤ (999 : Int); omega)⟩, _, rfl, fr_s (by decide) (fr_s (by decide) (fr_s (by decide) (fr_s (by decide) hF))), rr_set_eq, rfl, rfl, rfl⟩⟩
                                 unfold rD
                                 rw [if_neg ek]
                                 rw [show kd ta p (plN ta tl p) = 0 by omega, rA_0, s1]; rfl
                                 done)
                              | (refine ⟨rfl, Or.inl ⟨q26, (kd ta p (plN ta tl p), x23, x26), ?_, by omega, by omega, ⟨⟨by show 0 ≤ kd ta p (plN ta tl p); omega, by show kd ta p (plN ta tl p) ≤ 5; omega⟩, (by show -999 ≤ x23 ∧ x23 ≤ (999 : Int); omega), (by show -999 ≤ x26 ∧ x26 ≤ (999 : Int); omega)⟩, _, rfl, fr_s (by decide) (fr_s (by decide) (fr_s (by decide) (fr_s (by decide) hF))), rr_set_eq, rfl, rfl, rfl⟩⟩
                                 unfold rD
                                 rw [if_neg ek]
                                 rw [rA_12 (by omega), s1]; show sb (sb (sb (rB ta tl q23) (rN ta tl)) _) _ = _; rw [s2]; rfl
                                 done)
                              | (refine ⟨rfl, Or.inl ⟨q35, (kd ta p (plN ta tl p), x32, x35), ?_, by omega, by omega, ⟨⟨by show 0 ≤ kd ta p (plN ta tl p); omega, by show kd ta p (plN ta tl p) ≤ 5; omega⟩, (by show -999 ≤ x32 ∧ x32 ≤ (999 : Int); omega), (by show -999 ≤ x35 ∧ x35 ≤ (999 : Int); omega)⟩, _, rfl, fr_s (by decide) (fr_s (by decide) (fr_s (by decide) (fr_s (by decide) hF))), rr_set_eq, rfl, rfl, rfl⟩⟩
                                 unfold rD
                                 rw [if_neg ek]
                                 rw [show kd ta p (plN ta tl p) = 5 by omega, rA_5, s1]; show sb (sb (sb (rB ta tl q32) (rP ta tl)) _) _ = _; rw [s2]; rfl
                                 done)
                              | (refine ⟨rfl, Or.inl ⟨(plN ta tl p), (kd ta p (plN ta tl p), 0, 0), ?_, by omega, by omega, ⟨⟨by show 0 ≤ kd ta p (plN ta tl p); omega, by show kd ta p (plN ta tl p) ≤ 5; omega⟩, (by show -999 ≤ 0 ∧ 0 ≤ (999 : Int); omega), (by show -999 ≤ 0 ∧ 0 ≤ (999 : Int); omega)⟩, _, rfl, fr_s (by decide) (fr_s (by decide) (fr_s (by decide) (fr_s (by decide) hF))), rr_set_eq, rfl, rfl, rfl⟩⟩
                                 unfold rD
                                 rw [if_neg ek]
                                 rw [rA_3 (by omega)]; rfl
                                 done)
                              | (have eD : rD ta tl p = .inl f14 := by
                                   unfold rD
                                   rw [if_neg ek]
                                   rw [show kd ta p (plN ta tl p) = 0 by omega, rA_0, ef]; rfl
                                 refine ⟨rfl, Or.inr ⟨_, eD, rD_l hp eD, _, _, _, _, _, _, rfl, fr_s (by decide) (fr_s (by decide) (fr_s (by decide) (fr_s (by decide) hF))), rr_set_eq, rfl, rfl, rfl⟩⟩
                                 done)
                              | (have eD : rD ta tl p = .inl f26 := by
                                   unfold rD
                                   rw [if_neg ek]
                                   rw [rA_12 (by omega), s1]; show sb (sb (sb (rB ta tl q23) (rN ta tl)) _) _ = _; rw [ef]; rfl
                                 refine ⟨rfl, Or.inr ⟨_, eD, rD_l hp eD, _, _, _, _, _, _, rfl, fr_s (by decide) (fr_s (by decide) (fr_s (by decide) (fr_s (by decide) hF))), rr_set_eq, rfl, rfl, rfl⟩⟩
                                 done)
                              | (have eD : rD ta tl p = .inl f23 := by
                                   unfold rD
                                   rw [if_neg ek]
                                   rw [rA_12 (by omega), ef]; rfl
                                 refine ⟨rfl, Or.inr ⟨_, eD, rD_l hp eD, _, _, _, _, _, _, rfl, fr_s (by decide) (fr_s (by decide) (fr_s (by decide) (fr_s (by decide) hF))), rr_set_eq, rfl, rfl, rfl⟩⟩
                                 done)
                              | (have eD : rD ta tl p = .inl f35 := by
                                   unfold rD
                                   rw [if_neg ek]
                                   rw [show kd ta p (plN ta tl p) = 5 by omega, rA_5, s1]; show sb (sb (sb (rB ta tl q32) (rP ta tl)) _) _ = _; rw [ef]; rfl
                                 refine ⟨rfl, Or.inr ⟨_, eD, rD_l hp eD, _, _, _, _, _, _, rfl, fr_s (by decide) (fr_s (by decide) (fr_s (by decide) (fr_s (by decide) hF))), rr_set_eq, rfl, rfl, rfl⟩⟩
                                 done)
                              | (have eD : rD ta tl p = .inl f32 := by
                                   unfold rD
                                   rw [if_neg ek]
                                   rw [show kd ta p (plN ta tl p) = 5 by omega, rA_5, ef]; rfl
                                 refine ⟨rfl, Or.inr ⟨_, eD, rD_l hp eD, _, _, _, _, _, _, rfl, fr_s (by decide) (fr_s (by decide) (fr_s (by decide) (fr_s (by decide) hF))), rr_set_eq, rfl, rfl, rfl⟩⟩
                                 done)
                        · first
                          | (exfalso; omega)
                          | skip
                            refine s_aload_n rfl (cn rfl) rfl ?_
                            refine s_virt rfl (cn rfl) rfl rfl c58 rfl (m_person0 htl pl2 ht c58 c61) ?_
                            rintro _ _ (⟨q32, x32, s1, rfl, h32, rfl, hf32, c58⟩ | ⟨f32, r32, t32, ef, rfl, h32, rfl, hf32, c58⟩)
                            · have c61 := (hf32 61 (by decide)).trans c61
                              have c62 := (hf32 62 (by decide)).trans c62
                              have c63 := (hf32 63 (by decide)).trans c63
                              have c64 := (hf32 64 (by decide)).trans c64
                              have hF := fr_t hF hf32 (by decide)
                              have b32 := bP_b s1
                              refine s_istore_n rfl (cn rfl) ?_
                              refine s_aload_n rfl (cn rfl) rfl ?_
                              refine s_virt rfl (cn rfl) rfl rfl c58 rfl (m_person0 htl b32.2.1 ht c58 c61) ?_
                              rintro _ _ (⟨q35, x35, s2, rfl, h35, rfl, hf35, c58⟩ | ⟨f35, r35, t35, ef, rfl, h35, rfl, hf35, c58⟩)
                              · have c61 := (hf35 61 (by decide)).trans c61
                                have c62 := (hf35 62 (by decide)).trans c62
                                have c63 := (hf35 63 (by decide)).trans c63
                                have c64 := (hf35 64 (by decide)).trans c64
                                have hF := fr_t hF hf35 (by decide)
                                have b35 := bP_b s2
                                refine s_istore_n rfl (cn rfl) ?_
                                refine s_aload_n rfl (cn rfl) rfl ?_
                                refine s_getfield rfl (cn rfl) c58 rfl ?_
                                refine s_aload_n rfl (cn rfl) rfl ?_
                                refine s_getfield rfl (cn rfl) c58 rfl ?_
                                refine s_iload_n rfl (cn rfl) rfl ?_
                                refine s_iastore rfl (cn rfl) _ rfl c62 (by omega) (by decide) ?_
                                refine s_aload_n rfl (cn rfl) rfl ?_
                                refine s_getfield rfl (cn rfl) c58 rfl ?_
                                refine s_aload_n rfl (cn rfl) rfl ?_
                                refine s_getfield rfl (cn rfl) c58 rfl ?_
                                refine s_iload_n rfl (cn rfl) rfl ?_
                                refine s_iastore rfl (cn rfl) _ rfl c63 (by omega) (by decide) ?_
                                refine s_aload_n rfl (cn rfl) rfl ?_
                                refine s_getfield rfl (cn rfl) c58 rfl ?_
                                refine s_aload_n rfl (cn rfl) rfl ?_
                                refine s_getfield rfl (cn rfl) c58 rfl ?_
                                refine s_iload_n rfl (cn rfl) rfl ?_
                                refine s_iastore rfl (cn rfl) _ rfl c64 (by omega) (by decide) ?_
                                refine s_aload_n rfl (cn rfl) rfl ?_
                                refine s_dupr rfl (cn rfl) ?_
                                refine s_getfield rfl (cn rfl) c58 rfl ?_
                                refine s_iconst rfl (cn rfl) ?_
                                refine s_iadd rfl (cn rfl) ?_
                                refine s_puti rfl (cn rfl) rfl c58 rfl ?_
                                refine s_return rfl ?_
                                first
                                  | (refine ⟨rfl, Or.inl ⟨q14, (kd ta p (plN ta tl p), x14, 0), ?_, by omega, by omega, ⟨⟨by show 0 ≤ kd ta p (plN ta tl p); omega, by show kd ta p (plN ta tl p) ≤ 5; omega⟩, (by show -999 ≤ x14 ∧ x14 ≤ (999 : Int); omega), (by show -999 ≤ 0 ∧ 0 ≤ (999 : Int); omega)⟩, _, rfl, fr_s (by decide) (fr_s (by decide) (fr_s (by decide) (fr_s (by decide) hF))), rr_set_eq, rfl, rfl, rfl⟩⟩
                                     unfold rD
                                     rw [if_neg ek]
                                     rw [show kd ta p (plN ta tl p) = 0 by omega, rA_0, s1]; rfl
                                     done)
                                  | (refine ⟨rfl, Or.inl ⟨q26, (kd ta p (plN ta tl p), x23, x26), ?_, by omega, by omega, ⟨⟨by show 0 ≤ kd ta p (plN ta tl p); omega, by show kd ta p (plN ta tl p) ≤ 5; omega⟩, (by show -999 ≤ x23 ∧ x23 ≤ (999 : Int); omega), (by show -999 ≤ x26 ∧ x26 ≤ (999 : Int); omega)⟩, _, rfl, fr_s (by decide) (fr_s (by decide) (fr_s (by decide) (fr_s (by decide) hF))), rr_set_eq, rfl, rfl, rfl⟩⟩
                                     unfold rD
                                     rw [if_neg ek]
                                     rw [rA_12 (by omega), s1]; show sb (sb (sb (rB ta tl q23) (rN ta tl)) _) _ = _; rw [s2]; rfl
                                     done)
                                  | (refine ⟨rfl, Or.inl ⟨q35, (kd ta p (plN ta tl p), x32, x35), ?_, by omega, by omega, ⟨⟨by show 0 ≤ kd ta p (plN ta tl p); omega, by show kd ta p (plN ta tl p) ≤ 5; omega⟩, (by show -999 ≤ x32 ∧ x32 ≤ (999 : Int); omega), (by show -999 ≤ x35 ∧ x35 ≤ (999 : Int); omega)⟩, _, rfl, fr_s (by decide) (fr_s (by decide) (fr_s (by decide) (fr_s (by decide) hF))), rr_set_eq, rfl, rfl, rfl⟩⟩
                                     unfold rD
                                     rw [if_neg ek]
                                     rw [show kd ta p (plN ta tl p) = 5 by omega, rA_5, s1]; show sb (sb (sb (rB ta tl q32) (rP ta tl)) _) _ = _; rw [s2]; rfl
                                     done)
                                  | (refine ⟨rfl, Or.inl ⟨(plN ta tl p), (kd ta p (plN ta tl p), 0, 0), ?_, by omega, by omega, ⟨⟨by show 0 ≤ kd ta p (plN ta tl p); omega, by show kd ta p (plN ta tl p) ≤ 5; omega⟩, (by show -999 ≤ 0 ∧ 0 ≤ (999 : Int); omega), (by show -999 ≤ 0 ∧ 0 ≤ (999 : Int); omega)⟩, _, rfl, fr_s (by decide) (fr_s (by decide) (fr_s (by decide) (fr_s (by decide) hF))), rr_set_eq, rfl, rfl, rfl⟩⟩
                                     unfold rD
                                     rw [if_neg ek]
                                     rw [rA_3 (by omega)]; rfl
                                     done)
                                  | (have eD : rD ta tl p = .inl f14 := by
                                       unfold rD
                                       rw [if_neg ek]
                                       rw [show kd ta p (plN ta tl p) = 0 by omega, rA_0, ef]; rfl
                                     refine ⟨rfl, Or.inr ⟨_, eD, rD_l hp eD, _, _, _, _, _, _, rfl, fr_s (by decide) (fr_s (by decide) (fr_s (by decide) (fr_s (by decide) hF))), rr_set_eq, rfl, rfl, rfl⟩⟩
                                     done)
                                  | (have eD : rD ta tl p = .inl f26 := by
                                       unfold rD
                                       rw [if_neg ek]
                                       rw [rA_12 (by omega), s1]; show sb (sb (sb (rB ta tl q23) (rN ta tl)) _) _ = _; rw [ef]; rfl
                                     refine ⟨rfl, Or.inr ⟨_, eD, rD_l hp eD, _, _, _, _, _, _, rfl, fr_s (by decide) (fr_s (by decide) (fr_s (by decide) (fr_s (by decide) hF))), rr_set_eq, rfl, rfl, rfl⟩⟩
                                     done)
                                  | (have eD : rD ta tl p = .inl f23 := by
                                       unfold rD
                                       rw [if_neg ek]
                                       rw [rA_12 (by omega), ef]; rfl
                                     refine ⟨rfl, Or.inr ⟨_, eD, rD_l hp eD, _, _, _, _, _, _, rfl, fr_s (by decide) (fr_s (by decide) (fr_s (by decide) (fr_s (by decide) hF))), rr_set_eq, rfl, rfl, rfl⟩⟩
                                     done)
                                  | (have eD : rD ta tl p = .inl f35 := by
                                       unfold rD
                                       rw [if_neg ek]
                                       rw [show kd ta p (plN ta tl p) = 5 by omega, rA_5, s1]; show sb (sb (sb (rB ta tl q32) (rP ta tl)) _) _ = _; rw [ef]; rfl
                                     refine ⟨rfl, Or.inr ⟨_, eD, rD_l hp eD, _, _, _, _, _, _, rfl, fr_s (by decide) (fr_s (by decide) (fr_s (by decide) (fr_s (by decide) hF))), rr_set_eq, rfl, rfl, rfl⟩⟩
                                     done)
                                  | (have eD : rD ta tl p = .inl f32 := by
                                       unfold rD
                                       rw [if_neg ek]
                                       rw [show kd ta p (plN ta tl p) = 5 by omega, rA_5, ef]; rfl
                                     refine ⟨rfl, Or.inr ⟨_, eD, rD_l hp eD, _, _, _, _, _, _, rfl, fr_s (by decide) (fr_s (by decide) (fr_s (by decide) (fr_s (by decide) hF))), rr_set_eq, rfl, rfl, rfl⟩⟩
                                     done)
                              · have c61 := (hf35 61 (by decide)).trans c61
                                have c62 := (hf35 62 (by decide)).trans c62
                                have c63 := (hf35 63 (by decide)).trans c63
                                have c64 := (hf35 64 (by decide)).trans c64
                                have hF := fr_t hF hf35 (by decide)
                                refine s_istore_n rfl (cn rfl) ?_
                                refine s_aload_n rfl (cn rfl) rfl ?_
                                refine s_getfield rfl (cn rfl) c58 rfl ?_
                                refine s_aload_n rfl (cn rfl) rfl ?_
                                refine s_getfield rfl (cn rfl) c58 rfl ?_
                                refine s_iload_n rfl (cn rfl) rfl ?_
                                refine s_iastore rfl (cn rfl) _ rfl c62 (by omega) (by decide) ?_
                                refine s_aload_n rfl (cn rfl) rfl ?_
                                refine s_getfield rfl (cn rfl) c58 rfl ?_
                                refine s_aload_n rfl (cn rfl) rfl ?_
                                refine s_getfield rfl (cn rfl) c58 rfl ?_
                                refine s_iload_n rfl (cn rfl) rfl ?_
                                refine s_iastore rfl (cn rfl) _ rfl c63 (by omega) (by decide) ?_
                                refine s_aload_n rfl (cn rfl) rfl ?_
                                refine s_getfield rfl (cn rfl) c58 rfl ?_
                                refine s_aload_n rfl (cn rfl) rfl ?_
                                refine s_getfield rfl (cn rfl) c58 rfl ?_
                                refine s_iload_n rfl (cn rfl) rfl ?_
                                refine s_iastore rfl (cn rfl) _ rfl c64 (by omega) (by decide) ?_
                                refine s_aload_n rfl (cn rfl) rfl ?_
                                refine s_dupr rfl (cn rfl) ?_
                                refine s_getfield rfl (cn rfl) c58 rfl ?_
                                refine s_iconst rfl (cn rfl) ?_
                                refine s_iadd rfl (cn rfl) ?_
                                refine s_puti rfl (cn rfl) rfl c58 rfl ?_
                                refine s_return rfl ?_
                                first
                                  | (refine ⟨rfl, Or.inl ⟨q14, (kd ta p (plN ta tl p), x14, 0), ?_, by omega, by omega, ⟨⟨by show 0 ≤ kd ta p (plN ta tl p); omega, by show kd ta p (plN ta tl p) ≤ 5; omega⟩, (by show -999 ≤ x14 ∧ x14 ≤ (999 : Int); omega), (by show -999 ≤ 0 ∧ 0 ≤ (999 : Int); omega)⟩, _, rfl, fr_s (by decide) (fr_s (by decide) (fr_s (by decide) (fr_s (by decide) hF))), rr_set_eq, rfl, rfl, rfl⟩⟩
                                     unfold rD
                                     rw [if_neg ek]
                                     rw [show kd ta p (plN ta tl p) = 0 by omega, rA_0, s1]; rfl
                                     done)
                                  | (refine ⟨rfl, Or.inl ⟨q26, (kd ta p (plN ta tl p), x23, x26), ?_, by omega, by omega, ⟨⟨by show 0 ≤ kd ta p (plN ta tl p); omega, by show kd ta p (plN ta tl p) ≤ 5; omega⟩, (by show -999 ≤ x23 ∧ x23 ≤ (999 : Int); omega), (by show -999 ≤ x26 ∧ x26 ≤ (999 : Int); omega)⟩, _, rfl, fr_s (by decide) (fr_s (by decide) (fr_s (by decide) (fr_s (by decide) hF))), rr_set_eq, rfl, rfl, rfl⟩⟩
                                     unfold rD
                                     rw [if_neg ek]
                                     rw [rA_12 (by omega), s1]; show sb (sb (sb (rB ta tl q23) (rN ta tl)) _) _ = _; rw [s2]; rfl
                                     done)
                                  | (refine ⟨rfl, Or.inl ⟨q35, (kd ta p (plN ta tl p), x32, x35), ?_, by omega, by omega, ⟨⟨by show 0 ≤ kd ta p (plN ta tl p); omega, by show kd ta p (plN ta tl p) ≤ 5; omega⟩, (by show -999 ≤ x32 ∧ x32 ≤ (999 : Int); omega), (by show -999 ≤ x35 ∧ x35 ≤ (999 : Int); omega)⟩, _, rfl, fr_s (by decide) (fr_s (by decide) (fr_s (by decide) (fr_s (by decide) hF))), rr_set_eq, rfl, rfl, rfl⟩⟩
                                     unfold rD
                                     rw [if_neg ek]
                                     rw [show kd ta p (plN ta tl p) = 5 by omega, rA_5, s1]; show sb (sb (sb (rB ta tl q32) (rP ta tl)) _) _ = _; rw [s2]; rfl
                                     done)
                                  | (refine ⟨rfl, Or.inl ⟨(plN ta tl p), (kd ta p (plN ta tl p), 0, 0), ?_, by omega, by omega, ⟨⟨by show 0 ≤ kd ta p (plN ta tl p); omega, by show kd ta p (plN ta tl p) ≤ 5; omega⟩, (by show -999 ≤ 0 ∧ 0 ≤ (999 : Int); omega), (by show -999 ≤ 0 ∧ 0 ≤ (999 : Int); omega)⟩, _, rfl, fr_s (by decide) (fr_s (by decide) (fr_s (by decide) (fr_s (by decide) hF))), rr_set_eq, rfl, rfl, rfl⟩⟩
                                     unfold rD
                                     rw [if_neg ek]
                                     rw [rA_3 (by omega)]; rfl
                                     done)
                                  | (have eD : rD ta tl p = .inl f14 := by
                                       unfold rD
                                       rw [if_neg ek]
                                       rw [show kd ta p (plN ta tl p) = 0 by omega, rA_0, ef]; rfl
                                     refine ⟨rfl, Or.inr ⟨_, eD, rD_l hp eD, _, _, _, _, _, _, rfl, fr_s (by decide) (fr_s (by decide) (fr_s (by decide) (fr_s (by decide) hF))), rr_set_eq, rfl, rfl, rfl⟩⟩
                                     done)
                                  | (have eD : rD ta tl p = .inl f26 := by
                                       unfold rD
                                       rw [if_neg ek]
                                       rw [rA_12 (by omega), s1]; show sb (sb (sb (rB ta tl q23) (rN ta tl)) _) _ = _; rw [ef]; rfl
                                     refine ⟨rfl, Or.inr ⟨_, eD, rD_l hp eD, _, _, _, _, _, _, rfl, fr_s (by decide) (fr_s (by decide) (fr_s (by decide) (fr_s (by decide) hF))), rr_set_eq, rfl, rfl, rfl⟩⟩
                                     done)
                                  | (have eD : rD ta tl p = .inl f23 := by
                                       unfold rD
                                       rw [if_neg ek]
                                       rw [rA_12 (by omega), ef]; rfl
                                     refine ⟨rfl, Or.inr ⟨_, eD, rD_l hp eD, _, _, _, _, _, _, rfl, fr_s (by decide) (fr_s (by decide) (fr_s (by decide) (fr_s (by decide) hF))), rr_set_eq, rfl, rfl, rfl⟩⟩
                                     done)
                                  | (have eD : rD ta tl p = .inl f35 := by
                                       unfold rD
                                       rw [if_neg ek]
                                       rw [show kd ta p (plN ta tl p) = 5 by omega, rA_5, s1]; show sb (sb (sb (rB ta tl q32) (rP ta tl)) _) _ = _; rw [ef]; rfl
                                     refine ⟨rfl, Or.inr ⟨_, eD, rD_l hp eD, _, _, _, _, _, _, rfl, fr_s (by decide) (fr_s (by decide) (fr_s (by decide) (fr_s (by decide) hF))), rr_set_eq, rfl, rfl, rfl⟩⟩
                                     done)
                                  | (have eD : rD ta tl p = .inl f32 := by
                                       unfold rD
                                       rw [if_neg ek]
                                       rw [show kd ta p (plN ta tl p) = 5 by omega, rA_5, ef]; rfl
                                     refine ⟨rfl, Or.inr ⟨_, eD, rD_l hp eD, _, _, _, _, _, _, rfl, fr_s (by decide) (fr_s (by decide) (fr_s (by decide) (fr_s (by decide) hF))), rr_set_eq, rfl, rfl, rfl⟩⟩
                                     done)
                            · have c61 := (hf32 61 (by decide)).trans c61
                              have c62 := (hf32 62 (by decide)).trans c62
                              have c63 := (hf32 63 (by decide)).trans c63
                              have c64 := (hf32 64 (by decide)).trans c64
                              have hF := fr_t hF hf32 (by decide)
                              refine s_istore_n rfl (cn rfl) ?_
                              refine s_aload_n rfl (cn rfl) rfl ?_
                              refine s_virt rfl (cn rfl) rfl rfl c58 rfl (m_person1 c58) ?_
                              rintro _ _ ⟨rfl, rfl⟩
                              · refine s_istore_n rfl (cn rfl) ?_
                                refine s_aload_n rfl (cn rfl) rfl ?_
                                refine s_getfield rfl (cn rfl) c58 rfl ?_
                                refine s_aload_n rfl (cn rfl) rfl ?_
                                refine s_getfield rfl (cn rfl) c58 rfl ?_
                                refine s_iload_n rfl (cn rfl) rfl ?_
                                refine s_iastore rfl (cn rfl) _ rfl c62 (by omega) (by decide) ?_
                                refine s_aload_n rfl (cn rfl) rfl ?_
                                refine s_getfield rfl (cn rfl) c58 rfl ?_
                                refine s_aload_n rfl (cn rfl) rfl ?_
                                refine s_getfield rfl (cn rfl) c58 rfl ?_
                                refine s_iload_n rfl (cn rfl) rfl ?_
                                refine s_iastore rfl (cn rfl) _ rfl c63 (by omega) (by decide) ?_
                                refine s_aload_n rfl (cn rfl) rfl ?_
                                refine s_getfield rfl (cn rfl) c58 rfl ?_
                                refine s_aload_n rfl (cn rfl) rfl ?_
                                refine s_getfield rfl (cn rfl) c58 rfl ?_
                                refine s_iload_n rfl (cn rfl) rfl ?_
                                refine s_iastore rfl (cn rfl) _ rfl c64 (by omega) (by decide) ?_
                                refine s_aload_n rfl (cn rfl) rfl ?_
                                refine s_dupr rfl (cn rfl) ?_
                                refine s_getfield rfl (cn rfl) c58 rfl ?_
                                refine s_iconst rfl (cn rfl) ?_
                                refine s_iadd rfl (cn rfl) ?_
                                refine s_puti rfl (cn rfl) rfl c58 rfl ?_
                                refine s_return rfl ?_
                                first
                                  | (refine ⟨rfl, Or.inl ⟨q14, (kd ta p (plN ta tl p), x14, 0), ?_, by omega, by omega, ⟨⟨by show 0 ≤ kd ta p (plN ta tl p); omega, by show kd ta p (plN ta tl p) ≤ 5; omega⟩, (by show -999 ≤ x14 ∧ x14 ≤ (999 : Int); omega), (by show -999 ≤ 0 ∧ 0 ≤ (999 : Int); omega)⟩, _, rfl, fr_s (by decide) (fr_s (by decide) (fr_s (by decide) (fr_s (by decide) hF))), rr_set_eq, rfl, rfl, rfl⟩⟩
                                     unfold rD
                                     rw [if_neg ek]
                                     rw [show kd ta p (plN ta tl p) = 0 by omega, rA_0, s1]; rfl
                                     done)
                                  | (refine ⟨rfl, Or.inl ⟨q26, (kd ta p (plN ta tl p), x23, x26), ?_, by omega, by omega, ⟨⟨by show 0 ≤ kd ta p (plN ta tl p); omega, by show kd ta p (plN ta tl p) ≤ 5; omega⟩, (by show -999 ≤ x23 ∧ x23 ≤ (999 : Int); omega), (by show -999 ≤ x26 ∧ x26 ≤ (999 : Int); omega)⟩, _, rfl, fr_s (by decide) (fr_s (by decide) (fr_s (by decide) (fr_s (by decide) hF))), rr_set_eq, rfl, rfl, rfl⟩⟩
                                     unfold rD
                                     rw [if_neg ek]
                                     rw [rA_12 (by omega), s1]; show sb (sb (sb (rB ta tl q23) (rN ta tl)) _) _ = _; rw [s2]; rfl
                                     done)
                                  | (refine ⟨rfl, Or.inl ⟨q35, (kd ta p (plN ta tl p), x32, x35), ?_, by omega, by omega, ⟨⟨by show 0 ≤ kd ta p (plN ta tl p); omega, by show kd ta p (plN ta tl p) ≤ 5; omega⟩, (by show -999 ≤ x32 ∧ x32 ≤ (999 : Int); omega), (by show -999 ≤ x35 ∧ x35 ≤ (999 : Int); omega)⟩, _, rfl, fr_s (by decide) (fr_s (by decide) (fr_s (by decide) (fr_s (by decide) hF))), rr_set_eq, rfl, rfl, rfl⟩⟩
                                     unfold rD
                                     rw [if_neg ek]
                                     rw [show kd ta p (plN ta tl p) = 5 by omega, rA_5, s1]; show sb (sb (sb (rB ta tl q32) (rP ta tl)) _) _ = _; rw [s2]; rfl
                                     done)
                                  | (refine ⟨rfl, Or.inl ⟨(plN ta tl p), (kd ta p (plN ta tl p), 0, 0), ?_, by omega, by omega, ⟨⟨by show 0 ≤ kd ta p (plN ta tl p); omega, by show kd ta p (plN ta tl p) ≤ 5; omega⟩, (by show -999 ≤ 0 ∧ 0 ≤ (999 : Int); omega), (by show -999 ≤ 0 ∧ 0 ≤ (999 : Int); omega)⟩, _, rfl, fr_s (by decide) (fr_s (by decide) (fr_s (by decide) (fr_s (by decide) hF))), rr_set_eq, rfl, rfl, rfl⟩⟩
                                     unfold rD
                                     rw [if_neg ek]
                                     rw [rA_3 (by omega)]; rfl
                                     done)
                                  | (have eD : rD ta tl p = .inl f14 := by
                                       unfold rD
                                       rw [if_neg ek]
                                       rw [show kd ta p (plN ta tl p) = 0 by omega, rA_0, ef]; rfl
                                     refine ⟨rfl, Or.inr ⟨_, eD, rD_l hp eD, _, _, _, _, _, _, rfl, fr_s (by decide) (fr_s (by decide) (fr_s (by decide) (fr_s (by decide) hF))), rr_set_eq, rfl, rfl, rfl⟩⟩
                                     done)
                                  | (have eD : rD ta tl p = .inl f26 := by
                                       unfold rD
                                       rw [if_neg ek]
                                       rw [rA_12 (by omega), s1]; show sb (sb (sb (rB ta tl q23) (rN ta tl)) _) _ = _; rw [ef]; rfl
                                     refine ⟨rfl, Or.inr ⟨_, eD, rD_l hp eD, _, _, _, _, _, _, rfl, fr_s (by decide) (fr_s (by decide) (fr_s (by decide) (fr_s (by decide) hF))), rr_set_eq, rfl, rfl, rfl⟩⟩
                                     done)
                                  | (have eD : rD ta tl p = .inl f23 := by
                                       unfold rD
                                       rw [if_neg ek]
                                       rw [rA_12 (by omega), ef]; rfl
                                     refine ⟨rfl, Or.inr ⟨_, eD, rD_l hp eD, _, _, _, _, _, _, rfl, fr_s (by decide) (fr_s (by decide) (fr_s (by decide) (fr_s (by decide) hF))), rr_set_eq, rfl, rfl, rfl⟩⟩
                                     done)
                                  | (have eD : rD ta tl p = .inl f35 := by
                                       unfold rD
                                       rw [if_neg ek]
                                       rw [show kd ta p (plN ta tl p) = 5 by omega, rA_5, s1]; show sb (sb (sb (rB ta tl q32) (rP ta tl)) _) _ = _; rw [ef]; rfl
                                     refine ⟨rfl, Or.inr ⟨_, eD, rD_l hp eD, _, _, _, _, _, _, rfl, fr_s (by decide) (fr_s (by decide) (fr_s (by decide) (fr_s (by decide) hF))), rr_set_eq, rfl, rfl, rfl⟩⟩
                                     done)
                                  | (have eD : rD ta tl p = .inl f32 := by
                                       unfold rD
                                       rw [if_neg ek]
                                       rw [show kd ta p (plN ta tl p) = 5 by omega, rA_5, ef]; rfl
                                     refine ⟨rfl, Or.inr ⟨_, eD, rD_l hp eD, _, _, _, _, _, _, rfl, fr_s (by decide) (fr_s (by decide) (fr_s (by decide) (fr_s (by decide) hF))), rr_set_eq, rfl, rfl, rfl⟩⟩
                                     done)
                      · have c61 := (hf26 61 (by decide)).trans c61
                        have c62 := (hf26 62 (by decide)).trans c62
                        have c63 := (hf26 63 (by decide)).trans c63
                        have c64 := (hf26 64 (by decide)).trans c64
                        have hF := fr_t hF hf26 (by decide)
                        refine s_istore_n rfl (cn rfl) ?_
                        refine s_iload_n rfl (cn rfl) rfl ?_
                        refine s_iconst rfl (cn rfl) ?_
                        refine s_icmp_ne rfl (cn rfl) (cn rfl) ⟨by omega, by omega⟩ ⟨by omega, by omega⟩ (fun q30 => ?_) (fun q30 => ?_)
                        · first
                          | (exfalso; omega)
                          | skip
                            refine s_aload_n rfl (cn rfl) rfl ?_
                            refine s_getfield rfl (cn rfl) c58 rfl ?_
                            refine s_aload_n rfl (cn rfl) rfl ?_
                            refine s_getfield rfl (cn rfl) c58 rfl ?_
                            refine s_iload_n rfl (cn rfl) rfl ?_
                            refine s_iastore rfl (cn rfl) _ rfl c62 (by omega) (by decide) ?_
                            refine s_aload_n rfl (cn rfl) rfl ?_
                            refine s_getfield rfl (cn rfl) c58 rfl ?_
                            refine s_aload_n rfl (cn rfl) rfl ?_
                            refine s_getfield rfl (cn rfl) c58 rfl ?_
                            refine s_iload_n rfl (cn rfl) rfl ?_
                            refine s_iastore rfl (cn rfl) _ rfl c63 (by omega) (by decide) ?_
                            refine s_aload_n rfl (cn rfl) rfl ?_
                            refine s_getfield rfl (cn rfl) c58 rfl ?_
                            refine s_aload_n rfl (cn rfl) rfl ?_
                            refine s_getfield rfl (cn rfl) c58 rfl ?_
                            refine s_iload_n rfl (cn rfl) rfl ?_
                            refine s_iastore rfl (cn rfl) _ rfl c64 (by omega) (by decide) ?_
                            refine s_aload_n rfl (cn rfl) rfl ?_
                            refine s_dupr rfl (cn rfl) ?_
                            refine s_getfield rfl (cn rfl) c58 rfl ?_
                            refine s_iconst rfl (cn rfl) ?_
                            refine s_iadd rfl (cn rfl) ?_
                            refine s_puti rfl (cn rfl) rfl c58 rfl ?_
                            refine s_return rfl ?_
                            first
                              | (refine ⟨rfl, Or.inl ⟨q14, (kd ta p (plN ta tl p), x14, 0), ?_, by omega, by omega, ⟨⟨by show 0 ≤ kd ta p (plN ta tl p); omega, by show kd ta p (plN ta tl p) ≤ 5; omega⟩, (by show -999 ≤ x14 ∧ x14 ≤ (999 : Int); omega), (by show -999 ≤ 0 ∧ 0 ≤ (999 : Int); omega)⟩, _, rfl, fr_s (by decide) (fr_s (by decide) (fr_s (by decide) (fr_s (by decide) hF))), rr_set_eq, rfl, rfl, rfl⟩⟩
                                 unfold rD
                                 rw [if_neg ek]
                                 rw [show kd ta p (plN ta tl p) = 0 by omega, rA_0, s1]; rfl
                                 done)
                              | (refine ⟨rfl, Or.inl ⟨q26, (kd ta p (plN ta tl p), x23, x26), ?_, by omega, by omega, ⟨⟨by show 0 ≤ kd ta p (plN ta tl p); omega, by show kd ta p (plN ta tl p) ≤ 5; omega⟩, (by show -999 ≤ x23 ∧ x23 ≤ (999 : Int); omega), (by show -999 ≤ x26 ∧ x26 ≤ (999 : Int); omega)⟩, _, rfl, fr_s (by decide) (fr_s (by decide) (fr_s (by decide) (fr_s (by decide) hF))), rr_set_eq, rfl, rfl, rfl⟩⟩
                                 unfold rD
                                 rw [if_neg ek]
                                 rw [rA_12 (by omega), s1]; show sb (sb (sb (rB ta tl q23) (rN ta tl)) _) _ = _; rw [s2]; rfl
                                 done)
                              | (refine ⟨rfl, Or.inl ⟨q35, (kd ta p (plN ta tl p), x32, x35), ?_, by omega, by omega, ⟨⟨by show 0 ≤ kd ta p (plN ta tl p); omega, by show kd ta p (plN ta tl p) ≤ 5; omega⟩, (by show -999 ≤ x32 ∧ x32 ≤ (999 : Int); omega), (by show -999 ≤ x35 ∧ x35 ≤ (999 : Int); omega)⟩, _, rfl, fr_s (by decide) (fr_s (by decide) (fr_s (by decide) (fr_s (by decide) hF))), rr_set_eq, rfl, rfl, rfl⟩⟩
                                 unfold rD
                                 rw [if_neg ek]
                                 rw [show kd ta p (plN ta tl p) = 5 by omega, rA_5, s1]; show sb (sb (sb (rB ta tl q32) (rP ta tl)) _) _ = _; rw [s2]; rfl
                                 done)
                              | (refine ⟨rfl, Or.inl ⟨(plN ta tl p), (kd ta p (plN ta tl p), 0, 0), ?_, by omega, by omega, ⟨⟨by show 0 ≤ kd ta p (plN ta tl p); omega, by show kd ta p (plN ta tl p) ≤ 5; omega⟩, (by show -999 ≤ 0 ∧ 0 ≤ (999 : Int); omega), (by show -999 ≤ 0 ∧ 0 ≤ (999 : Int); omega)⟩, _, rfl, fr_s (by decide) (fr_s (by decide) (fr_s (by decide) (fr_s (by decide) hF))), rr_set_eq, rfl, rfl, rfl⟩⟩
                                 unfold rD
                                 rw [if_neg ek]
                                 rw [rA_3 (by omega)]; rfl
                                 done)
                              | (have eD : rD ta tl p = .inl f14 := by
                                   unfold rD
                                   rw [if_neg ek]
                                   rw [show kd ta p (plN ta tl p) = 0 by omega, rA_0, ef]; rfl
                                 refine ⟨rfl, Or.inr ⟨_, eD, rD_l hp eD, _, _, _, _, _, _, rfl, fr_s (by decide) (fr_s (by decide) (fr_s (by decide) (fr_s (by decide) hF))), rr_set_eq, rfl, rfl, rfl⟩⟩
                                 done)
                              | (have eD : rD ta tl p = .inl f26 := by
                                   unfold rD
                                   rw [if_neg ek]
                                   rw [rA_12 (by omega), s1]; show sb (sb (sb (rB ta tl q23) (rN ta tl)) _) _ = _; rw [ef]; rfl
                                 refine ⟨rfl, Or.inr ⟨_, eD, rD_l hp eD, _, _, _, _, _, _, rfl, fr_s (by decide) (fr_s (by decide) (fr_s (by decide) (fr_s (by decide) hF))), rr_set_eq, rfl, rfl, rfl⟩⟩
                                 done)
                              | (have eD : rD ta tl p = .inl f23 := by
                                   unfold rD
                                   rw [if_neg ek]
                                   rw [rA_12 (by omega), ef]; rfl
                                 refine ⟨rfl, Or.inr ⟨_, eD, rD_l hp eD, _, _, _, _, _, _, rfl, fr_s (by decide) (fr_s (by decide) (fr_s (by decide) (fr_s (by decide) hF))), rr_set_eq, rfl, rfl, rfl⟩⟩
                                 done)
                              | (have eD : rD ta tl p = .inl f35 := by
                                   unfold rD
                                   rw [if_neg ek]
                                   rw [show kd ta p (plN ta tl p) = 5 by omega, rA_5, s1]; show sb (sb (sb (rB ta tl q32) (rP ta tl)) _) _ = _; rw [ef]; rfl
                                 refine ⟨rfl, Or.inr ⟨_, eD, rD_l hp eD, _, _, _, _, _, _, rfl, fr_s (by decide) (fr_s (by decide) (fr_s (by decide) (fr_s (by decide) hF))), rr_set_eq, rfl, rfl, rfl⟩⟩
                                 done)
                              | (have eD : rD ta tl p = .inl f32 := by
                                   unfold rD
                                   rw [if_neg ek]
                                   rw [show kd ta p (plN ta tl p) = 5 by omega, rA_5, ef]; rfl
                                 refine ⟨rfl, Or.inr ⟨_, eD, rD_l hp eD, _, _, _, _, _, _, rfl, fr_s (by decide) (fr_s (by decide) (fr_s (by decide) (fr_s (by decide) hF))), rr_set_eq, rfl, rfl, rfl⟩⟩
                                 done)
                        · first
                          | (exfalso; omega)
                          | skip
                            refine s_aload_n rfl (cn rfl) rfl ?_
                            refine s_virt rfl (cn rfl) rfl rfl c58 rfl (m_person1 c58) ?_
                            rintro _ _ ⟨rfl, rfl⟩
                            · refine s_istore_n rfl (cn rfl) ?_
                              refine s_aload_n rfl (cn rfl) rfl ?_
                              refine s_virt rfl (cn rfl) rfl rfl c58 rfl (m_person1 c58) ?_
                              rintro _ _ ⟨rfl, rfl⟩
                              · refine s_istore_n rfl (cn rfl) ?_
                                refine s_aload_n rfl (cn rfl) rfl ?_
                                refine s_getfield rfl (cn rfl) c58 rfl ?_
                                refine s_aload_n rfl (cn rfl) rfl ?_
                                refine s_getfield rfl (cn rfl) c58 rfl ?_
                                refine s_iload_n rfl (cn rfl) rfl ?_
                                refine s_iastore rfl (cn rfl) _ rfl c62 (by omega) (by decide) ?_
                                refine s_aload_n rfl (cn rfl) rfl ?_
                                refine s_getfield rfl (cn rfl) c58 rfl ?_
                                refine s_aload_n rfl (cn rfl) rfl ?_
                                refine s_getfield rfl (cn rfl) c58 rfl ?_
                                refine s_iload_n rfl (cn rfl) rfl ?_
                                refine s_iastore rfl (cn rfl) _ rfl c63 (by omega) (by decide) ?_
                                refine s_aload_n rfl (cn rfl) rfl ?_
                                refine s_getfield rfl (cn rfl) c58 rfl ?_
                                refine s_aload_n rfl (cn rfl) rfl ?_
                                refine s_getfield rfl (cn rfl) c58 rfl ?_
                                refine s_iload_n rfl (cn rfl) rfl ?_
                                refine s_iastore rfl (cn rfl) _ rfl c64 (by omega) (by decide) ?_
                                refine s_aload_n rfl (cn rfl) rfl ?_
                                refine s_dupr rfl (cn rfl) ?_
                                refine s_getfield rfl (cn rfl) c58 rfl ?_
                                refine s_iconst rfl (cn rfl) ?_
                                refine s_iadd rfl (cn rfl) ?_
                                refine s_puti rfl (cn rfl) rfl c58 rfl ?_
                                refine s_return rfl ?_
                                first
                                  | (refine ⟨rfl, Or.inl ⟨q14, (kd ta p (plN ta tl p), x14, 0), ?_, by omega, by omega, ⟨⟨by show 0 ≤ kd ta p (plN ta tl p); omega, by show kd ta p (plN ta tl p) ≤ 5; omega⟩, (by show -999 ≤ x14 ∧ x14 ≤ (999 : Int); omega), (by show -999 ≤ 0 ∧ 0 ≤ (999 : Int); omega)⟩, _, rfl, fr_s (by decide) (fr_s (by decide) (fr_s (by decide) (fr_s (by decide) hF))), rr_set_eq, rfl, rfl, rfl⟩⟩
                                     unfold rD
                                     rw [if_neg ek]
                                     rw [show kd ta p (plN ta tl p) = 0 by omega, rA_0, s1]; rfl
                                     done)
                                  | (refine ⟨rfl, Or.inl ⟨q26, (kd ta p (plN ta tl p), x23, x26), ?_, by omega, by omega, ⟨⟨by show 0 ≤ kd ta p (plN ta tl p); omega, by show kd ta p (plN ta tl p) ≤ 5; omega⟩, (by show -999 ≤ x23 ∧ x23 ≤ (999 : Int); omega), (by show -999 ≤ x26 ∧ x26 ≤ (999 : Int); omega)⟩, _, rfl, fr_s (by decide) (fr_s (by decide) (fr_s (by decide) (fr_s (by decide) hF))), rr_set_eq, rfl, rfl, rfl⟩⟩
                                     unfold rD
                                     rw [if_neg ek]
                                     rw [rA_12 (by omega), s1]; show sb (sb (sb (rB ta tl q23) (rN ta tl)) _) _ = _; rw [s2]; rfl
                                     done)
                                  | (refine ⟨rfl, Or.inl ⟨q35, (kd ta p (plN ta tl p), x32, x35), ?_, by omega, by omega, ⟨⟨by show 0 ≤ kd ta p (plN ta tl p); omega, by show kd ta p (plN ta tl p) ≤ 5; omega⟩, (by show -999 ≤ x32 ∧ x32 ≤ (999 : Int); omega), (by show -999 ≤ x35 ∧ x35 ≤ (999 : Int); omega)⟩, _, rfl, fr_s (by decide) (fr_s (by decide) (fr_s (by decide) (fr_s (by decide) hF))), rr_set_eq, rfl, rfl, rfl⟩⟩
                                     unfold rD
                                     rw [if_neg ek]
                                     rw [show kd ta p (plN ta tl p) = 5 by omega, rA_5, s1]; show sb (sb (sb (rB ta tl q32) (rP ta tl)) _) _ = _; rw [s2]; rfl
                                     done)
                                  | (refine ⟨rfl, Or.inl ⟨(plN ta tl p), (kd ta p (plN ta tl p), 0, 0), ?_, by omega, by omega, ⟨⟨by show 0 ≤ kd ta p (plN ta tl p); omega, by show kd ta p (plN ta tl p) ≤ 5; omega⟩, (by show -999 ≤ 0 ∧ 0 ≤ (999 : Int); omega), (by show -999 ≤ 0 ∧ 0 ≤ (999 : Int); omega)⟩, _, rfl, fr_s (by decide) (fr_s (by decide) (fr_s (by decide) (fr_s (by decide) hF))), rr_set_eq, rfl, rfl, rfl⟩⟩
                                     unfold rD
                                     rw [if_neg ek]
                                     rw [rA_3 (by omega)]; rfl
                                     done)
                                  | (have eD : rD ta tl p = .inl f14 := by
                                       unfold rD
                                       rw [if_neg ek]
                                       rw [show kd ta p (plN ta tl p) = 0 by omega, rA_0, ef]; rfl
                                     refine ⟨rfl, Or.inr ⟨_, eD, rD_l hp eD, _, _, _, _, _, _, rfl, fr_s (by decide) (fr_s (by decide) (fr_s (by decide) (fr_s (by decide) hF))), rr_set_eq, rfl, rfl, rfl⟩⟩
                                     done)
                                  | (have eD : rD ta tl p = .inl f26 := by
                                       unfold rD
                                       rw [if_neg ek]
                                       rw [rA_12 (by omega), s1]; show sb (sb (sb (rB ta tl q23) (rN ta tl)) _) _ = _; rw [ef]; rfl
                                     refine ⟨rfl, Or.inr ⟨_, eD, rD_l hp eD, _, _, _, _, _, _, rfl, fr_s (by decide) (fr_s (by decide) (fr_s (by decide) (fr_s (by decide) hF))), rr_set_eq, rfl, rfl, rfl⟩⟩
                                     done)
                                  | (have eD : rD ta tl p = .inl f23 := by
                                       unfold rD
                                       rw [if_neg ek]
                                       rw [rA_12 (by omega), ef]; rfl
                                     refine ⟨rfl, Or.inr ⟨_, eD, rD_l hp eD, _, _, _, _, _, _, rfl, fr_s (by decide) (fr_s (by decide) (fr_s (by decide) (fr_s (by decide) hF))), rr_set_eq, rfl, rfl, rfl⟩⟩
                                     done)
                                  | (have eD : rD ta tl p = .inl f35 := by
                                       unfold rD
                                       rw [if_neg ek]
                                       rw [show kd ta p (plN ta tl p) = 5 by omega, rA_5, s1]; show sb (sb (sb (rB ta tl q32) (rP ta tl)) _) _ = _; rw [ef]; rfl
                                     refine ⟨rfl, Or.inr ⟨_, eD, rD_l hp eD, _, _, _, _, _, _, rfl, fr_s (by decide) (fr_s (by decide) (fr_s (by decide) (fr_s (by decide) hF))), rr_set_eq, rfl, rfl, rfl⟩⟩
                                     done)
                                  | (have eD : rD ta tl p = .inl f32 := by
                                       unfold rD
                                       rw [if_neg ek]
                                       rw [show kd ta p (plN ta tl p) = 5 by omega, rA_5, ef]; rfl
                                     refine ⟨rfl, Or.inr ⟨_, eD, rD_l hp eD, _, _, _, _, _, _, rfl, fr_s (by decide) (fr_s (by decide) (fr_s (by decide) (fr_s (by decide) hF))), rr_set_eq, rfl, rfl, rfl⟩⟩
                                     done)
                    · have c61 := (hf23 61 (by decide)).trans c61
                      have c62 := (hf23 62 (by decide)).trans c62
                      have c63 := (hf23 63 (by decide)).trans c63
                      have c64 := (hf23 64 (by decide)).trans c64
                      have hF := fr_t hF hf23 (by decide)
                      refine s_istore_n rfl (cn rfl) ?_
                      refine s_aload_n rfl (cn rfl) rfl ?_
                      refine s_virt rfl (cn rfl) rfl rfl c58 rfl (m_number1 c58) ?_
                      rintro _ _ ⟨rfl, rfl⟩
                      · refine s_istore_n rfl (cn rfl) ?_
                        refine s_iload_n rfl (cn rfl) rfl ?_
                        refine s_iconst rfl (cn rfl) ?_
                        refine s_icmp_ne rfl (cn rfl) (cn rfl) ⟨by omega, by omega⟩ ⟨by omega, by omega⟩ (fun q30 => ?_) (fun q30 => ?_)
                        · first
                          | (exfalso; omega)
                          | skip
                            refine s_aload_n rfl (cn rfl) rfl ?_
                            refine s_getfield rfl (cn rfl) c58 rfl ?_
                            refine s_aload_n rfl (cn rfl) rfl ?_
                            refine s_getfield rfl (cn rfl) c58 rfl ?_
                            refine s_iload_n rfl (cn rfl) rfl ?_
                            refine s_iastore rfl (cn rfl) _ rfl c62 (by omega) (by decide) ?_
                            refine s_aload_n rfl (cn rfl) rfl ?_
                            refine s_getfield rfl (cn rfl) c58 rfl ?_
                            refine s_aload_n rfl (cn rfl) rfl ?_
                            refine s_getfield rfl (cn rfl) c58 rfl ?_
                            refine s_iload_n rfl (cn rfl) rfl ?_
                            refine s_iastore rfl (cn rfl) _ rfl c63 (by omega) (by decide) ?_
                            refine s_aload_n rfl (cn rfl) rfl ?_
                            refine s_getfield rfl (cn rfl) c58 rfl ?_
                            refine s_aload_n rfl (cn rfl) rfl ?_
                            refine s_getfield rfl (cn rfl) c58 rfl ?_
                            refine s_iload_n rfl (cn rfl) rfl ?_
                            refine s_iastore rfl (cn rfl) _ rfl c64 (by omega) (by decide) ?_
                            refine s_aload_n rfl (cn rfl) rfl ?_
                            refine s_dupr rfl (cn rfl) ?_
                            refine s_getfield rfl (cn rfl) c58 rfl ?_
                            refine s_iconst rfl (cn rfl) ?_
                            refine s_iadd rfl (cn rfl) ?_
                            refine s_puti rfl (cn rfl) rfl c58 rfl ?_
                            refine s_return rfl ?_
                            first
                              | (refine ⟨rfl, Or.inl ⟨q14, (kd ta p (plN ta tl p), x14, 0), ?_, by omega, by omega, ⟨⟨by show 0 ≤ kd ta p (plN ta tl p); omega, by show kd ta p (plN ta tl p) ≤ 5; omega⟩, (by show -999 ≤ x14 ∧ x14 ≤ (999 : Int); omega), (by show -999 ≤ 0 ∧ 0 ≤ (999 : Int); omega)⟩, _, rfl, fr_s (by decide) (fr_s (by decide) (fr_s (by decide) (fr_s (by decide) hF))), rr_set_eq, rfl, rfl, rfl⟩⟩
                                 unfold rD
                                 rw [if_neg ek]
                                 rw [show kd ta p (plN ta tl p) = 0 by omega, rA_0, s1]; rfl
                                 done)
                              | (refine ⟨rfl, Or.inl ⟨q26, (kd ta p (plN ta tl p), x23, x26), ?_, by omega, by omega, ⟨⟨by show 0 ≤ kd ta p (plN ta tl p); omega, by show kd ta p (plN ta tl p) ≤ 5; omega⟩, (by show -999 ≤ x23 ∧ x23 ≤ (999 : Int); omega), (by show -999 ≤ x26 ∧ x26 ≤ (999 : Int); omega)⟩, _, rfl, fr_s (by decide) (fr_s (by decide) (fr_s (by decide) (fr_s (by decide) hF))), rr_set_eq, rfl, rfl, rfl⟩⟩
                                 unfold rD
                                 rw [if_neg ek]
                                 rw [rA_12 (by omega), s1]; show sb (sb (sb (rB ta tl q23) (rN ta tl)) _) _ = _; rw [s2]; rfl
                                 done)
                              | (refine ⟨rfl, Or.inl ⟨q35, (kd ta p (plN ta tl p), x32, x35), ?_, by omega, by omega, ⟨⟨by show 0 ≤ kd ta p (plN ta tl p); omega, by show kd ta p (plN ta tl p) ≤ 5; omega⟩, (by show -999 ≤ x32 ∧ x32 ≤ (999 : Int); omega), (by show -999 ≤ x35 ∧ x35 ≤ (999 : Int); omega)⟩, _, rfl, fr_s (by decide) (fr_s (by decide) (fr_s (by decide) (fr_s (by decide) hF))), rr_set_eq, rfl, rfl, rfl⟩⟩
                                 unfold rD
                                 rw [if_neg ek]
                                 rw [show kd ta p (plN ta tl p) = 5 by omega, rA_5, s1]; show sb (sb (sb (rB ta tl q32) (rP ta tl)) _) _ = _; rw [s2]; rfl
                                 done)
                              | (refine ⟨rfl, Or.inl ⟨(plN ta tl p), (kd ta p (plN ta tl p), 0, 0), ?_, by omega, by omega, ⟨⟨by show 0 ≤ kd ta p (plN ta tl p); omega, by show kd ta p (plN ta tl p) ≤ 5; omega⟩, (by show -999 ≤ 0 ∧ 0 ≤ (999 : Int); omega), (by show -999 ≤ 0 ∧ 0 ≤ (999 : Int); omega)⟩, _, rfl, fr_s (by decide) (fr_s (by decide) (fr_s (by decide) (fr_s (by decide) hF))), rr_set_eq, rfl, rfl, rfl⟩⟩
                                 unfold rD
                                 rw [if_neg ek]
                                 rw [rA_3 (by omega)]; rfl
                                 done)
                              | (have eD : rD ta tl p = .inl f14 := by
                                   unfold rD
                                   rw [if_neg ek]
                                   rw [show kd ta p (plN ta tl p) = 0 by omega, rA_0, ef]; rfl
                                 refine ⟨rfl, Or.inr ⟨_, eD, rD_l hp eD, _, _, _, _, _, _, rfl, fr_s (by decide) (fr_s (by decide) (fr_s (by decide) (fr_s (by decide) hF))), rr_set_eq, rfl, rfl, rfl⟩⟩
                                 done)
                              | (have eD : rD ta tl p = .inl f26 := by
                                   unfold rD
                                   rw [if_neg ek]
                                   rw [rA_12 (by omega), s1]; show sb (sb (sb (rB ta tl q23) (rN ta tl)) _) _ = _; rw [ef]; rfl
                                 refine ⟨rfl, Or.inr ⟨_, eD, rD_l hp eD, _, _, _, _, _, _, rfl, fr_s (by decide) (fr_s (by decide) (fr_s (by decide) (fr_s (by decide) hF))), rr_set_eq, rfl, rfl, rfl⟩⟩
                                 done)
                              | (have eD : rD ta tl p = .inl f23 := by
                                   unfold rD
                                   rw [if_neg ek]
                                   rw [rA_12 (by omega), ef]; rfl
                                 refine ⟨rfl, Or.inr ⟨_, eD, rD_l hp eD, _, _, _, _, _, _, rfl, fr_s (by decide) (fr_s (by decide) (fr_s (by decide) (fr_s (by decide) hF))), rr_set_eq, rfl, rfl, rfl⟩⟩
                                 done)
                              | (have eD : rD ta tl p = .inl f35 := by
                                   unfold rD
                                   rw [if_neg ek]
                                   rw [show kd ta p (plN ta tl p) = 5 by omega, rA_5, s1]; show sb (sb (sb (rB ta tl q32) (rP ta tl)) _) _ = _; rw [ef]; rfl
                                 refine ⟨rfl, Or.inr ⟨_, eD, rD_l hp eD, _, _, _, _, _, _, rfl, fr_s (by decide) (fr_s (by decide) (fr_s (by decide) (fr_s (by decide) hF))), rr_set_eq, rfl, rfl, rfl⟩⟩
                                 done)
                              | (have eD : rD ta tl p = .inl f32 := by
                                   unfold rD
                                   rw [if_neg ek]
                                   rw [show kd ta p (plN ta tl p) = 5 by omega, rA_5, ef]; rfl
                                 refine ⟨rfl, Or.inr ⟨_, eD, rD_l hp eD, _, _, _, _, _, _, rfl, fr_s (by decide) (fr_s (by decide) (fr_s (by decide) (fr_s (by decide) hF))), rr_set_eq, rfl, rfl, rfl⟩⟩
                                 done)
                        · first
                          | (exfalso; omega)
                          | skip
                            refine s_aload_n rfl (cn rfl) rfl ?_
                            refine s_virt rfl (cn rfl) rfl rfl c58 rfl (m_person1 c58) ?_
                            rintro _ _ ⟨rfl, rfl⟩
                            · refine s_istore_n rfl (cn rfl) ?_
                              refine s_aload_n rfl (cn rfl) rfl ?_
                              refine s_virt rfl (cn rfl) rfl rfl c58 rfl (m_person1 c58) ?_
                              rintro _ _ ⟨rfl, rfl⟩
                              · refine s_istore_n rfl (cn rfl) ?_
                                refine s_aload_n rfl (cn rfl) rfl ?_
                                refine s_getfield rfl (cn rfl) c58 rfl ?_
                                refine s_aload_n rfl (cn rfl) rfl ?_
                                refine s_getfield rfl (cn rfl) c58 rfl ?_
                                refine s_iload_n rfl (cn rfl) rfl ?_
                                refine s_iastore rfl (cn rfl) _ rfl c62 (by omega) (by decide) ?_
                                refine s_aload_n rfl (cn rfl) rfl ?_
                                refine s_getfield rfl (cn rfl) c58 rfl ?_
                                refine s_aload_n rfl (cn rfl) rfl ?_
                                refine s_getfield rfl (cn rfl) c58 rfl ?_
                                refine s_iload_n rfl (cn rfl) rfl ?_
                                refine s_iastore rfl (cn rfl) _ rfl c63 (by omega) (by decide) ?_
                                refine s_aload_n rfl (cn rfl) rfl ?_
                                refine s_getfield rfl (cn rfl) c58 rfl ?_
                                refine s_aload_n rfl (cn rfl) rfl ?_
                                refine s_getfield rfl (cn rfl) c58 rfl ?_
                                refine s_iload_n rfl (cn rfl) rfl ?_
                                refine s_iastore rfl (cn rfl) _ rfl c64 (by omega) (by decide) ?_
                                refine s_aload_n rfl (cn rfl) rfl ?_
                                refine s_dupr rfl (cn rfl) ?_
                                refine s_getfield rfl (cn rfl) c58 rfl ?_
                                refine s_iconst rfl (cn rfl) ?_
                                refine s_iadd rfl (cn rfl) ?_
                                refine s_puti rfl (cn rfl) rfl c58 rfl ?_
                                refine s_return rfl ?_
                                first
                                  | (refine ⟨rfl, Or.inl ⟨q14, (kd ta p (plN ta tl p), x14, 0), ?_, by omega, by omega, ⟨⟨by show 0 ≤ kd ta p (plN ta tl p); omega, by show kd ta p (plN ta tl p) ≤ 5; omega⟩, (by show -999 ≤ x14 ∧ x14 ≤ (999 : Int); omega), (by show -999 ≤ 0 ∧ 0 ≤ (999 : Int); omega)⟩, _, rfl, fr_s (by decide) (fr_s (by decide) (fr_s (by decide) (fr_s (by decide) hF))), rr_set_eq, rfl, rfl, rfl⟩⟩
                                     unfold rD
                                     rw [if_neg ek]
                                     rw [show kd ta p (plN ta tl p) = 0 by omega, rA_0, s1]; rfl
                                     done)
                                  | (refine ⟨rfl, Or.inl ⟨q26, (kd ta p (plN ta tl p), x23, x26), ?_, by omega, by omega, ⟨⟨by show 0 ≤ kd ta p (plN ta tl p); omega, by show kd ta p (plN ta tl p) ≤ 5; omega⟩, (by show -999 ≤ x23 ∧ x23 ≤ (999 : Int); omega), (by show -999 ≤ x26 ∧ x26 ≤ (999 : Int); omega)⟩, _, rfl, fr_s (by decide) (fr_s (by decide) (fr_s (by decide) (fr_s (by decide) hF))), rr_set_eq, rfl, rfl, rfl⟩⟩
                                     unfold rD
                                     rw [if_neg ek]
                                     rw [rA_12 (by omega), s1]; show sb (sb (sb (rB ta tl q23) (rN ta tl)) _) _ = _; rw [s2]; rfl
                                     done)
                                  | (refine ⟨rfl, Or.inl ⟨q35, (kd ta p (plN ta tl p), x32, x35), ?_, by omega, by omega, ⟨⟨by show 0 ≤ kd ta p (plN ta tl p); omega, by show kd ta p (plN ta tl p) ≤ 5; omega⟩, (by show -999 ≤ x32 ∧ x32 ≤ (999 : Int); omega), (by show -999 ≤ x35 ∧ x35 ≤ (999 : Int); omega)⟩, _, rfl, fr_s (by decide) (fr_s (by decide) (fr_s (by decide) (fr_s (by decide) hF))), rr_set_eq, rfl, rfl, rfl⟩⟩
                                     unfold rD
                                     rw [if_neg ek]
                                     rw [show kd ta p (plN ta tl p) = 5 by omega, rA_5, s1]; show sb (sb (sb (rB ta tl q32) (rP ta tl)) _) _ = _; rw [s2]; rfl
                                     done)
                                  | (refine ⟨rfl, Or.inl ⟨(plN ta tl p), (kd ta p (plN ta tl p), 0, 0), ?_, by omega, by omega, ⟨⟨by show 0 ≤ kd ta p (plN ta tl p); omega, by show kd ta p (plN ta tl p) ≤ 5; omega⟩, (by show -999 ≤ 0 ∧ 0 ≤ (999 : Int); omega), (by show -999 ≤ 0 ∧ 0 ≤ (999 : Int); omega)⟩, _, rfl, fr_s (by decide) (fr_s (by decide) (fr_s (by decide) (fr_s (by decide) hF))), rr_set_eq, rfl, rfl, rfl⟩⟩
                                     unfold rD
                                     rw [if_neg ek]
                                     rw [rA_3 (by omega)]; rfl
                                     done)
                                  | (have eD : rD ta tl p = .inl f14 := by
                                       unfold rD
                                       rw [if_neg ek]
                                       rw [show kd ta p (plN ta tl p) = 0 by omega, rA_0, ef]; rfl
                                     refine ⟨rfl, Or.inr ⟨_, eD, rD_l hp eD, _, _, _, _, _, _, rfl, fr_s (by decide) (fr_s (by decide) (fr_s (by decide) (fr_s (by decide) hF))), rr_set_eq, rfl, rfl, rfl⟩⟩
                                     done)
                                  | (have eD : rD ta tl p = .inl f26 := by
                                       unfold rD
                                       rw [if_neg ek]
                                       rw [rA_12 (by omega), s1]; show sb (sb (sb (rB ta tl q23) (rN ta tl)) _) _ = _; rw [ef]; rfl
                                     refine ⟨rfl, Or.inr ⟨_, eD, rD_l hp eD, _, _, _, _, _, _, rfl, fr_s (by decide) (fr_s (by decide) (fr_s (by decide) (fr_s (by decide) hF))), rr_set_eq, rfl, rfl, rfl⟩⟩
                                     done)
                                  | (have eD : rD ta tl p = .inl f23 := by
                                       unfold rD
                                       rw [if_neg ek]
                                       rw [rA_12 (by omega), ef]; rfl
                                     refine ⟨rfl, Or.inr ⟨_, eD, rD_l hp eD, _, _, _, _, _, _, rfl, fr_s (by decide) (fr_s (by decide) (fr_s (by decide) (fr_s (by decide) hF))), rr_set_eq, rfl, rfl, rfl⟩⟩
                                     done)
                                  | (have eD : rD ta tl p = .inl f35 := by
                                       unfold rD
                                       rw [if_neg ek]
                                       rw [show kd ta p (plN ta tl p) = 5 by omega, rA_5, s1]; show sb (sb (sb (rB ta tl q32) (rP ta tl)) _) _ = _; rw [ef]; rfl
                                     refine ⟨rfl, Or.inr ⟨_, eD, rD_l hp eD, _, _, _, _, _, _, rfl, fr_s (by decide) (fr_s (by decide) (fr_s (by decide) (fr_s (by decide) hF))), rr_set_eq, rfl, rfl, rfl⟩⟩
                                     done)
                                  | (have eD : rD ta tl p = .inl f32 := by
                                       unfold rD
                                       rw [if_neg ek]
                                       rw [show kd ta p (plN ta tl p) = 5 by omega, rA_5, ef]; rfl
                                     refine ⟨rfl, Or.inr ⟨_, eD, rD_l hp eD, _, _, _, _, _, _, rfl, fr_s (by decide) (fr_s (by decide) (fr_s (by decide) (fr_s (by decide) hF))), rr_set_eq, rfl, rfl, rfl⟩⟩
                                     done)
        · first
          | (exfalso; omega)
          | skip
            refine s_aload_n rfl (cn rfl) rfl ?_
            refine s_virt rfl (cn rfl) rfl rfl c58 rfl (m_number0 htl pl2 ht c58 c61) ?_
            rintro _ _ (⟨q14, x14, s1, rfl, h14, rfl, hf14, c58⟩ | ⟨f14, r14, t14, ef, rfl, h14, rfl, hf14, c58⟩)
            · have c61 := (hf14 61 (by decide)).trans c61
              have c62 := (hf14 62 (by decide)).trans c62
              have c63 := (hf14 63 (by decide)).trans c63
              have c64 := (hf14 64 (by decide)).trans c64
              have hF := fr_t hF hf14 (by decide)
              have b14 := bN_b s1
              refine s_istore_n rfl (cn rfl) ?_
              refine s_iload_n rfl (cn rfl) rfl ?_
              refine s_iconst rfl (cn rfl) ?_
              refine s_icmp_eq rfl (cn rfl) (cn rfl) ⟨by omega, by omega⟩ ⟨by omega, by omega⟩ (fun q18 => ?_) (fun q18 => ?_)
              · first
                | (exfalso; omega)
                | skip
                  refine s_aload_n rfl (cn rfl) rfl ?_
                  refine s_virt rfl (cn rfl) rfl rfl c58 rfl (m_group0 htl pl2 ht c58 c61) ?_
                  rintro _ _ (⟨q23, x23, s1, rfl, h23, rfl, hf23, c58⟩ | ⟨f23, r23, t23, ef, rfl, h23, rfl, hf23, c58⟩)
                  · have c61 := (hf23 61 (by decide)).trans c61
                    have c62 := (hf23 62 (by decide)).trans c62
                    have c63 := (hf23 63 (by decide)).trans c63
                    have c64 := (hf23 64 (by decide)).trans c64
                    have hF := fr_t hF hf23 (by decide)
                    have b23 := bG_b s1
                    refine s_istore_n rfl (cn rfl) ?_
                    refine s_aload_n rfl (cn rfl) rfl ?_
                    refine s_virt rfl (cn rfl) rfl rfl c58 rfl (m_number0 htl b23.2.1 ht c58 c61) ?_
                    rintro _ _ (⟨q26, x26, s2, rfl, h26, rfl, hf26, c58⟩ | ⟨f26, r26, t26, ef, rfl, h26, rfl, hf26, c58⟩)
                    · have c61 := (hf26 61 (by decide)).trans c61
                      have c62 := (hf26 62 (by decide)).trans c62
                      have c63 := (hf26 63 (by decide)).trans c63
                      have c64 := (hf26 64 (by decide)).trans c64
                      have hF := fr_t hF hf26 (by decide)
                      have b26 := bN_b s2
                      refine s_istore_n rfl (cn rfl) ?_
                      refine s_iload_n rfl (cn rfl) rfl ?_
                      refine s_iconst rfl (cn rfl) ?_
                      refine s_icmp_ne rfl (cn rfl) (cn rfl) ⟨by omega, by omega⟩ ⟨by omega, by omega⟩ (fun q30 => ?_) (fun q30 => ?_)
                      · first
                        | (exfalso; omega)
                        | skip
                          refine s_aload_n rfl (cn rfl) rfl ?_
                          refine s_getfield rfl (cn rfl) c58 rfl ?_
                          refine s_aload_n rfl (cn rfl) rfl ?_
                          refine s_getfield rfl (cn rfl) c58 rfl ?_
                          refine s_iload_n rfl (cn rfl) rfl ?_
                          refine s_iastore rfl (cn rfl) _ rfl c62 (by omega) (by decide) ?_
                          refine s_aload_n rfl (cn rfl) rfl ?_
                          refine s_getfield rfl (cn rfl) c58 rfl ?_
                          refine s_aload_n rfl (cn rfl) rfl ?_
                          refine s_getfield rfl (cn rfl) c58 rfl ?_
                          refine s_iload_n rfl (cn rfl) rfl ?_
                          refine s_iastore rfl (cn rfl) _ rfl c63 (by omega) (by decide) ?_
                          refine s_aload_n rfl (cn rfl) rfl ?_
                          refine s_getfield rfl (cn rfl) c58 rfl ?_
                          refine s_aload_n rfl (cn rfl) rfl ?_
                          refine s_getfield rfl (cn rfl) c58 rfl ?_
                          refine s_iload_n rfl (cn rfl) rfl ?_
                          refine s_iastore rfl (cn rfl) _ rfl c64 (by omega) (by decide) ?_
                          refine s_aload_n rfl (cn rfl) rfl ?_
                          refine s_dupr rfl (cn rfl) ?_
                          refine s_getfield rfl (cn rfl) c58 rfl ?_
                          refine s_iconst rfl (cn rfl) ?_
                          refine s_iadd rfl (cn rfl) ?_
                          refine s_puti rfl (cn rfl) rfl c58 rfl ?_
                          refine s_return rfl ?_
                          first
                            | (refine ⟨rfl, Or.inl ⟨q14, (kd ta p (plN ta tl p), x14, 0), ?_, by omega, by omega, ⟨⟨by show 0 ≤ kd ta p (plN ta tl p); omega, by show kd ta p (plN ta tl p) ≤ 5; omega⟩, (by show -999 ≤ x14 ∧ x14 ≤ (999 : Int); omega), (by show -999 ≤ 0 ∧ 0 ≤ (999 : Int); omega)⟩, _, rfl, fr_s (by decide) (fr_s (by decide) (fr_s (by decide) (fr_s (by decide) hF))), rr_set_eq, rfl, rfl, rfl⟩⟩
                               unfold rD
                               rw [if_neg ek]
                               rw [show kd ta p (plN ta tl p) = 0 by omega, rA_0, s1]; rfl
                               done)
                            | (refine ⟨rfl, Or.inl ⟨q26, (kd ta p (plN ta tl p), x23, x26), ?_, by omega, by omega, ⟨⟨by show 0 ≤ kd ta p (plN ta tl p); omega, by show kd ta p (plN ta tl p) ≤ 5; omega⟩, (by show -999 ≤ x23 ∧ x23 ≤ (999 : Int); omega), (by show -999 ≤ x26 ∧ x26 ≤ (999 : Int); omega)⟩, _, rfl, fr_s (by decide) (fr_s (by decide) (fr_s (by decide) (fr_s (by decide) hF))), rr_set_eq, rfl, rfl, rfl⟩⟩
                               unfold rD
                               rw [if_neg ek]
                               rw [rA_12 (by omega), s1]; show sb (sb (sb (rB ta tl q23) (rN ta tl)) _) _ = _; rw [s2]; rfl
                               done)
                            | (refine ⟨rfl, Or.inl ⟨q35, (kd ta p (plN ta tl p), x32, x35), ?_, by omega, by omega, ⟨⟨by show 0 ≤ kd ta p (plN ta tl p); omega, by show kd ta p (plN ta tl p) ≤ 5; omega⟩, (by show -999 ≤ x32 ∧ x32 ≤ (999 : Int); omega), (by show -999 ≤ x35 ∧ x35 ≤ (999 : Int); omega)⟩, _, rfl, fr_s (by decide) (fr_s (by decide) (fr_s (by decide) (fr_s (by decide) hF))), rr_set_eq, rfl, rfl, rfl⟩⟩
                               unfold rD
                               rw [if_neg ek]
                               rw [show kd ta p (plN ta tl p) = 5 by omega, rA_5, s1]; show sb (sb (sb (rB ta tl q32) (rP ta tl)) _) _ = _; rw [s2]; rfl
                               done)
                            | (refine ⟨rfl, Or.inl ⟨(plN ta tl p), (kd ta p (plN ta tl p), 0, 0), ?_, by omega, by omega, ⟨⟨by show 0 ≤ kd ta p (plN ta tl p); omega, by show kd ta p (plN ta tl p) ≤ 5; omega⟩, (by show -999 ≤ 0 ∧ 0 ≤ (999 : Int); omega), (by show -999 ≤ 0 ∧ 0 ≤ (999 : Int); omega)⟩, _, rfl, fr_s (by decide) (fr_s (by decide) (fr_s (by decide) (fr_s (by decide) hF))), rr_set_eq, rfl, rfl, rfl⟩⟩
                               unfold rD
                               rw [if_neg ek]
                               rw [rA_3 (by omega)]; rfl
                               done)
                            | (have eD : rD ta tl p = .inl f14 := by
                                 unfold rD
                                 rw [if_neg ek]
                                 rw [show kd ta p (plN ta tl p) = 0 by omega, rA_0, ef]; rfl
                               refine ⟨rfl, Or.inr ⟨_, eD, rD_l hp eD, _, _, _, _, _, _, rfl, fr_s (by decide) (fr_s (by decide) (fr_s (by decide) (fr_s (by decide) hF))), rr_set_eq, rfl, rfl, rfl⟩⟩
                               done)
                            | (have eD : rD ta tl p = .inl f26 := by
                                 unfold rD
                                 rw [if_neg ek]
                                 rw [rA_12 (by omega), s1]; show sb (sb (sb (rB ta tl q23) (rN ta tl)) _) _ = _; rw [ef]; rfl
                               refine ⟨rfl, Or.inr ⟨_, eD, rD_l hp eD, _, _, _, _, _, _, rfl, fr_s (by decide) (fr_s (by decide) (fr_s (by decide) (fr_s (by decide) hF))), rr_set_eq, rfl, rfl, rfl⟩⟩
                               done)
                            | (have eD : rD ta tl p = .inl f23 := by
                                 unfold rD
                                 rw [if_neg ek]
                                 rw [rA_12 (by omega), ef]; rfl
                               refine ⟨rfl, Or.inr ⟨_, eD, rD_l hp eD, _, _, _, _, _, _, rfl, fr_s (by decide) (fr_s (by decide) (fr_s (by decide) (fr_s (by decide) hF))), rr_set_eq, rfl, rfl, rfl⟩⟩
                               done)
                            | (have eD : rD ta tl p = .inl f35 := by
                                 unfold rD
                                 rw [if_neg ek]
                                 rw [show kd ta p (plN ta tl p) = 5 by omega, rA_5, s1]; show sb (sb (sb (rB ta tl q32) (rP ta tl)) _) _ = _; rw [ef]; rfl
                               refine ⟨rfl, Or.inr ⟨_, eD, rD_l hp eD, _, _, _, _, _, _, rfl, fr_s (by decide) (fr_s (by decide) (fr_s (by decide) (fr_s (by decide) hF))), rr_set_eq, rfl, rfl, rfl⟩⟩
                               done)
                            | (have eD : rD ta tl p = .inl f32 := by
                                 unfold rD
                                 rw [if_neg ek]
                                 rw [show kd ta p (plN ta tl p) = 5 by omega, rA_5, ef]; rfl
                               refine ⟨rfl, Or.inr ⟨_, eD, rD_l hp eD, _, _, _, _, _, _, rfl, fr_s (by decide) (fr_s (by decide) (fr_s (by decide) (fr_s (by decide) hF))), rr_set_eq, rfl, rfl, rfl⟩⟩
                               done)
                      · first
                        | (exfalso; omega)
                        | skip
                          refine s_aload_n rfl (cn rfl) rfl ?_
                          refine s_virt rfl (cn rfl) rfl rfl c58 rfl (m_person0 htl pl2 ht c58 c61) ?_
                          rintro _ _ (⟨q32, x32, s1, rfl, h32, rfl, hf32, c58⟩ | ⟨f32, r32, t32, ef, rfl, h32, rfl, hf32, c58⟩)
                          · have c61 := (hf32 61 (by decide)).trans c61
                            have c62 := (hf32 62 (by decide)).trans c62
                            have c63 := (hf32 63 (by decide)).trans c63
                            have c64 := (hf32 64 (by decide)).trans c64
                            have hF := fr_t hF hf32 (by decide)
                            have b32 := bP_b s1
                            refine s_istore_n rfl (cn rfl) ?_
                            refine s_aload_n rfl (cn rfl) rfl ?_
                            refine s_virt rfl (cn rfl) rfl rfl c58 rfl (m_person0 htl b32.2.1 ht c58 c61) ?_
                            rintro _ _ (⟨q35, x35, s2, rfl, h35, rfl, hf35, c58⟩ | ⟨f35, r35, t35, ef, rfl, h35, rfl, hf35, c58⟩)
                            · have c61 := (hf35 61 (by decide)).trans c61
                              have c62 := (hf35 62 (by decide)).trans c62
                              have c63 := (hf35 63 (by decide)).trans c63
                              have c64 := (hf35 64 (by decide)).trans c64
                              have hF := fr_t hF hf35 (by decide)
                              have b35 := bP_b s2
                              refine s_istore_n rfl (cn rfl) ?_
                              refine s_aload_n rfl (cn rfl) rfl ?_
                              refine s_getfield rfl (cn rfl) c58 rfl ?_
                              refine s_aload_n rfl (cn rfl) rfl ?_
                              refine s_getfield rfl (cn rfl) c58 rfl ?_
                              refine s_iload_n rfl (cn rfl) rfl ?_
                              refine s_iastore rfl (cn rfl) _ rfl c62 (by omega) (by decide) ?_
                              refine s_aload_n rfl (cn rfl) rfl ?_
                              refine s_getfield rfl (cn rfl) c58 rfl ?_
                              refine s_aload_n rfl (cn rfl) rfl ?_
                              refine s_getfield rfl (cn rfl) c58 rfl ?_
                              refine s_iload_n rfl (cn rfl) rfl ?_
                              refine s_iastore rfl (cn rfl) _ rfl c63 (by omega) (by decide) ?_
                              refine s_aload_n rfl (cn rfl) rfl ?_
                              refine s_getfield rfl (cn rfl) c58 rfl ?_
                              refine s_aload_n rfl (cn rfl) rfl ?_
                              refine s_getfield rfl (cn rfl) c58 rfl ?_
                              refine s_iload_n rfl (cn rfl) rfl ?_
                              refine s_iastore rfl (cn rfl) _ rfl c64 (by omega) (by decide) ?_
                              refine s_aload_n rfl (cn rfl) rfl ?_
                              refine s_dupr rfl (cn rfl) ?_
                              refine s_getfield rfl (cn rfl) c58 rfl ?_
                              refine s_iconst rfl (cn rfl) ?_
                              refine s_iadd rfl (cn rfl) ?_
                              refine s_puti rfl (cn rfl) rfl c58 rfl ?_
                              refine s_return rfl ?_
                              first
                                | (refine ⟨rfl, Or.inl ⟨q14, (kd ta p (plN ta tl p), x14, 0), ?_, by omega, by omega, ⟨⟨by show 0 ≤ kd ta p (plN ta tl p); omega, by show kd ta p (plN ta tl p) ≤ 5; omega⟩, (by show -999 ≤ x14 ∧ x14 ≤ (999 : Int); omega), (by show -999 ≤ 0 ∧ 0 ≤ (999 : Int); omega)⟩, _, rfl, fr_s (by decide) (fr_s (by decide) (fr_s (by decide) (fr_s (by decide) hF))), rr_set_eq, rfl, rfl, rfl⟩⟩
                                   unfold rD
                                   rw [if_neg ek]
                                   rw [show kd ta p (plN ta tl p) = 0 by omega, rA_0, s1]; rfl
                                   done)
                                | (refine ⟨rfl, Or.inl ⟨q26, (kd ta p (plN ta tl p), x23, x26), ?_, by omega, by omega, ⟨⟨by show 0 ≤ kd ta p (plN ta tl p); omega, by show kd ta p (plN ta tl p) ≤ 5; omega⟩, (by show -999 ≤ x23 ∧ x23 ≤ (999 : Int); omega), (by show -999 ≤ x26 ∧ x26 ≤ (999 : Int); omega)⟩, _, rfl, fr_s (by decide) (fr_s (by decide) (fr_s (by decide) (fr_s (by decide) hF))), rr_set_eq, rfl, rfl, rfl⟩⟩
                                   unfold rD
                                   rw [if_neg ek]
                                   rw [rA_12 (by omega), s1]; show sb (sb (sb (rB ta tl q23) (rN ta tl)) _) _ = _; rw [s2]; rfl
                                   done)
                                | (refine ⟨rfl, Or.inl ⟨q35, (kd ta p (plN ta tl p), x32, x35), ?_, by omega, by omega, ⟨⟨by show 0 ≤ kd ta p (plN ta tl p); omega, by show kd ta p (plN ta tl p) ≤ 5; omega⟩, (by show -999 ≤ x32 ∧ x32 ≤ (999 : Int); omega), (by show -999 ≤ x35 ∧ x35 ≤ (999 : Int); omega)⟩, _, rfl, fr_s (by decide) (fr_s (by decide) (fr_s (by decide) (fr_s (by decide) hF))), rr_set_eq, rfl, rfl, rfl⟩⟩
                                   unfold rD
                                   rw [if_neg ek]
                                   rw [show kd ta p (plN ta tl p) = 5 by omega, rA_5, s1]; show sb (sb (sb (rB ta tl q32) (rP ta tl)) _) _ = _; rw [s2]; rfl
                                   done)
                                | (refine ⟨rfl, Or.inl ⟨(plN ta tl p), (kd ta p (plN ta tl p), 0, 0), ?_, by omega, by omega, ⟨⟨by show 0 ≤ kd ta p (plN ta tl p); omega, by show kd ta p (plN ta tl p) ≤ 5; omega⟩, (by show -999 ≤ 0 ∧ 0 ≤ (999 : Int); omega), (by show -999 ≤ 0 ∧ 0 ≤ (999 : Int); omega)⟩, _, rfl, fr_s (by decide) (fr_s (by decide) (fr_s (by decide) (fr_s (by decide) hF))), rr_set_eq, rfl, rfl, rfl⟩⟩
                                   unfold rD
                                   rw [if_neg ek]
                                   rw [rA_3 (by omega)]; rfl
                                   done)
                                | (have eD : rD ta tl p = .inl f14 := by
                                     unfold rD
                                     rw [if_neg ek]
                                     rw [show kd ta p (plN ta tl p) = 0 by omega, rA_0, ef]; rfl
                                   refine ⟨rfl, Or.inr ⟨_, eD, rD_l hp eD, _, _, _, _, _, _, rfl, fr_s (by decide) (fr_s (by decide) (fr_s (by decide) (fr_s (by decide) hF))), rr_set_eq, rfl, rfl, rfl⟩⟩
                                   done)
                                | (have eD : rD ta tl p = .inl f26 := by
                                     unfold rD
                                     rw [if_neg ek]
                                     rw [rA_12 (by omega), s1]; show sb (sb (sb (rB ta tl q23) (rN ta tl)) _) _ = _; rw [ef]; rfl
                                   refine ⟨rfl, Or.inr ⟨_, eD, rD_l hp eD, _, _, _, _, _, _, rfl, fr_s (by decide) (fr_s (by decide) (fr_s (by decide) (fr_s (by decide) hF))), rr_set_eq, rfl, rfl, rfl⟩⟩
                                   done)
                                | (have eD : rD ta tl p = .inl f23 := by
                                     unfold rD
                                     rw [if_neg ek]
                                     rw [rA_12 (by omega), ef]; rfl
                                   refine ⟨rfl, Or.inr ⟨_, eD, rD_l hp eD, _, _, _, _, _, _, rfl, fr_s (by decide) (fr_s (by decide) (fr_s (by decide) (fr_s (by decide) hF))), rr_set_eq, rfl, rfl, rfl⟩⟩
                                   done)
                                | (have eD : rD ta tl p = .inl f35 := by
                                     unfold rD
                                     rw [if_neg ek]
                                     rw [show kd ta p (plN ta tl p) = 5 by omega, rA_5, s1]; show sb (sb (sb (rB ta tl q32) (rP ta tl)) _) _ = _; rw [ef]; rfl
                                   refine ⟨rfl, Or.inr ⟨_, eD, rD_l hp eD, _, _, _, _, _, _, rfl, fr_s (by decide) (fr_s (by decide) (fr_s (by decide) (fr_s (by decide) hF))), rr_set_eq, rfl, rfl, rfl⟩⟩
                                   done)
                                | (have eD : rD ta tl p = .inl f32 := by
                                     unfold rD
                                     rw [if_neg ek]
                                     rw [show kd ta p (plN ta tl p) = 5 by omega, rA_5, ef]; rfl
                                   refine ⟨rfl, Or.inr ⟨_, eD, rD_l hp eD, _, _, _, _, _, _, rfl, fr_s (by decide) (fr_s (by decide) (fr_s (by decide) (fr_s (by decide) hF))), rr_set_eq, rfl, rfl, rfl⟩⟩
                                   done)
                            · have c61 := (hf35 61 (by decide)).trans c61
                              have c62 := (hf35 62 (by decide)).trans c62
                              have c63 := (hf35 63 (by decide)).trans c63
                              have c64 := (hf35 64 (by decide)).trans c64
                              have hF := fr_t hF hf35 (by decide)
                              refine s_istore_n rfl (cn rfl) ?_
                              refine s_aload_n rfl (cn rfl) rfl ?_
                              refine s_getfield rfl (cn rfl) c58 rfl ?_
                              refine s_aload_n rfl (cn rfl) rfl ?_
                              refine s_getfield rfl (cn rfl) c58 rfl ?_
                              refine s_iload_n rfl (cn rfl) rfl ?_
                              refine s_iastore rfl (cn rfl) _ rfl c62 (by omega) (by decide) ?_
                              refine s_aload_n rfl (cn rfl) rfl ?_
                              refine s_getfield rfl (cn rfl) c58 rfl ?_
                              refine s_aload_n rfl (cn rfl) rfl ?_
                              refine s_getfield rfl (cn rfl) c58 rfl ?_
                              refine s_iload_n rfl (cn rfl) rfl ?_
                              refine s_iastore rfl (cn rfl) _ rfl c63 (by omega) (by decide) ?_
                              refine s_aload_n rfl (cn rfl) rfl ?_
                              refine s_getfield rfl (cn rfl) c58 rfl ?_
                              refine s_aload_n rfl (cn rfl) rfl ?_
                              refine s_getfield rfl (cn rfl) c58 rfl ?_
                              refine s_iload_n rfl (cn rfl) rfl ?_
                              refine s_iastore rfl (cn rfl) _ rfl c64 (by omega) (by decide) ?_
                              refine s_aload_n rfl (cn rfl) rfl ?_
                              refine s_dupr rfl (cn rfl) ?_
                              refine s_getfield rfl (cn rfl) c58 rfl ?_
                              refine s_iconst rfl (cn rfl) ?_
                              refine s_iadd rfl (cn rfl) ?_
                              refine s_puti rfl (cn rfl) rfl c58 rfl ?_
                              refine s_return rfl ?_
                              first
                                | (refine ⟨rfl, Or.inl ⟨q14, (kd ta p (plN ta tl p), x14, 0), ?_, by omega, by omega, ⟨⟨by show 0 ≤ kd ta p (plN ta tl p); omega, by show kd ta p (plN ta tl p) ≤ 5; omega⟩, (by show -999 ≤ x14 ∧ x14 ≤ (999 : Int); omega), (by show -999 ≤ 0 ∧ 0 ≤ (999 : Int); omega)⟩, _, rfl, fr_s (by decide) (fr_s (by decide) (fr_s (by decide) (fr_s (by decide) hF))), rr_set_eq, rfl, rfl, rfl⟩⟩
                                   unfold rD
                                   rw [if_neg ek]
                                   rw [show kd ta p (plN ta tl p) = 0 by omega, rA_0, s1]; rfl
                                   done)
                                | (refine ⟨rfl, Or.inl ⟨q26, (kd ta p (plN ta tl p), x23, x26), ?_, by omega, by omega, ⟨⟨by show 0 ≤ kd ta p (plN ta tl p); omega, by show kd ta p (plN ta tl p) ≤ 5; omega⟩, (by show -999 ≤ x23 ∧ x23 ≤ (999 : Int); omega), (by show -999 ≤ x26 ∧ x26 ≤ (999 : Int); omega)⟩, _, rfl, fr_s (by decide) (fr_s (by decide) (fr_s (by decide) (fr_s (by decide) hF))), rr_set_eq, rfl, rfl, rfl⟩⟩
                                   unfold rD
                                   rw [if_neg ek]
                                   rw [rA_12 (by omega), s1]; show sb (sb (sb (rB ta tl q23) (rN ta tl)) _) _ = _; rw [s2]; rfl
                                   done)
                                | (refine ⟨rfl, Or.inl ⟨q35, (kd ta p (plN ta tl p), x32, x35), ?_, by omega, by omega, ⟨⟨by show 0 ≤ kd ta p (plN ta tl p); omega, by show kd ta p (plN ta tl p) ≤ 5; omega⟩, (by show -999 ≤ x32 ∧ x32 ≤ (999 : Int); omega), (by show -999 ≤ x35 ∧ x35 ≤ (999 : Int); omega)⟩, _, rfl, fr_s (by decide) (fr_s (by decide) (fr_s (by decide) (fr_s (by decide) hF))), rr_set_eq, rfl, rfl, rfl⟩⟩
                                   unfold rD
                                   rw [if_neg ek]
                                   rw [show kd ta p (plN ta tl p) = 5 by omega, rA_5, s1]; show sb (sb (sb (rB ta tl q32) (rP ta tl)) _) _ = _; rw [s2]; rfl
                                   done)
                                | (refine ⟨rfl, Or.inl ⟨(plN ta tl p), (kd ta p (plN ta tl p), 0, 0), ?_, by omega, by omega, ⟨⟨by show 0 ≤ kd ta p (plN ta tl p); omega, by show kd ta p (plN ta tl p) ≤ 5; omega⟩, (by show -999 ≤ 0 ∧ 0 ≤ (999 : Int); omega), (by show -999 ≤ 0 ∧ 0 ≤ (999 : Int); omega)⟩, _, rfl, fr_s (by decide) (fr_s (by decide) (fr_s (by decide) (fr_s (by decide) hF))), rr_set_eq, rfl, rfl, rfl⟩⟩
                                   unfold rD
                                   rw [if_neg ek]
                                   rw [rA_3 (by omega)]; rfl
                                   done)
                                | (have eD : rD ta tl p = .inl f14 := by
                                     unfold rD
                                     rw [if_neg ek]
                                     rw [show kd ta p (plN ta tl p) = 0 by omega, rA_0, ef]; rfl
                                   refine ⟨rfl, Or.inr ⟨_, eD, rD_l hp eD, _, _, _, _, _, _, rfl, fr_s (by decide) (fr_s (by decide) (fr_s (by decide) (fr_s (by decide) hF))), rr_set_eq, rfl, rfl, rfl⟩⟩
                                   done)
                                | (have eD : rD ta tl p = .inl f26 := by
                                     unfold rD
                                     rw [if_neg ek]
                                     rw [rA_12 (by omega), s1]; show sb (sb (sb (rB ta tl q23) (rN ta tl)) _) _ = _; rw [ef]; rfl
                                   refine ⟨rfl, Or.inr ⟨_, eD, rD_l hp eD, _, _, _, _, _, _, rfl, fr_s (by decide) (fr_s (by decide) (fr_s (by decide) (fr_s (by decide) hF))), rr_set_eq, rfl, rfl, rfl⟩⟩
                                   done)
                                | (have eD : rD ta tl p = .inl f23 := by
                                     unfold rD
                                     rw [if_neg ek]
                                     rw [rA_12 (by omega), ef]; rfl
                                   refine ⟨rfl, Or.inr ⟨_, eD, rD_l hp eD, _, _, _, _, _, _, rfl, fr_s (by decide) (fr_s (by decide) (fr_s (by decide) (fr_s (by decide) hF))), rr_set_eq, rfl, rfl, rfl⟩⟩
                                   done)
                                | (have eD : rD ta tl p = .inl f35 := by
                                     unfold rD
                                     rw [if_neg ek]
                                     rw [show kd ta p (plN ta tl p) = 5 by omega, rA_5, s1]; show sb (sb (sb (rB ta tl q32) (rP ta tl)) _) _ = _; rw [ef]; rfl
                                   refine ⟨rfl, Or.inr ⟨_, eD, rD_l hp eD, _, _, _, _, _, _, rfl, fr_s (by decide) (fr_s (by decide) (fr_s (by decide) (fr_s (by decide) hF))), rr_set_eq, rfl, rfl, rfl⟩⟩
                                   done)
                                | (have eD : rD ta tl p = .inl f32 := by
                                     unfold rD
                                     rw [if_neg ek]
                                     rw [show kd ta p (plN ta tl p) = 5 by omega, rA_5, ef]; rfl
                                   refine ⟨rfl, Or.inr ⟨_, eD, rD_l hp eD, _, _, _, _, _, _, rfl, fr_s (by decide) (fr_s (by decide) (fr_s (by decide) (fr_s (by decide) hF))), rr_set_eq, rfl, rfl, rfl⟩⟩
                                   done)
                          · have c61 := (hf32 61 (by decide)).trans c61
                            have c62 := (hf32 62 (by decide)).trans c62
                            have c63 := (hf32 63 (by decide)).trans c63
                            have c64 := (hf32 64 (by decide)).trans c64
                            have hF := fr_t hF hf32 (by decide)
                            refine s_istore_n rfl (cn rfl) ?_
                            refine s_aload_n rfl (cn rfl) rfl ?_
                            refine s_virt rfl (cn rfl) rfl rfl c58 rfl (m_person1 c58) ?_
                            rintro _ _ ⟨rfl, rfl⟩
                            · refine s_istore_n rfl (cn rfl) ?_
                              refine s_aload_n rfl (cn rfl) rfl ?_
                              refine s_getfield rfl (cn rfl) c58 rfl ?_
                              refine s_aload_n rfl (cn rfl) rfl ?_
                              refine s_getfield rfl (cn rfl) c58 rfl ?_
                              refine s_iload_n rfl (cn rfl) rfl ?_
                              refine s_iastore rfl (cn rfl) _ rfl c62 (by omega) (by decide) ?_
                              refine s_aload_n rfl (cn rfl) rfl ?_
                              refine s_getfield rfl (cn rfl) c58 rfl ?_
                              refine s_aload_n rfl (cn rfl) rfl ?_
                              refine s_getfield rfl (cn rfl) c58 rfl ?_
                              refine s_iload_n rfl (cn rfl) rfl ?_
                              refine s_iastore rfl (cn rfl) _ rfl c63 (by omega) (by decide) ?_
                              refine s_aload_n rfl (cn rfl) rfl ?_
                              refine s_getfield rfl (cn rfl) c58 rfl ?_
                              refine s_aload_n rfl (cn rfl) rfl ?_
                              refine s_getfield rfl (cn rfl) c58 rfl ?_
                              refine s_iload_n rfl (cn rfl) rfl ?_
                              refine s_iastore rfl (cn rfl) _ rfl c64 (by omega) (by decide) ?_
                              refine s_aload_n rfl (cn rfl) rfl ?_
                              refine s_dupr rfl (cn rfl) ?_
                              refine s_getfield rfl (cn rfl) c58 rfl ?_
                              refine s_iconst rfl (cn rfl) ?_
                              refine s_iadd rfl (cn rfl) ?_
                              refine s_puti rfl (cn rfl) rfl c58 rfl ?_
                              refine s_return rfl ?_
                              first
                                | (refine ⟨rfl, Or.inl ⟨q14, (kd ta p (plN ta tl p), x14, 0), ?_, by omega, by omega, ⟨⟨by show 0 ≤ kd ta p (plN ta tl p); omega, by show kd ta p (plN ta tl p) ≤ 5; omega⟩, (by show -999 ≤ x14 ∧ x14 ≤ (999 : Int); omega), (by show -999 ≤ 0 ∧ 0 ≤ (999 : Int); omega)⟩, _, rfl, fr_s (by decide) (fr_s (by decide) (fr_s (by decide) (fr_s (by decide) hF))), rr_set_eq, rfl, rfl, rfl⟩⟩
                                   unfold rD
                                   rw [if_neg ek]
                                   rw [show kd ta p (plN ta tl p) = 0 by omega, rA_0, s1]; rfl
                                   done)
                                | (refine ⟨rfl, Or.inl ⟨q26, (kd ta p (plN ta tl p), x23, x26), ?_, by omega, by omega, ⟨⟨by show 0 ≤ kd ta p (plN ta tl p); omega, by show kd ta p (plN ta tl p) ≤ 5; omega⟩, (by show -999 ≤ x23 ∧ x23 ≤ (999 : Int); omega), (by show -999 ≤ x26 ∧ x26 ≤ (999 : Int); omega)⟩, _, rfl, fr_s (by decide) (fr_s (by decide) (fr_s (by decide) (fr_s (by decide) hF))), rr_set_eq, rfl, rfl, rfl⟩⟩
                                   unfold rD
                                   rw [if_neg ek]
                                   rw [rA_12 (by omega), s1]; show sb (sb (sb (rB ta tl q23) (rN ta tl)) _) _ = _; rw [s2]; rfl
                                   done)
                                | (refine ⟨rfl, Or.inl ⟨q35, (kd ta p (plN ta tl p), x32, x35), ?_, by omega, by omega, ⟨⟨by show 0 ≤ kd ta p (plN ta tl p); omega, by show kd ta p (plN ta tl p) ≤ 5; omega⟩, (by show -999 ≤ x32 ∧ x32 ≤ (999 : Int); omega), (by show -999 ≤ x35 ∧ x35 ≤ (999 : Int); omega)⟩, _, rfl, fr_s (by decide) (fr_s (by decide) (fr_s (by decide) (fr_s (by decide) hF))), rr_set_eq, rfl, rfl, rfl⟩⟩
                                   unfold rD
                                   rw [if_neg ek]
                                   rw [show kd ta p (plN ta tl p) = 5 by omega, rA_5, s1]; show sb (sb (sb (rB ta tl q32) (rP ta tl)) _) _ = _; rw [s2]; rfl
                                   done)
                                | (refine ⟨rfl, Or.inl ⟨(plN ta tl p), (kd ta p (plN ta tl p), 0, 0), ?_, by omega, by omega, ⟨⟨by show 0 ≤ kd ta p (plN ta tl p); omega, by show kd ta p (plN ta tl p) ≤ 5; omega⟩, (by show -999 ≤ 0 ∧ 0 ≤ (999 : Int); omega), (by show -999 ≤ 0 ∧ 0 ≤ (999 : Int); omega)⟩, _, rfl, fr_s (by decide) (fr_s (by decide) (fr_s (by decide) (fr_s (by decide) hF))), rr_set_eq, rfl, rfl, rfl⟩⟩
                                   unfold rD
                                   rw [if_neg ek]
                                   rw [rA_3 (by omega)]; rfl
                                   done)
                                | (have eD : rD ta tl p = .inl f14 := by
                                     unfold rD
                                     rw [if_neg ek]
                                     rw [show kd ta p (plN ta tl p) = 0 by omega, rA_0, ef]; rfl
                                   refine ⟨rfl, Or.inr ⟨_, eD, rD_l hp eD, _, _, _, _, _, _, rfl, fr_s (by decide) (fr_s (by decide) (fr_s (by decide) (fr_s (by decide) hF))), rr_set_eq, rfl, rfl, rfl⟩⟩
                                   done)
                                | (have eD : rD ta tl p = .inl f26 := by
                                     unfold rD
                                     rw [if_neg ek]
                                     rw [rA_12 (by omega), s1]; show sb (sb (sb (rB ta tl q23) (rN ta tl)) _) _ = _; rw [ef]; rfl
                                   refine ⟨rfl, Or.inr ⟨_, eD, rD_l hp eD, _, _, _, _, _, _, rfl, fr_s (by decide) (fr_s (by decide) (fr_s (by decide) (fr_s (by decide) hF))), rr_set_eq, rfl, rfl, rfl⟩⟩
                                   done)
                                | (have eD : rD ta tl p = .inl f23 := by
                                     unfold rD
                                     rw [if_neg ek]
                                     rw [rA_12 (by omega), ef]; rfl
                                   refine ⟨rfl, Or.inr ⟨_, eD, rD_l hp eD, _, _, _, _, _, _, rfl, fr_s (by decide) (fr_s (by decide) (fr_s (by decide) (fr_s (by decide) hF))), rr_set_eq, rfl, rfl, rfl⟩⟩
                                   done)
                                | (have eD : rD ta tl p = .inl f35 := by
                                     unfold rD
                                     rw [if_neg ek]
                                     rw [show kd ta p (plN ta tl p) = 5 by omega, rA_5, s1]; show sb (sb (sb (rB ta tl q32) (rP ta tl)) _) _ = _; rw [ef]; rfl
                                   refine ⟨rfl, Or.inr ⟨_, eD, rD_l hp eD, _, _, _, _, _, _, rfl, fr_s (by decide) (fr_s (by decide) (fr_s (by decide) (fr_s (by decide) hF))), rr_set_eq, rfl, rfl, rfl⟩⟩
                                   done)
                                | (have eD : rD ta tl p = .inl f32 := by
                                     unfold rD
                                     rw [if_neg ek]
                                     rw [show kd ta p (plN ta tl p) = 5 by omega, rA_5, ef]; rfl
                                   refine ⟨rfl, Or.inr ⟨_, eD, rD_l hp eD, _, _, _, _, _, _, rfl, fr_s (by decide) (fr_s (by decide) (fr_s (by decide) (fr_s (by decide) hF))), rr_set_eq, rfl, rfl, rfl⟩⟩
                                   done)
                    · have c61 := (hf26 61 (by decide)).trans c61
                      have c62 := (hf26 62 (by decide)).trans c62
                      have c63 := (hf26 63 (by decide)).trans c63
                      have c64 := (hf26 64 (by decide)).trans c64
                      have hF := fr_t hF hf26 (by decide)
                      refine s_istore_n rfl (cn rfl) ?_
                      refine s_iload_n rfl (cn rfl) rfl ?_
                      refine s_iconst rfl (cn rfl) ?_
                      refine s_icmp_ne rfl (cn rfl) (cn rfl) ⟨by omega, by omega⟩ ⟨by omega, by omega⟩ (fun q30 => ?_) (fun q30 => ?_)
                      · first
                        | (exfalso; omega)
                        | skip
                          refine s_aload_n rfl (cn rfl) rfl ?_
                          refine s_getfield rfl (cn rfl) c58 rfl ?_
                          refine s_aload_n rfl (cn rfl) rfl ?_
                          refine s_getfield rfl (cn rfl) c58 rfl ?_
                          refine s_iload_n rfl (cn rfl) rfl ?_
                          refine s_iastore rfl (cn rfl) _ rfl c62 (by omega) (by decide) ?_
                          refine s_aload_n rfl (cn rfl) rfl ?_
                          refine s_getfield rfl (cn rfl) c58 rfl ?_
                          refine s_aload_n rfl (cn rfl) rfl ?_
                          refine s_getfield rfl (cn rfl) c58 rfl ?_
                          refine s_iload_n rfl (cn rfl) rfl ?_
                          refine s_iastore rfl (cn rfl) _ rfl c63 (by omega) (by decide) ?_
                          refine s_aload_n rfl (cn rfl) rfl ?_
                          refine s_getfield rfl (cn rfl) c58 rfl ?_
                          refine s_aload_n rfl (cn rfl) rfl ?_
                          refine s_getfield rfl (cn rfl) c58 rfl ?_
                          refine s_iload_n rfl (cn rfl) rfl ?_
                          refine s_iastore rfl (cn rfl) _ rfl c64 (by omega) (by decide) ?_
                          refine s_aload_n rfl (cn rfl) rfl ?_
                          refine s_dupr rfl (cn rfl) ?_
                          refine s_getfield rfl (cn rfl) c58 rfl ?_
                          refine s_iconst rfl (cn rfl) ?_
                          refine s_iadd rfl (cn rfl) ?_
                          refine s_puti rfl (cn rfl) rfl c58 rfl ?_
                          refine s_return rfl ?_
                          first
                            | (refine ⟨rfl, Or.inl ⟨q14, (kd ta p (plN ta tl p), x14, 0), ?_, by omega, by omega, ⟨⟨by show 0 ≤ kd ta p (plN ta tl p); omega, by show kd ta p (plN ta tl p) ≤ 5; omega⟩, (by show -999 ≤ x14 ∧ x14 ≤ (999 : Int); omega), (by show -999 ≤ 0 ∧ 0 ≤ (999 : Int); omega)⟩, _, rfl, fr_s (by decide) (fr_s (by decide) (fr_s (by decide) (fr_s (by decide) hF))), rr_set_eq, rfl, rfl, rfl⟩⟩
                               unfold rD
                               rw [if_neg ek]
                               rw [show kd ta p (plN ta tl p) = 0 by omega, rA_0, s1]; rfl
                               done)
                            | (refine ⟨rfl, Or.inl ⟨q26, (kd ta p (plN ta tl p), x23, x26), ?_, by omega, by omega, ⟨⟨by show 0 ≤ kd ta p (plN ta tl p); omega, by show kd ta p (plN ta tl p) ≤ 5; omega⟩, (by show -999 ≤ x23 ∧ x23 ≤ (999 : Int); omega), (by show -999 ≤ x26 ∧ x26 ≤ (999 : Int); omega)⟩, _, rfl, fr_s (by decide) (fr_s (by decide) (fr_s (by decide) (fr_s (by decide) hF))), rr_set_eq, rfl, rfl, rfl⟩⟩
                               unfold rD
                               rw [if_neg ek]
                               rw [rA_12 (by omega), s1]; show sb (sb (sb (rB ta tl q23) (rN ta tl)) _) _ = _; rw [s2]; rfl
                               done)
                            | (refine ⟨rfl, Or.inl ⟨q35, (kd ta p (plN ta tl p), x32, x35), ?_, by omega, by omega, ⟨⟨by show 0 ≤ kd ta p (plN ta tl p); omega, by show kd ta p (plN ta tl p) ≤ 5; omega⟩, (by show -999 ≤ x32 ∧ x32 ≤ (999 : Int); omega), (by show -999 ≤ x35 ∧ x35 ≤ (999 : Int); omega)⟩, _, rfl, fr_s (by decide) (fr_s (by decide) (fr_s (by decide) (fr_s (by decide) hF))), rr_set_eq, rfl, rfl, rfl⟩⟩
                               unfold rD
                               rw [if_neg ek]
                               rw [show kd ta p (plN ta tl p) = 5 by omega, rA_5, s1]; show sb (sb (sb (rB ta tl q32) (rP ta tl)) _) _ = _; rw [s2]; rfl
                               done)
                            | (refine ⟨rfl, Or.inl ⟨(plN ta tl p), (kd ta p (plN ta tl p), 0, 0), ?_, by omega, by omega, ⟨⟨by show 0 ≤ kd ta p (plN ta tl p); omega, by show kd ta p (plN ta tl p) ≤ 5; omega⟩, (by show -999 ≤ 0 ∧ 0 ≤ (999 : Int); omega), (by show -999 ≤ 0 ∧ 0 ≤ (999 : Int); omega)⟩, _, rfl, fr_s (by decide) (fr_s (by decide) (fr_s (by decide) (fr_s (by decide) hF))), rr_set_eq, rfl, rfl, rfl⟩⟩
                               unfold rD
                               rw [if_neg ek]
                               rw [rA_3 (by omega)]; rfl
                               done)
                            | (have eD : rD ta tl p = .inl f14 := by
                                 unfold rD
                                 rw [if_neg ek]
                                 rw [show kd ta p (plN ta tl p) = 0 by omega, rA_0, ef]; rfl
                               refine ⟨rfl, Or.inr ⟨_, eD, rD_l hp eD, _, _, _, _, _, _, rfl, fr_s (by decide) (fr_s (by decide) (fr_s (by decide) (fr_s (by decide) hF))), rr_set_eq, rfl, rfl, rfl⟩⟩
                               done)
                            | (have eD : rD ta tl p = .inl f26 := by
                                 unfold rD
                                 rw [if_neg ek]
                                 rw [rA_12 (by omega), s1]; show sb (sb (sb (rB ta tl q23) (rN ta tl)) _) _ = _; rw [ef]; rfl
                               refine ⟨rfl, Or.inr ⟨_, eD, rD_l hp eD, _, _, _, _, _, _, rfl, fr_s (by decide) (fr_s (by decide) (fr_s (by decide) (fr_s (by decide) hF))), rr_set_eq, rfl, rfl, rfl⟩⟩
                               done)
                            | (have eD : rD ta tl p = .inl f23 := by
                                 unfold rD
                                 rw [if_neg ek]
                                 rw [rA_12 (by omega), ef]; rfl
                               refine ⟨rfl, Or.inr ⟨_, eD, rD_l hp eD, _, _, _, _, _, _, rfl, fr_s (by decide) (fr_s (by decide) (fr_s (by decide) (fr_s (by decide) hF))), rr_set_eq, rfl, rfl, rfl⟩⟩
                               done)
                            | (have eD : rD ta tl p = .inl f35 := by
                                 unfold rD
                                 rw [if_neg ek]
                                 rw [show kd ta p (plN ta tl p) = 5 by omega, rA_5, s1]; show sb (sb (sb (rB ta tl q32) (rP ta tl)) _) _ = _; rw [ef]; rfl
                               refine ⟨rfl, Or.inr ⟨_, eD, rD_l hp eD, _, _, _, _, _, _, rfl, fr_s (by decide) (fr_s (by decide) (fr_s (by decide) (fr_s (by decide) hF))), rr_set_eq, rfl, rfl, rfl⟩⟩
                               done)
                            | (have eD : rD ta tl p = .inl f32 := by
                                 unfold rD
                                 rw [if_neg ek]
                                 rw [show kd ta p (plN ta tl p) = 5 by omega, rA_5, ef]; rfl
                               refine ⟨rfl, Or.inr ⟨_, eD, rD_l hp eD, _, _, _, _, _, _, rfl, fr_s (by decide) (fr_s (by decide) (fr_s (by decide) (fr_s (by decide) hF))), rr_set_eq, rfl, rfl, rfl⟩⟩
                               done)
                      · first
                        | (exfalso; omega)
                        | skip
                          refine s_aload_n rfl (cn rfl) rfl ?_
                          refine s_virt rfl (cn rfl) rfl rfl c58 rfl (m_person1 c58) ?_
                          rintro _ _ ⟨rfl, rfl⟩
                          · refine s_istore_n rfl (cn rfl) ?_
                            refine s_aload_n rfl (cn rfl) rfl ?_
                            refine s_virt rfl (cn rfl) rfl rfl c58 rfl (m_person1 c58) ?_
                            rintro _ _ ⟨rfl, rfl⟩
                            · refine s_istore_n rfl (cn rfl) ?_
                              refine s_aload_n rfl (cn rfl) rfl ?_
                              refine s_getfield rfl (cn rfl) c58 rfl ?_
                              refine s_aload_n rfl (cn rfl) rfl ?_
                              refine s_getfield rfl (cn rfl) c58 rfl ?_
                              refine s_iload_n rfl (cn rfl) rfl ?_
                              refine s_iastore rfl (cn rfl) _ rfl c62 (by omega) (by decide) ?_
                              refine s_aload_n rfl (cn rfl) rfl ?_
                              refine s_getfield rfl (cn rfl) c58 rfl ?_
                              refine s_aload_n rfl (cn rfl) rfl ?_
                              refine s_getfield rfl (cn rfl) c58 rfl ?_
                              refine s_iload_n rfl (cn rfl) rfl ?_
                              refine s_iastore rfl (cn rfl) _ rfl c63 (by omega) (by decide) ?_
                              refine s_aload_n rfl (cn rfl) rfl ?_
                              refine s_getfield rfl (cn rfl) c58 rfl ?_
                              refine s_aload_n rfl (cn rfl) rfl ?_
                              refine s_getfield rfl (cn rfl) c58 rfl ?_
                              refine s_iload_n rfl (cn rfl) rfl ?_
                              refine s_iastore rfl (cn rfl) _ rfl c64 (by omega) (by decide) ?_
                              refine s_aload_n rfl (cn rfl) rfl ?_
                              refine s_dupr rfl (cn rfl) ?_
                              refine s_getfield rfl (cn rfl) c58 rfl ?_
                              refine s_iconst rfl (cn rfl) ?_
                              refine s_iadd rfl (cn rfl) ?_
                              refine s_puti rfl (cn rfl) rfl c58 rfl ?_
                              refine s_return rfl ?_
                              first
                                | (refine ⟨rfl, Or.inl ⟨q14, (kd ta p (plN ta tl p), x14, 0), ?_, by omega, by omega, ⟨⟨by show 0 ≤ kd ta p (plN ta tl p); omega, by show kd ta p (plN ta tl p) ≤ 5; omega⟩, (by show -999 ≤ x14 ∧ x14 ≤ (999 : Int); omega), (by show -999 ≤ 0 ∧ 0 ≤ (999 : Int); omega)⟩, _, rfl, fr_s (by decide) (fr_s (by decide) (fr_s (by decide) (fr_s (by decide) hF))), rr_set_eq, rfl, rfl, rfl⟩⟩
                                   unfold rD
                                   rw [if_neg ek]
                                   rw [show kd ta p (plN ta tl p) = 0 by omega, rA_0, s1]; rfl
                                   done)
                                | (refine ⟨rfl, Or.inl ⟨q26, (kd ta p (plN ta tl p), x23, x26), ?_, by omega, by omega, ⟨⟨by show 0 ≤ kd ta p (plN ta tl p); omega, by show kd ta p (plN ta tl p) ≤ 5; omega⟩, (by show -999 ≤ x23 ∧ x23 ≤ (999 : Int); omega), (by show -999 ≤ x26 ∧ x26 ≤ (999 : Int); omega)⟩, _, rfl, fr_s (by decide) (fr_s (by decide) (fr_s (by decide) (fr_s (by decide) hF))), rr_set_eq, rfl, rfl, rfl⟩⟩
                                   unfold rD
                                   rw [if_neg ek]
                                   rw [rA_12 (by omega), s1]; show sb (sb (sb (rB ta tl q23) (rN ta tl)) _) _ = _; rw [s2]; rfl
                                   done)
                                | (refine ⟨rfl, Or.inl ⟨q35, (kd ta p (plN ta tl p), x32, x35), ?_, by omega, by omega, ⟨⟨by show 0 ≤ kd ta p (plN ta tl p); omega, by show kd ta p (plN ta tl p) ≤ 5; omega⟩, (by show -999 ≤ x32 ∧ x32 ≤ (999 : Int); omega), (by show -999 ≤ x35 ∧ x35 ≤ (999 : Int); omega)⟩, _, rfl, fr_s (by decide) (fr_s (by decide) (fr_s (by decide) (fr_s (by decide) hF))), rr_set_eq, rfl, rfl, rfl⟩⟩
                                   unfold rD
                                   rw [if_neg ek]
                                   rw [show kd ta p (plN ta tl p) = 5 by omega, rA_5, s1]; show sb (sb (sb (rB ta tl q32) (rP ta tl)) _) _ = _; rw [s2]; rfl
                                   done)
                                | (refine ⟨rfl, Or.inl ⟨(plN ta tl p), (kd ta p (plN ta tl p), 0, 0), ?_, by omega, by omega, ⟨⟨by show 0 ≤ kd ta p (plN ta tl p); omega, by show kd ta p (plN ta tl p) ≤ 5; omega⟩, (by show -999 ≤ 0 ∧ 0 ≤ (999 : Int); omega), (by show -999 ≤ 0 ∧ 0 ≤ (999 : Int); omega)⟩, _, rfl, fr_s (by decide) (fr_s (by decide) (fr_s (by decide) (fr_s (by decide) hF))), rr_set_eq, rfl, rfl, rfl⟩⟩
                                   unfold rD
                                   rw [if_neg ek]
                                   rw [rA_3 (by omega)]; rfl
                                   done)
                                | (have eD : rD ta tl p = .inl f14 := by
                                     unfold rD
                                     rw [if_neg ek]
                                     rw [show kd ta p (plN ta tl p) = 0 by omega, rA_0, ef]; rfl
                                   refine ⟨rfl, Or.inr ⟨_, eD, rD_l hp eD, _, _, _, _, _, _, rfl, fr_s (by decide) (fr_s (by decide) (fr_s (by decide) (fr_s (by decide) hF))), rr_set_eq, rfl, rfl, rfl⟩⟩
                                   done)
                                | (have eD : rD ta tl p = .inl f26 := by
                                     unfold rD
                                     rw [if_neg ek]
                                     rw [rA_12 (by omega), s1]; show sb (sb (sb (rB ta tl q23) (rN ta tl)) _) _ = _; rw [ef]; rfl
                                   refine ⟨rfl, Or.inr ⟨_, eD, rD_l hp eD, _, _, _, _, _, _, rfl, fr_s (by decide) (fr_s (by decide) (fr_s (by decide) (fr_s (by decide) hF))), rr_set_eq, rfl, rfl, rfl⟩⟩
                                   done)
                                | (have eD : rD ta tl p = .inl f23 := by
                                     unfold rD
                                     rw [if_neg ek]
                                     rw [rA_12 (by omega), ef]; rfl
                                   refine ⟨rfl, Or.inr ⟨_, eD, rD_l hp eD, _, _, _, _, _, _, rfl, fr_s (by decide) (fr_s (by decide) (fr_s (by decide) (fr_s (by decide) hF))), rr_set_eq, rfl, rfl, rfl⟩⟩
                                   done)
                                | (have eD : rD ta tl p = .inl f35 := by
                                     unfold rD
                                     rw [if_neg ek]
                                     rw [show kd ta p (plN ta tl p) = 5 by omega, rA_5, s1]; show sb (sb (sb (rB ta tl q32) (rP ta tl)) _) _ = _; rw [ef]; rfl
                                   refine ⟨rfl, Or.inr ⟨_, eD, rD_l hp eD, _, _, _, _, _, _, rfl, fr_s (by decide) (fr_s (by decide) (fr_s (by decide) (fr_s (by decide) hF))), rr_set_eq, rfl, rfl, rfl⟩⟩
                                   done)
                                | (have eD : rD ta tl p = .inl f32 := by
                                     unfold rD
                                     rw [if_neg ek]
                                     rw [show kd ta p (plN ta tl p) = 5 by omega, rA_5, ef]; rfl
                                   refine ⟨rfl, Or.inr ⟨_, eD, rD_l hp eD, _, _, _, _, _, _, rfl, fr_s (by decide) (fr_s (by decide) (fr_s (by decide) (fr_s (by decide) hF))), rr_set_eq, rfl, rfl, rfl⟩⟩
                                   done)
                  · have c61 := (hf23 61 (by decide)).trans c61
                    have c62 := (hf23 62 (by decide)).trans c62
                    have c63 := (hf23 63 (by decide)).trans c63
                    have c64 := (hf23 64 (by decide)).trans c64
                    have hF := fr_t hF hf23 (by decide)
                    refine s_istore_n rfl (cn rfl) ?_
                    refine s_aload_n rfl (cn rfl) rfl ?_
                    refine s_virt rfl (cn rfl) rfl rfl c58 rfl (m_number1 c58) ?_
                    rintro _ _ ⟨rfl, rfl⟩
                    · refine s_istore_n rfl (cn rfl) ?_
                      refine s_iload_n rfl (cn rfl) rfl ?_
                      refine s_iconst rfl (cn rfl) ?_
                      refine s_icmp_ne rfl (cn rfl) (cn rfl) ⟨by omega, by omega⟩ ⟨by omega, by omega⟩ (fun q30 => ?_) (fun q30 => ?_)
                      · first
                        | (exfalso; omega)
                        | skip
                          refine s_aload_n rfl (cn rfl) rfl ?_
                          refine s_getfield rfl (cn rfl) c58 rfl ?_
                          refine s_aload_n rfl (cn rfl) rfl ?_
                          refine s_getfield rfl (cn rfl) c58 rfl ?_
                          refine s_iload_n rfl (cn rfl) rfl ?_
                          refine s_iastore rfl (cn rfl) _ rfl c62 (by omega) (by decide) ?_
                          refine s_aload_n rfl (cn rfl) rfl ?_
                          refine s_getfield rfl (cn rfl) c58 rfl ?_
                          refine s_aload_n rfl (cn rfl) rfl ?_
                          refine s_getfield rfl (cn rfl) c58 rfl ?_
                          refine s_iload_n rfl (cn rfl) rfl ?_
                          refine s_iastore rfl (cn rfl) _ rfl c63 (by omega) (by decide) ?_
                          refine s_aload_n rfl (cn rfl) rfl ?_
                          refine s_getfield rfl (cn rfl) c58 rfl ?_
                          refine s_aload_n rfl (cn rfl) rfl ?_
                          refine s_getfield rfl (cn rfl) c58 rfl ?_
                          refine s_iload_n rfl (cn rfl) rfl ?_
                          refine s_iastore rfl (cn rfl) _ rfl c64 (by omega) (by decide) ?_
                          refine s_aload_n rfl (cn rfl) rfl ?_
                          refine s_dupr rfl (cn rfl) ?_
                          refine s_getfield rfl (cn rfl) c58 rfl ?_
                          refine s_iconst rfl (cn rfl) ?_
                          refine s_iadd rfl (cn rfl) ?_
                          refine s_puti rfl (cn rfl) rfl c58 rfl ?_
                          refine s_return rfl ?_
                          first
                            | (refine ⟨rfl, Or.inl ⟨q14, (kd ta p (plN ta tl p), x14, 0), ?_, by omega, by omega, ⟨⟨by show 0 ≤ kd ta p (plN ta tl p); omega, by show kd ta p (plN ta tl p) ≤ 5; omega⟩, (by show -999 ≤ x14 ∧ x14 ≤ (999 : Int); omega), (by show -999 ≤ 0 ∧ 0 ≤ (999 : Int); omega)⟩, _, rfl, fr_s (by decide) (fr_s (by decide) (fr_s (by decide) (fr_s (by decide) hF))), rr_set_eq, rfl, rfl, rfl⟩⟩
                               unfold rD
                               rw [if_neg ek]
                               rw [show kd ta p (plN ta tl p) = 0 by omega, rA_0, s1]; rfl
                               done)
                            | (refine ⟨rfl, Or.inl ⟨q26, (kd ta p (plN ta tl p), x23, x26), ?_, by omega, by omega, ⟨⟨by show 0 ≤ kd ta p (plN ta tl p); omega, by show kd ta p (plN ta tl p) ≤ 5; omega⟩, (by show -999 ≤ x23 ∧ x23 ≤ (999 : Int); omega), (by show -999 ≤ x26 ∧ x26 ≤ (999 : Int); omega)⟩, _, rfl, fr_s (by decide) (fr_s (by decide) (fr_s (by decide) (fr_s (by decide) hF))), rr_set_eq, rfl, rfl, rfl⟩⟩
                               unfold rD
                               rw [if_neg ek]
                               rw [rA_12 (by omega), s1]; show sb (sb (sb (rB ta tl q23) (rN ta tl)) _) _ = _; rw [s2]; rfl
                               done)
                            | (refine ⟨rfl, Or.inl ⟨q35, (kd ta p (plN ta tl p), x32, x35), ?_, by omega, by omega, ⟨⟨by show 0 ≤ kd ta p (plN ta tl p); omega, by show kd ta p (plN ta tl p) ≤ 5; omega⟩, (by show -999 ≤ x32 ∧ x32 ≤ (999 : Int); omega), (by show -999 ≤ x35 ∧ x35 ≤ (999 : Int); omega)⟩, _, rfl, fr_s (by decide) (fr_s (by decide) (fr_s (by decide) (fr_s (by decide) hF))), rr_set_eq, rfl, rfl, rfl⟩⟩
                               unfold rD
                               rw [if_neg ek]
                               rw [show kd ta p (plN ta tl p) = 5 by omega, rA_5, s1]; show sb (sb (sb (rB ta tl q32) (rP ta tl)) _) _ = _; rw [s2]; rfl
                               done)
                            | (refine ⟨rfl, Or.inl ⟨(plN ta tl p), (kd ta p (plN ta tl p), 0, 0), ?_, by omega, by omega, ⟨⟨by show 0 ≤ kd ta p (plN ta tl p); omega, by show kd ta p (plN ta tl p) ≤ 5; omega⟩, (by show -999 ≤ 0 ∧ 0 ≤ (999 : Int); omega), (by show -999 ≤ 0 ∧ 0 ≤ (999 : Int); omega)⟩, _, rfl, fr_s (by decide) (fr_s (by decide) (fr_s (by decide) (fr_s (by decide) hF))), rr_set_eq, rfl, rfl, rfl⟩⟩
                               unfold rD
                               rw [if_neg ek]
                               rw [rA_3 (by omega)]; rfl
                               done)
                            | (have eD : rD ta tl p = .inl f14 := by
                                 unfold rD
                                 rw [if_neg ek]
                                 rw [show kd ta p (plN ta tl p) = 0 by omega, rA_0, ef]; rfl
                               refine ⟨rfl, Or.inr ⟨_, eD, rD_l hp eD, _, _, _, _, _, _, rfl, fr_s (by decide) (fr_s (by decide) (fr_s (by decide) (fr_s (by decide) hF))), rr_set_eq, rfl, rfl, rfl⟩⟩
                               done)
                            | (have eD : rD ta tl p = .inl f26 := by
                                 unfold rD
                                 rw [if_neg ek]
                                 rw [rA_12 (by omega), s1]; show sb (sb (sb (rB ta tl q23) (rN ta tl)) _) _ = _; rw [ef]; rfl
                               refine ⟨rfl, Or.inr ⟨_, eD, rD_l hp eD, _, _, _, _, _, _, rfl, fr_s (by decide) (fr_s (by decide) (fr_s (by decide) (fr_s (by decide) hF))), rr_set_eq, rfl, rfl, rfl⟩⟩
                               done)
                            | (have eD : rD ta tl p = .inl f23 := by
                                 unfold rD
                                 rw [if_neg ek]
                                 rw [rA_12 (by omega), ef]; rfl
                               refine ⟨rfl, Or.inr ⟨_, eD, rD_l hp eD, _, _, _, _, _, _, rfl, fr_s (by decide) (fr_s (by decide) (fr_s (by decide) (fr_s (by decide) hF))), rr_set_eq, rfl, rfl, rfl⟩⟩
                               done)
                            | (have eD : rD ta tl p = .inl f35 := by
                                 unfold rD
                                 rw [if_neg ek]
                                 rw [show kd ta p (plN ta tl p) = 5 by omega, rA_5, s1]; show sb (sb (sb (rB ta tl q32) (rP ta tl)) _) _ = _; rw [ef]; rfl
                               refine ⟨rfl, Or.inr ⟨_, eD, rD_l hp eD, _, _, _, _, _, _, rfl, fr_s (by decide) (fr_s (by decide) (fr_s (by decide) (fr_s (by decide) hF))), rr_set_eq, rfl, rfl, rfl⟩⟩
                               done)
                            | (have eD : rD ta tl p = .inl f32 := by
                                 unfold rD
                                 rw [if_neg ek]
                                 rw [show kd ta p (plN ta tl p) = 5 by omega, rA_5, ef]; rfl
                               refine ⟨rfl, Or.inr ⟨_, eD, rD_l hp eD, _, _, _, _, _, _, rfl, fr_s (by decide) (fr_s (by decide) (fr_s (by decide) (fr_s (by decide) hF))), rr_set_eq, rfl, rfl, rfl⟩⟩
                               done)
                      · first
                        | (exfalso; omega)
                        | skip
                          refine s_aload_n rfl (cn rfl) rfl ?_
                          refine s_virt rfl (cn rfl) rfl rfl c58 rfl (m_person1 c58) ?_
                          rintro _ _ ⟨rfl, rfl⟩
                          · refine s_istore_n rfl (cn rfl) ?_
                            refine s_aload_n rfl (cn rfl) rfl ?_
                            refine s_virt rfl (cn rfl) rfl rfl c58 rfl (m_person1 c58) ?_
                            rintro _ _ ⟨rfl, rfl⟩
                            · refine s_istore_n rfl (cn rfl) ?_
                              refine s_aload_n rfl (cn rfl) rfl ?_
                              refine s_getfield rfl (cn rfl) c58 rfl ?_
                              refine s_aload_n rfl (cn rfl) rfl ?_
                              refine s_getfield rfl (cn rfl) c58 rfl ?_
                              refine s_iload_n rfl (cn rfl) rfl ?_
                              refine s_iastore rfl (cn rfl) _ rfl c62 (by omega) (by decide) ?_
                              refine s_aload_n rfl (cn rfl) rfl ?_
                              refine s_getfield rfl (cn rfl) c58 rfl ?_
                              refine s_aload_n rfl (cn rfl) rfl ?_
                              refine s_getfield rfl (cn rfl) c58 rfl ?_
                              refine s_iload_n rfl (cn rfl) rfl ?_
                              refine s_iastore rfl (cn rfl) _ rfl c63 (by omega) (by decide) ?_
                              refine s_aload_n rfl (cn rfl) rfl ?_
                              refine s_getfield rfl (cn rfl) c58 rfl ?_
                              refine s_aload_n rfl (cn rfl) rfl ?_
                              refine s_getfield rfl (cn rfl) c58 rfl ?_
                              refine s_iload_n rfl (cn rfl) rfl ?_
                              refine s_iastore rfl (cn rfl) _ rfl c64 (by omega) (by decide) ?_
                              refine s_aload_n rfl (cn rfl) rfl ?_
                              refine s_dupr rfl (cn rfl) ?_
                              refine s_getfield rfl (cn rfl) c58 rfl ?_
                              refine s_iconst rfl (cn rfl) ?_
                              refine s_iadd rfl (cn rfl) ?_
                              refine s_puti rfl (cn rfl) rfl c58 rfl ?_
                              refine s_return rfl ?_
                              first
                                | (refine ⟨rfl, Or.inl ⟨q14, (kd ta p (plN ta tl p), x14, 0), ?_, by omega, by omega, ⟨⟨by show 0 ≤ kd ta p (plN ta tl p); omega, by show kd ta p (plN ta tl p) ≤ 5; omega⟩, (by show -999 ≤ x14 ∧ x14 ≤ (999 : Int); omega), (by show -999 ≤ 0 ∧ 0 ≤ (999 : Int); omega)⟩, _, rfl, fr_s (by decide) (fr_s (by decide) (fr_s (by decide) (fr_s (by decide) hF))), rr_set_eq, rfl, rfl, rfl⟩⟩
                                   unfold rD
                                   rw [if_neg ek]
                                   rw [show kd ta p (plN ta tl p) = 0 by omega, rA_0, s1]; rfl
                                   done)
                                | (refine ⟨rfl, Or.inl ⟨q26, (kd ta p (plN ta tl p), x23, x26), ?_, by omega, by omega, ⟨⟨by show 0 ≤ kd ta p (plN ta tl p); omega, by show kd ta p (plN ta tl p) ≤ 5; omega⟩, (by show -999 ≤ x23 ∧ x23 ≤ (999 : Int); omega), (by show -999 ≤ x26 ∧ x26 ≤ (999 : Int); omega)⟩, _, rfl, fr_s (by decide) (fr_s (by decide) (fr_s (by decide) (fr_s (by decide) hF))), rr_set_eq, rfl, rfl, rfl⟩⟩
                                   unfold rD
                                   rw [if_neg ek]
                                   rw [rA_12 (by omega), s1]; show sb (sb (sb (rB ta tl q23) (rN ta tl)) _) _ = _; rw [s2]; rfl
                                   done)
                                | (refine ⟨rfl, Or.inl ⟨q35, (kd ta p (plN ta tl p), x32, x35), ?_, by omega, by omega, ⟨⟨by show 0 ≤ kd ta p (plN ta tl p); omega, by show kd ta p (plN ta tl p) ≤ 5; omega⟩, (by show -999 ≤ x32 ∧ x32 ≤ (999 : Int); omega), (by show -999 ≤ x35 ∧ x35 ≤ (999 : Int); omega)⟩, _, rfl, fr_s (by decide) (fr_s (by decide) (fr_s (by decide) (fr_s (by decide) hF))), rr_set_eq, rfl, rfl, rfl⟩⟩
                                   unfold rD
                                   rw [if_neg ek]
                                   rw [show kd ta p (plN ta tl p) = 5 by omega, rA_5, s1]; show sb (sb (sb (rB ta tl q32) (rP ta tl)) _) _ = _; rw [s2]; rfl
                                   done)
                                | (refine ⟨rfl, Or.inl ⟨(plN ta tl p), (kd ta p (plN ta tl p), 0, 0), ?_, by omega, by omega, ⟨⟨by show 0 ≤ kd ta p (plN ta tl p); omega, by show kd ta p (plN ta tl p) ≤ 5; omega⟩, (by show -999 ≤ 0 ∧ 0 ≤ (999 : Int); omega), (by show -999 ≤ 0 ∧ 0 ≤ (999 : Int); omega)⟩, _, rfl, fr_s (by decide) (fr_s (by decide) (fr_s (by decide) (fr_s (by decide) hF))), rr_set_eq, rfl, rfl, rfl⟩⟩
                                   unfold rD
                                   rw [if_neg ek]
                                   rw [rA_3 (by omega)]; rfl
                                   done)
                                | (have eD : rD ta tl p = .inl f14 := by
                                     unfold rD
                                     rw [if_neg ek]
                                     rw [show kd ta p (plN ta tl p) = 0 by omega, rA_0, ef]; rfl
                                   refine ⟨rfl, Or.inr ⟨_, eD, rD_l hp eD, _, _, _, _, _, _, rfl, fr_s (by decide) (fr_s (by decide) (fr_s (by decide) (fr_s (by decide) hF))), rr_set_eq, rfl, rfl, rfl⟩⟩
                                   done)
                                | (have eD : rD ta tl p = .inl f26 := by
                                     unfold rD
                                     rw [if_neg ek]
                                     rw [rA_12 (by omega), s1]; show sb (sb (sb (rB ta tl q23) (rN ta tl)) _) _ = _; rw [ef]; rfl
                                   refine ⟨rfl, Or.inr ⟨_, eD, rD_l hp eD, _, _, _, _, _, _, rfl, fr_s (by decide) (fr_s (by decide) (fr_s (by decide) (fr_s (by decide) hF))), rr_set_eq, rfl, rfl, rfl⟩⟩
                                   done)
                                | (have eD : rD ta tl p = .inl f23 := by
                                     unfold rD
                                     rw [if_neg ek]
                                     rw [rA_12 (by omega), ef]; rfl
                                   refine ⟨rfl, Or.inr ⟨_, eD, rD_l hp eD, _, _, _, _, _, _, rfl, fr_s (by decide) (fr_s (by decide) (fr_s (by decide) (fr_s (by decide) hF))), rr_set_eq, rfl, rfl, rfl⟩⟩
                                   done)
                                | (have eD : rD ta tl p = .inl f35 := by
                                     unfold rD
                                     rw [if_neg ek]
                                     rw [show kd ta p (plN ta tl p) = 5 by omega, rA_5, s1]; show sb (sb (sb (rB ta tl q32) (rP ta tl)) _) _ = _; rw [ef]; rfl
                                   refine ⟨rfl, Or.inr ⟨_, eD, rD_l hp eD, _, _, _, _, _, _, rfl, fr_s (by decide) (fr_s (by decide) (fr_s (by decide) (fr_s (by decide) hF))), rr_set_eq, rfl, rfl, rfl⟩⟩
                                   done)
                                | (have eD : rD ta tl p = .inl f32 := by
                                     unfold rD
                                     rw [if_neg ek]
                                     rw [show kd ta p (plN ta tl p) = 5 by omega, rA_5, ef]; rfl
                                   refine ⟨rfl, Or.inr ⟨_, eD, rD_l hp eD, _, _, _, _, _, _, rfl, fr_s (by decide) (fr_s (by decide) (fr_s (by decide) (fr_s (by decide) hF))), rr_set_eq, rfl, rfl, rfl⟩⟩
                                   done)
              · first
                | (exfalso; omega)
                | skip
                  refine s_iload_n rfl (cn rfl) rfl ?_
                  refine s_iconst rfl (cn rfl) ?_
                  refine s_icmp_ne rfl (cn rfl) (cn rfl) ⟨by omega, by omega⟩ ⟨by omega, by omega⟩ (fun q21 => ?_) (fun q21 => ?_)
                  · first
                    | (exfalso; omega)
                    | skip
                      refine s_iload_n rfl (cn rfl) rfl ?_
                      refine s_iconst rfl (cn rfl) ?_
                      refine s_icmp_ne rfl (cn rfl) (cn rfl) ⟨by omega, by omega⟩ ⟨by omega, by omega⟩ (fun q30 => ?_) (fun q30 => ?_)
                      · first
                        | (exfalso; omega)
                        | skip
                          refine s_aload_n rfl (cn rfl) rfl ?_
                          refine s_getfield rfl (cn rfl) c58 rfl ?_
                          refine s_aload_n rfl (cn rfl) rfl ?_
                          refine s_getfield rfl (cn rfl) c58 rfl ?_
                          refine s_iload_n rfl (cn rfl) rfl ?_
                          refine s_iastore rfl (cn rfl) _ rfl c62 (by omega) (by decide) ?_
                          refine s_aload_n rfl (cn rfl) rfl ?_
                          refine s_getfield rfl (cn rfl) c58 rfl ?_
                          refine s_aload_n rfl (cn rfl) rfl ?_
                          refine s_getfield rfl (cn rfl) c58 rfl ?_
                          refine s_iload_n rfl (cn rfl) rfl ?_
                          refine s_iastore rfl (cn rfl) _ rfl c63 (by omega) (by decide) ?_
                          refine s_aload_n rfl (cn rfl) rfl ?_
                          refine s_getfield rfl (cn rfl) c58 rfl ?_
                          refine s_aload_n rfl (cn rfl) rfl ?_
                          refine s_getfield rfl (cn rfl) c58 rfl ?_
                          refine s_iload_n rfl (cn rfl) rfl ?_
                          refine s_iastore rfl (cn rfl) _ rfl c64 (by omega) (by decide) ?_
                          refine s_aload_n rfl (cn rfl) rfl ?_
                          refine s_dupr rfl (cn rfl) ?_
                          refine s_getfield rfl (cn rfl) c58 rfl ?_
                          refine s_iconst rfl (cn rfl) ?_
                          refine s_iadd rfl (cn rfl) ?_
                          refine s_puti rfl (cn rfl) rfl c58 rfl ?_
                          refine s_return rfl ?_
                          first
                            | (refine ⟨rfl, Or.inl ⟨q14, (kd ta p (plN ta tl p), x14, 0), ?_, by omega, by omega, ⟨⟨by show 0 ≤ kd ta p (plN ta tl p); omega, by show kd ta p (plN ta tl p) ≤ 5; omega⟩, (by show -999 ≤ x14 ∧ x14 ≤ (999 : Int); omega), (by show -999 ≤ 0 ∧ 0 ≤ (999 : Int); omega)⟩, _, rfl, fr_s (by decide) (fr_s (by decide) (fr_s (by decide) (fr_s (by decide) hF))), rr_set_eq, rfl, rfl, rfl⟩⟩
                               unfold rD
                               rw [if_neg ek]
                               rw [show kd ta p (plN ta tl p) = 0 by omega, rA_0, s1]; rfl
                               done)
                            | (refine ⟨rfl, Or.inl ⟨q26, (kd ta p (plN ta tl p), x23, x26), ?_, by omega, by omega, ⟨⟨by show 0 ≤ kd ta p (plN ta tl p); omega, by show kd ta p (plN ta tl p) ≤ 5; omega⟩, (by show -999 ≤ x23 ∧ x23 ≤ (999 : Int); omega), (by show -999 ≤ x26 ∧ x26 ≤ (999 : Int); omega)⟩, _, rfl, fr_s (by decide) (fr_s (by decide) (fr_s (by decide) (fr_s (by decide) hF))), rr_set_eq, rfl, rfl, rfl⟩⟩
                               unfold rD
                               rw [if_neg ek]
                               rw [rA_12 (by omega), s1]; show sb (sb (sb (rB ta tl q23) (rN ta tl)) _) _ = _; rw [s2]; rfl
                               done)
                            | (refine ⟨rfl, Or.inl ⟨q35, (kd ta p (plN ta tl p), x32, x35), ?_, by omega, by omega, ⟨⟨by show 0 ≤ kd ta p (plN ta tl p); omega, by show kd ta p (plN ta tl p) ≤ 5; omega⟩, (by show -999 ≤ x32 ∧ x32 ≤ (999 : Int); omega), (by show -999 ≤ x35 ∧ x35 ≤ (999 : Int); omega)⟩, _, rfl, fr_s (by decide) (fr_s (by decide) (fr_s (by decide) (fr_s (by decide) hF))), rr_set_eq, rfl, rfl, rfl⟩⟩
                               unfold rD
                               rw [if_neg ek]
                               rw [show kd ta p (plN ta tl p) = 5 by omega, rA_5, s1]; show sb (sb (sb (rB ta tl q32) (rP ta tl)) _) _ = _; rw [s2]; rfl
                               done)
                            | (refine ⟨rfl, Or.inl ⟨(plN ta tl p), (kd ta p (plN ta tl p), 0, 0), ?_, by omega, by omega, ⟨⟨by show 0 ≤ kd ta p (plN ta tl p); omega, by show kd ta p (plN ta tl p) ≤ 5; omega⟩, (by show -999 ≤ 0 ∧ 0 ≤ (999 : Int); omega), (by show -999 ≤ 0 ∧ 0 ≤ (999 : Int); omega)⟩, _, rfl, fr_s (by decide) (fr_s (by decide) (fr_s (by decide) (fr_s (by decide) hF))), rr_set_eq, rfl, rfl, rfl⟩⟩
                               unfold rD
                               rw [if_neg ek]
                               rw [rA_3 (by omega)]; rfl
                               done)
                            | (have eD : rD ta tl p = .inl f14 := by
                                 unfold rD
                                 rw [if_neg ek]
                                 rw [show kd ta p (plN ta tl p) = 0 by omega, rA_0, ef]; rfl
                               refine ⟨rfl, Or.inr ⟨_, eD, rD_l hp eD, _, _, _, _, _, _, rfl, fr_s (by decide) (fr_s (by decide) (fr_s (by decide) (fr_s (by decide) hF))), rr_set_eq, rfl, rfl, rfl⟩⟩
                               done)
                            | (have eD : rD ta tl p = .inl f26 := by
                                 unfold rD
                                 rw [if_neg ek]
                                 rw [rA_12 (by omega), s1]; show sb (sb (sb (rB ta tl q23) (rN ta tl)) _) _ = _; rw [ef]; rfl
                               refine ⟨rfl, Or.inr ⟨_, eD, rD_l hp eD, _, _, _, _, _, _, rfl, fr_s (by decide) (fr_s (by decide) (fr_s (by decide) (fr_s (by decide) hF))), rr_set_eq, rfl, rfl, rfl⟩⟩
                               done)
                            | (have eD : rD ta tl p = .inl f23 := by
                                 unfold rD
                                 rw [if_neg ek]
                                 rw [rA_12 (by omega), ef]; rfl
                               refine ⟨rfl, Or.inr ⟨_, eD, rD_l hp eD, _, _, _, _, _, _, rfl, fr_s (by decide) (fr_s (by decide) (fr_s (by decide) (fr_s (by decide) hF))), rr_set_eq, rfl, rfl, rfl⟩⟩
                               done)
                            | (have eD : rD ta tl p = .inl f35 := by
                                 unfold rD
                                 rw [if_neg ek]
                                 rw [show kd ta p (plN ta tl p) = 5 by omega, rA_5, s1]; show sb (sb (sb (rB ta tl q32) (rP ta tl)) _) _ = _; rw [ef]; rfl
                               refine ⟨rfl, Or.inr ⟨_, eD, rD_l hp eD, _, _, _, _, _, _, rfl, fr_s (by decide) (fr_s (by decide) (fr_s (by decide) (fr_s (by decide) hF))), rr_set_eq, rfl, rfl, rfl⟩⟩
                               done)
                            | (have eD : rD ta tl p = .inl f32 := by
                                 unfold rD
                                 rw [if_neg ek]
                                 rw [show kd ta p (plN ta tl p) = 5 by omega, rA_5, ef]; rfl
                               refine ⟨rfl, Or.inr ⟨_, eD, rD_l hp eD, _, _, _, _, _, _, rfl, fr_s (by decide) (fr_s (by decide) (fr_s (by decide) (fr_s (by decide) hF))), rr_set_eq, rfl, rfl, rfl⟩⟩
                               done)
                      · first
                        | (exfalso; omega)
                        | skip
                          refine s_aload_n rfl (cn rfl) rfl ?_
                          refine s_virt rfl (cn rfl) rfl rfl c58 rfl (m_person0 htl pl2 ht c58 c61) ?_
                          rintro _ _ (⟨q32, x32, s1, rfl, h32, rfl, hf32, c58⟩ | ⟨f32, r32, t32, ef, rfl, h32, rfl, hf32, c58⟩)
                          · have c61 := (hf32 61 (by decide)).trans c61
                            have c62 := (hf32 62 (by decide)).trans c62
                            have c63 := (hf32 63 (by decide)).trans c63
                            have c64 := (hf32 64 (by decide)).trans c64
                            have hF := fr_t hF hf32 (by decide)
                            have b32 := bP_b s1
                            refine s_istore_n rfl (cn rfl) ?_
                            refine s_aload_n rfl (cn rfl) rfl ?_
                            refine s_virt rfl (cn rfl) rfl rfl c58 rfl (m_person0 htl b32.2.1 ht c58 c61) ?_
                            rintro _ _ (⟨q35, x35, s2, rfl, h35, rfl, hf35, c58⟩ | ⟨f35, r35, t35, ef, rfl, h35, rfl, hf35, c58⟩)
                            · have c61 := (hf35 61 (by decide)).trans c61
                              have c62 := (hf35 62 (by decide)).trans c62
                              have c63 := (hf35 63 (by decide)).trans c63
                              have c64 := (hf35 64 (by decide)).trans c64
                              have hF := fr_t hF hf35 (by decide)
                              have b35 := bP_b s2
                              refine s_istore_n rfl (cn rfl) ?_
                              refine s_aload_n rfl (cn rfl) rfl ?_
                              refine s_getfield rfl (cn rfl) c58 rfl ?_
                              refine s_aload_n rfl (cn rfl) rfl ?_
                              refine s_getfield rfl (cn rfl) c58 rfl ?_
                              refine s_iload_n rfl (cn rfl) rfl ?_
                              refine s_iastore rfl (cn rfl) _ rfl c62 (by omega) (by decide) ?_
                              refine s_aload_n rfl (cn rfl) rfl ?_
                              refine s_getfield rfl (cn rfl) c58 rfl ?_
                              refine s_aload_n rfl (cn rfl) rfl ?_
                              refine s_getfield rfl (cn rfl) c58 rfl ?_
                              refine s_iload_n rfl (cn rfl) rfl ?_
                              refine s_iastore rfl (cn rfl) _ rfl c63 (by omega) (by decide) ?_
                              refine s_aload_n rfl (cn rfl) rfl ?_
                              refine s_getfield rfl (cn rfl) c58 rfl ?_
                              refine s_aload_n rfl (cn rfl) rfl ?_
                              refine s_getfield rfl (cn rfl) c58 rfl ?_
                              refine s_iload_n rfl (cn rfl) rfl ?_
                              refine s_iastore rfl (cn rfl) _ rfl c64 (by omega) (by decide) ?_
                              refine s_aload_n rfl (cn rfl) rfl ?_
                              refine s_dupr rfl (cn rfl) ?_
                              refine s_getfield rfl (cn rfl) c58 rfl ?_
                              refine s_iconst rfl (cn rfl) ?_
                              refine s_iadd rfl (cn rfl) ?_
                              refine s_puti rfl (cn rfl) rfl c58 rfl ?_
                              refine s_return rfl ?_
                              first
                                | (refine ⟨rfl, Or.inl ⟨q14, (kd ta p (plN ta tl p), x14, 0), ?_, by omega, by omega, ⟨⟨by show 0 ≤ kd ta p (plN ta tl p); omega, by show kd ta p (plN ta tl p) ≤ 5; omega⟩, (by show -999 ≤ x14 ∧ x14 ≤ (999 : Int); omega), (by show -999 ≤ 0 ∧ 0 ≤ (999 : Int); omega)⟩, _, rfl, fr_s (by decide) (fr_s (by decide) (fr_s (by decide) (fr_s (by decide) hF))), rr_set_eq, rfl, rfl, rfl⟩⟩
                                   unfold rD
                                   rw [if_neg ek]
                                   rw [show kd ta p (plN ta tl p) = 0 by omega, rA_0, s1]; rfl
                                   done)
                                | (refine ⟨rfl, Or.inl ⟨q26, (kd ta p (plN ta tl p), x23, x26), ?_, by omega, by omega, ⟨⟨by show 0 ≤ kd ta p (plN ta tl p); omega, by show kd ta p (plN ta tl p) ≤ 5; omega⟩, (by show -999 ≤ x23 ∧ x23 ≤ (999 : Int); omega), (by show -999 ≤ x26 ∧ x26 ≤ (999 : Int); omega)⟩, _, rfl, fr_s (by decide) (fr_s (by decide) (fr_s (by decide) (fr_s (by decide) hF))), rr_set_eq, rfl, rfl, rfl⟩⟩
                                   unfold rD
                                   rw [if_neg ek]
                                   rw [rA_12 (by omega), s1]; show sb (sb (sb (rB ta tl q23) (rN ta tl)) _) _ = _; rw [s2]; rfl
                                   done)
                                | (refine ⟨rfl, Or.inl ⟨q35, (kd ta p (plN ta tl p), x32, x35), ?_, by omega, by omega, ⟨⟨by show 0 ≤ kd ta p (plN ta tl p); omega, by show kd ta p (plN ta tl p) ≤ 5; omega⟩, (by show -999 ≤ x32 ∧ x32 ≤ (999 : Int); omega), (by show -999 ≤ x35 ∧ x35 ≤ (999 : Int); omega)⟩, _, rfl, fr_s (by decide) (fr_s (by decide) (fr_s (by decide) (fr_s (by decide) hF))), rr_set_eq, rfl, rfl, rfl⟩⟩
                                   unfold rD
                                   rw [if_neg ek]
                                   rw [show kd ta p (plN ta tl p) = 5 by omega, rA_5, s1]; show sb (sb (sb (rB ta tl q32) (rP ta tl)) _) _ = _; rw [s2]; rfl
                                   done)
                                | (refine ⟨rfl, Or.inl ⟨(plN ta tl p), (kd ta p (plN ta tl p), 0, 0), ?_, by omega, by omega, ⟨⟨by show 0 ≤ kd ta p (plN ta tl p); omega, by show kd ta p (plN ta tl p) ≤ 5; omega⟩, (by show -999 ≤ 0 ∧ 0 ≤ (999 : Int); omega), (by show -999 ≤ 0 ∧ 0 ≤ (999 : Int); omega)⟩, _, rfl, fr_s (by decide) (fr_s (by decide) (fr_s (by decide) (fr_s (by decide) hF))), rr_set_eq, rfl, rfl, rfl⟩⟩
                                   unfold rD
                                   rw [if_neg ek]
                                   rw [rA_3 (by omega)]; rfl
                                   done)
                                | (have eD : rD ta tl p = .inl f14 := by
                                     unfold rD
                                     rw [if_neg ek]
                                     rw [show kd ta p (plN ta tl p) = 0 by omega, rA_0, ef]; rfl
                                   refine ⟨rfl, Or.inr ⟨_, eD, rD_l hp eD, _, _, _, _, _, _, rfl, fr_s (by decide) (fr_s (by decide) (fr_s (by decide) (fr_s (by decide) hF))), rr_set_eq, rfl, rfl, rfl⟩⟩
                                   done)
                                | (have eD : rD ta tl p = .inl f26 := by
                                     unfold rD
                                     rw [if_neg ek]
                                     rw [rA_12 (by omega), s1]; show sb (sb (sb (rB ta tl q23) (rN ta tl)) _) _ = _; rw [ef]; rfl
                                   refine ⟨rfl, Or.inr ⟨_, eD, rD_l hp eD, _, _, _, _, _, _, rfl, fr_s (by decide) (fr_s (by decide) (fr_s (by decide) (fr_s (by decide) hF))), rr_set_eq, rfl, rfl, rfl⟩⟩
                                   done)
                                | (have eD : rD ta tl p = .inl f23 := by
                                     unfold rD
                                     rw [if_neg ek]
                                     rw [rA_12 (by omega), ef]; rfl
                                   refine ⟨rfl, Or.inr ⟨_, eD, rD_l hp eD, _, _, _, _, _, _, rfl, fr_s (by decide) (fr_s (by decide) (fr_s (by decide) (fr_s (by decide) hF))), rr_set_eq, rfl, rfl, rfl⟩⟩
                                   done)
                                | (have eD : rD ta tl p = .inl f35 := by
                                     unfold rD
                                     rw [if_neg ek]
                                     rw [show kd ta p (plN ta tl p) = 5 by omega, rA_5, s1]; show sb (sb (sb (rB ta tl q32) (rP ta tl)) _) _ = _; rw [ef]; rfl
                                   refine ⟨rfl, Or.inr ⟨_, eD, rD_l hp eD, _, _, _, _, _, _, rfl, fr_s (by decide) (fr_s (by decide) (fr_s (by decide) (fr_s (by decide) hF))), rr_set_eq, rfl, rfl, rfl⟩⟩
                                   done)
                                | (have eD : rD ta tl p = .inl f32 := by
                                     unfold rD
                                     rw [if_neg ek]
                                     rw [show kd ta p (plN ta tl p) = 5 by omega, rA_5, ef]; rfl
                                   refine ⟨rfl, Or.inr ⟨_, eD, rD_l hp eD, _, _, _, _, _, _, rfl, fr_s (by decide) (fr_s (by decide) (fr_s (by decide) (fr_s (by decide) hF))), rr_set_eq, rfl, rfl, rfl⟩⟩
                                   done)
                            · have c61 := (hf35 61 (by decide)).trans c61
                              have c62 := (hf35 62 (by decide)).trans c62
                              have c63 := (hf35 63 (by decide)).trans c63
                              have c64 := (hf35 64 (by decide)).trans c64
                              have hF := fr_t hF hf35 (by decide)
                              refine s_istore_n rfl (cn rfl) ?_
                              refine s_aload_n rfl (cn rfl) rfl ?_
                              refine s_getfield rfl (cn rfl) c58 rfl ?_
                              refine s_aload_n rfl (cn rfl) rfl ?_
                              refine s_getfield rfl (cn rfl) c58 rfl ?_
                              refine s_iload_n rfl (cn rfl) rfl ?_
                              refine s_iastore rfl (cn rfl) _ rfl c62 (by omega) (by decide) ?_
                              refine s_aload_n rfl (cn rfl) rfl ?_
                              refine s_getfield rfl (cn rfl) c58 rfl ?_
                              refine s_aload_n rfl (cn rfl) rfl ?_
                              refine s_getfield rfl (cn rfl) c58 rfl ?_
                              refine s_iload_n rfl (cn rfl) rfl ?_
                              refine s_iastore rfl (cn rfl) _ rfl c63 (by omega) (by decide) ?_
                              refine s_aload_n rfl (cn rfl) rfl ?_
                              refine s_getfield rfl (cn rfl) c58 rfl ?_
                              refine s_aload_n rfl (cn rfl) rfl ?_
                              refine s_getfield rfl (cn rfl) c58 rfl ?_
                              refine s_iload_n rfl (cn rfl) rfl ?_
                              refine s_iastore rfl (cn rfl) _ rfl c64 (by omega) (by decide) ?_
                              refine s_aload_n rfl (cn rfl) rfl ?_
                              refine s_dupr rfl (cn rfl) ?_
                              refine s_getfield rfl (cn rfl) c58 rfl ?_
                              refine s_iconst rfl (cn rfl) ?_
                              refine s_iadd rfl (cn rfl) ?_
                              refine s_puti rfl (cn rfl) rfl c58 rfl ?_
                              refine s_return rfl ?_
                              first
                                | (refine ⟨rfl, Or.inl ⟨q14, (kd ta p (plN ta tl p), x14, 0), ?_, by omega, by omega, ⟨⟨by show 0 ≤ kd ta p (plN ta tl p); omega, by show kd ta p (plN ta tl p) ≤ 5; omega⟩, (by show -999 ≤ x14 ∧ x14 ≤ (999 : Int); omega), (by show -999 ≤ 0 ∧ 0 ≤ (999 : Int); omega)⟩, _, rfl, fr_s (by decide) (fr_s (by decide) (fr_s (by decide) (fr_s (by decide) hF))), rr_set_eq, rfl, rfl, rfl⟩⟩
                                   unfold rD
                                   rw [if_neg ek]
                                   rw [show kd ta p (plN ta tl p) = 0 by omega, rA_0, s1]; rfl
                                   done)
                                | (refine ⟨rfl, Or.inl ⟨q26, (kd ta p (plN ta tl p), x23, x26), ?_, by omega, by omega, ⟨⟨by show 0 ≤ kd ta p (plN ta tl p); omega, by show kd ta p (plN ta tl p) ≤ 5; omega⟩, (by show -999 ≤ x23 ∧ x23 ≤ (999 : Int); omega), (by show -999 ≤ x26 ∧ x26 ≤ (999 : Int); omega)⟩, _, rfl, fr_s (by decide) (fr_s (by decide) (fr_s (by decide) (fr_s (by decide) hF))), rr_set_eq, rfl, rfl, rfl⟩⟩
                                   unfold rD
                                   rw [if_neg ek]
                                   rw [rA_12 (by omega), s1]; show sb (sb (sb (rB ta tl q23) (rN ta tl)) _) _ = _; rw [s2]; rfl
                                   done)
                                | (refine ⟨rfl, Or.inl ⟨q35, (kd ta p (plN ta tl p), x32, x35), ?_, by omega, by omega, ⟨⟨by show 0 ≤ kd ta p (plN ta tl p); omega, by show kd ta p (plN ta tl p) ≤ 5; omega⟩, (by show -999 ≤ x32 ∧ x32 ≤ (999 : Int); omega), (by show -999 ≤ x35 ∧ x35 ≤ (999 : Int); omega)⟩, _, rfl, fr_s (by decide) (fr_s (by decide) (fr_s (by decide) (fr_s (by decide) hF))), rr_set_eq, rfl, rfl, rfl⟩⟩
                                   unfold rD
                                   rw [if_neg ek]
                                   rw [show kd ta p (plN ta tl p) = 5 by omega, rA_5, s1]; show sb (sb (sb (rB ta tl q32) (rP ta tl)) _) _ = _; rw [s2]; rfl
                                   done)
                                | (refine ⟨rfl, Or.inl ⟨(plN ta tl p), (kd ta p (plN ta tl p), 0, 0), ?_, by omega, by omega, ⟨⟨by show 0 ≤ kd ta p (plN ta tl p); omega, by show kd ta p (plN ta tl p) ≤ 5; omega⟩, (by show -999 ≤ 0 ∧ 0 ≤ (999 : Int); omega), (by show -999 ≤ 0 ∧ 0 ≤ (999 : Int); omega)⟩, _, rfl, fr_s (by decide) (fr_s (by decide) (fr_s (by decide) (fr_s (by decide) hF))), rr_set_eq, rfl, rfl, rfl⟩⟩
                                   unfold rD
                                   rw [if_neg ek]
                                   rw [rA_3 (by omega)]; rfl
                                   done)
                                | (have eD : rD ta tl p = .inl f14 := by
                                     unfold rD
                                     rw [if_neg ek]
                                     rw [show kd ta p (plN ta tl p) = 0 by omega, rA_0, ef]; rfl
                                   refine ⟨rfl, Or.inr ⟨_, eD, rD_l hp eD, _, _, _, _, _, _, rfl, fr_s (by decide) (fr_s (by decide) (fr_s (by decide) (fr_s (by decide) hF))), rr_set_eq, rfl, rfl, rfl⟩⟩
                                   done)
                                | (have eD : rD ta tl p = .inl f26 := by
                                     unfold rD
                                     rw [if_neg ek]
                                     rw [rA_12 (by omega), s1]; show sb (sb (sb (rB ta tl q23) (rN ta tl)) _) _ = _; rw [ef]; rfl
                                   refine ⟨rfl, Or.inr ⟨_, eD, rD_l hp eD, _, _, _, _, _, _, rfl, fr_s (by decide) (fr_s (by decide) (fr_s (by decide) (fr_s (by decide) hF))), rr_set_eq, rfl, rfl, rfl⟩⟩
                                   done)
                                | (have eD : rD ta tl p = .inl f23 := by
                                     unfold rD
                                     rw [if_neg ek]
                                     rw [rA_12 (by omega), ef]; rfl
                                   refine ⟨rfl, Or.inr ⟨_, eD, rD_l hp eD, _, _, _, _, _, _, rfl, fr_s (by decide) (fr_s (by decide) (fr_s (by decide) (fr_s (by decide) hF))), rr_set_eq, rfl, rfl, rfl⟩⟩
                                   done)
                                | (have eD : rD ta tl p = .inl f35 := by
                                     unfold rD
                                     rw [if_neg ek]
                                     rw [show kd ta p (plN ta tl p) = 5 by omega, rA_5, s1]; show sb (sb (sb (rB ta tl q32) (rP ta tl)) _) _ = _; rw [ef]; rfl
                                   refine ⟨rfl, Or.inr ⟨_, eD, rD_l hp eD, _, _, _, _, _, _, rfl, fr_s (by decide) (fr_s (by decide) (fr_s (by decide) (fr_s (by decide) hF))), rr_set_eq, rfl, rfl, rfl⟩⟩
                                   done)
                                | (have eD : rD ta tl p = .inl f32 := by
                                     unfold rD
                                     rw [if_neg ek]
                                     rw [show kd ta p (plN ta tl p) = 5 by omega, rA_5, ef]; rfl
                                   refine ⟨rfl, Or.inr ⟨_, eD, rD_l hp eD, _, _, _, _, _, _, rfl, fr_s (by decide) (fr_s (by decide) (fr_s (by decide) (fr_s (by decide) hF))), rr_set_eq, rfl, rfl, rfl⟩⟩
                                   done)
                          · have c61 := (hf32 61 (by decide)).trans c61
                            have c62 := (hf32 62 (by decide)).trans c62
                            have c63 := (hf32 63 (by decide)).trans c63
                            have c64 := (hf32 64 (by decide)).trans c64
                            have hF := fr_t hF hf32 (by decide)
                            refine s_istore_n rfl (cn rfl) ?_
                            refine s_aload_n rfl (cn rfl) rfl ?_
                            refine s_virt rfl (cn rfl) rfl rfl c58 rfl (m_person1 c58) ?_
                            rintro _ _ ⟨rfl, rfl⟩
                            · refine s_istore_n rfl (cn rfl) ?_
                              refine s_aload_n rfl (cn rfl) rfl ?_
                              refine s_getfield rfl (cn rfl) c58 rfl ?_
                              refine s_aload_n rfl (cn rfl) rfl ?_
                              refine s_getfield rfl (cn rfl) c58 rfl ?_
                              refine s_iload_n rfl (cn rfl) rfl ?_
                              refine s_iastore rfl (cn rfl) _ rfl c62 (by omega) (by decide) ?_
                              refine s_aload_n rfl (cn rfl) rfl ?_
                              refine s_getfield rfl (cn rfl) c58 rfl ?_
                              refine s_aload_n rfl (cn rfl) rfl ?_
                              refine s_getfield rfl (cn rfl) c58 rfl ?_
                              refine s_iload_n rfl (cn rfl) rfl ?_
                              refine s_iastore rfl (cn rfl) _ rfl c63 (by omega) (by decide) ?_
                              refine s_aload_n rfl (cn rfl) rfl ?_
                              refine s_getfield rfl (cn rfl) c58 rfl ?_
                              refine s_aload_n rfl (cn rfl) rfl ?_
                              refine s_getfield rfl (cn rfl) c58 rfl ?_
                              refine s_iload_n rfl (cn rfl) rfl ?_
                              refine s_iastore rfl (cn rfl) _ rfl c64 (by omega) (by decide) ?_
                              refine s_aload_n rfl (cn rfl) rfl ?_
                              refine s_dupr rfl (cn rfl) ?_
                              refine s_getfield rfl (cn rfl) c58 rfl ?_
                              refine s_iconst rfl (cn rfl) ?_
                              refine s_iadd rfl (cn rfl) ?_
                              refine s_puti rfl (cn rfl) rfl c58 rfl ?_
                              refine s_return rfl ?_
                              first
                                | (refine ⟨rfl, Or.inl ⟨q14, (kd ta p (plN ta tl p), x14, 0), ?_, by omega, by omega, ⟨⟨by show 0 ≤ kd ta p (plN ta tl p); omega, by show kd ta p (plN ta tl p) ≤ 5; omega⟩, (by show -999 ≤ x14 ∧ x14 ≤ (999 : Int); omega), (by show -999 ≤ 0 ∧ 0 ≤ (999 : Int); omega)⟩, _, rfl, fr_s (by decide) (fr_s (by decide) (fr_s (by decide) (fr_s (by decide) hF))), rr_set_eq, rfl, rfl, rfl⟩⟩
                                   unfold rD
                                   rw [if_neg ek]
                                   rw [show kd ta p (plN ta tl p) = 0 by omega, rA_0, s1]; rfl
                                   done)
                                | (refine ⟨rfl, Or.inl ⟨q26, (kd ta p (plN ta tl p), x23, x26), ?_, by omega, by omega, ⟨⟨by show 0 ≤ kd ta p (plN ta tl p); omega, by show kd ta p (plN ta tl p) ≤ 5; omega⟩, (by show -999 ≤ x23 ∧ x23 ≤ (999 : Int); omega), (by show -999 ≤ x26 ∧ x26 ≤ (999 : Int); omega)⟩, _, rfl, fr_s (by decide) (fr_s (by decide) (fr_s (by decide) (fr_s (by decide) hF))), rr_set_eq, rfl, rfl, rfl⟩⟩
                                   unfold rD
                                   rw [if_neg ek]
                                   rw [rA_12 (by omega), s1]; show sb (sb (sb (rB ta tl q23) (rN ta tl)) _) _ = _; rw [s2]; rfl
                                   done)
                                | (refine ⟨rfl, Or.inl ⟨q35, (kd ta p (plN ta tl p), x32, x35), ?_, by omega, by omega, ⟨⟨by show 0 ≤ kd ta p (plN ta tl p); omega, by show kd ta p (plN ta tl p) ≤ 5; omega⟩, (by show -999 ≤ x32 ∧ x32 ≤ (999 : Int); omega), (by show -999 ≤ x35 ∧ x35 ≤ (999 : Int); omega)⟩, _, rfl, fr_s (by decide) (fr_s (by decide) (fr_s (by decide) (fr_s (by decide) hF))), rr_set_eq, rfl, rfl, rfl⟩⟩
                                   unfold rD
                                   rw [if_neg ek]
                                   rw [show kd ta p (plN ta tl p) = 5 by omega, rA_5, s1]; show sb (sb (sb (rB ta tl q32) (rP ta tl)) _) _ = _; rw [s2]; rfl
                                   done)
                                | (refine ⟨rfl, Or.inl ⟨(plN ta tl p), (kd ta p (plN ta tl p), 0, 0), ?_, by omega, by omega, ⟨⟨by show 0 ≤ kd ta p (plN ta tl p); omega, by show kd ta p (plN ta tl p) ≤ 5; omega⟩, (by show -999 ≤ 0 ∧ 0 ≤ (999 : Int); omega), (by show -999 ≤ 0 ∧ 0 ≤ (999 : Int); omega)⟩, _, rfl, fr_s (by decide) (fr_s (by decide) (fr_s (by decide) (fr_s (by decide) hF))), rr_set_eq, rfl, rfl, rfl⟩⟩
                                   unfold rD
                                   rw [if_neg ek]
                                   rw [rA_3 (by omega)]; rfl
                                   done)
                                | (have eD : rD ta tl p = .inl f14 := by
                                     unfold rD
                                     rw [if_neg ek]
                                     rw [show kd ta p (plN ta tl p) = 0 by omega, rA_0, ef]; rfl
                                   refine ⟨rfl, Or.inr ⟨_, eD, rD_l hp eD, _, _, _, _, _, _, rfl, fr_s (by decide) (fr_s (by decide) (fr_s (by decide) (fr_s (by decide) hF))), rr_set_eq, rfl, rfl, rfl⟩⟩
                                   done)
                                | (have eD : rD ta tl p = .inl f26 := by
                                     unfold rD
                                     rw [if_neg ek]
                                     rw [rA_12 (by omega), s1]; show sb (sb (sb (rB ta tl q23) (rN ta tl)) _) _ = _; rw [ef]; rfl
                                   refine ⟨rfl, Or.inr ⟨_, eD, rD_l hp eD, _, _, _, _, _, _, rfl, fr_s (by decide) (fr_s (by decide) (fr_s (by decide) (fr_s (by decide) hF))), rr_set_eq, rfl, rfl, rfl⟩⟩
                                   done)
                                | (have eD : rD ta tl p = .inl f23 := by
                                     unfold rD
                                     rw [if_neg ek]
                                     rw [rA_12 (by omega), ef]; rfl
                                   refine ⟨rfl, Or.inr ⟨_, eD, rD_l hp eD, _, _, _, _, _, _, rfl, fr_s (by decide) (fr_s (by decide) (fr_s (by decide) (fr_s (by decide) hF))), rr_set_eq, rfl, rfl, rfl⟩⟩
                                   done)
                                | (have eD : rD ta tl p = .inl f35 := by
                                     unfold rD
                                     rw [if_neg ek]
                                     rw [show kd ta p (plN ta tl p) = 5 by omega, rA_5, s1]; show sb (sb (sb (rB ta tl q32) (rP ta tl)) _) _ = _; rw [ef]; rfl
                                   refine ⟨rfl, Or.inr ⟨_, eD, rD_l hp eD, _, _, _, _, _, _, rfl, fr_s (by decide) (fr_s (by decide) (fr_s (by decide) (fr_s (by decide) hF))), rr_set_eq, rfl, rfl, rfl⟩⟩
                                   done)
                                | (have eD : rD ta tl p = .inl f32 := by
                                     unfold rD
                                     rw [if_neg ek]
                                     rw [show kd ta p (plN ta tl p) = 5 by omega, rA_5, ef]; rfl
                                   refine ⟨rfl, Or.inr ⟨_, eD, rD_l hp eD, _, _, _, _, _, _, rfl, fr_s (by decide) (fr_s (by decide) (fr_s (by decide) (fr_s (by decide) hF))), rr_set_eq, rfl, rfl, rfl⟩⟩
                                   done)
                  · first
                    | (exfalso; omega)
                    | skip
                      refine s_aload_n rfl (cn rfl) rfl ?_
                      refine s_virt rfl (cn rfl) rfl rfl c58 rfl (m_group0 htl pl2 ht c58 c61) ?_
                      rintro _ _ (⟨q23, x23, s1, rfl, h23, rfl, hf23, c58⟩ | ⟨f23, r23, t23, ef, rfl, h23, rfl, hf23, c58⟩)
                      · have c61 := (hf23 61 (by decide)).trans c61
                        have c62 := (hf23 62 (by decide)).trans c62
                        have c63 := (hf23 63 (by decide)).trans c63
                        have c64 := (hf23 64 (by decide)).trans c64
                        have hF := fr_t hF hf23 (by decide)
                        have b23 := bG_b s1
                        refine s_istore_n rfl (cn rfl) ?_
                        refine s_aload_n rfl (cn rfl) rfl ?_
                        refine s_virt rfl (cn rfl) rfl rfl c58 rfl (m_number0 htl b23.2.1 ht c58 c61) ?_
                        rintro _ _ (⟨q26, x26, s2, rfl, h26, rfl, hf26, c58⟩ | ⟨f26, r26, t26, ef, rfl, h26, rfl, hf26, c58⟩)
                        · have c61 := (hf26 61 (by decide)).trans c61
                          have c62 := (hf26 62 (by decide)).trans c62
                          have c63 := (hf26 63 (by decide)).trans c63
                          have c64 := (hf26 64 (by decide)).trans c64
                          have hF := fr_t hF hf26 (by decide)
                          have b26 := bN_b s2
                          refine s_istore_n rfl (cn rfl) ?_
                          refine s_iload_n rfl (cn rfl) rfl ?_
                          refine s_iconst rfl (cn rfl) ?_
                          refine s_icmp_ne rfl (cn rfl) (cn rfl) ⟨by omega, by omega⟩ ⟨by omega, by omega⟩ (fun q30 => ?_) (fun q30 => ?_)
                          · first
                            | (exfalso; omega)
                            | skip
                              refine s_aload_n rfl (cn rfl) rfl ?_
                              refine s_getfield rfl (cn rfl) c58 rfl ?_
                              refine s_aload_n rfl (cn rfl) rfl ?_
                              refine s_getfield rfl (cn rfl) c58 rfl ?_
                              refine s_iload_n rfl (cn rfl) rfl ?_
                              refine s_iastore rfl (cn rfl) _ rfl c62 (by omega) (by decide) ?_
                              refine s_aload_n rfl (cn rfl) rfl ?_
                              refine s_getfield rfl (cn rfl) c58 rfl ?_
                              refine s_aload_n rfl (cn rfl) rfl ?_
                              refine s_getfield rfl (cn rfl) c58 rfl ?_
                              refine s_iload_n rfl (cn rfl) rfl ?_
                              refine s_iastore rfl (cn rfl) _ rfl c63 (by omega) (by decide) ?_
                              refine s_aload_n rfl (cn rfl) rfl ?_
                              refine s_getfield rfl (cn rfl) c58 rfl ?_
                              refine s_aload_n rfl (cn rfl) rfl ?_
                              refine s_getfield rfl (cn rfl) c58 rfl ?_
                              refine s_iload_n rfl (cn rfl) rfl ?_
                              refine s_iastore rfl (cn rfl) _ rfl c64 (by omega) (by decide) ?_
                              refine s_aload_n rfl (cn rfl) rfl ?_
                              refine s_dupr rfl (cn rfl) ?_
                              refine s_getfield rfl (cn rfl) c58 rfl ?_
                              refine s_iconst rfl (cn rfl) ?_
                              refine s_iadd rfl (cn rfl) ?_
                              refine s_puti rfl (cn rfl) rfl c58 rfl ?_
                              refine s_return rfl ?_
                              first
                                | (refine ⟨rfl, Or.inl ⟨q14, (kd ta p (plN ta tl p), x14, 0), ?_, by omega, by omega, ⟨⟨by show 0 ≤ kd ta p (plN ta tl p); omega, by show kd ta p (plN ta tl p) ≤ 5; omega⟩, (by show -999 ≤ x14 ∧ x14 ≤ (999 : Int); omega), (by show -999 ≤ 0 ∧ 0 ≤ (999 : Int); omega)⟩, _, rfl, fr_s (by decide) (fr_s (by decide) (fr_s (by decide) (fr_s (by decide) hF))), rr_set_eq, rfl, rfl, rfl⟩⟩
                                   unfold rD
                                   rw [if_neg ek]
                                   rw [show kd ta p (plN ta tl p) = 0 by omega, rA_0, s1]; rfl
                                   done)
                                | (refine ⟨rfl, Or.inl ⟨q26, (kd ta p (plN ta tl p), x23, x26), ?_, by omega, by omega, ⟨⟨by show 0 ≤ kd ta p (plN ta tl p); omega, by show kd ta p (plN ta tl p) ≤ 5; omega⟩, (by show -999 ≤ x23 ∧ x23 ≤ (999 : Int); omega), (by show -999 ≤ x26 ∧ x26 ≤ (999 : Int); omega)⟩, _, rfl, fr_s (by decide) (fr_s (by decide) (fr_s (by decide) (fr_s (by decide) hF))), rr_set_eq, rfl, rfl, rfl⟩⟩
                                   unfold rD
                                   rw [if_neg ek]
                                   rw [rA_12 (by omega), s1]; show sb (sb (sb (rB ta tl q23) (rN ta tl)) _) _ = _; rw [s2]; rfl
                                   done)
                                | (refine ⟨rfl, Or.inl ⟨q35, (kd ta p (plN ta tl p), x32, x35), ?_, by omega, by omega, ⟨⟨by show 0 ≤ kd ta p (plN ta tl p); omega, by show kd ta p (plN ta tl p) ≤ 5; omega⟩, (by show -999 ≤ x32 ∧ x32 ≤ (999 : Int); omega), (by show -999 ≤ x35 ∧ x35 ≤ (999 : Int); omega)⟩, _, rfl, fr_s (by decide) (fr_s (by decide) (fr_s (by decide) (fr_s (by decide) hF))), rr_set_eq, rfl, rfl, rfl⟩⟩
                                   unfold rD
                                   rw [if_neg ek]
                                   rw [show kd ta p (plN ta tl p) = 5 by omega, rA_5, s1]; show sb (sb (sb (rB ta tl q32) (rP ta tl)) _) _ = _; rw [s2]; rfl
                                   done)
                                | (refine ⟨rfl, Or.inl ⟨(plN ta tl p), (kd ta p (plN ta tl p), 0, 0), ?_, by omega, by omega, ⟨⟨by show 0 ≤ kd ta p (plN ta tl p); omega, by show kd ta p (plN ta tl p) ≤ 5; omega⟩, (by show -999 ≤ 0 ∧ 0 ≤ (999 : Int); omega), (by show -999 ≤ 0 ∧ 0 ≤ (999 : Int); omega)⟩, _, rfl, fr_s (by decide) (fr_s (by decide) (fr_s (by decide) (fr_s (by decide) hF))), rr_set_eq, rfl, rfl, rfl⟩⟩
                                   unfold rD
                                   rw [if_neg ek]
                                   rw [rA_3 (by omega)]; rfl
                                   done)
                                | (have eD : rD ta tl p = .inl f14 := by
                                     unfold rD
                                     rw [if_neg ek]
                                     rw [show kd ta p (plN ta tl p) = 0 by omega, rA_0, ef]; rfl
                                   refine ⟨rfl, Or.inr ⟨_, eD, rD_l hp eD, _, _, _, _, _, _, rfl, fr_s (by decide) (fr_s (by decide) (fr_s (by decide) (fr_s (by decide) hF))), rr_set_eq, rfl, rfl, rfl⟩⟩
                                   done)
                                | (have eD : rD ta tl p = .inl f26 := by
                                     unfold rD
                                     rw [if_neg ek]
                                     rw [rA_12 (by omega), s1]; show sb (sb (sb (rB ta tl q23) (rN ta tl)) _) _ = _; rw [ef]; rfl
                                   refine ⟨rfl, Or.inr ⟨_, eD, rD_l hp eD, _, _, _, _, _, _, rfl, fr_s (by decide) (fr_s (by decide) (fr_s (by decide) (fr_s (by decide) hF))), rr_set_eq, rfl, rfl, rfl⟩⟩
                                   done)
                                | (have eD : rD ta tl p = .inl f23 := by
                                     unfold rD
                                     rw [if_neg ek]
                                     rw [rA_12 (by omega), ef]; rfl
                                   refine ⟨rfl, Or.inr ⟨_, eD, rD_l hp eD, _, _, _, _, _, _, rfl, fr_s (by decide) (fr_s (by decide) (fr_s (by decide) (fr_s (by decide) hF))), rr_set_eq, rfl, rfl, rfl⟩⟩
                                   done)
                                | (have eD : rD ta tl p = .inl f35 := by
                                     unfold rD
                                     rw [if_neg ek]
                                     rw [show kd ta p (plN ta tl p) = 5 by omega, rA_5, s1]; show sb (sb (sb (rB ta tl q32) (rP ta tl)) _) _ = _; rw [ef]; rfl
                                   refine ⟨rfl, Or.inr ⟨_, eD, rD_l hp eD, _, _, _, _, _, _, rfl, fr_s (by decide) (fr_s (by decide) (fr_s (by decide) (fr_s (by decide) hF))), rr_set_eq, rfl, rfl, rfl⟩⟩
                                   done)
                                | (have eD : rD ta tl p = .inl f32 := by
                                     unfold rD
                                     rw [if_neg ek]
                                     rw [show kd ta p (plN ta tl p) = 5 by omega, rA_5, ef]; rfl
                                   refine ⟨rfl, Or.inr ⟨_, eD, rD_l hp eD, _, _, _, _, _, _, rfl, fr_s (by decide) (fr_s (by decide) (fr_s (by decide) (fr_s (by decide) hF))), rr_set_eq, rfl, rfl, rfl⟩⟩
                                   done)
                          · first
                            | (exfalso; omega)
                            | skip
                              refine s_aload_n rfl (cn rfl) rfl ?_
                              refine s_virt rfl (cn rfl) rfl rfl c58 rfl (m_person0 htl pl2 ht c58 c61) ?_
                              rintro _ _ (⟨q32, x32, s1, rfl, h32, rfl, hf32, c58⟩ | ⟨f32, r32, t32, ef, rfl, h32, rfl, hf32, c58⟩)
                              · have c61 := (hf32 61 (by decide)).trans c61
                                have c62 := (hf32 62 (by decide)).trans c62
                                have c63 := (hf32 63 (by decide)).trans c63
                                have c64 := (hf32 64 (by decide)).trans c64
                                have hF := fr_t hF hf32 (by decide)
                                have b32 := bP_b s1
                                refine s_istore_n rfl (cn rfl) ?_
                                refine s_aload_n rfl (cn rfl) rfl ?_
                                refine s_virt rfl (cn rfl) rfl rfl c58 rfl (m_person0 htl b32.2.1 ht c58 c61) ?_
                                rintro _ _ (⟨q35, x35, s2, rfl, h35, rfl, hf35, c58⟩ | ⟨f35, r35, t35, ef, rfl, h35, rfl, hf35, c58⟩)
                                · have c61 := (hf35 61 (by decide)).trans c61
                                  have c62 := (hf35 62 (by decide)).trans c62
                                  have c63 := (hf35 63 (by decide)).trans c63
                                  have c64 := (hf35 64 (by decide)).trans c64
                                  have hF := fr_t hF hf35 (by decide)
                                  have b35 := bP_b s2
                                  refine s_istore_n rfl (cn rfl) ?_
                                  refine s_aload_n rfl (cn rfl) rfl ?_
                                  refine s_getfield rfl (cn rfl) c58 rfl ?_
                                  refine s_aload_n rfl (cn rfl) rfl ?_
                                  refine s_getfield rfl (cn rfl) c58 rfl ?_
                                  refine s_iload_n rfl (cn rfl) rfl ?_
                                  refine s_iastore rfl (cn rfl) _ rfl c62 (by omega) (by decide) ?_
                                  refine s_aload_n rfl (cn rfl) rfl ?_
                                  refine s_getfield rfl (cn rfl) c58 rfl ?_
                                  refine s_aload_n rfl (cn rfl) rfl ?_
                                  refine s_getfield rfl (cn rfl) c58 rfl ?_
                                  refine s_iload_n rfl (cn rfl) rfl ?_
                                  refine s_iastore rfl (cn rfl) _ rfl c63 (by omega) (by decide) ?_
                                  refine s_aload_n rfl (cn rfl) rfl ?_
                                  refine s_getfield rfl (cn rfl) c58 rfl ?_
                                  refine s_aload_n rfl (cn rfl) rfl ?_
                                  refine s_getfield rfl (cn rfl) c58 rfl ?_
                                  refine s_iload_n rfl (cn rfl) rfl ?_
                                  refine s_iastore rfl (cn rfl) _ rfl c64 (by omega) (by decide) ?_
                                  refine s_aload_n rfl (cn rfl) rfl ?_
                                  refine s_dupr rfl (cn rfl) ?_
                                  refine s_getfield rfl (cn rfl) c58 rfl ?_
                                  refine s_iconst rfl (cn rfl) ?_
                                  refine s_iadd rfl (cn rfl) ?_
                                  refine s_puti rfl (cn rfl) rfl c58 rfl ?_
                                  refine s_return rfl ?_
                                  first
                                    | (refine ⟨rfl, Or.inl ⟨q14, (kd ta p (plN ta tl p), x14, 0), ?_, by omega, by omega, ⟨⟨by show 0 ≤ kd ta p (plN ta tl p); omega, by show kd ta p (plN ta tl p) ≤ 5; omega⟩, (by show -999 ≤ x14 ∧ x14 ≤ (999 : Int); omega), (by show -999 ≤ 0 ∧ 0 ≤ (999 : Int); omega)⟩, _, rfl, fr_s (by decide) (fr_s (by decide) (fr_s (by decide) (fr_s (by decide) hF))), rr_set_eq, rfl, rfl, rfl⟩⟩
                                       unfold rD
                                       rw [if_neg ek]
                                       rw [show kd ta p (plN ta tl p) = 0 by omega, rA_0, s1]; rfl
                                       done)
                                    | (refine ⟨rfl, Or.inl ⟨q26, (kd ta p (plN ta tl p), x23, x26), ?_, by omega, by omega, ⟨⟨by show 0 ≤ kd ta p (plN ta tl p); omega, by show kd ta p (plN ta tl p) ≤ 5; omega⟩, (by show -999 ≤ x23 ∧ x23 ≤ (999 : Int); omega), (by show -999 ≤ x26 ∧ x26 ≤ (999 : Int); omega)⟩, _, rfl, fr_s (by decide) (fr_s (by decide) (fr_s (by decide) (fr_s (by decide) hF))), rr_set_eq, rfl, rfl, rfl⟩⟩
                                       unfold rD
                                       rw [if_neg ek]
                                       rw [rA_12 (by omega), s1]; show sb (sb (sb (rB ta tl q23) (rN ta tl)) _) _ = _; rw [s2]; rfl
                                       done)
                                    | (refine ⟨rfl, Or.inl ⟨q35, (kd ta p (plN ta tl p), x32, x35), ?_, by omega, by omega, ⟨⟨by show 0 ≤ kd ta p (plN ta tl p); omega, by show kd ta p (plN ta tl p) ≤ 5; omega⟩, (by show -999 ≤ x32 ∧ x32 ≤ (999 : Int); omega), (by show -999 ≤ x35 ∧ x35 ≤ (999 : Int); omega)⟩, _, rfl, fr_s (by decide) (fr_s (by decide) (fr_s (by decide) (fr_s (by decide) hF))), rr_set_eq, rfl, rfl, rfl⟩⟩
                                       unfold rD
                                       rw [if_neg ek]
                                       rw [show kd ta p (plN ta tl p) = 5 by omega, rA_5, s1]; show sb (sb (sb (rB ta tl q32) (rP ta tl)) _) _ = _; rw [s2]; rfl
                                       done)
                                    | (refine ⟨rfl, Or.inl ⟨(plN ta tl p), (kd ta p (plN ta tl p), 0, 0), ?_, by omega, by omega, ⟨⟨by show 0 ≤ kd ta p (plN ta tl p); omega, by show kd ta p (plN ta tl p) ≤ 5; omega⟩, (by show -999 ≤ 0 ∧ 0 ≤ (999 : Int); omega), (by show -999 ≤ 0 ∧ 0 ≤ (999 : Int); omega)⟩, _, rfl, fr_s (by decide) (fr_s (by decide) (fr_s (by decide) (fr_s (by decide) hF))), rr_set_eq, rfl, rfl, rfl⟩⟩
                                       unfold rD
                                       rw [if_neg ek]
                                       rw [rA_3 (by omega)]; rfl
                                       done)
                                    | (have eD : rD ta tl p = .inl f14 := by
                                         unfold rD
                                         rw [if_neg ek]
                                         rw [show kd ta p (plN ta tl p) = 0 by omega, rA_0, ef]; rfl
                                       refine ⟨rfl, Or.inr ⟨_, eD, rD_l hp eD, _, _, _, _, _, _, rfl, fr_s (by decide) (fr_s (by decide) (fr_s (by decide) (fr_s (by decide) hF))), rr_set_eq, rfl, rfl, rfl⟩⟩
                                       done)
                                    | (have eD : rD ta tl p = .inl f26 := by
                                         unfold rD
                                         rw [if_neg ek]
                                         rw [rA_12 (by omega), s1]; show sb (sb (sb (rB ta tl q23) (rN ta tl)) _) _ = _; rw [ef]; rfl
                                       refine ⟨rfl, Or.inr ⟨_, eD, rD_l hp eD, _, _, _, _, _, _, rfl, fr_s (by decide) (fr_s (by decide) (fr_s (by decide) (fr_s (by decide) hF))), rr_set_eq, rfl, rfl, rfl⟩⟩
                                       done)
                                    | (have eD : rD ta tl p = .inl f23 := by
                                         unfold rD
                                         rw [if_neg ek]
                                         rw [rA_12 (by omega), ef]; rfl
                                       refine ⟨rfl, Or.inr ⟨_, eD, rD_l hp eD, _, _, _, _, _, _, rfl, fr_s (by decide) (fr_s (by decide) (fr_s (by decide) (fr_s (by decide) hF))), rr_set_eq, rfl, rfl, rfl⟩⟩
                                       done)
                                    | (have eD : rD ta tl p = .inl f35 := by
                                         unfold rD
                                         rw [if_neg ek]
                                         rw [show kd ta p (plN ta tl p) = 5 by omega, rA_5, s1]; show sb (sb (sb (rB ta tl q32) (rP ta tl)) _) _ = _; rw [ef]; rfl
                                       refine ⟨rfl, Or.inr ⟨_, eD, rD_l hp eD, _, _, _, _, _, _, rfl, fr_s (by decide) (fr_s (by decide) (fr_s (by decide) (fr_s (by decide) hF))), rr_set_eq, rfl, rfl, rfl⟩⟩
                                       done)
                                    | (have eD : rD ta tl p = .inl f32 := by
                                         unfold rD
                                         rw [if_neg ek]
                                         rw [show kd ta p (plN ta tl p) = 5 by omega, rA_5, ef]; rfl
                                       refine ⟨rfl, Or.inr ⟨_, eD, rD_l hp eD, _, _, _, _, _, _, rfl, fr_s (by decide) (fr_s (by decide) (fr_s (by decide) (fr_s (by decide) hF))), rr_set_eq, rfl, rfl, rfl⟩⟩
                                       done)
                                · have c61 := (hf35 61 (by decide)).trans c61
                                  have c62 := (hf35 62 (by decide)).trans c62
                                  have c63 := (hf35 63 (by decide)).trans c63
                                  have c64 := (hf35 64 (by decide)).trans c64
                                  have hF := fr_t hF hf35 (by decide)
                                  refine s_istore_n rfl (cn rfl) ?_
                                  refine s_aload_n rfl (cn rfl) rfl ?_
                                  refine s_getfield rfl (cn rfl) c58 rfl ?_
                                  refine s_aload_n rfl (cn rfl) rfl ?_
                                  refine s_getfield rfl (cn rfl) c58 rfl ?_
                                  refine s_iload_n rfl (cn rfl) rfl ?_
                                  refine s_iastore rfl (cn rfl) _ rfl c62 (by omega) (by decide) ?_
                                  refine s_aload_n rfl (cn rfl) rfl ?_
                                  refine s_getfield rfl (cn rfl) c58 rfl ?_
                                  refine s_aload_n rfl (cn rfl) rfl ?_
                                  refine s_getfield rfl (cn rfl) c58 rfl ?_
                                  refine s_iload_n rfl (cn rfl) rfl ?_
                                  refine s_iastore rfl (cn rfl) _ rfl c63 (by omega) (by decide) ?_
                                  refine s_aload_n rfl (cn rfl) rfl ?_
                                  refine s_getfield rfl (cn rfl) c58 rfl ?_
                                  refine s_aload_n rfl (cn rfl) rfl ?_
                                  refine s_getfield rfl (cn rfl) c58 rfl ?_
                                  refine s_iload_n rfl (cn rfl) rfl ?_
                                  refine s_iastore rfl (cn rfl) _ rfl c64 (by omega) (by decide) ?_
                                  refine s_aload_n rfl (cn rfl) rfl ?_
                                  refine s_dupr rfl (cn rfl) ?_
                                  refine s_getfield rfl (cn rfl) c58 rfl ?_
                                  refine s_iconst rfl (cn rfl) ?_
                                  refine s_iadd rfl (cn rfl) ?_
                                  refine s_puti rfl (cn rfl) rfl c58 rfl ?_
                                  refine s_return rfl ?_
                                  first
                                    | (refine ⟨rfl, Or.inl ⟨q14, (kd ta p (plN ta tl p), x14, 0), ?_, by omega, by omega, ⟨⟨by show 0 ≤ kd ta p (plN ta tl p); omega, by show kd ta p (plN ta tl p) ≤ 5; omega⟩, (by show -999 ≤ x14 ∧ x14 ≤ (999 : Int); omega), (by show -999 ≤ 0 ∧ 0 ≤ (999 : Int); omega)⟩, _, rfl, fr_s (by decide) (fr_s (by decide) (fr_s (by decide) (fr_s (by decide) hF))), rr_set_eq, rfl, rfl, rfl⟩⟩
                                       unfold rD
                                       rw [if_neg ek]
                                       rw [show kd ta p (plN ta tl p) = 0 by omega, rA_0, s1]; rfl
                                       done)
                                    | (refine ⟨rfl, Or.inl ⟨q26, (kd ta p (plN ta tl p), x23, x26), ?_, by omega, by omega, ⟨⟨by show 0 ≤ kd ta p (plN ta tl p); omega, by show kd ta p (plN ta tl p) ≤ 5; omega⟩, (by show -999 ≤ x23 ∧ x23 ≤ (999 : Int); omega), (by show -999 ≤ x26 ∧ x26 ≤ (999 : Int); omega)⟩, _, rfl, fr_s (by decide) (fr_s (by decide) (fr_s (by decide) (fr_s (by decide) hF))), rr_set_eq, rfl, rfl, rfl⟩⟩
                                       unfold rD
                                       rw [if_neg ek]
                                       rw [rA_12 (by omega), s1]; show sb (sb (sb (rB ta tl q23) (rN ta tl)) _) _ = _; rw [s2]; rfl
                                       done)
                                    | (refine ⟨rfl, Or.inl ⟨q35, (kd ta p (plN ta tl p), x32, x35), ?_, by omega, by omega, ⟨⟨by show 0 ≤ kd ta p (plN ta tl p); omega, by show kd ta p (plN ta tl p) ≤ 5; omega⟩, (by show -999 ≤ x32 ∧ x32 ≤ (999 : Int); omega), (by show -999 ≤ x35 ∧ x35 ≤ (999 : Int); omega)⟩, _, rfl, fr_s (by decide) (fr_s (by decide) (fr_s (by decide) (fr_s (by decide) hF))), rr_set_eq, rfl, rfl, rfl⟩⟩
                                       unfold rD
                                       rw [if_neg ek]
                                       rw [show kd ta p (plN ta tl p) = 5 by omega, rA_5, s1]; show sb (sb (sb (rB ta tl q32) (rP ta tl)) _) _ = _; rw [s2]; rfl
                                       done)
                                    | (refine ⟨rfl, Or.inl ⟨(plN ta tl p), (kd ta p (plN ta tl p), 0, 0), ?_, by omega, by omega, ⟨⟨by show 0 ≤ kd ta p (plN ta tl p); omega, by show kd ta p (plN ta tl p) ≤ 5; omega⟩, (by show -999 ≤ 0 ∧ 0 ≤ (999 : Int); omega), (by show -999 ≤ 0 ∧ 0 ≤ (999 : Int); omega)⟩, _, rfl, fr_s (by decide) (fr_s (by decide) (fr_s (by decide) (fr_s (by decide) hF))), rr_set_eq, rfl, rfl, rfl⟩⟩
                                       unfold rD
                                       rw [if_neg ek]
                                       rw [rA_3 (by omega)]; rfl
                                       done)
                                    | (have eD : rD ta tl p = .inl f14 := by
                                         unfold rD
                                         rw [if_neg ek]
                                         rw [show kd ta p (plN ta tl p) = 0 by omega, rA_0, ef]; rfl
                                       refine ⟨rfl, Or.inr ⟨_, eD, rD_l hp eD, _, _, _, _, _, _, rfl, fr_s (by decide) (fr_s (by decide) (fr_s (by decide) (fr_s (by decide) hF))), rr_set_eq, rfl, rfl, rfl⟩⟩
                                       done)
                                    | (have eD : rD ta tl p = .inl f26 := by
                                         unfold rD
                                         rw [if_neg ek]
                                         rw [rA_12 (by omega), s1]; show sb (sb (sb (rB ta tl q23) (rN ta tl)) _) _ = _; rw [ef]; rfl
                                       refine ⟨rfl, Or.inr ⟨_, eD, rD_l hp eD, _, _, _, _, _, _, rfl, fr_s (by decide) (fr_s (by decide) (fr_s (by decide) (fr_s (by decide) hF))), rr_set_eq, rfl, rfl, rfl⟩⟩
                                       done)
                                    | (have eD : rD ta tl p = .inl f23 := by
                                         unfold rD
                                         rw [if_neg ek]
                                         rw [rA_12 (by omega), ef]; rfl
                                       refine ⟨rfl, Or.inr ⟨_, eD, rD_l hp eD, _, _, _, _, _, _, rfl, fr_s (by decide) (fr_s (by decide) (fr_s (by decide) (fr_s (by decide) hF))), rr_set_eq, rfl, rfl, rfl⟩⟩
                                       done)
                                    | (have eD : rD ta tl p = .inl f35 := by
                                         unfold rD
                                         rw [if_neg ek]
                                         rw [show kd ta p (plN ta tl p) = 5 by omega, rA_5, s1]; show sb (sb (sb (rB ta tl q32) (rP ta tl)) _) _ = _; rw [ef]; rfl
                                       refine ⟨rfl, Or.inr ⟨_, eD, rD_l hp eD, _, _, _, _, _, _, rfl, fr_s (by decide) (fr_s (by decide) (fr_s (by decide) (fr_s (by decide) hF))), rr_set_eq, rfl, rfl, rfl⟩⟩
                                       done)
                                    | (have eD : rD ta tl p = .inl f32 := by
                                         unfold rD
                                         rw [if_neg ek]
                                         rw [show kd ta p (plN ta tl p) = 5 by omega, rA_5, ef]; rfl
                                       refine ⟨rfl, Or.inr ⟨_, eD, rD_l hp eD, _, _, _, _, _, _, rfl, fr_s (by decide) (fr_s (by decide) (fr_s (by decide) (fr_s (by decide) hF))), rr_set_eq, rfl, rfl, rfl⟩⟩
                                       done)
                              · have c61 := (hf32 61 (by decide)).trans c61
                                have c62 := (hf32 62 (by decide)).trans c62
                                have c63 := (hf32 63 (by decide)).trans c63
                                have c64 := (hf32 64 (by decide)).trans c64
                                have hF := fr_t hF hf32 (by decide)
                                refine s_istore_n rfl (cn rfl) ?_
                                refine s_aload_n rfl (cn rfl) rfl ?_
                                refine s_virt rfl (cn rfl) rfl rfl c58 rfl (m_person1 c58) ?_
                                rintro _ _ ⟨rfl, rfl⟩
                                · refine s_istore_n rfl (cn rfl) ?_
                                  refine s_aload_n rfl (cn rfl) rfl ?_
                                  refine s_getfield rfl (cn rfl) c58 rfl ?_
                                  refine s_aload_n rfl (cn rfl) rfl ?_
                                  refine s_getfield rfl (cn rfl) c58 rfl ?_
                                  refine s_iload_n rfl (cn rfl) rfl ?_
                                  refine s_iastore rfl (cn rfl) _ rfl c62 (by omega) (by decide) ?_
                                  refine s_aload_n rfl (cn rfl) rfl ?_
                                  refine s_getfield rfl (cn rfl) c58 rfl ?_
                                  refine s_aload_n rfl (cn rfl) rfl ?_
                                  refine s_getfield rfl (cn rfl) c58 rfl ?_
                                  refine s_iload_n rfl (cn rfl) rfl ?_
                                  refine s_iastore rfl (cn rfl) _ rfl c63 (by omega) (by decide) ?_
                                  refine s_aload_n rfl (cn rfl) rfl ?_
                                  refine s_getfield rfl (cn rfl) c58 rfl ?_
                                  refine s_aload_n rfl (cn rfl) rfl ?_
                                  refine s_getfield rfl (cn rfl) c58 rfl ?_
                                  refine s_iload_n rfl (cn rfl) rfl ?_
                                  refine s_iastore rfl (cn rfl) _ rfl c64 (by omega) (by decide) ?_
                                  refine s_aload_n rfl (cn rfl) rfl ?_
                                  refine s_dupr rfl (cn rfl) ?_
                                  refine s_getfield rfl (cn rfl) c58 rfl ?_
                                  refine s_iconst rfl (cn rfl) ?_
                                  refine s_iadd rfl (cn rfl) ?_
                                  refine s_puti rfl (cn rfl) rfl c58 rfl ?_
                                  refine s_return rfl ?_
                                  first
                                    | (refine ⟨rfl, Or.inl ⟨q14, (kd ta p (plN ta tl p), x14, 0), ?_, by omega, by omega, ⟨⟨by show 0 ≤ kd ta p (plN ta tl p); omega, by show kd ta p (plN ta tl p) ≤ 5; omega⟩, (by show -999 ≤ x14 ∧ x14 ≤ (999 : Int); omega), (by show -999 ≤ 0 ∧ 0 ≤ (999 : Int); omega)⟩, _, rfl, fr_s (by decide) (fr_s (by decide) (fr_s (by decide) (fr_s (by decide) hF))), rr_set_eq, rfl, rfl, rfl⟩⟩
                                       unfold rD
                                       rw [if_neg ek]
                                       rw [show kd ta p (plN ta tl p) = 0 by omega, rA_0, s1]; rfl
                                       done)
                                    | (refine ⟨rfl, Or.inl ⟨q26, (kd ta p (plN ta tl p), x23, x26), ?_, by omega, by omega, ⟨⟨by show 0 ≤ kd ta p (plN ta tl p); omega, by show kd ta p (plN ta tl p) ≤ 5; omega⟩, (by show -999 ≤ x23 ∧ x23 ≤ (999 : Int); omega), (by show -999 ≤ x26 ∧ x26 ≤ (999 : Int); omega)⟩, _, rfl, fr_s (by decide) (fr_s (by decide) (fr_s (by decide) (fr_s (by decide) hF))), rr_set_eq, rfl, rfl, rfl⟩⟩
                                       unfold rD
                                       rw [if_neg ek]
                                       rw [rA_12 (by omega), s1]; show sb (sb (sb (rB ta tl q23) (rN ta tl)) _) _ = _; rw [s2]; rfl
                                       done)
                                    | (refine ⟨rfl, Or.inl ⟨q35, (kd ta p (plN ta tl p), x32, x35), ?_, by omega, by omega, ⟨⟨by show 0 ≤ kd ta p (plN ta tl p); omega, by show kd ta p (plN ta tl p) ≤ 5; omega⟩, (by show -999 ≤ x32 ∧ x32 ≤ (999 : Int); omega), (by show -999 ≤ x35 ∧ x35 ≤ (999 : Int); omega)⟩, _, rfl, fr_s (by decide) (fr_s (by decide) (fr_s (by decide) (fr_s (by decide) hF))), rr_set_eq, rfl, rfl, rfl⟩⟩
                                       unfold rD
                                       rw [if_neg ek]
                                       rw [show kd ta p (plN ta tl p) = 5 by omega, rA_5, s1]; show sb (sb (sb (rB ta tl q32) (rP ta tl)) _) _ = _; rw [s2]; rfl
                                       done)
                                    | (refine ⟨rfl, Or.inl ⟨(plN ta tl p), (kd ta p (plN ta tl p), 0, 0), ?_, by omega, by omega, ⟨⟨by show 0 ≤ kd ta p (plN ta tl p); omega, by show kd ta p (plN ta tl p) ≤ 5; omega⟩, (by show -999 ≤ 0 ∧ 0 ≤ (999 : Int); omega), (by show -999 ≤ 0 ∧ 0 ≤ (999 : Int); omega)⟩, _, rfl, fr_s (by decide) (fr_s (by decide) (fr_s (by decide) (fr_s (by decide) hF))), rr_set_eq, rfl, rfl, rfl⟩⟩
                                       unfold rD
                                       rw [if_neg ek]
                                       rw [rA_3 (by omega)]; rfl
                                       done)
                                    | (have eD : rD ta tl p = .inl f14 := by
                                         unfold rD
                                         rw [if_neg ek]
                                         rw [show kd ta p (plN ta tl p) = 0 by omega, rA_0, ef]; rfl
                                       refine ⟨rfl, Or.inr ⟨_, eD, rD_l hp eD, _, _, _, _, _, _, rfl, fr_s (by decide) (fr_s (by decide) (fr_s (by decide) (fr_s (by decide) hF))), rr_set_eq, rfl, rfl, rfl⟩⟩
                                       done)
                                    | (have eD : rD ta tl p = .inl f26 := by
                                         unfold rD
                                         rw [if_neg ek]
                                         rw [rA_12 (by omega), s1]; show sb (sb (sb (rB ta tl q23) (rN ta tl)) _) _ = _; rw [ef]; rfl
                                       refine ⟨rfl, Or.inr ⟨_, eD, rD_l hp eD, _, _, _, _, _, _, rfl, fr_s (by decide) (fr_s (by decide) (fr_s (by decide) (fr_s (by decide) hF))), rr_set_eq, rfl, rfl, rfl⟩⟩
                                       done)
                                    | (have eD : rD ta tl p = .inl f23 := by
                                         unfold rD
                                         rw [if_neg ek]
                                         rw [rA_12 (by omega), ef]; rfl
                                       refine ⟨rfl, Or.inr ⟨_, eD, rD_l hp eD, _, _, _, _, _, _, rfl, fr_s (by decide) (fr_s (by decide) (fr_s (by decide) (fr_s (by decide) hF))), rr_set_eq, rfl, rfl, rfl⟩⟩
                                       done)
                                    | (have eD : rD ta tl p = .inl f35 := by
                                         unfold rD
                                         rw [if_neg ek]
                                         rw [show kd ta p (plN ta tl p) = 5 by omega, rA_5, s1]; show sb (sb (sb (rB ta tl q32) (rP ta tl)) _) _ = _; rw [ef]; rfl
                                       refine ⟨rfl, Or.inr ⟨_, eD, rD_l hp eD, _, _, _, _, _, _, rfl, fr_s (by decide) (fr_s (by decide) (fr_s (by decide) (fr_s (by decide) hF))), rr_set_eq, rfl, rfl, rfl⟩⟩
                                       done)
                                    | (have eD : rD ta tl p = .inl f32 := by
                                         unfold rD
                                         rw [if_neg ek]
                                         rw [show kd ta p (plN ta tl p) = 5 by omega, rA_5, ef]; rfl
                                       refine ⟨rfl, Or.inr ⟨_, eD, rD_l hp eD, _, _, _, _, _, _, rfl, fr_s (by decide) (fr_s (by decide) (fr_s (by decide) (fr_s (by decide) hF))), rr_set_eq, rfl, rfl, rfl⟩⟩
                                       done)
                        · have c61 := (hf26 61 (by decide)).trans c61
                          have c62 := (hf26 62 (by decide)).trans c62
                          have c63 := (hf26 63 (by decide)).trans c63
                          have c64 := (hf26 64 (by decide)).trans c64
                          have hF := fr_t hF hf26 (by decide)
                          refine s_istore_n rfl (cn rfl) ?_
                          refine s_iload_n rfl (cn rfl) rfl ?_
                          refine s_iconst rfl (cn rfl) ?_
                          refine s_icmp_ne rfl (cn rfl) (cn rfl) ⟨by omega, by omega⟩ ⟨by omega, by omega⟩ (fun q30 => ?_) (fun q30 => ?_)
                          · first
                            | (exfalso; omega)
                            | skip
                              refine s_aload_n rfl (cn rfl) rfl ?_
                              refine s_getfield rfl (cn rfl) c58 rfl ?_
                              refine s_aload_n rfl (cn rfl) rfl ?_
                              refine s_getfield rfl (cn rfl) c58 rfl ?_
                              refine s_iload_n rfl (cn rfl) rfl ?_
                              refine s_iastore rfl (cn rfl) _ rfl c62 (by omega) (by decide) ?_
                              refine s_aload_n rfl (cn rfl) rfl ?_
                              refine s_getfield rfl (cn rfl) c58 rfl ?_
                              refine s_aload_n rfl (cn rfl) rfl ?_
                              refine s_getfield rfl (cn rfl) c58 rfl ?_
                              refine s_iload_n rfl (cn rfl) rfl ?_
                              refine s_iastore rfl (cn rfl) _ rfl c63 (by omega) (by decide) ?_
                              refine s_aload_n rfl (cn rfl) rfl ?_
                              refine s_getfield rfl (cn rfl) c58 rfl ?_
                              refine s_aload_n rfl (cn rfl) rfl ?_
                              refine s_getfield rfl (cn rfl) c58 rfl ?_
                              refine s_iload_n rfl (cn rfl) rfl ?_
                              refine s_iastore rfl (cn rfl) _ rfl c64 (by omega) (by decide) ?_
                              refine s_aload_n rfl (cn rfl) rfl ?_
                              refine s_dupr rfl (cn rfl) ?_
                              refine s_getfield rfl (cn rfl) c58 rfl ?_
                              refine s_iconst rfl (cn rfl) ?_
                              refine s_iadd rfl (cn rfl) ?_
                              refine s_puti rfl (cn rfl) rfl c58 rfl ?_
                              refine s_return rfl ?_
                              first
                                | (refine ⟨rfl, Or.inl ⟨q14, (kd ta p (plN ta tl p), x14, 0), ?_, by omega, by omega, ⟨⟨by show 0 ≤ kd ta p (plN ta tl p); omega, by show kd ta p (plN ta tl p) ≤ 5; omega⟩, (by show -999 ≤ x14 ∧ x14 ≤ (999 : Int); omega), (by show -999 ≤ 0 ∧ 0 ≤ (999 : Int); omega)⟩, _, rfl, fr_s (by decide) (fr_s (by decide) (fr_s (by decide) (fr_s (by decide) hF))), rr_set_eq, rfl, rfl, rfl⟩⟩
                                   unfold rD
                                   rw [if_neg ek]
                                   rw [show kd ta p (plN ta tl p) = 0 by omega, rA_0, s1]; rfl
                                   done)
                                | (refine ⟨rfl, Or.inl ⟨q26, (kd ta p (plN ta tl p), x23, x26), ?_, by omega, by omega, ⟨⟨by show 0 ≤ kd ta p (plN ta tl p); omega, by show kd ta p (plN ta tl p) ≤ 5; omega⟩, (by show -999 ≤ x23 ∧ x23 ≤ (999 : Int); omega), (by show -999 ≤ x26 ∧ x26 ≤ (999 : Int); omega)⟩, _, rfl, fr_s (by decide) (fr_s (by decide) (fr_s (by decide) (fr_s (by decide) hF))), rr_set_eq, rfl, rfl, rfl⟩⟩
                                   unfold rD
                                   rw [if_neg ek]
                                   rw [rA_12 (by omega), s1]; show sb (sb (sb (rB ta tl q23) (rN ta tl)) _) _ = _; rw [s2]; rfl
                                   done)
                                | (refine ⟨rfl, Or.inl ⟨q35, (kd ta p (plN ta tl p), x32, x35), ?_, by omega, by omega, ⟨⟨by show 0 ≤ kd ta p (plN ta tl p); omega, by show kd ta p (plN ta tl p) ≤ 5; omega⟩, (by show -999 ≤ x32 ∧ x32 ≤ (999 : Int); omega), (by show -999 ≤ x35 ∧ x35 ≤ (999 : Int); omega)⟩, _, rfl, fr_s (by decide) (fr_s (by decide) (fr_s (by decide) (fr_s (by decide) hF))), rr_set_eq, rfl, rfl, rfl⟩⟩
                                   unfold rD
                                   rw [if_neg ek]
                                   rw [show kd ta p (plN ta tl p) = 5 by omega, rA_5, s1]; show sb (sb (sb (rB ta tl q32) (rP ta tl)) _) _ = _; rw [s2]; rfl
                                   done)
                                | (refine ⟨rfl, Or.inl ⟨(plN ta tl p), (kd ta p (plN ta tl p), 0, 0), ?_, by omega, by omega, ⟨⟨by show 0 ≤ kd ta p (plN ta tl p); omega, by show kd ta p (plN ta tl p) ≤ 5; omega⟩, (by show -999 ≤ 0 ∧ 0 ≤ (999 : Int); omega), (by show -999 ≤ 0 ∧ 0 ≤ (999 : Int); omega)⟩, _, rfl, fr_s (by decide) (fr_s (by decide) (fr_s (by decide) (fr_s (by decide) hF))), rr_set_eq, rfl, rfl, rfl⟩⟩
                                   unfold rD
                                   rw [if_neg ek]
                                   rw [rA_3 (by omega)]; rfl
                                   done)
                                | (have eD : rD ta tl p = .inl f14 := by
                                     unfold rD
                                     rw [if_neg ek]
                                     rw [show kd ta p (plN ta tl p) = 0 by omega, rA_0, ef]; rfl
                                   refine ⟨rfl, Or.inr ⟨_, eD, rD_l hp eD, _, _, _, _, _, _, rfl, fr_s (by decide) (fr_s (by decide) (fr_s (by decide) (fr_s (by decide) hF))), rr_set_eq, rfl, rfl, rfl⟩⟩
                                   done)
                                | (have eD : rD ta tl p = .inl f26 := by
                                     unfold rD
                                     rw [if_neg ek]
                                     rw [rA_12 (by omega), s1]; show sb (sb (sb (rB ta tl q23) (rN ta tl)) _) _ = _; rw [ef]; rfl
                                   refine ⟨rfl, Or.inr ⟨_, eD, rD_l hp eD, _, _, _, _, _, _, rfl, fr_s (by decide) (fr_s (by decide) (fr_s (by decide) (fr_s (by decide) hF))), rr_set_eq, rfl, rfl, rfl⟩⟩
                                   done)
                                | (have eD : rD ta tl p = .inl f23 := by
                                     unfold rD
                                     rw [if_neg ek]
                                     rw [rA_12 (by omega), ef]; rfl
                                   refine ⟨rfl, Or.inr ⟨_, eD, rD_l hp eD, _, _, _, _, _, _, rfl, fr_s (by decide) (fr_s (by decide) (fr_s (by decide) (fr_s (by decide) hF))), rr_set_eq, rfl, rfl, rfl⟩⟩
                                   done)
                                | (have eD : rD ta tl p = .inl f35 := by
                                     unfold rD
                                     rw [if_neg ek]
                                     rw [show kd ta p (plN ta tl p) = 5 by omega, rA_5, s1]; show sb (sb (sb (rB ta tl q32) (rP ta tl)) _) _ = _; rw [ef]; rfl
                                   refine ⟨rfl, Or.inr ⟨_, eD, rD_l hp eD, _, _, _, _, _, _, rfl, fr_s (by decide) (fr_s (by decide) (fr_s (by decide) (fr_s (by decide) hF))), rr_set_eq, rfl, rfl, rfl⟩⟩
                                   done)
                                | (have eD : rD ta tl p = .inl f32 := by
                                     unfold rD
                                     rw [if_neg ek]
                                     rw [show kd ta p (plN ta tl p) = 5 by omega, rA_5, ef]; rfl
                                   refine ⟨rfl, Or.inr ⟨_, eD, rD_l hp eD, _, _, _, _, _, _, rfl, fr_s (by decide) (fr_s (by decide) (fr_s (by decide) (fr_s (by decide) hF))), rr_set_eq, rfl, rfl, rfl⟩⟩
                                   done)
                          · first
                            | (exfalso; omega)
                            | skip
                              refine s_aload_n rfl (cn rfl) rfl ?_
                              refine s_virt rfl (cn rfl) rfl rfl c58 rfl (m_person1 c58) ?_
                              rintro _ _ ⟨rfl, rfl⟩
                              · refine s_istore_n rfl (cn rfl) ?_
                                refine s_aload_n rfl (cn rfl) rfl ?_
                                refine s_virt rfl (cn rfl) rfl rfl c58 rfl (m_person1 c58) ?_
                                rintro _ _ ⟨rfl, rfl⟩
                                · refine s_istore_n rfl (cn rfl) ?_
                                  refine s_aload_n rfl (cn rfl) rfl ?_
                                  refine s_getfield rfl (cn rfl) c58 rfl ?_
                                  refine s_aload_n rfl (cn rfl) rfl ?_
                                  refine s_getfield rfl (cn rfl) c58 rfl ?_
                                  refine s_iload_n rfl (cn rfl) rfl ?_
                                  refine s_iastore rfl (cn rfl) _ rfl c62 (by omega) (by decide) ?_
                                  refine s_aload_n rfl (cn rfl) rfl ?_
                                  refine s_getfield rfl (cn rfl) c58 rfl ?_
                                  refine s_aload_n rfl (cn rfl) rfl ?_
                                  refine s_getfield rfl (cn rfl) c58 rfl ?_
                                  refine s_iload_n rfl (cn rfl) rfl ?_
                                  refine s_iastore rfl (cn rfl) _ rfl c63 (by omega) (by decide) ?_
                                  refine s_aload_n rfl (cn rfl) rfl ?_
                                  refine s_getfield rfl (cn rfl) c58 rfl ?_
                                  refine s_aload_n rfl (cn rfl) rfl ?_
                                  refine s_getfield rfl (cn rfl) c58 rfl ?_
                                  refine s_iload_n rfl (cn rfl) rfl ?_
                                  refine s_iastore rfl (cn rfl) _ rfl c64 (by omega) (by decide) ?_
                                  refine s_aload_n rfl (cn rfl) rfl ?_
                                  refine s_dupr rfl (cn rfl) ?_
                                  refine s_getfield rfl (cn rfl) c58 rfl ?_
                                  refine s_iconst rfl (cn rfl) ?_
                                  refine s_iadd rfl (cn rfl) ?_
                                  refine s_puti rfl (cn rfl) rfl c58 rfl ?_
                                  refine s_return rfl ?_
                                  first
                                    | (refine ⟨rfl, Or.inl ⟨q14, (kd ta p (plN ta tl p), x14, 0), ?_, by omega, by omega, ⟨⟨by show 0 ≤ kd ta p (plN ta tl p); omega, by show kd ta p (plN ta tl p) ≤ 5; omega⟩, (by show -999 ≤ x14 ∧ x14 ≤ (999 : Int); omega), (by show -999 ≤ 0 ∧ 0 ≤ (999 : Int); omega)⟩, _, rfl, fr_s (by decide) (fr_s (by decide) (fr_s (by decide) (fr_s (by decide) hF))), rr_set_eq, rfl, rfl, rfl⟩⟩
                                       unfold rD
                                       rw [if_neg ek]
                                       rw [show kd ta p (plN ta tl p) = 0 by omega, rA_0, s1]; rfl
                                       done)
                                    | (refine ⟨rfl, Or.inl ⟨q26, (kd ta p (plN ta tl p), x23, x26), ?_, by omega, by omega, ⟨⟨by show 0 ≤ kd ta p (plN ta tl p); omega, by show kd ta p (plN ta tl p) ≤ 5; omega⟩, (by show -999 ≤ x23 ∧ x23 ≤ (999 : Int); omega), (by show -999 ≤ x26 ∧ x26 ≤ (999 : Int); omega)⟩, _, rfl, fr_s (by decide) (fr_s (by decide) (fr_s (by decide) (fr_s (by decide) hF))), rr_set_eq, rfl, rfl, rfl⟩⟩
                                       unfold rD
                                       rw [if_neg ek]
                                       rw [rA_12 (by omega), s1]; show sb (sb (sb (rB ta tl q23) (rN ta tl)) _) _ = _; rw [s2]; rfl
                                       done)
                                    | (refine ⟨rfl, Or.inl ⟨q35, (kd ta p (plN ta tl p), x32, x35), ?_, by omega, by omega, ⟨⟨by show 0 ≤ kd ta p (plN ta tl p); omega, by show kd ta p (plN ta tl p) ≤ 5; omega⟩, (by show -999 ≤ x32 ∧ x32 ≤ (999 : Int); omega), (by show -999 ≤ x35 ∧ x35 ≤ (999 : Int); omega)⟩, _, rfl, fr_s (by decide) (fr_s (by decide) (fr_s (by decide) (fr_s (by decide) hF))), rr_set_eq, rfl, rfl, rfl⟩⟩
                                       unfold rD
                                       rw [if_neg ek]
                                       rw [show kd ta p (plN ta tl p) = 5 by omega, rA_5, s1]; show sb (sb (sb (rB ta tl q32) (rP ta tl)) _) _ = _; rw [s2]; rfl
                                       done)
                                    | (refine ⟨rfl, Or.inl ⟨(plN ta tl p), (kd ta p (plN ta tl p), 0, 0), ?_, by omega, by omega, ⟨⟨by show 0 ≤ kd ta p (plN ta tl p); omega, by show kd ta p (plN ta tl p) ≤ 5; omega⟩, (by show -999 ≤ 0 ∧ 0 ≤ (999 : Int); omega), (by show -999 ≤ 0 ∧ 0 ≤ (999 : Int); omega)⟩, _, rfl, fr_s (by decide) (fr_s (by decide) (fr_s (by decide) (fr_s (by decide) hF))), rr_set_eq, rfl, rfl, rfl⟩⟩
                                       unfold rD
                                       rw [if_neg ek]
                                       rw [rA_3 (by omega)]; rfl
                                       done)
                                    | (have eD : rD ta tl p = .inl f14 := by
                                         unfold rD
                                         rw [if_neg ek]
                                         rw [show kd ta p (plN ta tl p) = 0 by omega, rA_0, ef]; rfl
                                       refine ⟨rfl, Or.inr ⟨_, eD, rD_l hp eD, _, _, _, _, _, _, rfl, fr_s (by decide) (fr_s (by decide) (fr_s (by decide) (fr_s (by decide) hF))), rr_set_eq, rfl, rfl, rfl⟩⟩
                                       done)
                                    | (have eD : rD ta tl p = .inl f26 := by
                                         unfold rD
                                         rw [if_neg ek]
                                         rw [rA_12 (by omega), s1]; show sb (sb (sb (rB ta tl q23) (rN ta tl)) _) _ = _; rw [ef]; rfl
                                       refine ⟨rfl, Or.inr ⟨_, eD, rD_l hp eD, _, _, _, _, _, _, rfl, fr_s (by decide) (fr_s (by decide) (fr_s (by decide) (fr_s (by decide) hF))), rr_set_eq, rfl, rfl, rfl⟩⟩
                                       done)
                                    | (have eD : rD ta tl p = .inl f23 := by
                                         unfold rD
                                         rw [if_neg ek]
                                         rw [rA_12 (by omega), ef]; rfl
                                       refine ⟨rfl, Or.inr ⟨_, eD, rD_l hp eD, _, _, _, _, _, _, rfl, fr_s (by decide) (fr_s (by decide) (fr_s (by decide) (fr_s (by decide) hF))), rr_set_eq, rfl, rfl, rfl⟩⟩
                                       done)
                                    | (have eD : rD ta tl p = .inl f35 := by
                                         unfold rD
                                         rw [if_neg ek]
                                         rw [show kd ta p (plN ta tl p) = 5 by omega, rA_5, s1]; show sb (sb (sb (rB ta tl q32) (rP ta tl)) _) _ = _; rw [ef]; rfl
                                       refine ⟨rfl, Or.inr ⟨_, eD, rD_l hp eD, _, _, _, _, _, _, rfl, fr_s (by decide) (fr_s (by decide) (fr_s (by decide) (fr_s (by decide) hF))), rr_set_eq, rfl, rfl, rfl⟩⟩
                                       done)
                                    | (have eD : rD ta tl p = .inl f32 := by
                                         unfold rD
                                         rw [if_neg ek]
                                         rw [show kd ta p (plN ta tl p) = 5 by omega, rA_5, ef]; rfl
                                       refine ⟨rfl, Or.inr ⟨_, eD, rD_l hp eD, _, _, _, _, _, _, rfl, fr_s (by decide) (fr_s (by decide) (fr_s (by decide) (fr_s (by decide) hF))), rr_set_eq, rfl, rfl, rfl⟩⟩
                                       done)
                      · have c61 := (hf23 61 (by decide)).trans c61
                        have c62 := (hf23 62 (by decide)).trans c62
                        have c63 := (hf23 63 (by decide)).trans c63
                        have c64 := (hf23 64 (by decide)).trans c64
                        have hF := fr_t hF hf23 (by decide)
                        refine s_istore_n rfl (cn rfl) ?_
                        refine s_aload_n rfl (cn rfl) rfl ?_
                        refine s_virt rfl (cn rfl) rfl rfl c58 rfl (m_number1 c58) ?_
                        rintro _ _ ⟨rfl, rfl⟩
                        · refine s_istore_n rfl (cn rfl) ?_
                          refine s_iload_n rfl (cn rfl) rfl ?_
                          refine s_iconst rfl (cn rfl) ?_
                          refine s_icmp_ne rfl (cn rfl) (cn rfl) ⟨by omega, by omega⟩ ⟨by omega, by omega⟩ (fun q30 => ?_) (fun q30 => ?_)
                          · first
                            | (exfalso; omega)
                            | skip
                              refine s_aload_n rfl (cn rfl) rfl ?_
                              refine s_getfield rfl (cn rfl) c58 rfl ?_
                              refine s_aload_n rfl (cn rfl) rfl ?_
                              refine s_getfield rfl (cn rfl) c58 rfl ?_
                              refine s_iload_n rfl (cn rfl) rfl ?_
                              refine s_iastore rfl (cn rfl) _ rfl c62 (by omega) (by decide) ?_
                              refine s_aload_n rfl (cn rfl) rfl ?_
                              refine s_getfield rfl (cn rfl) c58 rfl ?_
                              refine s_aload_n rfl (cn rfl) rfl ?_
                              refine s_getfield rfl (cn rfl) c58 rfl ?_
                              refine s_iload_n rfl (cn rfl) rfl ?_
                              refine s_iastore rfl (cn rfl) _ rfl c63 (by omega) (by decide) ?_
                              refine s_aload_n rfl (cn rfl) rfl ?_
                              refine s_getfield rfl (cn rfl) c58 rfl ?_
                              refine s_aload_n rfl (cn rfl) rfl ?_
                              refine s_getfield rfl (cn rfl) c58 rfl ?_
                              refine s_iload_n rfl (cn rfl) rfl ?_
                              refine s_iastore rfl (cn rfl) _ rfl c64 (by omega) (by decide) ?_
                              refine s_aload_n rfl (cn rfl) rfl ?_
                              refine s_dupr rfl (cn rfl) ?_
                              refine s_getfield rfl (cn rfl) c58 rfl ?_
                              refine s_iconst rfl (cn rfl) ?_
                              refine s_iadd rfl (cn rfl) ?_
                              refine s_puti rfl (cn rfl) rfl c58 rfl ?_
                              refine s_return rfl ?_
                              first
                                | (refine ⟨rfl, Or.inl ⟨q14, (kd ta p (plN ta tl p), x14, 0), ?_, by omega, by omega, ⟨⟨by show 0 ≤ kd ta p (plN ta tl p); omega, by show kd ta p (plN ta tl p) ≤ 5; omega⟩, (by show -999 ≤ x14 ∧ x14 ≤ (999 : Int); omega), (by show -999 ≤ 0 ∧ 0 ≤ (999 : Int); omega)⟩, _, rfl, fr_s (by decide) (fr_s (by decide) (fr_s (by decide) (fr_s (by decide) hF))), rr_set_eq, rfl, rfl, rfl⟩⟩
                                   unfold rD
                                   rw [if_neg ek]
                                   rw [show kd ta p (plN ta tl p) = 0 by omega, rA_0, s1]; rfl
                                   done)
                                | (refine ⟨rfl, Or.inl ⟨q26, (kd ta p (plN ta tl p), x23, x26), ?_, by omega, by omega, ⟨⟨by show 0 ≤ kd ta p (plN ta tl p); omega, by show kd ta p (plN ta tl p) ≤ 5; omega⟩, (by show -999 ≤ x23 ∧ x23 ≤ (999 : Int); omega), (by show -999 ≤ x26 ∧ x26 ≤ (999 : Int); omega)⟩, _, rfl, fr_s (by decide) (fr_s (by decide) (fr_s (by decide) (fr_s (by decide) hF))), rr_set_eq, rfl, rfl, rfl⟩⟩
                                   unfold rD
                                   rw [if_neg ek]
                                   rw [rA_12 (by omega), s1]; show sb (sb (sb (rB ta tl q23) (rN ta tl)) _) _ = _; rw [s2]; rfl
                                   done)
                                | (refine ⟨rfl, Or.inl ⟨q35, (kd ta p (plN ta tl p), x32, x35), ?_, by omega, by omega, ⟨⟨by show 0 ≤ kd ta p (plN ta tl p); omega, by show kd ta p (plN ta tl p) ≤ 5; omega⟩, (by show -999 ≤ x32 ∧ x32 ≤ (999 : Int); omega), (by show -999 ≤ x35 ∧ x35 ≤ (999 : Int); omega)⟩, _, rfl, fr_s (by decide) (fr_s (by decide) (fr_s (by decide) (fr_s (by decide) hF))), rr_set_eq, rfl, rfl, rfl⟩⟩
                                   unfold rD
                                   rw [if_neg ek]
                                   rw [show kd ta p (plN ta tl p) = 5 by omega, rA_5, s1]; show sb (sb (sb (rB ta tl q32) (rP ta tl)) _) _ = _; rw [s2]; rfl
                                   done)
                                | (refine ⟨rfl, Or.inl ⟨(plN ta tl p), (kd ta p (plN ta tl p), 0, 0), ?_, by omega, by omega, ⟨⟨by show 0 ≤ kd ta p (plN ta tl p); omega, by show kd ta p (plN ta tl p) ≤ 5; omega⟩, (by show -999 ≤ 0 ∧ 0 ≤ (999 : Int); omega), (by show -999 ≤ 0 ∧ 0 ≤ (999 : Int); omega)⟩, _, rfl, fr_s (by decide) (fr_s (by decide) (fr_s (by decide) (fr_s (by decide) hF))), rr_set_eq, rfl, rfl, rfl⟩⟩
                                   unfold rD
                                   rw [if_neg ek]
                                   rw [rA_3 (by omega)]; rfl
                                   done)
                                | (have eD : rD ta tl p = .inl f14 := by
                                     unfold rD
                                     rw [if_neg ek]
                                     rw [show kd ta p (plN ta tl p) = 0 by omega, rA_0, ef]; rfl
                                   refine ⟨rfl, Or.inr ⟨_, eD, rD_l hp eD, _, _, _, _, _, _, rfl, fr_s (by decide) (fr_s (by decide) (fr_s (by decide) (fr_s (by decide) hF))), rr_set_eq, rfl, rfl, rfl⟩⟩
                                   done)
                                | (have eD : rD ta tl p = .inl f26 := by
                                     unfold rD
                                     rw [if_neg ek]
                                     rw [rA_12 (by omega), s1]; show sb (sb (sb (rB ta tl q23) (rN ta tl)) _) _ = _; rw [ef]; rfl
                                   refine ⟨rfl, Or.inr ⟨_, eD, rD_l hp eD, _, _, _, _, _, _, rfl, fr_s (by decide) (fr_s (by decide) (fr_s (by decide) (fr_s (by decide) hF))), rr_set_eq, rfl, rfl, rfl⟩⟩
                                   done)
                                | (have eD : rD ta tl p = .inl f23 := by
                                     unfold rD
                                     rw [if_neg ek]
                                     rw [rA_12 (by omega), ef]; rfl
                                   refine ⟨rfl, Or.inr ⟨_, eD, rD_l hp eD, _, _, _, _, _, _, rfl, fr_s (by decide) (fr_s (by decide) (fr_s (by decide) (fr_s (by decide) hF))), rr_set_eq, rfl, rfl, rfl⟩⟩
                                   done)
                                | (have eD : rD ta tl p = .inl f35 := by
                                     unfold rD
                                     rw [if_neg ek]
                                     rw [show kd ta p (plN ta tl p) = 5 by omega, rA_5, s1]; show sb (sb (sb (rB ta tl q32) (rP ta tl)) _) _ = _; rw [ef]; rfl
                                   refine ⟨rfl, Or.inr ⟨_, eD, rD_l hp eD, _, _, _, _, _, _, rfl, fr_s (by decide) (fr_s (by decide) (fr_s (by decide) (fr_s (by decide) hF))), rr_set_eq, rfl, rfl, rfl⟩⟩
                                   done)
                                | (have eD : rD ta tl p = .inl f32 := by
                                     unfold rD
                                     rw [if_neg ek]
                                     rw [show kd ta p (plN ta tl p) = 5 by omega, rA_5, ef]; rfl
                                   refine ⟨rfl, Or.inr ⟨_, eD, rD_l hp eD, _, _, _, _, _, _, rfl, fr_s (by decide) (fr_s (by decide) (fr_s (by decide) (fr_s (by decide) hF))), rr_set_eq, rfl, rfl, rfl⟩⟩
                                   done)
                          · first
                            | (exfalso; omega)
                            | skip
                              refine s_aload_n rfl (cn rfl) rfl ?_
                              refine s_virt rfl (cn rfl) rfl rfl c58 rfl (m_person1 c58) ?_
                              rintro _ _ ⟨rfl, rfl⟩
                              · refine s_istore_n rfl (cn rfl) ?_
                                refine s_aload_n rfl (cn rfl) rfl ?_
                                refine s_virt rfl (cn rfl) rfl rfl c58 rfl (m_person1 c58) ?_
                                rintro _ _ ⟨rfl, rfl⟩
                                · refine s_istore_n rfl (cn rfl) ?_
                                  refine s_aload_n rfl (cn rfl) rfl ?_
                                  refine s_getfield rfl (cn rfl) c58 rfl ?_
                                  refine s_aload_n rfl (cn rfl) rfl ?_
                                  refine s_getfield rfl (cn rfl) c58 rfl ?_
                                  refine s_iload_n rfl (cn rfl) rfl ?_
                                  refine s_iastore rfl (cn rfl) _ rfl c62 (by omega) (by decide) ?_
                                  refine s_aload_n rfl (cn rfl) rfl ?_
                                  refine s_getfield rfl (cn rfl) c58 rfl ?_
                                  refine s_aload_n rfl (cn rfl) rfl ?_
                                  refine s_getfield rfl (cn rfl) c58 rfl ?_
                                  refine s_iload_n rfl (cn rfl) rfl ?_
                                  refine s_iastore rfl (cn rfl) _ rfl c63 (by omega) (by decide) ?_
                                  refine s_aload_n rfl (cn rfl) rfl ?_
                                  refine s_getfield rfl (cn rfl) c58 rfl ?_
                                  refine s_aload_n rfl (cn rfl) rfl ?_
                                  refine s_getfield rfl (cn rfl) c58 rfl ?_
                                  refine s_iload_n rfl (cn rfl) rfl ?_
                                  refine s_iastore rfl (cn rfl) _ rfl c64 (by omega) (by decide) ?_
                                  refine s_aload_n rfl (cn rfl) rfl ?_
                                  refine s_dupr rfl (cn rfl) ?_
                                  refine s_getfield rfl (cn rfl) c58 rfl ?_
                                  refine s_iconst rfl (cn rfl) ?_
                                  refine s_iadd rfl (cn rfl) ?_
                                  refine s_puti rfl (cn rfl) rfl c58 rfl ?_
                                  refine s_return rfl ?_
                                  first
                                    | (refine ⟨rfl, Or.inl ⟨q14, (kd ta p (plN ta tl p), x14, 0), ?_, by omega, by omega, ⟨⟨by show 0 ≤ kd ta p (plN ta tl p); omega, by show kd ta p (plN ta tl p) ≤ 5; omega⟩, (by show -999 ≤ x14 ∧ x14 ≤ (999 : Int); omega), (by show -999 ≤ 0 ∧ 0 ≤ (999 : Int); omega)⟩, _, rfl, fr_s (by decide) (fr_s (by decide) (fr_s (by decide) (fr_s (by decide) hF))), rr_set_eq, rfl, rfl, rfl⟩⟩
                                       unfold rD
                                       rw [if_neg ek]
                                       rw [show kd ta p (plN ta tl p) = 0 by omega, rA_0, s1]; rfl
                                       done)
                                    | (refine ⟨rfl, Or.inl ⟨q26, (kd ta p (plN ta tl p), x23, x26), ?_, by omega, by omega, ⟨⟨by show 0 ≤ kd ta p (plN ta tl p); omega, by show kd ta p (plN ta tl p) ≤ 5; omega⟩, (by show -999 ≤ x23 ∧ x23 ≤ (999 : Int); omega), (by show -999 ≤ x26 ∧ x26 ≤ (999 : Int); omega)⟩, _, rfl, fr_s (by decide) (fr_s (by decide) (fr_s (by decide) (fr_s (by decide) hF))), rr_set_eq, rfl, rfl, rfl⟩⟩
                                       unfold rD
                                       rw [if_neg ek]
                                       rw [rA_12 (by omega), s1]; show sb (sb (sb (rB ta tl q23) (rN ta tl)) _) _ = _; rw [s2]; rfl
                                       done)
                                    | (refine ⟨rfl, Or.inl ⟨q35, (kd ta p (plN ta tl p), x32, x35), ?_, by omega, by omega, ⟨⟨by show 0 ≤ kd ta p (plN ta tl p); omega, by show kd ta p (plN ta tl p) ≤ 5; omega⟩, (by show -999 ≤ x32 ∧ x32 ≤ (999 : Int); omega), (by show -999 ≤ x35 ∧ x35 ≤ (999 : Int); omega)⟩, _, rfl, fr_s (by decide) (fr_s (by decide) (fr_s (by decide) (fr_s (by decide) hF))), rr_set_eq, rfl, rfl, rfl⟩⟩
                                       unfold rD
                                       rw [if_neg ek]
                                       rw [show kd ta p (plN ta tl p) = 5 by omega, rA_5, s1]; show sb (sb (sb (rB ta tl q32) (rP ta tl)) _) _ = _; rw [s2]; rfl
                                       done)
                                    | (refine ⟨rfl, Or.inl ⟨(plN ta tl p), (kd ta p (plN ta tl p), 0, 0), ?_, by omega, by omega, ⟨⟨by show 0 ≤ kd ta p (plN ta tl p); omega, by show kd ta p (plN ta tl p) ≤ 5; omega⟩, (by show -999 ≤ 0 ∧ 0 ≤ (999 : Int); omega), (by show -999 ≤ 0 ∧ 0 ≤ (999 : Int); omega)⟩, _, rfl, fr_s (by decide) (fr_s (by decide) (fr_s (by decide) (fr_s (by decide) hF))), rr_set_eq, rfl, rfl, rfl⟩⟩
                                       unfold rD
                                       rw [if_neg ek]
                                       rw [rA_3 (by omega)]; rfl
                                       done)
                                    | (have eD : rD ta tl p = .inl f14 := by
                                         unfold rD
                                         rw [if_neg ek]
                                         rw [show kd ta p (plN ta tl p) = 0 by omega, rA_0, ef]; rfl
                                       refine ⟨rfl, Or.inr ⟨_, eD, rD_l hp eD, _, _, _, _, _, _, rfl, fr_s (by decide) (fr_s (by decide) (fr_s (by decide) (fr_s (by decide) hF))), rr_set_eq, rfl, rfl, rfl⟩⟩
                                       done)
                                    | (have eD : rD ta tl p = .inl f26 := by
                                         unfold rD
                                         rw [if_neg ek]
                                         rw [rA_12 (by omega), s1]; show sb (sb (sb (rB ta tl q23) (rN ta tl)) _) _ = _; rw [ef]; rfl
                                       refine ⟨rfl, Or.inr ⟨_, eD, rD_l hp eD, _, _, _, _, _, _, rfl, fr_s (by decide) (fr_s (by decide) (fr_s (by decide) (fr_s (by decide) hF))), rr_set_eq, rfl, rfl, rfl⟩⟩
                                       done)
                                    | (have eD : rD ta tl p = .inl f23 := by
                                         unfold rD
                                         rw [if_neg ek]
                                         rw [rA_12 (by omega), ef]; rfl
                                       refine ⟨rfl, Or.inr ⟨_, eD, rD_l hp eD, _, _, _, _, _, _, rfl, fr_s (by decide) (fr_s (by decide) (fr_s (by decide) (fr_s (by decide) hF))), rr_set_eq, rfl, rfl, rfl⟩⟩
                                       done)
                                    | (have eD : rD ta tl p = .inl f35 := by
                                         unfold rD
                                         rw [if_neg ek]
                                         rw [show kd ta p (plN ta tl p) = 5 by omega, rA_5, s1]; show sb (sb (sb (rB ta tl q32) (rP ta tl)) _) _ = _; rw [ef]; rfl
                                       refine ⟨rfl, Or.inr ⟨_, eD, rD_l hp eD, _, _, _, _, _, _, rfl, fr_s (by decide) (fr_s (by decide) (fr_s (by decide) (fr_s (by decide) hF))), rr_set_eq, rfl, rfl, rfl⟩⟩
                                       done)
                                    | (have eD : rD ta tl p = .inl f32 := by
                                         unfold rD
                                         rw [if_neg ek]
                                         rw [show kd ta p (plN ta tl p) = 5 by omega, rA_5, ef]; rfl
                                       refine ⟨rfl, Or.inr ⟨_, eD, rD_l hp eD, _, _, _, _, _, _, rfl, fr_s (by decide) (fr_s (by decide) (fr_s (by decide) (fr_s (by decide) hF))), rr_set_eq, rfl, rfl, rfl⟩⟩
                                       done)
            · have c61 := (hf14 61 (by decide)).trans c61
              have c62 := (hf14 62 (by decide)).trans c62
              have c63 := (hf14 63 (by decide)).trans c63
              have c64 := (hf14 64 (by decide)).trans c64
              have hF := fr_t hF hf14 (by decide)
              refine s_istore_n rfl (cn rfl) ?_
              refine s_iload_n rfl (cn rfl) rfl ?_
              refine s_iconst rfl (cn rfl) ?_
              refine s_icmp_eq rfl (cn rfl) (cn rfl) ⟨by omega, by omega⟩ ⟨by omega, by omega⟩ (fun q18 => ?_) (fun q18 => ?_)
              · first
                | (exfalso; omega)
                | skip
                  refine s_aload_n rfl (cn rfl) rfl ?_
                  refine s_virt rfl (cn rfl) rfl rfl c58 rfl (m_group1 c58) ?_
                  rintro _ _ ⟨rfl, rfl⟩
                  · refine s_istore_n rfl (cn rfl) ?_
                    refine s_aload_n rfl (cn rfl) rfl ?_
                    refine s_virt rfl (cn rfl) rfl rfl c58 rfl (m_number1 c58) ?_
                    rintro _ _ ⟨rfl, rfl⟩
                    · refine s_istore_n rfl (cn rfl) ?_
                      refine s_iload_n rfl (cn rfl) rfl ?_
                      refine s_iconst rfl (cn rfl) ?_
                      refine s_icmp_ne rfl (cn rfl) (cn rfl) ⟨by omega, by omega⟩ ⟨by omega, by omega⟩ (fun q30 => ?_) (fun q30 => ?_)
                      · first
                        | (exfalso; omega)
                        | skip
                          refine s_aload_n rfl (cn rfl) rfl ?_
                          refine s_getfield rfl (cn rfl) c58 rfl ?_
                          refine s_aload_n rfl (cn rfl) rfl ?_
                          refine s_getfield rfl (cn rfl) c58 rfl ?_
                          refine s_iload_n rfl (cn rfl) rfl ?_
                          refine s_iastore rfl (cn rfl) _ rfl c62 (by omega) (by decide) ?_
                          refine s_aload_n rfl (cn rfl) rfl ?_
                          refine s_getfield rfl (cn rfl) c58 rfl ?_
                          refine s_aload_n rfl (cn rfl) rfl ?_
                          refine s_getfield rfl (cn rfl) c58 rfl ?_
                          refine s_iload_n rfl (cn rfl) rfl ?_
                          refine s_iastore rfl (cn rfl) _ rfl c63 (by omega) (by decide) ?_
                          refine s_aload_n rfl (cn rfl) rfl ?_
                          refine s_getfield rfl (cn rfl) c58 rfl ?_
                          refine s_aload_n rfl (cn rfl) rfl ?_
                          refine s_getfield rfl (cn rfl) c58 rfl ?_
                          refine s_iload_n rfl (cn rfl) rfl ?_
                          refine s_iastore rfl (cn rfl) _ rfl c64 (by omega) (by decide) ?_
                          refine s_aload_n rfl (cn rfl) rfl ?_
                          refine s_dupr rfl (cn rfl) ?_
                          refine s_getfield rfl (cn rfl) c58 rfl ?_
                          refine s_iconst rfl (cn rfl) ?_
                          refine s_iadd rfl (cn rfl) ?_
                          refine s_puti rfl (cn rfl) rfl c58 rfl ?_
                          refine s_return rfl ?_
                          first
                            | (refine ⟨rfl, Or.inl ⟨q14, (kd ta p (plN ta tl p), x14, 0), ?_, by omega, by omega, ⟨⟨by show 0 ≤ kd ta p (plN ta tl p); omega, by show kd ta p (plN ta tl p) ≤ 5; omega⟩, (by show -999 ≤ x14 ∧ x14 ≤ (999 : Int); omega), (by show -999 ≤ 0 ∧ 0 ≤ (999 : Int); omega)⟩, _, rfl, fr_s (by decide) (fr_s (by decide) (fr_s (by decide) (fr_s (by decide) hF))), rr_set_eq, rfl, rfl, rfl⟩⟩
                               unfold rD
                               rw [if_neg ek]
                               rw [show kd ta p (plN ta tl p) = 0 by omega, rA_0, s1]; rfl
                               done)
                            | (refine ⟨rfl, Or.inl ⟨q26, (kd ta p (plN ta tl p), x23, x26), ?_, by omega, by omega, ⟨⟨by show 0 ≤ kd ta p (plN ta tl p); omega, by show kd ta p (plN ta tl p) ≤ 5; omega⟩, (by show -999 ≤ x23 ∧ x23 ≤ (999 : Int); omega), (by show -999 ≤ x26 ∧ x26 ≤ (999 : Int); omega)⟩, _, rfl, fr_s (by decide) (fr_s (by decide) (fr_s (by decide) (fr_s (by decide) hF))), rr_set_eq, rfl, rfl, rfl⟩⟩
                               unfold rD
                               rw [if_neg ek]
                               rw [rA_12 (by omega), s1]; show sb (sb (sb (rB ta tl q23) (rN ta tl)) _) _ = _; rw [s2]; rfl
                               done)
                            | (refine ⟨rfl, Or.inl ⟨q35, (kd ta p (plN ta tl p), x32, x35), ?_, by omega, by omega, ⟨⟨by show 0 ≤ kd ta p (plN ta tl p); omega, by show kd ta p (plN ta tl p) ≤ 5; omega⟩, (by show -999 ≤ x32 ∧ x32 ≤ (999 : Int); omega), (by show -999 ≤ x35 ∧ x35 ≤ (999 : Int); omega)⟩, _, rfl, fr_s (by decide) (fr_s (by decide) (fr_s (by decide) (fr_s (by decide) hF))), rr_set_eq, rfl, rfl, rfl⟩⟩
                               unfold rD
                               rw [if_neg ek]
                               rw [show kd ta p (plN ta tl p) = 5 by omega, rA_5, s1]; show sb (sb (sb (rB ta tl q32) (rP ta tl)) _) _ = _; rw [s2]; rfl
                               done)
                            | (refine ⟨rfl, Or.inl ⟨(plN ta tl p), (kd ta p (plN ta tl p), 0, 0), ?_, by omega, by omega, ⟨⟨by show 0 ≤ kd ta p (plN ta tl p); omega, by show kd ta p (plN ta tl p) ≤ 5; omega⟩, (by show -999 ≤ 0 ∧ 0 ≤ (999 : Int); omega), (by show -999 ≤ 0 ∧ 0 ≤ (999 : Int); omega)⟩, _, rfl, fr_s (by decide) (fr_s (by decide) (fr_s (by decide) (fr_s (by decide) hF))), rr_set_eq, rfl, rfl, rfl⟩⟩
                               unfold rD
                               rw [if_neg ek]
                               rw [rA_3 (by omega)]; rfl
                               done)
                            | (have eD : rD ta tl p = .inl f14 := by
                                 unfold rD
                                 rw [if_neg ek]
                                 rw [show kd ta p (plN ta tl p) = 0 by omega, rA_0, ef]; rfl
                               refine ⟨rfl, Or.inr ⟨_, eD, rD_l hp eD, _, _, _, _, _, _, rfl, fr_s (by decide) (fr_s (by decide) (fr_s (by decide) (fr_s (by decide) hF))), rr_set_eq, rfl, rfl, rfl⟩⟩
                               done)
                            | (have eD : rD ta tl p = .inl f26 := by
                                 unfold rD
                                 rw [if_neg ek]
                                 rw [rA_12 (by omega), s1]; show sb (sb (sb (rB ta tl q23) (rN ta tl)) _) _ = _; rw [ef]; rfl
                               refine ⟨rfl, Or.inr ⟨_, eD, rD_l hp eD, _, _, _, _, _, _, rfl, fr_s (by decide) (fr_s (by decide) (fr_s (by decide) (fr_s (by decide) hF))), rr_set_eq, rfl, rfl, rfl⟩⟩
                               done)
                            | (have eD : rD ta tl p = .inl f23 := by
                                 unfold rD
                                 rw [if_neg ek]
                                 rw [rA_12 (by omega), ef]; rfl
                               refine ⟨rfl, Or.inr ⟨_, eD, rD_l hp eD, _, _, _, _, _, _, rfl, fr_s (by decide) (fr_s (by decide) (fr_s (by decide) (fr_s (by decide) hF))), rr_set_eq, rfl, rfl, rfl⟩⟩
                               done)
                            | (have eD : rD ta tl p = .inl f35 := by
                                 unfold rD
                                 rw [if_neg ek]
                                 rw [show kd ta p (plN ta tl p) = 5 by omega, rA_5, s1]; show sb (sb (sb (rB ta tl q32) (rP ta tl)) _) _ = _; rw [ef]; rfl
                               refine ⟨rfl, Or.inr ⟨_, eD, rD_l hp eD, _, _, _, _, _, _, rfl, fr_s (by decide) (fr_s (by decide) (fr_s (by decide) (fr_s (by decide) hF))), rr_set_eq, rfl, rfl, rfl⟩⟩
                               done)
                            | (have eD : rD ta tl p = .inl f32 := by
                                 unfold rD
                                 rw [if_neg ek]
                                 rw [show kd ta p (plN ta tl p) = 5 by omega, rA_5, ef]; rfl
                               refine ⟨rfl, Or.inr ⟨_, eD, rD_l hp eD, _, _, _, _, _, _, rfl, fr_s (by decide) (fr_s (by decide) (fr_s (by decide) (fr_s (by decide) hF))), rr_set_eq, rfl, rfl, rfl⟩⟩
                               done)
                      · first
                        | (exfalso; omega)
                        | skip
                          refine s_aload_n rfl (cn rfl) rfl ?_
                          refine s_virt rfl (cn rfl) rfl rfl c58 rfl (m_person1 c58) ?_
                          rintro _ _ ⟨rfl, rfl⟩
                          · refine s_istore_n rfl (cn rfl) ?_
                            refine s_aload_n rfl (cn rfl) rfl ?_
                            refine s_virt rfl (cn rfl) rfl rfl c58 rfl (m_person1 c58) ?_
                            rintro _ _ ⟨rfl, rfl⟩
                            · refine s_istore_n rfl (cn rfl) ?_
                              refine s_aload_n rfl (cn rfl) rfl ?_
                              refine s_getfield rfl (cn rfl) c58 rfl ?_
                              refine s_aload_n rfl (cn rfl) rfl ?_
                              refine s_getfield rfl (cn rfl) c58 rfl ?_
                              refine s_iload_n rfl (cn rfl) rfl ?_
                              refine s_iastore rfl (cn rfl) _ rfl c62 (by omega) (by decide) ?_
                              refine s_aload_n rfl (cn rfl) rfl ?_
                              refine s_getfield rfl (cn rfl) c58 rfl ?_
                              refine s_aload_n rfl (cn rfl) rfl ?_
                              refine s_getfield rfl (cn rfl) c58 rfl ?_
                              refine s_iload_n rfl (cn rfl) rfl ?_
                              refine s_iastore rfl (cn rfl) _ rfl c63 (by omega) (by decide) ?_
                              refine s_aload_n rfl (cn rfl) rfl ?_
                              refine s_getfield rfl (cn rfl) c58 rfl ?_
                              refine s_aload_n rfl (cn rfl) rfl ?_
                              refine s_getfield rfl (cn rfl) c58 rfl ?_
                              refine s_iload_n rfl (cn rfl) rfl ?_
                              refine s_iastore rfl (cn rfl) _ rfl c64 (by omega) (by decide) ?_
                              refine s_aload_n rfl (cn rfl) rfl ?_
                              refine s_dupr rfl (cn rfl) ?_
                              refine s_getfield rfl (cn rfl) c58 rfl ?_
                              refine s_iconst rfl (cn rfl) ?_
                              refine s_iadd rfl (cn rfl) ?_
                              refine s_puti rfl (cn rfl) rfl c58 rfl ?_
                              refine s_return rfl ?_
                              first
                                | (refine ⟨rfl, Or.inl ⟨q14, (kd ta p (plN ta tl p), x14, 0), ?_, by omega, by omega, ⟨⟨by show 0 ≤ kd ta p (plN ta tl p); omega, by show kd ta p (plN ta tl p) ≤ 5; omega⟩, (by show -999 ≤ x14 ∧ x14 ≤ (999 : Int); omega), (by show -999 ≤ 0 ∧ 0 ≤ (999 : Int); omega)⟩, _, rfl, fr_s (by decide) (fr_s (by decide) (fr_s (by decide) (fr_s (by decide) hF))), rr_set_eq, rfl, rfl, rfl⟩⟩
                                   unfold rD
                                   rw [if_neg ek]
                                   rw [show kd ta p (plN ta tl p) = 0 by omega, rA_0, s1]; rfl
                                   done)
                                | (refine ⟨rfl, Or.inl ⟨q26, (kd ta p (plN ta tl p), x23, x26), ?_, by omega, by omega, ⟨⟨by show 0 ≤ kd ta p (plN ta tl p); omega, by show kd ta p (plN ta tl p) ≤ 5; omega⟩, (by show -999 ≤ x23 ∧ x23 ≤ (999 : Int); omega), (by show -999 ≤ x26 ∧ x26 ≤ (999 : Int); omega)⟩, _, rfl, fr_s (by decide) (fr_s (by decide) (fr_s (by decide) (fr_s (by decide) hF))), rr_set_eq, rfl, rfl, rfl⟩⟩
                                   unfold rD
                                   rw [if_neg ek]
                                   rw [rA_12 (by omega), s1]; show sb (sb (sb (rB ta tl q23) (rN ta tl)) _) _ = _; rw [s2]; rfl
                                   done)
                                | (refine ⟨rfl, Or.inl ⟨q35, (kd ta p (plN ta tl p), x32, x35), ?_, by omega, by omega, ⟨⟨by show 0 ≤ kd ta p (plN ta tl p); omega, by show kd ta p (plN ta tl p) ≤ 5; omega⟩, (by show -999 ≤ x32 ∧ x32 ≤ (999 : Int); omega), (by show -999 ≤ x35 ∧ x35 ≤ (999 : Int); omega)⟩, _, rfl, fr_s (by decide) (fr_s (by decide) (fr_s (by decide) (fr_s (by decide) hF))), rr_set_eq, rfl, rfl, rfl⟩⟩
                                   unfold rD
                                   rw [if_neg ek]
                                   rw [show kd ta p (plN ta tl p) = 5 by omega, rA_5, s1]; show sb (sb (sb (rB ta tl q32) (rP ta tl)) _) _ = _; rw [s2]; rfl
                                   done)
                                | (refine ⟨rfl, Or.inl ⟨(plN ta tl p), (kd ta p (plN ta tl p), 0, 0), ?_, by omega, by omega, ⟨⟨by show 0 ≤ kd ta p (plN ta tl p); omega, by show kd ta p (plN ta tl p) ≤ 5; omega⟩, (by show -999 ≤ 0 ∧ 0 ≤ (999 : Int); omega), (by show -999 ≤ 0 ∧ 0 ≤ (999 : Int); omega)⟩, _, rfl, fr_s (by decide) (fr_s (by decide) (fr_s (by decide) (fr_s (by decide) hF))), rr_set_eq, rfl, rfl, rfl⟩⟩
                                   unfold rD
                                   rw [if_neg ek]
                                   rw [rA_3 (by omega)]; rfl
                                   done)
                                | (have eD : rD ta tl p = .inl f14 := by
                                     unfold rD
                                     rw [if_neg ek]
                                     rw [show kd ta p (plN ta tl p) = 0 by omega, rA_0, ef]; rfl
                                   refine ⟨rfl, Or.inr ⟨_, eD, rD_l hp eD, _, _, _, _, _, _, rfl, fr_s (by decide) (fr_s (by decide) (fr_s (by decide) (fr_s (by decide) hF))), rr_set_eq, rfl, rfl, rfl⟩⟩
                                   done)
                                | (have eD : rD ta tl p = .inl f26 := by
                                     unfold rD
                                     rw [if_neg ek]
                                     rw [rA_12 (by omega), s1]; show sb (sb (sb (rB ta tl q23) (rN ta tl)) _) _ = _; rw [ef]; rfl
                                   refine ⟨rfl, Or.inr ⟨_, eD, rD_l hp eD, _, _, _, _, _, _, rfl, fr_s (by decide) (fr_s (by decide) (fr_s (by decide) (fr_s (by decide) hF))), rr_set_eq, rfl, rfl, rfl⟩⟩
                                   done)
                                | (have eD : rD ta tl p = .inl f23 := by
                                     unfold rD
                                     rw [if_neg ek]
                                     rw [rA_12 (by omega), ef]; rfl
                                   refine ⟨rfl, Or.inr ⟨_, eD, rD_l hp eD, _, _, _, _, _, _, rfl, fr_s (by decide) (fr_s (by decide) (fr_s (by decide) (fr_s (by decide) hF))), rr_set_eq, rfl, rfl, rfl⟩⟩
                                   done)
                                | (have eD : rD ta tl p = .inl f35 := by
                                     unfold rD
                                     rw [if_neg ek]
                                     rw [show kd ta p (plN ta tl p) = 5 by omega, rA_5, s1]; show sb (sb (sb (rB ta tl q32) (rP ta tl)) _) _ = _; rw [ef]; rfl
                                   refine ⟨rfl, Or.inr ⟨_, eD, rD_l hp eD, _, _, _, _, _, _, rfl, fr_s (by decide) (fr_s (by decide) (fr_s (by decide) (fr_s (by decide) hF))), rr_set_eq, rfl, rfl, rfl⟩⟩
                                   done)
                                | (have eD : rD ta tl p = .inl f32 := by
                                     unfold rD
                                     rw [if_neg ek]
                                     rw [show kd ta p (plN ta tl p) = 5 by omega, rA_5, ef]; rfl
                                   refine ⟨rfl, Or.inr ⟨_, eD, rD_l hp eD, _, _, _, _, _, _, rfl, fr_s (by decide) (fr_s (by decide) (fr_s (by decide) (fr_s (by decide) hF))), rr_set_eq, rfl, rfl, rfl⟩⟩
                                   done)
              · first
                | (exfalso; omega)
                | skip
                  refine s_iload_n rfl (cn rfl) rfl ?_
                  refine s_iconst rfl (cn rfl) ?_
                  refine s_icmp_ne rfl (cn rfl) (cn rfl) ⟨by omega, by omega⟩ ⟨by omega, by omega⟩ (fun q21 => ?_) (fun q21 => ?_)
                  · first
                    | (exfalso; omega)
                    | skip
                      refine s_iload_n rfl (cn rfl) rfl ?_
                      refine s_iconst rfl (cn rfl) ?_
                      refine s_icmp_ne rfl (cn rfl) (cn rfl) ⟨by omega, by omega⟩ ⟨by omega, by omega⟩ (fun q30 => ?_) (fun q30 => ?_)
                      · first
                        | (exfalso; omega)
                        | skip
                          refine s_aload_n rfl (cn rfl) rfl ?_
                          refine s_getfield rfl (cn rfl) c58 rfl ?_
                          refine s_aload_n rfl (cn rfl) rfl ?_
                          refine s_getfield rfl (cn rfl) c58 rfl ?_
                          refine s_iload_n rfl (cn rfl) rfl ?_
                          refine s_iastore rfl (cn rfl) _ rfl c62 (by omega) (by decide) ?_
                          refine s_aload_n rfl (cn rfl) rfl ?_
                          refine s_getfield rfl (cn rfl) c58 rfl ?_
                          refine s_aload_n rfl (cn rfl) rfl ?_
                          refine s_getfield rfl (cn rfl) c58 rfl ?_
                          refine s_iload_n rfl (cn rfl) rfl ?_
                          refine s_iastore rfl (cn rfl) _ rfl c63 (by omega) (by decide) ?_
                          refine s_aload_n rfl (cn rfl) rfl ?_
                          refine s_getfield rfl (cn rfl) c58 rfl ?_
                          refine s_aload_n rfl (cn rfl) rfl ?_
                          refine s_getfield rfl (cn rfl) c58 rfl ?_
                          refine s_iload_n rfl (cn rfl) rfl ?_
                          refine s_iastore rfl (cn rfl) _ rfl c64 (by omega) (by decide) ?_
                          refine s_aload_n rfl (cn rfl) rfl ?_
                          refine s_dupr rfl (cn rfl) ?_
                          refine s_getfield rfl (cn rfl) c58 rfl ?_
                          refine s_iconst rfl (cn rfl) ?_
                          refine s_iadd rfl (cn rfl) ?_
                          refine s_puti rfl (cn rfl) rfl c58 rfl ?_
                          refine s_return rfl ?_
                          first
                            | (refine ⟨rfl, Or.inl ⟨q14, (kd ta p (plN ta tl p), x14, 0), ?_, by omega, by omega, ⟨⟨by show 0 ≤ kd ta p (plN ta tl p); omega, by show kd ta p (plN ta tl p) ≤ 5; omega⟩, (by show -999 ≤ x14 ∧ x14 ≤ (999 : Int); omega), (by show -999 ≤ 0 ∧ 0 ≤ (999 : Int); omega)⟩, _, rfl, fr_s (by decide) (fr_s (by decide) (fr_s (by decide) (fr_s (by decide) hF))), rr_set_eq, rfl, rfl, rfl⟩⟩
                               unfold rD
                               rw [if_neg ek]
                               rw [show kd ta p (plN ta tl p) = 0 by omega, rA_0, s1]; rfl
                               done)
                            | (refine ⟨rfl, Or.inl ⟨q26, (kd ta p (plN ta tl p), x23, x26), ?_, by omega, by omega, ⟨⟨by show 0 ≤ kd ta p (plN ta tl p); omega, by show kd ta p (plN ta tl p) ≤ 5; omega⟩, (by show -999 ≤ x23 ∧ x23 ≤ (999 : Int); omega), (by show -999 ≤ x26 ∧ x26 ≤ (999 : Int); omega)⟩, _, rfl, fr_s (by decide) (fr_s (by decide) (fr_s (by decide) (fr_s (by decide) hF))), rr_set_eq, rfl, rfl, rfl⟩⟩
                               unfold rD
                               rw [if_neg ek]
                               rw [rA_12 (by omega), s1]; show sb (sb (sb (rB ta tl q23) (rN ta tl)) _) _ = _; rw [s2]; rfl
                               done)
                            | (refine ⟨rfl, Or.inl ⟨q35, (kd ta p (plN ta tl p), x32, x35), ?_, by omega, by omega, ⟨⟨by show 0 ≤ kd ta p (plN ta tl p); omega, by show kd ta p (plN ta tl p) ≤ 5; omega⟩, (by show -999 ≤ x32 ∧ x32 ≤ (999 : Int); omega), (by show -999 ≤ x35 ∧ x35 ≤ (999 : Int); omega)⟩, _, rfl, fr_s (by decide) (fr_s (by decide) (fr_s (by decide) (fr_s (by decide) hF))), rr_set_eq, rfl, rfl, rfl⟩⟩
                               unfold rD
                               rw [if_neg ek]
                               rw [show kd ta p (plN ta tl p) = 5 by omega, rA_5, s1]; show sb (sb (sb (rB ta tl q32) (rP ta tl)) _) _ = _; rw [s2]; rfl
                               done)
                            | (refine ⟨rfl, Or.inl ⟨(plN ta tl p), (kd ta p (plN ta tl p), 0, 0), ?_, by omega, by omega, ⟨⟨by show 0 ≤ kd ta p (plN ta tl p); omega, by show kd ta p (plN ta tl p) ≤ 5; omega⟩, (by show -999 ≤ 0 ∧ 0 ≤ (999 : Int); omega), (by show -999 ≤ 0 ∧ 0 ≤ (999 : Int); omega)⟩, _, rfl, fr_s (by decide) (fr_s (by decide) (fr_s (by decide) (fr_s (by decide) hF))), rr_set_eq, rfl, rfl, rfl⟩⟩
                               unfold rD
                               rw [if_neg ek]
                               rw [rA_3 (by omega)]; rfl
                               done)
                            | (have eD : rD ta tl p = .inl f14 := by
                                 unfold rD
                                 rw [if_neg ek]
                                 rw [show kd ta p (plN ta tl p) = 0 by omega, rA_0, ef]; rfl
                               refine ⟨rfl, Or.inr ⟨_, eD, rD_l hp eD, _, _, _, _, _, _, rfl, fr_s (by decide) (fr_s (by decide) (fr_s (by decide) (fr_s (by decide) hF))), rr_set_eq, rfl, rfl, rfl⟩⟩
                               done)
                            | (have eD : rD ta tl p = .inl f26 := by
                                 unfold rD
                                 rw [if_neg ek]
                                 rw [rA_12 (by omega), s1]; show sb (sb (sb (rB ta tl q23) (rN ta tl)) _) _ = _; rw [ef]; rfl
                               refine ⟨rfl, Or.inr ⟨_, eD, rD_l hp eD, _, _, _, _, _, _, rfl, fr_s (by decide) (fr_s (by decide) (fr_s (by decide) (fr_s (by decide) hF))), rr_set_eq, rfl, rfl, rfl⟩⟩
                               done)
                            | (have eD : rD ta tl p = .inl f23 := by
                                 unfold rD
                                 rw [if_neg ek]
                                 rw [rA_12 (by omega), ef]; rfl
                               refine ⟨rfl, Or.inr ⟨_, eD, rD_l hp eD, _, _, _, _, _, _, rfl, fr_s (by decide) (fr_s (by decide) (fr_s (by decide) (fr_s (by decide) hF))), rr_set_eq, rfl, rfl, rfl⟩⟩
                               done)
                            | (have eD : rD ta tl p = .inl f35 := by
                                 unfold rD
                                 rw [if_neg ek]
                                 rw [show kd ta p (plN ta tl p) = 5 by omega, rA_5, s1]; show sb (sb (sb (rB ta tl q32) (rP ta tl)) _) _ = _; rw [ef]; rfl
                               refine ⟨rfl, Or.inr ⟨_, eD, rD_l hp eD, _, _, _, _, _, _, rfl, fr_s (by decide) (fr_s (by decide) (fr_s (by decide) (fr_s (by decide) hF))), rr_set_eq, rfl, rfl, rfl⟩⟩
                               done)
                            | (have eD : rD ta tl p = .inl f32 := by
                                 unfold rD
                                 rw [if_neg ek]
                                 rw [show kd ta p (plN ta tl p) = 5 by omega, rA_5, ef]; rfl
                               refine ⟨rfl, Or.inr ⟨_, eD, rD_l hp eD, _, _, _, _, _, _, rfl, fr_s (by decide) (fr_s (by decide) (fr_s (by decide) (fr_s (by decide) hF))), rr_set_eq, rfl, rfl, rfl⟩⟩
                               done)
                      · first
                        | (exfalso; omega)
                        | skip
                          refine s_aload_n rfl (cn rfl) rfl ?_
                          refine s_virt rfl (cn rfl) rfl rfl c58 rfl (m_person1 c58) ?_
                          rintro _ _ ⟨rfl, rfl⟩
                          · refine s_istore_n rfl (cn rfl) ?_
                            refine s_aload_n rfl (cn rfl) rfl ?_
                            refine s_virt rfl (cn rfl) rfl rfl c58 rfl (m_person1 c58) ?_
                            rintro _ _ ⟨rfl, rfl⟩
                            · refine s_istore_n rfl (cn rfl) ?_
                              refine s_aload_n rfl (cn rfl) rfl ?_
                              refine s_getfield rfl (cn rfl) c58 rfl ?_
                              refine s_aload_n rfl (cn rfl) rfl ?_
                              refine s_getfield rfl (cn rfl) c58 rfl ?_
                              refine s_iload_n rfl (cn rfl) rfl ?_
                              refine s_iastore rfl (cn rfl) _ rfl c62 (by omega) (by decide) ?_
                              refine s_aload_n rfl (cn rfl) rfl ?_
                              refine s_getfield rfl (cn rfl) c58 rfl ?_
                              refine s_aload_n rfl (cn rfl) rfl ?_
                              refine s_getfield rfl (cn rfl) c58 rfl ?_
                              refine s_iload_n rfl (cn rfl) rfl ?_
                              refine s_iastore rfl (cn rfl) _ rfl c63 (by omega) (by decide) ?_
                              refine s_aload_n rfl (cn rfl) rfl ?_
                              refine s_getfield rfl (cn rfl) c58 rfl ?_
                              refine s_aload_n rfl (cn rfl) rfl ?_
                              refine s_getfield rfl (cn rfl) c58 rfl ?_
                              refine s_iload_n rfl (cn rfl) rfl ?_
                              refine s_iastore rfl (cn rfl) _ rfl c64 (by omega) (by decide) ?_
                              refine s_aload_n rfl (cn rfl) rfl ?_
                              refine s_dupr rfl (cn rfl) ?_
                              refine s_getfield rfl (cn rfl) c58 rfl ?_
                              refine s_iconst rfl (cn rfl) ?_
                              refine s_iadd rfl (cn rfl) ?_
                              refine s_puti rfl (cn rfl) rfl c58 rfl ?_
                              refine s_return rfl ?_
                              first
                                | (refine ⟨rfl, Or.inl ⟨q14, (kd ta p (plN ta tl p), x14, 0), ?_, by omega, by omega, ⟨⟨by show 0 ≤ kd ta p (plN ta tl p); omega, by show kd ta p (plN ta tl p) ≤ 5; omega⟩, (by show -999 ≤ x14 ∧ x14 ≤ (999 : Int); omega), (by show -999 ≤ 0 ∧ 0 ≤ (999 : Int); omega)⟩, _, rfl, fr_s (by decide) (fr_s (by decide) (fr_s (by decide) (fr_s (by decide) hF))), rr_set_eq, rfl, rfl, rfl⟩⟩
                                   unfold rD
                                   rw [if_neg ek]
                                   rw [show kd ta p (plN ta tl p) = 0 by omega, rA_0, s1]; rfl
                                   done)
                                | (refine ⟨rfl, Or.inl ⟨q26, (kd ta p (plN ta tl p), x23, x26), ?_, by omega, by omega, ⟨⟨by show 0 ≤ kd ta p (plN ta tl p); omega, by show kd ta p (plN ta tl p) ≤ 5; omega⟩, (by show -999 ≤ x23 ∧ x23 ≤ (999 : Int); omega), (by show -999 ≤ x26 ∧ x26 ≤ (999 : Int); omega)⟩, _, rfl, fr_s (by decide) (fr_s (by decide) (fr_s (by decide) (fr_s (by decide) hF))), rr_set_eq, rfl, rfl, rfl⟩⟩
                                   unfold rD
                                   rw [if_neg ek]
                                   rw [rA_12 (by omega), s1]; show sb (sb (sb (rB ta tl q23) (rN ta tl)) _) _ = _; rw [s2]; rfl
                                   done)
                                | (refine ⟨rfl, Or.inl ⟨q35, (kd ta p (plN ta tl p), x32, x35), ?_, by omega, by omega, ⟨⟨by show 0 ≤ kd ta p (plN ta tl p); omega, by show kd ta p (plN ta tl p) ≤ 5; omega⟩, (by show -999 ≤ x32 ∧ x32 ≤ (999 : Int); omega), (by show -999 ≤ x35 ∧ x35 ≤ (999 : Int); omega)⟩, _, rfl, fr_s (by decide) (fr_s (by decide) (fr_s (by decide) (fr_s (by decide) hF))), rr_set_eq, rfl, rfl, rfl⟩⟩
                                   unfold rD
                                   rw [if_neg ek]
                                   rw [show kd ta p (plN ta tl p) = 5 by omega, rA_5, s1]; show sb (sb (sb (rB ta tl q32) (rP ta tl)) _) _ = _; rw [s2]; rfl
                                   done)
                                | (refine ⟨rfl, Or.inl ⟨(plN ta tl p), (kd ta p (plN ta tl p), 0, 0), ?_, by omega, by omega, ⟨⟨by show 0 ≤ kd ta p (plN ta tl p); omega, by show kd ta p (plN ta tl p) ≤ 5; omega⟩, (by show -999 ≤ 0 ∧ 0 ≤ (999 : Int); omega), (by show -999 ≤ 0 ∧ 0 ≤ (999 : Int); omega)⟩, _, rfl, fr_s (by decide) (fr_s (by decide) (fr_s (by decide) (fr_s (by decide) hF))), rr_set_eq, rfl, rfl, rfl⟩⟩
                                   unfold rD
                                   rw [if_neg ek]
                                   rw [rA_3 (by omega)]; rfl
                                   done)
                                | (have eD : rD ta tl p = .inl f14 := by
                                     unfold rD
                                     rw [if_neg ek]
                                     rw [show kd ta p (plN ta tl p) = 0 by omega, rA_0, ef]; rfl
                                   refine ⟨rfl, Or.inr ⟨_, eD, rD_l hp eD, _, _, _, _, _, _, rfl, fr_s (by decide) (fr_s (by decide) (fr_s (by decide) (fr_s (by decide) hF))), rr_set_eq, rfl, rfl, rfl⟩⟩
                                   done)
                                | (have eD : rD ta tl p = .inl f26 := by
                                     unfold rD
                                     rw [if_neg ek]
                                     rw [rA_12 (by omega), s1]; show sb (sb (sb (rB ta tl q23) (rN ta tl)) _) _ = _; rw [ef]; rfl
                                   refine ⟨rfl, Or.inr ⟨_, eD, rD_l hp eD, _, _, _, _, _, _, rfl, fr_s (by decide) (fr_s (by decide) (fr_s (by decide) (fr_s (by decide) hF))), rr_set_eq, rfl, rfl, rfl⟩⟩
                                   done)
                                | (have eD : rD ta tl p = .inl f23 := by
                                     unfold rD
                                     rw [if_neg ek]
                                     rw [rA_12 (by omega), ef]; rfl
                                   refine ⟨rfl, Or.inr ⟨_, eD, rD_l hp eD, _, _, _, _, _, _, rfl, fr_s (by decide) (fr_s (by decide) (fr_s (by decide) (fr_s (by decide) hF))), rr_set_eq, rfl, rfl, rfl⟩⟩
                                   done)
                                | (have eD : rD ta tl p = .inl f35 := by
                                     unfold rD
                                     rw [if_neg ek]
                                     rw [show kd ta p (plN ta tl p) = 5 by omega, rA_5, s1]; show sb (sb (sb (rB ta tl q32) (rP ta tl)) _) _ = _; rw [ef]; rfl
                                   refine ⟨rfl, Or.inr ⟨_, eD, rD_l hp eD, _, _, _, _, _, _, rfl, fr_s (by decide) (fr_s (by decide) (fr_s (by decide) (fr_s (by decide) hF))), rr_set_eq, rfl, rfl, rfl⟩⟩
                                   done)
                                | (have eD : rD ta tl p = .inl f32 := by
                                     unfold rD
                                     rw [if_neg ek]
                                     rw [show kd ta p (plN ta tl p) = 5 by omega, rA_5, ef]; rfl
                                   refine ⟨rfl, Or.inr ⟨_, eD, rD_l hp eD, _, _, _, _, _, _, rfl, fr_s (by decide) (fr_s (by decide) (fr_s (by decide) (fr_s (by decide) hF))), rr_set_eq, rfl, rfl, rfl⟩⟩
                                   done)
                  · first
                    | (exfalso; omega)
                    | skip
                      refine s_aload_n rfl (cn rfl) rfl ?_
                      refine s_virt rfl (cn rfl) rfl rfl c58 rfl (m_group1 c58) ?_
                      rintro _ _ ⟨rfl, rfl⟩
                      · refine s_istore_n rfl (cn rfl) ?_
                        refine s_aload_n rfl (cn rfl) rfl ?_
                        refine s_virt rfl (cn rfl) rfl rfl c58 rfl (m_number1 c58) ?_
                        rintro _ _ ⟨rfl, rfl⟩
                        · refine s_istore_n rfl (cn rfl) ?_
                          refine s_iload_n rfl (cn rfl) rfl ?_
                          refine s_iconst rfl (cn rfl) ?_
                          refine s_icmp_ne rfl (cn rfl) (cn rfl) ⟨by omega, by omega⟩ ⟨by omega, by omega⟩ (fun q30 => ?_) (fun q30 => ?_)
                          · first
                            | (exfalso; omega)
                            | skip
                              refine s_aload_n rfl (cn rfl) rfl ?_
                              refine s_getfield rfl (cn rfl) c58 rfl ?_
                              refine s_aload_n rfl (cn rfl) rfl ?_
                              refine s_getfield rfl (cn rfl) c58 rfl ?_
                              refine s_iload_n rfl (cn rfl) rfl ?_
                              refine s_iastore rfl (cn rfl) _ rfl c62 (by omega) (by decide) ?_
                              refine s_aload_n rfl (cn rfl) rfl ?_
                              refine s_getfield rfl (cn rfl) c58 rfl ?_
                              refine s_aload_n rfl (cn rfl) rfl ?_
                              refine s_getfield rfl (cn rfl) c58 rfl ?_
                              refine s_iload_n rfl (cn rfl) rfl ?_
                              refine s_iastore rfl (cn rfl) _ rfl c63 (by omega) (by decide) ?_
                              refine s_aload_n rfl (cn rfl) rfl ?_
                              refine s_getfield rfl (cn rfl) c58 rfl ?_
                              refine s_aload_n rfl (cn rfl) rfl ?_
                              refine s_getfield rfl (cn rfl) c58 rfl ?_
                              refine s_iload_n rfl (cn rfl) rfl ?_
                              refine s_iastore rfl (cn rfl) _ rfl c64 (by omega) (by decide) ?_
                              refine s_aload_n rfl (cn rfl) rfl ?_
                              refine s_dupr rfl (cn rfl) ?_
                              refine s_getfield rfl (cn rfl) c58 rfl ?_
                              refine s_iconst rfl (cn rfl) ?_
                              refine s_iadd rfl (cn rfl) ?_
                              refine s_puti rfl (cn rfl) rfl c58 rfl ?_
                              refine s_return rfl ?_
                              first
                                | (refine ⟨rfl, Or.inl ⟨q14, (kd ta p (plN ta tl p), x14, 0), ?_, by omega, by omega, ⟨⟨by show 0 ≤ kd ta p (plN ta tl p); omega, by show kd ta p (plN ta tl p) ≤ 5; omega⟩, (by show -999 ≤ x14 ∧ x14 ≤ (999 : Int); omega), (by show -999 ≤ 0 ∧ 0 ≤ (999 : Int); omega)⟩, _, rfl, fr_s (by decide) (fr_s (by decide) (fr_s (by decide) (fr_s (by decide) hF))), rr_set_eq, rfl, rfl, rfl⟩⟩
                                   unfold rD
                                   rw [if_neg ek]
                                   rw [show kd ta p (plN ta tl p) = 0 by omega, rA_0, s1]; rfl
                                   done)
                                | (refine ⟨rfl, Or.inl ⟨q26, (kd ta p (plN ta tl p), x23, x26), ?_, by omega, by omega, ⟨⟨by show 0 ≤ kd ta p (plN ta tl p); omega, by show kd ta p (plN ta tl p) ≤ 5; omega⟩, (by show -999 ≤ x23 ∧ x23 ≤ (999 : Int); omega), (by show -999 ≤ x26 ∧ x26 ≤ (999 : Int); omega)⟩, _, rfl, fr_s (by decide) (fr_s (by decide) (fr_s (by decide) (fr_s (by decide) hF))), rr_set_eq, rfl, rfl, rfl⟩⟩
                                   unfold rD
                                   rw [if_neg ek]
                                   rw [rA_12 (by omega), s1]; show sb (sb (sb (rB ta tl q23) (rN ta tl)) _) _ = _; rw [s2]; rfl
                                   done)
                                | (refine ⟨rfl, Or.inl ⟨q35, (kd ta p (plN ta tl p), x32, x35), ?_, by omega, by omega, ⟨⟨by show 0 ≤ kd ta p (plN ta tl p); omega, by show kd ta p (plN ta tl p) ≤ 5; omega⟩, (by show -999 ≤ x32 ∧ x32 ≤ (999 : Int); omega), (by show -999 ≤ x35 ∧ x35 ≤ (999 : Int); omega)⟩, _, rfl, fr_s (by decide) (fr_s (by decide) (fr_s (by decide) (fr_s (by decide) hF))), rr_set_eq, rfl, rfl, rfl⟩⟩
                                   unfold rD
                                   rw [if_neg ek]
                                   rw [show kd ta p (plN ta tl p) = 5 by omega, rA_5, s1]; show sb (sb (sb (rB ta tl q32) (rP ta tl)) _) _ = _; rw [s2]; rfl
                                   done)
                                | (refine ⟨rfl, Or.inl ⟨(plN ta tl p), (kd ta p (plN ta tl p), 0, 0), ?_, by omega, by omega, ⟨⟨by show 0 ≤ kd ta p (plN ta tl p); omega, by show kd ta p (plN ta tl p) ≤ 5; omega⟩, (by show -999 ≤ 0 ∧ 0 ≤ (999 : Int); omega), (by show -999 ≤ 0 ∧ 0 ≤ (999 : Int); omega)⟩, _, rfl, fr_s (by decide) (fr_s (by decide) (fr_s (by decide) (fr_s (by decide) hF))), rr_set_eq, rfl, rfl, rfl⟩⟩
                                   unfold rD
                                   rw [if_neg ek]
                                   rw [rA_3 (by omega)]; rfl
                                   done)
                                | (have eD : rD ta tl p = .inl f14 := by
                                     unfold rD
                                     rw [if_neg ek]
                                     rw [show kd ta p (plN ta tl p) = 0 by omega, rA_0, ef]; rfl
                                   refine ⟨rfl, Or.inr ⟨_, eD, rD_l hp eD, _, _, _, _, _, _, rfl, fr_s (by decide) (fr_s (by decide) (fr_s (by decide) (fr_s (by decide) hF))), rr_set_eq, rfl, rfl, rfl⟩⟩
                                   done)
                                | (have eD : rD ta tl p = .inl f26 := by
                                     unfold rD
                                     rw [if_neg ek]
                                     rw [rA_12 (by omega), s1]; show sb (sb (sb (rB ta tl q23) (rN ta tl)) _) _ = _; rw [ef]; rfl
                                   refine ⟨rfl, Or.inr ⟨_, eD, rD_l hp eD, _, _, _, _, _, _, rfl, fr_s (by decide) (fr_s (by decide) (fr_s (by decide) (fr_s (by decide) hF))), rr_set_eq, rfl, rfl, rfl⟩⟩
                                   done)
                                | (have eD : rD ta tl p = .inl f23 := by
                                     unfold rD
                                     rw [if_neg ek]
                                     rw [rA_12 (by omega), ef]; rfl
                                   refine ⟨rfl, Or.inr ⟨_, eD, rD_l hp eD, _, _, _, _, _, _, rfl, fr_s (by decide) (fr_s (by decide) (fr_s (by decide) (fr_s (by decide) hF))), rr_set_eq, rfl, rfl, rfl⟩⟩
                                   done)
                                | (have eD : rD ta tl p = .inl f35 := by
                                     unfold rD
                                     rw [if_neg ek]
                                     rw [show kd ta p (plN ta tl p) = 5 by omega, rA_5, s1]; show sb (sb (sb (rB ta tl q32) (rP ta tl)) _) _ = _; rw [ef]; rfl
                                   refine ⟨rfl, Or.inr ⟨_, eD, rD_l hp eD, _, _, _, _, _, _, rfl, fr_s (by decide) (fr_s (by decide) (fr_s (by decide) (fr_s (by decide) hF))), rr_set_eq, rfl, rfl, rfl⟩⟩
                                   done)
                                | (have eD : rD ta tl p = .inl f32 := by
                                     unfold rD
                                     rw [if_neg ek]
                                     rw [show kd ta p (plN ta tl p) = 5 by omega, rA_5, ef]; rfl
                                   refine ⟨rfl, Or.inr ⟨_, eD, rD_l hp eD, _, _, _, _, _, _, rfl, fr_s (by decide) (fr_s (by decide) (fr_s (by decide) (fr_s (by decide) hF))), rr_set_eq, rfl, rfl, rfl⟩⟩
                                   done)
                          · first
                            | (exfalso; omega)
                            | skip
                              refine s_aload_n rfl (cn rfl) rfl ?_
                              refine s_virt rfl (cn rfl) rfl rfl c58 rfl (m_person1 c58) ?_
                              rintro _ _ ⟨rfl, rfl⟩
                              · refine s_istore_n rfl (cn rfl) ?_
                                refine s_aload_n rfl (cn rfl) rfl ?_
                                refine s_virt rfl (cn rfl) rfl rfl c58 rfl (m_person1 c58) ?_
                                rintro _ _ ⟨rfl, rfl⟩
                                · refine s_istore_n rfl (cn rfl) ?_
                                  refine s_aload_n rfl (cn rfl) rfl ?_
                                  refine s_getfield rfl (cn rfl) c58 rfl ?_
                                  refine s_aload_n rfl (cn rfl) rfl ?_
                                  refine s_getfield rfl (cn rfl) c58 rfl ?_
                                  refine s_iload_n rfl (cn rfl) rfl ?_
                                  refine s_iastore rfl (cn rfl) _ rfl c62 (by omega) (by decide) ?_
                                  refine s_aload_n rfl (cn rfl) rfl ?_
                                  refine s_getfield rfl (cn rfl) c58 rfl ?_
                                  refine s_aload_n rfl (cn rfl) rfl ?_
                                  refine s_getfield rfl (cn rfl) c58 rfl ?_
                                  refine s_iload_n rfl (cn rfl) rfl ?_
                                  refine s_iastore rfl (cn rfl) _ rfl c63 (by omega) (by decide) ?_
                                  refine s_aload_n rfl (cn rfl) rfl ?_
                                  refine s_getfield rfl (cn rfl) c58 rfl ?_
                                  refine s_aload_n rfl (cn rfl) rfl ?_
                                  refine s_getfield rfl (cn rfl) c58 rfl ?_
                                  refine s_iload_n rfl (cn rfl) rfl ?_
                                  refine s_iastore rfl (cn rfl) _ rfl c64 (by omega) (by decide) ?_
                                  refine s_aload_n rfl (cn rfl) rfl ?_
                                  refine s_dupr rfl (cn rfl) ?_
                                  refine s_getfield rfl (cn rfl) c58 rfl ?_
                                  refine s_iconst rfl (cn rfl) ?_
                                  refine s_iadd rfl (cn rfl) ?_
                                  refine s_puti rfl (cn rfl) rfl c58 rfl ?_
                                  refine s_return rfl ?_
                                  first
                                    | (refine ⟨rfl, Or.inl ⟨q14, (kd ta p (plN ta tl p), x14, 0), ?_, by omega, by omega, ⟨⟨by show 0 ≤ kd ta p (plN ta tl p); omega, by show kd ta p (plN ta tl p) ≤ 5; omega⟩, (by show -999 ≤ x14 ∧ x14 ≤ (999 : Int); omega), (by show -999 ≤ 0 ∧ 0 ≤ (999 : Int); omega)⟩, _, rfl, fr_s (by decide) (fr_s (by decide) (fr_s (by decide) (fr_s (by decide) hF))), rr_set_eq, rfl, rfl, rfl⟩⟩
                                       unfold rD
                                       rw [if_neg ek]
                                       rw [show kd ta p (plN ta tl p) = 0 by omega, rA_0, s1]; rfl
                                       done)
                                    | (refine ⟨rfl, Or.inl ⟨q26, (kd ta p (plN ta tl p), x23, x26), ?_, by omega, by omega, ⟨⟨by show 0 ≤ kd ta p (plN ta tl p); omega, by show kd ta p (plN ta tl p) ≤ 5; omega⟩, (by show -999 ≤ x23 ∧ x23 ≤ (999 : Int); omega), (by show -999 ≤ x26 ∧ x26 ≤ (999 : Int); omega)⟩, _, rfl, fr_s (by decide) (fr_s (by decide) (fr_s (by decide) (fr_s (by decide) hF))), rr_set_eq, rfl, rfl, rfl⟩⟩
                                       unfold rD
                                       rw [if_neg ek]
                                       rw [rA_12 (by omega), s1]; show sb (sb (sb (rB ta tl q23) (rN ta tl)) _) _ = _; rw [s2]; rfl
                                       done)
                                    | (refine ⟨rfl, Or.inl ⟨q35, (kd ta p (plN ta tl p), x32, x35), ?_, by omega, by omega, ⟨⟨by show 0 ≤ kd ta p (plN ta tl p); omega, by show kd ta p (plN ta tl p) ≤ 5; omega⟩, (by show -999 ≤ x32 ∧ x32 ≤ (999 : Int); omega), (by show -999 ≤ x35 ∧ x35 ≤ (999 : Int); omega)⟩, _, rfl, fr_s (by decide) (fr_s (by decide) (fr_s (by decide) (fr_s (by decide) hF))), rr_set_eq, rfl, rfl, rfl⟩⟩
                                       unfold rD
                                       rw [if_neg ek]
                                       rw [show kd ta p (plN ta tl p) = 5 by omega, rA_5, s1]; show sb (sb (sb (rB ta tl q32) (rP ta tl)) _) _ = _; rw [s2]; rfl
                                       done)
                                    | (refine ⟨rfl, Or.inl ⟨(plN ta tl p), (kd ta p (plN ta tl p), 0, 0), ?_, by omega, by omega, ⟨⟨by show 0 ≤ kd ta p (plN ta tl p); omega, by show kd ta p (plN ta tl p) ≤ 5; omega⟩, (by show -999 ≤ 0 ∧ 0 ≤ (999 : Int); omega), (by show -999 ≤ 0 ∧ 0 ≤ (999 : Int); omega)⟩, _, rfl, fr_s (by decide) (fr_s (by decide) (fr_s (by decide) (fr_s (by decide) hF))), rr_set_eq, rfl, rfl, rfl⟩⟩
                                       unfold rD
                                       rw [if_neg ek]
                                       rw [rA_3 (by omega)]; rfl
                                       done)
                                    | (have eD : rD ta tl p = .inl f14 := by
                                         unfold rD
                                         rw [if_neg ek]
                                         rw [show kd ta p (plN ta tl p) = 0 by omega, rA_0, ef]; rfl
                                       refine ⟨rfl, Or.inr ⟨_, eD, rD_l hp eD, _, _, _, _, _, _, rfl, fr_s (by decide) (fr_s (by decide) (fr_s (by decide) (fr_s (by decide) hF))), rr_set_eq, rfl, rfl, rfl⟩⟩
                                       done)
                                    | (have eD : rD ta tl p = .inl f26 := by
                                         unfold rD
                                         rw [if_neg ek]
                                         rw [rA_12 (by omega), s1]; show sb (sb (sb (rB ta tl q23) (rN ta tl)) _) _ = _; rw [ef]; rfl
                                       refine ⟨rfl, Or.inr ⟨_, eD, rD_l hp eD, _, _, _, _, _, _, rfl, fr_s (by decide) (fr_s (by decide) (fr_s (by decide) (fr_s (by decide) hF))), rr_set_eq, rfl, rfl, rfl⟩⟩
                                       done)
                                    | (have eD : rD ta tl p = .inl f23 := by
                                         unfold rD
                                         rw [if_neg ek]
                                         rw [rA_12 (by omega), ef]; rfl
                                       refine ⟨rfl, Or.inr ⟨_, eD, rD_l hp eD, _, _, _, _, _, _, rfl, fr_s (by decide) (fr_s (by decide) (fr_s (by decide) (fr_s (by decide) hF))), rr_set_eq, rfl, rfl, rfl⟩⟩
                                       done)
                                    | (have eD : rD ta tl p = .inl f35 := by
                                         unfold rD
                                         rw [if_neg ek]
                                         rw [show kd ta p (plN ta tl p) = 5 by omega, rA_5, s1]; show sb (sb (sb (rB ta tl q32) (rP ta tl)) _) _ = _; rw [ef]; rfl
                                       refine ⟨rfl, Or.inr ⟨_, eD, rD_l hp eD, _, _, _, _, _, _, rfl, fr_s (by decide) (fr_s (by decide) (fr_s (by decide) (fr_s (by decide) hF))), rr_set_eq, rfl, rfl, rfl⟩⟩
                                       done)
                                    | (have eD : rD ta tl p = .inl f32 := by
                                         unfold rD
                                         rw [if_neg ek]
                                         rw [show kd ta p (plN ta tl p) = 5 by omega, rA_5, ef]; rfl
                                       refine ⟨rfl, Or.inr ⟨_, eD, rD_l hp eD, _, _, _, _, _, _, rfl, fr_s (by decide) (fr_s (by decide) (fr_s (by decide) (fr_s (by decide) hF))), rr_set_eq, rfl, rfl, rfl⟩⟩
                                       done)
    · first
      | (exact absurd rfl q5)
      | skip
        refine s_return rfl ?_
        exact ⟨rfl, Or.inr ⟨p, by unfold rD; rw [if_pos ek], hp, _, _, _, _, _, h1, rfl, hF, c58, c62, c63, c64⟩⟩
  · have c61 := (hf1 61 (by decide)).trans c61
    have c62 := (hf1 62 (by decide)).trans c62
    have c63 := (hf1 63 (by decide)).trans c63
    have c64 := (hf1 64 (by decide)).trans c64
    have hF := fr_t hF hf1 (by decide)
    refine s_istore_n rfl (cn rfl) ?_
    refine s_aload_n rfl (cn rfl) rfl ?_
    refine s_getfield rfl (cn rfl) c58 rfl ?_
    refine s_if_eq rfl (cn rfl) (cn rfl) ⟨by omega, by omega⟩ (fun q5 => ?_) (fun q5 => ?_)
    · first
      | (exact absurd q5 (by decide))
      | skip
        refine s_iconst rfl (cn rfl) ?_
        refine s_istore_n rfl (cn rfl) ?_
        refine s_iconst rfl (cn rfl) ?_
        refine s_istore_n rfl (cn rfl) ?_
        refine s_iload_n rfl (cn rfl) rfl ?_
        refine s_if_ne rfl (cn rfl) (cn rfl) ⟨by omega, by omega⟩ (fun q12 => ?_) (fun q12 => ?_)
        · first
          | (exfalso; omega)
          | skip
            refine s_iload_n rfl (cn rfl) rfl ?_
            refine s_iconst rfl (cn rfl) ?_
            refine s_icmp_eq rfl (cn rfl) (cn rfl) ⟨by omega, by omega⟩ ⟨by omega, by omega⟩ (fun q18 => ?_) (fun q18 => ?_)
            · first
              | (exfalso; omega)
              | skip
                refine s_aload_n rfl (cn rfl) rfl ?_
                refine s_virt rfl (cn rfl) rfl rfl c58 rfl (m_group1 c58) ?_
                rintro _ _ ⟨rfl, rfl⟩
                · refine s_istore_n rfl (cn rfl) ?_
                  refine s_aload_n rfl (cn rfl) rfl ?_
                  refine s_virt rfl (cn rfl) rfl rfl c58 rfl (m_number1 c58) ?_
                  rintro _ _ ⟨rfl, rfl⟩
                  · refine s_istore_n rfl (cn rfl) ?_
                    refine s_iload_n rfl (cn rfl) rfl ?_
                    refine s_iconst rfl (cn rfl) ?_
                    refine s_icmp_ne rfl (cn rfl) (cn rfl) ⟨by omega, by omega⟩ ⟨by omega, by omega⟩ (fun q30 => ?_) (fun q30 => ?_)
                    · first
                      | (exfalso; omega)
                      | skip
                        refine s_aload_n rfl (cn rfl) rfl ?_
                        refine s_getfield rfl (cn rfl) c58 rfl ?_
                        refine s_aload_n rfl (cn rfl) rfl ?_
                        refine s_getfield rfl (cn rfl) c58 rfl ?_
                        refine s_iload_n rfl (cn rfl) rfl ?_
                        refine s_iastore rfl (cn rfl) _ rfl c62 (by omega) (by decide) ?_
                        refine s_aload_n rfl (cn rfl) rfl ?_
                        refine s_getfield rfl (cn rfl) c58 rfl ?_
                        refine s_aload_n rfl (cn rfl) rfl ?_
                        refine s_getfield rfl (cn rfl) c58 rfl ?_
                        refine s_iload_n rfl (cn rfl) rfl ?_
                        refine s_iastore rfl (cn rfl) _ rfl c63 (by omega) (by decide) ?_
                        refine s_aload_n rfl (cn rfl) rfl ?_
                        refine s_getfield rfl (cn rfl) c58 rfl ?_
                        refine s_aload_n rfl (cn rfl) rfl ?_
                        refine s_getfield rfl (cn rfl) c58 rfl ?_
                        refine s_iload_n rfl (cn rfl) rfl ?_
                        refine s_iastore rfl (cn rfl) _ rfl c64 (by omega) (by decide) ?_
                        refine s_aload_n rfl (cn rfl) rfl ?_
                        refine s_dupr rfl (cn rfl) ?_
                        refine s_getfield rfl (cn rfl) c58 rfl ?_
                        refine s_iconst rfl (cn rfl) ?_
                        refine s_iadd rfl (cn rfl) ?_
                        refine s_puti rfl (cn rfl) rfl c58 rfl ?_
                        refine s_return rfl ?_
                        first
                          | (refine ⟨rfl, Or.inl ⟨q14, (kd ta p (plN ta tl p), x14, 0), ?_, by omega, by omega, ⟨⟨by show 0 ≤ kd ta p (plN ta tl p); omega, by show kd ta p (plN ta tl p) ≤ 5; omega⟩, (by show -999 ≤ x14 ∧ x14 ≤ (999 : Int); omega), (by show -999 ≤ 0 ∧ 0 ≤ (999 : Int); omega)⟩, _, rfl, fr_s (by decide) (fr_s (by decide) (fr_s (by decide) (fr_s (by decide) hF))), rr_set_eq, rfl, rfl, rfl⟩⟩
                             unfold rD
                             rw [if_neg ek]
                             rw [show kd ta p (plN ta tl p) = 0 by omega, rA_0, s1]; rfl
                             done)
                          | (refine ⟨rfl, Or.inl ⟨q26, (kd ta p (plN ta tl p), x23, x26), ?_, by omega, by omega, ⟨⟨by show 0 ≤ kd ta p (plN ta tl p); omega, by show kd ta p (plN ta tl p) ≤ 5; omega⟩, (by show -999 ≤ x23 ∧ x23 ≤ (999 : Int); omega), (by show -999 ≤ x26 ∧ x26 ≤ (999 : Int); omega)⟩, _, rfl, fr_s (by decide) (fr_s (by decide) (fr_s (by decide) (fr_s (by decide) hF))), rr_set_eq, rfl, rfl, rfl⟩⟩
                             unfold rD
                             rw [if_neg ek]
                             rw [rA_12 (by omega), s1]; show sb (sb (sb (rB ta tl q23) (rN ta tl)) _) _ = _; rw [s2]; rfl
                             done)
                          | (refine ⟨rfl, Or.inl ⟨q35, (kd ta p (plN ta tl p), x32, x35), ?_, by omega, by omega, ⟨⟨by show 0 ≤ kd ta p (plN ta tl p); omega, by show kd ta p (plN ta tl p) ≤ 5; omega⟩, (by show -999 ≤ x32 ∧ x32 ≤ (999 : Int); omega), (by show -999 ≤ x35 ∧ x35 ≤ (999 : Int); omega)⟩, _, rfl, fr_s (by decide) (fr_s (by decide) (fr_s (by decide) (fr_s (by decide) hF))), rr_set_eq, rfl, rfl, rfl⟩⟩
                             unfold rD
                             rw [if_neg ek]
                             rw [show kd ta p (plN ta tl p) = 5 by omega, rA_5, s1]; show sb (sb (sb (rB ta tl q32) (rP ta tl)) _) _ = _; rw [s2]; rfl
                             done)
                          | (refine ⟨rfl, Or.inl ⟨(plN ta tl p), (kd ta p (plN ta tl p), 0, 0), ?_, by omega, by omega, ⟨⟨by show 0 ≤ kd ta p (plN ta tl p); omega, by show kd ta p (plN ta tl p) ≤ 5; omega⟩, (by show -999 ≤ 0 ∧ 0 ≤ (999 : Int); omega), (by show -999 ≤ 0 ∧ 0 ≤ (999 : Int); omega)⟩, _, rfl, fr_s (by decide) (fr_s (by decide) (fr_s (by decide) (fr_s (by decide) hF))), rr_set_eq, rfl, rfl, rfl⟩⟩
                             unfold rD
                             rw [if_neg ek]
                             rw [rA_3 (by omega)]; rfl
                             done)
                          | (have eD : rD ta tl p = .inl f14 := by
                               unfold rD
                               rw [if_neg ek]
                               rw [show kd ta p (plN ta tl p) = 0 by omega, rA_0, ef]; rfl
                             refine ⟨rfl, Or.inr ⟨_, eD, rD_l hp eD, _, _, _, _, _, _, rfl, fr_s (by decide) (fr_s (by decide) (fr_s (by decide) (fr_s (by decide) hF))), rr_set_eq, rfl, rfl, rfl⟩⟩
                             done)
                          | (have eD : rD ta tl p = .inl f26 := by
                               unfold rD
                               rw [if_neg ek]
                               rw [rA_12 (by omega), s1]; show sb (sb (sb (rB ta tl q23) (rN ta tl)) _) _ = _; rw [ef]; rfl
                             refine ⟨rfl, Or.inr ⟨_, eD, rD_l hp eD, _, _, _, _, _, _, rfl, fr_s (by decide) (fr_s (by decide) (fr_s (by decide) (fr_s (by decide) hF))), rr_set_eq, rfl, rfl, rfl⟩⟩
                             done)
                          | (have eD : rD ta tl p = .inl f23 := by
                               unfold rD
                               rw [if_neg ek]
                               rw [rA_12 (by omega), ef]; rfl
                             refine ⟨rfl, Or.inr ⟨_, eD, rD_l hp eD, _, _, _, _, _, _, rfl, fr_s (by decide) (fr_s (by decide) (fr_s (by decide) (fr_s (by decide) hF))), rr_set_eq, rfl, rfl, rfl⟩⟩
                             done)
                          | (have eD : rD ta tl p = .inl f35 := by
                               unfold rD
                               rw [if_neg ek]
                               rw [show kd ta p (plN ta tl p) = 5 by omega, rA_5, s1]; show sb (sb (sb (rB ta tl q32) (rP ta tl)) _) _ = _; rw [ef]; rfl
                             refine ⟨rfl, Or.inr ⟨_, eD, rD_l hp eD, _, _, _, _, _, _, rfl, fr_s (by decide) (fr_s (by decide) (fr_s (by decide) (fr_s (by decide) hF))), rr_set_eq, rfl, rfl, rfl⟩⟩
                             done)
                          | (have eD : rD ta tl p = .inl f32 := by
                               unfold rD
                               rw [if_neg ek]
                               rw [show kd ta p (plN ta tl p) = 5 by omega, rA_5, ef]; rfl
                             refine ⟨rfl, Or.inr ⟨_, eD, rD_l hp eD, _, _, _, _, _, _, rfl, fr_s (by decide) (fr_s (by decide) (fr_s (by decide) (fr_s (by decide) hF))), rr_set_eq, rfl, rfl, rfl⟩⟩
                             done)
                    · first
                      | (exfalso; omega)
                      | skip
                        refine s_aload_n rfl (cn rfl) rfl ?_
                        refine s_virt rfl (cn rfl) rfl rfl c58 rfl (m_person1 c58) ?_
                        rintro _ _ ⟨rfl, rfl⟩
                        · refine s_istore_n rfl (cn rfl) ?_
                          refine s_aload_n rfl (cn rfl) rfl ?_
                          refine s_virt rfl (cn rfl) rfl rfl c58 rfl (m_person1 c58) ?_
                          rintro _ _ ⟨rfl, rfl⟩
                          · refine s_istore_n rfl (cn rfl) ?_
                            refine s_aload_n rfl (cn rfl) rfl ?_
                            refine s_getfield rfl (cn rfl) c58 rfl ?_
                            refine s_aload_n rfl (cn rfl) rfl ?_
                            refine s_getfield rfl (cn rfl) c58 rfl ?_
                            refine s_iload_n rfl (cn rfl) rfl ?_
                            refine s_iastore rfl (cn rfl) _ rfl c62 (by omega) (by decide) ?_
                            refine s_aload_n rfl (cn rfl) rfl ?_
                            refine s_getfield rfl (cn rfl) c58 rfl ?_
                            refine s_aload_n rfl (cn rfl) rfl ?_
                            refine s_getfield rfl (cn rfl) c58 rfl ?_
                            refine s_iload_n rfl (cn rfl) rfl ?_
                            refine s_iastore rfl (cn rfl) _ rfl c63 (by omega) (by decide) ?_
                            refine s_aload_n rfl (cn rfl) rfl ?_
                            refine s_getfield rfl (cn rfl) c58 rfl ?_
                            refine s_aload_n rfl (cn rfl) rfl ?_
                            refine s_getfield rfl (cn rfl) c58 rfl ?_
                            refine s_iload_n rfl (cn rfl) rfl ?_
                            refine s_iastore rfl (cn rfl) _ rfl c64 (by omega) (by decide) ?_
                            refine s_aload_n rfl (cn rfl) rfl ?_
                            refine s_dupr rfl (cn rfl) ?_
                            refine s_getfield rfl (cn rfl) c58 rfl ?_
                            refine s_iconst rfl (cn rfl) ?_
                            refine s_iadd rfl (cn rfl) ?_
                            refine s_puti rfl (cn rfl) rfl c58 rfl ?_
                            refine s_return rfl ?_
                            first
                              | (refine ⟨rfl, Or.inl ⟨q14, (kd ta p (plN ta tl p), x14, 0), ?_, by omega, by omega, ⟨⟨by show 0 ≤ kd ta p (plN ta tl p); omega, by show kd ta p (plN ta tl p) ≤ 5; omega⟩, (by show -999 ≤ x14 ∧ x14 ≤ (999 : Int); omega), (by show -999 ≤ 0 ∧ 0 ≤ (999 : Int); omega)⟩, _, rfl, fr_s (by decide) (fr_s (by decide) (fr_s (by decide) (fr_s (by decide) hF))), rr_set_eq, rfl, rfl, rfl⟩⟩
                                 unfold rD
                                 rw [if_neg ek]
                                 rw [show kd ta p (plN ta tl p) = 0 by omega, rA_0, s1]; rfl
                                 done)
                              | (refine ⟨rfl, Or.inl ⟨q26, (kd ta p (plN ta tl p), x23, x26), ?_, by omega, by omega, ⟨⟨by show 0 ≤ kd ta p (plN ta tl p); omega, by show kd ta p (plN ta tl p) ≤ 5; omega⟩, (by show -999 ≤ x23 ∧ x23 ≤ (999 : Int); omega), (by show -999 ≤ x26 ∧ x26 ≤ (999 : Int); omega)⟩, _, rfl, fr_s (by decide) (fr_s (by decide) (fr_s (by decide) (fr_s (by decide) hF))), rr_set_eq, rfl, rfl, rfl⟩⟩
                                 unfold rD
                                 rw [if_neg ek]
                                 rw [rA_12 (by omega), s1]; show sb (sb (sb (rB ta tl q23) (rN ta tl)) _) _ = _; rw [s2]; rfl
                                 done)
                              | (refine ⟨rfl, Or.inl ⟨q35, (kd ta p (plN ta tl p), x32, x35), ?_, by omega, by omega, ⟨⟨by show 0 ≤ kd ta p (plN ta tl p); omega, by show kd ta p (plN ta tl p) ≤ 5; omega⟩, (by show -999 ≤ x32 ∧ x32 ≤ (999 : Int); omega), (by show -999 ≤ x35 ∧ x35 ≤ (999 : Int); omega)⟩, _, rfl, fr_s (by decide) (fr_s (by decide) (fr_s (by decide) (fr_s (by decide) hF))), rr_set_eq, rfl, rfl, rfl⟩⟩
                                 unfold rD
                                 rw [if_neg ek]
                                 rw [show kd ta p (plN ta tl p) = 5 by omega, rA_5, s1]; show sb (sb (sb (rB ta tl q32) (rP ta tl)) _) _ = _; rw [s2]; rfl
                                 done)
                              | (refine ⟨rfl, Or.inl ⟨(plN ta tl p), (kd ta p (plN ta tl p), 0, 0), ?_, by omega, by omega, ⟨⟨by show 0 ≤ kd ta p (plN ta tl p); omega, by show kd ta p (plN ta tl p) ≤ 5; omega⟩, (by show -999 ≤ 0 ∧ 0 ≤ (999 : Int); omega), (by show -999 ≤ 0 ∧ 0 ≤ (999 : Int); omega)⟩, _, rfl, fr_s (by decide) (fr_s (by decide) (fr_s (by decide) (fr_s (by decide) hF))), rr_set_eq, rfl, rfl, rfl⟩⟩
                                 unfold rD
                                 rw [if_neg ek]
                                 rw [rA_3 (by omega)]; rfl
                                 done)
                              | (have eD : rD ta tl p = .inl f14 := by
                                   unfold rD
                                   rw [if_neg ek]
                                   rw [show kd ta p (plN ta tl p) = 0 by omega, rA_0, ef]; rfl
                                 refine ⟨rfl, Or.inr ⟨_, eD, rD_l hp eD, _, _, _, _, _, _, rfl, fr_s (by decide) (fr_s (by decide) (fr_s (by decide) (fr_s (by decide) hF))), rr_set_eq, rfl, rfl, rfl⟩⟩
                                 done)
                              | (have eD : rD ta tl p = .inl f26 := by
                                   unfold rD
                                   rw [if_neg ek]
                                   rw [rA_12 (by omega), s1]; show sb (sb (sb (rB ta tl q23) (rN ta tl)) _) _ = _; rw [ef]; rfl
                                 refine ⟨rfl, Or.inr ⟨_, eD, rD_l hp eD, _, _, _, _, _, _, rfl, fr_s (by decide) (fr_s (by decide) (fr_s (by decide) (fr_s (by decide) hF))), rr_set_eq, rfl, rfl, rfl⟩⟩
                                 done)
                              | (have eD : rD ta tl p = .inl f23 := by
                                   unfold rD
                                   rw [if_neg ek]
                                   rw [rA_12 (by omega), ef]; rfl
                                 refine ⟨rfl, Or.inr ⟨_, eD, rD_l hp eD, _, _, _, _, _, _, rfl, fr_s (by decide) (fr_s (by decide) (fr_s (by decide) (fr_s (by decide) hF))), rr_set_eq, rfl, rfl, rfl⟩⟩
                                 done)
                              | (have eD : rD ta tl p = .inl f35 := by
                                   unfold rD
                                   rw [if_neg ek]
                                   rw [show kd ta p (plN ta tl p) = 5 by omega, rA_5, s1]; show sb (sb (sb (rB ta tl q32) (rP ta tl)) _) _ = _; rw [ef]; rfl
                                 refine ⟨rfl, Or.inr ⟨_, eD, rD_l hp eD, _, _, _, _, _, _, rfl, fr_s (by decide) (fr_s (by decide) (fr_s (by decide) (fr_s (by decide) hF))), rr_set_eq, rfl, rfl, rfl⟩⟩
                                 done)
                              | (have eD : rD ta tl p = .inl f32 := by
                                   unfold rD
                                   rw [if_neg ek]
                                   rw [show kd ta p (plN ta tl p) = 5 by omega, rA_5, ef]; rfl
                                 refine ⟨rfl, Or.inr ⟨_, eD, rD_l hp eD, _, _, _, _, _, _, rfl, fr_s (by decide) (fr_s (by decide) (fr_s (by decide) (fr_s (by decide) hF))), rr_set_eq, rfl, rfl, rfl⟩⟩
                                 done)
            · first
              | (exfalso; omega)
              | skip
                refine s_iload_n rfl (cn rfl) rfl ?_
                refine s_iconst rfl (cn rfl) ?_
                refine s_icmp_ne rfl (cn rfl) (cn rfl) ⟨by omega, by omega⟩ ⟨by omega, by omega⟩ (fun q21 => ?_) (fun q21 => ?_)
                · first
                  | (exfalso; omega)
                  | skip
                    refine s_iload_n rfl (cn rfl) rfl ?_
                    refine s_iconst rfl (cn rfl) ?_
                    refine s_icmp_ne rfl (cn rfl) (cn rfl) ⟨by omega, by omega⟩ ⟨by omega, by omega⟩ (fun q30 => ?_) (fun q30 => ?_)
                    · first
                      | (exfalso; omega)
                      | skip
                        refine s_aload_n rfl (cn rfl) rfl ?_
                        refine s_getfield rfl (cn rfl) c58 rfl ?_
                        refine s_aload_n rfl (cn rfl) rfl ?_
                        refine s_getfield rfl (cn rfl) c58 rfl ?_
                        refine s_iload_n rfl (cn rfl) rfl ?_
                        refine s_iastore rfl (cn rfl) _ rfl c62 (by omega) (by decide) ?_
                        refine s_aload_n rfl (cn rfl) rfl ?_
                        refine s_getfield rfl (cn rfl) c58 rfl ?_
                        refine s_aload_n rfl (cn rfl) rfl ?_
                        refine s_getfield rfl (cn rfl) c58 rfl ?_
                        refine s_iload_n rfl (cn rfl) rfl ?_
                        refine s_iastore rfl (cn rfl) _ rfl c63 (by omega) (by decide) ?_
                        refine s_aload_n rfl (cn rfl) rfl ?_
                        refine s_getfield rfl (cn rfl) c58 rfl ?_
                        refine s_aload_n rfl (cn rfl) rfl ?_
                        refine s_getfield rfl (cn rfl) c58 rfl ?_
                        refine s_iload_n rfl (cn rfl) rfl ?_
                        refine s_iastore rfl (cn rfl) _ rfl c64 (by omega) (by decide) ?_
                        refine s_aload_n rfl (cn rfl) rfl ?_
                        refine s_dupr rfl (cn rfl) ?_
                        refine s_getfield rfl (cn rfl) c58 rfl ?_
                        refine s_iconst rfl (cn rfl) ?_
                        refine s_iadd rfl (cn rfl) ?_
                        refine s_puti rfl (cn rfl) rfl c58 rfl ?_
                        refine s_return rfl ?_
                        first
                          | (refine ⟨rfl, Or.inl ⟨q14, (kd ta p (plN ta tl p), x14, 0), ?_, by omega, by omega, ⟨⟨by show 0 ≤ kd ta p (plN ta tl p); omega, by show kd ta p (plN ta tl p) ≤ 5; omega⟩, (by show -999 ≤ x14 ∧ x14 ≤ (999 : Int); omega), (by show -999 ≤ 0 ∧ 0 ≤ (999 : Int); omega)⟩, _, rfl, fr_s (by decide) (fr_s (by decide) (fr_s (by decide) (fr_s (by decide) hF))), rr_set_eq, rfl, rfl, rfl⟩⟩
                             unfold rD
                             rw [if_neg ek]
                             rw [show kd ta p (plN ta tl p) = 0 by omega, rA_0, s1]; rfl
                             done)
                          | (refine ⟨rfl, Or.inl ⟨q26, (kd ta p (plN ta tl p), x23, x26), ?_, by omega, by omega, ⟨⟨by show 0 ≤ kd ta p (plN ta tl p); omega, by show kd ta p (plN ta tl p) ≤ 5; omega⟩, (by show -999 ≤ x23 ∧ x23 ≤ (999 : Int); omega), (by show -999 ≤ x26 ∧ x26 ≤ (999 : Int); omega)⟩, _, rfl, fr_s (by decide) (fr_s (by decide) (fr_s (by decide) (fr_s (by decide) hF))), rr_set_eq, rfl, rfl, rfl⟩⟩
                             unfold rD
                             rw [if_neg ek]
                             rw [rA_12 (by omega), s1]; show sb (sb (sb (rB ta tl q23) (rN ta tl)) _) _ = _; rw [s2]; rfl
                             done)
                          | (refine ⟨rfl, Or.inl ⟨q35, (kd ta p (plN ta tl p), x32, x35), ?_, by omega, by omega, ⟨⟨by show 0 ≤ kd ta p (plN ta tl p); omega, by show kd ta p (plN ta tl p) ≤ 5; omega⟩, (by show -999 ≤ x32 ∧ x32 ≤ (999 : Int); omega), (by show -999 ≤ x35 ∧ x35 ≤ (999 : Int); omega)⟩, _, rfl, fr_s (by decide) (fr_s (by decide) (fr_s (by decide) (fr_s (by decide) hF))), rr_set_eq, rfl, rfl, rfl⟩⟩
                             unfold rD
                             rw [if_neg ek]
                             rw [show kd ta p (plN ta tl p) = 5 by omega, rA_5, s1]; show sb (sb (sb (rB ta tl q32) (rP ta tl)) _) _ = _; rw [s2]; rfl
                             done)
                          | (refine ⟨rfl, Or.inl ⟨(plN ta tl p), (kd ta p (plN ta tl p), 0, 0), ?_, by omega, by omega, ⟨⟨by show 0 ≤ kd ta p (plN ta tl p); omega, by show kd ta p (plN ta tl p) ≤ 5; omega⟩, (by show -999 ≤ 0 ∧ 0 ≤ (999 : Int); omega), (by show -999 ≤ 0 ∧ 0 ≤ (999 : Int); omega)⟩, _, rfl, fr_s (by decide) (fr_s (by decide) (fr_s (by decide) (fr_s (by decide) hF))), rr_set_eq, rfl, rfl, rfl⟩⟩
                             unfold rD
                             rw [if_neg ek]
                             rw [rA_3 (by omega)]; rfl
                             done)
                          | (have eD : rD ta tl p = .inl f14 := by
                               unfold rD
                               rw [if_neg ek]
                               rw [show kd ta p (plN ta tl p) = 0 by omega, rA_0, ef]; rfl
                             refine ⟨rfl, Or.inr ⟨_, eD, rD_l hp eD, _, _, _, _, _, _, rfl, fr_s (by decide) (fr_s (by decide) (fr_s (by decide) (fr_s (by decide) hF))), rr_set_eq, rfl, rfl, rfl⟩⟩
                             done)
                          | (have eD : rD ta tl p = .inl f26 := by
                               unfold rD
                               rw [if_neg ek]
                               rw [rA_12 (by omega), s1]; show sb (sb (sb (rB ta tl q23) (rN ta tl)) _) _ = _; rw [ef]; rfl
                             refine ⟨rfl, Or.inr ⟨_, eD, rD_l hp eD, _, _, _, _, _, _, rfl, fr_s (by decide) (fr_s (by decide) (fr_s (by decide) (fr_s (by decide) hF))), rr_set_eq, rfl, rfl, rfl⟩⟩
                             done)
                          | (have eD : rD ta tl p = .inl f23 := by
                               unfold rD
                               rw [if_neg ek]
                               rw [rA_12 (by omega), ef]; rfl
                             refine ⟨rfl, Or.inr ⟨_, eD, rD_l hp eD, _, _, _, _, _, _, rfl, fr_s (by decide) (fr_s (by decide) (fr_s (by decide) (fr_s (by decide) hF))), rr_set_eq, rfl, rfl, rfl⟩⟩
                             done)
                          | (have eD : rD ta tl p = .inl f35 := by
                               unfold rD
                               rw [if_neg ek]
                               rw [show kd ta p (plN ta tl p) = 5 by omega, rA_5, s1]; show sb (sb (sb (rB ta tl q32) (rP ta tl)) _) _ = _; rw [ef]; rfl
                             refine ⟨rfl, Or.inr ⟨_, eD, rD_l hp eD, _, _, _, _, _, _, rfl, fr_s (by decide) (fr_s (by decide) (fr_s (by decide) (fr_s (by decide) hF))), rr_set_eq, rfl, rfl, rfl⟩⟩
                             done)
                          | (have eD : rD ta tl p = .inl f32 := by
                               unfold rD
                               rw [if_neg ek]
                               rw [show kd ta p (plN ta tl p) = 5 by omega, rA_5, ef]; rfl
                             refine ⟨rfl, Or.inr ⟨_, eD, rD_l hp eD, _, _, _, _, _, _, rfl, fr_s (by decide) (fr_s (by decide) (fr_s (by decide) (fr_s (by decide) hF))), rr_set_eq, rfl, rfl, rfl⟩⟩
                             done)
                    · first
                      | (exfalso; omega)
                      | skip
                        refine s_aload_n rfl (cn rfl) rfl ?_
                        refine s_virt rfl (cn rfl) rfl rfl c58 rfl (m_person1 c58) ?_
                        rintro _ _ ⟨rfl, rfl⟩
                        · refine s_istore_n rfl (cn rfl) ?_
                          refine s_aload_n rfl (cn rfl) rfl ?_
                          refine s_virt rfl (cn rfl) rfl rfl c58 rfl (m_person1 c58) ?_
                          rintro _ _ ⟨rfl, rfl⟩
                          · refine s_istore_n rfl (cn rfl) ?_
                            refine s_aload_n rfl (cn rfl) rfl ?_
                            refine s_getfield rfl (cn rfl) c58 rfl ?_
                            refine s_aload_n rfl (cn rfl) rfl ?_
                            refine s_getfield rfl (cn rfl) c58 rfl ?_
                            refine s_iload_n rfl (cn rfl) rfl ?_
                            refine s_iastore rfl (cn rfl) _ rfl c62 (by omega) (by decide) ?_
                            refine s_aload_n rfl (cn rfl) rfl ?_
                            refine s_getfield rfl (cn rfl) c58 rfl ?_
                            refine s_aload_n rfl (cn rfl) rfl ?_
                            refine s_getfield rfl (cn rfl) c58 rfl ?_
                            refine s_iload_n rfl (cn rfl) rfl ?_
                            refine s_iastore rfl (cn rfl) _ rfl c63 (by omega) (by decide) ?_
                            refine s_aload_n rfl (cn rfl) rfl ?_
                            refine s_getfield rfl (cn rfl) c58 rfl ?_
                            refine s_aload_n rfl (cn rfl) rfl ?_
                            refine s_getfield rfl (cn rfl) c58 rfl ?_
                            refine s_iload_n rfl (cn rfl) rfl ?_
                            refine s_iastore rfl (cn rfl) _ rfl c64 (by omega) (by decide) ?_
                            refine s_aload_n rfl (cn rfl) rfl ?_
                            refine s_dupr rfl (cn rfl) ?_
                            refine s_getfield rfl (cn rfl) c58 rfl ?_
                            refine s_iconst rfl (cn rfl) ?_
                            refine s_iadd rfl (cn rfl) ?_
                            refine s_puti rfl (cn rfl) rfl c58 rfl ?_
                            refine s_return rfl ?_
                            first
                              | (refine ⟨rfl, Or.inl ⟨q14, (kd ta p (plN ta tl p), x14, 0), ?_, by omega, by omega, ⟨⟨by show 0 ≤ kd ta p (plN ta tl p); omega, by show kd ta p (plN ta tl p) ≤ 5; omega⟩, (by show -999 ≤ x14 ∧ x14 ≤ (999 : Int); omega), (by show -999 ≤ 0 ∧ 0 ≤ (999 : Int); omega)⟩, _, rfl, fr_s (by decide) (fr_s (by decide) (fr_s (by decide) (fr_s (by decide) hF))), rr_set_eq, rfl, rfl, rfl⟩⟩
                                 unfold rD
                                 rw [if_neg ek]
                                 rw [show kd ta p (plN ta tl p) = 0 by omega, rA_0, s1]; rfl
                                 done)
                              | (refine ⟨rfl, Or.inl ⟨q26, (kd ta p (plN ta tl p), x23, x26), ?_, by omega, by omega, ⟨⟨by show 0 ≤ kd ta p (plN ta tl p); omega, by show kd ta p (plN ta tl p) ≤ 5; omega⟩, (by show -999 ≤ x23 ∧ x23 ≤ (999 : Int); omega), (by show -999 ≤ x26 ∧ x26 ≤ (999 : Int); omega)⟩, _, rfl, fr_s (by decide) (fr_s (by decide) (fr_s (by decide) (fr_s (by decide) hF))), rr_set_eq, rfl, rfl, rfl⟩⟩
                                 unfold rD
                                 rw [if_neg ek]
                                 rw [rA_12 (by omega), s1]; show sb (sb (sb (rB ta tl q23) (rN ta tl)) _) _ = _; rw [s2]; rfl
                                 done)
                              | (refine ⟨rfl, Or.inl ⟨q35, (kd ta p (plN ta tl p), x32, x35), ?_, by omega, by omega, ⟨⟨by show 0 ≤ kd ta p (plN ta tl p); omega, by show kd ta p (plN ta tl p) ≤ 5; omega⟩, (by show -999 ≤ x32 ∧ x32 ≤ (999 : Int); omega), (by show -999 ≤ x35 ∧ x35 ≤ (999 : Int); omega)⟩, _, rfl, fr_s (by decide) (fr_s (by decide) (fr_s (by decide) (fr_s (by decide) hF))), rr_set_eq, rfl, rfl, rfl⟩⟩
                                 unfold rD
                                 rw [if_neg ek]
                                 rw [show kd ta p (plN ta tl p) = 5 by omega, rA_5, s1]; show sb (sb (sb (rB ta tl q32) (rP ta tl)) _) _ = _; rw [s2]; rfl
                                 done)
                              | (refine ⟨rfl, Or.inl ⟨(plN ta tl p), (kd ta p (plN ta tl p), 0, 0), ?_, by omega, by omega, ⟨⟨by show 0 ≤ kd ta p (plN ta tl p); omega, by show kd ta p (plN ta tl p) ≤ 5; omega⟩, (by show -999 ≤ 0 ∧ 0 ≤ (999 : Int); omega), (by show -999 ≤ 0 ∧ 0 ≤ (999 : Int); omega)⟩, _, rfl, fr_s (by decide) (fr_s (by decide) (fr_s (by decide) (fr_s (by decide) hF))), rr_set_eq, rfl, rfl, rfl⟩⟩
                                 unfold rD
                                 rw [if_neg ek]
                                 rw [rA_3 (by omega)]; rfl
                                 done)
                              | (have eD : rD ta tl p = .inl f14 := by
                                   unfold rD
                                   rw [if_neg ek]
                                   rw [show kd ta p (plN ta tl p) = 0 by omega, rA_0, ef]; rfl
                                 refine ⟨rfl, Or.inr ⟨_, eD, rD_l hp eD, _, _, _, _, _, _, rfl, fr_s (by decide) (fr_s (by decide) (fr_s (by decide) (fr_s (by decide) hF))), rr_set_eq, rfl, rfl, rfl⟩⟩
                                 done)
                              | (have eD : rD ta tl p = .inl f26 := by
                                   unfold rD
                                   rw [if_neg ek]
                                   rw [rA_12 (by omega), s1]; show sb (sb (sb (rB ta tl q23) (rN ta tl)) _) _ = _; rw [ef]; rfl
                                 refine ⟨rfl, Or.inr ⟨_, eD, rD_l hp eD, _, _, _, _, _, _, rfl, fr_s (by decide) (fr_s (by decide) (fr_s (by decide) (fr_s (by decide) hF))), rr_set_eq, rfl, rfl, rfl⟩⟩
                                 done)
                              | (have eD : rD ta tl p = .inl f23 := by
                                   unfold rD
                                   rw [if_neg ek]
                                   rw [rA_12 (by omega), ef]; rfl
                                 refine ⟨rfl, Or.inr ⟨_, eD, rD_l hp eD, _, _, _, _, _, _, rfl, fr_s (by decide) (fr_s (by decide) (fr_s (by decide) (fr_s (by decide) hF))), rr_set_eq, rfl, rfl, rfl⟩⟩
                                 done)
                              | (have eD : rD ta tl p = .inl f35 := by
                                   unfold rD
                                   rw [if_neg ek]
                                   rw [show kd ta p (plN ta tl p) = 5 by omega, rA_5, s1]; show sb (sb (sb (rB ta tl q32) (rP ta tl)) _) _ = _; rw [ef]; rfl
                                 refine ⟨rfl, Or.inr ⟨_, eD, rD_l hp eD, _, _, _, _, _, _, rfl, fr_s (by decide) (fr_s (by decide) (fr_s (by decide) (fr_s (by decide) hF))), rr_set_eq, rfl, rfl, rfl⟩⟩
                                 done)
                              | (have eD : rD ta tl p = .inl f32 := by
                                   unfold rD
                                   rw [if_neg ek]
                                   rw [show kd ta p (plN ta tl p) = 5 by omega, rA_5, ef]; rfl
                                 refine ⟨rfl, Or.inr ⟨_, eD, rD_l hp eD, _, _, _, _, _, _, rfl, fr_s (by decide) (fr_s (by decide) (fr_s (by decide) (fr_s (by decide) hF))), rr_set_eq, rfl, rfl, rfl⟩⟩
                                 done)
                · first
                  | (exfalso; omega)
                  | skip
                    refine s_aload_n rfl (cn rfl) rfl ?_
                    refine s_virt rfl (cn rfl) rfl rfl c58 rfl (m_group1 c58) ?_
                    rintro _ _ ⟨rfl, rfl⟩
                    · refine s_istore_n rfl (cn rfl) ?_
                      refine s_aload_n rfl (cn rfl) rfl ?_
                      refine s_virt rfl (cn rfl) rfl rfl c58 rfl (m_number1 c58) ?_
                      rintro _ _ ⟨rfl, rfl⟩
                      · refine s_istore_n rfl (cn rfl) ?_
                        refine s_iload_n rfl (cn rfl) rfl ?_
                        refine s_iconst rfl (cn rfl) ?_
                        refine s_icmp_ne rfl (cn rfl) (cn rfl) ⟨by omega, by omega⟩ ⟨by omega, by omega⟩ (fun q30 => ?_) (fun q30 => ?_)
                        · first
                          | (exfalso; omega)
                          | skip
                            refine s_aload_n rfl (cn rfl) rfl ?_
                            refine s_getfield rfl (cn rfl) c58 rfl ?_
                            refine s_aload_n rfl (cn rfl) rfl ?_
                            refine s_getfield rfl (cn rfl) c58 rfl ?_
                            refine s_iload_n rfl (cn rfl) rfl ?_
                            refine s_iastore rfl (cn rfl) _ rfl c62 (by omega) (by decide) ?_
                            refine s_aload_n rfl (cn rfl) rfl ?_
                            refine s_getfield rfl (cn rfl) c58 rfl ?_
                            refine s_aload_n rfl (cn rfl) rfl ?_
                            refine s_getfield rfl (cn rfl) c58 rfl ?_
                            refine s_iload_n rfl (cn rfl) rfl ?_
                            refine s_iastore rfl (cn rfl) _ rfl c63 (by omega) (by decide) ?_
                            refine s_aload_n rfl (cn rfl) rfl ?_
                            refine s_getfield rfl (cn rfl) c58 rfl ?_
                            refine s_aload_n rfl (cn rfl) rfl ?_
                            refine s_getfield rfl (cn rfl) c58 rfl ?_
                            refine s_iload_n rfl (cn rfl) rfl ?_
                            refine s_iastore rfl (cn rfl) _ rfl c64 (by omega) (by decide) ?_
                            refine s_aload_n rfl (cn rfl) rfl ?_
                            refine s_dupr rfl (cn rfl) ?_
                            refine s_getfield rfl (cn rfl) c58 rfl ?_
                            refine s_iconst rfl (cn rfl) ?_
                            refine s_iadd rfl (cn rfl) ?_
                            refine s_puti rfl (cn rfl) rfl c58 rfl ?_
                            refine s_return rfl ?_
                            first
                              | (refine ⟨rfl, Or.inl ⟨q14, (kd ta p (plN ta tl p), x14, 0), ?_, by omega, by omega, ⟨⟨by show 0 ≤ kd ta p (plN ta tl p); omega, by show kd ta p (plN ta tl p) ≤ 5; omega⟩, (by show -999 ≤ x14 ∧ x14 ≤ (999 : Int); omega), (by show -999 ≤ 0 ∧ 0 ≤ (999 : Int); omega)⟩, _, rfl, fr_s (by decide) (fr_s (by decide) (fr_s (by decide) (fr_s (by decide) hF))), rr_set_eq, rfl, rfl, rfl⟩⟩
                                 unfold rD
                                 rw [if_neg ek]
                                 rw [show kd ta p (plN ta tl p) = 0 by omega, rA_0, s1]; rfl
                                 done)
                              | (refine ⟨rfl, Or.inl ⟨q26, (kd ta p (plN ta tl p), x23, x26), ?_, by omega, by omega, ⟨⟨by show 0 ≤ kd ta p (plN ta tl p); omega, by show kd ta p (plN ta tl p) ≤ 5; omega⟩, (by show -999 ≤ x23 ∧ x23 ≤ (999 : Int); omega), (by show -999 ≤ x26 ∧ x26 ≤ (999 : Int); omega)⟩, _, rfl, fr_s (by decide) (fr_s (by decide) (fr_s (by decide) (fr_s (by decide) hF))), rr_set_eq, rfl, rfl, rfl⟩⟩
                                 unfold rD
                                 rw [if_neg ek]
                                 rw [rA_12 (by omega), s1]; show sb (sb (sb (rB ta tl q23) (rN ta tl)) _) _ = _; rw [s2]; rfl
                                 done)
                              | (refine ⟨rfl, Or.inl ⟨q35, (kd ta p (plN ta tl p), x32, x35), ?_, by omega, by omega, ⟨⟨by show 0 ≤ kd ta p (plN ta tl p); omega, by show kd ta p (plN ta tl p) ≤ 5; omega⟩, (by show -999 ≤ x32 ∧ x32 ≤ (999 : Int); omega), (by show -999 ≤ x35 ∧ x35 ≤ (999 : Int); omega)⟩, _, rfl, fr_s (by decide) (fr_s (by decide) (fr_s (by decide) (fr_s (by decide) hF))), rr_set_eq, rfl, rfl, rfl⟩⟩
                                 unfold rD
                                 rw [if_neg ek]
                                 rw [show kd ta p (plN ta tl p) = 5 by omega, rA_5, s1]; show sb (sb (sb (rB ta tl q32) (rP ta tl)) _) _ = _; rw [s2]; rfl
                                 done)
                              | (refine ⟨rfl, Or.inl ⟨(plN ta tl p), (kd ta p (plN ta tl p), 0, 0), ?_, by omega, by omega, ⟨⟨by show 0 ≤ kd ta p (plN ta tl p); omega, by show kd ta p (plN ta tl p) ≤ 5; omega⟩, (by show -999 ≤ 0 ∧ 0 ≤ (999 : Int); omega), (by show -999 ≤ 0 ∧ 0 ≤ (999 : Int); omega)⟩, _, rfl, fr_s (by decide) (fr_s (by decide) (fr_s (by decide) (fr_s (by decide) hF))), rr_set_eq, rfl, rfl, rfl⟩⟩
                                 unfold rD
                                 rw [if_neg ek]
                                 rw [rA_3 (by omega)]; rfl
                                 done)
                              | (have eD : rD ta tl p = .inl f14 := by
                                   unfold rD
                                   rw [if_neg ek]
                                   rw [show kd ta p (plN ta tl p) = 0 by omega, rA_0, ef]; rfl
                                 refine ⟨rfl, Or.inr ⟨_, eD, rD_l hp eD, _, _, _, _, _, _, rfl, fr_s (by decide) (fr_s (by decide) (fr_s (by decide) (fr_s (by decide) hF))), rr_set_eq, rfl, rfl, rfl⟩⟩
                                 done)
                              | (have eD : rD ta tl p = .inl f26 := by
                                   unfold rD
                                   rw [if_neg ek]
                                   rw [rA_12 (by omega), s1]; show sb (sb (sb (rB ta tl q23) (rN ta tl)) _) _ = _; rw [ef]; rfl
                                 refine ⟨rfl, Or.inr ⟨_, eD, rD_l hp eD, _, _, _, _, _, _, rfl, fr_s (by decide) (fr_s (by decide) (fr_s (by decide) (fr_s (by decide) hF))), rr_set_eq, rfl, rfl, rfl⟩⟩
                                 done)
                              | (have eD : rD ta tl p = .inl f23 := by
                                   unfold rD
                                   rw [if_neg ek]
                                   rw [rA_12 (by omega), ef]; rfl
                                 refine ⟨rfl, Or.inr ⟨_, eD, rD_l hp eD, _, _, _, _, _, _, rfl, fr_s (by decide) (fr_s (by decide) (fr_s (by decide) (fr_s (by decide) hF))), rr_set_eq, rfl, rfl, rfl⟩⟩
                                 done)
                              | (have eD : rD ta tl p = .inl f35 := by
                                   unfold rD
                                   rw [if_neg ek]
                                   rw [show kd ta p (plN ta tl p) = 5 by omega, rA_5, s1]; show sb (sb (sb (rB ta tl q32) (rP ta tl)) _) _ = _; rw [ef]; rfl
                                 refine ⟨rfl, Or.inr ⟨_, eD, rD_l hp eD, _, _, _, _, _, _, rfl, fr_s (by decide) (fr_s (by decide) (fr_s (by decide) (fr_s (by decide) hF))), rr_set_eq, rfl, rfl, rfl⟩⟩
                                 done)
                              | (have eD : rD ta tl p = .inl f32 := by
                                   unfold rD
                                   rw [if_neg ek]
                                   rw [show kd ta p (plN ta tl p) = 5 by omega, rA_5, ef]; rfl
                                 refine ⟨rfl, Or.inr ⟨_, eD, rD_l hp eD, _, _, _, _, _, _, rfl, fr_s (by decide) (fr_s (by decide) (fr_s (by decide) (fr_s (by decide) hF))), rr_set_eq, rfl, rfl, rfl⟩⟩
                                 done)
                        · first
                          | (exfalso; omega)
                          | skip
                            refine s_aload_n rfl (cn rfl) rfl ?_
                            refine s_virt rfl (cn rfl) rfl rfl c58 rfl (m_person1 c58) ?_
                            rintro _ _ ⟨rfl, rfl⟩
                            · refine s_istore_n rfl (cn rfl) ?_
                              refine s_aload_n rfl (cn rfl) rfl ?_
                              refine s_virt rfl (cn rfl) rfl rfl c58 rfl (m_person1 c58) ?_
                              rintro _ _ ⟨rfl, rfl⟩
                              · refine s_istore_n rfl (cn rfl) ?_
                                refine s_aload_n rfl (cn rfl) rfl ?_
                                refine s_getfield rfl (cn rfl) c58 rfl ?_
                                refine s_aload_n rfl (cn rfl) rfl ?_
                                refine s_getfield rfl (cn rfl) c58 rfl ?_
                                refine s_iload_n rfl (cn rfl) rfl ?_
                                refine s_iastore rfl (cn rfl) _ rfl c62 (by omega) (by decide) ?_
                                refine s_aload_n rfl (cn rfl) rfl ?_
                                refine s_getfield rfl (cn rfl) c58 rfl ?_
                                refine s_aload_n rfl (cn rfl) rfl ?_
                                refine s_getfield rfl (cn rfl) c58 rfl ?_
                                refine s_iload_n rfl (cn rfl) rfl ?_
                                refine s_iastore rfl (cn rfl) _ rfl c63 (by omega) (by decide) ?_
                                refine s_aload_n rfl (cn rfl) rfl ?_
                                refine s_getfield rfl (cn rfl) c58 rfl ?_
                                refine s_aload_n rfl (cn rfl) rfl ?_
                                refine s_getfield rfl (cn rfl) c58 rfl ?_
                                refine s_iload_n rfl (cn rfl) rfl ?_
                                refine s_iastore rfl (cn rfl) _ rfl c64 (by omega) (by decide) ?_
                                refine s_aload_n rfl (cn rfl) rfl ?_
                                refine s_dupr rfl (cn rfl) ?_
                                refine s_getfield rfl (cn rfl) c58 rfl ?_
                                refine s_iconst rfl (cn rfl) ?_
                                refine s_iadd rfl (cn rfl) ?_
                                refine s_puti rfl (cn rfl) rfl c58 rfl ?_
                                refine s_return rfl ?_
                                first
                                  | (refine ⟨rfl, Or.inl ⟨q14, (kd ta p (plN ta tl p), x14, 0), ?_, by omega, by omega, ⟨⟨by show 0 ≤ kd ta p (plN ta tl p); omega, by show kd ta p (plN ta tl p) ≤ 5; omega⟩, (by show -999 ≤ x14 ∧ x14 ≤ (999 : Int); omega), (by show -999 ≤ 0 ∧ 0 ≤ (999 : Int); omega)⟩, _, rfl, fr_s (by decide) (fr_s (by decide) (fr_s (by decide) (fr_s (by decide) hF))), rr_set_eq, rfl, rfl, rfl⟩⟩
                                     unfold rD
                                     rw [if_neg ek]
                                     rw [show kd ta p (plN ta tl p) = 0 by omega, rA_0, s1]; rfl
                                     done)
                                  | (refine ⟨rfl, Or.inl ⟨q26, (kd ta p (plN ta tl p), x23, x26), ?_, by omega, by omega, ⟨⟨by show 0 ≤ kd ta p (plN ta tl p); omega, by show kd ta p (plN ta tl p) ≤ 5; omega⟩, (by show -999 ≤ x23 ∧ x23 ≤ (999 : Int); omega), (by show -999 ≤ x26 ∧ x26 ≤ (999 : Int); omega)⟩, _, rfl, fr_s (by decide) (fr_s (by decide) (fr_s (by decide) (fr_s (by decide) hF))), rr_set_eq, rfl, rfl, rfl⟩⟩
                                     unfold rD
                                     rw [if_neg ek]
                                     rw [rA_12 (by omega), s1]; show sb (sb (sb (rB ta tl q23) (rN ta tl)) _) _ = _; rw [s2]; rfl
                                     done)
                                  | (refine ⟨rfl, Or.inl ⟨q35, (kd ta p (plN ta tl p), x32, x35), ?_, by omega, by omega, ⟨⟨by show 0 ≤ kd ta p (plN ta tl p); omega, by show kd ta p (plN ta tl p) ≤ 5; omega⟩, (by show -999 ≤ x32 ∧ x32 ≤ (999 : Int); omega), (by show -999 ≤ x35 ∧ x35 ≤ (999 : Int); omega)⟩, _, rfl, fr_s (by decide) (fr_s (by decide) (fr_s (by decide) (fr_s (by decide) hF))), rr_set_eq, rfl, rfl, rfl⟩⟩
                                     unfold rD
                                     rw [if_neg ek]
                                     rw [show kd ta p (plN ta tl p) = 5 by omega, rA_5, s1]; show sb (sb (sb (rB ta tl q32) (rP ta tl)) _) _ = _; rw [s2]; rfl
                                     done)
                                  | (refine ⟨rfl, Or.inl ⟨(plN ta tl p), (kd ta p (plN ta tl p), 0, 0), ?_, by omega, by omega, ⟨⟨by show 0 ≤ kd ta p (plN ta tl p); omega, by show kd ta p (plN ta tl p) ≤ 5; omega⟩, (by show -999 ≤ 0 ∧ 0 ≤ (999 : Int); omega), (by show -999 ≤ 0 ∧ 0 ≤ (999 : Int); omega)⟩, _, rfl, fr_s (by decide) (fr_s (by decide) (fr_s (by decide) (fr_s (by decide) hF))), rr_set_eq, rfl, rfl, rfl⟩⟩
                                     unfold rD
                                     rw [if_neg ek]
                                     rw [rA_3 (by omega)]; rfl
                                     done)
                                  | (have eD : rD ta tl p = .inl f14 := by
                                       unfold rD
                                       rw [if_neg ek]
                                       rw [show kd ta p (plN ta tl p) = 0 by omega, rA_0, ef]; rfl
                                     refine ⟨rfl, Or.inr ⟨_, eD, rD_l hp eD, _, _, _, _, _, _, rfl, fr_s (by decide) (fr_s (by decide) (fr_s (by decide) (fr_s (by decide) hF))), rr_set_eq, rfl, rfl, rfl⟩⟩
                                     done)
                                  | (have eD : rD ta tl p = .inl f26 := by
                                       unfold rD
                                       rw [if_neg ek]
                                       rw [rA_12 (by omega), s1]; show sb (sb (sb (rB ta tl q23) (rN ta tl)) _) _ = _; rw [ef]; rfl
                                     refine ⟨rfl, Or.inr ⟨_, eD, rD_l hp eD, _, _, _, _, _, _, rfl, fr_s (by decide) (fr_s (by decide) (fr_s (by decide) (fr_s (by decide) hF))), rr_set_eq, rfl, rfl, rfl⟩⟩
                                     done)
                                  | (have eD : rD ta tl p = .inl f23 := by
                                       unfold rD
                                       rw [if_neg ek]
                                       rw [rA_12 (by omega), ef]; rfl
                                     refine ⟨rfl, Or.inr ⟨_, eD, rD_l hp eD, _, _, _, _, _, _, rfl, fr_s (by decide) (fr_s (by decide) (fr_s (by decide) (fr_s (by decide) hF))), rr_set_eq, rfl, rfl, rfl⟩⟩
                                     done)
                                  | (have eD : rD ta tl p = .inl f35 := by
                                       unfold rD
                                       rw [if_neg ek]
                                       rw [show kd ta p (plN ta tl p) = 5 by omega, rA_5, s1]; show sb (sb (sb (rB ta tl q32) (rP ta tl)) _) _ = _; rw [ef]; rfl
                                     refine ⟨rfl, Or.inr ⟨_, eD, rD_l hp eD, _, _, _, _, _, _, rfl, fr_s (by decide) (fr_s (by decide) (fr_s (by decide) (fr_s (by decide) hF))), rr_set_eq, rfl, rfl, rfl⟩⟩
                                     done)
                                  | (have eD : rD ta tl p = .inl f32 := by
                                       unfold rD
                                       rw [if_neg ek]
                                       rw [show kd ta p (plN ta tl p) = 5 by omega, rA_5, ef]; rfl
                                     refine ⟨rfl, Or.inr ⟨_, eD, rD_l hp eD, _, _, _, _, _, _, rfl, fr_s (by decide) (fr_s (by decide) (fr_s (by decide) (fr_s (by decide) hF))), rr_set_eq, rfl, rfl, rfl⟩⟩
                                     done)
        · first
          | (exfalso; omega)
          | skip
            refine s_aload_n rfl (cn rfl) rfl ?_
            refine s_virt rfl (cn rfl) rfl rfl c58 rfl (m_number1 c58) ?_
            rintro _ _ ⟨rfl, rfl⟩
            · refine s_istore_n rfl (cn rfl) ?_
              refine s_iload_n rfl (cn rfl) rfl ?_
              refine s_iconst rfl (cn rfl) ?_
              refine s_icmp_eq rfl (cn rfl) (cn rfl) ⟨by omega, by omega⟩ ⟨by omega, by omega⟩ (fun q18 => ?_) (fun q18 => ?_)
              · first
                | (exfalso; omega)
                | skip
                  refine s_aload_n rfl (cn rfl) rfl ?_
                  refine s_virt rfl (cn rfl) rfl rfl c58 rfl (m_group1 c58) ?_
                  rintro _ _ ⟨rfl, rfl⟩
                  · refine s_istore_n rfl (cn rfl) ?_
                    refine s_aload_n rfl (cn rfl) rfl ?_
                    refine s_virt rfl (cn rfl) rfl rfl c58 rfl (m_number1 c58) ?_
                    rintro _ _ ⟨rfl, rfl⟩
                    · refine s_istore_n rfl (cn rfl) ?_
                      refine s_iload_n rfl (cn rfl) rfl ?_
                      refine s_iconst rfl (cn rfl) ?_
                      refine s_icmp_ne rfl (cn rfl) (cn rfl) ⟨by omega, by omega⟩ ⟨by omega, by omega⟩ (fun q30 => ?_) (fun q30 => ?_)
                      · first
                        | (exfalso; omega)
                        | skip
                          refine s_aload_n rfl (cn rfl) rfl ?_
                          refine s_getfield rfl (cn rfl) c58 rfl ?_
                          refine s_aload_n rfl (cn rfl) rfl ?_
                          refine s_getfield rfl (cn rfl) c58 rfl ?_
                          refine s_iload_n rfl (cn rfl) rfl ?_
                          refine s_iastore rfl (cn rfl) _ rfl c62 (by omega) (by decide) ?_
                          refine s_aload_n rfl (cn rfl) rfl ?_
                          refine s_getfield rfl (cn rfl) c58 rfl ?_
                          refine s_aload_n rfl (cn rfl) rfl ?_
                          refine s_getfield rfl (cn rfl) c58 rfl ?_
                          refine s_iload_n rfl (cn rfl) rfl ?_
                          refine s_iastore rfl (cn rfl) _ rfl c63 (by omega) (by decide) ?_
                          refine s_aload_n rfl (cn rfl) rfl ?_
                          refine s_getfield rfl (cn rfl) c58 rfl ?_
                          refine s_aload_n rfl (cn rfl) rfl ?_
                          refine s_getfield rfl (cn rfl) c58 rfl ?_
                          refine s_iload_n rfl (cn rfl) rfl ?_
                          refine s_iastore rfl (cn rfl) _ rfl c64 (by omega) (by decide) ?_
                          refine s_aload_n rfl (cn rfl) rfl ?_
                          refine s_dupr rfl (cn rfl) ?_
                          refine s_getfield rfl (cn rfl) c58 rfl ?_
                          refine s_iconst rfl (cn rfl) ?_
                          refine s_iadd rfl (cn rfl) ?_
                          refine s_puti rfl (cn rfl) rfl c58 rfl ?_
                          refine s_return rfl ?_
                          first
                            | (refine ⟨rfl, Or.inl ⟨q14, (kd ta p (plN ta tl p), x14, 0), ?_, by omega, by omega, ⟨⟨by show 0 ≤ kd ta p (plN ta tl p); omega, by show kd ta p (plN ta tl p) ≤ 5; omega⟩, (by show -999 ≤ x14 ∧ x14 ≤ (999 : Int); omega), (by show -999 ≤ 0 ∧ 0 ≤ (999 : Int); omega)⟩, _, rfl, fr_s (by decide) (fr_s (by decide) (fr_s (by decide) (fr_s (by decide) hF))), rr_set_eq, rfl, rfl, rfl⟩⟩
                               unfold rD
                               rw [if_neg ek]
                               rw [show kd ta p (plN ta tl p) = 0 by omega, rA_0, s1]; rfl
                               done)
                            | (refine ⟨rfl, Or.inl ⟨q26, (kd ta p (plN ta tl p), x23, x26), ?_, by omega, by omega, ⟨⟨by show 0 ≤ kd ta p (plN ta tl p); omega, by show kd ta p (plN ta tl p) ≤ 5; omega⟩, (by show -999 ≤ x23 ∧ x23 ≤ (999 : Int); omega), (by show -999 ≤ x26 ∧ x26 ≤ (999 : Int); omega)⟩, _, rfl, fr_s (by decide) (fr_s (by decide) (fr_s (by decide) (fr_s (by decide) hF))), rr_set_eq, rfl, rfl, rfl⟩⟩
                               unfold rD
                               rw [if_neg ek]
                               rw [rA_12 (by omega), s1]; show sb (sb (sb (rB ta tl q23) (rN ta tl)) _) _ = _; rw [s2]; rfl
                               done)
                            | (refine ⟨rfl, Or.inl ⟨q35, (kd ta p (plN ta tl p), x32, x35), ?_, by omega, by omega, ⟨⟨by show 0 ≤ kd ta p (plN ta tl p); omega, by show kd ta p (plN ta tl p) ≤ 5; omega⟩, (by show -999 ≤ x32 ∧ x32 ≤ (999 : Int); omega), (by show -999 ≤ x35 ∧ x35 ≤ (999 : Int); omega)⟩, _, rfl, fr_s (by decide) (fr_s (by decide) (fr_s (by decide) (fr_s (by decide) hF))), rr_set_eq, rfl, rfl, rfl⟩⟩
                               unfold rD
                               rw [if_neg ek]
                               rw [show kd ta p (plN ta tl p) = 5 by omega, rA_5, s1]; show sb (sb (sb (rB ta tl q32) (rP ta tl)) _) _ = _; rw [s2]; rfl
                               done)
                            | (refine ⟨rfl, Or.inl ⟨(plN ta tl p), (kd ta p (plN ta tl p), 0, 0), ?_, by omega, by omega, ⟨⟨by show 0 ≤ kd ta p (plN ta tl p); omega, by show kd ta p (plN ta tl p) ≤ 5; omega⟩, (by show -999 ≤ 0 ∧ 0 ≤ (999 : Int); omega), (by show -999 ≤ 0 ∧ 0 ≤ (999 : Int); omega)⟩, _, rfl, fr_s (by decide) (fr_s (by decide) (fr_s (by decide) (fr_s (by decide) hF))), rr_set_eq, rfl, rfl, rfl⟩⟩
                               unfold rD
                               rw [if_neg ek]
                               rw [rA_3 (by omega)]; rfl
                               done)
                            | (have eD : rD ta tl p = .inl f14 := by
                                 unfold rD
                                 rw [if_neg ek]
                                 rw [show kd ta p (plN ta tl p) = 0 by omega, rA_0, ef]; rfl
                               refine ⟨rfl, Or.inr ⟨_, eD, rD_l hp eD, _, _, _, _, _, _, rfl, fr_s (by decide) (fr_s (by decide) (fr_s (by decide) (fr_s (by decide) hF))), rr_set_eq, rfl, rfl, rfl⟩⟩
                               done)
                            | (have eD : rD ta tl p = .inl f26 := by
                                 unfold rD
                                 rw [if_neg ek]
                                 rw [rA_12 (by omega), s1]; show sb (sb (sb (rB ta tl q23) (rN ta tl)) _) _ = _; rw [ef]; rfl
                               refine ⟨rfl, Or.inr ⟨_, eD, rD_l hp eD, _, _, _, _, _, _, rfl, fr_s (by decide) (fr_s (by decide) (fr_s (by decide) (fr_s (by decide) hF))), rr_set_eq, rfl, rfl, rfl⟩⟩
                               done)
                            | (have eD : rD ta tl p = .inl f23 := by
                                 unfold rD
                                 rw [if_neg ek]
                                 rw [rA_12 (by omega), ef]; rfl
                               refine ⟨rfl, Or.inr ⟨_, eD, rD_l hp eD, _, _, _, _, _, _, rfl, fr_s (by decide) (fr_s (by decide) (fr_s (by decide) (fr_s (by decide) hF))), rr_set_eq, rfl, rfl, rfl⟩⟩
                               done)
                            | (have eD : rD ta tl p = .inl f35 := by
                                 unfold rD
                                 rw [if_neg ek]
                                 rw [show kd ta p (plN ta tl p) = 5 by omega, rA_5, s1]; show sb (sb (sb (rB ta tl q32) (rP ta tl)) _) _ = _; rw [ef]; rfl
                               refine ⟨rfl, Or.inr ⟨_, eD, rD_l hp eD, _, _, _, _, _, _, rfl, fr_s (by decide) (fr_s (by decide) (fr_s (by decide) (fr_s (by decide) hF))), rr_set_eq, rfl, rfl, rfl⟩⟩
                               done)
                            | (have eD : rD ta tl p = .inl f32 := by
                                 unfold rD
                                 rw [if_neg ek]
                                 rw [show kd ta p (plN ta tl p) = 5 by omega, rA_5, ef]; rfl
                               refine ⟨rfl, Or.inr ⟨_, eD, rD_l hp eD, _, _, _, _, _, _, rfl, fr_s (by decide) (fr_s (by decide) (fr_s (by decide) (fr_s (by decide) hF))), rr_set_eq, rfl, rfl, rfl⟩⟩
                               done)
                      · first
                        | (exfalso; omega)
                        | skip
                          refine s_aload_n rfl (cn rfl) rfl ?_
                          refine s_virt rfl (cn rfl) rfl rfl c58 rfl (m_person1 c58) ?_
                          rintro _ _ ⟨rfl, rfl⟩
                          · refine s_istore_n rfl (cn rfl) ?_
                            refine s_aload_n rfl (cn rfl) rfl ?_
                            refine s_virt rfl (cn rfl) rfl rfl c58 rfl (m_person1 c58) ?_
                            rintro _ _ ⟨rfl, rfl⟩
                            · refine s_istore_n rfl (cn rfl) ?_
                              refine s_aload_n rfl (cn rfl) rfl ?_
                              refine s_getfield rfl (cn rfl) c58 rfl ?_
                              refine s_aload_n rfl (cn rfl) rfl ?_
                              refine s_getfield rfl (cn rfl) c58 rfl ?_
                              refine s_iload_n rfl (cn rfl) rfl ?_
                              refine s_iastore rfl (cn rfl) _ rfl c62 (by omega) (by decide) ?_
                              refine s_aload_n rfl (cn rfl) rfl ?_
                              refine s_getfield rfl (cn rfl) c58 rfl ?_
                              refine s_aload_n rfl (cn rfl) rfl ?_
                              refine s_getfield rfl (cn rfl) c58 rfl ?_
                              refine s_iload_n rfl (cn rfl) rfl ?_
                              refine s_iastore rfl (cn rfl) _ rfl c63 (by omega) (by decide) ?_
                              refine s_aload_n rfl (cn rfl) rfl ?_
                              refine s_getfield rfl (cn rfl) c58 rfl ?_
                              refine s_aload_n rfl (cn rfl) rfl ?_
                              refine s_getfield rfl (cn rfl) c58 rfl ?_
                              refine s_iload_n rfl (cn rfl) rfl ?_
                              refine s_iastore rfl (cn rfl) _ rfl c64 (by omega) (by decide) ?_
                              refine s_aload_n rfl (cn rfl) rfl ?_
                              refine s_dupr rfl (cn rfl) ?_
                              refine s_getfield rfl (cn rfl) c58 rfl ?_
                              refine s_iconst rfl (cn rfl) ?_
                              refine s_iadd rfl (cn rfl) ?_
                              refine s_puti rfl (cn rfl) rfl c58 rfl ?_
                              refine s_return rfl ?_
                              first
                                | (refine ⟨rfl, Or.inl ⟨q14, (kd ta p (plN ta tl p), x14, 0), ?_, by omega, by omega, ⟨⟨by show 0 ≤ kd ta p (plN ta tl p); omega, by show kd ta p (plN ta tl p) ≤ 5; omega⟩, (by show -999 ≤ x14 ∧ x14 ≤ (999 : Int); omega), (by show -999 ≤ 0 ∧ 0 ≤ (999 : Int); omega)⟩, _, rfl, fr_s (by decide) (fr_s (by decide) (fr_s (by decide) (fr_s (by decide) hF))), rr_set_eq, rfl, rfl, rfl⟩⟩
                                   unfold rD
                                   rw [if_neg ek]
                                   rw [show kd ta p (plN ta tl p) = 0 by omega, rA_0, s1]; rfl
                                   done)
                                | (refine ⟨rfl, Or.inl ⟨q26, (kd ta p (plN ta tl p), x23, x26), ?_, by omega, by omega, ⟨⟨by show 0 ≤ kd ta p (plN ta tl p); omega, by show kd ta p (plN ta tl p) ≤ 5; omega⟩, (by show -999 ≤ x23 ∧ x23 ≤ (999 : Int); omega), (by show -999 ≤ x26 ∧ x26 ≤ (999 : Int); omega)⟩, _, rfl, fr_s (by decide) (fr_s (by decide) (fr_s (by decide) (fr_s (by decide) hF))), rr_set_eq, rfl, rfl, rfl⟩⟩
                                   unfold rD
                                   rw [if_neg ek]
                                   rw [rA_12 (by omega), s1]; show sb (sb (sb (rB ta tl q23) (rN ta tl)) _) _ = _; rw [s2]; rfl
                                   done)
                                | (refine ⟨rfl, Or.inl ⟨q35, (kd ta p (plN ta tl p), x32, x35), ?_, by omega, by omega, ⟨⟨by show 0 ≤ kd ta p (plN ta tl p); omega, by show kd ta p (plN ta tl p) ≤ 5; omega⟩, (by show -999 ≤ x32 ∧ x32 ≤ (999 : Int); omega), (by show -999 ≤ x35 ∧ x35 ≤ (999 : Int); omega)⟩, _, rfl, fr_s (by decide) (fr_s (by decide) (fr_s (by decide) (fr_s (by decide) hF))), rr_set_eq, rfl, rfl, rfl⟩⟩
                                   unfold rD
                                   rw [if_neg ek]
                                   rw [show kd ta p (plN ta tl p) = 5 by omega, rA_5, s1]; show sb (sb (sb (rB ta tl q32) (rP ta tl)) _) _ = _; rw [s2]; rfl
                                   done)
                                | (refine ⟨rfl, Or.inl ⟨(plN ta tl p), (kd ta p (plN ta tl p), 0, 0), ?_, by omega, by omega, ⟨⟨by show 0 ≤ kd ta p (plN ta tl p); omega, by show kd ta p (plN ta tl p) ≤ 5; omega⟩, (by show -999 ≤ 0 ∧ 0 ≤ (999 : Int); omega), (by show -999 ≤ 0 ∧ 0 ≤ (999 : Int); omega)⟩, _, rfl, fr_s (by decide) (fr_s (by decide) (fr_s (by decide) (fr_s (by decide) hF))), rr_set_eq, rfl, rfl, rfl⟩⟩
                                   unfold rD
                                   rw [if_neg ek]
                                   rw [rA_3 (by omega)]; rfl
                                   done)
                                | (have eD : rD ta tl p = .inl f14 := by
                                     unfold rD
                                     rw [if_neg ek]
                                     rw [show kd ta p (plN ta tl p) = 0 by omega, rA_0, ef]; rfl
                                   refine ⟨rfl, Or.inr ⟨_, eD, rD_l hp eD, _, _, _, _, _, _, rfl, fr_s (by decide) (fr_s (by decide) (fr_s (by decide) (fr_s (by decide) hF))), rr_set_eq, rfl, rfl, rfl⟩⟩
                                   done)
                                | (have eD : rD ta tl p = .inl f26 := by
                                     unfold rD
                                     rw [if_neg ek]
                                     rw [rA_12 (by omega), s1]; show sb (sb (sb (rB ta tl q23) (rN ta tl)) _) _ = _; rw [ef]; rfl
                                   refine ⟨rfl, Or.inr ⟨_, eD, rD_l hp eD, _, _, _, _, _, _, rfl, fr_s (by decide) (fr_s (by decide) (fr_s (by decide) (fr_s (by decide) hF))), rr_set_eq, rfl, rfl, rfl⟩⟩
                                   done)
                                | (have eD : rD ta tl p = .inl f23 := by
                                     unfold rD
                                     rw [if_neg ek]
                                     rw [rA_12 (by omega), ef]; rfl
                                   refine ⟨rfl, Or.inr ⟨_, eD, rD_l hp eD, _, _, _, _, _, _, rfl, fr_s (by decide) (fr_s (by decide) (fr_s (by decide) (fr_s (by decide) hF))), rr_set_eq, rfl, rfl, rfl⟩⟩
                                   done)
                                | (have eD : rD ta tl p = .inl f35 := by
                                     unfold rD
                                     rw [if_neg ek]
                                     rw [show kd ta p (plN ta tl p) = 5 by omega, rA_5, s1]; show sb (sb (sb (rB ta tl q32) (rP ta tl)) _) _ = _; rw [ef]; rfl
                                   refine ⟨rfl, Or.inr ⟨_, eD, rD_l hp eD, _, _, _, _, _, _, rfl, fr_s (by decide) (fr_s (by decide) (fr_s (by decide) (fr_s (by decide) hF))), rr_set_eq, rfl, rfl, rfl⟩⟩
                                   done)
                                | (have eD : rD ta tl p = .inl f32 := by
                                     unfold rD
                                     rw [if_neg ek]
                                     rw [show kd ta p (plN ta tl p) = 5 by omega, rA_5, ef]; rfl
                                   refine ⟨rfl, Or.inr ⟨_, eD, rD_l hp eD, _, _, _, _, _, _, rfl, fr_s (by decide) (fr_s (by decide) (fr_s (by decide) (fr_s (by decide) hF))), rr_set_eq, rfl, rfl, rfl⟩⟩
                                   done)
              · first
                | (exfalso; omega)
                | skip
                  refine s_iload_n rfl (cn rfl) rfl ?_
                  refine s_iconst rfl (cn rfl) ?_
                  refine s_icmp_ne rfl (cn rfl) (cn rfl) ⟨by omega, by omega⟩ ⟨by omega, by omega⟩ (fun q21 => ?_) (fun q21 => ?_)
                  · first
                    | (exfalso; omega)
                    | skip
                      refine s_iload_n rfl (cn rfl) rfl ?_
                      refine s_iconst rfl (cn rfl) ?_
                      refine s_icmp_ne rfl (cn rfl) (cn rfl) ⟨by omega, by omega⟩ ⟨by omega, by omega⟩ (fun q30 => ?_) (fun q30 => ?_)
                      · first
                        | (exfalso; omega)
                        | skip
                          refine s_aload_n rfl (cn rfl) rfl ?_
                          refine s_getfield rfl (cn rfl) c58 rfl ?_
                          refine s_aload_n rfl (cn rfl) rfl ?_
                          refine s_getfield rfl (cn rfl) c58 rfl ?_
                          refine s_iload_n rfl (cn rfl) rfl ?_
                          refine s_iastore rfl (cn rfl) _ rfl c62 (by omega) (by decide) ?_
                          refine s_aload_n rfl (cn rfl) rfl ?_
                          refine s_getfield rfl (cn rfl) c58 rfl ?_
                          refine s_aload_n rfl (cn rfl) rfl ?_
                          refine s_getfield rfl (cn rfl) c58 rfl ?_
                          refine s_iload_n rfl (cn rfl) rfl ?_
                          refine s_iastore rfl (cn rfl) _ rfl c63 (by omega) (by decide) ?_
                          refine s_aload_n rfl (cn rfl) rfl ?_
                          refine s_getfield rfl (cn rfl) c58 rfl ?_
                          refine s_aload_n rfl (cn rfl) rfl ?_
                          refine s_getfield rfl (cn rfl) c58 rfl ?_
                          refine s_iload_n rfl (cn rfl) rfl ?_
                          refine s_iastore rfl (cn rfl) _ rfl c64 (by omega) (by decide) ?_
                          refine s_aload_n rfl (cn rfl) rfl ?_
                          refine s_dupr rfl (cn rfl) ?_
                          refine s_getfield rfl (cn rfl) c58 rfl ?_
                          refine s_iconst rfl (cn rfl) ?_
                          refine s_iadd rfl (cn rfl) ?_
                          refine s_puti rfl (cn rfl) rfl c58 rfl ?_
                          refine s_return rfl ?_
                          first
                            | (refine ⟨rfl, Or.inl ⟨q14, (kd ta p (plN ta tl p), x14, 0), ?_, by omega, by omega, ⟨⟨by show 0 ≤ kd ta p (plN ta tl p); omega, by show kd ta p (plN ta tl p) ≤ 5; omega⟩, (by show -999 ≤ x14 ∧ x14 ≤ (999 : Int); omega), (by show -999 ≤ 0 ∧ 0 ≤ (999 : Int); omega)⟩, _, rfl, fr_s (by decide) (fr_s (by decide) (fr_s (by decide) (fr_s (by decide) hF))), rr_set_eq, rfl, rfl, rfl⟩⟩
                               unfold rD
                               rw [if_neg ek]
                               rw [show kd ta p (plN ta tl p) = 0 by omega, rA_0, s1]; rfl
                               done)
                            | (refine ⟨rfl, Or.inl ⟨q26, (kd ta p (plN ta tl p), x23, x26), ?_, by omega, by omega, ⟨⟨by show 0 ≤ kd ta p (plN ta tl p); omega, by show kd ta p (plN ta tl p) ≤ 5; omega⟩, (by show -999 ≤ x23 ∧ x23 ≤ (999 : Int); omega), (by show -999 ≤ x26 ∧ x26 ≤ (999 : Int); omega)⟩, _, rfl, fr_s (by decide) (fr_s (by decide) (fr_s (by decide) (fr_s (by decide) hF))), rr_set_eq, rfl, rfl, rfl⟩⟩
                               unfold rD
                               rw [if_neg ek]
                               rw [rA_12 (by omega), s1]; show sb (sb (sb (rB ta tl q23) (rN ta tl)) _) _ = _; rw [s2]; rfl
                               done)
                            | (refine ⟨rfl, Or.inl ⟨q35, (kd ta p (plN ta tl p), x32, x35), ?_, by omega, by omega, ⟨⟨by show 0 ≤ kd ta p (plN ta tl p); omega, by show kd ta p (plN ta tl p) ≤ 5; omega⟩, (by show -999 ≤ x32 ∧ x32 ≤ (999 : Int); omega), (by show -999 ≤ x35 ∧ x35 ≤ (999 : Int); omega)⟩, _, rfl, fr_s (by decide) (fr_s (by decide) (fr_s (by decide) (fr_s (by decide) hF))), rr_set_eq, rfl, rfl, rfl⟩⟩
                               unfold rD
                               rw [if_neg ek]
                               rw [show kd ta p (plN ta tl p) = 5 by omega, rA_5, s1]; show sb (sb (sb (rB ta tl q32) (rP ta tl)) _) _ = _; rw [s2]; rfl
                               done)
                            | (refine ⟨rfl, Or.inl ⟨(plN ta tl p), (kd ta p (plN ta tl p), 0, 0), ?_, by omega, by omega, ⟨⟨by show 0 ≤ kd ta p (plN ta tl p); omega, by show kd ta p (plN ta tl p) ≤ 5; omega⟩, (by show -999 ≤ 0 ∧ 0 ≤ (999 : Int); omega), (by show -999 ≤ 0 ∧ 0 ≤ (999 : Int); omega)⟩, _, rfl, fr_s (by decide) (fr_s (by decide) (fr_s (by decide) (fr_s (by decide) hF))), rr_set_eq, rfl, rfl, rfl⟩⟩
                               unfold rD
                               rw [if_neg ek]
                               rw [rA_3 (by omega)]; rfl
                               done)
                            | (have eD : rD ta tl p = .inl f14 := by
                                 unfold rD
                                 rw [if_neg ek]
                                 rw [show kd ta p (plN ta tl p) = 0 by omega, rA_0, ef]; rfl
                               refine ⟨rfl, Or.inr ⟨_, eD, rD_l hp eD, _, _, _, _, _, _, rfl, fr_s (by decide) (fr_s (by decide) (fr_s (by decide) (fr_s (by decide) hF))), rr_set_eq, rfl, rfl, rfl⟩⟩
                               done)
                            | (have eD : rD ta tl p = .inl f26 := by
                                 unfold rD
                                 rw [if_neg ek]
                                 rw [rA_12 (by omega), s1]; show sb (sb (sb (rB ta tl q23) (rN ta tl)) _) _ = _; rw [ef]; rfl
                               refine ⟨rfl, Or.inr ⟨_, eD, rD_l hp eD, _, _, _, _, _, _, rfl, fr_s (by decide) (fr_s (by decide) (fr_s (by decide) (fr_s (by decide) hF))), rr_set_eq, rfl, rfl, rfl⟩⟩
                               done)
                            | (have eD : rD ta tl p = .inl f23 := by
                                 unfold rD
                                 rw [if_neg ek]
                                 rw [rA_12 (by omega), ef]; rfl
                               refine ⟨rfl, Or.inr ⟨_, eD, rD_l hp eD, _, _, _, _, _, _, rfl, fr_s (by decide) (fr_s (by decide) (fr_s (by decide) (fr_s (by decide) hF))), rr_set_eq, rfl, rfl, rfl⟩⟩
                               done)
                            | (have eD : rD ta tl p = .inl f35 := by
                                 unfold rD
                                 rw [if_neg ek]
                                 rw [show kd ta p (plN ta tl p) = 5 by omega, rA_5, s1]; show sb (sb (sb (rB ta tl q32) (rP ta tl)) _) _ = _; rw [ef]; rfl
                               refine ⟨rfl, Or.inr ⟨_, eD, rD_l hp eD, _, _, _, _, _, _, rfl, fr_s (by decide) (fr_s (by decide) (fr_s (by decide) (fr_s (by decide) hF))), rr_set_eq, rfl, rfl, rfl⟩⟩
                               done)
                            | (have eD : rD ta tl p = .inl f32 := by
                                 unfold rD
                                 rw [if_neg ek]
                                 rw [show kd ta p (plN ta tl p) = 5 by omega, rA_5, ef]; rfl
                               refine ⟨rfl, Or.inr ⟨_, eD, rD_l hp eD, _, _, _, _, _, _, rfl, fr_s (by decide) (fr_s (by decide) (fr_s (by decide) (fr_s (by decide) hF))), rr_set_eq, rfl, rfl, rfl⟩⟩
                               done)
                      · first
                        | (exfalso; omega)
                        | skip
                          refine s_aload_n rfl (cn rfl) rfl ?_
                          refine s_virt rfl (cn rfl) rfl rfl c58 rfl (m_person1 c58) ?_
                          rintro _ _ ⟨rfl, rfl⟩
                          · refine s_istore_n rfl (cn rfl) ?_
                            refine s_aload_n rfl (cn rfl) rfl ?_
                            refine s_virt rfl (cn rfl) rfl rfl c58 rfl (m_person1 c58) ?_
                            rintro _ _ ⟨rfl, rfl⟩
                            · refine s_istore_n rfl (cn rfl) ?_
                              refine s_aload_n rfl (cn rfl) rfl ?_
                              refine s_getfield rfl (cn rfl) c58 rfl ?_
                              refine s_aload_n rfl (cn rfl) rfl ?_
                              refine s_getfield rfl (cn rfl) c58 rfl ?_
                              refine s_iload_n rfl (cn rfl) rfl ?_
                              refine s_iastore rfl (cn rfl) _ rfl c62 (by omega) (by decide) ?_
                              refine s_aload_n rfl (cn rfl) rfl ?_
                              refine s_getfield rfl (cn rfl) c58 rfl ?_
                              refine s_aload_n rfl (cn rfl) rfl ?_
                              refine s_getfield rfl (cn rfl) c58 rfl ?_
                              refine s_iload_n rfl (cn rfl) rfl ?_
                              refine s_iastore rfl (cn rfl) _ rfl c63 (by omega) (by decide) ?_
                              refine s_aload_n rfl (cn rfl) rfl ?_
                              refine s_getfield rfl (cn rfl) c58 rfl ?_
                              refine s_aload_n rfl (cn rfl) rfl ?_
                              refine s_getfield rfl (cn rfl) c58 rfl ?_
                              refine s_iload_n rfl (cn rfl) rfl ?_
                              refine s_iastore rfl (cn rfl) _ rfl c64 (by omega) (by decide) ?_
                              refine s_aload_n rfl (cn rfl) rfl ?_
                              refine s_dupr rfl (cn rfl) ?_
                              refine s_getfield rfl (cn rfl) c58 rfl ?_
                              refine s_iconst rfl (cn rfl) ?_
                              refine s_iadd rfl (cn rfl) ?_
                              refine s_puti rfl (cn rfl) rfl c58 rfl ?_
                              refine s_return rfl ?_
                              first
                                | (refine ⟨rfl, Or.inl ⟨q14, (kd ta p (plN ta tl p), x14, 0), ?_, by omega, by omega, ⟨⟨by show 0 ≤ kd ta p (plN ta tl p); omega, by show kd ta p (plN ta tl p) ≤ 5; omega⟩, (by show -999 ≤ x14 ∧ x14 ≤ (999 : Int); omega), (by show -999 ≤ 0 ∧ 0 ≤ (999 : Int); omega)⟩, _, rfl, fr_s (by decide) (fr_s (by decide) (fr_s (by decide) (fr_s (by decide) hF))), rr_set_eq, rfl, rfl, rfl⟩⟩
                                   unfold rD
                                   rw [if_neg ek]
                                   rw [show kd ta p (plN ta tl p) = 0 by omega, rA_0, s1]; rfl
                                   done)
                                | (refine ⟨rfl, Or.inl ⟨q26, (kd ta p (plN ta tl p), x23, x26), ?_, by omega, by omega, ⟨⟨by show 0 ≤ kd ta p (plN ta tl p); omega, by show kd ta p (plN ta tl p) ≤ 5; omega⟩, (by show -999 ≤ x23 ∧ x23 ≤ (999 : Int); omega), (by show -999 ≤ x26 ∧ x26 ≤ (999 : Int); omega)⟩, _, rfl, fr_s (by decide) (fr_s (by decide) (fr_s (by decide) (fr_s (by decide) hF))), rr_set_eq, rfl, rfl, rfl⟩⟩
                                   unfold rD
                                   rw [if_neg ek]
                                   rw [rA_12 (by omega), s1]; show sb (sb (sb (rB ta tl q23) (rN ta tl)) _) _ = _; rw [s2]; rfl
                                   done)
                                | (refine ⟨rfl, Or.inl ⟨q35, (kd ta p (plN ta tl p), x32, x35), ?_, by omega, by omega, ⟨⟨by show 0 ≤ kd ta p (plN ta tl p); omega, by show kd ta p (plN ta tl p) ≤ 5; omega⟩, (by show -999 ≤ x32 ∧ x32 ≤ (999 : Int); omega), (by show -999 ≤ x35 ∧ x35 ≤ (999 : Int); omega)⟩, _, rfl, fr_s (by decide) (fr_s (by decide) (fr_s (by decide) (fr_s (by decide) hF))), rr_set_eq, rfl, rfl, rfl⟩⟩
                                   unfold rD
                                   rw [if_neg ek]
                                   rw [show kd ta p (plN ta tl p) = 5 by omega, rA_5, s1]; show sb (sb (sb (rB ta tl q32) (rP ta tl)) _) _ = _; rw [s2]; rfl
                                   done)
                                | (refine ⟨rfl, Or.inl ⟨(plN ta tl p), (kd ta p (plN ta tl p), 0, 0), ?_, by omega, by omega, ⟨⟨by show 0 ≤ kd ta p (plN ta tl p); omega, by show kd ta p (plN ta tl p) ≤ 5; omega⟩, (by show -999 ≤ 0 ∧ 0 ≤ (999 : Int); omega), (by show -999 ≤ 0 ∧ 0 ≤ (999 : Int); omega)⟩, _, rfl, fr_s (by decide) (fr_s (by decide) (fr_s (by decide) (fr_s (by decide) hF))), rr_set_eq, rfl, rfl, rfl⟩⟩
                                   unfold rD
                                   rw [if_neg ek]
                                   rw [rA_3 (by omega)]; rfl
                                   done)
                                | (have eD : rD ta tl p = .inl f14 := by
                                     unfold rD
                                     rw [if_neg ek]
                                     rw [show kd ta p (plN ta tl p) = 0 by omega, rA_0, ef]; rfl
                                   refine ⟨rfl, Or.inr ⟨_, eD, rD_l hp eD, _, _, _, _, _, _, rfl, fr_s (by decide) (fr_s (by decide) (fr_s (by decide) (fr_s (by decide) hF))), rr_set_eq, rfl, rfl, rfl⟩⟩
                                   done)
                                | (have eD : rD ta tl p = .inl f26 := by
                                     unfold rD
                                     rw [if_neg ek]
                                     rw [rA_12 (by omega), s1]; show sb (sb (sb (rB ta tl q23) (rN ta tl)) _) _ = _; rw [ef]; rfl
                                   refine ⟨rfl, Or.inr ⟨_, eD, rD_l hp eD, _, _, _, _, _, _, rfl, fr_s (by decide) (fr_s (by decide) (fr_s (by decide) (fr_s (by decide) hF))), rr_set_eq, rfl, rfl, rfl⟩⟩
                                   done)
                                | (have eD : rD ta tl p = .inl f23 := by
                                     unfold rD
                                     rw [if_neg ek]
                                     rw [rA_12 (by omega), ef]; rfl
                                   refine ⟨rfl, Or.inr ⟨_, eD, rD_l hp eD, _, _, _, _, _, _, rfl, fr_s (by decide) (fr_s (by decide) (fr_s (by decide) (fr_s (by decide) hF))), rr_set_eq, rfl, rfl, rfl⟩⟩
                                   done)
                                | (have eD : rD ta tl p = .inl f35 := by
                                     unfold rD
                                     rw [if_neg ek]
                                     rw [show kd ta p (plN ta tl p) = 5 by omega, rA_5, s1]; show sb (sb (sb (rB ta tl q32) (rP ta tl)) _) _ = _; rw [ef]; rfl
                                   refine ⟨rfl, Or.inr ⟨_, eD, rD_l hp eD, _, _, _, _, _, _, rfl, fr_s (by decide) (fr_s (by decide) (fr_s (by decide) (fr_s (by decide) hF))), rr_set_eq, rfl, rfl, rfl⟩⟩
                                   done)
                                | (have eD : rD ta tl p = .inl f32 := by
                                     unfold rD
                                     rw [if_neg ek]
                                     rw [show kd ta p (plN ta tl p) = 5 by omega, rA_5, ef]; rfl
                                   refine ⟨rfl, Or.inr ⟨_, eD, rD_l hp eD, _, _, _, _, _, _, rfl, fr_s (by decide) (fr_s (by decide) (fr_s (by decide) (fr_s (by decide) hF))), rr_set_eq, rfl, rfl, rfl⟩⟩
                                   done)
                  · first
                    | (exfalso; omega)
                    | skip
                      refine s_aload_n rfl (cn rfl) rfl ?_
                      refine s_virt rfl (cn rfl) rfl rfl c58 rfl (m_group1 c58) ?_
                      rintro _ _ ⟨rfl, rfl⟩
                      · refine s_istore_n rfl (cn rfl) ?_
                        refine s_aload_n rfl (cn rfl) rfl ?_
                        refine s_virt rfl (cn rfl) rfl rfl c58 rfl (m_number1 c58) ?_
                        rintro _ _ ⟨rfl, rfl⟩
                        · refine s_istore_n rfl (cn rfl) ?_
                          refine s_iload_n rfl (cn rfl) rfl ?_
                          refine s_iconst rfl (cn rfl) ?_
                          refine s_icmp_ne rfl (cn rfl) (cn rfl) ⟨by omega, by omega⟩ ⟨by omega, by omega⟩ (fun q30 => ?_) (fun q30 => ?_)
                          · first
                            | (exfalso; omega)
                            | skip
                              refine s_aload_n rfl (cn rfl) rfl ?_
                              refine s_getfield rfl (cn rfl) c58 rfl ?_
                              refine s_aload_n rfl (cn rfl) rfl ?_
                              refine s_getfield rfl (cn rfl) c58 rfl ?_
                              refine s_iload_n rfl (cn rfl) rfl ?_
                              refine s_iastore rfl (cn rfl) _ rfl c62 (by omega) (by decide) ?_
                              refine s_aload_n rfl (cn rfl) rfl ?_
                              refine s_getfield rfl (cn rfl) c58 rfl ?_
                              refine s_aload_n rfl (cn rfl) rfl ?_
                              refine s_getfield rfl (cn rfl) c58 rfl ?_
                              refine s_iload_n rfl (cn rfl) rfl ?_
                              refine s_iastore rfl (cn rfl) _ rfl c63 (by omega) (by decide) ?_
                              refine s_aload_n rfl (cn rfl) rfl ?_
                              refine s_getfield rfl (cn rfl) c58 rfl ?_
                              refine s_aload_n rfl (cn rfl) rfl ?_
                              refine s_getfield rfl (cn rfl) c58 rfl ?_
                              refine s_iload_n rfl (cn rfl) rfl ?_
                              refine s_iastore rfl (cn rfl) _ rfl c64 (by omega) (by decide) ?_
                              refine s_aload_n rfl (cn rfl) rfl ?_
                              refine s_dupr rfl (cn rfl) ?_
                              refine s_getfield rfl (cn rfl) c58 rfl ?_
                              refine s_iconst rfl (cn rfl) ?_
                              refine s_iadd rfl (cn rfl) ?_
                              refine s_puti rfl (cn rfl) rfl c58 rfl ?_
                              refine s_return rfl ?_
                              first
                                | (refine ⟨rfl, Or.inl ⟨q14, (kd ta p (plN ta tl p), x14, 0), ?_, by omega, by omega, ⟨⟨by show 0 ≤ kd ta p (plN ta tl p); omega, by show kd ta p (plN ta tl p) ≤ 5; omega⟩, (by show -999 ≤ x14 ∧ x14 ≤ (999 : Int); omega), (by show -999 ≤ 0 ∧ 0 ≤ (999 : Int); omega)⟩, _, rfl, fr_s (by decide) (fr_s (by decide) (fr_s (by decide) (fr_s (by decide) hF))), rr_set_eq, rfl, rfl, rfl⟩⟩
                                   unfold rD
                                   rw [if_neg ek]
                                   rw [show kd ta p (plN ta tl p) = 0 by omega, rA_0, s1]; rfl
                                   done)
                                | (refine ⟨rfl, Or.inl ⟨q26, (kd ta p (plN ta tl p), x23, x26), ?_, by omega, by omega, ⟨⟨by show 0 ≤ kd ta p (plN ta tl p); omega, by show kd ta p (plN ta tl p) ≤ 5; omega⟩, (by show -999 ≤ x23 ∧ x23 ≤ (999 : Int); omega), (by show -999 ≤ x26 ∧ x26 ≤ (999 : Int); omega)⟩, _, rfl, fr_s (by decide) (fr_s (by decide) (fr_s (by decide) (fr_s (by decide) hF))), rr_set_eq, rfl, rfl, rfl⟩⟩
                                   unfold rD
                                   rw [if_neg ek]
                                   rw [rA_12 (by omega), s1]; show sb (sb (sb (rB ta tl q23) (rN ta tl)) _) _ = _; rw [s2]; rfl
                                   done)
                                | (refine ⟨rfl, Or.inl ⟨q35, (kd ta p (plN ta tl p), x32, x35), ?_, by omega, by omega, ⟨⟨by show 0 ≤ kd ta p (plN ta tl p); omega, by show kd ta p (plN ta tl p) ≤ 5; omega⟩, (by show -999 ≤ x32 ∧ x32 ≤ (999 : Int); omega), (by show -999 ≤ x35 ∧ x35 ≤ (999 : Int); omega)⟩, _, rfl, fr_s (by decide) (fr_s (by decide) (fr_s (by decide) (fr_s (by decide) hF))), rr_set_eq, rfl, rfl, rfl⟩⟩
                                   unfold rD
                                   rw [if_neg ek]
                                   rw [show kd ta p (plN ta tl p) = 5 by omega, rA_5, s1]; show sb (sb (sb (rB ta tl q32) (rP ta tl)) _) _ = _; rw [s2]; rfl
                                   done)
                                | (refine ⟨rfl, Or.inl ⟨(plN ta tl p), (kd ta p (plN ta tl p), 0, 0), ?_, by omega, by omega, ⟨⟨by show 0 ≤ kd ta p (plN ta tl p); omega, by show kd ta p (plN ta tl p) ≤ 5; omega⟩, (by show -999 ≤ 0 ∧ 0 ≤ (999 : Int); omega), (by show -999 ≤ 0 ∧ 0 ≤ (999 : Int); omega)⟩, _, rfl, fr_s (by decide) (fr_s (by decide) (fr_s (by decide) (fr_s (by decide) hF))), rr_set_eq, rfl, rfl, rfl⟩⟩
                                   unfold rD
                                   rw [if_neg ek]
                                   rw [rA_3 (by omega)]; rfl
                                   done)
                                | (have eD : rD ta tl p = .inl f14 := by
                                     unfold rD
                                     rw [if_neg ek]
                                     rw [show kd ta p (plN ta tl p) = 0 by omega, rA_0, ef]; rfl
                                   refine ⟨rfl, Or.inr ⟨_, eD, rD_l hp eD, _, _, _, _, _, _, rfl, fr_s (by decide) (fr_s (by decide) (fr_s (by decide) (fr_s (by decide) hF))), rr_set_eq, rfl, rfl, rfl⟩⟩
                                   done)
                                | (have eD : rD ta tl p = .inl f26 := by
                                     unfold rD
                                     rw [if_neg ek]
                                     rw [rA_12 (by omega), s1]; show sb (sb (sb (rB ta tl q23) (rN ta tl)) _) _ = _; rw [ef]; rfl
                                   refine ⟨rfl, Or.inr ⟨_, eD, rD_l hp eD, _, _, _, _, _, _, rfl, fr_s (by decide) (fr_s (by decide) (fr_s (by decide) (fr_s (by decide) hF))), rr_set_eq, rfl, rfl, rfl⟩⟩
                                   done)
                                | (have eD : rD ta tl p = .inl f23 := by
                                     unfold rD
                                     rw [if_neg ek]
                                     rw [rA_12 (by omega), ef]; rfl
                                   refine ⟨rfl, Or.inr ⟨_, eD, rD_l hp eD, _, _, _, _, _, _, rfl, fr_s (by decide) (fr_s (by decide) (fr_s (by decide) (fr_s (by decide) hF))), rr_set_eq, rfl, rfl, rfl⟩⟩
                                   done)
                                | (have eD : rD ta tl p = .inl f35 := by
                                     unfold rD
                                     rw [if_neg ek]
                                     rw [show kd ta p (plN ta tl p) = 5 by omega, rA_5, s1]; show sb (sb (sb (rB ta tl q32) (rP ta tl)) _) _ = _; rw [ef]; rfl
                                   refine ⟨rfl, Or.inr ⟨_, eD, rD_l hp eD, _, _, _, _, _, _, rfl, fr_s (by decide) (fr_s (by decide) (fr_s (by decide) (fr_s (by decide) hF))), rr_set_eq, rfl, rfl, rfl⟩⟩
                                   done)
                                | (have eD : rD ta tl p = .inl f32 := by
                                     unfold rD
                                     rw [if_neg ek]
                                     rw [show kd ta p (plN ta tl p) = 5 by omega, rA_5, ef]; rfl
                                   refine ⟨rfl, Or.inr ⟨_, eD, rD_l hp eD, _, _, _, _, _, _, rfl, fr_s (by decide) (fr_s (by decide) (fr_s (by decide) (fr_s (by decide) hF))), rr_set_eq, rfl, rfl, rfl⟩⟩
                                   done)
                          · first
                            | (exfalso; omega)
                            | skip
                              refine s_aload_n rfl (cn rfl) rfl ?_
                              refine s_virt rfl (cn rfl) rfl rfl c58 rfl (m_person1 c58) ?_
                              rintro _ _ ⟨rfl, rfl⟩
                              · refine s_istore_n rfl (cn rfl) ?_
                                refine s_aload_n rfl (cn rfl) rfl ?_
                                refine s_virt rfl (cn rfl) rfl rfl c58 rfl (m_person1 c58) ?_
                                rintro _ _ ⟨rfl, rfl⟩
                                · refine s_istore_n rfl (cn rfl) ?_
                                  refine s_aload_n rfl (cn rfl) rfl ?_
                                  refine s_getfield rfl (cn rfl) c58 rfl ?_
                                  refine s_aload_n rfl (cn rfl) rfl ?_
                                  refine s_getfield rfl (cn rfl) c58 rfl ?_
                                  refine s_iload_n rfl (cn rfl) rfl ?_
                                  refine s_iastore rfl (cn rfl) _ rfl c62 (by omega) (by decide) ?_
                                  refine s_aload_n rfl (cn rfl) rfl ?_
                                  refine s_getfield rfl (cn rfl) c58 rfl ?_
                                  refine s_aload_n rfl (cn rfl) rfl ?_
                                  refine s_getfield rfl (cn rfl) c58 rfl ?_
                                  refine s_iload_n rfl (cn rfl) rfl ?_
                                  refine s_iastore rfl (cn rfl) _ rfl c63 (by omega) (by decide) ?_
                                  refine s_aload_n rfl (cn rfl) rfl ?_
                                  refine s_getfield rfl (cn rfl) c58 rfl ?_
                                  refine s_aload_n rfl (cn rfl) rfl ?_
                                  refine s_getfield rfl (cn rfl) c58 rfl ?_
                                  refine s_iload_n rfl (cn rfl) rfl ?_
                                  refine s_iastore rfl (cn rfl) _ rfl c64 (by omega) (by decide) ?_
                                  refine s_aload_n rfl (cn rfl) rfl ?_
                                  refine s_dupr rfl (cn rfl) ?_
                                  refine s_getfield rfl (cn rfl) c58 rfl ?_
                                  refine s_iconst rfl (cn rfl) ?_
                                  refine s_iadd rfl (cn rfl) ?_
                                  refine s_puti rfl (cn rfl) rfl c58 rfl ?_
                                  refine s_return rfl ?_
                                  first
                                    | (refine ⟨rfl, Or.inl ⟨q14, (kd ta p (plN ta tl p), x14, 0), ?_, by omega, by omega, ⟨⟨by show 0 ≤ kd ta p (plN ta tl p); omega, by show kd ta p (plN ta tl p) ≤ 5; omega⟩, (by show -999 ≤ x14 ∧ x14 ≤ (999 : Int); omega), (by show -999 ≤ 0 ∧ 0 ≤ (999 : Int); omega)⟩, _, rfl, fr_s (by decide) (fr_s (by decide) (fr_s (by decide) (fr_s (by decide) hF))), rr_set_eq, rfl, rfl, rfl⟩⟩
                                       unfold rD
                                       rw [if_neg ek]
                                       rw [show kd ta p (plN ta tl p) = 0 by omega, rA_0, s1]; rfl
                                       done)
                                    | (refine ⟨rfl, Or.inl ⟨q26, (kd ta p (plN ta tl p), x23, x26), ?_, by omega, by omega, ⟨⟨by show 0 ≤ kd ta p (plN ta tl p); omega, by show kd ta p (plN ta tl p) ≤ 5; omega⟩, (by show -999 ≤ x23 ∧ x23 ≤ (999 : Int); omega), (by show -999 ≤ x26 ∧ x26 ≤ (999 : Int); omega)⟩, _, rfl, fr_s (by decide) (fr_s (by decide) (fr_s (by decide) (fr_s (by decide) hF))), rr_set_eq, rfl, rfl, rfl⟩⟩
                                       unfold rD
                                       rw [if_neg ek]
                                       rw [rA_12 (by omega), s1]; show sb (sb (sb (rB ta tl q23) (rN ta tl)) _) _ = _; rw [s2]; rfl
                                       done)
                                    | (refine ⟨rfl, Or.inl ⟨q35, (kd ta p (plN ta tl p), x32, x35), ?_, by omega, by omega, ⟨⟨by show 0 ≤ kd ta p (plN ta tl p); omega, by show kd ta p (plN ta tl p) ≤ 5; omega⟩, (by show -999 ≤ x32 ∧ x32 ≤ (999 : Int); omega), (by show -999 ≤ x35 ∧ x35 ≤ (999 : Int); omega)⟩, _, rfl, fr_s (by decide) (fr_s (by decide) (fr_s (by decide) (fr_s (by decide) hF))), rr_set_eq, rfl, rfl, rfl⟩⟩
                                       unfold rD
                                       rw [if_neg ek]
                                       rw [show kd ta p (plN ta tl p) = 5 by omega, rA_5, s1]; show sb (sb (sb (rB ta tl q32) (rP ta tl)) _) _ = _; rw [s2]; rfl
                                       done)
                                    | (refine ⟨rfl, Or.inl ⟨(plN ta tl p), (kd ta p (plN ta tl p), 0, 0), ?_, by omega, by omega, ⟨⟨by show 0 ≤ kd ta p (plN ta tl p); omega, by show kd ta p (plN ta tl p) ≤ 5; omega⟩, (by show -999 ≤ 0 ∧ 0 ≤ (999 : Int); omega), (by show -999 ≤ 0 ∧ 0 ≤ (999 : Int); omega)⟩, _, rfl, fr_s (by decide) (fr_s (by decide) (fr_s (by decide) (fr_s (by decide) hF))), rr_set_eq, rfl, rfl, rfl⟩⟩
                                       unfold rD
                                       rw [if_neg ek]
                                       rw [rA_3 (by omega)]; rfl
                                       done)
                                    | (have eD : rD ta tl p = .inl f14 := by
                                         unfold rD
                                         rw [if_neg ek]
                                         rw [show kd ta p (plN ta tl p) = 0 by omega, rA_0, ef]; rfl
                                       refine ⟨rfl, Or.inr ⟨_, eD, rD_l hp eD, _, _, _, _, _, _, rfl, fr_s (by decide) (fr_s (by decide) (fr_s (by decide) (fr_s (by decide) hF))), rr_set_eq, rfl, rfl, rfl⟩⟩
                                       done)
                                    | (have eD : rD ta tl p = .inl f26 := by
                                         unfold rD
                                         rw [if_neg ek]
                                         rw [rA_12 (by omega), s1]; show sb (sb (sb (rB ta tl q23) (rN ta tl)) _) _ = _; rw [ef]; rfl
                                       refine ⟨rfl, Or.inr ⟨_, eD, rD_l hp eD, _, _, _, _, _, _, rfl, fr_s (by decide) (fr_s (by decide) (fr_s (by decide) (fr_s (by decide) hF))), rr_set_eq, rfl, rfl, rfl⟩⟩
                                       done)
                                    | (have eD : rD ta tl p = .inl f23 := by
                                         unfold rD
                                         rw [if_neg ek]
                                         rw [rA_12 (by omega), ef]; rfl
                                       refine ⟨rfl, Or.inr ⟨_, eD, rD_l hp eD, _, _, _, _, _, _, rfl, fr_s (by decide) (fr_s (by decide) (fr_s (by decide) (fr_s (by decide) hF))), rr_set_eq, rfl, rfl, rfl⟩⟩
                                       done)
                                    | (have eD : rD ta tl p = .inl f35 := by
                                         unfold rD
                                         rw [if_neg ek]
                                         rw [show kd ta p (plN ta tl p) = 5 by omega, rA_5, s1]; show sb (sb (sb (rB ta tl q32) (rP ta tl)) _) _ = _; rw [ef]; rfl
                                       refine ⟨rfl, Or.inr ⟨_, eD, rD_l hp eD, _, _, _, _, _, _, rfl, fr_s (by decide) (fr_s (by decide) (fr_s (by decide) (fr_s (by decide) hF))), rr_set_eq, rfl, rfl, rfl⟩⟩
                                       done)
                                    | (have eD : rD ta tl p = .inl f32 := by
                                         unfold rD
                                         rw [if_neg ek]
                                         rw [show kd ta p (plN ta tl p) = 5 by omega, rA_5, ef]; rfl
                                       refine ⟨rfl, Or.inr ⟨_, eD, rD_l hp eD, _, _, _, _, _, _, rfl, fr_s (by decide) (fr_s (by decide) (fr_s (by decide) (fr_s (by decide) hF))), rr_set_eq, rfl, rfl, rfl⟩⟩
                                       done)
    · first
      | (exact absurd rfl q5)
      | skip
        refine s_return rfl ?_
        exact ⟨rfl, Or.inr ⟨p, by unfold rD; rw [if_pos ek], hp, _, _, _, _, _, h1, rfl, hF, c58, c62, c63, c64⟩⟩
