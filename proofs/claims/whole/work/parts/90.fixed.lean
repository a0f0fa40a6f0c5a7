/-! A stage fixed; all stages reckoned. -/
theorem calls_d {d d' j : Nat} {args : List Value} {H : rr_H} {Q : Option Value → rr_H → Prop} (h : rr_Calls d j args H Q) (e : d = d') : rr_Calls d' j args H Q := e ▸ h
theorem fxg_s {F : Nat → Nat} {j g k : Nat} : (fxs F (j + 1) k ∨ (k < g + 1 ∧ (F (j + 1)).testBit k = true)) ↔ ((fxs F (j + 1) k ∨ (k < g ∧ (F (j + 1)).testBit k = true)) ∨ (k = g ∧ (F (j + 1)).testBit k = true)) := by
  constructor
  · rintro (q | ⟨q1, q2⟩)
    · exact Or.inl (Or.inl q)
    · by_cases e : k = g
      · exact Or.inr ⟨e, q2⟩
      · exact Or.inl (Or.inr ⟨by omega, q2⟩)
  · rintro ((q | ⟨q1, q2⟩) | ⟨q1, q2⟩)
    · exact Or.inl q
    · exact Or.inr ⟨by omega, q2⟩
    · exact Or.inr ⟨by omega, q2⟩
theorem fxs_n {F : Nat → Nat} {j k : Nat} : fxs F (j + 2) k ↔ (fxs F (j + 1) k ∨ (F (j + 1)).testBit k = true) := by
  constructor
  · rintro ⟨i, i1, i2, i3⟩
    by_cases e : i = j + 1
    · subst e; exact Or.inr i3
    · exact Or.inl ⟨i, i1, by omega, i3⟩
  · rintro (⟨i, i1, i2, i3⟩ | q)
    · exact ⟨i, i1, by omega, i3⟩
    · exact ⟨j + 1, by omega, by omega, q⟩
theorem m_fix {d N S n ce le j m : Nat} {kp tp pt wr fa dm di be od sc ba bb rk ts tm pa wa : Int} {v lp lq p q A : Nat → Int} {bN : Int} {F : Nat → Nat} {h : Nat → Option rr_E} (hn : 2 ≤ n ∧ n ≤ 4) (hv : ∀ k, -999 ≤ v k ∧ v k ≤ 999) (hN : NU n v m F p q lp lq bN A) (hj : j < m) (c58 : h 58 = some (MO (n : Int) kp tp pt wr fa dm (ce : Int) di be od (j : Int) (le : Int) sc ba bb ((F (j + 1) : Nat) : Int) rk ts tm pa wa)) (c59 : h 59 = some (.inl (0, 16, .inl (fun k => ii (v k))))) {Rw : Nat → Nat} (c66 : h 66 = some (.inl (0, 5, .inl (fun k => ii ((Rw k : Nat) : Int))))) {rs xr LA LB FX SG : Nat → Int} (c67 : h 67 = some (.inl (1, 5, .inr (.inl (fun k => jj (rs k)))))) (c74 : h 74 = some (.inl (0, 25, .inl (fun k => ii (xr k))))) (c70 : h 70 = some (.inl (1, 16, .inr (.inl (fun k => jj (LA k)))))) (c71 : h 71 = some (.inl (1, 16, .inr (.inl (fun k => jj (LB k)))))) (c72 : h 72 = some (.inl (0, 16, .inl (fun k => ii (FX k))))) (c73 : h 73 = some (.inl (0, 16, .inl (fun k => ii (SG k))))) (hR : ∀ k, Rw k < 16) (hC : CR n v (fxs F (j + 1)) lp lq sc ce Rw rs) (hd : sc ∣ bN) (hb : 0 < bb ∧ bb ≤ 128) (hba : -1500000000000000 ≤ ba ∧ ba ≤ 1500000000000000) (hlev : p (j + 1) * (bb * sc) = ba * q (j + 1)) (hG : ∀ i g, 1 ≤ i → i ≤ j → (F i).testBit g = true → SG g = (i : Int) - 1) : rr_Calls (d + 4) j_Model_fix [.ref 58] (N, S, h) (fun r R => r = none ∧ ∃ (h' : Nat → Option rr_E) (ce' : Nat) (rk' sc' : Int) (Rw' : Nat → Nat) (rs' xr' SG' : Nat → Int), R = (N, S, h') ∧ fr [58, 66, 67, 70, 71, 72, 73, 74] h h' ∧ h' 58 = some (MO (n : Int) kp tp pt wr fa dm (ce' : Int) di be od ((j + 1 : Nat) : Int) ((bdif le (F (j + 1)) : Nat) : Int) sc' ba bb ((F (j + 1) : Nat) : Int) rk' ts tm pa wa) ∧ h' 66 = some (.inl (0, 5, .inl (fun k => ii ((Rw' k : Nat) : Int)))) ∧ h' 67 = some (.inl (1, 5, .inr (.inl (fun k => jj (rs' k))))) ∧ h' 70 = some (.inl (1, 16, .inr (.inl (fun k => jj (fu LA j (p (j + 1)) k))))) ∧ h' 71 = some (.inl (1, 16, .inr (.inl (fun k => jj (fu LB j (q (j + 1)) k))))) ∧ h' 72 = some (.inl (0, 16, .inl (fun k => ii (fu FX j ((F (j + 1) : Nat) : Int) k)))) ∧ h' 73 = some (.inl (0, 16, .inl (fun k => ii (SG' k)))) ∧ h' 74 = some (.inl (0, 25, .inl (fun k => ii (xr' k)))) ∧ (∀ k, Rw' k < 16) ∧ CR n v (fxs F (j + 2)) lp lq sc' ce' Rw' rs' ∧ sc' ∣ bN ∧ ∀ i g, 1 ≤ i → i ≤ j + 1 → (F i).testBit g = true → SG' g = (i : Int) - 1) := by
  refine rr_meth (C := K_Model_fix) (hd := h_Model_fix) (mx := 10) rfl rfl (fun K hK => ?_)
  have hA := al_b hn
  have hm14 := hN.1
  obtain ⟨hq0, hg1, hsP, hsD, hsF⟩ := hN.2.1 (j + 1) (by omega) (by omega)
  have hF15 := hN.2.2.2.2.2.2.1 (j + 1) (by omega) (by omega)
  have hbs := (CR_b hn hv hN (by omega) hC hd).1
  have hsc := hC.1
  have hce := hC.2.1
  have hbN := hN.2.2.2.1.1
  have hbN2 := hN.2.2.2.2.1
  have hbsc : 0 < bb * sc := Int.mul_pos hb.1 hsc
  have hbsc2 := ku_mul (x := bb) (y := sc) (a := 128) (b := 655360000) (by omega) (by omega)
  have hgb := gcd_b (a := ba) (b := bb * sc) ⟨by omega, by omega⟩ hbsc
  have hL := lw_spec (a := ba) (b := bb * sc) hbsc
  obtain ⟨hp1, hq1⟩ : lw ba (bb * sc) 0 = p (j + 1) ∧ lw ba (bb * sc) 1 = q (j + 1) := red_u hL.1 hq0 (by
    refine Int.eq_of_mul_eq_mul_right (show bb * sc ≠ 0 by omega) ?_
    calc lw ba (bb * sc) 0 * q (j + 1) * (bb * sc) = (lw ba (bb * sc) 0 * (bb * sc)) * q (j + 1) := by grind
      _ = lw ba (bb * sc) 1 * (ba * q (j + 1)) := by rw [hL.2.1]; grind
      _ = p (j + 1) * lw ba (bb * sc) 1 * (bb * sc) := by rw [← hlev]; grind) hL.2.2.1 hg1
  have hpb : -1500000000000000 ≤ p (j + 1) ∧ p (j + 1) ≤ 1500000000000000 := by rw [← hp1]; exact hL.2.2.2.1 _ hba
  have hp2 : ba.tdiv (Int.gcd ba (bb * sc) : Int) = p (j + 1) := by rw [← hp1]; rfl
  have hq2 : (bb * sc).tdiv (Int.gcd ba (bb * sc) : Int) = q (j + 1) := by rw [← hq1]; rfl
  have hqd := NU_q hN (show 1 ≤ j + 1 by omega) (show j + 1 ≤ m by omega)
  have hqb := Int.le_of_dvd hbN hqd
  have hgb2 := gcd_b (a := sc) (b := q (j + 1)) ⟨by omega, by omega⟩ hq0
  obtain ⟨k, s, hk0, hs0, hs1, hs2, hs3, hs4, hs5⟩ := wd_s hsc hq0
  have hwd := hs5 bN hd hqd
  have hwp : 0 < s * q (j + 1) := Int.mul_pos hs0 hq0
  have hwb := Int.le_of_dvd hbN hwd
  have o59 := c59
  refine hK _ _ _ _ ?_
  refine s_aload_n rfl (cn rfl) rfl ?_
  refine s_getfield rfl (cn rfl) c58 rfl ?_
  refine s_aload_n rfl (cn rfl) rfl ?_
  refine s_getfield rfl (cn rfl) c58 rfl ?_
  refine s_aload_n rfl (cn rfl) rfl ?_
  refine s_getfield rfl (cn rfl) c58 rfl ?_
  refine s_lmul rfl (cn rfl) ?_
  refine s_stat rfl (cn rfl) rfl rfl rfl (m_common (by omega) (by omega) (by omega)) ?_
  rintro _ _ ⟨rfl, rfl⟩
  refine s_lstore_n rfl (cn rfl) ?_
  refine s_aload_n rfl (cn rfl) rfl ?_
  refine s_getfield rfl (cn rfl) c58 rfl ?_
  refine s_lload_n rfl (cn rfl) rfl ?_
  refine s_ldiv rfl (cn rfl) ⟨by omega, by omega⟩ ⟨by omega, by omega⟩ (td_b ⟨by omega, by omega⟩) (by omega) ?_
  rw [hp2]
  refine s_lstore_n rfl (cn rfl) ?_
  refine s_aload_n rfl (cn rfl) rfl ?_
  refine s_getfield rfl (cn rfl) c58 rfl ?_
  refine s_aload_n rfl (cn rfl) rfl ?_
  refine s_getfield rfl (cn rfl) c58 rfl ?_
  refine s_lmul rfl (cn rfl) ?_
  refine s_lload_n rfl (cn rfl) rfl ?_
  refine s_ldiv rfl (cn rfl) ⟨by omega, by omega⟩ ⟨by omega, by omega⟩ (td_b ⟨by omega, by omega⟩) (by omega) ?_
  rw [hq2]
  refine s_lstore rfl (cn rfl) ?_
  refine s_aload_n rfl (cn rfl) rfl ?_
  refine s_getfield rfl (cn rfl) c58 rfl ?_
  refine s_aload_n rfl (cn rfl) rfl ?_
  refine s_getfield rfl (cn rfl) c58 rfl ?_
  refine s_lload_n rfl (cn rfl) rfl ?_
  refine s_lastore rfl (cn rfl) _ rfl c70 (by omega) (by decide) ?_
  refine s_aload_n rfl (cn rfl) rfl ?_
  refine s_getfield rfl (cn rfl) c58 rfl ?_
  refine s_aload_n rfl (cn rfl) rfl ?_
  refine s_getfield rfl (cn rfl) c58 rfl ?_
  refine s_lload rfl (cn rfl) rfl ?_
  refine s_lastore rfl (cn rfl) _ rfl c71 (by omega) (by decide) ?_
  refine s_aload_n rfl (cn rfl) rfl ?_
  refine s_getfield rfl (cn rfl) c58 rfl ?_
  refine s_aload_n rfl (cn rfl) rfl ?_
  refine s_getfield rfl (cn rfl) c58 rfl ?_
  refine s_aload_n rfl (cn rfl) rfl ?_
  refine s_getfield rfl (cn rfl) c58 rfl ?_
  refine s_iastore rfl (cn rfl) _ rfl c72 (by omega) (by decide) ?_
  refine s_aload_n rfl (cn rfl) rfl ?_
  refine s_getfield rfl (cn rfl) c58 rfl ?_
  refine s_aload_n rfl (cn rfl) rfl ?_
  refine s_getfield rfl (cn rfl) c58 rfl ?_
  refine s_lload rfl (cn rfl) rfl ?_
  refine s_stat rfl (cn rfl) rfl rfl rfl (m_common (by omega) (by omega) (by omega)) ?_
  rintro _ _ ⟨rfl, rfl⟩
  refine s_ldiv rfl (cn rfl) ⟨by omega, by omega⟩ ⟨by omega, by omega⟩ (td_b ⟨by omega, by omega⟩) (by omega) ?_
  rw [hs1]
  refine s_lload rfl (cn rfl) rfl ?_
  refine s_lmul rfl (cn rfl) ?_
  refine s_lstore rfl (cn rfl) ?_
  refine s_iconst rfl (cn rfl) ?_
  refine s_istore rfl (ch rfl) ?_
  have lp53 : ∀ r : Nat, r ≤ ce → ∀ (h' : Nat → Option rr_E) (rs' : Nat → Int) (c58 : h' 58 = some (MO (n : Int) kp tp pt wr fa dm (ce : Int) di be od (j : Int) (le : Int) sc ba bb ((F (j + 1) : Nat) : Int) rk ts tm pa wa)) (c67 : h' 67 = some (.inl (1, 5, .inr (.inl (fun k => jj (rs' k)))))) (c70 : h' 70 = some (.inl (1, 16, .inr (.inl (fun k => jj (fu LA j (p (j + 1)) k)))))) (c71 : h' 71 = some (.inl (1, 16, .inr (.inl (fun k => jj (fu LB j (q (j + 1)) k)))))) (c72 : h' 72 = some (.inl (0, 16, .inl (fun k => ii (fu FX j ((F (j + 1) : Nat) : Int) k))))) (hf : fr [67, 70, 71, 72] h h') (hrs : ∀ i, rs' i = if i < r then rs i * k else rs i), K 53 [some (.ref 58), some (.long (jj ((Int.gcd ba (bb * sc) : Nat) : Int))), none, some (.long (jj (p (j + 1)))), none, some (.long (jj (q (j + 1)))), none, some (.long (jj (s * q (j + 1)))), none, some (.int (ii (r : Int)))] [] (N, S, h') := by
    refine dn (fun r hr ih53 => ?_)
    intro h' rs' c58 c67 c70 c71 c72 hf hrs
    refine hK _ _ _ _ ?_
    refine s_iload rfl (cn rfl) rfl ?_
    refine s_aload_n rfl (cn rfl) rfl ?_
    refine s_getfield rfl (cn rfl) c58 rfl ?_
    refine s_icmp_ge rfl (cn rfl) (cn rfl) ⟨by omega, by omega⟩ ⟨by omega, by omega⟩ (fun q56 => ?_) (fun q56 => ?_)
    · refine s_aload_n rfl (cn rfl) rfl ?_
      refine s_lload rfl (cn rfl) rfl ?_
      refine s_putl rfl (cn rfl) rfl c58 rfl ?_
      refine s_iconst rfl (cn rfl) ?_
      refine s_istore rfl (ch rfl) ?_
      have lp75 : ∀ g : Nat, g ≤ al n → ∀ (h2 : Nat → Option rr_E) (ce2 : Nat) (rk2 : Int) (Rw2 : Nat → Nat) (rs2 xr2 SG2 : Nat → Int) (c58 : h2 58 = some (MO (n : Int) kp tp pt wr fa dm (ce2 : Int) di be od (j : Int) (le : Int) (s * q (j + 1)) ba bb ((F (j + 1) : Nat) : Int) rk2 ts tm pa wa)) (c66 : h2 66 = some (.inl (0, 5, .inl (fun k => ii ((Rw2 k : Nat) : Int))))) (c67 : h2 67 = some (.inl (1, 5, .inr (.inl (fun k => jj (rs2 k)))))) (c70 : h2 70 = some (.inl (1, 16, .inr (.inl (fun k => jj (fu LA j (p (j + 1)) k)))))) (c71 : h2 71 = some (.inl (1, 16, .inr (.inl (fun k => jj (fu LB j (q (j + 1)) k)))))) (c72 : h2 72 = some (.inl (0, 16, .inl (fun k => ii (fu FX j ((F (j + 1) : Nat) : Int) k))))) (c73 : h2 73 = some (.inl (0, 16, .inl (fun k => ii (SG2 k))))) (c74 : h2 74 = some (.inl (0, 25, .inl (fun k => ii (xr2 k))))) (hf2 : fr [58, 66, 67, 70, 71, 72, 73, 74] h h2) (hR2 : ∀ k, Rw2 k < 16) (g1 : 1 ≤ g) (hC2 : CR n v (fun k => fxs F (j + 1) k ∨ (k < g ∧ (F (j + 1)).testBit k = true)) lp lq (s * q (j + 1)) ce2 Rw2 rs2) (hS1 : ∀ k, 1 ≤ k → k < g → (F (j + 1)).testBit k = true → SG2 k = (j : Int)) (hS2 : ∀ k, ¬ (F (j + 1)).testBit k = true → SG2 k = SG k), K 75 [some (.ref 58), some (.long (jj ((Int.gcd ba (bb * sc) : Nat) : Int))), none, some (.long (jj (p (j + 1)))), none, some (.long (jj (q (j + 1)))), none, some (.long (jj (s * q (j + 1)))), none, some (.int (ii (g : Int)))] [] (N, S, h2) := by
        refine dn (fun g hg ih75 => ?_)
        intro h2 ce2 rk2 Rw2 rs2 xr2 SG2 c58 c66 c67 c70 c71 c72 c73 c74 hf2 hR2 g1 hC2 hS1 hS2
        have c59 := (hf2 59 (by decide)).trans o59
        have hce2 := hC2.2.1
        have hvg := hv g
        refine hK _ _ _ _ ?_
        refine s_iload rfl (cn rfl) rfl ?_
        refine s_aload_n rfl (cn rfl) rfl ?_
        refine s_virt rfl (cn rfl) rfl rfl c58 rfl (m_all hn c58) ?_
        rintro _ _ ⟨rfl, rfl⟩
        refine s_icmp_ge rfl (cn rfl) (cn rfl) ⟨by omega, by omega⟩ ⟨by omega, by omega⟩ (fun q78 => ?_) (fun q78 => ?_)
        · refine s_aload_n rfl (cn rfl) rfl ?_
          refine s_dupr rfl (cn rfl) ?_
          refine s_getfield rfl (cn rfl) c58 rfl ?_
          refine s_aload_n rfl (cn rfl) rfl ?_
          refine s_getfield rfl (cn rfl) c58 rfl ?_
          refine s_iconst rfl (cn rfl) ?_
          refine s_ixor rfl (cn rfl) _ (bi_not _) ?_
          refine s_iand rfl (cn rfl) _ (bi_andn _ _) ?_
          refine s_puti rfl (cn rfl) rfl c58 rfl ?_
          refine s_aload_n rfl (cn rfl) rfl ?_
          refine s_dupr rfl (cn rfl) ?_
          refine s_getfield rfl (cn rfl) rr_set_eq rfl ?_
          refine s_iconst rfl (cn rfl) ?_
          refine s_iadd rfl (cn rfl) ?_
          refine s_puti rfl (cn rfl) rfl rr_set_eq rfl ?_
          refine s_return rfl ?_
          refine ⟨rfl, _, ce2, rk2, s * q (j + 1), Rw2, rs2, xr2, SG2, rfl, fr_s (by decide) (fr_s (by decide) hf2), rr_set_eq, c66, c67, c70, c71, c72, c73, c74, hR2, CR_fx hC2 (fun i i1 i2 => ?_), hwd, fun i g' i1 i2 i3 => ?_⟩
          · rw [fxs_n]
            constructor
            · rintro (z | z)
              · exact Or.inl z
              · exact Or.inr z.2
            · rintro (z | z)
              · exact Or.inl z
              · exact Or.inr ⟨by rw [← al_pow] at i2; omega, z⟩
          · by_cases e : i = j + 1
            · subst e
              have z := (hsF g' i3).1
              rw [hS1 g' z.1 (by have := z.2.1; rw [← al_pow] at this; omega) i3]; omega
            · rw [hS2 g' (fun z => by have := NU_one hN i1 (by omega) (by omega) (by omega) i3 z; omega)]
              exact hG i g' i1 (by omega) i3
        · refine s_aload_n rfl (cn rfl) rfl ?_
          refine s_getfield rfl (cn rfl) c58 rfl ?_
          refine s_iload rfl (cn rfl) rfl ?_
          refine s_stat rfl (cn rfl) rfl rfl rfl (m_has (by omega) (by omega)) ?_
          rintro _ _ ⟨rfl, rfl⟩
          refine s_ifb_ne rfl (cn rfl) (cn rfl) (fun q83 => ?_) (fun q83 => ?_)
          · have hbit := bt_1.mp q83
            refine s_aload_n rfl (cn rfl) rfl ?_
            refine s_getfield rfl (cn rfl) c58 rfl ?_
            refine s_iload rfl (cn rfl) rfl ?_
            refine s_aload_n rfl (cn rfl) rfl ?_
            refine s_getfield rfl (cn rfl) c58 rfl ?_
            refine s_iastore rfl (cn rfl) _ rfl c73 (by omega) (by decide) ?_
            refine s_aload_n rfl (cn rfl) rfl ?_
            refine s_iload rfl (cn rfl) rfl ?_
            refine s_virt rfl (cn rfl) rfl rfl c58 rfl (m_isMore (h := rr_set h2 73 (.inl (0, 16, .inl (fun i => ii (fu SG2 g (j : Int) i))))) (g := g) hn c58 c66 c74 hR2 hce2 (by omega) hC2.2.2.2.2.1) ?_
            rintro _ _ ⟨h3, y3, rk3, rfl, hf3, c58, c74, hY⟩
            have c59 := (hf3 59 (by decide)).trans c59
            have c66 := (hf3 66 (by decide)).trans c66
            have c67 := (hf3 67 (by decide)).trans c67
            have c70 := (hf3 70 (by decide)).trans c70
            have c71 := (hf3 71 (by decide)).trans c71
            have c72 := (hf3 72 (by decide)).trans c72
            have c73 := (hf3 73 (by decide)).trans rr_set_eq
            rcases hY with ⟨rfl, hY⟩ | ⟨rfl, hY⟩
            · refine s_if_ne rfl (cn rfl) (cn rfl) (by decide) (fun q94 => ?_) (fun q94 => absurd q94 (by decide))
              refine s_aload_n rfl (cn rfl) rfl ?_
              refine s_getfield rfl (cn rfl) c58 rfl ?_
              refine s_aload_n rfl (cn rfl) rfl ?_
              refine s_getfield rfl (cn rfl) c58 rfl ?_
              refine s_iload rfl (cn rfl) rfl ?_
              refine s_iastore rfl (cn rfl) _ rfl c66 (by omega) (by decide) ?_
              refine s_aload_n rfl (cn rfl) rfl ?_
              refine s_getfield rfl (cn rfl) c58 rfl ?_
              refine s_aload_n rfl (cn rfl) rfl ?_
              refine s_getfield rfl (cn rfl) c58 rfl ?_
              refine s_aload_n rfl (cn rfl) rfl ?_
              refine s_getfield rfl (cn rfl) c58 rfl ?_
              refine s_aload_n rfl (cn rfl) rfl ?_
              refine s_getfield rfl (cn rfl) c58 rfl ?_
              refine s_iload rfl (cn rfl) rfl ?_
              refine s_iaload rfl (cn rfl) _ rfl c59 rfl (by omega) (by decide) rfl ?_
              refine s_i2l rfl (cn rfl) ⟨by omega, by omega⟩ ?_
              refine s_lmul rfl (cn rfl) ?_
              refine s_aload_n rfl (cn rfl) rfl ?_
              refine s_getfield rfl (cn rfl) c58 rfl ?_
              refine s_lload rfl (cn rfl) rfl ?_
              refine s_ldiv rfl (cn rfl) ⟨by omega, by omega⟩ ⟨by omega, by omega⟩ (td_b ⟨by omega, by omega⟩) (by omega) ?_
              rw [hs4]
              refine s_lload_n rfl (cn rfl) rfl ?_
              refine s_lmul rfl (cn rfl) ?_
              refine s_lsub rfl (cn rfl) ?_
              refine s_lastore rfl (cn rfl) _ rfl c67 (by omega) (by decide) ?_
              refine s_aload_n rfl (cn rfl) rfl ?_
              refine s_dupr rfl (cn rfl) ?_
              refine s_getfield rfl (cn rfl) c58 rfl ?_
              refine s_iconst rfl (cn rfl) ?_
              refine s_iadd rfl (cn rfl) ?_
              refine s_puti rfl (cn rfl) rfl c58 rfl ?_
              refine s_iinc rfl (cn rfl) rfl ?_
              refine s_goto rfl (ch rfl) ?_
              have hC3 := CR_y (t := s * q (j + 1) * v g - s * p (j + 1)) hC2 (fun i => fxg_s.trans ⟨fun z => by
                  rcases z with z | ⟨z, _⟩
                  · exact Or.inl z
                  · exact Or.inr z, fun z => by
                  rcases z with z | z
                  · exact Or.inl z
                  · exact Or.inr ⟨z, by rw [z]; exact hbit⟩⟩) ⟨g1, by rw [← al_pow]; omega⟩ hY (by rw [(hsF g hbit).2.1, (hsF g hbit).2.2]; grind)
              exact ih75 (by omega) _ (ce2 + 1) _ (pu Rw2 ce2 g) (fu rs2 ce2 (s * q (j + 1) * v g - s * p (j + 1))) _ _ rr_set_eq (ar_f (v := fu (fun k => ((Rw2 k : Nat) : Int)) ce2 (g : Int)) rfl pu_e) rfl c70 c71 c72 c73 c74 (fr_s (by decide) (fr_s (by decide) (fr_s (by decide) (fr_t (fr_s (by decide) hf2) hf3 (by simp))))) (fun i => by unfold pu; split; omega; exact hR2 i) (by omega) hC3 (fun i i1 i2 i3 => by
                by_cases e : i = g
                · subst e; exact fu_s
                · rw [fu_n e]; exact hS1 i i1 (by omega) i3) (fun i i3 => by
                rw [fu_n (fun e => i3 (by rw [e]; exact hbit))]; exact hS2 i i3)
            · refine s_if_ne rfl (cn rfl) (cn rfl) (by decide) (fun q94 => absurd q94 (by decide)) (fun q94 => ?_)
              refine s_goto rfl (cn rfl) ?_
              refine s_iinc rfl (cn rfl) rfl ?_
              refine s_goto rfl (ch rfl) ?_
              exact ih75 (by omega) h3 ce2 _ _ _ _ _ c58 c66 c67 c70 c71 c72 c73 c74 (fr_t (fr_s (by decide) hf2) hf3 (by simp)) hR2 (by omega) (CR_n hC2 (fun i => fxg_s.trans ⟨fun z => by
                  rcases z with z | ⟨z, _⟩
                  · exact Or.inl z
                  · exact Or.inr z, fun z => by
                  rcases z with z | z
                  · exact Or.inl z
                  · exact Or.inr ⟨z, by rw [z]; exact hbit⟩⟩) hY) (fun i i1 i2 i3 => by
                by_cases e : i = g
                · subst e; exact fu_s
                · rw [fu_n e]; exact hS1 i i1 (by omega) i3) (fun i i3 => by
                rw [fu_n (fun e => i3 (by rw [e]; exact hbit))]; exact hS2 i i3)
          · refine s_goto rfl (cn rfl) ?_
            refine s_iinc rfl (cn rfl) rfl ?_
            refine s_goto rfl (ch rfl) ?_
            exact ih75 (by omega) h2 ce2 _ _ _ _ _ c58 c66 c67 c70 c71 c72 c73 c74 hf2 hR2 (by omega) (CR_fx hC2 (fun i i1 i2 => ⟨fun z => fxg_s.mpr (Or.inl z), fun z => by
                rcases fxg_s.mp z with z2 | ⟨e2, z2⟩
                · exact z2
                · exact absurd (bt_1.mpr (by rw [← e2]; exact z2)) q83⟩)) (fun i i1 i2 i3 => by
                by_cases e : i = g
                · rw [e] at i3; exact absurd (bt_1.mpr i3) q83
                · exact hS1 i i1 (by omega) i3) hS2
      exact lp75 1 (by omega) _ ce _ Rw rs' xr SG rr_set_eq ((hf 66 (by decide)).trans c66) c67 c70 c71 c72 ((hf 73 (by decide)).trans c73) ((hf 74 (by decide)).trans c74) (fr_s (by decide) (fr_w hf (by simp))) hR (by omega) (by
        rw [hs2]
        refine CR_scale hk0 (CR_fx hC (fun i i1 _ => ⟨Or.inl, fun z => ?_⟩)) (fun i hi => (hrs i).trans (if_pos (by omega)))
        rcases z with z | z
        · exact z
        · omega) (fun i i1 i2 => absurd i2 (by omega)) (fun i _ => rfl)
    · refine s_aload_n rfl (cn rfl) rfl ?_
      refine s_getfield rfl (cn rfl) c58 rfl ?_
      refine s_iload rfl (cn rfl) rfl ?_
      refine s_dup2 rfl (cn rfl) ?_
      refine s_laload rfl (cn rfl) _ rfl c67 (by omega) (by decide) rfl ?_
      refine s_lload rfl (cn rfl) rfl ?_
      refine s_aload_n rfl (cn rfl) rfl ?_
      refine s_getfield rfl (cn rfl) c58 rfl ?_
      refine s_ldiv rfl (cn rfl) ⟨by omega, by omega⟩ ⟨by omega, by omega⟩ (td_b ⟨by omega, by omega⟩) (by omega) ?_
      rw [hs3]
      refine s_lmul rfl (cn rfl) ?_
      refine s_lastore rfl (cn rfl) _ rfl c67 (by omega) (by decide) ?_
      refine s_iinc rfl (cn rfl) rfl ?_
      refine s_goto rfl (ch rfl) ?_
      exact ih53 (by omega) _ _ c58 rr_set_eq c70 c71 c72 (fr_s (by decide) hf) (fun i => by
        by_cases e : i = r
        · subst e; rw [fu_s, if_pos (by omega), hrs i, if_neg (by omega)]
        · rw [fu_n e, hrs i]
          by_cases e2 : i < r
          · rw [if_pos e2, if_pos (by omega)]
          · rw [if_neg e2, if_neg (by omega)])
  exact lp53 0 (by omega) _ rs c58 c67 rfl rfl rr_set_eq (fr_s (by decide) (fr_s (by decide) (fr_s (by decide) fr_r))) (fun i => (if_neg (by omega)).symm)
