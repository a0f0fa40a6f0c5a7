/-! A corner, all corners. -/
theorem m_sumOf {d N S n : Nat} {kp tp pt wr fa dm ce di be od sm le sc ba bb ti rk ts tm pa wa : Int} {h : Nat → Option rr_E} (hn : 2 ≤ n ∧ n ≤ 4) (c58 : h 58 = some (MO (n : Int) kp tp pt wr fa dm ce di be od sm le sc ba bb ti rk ts tm pa wa)) {a : Nat → Int} (c69 : h 69 = some (.inl (1, 5, .inr (.inl (fun k => jj (a k)))))) {g : Nat} (hg : g < 16) : rr_Calls (d + 2) j_Model_sumOf [.ref 58, .int (ii (g : Int))] (N, S, h) (fun r R => r = some (.long (jj (st_sh n g a))) ∧ R = (N, S, h)) := by
  refine rr_meth (C := K_Model_sumOf) (hd := h_Model_sumOf) (mx := 5) rfl rfl (fun K hK => ?_)
  refine hK _ _ _ _ ?_
  refine s_lconst rfl (cn rfl) 0 (by decide) ?_
  refine s_lstore_n rfl (cn rfl) ?_
  refine s_iconst rfl (cn rfl) ?_
  refine s_istore rfl (ch rfl) ?_
  have lp4 : ∀ p : Nat, p ≤ n → ∀ (x : Int) (hx : x = st_sh p g a), K 4 [some (.ref 58), some (.int (ii (g : Int))), some (.long (jj x)), none, some (.int (ii (p : Int)))] [] (N, S, h) := by
    refine dn (fun p hp ih4 => ?_)
    intro x hx
    refine hK _ _ _ _ ?_
    refine s_iload rfl (cn rfl) rfl ?_
    refine s_aload_n rfl (cn rfl) rfl ?_
    refine s_getfield rfl (cn rfl) c58 rfl ?_
    refine s_icmp_ge rfl (cn rfl) (cn rfl) ⟨by omega, by omega⟩ ⟨by omega, by omega⟩ (fun q7 => ?_) (fun q7 => ?_)
    · refine s_lload_n rfl (cn rfl) rfl ?_
      refine s_lreturn rfl ?_
      exact ⟨rl (by rw [hx, show p = n by omega]), rfl⟩
    · refine s_lload_n rfl (cn rfl) rfl ?_
      refine s_iload_n rfl (cn rfl) rfl ?_
      refine s_iload rfl (cn rfl) rfl ?_
      refine s_stat rfl (cn rfl) rfl rfl rfl (m_has (by omega) (by omega)) ?_
      rintro _ _ ⟨rfl, rfl⟩
      refine s_ifb_eq rfl (cn rfl) (cn rfl) (fun q12 => ?_) (fun q12 => ?_)
      · refine s_lconst rfl (cn rfl) 0 (by decide) ?_
        refine s_ladd rfl (cn rfl) ?_
        refine s_lstore_n rfl (cn rfl) ?_
        refine s_iinc rfl (cn rfl) rfl ?_
        refine s_goto rfl (ch rfl) ?_
        exact ih4 (by omega) _ (by show _ = st_sh p g a + st_bt g p * a p; rw [hx, show st_bt g p = 0 by have := bt_01 g p; omega]; omega)
      · refine s_aload_n rfl (cn rfl) rfl ?_
        refine s_getfield rfl (cn rfl) c58 rfl ?_
        refine s_iload rfl (cn rfl) rfl ?_
        refine s_laload rfl (cn rfl) _ rfl c69 (by omega) (by decide) rfl ?_
        refine s_goto rfl (cn rfl) ?_
        refine s_ladd rfl (cn rfl) ?_
        refine s_lstore_n rfl (cn rfl) ?_
        refine s_iinc rfl (cn rfl) rfl ?_
        refine s_goto rfl (ch rfl) ?_
        exact ih4 (by omega) _ (by show _ = st_sh p g a + st_bt g p * a p; rw [hx, q12]; omega)
  exact lp4 0 (by omega) _ rfl
theorem ors_b {s g : Nat} (hs : s < 2 ^ g) : (s ||| 2 ^ g) < 2 ^ (g + 1) := by
  refine Nat.or_lt_two_pow (Nat.lt_of_lt_of_le hs (Nat.pow_le_pow_right (by decide) (by omega))) (Nat.pow_lt_pow_right (by decide) (by omega))
theorem m_corner {d N S n : Nat} {kp tp pt wr fa dm od sm ba bb rk ts tm pa wa : Int} {h : Nat → Option rr_E} (hn : 2 ≤ n ∧ n ≤ 4)  {ce : Nat} {di sc be : Int} {le ti : Nat} (c58 : h 58 = some (MO (n : Int) kp tp pt wr fa dm (ce : Int) di be od sm (le : Int) sc ba bb (ti : Int) rk ts tm pa wa)) {v a : Nat → Int} (c59 : h 59 = some (.inl (0, 16, .inl (fun k => ii (v k))))) (hv : ∀ k, -999 ≤ v k ∧ v k ≤ 999) (c69 : h 69 = some (.inl (1, 5, .inr (.inl (fun k => jj (a k)))))) (hle : le < 32768) (hti : ti < 32768) (hsc : 0 < sc ∧ sc ≤ 655360000) (hbe : 0 < be ∧ be ≤ 128) (hab : ∀ q, q < n → -400000000000000000 ≤ a q ∧ a q ≤ 400000000000000000) (han : -1500000000000000 ≤ a n ∧ a n ≤ 1500000000000000) (hba : -1500000000000000 ≤ ba ∧ ba ≤ 1500000000000000) (hbb : 0 ≤ bb ∧ bb ≤ 128) : rr_Calls (d + 3) j_Model_corner [.ref 58] (N, S, h) (fun r R => r = none ∧ ∃ (h' : Nat → Option rr_E) (ba' bb' : Int) (ti' : Nat), R = (N, S, h') ∧ fr [58] h h' ∧ h' 58 = some (MO (n : Int) kp tp pt wr fa dm (ce : Int) di be od sm (le : Int) sc ba' bb' (ti' : Int) rk ts tm pa wa) ∧ ((¬ (∀ g, 1 ≤ g → g < al n → le.testBit g = true → ovr n v sc be a g ≤ 0) ∧ ba' = ba ∧ bb' = bb ∧ ti' = ti) ∨ ((∀ g, 1 ≤ g → g < al n → le.testBit g = true → ovr n v sc be a g ≤ 0) ∧ ∃ s, (∀ k, s.testBit k = true ↔ (1 ≤ k ∧ k < al n ∧ le.testBit k = true ∧ ovr n v sc be a k = 0)) ∧ (bb = 0 ∨ a n * bb < ba * be → ba' = a n ∧ bb' = be ∧ ti' = s) ∧ (bb ≠ 0 → a n * bb = ba * be → ba' = ba ∧ bb' = bb ∧ ti' = ti &&& s) ∧ (bb ≠ 0 → ba * be < a n * bb → ba' = ba ∧ bb' = bb ∧ ti' = ti)))) := by
  refine rr_meth (C := K_Model_corner) (hd := h_Model_corner) (mx := 5) rfl rfl (fun K hK => ?_)
  have hA := al_b hn
  refine hK _ _ _ _ ?_
  refine s_iconst rfl (cn rfl) ?_
  refine s_istore_n rfl (cn rfl) ?_
  refine s_iconst rfl (cn rfl) ?_
  refine s_istore_n rfl (ch rfl) ?_
  have lp4 : ∀ g : Nat, g ≤ al n → ∀ (s : Nat) (l3 : Option Value) (g1 : 1 ≤ g) (hfe : ∀ k, 1 ≤ k → k < g → le.testBit k = true → ovr n v sc be a k ≤ 0) (hs : (∀ k, s.testBit k = true ↔ (1 ≤ k ∧ k < g ∧ le.testBit k = true ∧ ovr n v sc be a k = 0))) (hsb : s < 2 ^ g), K 4 [some (.ref 58), some (.int (ii (s : Int))), some (.int (ii (g : Int))), l3, none] [] (N, S, h) := by
    refine dn (fun g hg ih4 => ?_)
    intro s l3 g1 hfe hs hsb
    refine hK _ _ _ _ ?_
    refine s_iload_n rfl (cn rfl) rfl ?_
    refine s_aload_n rfl (cn rfl) rfl ?_
    refine s_virt rfl (cn rfl) rfl rfl c58 rfl (m_all hn c58) ?_
    rintro _ _ ⟨rfl, rfl⟩
    refine s_icmp_ge rfl (cn rfl) (cn rfl) ⟨by omega, by omega⟩ ⟨by omega, by omega⟩ (fun q7 => ?_) (fun q7 => ?_)
    · have hm1 := ku_mul (x := a n) (y := bb) (a := 1500000000000000) (b := 128) han (by omega)
      have hm2 := ku_mul (x := ba) (y := be) (a := 1500000000000000) (b := 128) hba (by omega)
      have hfe2 : ∀ g, 1 ≤ g → g < al n → le.testBit g = true → ovr n v sc be a g ≤ 0 := fun k k1 k2 k3 => hfe k k1 (by omega) k3
      have hs3 : ∀ k, s.testBit k = true ↔ (1 ≤ k ∧ k < al n ∧ le.testBit k = true ∧ ovr n v sc be a k = 0) := fun k => (hs k).trans ⟨fun q => ⟨q.1, by omega, q.2.2⟩, fun q => ⟨q.1, by omega, q.2.2⟩⟩
      have hss : s &&& s = s := Nat.and_self s
      refine s_aload_n rfl (cn rfl) rfl ?_
      refine s_getfield rfl (cn rfl) c58 rfl ?_
      refine s_lconst rfl (cn rfl) 0 (by decide) ?_
      refine s_lcmp rfl (cn rfl) ?_
      refine s_ifl_ne rfl (cn rfl) (cn rfl) ⟨by omega, by omega⟩ ⟨by omega, by omega⟩ (fun q59 => ?_) (fun q59 => ?_)
      · refine s_aload_n rfl (cn rfl) rfl ?_
        refine s_getfield rfl (cn rfl) c58 rfl ?_
        refine s_aload_n rfl (cn rfl) rfl ?_
        refine s_getfield rfl (cn rfl) c58 rfl ?_
        refine s_laload rfl (cn rfl) _ rfl c69 (by omega) (by decide) rfl ?_
        refine s_aload_n rfl (cn rfl) rfl ?_
        refine s_getfield rfl (cn rfl) c58 rfl ?_
        refine s_lmul rfl (cn rfl) ?_
        refine s_aload_n rfl (cn rfl) rfl ?_
        refine s_getfield rfl (cn rfl) c58 rfl ?_
        refine s_aload_n rfl (cn rfl) rfl ?_
        refine s_getfield rfl (cn rfl) c58 rfl ?_
        refine s_lmul rfl (cn rfl) ?_
        refine s_lsub rfl (cn rfl) ?_
        refine s_lstore_n rfl (cn rfl) ?_
        refine s_lload_n rfl (cn rfl) rfl ?_
        refine s_lconst rfl (cn rfl) 0 (by decide) ?_
        refine s_lcmp rfl (cn rfl) ?_
        refine s_ifl_le rfl (cn rfl) (cn rfl) ⟨by omega, by omega⟩ ⟨by omega, by omega⟩ (fun q80 => ?_) (fun q80 => ?_)
        · first
          | (exfalso; omega)
          | skip
            refine s_lload_n rfl (cn rfl) rfl ?_
            refine s_lconst rfl (cn rfl) 0 (by decide) ?_
            refine s_lcmp rfl (cn rfl) ?_
            refine s_ifl_ge rfl (cn rfl) (cn rfl) ⟨by omega, by omega⟩ ⟨by omega, by omega⟩ (fun q85 => ?_) (fun q85 => ?_)
            · first
              | (exfalso; omega)
              | skip
                refine s_aload_n rfl (cn rfl) rfl ?_
                refine s_dupr rfl (cn rfl) ?_
                refine s_getfield rfl (cn rfl) c58 rfl ?_
                refine s_iload_n rfl (cn rfl) rfl ?_
                refine s_iand rfl (cn rfl) _ (bi_and _ _) ?_
                refine s_puti rfl (cn rfl) rfl c58 rfl ?_
                refine s_return rfl ?_
                first
                  | exact ⟨rfl, _, a n, be, s &&& s, rfl, fr_s (by decide) (fr_s (by decide) (fr_s (by decide) (fr_s (by decide) fr_r))), rr_set_eq, Or.inr ⟨hfe2, s, hs3, fun _ => ⟨rfl, rfl, hss⟩, fun q1 q2 => by omega, fun q1 q2 => by omega⟩⟩
                  | exact ⟨rfl, _, ba, bb, ti &&& s, rfl, fr_s (by decide) fr_r, rr_set_eq, Or.inr ⟨hfe2, s, hs3, fun q => by omega, fun _ _ => ⟨rfl, rfl, rfl⟩, fun q1 q2 => by omega⟩⟩
            · first
              | (exfalso; omega)
              | skip
                refine s_aload_n rfl (cn rfl) rfl ?_
                refine s_aload_n rfl (cn rfl) rfl ?_
                refine s_getfield rfl (cn rfl) c58 rfl ?_
                refine s_aload_n rfl (cn rfl) rfl ?_
                refine s_getfield rfl (cn rfl) c58 rfl ?_
                refine s_laload rfl (cn rfl) _ rfl c69 (by omega) (by decide) rfl ?_
                refine s_putl rfl (cn rfl) rfl c58 rfl ?_
                refine s_aload_n rfl (cn rfl) rfl ?_
                refine s_aload_n rfl (cn rfl) rfl ?_
                refine s_getfield rfl (cn rfl) rr_set_eq rfl ?_
                refine s_putl rfl (cn rfl) rfl rr_set_eq rfl ?_
                refine s_aload_n rfl (cn rfl) rfl ?_
                refine s_iload_n rfl (cn rfl) rfl ?_
                refine s_puti rfl (cn rfl) rfl rr_set_eq rfl ?_
                refine s_aload_n rfl (cn rfl) rfl ?_
                refine s_dupr rfl (cn rfl) ?_
                refine s_getfield rfl (cn rfl) rr_set_eq rfl ?_
                refine s_iload_n rfl (cn rfl) rfl ?_
                refine s_iand rfl (cn rfl) _ (bi_and _ _) ?_
                refine s_puti rfl (cn rfl) rfl rr_set_eq rfl ?_
                refine s_return rfl ?_
                first
                  | exact ⟨rfl, _, a n, be, s &&& s, rfl, fr_s (by decide) (fr_s (by decide) (fr_s (by decide) (fr_s (by decide) fr_r))), rr_set_eq, Or.inr ⟨hfe2, s, hs3, fun _ => ⟨rfl, rfl, hss⟩, fun q1 q2 => by omega, fun q1 q2 => by omega⟩⟩
                  | exact ⟨rfl, _, ba, bb, ti &&& s, rfl, fr_s (by decide) fr_r, rr_set_eq, Or.inr ⟨hfe2, s, hs3, fun q => by omega, fun _ _ => ⟨rfl, rfl, rfl⟩, fun q1 q2 => by omega⟩⟩
        · first
          | (exfalso; omega)
          | skip
            refine s_return rfl ?_
            exact ⟨rfl, h, ba, bb, ti, rfl, fr_r, c58, Or.inr ⟨hfe2, s, hs3, fun q => by omega, fun q1 q2 => by omega, fun _ _ => ⟨rfl, rfl, rfl⟩⟩⟩
      · refine s_ldc2_w rfl (cn rfl) ?_
        refine s_goto rfl (cn rfl) ?_
        refine s_lstore_n rfl (cn rfl) ?_
        refine s_lload_n rfl (cn rfl) rfl ?_
        refine s_lconst rfl (cn rfl) 0 (by decide) ?_
        refine s_lcmp rfl (cn rfl) ?_
        refine s_ifl_le rfl (cn rfl) (cn rfl) ⟨by omega, by omega⟩ ⟨by omega, by omega⟩ (fun q80 => ?_) (fun q80 => ?_)
        · first
          | (exfalso; omega)
          | skip
            refine s_lload_n rfl (cn rfl) rfl ?_
            refine s_lconst rfl (cn rfl) 0 (by decide) ?_
            refine s_lcmp rfl (cn rfl) ?_
            refine s_ifl_ge rfl (cn rfl) (cn rfl) ⟨by omega, by omega⟩ ⟨by omega, by omega⟩ (fun q85 => ?_) (fun q85 => ?_)
            · first
              | (exfalso; omega)
              | skip
                refine s_aload_n rfl (cn rfl) rfl ?_
                refine s_dupr rfl (cn rfl) ?_
                refine s_getfield rfl (cn rfl) c58 rfl ?_
                refine s_iload_n rfl (cn rfl) rfl ?_
                refine s_iand rfl (cn rfl) _ (bi_and _ _) ?_
                refine s_puti rfl (cn rfl) rfl c58 rfl ?_
                refine s_return rfl ?_
                first
                  | exact ⟨rfl, _, a n, be, s &&& s, rfl, fr_s (by decide) (fr_s (by decide) (fr_s (by decide) (fr_s (by decide) fr_r))), rr_set_eq, Or.inr ⟨hfe2, s, hs3, fun _ => ⟨rfl, rfl, hss⟩, fun q1 q2 => by omega, fun q1 q2 => by omega⟩⟩
                  | exact ⟨rfl, _, ba, bb, ti &&& s, rfl, fr_s (by decide) fr_r, rr_set_eq, Or.inr ⟨hfe2, s, hs3, fun q => by omega, fun _ _ => ⟨rfl, rfl, rfl⟩, fun q1 q2 => by omega⟩⟩
            · first
              | (exfalso; omega)
              | skip
                refine s_aload_n rfl (cn rfl) rfl ?_
                refine s_aload_n rfl (cn rfl) rfl ?_
                refine s_getfield rfl (cn rfl) c58 rfl ?_
                refine s_aload_n rfl (cn rfl) rfl ?_
                refine s_getfield rfl (cn rfl) c58 rfl ?_
                refine s_laload rfl (cn rfl) _ rfl c69 (by omega) (by decide) rfl ?_
                refine s_putl rfl (cn rfl) rfl c58 rfl ?_
                refine s_aload_n rfl (cn rfl) rfl ?_
                refine s_aload_n rfl (cn rfl) rfl ?_
                refine s_getfield rfl (cn rfl) rr_set_eq rfl ?_
                refine s_putl rfl (cn rfl) rfl rr_set_eq rfl ?_
                refine s_aload_n rfl (cn rfl) rfl ?_
                refine s_iload_n rfl (cn rfl) rfl ?_
                refine s_puti rfl (cn rfl) rfl rr_set_eq rfl ?_
                refine s_aload_n rfl (cn rfl) rfl ?_
                refine s_dupr rfl (cn rfl) ?_
                refine s_getfield rfl (cn rfl) rr_set_eq rfl ?_
                refine s_iload_n rfl (cn rfl) rfl ?_
                refine s_iand rfl (cn rfl) _ (bi_and _ _) ?_
                refine s_puti rfl (cn rfl) rfl rr_set_eq rfl ?_
                refine s_return rfl ?_
                first
                  | exact ⟨rfl, _, a n, be, s &&& s, rfl, fr_s (by decide) (fr_s (by decide) (fr_s (by decide) (fr_s (by decide) fr_r))), rr_set_eq, Or.inr ⟨hfe2, s, hs3, fun _ => ⟨rfl, rfl, hss⟩, fun q1 q2 => by omega, fun q1 q2 => by omega⟩⟩
                  | exact ⟨rfl, _, ba, bb, ti &&& s, rfl, fr_s (by decide) fr_r, rr_set_eq, Or.inr ⟨hfe2, s, hs3, fun q => by omega, fun _ _ => ⟨rfl, rfl, rfl⟩, fun q1 q2 => by omega⟩⟩
        · first
          | (exfalso; omega)
          | skip
            refine s_return rfl ?_
            exact ⟨rfl, h, ba, bb, ti, rfl, fr_r, c58, Or.inr ⟨hfe2, s, hs3, fun q => by omega, fun q1 q2 => by omega, fun _ _ => ⟨rfl, rfl, rfl⟩⟩⟩
    · refine s_aload_n rfl (cn rfl) rfl ?_
      refine s_getfield rfl (cn rfl) c58 rfl ?_
      refine s_iload_n rfl (cn rfl) rfl ?_
      refine s_stat rfl (cn rfl) rfl rfl rfl (m_has (by omega) (by omega)) ?_
      rintro _ _ ⟨rfl, rfl⟩
      refine s_ifb_ne rfl (cn rfl) (cn rfl) (fun q12 => ?_) (fun q12 => ?_)
      · have hvg := hv g
        have hsh := sh_b (g := g) (x := a) (c := 400000000000000000) (by decide) n hab
        have hbs := ku_mul (x := be) (y := sc) (a := 128) (b := 655360000) (by omega) (by omega)
        have hbv := ku_mul (x := be * sc) (y := v g) (a := 83886080000) (b := 999) (by omega) hvg
        have hn4 : (n : Int) * 400000000000000000 ≤ 4 * 400000000000000000 := by omega
        refine s_aload_n rfl (cn rfl) rfl ?_
        refine s_getfield rfl (cn rfl) c58 rfl ?_
        refine s_aload_n rfl (cn rfl) rfl ?_
        refine s_getfield rfl (cn rfl) c58 rfl ?_
        refine s_lmul rfl (cn rfl) ?_
        refine s_aload_n rfl (cn rfl) rfl ?_
        refine s_getfield rfl (cn rfl) c58 rfl ?_
        refine s_iload_n rfl (cn rfl) rfl ?_
        refine s_iaload rfl (cn rfl) _ rfl c59 rfl (by omega) (by decide) rfl ?_
        refine s_i2l rfl (cn rfl) ⟨by omega, by omega⟩ ?_
        refine s_lmul rfl (cn rfl) ?_
        refine s_aload_n rfl (cn rfl) rfl ?_
        refine s_iload_n rfl (cn rfl) rfl ?_
        refine s_virt rfl (cn rfl) rfl rfl c58 rfl (m_sumOf hn c58 c69 (by omega)) ?_
        rintro _ _ ⟨rfl, rfl⟩
        refine s_lsub rfl (cn rfl) ?_
        refine s_aload_n rfl (cn rfl) rfl ?_
        refine s_getfield rfl (cn rfl) c58 rfl ?_
        refine s_aload_n rfl (cn rfl) rfl ?_
        refine s_getfield rfl (cn rfl) c58 rfl ?_
        refine s_laload rfl (cn rfl) _ rfl c69 (by omega) (by decide) rfl ?_
        refine s_lsub rfl (cn rfl) ?_
        refine s_lstore_n rfl (cn rfl) ?_
        refine s_lload_n rfl (cn rfl) rfl ?_
        refine s_lconst rfl (cn rfl) 0 (by decide) ?_
        refine s_lcmp rfl (cn rfl) ?_
        refine s_ifl_le rfl (cn rfl) (cn rfl) ⟨by omega, by omega⟩ ⟨by omega, by omega⟩ (fun q39 => ?_) (fun q39 => ?_)
        · refine s_iload_n rfl (cn rfl) rfl ?_
          refine s_lload_n rfl (cn rfl) rfl ?_
          refine s_lconst rfl (cn rfl) 0 (by decide) ?_
          refine s_lcmp rfl (cn rfl) ?_
          refine s_ifl_ne rfl (cn rfl) (cn rfl) ⟨by omega, by omega⟩ ⟨by omega, by omega⟩ (fun q45 => ?_) (fun q45 => ?_)
          · refine s_iconst rfl (cn rfl) ?_
            refine s_ior rfl (cn rfl) _ (bi_or _ 0) ?_
            refine s_istore_n rfl (cn rfl) ?_
            refine s_iinc rfl (cn rfl) rfl ?_
            refine s_goto rfl (ch rfl) ?_
            have e0 : s ||| 0 = s := Nat.or_zero s
            rw [e0]
            exact ih4 (by omega) s _ (by omega) (fun k k1 k2 k3 => by
              by_cases e : k = g
              · rw [e]; exact q39
              · exact hfe k k1 (by omega) k3) (fun k => (hs k).trans ⟨fun q => ⟨q.1, by omega, q.2.2⟩, fun q => ⟨q.1, by
                by_cases e : k = g
                · rw [e] at q; exact absurd q.2.2.2 q45
                · omega, q.2.2⟩⟩) (Nat.lt_of_lt_of_le hsb (Nat.pow_le_pow_right (by decide) (by omega)))
          · refine s_iconst rfl (cn rfl) ?_
            refine s_iload_n rfl (cn rfl) rfl ?_
            refine s_ishl rfl (cn rfl) _ (bi_shl1 (by omega)) ?_
            refine s_goto rfl (cn rfl) ?_
            refine s_ior rfl (cn rfl) _ (bi_or _ _) ?_
            refine s_istore_n rfl (cn rfl) ?_
            refine s_iinc rfl (cn rfl) rfl ?_
            refine s_goto rfl (ch rfl) ?_
            exact ih4 (by omega) (s ||| 2 ^ g) _ (by omega) (fun k k1 k2 k3 => by
              by_cases e : k = g
              · rw [e]; exact q39
              · exact hfe k k1 (by omega) k3) (fun k => by
                rw [Nat.testBit_or, Nat.testBit_two_pow, Bool.or_eq_true, decide_eq_true_iff, hs k]
                constructor
                · rintro (q | q)
                  · exact ⟨q.1, by omega, q.2.2⟩
                  · rw [← q]; exact ⟨g1, by omega, bt_1.mp q12, q45⟩
                · intro q
                  by_cases e : k = g
                  · exact Or.inr e.symm
                  · exact Or.inl ⟨q.1, by omega, q.2.2⟩) (ors_b hsb)
        · refine s_return rfl ?_
          exact ⟨rfl, h, ba, bb, ti, rfl, fr_r, c58, Or.inl ⟨fun q => by have := q g g1 (by omega) (bt_1.mp q12); unfold ovr at this; omega, rfl, rfl, rfl⟩⟩
      · refine s_goto rfl (cn rfl) ?_
        refine s_iinc rfl (cn rfl) rfl ?_
        refine s_goto rfl (ch rfl) ?_
        exact ih4 (by omega) s _ (by omega) (fun k k1 k2 k3 => by
          by_cases e : k = g
          · rw [e] at k3; exact absurd (bt_1.mpr k3) q12
          · exact hfe k k1 (by omega) k3) (fun k => (hs k).trans ⟨fun q => ⟨q.1, by omega, q.2.2⟩, fun q => ⟨q.1, by
            by_cases e : k = g
            · rw [e] at q; exact absurd (bt_1.mpr q.2.2.1) q12
            · omega, q.2.2⟩⟩) (Nat.lt_of_lt_of_le hsb (Nat.pow_le_pow_right (by decide) (by omega)))
  exact lp4 1 (by omega) 0 _ (by omega) (fun k k1 k2 => absurd k2 (by omega)) (fun k => Iff.intro (fun q => absurd q (by rw [Nat.zero_testBit]; decide)) (fun q => by omega)) (by decide)
