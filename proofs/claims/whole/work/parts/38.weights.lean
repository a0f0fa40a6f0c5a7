/-! Weights. -/
theorem m_get {d N S n : Nat} {kp tp pt wr fa dm ce di be od sm le sc ba bb ti rk ts tm pa wa : Int} {h : Nat → Option rr_E} (c58 : h 58 = some (MO (n : Int) kp tp pt wr fa dm ce di be od sm le sc ba bb ti rk ts tm pa wa)) {sz th ms w : Nat → Int} {it : Nat → Nat → Int} (hth : ∀ l, l < 4 → (th l = 0 ∧ sz l = -1) ∨ (th l = 1 ∧ sz l = ms l ∧ 0 ≤ sz l ∧ sz l ≤ 30)) (hit : ∀ l i, l < 4 → i < 30 → w (30 * l + i) = it l i) (c77 : h 77 = some (.inl (2, 4, .inl (fun k => ii (th k))))) (c78 : h 78 = some (.inl (0, 4, .inl (fun k => ii (ms k))))) (c79 : h 79 = some (.inl (1, 120, .inr (.inl (fun k => jj (w k)))))) {a i : Int} (ha : b3 a) (hi : b3 i) : rr_Calls (d + 3) j_Model_get [.ref 58, .int (ii a), .int (ii i)] (N, S, h) (fun r R => r = some (.long (jj (if cpl sz a i 1 = 0 then it a.toNat i.toNat else (-9223372036854775808)))) ∧ R = (N, S, h)) := by
  refine rr_meth (C := K_Model_get) (hd := h_Model_get) (mx := 3) rfl rfl (fun K hK => ?_)
  refine hK _ _ _ _ ?_
  refine s_iload_n rfl (cn rfl) rfl ?_
  refine s_stat rfl (cn rfl) rfl rfl rfl (m_isList (by omega)) ?_
  rintro _ _ ⟨rfl, rfl⟩
  refine s_ifb_eq rfl (cn rfl) (cn rfl) (fun q2 => ?_) (fun q2 => ?_)
  · refine s_ldc2_w rfl (cn rfl) ?_
    refine s_lreturn rfl ?_
    first
      | (rw [if_pos e1]; exact ⟨rfl, rfl⟩)
      | (have e1 : cpl sz a i 1 = -1 := by
           unfold cpl
           rw [if_neg q2]
         rw [e1]; exact ⟨rfl, rfl⟩)
      | (have e1 : cpl sz (l : Int) i 1 = -11 := by
           unfold cpl; rw [if_pos q2]
           show (if sz l = -1 then _ else _) = _
           rw [if_pos (by omega)]
         rw [e1]; exact ⟨rfl, rfl⟩)
      | (have e1 : cpl sz (l : Int) i 1 = -13 := by
           unfold cpl; rw [if_pos q2]
           show (if sz l = -1 then _ else if i < 0 ∨ sz l - 1 < i then _ else _) = _
           rw [if_neg (by omega), if_pos (by omega)]
         rw [e1]; exact ⟨rfl, rfl⟩)
  · obtain ⟨l, rfl⟩ := Int.eq_ofNat_of_zero_le (show 0 ≤ a by omega)
    have hl : l < 4 := by omega
    have hs := hth l hl
    refine s_aload_n rfl (cn rfl) rfl ?_
    refine s_getfield rfl (cn rfl) c58 rfl ?_
    refine s_iload_n rfl (cn rfl) rfl ?_
    refine s_baload rfl (cn rfl) _ rfl c77 rfl (by omega) (by decide) rfl ?_
    refine s_if_eq rfl (cn rfl) (cn rfl) ⟨by omega, by omega⟩ (fun q7 => ?_) (fun q7 => ?_)
    · refine s_ldc2_w rfl (cn rfl) ?_
      refine s_lreturn rfl ?_
      first
        | (rw [if_pos e1]; exact ⟨rfl, rfl⟩)
        | (have e1 : cpl sz a i 1 = -1 := by
             unfold cpl
             rw [if_neg q2]
           rw [e1]; exact ⟨rfl, rfl⟩)
        | (have e1 : cpl sz (l : Int) i 1 = -11 := by
             unfold cpl; rw [if_pos q2]
             show (if sz l = -1 then _ else _) = _
             rw [if_pos (by omega)]
           rw [e1]; exact ⟨rfl, rfl⟩)
        | (have e1 : cpl sz (l : Int) i 1 = -13 := by
             unfold cpl; rw [if_pos q2]
             show (if sz l = -1 then _ else if i < 0 ∨ sz l - 1 < i then _ else _) = _
             rw [if_neg (by omega), if_pos (by omega)]
           rw [e1]; exact ⟨rfl, rfl⟩)
    · refine s_iload_n rfl (cn rfl) rfl ?_
      refine s_i2l rfl (cn rfl) ⟨by omega, by omega⟩ ?_
      refine s_lconst rfl (cn rfl) 0 (by decide) ?_
      refine s_aload_n rfl (cn rfl) rfl ?_
      refine s_getfield rfl (cn rfl) c58 rfl ?_
      refine s_iload_n rfl (cn rfl) rfl ?_
      refine s_iaload rfl (cn rfl) _ rfl c78 rfl (by omega) (by decide) rfl ?_
      refine s_iconst rfl (cn rfl) ?_
      refine s_isub rfl (cn rfl) ?_
      refine s_i2l rfl (cn rfl) ⟨by omega, by omega⟩ ?_
      refine s_stat rfl (cn rfl) rfl rfl rfl (m_in (by omega) (by omega) (by omega)) ?_
      rintro _ _ ⟨rfl, rfl⟩
      refine s_ifb_eq rfl (cn rfl) (cn rfl) (fun q19 => ?_) (fun q19 => ?_)
      · refine s_ldc2_w rfl (cn rfl) ?_
        refine s_lreturn rfl ?_
        first
          | (rw [if_pos e1]; exact ⟨rfl, rfl⟩)
          | (have e1 : cpl sz a i 1 = -1 := by
               unfold cpl
               rw [if_neg q2]
             rw [e1]; exact ⟨rfl, rfl⟩)
          | (have e1 : cpl sz (l : Int) i 1 = -11 := by
               unfold cpl; rw [if_pos q2]
               show (if sz l = -1 then _ else _) = _
               rw [if_pos (by omega)]
             rw [e1]; exact ⟨rfl, rfl⟩)
          | (have e1 : cpl sz (l : Int) i 1 = -13 := by
               unfold cpl; rw [if_pos q2]
               show (if sz l = -1 then _ else if i < 0 ∨ sz l - 1 < i then _ else _) = _
               rw [if_neg (by omega), if_pos (by omega)]
             rw [e1]; exact ⟨rfl, rfl⟩)
      · have e1 : cpl sz (l : Int) i 1 = 0 := by
          unfold cpl; rw [if_pos q2]
          show (if sz l = -1 then _ else if i < 0 ∨ sz l - 1 < i then _ else _) = _
          rw [if_neg (by omega), if_neg (by omega)]
        obtain ⟨j, rfl⟩ := Int.eq_ofNat_of_zero_le (show 0 ≤ i by omega)
        have hj : j < 30 := by omega
        refine s_aload_n rfl (cn rfl) rfl ?_
        refine s_getfield rfl (cn rfl) c58 rfl ?_
        refine s_bipush rfl (cn rfl) (by decide) ?_
        refine s_iload_n rfl (cn rfl) rfl ?_
        refine s_imul rfl (cn rfl) ?_
        refine s_iload_n rfl (cn rfl) rfl ?_
        refine s_iadd rfl (cn rfl) ?_
        refine s_laload rfl (cn rfl) (30 * l + j) (by omega) c79 (by omega) (by decide) (congrArg jj (hit l j hl hj)) ?_
        refine s_goto rfl (cn rfl) ?_
        refine s_lreturn rfl ?_
        first
          | (rw [if_pos e1]; exact ⟨rfl, rfl⟩)
          | (have e1 : cpl sz a i 1 = -1 := by
               unfold cpl
               rw [if_neg q2]
             rw [e1]; exact ⟨rfl, rfl⟩)
          | (have e1 : cpl sz (l : Int) i 1 = -11 := by
               unfold cpl; rw [if_pos q2]
               show (if sz l = -1 then _ else _) = _
               rw [if_pos (by omega)]
             rw [e1]; exact ⟨rfl, rfl⟩)
          | (have e1 : cpl sz (l : Int) i 1 = -13 := by
               unfold cpl; rw [if_pos q2]
               show (if sz l = -1 then _ else if i < 0 ∨ sz l - 1 < i then _ else _) = _
               rw [if_neg (by omega), if_pos (by omega)]
             rw [e1]; exact ⟨rfl, rfl⟩)
theorem swt_b {n p : Nat} {W : Nat → Int} (hn : 2 ≤ n ∧ n ≤ 4) (hW : ∀ g, 1 ≤ g → g < al n → 0 ≤ W g ∧ W g ≤ 1000) : -15000 ≤ swt n W p ∧ swt n W p ≤ 15000 := by
  have hA := al_b hn
  have h := gs_bd (m := al n) (f := fun g => st_bt g p * W g) (c := 1000) (by decide) (fun g h1 h2 => by
    have := hW g h1 h2
    rcases bt_01 g p with q | q
    · show -1000 ≤ st_bt g p * W g ∧ st_bt g p * W g ≤ 1000
      rw [q]; omega
    · show -1000 ≤ st_bt g p * W g ∧ st_bt g p * W g ≤ 1000
      rw [q]; omega)
  unfold swt
  omega
theorem tot_b {n : Nat} {W : Nat → Int} (hn : 2 ≤ n ∧ n ≤ 4) (hW : ∀ g, 1 ≤ g → g < al n → 0 ≤ W g ∧ W g ≤ 1000) : -15000 ≤ gs (al n) W ∧ gs (al n) W ≤ 15000 := by
  have hA := al_b hn
  have h := gs_bd (m := al n) (f := W) (c := 1000) (by decide) (fun g h1 h2 => by have := hW g h1 h2; omega)
  omega
theorem ab_mul {x y a b : Int} (hx : -a ≤ x ∧ x ≤ a) (hy : -b ≤ y ∧ y ≤ b) (ha : 0 ≤ a) (hb : 0 ≤ b) : -(a * b) ≤ x * y ∧ x * y ≤ a * b := by
  have h1 : (x * y).natAbs = x.natAbs * y.natAbs := Int.natAbs_mul x y
  have h2 : x.natAbs * y.natAbs ≤ a.natAbs * b.natAbs := Nat.mul_le_mul (by omega) (by omega)
  have h3 : ((a.natAbs * b.natAbs : Nat) : Int) = a * b := by
    rw [Int.natCast_mul]
    rw [show (a.natAbs : Int) = a by omega, show (b.natAbs : Int) = b by omega]
  constructor
  · omega
  · omega
theorem ptp_b {n : Nat} {v W : Nat → Int} (hn : 2 ≤ n ∧ n ≤ 4) (hv : ∀ k, -999 ≤ v k ∧ v k ≤ 999) (hW : ∀ g, 1 ≤ g → g < al n → 0 ≤ W g ∧ W g ≤ 1000) : -30000000 ≤ ptp n v W ∧ ptp n v W ≤ 30000000 := by
  have hA := al_b hn
  have h := gs_bd (m := al n) (f := fun g => W g * v g) (c := 999000) (by decide) (fun g h1 h2 => by
    have h3 := hW g h1 h2
    have h4 := ab_mul (x := W g) (y := v g) (a := 1000) (b := 999) (by omega) (hv g) (by decide) (by decide)
    exact h4)
  have h1 := ab_mul (x := swt n W 0) (y := v (al n)) (a := 15000) (b := 999) (swt_b hn hW) (hv _) (by decide) (by decide)
  unfold ptp
  omega
theorem u_total {d N S n : Nat} {h : Nat → Option rr_E} (hn : 2 ≤ n ∧ n ≤ 4) {W : Nat → Int} (c49 : h 49 = some (.inr (5, [.ref 50, .int (ii (n : Int)), .int (ii ((al n : Nat) : Int))]))) (c50 : h 50 = some (.inl (1, 16, .inr (.inl (fun k => jj (W k)))))) (hW : ∀ g, 1 ≤ g → g < al n → 0 ≤ W g ∧ W g ≤ 1000) : rr_Calls (d + 1) j_Weights_total [.ref 49] (N, S, h) (fun r R => r = some (.long (jj (gs (al n) W))) ∧ R = (N, S, h)) := by
  refine rr_meth (C := K_Weights_total) (hd := h_Weights_total) (mx := 4) rfl rfl (fun K hK => ?_)
  have hA := al_b hn
  refine hK _ _ _ _ ?_
  refine s_lconst rfl (cn rfl) 0 (by decide) ?_
  refine s_lstore_n rfl (cn rfl) ?_
  refine s_iconst rfl (cn rfl) ?_
  refine s_istore_n rfl (ch rfl) ?_
  have lp4 : ∀ g : Nat, g ≤ al n → ∀ (x : Int) (hx : x = gs g W) (h1 : 1 ≤ g), K 4 [some (.ref 49), some (.long (jj x)), none, some (.int (ii (g : Int)))] [] (N, S, h) := by
    refine dn (fun g hg ih4 => ?_)
    intro x hx h1
    refine hK _ _ _ _ ?_
    refine s_iload_n rfl (cn rfl) rfl ?_
    refine s_aload_n rfl (cn rfl) rfl ?_
    refine s_getfield rfl (cn rfl) c49 rfl ?_
    refine s_icmp_ge rfl (cn rfl) (cn rfl) ⟨by omega, by omega⟩ ⟨by omega, by omega⟩ (fun q7 => ?_) (fun q7 => ?_)
    · refine s_lload_n rfl (cn rfl) rfl ?_
      refine s_lreturn rfl ?_
      exact ⟨rl (by rw [hx, show g = al n by omega]), rfl⟩
    · refine s_lload_n rfl (cn rfl) rfl ?_
      refine s_aload_n rfl (cn rfl) rfl ?_
      refine s_getfield rfl (cn rfl) c49 rfl ?_
      refine s_iload_n rfl (cn rfl) rfl ?_
      refine s_laload rfl (cn rfl) _ rfl c50 (by omega) (by decide) rfl ?_
      refine s_ladd rfl (cn rfl) ?_
      refine s_lstore_n rfl (cn rfl) ?_
      refine s_iinc rfl (cn rfl) rfl ?_
      refine s_goto rfl (ch rfl) ?_
      exact ih4 (by omega) _ (by rw [gs_s h1, hx]) (by omega)
  exact lp4 1 (by omega) _ gs_1.symm (by omega)
theorem u_sumWith {d N S n : Nat} {h : Nat → Option rr_E} (hn : 2 ≤ n ∧ n ≤ 4) {W : Nat → Int} (c49 : h 49 = some (.inr (5, [.ref 50, .int (ii (n : Int)), .int (ii ((al n : Nat) : Int))]))) (c50 : h 50 = some (.inl (1, 16, .inr (.inl (fun k => jj (W k)))))) (hW : ∀ g, 1 ≤ g → g < al n → 0 ≤ W g ∧ W g ≤ 1000) {p : Nat} (hp : p < n) : rr_Calls (d + 1) j_Weights_sumWith [.ref 49, .int (ii (p : Int))] (N, S, h) (fun r R => r = some (.long (jj (swt n W p))) ∧ R = (N, S, h)) := by
  refine rr_meth (C := K_Weights_sumWith) (hd := h_Weights_sumWith) (mx := 5) rfl rfl (fun K hK => ?_)
  have hA := al_b hn
  refine hK _ _ _ _ ?_
  refine s_lconst rfl (cn rfl) 0 (by decide) ?_
  refine s_lstore_n rfl (cn rfl) ?_
  refine s_iconst rfl (cn rfl) ?_
  refine s_istore rfl (ch rfl) ?_
  have lp4 : ∀ g : Nat, g ≤ al n → ∀ (x : Int) (hx : x = gs g (fun g => st_bt g p * W g)) (h1 : 1 ≤ g), K 4 [some (.ref 49), some (.int (ii (p : Int))), some (.long (jj x)), none, some (.int (ii (g : Int)))] [] (N, S, h) := by
    refine dn (fun g hg ih4 => ?_)
    intro x hx h1
    refine hK _ _ _ _ ?_
    refine s_iload rfl (cn rfl) rfl ?_
    refine s_aload_n rfl (cn rfl) rfl ?_
    refine s_getfield rfl (cn rfl) c49 rfl ?_
    refine s_icmp_ge rfl (cn rfl) (cn rfl) ⟨by omega, by omega⟩ ⟨by omega, by omega⟩ (fun q7 => ?_) (fun q7 => ?_)
    · refine s_lload_n rfl (cn rfl) rfl ?_
      refine s_lreturn rfl ?_
      exact ⟨rl (by rw [hx, show g = al n by omega]; rfl), rfl⟩
    · refine s_iload rfl (cn rfl) rfl ?_
      refine s_iload_n rfl (cn rfl) rfl ?_
      refine s_ishr rfl (cn rfl) ?_
      refine s_iconst rfl (cn rfl) ?_
      refine s_iand rfl (cn rfl) _ (bi_bit (by omega) (by omega)) ?_
      refine s_iconst rfl (cn rfl) ?_
      refine s_icmp_ne rfl (cn rfl) (cn rfl) (bt_b3 _ _) (by decide) (fun q14 => ?_) (fun q14 => ?_)
      · refine s_iinc rfl (cn rfl) rfl ?_
        refine s_goto rfl (ch rfl) ?_
        exact ih4 (by omega) _ (by rw [gs_s h1, hx, show st_bt g p = 0 by have := bt_01 g p; omega]; omega) (by omega)
      · refine s_lload_n rfl (cn rfl) rfl ?_
        refine s_aload_n rfl (cn rfl) rfl ?_
        refine s_getfield rfl (cn rfl) c49 rfl ?_
        refine s_iload rfl (cn rfl) rfl ?_
        refine s_laload rfl (cn rfl) _ rfl c50 (by omega) (by decide) rfl ?_
        refine s_ladd rfl (cn rfl) ?_
        refine s_lstore_n rfl (cn rfl) ?_
        refine s_iinc rfl (cn rfl) rfl ?_
        refine s_goto rfl (ch rfl) ?_
        exact ih4 (by omega) _ (by rw [gs_s h1, hx, q14]; omega) (by omega)
  exact lp4 1 (by omega) _ gs_1.symm (by omega)
theorem u_tilt {d N S n : Nat} {h : Nat → Option rr_E} (hn : 2 ≤ n ∧ n ≤ 4) {W : Nat → Int} (c49 : h 49 = some (.inr (5, [.ref 50, .int (ii (n : Int)), .int (ii ((al n : Nat) : Int))]))) (c50 : h 50 = some (.inl (1, 16, .inr (.inl (fun k => jj (W k)))))) (hW : ∀ g, 1 ≤ g → g < al n → 0 ≤ W g ∧ W g ≤ 1000) : rr_Calls (d + 2) j_Weights_firstTilted [.ref 49] (N, S, h) (fun r R => r = some (.int (ii (ftl n W))) ∧ R = (N, S, h)) := by
  refine rr_meth (C := K_Weights_firstTilted) (hd := h_Weights_firstTilted) (mx := 2) rfl rfl (fun K hK => ?_)
  have hA := al_b hn
  have ht := tot_b hn hW
  have hs0 := swt_b (p := 0) hn hW
  refine hK _ _ _ _ ?_
  refine s_aload_n rfl (cn rfl) rfl ?_
  refine s_virt rfl (cn rfl) rfl rfl c49 rfl (u_total hn c49 c50 hW) ?_
  rintro _ _ ⟨rfl, rfl⟩
  refine s_lconst rfl (cn rfl) 0 (by decide) ?_
  refine s_lcmp rfl (cn rfl) ?_
  refine s_ifl_ne rfl (cn rfl) (cn rfl) ⟨by omega, by omega⟩ ⟨by omega, by omega⟩ (fun q4 => ?_) (fun q4 => ?_)
  · refine s_iconst rfl (cn rfl) ?_
    refine s_istore_n rfl (ch rfl) ?_
    have lp9 : ∀ p : Nat, p ≤ n → ∀ (h1 : 1 ≤ p) (no : ∀ k, 1 ≤ k → k < p → ¬ swt n W k ≠ swt n W 0), K 9 [some (.ref 49), some (.int (ii (p : Int)))] [] (N, S, h) := by
      refine dn (fun p hp ih9 => ?_)
      intro h1 no
      have hs1 := swt_b (p := p) hn hW
      refine hK _ _ _ _ ?_
      refine s_iload_n rfl (cn rfl) rfl ?_
      refine s_aload_n rfl (cn rfl) rfl ?_
      refine s_getfield rfl (cn rfl) c49 rfl ?_
      refine s_icmp_ge rfl (cn rfl) (cn rfl) ⟨by omega, by omega⟩ ⟨by omega, by omega⟩ (fun q12 => ?_) (fun q12 => ?_)
      · refine s_bipush rfl (cn rfl) (by decide) ?_
        refine s_ireturn rfl ?_
        exact ⟨ri (by unfold ftl; rw [if_neg q4]; exact ff_n (fun k q1 q2 => no k q1 (by omega))), rfl⟩
      · refine s_aload_n rfl (cn rfl) rfl ?_
        refine s_iload_n rfl (cn rfl) rfl ?_
        refine s_virt rfl (cn rfl) rfl rfl c49 rfl (u_sumWith hn c49 c50 hW (by omega)) ?_
        rintro _ _ ⟨rfl, rfl⟩
        refine s_aload_n rfl (cn rfl) rfl ?_
        refine s_iconst rfl (cn rfl) ?_
        refine s_virt rfl (cn rfl) rfl rfl c49 rfl (u_sumWith (p := 0) hn c49 c50 hW (by omega)) ?_
        rintro _ _ ⟨rfl, rfl⟩
        refine s_lcmp rfl (cn rfl) ?_
        refine s_ifl_eq rfl (cn rfl) (cn rfl) ⟨by omega, by omega⟩ ⟨by omega, by omega⟩ (fun q20 => ?_) (fun q20 => ?_)
        · refine s_iinc rfl (cn rfl) rfl ?_
          refine s_goto rfl (ch rfl) ?_
          exact ih9 (by omega) (by omega) (fun k q1 q2 => by
              by_cases e : k = p
              · subst e; exact fun q => q q20
              · exact no k q1 (by omega))
        · refine s_iload_n rfl (cn rfl) rfl ?_
          refine s_ireturn rfl ?_
          exact ⟨ri (by unfold ftl; rw [if_neg q4]; exact ff_y h1 (by omega) q20 no), rfl⟩
    exact lp9 1 (by omega) (by omega) (fun k q1 q2 => absurd q2 (by omega))
  · refine s_bipush rfl (cn rfl) (by decide) ?_
    refine s_ireturn rfl ?_
    exact ⟨ri (if_pos q4).symm, rfl⟩
theorem u_provenTop {d N S n : Nat} {v : Nat → Int} {h : Nat → Option rr_E} (hn : 2 ≤ n ∧ n ≤ 4) (c1 : h 1 = some (.inr (0, [.int (ii (n : Int)), .ref 2]))) (c2 : h 2 = some (.inl (0, 16, .inl (fun k => ii (v k))))) (hv : ∀ k, -999 ≤ v k ∧ v k ≤ 999) {W : Nat → Int} (c49 : h 49 = some (.inr (5, [.ref 50, .int (ii (n : Int)), .int (ii ((al n : Nat) : Int))]))) (c50 : h 50 = some (.inl (1, 16, .inr (.inl (fun k => jj (W k)))))) (hW : ∀ g, 1 ≤ g → g < al n → 0 ≤ W g ∧ W g ≤ 1000) : rr_Calls (d + 2) j_Weights_provenTop [.ref 49, .ref 1] (N, S, h) (fun r R => r = some (.long (jj (ptp n v W))) ∧ R = (N, S, h)) := by
  refine rr_meth (C := K_Weights_provenTop) (hd := h_Weights_provenTop) (mx := 5) rfl rfl (fun K hK => ?_)
  have hA := al_b hn
  have hva := hv (al n)
  refine hK _ _ _ _ ?_
  refine s_aload_n rfl (cn rfl) rfl ?_
  refine s_iconst rfl (cn rfl) ?_
  refine s_virt rfl (cn rfl) rfl rfl c49 rfl (u_sumWith (p := 0) hn c49 c50 hW (by omega)) ?_
  rintro _ _ ⟨rfl, rfl⟩
  refine s_lneg rfl (cn rfl) ?_
  refine s_aload_n rfl (cn rfl) rfl ?_
  refine s_getfield rfl (cn rfl) c1 rfl ?_
  refine s_aload_n rfl (cn rfl) rfl ?_
  refine s_getfield rfl (cn rfl) c49 rfl ?_
  refine s_iaload rfl (cn rfl) _ rfl c2 rfl (by omega) (by decide) rfl ?_
  refine s_i2l rfl (cn rfl) ⟨by omega, by omega⟩ ?_
  refine s_lmul rfl (cn rfl) ?_
  refine s_lstore_n rfl (cn rfl) ?_
  refine s_iconst rfl (cn rfl) ?_
  refine s_istore rfl (ch rfl) ?_
  have lp14 : ∀ g : Nat, g ≤ al n → ∀ (x : Int) (hx : x = -swt n W 0 * v (al n) + gs g (fun g => W g * v g)) (h1 : 1 ≤ g), K 14 [some (.ref 49), some (.ref 1), some (.long (jj x)), none, some (.int (ii (g : Int)))] [] (N, S, h) := by
    refine dn (fun g hg ih14 => ?_)
    intro x hx h1
    have hvg := hv g
    refine hK _ _ _ _ ?_
    refine s_iload rfl (cn rfl) rfl ?_
    refine s_aload_n rfl (cn rfl) rfl ?_
    refine s_getfield rfl (cn rfl) c49 rfl ?_
    refine s_icmp_ge rfl (cn rfl) (cn rfl) ⟨by omega, by omega⟩ ⟨by omega, by omega⟩ (fun q17 => ?_) (fun q17 => ?_)
    · refine s_lload_n rfl (cn rfl) rfl ?_
      refine s_lreturn rfl ?_
      exact ⟨rl (by rw [hx, show g = al n by omega]; unfold ptp; rw [Int.neg_mul]; omega), rfl⟩
    · refine s_lload_n rfl (cn rfl) rfl ?_
      refine s_aload_n rfl (cn rfl) rfl ?_
      refine s_getfield rfl (cn rfl) c49 rfl ?_
      refine s_iload rfl (cn rfl) rfl ?_
      refine s_laload rfl (cn rfl) _ rfl c50 (by omega) (by decide) rfl ?_
      refine s_aload_n rfl (cn rfl) rfl ?_
      refine s_getfield rfl (cn rfl) c1 rfl ?_
      refine s_iload rfl (cn rfl) rfl ?_
      refine s_iaload rfl (cn rfl) _ rfl c2 rfl (by omega) (by decide) rfl ?_
      refine s_i2l rfl (cn rfl) ⟨by omega, by omega⟩ ?_
      refine s_lmul rfl (cn rfl) ?_
      refine s_ladd rfl (cn rfl) ?_
      refine s_lstore_n rfl (cn rfl) ?_
      refine s_iinc rfl (cn rfl) rfl ?_
      refine s_goto rfl (ch rfl) ?_
      exact ih14 (by omega) _ (by rw [gs_s h1, hx]; omega) (by omega)
  exact lp14 1 (by omega) _ (by rw [gs_1]; omega) (by omega)
theorem u_readW {d N S n : Nat} {v : Nat → Int} {h : Nat → Option rr_E} (hn : 2 ≤ n ∧ n ≤ 4) (c1 : h 1 = some (.inr (0, [.int (ii (n : Int)), .ref 2]))) (c2 : h 2 = some (.inl (0, 16, .inl (fun k => ii (v k))))) {sz : Nat → Int} {it : Nat → Nat → Int} (hsz : ∀ l, l < 4 → -1 ≤ sz l ∧ sz l ≤ 30) (hit : ∀ l i, b6 (it l i)) (c51 : h 51 = some (.inr (1, [.ref 52, .ref 57]))) (c52 : h 52 = some AA) (c53 : ∀ l, l < 4 → h (53 + l) = some (.inl (1, 30, .inr (.inl (fun k => jj (it l k)))))) (c57 : h 57 = some (.inl (0, 4, .inl (fun k => ii (sz k))))) {x0 y0 : Int} {W0 : Nat → Int} (c49 : h 49 = some (.inr (5, [.ref 50, .int (ii x0), .int (ii y0)]))) (c50 : h 50 = some (.inl (1, 16, .inr (.inl (fun k => jj (W0 k)))))) {a i : Int} (ha : b3 a) (hi : b3 i) : rr_Calls (d + 3) j_Rows_readWeights [.ref 51, .int (ii a), .int (ii i), .ref 1, .ref 49] (N, S, h) (fun r R => r = some (.int (ii (rws n sz it a i))) ∧ ∃ h', R = (N, S, h') ∧ fr [49, 50] h h' ∧ (∃ (x y : Int) (W : Nat → Int), h' 49 = some (.inr (5, [.ref 50, .int (ii x), .int (ii y)])) ∧ h' 50 = some (.inl (1, 16, .inr (.inl (fun k => jj (W k))))) ∧ (rws n sz it a i = 0 → x = (n : Int) ∧ y = ((al n : Nat) : Int) ∧ ∀ g, 1 ≤ g → g < al n → W g = wt it a i g))) := by
  refine rr_meth (C := K_Rows_readWeights) (hd := h_Rows_readWeights) (mx := 9) rfl rfl (fun K hK => ?_)
  have hA := al_b hn
  have hc := cpl_b sz a i ((al n : Int) - 1)
  refine hK _ _ _ _ ?_
  refine s_aload_n rfl (cn rfl) rfl ?_
  refine s_iload_n rfl (cn rfl) rfl ?_
  refine s_iload_n rfl (cn rfl) rfl ?_
  refine s_aload_n rfl (cn rfl) rfl ?_
  refine s_virt rfl (cn rfl) rfl rfl c1 rfl (u_all_1 hn c1) ?_
  rintro _ _ ⟨rfl, rfl⟩
  refine s_iconst rfl (cn rfl) ?_
  refine s_isub rfl (cn rfl) ?_
  refine s_virt rfl (cn rfl) rfl rfl c51 rfl (u_compl hsz c51 c57 (by omega) (by omega) (by omega)) ?_
  rintro _ _ ⟨rfl, rfl⟩
  refine s_istore rfl (cn rfl) ?_
  refine s_iload rfl (cn rfl) rfl ?_
  refine s_if_eq rfl (cn rfl) (cn rfl) ⟨by omega, by omega⟩ (fun q10 => ?_) (fun q10 => ?_)
  · have q10' : cpl sz a i ((al n : Int) - 1) = 0 := q10
    obtain ⟨z1, z2, z3, z4⟩ := cpl_0 q10'
    obtain ⟨l, rfl⟩ := Int.eq_ofNat_of_zero_le (show 0 ≤ a by omega)
    have hl : l < 4 := by omega
    have hs := hsz l hl
    obtain ⟨j, rfl⟩ := Int.eq_ofNat_of_zero_le z3
    have hsl : sz l ≤ 30 := (hsz l hl).2
    have z5 : (j : Int) ≤ sz l - ((al n : Int) - 1) := z4
    refine s_aload rfl (cn rfl) rfl ?_
    refine s_aload_n rfl (cn rfl) rfl ?_
    refine s_getfield rfl (cn rfl) c1 rfl ?_
    refine s_puti rfl (cn rfl) rfl c49 rfl ?_
    refine s_aload rfl (cn rfl) rfl ?_
    refine s_aload_n rfl (cn rfl) rfl ?_
    refine s_virt rfl (cn rfl) rfl rfl c1 rfl (u_all_1 hn c1) ?_
    rintro _ _ ⟨rfl, rfl⟩
    refine s_puti rfl (cn rfl) rfl rr_set_eq rfl ?_
    refine s_iconst rfl (cn rfl) ?_
    refine s_istore rfl (ch rfl) ?_
    have lp23 : ∀ g : Nat, g ≤ al n → ∀ (h' : Nat → Option rr_E) (W : Nat → Int) (l5 l7 : Option Value) (h1 : 1 ≤ g) (c49 : h' 49 = some (.inr (5, [.ref 50, .int (ii (n : Int)), .int (ii ((al n : Nat) : Int))]))) (c50 : h' 50 = some (.inl (1, 16, .inr (.inl (fun k => jj (W k)))))) (hf : fr [49, 50] h h') (hw : ∀ k, 1 ≤ k → k < g → W k = wt it l j k ∧ 0 ≤ wt it l j k ∧ wt it l j k ≤ 1000), K 23 [some (.ref 51), some (.int (ii (l : Int))), some (.int (ii (j : Int))), some (.ref 1), some (.ref 49), l5, some (.int (ii (g : Int))), l7, none] [] (N, S, h') := by
      refine dn (fun g hg ih23 => ?_)
      intro h' W l5 l7 h1 c49 c50 hf hw
      have hb := hit l (j + g - 1)
      refine hK _ _ _ _ ?_
      refine s_iload rfl (cn rfl) rfl ?_
      refine s_aload_n rfl (cn rfl) rfl ?_
      refine s_virt rfl (cn rfl) rfl rfl ((hf 1 (by decide)).trans c1) rfl (u_all_1 hn ((hf 1 (by decide)).trans c1)) ?_
      rintro _ _ ⟨rfl, rfl⟩
      refine s_icmp_ge rfl (cn rfl) (cn rfl) ⟨by omega, by omega⟩ ⟨by omega, by omega⟩ (fun q26 => ?_) (fun q26 => ?_)
      · refine s_iconst rfl (cn rfl) ?_
        refine s_ireturn rfl ?_
        have e2 : rws n sz it (l : Int) (j : Int) = 0 := rws_0 q10' (fun g' q1 q2 => (hw g' q1 (by omega)).2)
        exact ⟨ri e2.symm, h', rfl, hf, _, _, _, c49, c50, fun _ => ⟨rfl, rfl, fun g' q1 q2 => (hw g' q1 (by omega)).1⟩⟩
      · refine s_aload_n rfl (cn rfl) rfl ?_
        refine s_getfield rfl (cn rfl) ((hf 51 (by decide)).trans c51) rfl ?_
        refine s_iload_n rfl (cn rfl) rfl ?_
        refine s_aaload rfl (cn rfl) _ rfl ((hf 52 (by decide)).trans c52) (by omega) (by decide) ((if_pos hl).trans rfl) ?_
        refine s_iload_n rfl (cn rfl) rfl ?_
        refine s_iload rfl (cn rfl) rfl ?_
        refine s_iadd rfl (cn rfl) ?_
        refine s_iconst rfl (cn rfl) ?_
        refine s_isub rfl (cn rfl) ?_
        refine s_laload rfl (cn rfl) (j + g - 1) (by omega) ((hf (53 + l) (by simp; omega)).trans (c53 l hl)) (by omega) (by decide) rfl ?_
        refine s_lstore rfl (cn rfl) ?_
        refine s_lload rfl (cn rfl) rfl ?_
        refine s_lconst rfl (cn rfl) 0 (by decide) ?_
        refine s_lcmp rfl (cn rfl) ?_
        refine s_ifl_lt rfl (cn rfl) (cn rfl) ⟨by omega, by omega⟩ ⟨by omega, by omega⟩ (fun q41 => ?_) (fun q41 => ?_)
        · refine s_bipush rfl (cn rfl) (by decide) ?_
          refine s_ireturn rfl ?_
          have e2 : rws n sz it (l : Int) (j : Int) = -2 := rws_b (g := g) q10' h1 (by omega) (fun q => by
            have q' : 0 ≤ it l (j + g - 1) ∧ it l (j + g - 1) ≤ 1000 := q
            omega)
          exact ⟨ri e2.symm, h', rfl, hf, _, _, _, c49, c50, fun q => absurd q (by omega)⟩
        · refine s_lload rfl (cn rfl) rfl ?_
          refine s_ldc2_w rfl (cn rfl) ?_
          refine s_lcmp rfl (cn rfl) ?_
          refine s_ifl_le rfl (cn rfl) (cn rfl) ⟨by omega, by omega⟩ ⟨by omega, by omega⟩ (fun q45 => ?_) (fun q45 => ?_)
          · refine s_aload rfl (cn rfl) rfl ?_
            refine s_getfield rfl (cn rfl) c49 rfl ?_
            refine s_iload rfl (cn rfl) rfl ?_
            refine s_lload rfl (cn rfl) rfl ?_
            refine s_lastore rfl (cn rfl) _ rfl c50 (by omega) (by decide) ?_
            refine s_iinc rfl (cn rfl) rfl ?_
            refine s_goto rfl (ch rfl) ?_
            exact ih23 (by omega) _ _ _ _ (by omega) c49 rr_set_eq (fr_s (by decide) hf) (fun k q1 q2 => by
                by_cases e : k = g
                · subst e; exact ⟨fu_s, q41, q45⟩
                · rw [fu_n e]; exact hw k q1 (by omega))
          · refine s_bipush rfl (cn rfl) (by decide) ?_
            refine s_ireturn rfl ?_
            have e2 : rws n sz it (l : Int) (j : Int) = -2 := rws_b (g := g) q10' h1 (by omega) (fun q => by
              have q' : 0 ≤ it l (j + g - 1) ∧ it l (j + g - 1) ≤ 1000 := q
              omega)
            exact ⟨ri e2.symm, h', rfl, hf, _, _, _, c49, c50, fun q => absurd q (by omega)⟩
    exact lp23 1 (by omega) _ _ _ _ (by omega) rr_set_eq c50 (fr_s (by decide) (fr_s (by decide) fr_r)) (fun k q1 q2 => absurd q2 (by omega))
  · refine s_iload rfl (cn rfl) rfl ?_
    refine s_ireturn rfl ?_
    exact ⟨ri (rws_n (by assumption)).symm, h, rfl, fr_r, _, _, _, c49, c50, fun q => absurd (rws_z q).1 (by assumption)⟩
