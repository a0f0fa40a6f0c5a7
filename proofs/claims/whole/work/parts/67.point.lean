/-! The stages of the class: moving the point; the beginning. -/
def mvd (A X : Nat → Int) (sg sc gp : Int) (m : Nat) : Nat → Int := fun p => if p < m then sg * (A p * sc + X p * gp) else A p
theorem mvd_0 {A X : Nat → Int} {sg sc gp : Int} : mvd A X sg sc gp 0 = A := by
  funext p
  exact if_neg (Nat.not_lt_zero p)
theorem mvd_m {A X : Nat → Int} {sg sc gp : Int} {m : Nat} : mvd A X sg sc gp m m = A m := if_neg (Nat.lt_irrefl m)
theorem mvd_s {A X : Nat → Int} {sg sc gp : Int} {m : Nat} : fu (mvd A X sg sc gp m) m (sg * (A m * sc + X m * gp)) = mvd A X sg sc gp (m + 1) := by
  funext p
  show (if p = m then sg * (A m * sc + X m * gp) else if p < m then sg * (A p * sc + X p * gp) else A p) = if p < m + 1 then sg * (A p * sc + X p * gp) else A p
  by_cases e : p = m
  · rw [if_pos e, if_pos (by omega), e]
  · rw [if_neg e]
    by_cases e2 : p < m
    · rw [if_pos e2, if_pos (by omega)]
    · rw [if_neg e2, if_neg (by omega)]
theorem mvd_4 {A X : Nat → Int} {sg sc gp : Int} {p : Nat} (h : p < 4) : mvd A X sg sc gp 4 p = sg * (A p * sc + X p * gp) := if_pos h
theorem sg_pos {be sc : Int} (hb : 0 < be) (hs : sc ≠ 0) : 0 < (if sc < 0 then -1 else 1) * be * sc := by
  split
  · have := Int.mul_neg_of_pos_of_neg hb (show sc < 0 by assumption)
    have e : -1 * be * sc = -(be * sc) := by grind
    omega
  · have := Int.mul_pos hb (show 0 < sc by omega)
    have e : 1 * be * sc = be * sc := by grind
    omega
theorem v_move_13 {d N S : Nat} {h : Nat → Option rr_E} {wc op oc bs bt bb be x0 y0 wv : Int} {ku y g : Nat} (hku : ku < 15) (hy : y < 3) (hg : g < 16) (hwv : b3 wv) (c13 : h 13 = some (ST13 (ku : Int) wc op oc bs bt bb)) {W : Nat → Nat → Int} (c20 : h 20 = some WA13) (cw : ∀ w, w < 3 → h (21 + w) = some (.inl (1, 4, .inr (.inl (fun k => jj (W w k)))))) {tt tb A : Nat → Int} (c14 : h 14 = some (.inl (1, 15, .inr (.inl (fun k => jj (tt k)))))) (c15 : h 15 = some (.inl (1, 15, .inr (.inl (fun k => jj (tb k)))))) (c17 : h 17 = some (.inr (3, [.long (jj be), .ref 18, .ref 19, .int (ii x0), .int (ii y0)]))) (c18 : h 18 = some (.inl (1, 4, .inr (.inl (fun k => jj (A k)))))) (hbe : 0 < be) (h0 : (tb ku * st_sh 4 g (W y)) ≠ 0) (h1 : b6 (tb ku * st_sh 4 g (W y))) (h2 : b5 ((if (tb ku * st_sh 4 g (W y)) < 0 then -1 else 1) * be * (tb ku * st_sh 4 g (W y)))) (h3 : ∀ p, p < 4 → b5 ((if (tb ku * st_sh 4 g (W y)) < 0 then -1 else 1) * (A p * (tb ku * st_sh 4 g (W y)) + W y p * ((wv * be - st_sh 4 g A) * tb ku - tt ku * be)))) : rr_Calls (d + 3) j_Stages_movePoint [.ref 13, .int (ii (y : Int)), .int (ii (g : Int)), .int (ii wv)] (N, S, h) (fun r R => r = none ∧ ∃ (h' : Nat → Option rr_E) (be' dv : Int) (A' : Nat → Int), R = (N, S, h') ∧ fr [17, 18] h h' ∧ h' 17 = some (.inr (3, [.long (jj be'), .ref 18, .ref 19, .int (ii x0), .int (ii y0)])) ∧ h' 18 = some (.inl (1, 4, .inr (.inl (fun k => jj (A' k))))) ∧ 0 < dv ∧ 0 < be' ∧ dv * be' = (if (tb ku * st_sh 4 g (W y)) < 0 then -1 else 1) * be * (tb ku * st_sh 4 g (W y)) ∧ (∀ p, p < 4 → dv * A' p = (if (tb ku * st_sh 4 g (W y)) < 0 then -1 else 1) * (A p * (tb ku * st_sh 4 g (W y)) + W y p * ((wv * be - st_sh 4 g A) * tb ku - tt ku * be))) ∧ ∀ k : Int, k ∣ be' → (∀ p, p < 4 → k ∣ A' p) → k ∣ 1) := by
  refine rr_meth (C := K_Stages_movePoint) (hd := h_Stages_movePoint) (mx := 13) rfl rfl (fun K hK => ?_)
  refine hK _ _ _ _ ?_
  refine s_aload_n rfl (cn rfl) rfl ?_
  refine s_getfield rfl (cn rfl) c13 rfl ?_
  refine s_getfield rfl (cn rfl) c17 rfl ?_
  refine s_lstore rfl (cn rfl) ?_
  refine s_iload_n rfl (cn rfl) rfl ?_
  refine s_i2l rfl (cn rfl) ⟨by omega, by omega⟩ ?_
  refine s_lload rfl (cn rfl) rfl ?_
  refine s_lmul rfl (cn rfl) ?_
  refine s_aload_n rfl (cn rfl) rfl ?_
  refine s_getfield rfl (cn rfl) c13 rfl ?_
  refine s_iload_n rfl (cn rfl) rfl ?_
  refine s_virt rfl (cn rfl) rfl rfl c17 rfl (u_sumOf_17 c17 c18 hg) ?_
  rintro _ _ ⟨rfl, rfl⟩
  refine s_lsub rfl (cn rfl) ?_
  refine s_aload_n rfl (cn rfl) rfl ?_
  refine s_getfield rfl (cn rfl) c13 rfl ?_
  refine s_aload_n rfl (cn rfl) rfl ?_
  refine s_getfield rfl (cn rfl) c13 rfl ?_
  refine s_laload rfl (cn rfl) _ rfl c15 (by omega) (by decide) rfl ?_
  refine s_lmul rfl (cn rfl) ?_
  refine s_aload_n rfl (cn rfl) rfl ?_
  refine s_getfield rfl (cn rfl) c13 rfl ?_
  refine s_aload_n rfl (cn rfl) rfl ?_
  refine s_getfield rfl (cn rfl) c13 rfl ?_
  refine s_laload rfl (cn rfl) _ rfl c14 (by omega) (by decide) rfl ?_
  refine s_lload rfl (cn rfl) rfl ?_
  refine s_lmul rfl (cn rfl) ?_
  refine s_lsub rfl (cn rfl) ?_
  refine s_lstore rfl (cn rfl) ?_
  refine s_aload_n rfl (cn rfl) rfl ?_
  refine s_getfield rfl (cn rfl) c13 rfl ?_
  refine s_aload_n rfl (cn rfl) rfl ?_
  refine s_getfield rfl (cn rfl) c13 rfl ?_
  refine s_laload rfl (cn rfl) _ rfl c15 (by omega) (by decide) rfl ?_
  refine s_aload_n rfl (cn rfl) rfl ?_
  refine s_iload_n rfl (cn rfl) rfl ?_
  refine s_iload_n rfl (cn rfl) rfl ?_
  refine s_virt rfl (cn rfl) rfl rfl c13 rfl (v_goes_13 c13 c20 cw hy hg) ?_
  rintro _ _ ⟨rfl, rfl⟩
  refine s_lmul rfl (cn rfl) ?_
  refine s_lstore rfl (cn rfl) ?_
  refine s_lload rfl (cn rfl) rfl ?_
  refine s_lconst rfl (cn rfl) 0 (by decide) ?_
  refine s_lcmp rfl (cn rfl) ?_
  refine s_ifl_ge rfl (cn rfl) (cn rfl) ⟨by omega, by omega⟩ ⟨by omega, by omega⟩ (fun q42 => ?_) (fun q42 => ?_)
  · refine s_lconst rfl (cn rfl) 1 (by decide) ?_
    refine s_lstore rfl (cn rfl) ?_
    refine s_iconst rfl (cn rfl) ?_
    refine s_istore rfl (ch rfl) ?_
    have lp49 : ∀ p : Nat, p ≤ 4 → ∀ (sg : Int) (hsg : sg = (if (tb ku * st_sh 4 g (W y)) < 0 then -1 else 1)) (h' : Nat → Option rr_E) (c18 : h' 18 = some (.inl (1, 4, .inr (.inl (fun k => jj (mvd A (W y) sg (tb ku * st_sh 4 g (W y)) ((wv * be - st_sh 4 g A) * tb ku - tt ku * be) p k)))))) (hf : fr [18] h h'), K 49 [some (.ref 13), some (.int (ii (y : Int))), some (.int (ii (g : Int))), some (.int (ii wv)), some (.long (jj be)), none, some (.long (jj ((wv * be - st_sh 4 g A) * tb ku - tt ku * be))), none, some (.long (jj (tb ku * st_sh 4 g (W y)))), none, some (.long (jj sg)), none, some (.int (ii (p : Int)))] [] (N, S, h') := by
      refine dn (fun p hp ih49 => ?_)
      intro sg hsg h' c18 hf
      have c13 := (hf 13 (by decide)).trans c13
      have c20 := (hf 20 (by decide)).trans c20
      have c17 := (hf 17 (by decide)).trans c17
      have cwy := (hf (21 + y) (by simp; omega)).trans (cw y hy)
      refine hK _ _ _ _ ?_
      refine s_iload rfl (cn rfl) rfl ?_
      refine s_iconst rfl (cn rfl) ?_
      refine s_icmp_ge rfl (cn rfl) (cn rfl) ⟨by omega, by omega⟩ ⟨by omega, by omega⟩ (fun q51 => ?_) (fun q51 => ?_)
      · refine s_aload_n rfl (cn rfl) rfl ?_
        refine s_getfield rfl (cn rfl) c13 rfl ?_
        refine s_lload rfl (cn rfl) rfl ?_
        refine s_lload rfl (cn rfl) rfl ?_
        refine s_lmul rfl (cn rfl) ?_
        refine s_lload rfl (cn rfl) rfl ?_
        refine s_lmul rfl (cn rfl) ?_
        refine s_putl rfl (cn rfl) rfl c17 rfl ?_
        refine s_aload_n rfl (cn rfl) rfl ?_
        refine s_getfield rfl (cn rfl) c13 rfl ?_
        refine s_virt rfl (cn rfl) rfl rfl rr_set_eq rfl (v_simpl_13 (h := (rr_set h' 17 (.inr (3, [.long (jj (sg * be * (tb ku * st_sh 4 g (W y)))), .ref 18, .ref 19, .int (ii x0), .int (ii y0)])))) (A := mvd A (W y) sg (tb ku * st_sh 4 g (W y)) ((wv * be - st_sh 4 g A) * tb ku - tt ku * be) 4) rr_set_eq (ar_l c18 (by rw [show p = 4 by omega])) (by rw [hsg]; exact sg_pos hbe h0) (by rw [hsg]; exact h2) (fun p hp => by rw [mvd_4 hp, hsg]; exact h3 p hp)) ?_
        rintro _ _ ⟨rfl, h6, be6, dv6, A6, rfl, hf6, e1, e2, e3, e4, e5, e6, e7⟩
        refine s_return rfl ?_
        exact ⟨rfl, h6, be6, dv6, A6, rfl, fr_t (fr_s (by decide) (fr_w hf (by decide))) hf6 (by decide), e1, e2, e3, e4, by rw [e5, hsg], fun p hp => by rw [e6 p hp, mvd_4 hp, hsg], e7⟩
      · refine s_aload_n rfl (cn rfl) rfl ?_
        refine s_getfield rfl (cn rfl) c13 rfl ?_
        refine s_getfield rfl (cn rfl) c17 rfl ?_
        refine s_iload rfl (cn rfl) rfl ?_
        refine s_lload rfl (cn rfl) rfl ?_
        refine s_aload_n rfl (cn rfl) rfl ?_
        refine s_getfield rfl (cn rfl) c13 rfl ?_
        refine s_getfield rfl (cn rfl) c17 rfl ?_
        refine s_iload rfl (cn rfl) rfl ?_
        refine s_laload rfl (cn rfl) _ rfl c18 (by omega) (by decide) (congrArg jj mvd_m) ?_
        refine s_lload rfl (cn rfl) rfl ?_
        refine s_lmul rfl (cn rfl) ?_
        refine s_aload_n rfl (cn rfl) rfl ?_
        refine s_getfield rfl (cn rfl) c13 rfl ?_
        refine s_iload_n rfl (cn rfl) rfl ?_
        refine s_aaload rfl (cn rfl) _ rfl c20 (by omega) (by decide) ((if_pos hy).trans rfl) ?_
        refine s_iload rfl (cn rfl) rfl ?_
        refine s_laload rfl (cn rfl) _ rfl cwy (by omega) (by decide) rfl ?_
        refine s_lload rfl (cn rfl) rfl ?_
        refine s_lmul rfl (cn rfl) ?_
        refine s_ladd rfl (cn rfl) ?_
        refine s_lmul rfl (cn rfl) ?_
        refine s_lastore rfl (cn rfl) _ rfl c18 (by omega) (by decide) ?_
        refine s_iinc rfl (cn rfl) rfl ?_
        refine s_goto rfl (ch rfl) ?_
        exact ih49 (by omega) sg hsg _ (ar_l rr_set_eq mvd_s) (fr_s (by decide) hf)
    exact lp49 0 (by omega) _ (by first | exact (if_pos q42).symm | exact (if_neg (by omega)).symm) _ (ar_l c18 mvd_0.symm) fr_r
  · refine s_ldc2_w rfl (cn rfl) ?_
    refine s_goto rfl (cn rfl) ?_
    refine s_lstore rfl (cn rfl) ?_
    refine s_iconst rfl (cn rfl) ?_
    refine s_istore rfl (ch rfl) ?_
    have lp49 : ∀ p : Nat, p ≤ 4 → ∀ (sg : Int) (hsg : sg = (if (tb ku * st_sh 4 g (W y)) < 0 then -1 else 1)) (h' : Nat → Option rr_E) (c18 : h' 18 = some (.inl (1, 4, .inr (.inl (fun k => jj (mvd A (W y) sg (tb ku * st_sh 4 g (W y)) ((wv * be - st_sh 4 g A) * tb ku - tt ku * be) p k)))))) (hf : fr [18] h h'), K 49 [some (.ref 13), some (.int (ii (y : Int))), some (.int (ii (g : Int))), some (.int (ii wv)), some (.long (jj be)), none, some (.long (jj ((wv * be - st_sh 4 g A) * tb ku - tt ku * be))), none, some (.long (jj (tb ku * st_sh 4 g (W y)))), none, some (.long (jj sg)), none, some (.int (ii (p : Int)))] [] (N, S, h') := by
      refine dn (fun p hp ih49 => ?_)
      intro sg hsg h' c18 hf
      have c13 := (hf 13 (by decide)).trans c13
      have c20 := (hf 20 (by decide)).trans c20
      have c17 := (hf 17 (by decide)).trans c17
      have cwy := (hf (21 + y) (by simp; omega)).trans (cw y hy)
      refine hK _ _ _ _ ?_
      refine s_iload rfl (cn rfl) rfl ?_
      refine s_iconst rfl (cn rfl) ?_
      refine s_icmp_ge rfl (cn rfl) (cn rfl) ⟨by omega, by omega⟩ ⟨by omega, by omega⟩ (fun q51 => ?_) (fun q51 => ?_)
      · refine s_aload_n rfl (cn rfl) rfl ?_
        refine s_getfield rfl (cn rfl) c13 rfl ?_
        refine s_lload rfl (cn rfl) rfl ?_
        refine s_lload rfl (cn rfl) rfl ?_
        refine s_lmul rfl (cn rfl) ?_
        refine s_lload rfl (cn rfl) rfl ?_
        refine s_lmul rfl (cn rfl) ?_
        refine s_putl rfl (cn rfl) rfl c17 rfl ?_
        refine s_aload_n rfl (cn rfl) rfl ?_
        refine s_getfield rfl (cn rfl) c13 rfl ?_
        refine s_virt rfl (cn rfl) rfl rfl rr_set_eq rfl (v_simpl_13 (h := (rr_set h' 17 (.inr (3, [.long (jj (sg * be * (tb ku * st_sh 4 g (W y)))), .ref 18, .ref 19, .int (ii x0), .int (ii y0)])))) (A := mvd A (W y) sg (tb ku * st_sh 4 g (W y)) ((wv * be - st_sh 4 g A) * tb ku - tt ku * be) 4) rr_set_eq (ar_l c18 (by rw [show p = 4 by omega])) (by rw [hsg]; exact sg_pos hbe h0) (by rw [hsg]; exact h2) (fun p hp => by rw [mvd_4 hp, hsg]; exact h3 p hp)) ?_
        rintro _ _ ⟨rfl, h6, be6, dv6, A6, rfl, hf6, e1, e2, e3, e4, e5, e6, e7⟩
        refine s_return rfl ?_
        exact ⟨rfl, h6, be6, dv6, A6, rfl, fr_t (fr_s (by decide) (fr_w hf (by decide))) hf6 (by decide), e1, e2, e3, e4, by rw [e5, hsg], fun p hp => by rw [e6 p hp, mvd_4 hp, hsg], e7⟩
      · refine s_aload_n rfl (cn rfl) rfl ?_
        refine s_getfield rfl (cn rfl) c13 rfl ?_
        refine s_getfield rfl (cn rfl) c17 rfl ?_
        refine s_iload rfl (cn rfl) rfl ?_
        refine s_lload rfl (cn rfl) rfl ?_
        refine s_aload_n rfl (cn rfl) rfl ?_
        refine s_getfield rfl (cn rfl) c13 rfl ?_
        refine s_getfield rfl (cn rfl) c17 rfl ?_
        refine s_iload rfl (cn rfl) rfl ?_
        refine s_laload rfl (cn rfl) _ rfl c18 (by omega) (by decide) (congrArg jj mvd_m) ?_
        refine s_lload rfl (cn rfl) rfl ?_
        refine s_lmul rfl (cn rfl) ?_
        refine s_aload_n rfl (cn rfl) rfl ?_
        refine s_getfield rfl (cn rfl) c13 rfl ?_
        refine s_iload_n rfl (cn rfl) rfl ?_
        refine s_aaload rfl (cn rfl) _ rfl c20 (by omega) (by decide) ((if_pos hy).trans rfl) ?_
        refine s_iload rfl (cn rfl) rfl ?_
        refine s_laload rfl (cn rfl) _ rfl cwy (by omega) (by decide) rfl ?_
        refine s_lload rfl (cn rfl) rfl ?_
        refine s_lmul rfl (cn rfl) ?_
        refine s_ladd rfl (cn rfl) ?_
        refine s_lmul rfl (cn rfl) ?_
        refine s_lastore rfl (cn rfl) _ rfl c18 (by omega) (by decide) ?_
        refine s_iinc rfl (cn rfl) rfl ?_
        refine s_goto rfl (ch rfl) ?_
        exact ih49 (by omega) sg hsg _ (ar_l rr_set_eq mvd_s) (fr_s (by decide) hf)
    exact lp49 0 (by omega) _ (by first | exact (if_pos q42).symm | exact (if_neg (by omega)).symm) _ (ar_l c18 mvd_0.symm) fr_r
theorem v_begin_13 {d N S n : Nat} {v : Nat → Int} {h : Nat → Option rr_E} (hn : 2 ≤ n ∧ n ≤ 4) (c1 : h 1 = some (.inr (0, [.int (ii (n : Int)), .ref 2]))) (c2 : h 2 = some (.inl (0, 16, .inl (fun k => ii (v k))))) (hv : ∀ k, -999 ≤ v k ∧ v k ≤ 999) {ku wc op oc bs bt bb : Int} (c13 : h 13 = some (ST13 ku wc op oc bs bt bb)) {W : Nat → Nat → Int} (c20 : h 20 = some WA13) (cw : ∀ w, w < 3 → h (21 + w) = some (.inl (1, 4, .inr (.inl (fun k => jj (W w k)))))) {be x0 y0 : Int} {A : Nat → Int} (c17 : h 17 = some (.inr (3, [.long (jj be), .ref 18, .ref 19, .int (ii x0), .int (ii y0)]))) (c18 : h 18 = some (.inl (1, 4, .inr (.inl (fun k => jj (A k)))))) : rr_Calls (d + 2) j_Stages_begin [.ref 13, .ref 1] (N, S, h) (fun r R => r = none ∧ ∃ (h' : Nat → Option rr_E) (A' : Nat → Int) (W' : Nat → Nat → Int), R = (N, S, h') ∧ fr [13, 17, 18, 21 + 0, 21 + 1, 21 + 2] h h' ∧ h' 13 = some (ST13 0 ((n - 1 : Nat) : Int) ((2 ^ al n - 2 : Nat) : Int) oc bs bt 0) ∧ h' 17 = some (.inr (3, [.long (jj 1), .ref 18, .ref 19, .int (ii x0), .int (ii y0)])) ∧ h' 18 = some (.inl (1, 4, .inr (.inl (fun k => jj (A' k))))) ∧ (∀ w, w < 3 → h' (21 + w) = some (.inl (1, 4, .inr (.inl (fun k => jj (W' w k)))))) ∧ (∀ p, p < 4 → A' p = A0 (v (al n)) p) ∧ ∀ w, w < 3 → ∀ p, p < 4 → W' w p = W0 w p) := by
  refine rr_meth (C := K_Stages_begin) (hd := h_Stages_begin) (mx := 4) rfl rfl (fun K hK => ?_)
  have hA := al_b hn
  have hva := hv (al n)
  have c1o := c1
  have c2o := c2
  have c20o := c20
  have e2 : 2 ^ al n ≥ 2 ^ 3 := Nat.pow_le_pow_right (by decide) (by omega)
  have eop : ((2 ^ al n : Nat) : Int) - 2 = ((2 ^ al n - 2 : Nat) : Int) := by omega
  have ewc : (n : Int) - 1 = ((n - 1 : Nat) : Int) := by omega
  refine hK _ _ _ _ ?_
  refine s_aload_n rfl (cn rfl) rfl ?_
  refine s_iconst rfl (cn rfl) ?_
  refine s_puti rfl (cn rfl) rfl c13 rfl ?_
  refine s_aload_n rfl (cn rfl) rfl ?_
  refine s_iconst rfl (cn rfl) ?_
  refine s_aload_n rfl (cn rfl) rfl ?_
  refine s_virt rfl (cn rfl) rfl rfl c1 rfl (u_all_1 hn c1) ?_
  rintro _ _ ⟨rfl, rfl⟩
  refine s_ishl rfl (cn rfl) _ (bi_shl1 (by omega)) ?_
  refine s_iconst rfl (cn rfl) ?_
  refine s_isub rfl (cn rfl) ?_
  refine s_puti rfl (cn rfl) rfl rr_set_eq rfl ?_
  refine s_aload_n rfl (cn rfl) rfl ?_
  refine s_aload_n rfl (cn rfl) rfl ?_
  refine s_getfield rfl (cn rfl) c1 rfl ?_
  refine s_iconst rfl (cn rfl) ?_
  refine s_isub rfl (cn rfl) ?_
  refine s_puti rfl (cn rfl) rfl rr_set_eq rfl ?_
  refine s_aload_n rfl (cn rfl) rfl ?_
  refine s_getfield rfl (cn rfl) rr_set_eq rfl ?_
  refine s_lconst rfl (cn rfl) 1 (by decide) ?_
  refine s_putl rfl (cn rfl) rfl c17 rfl ?_
  refine s_iconst rfl (cn rfl) ?_
  refine s_istore_n rfl (ch rfl) ?_
  have lp23 : ∀ p : Nat, p ≤ 4 → ∀ (l3 : Option Value) (h' : Nat → Option rr_E) (A2 : Nat → Int) (X : Nat → Nat → Int) (c13 : h' 13 = some (ST13 0 ((n - 1 : Nat) : Int) ((2 ^ al n - 2 : Nat) : Int) oc bs bt bb)) (c17 : h' 17 = some (.inr (3, [.long (jj 1), .ref 18, .ref 19, .int (ii x0), .int (ii y0)]))) (c18 : h' 18 = some (.inl (1, 4, .inr (.inl (fun k => jj (A2 k)))))) (cx : ∀ w, w < 3 → h' (21 + w) = some (.inl (1, 4, .inr (.inl (fun k => jj (X w k)))))) (hf : fr [13, 17, 18, 21 + 0, 21 + 1, 21 + 2] h h') (hA : ∀ k, k < p → A2 k = A0 (v (al n)) k) (hX : ∀ w, w < 3 → ∀ k, k < p → X w k = W0 w k), K 23 [some (.ref 13), some (.ref 1), some (.int (ii (p : Int))), l3] [] (N, S, h') := by
    refine dn (fun p hp ih23 => ?_)
    intro l3 h' A2 X c13 c17 c18 cx hf hA hX
    have c1 := (hf 1 (by simp)).trans c1o
    have c2 := (hf 2 (by simp)).trans c2o
    have c20 := (hf 20 (by simp)).trans c20o
    refine hK _ _ _ _ ?_
    refine s_iload_n rfl (cn rfl) rfl ?_
    refine s_iconst rfl (cn rfl) ?_
    refine s_icmp_ge rfl (cn rfl) (cn rfl) ⟨by omega, by omega⟩ ⟨by omega, by omega⟩ (fun q25 => ?_) (fun q25 => ?_)
    · refine s_aload_n rfl (cn rfl) rfl ?_
      refine s_lconst rfl (cn rfl) 0 (by decide) ?_
      refine s_putl rfl (cn rfl) rfl c13 rfl ?_
      refine s_return rfl ?_
      exact ⟨rfl, _, A2, X, rfl, fr_s (by simp) hf, rr_set_eq, c17, c18, fun k hk => (rr_set_ne (by omega)).trans (cx k hk), fun k hk => hA k (by omega), fun k hk j hj => hX k hk j (by omega)⟩
    · refine s_aload_n rfl (cn rfl) rfl ?_
      refine s_getfield rfl (cn rfl) c13 rfl ?_
      refine s_getfield rfl (cn rfl) c17 rfl ?_
      refine s_iload_n rfl (cn rfl) rfl ?_
      refine s_iload_n rfl (cn rfl) rfl ?_
      refine s_if_ne rfl (cn rfl) (cn rfl) ⟨by omega, by omega⟩ (fun q31 => ?_) (fun q31 => ?_)
      · refine s_lconst rfl (cn rfl) 0 (by decide) ?_
        refine s_lastore rfl (cn rfl) _ rfl c18 (by omega) (by decide) ?_
        refine s_iconst rfl (cn rfl) ?_
        refine s_istore_n rfl (ch rfl) ?_
        have lp43 : ∀ w : Nat, w ≤ 3 → ∀ (h' : Nat → Option rr_E) (X : Nat → Nat → Int) (c13 : h' 13 = some (ST13 0 ((n - 1 : Nat) : Int) ((2 ^ al n - 2 : Nat) : Int) oc bs bt bb)) (c17 : h' 17 = some (.inr (3, [.long (jj 1), .ref 18, .ref 19, .int (ii x0), .int (ii y0)]))) (c18 : h' 18 = some (.inl (1, 4, .inr (.inl (fun k => jj (fu A2 p (A0 (v (al n)) p) k)))))) (cx : ∀ w, w < 3 → h' (21 + w) = some (.inl (1, 4, .inr (.inl (fun k => jj (X w k)))))) (hf : fr [13, 17, 18, 21 + 0, 21 + 1, 21 + 2] h h') (hX : ∀ k, k < 3 → ∀ j, j < p → X k j = W0 k j) (hY : ∀ k, k < w → X k p = W0 k p), K 43 [some (.ref 13), some (.ref 1), some (.int (ii (p : Int))), some (.int (ii (w : Int)))] [] (N, S, h') := by
          refine dn (fun w hw ih43 => ?_)
          intro h' X c13 c17 c18 cx hf hX hY
          have c1 := (hf 1 (by simp)).trans c1o
          have c2 := (hf 2 (by simp)).trans c2o
          have c20 := (hf 20 (by simp)).trans c20o
          have cxw := fun (hw3 : w < 3) => cx w hw3
          refine hK _ _ _ _ ?_
          refine s_iload_n rfl (cn rfl) rfl ?_
          refine s_iconst rfl (cn rfl) ?_
          refine s_icmp_ge rfl (cn rfl) (cn rfl) ⟨by omega, by omega⟩ ⟨by omega, by omega⟩ (fun q45 => ?_) (fun q45 => ?_)
          · refine s_iinc rfl (cn rfl) rfl ?_
            refine s_goto rfl (ch rfl) ?_
            exact ih23 (by omega) _ _ _ X c13 c17 c18 cx hf (fun k hk => by
                by_cases e : k = p
                · subst e; exact fu_s
                · rw [fu_n e]; exact hA k (by omega)) (fun k hk j hj => by
                by_cases e : j = p
                · subst e; exact hY k (by omega)
                · exact hX k hk j (by omega))
          · refine s_aload_n rfl (cn rfl) rfl ?_
            refine s_getfield rfl (cn rfl) c13 rfl ?_
            refine s_iload_n rfl (cn rfl) rfl ?_
            refine s_aaload rfl (cn rfl) _ rfl c20 (by omega) (by decide) ((if_pos (show w < 3 by omega)).trans rfl) ?_
            refine s_iload_n rfl (cn rfl) rfl ?_
            refine s_iload_n rfl (cn rfl) rfl ?_
            refine s_if_ne rfl (cn rfl) (cn rfl) ⟨by omega, by omega⟩ (fun q52 => ?_) (fun q52 => ?_)
            · refine s_iload_n rfl (cn rfl) rfl ?_
              refine s_iload_n rfl (cn rfl) rfl ?_
              refine s_iconst rfl (cn rfl) ?_
              refine s_iadd rfl (cn rfl) ?_
              refine s_icmp_ne rfl (cn rfl) (cn rfl) ⟨by omega, by omega⟩ ⟨by omega, by omega⟩ (fun q59 => ?_) (fun q59 => ?_)
              · have WEQ : W0 w p = 0 := (if_neg (by omega)).trans (if_neg (by omega))
                refine s_lconst rfl (cn rfl) 0 (by decide) ?_
                refine s_lastore rfl (cn rfl) _ rfl (cxw (by omega)) (by omega) (by decide) ?_
                refine s_iinc rfl (cn rfl) rfl ?_
                refine s_goto rfl (ch rfl) ?_
                exact ih43 (by omega) _ (rw1 X w (fu (X w) p (W0 w p))) ((rr_set_ne (by omega)).trans c13) ((rr_set_ne (by omega)).trans c17) ((rr_set_ne (by omega)).trans c18) (fun k hk => by
                    by_cases e : k = w
                    · subst e; rw [rw1_s]; exact ar_l rr_set_eq (by rw [WEQ])
                    · rw [rw1_n e, rr_set_ne (by omega)]; exact cx k hk) (fr_s (List.mem_cons_of_mem _ (List.mem_cons_of_mem _ (List.mem_cons_of_mem _ (mem3 (by omega))))) hf) (fun k hk j hj => by
                    by_cases e : k = w
                    · subst e; rw [rw1_s, fu_n (by omega)]; exact hX k hk j hj
                    · rw [rw1_n e]; exact hX k hk j hj) (fun k hk => by
                    by_cases e : k = w
                    · subst e; rw [rw1_s, fu_s]
                    · rw [rw1_n e]; exact hY k (by omega))
              · have WEQ : W0 w p = 1 := (if_neg (by omega)).trans (if_pos (by omega))
                refine s_lconst rfl (cn rfl) 1 (by decide) ?_
                refine s_goto rfl (cn rfl) ?_
                refine s_lastore rfl (cn rfl) _ rfl (cxw (by omega)) (by omega) (by decide) ?_
                refine s_iinc rfl (cn rfl) rfl ?_
                refine s_goto rfl (ch rfl) ?_
                exact ih43 (by omega) _ (rw1 X w (fu (X w) p (W0 w p))) ((rr_set_ne (by omega)).trans c13) ((rr_set_ne (by omega)).trans c17) ((rr_set_ne (by omega)).trans c18) (fun k hk => by
                    by_cases e : k = w
                    · subst e; rw [rw1_s]; exact ar_l rr_set_eq (by rw [WEQ])
                    · rw [rw1_n e, rr_set_ne (by omega)]; exact cx k hk) (fr_s (List.mem_cons_of_mem _ (List.mem_cons_of_mem _ (List.mem_cons_of_mem _ (mem3 (by omega))))) hf) (fun k hk j hj => by
                    by_cases e : k = w
                    · subst e; rw [rw1_s, fu_n (by omega)]; exact hX k hk j hj
                    · rw [rw1_n e]; exact hX k hk j hj) (fun k hk => by
                    by_cases e : k = w
                    · subst e; rw [rw1_s, fu_s]
                    · rw [rw1_n e]; exact hY k (by omega))
            · have WEQ : W0 w p = -1 := if_pos (by omega)
              refine s_ldc2_w rfl (cn rfl) ?_
              refine s_goto rfl (cn rfl) ?_
              refine s_lastore rfl (cn rfl) _ rfl (cxw (by omega)) (by omega) (by decide) ?_
              refine s_iinc rfl (cn rfl) rfl ?_
              refine s_goto rfl (ch rfl) ?_
              exact ih43 (by omega) _ (rw1 X w (fu (X w) p (W0 w p))) ((rr_set_ne (by omega)).trans c13) ((rr_set_ne (by omega)).trans c17) ((rr_set_ne (by omega)).trans c18) (fun k hk => by
                  by_cases e : k = w
                  · subst e; rw [rw1_s]; exact ar_l rr_set_eq (by rw [WEQ])
                  · rw [rw1_n e, rr_set_ne (by omega)]; exact cx k hk) (fr_s (List.mem_cons_of_mem _ (List.mem_cons_of_mem _ (List.mem_cons_of_mem _ (mem3 (by omega))))) hf) (fun k hk j hj => by
                  by_cases e : k = w
                  · subst e; rw [rw1_s, fu_n (by omega)]; exact hX k hk j hj
                  · rw [rw1_n e]; exact hX k hk j hj) (fun k hk => by
                  by_cases e : k = w
                  · subst e; rw [rw1_s, fu_s]
                  · rw [rw1_n e]; exact hY k (by omega))
        exact lp43 0 (by omega) _ X c13 c17 (ar_l rr_set_eq (by first | rw [show A0 (v (al n)) p = v (al n) from if_pos (by omega)] | rw [show A0 (v (al n)) p = 0 from if_neg (by omega)])) (fun k hk => (rr_set_ne (by omega)).trans (cx k hk)) (fr_s (by simp) hf) (fun k hk j hj => hX k hk j hj) (fun k q => absurd q (by omega))
      · refine s_aload_n rfl (cn rfl) rfl ?_
        refine s_getfield rfl (cn rfl) c1 rfl ?_
        refine s_aload_n rfl (cn rfl) rfl ?_
        refine s_virt rfl (cn rfl) rfl rfl c1 rfl (u_all_1 hn c1) ?_
        rintro _ _ ⟨rfl, rfl⟩
        refine s_iaload rfl (cn rfl) _ rfl c2 rfl (by omega) (by decide) rfl ?_
        refine s_i2l rfl (cn rfl) ⟨by omega, by omega⟩ ?_
        refine s_goto rfl (cn rfl) ?_
        refine s_lastore rfl (cn rfl) _ rfl c18 (by omega) (by decide) ?_
        refine s_iconst rfl (cn rfl) ?_
        refine s_istore_n rfl (ch rfl) ?_
        have lp43 : ∀ w : Nat, w ≤ 3 → ∀ (h' : Nat → Option rr_E) (X : Nat → Nat → Int) (c13 : h' 13 = some (ST13 0 ((n - 1 : Nat) : Int) ((2 ^ al n - 2 : Nat) : Int) oc bs bt bb)) (c17 : h' 17 = some (.inr (3, [.long (jj 1), .ref 18, .ref 19, .int (ii x0), .int (ii y0)]))) (c18 : h' 18 = some (.inl (1, 4, .inr (.inl (fun k => jj (fu A2 p (A0 (v (al n)) p) k)))))) (cx : ∀ w, w < 3 → h' (21 + w) = some (.inl (1, 4, .inr (.inl (fun k => jj (X w k)))))) (hf : fr [13, 17, 18, 21 + 0, 21 + 1, 21 + 2] h h') (hX : ∀ k, k < 3 → ∀ j, j < p → X k j = W0 k j) (hY : ∀ k, k < w → X k p = W0 k p), K 43 [some (.ref 13), some (.ref 1), some (.int (ii (p : Int))), some (.int (ii (w : Int)))] [] (N, S, h') := by
          refine dn (fun w hw ih43 => ?_)
          intro h' X c13 c17 c18 cx hf hX hY
          have c1 := (hf 1 (by simp)).trans c1o
          have c2 := (hf 2 (by simp)).trans c2o
          have c20 := (hf 20 (by simp)).trans c20o
          have cxw := fun (hw3 : w < 3) => cx w hw3
          refine hK _ _ _ _ ?_
          refine s_iload_n rfl (cn rfl) rfl ?_
          refine s_iconst rfl (cn rfl) ?_
          refine s_icmp_ge rfl (cn rfl) (cn rfl) ⟨by omega, by omega⟩ ⟨by omega, by omega⟩ (fun q45 => ?_) (fun q45 => ?_)
          · refine s_iinc rfl (cn rfl) rfl ?_
            refine s_goto rfl (ch rfl) ?_
            exact ih23 (by omega) _ _ _ X c13 c17 c18 cx hf (fun k hk => by
                by_cases e : k = p
                · subst e; exact fu_s
                · rw [fu_n e]; exact hA k (by omega)) (fun k hk j hj => by
                by_cases e : j = p
                · subst e; exact hY k (by omega)
                · exact hX k hk j (by omega))
          · refine s_aload_n rfl (cn rfl) rfl ?_
            refine s_getfield rfl (cn rfl) c13 rfl ?_
            refine s_iload_n rfl (cn rfl) rfl ?_
            refine s_aaload rfl (cn rfl) _ rfl c20 (by omega) (by decide) ((if_pos (show w < 3 by omega)).trans rfl) ?_
            refine s_iload_n rfl (cn rfl) rfl ?_
            refine s_iload_n rfl (cn rfl) rfl ?_
            refine s_if_ne rfl (cn rfl) (cn rfl) ⟨by omega, by omega⟩ (fun q52 => ?_) (fun q52 => ?_)
            · refine s_iload_n rfl (cn rfl) rfl ?_
              refine s_iload_n rfl (cn rfl) rfl ?_
              refine s_iconst rfl (cn rfl) ?_
              refine s_iadd rfl (cn rfl) ?_
              refine s_icmp_ne rfl (cn rfl) (cn rfl) ⟨by omega, by omega⟩ ⟨by omega, by omega⟩ (fun q59 => ?_) (fun q59 => ?_)
              · have WEQ : W0 w p = 0 := (if_neg (by omega)).trans (if_neg (by omega))
                refine s_lconst rfl (cn rfl) 0 (by decide) ?_
                refine s_lastore rfl (cn rfl) _ rfl (cxw (by omega)) (by omega) (by decide) ?_
                refine s_iinc rfl (cn rfl) rfl ?_
                refine s_goto rfl (ch rfl) ?_
                exact ih43 (by omega) _ (rw1 X w (fu (X w) p (W0 w p))) ((rr_set_ne (by omega)).trans c13) ((rr_set_ne (by omega)).trans c17) ((rr_set_ne (by omega)).trans c18) (fun k hk => by
                    by_cases e : k = w
                    · subst e; rw [rw1_s]; exact ar_l rr_set_eq (by rw [WEQ])
                    · rw [rw1_n e, rr_set_ne (by omega)]; exact cx k hk) (fr_s (List.mem_cons_of_mem _ (List.mem_cons_of_mem _ (List.mem_cons_of_mem _ (mem3 (by omega))))) hf) (fun k hk j hj => by
                    by_cases e : k = w
                    · subst e; rw [rw1_s, fu_n (by omega)]; exact hX k hk j hj
                    · rw [rw1_n e]; exact hX k hk j hj) (fun k hk => by
                    by_cases e : k = w
                    · subst e; rw [rw1_s, fu_s]
                    · rw [rw1_n e]; exact hY k (by omega))
              · have WEQ : W0 w p = 1 := (if_neg (by omega)).trans (if_pos (by omega))
                refine s_lconst rfl (cn rfl) 1 (by decide) ?_
                refine s_goto rfl (cn rfl) ?_
                refine s_lastore rfl (cn rfl) _ rfl (cxw (by omega)) (by omega) (by decide) ?_
                refine s_iinc rfl (cn rfl) rfl ?_
                refine s_goto rfl (ch rfl) ?_
                exact ih43 (by omega) _ (rw1 X w (fu (X w) p (W0 w p))) ((rr_set_ne (by omega)).trans c13) ((rr_set_ne (by omega)).trans c17) ((rr_set_ne (by omega)).trans c18) (fun k hk => by
                    by_cases e : k = w
                    · subst e; rw [rw1_s]; exact ar_l rr_set_eq (by rw [WEQ])
                    · rw [rw1_n e, rr_set_ne (by omega)]; exact cx k hk) (fr_s (List.mem_cons_of_mem _ (List.mem_cons_of_mem _ (List.mem_cons_of_mem _ (mem3 (by omega))))) hf) (fun k hk j hj => by
                    by_cases e : k = w
                    · subst e; rw [rw1_s, fu_n (by omega)]; exact hX k hk j hj
                    · rw [rw1_n e]; exact hX k hk j hj) (fun k hk => by
                    by_cases e : k = w
                    · subst e; rw [rw1_s, fu_s]
                    · rw [rw1_n e]; exact hY k (by omega))
            · have WEQ : W0 w p = -1 := if_pos (by omega)
              refine s_ldc2_w rfl (cn rfl) ?_
              refine s_goto rfl (cn rfl) ?_
              refine s_lastore rfl (cn rfl) _ rfl (cxw (by omega)) (by omega) (by decide) ?_
              refine s_iinc rfl (cn rfl) rfl ?_
              refine s_goto rfl (ch rfl) ?_
              exact ih43 (by omega) _ (rw1 X w (fu (X w) p (W0 w p))) ((rr_set_ne (by omega)).trans c13) ((rr_set_ne (by omega)).trans c17) ((rr_set_ne (by omega)).trans c18) (fun k hk => by
                  by_cases e : k = w
                  · subst e; rw [rw1_s]; exact ar_l rr_set_eq (by rw [WEQ])
                  · rw [rw1_n e, rr_set_ne (by omega)]; exact cx k hk) (fr_s (List.mem_cons_of_mem _ (List.mem_cons_of_mem _ (List.mem_cons_of_mem _ (mem3 (by omega))))) hf) (fun k hk j hj => by
                  by_cases e : k = w
                  · subst e; rw [rw1_s, fu_n (by omega)]; exact hX k hk j hj
                  · rw [rw1_n e]; exact hX k hk j hj) (fun k hk => by
                  by_cases e : k = w
                  · subst e; rw [rw1_s, fu_s]
                  · rw [rw1_n e]; exact hY k (by omega))
        exact lp43 0 (by omega) _ X c13 c17 (ar_l rr_set_eq (by first | rw [show A0 (v (al n)) p = v (al n) from if_pos (by omega)] | rw [show A0 (v (al n)) p = 0 from if_neg (by omega)])) (fun k hk => (rr_set_ne (by omega)).trans (cx k hk)) (fr_s (by simp) hf) (fun k hk j hj => hX k hk j hj) (fun k q => absurd q (by omega))
  exact lp23 0 (by omega) _ _ A W (by rw [← eop, ← ewc]; rfl) rr_set_eq c18 (fun k hk => (rr_set_ne (by omega)).trans ((rr_set_ne (by omega)).trans ((rr_set_ne (by omega)).trans ((rr_set_ne (by omega)).trans (cw k hk))))) (fr_s (by simp) (fr_s (by simp) (fr_s (by simp) (fr_s (by simp) fr_r)))) (fun k q => absurd q (by omega)) (fun w hw k q => absurd q (by omega))
theorem v_move_28 {d N S : Nat} {h : Nat → Option rr_E} {wc op oc bs bt bb be x0 y0 wv : Int} {ku y g : Nat} (hku : ku < 15) (hy : y < 3) (hg : g < 16) (hwv : b3 wv) (c28 : h 28 = some (ST28 (ku : Int) wc op oc bs bt bb)) {W : Nat → Nat → Int} (c35 : h 35 = some WA28) (cw : ∀ w, w < 3 → h (36 + w) = some (.inl (1, 4, .inr (.inl (fun k => jj (W w k)))))) {tt tb A : Nat → Int} (c29 : h 29 = some (.inl (1, 15, .inr (.inl (fun k => jj (tt k)))))) (c30 : h 30 = some (.inl (1, 15, .inr (.inl (fun k => jj (tb k)))))) (c32 : h 32 = some (.inr (3, [.long (jj be), .ref 33, .ref 34, .int (ii x0), .int (ii y0)]))) (c33 : h 33 = some (.inl (1, 4, .inr (.inl (fun k => jj (A k)))))) (hbe : 0 < be) (h0 : (tb ku * st_sh 4 g (W y)) ≠ 0) (h1 : b6 (tb ku * st_sh 4 g (W y))) (h2 : b5 ((if (tb ku * st_sh 4 g (W y)) < 0 then -1 else 1) * be * (tb ku * st_sh 4 g (W y)))) (h3 : ∀ p, p < 4 → b5 ((if (tb ku * st_sh 4 g (W y)) < 0 then -1 else 1) * (A p * (tb ku * st_sh 4 g (W y)) + W y p * ((wv * be - st_sh 4 g A) * tb ku - tt ku * be)))) : rr_Calls (d + 3) j_Stages_movePoint [.ref 28, .int (ii (y : Int)), .int (ii (g : Int)), .int (ii wv)] (N, S, h) (fun r R => r = none ∧ ∃ (h' : Nat → Option rr_E) (be' dv : Int) (A' : Nat → Int), R = (N, S, h') ∧ fr [32, 33] h h' ∧ h' 32 = some (.inr (3, [.long (jj be'), .ref 33, .ref 34, .int (ii x0), .int (ii y0)])) ∧ h' 33 = some (.inl (1, 4, .inr (.inl (fun k => jj (A' k))))) ∧ 0 < dv ∧ 0 < be' ∧ dv * be' = (if (tb ku * st_sh 4 g (W y)) < 0 then -1 else 1) * be * (tb ku * st_sh 4 g (W y)) ∧ (∀ p, p < 4 → dv * A' p = (if (tb ku * st_sh 4 g (W y)) < 0 then -1 else 1) * (A p * (tb ku * st_sh 4 g (W y)) + W y p * ((wv * be - st_sh 4 g A) * tb ku - tt ku * be))) ∧ ∀ k : Int, k ∣ be' → (∀ p, p < 4 → k ∣ A' p) → k ∣ 1) := by
  refine rr_meth (C := K_Stages_movePoint) (hd := h_Stages_movePoint) (mx := 13) rfl rfl (fun K hK => ?_)
  refine hK _ _ _ _ ?_
  refine s_aload_n rfl (cn rfl) rfl ?_
  refine s_getfield rfl (cn rfl) c28 rfl ?_
  refine s_getfield rfl (cn rfl) c32 rfl ?_
  refine s_lstore rfl (cn rfl) ?_
  refine s_iload_n rfl (cn rfl) rfl ?_
  refine s_i2l rfl (cn rfl) ⟨by omega, by omega⟩ ?_
  refine s_lload rfl (cn rfl) rfl ?_
  refine s_lmul rfl (cn rfl) ?_
  refine s_aload_n rfl (cn rfl) rfl ?_
  refine s_getfield rfl (cn rfl) c28 rfl ?_
  refine s_iload_n rfl (cn rfl) rfl ?_
  refine s_virt rfl (cn rfl) rfl rfl c32 rfl (u_sumOf_32 c32 c33 hg) ?_
  rintro _ _ ⟨rfl, rfl⟩
  refine s_lsub rfl (cn rfl) ?_
  refine s_aload_n rfl (cn rfl) rfl ?_
  refine s_getfield rfl (cn rfl) c28 rfl ?_
  refine s_aload_n rfl (cn rfl) rfl ?_
  refine s_getfield rfl (cn rfl) c28 rfl ?_
  refine s_laload rfl (cn rfl) _ rfl c30 (by omega) (by decide) rfl ?_
  refine s_lmul rfl (cn rfl) ?_
  refine s_aload_n rfl (cn rfl) rfl ?_
  refine s_getfield rfl (cn rfl) c28 rfl ?_
  refine s_aload_n rfl (cn rfl) rfl ?_
  refine s_getfield rfl (cn rfl) c28 rfl ?_
  refine s_laload rfl (cn rfl) _ rfl c29 (by omega) (by decide) rfl ?_
  refine s_lload rfl (cn rfl) rfl ?_
  refine s_lmul rfl (cn rfl) ?_
  refine s_lsub rfl (cn rfl) ?_
  refine s_lstore rfl (cn rfl) ?_
  refine s_aload_n rfl (cn rfl) rfl ?_
  refine s_getfield rfl (cn rfl) c28 rfl ?_
  refine s_aload_n rfl (cn rfl) rfl ?_
  refine s_getfield rfl (cn rfl) c28 rfl ?_
  refine s_laload rfl (cn rfl) _ rfl c30 (by omega) (by decide) rfl ?_
  refine s_aload_n rfl (cn rfl) rfl ?_
  refine s_iload_n rfl (cn rfl) rfl ?_
  refine s_iload_n rfl (cn rfl) rfl ?_
  refine s_virt rfl (cn rfl) rfl rfl c28 rfl (v_goes_28 c28 c35 cw hy hg) ?_
  rintro _ _ ⟨rfl, rfl⟩
  refine s_lmul rfl (cn rfl) ?_
  refine s_lstore rfl (cn rfl) ?_
  refine s_lload rfl (cn rfl) rfl ?_
  refine s_lconst rfl (cn rfl) 0 (by decide) ?_
  refine s_lcmp rfl (cn rfl) ?_
  refine s_ifl_ge rfl (cn rfl) (cn rfl) ⟨by omega, by omega⟩ ⟨by omega, by omega⟩ (fun q42 => ?_) (fun q42 => ?_)
  · refine s_lconst rfl (cn rfl) 1 (by decide) ?_
    refine s_lstore rfl (cn rfl) ?_
    refine s_iconst rfl (cn rfl) ?_
    refine s_istore rfl (ch rfl) ?_
    have lp49 : ∀ p : Nat, p ≤ 4 → ∀ (sg : Int) (hsg : sg = (if (tb ku * st_sh 4 g (W y)) < 0 then -1 else 1)) (h' : Nat → Option rr_E) (c33 : h' 33 = some (.inl (1, 4, .inr (.inl (fun k => jj (mvd A (W y) sg (tb ku * st_sh 4 g (W y)) ((wv * be - st_sh 4 g A) * tb ku - tt ku * be) p k)))))) (hf : fr [33] h h'), K 49 [some (.ref 28), some (.int (ii (y : Int))), some (.int (ii (g : Int))), some (.int (ii wv)), some (.long (jj be)), none, some (.long (jj ((wv * be - st_sh 4 g A) * tb ku - tt ku * be))), none, some (.long (jj (tb ku * st_sh 4 g (W y)))), none, some (.long (jj sg)), none, some (.int (ii (p : Int)))] [] (N, S, h') := by
      refine dn (fun p hp ih49 => ?_)
      intro sg hsg h' c33 hf
      have c28 := (hf 28 (by decide)).trans c28
      have c35 := (hf 35 (by decide)).trans c35
      have c32 := (hf 32 (by decide)).trans c32
      have cwy := (hf (36 + y) (by simp; omega)).trans (cw y hy)
      refine hK _ _ _ _ ?_
      refine s_iload rfl (cn rfl) rfl ?_
      refine s_iconst rfl (cn rfl) ?_
      refine s_icmp_ge rfl (cn rfl) (cn rfl) ⟨by omega, by omega⟩ ⟨by omega, by omega⟩ (fun q51 => ?_) (fun q51 => ?_)
      · refine s_aload_n rfl (cn rfl) rfl ?_
        refine s_getfield rfl (cn rfl) c28 rfl ?_
        refine s_lload rfl (cn rfl) rfl ?_
        refine s_lload rfl (cn rfl) rfl ?_
        refine s_lmul rfl (cn rfl) ?_
        refine s_lload rfl (cn rfl) rfl ?_
        refine s_lmul rfl (cn rfl) ?_
        refine s_putl rfl (cn rfl) rfl c32 rfl ?_
        refine s_aload_n rfl (cn rfl) rfl ?_
        refine s_getfield rfl (cn rfl) c28 rfl ?_
        refine s_virt rfl (cn rfl) rfl rfl rr_set_eq rfl (v_simpl_28 (h := (rr_set h' 32 (.inr (3, [.long (jj (sg * be * (tb ku * st_sh 4 g (W y)))), .ref 33, .ref 34, .int (ii x0), .int (ii y0)])))) (A := mvd A (W y) sg (tb ku * st_sh 4 g (W y)) ((wv * be - st_sh 4 g A) * tb ku - tt ku * be) 4) rr_set_eq (ar_l c33 (by rw [show p = 4 by omega])) (by rw [hsg]; exact sg_pos hbe h0) (by rw [hsg]; exact h2) (fun p hp => by rw [mvd_4 hp, hsg]; exact h3 p hp)) ?_
        rintro _ _ ⟨rfl, h6, be6, dv6, A6, rfl, hf6, e1, e2, e3, e4, e5, e6, e7⟩
        refine s_return rfl ?_
        exact ⟨rfl, h6, be6, dv6, A6, rfl, fr_t (fr_s (by decide) (fr_w hf (by decide))) hf6 (by decide), e1, e2, e3, e4, by rw [e5, hsg], fun p hp => by rw [e6 p hp, mvd_4 hp, hsg], e7⟩
      · refine s_aload_n rfl (cn rfl) rfl ?_
        refine s_getfield rfl (cn rfl) c28 rfl ?_
        refine s_getfield rfl (cn rfl) c32 rfl ?_
        refine s_iload rfl (cn rfl) rfl ?_
        refine s_lload rfl (cn rfl) rfl ?_
        refine s_aload_n rfl (cn rfl) rfl ?_
        refine s_getfield rfl (cn rfl) c28 rfl ?_
        refine s_getfield rfl (cn rfl) c32 rfl ?_
        refine s_iload rfl (cn rfl) rfl ?_
        refine s_laload rfl (cn rfl) _ rfl c33 (by omega) (by decide) (congrArg jj mvd_m) ?_
        refine s_lload rfl (cn rfl) rfl ?_
        refine s_lmul rfl (cn rfl) ?_
        refine s_aload_n rfl (cn rfl) rfl ?_
        refine s_getfield rfl (cn rfl) c28 rfl ?_
        refine s_iload_n rfl (cn rfl) rfl ?_
        refine s_aaload rfl (cn rfl) _ rfl c35 (by omega) (by decide) ((if_pos hy).trans rfl) ?_
        refine s_iload rfl (cn rfl) rfl ?_
        refine s_laload rfl (cn rfl) _ rfl cwy (by omega) (by decide) rfl ?_
        refine s_lload rfl (cn rfl) rfl ?_
        refine s_lmul rfl (cn rfl) ?_
        refine s_ladd rfl (cn rfl) ?_
        refine s_lmul rfl (cn rfl) ?_
        refine s_lastore rfl (cn rfl) _ rfl c33 (by omega) (by decide) ?_
        refine s_iinc rfl (cn rfl) rfl ?_
        refine s_goto rfl (ch rfl) ?_
        exact ih49 (by omega) sg hsg _ (ar_l rr_set_eq mvd_s) (fr_s (by decide) hf)
    exact lp49 0 (by omega) _ (by first | exact (if_pos q42).symm | exact (if_neg (by omega)).symm) _ (ar_l c33 mvd_0.symm) fr_r
  · refine s_ldc2_w rfl (cn rfl) ?_
    refine s_goto rfl (cn rfl) ?_
    refine s_lstore rfl (cn rfl) ?_
    refine s_iconst rfl (cn rfl) ?_
    refine s_istore rfl (ch rfl) ?_
    have lp49 : ∀ p : Nat, p ≤ 4 → ∀ (sg : Int) (hsg : sg = (if (tb ku * st_sh 4 g (W y)) < 0 then -1 else 1)) (h' : Nat → Option rr_E) (c33 : h' 33 = some (.inl (1, 4, .inr (.inl (fun k => jj (mvd A (W y) sg (tb ku * st_sh 4 g (W y)) ((wv * be - st_sh 4 g A) * tb ku - tt ku * be) p k)))))) (hf : fr [33] h h'), K 49 [some (.ref 28), some (.int (ii (y : Int))), some (.int (ii (g : Int))), some (.int (ii wv)), some (.long (jj be)), none, some (.long (jj ((wv * be - st_sh 4 g A) * tb ku - tt ku * be))), none, some (.long (jj (tb ku * st_sh 4 g (W y)))), none, some (.long (jj sg)), none, some (.int (ii (p : Int)))] [] (N, S, h') := by
      refine dn (fun p hp ih49 => ?_)
      intro sg hsg h' c33 hf
      have c28 := (hf 28 (by decide)).trans c28
      have c35 := (hf 35 (by decide)).trans c35
      have c32 := (hf 32 (by decide)).trans c32
      have cwy := (hf (36 + y) (by simp; omega)).trans (cw y hy)
      refine hK _ _ _ _ ?_
      refine s_iload rfl (cn rfl) rfl ?_
      refine s_iconst rfl (cn rfl) ?_
      refine s_icmp_ge rfl (cn rfl) (cn rfl) ⟨by omega, by omega⟩ ⟨by omega, by omega⟩ (fun q51 => ?_) (fun q51 => ?_)
      · refine s_aload_n rfl (cn rfl) rfl ?_
        refine s_getfield rfl (cn rfl) c28 rfl ?_
        refine s_lload rfl (cn rfl) rfl ?_
        refine s_lload rfl (cn rfl) rfl ?_
        refine s_lmul rfl (cn rfl) ?_
        refine s_lload rfl (cn rfl) rfl ?_
        refine s_lmul rfl (cn rfl) ?_
        refine s_putl rfl (cn rfl) rfl c32 rfl ?_
        refine s_aload_n rfl (cn rfl) rfl ?_
        refine s_getfield rfl (cn rfl) c28 rfl ?_
        refine s_virt rfl (cn rfl) rfl rfl rr_set_eq rfl (v_simpl_28 (h := (rr_set h' 32 (.inr (3, [.long (jj (sg * be * (tb ku * st_sh 4 g (W y)))), .ref 33, .ref 34, .int (ii x0), .int (ii y0)])))) (A := mvd A (W y) sg (tb ku * st_sh 4 g (W y)) ((wv * be - st_sh 4 g A) * tb ku - tt ku * be) 4) rr_set_eq (ar_l c33 (by rw [show p = 4 by omega])) (by rw [hsg]; exact sg_pos hbe h0) (by rw [hsg]; exact h2) (fun p hp => by rw [mvd_4 hp, hsg]; exact h3 p hp)) ?_
        rintro _ _ ⟨rfl, h6, be6, dv6, A6, rfl, hf6, e1, e2, e3, e4, e5, e6, e7⟩
        refine s_return rfl ?_
        exact ⟨rfl, h6, be6, dv6, A6, rfl, fr_t (fr_s (by decide) (fr_w hf (by decide))) hf6 (by decide), e1, e2, e3, e4, by rw [e5, hsg], fun p hp => by rw [e6 p hp, mvd_4 hp, hsg], e7⟩
      · refine s_aload_n rfl (cn rfl) rfl ?_
        refine s_getfield rfl (cn rfl) c28 rfl ?_
        refine s_getfield rfl (cn rfl) c32 rfl ?_
        refine s_iload rfl (cn rfl) rfl ?_
        refine s_lload rfl (cn rfl) rfl ?_
        refine s_aload_n rfl (cn rfl) rfl ?_
        refine s_getfield rfl (cn rfl) c28 rfl ?_
        refine s_getfield rfl (cn rfl) c32 rfl ?_
        refine s_iload rfl (cn rfl) rfl ?_
        refine s_laload rfl (cn rfl) _ rfl c33 (by omega) (by decide) (congrArg jj mvd_m) ?_
        refine s_lload rfl (cn rfl) rfl ?_
        refine s_lmul rfl (cn rfl) ?_
        refine s_aload_n rfl (cn rfl) rfl ?_
        refine s_getfield rfl (cn rfl) c28 rfl ?_
        refine s_iload_n rfl (cn rfl) rfl ?_
        refine s_aaload rfl (cn rfl) _ rfl c35 (by omega) (by decide) ((if_pos hy).trans rfl) ?_
        refine s_iload rfl (cn rfl) rfl ?_
        refine s_laload rfl (cn rfl) _ rfl cwy (by omega) (by decide) rfl ?_
        refine s_lload rfl (cn rfl) rfl ?_
        refine s_lmul rfl (cn rfl) ?_
        refine s_ladd rfl (cn rfl) ?_
        refine s_lmul rfl (cn rfl) ?_
        refine s_lastore rfl (cn rfl) _ rfl c33 (by omega) (by decide) ?_
        refine s_iinc rfl (cn rfl) rfl ?_
        refine s_goto rfl (ch rfl) ?_
        exact ih49 (by omega) sg hsg _ (ar_l rr_set_eq mvd_s) (fr_s (by decide) hf)
    exact lp49 0 (by omega) _ (by first | exact (if_pos q42).symm | exact (if_neg (by omega)).symm) _ (ar_l c33 mvd_0.symm) fr_r
theorem v_begin_28 {d N S n : Nat} {v : Nat → Int} {h : Nat → Option rr_E} (hn : 2 ≤ n ∧ n ≤ 4) (c5 : h 5 = some (.inr (0, [.int (ii (n : Int)), .ref 6]))) (c6 : h 6 = some (.inl (0, 16, .inl (fun k => ii (v k))))) (hv : ∀ k, -999 ≤ v k ∧ v k ≤ 999) {ku wc op oc bs bt bb : Int} (c28 : h 28 = some (ST28 ku wc op oc bs bt bb)) {W : Nat → Nat → Int} (c35 : h 35 = some WA28) (cw : ∀ w, w < 3 → h (36 + w) = some (.inl (1, 4, .inr (.inl (fun k => jj (W w k)))))) {be x0 y0 : Int} {A : Nat → Int} (c32 : h 32 = some (.inr (3, [.long (jj be), .ref 33, .ref 34, .int (ii x0), .int (ii y0)]))) (c33 : h 33 = some (.inl (1, 4, .inr (.inl (fun k => jj (A k)))))) : rr_Calls (d + 2) j_Stages_begin [.ref 28, .ref 5] (N, S, h) (fun r R => r = none ∧ ∃ (h' : Nat → Option rr_E) (A' : Nat → Int) (W' : Nat → Nat → Int), R = (N, S, h') ∧ fr [28, 32, 33, 36 + 0, 36 + 1, 36 + 2] h h' ∧ h' 28 = some (ST28 0 ((n - 1 : Nat) : Int) ((2 ^ al n - 2 : Nat) : Int) oc bs bt 0) ∧ h' 32 = some (.inr (3, [.long (jj 1), .ref 33, .ref 34, .int (ii x0), .int (ii y0)])) ∧ h' 33 = some (.inl (1, 4, .inr (.inl (fun k => jj (A' k))))) ∧ (∀ w, w < 3 → h' (36 + w) = some (.inl (1, 4, .inr (.inl (fun k => jj (W' w k)))))) ∧ (∀ p, p < 4 → A' p = A0 (v (al n)) p) ∧ ∀ w, w < 3 → ∀ p, p < 4 → W' w p = W0 w p) := by
  refine rr_meth (C := K_Stages_begin) (hd := h_Stages_begin) (mx := 4) rfl rfl (fun K hK => ?_)
  have hA := al_b hn
  have hva := hv (al n)
  have c5o := c5
  have c6o := c6
  have c35o := c35
  have e2 : 2 ^ al n ≥ 2 ^ 3 := Nat.pow_le_pow_right (by decide) (by omega)
  have eop : ((2 ^ al n : Nat) : Int) - 2 = ((2 ^ al n - 2 : Nat) : Int) := by omega
  have ewc : (n : Int) - 1 = ((n - 1 : Nat) : Int) := by omega
  refine hK _ _ _ _ ?_
  refine s_aload_n rfl (cn rfl) rfl ?_
  refine s_iconst rfl (cn rfl) ?_
  refine s_puti rfl (cn rfl) rfl c28 rfl ?_
  refine s_aload_n rfl (cn rfl) rfl ?_
  refine s_iconst rfl (cn rfl) ?_
  refine s_aload_n rfl (cn rfl) rfl ?_
  refine s_virt rfl (cn rfl) rfl rfl c5 rfl (u_all_5 hn c5) ?_
  rintro _ _ ⟨rfl, rfl⟩
  refine s_ishl rfl (cn rfl) _ (bi_shl1 (by omega)) ?_
  refine s_iconst rfl (cn rfl) ?_
  refine s_isub rfl (cn rfl) ?_
  refine s_puti rfl (cn rfl) rfl rr_set_eq rfl ?_
  refine s_aload_n rfl (cn rfl) rfl ?_
  refine s_aload_n rfl (cn rfl) rfl ?_
  refine s_getfield rfl (cn rfl) c5 rfl ?_
  refine s_iconst rfl (cn rfl) ?_
  refine s_isub rfl (cn rfl) ?_
  refine s_puti rfl (cn rfl) rfl rr_set_eq rfl ?_
  refine s_aload_n rfl (cn rfl) rfl ?_
  refine s_getfield rfl (cn rfl) rr_set_eq rfl ?_
  refine s_lconst rfl (cn rfl) 1 (by decide) ?_
  refine s_putl rfl (cn rfl) rfl c32 rfl ?_
  refine s_iconst rfl (cn rfl) ?_
  refine s_istore_n rfl (ch rfl) ?_
  have lp23 : ∀ p : Nat, p ≤ 4 → ∀ (l3 : Option Value) (h' : Nat → Option rr_E) (A2 : Nat → Int) (X : Nat → Nat → Int) (c28 : h' 28 = some (ST28 0 ((n - 1 : Nat) : Int) ((2 ^ al n - 2 : Nat) : Int) oc bs bt bb)) (c32 : h' 32 = some (.inr (3, [.long (jj 1), .ref 33, .ref 34, .int (ii x0), .int (ii y0)]))) (c33 : h' 33 = some (.inl (1, 4, .inr (.inl (fun k => jj (A2 k)))))) (cx : ∀ w, w < 3 → h' (36 + w) = some (.inl (1, 4, .inr (.inl (fun k => jj (X w k)))))) (hf : fr [28, 32, 33, 36 + 0, 36 + 1, 36 + 2] h h') (hA : ∀ k, k < p → A2 k = A0 (v (al n)) k) (hX : ∀ w, w < 3 → ∀ k, k < p → X w k = W0 w k), K 23 [some (.ref 28), some (.ref 5), some (.int (ii (p : Int))), l3] [] (N, S, h') := by
    refine dn (fun p hp ih23 => ?_)
    intro l3 h' A2 X c28 c32 c33 cx hf hA hX
    have c5 := (hf 5 (by simp)).trans c5o
    have c6 := (hf 6 (by simp)).trans c6o
    have c35 := (hf 35 (by simp)).trans c35o
    refine hK _ _ _ _ ?_
    refine s_iload_n rfl (cn rfl) rfl ?_
    refine s_iconst rfl (cn rfl) ?_
    refine s_icmp_ge rfl (cn rfl) (cn rfl) ⟨by omega, by omega⟩ ⟨by omega, by omega⟩ (fun q25 => ?_) (fun q25 => ?_)
    · refine s_aload_n rfl (cn rfl) rfl ?_
      refine s_lconst rfl (cn rfl) 0 (by decide) ?_
      refine s_putl rfl (cn rfl) rfl c28 rfl ?_
      refine s_return rfl ?_
      exact ⟨rfl, _, A2, X, rfl, fr_s (by simp) hf, rr_set_eq, c32, c33, fun k hk => (rr_set_ne (by omega)).trans (cx k hk), fun k hk => hA k (by omega), fun k hk j hj => hX k hk j (by omega)⟩
    · refine s_aload_n rfl (cn rfl) rfl ?_
      refine s_getfield rfl (cn rfl) c28 rfl ?_
      refine s_getfield rfl (cn rfl) c32 rfl ?_
      refine s_iload_n rfl (cn rfl) rfl ?_
      refine s_iload_n rfl (cn rfl) rfl ?_
      refine s_if_ne rfl (cn rfl) (cn rfl) ⟨by omega, by omega⟩ (fun q31 => ?_) (fun q31 => ?_)
      · refine s_lconst rfl (cn rfl) 0 (by decide) ?_
        refine s_lastore rfl (cn rfl) _ rfl c33 (by omega) (by decide) ?_
        refine s_iconst rfl (cn rfl) ?_
        refine s_istore_n rfl (ch rfl) ?_
        have lp43 : ∀ w : Nat, w ≤ 3 → ∀ (h' : Nat → Option rr_E) (X : Nat → Nat → Int) (c28 : h' 28 = some (ST28 0 ((n - 1 : Nat) : Int) ((2 ^ al n - 2 : Nat) : Int) oc bs bt bb)) (c32 : h' 32 = some (.inr (3, [.long (jj 1), .ref 33, .ref 34, .int (ii x0), .int (ii y0)]))) (c33 : h' 33 = some (.inl (1, 4, .inr (.inl (fun k => jj (fu A2 p (A0 (v (al n)) p) k)))))) (cx : ∀ w, w < 3 → h' (36 + w) = some (.inl (1, 4, .inr (.inl (fun k => jj (X w k)))))) (hf : fr [28, 32, 33, 36 + 0, 36 + 1, 36 + 2] h h') (hX : ∀ k, k < 3 → ∀ j, j < p → X k j = W0 k j) (hY : ∀ k, k < w → X k p = W0 k p), K 43 [some (.ref 28), some (.ref 5), some (.int (ii (p : Int))), some (.int (ii (w : Int)))] [] (N, S, h') := by
          refine dn (fun w hw ih43 => ?_)
          intro h' X c28 c32 c33 cx hf hX hY
          have c5 := (hf 5 (by simp)).trans c5o
          have c6 := (hf 6 (by simp)).trans c6o
          have c35 := (hf 35 (by simp)).trans c35o
          have cxw := fun (hw3 : w < 3) => cx w hw3
          refine hK _ _ _ _ ?_
          refine s_iload_n rfl (cn rfl) rfl ?_
          refine s_iconst rfl (cn rfl) ?_
          refine s_icmp_ge rfl (cn rfl) (cn rfl) ⟨by omega, by omega⟩ ⟨by omega, by omega⟩ (fun q45 => ?_) (fun q45 => ?_)
          · refine s_iinc rfl (cn rfl) rfl ?_
            refine s_goto rfl (ch rfl) ?_
            exact ih23 (by omega) _ _ _ X c28 c32 c33 cx hf (fun k hk => by
                by_cases e : k = p
                · subst e; exact fu_s
                · rw [fu_n e]; exact hA k (by omega)) (fun k hk j hj => by
                by_cases e : j = p
                · subst e; exact hY k (by omega)
                · exact hX k hk j (by omega))
          · refine s_aload_n rfl (cn rfl) rfl ?_
            refine s_getfield rfl (cn rfl) c28 rfl ?_
            refine s_iload_n rfl (cn rfl) rfl ?_
            refine s_aaload rfl (cn rfl) _ rfl c35 (by omega) (by decide) ((if_pos (show w < 3 by omega)).trans rfl) ?_
            refine s_iload_n rfl (cn rfl) rfl ?_
            refine s_iload_n rfl (cn rfl) rfl ?_
            refine s_if_ne rfl (cn rfl) (cn rfl) ⟨by omega, by omega⟩ (fun q52 => ?_) (fun q52 => ?_)
            · refine s_iload_n rfl (cn rfl) rfl ?_
              refine s_iload_n rfl (cn rfl) rfl ?_
              refine s_iconst rfl (cn rfl) ?_
              refine s_iadd rfl (cn rfl) ?_
              refine s_icmp_ne rfl (cn rfl) (cn rfl) ⟨by omega, by omega⟩ ⟨by omega, by omega⟩ (fun q59 => ?_) (fun q59 => ?_)
              · have WEQ : W0 w p = 0 := (if_neg (by omega)).trans (if_neg (by omega))
                refine s_lconst rfl (cn rfl) 0 (by decide) ?_
                refine s_lastore rfl (cn rfl) _ rfl (cxw (by omega)) (by omega) (by decide) ?_
                refine s_iinc rfl (cn rfl) rfl ?_
                refine s_goto rfl (ch rfl) ?_
                exact ih43 (by omega) _ (rw1 X w (fu (X w) p (W0 w p))) ((rr_set_ne (by omega)).trans c28) ((rr_set_ne (by omega)).trans c32) ((rr_set_ne (by omega)).trans c33) (fun k hk => by
                    by_cases e : k = w
                    · subst e; rw [rw1_s]; exact ar_l rr_set_eq (by rw [WEQ])
                    · rw [rw1_n e, rr_set_ne (by omega)]; exact cx k hk) (fr_s (List.mem_cons_of_mem _ (List.mem_cons_of_mem _ (List.mem_cons_of_mem _ (mem3 (by omega))))) hf) (fun k hk j hj => by
                    by_cases e : k = w
                    · subst e; rw [rw1_s, fu_n (by omega)]; exact hX k hk j hj
                    · rw [rw1_n e]; exact hX k hk j hj) (fun k hk => by
                    by_cases e : k = w
                    · subst e; rw [rw1_s, fu_s]
                    · rw [rw1_n e]; exact hY k (by omega))
              · have WEQ : W0 w p = 1 := (if_neg (by omega)).trans (if_pos (by omega))
                refine s_lconst rfl (cn rfl) 1 (by decide) ?_
                refine s_goto rfl (cn rfl) ?_
                refine s_lastore rfl (cn rfl) _ rfl (cxw (by omega)) (by omega) (by decide) ?_
                refine s_iinc rfl (cn rfl) rfl ?_
                refine s_goto rfl (ch rfl) ?_
                exact ih43 (by omega) _ (rw1 X w (fu (X w) p (W0 w p))) ((rr_set_ne (by omega)).trans c28) ((rr_set_ne (by omega)).trans c32) ((rr_set_ne (by omega)).trans c33) (fun k hk => by
                    by_cases e : k = w
                    · subst e; rw [rw1_s]; exact ar_l rr_set_eq (by rw [WEQ])
                    · rw [rw1_n e, rr_set_ne (by omega)]; exact cx k hk) (fr_s (List.mem_cons_of_mem _ (List.mem_cons_of_mem _ (List.mem_cons_of_mem _ (mem3 (by omega))))) hf) (fun k hk j hj => by
                    by_cases e : k = w
                    · subst e; rw [rw1_s, fu_n (by omega)]; exact hX k hk j hj
                    · rw [rw1_n e]; exact hX k hk j hj) (fun k hk => by
                    by_cases e : k = w
                    · subst e; rw [rw1_s, fu_s]
                    · rw [rw1_n e]; exact hY k (by omega))
            · have WEQ : W0 w p = -1 := if_pos (by omega)
              refine s_ldc2_w rfl (cn rfl) ?_
              refine s_goto rfl (cn rfl) ?_
              refine s_lastore rfl (cn rfl) _ rfl (cxw (by omega)) (by omega) (by decide) ?_
              refine s_iinc rfl (cn rfl) rfl ?_
              refine s_goto rfl (ch rfl) ?_
              exact ih43 (by omega) _ (rw1 X w (fu (X w) p (W0 w p))) ((rr_set_ne (by omega)).trans c28) ((rr_set_ne (by omega)).trans c32) ((rr_set_ne (by omega)).trans c33) (fun k hk => by
                  by_cases e : k = w
                  · subst e; rw [rw1_s]; exact ar_l rr_set_eq (by rw [WEQ])
                  · rw [rw1_n e, rr_set_ne (by omega)]; exact cx k hk) (fr_s (List.mem_cons_of_mem _ (List.mem_cons_of_mem _ (List.mem_cons_of_mem _ (mem3 (by omega))))) hf) (fun k hk j hj => by
                  by_cases e : k = w
                  · subst e; rw [rw1_s, fu_n (by omega)]; exact hX k hk j hj
                  · rw [rw1_n e]; exact hX k hk j hj) (fun k hk => by
                  by_cases e : k = w
                  · subst e; rw [rw1_s, fu_s]
                  · rw [rw1_n e]; exact hY k (by omega))
        exact lp43 0 (by omega) _ X c28 c32 (ar_l rr_set_eq (by first | rw [show A0 (v (al n)) p = v (al n) from if_pos (by omega)] | rw [show A0 (v (al n)) p = 0 from if_neg (by omega)])) (fun k hk => (rr_set_ne (by omega)).trans (cx k hk)) (fr_s (by simp) hf) (fun k hk j hj => hX k hk j hj) (fun k q => absurd q (by omega))
      · refine s_aload_n rfl (cn rfl) rfl ?_
        refine s_getfield rfl (cn rfl) c5 rfl ?_
        refine s_aload_n rfl (cn rfl) rfl ?_
        refine s_virt rfl (cn rfl) rfl rfl c5 rfl (u_all_5 hn c5) ?_
        rintro _ _ ⟨rfl, rfl⟩
        refine s_iaload rfl (cn rfl) _ rfl c6 rfl (by omega) (by decide) rfl ?_
        refine s_i2l rfl (cn rfl) ⟨by omega, by omega⟩ ?_
        refine s_goto rfl (cn rfl) ?_
        refine s_lastore rfl (cn rfl) _ rfl c33 (by omega) (by decide) ?_
        refine s_iconst rfl (cn rfl) ?_
        refine s_istore_n rfl (ch rfl) ?_
        have lp43 : ∀ w : Nat, w ≤ 3 → ∀ (h' : Nat → Option rr_E) (X : Nat → Nat → Int) (c28 : h' 28 = some (ST28 0 ((n - 1 : Nat) : Int) ((2 ^ al n - 2 : Nat) : Int) oc bs bt bb)) (c32 : h' 32 = some (.inr (3, [.long (jj 1), .ref 33, .ref 34, .int (ii x0), .int (ii y0)]))) (c33 : h' 33 = some (.inl (1, 4, .inr (.inl (fun k => jj (fu A2 p (A0 (v (al n)) p) k)))))) (cx : ∀ w, w < 3 → h' (36 + w) = some (.inl (1, 4, .inr (.inl (fun k => jj (X w k)))))) (hf : fr [28, 32, 33, 36 + 0, 36 + 1, 36 + 2] h h') (hX : ∀ k, k < 3 → ∀ j, j < p → X k j = W0 k j) (hY : ∀ k, k < w → X k p = W0 k p), K 43 [some (.ref 28), some (.ref 5), some (.int (ii (p : Int))), some (.int (ii (w : Int)))] [] (N, S, h') := by
          refine dn (fun w hw ih43 => ?_)
          intro h' X c28 c32 c33 cx hf hX hY
          have c5 := (hf 5 (by simp)).trans c5o
          have c6 := (hf 6 (by simp)).trans c6o
          have c35 := (hf 35 (by simp)).trans c35o
          have cxw := fun (hw3 : w < 3) => cx w hw3
          refine hK _ _ _ _ ?_
          refine s_iload_n rfl (cn rfl) rfl ?_
          refine s_iconst rfl (cn rfl) ?_
          refine s_icmp_ge rfl (cn rfl) (cn rfl) ⟨by omega, by omega⟩ ⟨by omega, by omega⟩ (fun q45 => ?_) (fun q45 => ?_)
          · refine s_iinc rfl (cn rfl) rfl ?_
            refine s_goto rfl (ch rfl) ?_
            exact ih23 (by omega) _ _ _ X c28 c32 c33 cx hf (fun k hk => by
                by_cases e : k = p
                · subst e; exact fu_s
                · rw [fu_n e]; exact hA k (by omega)) (fun k hk j hj => by
                by_cases e : j = p
                · subst e; exact hY k (by omega)
                · exact hX k hk j (by omega))
          · refine s_aload_n rfl (cn rfl) rfl ?_
            refine s_getfield rfl (cn rfl) c28 rfl ?_
            refine s_iload_n rfl (cn rfl) rfl ?_
            refine s_aaload rfl (cn rfl) _ rfl c35 (by omega) (by decide) ((if_pos (show w < 3 by omega)).trans rfl) ?_
            refine s_iload_n rfl (cn rfl) rfl ?_
            refine s_iload_n rfl (cn rfl) rfl ?_
            refine s_if_ne rfl (cn rfl) (cn rfl) ⟨by omega, by omega⟩ (fun q52 => ?_) (fun q52 => ?_)
            · refine s_iload_n rfl (cn rfl) rfl ?_
              refine s_iload_n rfl (cn rfl) rfl ?_
              refine s_iconst rfl (cn rfl) ?_
              refine s_iadd rfl (cn rfl) ?_
              refine s_icmp_ne rfl (cn rfl) (cn rfl) ⟨by omega, by omega⟩ ⟨by omega, by omega⟩ (fun q59 => ?_) (fun q59 => ?_)
              · have WEQ : W0 w p = 0 := (if_neg (by omega)).trans (if_neg (by omega))
                refine s_lconst rfl (cn rfl) 0 (by decide) ?_
                refine s_lastore rfl (cn rfl) _ rfl (cxw (by omega)) (by omega) (by decide) ?_
                refine s_iinc rfl (cn rfl) rfl ?_
                refine s_goto rfl (ch rfl) ?_
                exact ih43 (by omega) _ (rw1 X w (fu (X w) p (W0 w p))) ((rr_set_ne (by omega)).trans c28) ((rr_set_ne (by omega)).trans c32) ((rr_set_ne (by omega)).trans c33) (fun k hk => by
                    by_cases e : k = w
                    · subst e; rw [rw1_s]; exact ar_l rr_set_eq (by rw [WEQ])
                    · rw [rw1_n e, rr_set_ne (by omega)]; exact cx k hk) (fr_s (List.mem_cons_of_mem _ (List.mem_cons_of_mem _ (List.mem_cons_of_mem _ (mem3 (by omega))))) hf) (fun k hk j hj => by
                    by_cases e : k = w
                    · subst e; rw [rw1_s, fu_n (by omega)]; exact hX k hk j hj
                    · rw [rw1_n e]; exact hX k hk j hj) (fun k hk => by
                    by_cases e : k = w
                    · subst e; rw [rw1_s, fu_s]
                    · rw [rw1_n e]; exact hY k (by omega))
              · have WEQ : W0 w p = 1 := (if_neg (by omega)).trans (if_pos (by omega))
                refine s_lconst rfl (cn rfl) 1 (by decide) ?_
                refine s_goto rfl (cn rfl) ?_
                refine s_lastore rfl (cn rfl) _ rfl (cxw (by omega)) (by omega) (by decide) ?_
                refine s_iinc rfl (cn rfl) rfl ?_
                refine s_goto rfl (ch rfl) ?_
                exact ih43 (by omega) _ (rw1 X w (fu (X w) p (W0 w p))) ((rr_set_ne (by omega)).trans c28) ((rr_set_ne (by omega)).trans c32) ((rr_set_ne (by omega)).trans c33) (fun k hk => by
                    by_cases e : k = w
                    · subst e; rw [rw1_s]; exact ar_l rr_set_eq (by rw [WEQ])
                    · rw [rw1_n e, rr_set_ne (by omega)]; exact cx k hk) (fr_s (List.mem_cons_of_mem _ (List.mem_cons_of_mem _ (List.mem_cons_of_mem _ (mem3 (by omega))))) hf) (fun k hk j hj => by
                    by_cases e : k = w
                    · subst e; rw [rw1_s, fu_n (by omega)]; exact hX k hk j hj
                    · rw [rw1_n e]; exact hX k hk j hj) (fun k hk => by
                    by_cases e : k = w
                    · subst e; rw [rw1_s, fu_s]
                    · rw [rw1_n e]; exact hY k (by omega))
            · have WEQ : W0 w p = -1 := if_pos (by omega)
              refine s_ldc2_w rfl (cn rfl) ?_
              refine s_goto rfl (cn rfl) ?_
              refine s_lastore rfl (cn rfl) _ rfl (cxw (by omega)) (by omega) (by decide) ?_
              refine s_iinc rfl (cn rfl) rfl ?_
              refine s_goto rfl (ch rfl) ?_
              exact ih43 (by omega) _ (rw1 X w (fu (X w) p (W0 w p))) ((rr_set_ne (by omega)).trans c28) ((rr_set_ne (by omega)).trans c32) ((rr_set_ne (by omega)).trans c33) (fun k hk => by
                  by_cases e : k = w
                  · subst e; rw [rw1_s]; exact ar_l rr_set_eq (by rw [WEQ])
                  · rw [rw1_n e, rr_set_ne (by omega)]; exact cx k hk) (fr_s (List.mem_cons_of_mem _ (List.mem_cons_of_mem _ (List.mem_cons_of_mem _ (mem3 (by omega))))) hf) (fun k hk j hj => by
                  by_cases e : k = w
                  · subst e; rw [rw1_s, fu_n (by omega)]; exact hX k hk j hj
                  · rw [rw1_n e]; exact hX k hk j hj) (fun k hk => by
                  by_cases e : k = w
                  · subst e; rw [rw1_s, fu_s]
                  · rw [rw1_n e]; exact hY k (by omega))
        exact lp43 0 (by omega) _ X c28 c32 (ar_l rr_set_eq (by first | rw [show A0 (v (al n)) p = v (al n) from if_pos (by omega)] | rw [show A0 (v (al n)) p = 0 from if_neg (by omega)])) (fun k hk => (rr_set_ne (by omega)).trans (cx k hk)) (fr_s (by simp) hf) (fun k hk j hj => hX k hk j hj) (fun k q => absurd q (by omega))
  exact lp23 0 (by omega) _ _ A W (by rw [← eop, ← ewc]; rfl) rr_set_eq c33 (fun k hk => (rr_set_ne (by omega)).trans ((rr_set_ne (by omega)).trans ((rr_set_ne (by omega)).trans ((rr_set_ne (by omega)).trans (cw k hk))))) (fr_s (by simp) (fr_s (by simp) (fr_s (by simp) (fr_s (by simp) fr_r)))) (fun k q => absurd q (by omega)) (fun w hw k q => absurd q (by omega))
