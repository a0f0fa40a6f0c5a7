/-! The stages of the class, from the first to the last. -/
theorem v_oall_13 {d N S n : Nat} {v : Nat → Int} {h : Nat → Option rr_E} (hn : 2 ≤ n ∧ n ≤ 4) (c1 : h 1 = some (.inr (0, [.int (ii (n : Int)), .ref 2]))) (c2 : h 2 = some (.inl (0, 16, .inl (fun k => ii (v k))))) (hv : ∀ k, -999 ≤ v k ∧ v k ≤ 999) (h0 : v 0 = 0) (c1000000 : h 1000000 = some (.inl (8, 5, .inl (fun j => rr_two.getD j 0)))) (c1000001 : h 1000001 = some (.inl (8, 25, .inl (fun j => rr_three.getD j 0)))) (c1000002 : h 1000002 = some (.inl (8, 205, .inl (fun j => rr_four.getD j 0)))) {ku wc op oc bt bb : Int} {s : Nat} (c13 : h 13 = some (ST13 ku wc op oc (s : Int) bt bb)) (hbb : bb = 0) : rr_Calls (d + 2) j_Balanced_offerAll [.ref 1, .ref 13] (N, S, h) (fun r R => r = none ∧ ∃ (h' : Nat → Option rr_E) (s' : Nat) (t' b' : Int), R = (N, S, h') ∧ fr [13] h h' ∧ h' 13 = some (ST13 ku wc op oc (s' : Int) t' b') ∧ BP (PT n v) s' t' b' ∧ (1 ≤ b' ∧ b' ≤ 5) ∧ (-10000 ≤ t' ∧ t' ≤ 10000)) := by
  have hk : n = 2 ∨ n = 3 ∨ n = 4 := by omega
  rcases hk with rfl | rfl | rfl
  · exact v_offerAll_13_2 c1 c2 hv h0 c1000000 c13 hbb
  · exact v_offerAll_13_3 c1 c2 hv h0 c1000001 c13 hbb
  · exact v_offerAll_13_4 c1 c2 hv h0 c1000002 c13 hbb
/-- the stages stand, the fair shares are measured -/
def SV13 (h : Nat → Option rr_E) (n : Nat) (v : Nat → Int) : Prop := ∃ (ku wc : Nat) (F : Nat → Nat) (tt tb tf lp lq A E q0 a0 c0 h9 : Nat → Int) (be oc : Int) (bs : Nat) (bt bb : Int) (W : Nat → Nat → Int), h 13 = some (ST13 (ku : Int) (wc : Int) ((0 : Nat) : Int) oc (bs : Int) bt bb) ∧ h 14 = some (.inl (1, 15, .inr (.inl (fun k => jj (tt k))))) ∧ h 15 = some (.inl (1, 15, .inr (.inl (fun k => jj (tb k))))) ∧ h 16 = some (.inl (0, 15, .inl (fun k => ii (tf k)))) ∧ h 17 = some (.inr (3, [.long (jj be), .ref 18, .ref 19, .int (ii (n : Int)), .int (ii ((al n : Nat) : Int))])) ∧ h 18 = some (.inl (1, 4, .inr (.inl (fun k => jj (A k))))) ∧ h 19 = some (.inl (1, 16, .inr (.inl (fun k => jj (E k))))) ∧ h 20 = some WA13 ∧ (∀ w, w < 3 → h (21 + w) = some (.inl (1, 4, .inr (.inl (fun k => jj (W w k)))))) ∧ h 24 = some (.inl (0, 14, .inl (fun k => ii (q0 k)))) ∧ h 25 = some (.inl (1, 14, .inr (.inl (fun k => jj (a0 k))))) ∧ h 26 = some (.inl (1, 14, .inr (.inl (fun k => jj (c0 k))))) ∧ h 27 = some (.inl (1, 14, .inr (.inl (fun k => jj (h9 k))))) ∧ SQ n v ku 0 wc F tt tb tf lp lq be A W ∧ 1 ≤ ku ∧ ∀ g, 1 ≤ g → g < al n → E g = v g * be - st_sh 4 g A
theorem v_solve_13 {d N S n : Nat} {v : Nat → Int} {h : Nat → Option rr_E} (hn : 2 ≤ n ∧ n ≤ 4) (c1 : h 1 = some (.inr (0, [.int (ii (n : Int)), .ref 2]))) (c2 : h 2 = some (.inl (0, 16, .inl (fun k => ii (v k))))) (hv : ∀ k, -999 ≤ v k ∧ v k ≤ 999) (h0 : v 0 = 0) (c1000000 : h 1000000 = some (.inl (8, 5, .inl (fun j => rr_two.getD j 0)))) (c1000001 : h 1000001 = some (.inl (8, 25, .inl (fun j => rr_three.getD j 0)))) (c1000002 : h 1000002 = some (.inl (8, 205, .inl (fun j => rr_four.getD j 0)))) {ku wc op oc bt bb : Int} {bs : Nat} (c13 : h 13 = some (ST13 ku wc op oc (bs : Int) bt bb)) {be x0 y0 : Int} {tt tb tf A E q0 a0 c0 h9 : Nat → Int} {W : Nat → Nat → Int} (c14 : h 14 = some (.inl (1, 15, .inr (.inl (fun k => jj (tt k)))))) (c15 : h 15 = some (.inl (1, 15, .inr (.inl (fun k => jj (tb k)))))) (c16 : h 16 = some (.inl (0, 15, .inl (fun k => ii (tf k))))) (c17 : h 17 = some (.inr (3, [.long (jj be), .ref 18, .ref 19, .int (ii x0), .int (ii y0)]))) (c18 : h 18 = some (.inl (1, 4, .inr (.inl (fun k => jj (A k)))))) (c19 : h 19 = some (.inl (1, 16, .inr (.inl (fun k => jj (E k)))))) (c20 : h 20 = some WA13) (cw : (∀ w, w < 3 → h (21 + w) = some (.inl (1, 4, .inr (.inl (fun k => jj (W w k))))))) (c24 : h 24 = some (.inl (0, 14, .inl (fun k => ii (q0 k))))) (c25 : h 25 = some (.inl (1, 14, .inr (.inl (fun k => jj (a0 k)))))) (c26 : h 26 = some (.inl (1, 14, .inr (.inl (fun k => jj (c0 k)))))) (c27 : h 27 = some (.inl (1, 14, .inr (.inl (fun k => jj (h9 k)))))) : rr_Calls (d + 5) j_Stages_solve [.ref 13, .ref 1] (N, S, h) (fun r R => r = none ∧ ∃ h', R = (N, S, h') ∧ fr [13, 14, 15, 16, 17, 18, 19, 24, 25, 26, 27, 21 + 0, 21 + 1, 21 + 2] h h' ∧ SV13 h' n v) := by
  refine rr_meth (C := K_Stages_solve) (hd := h_Stages_solve) (mx := 3) rfl rfl (fun K hK => ?_)
  have hA := al_b hn
  have o1 := c1
  have o2 := c2
  refine hK _ _ _ _ ?_
  refine s_aload_n rfl (cn rfl) rfl ?_
  refine s_aload_n rfl (cn rfl) rfl ?_
  refine s_virt rfl (cn rfl) rfl rfl c13 rfl (v_begin_13 hn c1 c2 hv c13 c20 cw c17 c18) ?_
  rintro _ _ ⟨rfl, h1, A1, W1, rfl, hf1, c13, c17, c18, cw1, hA1, hW1⟩
  have c14 := (hf1 14 (by simp)).trans c14
  have c15 := (hf1 15 (by simp)).trans c15
  have c16 := (hf1 16 (by simp)).trans c16
  have c19 := (hf1 19 (by simp)).trans c19
  have c20 := (hf1 20 (by simp)).trans c20
  have c24 := (hf1 24 (by simp)).trans c24
  have c25 := (hf1 25 (by simp)).trans c25
  have c26 := (hf1 26 (by simp)).trans c26
  have c27 := (hf1 27 (by simp)).trans c27
  have c1 := (hf1 1 (by simp)).trans c1
  have c2 := (hf1 2 (by simp)).trans c2
  have c1000000 := (hf1 1000000 (by simp)).trans c1000000
  have c1000001 := (hf1 1000001 (by simp)).trans c1000001
  have c1000002 := (hf1 1000002 (by simp)).trans c1000002
  have hF : fr [13, 14, 15, 16, 17, 18, 19, 24, 25, 26, 27, 21 + 0, 21 + 1, 21 + 2] h h1 := fr_w hf1 (by simp)
  refine s_aload_n rfl (cn rfl) rfl ?_
  refine s_aload_n rfl (cn rfl) rfl ?_
  refine s_stat rfl (cn rfl) rfl rfl rfl (v_oall_13 (s := bs) hn c1 c2 hv h0 c1000000 c1000001 c1000002 c13 rfl) ?_
  rintro _ _ ⟨rfl, h2, s2, t2, b2, rfl, hf2, c13, hB2, hb2, ht2⟩
  have c17 := (hf2 17 (by simp)).trans c17
  have c18 := (hf2 18 (by simp)).trans c18
  have c14 := (hf2 14 (by simp)).trans c14
  have c15 := (hf2 15 (by simp)).trans c15
  have c16 := (hf2 16 (by simp)).trans c16
  have c19 := (hf2 19 (by simp)).trans c19
  have c20 := (hf2 20 (by simp)).trans c20
  have c24 := (hf2 24 (by simp)).trans c24
  have c25 := (hf2 25 (by simp)).trans c25
  have c26 := (hf2 26 (by simp)).trans c26
  have c27 := (hf2 27 (by simp)).trans c27
  have c1 := (hf2 1 (by simp)).trans c1
  have c2 := (hf2 2 (by simp)).trans c2
  have c1000000 := (hf2 1000000 (by simp)).trans c1000000
  have c1000001 := (hf2 1000001 (by simp)).trans c1000001
  have c1000002 := (hf2 1000002 (by simp)).trans c1000002
  have cw2 : ∀ w, w < 3 → h2 (21 + w) = some (.inl (1, 4, .inr (.inl (fun k => jj (W1 w k))))) := fun k hk => (hf2 (21 + k) (by simp; omega)).trans (cw1 k hk)
  have hF := fr_t hF (fr_w (l := [13, 14, 15, 16, 17, 18, 19, 24, 25, 26, 27, 21 + 0, 21 + 1, 21 + 2]) hf2 (by simp)) (by simp)
  have fxe : ∀ k, ¬ fxs (fun _ => 0) 1 k := fun k ⟨i, i1, i2, _⟩ => by omega
  obtain ⟨f1, f2, f3, f4, f5, f6, f7, f8, f9, f10, f11⟩ := first (lp := fun _ => 0) (lq := fun _ => 0) hn fxe hB2 hb2 ht2
  have hC1 := CI_0 (lp := fun _ => 0) (lq := fun _ => 0) (fx := fxs (fun _ => 0) 1) hn hv fxe hA1 hW1
  refine s_aload_n rfl (cn rfl) rfl ?_
  refine s_virt rfl (cn rfl) rfl rfl c13 rfl (v_close_13 (ku := 0) (op := 2 ^ al n - 2) (s := s2) (by decide) (by exact c13) c14 c15 c16 c17 f2 f3 f1 f4 (by omega)) ?_
  rintro _ _ ⟨rfl, h3, rfl, hf3, c13, c14, c15, c16⟩
  have c17 := (hf3 17 (by simp)).trans c17
  have c18 := (hf3 18 (by simp)).trans c18
  have c19 := (hf3 19 (by simp)).trans c19
  have c20 := (hf3 20 (by simp)).trans c20
  have c24 := (hf3 24 (by simp)).trans c24
  have c25 := (hf3 25 (by simp)).trans c25
  have c26 := (hf3 26 (by simp)).trans c26
  have c27 := (hf3 27 (by simp)).trans c27
  have c1 := (hf3 1 (by simp)).trans c1
  have c2 := (hf3 2 (by simp)).trans c2
  have c1000000 := (hf3 1000000 (by simp)).trans c1000000
  have c1000001 := (hf3 1000001 (by simp)).trans c1000001
  have c1000002 := (hf3 1000002 (by simp)).trans c1000002
  have cw3 : ∀ w, w < 3 → h3 (21 + w) = some (.inl (1, 4, .inr (.inl (fun k => jj (W1 w k))))) := fun k hk => (hf3 (21 + k) (by simp; omega)).trans (cw2 k hk)
  have hF := fr_t hF (fr_w (l := [13, 14, 15, 16, 17, 18, 19, 24, 25, 26, 27, 21 + 0, 21 + 1, 21 + 2]) hf3 (by simp)) (by simp)
  obtain ⟨hC2, agr, u, x, hx1, hx2⟩ := tie_pre hC1 f9 f11
  refine s_aload_n rfl (cn rfl) rfl ?_
  refine s_aload_n rfl (cn rfl) rfl ?_
  refine s_virt rfl (cn rfl) rfl rfl c13 rfl (v_tie_13 (n := n) (fx := fxs (fun _ => 0) 1) (lp := lpu (fun _ => 0) s2 (lw t2 (b2 * 1) 0)) (lq := lpu (fun _ => 0) s2 (lw t2 (b2 * 1) 1)) (u := u) (x := x) hn c1 c2 hv (show 0 + 1 < 15 by decide) (show n - 1 ≤ 3 by omega) (lt_bits (fun g hb => by have := (f11 g hb).2.1; rw [← al_pow] at this; omega)) c13 c20 cw3 c14 c15 c17 c18 hC2 (fun k hb => ⟨⟨(f11 k hb).1, (f11 k hb).2.1⟩, (f11 k hb).2.2, by rw [lpu_y hb, fu_s], by rw [lpu_y hb, fu_s]⟩) (fun k _ _ q => absurd q (fxe k)) (by rw [fu_s]; exact ⟨f5, f7⟩) (by rw [fu_s]; exact f8) hx1 hx2 (fun z z1 _ => z1)) ?_
  rintro _ _ ⟨rfl, h4, be4, A4, m4, W4, rfl, hf4, c13, c17, c18, cw4, hC4, hm4, hz4, hr4⟩
  have c14 := (hf4 14 (by simp)).trans c14
  have c15 := (hf4 15 (by simp)).trans c15
  have c16 := (hf4 16 (by simp)).trans c16
  have c19 := (hf4 19 (by simp)).trans c19
  have c20 := (hf4 20 (by simp)).trans c20
  have c24 := (hf4 24 (by simp)).trans c24
  have c25 := (hf4 25 (by simp)).trans c25
  have c26 := (hf4 26 (by simp)).trans c26
  have c27 := (hf4 27 (by simp)).trans c27
  have c1 := (hf4 1 (by simp)).trans c1
  have c2 := (hf4 2 (by simp)).trans c2
  have c1000000 := (hf4 1000000 (by simp)).trans c1000000
  have c1000001 := (hf4 1000001 (by simp)).trans c1000001
  have c1000002 := (hf4 1000002 (by simp)).trans c1000002
  have hF := fr_t hF (fr_w (l := [13, 14, 15, 16, 17, 18, 19, 24, 25, 26, 27, 21 + 0, 21 + 1, 21 + 2]) hf4 (by simp)) (by simp)
  have sq0 : SQ n v 0 (2 ^ al n - 2) (n - 1) (fun _ => 0) tt tb tf (fun _ => 0) (fun _ => 0) 1 A1 W1 := ⟨fun j j1 j2 => absurd j1 (by omega), fun j j1 j2 => absurd j1 (by omega), fun g => ⟨fun q => by
      have g16 := tb_hi (Nat.lt_of_lt_of_le (op_lt n (by omega)) (by decide)) q
      have := (op_all n (by omega) hn.1 g g16).mp q
      exact ⟨this.1, this.2, fxe g⟩, fun q => (op_all n (by omega) hn.1 g (by have := q.2.1; rw [← al_pow] at this; omega)).mpr ⟨q.1, q.2.1⟩⟩, op_lt n (by omega), hC1, fun k _ _ q => absurd q (fxe k), by have := cno_all n (by omega) hn.1; omega, fun z z1 _ => z1⟩
  have sq1 := SQ_s hn sq0 f5 f6 f9 f10 f11 hC4 hr4
  have hm2 : m4 ≤ 2 := by
    apply Classical.byContradiction
    intro q
    obtain ⟨l, _, _, ⟨k0, k1, k2⟩, _⟩ := f10
    have hk1 : 1 ≤ k0 ∧ k0 < al n := ⟨k1.1, k1.2.1⟩
    refine W0_ch n (by omega) k0 (by omega) ⟨hn.1, hk1.1, hk1.2⟩ (fun z hz => ?_)
    rw [← sh_cg (x := W1 z) (fun p hp => hW1 z (by omega) p hp)]
    exact hz4 (by omega) k0 k2 z hz
  refine s_iconst rfl (cn rfl) ?_
  refine s_istore_n rfl (ch rfl) ?_
  have lp13 : ∀ t : Nat, t ≤ 14 → ∀ (h' : Nat → Option rr_E) (ku op wc : Nat) (F : Nat → Nat) (tt tb tf lp lq A E q0 a0 c0 h9 : Nat → Int) (be oc : Int) (bs : Nat) (bt bb : Int) (W : Nat → Nat → Int) (hku : ku = t + 1) (hwc : wc ≤ 2) (c13 : h' 13 = some (ST13 (ku : Int) (wc : Int) (op : Int) oc (bs : Int) bt bb)) (c14 : h' 14 = some (.inl (1, 15, .inr (.inl (fun k => jj (tt k)))))) (c15 : h' 15 = some (.inl (1, 15, .inr (.inl (fun k => jj (tb k)))))) (c16 : h' 16 = some (.inl (0, 15, .inl (fun k => ii (tf k))))) (c17 : h' 17 = some (.inr (3, [.long (jj be), .ref 18, .ref 19, .int (ii x0), .int (ii y0)]))) (c18 : h' 18 = some (.inl (1, 4, .inr (.inl (fun k => jj (A k)))))) (c19 : h' 19 = some (.inl (1, 16, .inr (.inl (fun k => jj (E k)))))) (c20 : h' 20 = some WA13) (cw : (∀ w, w < 3 → h' (21 + w) = some (.inl (1, 4, .inr (.inl (fun k => jj (W w k))))))) (c24 : h' 24 = some (.inl (0, 14, .inl (fun k => ii (q0 k))))) (c25 : h' 25 = some (.inl (1, 14, .inr (.inl (fun k => jj (a0 k)))))) (c26 : h' 26 = some (.inl (1, 14, .inr (.inl (fun k => jj (c0 k)))))) (c27 : h' 27 = some (.inl (1, 14, .inr (.inl (fun k => jj (h9 k)))))) (hF : fr [13, 14, 15, 16, 17, 18, 19, 24, 25, 26, 27, 21 + 0, 21 + 1, 21 + 2] h h') (sq : SQ n v ku op wc F tt tb tf lp lq be A W) (hbt : -80000000000000000 ≤ bt ∧ bt ≤ 80000000000000000), K 13 [some (.ref 13), some (.ref 1), some (.int (ii (t : Int)))] [] (N, S, h') := by
    refine dn (fun t ht ih13 => ?_)
    intro h' ku op wc F tt tb tf lp lq A E q0 a0 c0 h9 be oc bs bt bb W hku hwc c13 c14 c15 c16 c17 c18 c19 c20 cw c24 c25 c26 c27 hF sq hbt
    have c1 := (hF 1 (by simp)).trans o1
    have c2 := (hF 2 (by simp)).trans o2
    obtain ⟨z1, z2, z3, z4, z5, z6, z7, z8⟩ := sq
    have sq : SQ n v ku op wc F tt tb tf lp lq be A W := ⟨z1, z2, z3, z4, z5, z6, z7, z8⟩
    have cnn := cno_nn op
    refine hK _ _ _ _ ?_
    refine s_iload_n rfl (cn rfl) rfl ?_
    refine s_bipush rfl (cn rfl) (by decide) ?_
    refine s_icmp_ge rfl (cn rfl) (cn rfl) ⟨by omega, by omega⟩ ⟨by omega, by omega⟩ (fun q15 => ?_) (fun q15 => ?_)
    · exfalso; omega
    · refine s_aload_n rfl (cn rfl) rfl ?_
      refine s_getfield rfl (cn rfl) c13 rfl ?_
      refine s_if_eq rfl (cn rfl) (cn rfl) ⟨by omega, by omega⟩ (fun q18 => ?_) (fun q18 => ?_)
      · refine s_aload_n rfl (cn rfl) rfl ?_
        refine s_getfield rfl (cn rfl) c13 rfl ?_
        refine s_aload_n rfl (cn rfl) rfl ?_
        refine s_virt rfl (cn rfl) rfl rfl c17 rfl (u_measure_17 hn c1 c2 hv c17 c18 c19) ?_
        rintro _ _ ⟨rfl, k7, rfl, c17, c19, hf7⟩
        have c13 := (hf7 13 (by simp)).trans c13
        have c14 := (hf7 14 (by simp)).trans c14
        have c15 := (hf7 15 (by simp)).trans c15
        have c16 := (hf7 16 (by simp)).trans c16
        have c18 := (hf7 18 (by simp)).trans c18
        have c20 := (hf7 20 (by simp)).trans c20
        have c24 := (hf7 24 (by simp)).trans c24
        have c25 := (hf7 25 (by simp)).trans c25
        have c26 := (hf7 26 (by simp)).trans c26
        have c27 := (hf7 27 (by simp)).trans c27
        have cw := fun k hk => (hf7 (21 + k) (by simp; omega)).trans (cw k hk)
        have hF := fr_t hF (fr_w (l := [13, 14, 15, 16, 17, 18, 19, 24, 25, 26, 27, 21 + 0, 21 + 1, 21 + 2]) hf7 (by simp)) (by simp)
        obtain rfl : op = 0 := by omega
        refine s_return rfl ?_
        exact ⟨rfl, _, rfl, hF, ku, wc, F, tt, tb, tf, lp, lq, A, _, _, _, _, _, be, oc, bs, bt, bb, W, c13, c14, c15, c16, c17, c18, c19, c20, cw, c24, c25, c26, c27, sq, by omega, fun g g1 g2 => if_pos ⟨g1, g2⟩⟩
      · obtain ⟨gx, hgx⟩ : ∃ g, op.testBit g = true := by
          apply Classical.byContradiction
          intro q
          exact q18 (by have : op = 0 := Nat.eq_of_testBit_eq (fun i => by rw [Nat.zero_testBit]; cases hq : op.testBit i
                                                                           · rfl
                                                                           · exact absurd ⟨i, hq⟩ q)
                        rw [this]; rfl)
        have cn1 := cno_pos (by have := ((z3 gx).mp hgx).2.1; rw [← al_pow] at this; have := al_b hn; omega) hgx
        refine s_aload_n rfl (cn rfl) rfl ?_
        refine s_aload_n rfl (cn rfl) rfl ?_
        refine s_virt rfl (cn rfl) rfl rfl c13 rfl (v_gather_13 hn c1 c2 hv (show wc ≤ 3 by omega) z4 c13 c20 cw c17 c18 c24 c25 c26 c27) ?_
        rintro _ _ ⟨rfl, k1, oc1, pt, xa, xc, xh, rfl, hg1, c13, ⟨q1, c24, hq1⟩, c25, c26, c27, ho14, hgt⟩
        have c14 := (hg1 14 (by simp)).trans c14
        have c15 := (hg1 15 (by simp)).trans c15
        have c16 := (hg1 16 (by simp)).trans c16
        have c17 := (hg1 17 (by simp)).trans c17
        have c18 := (hg1 18 (by simp)).trans c18
        have c19 := (hg1 19 (by simp)).trans c19
        have c20 := (hg1 20 (by simp)).trans c20
        have c1 := (hg1 1 (by simp)).trans c1
        have c2 := (hg1 2 (by simp)).trans c2
        have cw := fun k hk => (hg1 (21 + k) (by simp; omega)).trans (cw k hk)
        have hF := fr_t hF (fr_w (l := [13, 14, 15, 16, 17, 18, 19, 24, 25, 26, 27, 21 + 0, 21 + 1, 21 + 2]) hg1 (by simp)) (by simp)
        have rb := row_b hv z5 hwc (by have := al_b hn; omega) hgt
        refine s_aload_n rfl (cn rfl) rfl ?_
        refine s_virt rfl (cn rfl) rfl rfl c13 rfl (v_singles_13 (P0 := fun _ _ _ => False) (s := bs) ho14 c13 c24 c25 c26 c27 hq1 rb.2.2.2.2.2.2 BP_0 rfl (by omega) rb.1 (fun k hk => ⟨by have := rb.2.1 k hk; omega, by have := rb.2.1 k hk; omega⟩) (fun k hk => ⟨by have := rb.2.2.1 k hk; omega, by have := rb.2.2.1 k hk; omega⟩)) ?_
        rintro _ _ ⟨rfl, k2, s2, t2, b2, rfl, hg2, c13, hB2, hd2⟩
        have c14 := (hg2 14 (by simp)).trans c14
        have c15 := (hg2 15 (by simp)).trans c15
        have c16 := (hg2 16 (by simp)).trans c16
        have c17 := (hg2 17 (by simp)).trans c17
        have c18 := (hg2 18 (by simp)).trans c18
        have c19 := (hg2 19 (by simp)).trans c19
        have c20 := (hg2 20 (by simp)).trans c20
        have c1 := (hg2 1 (by simp)).trans c1
        have c2 := (hg2 2 (by simp)).trans c2
        have c24 := (hg2 24 (by simp)).trans c24
        have c25 := (hg2 25 (by simp)).trans c25
        have c26 := (hg2 26 (by simp)).trans c26
        have c27 := (hg2 27 (by simp)).trans c27
        have cw := fun k hk => (hg2 (21 + k) (by simp; omega)).trans (cw k hk)
        have hF := fr_t hF (fr_w (l := [13, 14, 15, 16, 17, 18, 19, 24, 25, 26, 27, 21 + 0, 21 + 1, 21 + 2]) hg2 (by simp)) (by simp)
        refine s_aload_n rfl (cn rfl) rfl ?_
        refine s_virt rfl (cn rfl) rfl rfl c13 rfl (v_pairs_13 ho14 c13 c24 c25 c26 c27 hq1 rb.2.2.2.2.2.2 hB2 rb.1 (by omega) rb.2.1 rb.2.2.1 (by omega) rb.2.2.2.2.2.1) ?_
        rintro _ _ ⟨rfl, k3, s3, t3, b3, rfl, hg3, c13, hB3, hd3⟩
        have c14 := (hg3 14 (by simp)).trans c14
        have c15 := (hg3 15 (by simp)).trans c15
        have c16 := (hg3 16 (by simp)).trans c16
        have c17 := (hg3 17 (by simp)).trans c17
        have c18 := (hg3 18 (by simp)).trans c18
        have c19 := (hg3 19 (by simp)).trans c19
        have c20 := (hg3 20 (by simp)).trans c20
        have c1 := (hg3 1 (by simp)).trans c1
        have c2 := (hg3 2 (by simp)).trans c2
        have c24 := (hg3 24 (by simp)).trans c24
        have c25 := (hg3 25 (by simp)).trans c25
        have c26 := (hg3 26 (by simp)).trans c26
        have c27 := (hg3 27 (by simp)).trans c27
        have cw := fun k hk => (hg3 (21 + k) (by simp; omega)).trans (cw k hk)
        have hF := fr_t hF (fr_w (l := [13, 14, 15, 16, 17, 18, 19, 24, 25, 26, 27, 21 + 0, 21 + 1, 21 + 2]) hg3 (by simp)) (by simp)
        refine s_aload_n rfl (cn rfl) rfl ?_
        refine s_virt rfl (cn rfl) rfl rfl c13 rfl (v_triples_13 ho14 c13 c24 c25 c26 c27 hq1 rb.2.2.2.2.2.2 hB3 rb.1 hd3 rb.2.2.2.1 rb.2.2.2.2.1 (by omega)) ?_
        rintro _ _ ⟨rfl, k4, s4, t4, b4, rfl, hg4, c13, hB4, hd4⟩
        have c14 := (hg4 14 (by simp)).trans c14
        have c15 := (hg4 15 (by simp)).trans c15
        have c16 := (hg4 16 (by simp)).trans c16
        have c17 := (hg4 17 (by simp)).trans c17
        have c18 := (hg4 18 (by simp)).trans c18
        have c19 := (hg4 19 (by simp)).trans c19
        have c20 := (hg4 20 (by simp)).trans c20
        have c1 := (hg4 1 (by simp)).trans c1
        have c2 := (hg4 2 (by simp)).trans c2
        have c24 := (hg4 24 (by simp)).trans c24
        have c25 := (hg4 25 (by simp)).trans c25
        have c26 := (hg4 26 (by simp)).trans c26
        have c27 := (hg4 27 (by simp)).trans c27
        have cw := fun k hk => (hg4 (21 + k) (by simp; omega)).trans (cw k hk)
        have hF := fr_t hF (fr_w (l := [13, 14, 15, 16, 17, 18, 19, 24, 25, 26, 27, 21 + 0, 21 + 1, 21 + 2]) hg4 (by simp)) (by simp)
        obtain ⟨f0, f1, f2, f3, f4, f5, f6, f7, f8, f9, f10, f11⟩ := later hn hv z5 hwc hgt z3 ⟨gx, hgx⟩ hB4 hd4.1
        refine s_aload_n rfl (cn rfl) rfl ?_
        refine s_virt rfl (cn rfl) rfl rfl c13 rfl (v_close_13 (ku := ku) (op := op) (s := s4) (by omega) (by exact c13) c14 c15 c16 c17 f2 f3 f1 f4 f0) ?_
        rintro _ _ ⟨rfl, k5, rfl, hg5, c13, c14, c15, c16⟩
        have c17 := (hg5 17 (by simp)).trans c17
        have c18 := (hg5 18 (by simp)).trans c18
        have c19 := (hg5 19 (by simp)).trans c19
        have c20 := (hg5 20 (by simp)).trans c20
        have c1 := (hg5 1 (by simp)).trans c1
        have c2 := (hg5 2 (by simp)).trans c2
        have c24 := (hg5 24 (by simp)).trans c24
        have c25 := (hg5 25 (by simp)).trans c25
        have c26 := (hg5 26 (by simp)).trans c26
        have c27 := (hg5 27 (by simp)).trans c27
        have cw := fun k hk => (hg5 (21 + k) (by simp; omega)).trans (cw k hk)
        have hF := fr_t hF (fr_w (l := [13, 14, 15, 16, 17, 18, 19, 24, 25, 26, 27, 21 + 0, 21 + 1, 21 + 2]) hg5 (by simp)) (by simp)
        obtain ⟨hC2, agr, u, x, hx1, hx2⟩ := tie_pre z5 f9 f11
        refine s_aload_n rfl (cn rfl) rfl ?_
        refine s_aload_n rfl (cn rfl) rfl ?_
        refine s_virt rfl (cn rfl) rfl rfl c13 rfl (v_tie_13 (n := n) (fx := fxs F (ku + 1)) (lp := lpu lp s4 (lw t4 (b4 * be) 0)) (lq := lpu lq s4 (lw t4 (b4 * be) 1)) (u := u) (x := x) hn c1 c2 hv (show ku + 1 < 15 by omega) (show wc ≤ 3 by omega) (lt_bits (fun g hb => by have := (f11 g hb).2.1; rw [← al_pow] at this; have := al_b hn; omega)) c13 c20 cw c14 c15 c17 c18 hC2 (fun k hb => ⟨⟨(f11 k hb).1, (f11 k hb).2.1⟩, (f11 k hb).2.2, by rw [lpu_y hb, fu_s], by rw [lpu_y hb, fu_s]⟩) (fun k e1 e2 q => by have a := agr k q; rw [← a.2]; exact z6 k e1 e2 q) (by rw [fu_s]; exact ⟨f5, f7⟩) (by rw [fu_s]; exact f8) hx1 hx2 z8) ?_
        rintro _ _ ⟨rfl, k6, be6, A6, m6, W6, rfl, hg6, c13, c17, c18, cw, hC6, hm6, hz6, hr6⟩
        have c14 := (hg6 14 (by simp)).trans c14
        have c15 := (hg6 15 (by simp)).trans c15
        have c16 := (hg6 16 (by simp)).trans c16
        have c19 := (hg6 19 (by simp)).trans c19
        have c20 := (hg6 20 (by simp)).trans c20
        have c1 := (hg6 1 (by simp)).trans c1
        have c2 := (hg6 2 (by simp)).trans c2
        have c24 := (hg6 24 (by simp)).trans c24
        have c25 := (hg6 25 (by simp)).trans c25
        have c26 := (hg6 26 (by simp)).trans c26
        have c27 := (hg6 27 (by simp)).trans c27
        have hF := fr_t hF (fr_w (l := [13, 14, 15, 16, 17, 18, 19, 24, 25, 26, 27, 21 + 0, 21 + 1, 21 + 2]) hg6 (by simp)) (by simp)
        have sq6 := SQ_s hn sq f5 f6 f9 f10 f11 hC6 hr6
        refine s_iinc rfl (cn rfl) rfl ?_
        refine s_goto rfl (ch rfl) ?_
        exact ih13 (by omega) k6 _ _ m6 _ _ _ _ _ _ _ _ _ _ _ _ _ _ s4 t4 b4 _ (by omega) (by omega) c13 c14 c15 c16 c17 c18 c19 c20 cw c24 c25 c26 c27 hF sq6 hd4.2
  exact lp13 0 (by omega) h4 _ _ m4 _ _ _ _ _ _ _ _ _ _ _ _ _ _ s2 t2 b2 _ rfl hm2 c13 c14 c15 c16 c17 c18 c19 c20 cw4 c24 c25 c26 c27 hF sq1 (by omega)
theorem v_oall_28 {d N S n : Nat} {v : Nat → Int} {h : Nat → Option rr_E} (hn : 2 ≤ n ∧ n ≤ 4) (c5 : h 5 = some (.inr (0, [.int (ii (n : Int)), .ref 6]))) (c6 : h 6 = some (.inl (0, 16, .inl (fun k => ii (v k))))) (hv : ∀ k, -999 ≤ v k ∧ v k ≤ 999) (h0 : v 0 = 0) (c1000000 : h 1000000 = some (.inl (8, 5, .inl (fun j => rr_two.getD j 0)))) (c1000001 : h 1000001 = some (.inl (8, 25, .inl (fun j => rr_three.getD j 0)))) (c1000002 : h 1000002 = some (.inl (8, 205, .inl (fun j => rr_four.getD j 0)))) {ku wc op oc bt bb : Int} {s : Nat} (c28 : h 28 = some (ST28 ku wc op oc (s : Int) bt bb)) (hbb : bb = 0) : rr_Calls (d + 2) j_Balanced_offerAll [.ref 5, .ref 28] (N, S, h) (fun r R => r = none ∧ ∃ (h' : Nat → Option rr_E) (s' : Nat) (t' b' : Int), R = (N, S, h') ∧ fr [28] h h' ∧ h' 28 = some (ST28 ku wc op oc (s' : Int) t' b') ∧ BP (PT n v) s' t' b' ∧ (1 ≤ b' ∧ b' ≤ 5) ∧ (-10000 ≤ t' ∧ t' ≤ 10000)) := by
  have hk : n = 2 ∨ n = 3 ∨ n = 4 := by omega
  rcases hk with rfl | rfl | rfl
  · exact v_offerAll_28_2 c5 c6 hv h0 c1000000 c28 hbb
  · exact v_offerAll_28_3 c5 c6 hv h0 c1000001 c28 hbb
  · exact v_offerAll_28_4 c5 c6 hv h0 c1000002 c28 hbb
/-- the stages stand, the fair shares are measured -/
def SV28 (h : Nat → Option rr_E) (n : Nat) (v : Nat → Int) : Prop := ∃ (ku wc : Nat) (F : Nat → Nat) (tt tb tf lp lq A E q0 a0 c0 h9 : Nat → Int) (be oc : Int) (bs : Nat) (bt bb : Int) (W : Nat → Nat → Int), h 28 = some (ST28 (ku : Int) (wc : Int) ((0 : Nat) : Int) oc (bs : Int) bt bb) ∧ h 29 = some (.inl (1, 15, .inr (.inl (fun k => jj (tt k))))) ∧ h 30 = some (.inl (1, 15, .inr (.inl (fun k => jj (tb k))))) ∧ h 31 = some (.inl (0, 15, .inl (fun k => ii (tf k)))) ∧ h 32 = some (.inr (3, [.long (jj be), .ref 33, .ref 34, .int (ii (n : Int)), .int (ii ((al n : Nat) : Int))])) ∧ h 33 = some (.inl (1, 4, .inr (.inl (fun k => jj (A k))))) ∧ h 34 = some (.inl (1, 16, .inr (.inl (fun k => jj (E k))))) ∧ h 35 = some WA28 ∧ (∀ w, w < 3 → h (36 + w) = some (.inl (1, 4, .inr (.inl (fun k => jj (W w k)))))) ∧ h 39 = some (.inl (0, 14, .inl (fun k => ii (q0 k)))) ∧ h 40 = some (.inl (1, 14, .inr (.inl (fun k => jj (a0 k))))) ∧ h 41 = some (.inl (1, 14, .inr (.inl (fun k => jj (c0 k))))) ∧ h 42 = some (.inl (1, 14, .inr (.inl (fun k => jj (h9 k))))) ∧ SQ n v ku 0 wc F tt tb tf lp lq be A W ∧ 1 ≤ ku ∧ ∀ g, 1 ≤ g → g < al n → E g = v g * be - st_sh 4 g A
theorem v_solve_28 {d N S n : Nat} {v : Nat → Int} {h : Nat → Option rr_E} (hn : 2 ≤ n ∧ n ≤ 4) (c5 : h 5 = some (.inr (0, [.int (ii (n : Int)), .ref 6]))) (c6 : h 6 = some (.inl (0, 16, .inl (fun k => ii (v k))))) (hv : ∀ k, -999 ≤ v k ∧ v k ≤ 999) (h0 : v 0 = 0) (c1000000 : h 1000000 = some (.inl (8, 5, .inl (fun j => rr_two.getD j 0)))) (c1000001 : h 1000001 = some (.inl (8, 25, .inl (fun j => rr_three.getD j 0)))) (c1000002 : h 1000002 = some (.inl (8, 205, .inl (fun j => rr_four.getD j 0)))) {ku wc op oc bt bb : Int} {bs : Nat} (c28 : h 28 = some (ST28 ku wc op oc (bs : Int) bt bb)) {be x0 y0 : Int} {tt tb tf A E q0 a0 c0 h9 : Nat → Int} {W : Nat → Nat → Int} (c29 : h 29 = some (.inl (1, 15, .inr (.inl (fun k => jj (tt k)))))) (c30 : h 30 = some (.inl (1, 15, .inr (.inl (fun k => jj (tb k)))))) (c31 : h 31 = some (.inl (0, 15, .inl (fun k => ii (tf k))))) (c32 : h 32 = some (.inr (3, [.long (jj be), .ref 33, .ref 34, .int (ii x0), .int (ii y0)]))) (c33 : h 33 = some (.inl (1, 4, .inr (.inl (fun k => jj (A k)))))) (c34 : h 34 = some (.inl (1, 16, .inr (.inl (fun k => jj (E k)))))) (c35 : h 35 = some WA28) (cw : (∀ w, w < 3 → h (36 + w) = some (.inl (1, 4, .inr (.inl (fun k => jj (W w k))))))) (c39 : h 39 = some (.inl (0, 14, .inl (fun k => ii (q0 k))))) (c40 : h 40 = some (.inl (1, 14, .inr (.inl (fun k => jj (a0 k)))))) (c41 : h 41 = some (.inl (1, 14, .inr (.inl (fun k => jj (c0 k)))))) (c42 : h 42 = some (.inl (1, 14, .inr (.inl (fun k => jj (h9 k)))))) : rr_Calls (d + 5) j_Stages_solve [.ref 28, .ref 5] (N, S, h) (fun r R => r = none ∧ ∃ h', R = (N, S, h') ∧ fr [28, 29, 30, 31, 32, 33, 34, 39, 40, 41, 42, 36 + 0, 36 + 1, 36 + 2] h h' ∧ SV28 h' n v) := by
  refine rr_meth (C := K_Stages_solve) (hd := h_Stages_solve) (mx := 3) rfl rfl (fun K hK => ?_)
  have hA := al_b hn
  have o5 := c5
  have o6 := c6
  refine hK _ _ _ _ ?_
  refine s_aload_n rfl (cn rfl) rfl ?_
  refine s_aload_n rfl (cn rfl) rfl ?_
  refine s_virt rfl (cn rfl) rfl rfl c28 rfl (v_begin_28 hn c5 c6 hv c28 c35 cw c32 c33) ?_
  rintro _ _ ⟨rfl, h1, A1, W1, rfl, hf1, c28, c32, c33, cw1, hA1, hW1⟩
  have c29 := (hf1 29 (by simp)).trans c29
  have c30 := (hf1 30 (by simp)).trans c30
  have c31 := (hf1 31 (by simp)).trans c31
  have c34 := (hf1 34 (by simp)).trans c34
  have c35 := (hf1 35 (by simp)).trans c35
  have c39 := (hf1 39 (by simp)).trans c39
  have c40 := (hf1 40 (by simp)).trans c40
  have c41 := (hf1 41 (by simp)).trans c41
  have c42 := (hf1 42 (by simp)).trans c42
  have c5 := (hf1 5 (by simp)).trans c5
  have c6 := (hf1 6 (by simp)).trans c6
  have c1000000 := (hf1 1000000 (by simp)).trans c1000000
  have c1000001 := (hf1 1000001 (by simp)).trans c1000001
  have c1000002 := (hf1 1000002 (by simp)).trans c1000002
  have hF : fr [28, 29, 30, 31, 32, 33, 34, 39, 40, 41, 42, 36 + 0, 36 + 1, 36 + 2] h h1 := fr_w hf1 (by simp)
  refine s_aload_n rfl (cn rfl) rfl ?_
  refine s_aload_n rfl (cn rfl) rfl ?_
  refine s_stat rfl (cn rfl) rfl rfl rfl (v_oall_28 (s := bs) hn c5 c6 hv h0 c1000000 c1000001 c1000002 c28 rfl) ?_
  rintro _ _ ⟨rfl, h2, s2, t2, b2, rfl, hf2, c28, hB2, hb2, ht2⟩
  have c32 := (hf2 32 (by simp)).trans c32
  have c33 := (hf2 33 (by simp)).trans c33
  have c29 := (hf2 29 (by simp)).trans c29
  have c30 := (hf2 30 (by simp)).trans c30
  have c31 := (hf2 31 (by simp)).trans c31
  have c34 := (hf2 34 (by simp)).trans c34
  have c35 := (hf2 35 (by simp)).trans c35
  have c39 := (hf2 39 (by simp)).trans c39
  have c40 := (hf2 40 (by simp)).trans c40
  have c41 := (hf2 41 (by simp)).trans c41
  have c42 := (hf2 42 (by simp)).trans c42
  have c5 := (hf2 5 (by simp)).trans c5
  have c6 := (hf2 6 (by simp)).trans c6
  have c1000000 := (hf2 1000000 (by simp)).trans c1000000
  have c1000001 := (hf2 1000001 (by simp)).trans c1000001
  have c1000002 := (hf2 1000002 (by simp)).trans c1000002
  have cw2 : ∀ w, w < 3 → h2 (36 + w) = some (.inl (1, 4, .inr (.inl (fun k => jj (W1 w k))))) := fun k hk => (hf2 (36 + k) (by simp; omega)).trans (cw1 k hk)
  have hF := fr_t hF (fr_w (l := [28, 29, 30, 31, 32, 33, 34, 39, 40, 41, 42, 36 + 0, 36 + 1, 36 + 2]) hf2 (by simp)) (by simp)
  have fxe : ∀ k, ¬ fxs (fun _ => 0) 1 k := fun k ⟨i, i1, i2, _⟩ => by omega
  obtain ⟨f1, f2, f3, f4, f5, f6, f7, f8, f9, f10, f11⟩ := first (lp := fun _ => 0) (lq := fun _ => 0) hn fxe hB2 hb2 ht2
  have hC1 := CI_0 (lp := fun _ => 0) (lq := fun _ => 0) (fx := fxs (fun _ => 0) 1) hn hv fxe hA1 hW1
  refine s_aload_n rfl (cn rfl) rfl ?_
  refine s_virt rfl (cn rfl) rfl rfl c28 rfl (v_close_28 (ku := 0) (op := 2 ^ al n - 2) (s := s2) (by decide) (by exact c28) c29 c30 c31 c32 f2 f3 f1 f4 (by omega)) ?_
  rintro _ _ ⟨rfl, h3, rfl, hf3, c28, c29, c30, c31⟩
  have c32 := (hf3 32 (by simp)).trans c32
  have c33 := (hf3 33 (by simp)).trans c33
  have c34 := (hf3 34 (by simp)).trans c34
  have c35 := (hf3 35 (by simp)).trans c35
  have c39 := (hf3 39 (by simp)).trans c39
  have c40 := (hf3 40 (by simp)).trans c40
  have c41 := (hf3 41 (by simp)).trans c41
  have c42 := (hf3 42 (by simp)).trans c42
  have c5 := (hf3 5 (by simp)).trans c5
  have c6 := (hf3 6 (by simp)).trans c6
  have c1000000 := (hf3 1000000 (by simp)).trans c1000000
  have c1000001 := (hf3 1000001 (by simp)).trans c1000001
  have c1000002 := (hf3 1000002 (by simp)).trans c1000002
  have cw3 : ∀ w, w < 3 → h3 (36 + w) = some (.inl (1, 4, .inr (.inl (fun k => jj (W1 w k))))) := fun k hk => (hf3 (36 + k) (by simp; omega)).trans (cw2 k hk)
  have hF := fr_t hF (fr_w (l := [28, 29, 30, 31, 32, 33, 34, 39, 40, 41, 42, 36 + 0, 36 + 1, 36 + 2]) hf3 (by simp)) (by simp)
  obtain ⟨hC2, agr, u, x, hx1, hx2⟩ := tie_pre hC1 f9 f11
  refine s_aload_n rfl (cn rfl) rfl ?_
  refine s_aload_n rfl (cn rfl) rfl ?_
  refine s_virt rfl (cn rfl) rfl rfl c28 rfl (v_tie_28 (n := n) (fx := fxs (fun _ => 0) 1) (lp := lpu (fun _ => 0) s2 (lw t2 (b2 * 1) 0)) (lq := lpu (fun _ => 0) s2 (lw t2 (b2 * 1) 1)) (u := u) (x := x) hn c5 c6 hv (show 0 + 1 < 15 by decide) (show n - 1 ≤ 3 by omega) (lt_bits (fun g hb => by have := (f11 g hb).2.1; rw [← al_pow] at this; omega)) c28 c35 cw3 c29 c30 c32 c33 hC2 (fun k hb => ⟨⟨(f11 k hb).1, (f11 k hb).2.1⟩, (f11 k hb).2.2, by rw [lpu_y hb, fu_s], by rw [lpu_y hb, fu_s]⟩) (fun k _ _ q => absurd q (fxe k)) (by rw [fu_s]; exact ⟨f5, f7⟩) (by rw [fu_s]; exact f8) hx1 hx2 (fun z z1 _ => z1)) ?_
  rintro _ _ ⟨rfl, h4, be4, A4, m4, W4, rfl, hf4, c28, c32, c33, cw4, hC4, hm4, hz4, hr4⟩
  have c29 := (hf4 29 (by simp)).trans c29
  have c30 := (hf4 30 (by simp)).trans c30
  have c31 := (hf4 31 (by simp)).trans c31
  have c34 := (hf4 34 (by simp)).trans c34
  have c35 := (hf4 35 (by simp)).trans c35
  have c39 := (hf4 39 (by simp)).trans c39
  have c40 := (hf4 40 (by simp)).trans c40
  have c41 := (hf4 41 (by simp)).trans c41
  have c42 := (hf4 42 (by simp)).trans c42
  have c5 := (hf4 5 (by simp)).trans c5
  have c6 := (hf4 6 (by simp)).trans c6
  have c1000000 := (hf4 1000000 (by simp)).trans c1000000
  have c1000001 := (hf4 1000001 (by simp)).trans c1000001
  have c1000002 := (hf4 1000002 (by simp)).trans c1000002
  have hF := fr_t hF (fr_w (l := [28, 29, 30, 31, 32, 33, 34, 39, 40, 41, 42, 36 + 0, 36 + 1, 36 + 2]) hf4 (by simp)) (by simp)
  have sq0 : SQ n v 0 (2 ^ al n - 2) (n - 1) (fun _ => 0) tt tb tf (fun _ => 0) (fun _ => 0) 1 A1 W1 := ⟨fun j j1 j2 => absurd j1 (by omega), fun j j1 j2 => absurd j1 (by omega), fun g => ⟨fun q => by
      have g16 := tb_hi (Nat.lt_of_lt_of_le (op_lt n (by omega)) (by decide)) q
      have := (op_all n (by omega) hn.1 g g16).mp q
      exact ⟨this.1, this.2, fxe g⟩, fun q => (op_all n (by omega) hn.1 g (by have := q.2.1; rw [← al_pow] at this; omega)).mpr ⟨q.1, q.2.1⟩⟩, op_lt n (by omega), hC1, fun k _ _ q => absurd q (fxe k), by have := cno_all n (by omega) hn.1; omega, fun z z1 _ => z1⟩
  have sq1 := SQ_s hn sq0 f5 f6 f9 f10 f11 hC4 hr4
  have hm2 : m4 ≤ 2 := by
    apply Classical.byContradiction
    intro q
    obtain ⟨l, _, _, ⟨k0, k1, k2⟩, _⟩ := f10
    have hk1 : 1 ≤ k0 ∧ k0 < al n := ⟨k1.1, k1.2.1⟩
    refine W0_ch n (by omega) k0 (by omega) ⟨hn.1, hk1.1, hk1.2⟩ (fun z hz => ?_)
    rw [← sh_cg (x := W1 z) (fun p hp => hW1 z (by omega) p hp)]
    exact hz4 (by omega) k0 k2 z hz
  refine s_iconst rfl (cn rfl) ?_
  refine s_istore_n rfl (ch rfl) ?_
  have lp13 : ∀ t : Nat, t ≤ 14 → ∀ (h' : Nat → Option rr_E) (ku op wc : Nat) (F : Nat → Nat) (tt tb tf lp lq A E q0 a0 c0 h9 : Nat → Int) (be oc : Int) (bs : Nat) (bt bb : Int) (W : Nat → Nat → Int) (hku : ku = t + 1) (hwc : wc ≤ 2) (c28 : h' 28 = some (ST28 (ku : Int) (wc : Int) (op : Int) oc (bs : Int) bt bb)) (c29 : h' 29 = some (.inl (1, 15, .inr (.inl (fun k => jj (tt k)))))) (c30 : h' 30 = some (.inl (1, 15, .inr (.inl (fun k => jj (tb k)))))) (c31 : h' 31 = some (.inl (0, 15, .inl (fun k => ii (tf k))))) (c32 : h' 32 = some (.inr (3, [.long (jj be), .ref 33, .ref 34, .int (ii x0), .int (ii y0)]))) (c33 : h' 33 = some (.inl (1, 4, .inr (.inl (fun k => jj (A k)))))) (c34 : h' 34 = some (.inl (1, 16, .inr (.inl (fun k => jj (E k)))))) (c35 : h' 35 = some WA28) (cw : (∀ w, w < 3 → h' (36 + w) = some (.inl (1, 4, .inr (.inl (fun k => jj (W w k))))))) (c39 : h' 39 = some (.inl (0, 14, .inl (fun k => ii (q0 k))))) (c40 : h' 40 = some (.inl (1, 14, .inr (.inl (fun k => jj (a0 k)))))) (c41 : h' 41 = some (.inl (1, 14, .inr (.inl (fun k => jj (c0 k)))))) (c42 : h' 42 = some (.inl (1, 14, .inr (.inl (fun k => jj (h9 k)))))) (hF : fr [28, 29, 30, 31, 32, 33, 34, 39, 40, 41, 42, 36 + 0, 36 + 1, 36 + 2] h h') (sq : SQ n v ku op wc F tt tb tf lp lq be A W) (hbt : -80000000000000000 ≤ bt ∧ bt ≤ 80000000000000000), K 13 [some (.ref 28), some (.ref 5), some (.int (ii (t : Int)))] [] (N, S, h') := by
    refine dn (fun t ht ih13 => ?_)
    intro h' ku op wc F tt tb tf lp lq A E q0 a0 c0 h9 be oc bs bt bb W hku hwc c28 c29 c30 c31 c32 c33 c34 c35 cw c39 c40 c41 c42 hF sq hbt
    have c5 := (hF 5 (by simp)).trans o5
    have c6 := (hF 6 (by simp)).trans o6
    obtain ⟨z1, z2, z3, z4, z5, z6, z7, z8⟩ := sq
    have sq : SQ n v ku op wc F tt tb tf lp lq be A W := ⟨z1, z2, z3, z4, z5, z6, z7, z8⟩
    have cnn := cno_nn op
    refine hK _ _ _ _ ?_
    refine s_iload_n rfl (cn rfl) rfl ?_
    refine s_bipush rfl (cn rfl) (by decide) ?_
    refine s_icmp_ge rfl (cn rfl) (cn rfl) ⟨by omega, by omega⟩ ⟨by omega, by omega⟩ (fun q15 => ?_) (fun q15 => ?_)
    · exfalso; omega
    · refine s_aload_n rfl (cn rfl) rfl ?_
      refine s_getfield rfl (cn rfl) c28 rfl ?_
      refine s_if_eq rfl (cn rfl) (cn rfl) ⟨by omega, by omega⟩ (fun q18 => ?_) (fun q18 => ?_)
      · refine s_aload_n rfl (cn rfl) rfl ?_
        refine s_getfield rfl (cn rfl) c28 rfl ?_
        refine s_aload_n rfl (cn rfl) rfl ?_
        refine s_virt rfl (cn rfl) rfl rfl c32 rfl (u_measure_32 hn c5 c6 hv c32 c33 c34) ?_
        rintro _ _ ⟨rfl, k7, rfl, c32, c34, hf7⟩
        have c28 := (hf7 28 (by simp)).trans c28
        have c29 := (hf7 29 (by simp)).trans c29
        have c30 := (hf7 30 (by simp)).trans c30
        have c31 := (hf7 31 (by simp)).trans c31
        have c33 := (hf7 33 (by simp)).trans c33
        have c35 := (hf7 35 (by simp)).trans c35
        have c39 := (hf7 39 (by simp)).trans c39
        have c40 := (hf7 40 (by simp)).trans c40
        have c41 := (hf7 41 (by simp)).trans c41
        have c42 := (hf7 42 (by simp)).trans c42
        have cw := fun k hk => (hf7 (36 + k) (by simp; omega)).trans (cw k hk)
        have hF := fr_t hF (fr_w (l := [28, 29, 30, 31, 32, 33, 34, 39, 40, 41, 42, 36 + 0, 36 + 1, 36 + 2]) hf7 (by simp)) (by simp)
        obtain rfl : op = 0 := by omega
        refine s_return rfl ?_
        exact ⟨rfl, _, rfl, hF, ku, wc, F, tt, tb, tf, lp, lq, A, _, _, _, _, _, be, oc, bs, bt, bb, W, c28, c29, c30, c31, c32, c33, c34, c35, cw, c39, c40, c41, c42, sq, by omega, fun g g1 g2 => if_pos ⟨g1, g2⟩⟩
      · obtain ⟨gx, hgx⟩ : ∃ g, op.testBit g = true := by
          apply Classical.byContradiction
          intro q
          exact q18 (by have : op = 0 := Nat.eq_of_testBit_eq (fun i => by rw [Nat.zero_testBit]; cases hq : op.testBit i
                                                                           · rfl
                                                                           · exact absurd ⟨i, hq⟩ q)
                        rw [this]; rfl)
        have cn1 := cno_pos (by have := ((z3 gx).mp hgx).2.1; rw [← al_pow] at this; have := al_b hn; omega) hgx
        refine s_aload_n rfl (cn rfl) rfl ?_
        refine s_aload_n rfl (cn rfl) rfl ?_
        refine s_virt rfl (cn rfl) rfl rfl c28 rfl (v_gather_28 hn c5 c6 hv (show wc ≤ 3 by omega) z4 c28 c35 cw c32 c33 c39 c40 c41 c42) ?_
        rintro _ _ ⟨rfl, k1, oc1, pt, xa, xc, xh, rfl, hg1, c28, ⟨q1, c39, hq1⟩, c40, c41, c42, ho14, hgt⟩
        have c29 := (hg1 29 (by simp)).trans c29
        have c30 := (hg1 30 (by simp)).trans c30
        have c31 := (hg1 31 (by simp)).trans c31
        have c32 := (hg1 32 (by simp)).trans c32
        have c33 := (hg1 33 (by simp)).trans c33
        have c34 := (hg1 34 (by simp)).trans c34
        have c35 := (hg1 35 (by simp)).trans c35
        have c5 := (hg1 5 (by simp)).trans c5
        have c6 := (hg1 6 (by simp)).trans c6
        have cw := fun k hk => (hg1 (36 + k) (by simp; omega)).trans (cw k hk)
        have hF := fr_t hF (fr_w (l := [28, 29, 30, 31, 32, 33, 34, 39, 40, 41, 42, 36 + 0, 36 + 1, 36 + 2]) hg1 (by simp)) (by simp)
        have rb := row_b hv z5 hwc (by have := al_b hn; omega) hgt
        refine s_aload_n rfl (cn rfl) rfl ?_
        refine s_virt rfl (cn rfl) rfl rfl c28 rfl (v_singles_28 (P0 := fun _ _ _ => False) (s := bs) ho14 c28 c39 c40 c41 c42 hq1 rb.2.2.2.2.2.2 BP_0 rfl (by omega) rb.1 (fun k hk => ⟨by have := rb.2.1 k hk; omega, by have := rb.2.1 k hk; omega⟩) (fun k hk => ⟨by have := rb.2.2.1 k hk; omega, by have := rb.2.2.1 k hk; omega⟩)) ?_
        rintro _ _ ⟨rfl, k2, s2, t2, b2, rfl, hg2, c28, hB2, hd2⟩
        have c29 := (hg2 29 (by simp)).trans c29
        have c30 := (hg2 30 (by simp)).trans c30
        have c31 := (hg2 31 (by simp)).trans c31
        have c32 := (hg2 32 (by simp)).trans c32
        have c33 := (hg2 33 (by simp)).trans c33
        have c34 := (hg2 34 (by simp)).trans c34
        have c35 := (hg2 35 (by simp)).trans c35
        have c5 := (hg2 5 (by simp)).trans c5
        have c6 := (hg2 6 (by simp)).trans c6
        have c39 := (hg2 39 (by simp)).trans c39
        have c40 := (hg2 40 (by simp)).trans c40
        have c41 := (hg2 41 (by simp)).trans c41
        have c42 := (hg2 42 (by simp)).trans c42
        have cw := fun k hk => (hg2 (36 + k) (by simp; omega)).trans (cw k hk)
        have hF := fr_t hF (fr_w (l := [28, 29, 30, 31, 32, 33, 34, 39, 40, 41, 42, 36 + 0, 36 + 1, 36 + 2]) hg2 (by simp)) (by simp)
        refine s_aload_n rfl (cn rfl) rfl ?_
        refine s_virt rfl (cn rfl) rfl rfl c28 rfl (v_pairs_28 ho14 c28 c39 c40 c41 c42 hq1 rb.2.2.2.2.2.2 hB2 rb.1 (by omega) rb.2.1 rb.2.2.1 (by omega) rb.2.2.2.2.2.1) ?_
        rintro _ _ ⟨rfl, k3, s3, t3, b3, rfl, hg3, c28, hB3, hd3⟩
        have c29 := (hg3 29 (by simp)).trans c29
        have c30 := (hg3 30 (by simp)).trans c30
        have c31 := (hg3 31 (by simp)).trans c31
        have c32 := (hg3 32 (by simp)).trans c32
        have c33 := (hg3 33 (by simp)).trans c33
        have c34 := (hg3 34 (by simp)).trans c34
        have c35 := (hg3 35 (by simp)).trans c35
        have c5 := (hg3 5 (by simp)).trans c5
        have c6 := (hg3 6 (by simp)).trans c6
        have c39 := (hg3 39 (by simp)).trans c39
        have c40 := (hg3 40 (by simp)).trans c40
        have c41 := (hg3 41 (by simp)).trans c41
        have c42 := (hg3 42 (by simp)).trans c42
        have cw := fun k hk => (hg3 (36 + k) (by simp; omega)).trans (cw k hk)
        have hF := fr_t hF (fr_w (l := [28, 29, 30, 31, 32, 33, 34, 39, 40, 41, 42, 36 + 0, 36 + 1, 36 + 2]) hg3 (by simp)) (by simp)
        refine s_aload_n rfl (cn rfl) rfl ?_
        refine s_virt rfl (cn rfl) rfl rfl c28 rfl (v_triples_28 ho14 c28 c39 c40 c41 c42 hq1 rb.2.2.2.2.2.2 hB3 rb.1 hd3 rb.2.2.2.1 rb.2.2.2.2.1 (by omega)) ?_
        rintro _ _ ⟨rfl, k4, s4, t4, b4, rfl, hg4, c28, hB4, hd4⟩
        have c29 := (hg4 29 (by simp)).trans c29
        have c30 := (hg4 30 (by simp)).trans c30
        have c31 := (hg4 31 (by simp)).trans c31
        have c32 := (hg4 32 (by simp)).trans c32
        have c33 := (hg4 33 (by simp)).trans c33
        have c34 := (hg4 34 (by simp)).trans c34
        have c35 := (hg4 35 (by simp)).trans c35
        have c5 := (hg4 5 (by simp)).trans c5
        have c6 := (hg4 6 (by simp)).trans c6
        have c39 := (hg4 39 (by simp)).trans c39
        have c40 := (hg4 40 (by simp)).trans c40
        have c41 := (hg4 41 (by simp)).trans c41
        have c42 := (hg4 42 (by simp)).trans c42
        have cw := fun k hk => (hg4 (36 + k) (by simp; omega)).trans (cw k hk)
        have hF := fr_t hF (fr_w (l := [28, 29, 30, 31, 32, 33, 34, 39, 40, 41, 42, 36 + 0, 36 + 1, 36 + 2]) hg4 (by simp)) (by simp)
        obtain ⟨f0, f1, f2, f3, f4, f5, f6, f7, f8, f9, f10, f11⟩ := later hn hv z5 hwc hgt z3 ⟨gx, hgx⟩ hB4 hd4.1
        refine s_aload_n rfl (cn rfl) rfl ?_
        refine s_virt rfl (cn rfl) rfl rfl c28 rfl (v_close_28 (ku := ku) (op := op) (s := s4) (by omega) (by exact c28) c29 c30 c31 c32 f2 f3 f1 f4 f0) ?_
        rintro _ _ ⟨rfl, k5, rfl, hg5, c28, c29, c30, c31⟩
        have c32 := (hg5 32 (by simp)).trans c32
        have c33 := (hg5 33 (by simp)).trans c33
        have c34 := (hg5 34 (by simp)).trans c34
        have c35 := (hg5 35 (by simp)).trans c35
        have c5 := (hg5 5 (by simp)).trans c5
        have c6 := (hg5 6 (by simp)).trans c6
        have c39 := (hg5 39 (by simp)).trans c39
        have c40 := (hg5 40 (by simp)).trans c40
        have c41 := (hg5 41 (by simp)).trans c41
        have c42 := (hg5 42 (by simp)).trans c42
        have cw := fun k hk => (hg5 (36 + k) (by simp; omega)).trans (cw k hk)
        have hF := fr_t hF (fr_w (l := [28, 29, 30, 31, 32, 33, 34, 39, 40, 41, 42, 36 + 0, 36 + 1, 36 + 2]) hg5 (by simp)) (by simp)
        obtain ⟨hC2, agr, u, x, hx1, hx2⟩ := tie_pre z5 f9 f11
        refine s_aload_n rfl (cn rfl) rfl ?_
        refine s_aload_n rfl (cn rfl) rfl ?_
        refine s_virt rfl (cn rfl) rfl rfl c28 rfl (v_tie_28 (n := n) (fx := fxs F (ku + 1)) (lp := lpu lp s4 (lw t4 (b4 * be) 0)) (lq := lpu lq s4 (lw t4 (b4 * be) 1)) (u := u) (x := x) hn c5 c6 hv (show ku + 1 < 15 by omega) (show wc ≤ 3 by omega) (lt_bits (fun g hb => by have := (f11 g hb).2.1; rw [← al_pow] at this; have := al_b hn; omega)) c28 c35 cw c29 c30 c32 c33 hC2 (fun k hb => ⟨⟨(f11 k hb).1, (f11 k hb).2.1⟩, (f11 k hb).2.2, by rw [lpu_y hb, fu_s], by rw [lpu_y hb, fu_s]⟩) (fun k e1 e2 q => by have a := agr k q; rw [← a.2]; exact z6 k e1 e2 q) (by rw [fu_s]; exact ⟨f5, f7⟩) (by rw [fu_s]; exact f8) hx1 hx2 z8) ?_
        rintro _ _ ⟨rfl, k6, be6, A6, m6, W6, rfl, hg6, c28, c32, c33, cw, hC6, hm6, hz6, hr6⟩
        have c29 := (hg6 29 (by simp)).trans c29
        have c30 := (hg6 30 (by simp)).trans c30
        have c31 := (hg6 31 (by simp)).trans c31
        have c34 := (hg6 34 (by simp)).trans c34
        have c35 := (hg6 35 (by simp)).trans c35
        have c5 := (hg6 5 (by simp)).trans c5
        have c6 := (hg6 6 (by simp)).trans c6
        have c39 := (hg6 39 (by simp)).trans c39
        have c40 := (hg6 40 (by simp)).trans c40
        have c41 := (hg6 41 (by simp)).trans c41
        have c42 := (hg6 42 (by simp)).trans c42
        have hF := fr_t hF (fr_w (l := [28, 29, 30, 31, 32, 33, 34, 39, 40, 41, 42, 36 + 0, 36 + 1, 36 + 2]) hg6 (by simp)) (by simp)
        have sq6 := SQ_s hn sq f5 f6 f9 f10 f11 hC6 hr6
        refine s_iinc rfl (cn rfl) rfl ?_
        refine s_goto rfl (ch rfl) ?_
        exact ih13 (by omega) k6 _ _ m6 _ _ _ _ _ _ _ _ _ _ _ _ _ _ s4 t4 b4 _ (by omega) (by omega) c28 c29 c30 c31 c32 c33 c34 c35 cw c39 c40 c41 c42 hF sq6 hd4.2
  exact lp13 0 (by omega) h4 _ _ m4 _ _ _ _ _ _ _ _ _ _ _ _ _ _ s2 t2 b2 _ rfl hm2 c28 c29 c30 c31 c32 c33 c34 c35 cw4 c39 c40 c41 c42 hF sq1 (by omega)
