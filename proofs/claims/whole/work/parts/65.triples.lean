/-! The stages of the class: triples; closing a stage. -/
theorem v_three_13 {d N S : Nat} {h : Nat → Option rr_E} {ku wc op bt bb : Int} {s oc : Nat} (hoc : oc ≤ 14) (c13 : h 13 = some (ST13 ku wc op (oc : Int) (s : Int) bt bb)) {q0 xa xc xh : Nat → Int} {pt : Nat → Nat} (c24 : h 24 = some (.inl (0, 14, .inl (fun k => ii (q0 k))))) (c25 : h 25 = some (.inl (1, 14, .inr (.inl (fun k => jj (xa k)))))) (c26 : h 26 = some (.inl (1, 14, .inr (.inl (fun k => jj (xc k)))))) (c27 : h 27 = some (.inl (1, 14, .inr (.inl (fun k => jj (xh k)))))) (hq : ∀ k, k < oc → q0 k = ((pt k : Nat) : Int)) (hp : ∀ k, k < oc → pt k < 15) {i j k : Nat} {f1 f2 f3 : Int} (hi : i < oc) (hj : j < oc) (hk : k < oc) (h1 : b6 ((f1 * xh i + f2 * xh j + f3 * xh k) * bb)) (h2 : b6 (bt * (f1 + f2 + f3))) (h3 : b6 bb) : rr_Calls (d + 2) j_Stages_offerThree [.ref 13, .int (ii (i : Int)), .int (ii (j : Int)), .int (ii (k : Int)), .long (jj f1), .long (jj f2), .long (jj f3)] (N, S, h) (fun r R => r = none ∧ ∃ (h' : Nat → Option rr_E) (s' : Nat) (t' b' : Int), R = (N, S, h') ∧ fr [13] h h' ∧ h' 13 = some (ST13 ku wc op (oc : Int) (s' : Int) t' b') ∧ (bb = 0 ∨ bt * (f1 + f2 + f3) < (f1 * xh i + f2 * xh j + f3 * xh k) * bb → s' = (2 ^ pt i ||| 2 ^ pt j ||| 2 ^ pt k) ∧ t' = (f1 * xh i + f2 * xh j + f3 * xh k) ∧ b' = (f1 + f2 + f3)) ∧ (bb ≠ 0 → (f1 * xh i + f2 * xh j + f3 * xh k) * bb = bt * (f1 + f2 + f3) → s' = s ||| (2 ^ pt i ||| 2 ^ pt j ||| 2 ^ pt k) ∧ t' = bt ∧ b' = bb) ∧ (bb ≠ 0 → (f1 * xh i + f2 * xh j + f3 * xh k) * bb < bt * (f1 + f2 + f3) → s' = s ∧ t' = bt ∧ b' = bb)) := by
  refine rr_meth (C := K_Stages_offerThree) (hd := h_Stages_offerThree) (mx := 10) rfl rfl (fun K hK => ?_)
  have p1 := hp i hi
  have p2 := hp j hj
  have p3 := hp k hk
  refine hK _ _ _ _ ?_
  refine s_aload_n rfl (cn rfl) rfl ?_
  refine s_iconst rfl (cn rfl) ?_
  refine s_aload_n rfl (cn rfl) rfl ?_
  refine s_getfield rfl (cn rfl) c13 rfl ?_
  refine s_iload_n rfl (cn rfl) rfl ?_
  refine s_iaload rfl (cn rfl) _ rfl c24 rfl (by omega) (by decide) (congrArg ii (hq i hi)) ?_
  refine s_ishl rfl (cn rfl) _ (bi_shl1 (by omega)) ?_
  refine s_iconst rfl (cn rfl) ?_
  refine s_aload_n rfl (cn rfl) rfl ?_
  refine s_getfield rfl (cn rfl) c13 rfl ?_
  refine s_iload_n rfl (cn rfl) rfl ?_
  refine s_iaload rfl (cn rfl) _ rfl c24 rfl (by omega) (by decide) (congrArg ii (hq j hj)) ?_
  refine s_ishl rfl (cn rfl) _ (bi_shl1 (by omega)) ?_
  refine s_ior rfl (cn rfl) _ (bi_or _ _) ?_
  refine s_iconst rfl (cn rfl) ?_
  refine s_aload_n rfl (cn rfl) rfl ?_
  refine s_getfield rfl (cn rfl) c13 rfl ?_
  refine s_iload_n rfl (cn rfl) rfl ?_
  refine s_iaload rfl (cn rfl) _ rfl c24 rfl (by omega) (by decide) (congrArg ii (hq k hk)) ?_
  refine s_ishl rfl (cn rfl) _ (bi_shl1 (by omega)) ?_
  refine s_ior rfl (cn rfl) _ (bi_or _ _) ?_
  refine s_lload rfl (cn rfl) rfl ?_
  refine s_aload_n rfl (cn rfl) rfl ?_
  refine s_getfield rfl (cn rfl) c13 rfl ?_
  refine s_iload_n rfl (cn rfl) rfl ?_
  refine s_laload rfl (cn rfl) _ rfl c27 (by omega) (by decide) rfl ?_
  refine s_lmul rfl (cn rfl) ?_
  refine s_lload rfl (cn rfl) rfl ?_
  refine s_aload_n rfl (cn rfl) rfl ?_
  refine s_getfield rfl (cn rfl) c13 rfl ?_
  refine s_iload_n rfl (cn rfl) rfl ?_
  refine s_laload rfl (cn rfl) _ rfl c27 (by omega) (by decide) rfl ?_
  refine s_lmul rfl (cn rfl) ?_
  refine s_ladd rfl (cn rfl) ?_
  refine s_lload rfl (cn rfl) rfl ?_
  refine s_aload_n rfl (cn rfl) rfl ?_
  refine s_getfield rfl (cn rfl) c13 rfl ?_
  refine s_iload_n rfl (cn rfl) rfl ?_
  refine s_laload rfl (cn rfl) _ rfl c27 (by omega) (by decide) rfl ?_
  refine s_lmul rfl (cn rfl) ?_
  refine s_ladd rfl (cn rfl) ?_
  refine s_lload rfl (cn rfl) rfl ?_
  refine s_lload rfl (cn rfl) rfl ?_
  refine s_ladd rfl (cn rfl) ?_
  refine s_lload rfl (cn rfl) rfl ?_
  refine s_ladd rfl (cn rfl) ?_
  refine s_virt rfl (cn rfl) rfl rfl c13 rfl (v_offer_13 (s0 := (2 ^ pt i ||| 2 ^ pt j ||| 2 ^ pt k)) (t0 := (f1 * xh i + f2 * xh j + f3 * xh k)) (b0 := (f1 + f2 + f3)) c13 h1 h2 h3) ?_
  rintro _ _ ⟨rfl, h3', s3, t3, b3, rfl, hf3, d3, hn3, he3, hl3⟩
  refine s_return rfl ?_
  exact ⟨rfl, h3', s3, t3, b3, rfl, hf3, d3, hn3, he3, hl3⟩
theorem v_triples_13 {d N S : Nat} {h : Nat → Option rr_E} {ku op bt bb : Int} {s oc wc : Nat} (hoc : oc ≤ 14) (c13 : h 13 = some (ST13 ku (wc : Int) op (oc : Int) (s : Int) bt bb)) {q0 xa xc xh : Nat → Int} {pt : Nat → Nat} (c24 : h 24 = some (.inl (0, 14, .inl (fun k => ii (q0 k))))) (c25 : h 25 = some (.inl (1, 14, .inr (.inl (fun k => jj (xa k)))))) (c26 : h 26 = some (.inl (1, 14, .inr (.inl (fun k => jj (xc k)))))) (c27 : h 27 = some (.inl (1, 14, .inr (.inl (fun k => jj (xh k)))))) (hq : ∀ k, k < oc → q0 k = ((pt k : Nat) : Int)) (hp : ∀ k, k < oc → pt k < 15) {P0 : Nat → Int → Int → Prop} (hB : BP P0 s bt bb) (hh : ∀ k, k < oc → -2000000000000000 ≤ xh k ∧ xh k ≤ 2000000000000000) (hbd0 : (0 ≤ bb ∧ bb ≤ 32) ∧ (-80000000000000000 ≤ bt ∧ bt ≤ 80000000000000000)) (hx2 : 1 < wc → ∀ k, k < oc → (-2 ≤ xa k ∧ xa k ≤ 2) ∧ (-2 ≤ xc k ∧ xc k ≤ 2)) (hz : wc ≤ 1 → ∀ k, k < oc → xc k = 0) (hwc : wc ≤ 3) : rr_Calls (d + 3) j_Stages_offerTriples [.ref 13] (N, S, h) (fun r R => r = none ∧ ∃ (h' : Nat → Option rr_E) (s' : Nat) (t' b' : Int), R = (N, S, h') ∧ fr [13] h h' ∧ h' 13 = some (ST13 ku (wc : Int) op (oc : Int) (s' : Int) t' b') ∧ BP (fun s t b => P0 s t b ∨ R3 oc oc 0 0 pt xa xc xh s t b) s' t' b' ∧ (0 ≤ b' ∧ b' ≤ 32) ∧ (-80000000000000000 ≤ t' ∧ t' ≤ 80000000000000000)) := by
  refine rr_meth (C := K_Stages_offerTriples) (hd := h_Stages_offerTriples) (mx := 10) rfl rfl (fun K hK => ?_)
  have c24o := c24
  have c25o := c25
  have c26o := c26
  have c27o := c27
  refine hK _ _ _ _ ?_
  refine s_iconst rfl (cn rfl) ?_
  refine s_istore_n rfl (ch rfl) ?_
  have lp2 : ∀ i : Nat, i ≤ oc → ∀ (l2 l3 l5 l6 l8 : Option Value) (h' : Nat → Option rr_E) (s2 : Nat) (t2 b2 : Int) (c13 : h' 13 = some (ST13 ku (wc : Int) op (oc : Int) (s2 : Int) t2 b2)) (hf : fr [13] h h') (hB2 : BP (fun s t b => P0 s t b ∨ R3 oc i 0 0 pt xa xc xh s t b) s2 t2 b2) (hbd : (0 ≤ b2 ∧ b2 ≤ 32) ∧ (-80000000000000000 ≤ t2 ∧ t2 ≤ 80000000000000000)), K 2 [some (.ref 13), some (.int (ii (i : Int))), l2, l3, none, l5, l6, none, l8, none] [] (N, S, h') := by
    refine dn (fun i hi ih2 => ?_)
    intro l2 l3 l5 l6 l8 h' s2 t2 b2 c13 hf hB2 hbd
    have c24 := (hf 24 (by decide)).trans c24o
    have c25 := (hf 25 (by decide)).trans c25o
    have c26 := (hf 26 (by decide)).trans c26o
    have c27 := (hf 27 (by decide)).trans c27o
    refine hK _ _ _ _ ?_
    refine s_iload_n rfl (cn rfl) rfl ?_
    refine s_aload_n rfl (cn rfl) rfl ?_
    refine s_getfield rfl (cn rfl) c13 rfl ?_
    refine s_icmp_ge rfl (cn rfl) (cn rfl) ⟨by omega, by omega⟩ ⟨by omega, by omega⟩ (fun q5 => ?_) (fun q5 => ?_)
    · refine s_return rfl ?_
      first
        | exact ⟨rfl, h', s2, t2, b2, rfl, hf, c13, by rw [show oc = i by omega] at hB2 ⊢; exact hB2, hbd⟩
        | (have hz2 := hz (by omega)
           refine ⟨rfl, h', s2, t2, b2, rfl, hf, c13, BP_cg hB2 (fun s t b => or_congr_right ⟨fun ⟨k, m, e, k1, k2, k3, k4, k5⟩ => ⟨k, m, e, k1, k2, k3, by omega, k5⟩, fun ⟨k, m, e, k1, k2, k3, k4, k5, k6⟩ => ?_⟩), hbd⟩
           exfalso
           unfold R3c pl_cr at k5
           rw [hz2 k (by omega), hz2 m (by omega), hz2 e (by omega)] at k5
           simp at k5)
    · refine s_aload_n rfl (cn rfl) rfl ?_
      refine s_getfield rfl (cn rfl) c13 rfl ?_
      refine s_iconst rfl (cn rfl) ?_
      refine s_icmp_le rfl (cn rfl) (cn rfl) ⟨by omega, by omega⟩ ⟨by omega, by omega⟩ (fun q9 => ?_) (fun q9 => ?_)
      · refine s_return rfl ?_
        first
          | exact ⟨rfl, h', s2, t2, b2, rfl, hf, c13, by rw [show oc = i by omega] at hB2 ⊢; exact hB2, hbd⟩
          | (have hz2 := hz (by omega)
             refine ⟨rfl, h', s2, t2, b2, rfl, hf, c13, BP_cg hB2 (fun s t b => or_congr_right ⟨fun ⟨k, m, e, k1, k2, k3, k4, k5⟩ => ⟨k, m, e, k1, k2, k3, by omega, k5⟩, fun ⟨k, m, e, k1, k2, k3, k4, k5, k6⟩ => ?_⟩), hbd⟩
             exfalso
             unfold R3c pl_cr at k5
             rw [hz2 k (by omega), hz2 m (by omega), hz2 e (by omega)] at k5
             simp at k5)
      · have hw1 : 1 < wc := by omega
        refine s_iload_n rfl (cn rfl) rfl ?_
        refine s_iconst rfl (cn rfl) ?_
        refine s_iadd rfl (cn rfl) ?_
        refine s_istore_n rfl (ch rfl) ?_
        have lp14 : ∀ j : Nat, j ≤ oc → ∀ (l3 l5 l6 l8 : Option Value) (hj1 : i + 1 ≤ j) (h' : Nat → Option rr_E) (s2 : Nat) (t2 b2 : Int) (c13 : h' 13 = some (ST13 ku (wc : Int) op (oc : Int) (s2 : Int) t2 b2)) (hf : fr [13] h h') (hB2 : BP (fun s t b => P0 s t b ∨ R3 oc i j 0 pt xa xc xh s t b) s2 t2 b2) (hbd : (0 ≤ b2 ∧ b2 ≤ 32) ∧ (-80000000000000000 ≤ t2 ∧ t2 ≤ 80000000000000000)), K 14 [some (.ref 13), some (.int (ii (i : Int))), some (.int (ii (j : Int))), l3, none, l5, l6, none, l8, none] [] (N, S, h') := by
          refine dn (fun j hj ih14 => ?_)
          intro l3 l5 l6 l8 hj1 h' s2 t2 b2 c13 hf hB2 hbd
          have c24 := (hf 24 (by decide)).trans c24o
          have c25 := (hf 25 (by decide)).trans c25o
          have c26 := (hf 26 (by decide)).trans c26o
          have c27 := (hf 27 (by decide)).trans c27o
          refine hK _ _ _ _ ?_
          refine s_iload_n rfl (cn rfl) rfl ?_
          refine s_aload_n rfl (cn rfl) rfl ?_
          refine s_getfield rfl (cn rfl) c13 rfl ?_
          refine s_icmp_ge rfl (cn rfl) (cn rfl) ⟨by omega, by omega⟩ ⟨by omega, by omega⟩ (fun q17 => ?_) (fun q17 => ?_)
          · refine s_iinc rfl (cn rfl) rfl ?_
            refine s_goto rfl (ch rfl) ?_
            exact ih2 (by omega) _ _ _ _ _ _ s2 t2 b2 c13 hf (BP_cg hB2 (fun s t b => or_congr_right ⟨fun ⟨k, m, e, k1, k2, k3, k4, k5⟩ => ⟨k, m, e, k1, k2, k3, by omega, k5⟩, fun ⟨k, m, e, k1, k2, k3, k4, k5⟩ => ⟨k, m, e, k1, k2, k3, by omega, k5⟩⟩)) hbd
          · have eij : pl_cr xa xc i j = xa i * xc j - xc i * xa j := rfl
            have uij := ab_mul (x := xa i) (y := xc j) (a := 2) (b := 2) (hx2 hw1 i (by omega)).1 (hx2 hw1 j (by omega)).2 (by decide) (by decide)
            have wij := ab_mul (x := xc i) (y := xa j) (a := 2) (b := 2) (hx2 hw1 i (by omega)).2 (hx2 hw1 j (by omega)).1 (by decide) (by decide)
            refine s_aload_n rfl (cn rfl) rfl ?_
            refine s_iload_n rfl (cn rfl) rfl ?_
            refine s_iload_n rfl (cn rfl) rfl ?_
            refine s_virt rfl (cn rfl) rfl rfl c13 rfl (v_turn_13 c13 c25 c26 (by omega) (by omega)) ?_
            rintro _ _ ⟨rfl, rfl⟩
            refine s_lstore_n rfl (cn rfl) ?_
            refine s_iload_n rfl (cn rfl) rfl ?_
            refine s_iconst rfl (cn rfl) ?_
            refine s_iadd rfl (cn rfl) ?_
            refine s_istore rfl (ch rfl) ?_
            have lp27 : ∀ f : Nat, f ≤ oc → ∀ (l6 l8 : Option Value) (hf1 : j + 1 ≤ f) (h' : Nat → Option rr_E) (s2 : Nat) (t2 b2 : Int) (c13 : h' 13 = some (ST13 ku (wc : Int) op (oc : Int) (s2 : Int) t2 b2)) (hf : fr [13] h h') (hB2 : BP (fun s t b => P0 s t b ∨ R3 oc i j f pt xa xc xh s t b) s2 t2 b2) (hbd : (0 ≤ b2 ∧ b2 ≤ 32) ∧ (-80000000000000000 ≤ t2 ∧ t2 ≤ 80000000000000000)), K 27 [some (.ref 13), some (.int (ii (i : Int))), some (.int (ii (j : Int))), some (.long (jj (pl_cr xa xc i j))), none, some (.int (ii (f : Int))), l6, none, l8, none] [] (N, S, h') := by
              refine dn (fun f hf ih27 => ?_)
              intro l6 l8 hf1 h' s2 t2 b2 c13 hf hB2 hbd
              have c24 := (hf 24 (by decide)).trans c24o
              have c25 := (hf 25 (by decide)).trans c25o
              have c26 := (hf 26 (by decide)).trans c26o
              have c27 := (hf 27 (by decide)).trans c27o
              refine hK _ _ _ _ ?_
              refine s_iload rfl (cn rfl) rfl ?_
              refine s_aload_n rfl (cn rfl) rfl ?_
              refine s_getfield rfl (cn rfl) c13 rfl ?_
              refine s_icmp_ge rfl (cn rfl) (cn rfl) ⟨by omega, by omega⟩ ⟨by omega, by omega⟩ (fun q30 => ?_) (fun q30 => ?_)
              · refine s_iinc rfl (cn rfl) rfl ?_
                refine s_goto rfl (ch rfl) ?_
                exact ih14 (by omega) _ _ _ _ (by omega) _ s2 t2 b2 c13 hf (BP_cg hB2 (fun s t b => or_congr_right ⟨fun ⟨k, m, e, k1, k2, k3, k4, k5⟩ => ⟨k, m, e, k1, k2, k3, by omega, k5⟩, fun ⟨k, m, e, k1, k2, k3, k4, k5⟩ => ⟨k, m, e, k1, k2, k3, by omega, k5⟩⟩)) hbd
              · refine s_lload_n rfl (cn rfl) rfl ?_
                refine s_lconst rfl (cn rfl) 0 (by decide) ?_
                refine s_lcmp rfl (cn rfl) ?_
                refine s_ifl_eq rfl (cn rfl) (cn rfl) ⟨by omega, by omega⟩ ⟨by omega, by omega⟩ (fun q34 => ?_) (fun q34 => ?_)
                · refine s_iinc rfl (cn rfl) rfl ?_
                  refine s_goto rfl (ch rfl) ?_
                  exact ih14 (by omega) _ _ _ _ (by omega) _ s2 t2 b2 c13 hf (BP_cg hB2 (fun s t b => or_congr_right ⟨fun ⟨k, m, e, k1, k2, k3, k4, k5⟩ => ⟨k, m, e, k1, k2, k3, by omega, k5⟩, fun ⟨k, m, e, k1, k2, k3, k4, k5, k6⟩ => ⟨k, m, e, k1, k2, k3, by
                      by_cases z : k = i ∧ m = j
                      · obtain ⟨rfl, rfl⟩ := z; unfold R3c at k5; omega
                      · omega, k5, k6⟩⟩)) hbd
                · have ejf : pl_cr xa xc j f = xa j * xc f - xc j * xa f := rfl
                  have ujf := ab_mul (x := xa j) (y := xc f) (a := 2) (b := 2) (hx2 hw1 j (by omega)).1 (hx2 hw1 f (by omega)).2 (by decide) (by decide)
                  have wjf := ab_mul (x := xc j) (y := xa f) (a := 2) (b := 2) (hx2 hw1 j (by omega)).2 (hx2 hw1 f (by omega)).1 (by decide) (by decide)
                  have efi : pl_cr xa xc f i = xa f * xc i - xc f * xa i := rfl
                  have ufi := ab_mul (x := xa f) (y := xc i) (a := 2) (b := 2) (hx2 hw1 f (by omega)).1 (hx2 hw1 i (by omega)).2 (by decide) (by decide)
                  have wfi := ab_mul (x := xc f) (y := xa i) (a := 2) (b := 2) (hx2 hw1 f (by omega)).2 (hx2 hw1 i (by omega)).1 (by decide) (by decide)
                  refine s_aload_n rfl (cn rfl) rfl ?_
                  refine s_iload_n rfl (cn rfl) rfl ?_
                  refine s_iload rfl (cn rfl) rfl ?_
                  refine s_virt rfl (cn rfl) rfl rfl c13 rfl (v_turn_13 c13 c25 c26 (by omega) (by omega)) ?_
                  rintro _ _ ⟨rfl, rfl⟩
                  refine s_lstore rfl (cn rfl) ?_
                  refine s_aload_n rfl (cn rfl) rfl ?_
                  refine s_iload rfl (cn rfl) rfl ?_
                  refine s_iload_n rfl (cn rfl) rfl ?_
                  refine s_virt rfl (cn rfl) rfl rfl c13 rfl (v_turn_13 c13 c25 c26 (by omega) (by omega)) ?_
                  rintro _ _ ⟨rfl, rfl⟩
                  refine s_lstore rfl (cn rfl) ?_
                  refine s_lload rfl (cn rfl) rfl ?_
                  refine s_lconst rfl (cn rfl) 0 (by decide) ?_
                  refine s_lcmp rfl (cn rfl) ?_
                  refine s_ifl_le rfl (cn rfl) (cn rfl) ⟨by omega, by omega⟩ ⟨by omega, by omega⟩ (fun q48 => ?_) (fun q48 => ?_)
                  · refine s_lload rfl (cn rfl) rfl ?_
                    refine s_lconst rfl (cn rfl) 0 (by decide) ?_
                    refine s_lcmp rfl (cn rfl) ?_
                    refine s_ifl_ge rfl (cn rfl) (cn rfl) ⟨by omega, by omega⟩ ⟨by omega, by omega⟩ (fun q60 => ?_) (fun q60 => ?_)
                    · refine s_iinc rfl (cn rfl) rfl ?_
                      refine s_goto rfl (ch rfl) ?_
                      first
                        | exact ih27 (by omega) _ _ (by omega) _ s2 t2 b2 c13 hf (BP_cg hB2 (fun s t b => or_congr_right ⟨fun ⟨k, m, e, k1, k2, k3, k4, k5⟩ => ⟨k, m, e, k1, k2, k3, by omega, k5⟩, fun ⟨k, m, e, k1, k2, k3, k4, k5, k6⟩ => ⟨k, m, e, k1, k2, k3, by
                          by_cases z : k = i ∧ m = j ∧ e = f
                          · obtain ⟨rfl, rfl, rfl⟩ := z; unfold R3c at k5; omega
                          · omega, k5, k6⟩⟩)) hbd
                        | exact ih27 (by omega) _ _ (by omega) _ s3 t3 b3 d13 (fr_t hf hf3 (by decide)) (BP_cg hB3 (fun s t b => ⟨fun q => by
                          rcases q with (q | ⟨k, m, e, k1, k2, k3, k4, k5⟩) | ⟨rfl, rfl, rfl⟩
                          · exact Or.inl q
                          · exact Or.inr ⟨k, m, e, k1, k2, k3, by omega, k5⟩
                          · exact Or.inr ⟨i, j, f, by omega, by omega, by omega, by omega, by unfold R3c; omega, rfl, rfl, rfl⟩, fun q => by
                          rcases q with q | ⟨k, m, e, k1, k2, k3, k4, k5, rfl, rfl, rfl⟩
                          · exact Or.inl (Or.inl q)
                          · by_cases z : k = i ∧ m = j ∧ e = f
                            · obtain ⟨rfl, rfl, rfl⟩ := z; exact Or.inr ⟨rfl, rfl, rfl⟩
                            · exact Or.inl (Or.inr ⟨k, m, e, k1, k2, k3, by omega, k5, rfl, rfl, rfl⟩)⟩)) (by omega)
                    · refine s_lload rfl (cn rfl) rfl ?_
                      refine s_lconst rfl (cn rfl) 0 (by decide) ?_
                      refine s_lcmp rfl (cn rfl) ?_
                      refine s_ifl_ge rfl (cn rfl) (cn rfl) ⟨by omega, by omega⟩ ⟨by omega, by omega⟩ (fun q64 => ?_) (fun q64 => ?_)
                      · refine s_iinc rfl (cn rfl) rfl ?_
                        refine s_goto rfl (ch rfl) ?_
                        first
                          | exact ih27 (by omega) _ _ (by omega) _ s2 t2 b2 c13 hf (BP_cg hB2 (fun s t b => or_congr_right ⟨fun ⟨k, m, e, k1, k2, k3, k4, k5⟩ => ⟨k, m, e, k1, k2, k3, by omega, k5⟩, fun ⟨k, m, e, k1, k2, k3, k4, k5, k6⟩ => ⟨k, m, e, k1, k2, k3, by
                            by_cases z : k = i ∧ m = j ∧ e = f
                            · obtain ⟨rfl, rfl, rfl⟩ := z; unfold R3c at k5; omega
                            · omega, k5, k6⟩⟩)) hbd
                          | exact ih27 (by omega) _ _ (by omega) _ s3 t3 b3 d13 (fr_t hf hf3 (by decide)) (BP_cg hB3 (fun s t b => ⟨fun q => by
                            rcases q with (q | ⟨k, m, e, k1, k2, k3, k4, k5⟩) | ⟨rfl, rfl, rfl⟩
                            · exact Or.inl q
                            · exact Or.inr ⟨k, m, e, k1, k2, k3, by omega, k5⟩
                            · exact Or.inr ⟨i, j, f, by omega, by omega, by omega, by omega, by unfold R3c; omega, rfl, rfl, rfl⟩, fun q => by
                            rcases q with q | ⟨k, m, e, k1, k2, k3, k4, k5, rfl, rfl, rfl⟩
                            · exact Or.inl (Or.inl q)
                            · by_cases z : k = i ∧ m = j ∧ e = f
                              · obtain ⟨rfl, rfl, rfl⟩ := z; exact Or.inr ⟨rfl, rfl, rfl⟩
                              · exact Or.inl (Or.inr ⟨k, m, e, k1, k2, k3, by omega, k5, rfl, rfl, rfl⟩)⟩)) (by omega)
                      · refine s_lload_n rfl (cn rfl) rfl ?_
                        refine s_lconst rfl (cn rfl) 0 (by decide) ?_
                        refine s_lcmp rfl (cn rfl) ?_
                        refine s_ifl_ge rfl (cn rfl) (cn rfl) ⟨by omega, by omega⟩ ⟨by omega, by omega⟩ (fun q68 => ?_) (fun q68 => ?_)
                        · refine s_iinc rfl (cn rfl) rfl ?_
                          refine s_goto rfl (ch rfl) ?_
                          first
                            | exact ih27 (by omega) _ _ (by omega) _ s2 t2 b2 c13 hf (BP_cg hB2 (fun s t b => or_congr_right ⟨fun ⟨k, m, e, k1, k2, k3, k4, k5⟩ => ⟨k, m, e, k1, k2, k3, by omega, k5⟩, fun ⟨k, m, e, k1, k2, k3, k4, k5, k6⟩ => ⟨k, m, e, k1, k2, k3, by
                              by_cases z : k = i ∧ m = j ∧ e = f
                              · obtain ⟨rfl, rfl, rfl⟩ := z; unfold R3c at k5; omega
                              · omega, k5, k6⟩⟩)) hbd
                            | exact ih27 (by omega) _ _ (by omega) _ s3 t3 b3 d13 (fr_t hf hf3 (by decide)) (BP_cg hB3 (fun s t b => ⟨fun q => by
                              rcases q with (q | ⟨k, m, e, k1, k2, k3, k4, k5⟩) | ⟨rfl, rfl, rfl⟩
                              · exact Or.inl q
                              · exact Or.inr ⟨k, m, e, k1, k2, k3, by omega, k5⟩
                              · exact Or.inr ⟨i, j, f, by omega, by omega, by omega, by omega, by unfold R3c; omega, rfl, rfl, rfl⟩, fun q => by
                              rcases q with q | ⟨k, m, e, k1, k2, k3, k4, k5, rfl, rfl, rfl⟩
                              · exact Or.inl (Or.inl q)
                              · by_cases z : k = i ∧ m = j ∧ e = f
                                · obtain ⟨rfl, rfl, rfl⟩ := z; exact Or.inr ⟨rfl, rfl, rfl⟩
                                · exact Or.inl (Or.inr ⟨k, m, e, k1, k2, k3, by omega, k5, rfl, rfl, rfl⟩)⟩)) (by omega)
                        · have n1 := ab1_b (a := 8) (show -8 ≤ pl_cr xa xc j f ∧ pl_cr xa xc j f ≤ 8 by omega)
                          have n2 := ab1_b (a := 8) (show -8 ≤ pl_cr xa xc f i ∧ pl_cr xa xc f i ≤ 8 by omega)
                          have n3 := ab1_b (a := 8) (show -8 ≤ pl_cr xa xc i j ∧ pl_cr xa xc i j ≤ 8 by omega)
                          have h1 := hh i (by omega)
                          have h2 := hh j (by omega)
                          have h3 := hh f (by omega)
                          have o1 := ab_mul (x := ab1 (pl_cr xa xc j f)) (y := xh i) (a := 8) (b := 2000000000000000) (by omega) (by omega) (by decide) (by decide)
                          have o2 := ab_mul (x := ab1 (pl_cr xa xc f i)) (y := xh j) (a := 8) (b := 2000000000000000) (by omega) (by omega) (by decide) (by decide)
                          have o5 := ab_mul (x := ab1 (pl_cr xa xc i j)) (y := xh f) (a := 8) (b := 2000000000000000) (by omega) (by omega) (by decide) (by decide)
                          have o3 := ab_mul (x := (ab1 (pl_cr xa xc j f) * xh i + ab1 (pl_cr xa xc f i) * xh j + ab1 (pl_cr xa xc i j) * xh f)) (y := b2) (a := 48000000000000000) (b := 32) (by omega) (by omega) (by decide) (by decide)
                          have o4 := ab_mul (x := t2) (y := (ab1 (pl_cr xa xc j f) + ab1 (pl_cr xa xc f i) + ab1 (pl_cr xa xc i j))) (a := 80000000000000000) (b := 24) (by omega) (by omega) (by decide) (by decide)
                          have pos : 0 < (ab1 (pl_cr xa xc j f) + ab1 (pl_cr xa xc f i) + ab1 (pl_cr xa xc i j)) := by
                            have z1 : ab1 (pl_cr xa xc i j) ≠ 0 := fun z => absurd (ab1_0.mp z) (by omega)
                            omega
                          refine s_aload_n rfl (cn rfl) rfl ?_
                          refine s_iload_n rfl (cn rfl) rfl ?_
                          refine s_iload_n rfl (cn rfl) rfl ?_
                          refine s_iload rfl (cn rfl) rfl ?_
                          refine s_lload rfl (cn rfl) rfl ?_
                          refine s_abs rfl (cn rfl) rfl ⟨by omega, by omega⟩ ?_
                          refine s_lload rfl (cn rfl) rfl ?_
                          refine s_abs rfl (cn rfl) rfl ⟨by omega, by omega⟩ ?_
                          refine s_lload_n rfl (cn rfl) rfl ?_
                          refine s_abs rfl (cn rfl) rfl ⟨by omega, by omega⟩ ?_
                          refine s_virt rfl (cn rfl) rfl rfl c13 rfl (v_three_13 (i := i) (j := j) (k := f) (f1 := ab1 (pl_cr xa xc j f)) (f2 := ab1 (pl_cr xa xc f i)) (f3 := ab1 (pl_cr xa xc i j)) hoc c13 c24 c25 c26 c27 hq hp (by omega) (by omega) (by omega) (by omega) (by omega) (by omega)) ?_
                          rintro _ _ ⟨rfl, h3', s3, t3, b3, rfl, hf3, d13, hn3, he3, hl3⟩
                          have hB3 := BP_s hB2 pos hn3 he3 hl3
                          refine s_iinc rfl (cn rfl) rfl ?_
                          refine s_goto rfl (ch rfl) ?_
                          first
                            | exact ih27 (by omega) _ _ (by omega) _ s2 t2 b2 c13 hf (BP_cg hB2 (fun s t b => or_congr_right ⟨fun ⟨k, m, e, k1, k2, k3, k4, k5⟩ => ⟨k, m, e, k1, k2, k3, by omega, k5⟩, fun ⟨k, m, e, k1, k2, k3, k4, k5, k6⟩ => ⟨k, m, e, k1, k2, k3, by
                              by_cases z : k = i ∧ m = j ∧ e = f
                              · obtain ⟨rfl, rfl, rfl⟩ := z; unfold R3c at k5; omega
                              · omega, k5, k6⟩⟩)) hbd
                            | exact ih27 (by omega) _ _ (by omega) _ s3 t3 b3 d13 (fr_t hf hf3 (by decide)) (BP_cg hB3 (fun s t b => ⟨fun q => by
                              rcases q with (q | ⟨k, m, e, k1, k2, k3, k4, k5⟩) | ⟨rfl, rfl, rfl⟩
                              · exact Or.inl q
                              · exact Or.inr ⟨k, m, e, k1, k2, k3, by omega, k5⟩
                              · exact Or.inr ⟨i, j, f, by omega, by omega, by omega, by omega, by unfold R3c; omega, rfl, rfl, rfl⟩, fun q => by
                              rcases q with q | ⟨k, m, e, k1, k2, k3, k4, k5, rfl, rfl, rfl⟩
                              · exact Or.inl (Or.inl q)
                              · by_cases z : k = i ∧ m = j ∧ e = f
                                · obtain ⟨rfl, rfl, rfl⟩ := z; exact Or.inr ⟨rfl, rfl, rfl⟩
                                · exact Or.inl (Or.inr ⟨k, m, e, k1, k2, k3, by omega, k5, rfl, rfl, rfl⟩)⟩)) (by omega)
                  · refine s_lload rfl (cn rfl) rfl ?_
                    refine s_lconst rfl (cn rfl) 0 (by decide) ?_
                    refine s_lcmp rfl (cn rfl) ?_
                    refine s_ifl_le rfl (cn rfl) (cn rfl) ⟨by omega, by omega⟩ ⟨by omega, by omega⟩ (fun q52 => ?_) (fun q52 => ?_)
                    · refine s_lload rfl (cn rfl) rfl ?_
                      refine s_lconst rfl (cn rfl) 0 (by decide) ?_
                      refine s_lcmp rfl (cn rfl) ?_
                      refine s_ifl_ge rfl (cn rfl) (cn rfl) ⟨by omega, by omega⟩ ⟨by omega, by omega⟩ (fun q60 => ?_) (fun q60 => ?_)
                      · refine s_iinc rfl (cn rfl) rfl ?_
                        refine s_goto rfl (ch rfl) ?_
                        first
                          | exact ih27 (by omega) _ _ (by omega) _ s2 t2 b2 c13 hf (BP_cg hB2 (fun s t b => or_congr_right ⟨fun ⟨k, m, e, k1, k2, k3, k4, k5⟩ => ⟨k, m, e, k1, k2, k3, by omega, k5⟩, fun ⟨k, m, e, k1, k2, k3, k4, k5, k6⟩ => ⟨k, m, e, k1, k2, k3, by
                            by_cases z : k = i ∧ m = j ∧ e = f
                            · obtain ⟨rfl, rfl, rfl⟩ := z; unfold R3c at k5; omega
                            · omega, k5, k6⟩⟩)) hbd
                          | exact ih27 (by omega) _ _ (by omega) _ s3 t3 b3 d13 (fr_t hf hf3 (by decide)) (BP_cg hB3 (fun s t b => ⟨fun q => by
                            rcases q with (q | ⟨k, m, e, k1, k2, k3, k4, k5⟩) | ⟨rfl, rfl, rfl⟩
                            · exact Or.inl q
                            · exact Or.inr ⟨k, m, e, k1, k2, k3, by omega, k5⟩
                            · exact Or.inr ⟨i, j, f, by omega, by omega, by omega, by omega, by unfold R3c; omega, rfl, rfl, rfl⟩, fun q => by
                            rcases q with q | ⟨k, m, e, k1, k2, k3, k4, k5, rfl, rfl, rfl⟩
                            · exact Or.inl (Or.inl q)
                            · by_cases z : k = i ∧ m = j ∧ e = f
                              · obtain ⟨rfl, rfl, rfl⟩ := z; exact Or.inr ⟨rfl, rfl, rfl⟩
                              · exact Or.inl (Or.inr ⟨k, m, e, k1, k2, k3, by omega, k5, rfl, rfl, rfl⟩)⟩)) (by omega)
                      · refine s_lload rfl (cn rfl) rfl ?_
                        refine s_lconst rfl (cn rfl) 0 (by decide) ?_
                        refine s_lcmp rfl (cn rfl) ?_
                        refine s_ifl_ge rfl (cn rfl) (cn rfl) ⟨by omega, by omega⟩ ⟨by omega, by omega⟩ (fun q64 => ?_) (fun q64 => ?_)
                        · refine s_iinc rfl (cn rfl) rfl ?_
                          refine s_goto rfl (ch rfl) ?_
                          first
                            | exact ih27 (by omega) _ _ (by omega) _ s2 t2 b2 c13 hf (BP_cg hB2 (fun s t b => or_congr_right ⟨fun ⟨k, m, e, k1, k2, k3, k4, k5⟩ => ⟨k, m, e, k1, k2, k3, by omega, k5⟩, fun ⟨k, m, e, k1, k2, k3, k4, k5, k6⟩ => ⟨k, m, e, k1, k2, k3, by
                              by_cases z : k = i ∧ m = j ∧ e = f
                              · obtain ⟨rfl, rfl, rfl⟩ := z; unfold R3c at k5; omega
                              · omega, k5, k6⟩⟩)) hbd
                            | exact ih27 (by omega) _ _ (by omega) _ s3 t3 b3 d13 (fr_t hf hf3 (by decide)) (BP_cg hB3 (fun s t b => ⟨fun q => by
                              rcases q with (q | ⟨k, m, e, k1, k2, k3, k4, k5⟩) | ⟨rfl, rfl, rfl⟩
                              · exact Or.inl q
                              · exact Or.inr ⟨k, m, e, k1, k2, k3, by omega, k5⟩
                              · exact Or.inr ⟨i, j, f, by omega, by omega, by omega, by omega, by unfold R3c; omega, rfl, rfl, rfl⟩, fun q => by
                              rcases q with q | ⟨k, m, e, k1, k2, k3, k4, k5, rfl, rfl, rfl⟩
                              · exact Or.inl (Or.inl q)
                              · by_cases z : k = i ∧ m = j ∧ e = f
                                · obtain ⟨rfl, rfl, rfl⟩ := z; exact Or.inr ⟨rfl, rfl, rfl⟩
                                · exact Or.inl (Or.inr ⟨k, m, e, k1, k2, k3, by omega, k5, rfl, rfl, rfl⟩)⟩)) (by omega)
                        · refine s_lload_n rfl (cn rfl) rfl ?_
                          refine s_lconst rfl (cn rfl) 0 (by decide) ?_
                          refine s_lcmp rfl (cn rfl) ?_
                          refine s_ifl_ge rfl (cn rfl) (cn rfl) ⟨by omega, by omega⟩ ⟨by omega, by omega⟩ (fun q68 => ?_) (fun q68 => ?_)
                          · refine s_iinc rfl (cn rfl) rfl ?_
                            refine s_goto rfl (ch rfl) ?_
                            first
                              | exact ih27 (by omega) _ _ (by omega) _ s2 t2 b2 c13 hf (BP_cg hB2 (fun s t b => or_congr_right ⟨fun ⟨k, m, e, k1, k2, k3, k4, k5⟩ => ⟨k, m, e, k1, k2, k3, by omega, k5⟩, fun ⟨k, m, e, k1, k2, k3, k4, k5, k6⟩ => ⟨k, m, e, k1, k2, k3, by
                                by_cases z : k = i ∧ m = j ∧ e = f
                                · obtain ⟨rfl, rfl, rfl⟩ := z; unfold R3c at k5; omega
                                · omega, k5, k6⟩⟩)) hbd
                              | exact ih27 (by omega) _ _ (by omega) _ s3 t3 b3 d13 (fr_t hf hf3 (by decide)) (BP_cg hB3 (fun s t b => ⟨fun q => by
                                rcases q with (q | ⟨k, m, e, k1, k2, k3, k4, k5⟩) | ⟨rfl, rfl, rfl⟩
                                · exact Or.inl q
                                · exact Or.inr ⟨k, m, e, k1, k2, k3, by omega, k5⟩
                                · exact Or.inr ⟨i, j, f, by omega, by omega, by omega, by omega, by unfold R3c; omega, rfl, rfl, rfl⟩, fun q => by
                                rcases q with q | ⟨k, m, e, k1, k2, k3, k4, k5, rfl, rfl, rfl⟩
                                · exact Or.inl (Or.inl q)
                                · by_cases z : k = i ∧ m = j ∧ e = f
                                  · obtain ⟨rfl, rfl, rfl⟩ := z; exact Or.inr ⟨rfl, rfl, rfl⟩
                                  · exact Or.inl (Or.inr ⟨k, m, e, k1, k2, k3, by omega, k5, rfl, rfl, rfl⟩)⟩)) (by omega)
                          · have n1 := ab1_b (a := 8) (show -8 ≤ pl_cr xa xc j f ∧ pl_cr xa xc j f ≤ 8 by omega)
                            have n2 := ab1_b (a := 8) (show -8 ≤ pl_cr xa xc f i ∧ pl_cr xa xc f i ≤ 8 by omega)
                            have n3 := ab1_b (a := 8) (show -8 ≤ pl_cr xa xc i j ∧ pl_cr xa xc i j ≤ 8 by omega)
                            have h1 := hh i (by omega)
                            have h2 := hh j (by omega)
                            have h3 := hh f (by omega)
                            have o1 := ab_mul (x := ab1 (pl_cr xa xc j f)) (y := xh i) (a := 8) (b := 2000000000000000) (by omega) (by omega) (by decide) (by decide)
                            have o2 := ab_mul (x := ab1 (pl_cr xa xc f i)) (y := xh j) (a := 8) (b := 2000000000000000) (by omega) (by omega) (by decide) (by decide)
                            have o5 := ab_mul (x := ab1 (pl_cr xa xc i j)) (y := xh f) (a := 8) (b := 2000000000000000) (by omega) (by omega) (by decide) (by decide)
                            have o3 := ab_mul (x := (ab1 (pl_cr xa xc j f) * xh i + ab1 (pl_cr xa xc f i) * xh j + ab1 (pl_cr xa xc i j) * xh f)) (y := b2) (a := 48000000000000000) (b := 32) (by omega) (by omega) (by decide) (by decide)
                            have o4 := ab_mul (x := t2) (y := (ab1 (pl_cr xa xc j f) + ab1 (pl_cr xa xc f i) + ab1 (pl_cr xa xc i j))) (a := 80000000000000000) (b := 24) (by omega) (by omega) (by decide) (by decide)
                            have pos : 0 < (ab1 (pl_cr xa xc j f) + ab1 (pl_cr xa xc f i) + ab1 (pl_cr xa xc i j)) := by
                              have z1 : ab1 (pl_cr xa xc i j) ≠ 0 := fun z => absurd (ab1_0.mp z) (by omega)
                              omega
                            refine s_aload_n rfl (cn rfl) rfl ?_
                            refine s_iload_n rfl (cn rfl) rfl ?_
                            refine s_iload_n rfl (cn rfl) rfl ?_
                            refine s_iload rfl (cn rfl) rfl ?_
                            refine s_lload rfl (cn rfl) rfl ?_
                            refine s_abs rfl (cn rfl) rfl ⟨by omega, by omega⟩ ?_
                            refine s_lload rfl (cn rfl) rfl ?_
                            refine s_abs rfl (cn rfl) rfl ⟨by omega, by omega⟩ ?_
                            refine s_lload_n rfl (cn rfl) rfl ?_
                            refine s_abs rfl (cn rfl) rfl ⟨by omega, by omega⟩ ?_
                            refine s_virt rfl (cn rfl) rfl rfl c13 rfl (v_three_13 (i := i) (j := j) (k := f) (f1 := ab1 (pl_cr xa xc j f)) (f2 := ab1 (pl_cr xa xc f i)) (f3 := ab1 (pl_cr xa xc i j)) hoc c13 c24 c25 c26 c27 hq hp (by omega) (by omega) (by omega) (by omega) (by omega) (by omega)) ?_
                            rintro _ _ ⟨rfl, h3', s3, t3, b3, rfl, hf3, d13, hn3, he3, hl3⟩
                            have hB3 := BP_s hB2 pos hn3 he3 hl3
                            refine s_iinc rfl (cn rfl) rfl ?_
                            refine s_goto rfl (ch rfl) ?_
                            first
                              | exact ih27 (by omega) _ _ (by omega) _ s2 t2 b2 c13 hf (BP_cg hB2 (fun s t b => or_congr_right ⟨fun ⟨k, m, e, k1, k2, k3, k4, k5⟩ => ⟨k, m, e, k1, k2, k3, by omega, k5⟩, fun ⟨k, m, e, k1, k2, k3, k4, k5, k6⟩ => ⟨k, m, e, k1, k2, k3, by
                                by_cases z : k = i ∧ m = j ∧ e = f
                                · obtain ⟨rfl, rfl, rfl⟩ := z; unfold R3c at k5; omega
                                · omega, k5, k6⟩⟩)) hbd
                              | exact ih27 (by omega) _ _ (by omega) _ s3 t3 b3 d13 (fr_t hf hf3 (by decide)) (BP_cg hB3 (fun s t b => ⟨fun q => by
                                rcases q with (q | ⟨k, m, e, k1, k2, k3, k4, k5⟩) | ⟨rfl, rfl, rfl⟩
                                · exact Or.inl q
                                · exact Or.inr ⟨k, m, e, k1, k2, k3, by omega, k5⟩
                                · exact Or.inr ⟨i, j, f, by omega, by omega, by omega, by omega, by unfold R3c; omega, rfl, rfl, rfl⟩, fun q => by
                                rcases q with q | ⟨k, m, e, k1, k2, k3, k4, k5, rfl, rfl, rfl⟩
                                · exact Or.inl (Or.inl q)
                                · by_cases z : k = i ∧ m = j ∧ e = f
                                  · obtain ⟨rfl, rfl, rfl⟩ := z; exact Or.inr ⟨rfl, rfl, rfl⟩
                                  · exact Or.inl (Or.inr ⟨k, m, e, k1, k2, k3, by omega, k5, rfl, rfl, rfl⟩)⟩)) (by omega)
                    · refine s_lload_n rfl (cn rfl) rfl ?_
                      refine s_lconst rfl (cn rfl) 0 (by decide) ?_
                      refine s_lcmp rfl (cn rfl) ?_
                      refine s_ifl_gt rfl (cn rfl) (cn rfl) ⟨by omega, by omega⟩ ⟨by omega, by omega⟩ (fun q56 => ?_) (fun q56 => ?_)
                      · have n1 := ab1_b (a := 8) (show -8 ≤ pl_cr xa xc j f ∧ pl_cr xa xc j f ≤ 8 by omega)
                        have n2 := ab1_b (a := 8) (show -8 ≤ pl_cr xa xc f i ∧ pl_cr xa xc f i ≤ 8 by omega)
                        have n3 := ab1_b (a := 8) (show -8 ≤ pl_cr xa xc i j ∧ pl_cr xa xc i j ≤ 8 by omega)
                        have h1 := hh i (by omega)
                        have h2 := hh j (by omega)
                        have h3 := hh f (by omega)
                        have o1 := ab_mul (x := ab1 (pl_cr xa xc j f)) (y := xh i) (a := 8) (b := 2000000000000000) (by omega) (by omega) (by decide) (by decide)
                        have o2 := ab_mul (x := ab1 (pl_cr xa xc f i)) (y := xh j) (a := 8) (b := 2000000000000000) (by omega) (by omega) (by decide) (by decide)
                        have o5 := ab_mul (x := ab1 (pl_cr xa xc i j)) (y := xh f) (a := 8) (b := 2000000000000000) (by omega) (by omega) (by decide) (by decide)
                        have o3 := ab_mul (x := (ab1 (pl_cr xa xc j f) * xh i + ab1 (pl_cr xa xc f i) * xh j + ab1 (pl_cr xa xc i j) * xh f)) (y := b2) (a := 48000000000000000) (b := 32) (by omega) (by omega) (by decide) (by decide)
                        have o4 := ab_mul (x := t2) (y := (ab1 (pl_cr xa xc j f) + ab1 (pl_cr xa xc f i) + ab1 (pl_cr xa xc i j))) (a := 80000000000000000) (b := 24) (by omega) (by omega) (by decide) (by decide)
                        have pos : 0 < (ab1 (pl_cr xa xc j f) + ab1 (pl_cr xa xc f i) + ab1 (pl_cr xa xc i j)) := by
                          have z1 : ab1 (pl_cr xa xc i j) ≠ 0 := fun z => absurd (ab1_0.mp z) (by omega)
                          omega
                        refine s_aload_n rfl (cn rfl) rfl ?_
                        refine s_iload_n rfl (cn rfl) rfl ?_
                        refine s_iload_n rfl (cn rfl) rfl ?_
                        refine s_iload rfl (cn rfl) rfl ?_
                        refine s_lload rfl (cn rfl) rfl ?_
                        refine s_abs rfl (cn rfl) rfl ⟨by omega, by omega⟩ ?_
                        refine s_lload rfl (cn rfl) rfl ?_
                        refine s_abs rfl (cn rfl) rfl ⟨by omega, by omega⟩ ?_
                        refine s_lload_n rfl (cn rfl) rfl ?_
                        refine s_abs rfl (cn rfl) rfl ⟨by omega, by omega⟩ ?_
                        refine s_virt rfl (cn rfl) rfl rfl c13 rfl (v_three_13 (i := i) (j := j) (k := f) (f1 := ab1 (pl_cr xa xc j f)) (f2 := ab1 (pl_cr xa xc f i)) (f3 := ab1 (pl_cr xa xc i j)) hoc c13 c24 c25 c26 c27 hq hp (by omega) (by omega) (by omega) (by omega) (by omega) (by omega)) ?_
                        rintro _ _ ⟨rfl, h3', s3, t3, b3, rfl, hf3, d13, hn3, he3, hl3⟩
                        have hB3 := BP_s hB2 pos hn3 he3 hl3
                        refine s_iinc rfl (cn rfl) rfl ?_
                        refine s_goto rfl (ch rfl) ?_
                        first
                          | exact ih27 (by omega) _ _ (by omega) _ s2 t2 b2 c13 hf (BP_cg hB2 (fun s t b => or_congr_right ⟨fun ⟨k, m, e, k1, k2, k3, k4, k5⟩ => ⟨k, m, e, k1, k2, k3, by omega, k5⟩, fun ⟨k, m, e, k1, k2, k3, k4, k5, k6⟩ => ⟨k, m, e, k1, k2, k3, by
                            by_cases z : k = i ∧ m = j ∧ e = f
                            · obtain ⟨rfl, rfl, rfl⟩ := z; unfold R3c at k5; omega
                            · omega, k5, k6⟩⟩)) hbd
                          | exact ih27 (by omega) _ _ (by omega) _ s3 t3 b3 d13 (fr_t hf hf3 (by decide)) (BP_cg hB3 (fun s t b => ⟨fun q => by
                            rcases q with (q | ⟨k, m, e, k1, k2, k3, k4, k5⟩) | ⟨rfl, rfl, rfl⟩
                            · exact Or.inl q
                            · exact Or.inr ⟨k, m, e, k1, k2, k3, by omega, k5⟩
                            · exact Or.inr ⟨i, j, f, by omega, by omega, by omega, by omega, by unfold R3c; omega, rfl, rfl, rfl⟩, fun q => by
                            rcases q with q | ⟨k, m, e, k1, k2, k3, k4, k5, rfl, rfl, rfl⟩
                            · exact Or.inl (Or.inl q)
                            · by_cases z : k = i ∧ m = j ∧ e = f
                              · obtain ⟨rfl, rfl, rfl⟩ := z; exact Or.inr ⟨rfl, rfl, rfl⟩
                              · exact Or.inl (Or.inr ⟨k, m, e, k1, k2, k3, by omega, k5, rfl, rfl, rfl⟩)⟩)) (by omega)
                      · refine s_lload rfl (cn rfl) rfl ?_
                        refine s_lconst rfl (cn rfl) 0 (by decide) ?_
                        refine s_lcmp rfl (cn rfl) ?_
                        refine s_ifl_ge rfl (cn rfl) (cn rfl) ⟨by omega, by omega⟩ ⟨by omega, by omega⟩ (fun q60 => ?_) (fun q60 => ?_)
                        · refine s_iinc rfl (cn rfl) rfl ?_
                          refine s_goto rfl (ch rfl) ?_
                          first
                            | exact ih27 (by omega) _ _ (by omega) _ s2 t2 b2 c13 hf (BP_cg hB2 (fun s t b => or_congr_right ⟨fun ⟨k, m, e, k1, k2, k3, k4, k5⟩ => ⟨k, m, e, k1, k2, k3, by omega, k5⟩, fun ⟨k, m, e, k1, k2, k3, k4, k5, k6⟩ => ⟨k, m, e, k1, k2, k3, by
                              by_cases z : k = i ∧ m = j ∧ e = f
                              · obtain ⟨rfl, rfl, rfl⟩ := z; unfold R3c at k5; omega
                              · omega, k5, k6⟩⟩)) hbd
                            | exact ih27 (by omega) _ _ (by omega) _ s3 t3 b3 d13 (fr_t hf hf3 (by decide)) (BP_cg hB3 (fun s t b => ⟨fun q => by
                              rcases q with (q | ⟨k, m, e, k1, k2, k3, k4, k5⟩) | ⟨rfl, rfl, rfl⟩
                              · exact Or.inl q
                              · exact Or.inr ⟨k, m, e, k1, k2, k3, by omega, k5⟩
                              · exact Or.inr ⟨i, j, f, by omega, by omega, by omega, by omega, by unfold R3c; omega, rfl, rfl, rfl⟩, fun q => by
                              rcases q with q | ⟨k, m, e, k1, k2, k3, k4, k5, rfl, rfl, rfl⟩
                              · exact Or.inl (Or.inl q)
                              · by_cases z : k = i ∧ m = j ∧ e = f
                                · obtain ⟨rfl, rfl, rfl⟩ := z; exact Or.inr ⟨rfl, rfl, rfl⟩
                                · exact Or.inl (Or.inr ⟨k, m, e, k1, k2, k3, by omega, k5, rfl, rfl, rfl⟩)⟩)) (by omega)
                        · refine s_lload rfl (cn rfl) rfl ?_
                          refine s_lconst rfl (cn rfl) 0 (by decide) ?_
                          refine s_lcmp rfl (cn rfl) ?_
                          refine s_ifl_ge rfl (cn rfl) (cn rfl) ⟨by omega, by omega⟩ ⟨by omega, by omega⟩ (fun q64 => ?_) (fun q64 => ?_)
                          · refine s_iinc rfl (cn rfl) rfl ?_
                            refine s_goto rfl (ch rfl) ?_
                            first
                              | exact ih27 (by omega) _ _ (by omega) _ s2 t2 b2 c13 hf (BP_cg hB2 (fun s t b => or_congr_right ⟨fun ⟨k, m, e, k1, k2, k3, k4, k5⟩ => ⟨k, m, e, k1, k2, k3, by omega, k5⟩, fun ⟨k, m, e, k1, k2, k3, k4, k5, k6⟩ => ⟨k, m, e, k1, k2, k3, by
                                by_cases z : k = i ∧ m = j ∧ e = f
                                · obtain ⟨rfl, rfl, rfl⟩ := z; unfold R3c at k5; omega
                                · omega, k5, k6⟩⟩)) hbd
                              | exact ih27 (by omega) _ _ (by omega) _ s3 t3 b3 d13 (fr_t hf hf3 (by decide)) (BP_cg hB3 (fun s t b => ⟨fun q => by
                                rcases q with (q | ⟨k, m, e, k1, k2, k3, k4, k5⟩) | ⟨rfl, rfl, rfl⟩
                                · exact Or.inl q
                                · exact Or.inr ⟨k, m, e, k1, k2, k3, by omega, k5⟩
                                · exact Or.inr ⟨i, j, f, by omega, by omega, by omega, by omega, by unfold R3c; omega, rfl, rfl, rfl⟩, fun q => by
                                rcases q with q | ⟨k, m, e, k1, k2, k3, k4, k5, rfl, rfl, rfl⟩
                                · exact Or.inl (Or.inl q)
                                · by_cases z : k = i ∧ m = j ∧ e = f
                                  · obtain ⟨rfl, rfl, rfl⟩ := z; exact Or.inr ⟨rfl, rfl, rfl⟩
                                  · exact Or.inl (Or.inr ⟨k, m, e, k1, k2, k3, by omega, k5, rfl, rfl, rfl⟩)⟩)) (by omega)
                          · refine s_lload_n rfl (cn rfl) rfl ?_
                            refine s_lconst rfl (cn rfl) 0 (by decide) ?_
                            refine s_lcmp rfl (cn rfl) ?_
                            refine s_ifl_ge rfl (cn rfl) (cn rfl) ⟨by omega, by omega⟩ ⟨by omega, by omega⟩ (fun q68 => ?_) (fun q68 => ?_)
                            · refine s_iinc rfl (cn rfl) rfl ?_
                              refine s_goto rfl (ch rfl) ?_
                              first
                                | exact ih27 (by omega) _ _ (by omega) _ s2 t2 b2 c13 hf (BP_cg hB2 (fun s t b => or_congr_right ⟨fun ⟨k, m, e, k1, k2, k3, k4, k5⟩ => ⟨k, m, e, k1, k2, k3, by omega, k5⟩, fun ⟨k, m, e, k1, k2, k3, k4, k5, k6⟩ => ⟨k, m, e, k1, k2, k3, by
                                  by_cases z : k = i ∧ m = j ∧ e = f
                                  · obtain ⟨rfl, rfl, rfl⟩ := z; unfold R3c at k5; omega
                                  · omega, k5, k6⟩⟩)) hbd
                                | exact ih27 (by omega) _ _ (by omega) _ s3 t3 b3 d13 (fr_t hf hf3 (by decide)) (BP_cg hB3 (fun s t b => ⟨fun q => by
                                  rcases q with (q | ⟨k, m, e, k1, k2, k3, k4, k5⟩) | ⟨rfl, rfl, rfl⟩
                                  · exact Or.inl q
                                  · exact Or.inr ⟨k, m, e, k1, k2, k3, by omega, k5⟩
                                  · exact Or.inr ⟨i, j, f, by omega, by omega, by omega, by omega, by unfold R3c; omega, rfl, rfl, rfl⟩, fun q => by
                                  rcases q with q | ⟨k, m, e, k1, k2, k3, k4, k5, rfl, rfl, rfl⟩
                                  · exact Or.inl (Or.inl q)
                                  · by_cases z : k = i ∧ m = j ∧ e = f
                                    · obtain ⟨rfl, rfl, rfl⟩ := z; exact Or.inr ⟨rfl, rfl, rfl⟩
                                    · exact Or.inl (Or.inr ⟨k, m, e, k1, k2, k3, by omega, k5, rfl, rfl, rfl⟩)⟩)) (by omega)
                            · have n1 := ab1_b (a := 8) (show -8 ≤ pl_cr xa xc j f ∧ pl_cr xa xc j f ≤ 8 by omega)
                              have n2 := ab1_b (a := 8) (show -8 ≤ pl_cr xa xc f i ∧ pl_cr xa xc f i ≤ 8 by omega)
                              have n3 := ab1_b (a := 8) (show -8 ≤ pl_cr xa xc i j ∧ pl_cr xa xc i j ≤ 8 by omega)
                              have h1 := hh i (by omega)
                              have h2 := hh j (by omega)
                              have h3 := hh f (by omega)
                              have o1 := ab_mul (x := ab1 (pl_cr xa xc j f)) (y := xh i) (a := 8) (b := 2000000000000000) (by omega) (by omega) (by decide) (by decide)
                              have o2 := ab_mul (x := ab1 (pl_cr xa xc f i)) (y := xh j) (a := 8) (b := 2000000000000000) (by omega) (by omega) (by decide) (by decide)
                              have o5 := ab_mul (x := ab1 (pl_cr xa xc i j)) (y := xh f) (a := 8) (b := 2000000000000000) (by omega) (by omega) (by decide) (by decide)
                              have o3 := ab_mul (x := (ab1 (pl_cr xa xc j f) * xh i + ab1 (pl_cr xa xc f i) * xh j + ab1 (pl_cr xa xc i j) * xh f)) (y := b2) (a := 48000000000000000) (b := 32) (by omega) (by omega) (by decide) (by decide)
                              have o4 := ab_mul (x := t2) (y := (ab1 (pl_cr xa xc j f) + ab1 (pl_cr xa xc f i) + ab1 (pl_cr xa xc i j))) (a := 80000000000000000) (b := 24) (by omega) (by omega) (by decide) (by decide)
                              have pos : 0 < (ab1 (pl_cr xa xc j f) + ab1 (pl_cr xa xc f i) + ab1 (pl_cr xa xc i j)) := by
                                have z1 : ab1 (pl_cr xa xc i j) ≠ 0 := fun z => absurd (ab1_0.mp z) (by omega)
                                omega
                              refine s_aload_n rfl (cn rfl) rfl ?_
                              refine s_iload_n rfl (cn rfl) rfl ?_
                              refine s_iload_n rfl (cn rfl) rfl ?_
                              refine s_iload rfl (cn rfl) rfl ?_
                              refine s_lload rfl (cn rfl) rfl ?_
                              refine s_abs rfl (cn rfl) rfl ⟨by omega, by omega⟩ ?_
                              refine s_lload rfl (cn rfl) rfl ?_
                              refine s_abs rfl (cn rfl) rfl ⟨by omega, by omega⟩ ?_
                              refine s_lload_n rfl (cn rfl) rfl ?_
                              refine s_abs rfl (cn rfl) rfl ⟨by omega, by omega⟩ ?_
                              refine s_virt rfl (cn rfl) rfl rfl c13 rfl (v_three_13 (i := i) (j := j) (k := f) (f1 := ab1 (pl_cr xa xc j f)) (f2 := ab1 (pl_cr xa xc f i)) (f3 := ab1 (pl_cr xa xc i j)) hoc c13 c24 c25 c26 c27 hq hp (by omega) (by omega) (by omega) (by omega) (by omega) (by omega)) ?_
                              rintro _ _ ⟨rfl, h3', s3, t3, b3, rfl, hf3, d13, hn3, he3, hl3⟩
                              have hB3 := BP_s hB2 pos hn3 he3 hl3
                              refine s_iinc rfl (cn rfl) rfl ?_
                              refine s_goto rfl (ch rfl) ?_
                              first
                                | exact ih27 (by omega) _ _ (by omega) _ s2 t2 b2 c13 hf (BP_cg hB2 (fun s t b => or_congr_right ⟨fun ⟨k, m, e, k1, k2, k3, k4, k5⟩ => ⟨k, m, e, k1, k2, k3, by omega, k5⟩, fun ⟨k, m, e, k1, k2, k3, k4, k5, k6⟩ => ⟨k, m, e, k1, k2, k3, by
                                  by_cases z : k = i ∧ m = j ∧ e = f
                                  · obtain ⟨rfl, rfl, rfl⟩ := z; unfold R3c at k5; omega
                                  · omega, k5, k6⟩⟩)) hbd
                                | exact ih27 (by omega) _ _ (by omega) _ s3 t3 b3 d13 (fr_t hf hf3 (by decide)) (BP_cg hB3 (fun s t b => ⟨fun q => by
                                  rcases q with (q | ⟨k, m, e, k1, k2, k3, k4, k5⟩) | ⟨rfl, rfl, rfl⟩
                                  · exact Or.inl q
                                  · exact Or.inr ⟨k, m, e, k1, k2, k3, by omega, k5⟩
                                  · exact Or.inr ⟨i, j, f, by omega, by omega, by omega, by omega, by unfold R3c; omega, rfl, rfl, rfl⟩, fun q => by
                                  rcases q with q | ⟨k, m, e, k1, k2, k3, k4, k5, rfl, rfl, rfl⟩
                                  · exact Or.inl (Or.inl q)
                                  · by_cases z : k = i ∧ m = j ∧ e = f
                                    · obtain ⟨rfl, rfl, rfl⟩ := z; exact Or.inr ⟨rfl, rfl, rfl⟩
                                    · exact Or.inl (Or.inr ⟨k, m, e, k1, k2, k3, by omega, k5, rfl, rfl, rfl⟩)⟩)) (by omega)
            exact lp27 (j + 1) (by omega) _ _ (Nat.le_refl _) _ s2 t2 b2 c13 hf (BP_cg hB2 (fun s t b => or_congr_right ⟨fun ⟨k, m, e, k1, k2, k3, k4, k5⟩ => ⟨k, m, e, k1, k2, k3, by omega, k5⟩, fun ⟨k, m, e, k1, k2, k3, k4, k5⟩ => ⟨k, m, e, k1, k2, k3, by omega, k5⟩⟩)) hbd
        exact lp14 (i + 1) (by omega) _ _ _ _ (Nat.le_refl _) _ s2 t2 b2 c13 hf (BP_cg hB2 (fun s t b => or_congr_right ⟨fun ⟨k, m, e, k1, k2, k3, k4, k5⟩ => ⟨k, m, e, k1, k2, k3, by omega, k5⟩, fun ⟨k, m, e, k1, k2, k3, k4, k5⟩ => ⟨k, m, e, k1, k2, k3, by omega, k5⟩⟩)) hbd
  exact lp2 0 (by omega) _ _ _ _ _ _ s bt bb c13 fr_r (BP_cg hB (fun s t b => ⟨Or.inl, fun q => q.resolve_right (fun ⟨k, m, e, k1, k2, k3, k4, _⟩ => absurd k4 (by omega))⟩)) hbd0
theorem v_three_28 {d N S : Nat} {h : Nat → Option rr_E} {ku wc op bt bb : Int} {s oc : Nat} (hoc : oc ≤ 14) (c28 : h 28 = some (ST28 ku wc op (oc : Int) (s : Int) bt bb)) {q0 xa xc xh : Nat → Int} {pt : Nat → Nat} (c39 : h 39 = some (.inl (0, 14, .inl (fun k => ii (q0 k))))) (c40 : h 40 = some (.inl (1, 14, .inr (.inl (fun k => jj (xa k)))))) (c41 : h 41 = some (.inl (1, 14, .inr (.inl (fun k => jj (xc k)))))) (c42 : h 42 = some (.inl (1, 14, .inr (.inl (fun k => jj (xh k)))))) (hq : ∀ k, k < oc → q0 k = ((pt k : Nat) : Int)) (hp : ∀ k, k < oc → pt k < 15) {i j k : Nat} {f1 f2 f3 : Int} (hi : i < oc) (hj : j < oc) (hk : k < oc) (h1 : b6 ((f1 * xh i + f2 * xh j + f3 * xh k) * bb)) (h2 : b6 (bt * (f1 + f2 + f3))) (h3 : b6 bb) : rr_Calls (d + 2) j_Stages_offerThree [.ref 28, .int (ii (i : Int)), .int (ii (j : Int)), .int (ii (k : Int)), .long (jj f1), .long (jj f2), .long (jj f3)] (N, S, h) (fun r R => r = none ∧ ∃ (h' : Nat → Option rr_E) (s' : Nat) (t' b' : Int), R = (N, S, h') ∧ fr [28] h h' ∧ h' 28 = some (ST28 ku wc op (oc : Int) (s' : Int) t' b') ∧ (bb = 0 ∨ bt * (f1 + f2 + f3) < (f1 * xh i + f2 * xh j + f3 * xh k) * bb → s' = (2 ^ pt i ||| 2 ^ pt j ||| 2 ^ pt k) ∧ t' = (f1 * xh i + f2 * xh j + f3 * xh k) ∧ b' = (f1 + f2 + f3)) ∧ (bb ≠ 0 → (f1 * xh i + f2 * xh j + f3 * xh k) * bb = bt * (f1 + f2 + f3) → s' = s ||| (2 ^ pt i ||| 2 ^ pt j ||| 2 ^ pt k) ∧ t' = bt ∧ b' = bb) ∧ (bb ≠ 0 → (f1 * xh i + f2 * xh j + f3 * xh k) * bb < bt * (f1 + f2 + f3) → s' = s ∧ t' = bt ∧ b' = bb)) := by
  refine rr_meth (C := K_Stages_offerThree) (hd := h_Stages_offerThree) (mx := 10) rfl rfl (fun K hK => ?_)
  have p1 := hp i hi
  have p2 := hp j hj
  have p3 := hp k hk
  refine hK _ _ _ _ ?_
  refine s_aload_n rfl (cn rfl) rfl ?_
  refine s_iconst rfl (cn rfl) ?_
  refine s_aload_n rfl (cn rfl) rfl ?_
  refine s_getfield rfl (cn rfl) c28 rfl ?_
  refine s_iload_n rfl (cn rfl) rfl ?_
  refine s_iaload rfl (cn rfl) _ rfl c39 rfl (by omega) (by decide) (congrArg ii (hq i hi)) ?_
  refine s_ishl rfl (cn rfl) _ (bi_shl1 (by omega)) ?_
  refine s_iconst rfl (cn rfl) ?_
  refine s_aload_n rfl (cn rfl) rfl ?_
  refine s_getfield rfl (cn rfl) c28 rfl ?_
  refine s_iload_n rfl (cn rfl) rfl ?_
  refine s_iaload rfl (cn rfl) _ rfl c39 rfl (by omega) (by decide) (congrArg ii (hq j hj)) ?_
  refine s_ishl rfl (cn rfl) _ (bi_shl1 (by omega)) ?_
  refine s_ior rfl (cn rfl) _ (bi_or _ _) ?_
  refine s_iconst rfl (cn rfl) ?_
  refine s_aload_n rfl (cn rfl) rfl ?_
  refine s_getfield rfl (cn rfl) c28 rfl ?_
  refine s_iload_n rfl (cn rfl) rfl ?_
  refine s_iaload rfl (cn rfl) _ rfl c39 rfl (by omega) (by decide) (congrArg ii (hq k hk)) ?_
  refine s_ishl rfl (cn rfl) _ (bi_shl1 (by omega)) ?_
  refine s_ior rfl (cn rfl) _ (bi_or _ _) ?_
  refine s_lload rfl (cn rfl) rfl ?_
  refine s_aload_n rfl (cn rfl) rfl ?_
  refine s_getfield rfl (cn rfl) c28 rfl ?_
  refine s_iload_n rfl (cn rfl) rfl ?_
  refine s_laload rfl (cn rfl) _ rfl c42 (by omega) (by decide) rfl ?_
  refine s_lmul rfl (cn rfl) ?_
  refine s_lload rfl (cn rfl) rfl ?_
  refine s_aload_n rfl (cn rfl) rfl ?_
  refine s_getfield rfl (cn rfl) c28 rfl ?_
  refine s_iload_n rfl (cn rfl) rfl ?_
  refine s_laload rfl (cn rfl) _ rfl c42 (by omega) (by decide) rfl ?_
  refine s_lmul rfl (cn rfl) ?_
  refine s_ladd rfl (cn rfl) ?_
  refine s_lload rfl (cn rfl) rfl ?_
  refine s_aload_n rfl (cn rfl) rfl ?_
  refine s_getfield rfl (cn rfl) c28 rfl ?_
  refine s_iload_n rfl (cn rfl) rfl ?_
  refine s_laload rfl (cn rfl) _ rfl c42 (by omega) (by decide) rfl ?_
  refine s_lmul rfl (cn rfl) ?_
  refine s_ladd rfl (cn rfl) ?_
  refine s_lload rfl (cn rfl) rfl ?_
  refine s_lload rfl (cn rfl) rfl ?_
  refine s_ladd rfl (cn rfl) ?_
  refine s_lload rfl (cn rfl) rfl ?_
  refine s_ladd rfl (cn rfl) ?_
  refine s_virt rfl (cn rfl) rfl rfl c28 rfl (v_offer_28 (s0 := (2 ^ pt i ||| 2 ^ pt j ||| 2 ^ pt k)) (t0 := (f1 * xh i + f2 * xh j + f3 * xh k)) (b0 := (f1 + f2 + f3)) c28 h1 h2 h3) ?_
  rintro _ _ ⟨rfl, h3', s3, t3, b3, rfl, hf3, d3, hn3, he3, hl3⟩
  refine s_return rfl ?_
  exact ⟨rfl, h3', s3, t3, b3, rfl, hf3, d3, hn3, he3, hl3⟩
theorem v_triples_28 {d N S : Nat} {h : Nat → Option rr_E} {ku op bt bb : Int} {s oc wc : Nat} (hoc : oc ≤ 14) (c28 : h 28 = some (ST28 ku (wc : Int) op (oc : Int) (s : Int) bt bb)) {q0 xa xc xh : Nat → Int} {pt : Nat → Nat} (c39 : h 39 = some (.inl (0, 14, .inl (fun k => ii (q0 k))))) (c40 : h 40 = some (.inl (1, 14, .inr (.inl (fun k => jj (xa k)))))) (c41 : h 41 = some (.inl (1, 14, .inr (.inl (fun k => jj (xc k)))))) (c42 : h 42 = some (.inl (1, 14, .inr (.inl (fun k => jj (xh k)))))) (hq : ∀ k, k < oc → q0 k = ((pt k : Nat) : Int)) (hp : ∀ k, k < oc → pt k < 15) {P0 : Nat → Int → Int → Prop} (hB : BP P0 s bt bb) (hh : ∀ k, k < oc → -2000000000000000 ≤ xh k ∧ xh k ≤ 2000000000000000) (hbd0 : (0 ≤ bb ∧ bb ≤ 32) ∧ (-80000000000000000 ≤ bt ∧ bt ≤ 80000000000000000)) (hx2 : 1 < wc → ∀ k, k < oc → (-2 ≤ xa k ∧ xa k ≤ 2) ∧ (-2 ≤ xc k ∧ xc k ≤ 2)) (hz : wc ≤ 1 → ∀ k, k < oc → xc k = 0) (hwc : wc ≤ 3) : rr_Calls (d + 3) j_Stages_offerTriples [.ref 28] (N, S, h) (fun r R => r = none ∧ ∃ (h' : Nat → Option rr_E) (s' : Nat) (t' b' : Int), R = (N, S, h') ∧ fr [28] h h' ∧ h' 28 = some (ST28 ku (wc : Int) op (oc : Int) (s' : Int) t' b') ∧ BP (fun s t b => P0 s t b ∨ R3 oc oc 0 0 pt xa xc xh s t b) s' t' b' ∧ (0 ≤ b' ∧ b' ≤ 32) ∧ (-80000000000000000 ≤ t' ∧ t' ≤ 80000000000000000)) := by
  refine rr_meth (C := K_Stages_offerTriples) (hd := h_Stages_offerTriples) (mx := 10) rfl rfl (fun K hK => ?_)
  have c39o := c39
  have c40o := c40
  have c41o := c41
  have c42o := c42
  refine hK _ _ _ _ ?_
  refine s_iconst rfl (cn rfl) ?_
  refine s_istore_n rfl (ch rfl) ?_
  have lp2 : ∀ i : Nat, i ≤ oc → ∀ (l2 l3 l5 l6 l8 : Option Value) (h' : Nat → Option rr_E) (s2 : Nat) (t2 b2 : Int) (c28 : h' 28 = some (ST28 ku (wc : Int) op (oc : Int) (s2 : Int) t2 b2)) (hf : fr [28] h h') (hB2 : BP (fun s t b => P0 s t b ∨ R3 oc i 0 0 pt xa xc xh s t b) s2 t2 b2) (hbd : (0 ≤ b2 ∧ b2 ≤ 32) ∧ (-80000000000000000 ≤ t2 ∧ t2 ≤ 80000000000000000)), K 2 [some (.ref 28), some (.int (ii (i : Int))), l2, l3, none, l5, l6, none, l8, none] [] (N, S, h') := by
    refine dn (fun i hi ih2 => ?_)
    intro l2 l3 l5 l6 l8 h' s2 t2 b2 c28 hf hB2 hbd
    have c39 := (hf 39 (by decide)).trans c39o
    have c40 := (hf 40 (by decide)).trans c40o
    have c41 := (hf 41 (by decide)).trans c41o
    have c42 := (hf 42 (by decide)).trans c42o
    refine hK _ _ _ _ ?_
    refine s_iload_n rfl (cn rfl) rfl ?_
    refine s_aload_n rfl (cn rfl) rfl ?_
    refine s_getfield rfl (cn rfl) c28 rfl ?_
    refine s_icmp_ge rfl (cn rfl) (cn rfl) ⟨by omega, by omega⟩ ⟨by omega, by omega⟩ (fun q5 => ?_) (fun q5 => ?_)
    · refine s_return rfl ?_
      first
        | exact ⟨rfl, h', s2, t2, b2, rfl, hf, c28, by rw [show oc = i by omega] at hB2 ⊢; exact hB2, hbd⟩
        | (have hz2 := hz (by omega)
           refine ⟨rfl, h', s2, t2, b2, rfl, hf, c28, BP_cg hB2 (fun s t b => or_congr_right ⟨fun ⟨k, m, e, k1, k2, k3, k4, k5⟩ => ⟨k, m, e, k1, k2, k3, by omega, k5⟩, fun ⟨k, m, e, k1, k2, k3, k4, k5, k6⟩ => ?_⟩), hbd⟩
           exfalso
           unfold R3c pl_cr at k5
           rw [hz2 k (by omega), hz2 m (by omega), hz2 e (by omega)] at k5
           simp at k5)
    · refine s_aload_n rfl (cn rfl) rfl ?_
      refine s_getfield rfl (cn rfl) c28 rfl ?_
      refine s_iconst rfl (cn rfl) ?_
      refine s_icmp_le rfl (cn rfl) (cn rfl) ⟨by omega, by omega⟩ ⟨by omega, by omega⟩ (fun q9 => ?_) (fun q9 => ?_)
      · refine s_return rfl ?_
        first
          | exact ⟨rfl, h', s2, t2, b2, rfl, hf, c28, by rw [show oc = i by omega] at hB2 ⊢; exact hB2, hbd⟩
          | (have hz2 := hz (by omega)
             refine ⟨rfl, h', s2, t2, b2, rfl, hf, c28, BP_cg hB2 (fun s t b => or_congr_right ⟨fun ⟨k, m, e, k1, k2, k3, k4, k5⟩ => ⟨k, m, e, k1, k2, k3, by omega, k5⟩, fun ⟨k, m, e, k1, k2, k3, k4, k5, k6⟩ => ?_⟩), hbd⟩
             exfalso
             unfold R3c pl_cr at k5
             rw [hz2 k (by omega), hz2 m (by omega), hz2 e (by omega)] at k5
             simp at k5)
      · have hw1 : 1 < wc := by omega
        refine s_iload_n rfl (cn rfl) rfl ?_
        refine s_iconst rfl (cn rfl) ?_
        refine s_iadd rfl (cn rfl) ?_
        refine s_istore_n rfl (ch rfl) ?_
        have lp14 : ∀ j : Nat, j ≤ oc → ∀ (l3 l5 l6 l8 : Option Value) (hj1 : i + 1 ≤ j) (h' : Nat → Option rr_E) (s2 : Nat) (t2 b2 : Int) (c28 : h' 28 = some (ST28 ku (wc : Int) op (oc : Int) (s2 : Int) t2 b2)) (hf : fr [28] h h') (hB2 : BP (fun s t b => P0 s t b ∨ R3 oc i j 0 pt xa xc xh s t b) s2 t2 b2) (hbd : (0 ≤ b2 ∧ b2 ≤ 32) ∧ (-80000000000000000 ≤ t2 ∧ t2 ≤ 80000000000000000)), K 14 [some (.ref 28), some (.int (ii (i : Int))), some (.int (ii (j : Int))), l3, none, l5, l6, none, l8, none] [] (N, S, h') := by
          refine dn (fun j hj ih14 => ?_)
          intro l3 l5 l6 l8 hj1 h' s2 t2 b2 c28 hf hB2 hbd
          have c39 := (hf 39 (by decide)).trans c39o
          have c40 := (hf 40 (by decide)).trans c40o
          have c41 := (hf 41 (by decide)).trans c41o
          have c42 := (hf 42 (by decide)).trans c42o
          refine hK _ _ _ _ ?_
          refine s_iload_n rfl (cn rfl) rfl ?_
          refine s_aload_n rfl (cn rfl) rfl ?_
          refine s_getfield rfl (cn rfl) c28 rfl ?_
          refine s_icmp_ge rfl (cn rfl) (cn rfl) ⟨by omega, by omega⟩ ⟨by omega, by omega⟩ (fun q17 => ?_) (fun q17 => ?_)
          · refine s_iinc rfl (cn rfl) rfl ?_
            refine s_goto rfl (ch rfl) ?_
            exact ih2 (by omega) _ _ _ _ _ _ s2 t2 b2 c28 hf (BP_cg hB2 (fun s t b => or_congr_right ⟨fun ⟨k, m, e, k1, k2, k3, k4, k5⟩ => ⟨k, m, e, k1, k2, k3, by omega, k5⟩, fun ⟨k, m, e, k1, k2, k3, k4, k5⟩ => ⟨k, m, e, k1, k2, k3, by omega, k5⟩⟩)) hbd
          · have eij : pl_cr xa xc i j = xa i * xc j - xc i * xa j := rfl
            have uij := ab_mul (x := xa i) (y := xc j) (a := 2) (b := 2) (hx2 hw1 i (by omega)).1 (hx2 hw1 j (by omega)).2 (by decide) (by decide)
            have wij := ab_mul (x := xc i) (y := xa j) (a := 2) (b := 2) (hx2 hw1 i (by omega)).2 (hx2 hw1 j (by omega)).1 (by decide) (by decide)
            refine s_aload_n rfl (cn rfl) rfl ?_
            refine s_iload_n rfl (cn rfl) rfl ?_
            refine s_iload_n rfl (cn rfl) rfl ?_
            refine s_virt rfl (cn rfl) rfl rfl c28 rfl (v_turn_28 c28 c40 c41 (by omega) (by omega)) ?_
            rintro _ _ ⟨rfl, rfl⟩
            refine s_lstore_n rfl (cn rfl) ?_
            refine s_iload_n rfl (cn rfl) rfl ?_
            refine s_iconst rfl (cn rfl) ?_
            refine s_iadd rfl (cn rfl) ?_
            refine s_istore rfl (ch rfl) ?_
            have lp27 : ∀ f : Nat, f ≤ oc → ∀ (l6 l8 : Option Value) (hf1 : j + 1 ≤ f) (h' : Nat → Option rr_E) (s2 : Nat) (t2 b2 : Int) (c28 : h' 28 = some (ST28 ku (wc : Int) op (oc : Int) (s2 : Int) t2 b2)) (hf : fr [28] h h') (hB2 : BP (fun s t b => P0 s t b ∨ R3 oc i j f pt xa xc xh s t b) s2 t2 b2) (hbd : (0 ≤ b2 ∧ b2 ≤ 32) ∧ (-80000000000000000 ≤ t2 ∧ t2 ≤ 80000000000000000)), K 27 [some (.ref 28), some (.int (ii (i : Int))), some (.int (ii (j : Int))), some (.long (jj (pl_cr xa xc i j))), none, some (.int (ii (f : Int))), l6, none, l8, none] [] (N, S, h') := by
              refine dn (fun f hf ih27 => ?_)
              intro l6 l8 hf1 h' s2 t2 b2 c28 hf hB2 hbd
              have c39 := (hf 39 (by decide)).trans c39o
              have c40 := (hf 40 (by decide)).trans c40o
              have c41 := (hf 41 (by decide)).trans c41o
              have c42 := (hf 42 (by decide)).trans c42o
              refine hK _ _ _ _ ?_
              refine s_iload rfl (cn rfl) rfl ?_
              refine s_aload_n rfl (cn rfl) rfl ?_
              refine s_getfield rfl (cn rfl) c28 rfl ?_
              refine s_icmp_ge rfl (cn rfl) (cn rfl) ⟨by omega, by omega⟩ ⟨by omega, by omega⟩ (fun q30 => ?_) (fun q30 => ?_)
              · refine s_iinc rfl (cn rfl) rfl ?_
                refine s_goto rfl (ch rfl) ?_
                exact ih14 (by omega) _ _ _ _ (by omega) _ s2 t2 b2 c28 hf (BP_cg hB2 (fun s t b => or_congr_right ⟨fun ⟨k, m, e, k1, k2, k3, k4, k5⟩ => ⟨k, m, e, k1, k2, k3, by omega, k5⟩, fun ⟨k, m, e, k1, k2, k3, k4, k5⟩ => ⟨k, m, e, k1, k2, k3, by omega, k5⟩⟩)) hbd
              · refine s_lload_n rfl (cn rfl) rfl ?_
                refine s_lconst rfl (cn rfl) 0 (by decide) ?_
                refine s_lcmp rfl (cn rfl) ?_
                refine s_ifl_eq rfl (cn rfl) (cn rfl) ⟨by omega, by omega⟩ ⟨by omega, by omega⟩ (fun q34 => ?_) (fun q34 => ?_)
                · refine s_iinc rfl (cn rfl) rfl ?_
                  refine s_goto rfl (ch rfl) ?_
                  exact ih14 (by omega) _ _ _ _ (by omega) _ s2 t2 b2 c28 hf (BP_cg hB2 (fun s t b => or_congr_right ⟨fun ⟨k, m, e, k1, k2, k3, k4, k5⟩ => ⟨k, m, e, k1, k2, k3, by omega, k5⟩, fun ⟨k, m, e, k1, k2, k3, k4, k5, k6⟩ => ⟨k, m, e, k1, k2, k3, by
                      by_cases z : k = i ∧ m = j
                      · obtain ⟨rfl, rfl⟩ := z; unfold R3c at k5; omega
                      · omega, k5, k6⟩⟩)) hbd
                · have ejf : pl_cr xa xc j f = xa j * xc f - xc j * xa f := rfl
                  have ujf := ab_mul (x := xa j) (y := xc f) (a := 2) (b := 2) (hx2 hw1 j (by omega)).1 (hx2 hw1 f (by omega)).2 (by decide) (by decide)
                  have wjf := ab_mul (x := xc j) (y := xa f) (a := 2) (b := 2) (hx2 hw1 j (by omega)).2 (hx2 hw1 f (by omega)).1 (by decide) (by decide)
                  have efi : pl_cr xa xc f i = xa f * xc i - xc f * xa i := rfl
                  have ufi := ab_mul (x := xa f) (y := xc i) (a := 2) (b := 2) (hx2 hw1 f (by omega)).1 (hx2 hw1 i (by omega)).2 (by decide) (by decide)
                  have wfi := ab_mul (x := xc f) (y := xa i) (a := 2) (b := 2) (hx2 hw1 f (by omega)).2 (hx2 hw1 i (by omega)).1 (by decide) (by decide)
                  refine s_aload_n rfl (cn rfl) rfl ?_
                  refine s_iload_n rfl (cn rfl) rfl ?_
                  refine s_iload rfl (cn rfl) rfl ?_
                  refine s_virt rfl (cn rfl) rfl rfl c28 rfl (v_turn_28 c28 c40 c41 (by omega) (by omega)) ?_
                  rintro _ _ ⟨rfl, rfl⟩
                  refine s_lstore rfl (cn rfl) ?_
                  refine s_aload_n rfl (cn rfl) rfl ?_
                  refine s_iload rfl (cn rfl) rfl ?_
                  refine s_iload_n rfl (cn rfl) rfl ?_
                  refine s_virt rfl (cn rfl) rfl rfl c28 rfl (v_turn_28 c28 c40 c41 (by omega) (by omega)) ?_
                  rintro _ _ ⟨rfl, rfl⟩
                  refine s_lstore rfl (cn rfl) ?_
                  refine s_lload rfl (cn rfl) rfl ?_
                  refine s_lconst rfl (cn rfl) 0 (by decide) ?_
                  refine s_lcmp rfl (cn rfl) ?_
                  refine s_ifl_le rfl (cn rfl) (cn rfl) ⟨by omega, by omega⟩ ⟨by omega, by omega⟩ (fun q48 => ?_) (fun q48 => ?_)
                  · refine s_lload rfl (cn rfl) rfl ?_
                    refine s_lconst rfl (cn rfl) 0 (by decide) ?_
                    refine s_lcmp rfl (cn rfl) ?_
                    refine s_ifl_ge rfl (cn rfl) (cn rfl) ⟨by omega, by omega⟩ ⟨by omega, by omega⟩ (fun q60 => ?_) (fun q60 => ?_)
                    · refine s_iinc rfl (cn rfl) rfl ?_
                      refine s_goto rfl (ch rfl) ?_
                      first
                        | exact ih27 (by omega) _ _ (by omega) _ s2 t2 b2 c28 hf (BP_cg hB2 (fun s t b => or_congr_right ⟨fun ⟨k, m, e, k1, k2, k3, k4, k5⟩ => ⟨k, m, e, k1, k2, k3, by omega, k5⟩, fun ⟨k, m, e, k1, k2, k3, k4, k5, k6⟩ => ⟨k, m, e, k1, k2, k3, by
                          by_cases z : k = i ∧ m = j ∧ e = f
                          · obtain ⟨rfl, rfl, rfl⟩ := z; unfold R3c at k5; omega
                          · omega, k5, k6⟩⟩)) hbd
                        | exact ih27 (by omega) _ _ (by omega) _ s3 t3 b3 d28 (fr_t hf hf3 (by decide)) (BP_cg hB3 (fun s t b => ⟨fun q => by
                          rcases q with (q | ⟨k, m, e, k1, k2, k3, k4, k5⟩) | ⟨rfl, rfl, rfl⟩
                          · exact Or.inl q
                          · exact Or.inr ⟨k, m, e, k1, k2, k3, by omega, k5⟩
                          · exact Or.inr ⟨i, j, f, by omega, by omega, by omega, by omega, by unfold R3c; omega, rfl, rfl, rfl⟩, fun q => by
                          rcases q with q | ⟨k, m, e, k1, k2, k3, k4, k5, rfl, rfl, rfl⟩
                          · exact Or.inl (Or.inl q)
                          · by_cases z : k = i ∧ m = j ∧ e = f
                            · obtain ⟨rfl, rfl, rfl⟩ := z; exact Or.inr ⟨rfl, rfl, rfl⟩
                            · exact Or.inl (Or.inr ⟨k, m, e, k1, k2, k3, by omega, k5, rfl, rfl, rfl⟩)⟩)) (by omega)
                    · refine s_lload rfl (cn rfl) rfl ?_
                      refine s_lconst rfl (cn rfl) 0 (by decide) ?_
                      refine s_lcmp rfl (cn rfl) ?_
                      refine s_ifl_ge rfl (cn rfl) (cn rfl) ⟨by omega, by omega⟩ ⟨by omega, by omega⟩ (fun q64 => ?_) (fun q64 => ?_)
                      · refine s_iinc rfl (cn rfl) rfl ?_
                        refine s_goto rfl (ch rfl) ?_
                        first
                          | exact ih27 (by omega) _ _ (by omega) _ s2 t2 b2 c28 hf (BP_cg hB2 (fun s t b => or_congr_right ⟨fun ⟨k, m, e, k1, k2, k3, k4, k5⟩ => ⟨k, m, e, k1, k2, k3, by omega, k5⟩, fun ⟨k, m, e, k1, k2, k3, k4, k5, k6⟩ => ⟨k, m, e, k1, k2, k3, by
                            by_cases z : k = i ∧ m = j ∧ e = f
                            · obtain ⟨rfl, rfl, rfl⟩ := z; unfold R3c at k5; omega
                            · omega, k5, k6⟩⟩)) hbd
                          | exact ih27 (by omega) _ _ (by omega) _ s3 t3 b3 d28 (fr_t hf hf3 (by decide)) (BP_cg hB3 (fun s t b => ⟨fun q => by
                            rcases q with (q | ⟨k, m, e, k1, k2, k3, k4, k5⟩) | ⟨rfl, rfl, rfl⟩
                            · exact Or.inl q
                            · exact Or.inr ⟨k, m, e, k1, k2, k3, by omega, k5⟩
                            · exact Or.inr ⟨i, j, f, by omega, by omega, by omega, by omega, by unfold R3c; omega, rfl, rfl, rfl⟩, fun q => by
                            rcases q with q | ⟨k, m, e, k1, k2, k3, k4, k5, rfl, rfl, rfl⟩
                            · exact Or.inl (Or.inl q)
                            · by_cases z : k = i ∧ m = j ∧ e = f
                              · obtain ⟨rfl, rfl, rfl⟩ := z; exact Or.inr ⟨rfl, rfl, rfl⟩
                              · exact Or.inl (Or.inr ⟨k, m, e, k1, k2, k3, by omega, k5, rfl, rfl, rfl⟩)⟩)) (by omega)
                      · refine s_lload_n rfl (cn rfl) rfl ?_
                        refine s_lconst rfl (cn rfl) 0 (by decide) ?_
                        refine s_lcmp rfl (cn rfl) ?_
                        refine s_ifl_ge rfl (cn rfl) (cn rfl) ⟨by omega, by omega⟩ ⟨by omega, by omega⟩ (fun q68 => ?_) (fun q68 => ?_)
                        · refine s_iinc rfl (cn rfl) rfl ?_
                          refine s_goto rfl (ch rfl) ?_
                          first
                            | exact ih27 (by omega) _ _ (by omega) _ s2 t2 b2 c28 hf (BP_cg hB2 (fun s t b => or_congr_right ⟨fun ⟨k, m, e, k1, k2, k3, k4, k5⟩ => ⟨k, m, e, k1, k2, k3, by omega, k5⟩, fun ⟨k, m, e, k1, k2, k3, k4, k5, k6⟩ => ⟨k, m, e, k1, k2, k3, by
                              by_cases z : k = i ∧ m = j ∧ e = f
                              · obtain ⟨rfl, rfl, rfl⟩ := z; unfold R3c at k5; omega
                              · omega, k5, k6⟩⟩)) hbd
                            | exact ih27 (by omega) _ _ (by omega) _ s3 t3 b3 d28 (fr_t hf hf3 (by decide)) (BP_cg hB3 (fun s t b => ⟨fun q => by
                              rcases q with (q | ⟨k, m, e, k1, k2, k3, k4, k5⟩) | ⟨rfl, rfl, rfl⟩
                              · exact Or.inl q
                              · exact Or.inr ⟨k, m, e, k1, k2, k3, by omega, k5⟩
                              · exact Or.inr ⟨i, j, f, by omega, by omega, by omega, by omega, by unfold R3c; omega, rfl, rfl, rfl⟩, fun q => by
                              rcases q with q | ⟨k, m, e, k1, k2, k3, k4, k5, rfl, rfl, rfl⟩
                              · exact Or.inl (Or.inl q)
                              · by_cases z : k = i ∧ m = j ∧ e = f
                                · obtain ⟨rfl, rfl, rfl⟩ := z; exact Or.inr ⟨rfl, rfl, rfl⟩
                                · exact Or.inl (Or.inr ⟨k, m, e, k1, k2, k3, by omega, k5, rfl, rfl, rfl⟩)⟩)) (by omega)
                        · have n1 := ab1_b (a := 8) (show -8 ≤ pl_cr xa xc j f ∧ pl_cr xa xc j f ≤ 8 by omega)
                          have n2 := ab1_b (a := 8) (show -8 ≤ pl_cr xa xc f i ∧ pl_cr xa xc f i ≤ 8 by omega)
                          have n3 := ab1_b (a := 8) (show -8 ≤ pl_cr xa xc i j ∧ pl_cr xa xc i j ≤ 8 by omega)
                          have h1 := hh i (by omega)
                          have h2 := hh j (by omega)
                          have h3 := hh f (by omega)
                          have o1 := ab_mul (x := ab1 (pl_cr xa xc j f)) (y := xh i) (a := 8) (b := 2000000000000000) (by omega) (by omega) (by decide) (by decide)
                          have o2 := ab_mul (x := ab1 (pl_cr xa xc f i)) (y := xh j) (a := 8) (b := 2000000000000000) (by omega) (by omega) (by decide) (by decide)
                          have o5 := ab_mul (x := ab1 (pl_cr xa xc i j)) (y := xh f) (a := 8) (b := 2000000000000000) (by omega) (by omega) (by decide) (by decide)
                          have o3 := ab_mul (x := (ab1 (pl_cr xa xc j f) * xh i + ab1 (pl_cr xa xc f i) * xh j + ab1 (pl_cr xa xc i j) * xh f)) (y := b2) (a := 48000000000000000) (b := 32) (by omega) (by omega) (by decide) (by decide)
                          have o4 := ab_mul (x := t2) (y := (ab1 (pl_cr xa xc j f) + ab1 (pl_cr xa xc f i) + ab1 (pl_cr xa xc i j))) (a := 80000000000000000) (b := 24) (by omega) (by omega) (by decide) (by decide)
                          have pos : 0 < (ab1 (pl_cr xa xc j f) + ab1 (pl_cr xa xc f i) + ab1 (pl_cr xa xc i j)) := by
                            have z1 : ab1 (pl_cr xa xc i j) ≠ 0 := fun z => absurd (ab1_0.mp z) (by omega)
                            omega
                          refine s_aload_n rfl (cn rfl) rfl ?_
                          refine s_iload_n rfl (cn rfl) rfl ?_
                          refine s_iload_n rfl (cn rfl) rfl ?_
                          refine s_iload rfl (cn rfl) rfl ?_
                          refine s_lload rfl (cn rfl) rfl ?_
                          refine s_abs rfl (cn rfl) rfl ⟨by omega, by omega⟩ ?_
                          refine s_lload rfl (cn rfl) rfl ?_
                          refine s_abs rfl (cn rfl) rfl ⟨by omega, by omega⟩ ?_
                          refine s_lload_n rfl (cn rfl) rfl ?_
                          refine s_abs rfl (cn rfl) rfl ⟨by omega, by omega⟩ ?_
                          refine s_virt rfl (cn rfl) rfl rfl c28 rfl (v_three_28 (i := i) (j := j) (k := f) (f1 := ab1 (pl_cr xa xc j f)) (f2 := ab1 (pl_cr xa xc f i)) (f3 := ab1 (pl_cr xa xc i j)) hoc c28 c39 c40 c41 c42 hq hp (by omega) (by omega) (by omega) (by omega) (by omega) (by omega)) ?_
                          rintro _ _ ⟨rfl, h3', s3, t3, b3, rfl, hf3, d28, hn3, he3, hl3⟩
                          have hB3 := BP_s hB2 pos hn3 he3 hl3
                          refine s_iinc rfl (cn rfl) rfl ?_
                          refine s_goto rfl (ch rfl) ?_
                          first
                            | exact ih27 (by omega) _ _ (by omega) _ s2 t2 b2 c28 hf (BP_cg hB2 (fun s t b => or_congr_right ⟨fun ⟨k, m, e, k1, k2, k3, k4, k5⟩ => ⟨k, m, e, k1, k2, k3, by omega, k5⟩, fun ⟨k, m, e, k1, k2, k3, k4, k5, k6⟩ => ⟨k, m, e, k1, k2, k3, by
                              by_cases z : k = i ∧ m = j ∧ e = f
                              · obtain ⟨rfl, rfl, rfl⟩ := z; unfold R3c at k5; omega
                              · omega, k5, k6⟩⟩)) hbd
                            | exact ih27 (by omega) _ _ (by omega) _ s3 t3 b3 d28 (fr_t hf hf3 (by decide)) (BP_cg hB3 (fun s t b => ⟨fun q => by
                              rcases q with (q | ⟨k, m, e, k1, k2, k3, k4, k5⟩) | ⟨rfl, rfl, rfl⟩
                              · exact Or.inl q
                              · exact Or.inr ⟨k, m, e, k1, k2, k3, by omega, k5⟩
                              · exact Or.inr ⟨i, j, f, by omega, by omega, by omega, by omega, by unfold R3c; omega, rfl, rfl, rfl⟩, fun q => by
                              rcases q with q | ⟨k, m, e, k1, k2, k3, k4, k5, rfl, rfl, rfl⟩
                              · exact Or.inl (Or.inl q)
                              · by_cases z : k = i ∧ m = j ∧ e = f
                                · obtain ⟨rfl, rfl, rfl⟩ := z; exact Or.inr ⟨rfl, rfl, rfl⟩
                                · exact Or.inl (Or.inr ⟨k, m, e, k1, k2, k3, by omega, k5, rfl, rfl, rfl⟩)⟩)) (by omega)
                  · refine s_lload rfl (cn rfl) rfl ?_
                    refine s_lconst rfl (cn rfl) 0 (by decide) ?_
                    refine s_lcmp rfl (cn rfl) ?_
                    refine s_ifl_le rfl (cn rfl) (cn rfl) ⟨by omega, by omega⟩ ⟨by omega, by omega⟩ (fun q52 => ?_) (fun q52 => ?_)
                    · refine s_lload rfl (cn rfl) rfl ?_
                      refine s_lconst rfl (cn rfl) 0 (by decide) ?_
                      refine s_lcmp rfl (cn rfl) ?_
                      refine s_ifl_ge rfl (cn rfl) (cn rfl) ⟨by omega, by omega⟩ ⟨by omega, by omega⟩ (fun q60 => ?_) (fun q60 => ?_)
                      · refine s_iinc rfl (cn rfl) rfl ?_
                        refine s_goto rfl (ch rfl) ?_
                        first
                          | exact ih27 (by omega) _ _ (by omega) _ s2 t2 b2 c28 hf (BP_cg hB2 (fun s t b => or_congr_right ⟨fun ⟨k, m, e, k1, k2, k3, k4, k5⟩ => ⟨k, m, e, k1, k2, k3, by omega, k5⟩, fun ⟨k, m, e, k1, k2, k3, k4, k5, k6⟩ => ⟨k, m, e, k1, k2, k3, by
                            by_cases z : k = i ∧ m = j ∧ e = f
                            · obtain ⟨rfl, rfl, rfl⟩ := z; unfold R3c at k5; omega
                            · omega, k5, k6⟩⟩)) hbd
                          | exact ih27 (by omega) _ _ (by omega) _ s3 t3 b3 d28 (fr_t hf hf3 (by decide)) (BP_cg hB3 (fun s t b => ⟨fun q => by
                            rcases q with (q | ⟨k, m, e, k1, k2, k3, k4, k5⟩) | ⟨rfl, rfl, rfl⟩
                            · exact Or.inl q
                            · exact Or.inr ⟨k, m, e, k1, k2, k3, by omega, k5⟩
                            · exact Or.inr ⟨i, j, f, by omega, by omega, by omega, by omega, by unfold R3c; omega, rfl, rfl, rfl⟩, fun q => by
                            rcases q with q | ⟨k, m, e, k1, k2, k3, k4, k5, rfl, rfl, rfl⟩
                            · exact Or.inl (Or.inl q)
                            · by_cases z : k = i ∧ m = j ∧ e = f
                              · obtain ⟨rfl, rfl, rfl⟩ := z; exact Or.inr ⟨rfl, rfl, rfl⟩
                              · exact Or.inl (Or.inr ⟨k, m, e, k1, k2, k3, by omega, k5, rfl, rfl, rfl⟩)⟩)) (by omega)
                      · refine s_lload rfl (cn rfl) rfl ?_
                        refine s_lconst rfl (cn rfl) 0 (by decide) ?_
                        refine s_lcmp rfl (cn rfl) ?_
                        refine s_ifl_ge rfl (cn rfl) (cn rfl) ⟨by omega, by omega⟩ ⟨by omega, by omega⟩ (fun q64 => ?_) (fun q64 => ?_)
                        · refine s_iinc rfl (cn rfl) rfl ?_
                          refine s_goto rfl (ch rfl) ?_
                          first
                            | exact ih27 (by omega) _ _ (by omega) _ s2 t2 b2 c28 hf (BP_cg hB2 (fun s t b => or_congr_right ⟨fun ⟨k, m, e, k1, k2, k3, k4, k5⟩ => ⟨k, m, e, k1, k2, k3, by omega, k5⟩, fun ⟨k, m, e, k1, k2, k3, k4, k5, k6⟩ => ⟨k, m, e, k1, k2, k3, by
                              by_cases z : k = i ∧ m = j ∧ e = f
                              · obtain ⟨rfl, rfl, rfl⟩ := z; unfold R3c at k5; omega
                              · omega, k5, k6⟩⟩)) hbd
                            | exact ih27 (by omega) _ _ (by omega) _ s3 t3 b3 d28 (fr_t hf hf3 (by decide)) (BP_cg hB3 (fun s t b => ⟨fun q => by
                              rcases q with (q | ⟨k, m, e, k1, k2, k3, k4, k5⟩) | ⟨rfl, rfl, rfl⟩
                              · exact Or.inl q
                              · exact Or.inr ⟨k, m, e, k1, k2, k3, by omega, k5⟩
                              · exact Or.inr ⟨i, j, f, by omega, by omega, by omega, by omega, by unfold R3c; omega, rfl, rfl, rfl⟩, fun q => by
                              rcases q with q | ⟨k, m, e, k1, k2, k3, k4, k5, rfl, rfl, rfl⟩
                              · exact Or.inl (Or.inl q)
                              · by_cases z : k = i ∧ m = j ∧ e = f
                                · obtain ⟨rfl, rfl, rfl⟩ := z; exact Or.inr ⟨rfl, rfl, rfl⟩
                                · exact Or.inl (Or.inr ⟨k, m, e, k1, k2, k3, by omega, k5, rfl, rfl, rfl⟩)⟩)) (by omega)
                        · refine s_lload_n rfl (cn rfl) rfl ?_
                          refine s_lconst rfl (cn rfl) 0 (by decide) ?_
                          refine s_lcmp rfl (cn rfl) ?_
                          refine s_ifl_ge rfl (cn rfl) (cn rfl) ⟨by omega, by omega⟩ ⟨by omega, by omega⟩ (fun q68 => ?_) (fun q68 => ?_)
                          · refine s_iinc rfl (cn rfl) rfl ?_
                            refine s_goto rfl (ch rfl) ?_
                            first
                              | exact ih27 (by omega) _ _ (by omega) _ s2 t2 b2 c28 hf (BP_cg hB2 (fun s t b => or_congr_right ⟨fun ⟨k, m, e, k1, k2, k3, k4, k5⟩ => ⟨k, m, e, k1, k2, k3, by omega, k5⟩, fun ⟨k, m, e, k1, k2, k3, k4, k5, k6⟩ => ⟨k, m, e, k1, k2, k3, by
                                by_cases z : k = i ∧ m = j ∧ e = f
                                · obtain ⟨rfl, rfl, rfl⟩ := z; unfold R3c at k5; omega
                                · omega, k5, k6⟩⟩)) hbd
                              | exact ih27 (by omega) _ _ (by omega) _ s3 t3 b3 d28 (fr_t hf hf3 (by decide)) (BP_cg hB3 (fun s t b => ⟨fun q => by
                                rcases q with (q | ⟨k, m, e, k1, k2, k3, k4, k5⟩) | ⟨rfl, rfl, rfl⟩
                                · exact Or.inl q
                                · exact Or.inr ⟨k, m, e, k1, k2, k3, by omega, k5⟩
                                · exact Or.inr ⟨i, j, f, by omega, by omega, by omega, by omega, by unfold R3c; omega, rfl, rfl, rfl⟩, fun q => by
                                rcases q with q | ⟨k, m, e, k1, k2, k3, k4, k5, rfl, rfl, rfl⟩
                                · exact Or.inl (Or.inl q)
                                · by_cases z : k = i ∧ m = j ∧ e = f
                                  · obtain ⟨rfl, rfl, rfl⟩ := z; exact Or.inr ⟨rfl, rfl, rfl⟩
                                  · exact Or.inl (Or.inr ⟨k, m, e, k1, k2, k3, by omega, k5, rfl, rfl, rfl⟩)⟩)) (by omega)
                          · have n1 := ab1_b (a := 8) (show -8 ≤ pl_cr xa xc j f ∧ pl_cr xa xc j f ≤ 8 by omega)
                            have n2 := ab1_b (a := 8) (show -8 ≤ pl_cr xa xc f i ∧ pl_cr xa xc f i ≤ 8 by omega)
                            have n3 := ab1_b (a := 8) (show -8 ≤ pl_cr xa xc i j ∧ pl_cr xa xc i j ≤ 8 by omega)
                            have h1 := hh i (by omega)
                            have h2 := hh j (by omega)
                            have h3 := hh f (by omega)
                            have o1 := ab_mul (x := ab1 (pl_cr xa xc j f)) (y := xh i) (a := 8) (b := 2000000000000000) (by omega) (by omega) (by decide) (by decide)
                            have o2 := ab_mul (x := ab1 (pl_cr xa xc f i)) (y := xh j) (a := 8) (b := 2000000000000000) (by omega) (by omega) (by decide) (by decide)
                            have o5 := ab_mul (x := ab1 (pl_cr xa xc i j)) (y := xh f) (a := 8) (b := 2000000000000000) (by omega) (by omega) (by decide) (by decide)
                            have o3 := ab_mul (x := (ab1 (pl_cr xa xc j f) * xh i + ab1 (pl_cr xa xc f i) * xh j + ab1 (pl_cr xa xc i j) * xh f)) (y := b2) (a := 48000000000000000) (b := 32) (by omega) (by omega) (by decide) (by decide)
                            have o4 := ab_mul (x := t2) (y := (ab1 (pl_cr xa xc j f) + ab1 (pl_cr xa xc f i) + ab1 (pl_cr xa xc i j))) (a := 80000000000000000) (b := 24) (by omega) (by omega) (by decide) (by decide)
                            have pos : 0 < (ab1 (pl_cr xa xc j f) + ab1 (pl_cr xa xc f i) + ab1 (pl_cr xa xc i j)) := by
                              have z1 : ab1 (pl_cr xa xc i j) ≠ 0 := fun z => absurd (ab1_0.mp z) (by omega)
                              omega
                            refine s_aload_n rfl (cn rfl) rfl ?_
                            refine s_iload_n rfl (cn rfl) rfl ?_
                            refine s_iload_n rfl (cn rfl) rfl ?_
                            refine s_iload rfl (cn rfl) rfl ?_
                            refine s_lload rfl (cn rfl) rfl ?_
                            refine s_abs rfl (cn rfl) rfl ⟨by omega, by omega⟩ ?_
                            refine s_lload rfl (cn rfl) rfl ?_
                            refine s_abs rfl (cn rfl) rfl ⟨by omega, by omega⟩ ?_
                            refine s_lload_n rfl (cn rfl) rfl ?_
                            refine s_abs rfl (cn rfl) rfl ⟨by omega, by omega⟩ ?_
                            refine s_virt rfl (cn rfl) rfl rfl c28 rfl (v_three_28 (i := i) (j := j) (k := f) (f1 := ab1 (pl_cr xa xc j f)) (f2 := ab1 (pl_cr xa xc f i)) (f3 := ab1 (pl_cr xa xc i j)) hoc c28 c39 c40 c41 c42 hq hp (by omega) (by omega) (by omega) (by omega) (by omega) (by omega)) ?_
                            rintro _ _ ⟨rfl, h3', s3, t3, b3, rfl, hf3, d28, hn3, he3, hl3⟩
                            have hB3 := BP_s hB2 pos hn3 he3 hl3
                            refine s_iinc rfl (cn rfl) rfl ?_
                            refine s_goto rfl (ch rfl) ?_
                            first
                              | exact ih27 (by omega) _ _ (by omega) _ s2 t2 b2 c28 hf (BP_cg hB2 (fun s t b => or_congr_right ⟨fun ⟨k, m, e, k1, k2, k3, k4, k5⟩ => ⟨k, m, e, k1, k2, k3, by omega, k5⟩, fun ⟨k, m, e, k1, k2, k3, k4, k5, k6⟩ => ⟨k, m, e, k1, k2, k3, by
                                by_cases z : k = i ∧ m = j ∧ e = f
                                · obtain ⟨rfl, rfl, rfl⟩ := z; unfold R3c at k5; omega
                                · omega, k5, k6⟩⟩)) hbd
                              | exact ih27 (by omega) _ _ (by omega) _ s3 t3 b3 d28 (fr_t hf hf3 (by decide)) (BP_cg hB3 (fun s t b => ⟨fun q => by
                                rcases q with (q | ⟨k, m, e, k1, k2, k3, k4, k5⟩) | ⟨rfl, rfl, rfl⟩
                                · exact Or.inl q
                                · exact Or.inr ⟨k, m, e, k1, k2, k3, by omega, k5⟩
                                · exact Or.inr ⟨i, j, f, by omega, by omega, by omega, by omega, by unfold R3c; omega, rfl, rfl, rfl⟩, fun q => by
                                rcases q with q | ⟨k, m, e, k1, k2, k3, k4, k5, rfl, rfl, rfl⟩
                                · exact Or.inl (Or.inl q)
                                · by_cases z : k = i ∧ m = j ∧ e = f
                                  · obtain ⟨rfl, rfl, rfl⟩ := z; exact Or.inr ⟨rfl, rfl, rfl⟩
                                  · exact Or.inl (Or.inr ⟨k, m, e, k1, k2, k3, by omega, k5, rfl, rfl, rfl⟩)⟩)) (by omega)
                    · refine s_lload_n rfl (cn rfl) rfl ?_
                      refine s_lconst rfl (cn rfl) 0 (by decide) ?_
                      refine s_lcmp rfl (cn rfl) ?_
                      refine s_ifl_gt rfl (cn rfl) (cn rfl) ⟨by omega, by omega⟩ ⟨by omega, by omega⟩ (fun q56 => ?_) (fun q56 => ?_)
                      · have n1 := ab1_b (a := 8) (show -8 ≤ pl_cr xa xc j f ∧ pl_cr xa xc j f ≤ 8 by omega)
                        have n2 := ab1_b (a := 8) (show -8 ≤ pl_cr xa xc f i ∧ pl_cr xa xc f i ≤ 8 by omega)
                        have n3 := ab1_b (a := 8) (show -8 ≤ pl_cr xa xc i j ∧ pl_cr xa xc i j ≤ 8 by omega)
                        have h1 := hh i (by omega)
                        have h2 := hh j (by omega)
                        have h3 := hh f (by omega)
                        have o1 := ab_mul (x := ab1 (pl_cr xa xc j f)) (y := xh i) (a := 8) (b := 2000000000000000) (by omega) (by omega) (by decide) (by decide)
                        have o2 := ab_mul (x := ab1 (pl_cr xa xc f i)) (y := xh j) (a := 8) (b := 2000000000000000) (by omega) (by omega) (by decide) (by decide)
                        have o5 := ab_mul (x := ab1 (pl_cr xa xc i j)) (y := xh f) (a := 8) (b := 2000000000000000) (by omega) (by omega) (by decide) (by decide)
                        have o3 := ab_mul (x := (ab1 (pl_cr xa xc j f) * xh i + ab1 (pl_cr xa xc f i) * xh j + ab1 (pl_cr xa xc i j) * xh f)) (y := b2) (a := 48000000000000000) (b := 32) (by omega) (by omega) (by decide) (by decide)
                        have o4 := ab_mul (x := t2) (y := (ab1 (pl_cr xa xc j f) + ab1 (pl_cr xa xc f i) + ab1 (pl_cr xa xc i j))) (a := 80000000000000000) (b := 24) (by omega) (by omega) (by decide) (by decide)
                        have pos : 0 < (ab1 (pl_cr xa xc j f) + ab1 (pl_cr xa xc f i) + ab1 (pl_cr xa xc i j)) := by
                          have z1 : ab1 (pl_cr xa xc i j) ≠ 0 := fun z => absurd (ab1_0.mp z) (by omega)
                          omega
                        refine s_aload_n rfl (cn rfl) rfl ?_
                        refine s_iload_n rfl (cn rfl) rfl ?_
                        refine s_iload_n rfl (cn rfl) rfl ?_
                        refine s_iload rfl (cn rfl) rfl ?_
                        refine s_lload rfl (cn rfl) rfl ?_
                        refine s_abs rfl (cn rfl) rfl ⟨by omega, by omega⟩ ?_
                        refine s_lload rfl (cn rfl) rfl ?_
                        refine s_abs rfl (cn rfl) rfl ⟨by omega, by omega⟩ ?_
                        refine s_lload_n rfl (cn rfl) rfl ?_
                        refine s_abs rfl (cn rfl) rfl ⟨by omega, by omega⟩ ?_
                        refine s_virt rfl (cn rfl) rfl rfl c28 rfl (v_three_28 (i := i) (j := j) (k := f) (f1 := ab1 (pl_cr xa xc j f)) (f2 := ab1 (pl_cr xa xc f i)) (f3 := ab1 (pl_cr xa xc i j)) hoc c28 c39 c40 c41 c42 hq hp (by omega) (by omega) (by omega) (by omega) (by omega) (by omega)) ?_
                        rintro _ _ ⟨rfl, h3', s3, t3, b3, rfl, hf3, d28, hn3, he3, hl3⟩
                        have hB3 := BP_s hB2 pos hn3 he3 hl3
                        refine s_iinc rfl (cn rfl) rfl ?_
                        refine s_goto rfl (ch rfl) ?_
                        first
                          | exact ih27 (by omega) _ _ (by omega) _ s2 t2 b2 c28 hf (BP_cg hB2 (fun s t b => or_congr_right ⟨fun ⟨k, m, e, k1, k2, k3, k4, k5⟩ => ⟨k, m, e, k1, k2, k3, by omega, k5⟩, fun ⟨k, m, e, k1, k2, k3, k4, k5, k6⟩ => ⟨k, m, e, k1, k2, k3, by
                            by_cases z : k = i ∧ m = j ∧ e = f
                            · obtain ⟨rfl, rfl, rfl⟩ := z; unfold R3c at k5; omega
                            · omega, k5, k6⟩⟩)) hbd
                          | exact ih27 (by omega) _ _ (by omega) _ s3 t3 b3 d28 (fr_t hf hf3 (by decide)) (BP_cg hB3 (fun s t b => ⟨fun q => by
                            rcases q with (q | ⟨k, m, e, k1, k2, k3, k4, k5⟩) | ⟨rfl, rfl, rfl⟩
                            · exact Or.inl q
                            · exact Or.inr ⟨k, m, e, k1, k2, k3, by omega, k5⟩
                            · exact Or.inr ⟨i, j, f, by omega, by omega, by omega, by omega, by unfold R3c; omega, rfl, rfl, rfl⟩, fun q => by
                            rcases q with q | ⟨k, m, e, k1, k2, k3, k4, k5, rfl, rfl, rfl⟩
                            · exact Or.inl (Or.inl q)
                            · by_cases z : k = i ∧ m = j ∧ e = f
                              · obtain ⟨rfl, rfl, rfl⟩ := z; exact Or.inr ⟨rfl, rfl, rfl⟩
                              · exact Or.inl (Or.inr ⟨k, m, e, k1, k2, k3, by omega, k5, rfl, rfl, rfl⟩)⟩)) (by omega)
                      · refine s_lload rfl (cn rfl) rfl ?_
                        refine s_lconst rfl (cn rfl) 0 (by decide) ?_
                        refine s_lcmp rfl (cn rfl) ?_
                        refine s_ifl_ge rfl (cn rfl) (cn rfl) ⟨by omega, by omega⟩ ⟨by omega, by omega⟩ (fun q60 => ?_) (fun q60 => ?_)
                        · refine s_iinc rfl (cn rfl) rfl ?_
                          refine s_goto rfl (ch rfl) ?_
                          first
                            | exact ih27 (by omega) _ _ (by omega) _ s2 t2 b2 c28 hf (BP_cg hB2 (fun s t b => or_congr_right ⟨fun ⟨k, m, e, k1, k2, k3, k4, k5⟩ => ⟨k, m, e, k1, k2, k3, by omega, k5⟩, fun ⟨k, m, e, k1, k2, k3, k4, k5, k6⟩ => ⟨k, m, e, k1, k2, k3, by
                              by_cases z : k = i ∧ m = j ∧ e = f
                              · obtain ⟨rfl, rfl, rfl⟩ := z; unfold R3c at k5; omega
                              · omega, k5, k6⟩⟩)) hbd
                            | exact ih27 (by omega) _ _ (by omega) _ s3 t3 b3 d28 (fr_t hf hf3 (by decide)) (BP_cg hB3 (fun s t b => ⟨fun q => by
                              rcases q with (q | ⟨k, m, e, k1, k2, k3, k4, k5⟩) | ⟨rfl, rfl, rfl⟩
                              · exact Or.inl q
                              · exact Or.inr ⟨k, m, e, k1, k2, k3, by omega, k5⟩
                              · exact Or.inr ⟨i, j, f, by omega, by omega, by omega, by omega, by unfold R3c; omega, rfl, rfl, rfl⟩, fun q => by
                              rcases q with q | ⟨k, m, e, k1, k2, k3, k4, k5, rfl, rfl, rfl⟩
                              · exact Or.inl (Or.inl q)
                              · by_cases z : k = i ∧ m = j ∧ e = f
                                · obtain ⟨rfl, rfl, rfl⟩ := z; exact Or.inr ⟨rfl, rfl, rfl⟩
                                · exact Or.inl (Or.inr ⟨k, m, e, k1, k2, k3, by omega, k5, rfl, rfl, rfl⟩)⟩)) (by omega)
                        · refine s_lload rfl (cn rfl) rfl ?_
                          refine s_lconst rfl (cn rfl) 0 (by decide) ?_
                          refine s_lcmp rfl (cn rfl) ?_
                          refine s_ifl_ge rfl (cn rfl) (cn rfl) ⟨by omega, by omega⟩ ⟨by omega, by omega⟩ (fun q64 => ?_) (fun q64 => ?_)
                          · refine s_iinc rfl (cn rfl) rfl ?_
                            refine s_goto rfl (ch rfl) ?_
                            first
                              | exact ih27 (by omega) _ _ (by omega) _ s2 t2 b2 c28 hf (BP_cg hB2 (fun s t b => or_congr_right ⟨fun ⟨k, m, e, k1, k2, k3, k4, k5⟩ => ⟨k, m, e, k1, k2, k3, by omega, k5⟩, fun ⟨k, m, e, k1, k2, k3, k4, k5, k6⟩ => ⟨k, m, e, k1, k2, k3, by
                                by_cases z : k = i ∧ m = j ∧ e = f
                                · obtain ⟨rfl, rfl, rfl⟩ := z; unfold R3c at k5; omega
                                · omega, k5, k6⟩⟩)) hbd
                              | exact ih27 (by omega) _ _ (by omega) _ s3 t3 b3 d28 (fr_t hf hf3 (by decide)) (BP_cg hB3 (fun s t b => ⟨fun q => by
                                rcases q with (q | ⟨k, m, e, k1, k2, k3, k4, k5⟩) | ⟨rfl, rfl, rfl⟩
                                · exact Or.inl q
                                · exact Or.inr ⟨k, m, e, k1, k2, k3, by omega, k5⟩
                                · exact Or.inr ⟨i, j, f, by omega, by omega, by omega, by omega, by unfold R3c; omega, rfl, rfl, rfl⟩, fun q => by
                                rcases q with q | ⟨k, m, e, k1, k2, k3, k4, k5, rfl, rfl, rfl⟩
                                · exact Or.inl (Or.inl q)
                                · by_cases z : k = i ∧ m = j ∧ e = f
                                  · obtain ⟨rfl, rfl, rfl⟩ := z; exact Or.inr ⟨rfl, rfl, rfl⟩
                                  · exact Or.inl (Or.inr ⟨k, m, e, k1, k2, k3, by omega, k5, rfl, rfl, rfl⟩)⟩)) (by omega)
                          · refine s_lload_n rfl (cn rfl) rfl ?_
                            refine s_lconst rfl (cn rfl) 0 (by decide) ?_
                            refine s_lcmp rfl (cn rfl) ?_
                            refine s_ifl_ge rfl (cn rfl) (cn rfl) ⟨by omega, by omega⟩ ⟨by omega, by omega⟩ (fun q68 => ?_) (fun q68 => ?_)
                            · refine s_iinc rfl (cn rfl) rfl ?_
                              refine s_goto rfl (ch rfl) ?_
                              first
                                | exact ih27 (by omega) _ _ (by omega) _ s2 t2 b2 c28 hf (BP_cg hB2 (fun s t b => or_congr_right ⟨fun ⟨k, m, e, k1, k2, k3, k4, k5⟩ => ⟨k, m, e, k1, k2, k3, by omega, k5⟩, fun ⟨k, m, e, k1, k2, k3, k4, k5, k6⟩ => ⟨k, m, e, k1, k2, k3, by
                                  by_cases z : k = i ∧ m = j ∧ e = f
                                  · obtain ⟨rfl, rfl, rfl⟩ := z; unfold R3c at k5; omega
                                  · omega, k5, k6⟩⟩)) hbd
                                | exact ih27 (by omega) _ _ (by omega) _ s3 t3 b3 d28 (fr_t hf hf3 (by decide)) (BP_cg hB3 (fun s t b => ⟨fun q => by
                                  rcases q with (q | ⟨k, m, e, k1, k2, k3, k4, k5⟩) | ⟨rfl, rfl, rfl⟩
                                  · exact Or.inl q
                                  · exact Or.inr ⟨k, m, e, k1, k2, k3, by omega, k5⟩
                                  · exact Or.inr ⟨i, j, f, by omega, by omega, by omega, by omega, by unfold R3c; omega, rfl, rfl, rfl⟩, fun q => by
                                  rcases q with q | ⟨k, m, e, k1, k2, k3, k4, k5, rfl, rfl, rfl⟩
                                  · exact Or.inl (Or.inl q)
                                  · by_cases z : k = i ∧ m = j ∧ e = f
                                    · obtain ⟨rfl, rfl, rfl⟩ := z; exact Or.inr ⟨rfl, rfl, rfl⟩
                                    · exact Or.inl (Or.inr ⟨k, m, e, k1, k2, k3, by omega, k5, rfl, rfl, rfl⟩)⟩)) (by omega)
                            · have n1 := ab1_b (a := 8) (show -8 ≤ pl_cr xa xc j f ∧ pl_cr xa xc j f ≤ 8 by omega)
                              have n2 := ab1_b (a := 8) (show -8 ≤ pl_cr xa xc f i ∧ pl_cr xa xc f i ≤ 8 by omega)
                              have n3 := ab1_b (a := 8) (show -8 ≤ pl_cr xa xc i j ∧ pl_cr xa xc i j ≤ 8 by omega)
                              have h1 := hh i (by omega)
                              have h2 := hh j (by omega)
                              have h3 := hh f (by omega)
                              have o1 := ab_mul (x := ab1 (pl_cr xa xc j f)) (y := xh i) (a := 8) (b := 2000000000000000) (by omega) (by omega) (by decide) (by decide)
                              have o2 := ab_mul (x := ab1 (pl_cr xa xc f i)) (y := xh j) (a := 8) (b := 2000000000000000) (by omega) (by omega) (by decide) (by decide)
                              have o5 := ab_mul (x := ab1 (pl_cr xa xc i j)) (y := xh f) (a := 8) (b := 2000000000000000) (by omega) (by omega) (by decide) (by decide)
                              have o3 := ab_mul (x := (ab1 (pl_cr xa xc j f) * xh i + ab1 (pl_cr xa xc f i) * xh j + ab1 (pl_cr xa xc i j) * xh f)) (y := b2) (a := 48000000000000000) (b := 32) (by omega) (by omega) (by decide) (by decide)
                              have o4 := ab_mul (x := t2) (y := (ab1 (pl_cr xa xc j f) + ab1 (pl_cr xa xc f i) + ab1 (pl_cr xa xc i j))) (a := 80000000000000000) (b := 24) (by omega) (by omega) (by decide) (by decide)
                              have pos : 0 < (ab1 (pl_cr xa xc j f) + ab1 (pl_cr xa xc f i) + ab1 (pl_cr xa xc i j)) := by
                                have z1 : ab1 (pl_cr xa xc i j) ≠ 0 := fun z => absurd (ab1_0.mp z) (by omega)
                                omega
                              refine s_aload_n rfl (cn rfl) rfl ?_
                              refine s_iload_n rfl (cn rfl) rfl ?_
                              refine s_iload_n rfl (cn rfl) rfl ?_
                              refine s_iload rfl (cn rfl) rfl ?_
                              refine s_lload rfl (cn rfl) rfl ?_
                              refine s_abs rfl (cn rfl) rfl ⟨by omega, by omega⟩ ?_
                              refine s_lload rfl (cn rfl) rfl ?_
                              refine s_abs rfl (cn rfl) rfl ⟨by omega, by omega⟩ ?_
                              refine s_lload_n rfl (cn rfl) rfl ?_
                              refine s_abs rfl (cn rfl) rfl ⟨by omega, by omega⟩ ?_
                              refine s_virt rfl (cn rfl) rfl rfl c28 rfl (v_three_28 (i := i) (j := j) (k := f) (f1 := ab1 (pl_cr xa xc j f)) (f2 := ab1 (pl_cr xa xc f i)) (f3 := ab1 (pl_cr xa xc i j)) hoc c28 c39 c40 c41 c42 hq hp (by omega) (by omega) (by omega) (by omega) (by omega) (by omega)) ?_
                              rintro _ _ ⟨rfl, h3', s3, t3, b3, rfl, hf3, d28, hn3, he3, hl3⟩
                              have hB3 := BP_s hB2 pos hn3 he3 hl3
                              refine s_iinc rfl (cn rfl) rfl ?_
                              refine s_goto rfl (ch rfl) ?_
                              first
                                | exact ih27 (by omega) _ _ (by omega) _ s2 t2 b2 c28 hf (BP_cg hB2 (fun s t b => or_congr_right ⟨fun ⟨k, m, e, k1, k2, k3, k4, k5⟩ => ⟨k, m, e, k1, k2, k3, by omega, k5⟩, fun ⟨k, m, e, k1, k2, k3, k4, k5, k6⟩ => ⟨k, m, e, k1, k2, k3, by
                                  by_cases z : k = i ∧ m = j ∧ e = f
                                  · obtain ⟨rfl, rfl, rfl⟩ := z; unfold R3c at k5; omega
                                  · omega, k5, k6⟩⟩)) hbd
                                | exact ih27 (by omega) _ _ (by omega) _ s3 t3 b3 d28 (fr_t hf hf3 (by decide)) (BP_cg hB3 (fun s t b => ⟨fun q => by
                                  rcases q with (q | ⟨k, m, e, k1, k2, k3, k4, k5⟩) | ⟨rfl, rfl, rfl⟩
                                  · exact Or.inl q
                                  · exact Or.inr ⟨k, m, e, k1, k2, k3, by omega, k5⟩
                                  · exact Or.inr ⟨i, j, f, by omega, by omega, by omega, by omega, by unfold R3c; omega, rfl, rfl, rfl⟩, fun q => by
                                  rcases q with q | ⟨k, m, e, k1, k2, k3, k4, k5, rfl, rfl, rfl⟩
                                  · exact Or.inl (Or.inl q)
                                  · by_cases z : k = i ∧ m = j ∧ e = f
                                    · obtain ⟨rfl, rfl, rfl⟩ := z; exact Or.inr ⟨rfl, rfl, rfl⟩
                                    · exact Or.inl (Or.inr ⟨k, m, e, k1, k2, k3, by omega, k5, rfl, rfl, rfl⟩)⟩)) (by omega)
            exact lp27 (j + 1) (by omega) _ _ (Nat.le_refl _) _ s2 t2 b2 c28 hf (BP_cg hB2 (fun s t b => or_congr_right ⟨fun ⟨k, m, e, k1, k2, k3, k4, k5⟩ => ⟨k, m, e, k1, k2, k3, by omega, k5⟩, fun ⟨k, m, e, k1, k2, k3, k4, k5⟩ => ⟨k, m, e, k1, k2, k3, by omega, k5⟩⟩)) hbd
        exact lp14 (i + 1) (by omega) _ _ _ _ (Nat.le_refl _) _ s2 t2 b2 c28 hf (BP_cg hB2 (fun s t b => or_congr_right ⟨fun ⟨k, m, e, k1, k2, k3, k4, k5⟩ => ⟨k, m, e, k1, k2, k3, by omega, k5⟩, fun ⟨k, m, e, k1, k2, k3, k4, k5⟩ => ⟨k, m, e, k1, k2, k3, by omega, k5⟩⟩)) hbd
  exact lp2 0 (by omega) _ _ _ _ _ _ s bt bb c28 fr_r (BP_cg hB (fun s t b => ⟨Or.inl, fun q => q.resolve_right (fun ⟨k, m, e, k1, k2, k3, k4, _⟩ => absurd k4 (by omega))⟩)) hbd0
