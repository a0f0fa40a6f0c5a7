/-! The stages of the class: small methods, offers. -/
abbrev ST13 (ku wc op oc bs bt bb : Int) : rr_E := .inr (4, [.int (ii ku), .ref 14, .ref 15, .ref 16, .ref 17, .int (ii wc), .ref 20, .int (ii op), .int (ii oc), .ref 24, .ref 25, .ref 26, .ref 27, .int (ii bs), .long (jj bt), .long (jj bb)])
abbrev WA13 : rr_E := .inl (3, 3, .inr (.inr (.inr (.inr (fun i => if i < 3 then some (20 + 1 + i) else none)))))
abbrev ST28 (ku wc op oc bs bt bb : Int) : rr_E := .inr (4, [.int (ii ku), .ref 29, .ref 30, .ref 31, .ref 32, .int (ii wc), .ref 35, .int (ii op), .int (ii oc), .ref 39, .ref 40, .ref 41, .ref 42, .int (ii bs), .long (jj bt), .long (jj bb)])
abbrev WA28 : rr_E := .inl (3, 3, .inr (.inr (.inr (.inr (fun i => if i < 3 then some (35 + 1 + i) else none)))))
theorem b8_mul {x y : Int} {a b : Int} (hx : -a ≤ x ∧ x ≤ a) (hy : -b ≤ y ∧ y ≤ b) (ha : 0 ≤ a) (hb : 0 ≤ b) : -(a * b) ≤ x * y ∧ x * y ≤ a * b := ab_mul hx hy ha hb
theorem ab1_b {x a : Int} (h : -a ≤ x ∧ x ≤ a) : 0 ≤ ab1 x ∧ ab1 x ≤ a := by unfold ab1; split <;> omega
theorem pt_add {P P' : Nat → Int → Int → Prop} {Q : Prop} {s0 : Nat} {t0 b0 : Int} (h : ∀ s t b, P' s t b ↔ (P s t b ∨ (s = s0 ∧ t = t0 ∧ b = b0))) {set : Nat} {top bot : Int} (hB : BP (fun s t b => P s t b ∨ (s = s0 ∧ t = t0 ∧ b = b0)) set top bot) : BP P' set top bot := BP_cg hB (fun s t b => (h s t b).symm)
theorem v_goes_13 {d N S : Nat} {h : Nat → Option rr_E} {ku wc op oc bs bt bb : Int} (c13 : h 13 = some (ST13 ku wc op oc bs bt bb)) {W : Nat → Nat → Int} (c20 : h 20 = some WA13) (cw : ∀ w, w < 3 → h (21 + w) = some (.inl (1, 4, .inr (.inl (fun k => jj (W w k)))))) {w g : Nat} (hw : w < 3) (hg : g < 16) : rr_Calls (d + 1) j_Stages_goes [.ref 13, .int (ii (w : Int)), .int (ii (g : Int))] (N, S, h) (fun r R => r = some (.long (jj (st_sh 4 g (W w)))) ∧ R = (N, S, h)) := by
  refine rr_meth (C := K_Stages_goes) (hd := h_Stages_goes) (mx := 6) rfl rfl (fun K hK => ?_)
  refine hK _ _ _ _ ?_
  refine s_lconst rfl (cn rfl) 0 (by decide) ?_
  refine s_lstore_n rfl (cn rfl) ?_
  refine s_iconst rfl (cn rfl) ?_
  refine s_istore rfl (ch rfl) ?_
  have lp4 : ∀ p : Nat, p ≤ 4 → ∀ (x : Int) (hx : x = st_sh p g (W w)), K 4 [some (.ref 13), some (.int (ii (w : Int))), some (.int (ii (g : Int))), some (.long (jj x)), none, some (.int (ii (p : Int)))] [] (N, S, h) := by
    refine dn (fun p hp ih4 => ?_)
    intro x hx
    refine hK _ _ _ _ ?_
    refine s_iload rfl (cn rfl) rfl ?_
    refine s_iconst rfl (cn rfl) ?_
    refine s_icmp_ge rfl (cn rfl) (cn rfl) ⟨by omega, by omega⟩ ⟨by omega, by omega⟩ (fun q6 => ?_) (fun q6 => ?_)
    · refine s_lload_n rfl (cn rfl) rfl ?_
      refine s_lreturn rfl ?_
      exact ⟨rl (by rw [hx, show p = 4 by omega]), rfl⟩
    · refine s_iload_n rfl (cn rfl) rfl ?_
      refine s_iload rfl (cn rfl) rfl ?_
      refine s_ishr rfl (cn rfl) ?_
      refine s_iconst rfl (cn rfl) ?_
      refine s_iand rfl (cn rfl) _ (bi_bit (by omega) (by omega)) ?_
      refine s_iconst rfl (cn rfl) ?_
      refine s_icmp_ne rfl (cn rfl) (cn rfl) (bt_b3 _ _) (by decide) (fun q13 => ?_) (fun q13 => ?_)
      · refine s_iinc rfl (cn rfl) rfl ?_
        refine s_goto rfl (ch rfl) ?_
        exact ih4 (by omega) _ (by show _ = st_sh p g (W w) + st_bt g p * W w p; rw [hx, show st_bt g p = 0 by have := bt_01 g p; omega]; omega)
      · refine s_lload_n rfl (cn rfl) rfl ?_
        refine s_aload_n rfl (cn rfl) rfl ?_
        refine s_getfield rfl (cn rfl) c13 rfl ?_
        refine s_iload_n rfl (cn rfl) rfl ?_
        refine s_aaload rfl (cn rfl) _ rfl c20 (by omega) (by decide) ((if_pos hw).trans rfl) ?_
        refine s_iload rfl (cn rfl) rfl ?_
        refine s_laload rfl (cn rfl) _ rfl (cw w hw) (by omega) (by decide) rfl ?_
        refine s_ladd rfl (cn rfl) ?_
        refine s_lstore_n rfl (cn rfl) ?_
        refine s_iinc rfl (cn rfl) rfl ?_
        refine s_goto rfl (ch rfl) ?_
        exact ih4 (by omega) _ (by show _ = st_sh p g (W w) + st_bt g p * W w p; rw [hx, q13]; omega)
  exact lp4 0 (by omega) _ rfl
theorem v_turn_13 {d N S : Nat} {h : Nat → Option rr_E} {ku wc op oc bs bt bb : Int} (c13 : h 13 = some (ST13 ku wc op oc bs bt bb)) {xa xc : Nat → Int} (c25 : h 25 = some (.inl (1, 14, .inr (.inl (fun k => jj (xa k)))))) (c26 : h 26 = some (.inl (1, 14, .inr (.inl (fun k => jj (xc k)))))) {i j : Nat} (hi : i < 14) (hj : j < 14) : rr_Calls (d + 1) j_Stages_leftTurn [.ref 13, .int (ii (i : Int)), .int (ii (j : Int))] (N, S, h) (fun r R => r = some (.long (jj (pl_cr xa xc i j))) ∧ R = (N, S, h)) := by
  refine rr_meth (C := K_Stages_leftTurn) (hd := h_Stages_leftTurn) (mx := 3) rfl rfl (fun K hK => ?_)
  refine hK _ _ _ _ ?_
  refine s_aload_n rfl (cn rfl) rfl ?_
  refine s_getfield rfl (cn rfl) c13 rfl ?_
  refine s_iload_n rfl (cn rfl) rfl ?_
  refine s_laload rfl (cn rfl) _ rfl c25 (by omega) (by decide) rfl ?_
  refine s_aload_n rfl (cn rfl) rfl ?_
  refine s_getfield rfl (cn rfl) c13 rfl ?_
  refine s_iload_n rfl (cn rfl) rfl ?_
  refine s_laload rfl (cn rfl) _ rfl c26 (by omega) (by decide) rfl ?_
  refine s_lmul rfl (cn rfl) ?_
  refine s_aload_n rfl (cn rfl) rfl ?_
  refine s_getfield rfl (cn rfl) c13 rfl ?_
  refine s_iload_n rfl (cn rfl) rfl ?_
  refine s_laload rfl (cn rfl) _ rfl c26 (by omega) (by decide) rfl ?_
  refine s_aload_n rfl (cn rfl) rfl ?_
  refine s_getfield rfl (cn rfl) c13 rfl ?_
  refine s_iload_n rfl (cn rfl) rfl ?_
  refine s_laload rfl (cn rfl) _ rfl c25 (by omega) (by decide) rfl ?_
  refine s_lmul rfl (cn rfl) ?_
  refine s_lsub rfl (cn rfl) ?_
  refine s_lreturn rfl ?_
  exact ⟨rfl, rfl⟩
theorem v_offer_13 {d N S : Nat} {h : Nat → Option rr_E} {ku wc op oc bt bb t0 b0 : Int} {s s0 : Nat} (c13 : h 13 = some (ST13 ku wc op oc (s : Int) bt bb)) (h1 : b6 (t0 * bb)) (h2 : b6 (bt * b0)) (h3 : b6 bb) : rr_Calls (d + 1) j_Stages_offer [.ref 13, .int (ii (s0 : Int)), .long (jj t0), .long (jj b0)] (N, S, h) (fun r R => r = none ∧ ∃ (h' : Nat → Option rr_E) (s' : Nat) (t' b' : Int), R = (N, S, h') ∧ fr [13] h h' ∧ h' 13 = some (ST13 ku wc op oc (s' : Int) t' b') ∧ (bb = 0 ∨ bt * b0 < t0 * bb → s' = s0 ∧ t' = t0 ∧ b' = b0) ∧ (bb ≠ 0 → t0 * bb = bt * b0 → s' = s ||| s0 ∧ t' = bt ∧ b' = bb) ∧ (bb ≠ 0 → t0 * bb < bt * b0 → s' = s ∧ t' = bt ∧ b' = bb)) := by
  refine rr_meth (C := K_Stages_offer) (hd := h_Stages_offer) (mx := 10) rfl rfl (fun K hK => ?_)
  refine hK _ _ _ _ ?_
  refine s_lload_n rfl (cn rfl) rfl ?_
  refine s_aload_n rfl (cn rfl) rfl ?_
  refine s_getfield rfl (cn rfl) c13 rfl ?_
  refine s_lmul rfl (cn rfl) ?_
  refine s_lstore rfl (cn rfl) ?_
  refine s_aload_n rfl (cn rfl) rfl ?_
  refine s_getfield rfl (cn rfl) c13 rfl ?_
  refine s_lload rfl (cn rfl) rfl ?_
  refine s_lmul rfl (cn rfl) ?_
  refine s_lstore rfl (cn rfl) ?_
  refine s_aload_n rfl (cn rfl) rfl ?_
  refine s_getfield rfl (cn rfl) c13 rfl ?_
  refine s_lconst rfl (cn rfl) 0 (by decide) ?_
  refine s_lcmp rfl (cn rfl) ?_
  refine s_ifl_eq rfl (cn rfl) (cn rfl) ⟨by omega, by omega⟩ ⟨by omega, by omega⟩ (fun q14 => ?_) (fun q14 => ?_)
  · refine s_aload_n rfl (cn rfl) rfl ?_
    refine s_iload_n rfl (cn rfl) rfl ?_
    refine s_puti rfl (cn rfl) rfl c13 rfl ?_
    refine s_aload_n rfl (cn rfl) rfl ?_
    refine s_lload_n rfl (cn rfl) rfl ?_
    refine s_putl rfl (cn rfl) rfl rr_set_eq rfl ?_
    refine s_aload_n rfl (cn rfl) rfl ?_
    refine s_lload rfl (cn rfl) rfl ?_
    refine s_putl rfl (cn rfl) rfl rr_set_eq rfl ?_
    refine s_goto rfl (cn rfl) ?_
    refine s_return rfl ?_
    first
      | exact ⟨rfl, _, s0, t0, b0, rfl, fr_s (by decide) (fr_s (by decide) (fr_s (by decide) fr_r)), rr_set_eq, fun _ => ⟨rfl, rfl, rfl⟩, fun q1 q2 => by omega, fun q1 q2 => by omega⟩
      | exact ⟨rfl, _, s ||| s0, bt, bb, rfl, fr_s (by decide) fr_r, rr_set_eq, fun q => by omega, fun _ _ => ⟨rfl, rfl, rfl⟩, fun q1 q2 => by omega⟩
      | exact ⟨rfl, h, s, bt, bb, rfl, fr_r, c13, fun q => by omega, fun q1 q2 => by omega, fun _ _ => ⟨rfl, rfl, rfl⟩⟩
  · refine s_lload rfl (cn rfl) rfl ?_
    refine s_lload rfl (cn rfl) rfl ?_
    refine s_lcmp rfl (cn rfl) ?_
    refine s_ifl_le rfl (cn rfl) (cn rfl) ⟨by omega, by omega⟩ ⟨by omega, by omega⟩ (fun q18 => ?_) (fun q18 => ?_)
    · refine s_lload rfl (cn rfl) rfl ?_
      refine s_lload rfl (cn rfl) rfl ?_
      refine s_lcmp rfl (cn rfl) ?_
      refine s_ifl_ne rfl (cn rfl) (cn rfl) ⟨by omega, by omega⟩ ⟨by omega, by omega⟩ (fun q32 => ?_) (fun q32 => ?_)
      · refine s_return rfl ?_
        first
          | exact ⟨rfl, _, s0, t0, b0, rfl, fr_s (by decide) (fr_s (by decide) (fr_s (by decide) fr_r)), rr_set_eq, fun _ => ⟨rfl, rfl, rfl⟩, fun q1 q2 => by omega, fun q1 q2 => by omega⟩
          | exact ⟨rfl, _, s ||| s0, bt, bb, rfl, fr_s (by decide) fr_r, rr_set_eq, fun q => by omega, fun _ _ => ⟨rfl, rfl, rfl⟩, fun q1 q2 => by omega⟩
          | exact ⟨rfl, h, s, bt, bb, rfl, fr_r, c13, fun q => by omega, fun q1 q2 => by omega, fun _ _ => ⟨rfl, rfl, rfl⟩⟩
      · refine s_aload_n rfl (cn rfl) rfl ?_
        refine s_dupr rfl (cn rfl) ?_
        refine s_getfield rfl (cn rfl) c13 rfl ?_
        refine s_iload_n rfl (cn rfl) rfl ?_
        refine s_ior rfl (cn rfl) _ (bi_or _ _) ?_
        refine s_puti rfl (cn rfl) rfl c13 rfl ?_
        refine s_return rfl ?_
        first
          | exact ⟨rfl, _, s0, t0, b0, rfl, fr_s (by decide) (fr_s (by decide) (fr_s (by decide) fr_r)), rr_set_eq, fun _ => ⟨rfl, rfl, rfl⟩, fun q1 q2 => by omega, fun q1 q2 => by omega⟩
          | exact ⟨rfl, _, s ||| s0, bt, bb, rfl, fr_s (by decide) fr_r, rr_set_eq, fun q => by omega, fun _ _ => ⟨rfl, rfl, rfl⟩, fun q1 q2 => by omega⟩
          | exact ⟨rfl, h, s, bt, bb, rfl, fr_r, c13, fun q => by omega, fun q1 q2 => by omega, fun _ _ => ⟨rfl, rfl, rfl⟩⟩
    · refine s_aload_n rfl (cn rfl) rfl ?_
      refine s_iload_n rfl (cn rfl) rfl ?_
      refine s_puti rfl (cn rfl) rfl c13 rfl ?_
      refine s_aload_n rfl (cn rfl) rfl ?_
      refine s_lload_n rfl (cn rfl) rfl ?_
      refine s_putl rfl (cn rfl) rfl rr_set_eq rfl ?_
      refine s_aload_n rfl (cn rfl) rfl ?_
      refine s_lload rfl (cn rfl) rfl ?_
      refine s_putl rfl (cn rfl) rfl rr_set_eq rfl ?_
      refine s_goto rfl (cn rfl) ?_
      refine s_return rfl ?_
      first
        | exact ⟨rfl, _, s0, t0, b0, rfl, fr_s (by decide) (fr_s (by decide) (fr_s (by decide) fr_r)), rr_set_eq, fun _ => ⟨rfl, rfl, rfl⟩, fun q1 q2 => by omega, fun q1 q2 => by omega⟩
        | exact ⟨rfl, _, s ||| s0, bt, bb, rfl, fr_s (by decide) fr_r, rr_set_eq, fun q => by omega, fun _ _ => ⟨rfl, rfl, rfl⟩, fun q1 q2 => by omega⟩
        | exact ⟨rfl, h, s, bt, bb, rfl, fr_r, c13, fun q => by omega, fun q1 q2 => by omega, fun _ _ => ⟨rfl, rfl, rfl⟩⟩
theorem v_goes_28 {d N S : Nat} {h : Nat → Option rr_E} {ku wc op oc bs bt bb : Int} (c28 : h 28 = some (ST28 ku wc op oc bs bt bb)) {W : Nat → Nat → Int} (c35 : h 35 = some WA28) (cw : ∀ w, w < 3 → h (36 + w) = some (.inl (1, 4, .inr (.inl (fun k => jj (W w k)))))) {w g : Nat} (hw : w < 3) (hg : g < 16) : rr_Calls (d + 1) j_Stages_goes [.ref 28, .int (ii (w : Int)), .int (ii (g : Int))] (N, S, h) (fun r R => r = some (.long (jj (st_sh 4 g (W w)))) ∧ R = (N, S, h)) := by
  refine rr_meth (C := K_Stages_goes) (hd := h_Stages_goes) (mx := 6) rfl rfl (fun K hK => ?_)
  refine hK _ _ _ _ ?_
  refine s_lconst rfl (cn rfl) 0 (by decide) ?_
  refine s_lstore_n rfl (cn rfl) ?_
  refine s_iconst rfl (cn rfl) ?_
  refine s_istore rfl (ch rfl) ?_
  have lp4 : ∀ p : Nat, p ≤ 4 → ∀ (x : Int) (hx : x = st_sh p g (W w)), K 4 [some (.ref 28), some (.int (ii (w : Int))), some (.int (ii (g : Int))), some (.long (jj x)), none, some (.int (ii (p : Int)))] [] (N, S, h) := by
    refine dn (fun p hp ih4 => ?_)
    intro x hx
    refine hK _ _ _ _ ?_
    refine s_iload rfl (cn rfl) rfl ?_
    refine s_iconst rfl (cn rfl) ?_
    refine s_icmp_ge rfl (cn rfl) (cn rfl) ⟨by omega, by omega⟩ ⟨by omega, by omega⟩ (fun q6 => ?_) (fun q6 => ?_)
    · refine s_lload_n rfl (cn rfl) rfl ?_
      refine s_lreturn rfl ?_
      exact ⟨rl (by rw [hx, show p = 4 by omega]), rfl⟩
    · refine s_iload_n rfl (cn rfl) rfl ?_
      refine s_iload rfl (cn rfl) rfl ?_
      refine s_ishr rfl (cn rfl) ?_
      refine s_iconst rfl (cn rfl) ?_
      refine s_iand rfl (cn rfl) _ (bi_bit (by omega) (by omega)) ?_
      refine s_iconst rfl (cn rfl) ?_
      refine s_icmp_ne rfl (cn rfl) (cn rfl) (bt_b3 _ _) (by decide) (fun q13 => ?_) (fun q13 => ?_)
      · refine s_iinc rfl (cn rfl) rfl ?_
        refine s_goto rfl (ch rfl) ?_
        exact ih4 (by omega) _ (by show _ = st_sh p g (W w) + st_bt g p * W w p; rw [hx, show st_bt g p = 0 by have := bt_01 g p; omega]; omega)
      · refine s_lload_n rfl (cn rfl) rfl ?_
        refine s_aload_n rfl (cn rfl) rfl ?_
        refine s_getfield rfl (cn rfl) c28 rfl ?_
        refine s_iload_n rfl (cn rfl) rfl ?_
        refine s_aaload rfl (cn rfl) _ rfl c35 (by omega) (by decide) ((if_pos hw).trans rfl) ?_
        refine s_iload rfl (cn rfl) rfl ?_
        refine s_laload rfl (cn rfl) _ rfl (cw w hw) (by omega) (by decide) rfl ?_
        refine s_ladd rfl (cn rfl) ?_
        refine s_lstore_n rfl (cn rfl) ?_
        refine s_iinc rfl (cn rfl) rfl ?_
        refine s_goto rfl (ch rfl) ?_
        exact ih4 (by omega) _ (by show _ = st_sh p g (W w) + st_bt g p * W w p; rw [hx, q13]; omega)
  exact lp4 0 (by omega) _ rfl
theorem v_turn_28 {d N S : Nat} {h : Nat → Option rr_E} {ku wc op oc bs bt bb : Int} (c28 : h 28 = some (ST28 ku wc op oc bs bt bb)) {xa xc : Nat → Int} (c40 : h 40 = some (.inl (1, 14, .inr (.inl (fun k => jj (xa k)))))) (c41 : h 41 = some (.inl (1, 14, .inr (.inl (fun k => jj (xc k)))))) {i j : Nat} (hi : i < 14) (hj : j < 14) : rr_Calls (d + 1) j_Stages_leftTurn [.ref 28, .int (ii (i : Int)), .int (ii (j : Int))] (N, S, h) (fun r R => r = some (.long (jj (pl_cr xa xc i j))) ∧ R = (N, S, h)) := by
  refine rr_meth (C := K_Stages_leftTurn) (hd := h_Stages_leftTurn) (mx := 3) rfl rfl (fun K hK => ?_)
  refine hK _ _ _ _ ?_
  refine s_aload_n rfl (cn rfl) rfl ?_
  refine s_getfield rfl (cn rfl) c28 rfl ?_
  refine s_iload_n rfl (cn rfl) rfl ?_
  refine s_laload rfl (cn rfl) _ rfl c40 (by omega) (by decide) rfl ?_
  refine s_aload_n rfl (cn rfl) rfl ?_
  refine s_getfield rfl (cn rfl) c28 rfl ?_
  refine s_iload_n rfl (cn rfl) rfl ?_
  refine s_laload rfl (cn rfl) _ rfl c41 (by omega) (by decide) rfl ?_
  refine s_lmul rfl (cn rfl) ?_
  refine s_aload_n rfl (cn rfl) rfl ?_
  refine s_getfield rfl (cn rfl) c28 rfl ?_
  refine s_iload_n rfl (cn rfl) rfl ?_
  refine s_laload rfl (cn rfl) _ rfl c41 (by omega) (by decide) rfl ?_
  refine s_aload_n rfl (cn rfl) rfl ?_
  refine s_getfield rfl (cn rfl) c28 rfl ?_
  refine s_iload_n rfl (cn rfl) rfl ?_
  refine s_laload rfl (cn rfl) _ rfl c40 (by omega) (by decide) rfl ?_
  refine s_lmul rfl (cn rfl) ?_
  refine s_lsub rfl (cn rfl) ?_
  refine s_lreturn rfl ?_
  exact ⟨rfl, rfl⟩
theorem v_offer_28 {d N S : Nat} {h : Nat → Option rr_E} {ku wc op oc bt bb t0 b0 : Int} {s s0 : Nat} (c28 : h 28 = some (ST28 ku wc op oc (s : Int) bt bb)) (h1 : b6 (t0 * bb)) (h2 : b6 (bt * b0)) (h3 : b6 bb) : rr_Calls (d + 1) j_Stages_offer [.ref 28, .int (ii (s0 : Int)), .long (jj t0), .long (jj b0)] (N, S, h) (fun r R => r = none ∧ ∃ (h' : Nat → Option rr_E) (s' : Nat) (t' b' : Int), R = (N, S, h') ∧ fr [28] h h' ∧ h' 28 = some (ST28 ku wc op oc (s' : Int) t' b') ∧ (bb = 0 ∨ bt * b0 < t0 * bb → s' = s0 ∧ t' = t0 ∧ b' = b0) ∧ (bb ≠ 0 → t0 * bb = bt * b0 → s' = s ||| s0 ∧ t' = bt ∧ b' = bb) ∧ (bb ≠ 0 → t0 * bb < bt * b0 → s' = s ∧ t' = bt ∧ b' = bb)) := by
  refine rr_meth (C := K_Stages_offer) (hd := h_Stages_offer) (mx := 10) rfl rfl (fun K hK => ?_)
  refine hK _ _ _ _ ?_
  refine s_lload_n rfl (cn rfl) rfl ?_
  refine s_aload_n rfl (cn rfl) rfl ?_
  refine s_getfield rfl (cn rfl) c28 rfl ?_
  refine s_lmul rfl (cn rfl) ?_
  refine s_lstore rfl (cn rfl) ?_
  refine s_aload_n rfl (cn rfl) rfl ?_
  refine s_getfield rfl (cn rfl) c28 rfl ?_
  refine s_lload rfl (cn rfl) rfl ?_
  refine s_lmul rfl (cn rfl) ?_
  refine s_lstore rfl (cn rfl) ?_
  refine s_aload_n rfl (cn rfl) rfl ?_
  refine s_getfield rfl (cn rfl) c28 rfl ?_
  refine s_lconst rfl (cn rfl) 0 (by decide) ?_
  refine s_lcmp rfl (cn rfl) ?_
  refine s_ifl_eq rfl (cn rfl) (cn rfl) ⟨by omega, by omega⟩ ⟨by omega, by omega⟩ (fun q14 => ?_) (fun q14 => ?_)
  · refine s_aload_n rfl (cn rfl) rfl ?_
    refine s_iload_n rfl (cn rfl) rfl ?_
    refine s_puti rfl (cn rfl) rfl c28 rfl ?_
    refine s_aload_n rfl (cn rfl) rfl ?_
    refine s_lload_n rfl (cn rfl) rfl ?_
    refine s_putl rfl (cn rfl) rfl rr_set_eq rfl ?_
    refine s_aload_n rfl (cn rfl) rfl ?_
    refine s_lload rfl (cn rfl) rfl ?_
    refine s_putl rfl (cn rfl) rfl rr_set_eq rfl ?_
    refine s_goto rfl (cn rfl) ?_
    refine s_return rfl ?_
    first
      | exact ⟨rfl, _, s0, t0, b0, rfl, fr_s (by decide) (fr_s (by decide) (fr_s (by decide) fr_r)), rr_set_eq, fun _ => ⟨rfl, rfl, rfl⟩, fun q1 q2 => by omega, fun q1 q2 => by omega⟩
      | exact ⟨rfl, _, s ||| s0, bt, bb, rfl, fr_s (by decide) fr_r, rr_set_eq, fun q => by omega, fun _ _ => ⟨rfl, rfl, rfl⟩, fun q1 q2 => by omega⟩
      | exact ⟨rfl, h, s, bt, bb, rfl, fr_r, c28, fun q => by omega, fun q1 q2 => by omega, fun _ _ => ⟨rfl, rfl, rfl⟩⟩
  · refine s_lload rfl (cn rfl) rfl ?_
    refine s_lload rfl (cn rfl) rfl ?_
    refine s_lcmp rfl (cn rfl) ?_
    refine s_ifl_le rfl (cn rfl) (cn rfl) ⟨by omega, by omega⟩ ⟨by omega, by omega⟩ (fun q18 => ?_) (fun q18 => ?_)
    · refine s_lload rfl (cn rfl) rfl ?_
      refine s_lload rfl (cn rfl) rfl ?_
      refine s_lcmp rfl (cn rfl) ?_
      refine s_ifl_ne rfl (cn rfl) (cn rfl) ⟨by omega, by omega⟩ ⟨by omega, by omega⟩ (fun q32 => ?_) (fun q32 => ?_)
      · refine s_return rfl ?_
        first
          | exact ⟨rfl, _, s0, t0, b0, rfl, fr_s (by decide) (fr_s (by decide) (fr_s (by decide) fr_r)), rr_set_eq, fun _ => ⟨rfl, rfl, rfl⟩, fun q1 q2 => by omega, fun q1 q2 => by omega⟩
          | exact ⟨rfl, _, s ||| s0, bt, bb, rfl, fr_s (by decide) fr_r, rr_set_eq, fun q => by omega, fun _ _ => ⟨rfl, rfl, rfl⟩, fun q1 q2 => by omega⟩
          | exact ⟨rfl, h, s, bt, bb, rfl, fr_r, c28, fun q => by omega, fun q1 q2 => by omega, fun _ _ => ⟨rfl, rfl, rfl⟩⟩
      · refine s_aload_n rfl (cn rfl) rfl ?_
        refine s_dupr rfl (cn rfl) ?_
        refine s_getfield rfl (cn rfl) c28 rfl ?_
        refine s_iload_n rfl (cn rfl) rfl ?_
        refine s_ior rfl (cn rfl) _ (bi_or _ _) ?_
        refine s_puti rfl (cn rfl) rfl c28 rfl ?_
        refine s_return rfl ?_
        first
          | exact ⟨rfl, _, s0, t0, b0, rfl, fr_s (by decide) (fr_s (by decide) (fr_s (by decide) fr_r)), rr_set_eq, fun _ => ⟨rfl, rfl, rfl⟩, fun q1 q2 => by omega, fun q1 q2 => by omega⟩
          | exact ⟨rfl, _, s ||| s0, bt, bb, rfl, fr_s (by decide) fr_r, rr_set_eq, fun q => by omega, fun _ _ => ⟨rfl, rfl, rfl⟩, fun q1 q2 => by omega⟩
          | exact ⟨rfl, h, s, bt, bb, rfl, fr_r, c28, fun q => by omega, fun q1 q2 => by omega, fun _ _ => ⟨rfl, rfl, rfl⟩⟩
    · refine s_aload_n rfl (cn rfl) rfl ?_
      refine s_iload_n rfl (cn rfl) rfl ?_
      refine s_puti rfl (cn rfl) rfl c28 rfl ?_
      refine s_aload_n rfl (cn rfl) rfl ?_
      refine s_lload_n rfl (cn rfl) rfl ?_
      refine s_putl rfl (cn rfl) rfl rr_set_eq rfl ?_
      refine s_aload_n rfl (cn rfl) rfl ?_
      refine s_lload rfl (cn rfl) rfl ?_
      refine s_putl rfl (cn rfl) rfl rr_set_eq rfl ?_
      refine s_goto rfl (cn rfl) ?_
      refine s_return rfl ?_
      first
        | exact ⟨rfl, _, s0, t0, b0, rfl, fr_s (by decide) (fr_s (by decide) (fr_s (by decide) fr_r)), rr_set_eq, fun _ => ⟨rfl, rfl, rfl⟩, fun q1 q2 => by omega, fun q1 q2 => by omega⟩
        | exact ⟨rfl, _, s ||| s0, bt, bb, rfl, fr_s (by decide) fr_r, rr_set_eq, fun q => by omega, fun _ _ => ⟨rfl, rfl, rfl⟩, fun q1 q2 => by omega⟩
        | exact ⟨rfl, h, s, bt, bb, rfl, fr_r, c28, fun q => by omega, fun q1 q2 => by omega, fun _ _ => ⟨rfl, rfl, rfl⟩⟩
