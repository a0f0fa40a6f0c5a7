/-! The stages of the class: closing a stage, moving the point, dropping a way. -/
def bnd (X Y : Nat → Int) (chg stp : Int) (m : Nat) : Nat → Int := fun p => if p < m then X p * stp - Y p * chg else X p
theorem bnd_0 {X Y : Nat → Int} {chg stp : Int} : bnd X Y chg stp 0 = X := by
  funext p
  exact if_neg (Nat.not_lt_zero p)
theorem bnd_s {X Y : Nat → Int} {chg stp : Int} {m : Nat} : fu (bnd X Y chg stp m) m (X m * stp - Y m * chg) = bnd X Y chg stp (m + 1) := by
  funext p
  show (if p = m then X m * stp - Y m * chg else if p < m then X p * stp - Y p * chg else X p) = if p < m + 1 then X p * stp - Y p * chg else X p
  by_cases e : p = m
  · rw [if_pos e, if_pos (by omega), e]
  · rw [if_neg e]
    by_cases e2 : p < m
    · rw [if_pos e2, if_pos (by omega)]
    · rw [if_neg e2, if_neg (by omega)]
theorem bnd_m {X Y : Nat → Int} {chg stp : Int} {m : Nat} : bnd X Y chg stp m m = X m := if_neg (Nat.lt_irrefl m)
/-- a row put in the place of another -/
def rw1 (W : Nat → Nat → Int) (w : Nat) (X : Nat → Int) : Nat → Nat → Int := fun k => if k = w then X else W k
theorem rw1_s {W : Nat → Nat → Int} {w : Nat} {X : Nat → Int} : rw1 W w X w = X := if_pos rfl
theorem rw1_n {W : Nat → Nat → Int} {w k : Nat} {X : Nat → Int} (h : k ≠ w) : rw1 W w X k = W k := if_neg h
theorem mem3 {B w : Nat} (h : w < 3) : B + w ∈ [B + 0, B + 1, B + 2] := by
  have : w = 0 ∨ w = 1 ∨ w = 2 := by omega
  rcases this with rfl | rfl | rfl <;> simp
theorem red_1 {z dv : Int} (h : dv ≠ 0) (hz : z * dv ∣ dv) : z ∣ 1 := by
  obtain ⟨c, hc⟩ := hz
  refine ⟨c, ?_⟩
  have : dv * (z * c) = dv * 1 := by rw [Int.mul_one]; have : dv * (z * c) = z * dv * c := by grind
                                     rw [this]; exact hc.symm
  exact (Int.eq_of_mul_eq_mul_left h this).symm
theorem dvd_t {g a : Int} (h : g ∣ a) : g * a.tdiv g = a := Int.mul_tdiv_cancel' h
theorem v_close_13 {d N S : Nat} {h : Nat → Option rr_E} {wc oc bt bb be x y : Int} {ku op s : Nat} (hku : ku < 14) (c13 : h 13 = some (ST13 (ku : Int) wc (op : Int) oc (s : Int) bt bb)) {tt tb tf : Nat → Int} (c14 : h 14 = some (.inl (1, 15, .inr (.inl (fun k => jj (tt k)))))) (c15 : h 15 = some (.inl (1, 15, .inr (.inl (fun k => jj (tb k)))))) (c16 : h 16 = some (.inl (0, 15, .inl (fun k => ii (tf k))))) (c17 : h 17 = some (.inr (3, [.long (jj be), .ref 18, .ref 19, .int (ii x), .int (ii y)]))) (h1 : b5 bt) (h2 : b5 (bb * be)) (h3 : 0 < bb * be) (h4 : b6 bb) (h5 : bb ≠ 0) : rr_Calls (d + 3) j_Stages_closeStage [.ref 13] (N, S, h) (fun r R => r = none ∧ ∃ h', R = (N, S, h') ∧ fr [13, 14, 15, 16] h h' ∧ h' 13 = some (ST13 ((ku + 1 : Nat) : Int) wc ((bdif op s : Nat) : Int) oc (s : Int) bt bb) ∧ h' 14 = some (.inl (1, 15, .inr (.inl (fun k => jj (fu tt (ku + 1) (lw bt (bb * be) 0) k))))) ∧ h' 15 = some (.inl (1, 15, .inr (.inl (fun k => jj (fu tb (ku + 1) (lw bt (bb * be) 1) k))))) ∧ h' 16 = some (.inl (0, 15, .inl (fun k => ii (fu tf (ku + 1) (s : Int) k))))) := by
  refine rr_meth (C := K_Stages_closeStage) (hd := h_Stages_closeStage) (mx := 3) rfl rfl (fun K hK => ?_)
  refine hK _ _ _ _ ?_
  refine s_aload_n rfl (cn rfl) rfl ?_
  refine s_getfield rfl (cn rfl) c13 rfl ?_
  refine s_lconst rfl (cn rfl) 0 (by decide) ?_
  refine s_lcmp rfl (cn rfl) ?_
  refine s_ifl_eq rfl (cn rfl) (cn rfl) ⟨by omega, by omega⟩ ⟨by omega, by omega⟩ (fun q4 => ?_) (fun q4 => ?_)
  · exact absurd q4 h5
  · refine s_aload_n rfl (cn rfl) rfl ?_
    refine s_getfield rfl (cn rfl) c13 rfl ?_
    refine s_bipush rfl (cn rfl) (by decide) ?_
    refine s_icmp_lt rfl (cn rfl) (cn rfl) ⟨by omega, by omega⟩ ⟨by omega, by omega⟩ (fun q8 => ?_) (fun q8 => ?_)
    · refine s_aload_n rfl (cn rfl) rfl ?_
      refine s_dupr rfl (cn rfl) ?_
      refine s_getfield rfl (cn rfl) c13 rfl ?_
      refine s_iconst rfl (cn rfl) ?_
      refine s_iadd rfl (cn rfl) ?_
      refine s_puti rfl (cn rfl) rfl c13 rfl ?_
      refine s_aload_n rfl (cn rfl) rfl ?_
      refine s_getfield rfl (cn rfl) rr_set_eq rfl ?_
      refine s_aload_n rfl (cn rfl) rfl ?_
      refine s_getfield rfl (cn rfl) rr_set_eq rfl ?_
      refine s_getfield rfl (cn rfl) c17 rfl ?_
      refine s_lmul rfl (cn rfl) ?_
      refine s_lstore_n rfl (cn rfl) ?_
      refine s_aload_n rfl (cn rfl) rfl ?_
      refine s_getfield rfl (cn rfl) rr_set_eq rfl ?_
      refine s_aload_n rfl (cn rfl) rfl ?_
      refine s_getfield rfl (cn rfl) rr_set_eq rfl ?_
      refine s_aload_n rfl (cn rfl) rfl ?_
      refine s_getfield rfl (cn rfl) rr_set_eq rfl ?_
      refine s_lload_n rfl (cn rfl) rfl ?_
      refine s_iconst rfl (cn rfl) ?_
      refine s_stat rfl (cn rfl) rfl rfl rfl (u_lowest h1 h2 h3 (by decide)) ?_
      rintro _ _ ⟨rfl, rfl⟩
      refine s_lastore rfl (cn rfl) (ku + 1) rfl c14 (by omega) (by decide) ?_
      refine s_aload_n rfl (cn rfl) rfl ?_
      refine s_getfield rfl (cn rfl) rfl rfl ?_
      refine s_aload_n rfl (cn rfl) rfl ?_
      refine s_getfield rfl (cn rfl) rfl rfl ?_
      refine s_aload_n rfl (cn rfl) rfl ?_
      refine s_getfield rfl (cn rfl) rfl rfl ?_
      refine s_lload_n rfl (cn rfl) rfl ?_
      refine s_iconst rfl (cn rfl) ?_
      refine s_stat rfl (cn rfl) rfl rfl rfl (u_lowest h1 h2 h3 (by decide)) ?_
      rintro _ _ ⟨rfl, rfl⟩
      refine s_lastore rfl (cn rfl) (ku + 1) rfl c15 (by omega) (by decide) ?_
      refine s_aload_n rfl (cn rfl) rfl ?_
      refine s_getfield rfl (cn rfl) rfl rfl ?_
      refine s_aload_n rfl (cn rfl) rfl ?_
      refine s_getfield rfl (cn rfl) rfl rfl ?_
      refine s_aload_n rfl (cn rfl) rfl ?_
      refine s_getfield rfl (cn rfl) rfl rfl ?_
      refine s_iastore rfl (cn rfl) (ku + 1) rfl c16 (by omega) (by decide) ?_
      refine s_aload_n rfl (cn rfl) rfl ?_
      refine s_dupr rfl (cn rfl) ?_
      refine s_getfield rfl (cn rfl) rfl rfl ?_
      refine s_aload_n rfl (cn rfl) rfl ?_
      refine s_getfield rfl (cn rfl) rfl rfl ?_
      refine s_iconst rfl (cn rfl) ?_
      refine s_ixor rfl (cn rfl) _ (bi_not _) ?_
      refine s_iand rfl (cn rfl) _ (bi_andn _ _) ?_
      refine s_puti rfl (cn rfl) rfl rfl rfl ?_
      refine s_return rfl ?_
      exact ⟨rfl, _, rfl, fr_s (by decide) (fr_s (by decide) (fr_s (by decide) (fr_s (by decide) (fr_s (by decide) fr_r)))), rr_set_eq, rfl, rfl, rfl⟩
    · omega
theorem v_change_13 {d N S : Nat} {h : Nat → Option rr_E} {ku op oc bs bt bb : Int} {wc : Nat} (hwc : wc ≤ 3) (c13 : h 13 = some (ST13 ku (wc : Int) op oc bs bt bb)) {W : Nat → Nat → Int} (c20 : h 20 = some WA13) (cw : ∀ w, w < 3 → h (21 + w) = some (.inl (1, 4, .inr (.inl (fun k => jj (W w k)))))) {g : Nat} (hg : g < 16) (hb : ∀ w, w < wc → b6 (st_sh 4 g (W w))) : rr_Calls (d + 2) j_Stages_wayChanging [.ref 13, .int (ii (g : Int))] (N, S, h) (fun r R => r = some (.int (ii (ff 0 wc (fun w => st_sh 4 g (W w) ≠ 0) (-1)))) ∧ R = (N, S, h)) := by
  refine rr_meth (C := K_Stages_wayChanging) (hd := h_Stages_wayChanging) (mx := 3) rfl rfl (fun K hK => ?_)
  refine hK _ _ _ _ ?_
  refine s_iconst rfl (cn rfl) ?_
  refine s_istore_n rfl (ch rfl) ?_
  have lp2 : ∀ w : Nat, w ≤ wc → ∀ (no : ∀ k, 0 ≤ k → k < w → ¬ st_sh 4 g (W k) ≠ 0), K 2 [some (.ref 13), some (.int (ii (g : Int))), some (.int (ii (w : Int)))] [] (N, S, h) := by
    refine dn (fun w hw ih2 => ?_)
    intro no
    refine hK _ _ _ _ ?_
    refine s_iload_n rfl (cn rfl) rfl ?_
    refine s_aload_n rfl (cn rfl) rfl ?_
    refine s_getfield rfl (cn rfl) c13 rfl ?_
    refine s_icmp_ge rfl (cn rfl) (cn rfl) ⟨by omega, by omega⟩ ⟨by omega, by omega⟩ (fun q5 => ?_) (fun q5 => ?_)
    · refine s_iconst rfl (cn rfl) ?_
      refine s_ireturn rfl ?_
      exact ⟨ri (ff_n (fun k k0 q => no k k0 (by omega))), rfl⟩
    · have hbw := hb w (by omega)
      refine s_aload_n rfl (cn rfl) rfl ?_
      refine s_iload_n rfl (cn rfl) rfl ?_
      refine s_iload_n rfl (cn rfl) rfl ?_
      refine s_virt rfl (cn rfl) rfl rfl c13 rfl (v_goes_13 c13 c20 cw (show w < 3 by omega) hg) ?_
      rintro _ _ ⟨rfl, rfl⟩
      refine s_lconst rfl (cn rfl) 0 (by decide) ?_
      refine s_lcmp rfl (cn rfl) ?_
      refine s_ifl_eq rfl (cn rfl) (cn rfl) ⟨by omega, by omega⟩ ⟨by omega, by omega⟩ (fun q12 => ?_) (fun q12 => ?_)
      · refine s_iinc rfl (cn rfl) rfl ?_
        refine s_goto rfl (ch rfl) ?_
        exact ih2 (by omega) (fun k k0 q => by
            by_cases e : k = w
            · subst e; exact fun z => z q12
            · exact no k k0 (by omega))
      · refine s_iload_n rfl (cn rfl) rfl ?_
        refine s_ireturn rfl ?_
        exact ⟨ri (ff_y (Nat.zero_le w) (by omega) q12 no), rfl⟩
  exact lp2 0 (by omega) (fun k _ q => absurd q (by omega))
theorem v_bend_13 {d N S : Nat} {h : Nat → Option rr_E} {ku wc op oc bs bt bb : Int} (c13 : h 13 = some (ST13 ku wc op oc bs bt bb)) {W : Nat → Nat → Int} (c20 : h 20 = some WA13) (cw : ∀ w, w < 3 → h (21 + w) = some (.inl (1, 4, .inr (.inl (fun k => jj (W w k)))))) {w y : Nat} (hw : w < 3) (hy : y < 3) (hwy : w ≠ y) {chg stp : Int} : rr_Calls (d + 1) j_Stages_bend [.ref 13, .int (ii (w : Int)), .int (ii (y : Int)), .long (jj chg), .long (jj stp)] (N, S, h) (fun r R => r = none ∧ ∃ h', R = (N, S, h') ∧ fr [21 + w] h h' ∧ h' (21 + w) = some (.inl (1, 4, .inr (.inl (fun k => jj (bnd (W w) (W y) chg stp 4 k)))))) := by
  refine rr_meth (C := K_Stages_bend) (hd := h_Stages_bend) (mx := 8) rfl rfl (fun K hK => ?_)
  refine hK _ _ _ _ ?_
  refine s_iconst rfl (cn rfl) ?_
  refine s_istore rfl (ch rfl) ?_
  have lp2 : ∀ p : Nat, p ≤ 4 → ∀ (h' : Nat → Option rr_E) (cx : h' (21 + w) = some (.inl (1, 4, .inr (.inl (fun k => jj (bnd (W w) (W y) chg stp p k)))))) (hf : fr [21 + w] h h'), K 2 [some (.ref 13), some (.int (ii (w : Int))), some (.int (ii (y : Int))), some (.long (jj chg)), none, some (.long (jj stp)), none, some (.int (ii (p : Int)))] [] (N, S, h') := by
    refine dn (fun p hp ih2 => ?_)
    intro h' cx hf
    have c13 := (hf 13 (by simp; omega)).trans c13
    have c20 := (hf 20 (by simp; omega)).trans c20
    have cy := (hf (21 + y) (by simp; omega)).trans (cw y hy)
    refine hK _ _ _ _ ?_
    refine s_iload rfl (cn rfl) rfl ?_
    refine s_iconst rfl (cn rfl) ?_
    refine s_icmp_ge rfl (cn rfl) (cn rfl) ⟨by omega, by omega⟩ ⟨by omega, by omega⟩ (fun q4 => ?_) (fun q4 => ?_)
    · refine s_return rfl ?_
      exact ⟨rfl, h', rfl, hf, ar_l cx (by rw [show p = 4 by omega])⟩
    · refine s_aload_n rfl (cn rfl) rfl ?_
      refine s_getfield rfl (cn rfl) c13 rfl ?_
      refine s_iload_n rfl (cn rfl) rfl ?_
      refine s_aaload rfl (cn rfl) _ rfl c20 (by omega) (by decide) ((if_pos hw).trans rfl) ?_
      refine s_iload rfl (cn rfl) rfl ?_
      refine s_aload_n rfl (cn rfl) rfl ?_
      refine s_getfield rfl (cn rfl) c13 rfl ?_
      refine s_iload_n rfl (cn rfl) rfl ?_
      refine s_aaload rfl (cn rfl) _ rfl c20 (by omega) (by decide) ((if_pos hw).trans rfl) ?_
      refine s_iload rfl (cn rfl) rfl ?_
      refine s_laload rfl (cn rfl) _ rfl cx (by omega) (by decide) (congrArg jj bnd_m) ?_
      refine s_lload rfl (cn rfl) rfl ?_
      refine s_lmul rfl (cn rfl) ?_
      refine s_aload_n rfl (cn rfl) rfl ?_
      refine s_getfield rfl (cn rfl) c13 rfl ?_
      refine s_iload_n rfl (cn rfl) rfl ?_
      refine s_aaload rfl (cn rfl) _ rfl c20 (by omega) (by decide) ((if_pos hy).trans rfl) ?_
      refine s_iload rfl (cn rfl) rfl ?_
      refine s_laload rfl (cn rfl) _ rfl cy (by omega) (by decide) rfl ?_
      refine s_lload_n rfl (cn rfl) rfl ?_
      refine s_lmul rfl (cn rfl) ?_
      refine s_lsub rfl (cn rfl) ?_
      refine s_lastore rfl (cn rfl) _ rfl cx (by omega) (by decide) ?_
      refine s_iinc rfl (cn rfl) rfl ?_
      refine s_goto rfl (ch rfl) ?_
      exact ih2 (by omega) _ (ar_l rr_set_eq bnd_s) (fr_s (by simp) hf)
  exact lp2 0 (by omega) _ (ar_l (cw w hw) bnd_0.symm) fr_r
theorem v_simpl_13 {d N S : Nat} {h : Nat → Option rr_E} {be x y : Int} {A : Nat → Int} (c17 : h 17 = some (.inr (3, [.long (jj be), .ref 18, .ref 19, .int (ii x), .int (ii y)]))) (c18 : h 18 = some (.inl (1, 4, .inr (.inl (fun k => jj (A k)))))) (hbe : 0 < be) (hb : b5 be) (hA : ∀ p, p < 4 → b5 (A p)) : rr_Calls (d + 2) j_Shares_simplify [.ref 17] (N, S, h) (fun r R => r = none ∧ ∃ (h' : Nat → Option rr_E) (be' dv : Int) (A' : Nat → Int), R = (N, S, h') ∧ fr [17, 18] h h' ∧ h' 17 = some (.inr (3, [.long (jj be'), .ref 18, .ref 19, .int (ii x), .int (ii y)])) ∧ h' 18 = some (.inl (1, 4, .inr (.inl (fun k => jj (A' k))))) ∧ 0 < dv ∧ 0 < be' ∧ dv * be' = be ∧ (∀ p, p < 4 → dv * A' p = A p) ∧ ∀ k : Int, k ∣ be' → (∀ p, p < 4 → k ∣ A' p) → k ∣ 1) := by
  refine rr_meth (C := K_Shares_simplify) (hd := h_Shares_simplify) (mx := 4) rfl rfl (fun K hK => ?_)
  refine hK _ _ _ _ ?_
  refine s_aload_n rfl (cn rfl) rfl ?_
  refine s_getfield rfl (cn rfl) c17 rfl ?_
  refine s_lstore_n rfl (cn rfl) ?_
  refine s_iconst rfl (cn rfl) ?_
  refine s_istore_n rfl (ch rfl) ?_
  have lp5 : ∀ p : Nat, p ≤ 4 → ∀ (dv : Int) (hd : 1 ≤ dv ∧ dv ≤ 9223372036854775807) (hdb : dv ∣ be) (hdA : ∀ k, k < p → dv ∣ A k) (hdg : ∀ z : Int, z ∣ be → (∀ k, k < p → z ∣ A k) → z ∣ dv), K 5 [some (.ref 17), some (.long (jj dv)), none, some (.int (ii (p : Int)))] [] (N, S, h) := by
    refine dn (fun p hp ih5 => ?_)
    intro dv hd hdb hdA hdg
    refine hK _ _ _ _ ?_
    refine s_iload_n rfl (cn rfl) rfl ?_
    refine s_aload_n rfl (cn rfl) rfl ?_
    refine s_getfield rfl (cn rfl) c17 rfl ?_
    refine s_arraylength rfl (cn rfl) c18 (by decide) ?_
    refine s_icmp_ge rfl (cn rfl) (cn rfl) ⟨by omega, by omega⟩ ⟨by omega, by omega⟩ (fun q9 => ?_) (fun q9 => ?_)
    · refine s_lload_n rfl (cn rfl) rfl ?_
      refine s_lconst rfl (cn rfl) 1 (by decide) ?_
      refine s_lcmp rfl (cn rfl) ?_
      refine s_ifl_le rfl (cn rfl) (cn rfl) ⟨by omega, by omega⟩ ⟨by omega, by omega⟩ (fun q22 => ?_) (fun q22 => ?_)
      · refine s_return rfl ?_
        first
          | (have ebe : dv * be.tdiv dv = be := dvd_t hdb
             refine ⟨rfl, h', be.tdiv dv, dv, A2, rfl, hf, c17, c18, by omega, ?_, ebe, fun p hp => h1 p (by omega), fun z z1 z2 => red_1 (show dv ≠ 0 by omega) (hdg (z * dv) (by rw [← ebe, Int.mul_comm z]; exact Int.mul_dvd_mul_left dv z1) (fun k hk => by rw [← h1 k (by omega), Int.mul_comm z]; exact Int.mul_dvd_mul_left dv (z2 k (by omega))))⟩
             rcases Int.lt_trichotomy (be.tdiv dv) 0 with z | z | z
             · have := Int.mul_neg_of_pos_of_neg (show 0 < dv by omega) z; omega
             · rw [z] at ebe; omega
             · exact z)
          | (have e1 : dv = 1 := by omega
             exact ⟨rfl, h, be, 1, A, rfl, fr_r, c17, c18, by decide, hbe, Int.one_mul be, fun p _ => Int.one_mul _, fun z z1 z2 => by rw [← e1]; exact hdg z z1 (fun k hk => z2 k (by omega))⟩)
      · refine s_aload_n rfl (cn rfl) rfl ?_
        refine s_dupr rfl (cn rfl) ?_
        refine s_getfield rfl (cn rfl) c17 rfl ?_
        refine s_lload_n rfl (cn rfl) rfl ?_
        refine s_ldiv rfl (cn rfl) ⟨by omega, by omega⟩ ⟨by omega, by omega⟩ (td_b hb) (by omega) ?_
        refine s_putl rfl (cn rfl) rfl c17 rfl ?_
        refine s_iconst rfl (cn rfl) ?_
        refine s_istore_n rfl (ch rfl) ?_
        have lp31 : ∀ i : Nat, i ≤ 4 → ∀ (h' : Nat → Option rr_E) (A2 : Nat → Int) (c17 : h' 17 = some (.inr (3, [.long (jj (be.tdiv dv)), .ref 18, .ref 19, .int (ii x), .int (ii y)]))) (c18 : h' 18 = some (.inl (1, 4, .inr (.inl (fun k => jj (A2 k)))))) (hf : fr [17, 18] h h') (h1 : ∀ k, k < i → dv * A2 k = A k) (h2 : ∀ k, i ≤ k → A2 k = A k), K 31 [some (.ref 17), some (.long (jj dv)), none, some (.int (ii (i : Int)))] [] (N, S, h') := by
          refine dn (fun i hi ih31 => ?_)
          intro h' A2 c17 c18 hf h1 h2
          have hAi := hA i
          have hi2 := h2 i (Nat.le_refl i)
          refine hK _ _ _ _ ?_
          refine s_iload_n rfl (cn rfl) rfl ?_
          refine s_aload_n rfl (cn rfl) rfl ?_
          refine s_getfield rfl (cn rfl) c17 rfl ?_
          refine s_arraylength rfl (cn rfl) c18 (by decide) ?_
          refine s_icmp_ge rfl (cn rfl) (cn rfl) ⟨by omega, by omega⟩ ⟨by omega, by omega⟩ (fun q35 => ?_) (fun q35 => ?_)
          · refine s_return rfl ?_
            first
              | (have ebe : dv * be.tdiv dv = be := dvd_t hdb
                 refine ⟨rfl, h', be.tdiv dv, dv, A2, rfl, hf, c17, c18, by omega, ?_, ebe, fun p hp => h1 p (by omega), fun z z1 z2 => red_1 (show dv ≠ 0 by omega) (hdg (z * dv) (by rw [← ebe, Int.mul_comm z]; exact Int.mul_dvd_mul_left dv z1) (fun k hk => by rw [← h1 k (by omega), Int.mul_comm z]; exact Int.mul_dvd_mul_left dv (z2 k (by omega))))⟩
                 rcases Int.lt_trichotomy (be.tdiv dv) 0 with z | z | z
                 · have := Int.mul_neg_of_pos_of_neg (show 0 < dv by omega) z; omega
                 · rw [z] at ebe; omega
                 · exact z)
              | (have e1 : dv = 1 := by omega
                 exact ⟨rfl, h, be, 1, A, rfl, fr_r, c17, c18, by decide, hbe, Int.one_mul be, fun p _ => Int.one_mul _, fun z z1 z2 => by rw [← e1]; exact hdg z z1 (fun k hk => z2 k (by omega))⟩)
          · refine s_aload_n rfl (cn rfl) rfl ?_
            refine s_getfield rfl (cn rfl) c17 rfl ?_
            refine s_iload_n rfl (cn rfl) rfl ?_
            refine s_dup2 rfl (cn rfl) ?_
            refine s_laload rfl (cn rfl) _ rfl c18 (by omega) (by decide) rfl ?_
            refine s_lload_n rfl (cn rfl) rfl ?_
            refine s_ldiv rfl (cn rfl) (by rw [hi2]; have := hAi (by omega); omega) ⟨by omega, by omega⟩ (by rw [hi2]; exact td_b (hAi (by omega))) (by omega) ?_
            refine s_lastore rfl (cn rfl) _ rfl c18 (by omega) (by decide) ?_
            refine s_iinc rfl (cn rfl) rfl ?_
            refine s_goto rfl (ch rfl) ?_
            exact ih31 (by omega) _ _ c17 rr_set_eq (fr_s (by decide) hf) (fun k q => by
                by_cases e : k = i
                · subst e; rw [fu_s, h2 k (Nat.le_refl k)]; exact dvd_t (hdA k (by omega))
                · rw [fu_n e]; exact h1 k (by omega)) (fun k q => by rw [fu_n (by omega)]; exact h2 k (by omega))
        exact lp31 0 (by omega) _ A rr_set_eq c18 (fr_s (by decide) fr_r) (fun k q => absurd q (by omega)) (fun _ _ => rfl)
    · refine s_lload_n rfl (cn rfl) rfl ?_
      refine s_aload_n rfl (cn rfl) rfl ?_
      refine s_getfield rfl (cn rfl) c17 rfl ?_
      refine s_iload_n rfl (cn rfl) rfl ?_
      refine s_laload rfl (cn rfl) _ rfl c18 (by omega) (by decide) rfl ?_
      refine s_stat rfl (cn rfl) rfl rfl rfl (u_gcd (by omega) (hA p (by omega))) ?_
      rintro _ _ ⟨rfl, rfl⟩
      refine s_lstore_n rfl (cn rfl) ?_
      refine s_iinc rfl (cn rfl) rfl ?_
      refine s_goto rfl (ch rfl) ?_
      exact ih5 (by omega) _ (by have h1 : 0 < Int.gcd dv (A p) := Int.gcd_pos_of_ne_zero_left _ (by omega); have h2 := Int.le_of_dvd (show 0 < dv by omega) (Int.gcd_dvd_left dv (A p)); omega) (Int.dvd_trans (Int.gcd_dvd_left dv (A p)) hdb) (fun k q => by
          by_cases e : k = p
          · subst e; exact Int.gcd_dvd_right dv (A k)
          · exact Int.dvd_trans (Int.gcd_dvd_left dv (A p)) (hdA k (by omega))) (fun z z1 z2 => Int.dvd_coe_gcd (hdg z z1 (fun k q => z2 k (by omega))) (z2 p (by omega)))
  exact lp5 0 (by omega) be (by omega) (Int.dvd_refl be) (fun k q => absurd q (by omega)) (fun z q _ => q)
theorem v_drop_13 {d N S : Nat} {h : Nat → Option rr_E} {ku op oc bs bt bb : Int} {wc : Nat} (hwc : wc ≤ 3) (c13 : h 13 = some (ST13 ku (wc : Int) op oc bs bt bb)) {W : Nat → Nat → Int} (c20 : h 20 = some WA13) (cw : ∀ w, w < 3 → h (21 + w) = some (.inl (1, 4, .inr (.inl (fun k => jj (W w k)))))) {y g : Nat} (hy : y < wc) (hg : g < 16) : rr_Calls (d + 2) j_Stages_dropWay [.ref 13, .int (ii (y : Int)), .int (ii (g : Int))] (N, S, h) (fun r R => r = none ∧ ∃ (h' : Nat → Option rr_E) (W' : Nat → Nat → Int), R = (N, S, h') ∧ fr [13, 21 + 0, 21 + 1, 21 + 2] h h' ∧ h' 13 = some (ST13 ku ((wc - 1 : Nat) : Int) op oc bs bt bb) ∧ (∀ w, w < 3 → h' (21 + w) = some (.inl (1, 4, .inr (.inl (fun k => jj (W' w k)))))) ∧ ∀ k, k < wc - 1 → ∀ p, p < 4 → W' k p = W (if k = y then wc - 1 else k) p * st_sh 4 g (W y) - W y p * st_sh 4 g (W (if k = y then wc - 1 else k))) := by
  refine rr_meth (C := K_Stages_dropWay) (hd := h_Stages_dropWay) (mx := 6) rfl rfl (fun K hK => ?_)
  refine hK _ _ _ _ ?_
  refine s_aload_n rfl (cn rfl) rfl ?_
  refine s_iload_n rfl (cn rfl) rfl ?_
  refine s_iload_n rfl (cn rfl) rfl ?_
  refine s_virt rfl (cn rfl) rfl rfl c13 rfl (v_goes_13 c13 c20 cw (show y < 3 by omega) hg) ?_
  rintro _ _ ⟨rfl, rfl⟩
  refine s_lstore_n rfl (cn rfl) ?_
  refine s_iconst rfl (cn rfl) ?_
  refine s_istore rfl (ch rfl) ?_
  have lp7 : ∀ w : Nat, w ≤ wc → ∀ (h' : Nat → Option rr_E) (X : Nat → Nat → Int) (cx : ∀ w, w < 3 → h' (21 + w) = some (.inl (1, 4, .inr (.inl (fun k => jj (X w k)))))) (hf : fr [21 + 0, 21 + 1, 21 + 2] h h') (h1 : ∀ k, k < w → k ≠ y → ∀ p, p < 4 → X k p = W k p * st_sh 4 g (W y) - W y p * st_sh 4 g (W k)) (h2 : ∀ k, w ≤ k ∨ k = y → X k = W k), K 7 [some (.ref 13), some (.int (ii (y : Int))), some (.int (ii (g : Int))), some (.long (jj (st_sh 4 g (W y)))), none, some (.int (ii (w : Int)))] [] (N, S, h') := by
    refine dn (fun w hw ih7 => ?_)
    intro h' X cx hf h1 h2
    have c13 := (hf 13 (by simp)).trans c13
    have c20 := (hf 20 (by simp)).trans c20
    refine hK _ _ _ _ ?_
    refine s_iload rfl (cn rfl) rfl ?_
    refine s_aload_n rfl (cn rfl) rfl ?_
    refine s_getfield rfl (cn rfl) c13 rfl ?_
    refine s_icmp_ge rfl (cn rfl) (cn rfl) ⟨by omega, by omega⟩ ⟨by omega, by omega⟩ (fun q10 => ?_) (fun q10 => ?_)
    · refine s_aload_n rfl (cn rfl) rfl ?_
      refine s_dupr rfl (cn rfl) ?_
      refine s_getfield rfl (cn rfl) c13 rfl ?_
      refine s_iconst rfl (cn rfl) ?_
      refine s_isub rfl (cn rfl) ?_
      refine s_puti rfl (cn rfl) rfl c13 rfl ?_
      obtain ⟨m, em⟩ : ∃ m, wc = m + 1 := ⟨wc - 1, by omega⟩
      have ew : (wc : Int) - 1 = ((m : Nat) : Int) := by omega
      refine s_aload_n rfl (cn rfl) rfl ?_
      refine s_getfield rfl (cn rfl) rr_set_eq rfl ?_
      refine s_aload_n rfl (cn rfl) rfl ?_
      refine s_getfield rfl (cn rfl) rr_set_eq rfl ?_
      refine s_aaload rfl (cn rfl) m ew c20 (by omega) (by decide) ((if_pos (show m < 3 by omega)).trans rfl) ?_
      refine s_iconst rfl (cn rfl) ?_
      refine s_aload_n rfl (cn rfl) rfl ?_
      refine s_getfield rfl (cn rfl) rr_set_eq rfl ?_
      refine s_iload_n rfl (cn rfl) rfl ?_
      refine s_aaload rfl (cn rfl) _ rfl c20 (by omega) (by decide) ((if_pos (show y < 3 by omega)).trans rfl) ?_
      refine s_iconst rfl (cn rfl) ?_
      refine s_iconst rfl (cn rfl) ?_
      refine s_copyl rfl (cn rfl) (show rr_set h' 13 _ (21 + m) = _ from (rr_set_ne (by omega)).trans (cx m (by omega))) (show rr_set h' 13 _ (21 + y) = _ from (rr_set_ne (by omega)).trans (cx y (by omega))) (sp := 0) (dp := 0) (m := 4) (by decide) (by decide) (by decide) (by decide) rfl ?_
      refine s_return rfl ?_
      refine ⟨rfl, _, rw1 X y (fc (X m) (X y) 0 0 4), rfl, ?_, ?_, ?_, ?_⟩
      · exact fr_s (List.mem_cons_of_mem _ (mem3 (by omega))) (fr_s (by simp) (fr_w hf (by simp)))
      · rw [rr_set_ne (by omega), rr_set_eq, show wc - 1 = m by omega, ← ew]
        rfl
      · intro k hk
        by_cases e : k = y
        · subst e; rw [rw1_s]; exact rr_set_eq
        · rw [rw1_n e, rr_set_ne (by omega), rr_set_ne (by omega)]; exact cx k hk
      · intro k hk p hp
        by_cases e : k = y
        · subst e
          rw [rw1_s, if_pos rfl, show wc - 1 = m by omega]
          show (if 0 ≤ p ∧ p < 0 + 4 then X m (0 + (p - 0)) else _) = _
          rw [if_pos (by omega), show 0 + (p - 0) = p by omega]
          exact h1 m (by omega) (by omega) p hp
        · rw [rw1_n e, if_neg e]
          exact h1 k (by omega) e p hp
    · refine s_iload rfl (cn rfl) rfl ?_
      refine s_iload_n rfl (cn rfl) rfl ?_
      refine s_icmp_eq rfl (cn rfl) (cn rfl) ⟨by omega, by omega⟩ ⟨by omega, by omega⟩ (fun q13 => ?_) (fun q13 => ?_)
      · refine s_iinc rfl (cn rfl) rfl ?_
        refine s_goto rfl (ch rfl) ?_
        exact ih7 (by omega) _ X cx hf (fun k q1 q2 p hp => h1 k (by omega) q2 p hp) (fun k q => h2 k (by omega))
      · refine s_aload_n rfl (cn rfl) rfl ?_
        refine s_iload rfl (cn rfl) rfl ?_
        refine s_iload_n rfl (cn rfl) rfl ?_
        refine s_aload_n rfl (cn rfl) rfl ?_
        refine s_iload rfl (cn rfl) rfl ?_
        refine s_iload_n rfl (cn rfl) rfl ?_
        refine s_virt rfl (cn rfl) rfl rfl c13 rfl (v_goes_13 (W := X) c13 c20 cx (show w < 3 by omega) hg) ?_
        rintro _ _ ⟨rfl, rfl⟩
        rw [h2 w (Or.inl (Nat.le_refl w))]
        refine s_lload_n rfl (cn rfl) rfl ?_
        refine s_virt rfl (cn rfl) rfl rfl c13 rfl (v_bend_13 (W := X) (y := y) c13 c20 cx (show w < 3 by omega) (by omega) (by omega)) ?_
        rintro _ _ ⟨rfl, h3, rfl, hf3, d3⟩
        refine s_iinc rfl (cn rfl) rfl ?_
        refine s_goto rfl (ch rfl) ?_
        exact ih7 (by omega) _ (rw1 X w (bnd (X w) (X y) (st_sh 4 g (W w)) (st_sh 4 g (W y)) 4)) (fun k hk => by
            by_cases e : k = w
            · subst e; rw [rw1_s]; exact d3
            · rw [rw1_n e]; exact (hf3 (21 + k) (by simp; omega)).trans (cx k hk)) (fr_t hf hf3 (by intro k hk; rw [List.mem_singleton.mp hk]; exact mem3 (by omega))) (fun k q1 q2 p hp => by
            by_cases e : k = w
            · subst e; rw [rw1_s, h2 k (Or.inl (Nat.le_refl k)), h2 y (Or.inr rfl)]; exact if_pos hp
            · rw [rw1_n e]; exact h1 k (by omega) q2 p hp) (fun k q => by
            rw [rw1_n (by omega)]; exact h2 k (by omega))
  exact lp7 0 (by omega) _ W cw fr_r (fun k q => absurd q (by omega)) (fun _ _ => rfl)
theorem v_close_28 {d N S : Nat} {h : Nat → Option rr_E} {wc oc bt bb be x y : Int} {ku op s : Nat} (hku : ku < 14) (c28 : h 28 = some (ST28 (ku : Int) wc (op : Int) oc (s : Int) bt bb)) {tt tb tf : Nat → Int} (c29 : h 29 = some (.inl (1, 15, .inr (.inl (fun k => jj (tt k)))))) (c30 : h 30 = some (.inl (1, 15, .inr (.inl (fun k => jj (tb k)))))) (c31 : h 31 = some (.inl (0, 15, .inl (fun k => ii (tf k))))) (c32 : h 32 = some (.inr (3, [.long (jj be), .ref 33, .ref 34, .int (ii x), .int (ii y)]))) (h1 : b5 bt) (h2 : b5 (bb * be)) (h3 : 0 < bb * be) (h4 : b6 bb) (h5 : bb ≠ 0) : rr_Calls (d + 3) j_Stages_closeStage [.ref 28] (N, S, h) (fun r R => r = none ∧ ∃ h', R = (N, S, h') ∧ fr [28, 29, 30, 31] h h' ∧ h' 28 = some (ST28 ((ku + 1 : Nat) : Int) wc ((bdif op s : Nat) : Int) oc (s : Int) bt bb) ∧ h' 29 = some (.inl (1, 15, .inr (.inl (fun k => jj (fu tt (ku + 1) (lw bt (bb * be) 0) k))))) ∧ h' 30 = some (.inl (1, 15, .inr (.inl (fun k => jj (fu tb (ku + 1) (lw bt (bb * be) 1) k))))) ∧ h' 31 = some (.inl (0, 15, .inl (fun k => ii (fu tf (ku + 1) (s : Int) k))))) := by
  refine rr_meth (C := K_Stages_closeStage) (hd := h_Stages_closeStage) (mx := 3) rfl rfl (fun K hK => ?_)
  refine hK _ _ _ _ ?_
  refine s_aload_n rfl (cn rfl) rfl ?_
  refine s_getfield rfl (cn rfl) c28 rfl ?_
  refine s_lconst rfl (cn rfl) 0 (by decide) ?_
  refine s_lcmp rfl (cn rfl) ?_
  refine s_ifl_eq rfl (cn rfl) (cn rfl) ⟨by omega, by omega⟩ ⟨by omega, by omega⟩ (fun q4 => ?_) (fun q4 => ?_)
  · exact absurd q4 h5
  · refine s_aload_n rfl (cn rfl) rfl ?_
    refine s_getfield rfl (cn rfl) c28 rfl ?_
    refine s_bipush rfl (cn rfl) (by decide) ?_
    refine s_icmp_lt rfl (cn rfl) (cn rfl) ⟨by omega, by omega⟩ ⟨by omega, by omega⟩ (fun q8 => ?_) (fun q8 => ?_)
    · refine s_aload_n rfl (cn rfl) rfl ?_
      refine s_dupr rfl (cn rfl) ?_
      refine s_getfield rfl (cn rfl) c28 rfl ?_
      refine s_iconst rfl (cn rfl) ?_
      refine s_iadd rfl (cn rfl) ?_
      refine s_puti rfl (cn rfl) rfl c28 rfl ?_
      refine s_aload_n rfl (cn rfl) rfl ?_
      refine s_getfield rfl (cn rfl) rr_set_eq rfl ?_
      refine s_aload_n rfl (cn rfl) rfl ?_
      refine s_getfield rfl (cn rfl) rr_set_eq rfl ?_
      refine s_getfield rfl (cn rfl) c32 rfl ?_
      refine s_lmul rfl (cn rfl) ?_
      refine s_lstore_n rfl (cn rfl) ?_
      refine s_aload_n rfl (cn rfl) rfl ?_
      refine s_getfield rfl (cn rfl) rr_set_eq rfl ?_
      refine s_aload_n rfl (cn rfl) rfl ?_
      refine s_getfield rfl (cn rfl) rr_set_eq rfl ?_
      refine s_aload_n rfl (cn rfl) rfl ?_
      refine s_getfield rfl (cn rfl) rr_set_eq rfl ?_
      refine s_lload_n rfl (cn rfl) rfl ?_
      refine s_iconst rfl (cn rfl) ?_
      refine s_stat rfl (cn rfl) rfl rfl rfl (u_lowest h1 h2 h3 (by decide)) ?_
      rintro _ _ ⟨rfl, rfl⟩
      refine s_lastore rfl (cn rfl) (ku + 1) rfl c29 (by omega) (by decide) ?_
      refine s_aload_n rfl (cn rfl) rfl ?_
      refine s_getfield rfl (cn rfl) rfl rfl ?_
      refine s_aload_n rfl (cn rfl) rfl ?_
      refine s_getfield rfl (cn rfl) rfl rfl ?_
      refine s_aload_n rfl (cn rfl) rfl ?_
      refine s_getfield rfl (cn rfl) rfl rfl ?_
      refine s_lload_n rfl (cn rfl) rfl ?_
      refine s_iconst rfl (cn rfl) ?_
      refine s_stat rfl (cn rfl) rfl rfl rfl (u_lowest h1 h2 h3 (by decide)) ?_
      rintro _ _ ⟨rfl, rfl⟩
      refine s_lastore rfl (cn rfl) (ku + 1) rfl c30 (by omega) (by decide) ?_
      refine s_aload_n rfl (cn rfl) rfl ?_
      refine s_getfield rfl (cn rfl) rfl rfl ?_
      refine s_aload_n rfl (cn rfl) rfl ?_
      refine s_getfield rfl (cn rfl) rfl rfl ?_
      refine s_aload_n rfl (cn rfl) rfl ?_
      refine s_getfield rfl (cn rfl) rfl rfl ?_
      refine s_iastore rfl (cn rfl) (ku + 1) rfl c31 (by omega) (by decide) ?_
      refine s_aload_n rfl (cn rfl) rfl ?_
      refine s_dupr rfl (cn rfl) ?_
      refine s_getfield rfl (cn rfl) rfl rfl ?_
      refine s_aload_n rfl (cn rfl) rfl ?_
      refine s_getfield rfl (cn rfl) rfl rfl ?_
      refine s_iconst rfl (cn rfl) ?_
      refine s_ixor rfl (cn rfl) _ (bi_not _) ?_
      refine s_iand rfl (cn rfl) _ (bi_andn _ _) ?_
      refine s_puti rfl (cn rfl) rfl rfl rfl ?_
      refine s_return rfl ?_
      exact ⟨rfl, _, rfl, fr_s (by decide) (fr_s (by decide) (fr_s (by decide) (fr_s (by decide) (fr_s (by decide) fr_r)))), rr_set_eq, rfl, rfl, rfl⟩
    · omega
theorem v_change_28 {d N S : Nat} {h : Nat → Option rr_E} {ku op oc bs bt bb : Int} {wc : Nat} (hwc : wc ≤ 3) (c28 : h 28 = some (ST28 ku (wc : Int) op oc bs bt bb)) {W : Nat → Nat → Int} (c35 : h 35 = some WA28) (cw : ∀ w, w < 3 → h (36 + w) = some (.inl (1, 4, .inr (.inl (fun k => jj (W w k)))))) {g : Nat} (hg : g < 16) (hb : ∀ w, w < wc → b6 (st_sh 4 g (W w))) : rr_Calls (d + 2) j_Stages_wayChanging [.ref 28, .int (ii (g : Int))] (N, S, h) (fun r R => r = some (.int (ii (ff 0 wc (fun w => st_sh 4 g (W w) ≠ 0) (-1)))) ∧ R = (N, S, h)) := by
  refine rr_meth (C := K_Stages_wayChanging) (hd := h_Stages_wayChanging) (mx := 3) rfl rfl (fun K hK => ?_)
  refine hK _ _ _ _ ?_
  refine s_iconst rfl (cn rfl) ?_
  refine s_istore_n rfl (ch rfl) ?_
  have lp2 : ∀ w : Nat, w ≤ wc → ∀ (no : ∀ k, 0 ≤ k → k < w → ¬ st_sh 4 g (W k) ≠ 0), K 2 [some (.ref 28), some (.int (ii (g : Int))), some (.int (ii (w : Int)))] [] (N, S, h) := by
    refine dn (fun w hw ih2 => ?_)
    intro no
    refine hK _ _ _ _ ?_
    refine s_iload_n rfl (cn rfl) rfl ?_
    refine s_aload_n rfl (cn rfl) rfl ?_
    refine s_getfield rfl (cn rfl) c28 rfl ?_
    refine s_icmp_ge rfl (cn rfl) (cn rfl) ⟨by omega, by omega⟩ ⟨by omega, by omega⟩ (fun q5 => ?_) (fun q5 => ?_)
    · refine s_iconst rfl (cn rfl) ?_
      refine s_ireturn rfl ?_
      exact ⟨ri (ff_n (fun k k0 q => no k k0 (by omega))), rfl⟩
    · have hbw := hb w (by omega)
      refine s_aload_n rfl (cn rfl) rfl ?_
      refine s_iload_n rfl (cn rfl) rfl ?_
      refine s_iload_n rfl (cn rfl) rfl ?_
      refine s_virt rfl (cn rfl) rfl rfl c28 rfl (v_goes_28 c28 c35 cw (show w < 3 by omega) hg) ?_
      rintro _ _ ⟨rfl, rfl⟩
      refine s_lconst rfl (cn rfl) 0 (by decide) ?_
      refine s_lcmp rfl (cn rfl) ?_
      refine s_ifl_eq rfl (cn rfl) (cn rfl) ⟨by omega, by omega⟩ ⟨by omega, by omega⟩ (fun q12 => ?_) (fun q12 => ?_)
      · refine s_iinc rfl (cn rfl) rfl ?_
        refine s_goto rfl (ch rfl) ?_
        exact ih2 (by omega) (fun k k0 q => by
            by_cases e : k = w
            · subst e; exact fun z => z q12
            · exact no k k0 (by omega))
      · refine s_iload_n rfl (cn rfl) rfl ?_
        refine s_ireturn rfl ?_
        exact ⟨ri (ff_y (Nat.zero_le w) (by omega) q12 no), rfl⟩
  exact lp2 0 (by omega) (fun k _ q => absurd q (by omega))
theorem v_bend_28 {d N S : Nat} {h : Nat → Option rr_E} {ku wc op oc bs bt bb : Int} (c28 : h 28 = some (ST28 ku wc op oc bs bt bb)) {W : Nat → Nat → Int} (c35 : h 35 = some WA28) (cw : ∀ w, w < 3 → h (36 + w) = some (.inl (1, 4, .inr (.inl (fun k => jj (W w k)))))) {w y : Nat} (hw : w < 3) (hy : y < 3) (hwy : w ≠ y) {chg stp : Int} : rr_Calls (d + 1) j_Stages_bend [.ref 28, .int (ii (w : Int)), .int (ii (y : Int)), .long (jj chg), .long (jj stp)] (N, S, h) (fun r R => r = none ∧ ∃ h', R = (N, S, h') ∧ fr [36 + w] h h' ∧ h' (36 + w) = some (.inl (1, 4, .inr (.inl (fun k => jj (bnd (W w) (W y) chg stp 4 k)))))) := by
  refine rr_meth (C := K_Stages_bend) (hd := h_Stages_bend) (mx := 8) rfl rfl (fun K hK => ?_)
  refine hK _ _ _ _ ?_
  refine s_iconst rfl (cn rfl) ?_
  refine s_istore rfl (ch rfl) ?_
  have lp2 : ∀ p : Nat, p ≤ 4 → ∀ (h' : Nat → Option rr_E) (cx : h' (36 + w) = some (.inl (1, 4, .inr (.inl (fun k => jj (bnd (W w) (W y) chg stp p k)))))) (hf : fr [36 + w] h h'), K 2 [some (.ref 28), some (.int (ii (w : Int))), some (.int (ii (y : Int))), some (.long (jj chg)), none, some (.long (jj stp)), none, some (.int (ii (p : Int)))] [] (N, S, h') := by
    refine dn (fun p hp ih2 => ?_)
    intro h' cx hf
    have c28 := (hf 28 (by simp; omega)).trans c28
    have c35 := (hf 35 (by simp; omega)).trans c35
    have cy := (hf (36 + y) (by simp; omega)).trans (cw y hy)
    refine hK _ _ _ _ ?_
    refine s_iload rfl (cn rfl) rfl ?_
    refine s_iconst rfl (cn rfl) ?_
    refine s_icmp_ge rfl (cn rfl) (cn rfl) ⟨by omega, by omega⟩ ⟨by omega, by omega⟩ (fun q4 => ?_) (fun q4 => ?_)
    · refine s_return rfl ?_
      exact ⟨rfl, h', rfl, hf, ar_l cx (by rw [show p = 4 by omega])⟩
    · refine s_aload_n rfl (cn rfl) rfl ?_
      refine s_getfield rfl (cn rfl) c28 rfl ?_
      refine s_iload_n rfl (cn rfl) rfl ?_
      refine s_aaload rfl (cn rfl) _ rfl c35 (by omega) (by decide) ((if_pos hw).trans rfl) ?_
      refine s_iload rfl (cn rfl) rfl ?_
      refine s_aload_n rfl (cn rfl) rfl ?_
      refine s_getfield rfl (cn rfl) c28 rfl ?_
      refine s_iload_n rfl (cn rfl) rfl ?_
      refine s_aaload rfl (cn rfl) _ rfl c35 (by omega) (by decide) ((if_pos hw).trans rfl) ?_
      refine s_iload rfl (cn rfl) rfl ?_
      refine s_laload rfl (cn rfl) _ rfl cx (by omega) (by decide) (congrArg jj bnd_m) ?_
      refine s_lload rfl (cn rfl) rfl ?_
      refine s_lmul rfl (cn rfl) ?_
      refine s_aload_n rfl (cn rfl) rfl ?_
      refine s_getfield rfl (cn rfl) c28 rfl ?_
      refine s_iload_n rfl (cn rfl) rfl ?_
      refine s_aaload rfl (cn rfl) _ rfl c35 (by omega) (by decide) ((if_pos hy).trans rfl) ?_
      refine s_iload rfl (cn rfl) rfl ?_
      refine s_laload rfl (cn rfl) _ rfl cy (by omega) (by decide) rfl ?_
      refine s_lload_n rfl (cn rfl) rfl ?_
      refine s_lmul rfl (cn rfl) ?_
      refine s_lsub rfl (cn rfl) ?_
      refine s_lastore rfl (cn rfl) _ rfl cx (by omega) (by decide) ?_
      refine s_iinc rfl (cn rfl) rfl ?_
      refine s_goto rfl (ch rfl) ?_
      exact ih2 (by omega) _ (ar_l rr_set_eq bnd_s) (fr_s (by simp) hf)
  exact lp2 0 (by omega) _ (ar_l (cw w hw) bnd_0.symm) fr_r
theorem v_simpl_28 {d N S : Nat} {h : Nat → Option rr_E} {be x y : Int} {A : Nat → Int} (c32 : h 32 = some (.inr (3, [.long (jj be), .ref 33, .ref 34, .int (ii x), .int (ii y)]))) (c33 : h 33 = some (.inl (1, 4, .inr (.inl (fun k => jj (A k)))))) (hbe : 0 < be) (hb : b5 be) (hA : ∀ p, p < 4 → b5 (A p)) : rr_Calls (d + 2) j_Shares_simplify [.ref 32] (N, S, h) (fun r R => r = none ∧ ∃ (h' : Nat → Option rr_E) (be' dv : Int) (A' : Nat → Int), R = (N, S, h') ∧ fr [32, 33] h h' ∧ h' 32 = some (.inr (3, [.long (jj be'), .ref 33, .ref 34, .int (ii x), .int (ii y)])) ∧ h' 33 = some (.inl (1, 4, .inr (.inl (fun k => jj (A' k))))) ∧ 0 < dv ∧ 0 < be' ∧ dv * be' = be ∧ (∀ p, p < 4 → dv * A' p = A p) ∧ ∀ k : Int, k ∣ be' → (∀ p, p < 4 → k ∣ A' p) → k ∣ 1) := by
  refine rr_meth (C := K_Shares_simplify) (hd := h_Shares_simplify) (mx := 4) rfl rfl (fun K hK => ?_)
  refine hK _ _ _ _ ?_
  refine s_aload_n rfl (cn rfl) rfl ?_
  refine s_getfield rfl (cn rfl) c32 rfl ?_
  refine s_lstore_n rfl (cn rfl) ?_
  refine s_iconst rfl (cn rfl) ?_
  refine s_istore_n rfl (ch rfl) ?_
  have lp5 : ∀ p : Nat, p ≤ 4 → ∀ (dv : Int) (hd : 1 ≤ dv ∧ dv ≤ 9223372036854775807) (hdb : dv ∣ be) (hdA : ∀ k, k < p → dv ∣ A k) (hdg : ∀ z : Int, z ∣ be → (∀ k, k < p → z ∣ A k) → z ∣ dv), K 5 [some (.ref 32), some (.long (jj dv)), none, some (.int (ii (p : Int)))] [] (N, S, h) := by
    refine dn (fun p hp ih5 => ?_)
    intro dv hd hdb hdA hdg
    refine hK _ _ _ _ ?_
    refine s_iload_n rfl (cn rfl) rfl ?_
    refine s_aload_n rfl (cn rfl) rfl ?_
    refine s_getfield rfl (cn rfl) c32 rfl ?_
    refine s_arraylength rfl (cn rfl) c33 (by decide) ?_
    refine s_icmp_ge rfl (cn rfl) (cn rfl) ⟨by omega, by omega⟩ ⟨by omega, by omega⟩ (fun q9 => ?_) (fun q9 => ?_)
    · refine s_lload_n rfl (cn rfl) rfl ?_
      refine s_lconst rfl (cn rfl) 1 (by decide) ?_
      refine s_lcmp rfl (cn rfl) ?_
      refine s_ifl_le rfl (cn rfl) (cn rfl) ⟨by omega, by omega⟩ ⟨by omega, by omega⟩ (fun q22 => ?_) (fun q22 => ?_)
      · refine s_return rfl ?_
        first
          | (have ebe : dv * be.tdiv dv = be := dvd_t hdb
             refine ⟨rfl, h', be.tdiv dv, dv, A2, rfl, hf, c32, c33, by omega, ?_, ebe, fun p hp => h1 p (by omega), fun z z1 z2 => red_1 (show dv ≠ 0 by omega) (hdg (z * dv) (by rw [← ebe, Int.mul_comm z]; exact Int.mul_dvd_mul_left dv z1) (fun k hk => by rw [← h1 k (by omega), Int.mul_comm z]; exact Int.mul_dvd_mul_left dv (z2 k (by omega))))⟩
             rcases Int.lt_trichotomy (be.tdiv dv) 0 with z | z | z
             · have := Int.mul_neg_of_pos_of_neg (show 0 < dv by omega) z; omega
             · rw [z] at ebe; omega
             · exact z)
          | (have e1 : dv = 1 := by omega
             exact ⟨rfl, h, be, 1, A, rfl, fr_r, c32, c33, by decide, hbe, Int.one_mul be, fun p _ => Int.one_mul _, fun z z1 z2 => by rw [← e1]; exact hdg z z1 (fun k hk => z2 k (by omega))⟩)
      · refine s_aload_n rfl (cn rfl) rfl ?_
        refine s_dupr rfl (cn rfl) ?_
        refine s_getfield rfl (cn rfl) c32 rfl ?_
        refine s_lload_n rfl (cn rfl) rfl ?_
        refine s_ldiv rfl (cn rfl) ⟨by omega, by omega⟩ ⟨by omega, by omega⟩ (td_b hb) (by omega) ?_
        refine s_putl rfl (cn rfl) rfl c32 rfl ?_
        refine s_iconst rfl (cn rfl) ?_
        refine s_istore_n rfl (ch rfl) ?_
        have lp31 : ∀ i : Nat, i ≤ 4 → ∀ (h' : Nat → Option rr_E) (A2 : Nat → Int) (c32 : h' 32 = some (.inr (3, [.long (jj (be.tdiv dv)), .ref 33, .ref 34, .int (ii x), .int (ii y)]))) (c33 : h' 33 = some (.inl (1, 4, .inr (.inl (fun k => jj (A2 k)))))) (hf : fr [32, 33] h h') (h1 : ∀ k, k < i → dv * A2 k = A k) (h2 : ∀ k, i ≤ k → A2 k = A k), K 31 [some (.ref 32), some (.long (jj dv)), none, some (.int (ii (i : Int)))] [] (N, S, h') := by
          refine dn (fun i hi ih31 => ?_)
          intro h' A2 c32 c33 hf h1 h2
          have hAi := hA i
          have hi2 := h2 i (Nat.le_refl i)
          refine hK _ _ _ _ ?_
          refine s_iload_n rfl (cn rfl) rfl ?_
          refine s_aload_n rfl (cn rfl) rfl ?_
          refine s_getfield rfl (cn rfl) c32 rfl ?_
          refine s_arraylength rfl (cn rfl) c33 (by decide) ?_
          refine s_icmp_ge rfl (cn rfl) (cn rfl) ⟨by omega, by omega⟩ ⟨by omega, by omega⟩ (fun q35 => ?_) (fun q35 => ?_)
          · refine s_return rfl ?_
            first
              | (have ebe : dv * be.tdiv dv = be := dvd_t hdb
                 refine ⟨rfl, h', be.tdiv dv, dv, A2, rfl, hf, c32, c33, by omega, ?_, ebe, fun p hp => h1 p (by omega), fun z z1 z2 => red_1 (show dv ≠ 0 by omega) (hdg (z * dv) (by rw [← ebe, Int.mul_comm z]; exact Int.mul_dvd_mul_left dv z1) (fun k hk => by rw [← h1 k (by omega), Int.mul_comm z]; exact Int.mul_dvd_mul_left dv (z2 k (by omega))))⟩
                 rcases Int.lt_trichotomy (be.tdiv dv) 0 with z | z | z
                 · have := Int.mul_neg_of_pos_of_neg (show 0 < dv by omega) z; omega
                 · rw [z] at ebe; omega
                 · exact z)
              | (have e1 : dv = 1 := by omega
                 exact ⟨rfl, h, be, 1, A, rfl, fr_r, c32, c33, by decide, hbe, Int.one_mul be, fun p _ => Int.one_mul _, fun z z1 z2 => by rw [← e1]; exact hdg z z1 (fun k hk => z2 k (by omega))⟩)
          · refine s_aload_n rfl (cn rfl) rfl ?_
            refine s_getfield rfl (cn rfl) c32 rfl ?_
            refine s_iload_n rfl (cn rfl) rfl ?_
            refine s_dup2 rfl (cn rfl) ?_
            refine s_laload rfl (cn rfl) _ rfl c33 (by omega) (by decide) rfl ?_
            refine s_lload_n rfl (cn rfl) rfl ?_
            refine s_ldiv rfl (cn rfl) (by rw [hi2]; have := hAi (by omega); omega) ⟨by omega, by omega⟩ (by rw [hi2]; exact td_b (hAi (by omega))) (by omega) ?_
            refine s_lastore rfl (cn rfl) _ rfl c33 (by omega) (by decide) ?_
            refine s_iinc rfl (cn rfl) rfl ?_
            refine s_goto rfl (ch rfl) ?_
            exact ih31 (by omega) _ _ c32 rr_set_eq (fr_s (by decide) hf) (fun k q => by
                by_cases e : k = i
                · subst e; rw [fu_s, h2 k (Nat.le_refl k)]; exact dvd_t (hdA k (by omega))
                · rw [fu_n e]; exact h1 k (by omega)) (fun k q => by rw [fu_n (by omega)]; exact h2 k (by omega))
        exact lp31 0 (by omega) _ A rr_set_eq c33 (fr_s (by decide) fr_r) (fun k q => absurd q (by omega)) (fun _ _ => rfl)
    · refine s_lload_n rfl (cn rfl) rfl ?_
      refine s_aload_n rfl (cn rfl) rfl ?_
      refine s_getfield rfl (cn rfl) c32 rfl ?_
      refine s_iload_n rfl (cn rfl) rfl ?_
      refine s_laload rfl (cn rfl) _ rfl c33 (by omega) (by decide) rfl ?_
      refine s_stat rfl (cn rfl) rfl rfl rfl (u_gcd (by omega) (hA p (by omega))) ?_
      rintro _ _ ⟨rfl, rfl⟩
      refine s_lstore_n rfl (cn rfl) ?_
      refine s_iinc rfl (cn rfl) rfl ?_
      refine s_goto rfl (ch rfl) ?_
      exact ih5 (by omega) _ (by have h1 : 0 < Int.gcd dv (A p) := Int.gcd_pos_of_ne_zero_left _ (by omega); have h2 := Int.le_of_dvd (show 0 < dv by omega) (Int.gcd_dvd_left dv (A p)); omega) (Int.dvd_trans (Int.gcd_dvd_left dv (A p)) hdb) (fun k q => by
          by_cases e : k = p
          · subst e; exact Int.gcd_dvd_right dv (A k)
          · exact Int.dvd_trans (Int.gcd_dvd_left dv (A p)) (hdA k (by omega))) (fun z z1 z2 => Int.dvd_coe_gcd (hdg z z1 (fun k q => z2 k (by omega))) (z2 p (by omega)))
  exact lp5 0 (by omega) be (by omega) (Int.dvd_refl be) (fun k q => absurd q (by omega)) (fun z q _ => q)
theorem v_drop_28 {d N S : Nat} {h : Nat → Option rr_E} {ku op oc bs bt bb : Int} {wc : Nat} (hwc : wc ≤ 3) (c28 : h 28 = some (ST28 ku (wc : Int) op oc bs bt bb)) {W : Nat → Nat → Int} (c35 : h 35 = some WA28) (cw : ∀ w, w < 3 → h (36 + w) = some (.inl (1, 4, .inr (.inl (fun k => jj (W w k)))))) {y g : Nat} (hy : y < wc) (hg : g < 16) : rr_Calls (d + 2) j_Stages_dropWay [.ref 28, .int (ii (y : Int)), .int (ii (g : Int))] (N, S, h) (fun r R => r = none ∧ ∃ (h' : Nat → Option rr_E) (W' : Nat → Nat → Int), R = (N, S, h') ∧ fr [28, 36 + 0, 36 + 1, 36 + 2] h h' ∧ h' 28 = some (ST28 ku ((wc - 1 : Nat) : Int) op oc bs bt bb) ∧ (∀ w, w < 3 → h' (36 + w) = some (.inl (1, 4, .inr (.inl (fun k => jj (W' w k)))))) ∧ ∀ k, k < wc - 1 → ∀ p, p < 4 → W' k p = W (if k = y then wc - 1 else k) p * st_sh 4 g (W y) - W y p * st_sh 4 g (W (if k = y then wc - 1 else k))) := by
  refine rr_meth (C := K_Stages_dropWay) (hd := h_Stages_dropWay) (mx := 6) rfl rfl (fun K hK => ?_)
  refine hK _ _ _ _ ?_
  refine s_aload_n rfl (cn rfl) rfl ?_
  refine s_iload_n rfl (cn rfl) rfl ?_
  refine s_iload_n rfl (cn rfl) rfl ?_
  refine s_virt rfl (cn rfl) rfl rfl c28 rfl (v_goes_28 c28 c35 cw (show y < 3 by omega) hg) ?_
  rintro _ _ ⟨rfl, rfl⟩
  refine s_lstore_n rfl (cn rfl) ?_
  refine s_iconst rfl (cn rfl) ?_
  refine s_istore rfl (ch rfl) ?_
  have lp7 : ∀ w : Nat, w ≤ wc → ∀ (h' : Nat → Option rr_E) (X : Nat → Nat → Int) (cx : ∀ w, w < 3 → h' (36 + w) = some (.inl (1, 4, .inr (.inl (fun k => jj (X w k)))))) (hf : fr [36 + 0, 36 + 1, 36 + 2] h h') (h1 : ∀ k, k < w → k ≠ y → ∀ p, p < 4 → X k p = W k p * st_sh 4 g (W y) - W y p * st_sh 4 g (W k)) (h2 : ∀ k, w ≤ k ∨ k = y → X k = W k), K 7 [some (.ref 28), some (.int (ii (y : Int))), some (.int (ii (g : Int))), some (.long (jj (st_sh 4 g (W y)))), none, some (.int (ii (w : Int)))] [] (N, S, h') := by
    refine dn (fun w hw ih7 => ?_)
    intro h' X cx hf h1 h2
    have c28 := (hf 28 (by simp)).trans c28
    have c35 := (hf 35 (by simp)).trans c35
    refine hK _ _ _ _ ?_
    refine s_iload rfl (cn rfl) rfl ?_
    refine s_aload_n rfl (cn rfl) rfl ?_
    refine s_getfield rfl (cn rfl) c28 rfl ?_
    refine s_icmp_ge rfl (cn rfl) (cn rfl) ⟨by omega, by omega⟩ ⟨by omega, by omega⟩ (fun q10 => ?_) (fun q10 => ?_)
    · refine s_aload_n rfl (cn rfl) rfl ?_
      refine s_dupr rfl (cn rfl) ?_
      refine s_getfield rfl (cn rfl) c28 rfl ?_
      refine s_iconst rfl (cn rfl) ?_
      refine s_isub rfl (cn rfl) ?_
      refine s_puti rfl (cn rfl) rfl c28 rfl ?_
      obtain ⟨m, em⟩ : ∃ m, wc = m + 1 := ⟨wc - 1, by omega⟩
      have ew : (wc : Int) - 1 = ((m : Nat) : Int) := by omega
      refine s_aload_n rfl (cn rfl) rfl ?_
      refine s_getfield rfl (cn rfl) rr_set_eq rfl ?_
      refine s_aload_n rfl (cn rfl) rfl ?_
      refine s_getfield rfl (cn rfl) rr_set_eq rfl ?_
      refine s_aaload rfl (cn rfl) m ew c35 (by omega) (by decide) ((if_pos (show m < 3 by omega)).trans rfl) ?_
      refine s_iconst rfl (cn rfl) ?_
      refine s_aload_n rfl (cn rfl) rfl ?_
      refine s_getfield rfl (cn rfl) rr_set_eq rfl ?_
      refine s_iload_n rfl (cn rfl) rfl ?_
      refine s_aaload rfl (cn rfl) _ rfl c35 (by omega) (by decide) ((if_pos (show y < 3 by omega)).trans rfl) ?_
      refine s_iconst rfl (cn rfl) ?_
      refine s_iconst rfl (cn rfl) ?_
      refine s_copyl rfl (cn rfl) (show rr_set h' 28 _ (36 + m) = _ from (rr_set_ne (by omega)).trans (cx m (by omega))) (show rr_set h' 28 _ (36 + y) = _ from (rr_set_ne (by omega)).trans (cx y (by omega))) (sp := 0) (dp := 0) (m := 4) (by decide) (by decide) (by decide) (by decide) rfl ?_
      refine s_return rfl ?_
      refine ⟨rfl, _, rw1 X y (fc (X m) (X y) 0 0 4), rfl, ?_, ?_, ?_, ?_⟩
      · exact fr_s (List.mem_cons_of_mem _ (mem3 (by omega))) (fr_s (by simp) (fr_w hf (by simp)))
      · rw [rr_set_ne (by omega), rr_set_eq, show wc - 1 = m by omega, ← ew]
        rfl
      · intro k hk
        by_cases e : k = y
        · subst e; rw [rw1_s]; exact rr_set_eq
        · rw [rw1_n e, rr_set_ne (by omega), rr_set_ne (by omega)]; exact cx k hk
      · intro k hk p hp
        by_cases e : k = y
        · subst e
          rw [rw1_s, if_pos rfl, show wc - 1 = m by omega]
          show (if 0 ≤ p ∧ p < 0 + 4 then X m (0 + (p - 0)) else _) = _
          rw [if_pos (by omega), show 0 + (p - 0) = p by omega]
          exact h1 m (by omega) (by omega) p hp
        · rw [rw1_n e, if_neg e]
          exact h1 k (by omega) e p hp
    · refine s_iload rfl (cn rfl) rfl ?_
      refine s_iload_n rfl (cn rfl) rfl ?_
      refine s_icmp_eq rfl (cn rfl) (cn rfl) ⟨by omega, by omega⟩ ⟨by omega, by omega⟩ (fun q13 => ?_) (fun q13 => ?_)
      · refine s_iinc rfl (cn rfl) rfl ?_
        refine s_goto rfl (ch rfl) ?_
        exact ih7 (by omega) _ X cx hf (fun k q1 q2 p hp => h1 k (by omega) q2 p hp) (fun k q => h2 k (by omega))
      · refine s_aload_n rfl (cn rfl) rfl ?_
        refine s_iload rfl (cn rfl) rfl ?_
        refine s_iload_n rfl (cn rfl) rfl ?_
        refine s_aload_n rfl (cn rfl) rfl ?_
        refine s_iload rfl (cn rfl) rfl ?_
        refine s_iload_n rfl (cn rfl) rfl ?_
        refine s_virt rfl (cn rfl) rfl rfl c28 rfl (v_goes_28 (W := X) c28 c35 cx (show w < 3 by omega) hg) ?_
        rintro _ _ ⟨rfl, rfl⟩
        rw [h2 w (Or.inl (Nat.le_refl w))]
        refine s_lload_n rfl (cn rfl) rfl ?_
        refine s_virt rfl (cn rfl) rfl rfl c28 rfl (v_bend_28 (W := X) (y := y) c28 c35 cx (show w < 3 by omega) (by omega) (by omega)) ?_
        rintro _ _ ⟨rfl, h3, rfl, hf3, d3⟩
        refine s_iinc rfl (cn rfl) rfl ?_
        refine s_goto rfl (ch rfl) ?_
        exact ih7 (by omega) _ (rw1 X w (bnd (X w) (X y) (st_sh 4 g (W w)) (st_sh 4 g (W y)) 4)) (fun k hk => by
            by_cases e : k = w
            · subst e; rw [rw1_s]; exact d3
            · rw [rw1_n e]; exact (hf3 (36 + k) (by simp; omega)).trans (cx k hk)) (fr_t hf hf3 (by intro k hk; rw [List.mem_singleton.mp hk]; exact mem3 (by omega))) (fun k q1 q2 p hp => by
            by_cases e : k = w
            · subst e; rw [rw1_s, h2 k (Or.inl (Nat.le_refl k)), h2 y (Or.inr rfl)]; exact if_pos hp
            · rw [rw1_n e]; exact h1 k (by omega) q2 p hp) (fun k q => by
            rw [rw1_n (by omega)]; exact h2 k (by omega))
  exact lp7 0 (by omega) _ W cw fr_r (fun k q => absurd q (by omega)) (fun _ _ => rfl)
