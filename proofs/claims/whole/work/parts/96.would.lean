/-! What if a worth were another; what is needed. -/
theorem fu_fu {v : Nat → Int} {g : Nat} {a b : Int} : fu (fu v g a) g b = fu v g b := by
  funext k
  unfold fu
  by_cases e : k = g
  · rw [if_pos e, if_pos e]
  · rw [if_neg e, if_neg e, if_neg e]
theorem fu_id {v : Nat → Int} {g : Nat} : fu v g (v g) = v := by
  funext k
  unfold fu
  by_cases e : k = g
  · rw [if_pos e, e]
  · rw [if_neg e]
theorem fu_hv {v : Nat → Int} {g : Nat} {a : Int} (hv : ∀ k, -999 ≤ v k ∧ v k ≤ 999) (ha : -999 ≤ a ∧ a ≤ 999) : ∀ k, -999 ≤ fu v g a k ∧ fu v g a k ≤ 999 := by
  intro k
  unfold fu
  split
  · exact ha
  · exact hv k
theorem Fe_v {n : Nat} {v v' : Nat → Int} {fx : Nat → Prop} {lp lq : Nat → Int} {u : Int} {x : Nat → Int} (e : ∀ g, g ≤ 2 ^ n - 1 → v g = v' g) (h : st_Fe n v fx lp lq u x) : st_Fe n v' fx lp lq u x := ⟨h.1, by rw [← e _ (Nat.le_refl _)]; exact h.2.1, fun g g1 g2 g3 => by rw [← e g (by omega)]; exact h.2.2 g g1 g2 g3⟩
theorem NU_v {n : Nat} {v v' : Nat → Int} {m : Nat} {F : Nat → Nat} {p q lp lq : Nat → Int} {be : Int} {A : Nat → Int} (e : ∀ g, g ≤ 2 ^ n - 1 → v g = v' g) (h : NU n v m F p q lp lq be A) : NU n v' m F p q lp lq be A := by
  obtain ⟨h1, h2, h3, h4, h5⟩ := h
  refine ⟨h1, fun j j1 j2 => ?_, h3, Fe_v e h4, h5⟩
  obtain ⟨a1, a2, ⟨u, x, a3, a4⟩, a5⟩ := h2 j j1 j2
  exact ⟨a1, a2, ⟨u, x, Fe_v e a3, fun g hg => by rw [← e g (by have := hg.2.1; omega)]; exact a4 g hg⟩, a5⟩
theorem NUd_v {n : Nat} {v v' : Nat → Int} (e : ∀ g, g ≤ 2 ^ n - 1 → v g = v' g) : NUd n v = NUd n v' := by
  unfold NUd
  congr 1
  funext t
  exact propext ⟨fun ⟨a, b, h⟩ => ⟨a, b, NU_v e h⟩, fun ⟨a, b, h⟩ => ⟨a, b, NU_v (fun g hg => (e g hg).symm) h⟩⟩
theorem nB_v {n : Nat} {v v' : Nat → Int} (e : ∀ g, g ≤ 2 ^ n - 1 → v g = v' g) : nB n v = nB n v' ∧ nA n v = nA n v' := by
  unfold nB nA
  rw [NUd_v e]; exact ⟨rfl, rfl⟩
noncomputable def sp_would (n : Nat) (v : Nat → Int) (g w a z : Int) : Int := if (1 ≤ g ∧ g ≤ (al n : Int)) ∧ (-999 ≤ w ∧ w ≤ 999) ∧ (0 ≤ a ∧ a < (n : Int)) ∧ (z = 0 ∨ z = 1) then lw (nA n (fu v g.toNat w) a.toNat) (nB n (fu v g.toNat w)) z else -9223372036854775808
def rch (n : Nat) (v : Nat → Int) (g i : Nat) (x : Int) (k : Nat) : Prop := v g + (k : Int) ≤ 999 ∧ x * nB n (fu v g (v g + (k : Int))) ≤ nA n (fu v g (v g + (k : Int))) i
noncomputable def sp_needs (n : Nat) (v : Nat → Int) (g a x : Int) : Int := if (1 ≤ g ∧ g ≤ (al n : Int)) ∧ (0 ≤ a ∧ a < (n : Int)) then (if ff 0 31 (rch n v g.toNat a.toNat x) (-1) = -1 then -9223372036854775808 else v g.toNat + ff 0 31 (rch n v g.toNat a.toNat x) (-1)) else -9223372036854775808
theorem nd_n {n : Nat} {v : Nat → Int} {g a : Nat} {x : Int} (h1 : (1 ≤ (g : Int) ∧ (g : Int) ≤ (al n : Int)) ∧ (0 ≤ (a : Int) ∧ (a : Int) < (n : Int))) (no : ∀ k, k < 31 → ¬ rch n v g a x k) : sp_needs n v g a x = -9223372036854775808 := by
  have e := ff_n (no := -1) (a := 0) (b := 31) (P := rch n v g a x) (fun k _ k2 => no k k2)
  unfold sp_needs
  rw [if_pos h1]
  exact if_pos e.symm
theorem nd_y {n : Nat} {v : Nat → Int} {g a k : Nat} {x : Int} (h1 : (1 ≤ (g : Int) ∧ (g : Int) ≤ (al n : Int)) ∧ (0 ≤ (a : Int) ∧ (a : Int) < (n : Int))) (hk : k < 31) (hr : rch n v g a x k) (no : ∀ j, j < k → ¬ rch n v g a x j) : sp_needs n v g a x = v g + (k : Int) := by
  have e := ff_y (no := -1) (a := 0) (b := 31) (P := rch n v g a x) (Nat.zero_le k) hk hr (fun j _ j2 => no j j2)
  unfold sp_needs
  rw [if_pos h1]
  have e2 : ff 0 31 (rch n v g a x) (-1) = (k : Int) := e.symm
  show (if ff 0 31 (rch n v g a x) (-1) = -1 then _ else v g + ff 0 31 (rch n v g a x) (-1)) = _
  rw [e2, if_neg (by omega)]
theorem fc_lo {v w : Nat → Int} {k : Nat} (h : k < 16) : fc v w 0 0 16 k = v k := by
  unfold fc
  rw [if_pos ⟨Nat.zero_le k, by omega⟩]
  congr 1; omega
theorem fc_hv {v w : Nat → Int} (hv : ∀ k, -999 ≤ v k ∧ v k ≤ 999) (hw : ∀ k, -999 ≤ w k ∧ w k ≤ 999) : ∀ k, -999 ≤ fc v w 0 0 16 k ∧ fc v w 0 0 16 k ≤ 999 := by
  intro k
  unfold fc
  split
  · exact hv _
  · exact hw k
theorem d_fairWere {d N S n : Nat} {v : Nat → Int} {h : Nat → Option rr_E} (hn : 2 ≤ n ∧ n ≤ 4) (c1 : h 1 = some (.inr (0, [.int (ii (n : Int)), .ref 2]))) (c2 : h 2 = some (.inl (0, 16, .inl (fun k => ii (v k))))) (hv : ∀ k, -999 ≤ v k ∧ v k ≤ 999) (h0 : v 0 = 0) (c1000000 : h 1000000 = some (.inl (8, 5, .inl (fun j => rr_two.getD j 0)))) (c1000001 : h 1000001 = some (.inl (8, 25, .inl (fun j => rr_three.getD j 0)))) (c1000002 : h 1000002 = some (.inl (8, 205, .inl (fun j => rr_four.getD j 0)))) {sl im : Int} (c0 : h 0 = some (DO sl im)) {n5 : Int} {w0 : Nat → Int} (c5 : h 5 = some (.inr (0, [.int (ii n5), .ref 6]))) (c6 : h 6 = some (.inl (0, 16, .inl (fun k => ii (w0 k))))) (hw0 : ∀ k, -999 ≤ w0 k ∧ w0 k ≤ 999) (hraw : RAW28 h) {g : Nat} (hg : 1 ≤ g ∧ g ≤ al n) {w : Int} (hw : -999 ≤ w ∧ w ≤ 999) : rr_Calls (d + 6) j_Desk_fairWere [.ref 0, .int (ii (g : Int)), .int (ii w)] (N, S, h) (fun r R => r = some (.ref 32) ∧ ∃ (h' : Nat → Option rr_E) (w1 : Nat → Int), R = (N, S, h') ∧ fr [5, 6, 28, 29, 30, 31, 32, 33, 34, 39, 40, 41, 42, 36, 37, 38] h h' ∧ h' 5 = some (.inr (0, [.int (ii (n : Int)), .ref 6])) ∧ h' 6 = some (.inl (0, 16, .inl (fun k => ii (w1 k)))) ∧ (∀ k, -999 ≤ w1 k ∧ w1 k ≤ 999) ∧ w1 0 = 0 ∧ (∀ k, k < 16 → w1 k = fu v g w k) ∧ SV28 h' n w1) := by
  refine rr_meth (C := K_Desk_fairWere) (hd := h_Desk_fairWere) (mx := 3) rfl rfl (fun K hK => ?_)
  have hA := al_b hn
  obtain ⟨ku, wc, op, oc, bt, bb, bs, be, x0, y0, tt, tb, tf, A, E, q0, a0, e0, h9, W, c28, c29, c30, c31, c32, c33, c34, c35, cw, c39, c40, c41, c42⟩ := hraw
  refine hK _ _ _ _ ?_
  refine s_aload_n rfl (cn rfl) rfl ?_
  refine s_getfield rfl (cn rfl) c0 rfl ?_
  refine s_aload_n rfl (cn rfl) rfl ?_
  refine s_getfield rfl (cn rfl) c0 rfl ?_
  refine s_virt rfl (cn rfl) rfl rfl c5 rfl (u_copy_5_1 c1 c2 c5 c6) ?_
  rintro _ _ ⟨rfl, h1, rfl, c5, c6, hf1⟩
  have c28 := (hf1 28 (by decide)).trans c28
  have c29 := (hf1 29 (by decide)).trans c29
  have c30 := (hf1 30 (by decide)).trans c30
  have c31 := (hf1 31 (by decide)).trans c31
  have c32 := (hf1 32 (by decide)).trans c32
  have c33 := (hf1 33 (by decide)).trans c33
  have c34 := (hf1 34 (by decide)).trans c34
  have c35 := (hf1 35 (by decide)).trans c35
  have c39 := (hf1 39 (by decide)).trans c39
  have c40 := (hf1 40 (by decide)).trans c40
  have c41 := (hf1 41 (by decide)).trans c41
  have c42 := (hf1 42 (by decide)).trans c42
  have cw := fun k hk => (hf1 (36 + k) (by simp; omega)).trans (cw k hk)
  have c0 := (hf1 0 (by decide)).trans c0
  have c1000000 := (hf1 1000000 (by decide)).trans c1000000
  have c1000001 := (hf1 1000001 (by decide)).trans c1000001
  have c1000002 := (hf1 1000002 (by decide)).trans c1000002
  refine s_aload_n rfl (cn rfl) rfl ?_
  refine s_getfield rfl (cn rfl) c0 rfl ?_
  refine s_getfield rfl (cn rfl) c5 rfl ?_
  refine s_iload_n rfl (cn rfl) rfl ?_
  refine s_iload_n rfl (cn rfl) rfl ?_
  refine s_iastore rfl (cn rfl) _ rfl c6 (by omega) (by decide) ?_
  have hv1 : ∀ k, -999 ≤ (fu (fc v w0 0 0 16) g w) k ∧ (fu (fc v w0 0 0 16) g w) k ≤ 999 := fu_hv (fc_hv hv hw0) hw
  have h01 : (fu (fc v w0 0 0 16) g w) 0 = 0 := by rw [fu_n (by omega), fc_lo (by decide)]; exact h0
  refine s_aload_n rfl (cn rfl) rfl ?_
  refine s_getfield rfl (cn rfl) c0 rfl ?_
  refine s_aload_n rfl (cn rfl) rfl ?_
  refine s_getfield rfl (cn rfl) c0 rfl ?_
  refine s_virt rfl (cn rfl) rfl rfl c28 rfl (v_solve_28 (h := (rr_set h1 6 (.inl (0, 16, .inl (fun k => ii (fu (fc v w0 0 0 16) g w k)))))) (v := (fu (fc v w0 0 0 16) g w)) hn c5 rr_set_eq hv1 h01 c1000000 c1000001 c1000002 c28 c29 c30 c31 c32 c33 c34 c35 (fun k hk => (rr_set_ne (show 36 + k ≠ 6 by omega)).trans (cw k hk)) c39 c40 c41 c42) ?_
  rintro _ _ ⟨rfl, h2, rfl, hf2, hs⟩
  have c0 := (hf2 0 (by decide)).trans c0
  have c5 := (hf2 5 (by decide)).trans c5
  have c6 := (hf2 6 (by decide)).trans rr_set_eq
  have c28 : ∃ ku wc op oc bs bt bb, h2 28 = some (ST28 ku wc op oc bs bt bb) := by
    obtain ⟨ku, wc, F, tt, tb, tf, lp, lq, A, E, q0, a0, e0, h9, be, oc, bs, bt, bb, W, d28, _⟩ := hs
    exact ⟨_, _, _, _, _, _, _, d28⟩
  obtain ⟨ku2, wc2, op2, oc2, bs2, bt2, bb2, c28⟩ := c28
  refine s_aload_n rfl (cn rfl) rfl ?_
  refine s_getfield rfl (cn rfl) c0 rfl ?_
  refine s_getfield rfl (cn rfl) c28 rfl ?_
  refine s_areturn rfl ?_
  exact ⟨rfl, h2, _, rfl, fr_t (fr_s (by decide) (fr_w hf1 (by simp))) (fr_w (l := [5, 6, 28, 29, 30, 31, 32, 33, 34, 39, 40, 41, 42, 36, 37, 38]) hf2 (by intro k hk; simp at hk ⊢; omega)) (by simp), c5, c6, hv1, h01, fun k hk => by
      by_cases e : k = g
      · rw [e, fu_s, fu_s]
      · rw [fu_n e, fu_n e, fc_lo hk], hs⟩
theorem d_would {d N S n : Nat} {v : Nat → Int} {h : Nat → Option rr_E} (hn : 2 ≤ n ∧ n ≤ 4) (c1 : h 1 = some (.inr (0, [.int (ii (n : Int)), .ref 2]))) (c2 : h 2 = some (.inl (0, 16, .inl (fun k => ii (v k))))) (hv : ∀ k, -999 ≤ v k ∧ v k ≤ 999) (h0 : v 0 = 0) (c1000000 : h 1000000 = some (.inl (8, 5, .inl (fun j => rr_two.getD j 0)))) (c1000001 : h 1000001 = some (.inl (8, 25, .inl (fun j => rr_three.getD j 0)))) (c1000002 : h 1000002 = some (.inl (8, 205, .inl (fun j => rr_four.getD j 0)))) {sl im : Int} (c0 : h 0 = some (DO sl im)) {n5 : Int} {w0 : Nat → Int} (c5 : h 5 = some (.inr (0, [.int (ii n5), .ref 6]))) (c6 : h 6 = some (.inl (0, 16, .inl (fun k => ii (w0 k))))) (hw0 : ∀ k, -999 ≤ w0 k ∧ w0 k ≤ 999) (hraw : RAW28 h) {ga w a z : Int} (hga : b3 ga) (hw : b3 w) (ha : b3 a) (hz : b3 z) : rr_Calls (d + 7) j_Desk_would [.ref 0, .int (ii ga), .int (ii w), .int (ii a), .int (ii z)] (N, S, h) (fun r R => r = some (.long (jj (sp_would n v ga w a z))) ∧ ∃ (h' : Nat → Option rr_E) (n5' : Int) (w0' : Nat → Int), R = (N, S, h') ∧ fr [5, 6, 28, 29, 30, 31, 32, 33, 34, 39, 40, 41, 42, 36, 37, 38] h h' ∧ h' 5 = some (.inr (0, [.int (ii n5'), .ref 6])) ∧ h' 6 = some (.inl (0, 16, .inl (fun k => ii (w0' k)))) ∧ (∀ k, -999 ≤ w0' k ∧ w0' k ≤ 999) ∧ RAW28 h') := by
  refine rr_meth (C := K_Desk_would) (hd := h_Desk_would) (mx := 5) rfl rfl (fun K hK => ?_)
  have hA := al_b hn
  refine hK _ _ _ _ ?_
  refine s_aload_n rfl (cn rfl) rfl ?_
  refine s_getfield rfl (cn rfl) c0 rfl ?_
  refine s_iload_n rfl (cn rfl) rfl ?_
  refine s_virt rfl (cn rfl) rfl rfl c1 rfl (u_hasGroup hn c1 hga) ?_
  rintro _ _ ⟨rfl, rfl⟩
  refine s_ifb_eq rfl (cn rfl) (cn rfl) (fun q4 => ?_) (fun q4 => ?_)
  · refine s_ldc2_w rfl (cn rfl) ?_
    refine s_lreturn rfl ?_
    exact ⟨rl (if_neg (fun q => by first | exact q4 q.1 | exact q7 q.2.1 | exact q12 q.2.2.1 | exact q15 q.2.2.2)).symm, h, _, _, rfl, fr_r, c5, c6, hw0, hraw⟩
  · refine s_iload_n rfl (cn rfl) rfl ?_
    refine s_stat rfl (cn rfl) rfl rfl rfl (u_mworth hw) ?_
    rintro _ _ ⟨rfl, rfl⟩
    refine s_ifb_eq rfl (cn rfl) (cn rfl) (fun q7 => ?_) (fun q7 => ?_)
    · refine s_ldc2_w rfl (cn rfl) ?_
      refine s_lreturn rfl ?_
      exact ⟨rl (if_neg (fun q => by first | exact q4 q.1 | exact q7 q.2.1 | exact q12 q.2.2.1 | exact q15 q.2.2.2)).symm, h, _, _, rfl, fr_r, c5, c6, hw0, hraw⟩
    · refine s_aload_n rfl (cn rfl) rfl ?_
      refine s_getfield rfl (cn rfl) c0 rfl ?_
      refine s_iload_n rfl (cn rfl) rfl ?_
      refine s_virt rfl (cn rfl) rfl rfl c1 rfl (u_hasOne hn c1 ha) ?_
      rintro _ _ ⟨rfl, rfl⟩
      refine s_ifb_eq rfl (cn rfl) (cn rfl) (fun q12 => ?_) (fun q12 => ?_)
      · refine s_ldc2_w rfl (cn rfl) ?_
        refine s_lreturn rfl ?_
        exact ⟨rl (if_neg (fun q => by first | exact q4 q.1 | exact q7 q.2.1 | exact q12 q.2.2.1 | exact q15 q.2.2.2)).symm, h, _, _, rfl, fr_r, c5, c6, hw0, hraw⟩
      · refine s_iload rfl (cn rfl) rfl ?_
        refine s_stat rfl (cn rfl) rfl rfl rfl (u_fpart hz) ?_
        rintro _ _ ⟨rfl, rfl⟩
        refine s_ifb_ne rfl (cn rfl) (cn rfl) (fun q15 => ?_) (fun q15 => ?_)
        · obtain ⟨g, rfl⟩ := Int.eq_ofNat_of_zero_le (show 0 ≤ ga by omega)
          obtain ⟨i, rfl⟩ := Int.eq_ofNat_of_zero_le q12.1
          refine s_aload_n rfl (cn rfl) rfl ?_
          refine s_iload_n rfl (cn rfl) rfl ?_
          refine s_iload_n rfl (cn rfl) rfl ?_
          refine s_virt rfl (cn rfl) rfl rfl c0 rfl (d_fairWere (g := g) (w := w) hn c1 c2 hv h0 c1000000 c1000001 c1000002 c0 c5 c6 hw0 hraw (by omega) q7) ?_
          rintro _ _ ⟨rfl, h', w1, rfl, hf, c5, c6, hw1, h01, hwe, hs⟩
          obtain ⟨wc, oc, bt, bb, bs, tt, tb, tf, A, E, c28, c29, c30, c31, c32, c33, c34, hS, hA4, hE⟩ := SV_SW28 hn hw1 h01 hs
          have nBb := nB_b hn hw1 h01
          have nve := nB_v (n := n) (v := w1) (v' := fu v g w) (fun k hk => hwe k (by have : k ≤ al n := hk; omega))
          have hAi := nA_1b hn hw1 h01 (show i < n by omega)
          have eA := hA4 i (by omega)
          refine s_iload_n rfl (cn rfl) rfl ?_
          refine s_iload rfl (cn rfl) rfl ?_
          refine s_virt rfl (cn rfl) rfl rfl c32 rfl (u_shareOf32 (p := i) c32 c33 (by omega) hz ⟨by rw [eA]; omega, by rw [eA]; omega⟩ ⟨by omega, by omega⟩ (by omega)) ?_
          rintro _ _ ⟨rfl, rfl⟩
          refine s_lreturn rfl ?_
          exact ⟨rl (by unfold sp_would; rw [if_pos ⟨q4, q7, q12, q15⟩, eA, nve.1, nve.2]; rfl), h', _, _, rfl, hf, c5, c6, hw1, SV_RAW28 hs⟩
        · refine s_ldc2_w rfl (cn rfl) ?_
          refine s_lreturn rfl ?_
          exact ⟨rl (if_neg (fun q => by first | exact q4 q.1 | exact q7 q.2.1 | exact q12 q.2.2.1 | exact q15 q.2.2.2)).symm, h, _, _, rfl, fr_r, c5, c6, hw0, hraw⟩
theorem u_reaches {d N S : Nat} {h : Nat → Option rr_E} {be x y : Int} {A : Nat → Int} (c32 : h 32 = some (.inr (3, [.long (jj be), .ref 33, .ref 34, .int (ii x), .int (ii y)]))) (c33 : h 33 = some (.inl (1, 4, .inr (.inl (fun k => jj (A k)))))) {p : Nat} (hp : p < 4) {s : Int} (hs : b3 s) (ea : b6 (A p)) (eb : b6 (s * be)) : rr_Calls (d + 1) j_Shares_reaches [.ref 32, .int (ii (p : Int)), .int (ii s)] (N, S, h) (fun r R => r = some (.int (rb (s * be ≤ A p))) ∧ R = (N, S, h)) := by
  refine rr_meth (C := K_Shares_reaches) (hd := h_Shares_reaches) (mx := 3) rfl rfl (fun K hK => ?_)
  refine hK _ _ _ _ ?_
  refine s_aload_n rfl (cn rfl) rfl ?_
  refine s_getfield rfl (cn rfl) c32 rfl ?_
  refine s_iload_n rfl (cn rfl) rfl ?_
  refine s_laload rfl (cn rfl) _ rfl c33 (by omega) (by decide) rfl ?_
  refine s_iload_n rfl (cn rfl) rfl ?_
  refine s_i2l rfl (cn rfl) ⟨by omega, by omega⟩ ?_
  refine s_aload_n rfl (cn rfl) rfl ?_
  refine s_getfield rfl (cn rfl) c32 rfl ?_
  refine s_lmul rfl (cn rfl) ?_
  refine s_lcmp rfl (cn rfl) ?_
  refine s_ifl_lt rfl (cn rfl) (cn rfl) ⟨by omega, by omega⟩ ⟨by omega, by omega⟩ (fun q10 => ?_) (fun q10 => ?_)
  · refine s_iconst rfl (cn rfl) ?_
    refine s_zreturn rfl (Or.inl rfl) ?_
    exact ⟨rz_f (by omega), rfl⟩
  · refine s_iconst rfl (cn rfl) ?_
    refine s_goto rfl (cn rfl) ?_
    refine s_zreturn rfl (Or.inr rfl) ?_
    exact ⟨rz_t (by omega), rfl⟩
theorem d_needs {d N S n : Nat} {v : Nat → Int} {h : Nat → Option rr_E} (hn : 2 ≤ n ∧ n ≤ 4) (c1 : h 1 = some (.inr (0, [.int (ii (n : Int)), .ref 2]))) (c2 : h 2 = some (.inl (0, 16, .inl (fun k => ii (v k))))) (hv : ∀ k, -999 ≤ v k ∧ v k ≤ 999) (h0 : v 0 = 0) (c1000000 : h 1000000 = some (.inl (8, 5, .inl (fun j => rr_two.getD j 0)))) (c1000001 : h 1000001 = some (.inl (8, 25, .inl (fun j => rr_three.getD j 0)))) (c1000002 : h 1000002 = some (.inl (8, 205, .inl (fun j => rr_four.getD j 0)))) {sl im : Int} (c0 : h 0 = some (DO sl im)) {n5 : Int} {w0 : Nat → Int} (c5 : h 5 = some (.inr (0, [.int (ii n5), .ref 6]))) (c6 : h 6 = some (.inl (0, 16, .inl (fun k => ii (w0 k))))) (hw0 : ∀ k, -999 ≤ w0 k ∧ w0 k ≤ 999) (hraw : RAW28 h) {ga a x : Int} (hga : b3 ga) (ha : b3 a) (hx : b3 x) : rr_Calls (d + 7) j_Desk_needs [.ref 0, .int (ii ga), .int (ii a), .int (ii x)] (N, S, h) (fun r R => r = some (.long (jj (sp_needs n v ga a x))) ∧ ∃ (h' : Nat → Option rr_E) (n5' : Int) (w0' : Nat → Int), R = (N, S, h') ∧ fr [5, 6, 28, 29, 30, 31, 32, 33, 34, 39, 40, 41, 42, 36, 37, 38] h h' ∧ h' 5 = some (.inr (0, [.int (ii n5'), .ref 6])) ∧ h' 6 = some (.inl (0, 16, .inl (fun k => ii (w0' k)))) ∧ (∀ k, -999 ≤ w0' k ∧ w0' k ≤ 999) ∧ RAW28 h') := by
  refine rr_meth (C := K_Desk_needs) (hd := h_Desk_needs) (mx := 6) rfl rfl (fun K hK => ?_)
  have hA := al_b hn
  refine hK _ _ _ _ ?_
  refine s_aload_n rfl (cn rfl) rfl ?_
  refine s_getfield rfl (cn rfl) c0 rfl ?_
  refine s_iload_n rfl (cn rfl) rfl ?_
  refine s_virt rfl (cn rfl) rfl rfl c1 rfl (u_hasGroup hn c1 hga) ?_
  rintro _ _ ⟨rfl, rfl⟩
  refine s_ifb_eq rfl (cn rfl) (cn rfl) (fun q4 => ?_) (fun q4 => ?_)
  · refine s_ldc2_w rfl (cn rfl) ?_
    refine s_lreturn rfl ?_
    exact ⟨rl (if_neg (fun q => by first | exact q4 q.1 | exact q9 q.2)).symm, h, _, _, rfl, fr_r, c5, c6, hw0, hraw⟩
  · refine s_aload_n rfl (cn rfl) rfl ?_
    refine s_getfield rfl (cn rfl) c0 rfl ?_
    refine s_iload_n rfl (cn rfl) rfl ?_
    refine s_virt rfl (cn rfl) rfl rfl c1 rfl (u_hasOne hn c1 ha) ?_
    rintro _ _ ⟨rfl, rfl⟩
    refine s_ifb_ne rfl (cn rfl) (cn rfl) (fun q9 => ?_) (fun q9 => ?_)
    · obtain ⟨g, rfl⟩ := Int.eq_ofNat_of_zero_le (show 0 ≤ ga by omega)
      obtain ⟨i, rfl⟩ := Int.eq_ofNat_of_zero_le q9.1
      refine s_aload_n rfl (cn rfl) rfl ?_
      refine s_getfield rfl (cn rfl) c0 rfl ?_
      refine s_getfield rfl (cn rfl) c1 rfl ?_
      refine s_iload_n rfl (cn rfl) rfl ?_
      refine s_iaload rfl (cn rfl) _ rfl c2 rfl (by omega) (by decide) rfl ?_
      refine s_istore rfl (cn rfl) ?_
      refine s_iconst rfl (cn rfl) ?_
      refine s_istore rfl (ch rfl) ?_
      have lp20 : ∀ k : Nat, k ≤ 31 → ∀ (h3 : Nat → Option rr_E) (n5' : Int) (w0' : Nat → Int) (hf3 : fr [5, 6, 28, 29, 30, 31, 32, 33, 34, 39, 40, 41, 42, 36, 37, 38] h h3) (c5 : h3 5 = some (.inr (0, [.int (ii n5'), .ref 6]))) (c6 : h3 6 = some (.inl (0, 16, .inl (fun k => ii (w0' k))))) (hw0 : ∀ k, -999 ≤ w0' k ∧ w0' k ≤ 999) (hraw : RAW28 h3) (no : ∀ j, j < k → ¬ rch n v g i x j), K 20 [some (.ref 0), some (.int (ii (g : Int))), some (.int (ii (i : Int))), some (.int (ii x)), some (.int (ii (v g))), some (.int (ii (k : Int)))] [] (N, S, h3) := by
        refine dn (fun k hk ih20 => ?_)
        intro h3 n5' w0' hf3 c5 c6 hw0 hraw no
        have c0 := (hf3 0 (by decide)).trans c0
        have c1 := (hf3 1 (by decide)).trans c1
        have c2 := (hf3 2 (by decide)).trans c2
        have c1000000 := (hf3 1000000 (by decide)).trans c1000000
        have c1000001 := (hf3 1000001 (by decide)).trans c1000001
        have c1000002 := (hf3 1000002 (by decide)).trans c1000002
        have hvg := hv g
        refine hK _ _ _ _ ?_
        refine s_iload rfl (cn rfl) rfl ?_
        refine s_bipush rfl (cn rfl) (by decide) ?_
        refine s_icmp_gt rfl (cn rfl) (cn rfl) ⟨by omega, by omega⟩ ⟨by omega, by omega⟩ (fun q22 => ?_) (fun q22 => ?_)
        · refine s_ldc2_w rfl (cn rfl) ?_
          refine s_lreturn rfl ?_
          exact ⟨rl (nd_n ⟨q4, q9⟩ (fun j hj q => by
              by_cases e : j < k
              · exact no j e q
              · have := q.1; omega)).symm, h3, _, _, rfl, hf3, c5, c6, hw0, hraw⟩
        · refine s_iload rfl (cn rfl) rfl ?_
          refine s_iload rfl (cn rfl) rfl ?_
          refine s_iadd rfl (cn rfl) ?_
          refine s_stat rfl (cn rfl) rfl rfl rfl (u_mworth (by omega)) ?_
          rintro _ _ ⟨rfl, rfl⟩
          refine s_ifb_eq rfl (cn rfl) (cn rfl) (fun q27 => ?_) (fun q27 => ?_)
          · refine s_ldc2_w rfl (cn rfl) ?_
            refine s_lreturn rfl ?_
            exact ⟨rl (nd_n ⟨q4, q9⟩ (fun j hj q => by
                by_cases e : j < k
                · exact no j e q
                · have := q.1; omega)).symm, h3, _, _, rfl, hf3, c5, c6, hw0, hraw⟩
          · refine s_aload_n rfl (cn rfl) rfl ?_
            refine s_iload_n rfl (cn rfl) rfl ?_
            refine s_iload rfl (cn rfl) rfl ?_
            refine s_iload rfl (cn rfl) rfl ?_
            refine s_iadd rfl (cn rfl) ?_
            refine s_virt rfl (cn rfl) rfl rfl c0 rfl (d_fairWere (g := g) (w := v g + (k : Int)) hn c1 c2 hv h0 c1000000 c1000001 c1000002 c0 c5 c6 hw0 hraw (by omega) q27) ?_
            rintro _ _ ⟨rfl, h', w1, rfl, hf, c5, c6, hw1, h01, hwe, hs⟩
            obtain ⟨wc, oc, bt, bb, bs, tt, tb, tf, A, E, c28, c29, c30, c31, c32, c33, c34, hS, hA4, hE⟩ := SV_SW28 hn hw1 h01 hs
            have nBb := nB_b hn hw1 h01
            have nve := nB_v (n := n) (v := w1) (v' := fu v g (v g + (k : Int))) (fun k hk => hwe k (by have : k ≤ al n := hk; omega))
            have hAi := nA_1b hn hw1 h01 (show i < n by omega)
            have eA := hA4 i (by omega)
            have hmul := ku_mul (x := x) (y := nB n w1) (a := 2147483648) (b := 655360000) (by omega) (by omega)
            refine s_iload_n rfl (cn rfl) rfl ?_
            refine s_iload_n rfl (cn rfl) rfl ?_
            refine s_virt rfl (cn rfl) rfl rfl c32 rfl (u_reaches (p := i) c32 c33 (by omega) hx ⟨by rw [eA]; omega, by rw [eA]; omega⟩ ⟨by omega, by omega⟩) ?_
            rintro _ _ ⟨rfl, rfl⟩
            refine s_ifb_eq rfl (cn rfl) (cn rfl) (fun q37 => ?_) (fun q37 => ?_)
            · refine s_iinc rfl (cn rfl) rfl ?_
              refine s_goto rfl (ch rfl) ?_
              exact ih20 (by omega) h' _ _ (fr_t hf3 hf (by simp)) c5 c6 hw1 (SV_RAW28 hs) (fun j hj => by
                  by_cases e : j = k
                  · subst e; intro q; exact q37 (by rw [eA, nve.1, nve.2]; exact q.2)
                  · exact no j (by omega))
            · refine s_iload rfl (cn rfl) rfl ?_
              refine s_iload rfl (cn rfl) rfl ?_
              refine s_iadd rfl (cn rfl) ?_
              refine s_i2l rfl (cn rfl) ⟨by omega, by omega⟩ ?_
              refine s_lreturn rfl ?_
              exact ⟨rl (nd_y ⟨q4, q9⟩ (by omega) ⟨by omega, by rw [← nve.1, ← nve.2, ← eA]; exact q37⟩ no).symm, h', _, _, rfl, fr_t hf3 hf (by simp), c5, c6, hw1, SV_RAW28 hs⟩
      exact lp20 0 (by omega) _ _ _ fr_r c5 c6 hw0 hraw (fun j hj => absurd hj (by omega))
    · refine s_ldc2_w rfl (cn rfl) ?_
      refine s_lreturn rfl ?_
      exact ⟨rl (if_neg (fun q => by first | exact q4 q.1 | exact q9 q.2)).symm, h, _, _, rfl, fr_r, c5, c6, hw0, hraw⟩
theorem m_would {d N S n : Nat} {kp tp pt wr fa dm ce di be od sm le sc ba bb rk ts tm pa wa : Int} {ti : Nat} {v : Nat → Int} {h : Nat → Option rr_E} (hn : 2 ≤ n ∧ n ≤ 4) (hv : ∀ k, -999 ≤ v k ∧ v k ≤ 999) (h0 : v 0 = 0) (c58 : h 58 = some (MO (n : Int) kp tp pt wr fa dm ce di be od sm le sc ba bb (ti : Int) rk ts tm pa wa)) (c59 : h 59 = some (.inl (0, 16, .inl (fun k => ii (v k))))) (hti : ti < 32768) (hba : -1500000000000000 ≤ ba ∧ ba ≤ 1500000000000000) (hod : od = 0 ∨ od = 1) (hW : MW h) (hL : ML h) (hs : od = 0 → MS h n v sm) {ga w a z : Int} (hga : b3 ga) (hw : b3 w) (ha : b3 a) (hz : b3 z) : rr_Calls (d + (n + 8)) j_Model_would [.ref 58, .int (ii ga), .int (ii w), .int (ii a), .int (ii z)] (N, S, h) (fun r R => r = some (.long (jj (sp_would n v ga w a z))) ∧ ∃ (h' : Nat → Option rr_E) (ce' di' be' sm' le' sc' ba' bb' rk' od' : Int) (ti' : Nat), R = (N, S, h') ∧ fr [59, 58, 66, 67, 68, 69, 70, 71, 72, 73, 74] h h' ∧ h' 58 = some (MO (n : Int) kp tp pt wr fa dm ce' di' be' od' sm' le' sc' ba' bb' (ti' : Int) rk' ts tm pa wa) ∧ h' 59 = some (.inl (0, 16, .inl (fun k => ii (v k)))) ∧ ti' < 32768 ∧ (-1500000000000000 ≤ ba' ∧ ba' ≤ 1500000000000000) ∧ (od' = 0 ∨ od' = 1) ∧ MW h' ∧ ML h' ∧ (od' = 0 → MS h' n v sm')) := by
  refine rr_meth (C := K_Model_would) (hd := h_Model_would) (mx := 8) rfl rfl (fun K hK => ?_)
  have hA := al_b hn
  refine hK _ _ _ _ ?_
  refine s_aload_n rfl (cn rfl) rfl ?_
  refine s_iload_n rfl (cn rfl) rfl ?_
  refine s_virt rfl (cn rfl) rfl rfl c58 rfl (m_isGroup hn c58 hga) ?_
  rintro _ _ ⟨rfl, rfl⟩
  refine s_ifb_eq rfl (cn rfl) (cn rfl) (fun q3 => ?_) (fun q3 => ?_)
  · refine s_ldc2_w rfl (cn rfl) ?_
    refine s_lreturn rfl ?_
    exact ⟨rl (if_neg (fun q => by first | exact q3 q.1 | exact q9 (by omega) | exact q13 q.2.2.1 | exact q19 (by omega))).symm, h, _, _, _, _, _, _, _, _, _, od, ti, rfl, fr_r, c58, c59, hti, hba, hod, hW, hL, hs⟩
  · refine s_iload_n rfl (cn rfl) rfl ?_
    refine s_i2l rfl (cn rfl) ⟨by omega, by omega⟩ ?_
    refine s_ldc2_w rfl (cn rfl) ?_
    refine s_ldc2_w rfl (cn rfl) ?_
    refine s_stat rfl (cn rfl) rfl rfl rfl (m_in ⟨by omega, by omega⟩ (by decide) (by decide)) ?_
    rintro _ _ ⟨rfl, rfl⟩
    refine s_ifb_eq rfl (cn rfl) (cn rfl) (fun q9 => ?_) (fun q9 => ?_)
    · refine s_ldc2_w rfl (cn rfl) ?_
      refine s_lreturn rfl ?_
      exact ⟨rl (if_neg (fun q => by first | exact q3 q.1 | exact q9 (by omega) | exact q13 q.2.2.1 | exact q19 (by omega))).symm, h, _, _, _, _, _, _, _, _, _, od, ti, rfl, fr_r, c58, c59, hti, hba, hod, hW, hL, hs⟩
    · refine s_aload_n rfl (cn rfl) rfl ?_
      refine s_iload_n rfl (cn rfl) rfl ?_
      refine s_virt rfl (cn rfl) rfl rfl c58 rfl (m_isOne hn c58 ha) ?_
      rintro _ _ ⟨rfl, rfl⟩
      refine s_ifb_eq rfl (cn rfl) (cn rfl) (fun q13 => ?_) (fun q13 => ?_)
      · refine s_ldc2_w rfl (cn rfl) ?_
        refine s_lreturn rfl ?_
        exact ⟨rl (if_neg (fun q => by first | exact q3 q.1 | exact q9 (by omega) | exact q13 q.2.2.1 | exact q19 (by omega))).symm, h, _, _, _, _, _, _, _, _, _, od, ti, rfl, fr_r, c58, c59, hti, hba, hod, hW, hL, hs⟩
      · refine s_iload rfl (cn rfl) rfl ?_
        refine s_i2l rfl (cn rfl) ⟨by omega, by omega⟩ ?_
        refine s_lconst rfl (cn rfl) 0 (by decide) ?_
        refine s_lconst rfl (cn rfl) 1 (by decide) ?_
        refine s_stat rfl (cn rfl) rfl rfl rfl (m_in ⟨by omega, by omega⟩ (by decide) (by decide)) ?_
        rintro _ _ ⟨rfl, rfl⟩
        refine s_ifb_ne rfl (cn rfl) (cn rfl) (fun q19 => ?_) (fun q19 => ?_)
        · obtain ⟨g, rfl⟩ := Int.eq_ofNat_of_zero_le (show 0 ≤ ga by omega)
          refine s_aload_n rfl (cn rfl) rfl ?_
          refine s_getfield rfl (cn rfl) c58 rfl ?_
          refine s_iload_n rfl (cn rfl) rfl ?_
          refine s_iaload rfl (cn rfl) _ rfl c59 rfl (by omega) (by decide) rfl ?_
          refine s_istore rfl (cn rfl) ?_
          refine s_aload_n rfl (cn rfl) rfl ?_
          refine s_getfield rfl (cn rfl) c58 rfl ?_
          refine s_iload_n rfl (cn rfl) rfl ?_
          refine s_iload_n rfl (cn rfl) rfl ?_
          refine s_iastore rfl (cn rfl) _ rfl c59 (by omega) (by decide) ?_
          refine s_aload_n rfl (cn rfl) rfl ?_
          refine s_iconst rfl (cn rfl) ?_
          refine s_putz rfl (cn rfl) rfl (Or.inr rfl) c58 rfl ?_
          have d59 : rr_set (rr_set h 59 (.inl (0, 16, .inl (fun k => ii (fu v g w k))))) 58 (MO (n : Int) kp tp pt wr fa dm ce di be 1 sm le sc ba bb (ti : Int) rk ts tm pa wa) 59 = some (.inl (0, 16, .inl (fun k => ii (fu v g w k)))) := rfl
          refine s_aload_n rfl (cn rfl) rfl ?_
          refine s_iload_n rfl (cn rfl) rfl ?_
          refine s_iload rfl (cn rfl) rfl ?_
          refine s_virt rfl (cn rfl) rfl rfl rr_set_eq rfl (m_fair (v := fu v g w) hn (fu_hv hv (by omega)) (by rw [fu_n (by omega)]; exact h0) rr_set_eq d59 hti hba (Or.inr rfl) (fr_MW (fr_s (l := [58, 59]) (by decide) (fr_s (by decide) fr_r)) (by decide) hW) (fr_ML (fr_s (l := [58, 59]) (by decide) (fr_s (by decide) fr_r)) (by decide) hL) (fun e => absurd e (by decide)) ha hz) ?_
          rintro _ _ ⟨rfl, h2, ce2, di2, be2, sm2, le2, sc2, ba2, bb2, rk2, od2, ti2, rfl, hf2, c58, hti2, hba2, hod2, hW2, hL2, hs2⟩
          have c59 := (hf2 59 (by decide)).trans d59
          refine s_lstore rfl (cn rfl) ?_
          refine s_aload_n rfl (cn rfl) rfl ?_
          refine s_getfield rfl (cn rfl) c58 rfl ?_
          refine s_iload_n rfl (cn rfl) rfl ?_
          refine s_iload rfl (cn rfl) rfl ?_
          refine s_iastore rfl (cn rfl) _ rfl c59 (by omega) (by decide) ?_
          refine s_aload_n rfl (cn rfl) rfl ?_
          refine s_iconst rfl (cn rfl) ?_
          refine s_putz rfl (cn rfl) rfl (Or.inr rfl) c58 rfl ?_
          refine s_lload rfl (cn rfl) rfl ?_
          refine s_lreturn rfl ?_
          exact ⟨rl (by unfold sp_would sp_fair; rw [if_pos ⟨q13, by omega⟩, if_pos ⟨q3, by omega, q13, by omega⟩]; rfl), _, _, _, _, _, _, _, _, _, _, 1, ti2, rfl, fr_s (by decide) (fr_s (by decide) (fr_t (fr_s (by decide) (fr_s (by decide) fr_r)) (fr_w (l := [59, 58, 66, 67, 68, 69, 70, 71, 72, 73, 74]) hf2 (by simp)) (by simp))), rr_set_eq, ar_f (v := fu (fu v g w) g (v g)) rfl (fu_fu.trans fu_id), hti2, hba2, Or.inr rfl, fr_MW (fr_s (l := [58, 59]) (by decide) (fr_s (by decide) fr_r)) (by decide) hW2, fr_ML (fr_s (l := [58, 59]) (by decide) (fr_s (by decide) fr_r)) (by decide) hL2, fun e => absurd e (by decide)⟩
        · refine s_ldc2_w rfl (cn rfl) ?_
          refine s_lreturn rfl ?_
          exact ⟨rl (if_neg (fun q => by first | exact q3 q.1 | exact q9 (by omega) | exact q13 q.2.2.1 | exact q19 (by omega))).symm, h, _, _, _, _, _, _, _, _, _, od, ti, rfl, fr_r, c58, c59, hti, hba, hod, hW, hL, hs⟩
theorem rch_e {A B Q Z x : Int} (hB : 0 < B) (hQ : 0 < Q) (h : Z * B = A * Q) : x * B ≤ A ↔ x * Q ≤ Z := by
  constructor
  · intro q
    have q1 := Int.mul_le_mul_of_nonneg_right q (Int.le_of_lt hQ)
    rw [← h] at q1
    refine Int.le_of_mul_le_mul_right (a := B) ?_ hB
    have : x * Q * B = x * B * Q := by grind
    omega
  · intro q
    have q1 := Int.mul_le_mul_of_nonneg_right q (Int.le_of_lt hB)
    rw [h] at q1
    refine Int.le_of_mul_le_mul_right (a := Q) ?_ hQ
    have : x * B * Q = x * Q * B := by grind
    omega
theorem m_needs {d N S n : Nat} {kp tp pt wr fa dm ce di be od sm le sc ba bb rk ts tm pa wa : Int} {ti : Nat} {v : Nat → Int} {h : Nat → Option rr_E} (hn : 2 ≤ n ∧ n ≤ 4) (hv : ∀ k, -999 ≤ v k ∧ v k ≤ 999) (h0 : v 0 = 0) (c58 : h 58 = some (MO (n : Int) kp tp pt wr fa dm ce di be od sm le sc ba bb (ti : Int) rk ts tm pa wa)) (c59 : h 59 = some (.inl (0, 16, .inl (fun k => ii (v k))))) (hti : ti < 32768) (hba : -1500000000000000 ≤ ba ∧ ba ≤ 1500000000000000) (hod : od = 0 ∨ od = 1) (hW : MW h) (hL : ML h) (hs : od = 0 → MS h n v sm) {ga a x : Int} (hga : b3 ga) (ha : b3 a) (hx : b3 x) : rr_Calls (d + (n + 8)) j_Model_needs [.ref 58, .int (ii ga), .int (ii a), .int (ii x)] (N, S, h) (fun r R => r = some (.long (jj (sp_needs n v ga a x))) ∧ ∃ (h' : Nat → Option rr_E) (ce' di' be' sm' le' sc' ba' bb' rk' od' : Int) (ti' : Nat), R = (N, S, h') ∧ fr [59, 58, 66, 67, 68, 69, 70, 71, 72, 73, 74] h h' ∧ h' 58 = some (MO (n : Int) kp tp pt wr fa dm ce' di' be' od' sm' le' sc' ba' bb' (ti' : Int) rk' ts tm pa wa) ∧ h' 59 = some (.inl (0, 16, .inl (fun k => ii (v k)))) ∧ ti' < 32768 ∧ (-1500000000000000 ≤ ba' ∧ ba' ≤ 1500000000000000) ∧ (od' = 0 ∨ od' = 1) ∧ MW h' ∧ ML h' ∧ (od' = 0 → MS h' n v sm')) := by
  refine rr_meth (C := K_Model_needs) (hd := h_Model_needs) (mx := 8) rfl rfl (fun K hK => ?_)
  have hA := al_b hn
  refine hK _ _ _ _ ?_
  refine s_aload_n rfl (cn rfl) rfl ?_
  refine s_iload_n rfl (cn rfl) rfl ?_
  refine s_virt rfl (cn rfl) rfl rfl c58 rfl (m_isGroup hn c58 hga) ?_
  rintro _ _ ⟨rfl, rfl⟩
  refine s_ifb_eq rfl (cn rfl) (cn rfl) (fun q3 => ?_) (fun q3 => ?_)
  · refine s_ldc2_w rfl (cn rfl) ?_
    refine s_lreturn rfl ?_
    exact ⟨rl (if_neg (fun q => by first | exact q3 q.1 | exact q7 q.2)).symm, h, _, _, _, _, _, _, _, _, _, od, ti, rfl, fr_r, c58, c59, hti, hba, hod, hW, hL, hs⟩
  · refine s_aload_n rfl (cn rfl) rfl ?_
    refine s_iload_n rfl (cn rfl) rfl ?_
    refine s_virt rfl (cn rfl) rfl rfl c58 rfl (m_isOne hn c58 ha) ?_
    rintro _ _ ⟨rfl, rfl⟩
    refine s_ifb_ne rfl (cn rfl) (cn rfl) (fun q7 => ?_) (fun q7 => ?_)
    · obtain ⟨g, rfl⟩ := Int.eq_ofNat_of_zero_le (show 0 ≤ ga by omega)
      obtain ⟨i, rfl⟩ := Int.eq_ofNat_of_zero_le q7.1
      refine s_aload_n rfl (cn rfl) rfl ?_
      refine s_getfield rfl (cn rfl) c58 rfl ?_
      refine s_iload_n rfl (cn rfl) rfl ?_
      refine s_iaload rfl (cn rfl) _ rfl c59 rfl (by omega) (by decide) rfl ?_
      refine s_istore rfl (cn rfl) ?_
      refine s_ldc2_w rfl (cn rfl) ?_
      refine s_lstore rfl (cn rfl) ?_
      have hadd : v g + ((0 : Nat) : Int) = v g := Int.add_zero _
      refine s_iload rfl (cn rfl) rfl ?_
      refine s_istore rfl (ch rfl) ?_
      have lp19 : ∀ k : Nat, k ≤ 32 → ∀ (h3 : Nat → Option rr_E) (ce3 di3 be3 sm3 le3 sc3 ba3 bb3 rk3 od3 fo t3 : Int) (ti3 : Nat) (hf3 : fr [59, 58, 66, 67, 68, 69, 70, 71, 72, 73, 74] h h3) (c58 : h3 58 = some (MO (n : Int) kp tp pt wr fa dm ce3 di3 be3 od3 sm3 le3 sc3 ba3 bb3 (ti3 : Int) rk3 ts tm pa wa)) (c59 : h3 59 = some (.inl (0, 16, .inl (fun k => ii (fu v g t3 k))))) (hti3 : ti3 < 32768) (hba3 : -1500000000000000 ≤ ba3 ∧ ba3 ≤ 1500000000000000) (hW3 : MW h3) (hL3 : ML h3) (hk32 : k ≤ 31) (hfo : (fo = -9223372036854775808 ∧ ∀ j, j < k → ¬ rch n v g i x j) ∨ (1 ≤ k ∧ fo = v g + ((k - 1 : Nat) : Int) ∧ rch n v g i x (k - 1) ∧ ∀ j, j < k - 1 → ¬ rch n v g i x j)) (cv : Int) (hcv : cv = v g + (k : Int)), K 19 [some (.ref 58), some (.int (ii (g : Int))), some (.int (ii (i : Int))), some (.int (ii x)), some (.int (ii (v g))), some (.long (jj fo)), none, some (.int (ii cv))] [] (N, S, h3) := by
        refine dn (fun k hk ih19 => ?_)
        intro h3 ce3 di3 be3 sm3 le3 sc3 ba3 bb3 rk3 od3 fo t3 ti3 hf3 c58 c59 hti3 hba3 hW3 hL3 hk32 hfo cv hcv
        subst hcv
        have hvg := hv g
        have hfob : b6 fo := by
          rcases hfo with q | q
          · rw [q.1]; decide
          · rw [q.2.1]; exact ⟨by omega, by omega⟩
        refine hK _ _ _ _ ?_
        refine s_iload rfl (cn rfl) rfl ?_
        refine s_iload rfl (cn rfl) rfl ?_
        refine s_bipush rfl (cn rfl) (by decide) ?_
        refine s_iadd rfl (cn rfl) ?_
        refine s_icmp_gt rfl (cn rfl) (cn rfl) ⟨by omega, by omega⟩ ⟨by omega, by omega⟩ (fun q23 => ?_) (fun q23 => ?_)
        · refine s_aload_n rfl (cn rfl) rfl ?_
          refine s_getfield rfl (cn rfl) c58 rfl ?_
          refine s_iload_n rfl (cn rfl) rfl ?_
          refine s_iload rfl (cn rfl) rfl ?_
          refine s_iastore rfl (cn rfl) _ rfl c59 (by omega) (by decide) ?_
          refine s_aload_n rfl (cn rfl) rfl ?_
          refine s_iconst rfl (cn rfl) ?_
          refine s_putz rfl (cn rfl) rfl (Or.inr rfl) c58 rfl ?_
          refine s_lload rfl (cn rfl) rfl ?_
          refine s_lreturn rfl ?_
          have hfin : sp_needs n v (g : Int) (i : Int) x = fo := by
            rcases hfo with q | q
            · rw [q.1]
              refine nd_n ⟨q3, q7⟩ (fun j hj z => ?_)
              by_cases e : j < k
              · exact q.2 j e z
              · have z1 := z.1
                first
                  | omega
                  | exact absurd q.1 q30
            · rw [q.2.1]
              exact nd_y ⟨q3, q7⟩ (by omega) q.2.2.1 q.2.2.2
          exact ⟨rl hfin.symm, _, _, _, _, _, _, _, _, _, _, 1, ti3, rfl, fr_s (by decide) (fr_s (by decide) hf3), rr_set_eq, ar_f (v := fu (fu v g t3) g (v g)) rfl (fu_fu.trans fu_id), hti3, hba3, Or.inr rfl, fr_MW (fr_s (l := [58, 59]) (by decide) (fr_s (by decide) fr_r)) (by decide) hW3, fr_ML (fr_s (l := [58, 59]) (by decide) (fr_s (by decide) fr_r)) (by decide) hL3, fun e => absurd e (by decide)⟩
        · refine s_iload rfl (cn rfl) rfl ?_
          refine s_sipush rfl (cn rfl) (by decide) ?_
          refine s_icmp_gt rfl (cn rfl) (cn rfl) ⟨by omega, by omega⟩ ⟨by omega, by omega⟩ (fun q26 => ?_) (fun q26 => ?_)
          · refine s_aload_n rfl (cn rfl) rfl ?_
            refine s_getfield rfl (cn rfl) c58 rfl ?_
            refine s_iload_n rfl (cn rfl) rfl ?_
            refine s_iload rfl (cn rfl) rfl ?_
            refine s_iastore rfl (cn rfl) _ rfl c59 (by omega) (by decide) ?_
            refine s_aload_n rfl (cn rfl) rfl ?_
            refine s_iconst rfl (cn rfl) ?_
            refine s_putz rfl (cn rfl) rfl (Or.inr rfl) c58 rfl ?_
            refine s_lload rfl (cn rfl) rfl ?_
            refine s_lreturn rfl ?_
            have hfin : sp_needs n v (g : Int) (i : Int) x = fo := by
              rcases hfo with q | q
              · rw [q.1]
                refine nd_n ⟨q3, q7⟩ (fun j hj z => ?_)
                by_cases e : j < k
                · exact q.2 j e z
                · have z1 := z.1
                  first
                    | omega
                    | exact absurd q.1 q30
              · rw [q.2.1]
                exact nd_y ⟨q3, q7⟩ (by omega) q.2.2.1 q.2.2.2
            exact ⟨rl hfin.symm, _, _, _, _, _, _, _, _, _, _, 1, ti3, rfl, fr_s (by decide) (fr_s (by decide) hf3), rr_set_eq, ar_f (v := fu (fu v g t3) g (v g)) rfl (fu_fu.trans fu_id), hti3, hba3, Or.inr rfl, fr_MW (fr_s (l := [58, 59]) (by decide) (fr_s (by decide) fr_r)) (by decide) hW3, fr_ML (fr_s (l := [58, 59]) (by decide) (fr_s (by decide) fr_r)) (by decide) hL3, fun e => absurd e (by decide)⟩
          · refine s_lload rfl (cn rfl) rfl ?_
            refine s_ldc2_w rfl (cn rfl) ?_
            refine s_lcmp rfl (cn rfl) ?_
            refine s_ifl_ne rfl (cn rfl) (cn rfl) hfob ⟨by decide, by decide⟩ (fun q30 => ?_) (fun q30 => ?_)
            · refine s_aload_n rfl (cn rfl) rfl ?_
              refine s_getfield rfl (cn rfl) c58 rfl ?_
              refine s_iload_n rfl (cn rfl) rfl ?_
              refine s_iload rfl (cn rfl) rfl ?_
              refine s_iastore rfl (cn rfl) _ rfl c59 (by omega) (by decide) ?_
              refine s_aload_n rfl (cn rfl) rfl ?_
              refine s_iconst rfl (cn rfl) ?_
              refine s_putz rfl (cn rfl) rfl (Or.inr rfl) c58 rfl ?_
              refine s_lload rfl (cn rfl) rfl ?_
              refine s_lreturn rfl ?_
              have hfin : sp_needs n v (g : Int) (i : Int) x = fo := by
                rcases hfo with q | q
                · rw [q.1]
                  refine nd_n ⟨q3, q7⟩ (fun j hj z => ?_)
                  by_cases e : j < k
                  · exact q.2 j e z
                  · have z1 := z.1
                    first
                      | omega
                      | exact absurd q.1 q30
                · rw [q.2.1]
                  exact nd_y ⟨q3, q7⟩ (by omega) q.2.2.1 q.2.2.2
              exact ⟨rl hfin.symm, _, _, _, _, _, _, _, _, _, _, 1, ti3, rfl, fr_s (by decide) (fr_s (by decide) hf3), rr_set_eq, ar_f (v := fu (fu v g t3) g (v g)) rfl (fu_fu.trans fu_id), hti3, hba3, Or.inr rfl, fr_MW (fr_s (l := [58, 59]) (by decide) (fr_s (by decide) fr_r)) (by decide) hW3, fr_ML (fr_s (l := [58, 59]) (by decide) (fr_s (by decide) fr_r)) (by decide) hL3, fun e => absurd e (by decide)⟩
            · have hv2 : ∀ j, -999 ≤ (fu v g (v g + (k : Int))) j ∧ (fu v g (v g + (k : Int))) j ≤ 999 := fu_hv hv (by omega)
              have h02 : (fu v g (v g + (k : Int))) 0 = 0 := by rw [fu_n (by omega)]; exact h0
              have hno : ∀ j, j < k → ¬ rch n v g i x j := by
                rcases hfo with q | q
                · exact q.2
                · exfalso; have := q.2.1; omega
              refine s_aload_n rfl (cn rfl) rfl ?_
              refine s_getfield rfl (cn rfl) c58 rfl ?_
              refine s_iload_n rfl (cn rfl) rfl ?_
              refine s_iload rfl (cn rfl) rfl ?_
              refine s_iastore rfl (cn rfl) _ rfl c59 (by omega) (by decide) ?_
              refine s_aload_n rfl (cn rfl) rfl ?_
              refine s_iconst rfl (cn rfl) ?_
              refine s_putz rfl (cn rfl) rfl (Or.inr rfl) c58 rfl ?_
              have d59 : (rr_set (rr_set h3 59 (.inl (0, 16, .inl (fun j => ii (fu (fu v g t3) g (v g + (k : Int)) j))))) 58 (MO (n : Int) kp tp pt wr fa dm ce3 di3 be3 1 sm3 le3 sc3 ba3 bb3 (ti3 : Int) rk3 ts tm pa wa)) 59 = some (.inl (0, 16, .inl (fun j => ii ((fu v g (v g + (k : Int))) j)))) := ar_f (v := fu (fu v g t3) g (v g + (k : Int))) rfl fu_fu
              refine s_aload_n rfl (cn rfl) rfl ?_
              refine s_virt rfl (cn rfl) rfl rfl rr_set_eq rfl (calls_d (m_reckon (d := d + 1) (h := (rr_set (rr_set h3 59 (.inl (0, 16, .inl (fun j => ii (fu (fu v g t3) g (v g + (k : Int)) j))))) 58 (MO (n : Int) kp tp pt wr fa dm ce3 di3 be3 1 sm3 le3 sc3 ba3 bb3 (ti3 : Int) rk3 ts tm pa wa))) (v := (fu v g (v g + (k : Int)))) hn hv2 h02 rr_set_eq d59 hti3 hba3 (Or.inr rfl) (fr_MW (fr_s (l := [58, 59]) (by decide) (fr_s (by decide) fr_r)) (by decide) hW3) (fr_ML (fr_s (l := [58, 59]) (by decide) (fr_s (by decide) fr_r)) (by decide) hL3) (fun e => absurd e (by decide))) (show d + 1 + (n + 6) = d + (n + 7) by omega)) ?_
              rintro _ _ ⟨rfl, h2, ce2, di2, be2, sm2, le2, sc2, ba2, bb2, rk2, ti2, rfl, hf2, c58, hti2, hba2, hW2, hs2⟩
              obtain ⟨LA, LB, FX, SG, esm, c70, c71, c72, c73, hL1, hSG⟩ := MS_MX hn hv2 h02 hs2
              subst esm
              have c59 := (hf2 59 (by decide)).trans d59
              have hfe := fair_e hn hv2 h02 (show i < n by omega)
              have nBb := nB_b hn hv2 h02
              have hmul := ku_mul (x := x) (y := nQ n (fu v g (v g + (k : Int))) (nS n (fu v g (v g + (k : Int))) (2 ^ i))) (a := 2147483648) (b := 655360000) (by omega) (by omega)
              refine s_aload_n rfl (cn rfl) rfl ?_
              refine s_iload_n rfl (cn rfl) rfl ?_
              refine s_virt rfl (cn rfl) rfl rfl c58 rfl (m_fairAbove (i := i) hn hv2 h02 c58 c59 c70 c71 c73 (fun i i1 i2 => ⟨(hL1 i i1 i2).1, (hL1 i i1 i2).2.1⟩) hSG (by omega)) ?_
              rintro _ _ ⟨rfl, rfl⟩
              refine s_iload_n rfl (cn rfl) rfl ?_
              refine s_i2l rfl (cn rfl) ⟨by omega, by omega⟩ ?_
              refine s_aload_n rfl (cn rfl) rfl ?_
              refine s_iload_n rfl (cn rfl) rfl ?_
              refine s_virt rfl (cn rfl) rfl rfl c58 rfl (m_fairBelow (i := i) hn hv2 h02 c58 c59 c70 c71 c73 (fun i i1 i2 => ⟨(hL1 i i1 i2).1, (hL1 i i1 i2).2.1⟩) hSG (by omega)) ?_
              rintro _ _ ⟨rfl, rfl⟩
              refine s_lmul rfl (cn rfl) ?_
              refine s_lcmp rfl (cn rfl) ?_
              refine s_ifl_lt rfl (cn rfl) (cn rfl) ⟨by omega, by omega⟩ ⟨by omega, by omega⟩ (fun q51 => ?_) (fun q51 => ?_)
              · refine s_ldc2_w rfl (cn rfl) ?_
                refine s_lstore rfl (cn rfl) ?_
                refine s_iinc rfl (cn rfl) rfl ?_
                refine s_goto rfl (ch rfl) ?_
                exact ih19 (by omega) h2 _ _ _ _ _ _ _ _ _ 0 _ (v g + (k : Int)) ti2 (fr_t (fr_s (by decide) (fr_s (by decide) hf3)) (fr_w (l := [59, 58, 66, 67, 68, 69, 70, 71, 72, 73, 74]) hf2 (by simp)) (by simp)) c58 c59 hti2 hba2 hW2 (MS_ML hs2) (by omega) (Or.inl ⟨rfl, fun j hj => by
                  by_cases e : j = k
                  · subst e; intro q; have := (rch_e nBb.1 hfe.2.1.1 hfe.1).mp q.2; omega
                  · exact hno j (by omega)⟩) _ (by omega)
              · refine s_iload rfl (cn rfl) rfl ?_
                refine s_i2l rfl (cn rfl) ⟨by omega, by omega⟩ ?_
                refine s_goto rfl (cn rfl) ?_
                refine s_lstore rfl (cn rfl) ?_
                refine s_iinc rfl (cn rfl) rfl ?_
                refine s_goto rfl (ch rfl) ?_
                exact ih19 (by omega) h2 _ _ _ _ _ _ _ _ _ 0 _ (v g + (k : Int)) ti2 (fr_t (fr_s (by decide) (fr_s (by decide) hf3)) (fr_w (l := [59, 58, 66, 67, 68, 69, 70, 71, 72, 73, 74]) hf2 (by simp)) (by simp)) c58 c59 hti2 hba2 hW2 (MS_ML hs2) (by omega) (Or.inr ⟨by omega, by rw [Nat.add_sub_cancel], by rw [Nat.add_sub_cancel]; exact ⟨by omega, (rch_e nBb.1 hfe.2.1.1 hfe.1).mpr q51⟩, by rw [Nat.add_sub_cancel]; exact hno⟩) _ (by omega)
      exact lp19 0 (by omega) _ _ _ _ _ _ _ _ _ _ _ _ (v g) ti fr_r c58 (ar_f c59 fu_id.symm) hti hba hW hL (by omega) (Or.inl ⟨rfl, fun j hj => absurd hj (by omega)⟩) _ (by omega)
    · refine s_ldc2_w rfl (cn rfl) ?_
      refine s_lreturn rfl ?_
      exact ⟨rl (if_neg (fun q => by first | exact q3 q.1 | exact q7 q.2)).symm, h, _, _, _, _, _, _, _, _, _, od, ti, rfl, fr_r, c58, c59, hti, hba, hod, hW, hL, hs⟩
