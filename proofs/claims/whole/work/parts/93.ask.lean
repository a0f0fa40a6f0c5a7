/-! The stages of the class, asked for: those that stand, those of a game tried. -/
def RAW13 (h : Nat → Option rr_E) : Prop := ∃ (ku wc op oc bt bb : Int) (bs : Nat) (be x0 y0 : Int) (tt tb tf A E q0 a0 c0 h9 : Nat → Int) (W : Nat → Nat → Int), h 13 = some (ST13 ku wc op oc (bs : Int) bt bb) ∧ h 14 = some (.inl (1, 15, .inr (.inl (fun k => jj (tt k))))) ∧ h 15 = some (.inl (1, 15, .inr (.inl (fun k => jj (tb k))))) ∧ h 16 = some (.inl (0, 15, .inl (fun k => ii (tf k)))) ∧ h 17 = some (.inr (3, [.long (jj be), .ref 18, .ref 19, .int (ii x0), .int (ii y0)])) ∧ h 18 = some (.inl (1, 4, .inr (.inl (fun k => jj (A k))))) ∧ h 19 = some (.inl (1, 16, .inr (.inl (fun k => jj (E k))))) ∧ h 20 = some WA13 ∧ (∀ w, w < 3 → h (21 + w) = some (.inl (1, 4, .inr (.inl (fun k => jj (W w k)))))) ∧ h 24 = some (.inl (0, 14, .inl (fun k => ii (q0 k)))) ∧ h 25 = some (.inl (1, 14, .inr (.inl (fun k => jj (a0 k))))) ∧ h 26 = some (.inl (1, 14, .inr (.inl (fun k => jj (c0 k))))) ∧ h 27 = some (.inl (1, 14, .inr (.inl (fun k => jj (h9 k)))))
theorem SV_RAW13 {h : Nat → Option rr_E} {n : Nat} {v : Nat → Int} (k : SV13 h n v) : RAW13 h := by
  obtain ⟨ku, wc, F, tt, tb, tf, lp, lq, A, E, q0, a0, c0, h9, be, oc, bs, bt, bb, W, c13, c14, c15, c16, c17, c18, c19, c20, cw, c24, c25, c26, c27, _⟩ := k
  exact ⟨_, _, _, _, _, _, bs, _, _, _, _, _, _, _, _, _, _, _, _, W, c13, c14, c15, c16, c17, c18, c19, c20, cw, c24, c25, c26, c27⟩
theorem fr_RAW13 {l : List Nat} {h h' : Nat → Option rr_E} (f : fr l h h') (a : 13 ∉ l ∧ 14 ∉ l ∧ 15 ∉ l ∧ 16 ∉ l ∧ 17 ∉ l ∧ 18 ∉ l ∧ 19 ∉ l ∧ 20 ∉ l ∧ 24 ∉ l ∧ 25 ∉ l ∧ 26 ∉ l ∧ 27 ∉ l) (aw : ∀ i, i < 3 → 21 + i ∉ l) (k : RAW13 h) : RAW13 h' := by
  obtain ⟨ku, wc, op, oc, bt, bb, bs, be, x0, y0, tt, tb, tf, A, E, q0, a0, c0, h9, W, c13, c14, c15, c16, c17, c18, c19, c20, cw, c24, c25, c26, c27⟩ := k
  obtain ⟨a13, a14, a15, a16, a17, a18, a19, a20, a24, a25, a26, a27⟩ := a
  exact ⟨_, _, _, _, _, _, bs, _, _, _, _, _, _, _, _, _, _, _, _, W, (f 13 a13).trans c13, (f 14 a14).trans c14, (f 15 a15).trans c15, (f 16 a16).trans c16, (f 17 a17).trans c17, (f 18 a18).trans c18, (f 19 a19).trans c19, (f 20 a20).trans c20, (fun i hi => (f (21 + i) (aw i hi)).trans (cw i hi)), (f 24 a24).trans c24, (f 25 a25).trans c25, (f 26 a26).trans c26, (f 27 a27).trans c27⟩
theorem fr_SV13 {l : List Nat} {h h' : Nat → Option rr_E} {n : Nat} {v : Nat → Int} (f : fr l h h') (a : 13 ∉ l ∧ 14 ∉ l ∧ 15 ∉ l ∧ 16 ∉ l ∧ 17 ∉ l ∧ 18 ∉ l ∧ 19 ∉ l ∧ 20 ∉ l ∧ 24 ∉ l ∧ 25 ∉ l ∧ 26 ∉ l ∧ 27 ∉ l) (aw : ∀ i, i < 3 → 21 + i ∉ l) (k : SV13 h n v) : SV13 h' n v := by
  obtain ⟨ku, wc, F, tt, tb, tf, lp, lq, A, E, q0, a0, c0, h9, be, oc, bs, bt, bb, W, c13, c14, c15, c16, c17, c18, c19, c20, cw, c24, c25, c26, c27, rest⟩ := k
  obtain ⟨a13, a14, a15, a16, a17, a18, a19, a20, a24, a25, a26, a27⟩ := a
  exact ⟨ku, wc, F, tt, tb, tf, lp, lq, A, E, q0, a0, c0, h9, be, oc, bs, bt, bb, W, (f 13 a13).trans c13, (f 14 a14).trans c14, (f 15 a15).trans c15, (f 16 a16).trans c16, (f 17 a17).trans c17, (f 18 a18).trans c18, (f 19 a19).trans c19, (f 20 a20).trans c20, (fun i hi => (f (21 + i) (aw i hi)).trans (cw i hi)), (f 24 a24).trans c24, (f 25 a25).trans c25, (f 26 a26).trans c26, (f 27 a27).trans c27, rest⟩
def SW13 (h : Nat → Option rr_E) (n : Nat) (v : Nat → Int) : Prop := ∃ (wc oc bt bb : Int) (bs : Nat) (tt tb tf A E : Nat → Int), h 13 = some (ST13 ((nM n v : Nat) : Int) wc ((0 : Nat) : Int) oc (bs : Int) bt bb) ∧ h 14 = some (.inl (1, 15, .inr (.inl (fun k => jj (tt k))))) ∧ h 15 = some (.inl (1, 15, .inr (.inl (fun k => jj (tb k))))) ∧ h 16 = some (.inl (0, 15, .inl (fun k => ii (tf k)))) ∧ h 17 = some (.inr (3, [.long (jj (nB n v)), .ref 18, .ref 19, .int (ii (n : Int)), .int (ii ((al n : Nat) : Int))])) ∧ h 18 = some (.inl (1, 4, .inr (.inl (fun k => jj (A k))))) ∧ h 19 = some (.inl (1, 16, .inr (.inl (fun k => jj (E k))))) ∧ (∀ j, 1 ≤ j → j ≤ nM n v → tt j = nP n v j ∧ tb j = nQ n v j ∧ tf j = ((nF n v j : Nat) : Int)) ∧ (∀ i, i < 4 → A i = nA n v i) ∧ ∀ g, 1 ≤ g → g < al n → E g = nE n v g
theorem SV_SW13 {h : Nat → Option rr_E} {n : Nat} {v : Nat → Int} (hn : 2 ≤ n ∧ n ≤ 4) (hv : ∀ k, -999 ≤ v k ∧ v k ≤ 999) (h0 : v 0 = 0) (k : SV13 h n v) : SW13 h n v := by
  obtain ⟨ku, wc, F, tt, tb, tf, lp, lq, A, E, q0, a0, c0, h9, be, oc, bs, bt, bb, W, c13, c14, c15, c16, c17, c18, c19, c20, cw, c24, c25, c26, c27, sq, h1, hE⟩ := k
  have k := NU_n hn hv h0 (NU_of sq h1)
  obtain ⟨k1, k2, k3, k4⟩ := k
  rw [k1] at c13
  rw [k3] at c17
  refine ⟨_, _, _, _, bs, tt, tb, tf, A, E, c13, c14, c15, c16, c17, c18, c19, fun j j1 j2 => ⟨(k2 j j1 j2).2.1, (k2 j j1 j2).2.2, ?_⟩, k4, fun g g1 g2 => ?_⟩
  · rw [(sq.2.1 j j1 (by rw [k1]; exact j2)).1, (k2 j j1 j2).1]
  · rw [hE g g1 g2, k3, sh_cg (y := nA n v) (fun i hi => k4 i hi), nA_4 hn hv h0]; rfl
def RAW28 (h : Nat → Option rr_E) : Prop := ∃ (ku wc op oc bt bb : Int) (bs : Nat) (be x0 y0 : Int) (tt tb tf A E q0 a0 c0 h9 : Nat → Int) (W : Nat → Nat → Int), h 28 = some (ST28 ku wc op oc (bs : Int) bt bb) ∧ h 29 = some (.inl (1, 15, .inr (.inl (fun k => jj (tt k))))) ∧ h 30 = some (.inl (1, 15, .inr (.inl (fun k => jj (tb k))))) ∧ h 31 = some (.inl (0, 15, .inl (fun k => ii (tf k)))) ∧ h 32 = some (.inr (3, [.long (jj be), .ref 33, .ref 34, .int (ii x0), .int (ii y0)])) ∧ h 33 = some (.inl (1, 4, .inr (.inl (fun k => jj (A k))))) ∧ h 34 = some (.inl (1, 16, .inr (.inl (fun k => jj (E k))))) ∧ h 35 = some WA28 ∧ (∀ w, w < 3 → h (36 + w) = some (.inl (1, 4, .inr (.inl (fun k => jj (W w k)))))) ∧ h 39 = some (.inl (0, 14, .inl (fun k => ii (q0 k)))) ∧ h 40 = some (.inl (1, 14, .inr (.inl (fun k => jj (a0 k))))) ∧ h 41 = some (.inl (1, 14, .inr (.inl (fun k => jj (c0 k))))) ∧ h 42 = some (.inl (1, 14, .inr (.inl (fun k => jj (h9 k)))))
theorem SV_RAW28 {h : Nat → Option rr_E} {n : Nat} {v : Nat → Int} (k : SV28 h n v) : RAW28 h := by
  obtain ⟨ku, wc, F, tt, tb, tf, lp, lq, A, E, q0, a0, c0, h9, be, oc, bs, bt, bb, W, c28, c29, c30, c31, c32, c33, c34, c35, cw, c39, c40, c41, c42, _⟩ := k
  exact ⟨_, _, _, _, _, _, bs, _, _, _, _, _, _, _, _, _, _, _, _, W, c28, c29, c30, c31, c32, c33, c34, c35, cw, c39, c40, c41, c42⟩
theorem fr_RAW28 {l : List Nat} {h h' : Nat → Option rr_E} (f : fr l h h') (a : 28 ∉ l ∧ 29 ∉ l ∧ 30 ∉ l ∧ 31 ∉ l ∧ 32 ∉ l ∧ 33 ∉ l ∧ 34 ∉ l ∧ 35 ∉ l ∧ 39 ∉ l ∧ 40 ∉ l ∧ 41 ∉ l ∧ 42 ∉ l) (aw : ∀ i, i < 3 → 36 + i ∉ l) (k : RAW28 h) : RAW28 h' := by
  obtain ⟨ku, wc, op, oc, bt, bb, bs, be, x0, y0, tt, tb, tf, A, E, q0, a0, c0, h9, W, c28, c29, c30, c31, c32, c33, c34, c35, cw, c39, c40, c41, c42⟩ := k
  obtain ⟨a28, a29, a30, a31, a32, a33, a34, a35, a39, a40, a41, a42⟩ := a
  exact ⟨_, _, _, _, _, _, bs, _, _, _, _, _, _, _, _, _, _, _, _, W, (f 28 a28).trans c28, (f 29 a29).trans c29, (f 30 a30).trans c30, (f 31 a31).trans c31, (f 32 a32).trans c32, (f 33 a33).trans c33, (f 34 a34).trans c34, (f 35 a35).trans c35, (fun i hi => (f (36 + i) (aw i hi)).trans (cw i hi)), (f 39 a39).trans c39, (f 40 a40).trans c40, (f 41 a41).trans c41, (f 42 a42).trans c42⟩
theorem fr_SV28 {l : List Nat} {h h' : Nat → Option rr_E} {n : Nat} {v : Nat → Int} (f : fr l h h') (a : 28 ∉ l ∧ 29 ∉ l ∧ 30 ∉ l ∧ 31 ∉ l ∧ 32 ∉ l ∧ 33 ∉ l ∧ 34 ∉ l ∧ 35 ∉ l ∧ 39 ∉ l ∧ 40 ∉ l ∧ 41 ∉ l ∧ 42 ∉ l) (aw : ∀ i, i < 3 → 36 + i ∉ l) (k : SV28 h n v) : SV28 h' n v := by
  obtain ⟨ku, wc, F, tt, tb, tf, lp, lq, A, E, q0, a0, c0, h9, be, oc, bs, bt, bb, W, c28, c29, c30, c31, c32, c33, c34, c35, cw, c39, c40, c41, c42, rest⟩ := k
  obtain ⟨a28, a29, a30, a31, a32, a33, a34, a35, a39, a40, a41, a42⟩ := a
  exact ⟨ku, wc, F, tt, tb, tf, lp, lq, A, E, q0, a0, c0, h9, be, oc, bs, bt, bb, W, (f 28 a28).trans c28, (f 29 a29).trans c29, (f 30 a30).trans c30, (f 31 a31).trans c31, (f 32 a32).trans c32, (f 33 a33).trans c33, (f 34 a34).trans c34, (f 35 a35).trans c35, (fun i hi => (f (36 + i) (aw i hi)).trans (cw i hi)), (f 39 a39).trans c39, (f 40 a40).trans c40, (f 41 a41).trans c41, (f 42 a42).trans c42, rest⟩
def SW28 (h : Nat → Option rr_E) (n : Nat) (v : Nat → Int) : Prop := ∃ (wc oc bt bb : Int) (bs : Nat) (tt tb tf A E : Nat → Int), h 28 = some (ST28 ((nM n v : Nat) : Int) wc ((0 : Nat) : Int) oc (bs : Int) bt bb) ∧ h 29 = some (.inl (1, 15, .inr (.inl (fun k => jj (tt k))))) ∧ h 30 = some (.inl (1, 15, .inr (.inl (fun k => jj (tb k))))) ∧ h 31 = some (.inl (0, 15, .inl (fun k => ii (tf k)))) ∧ h 32 = some (.inr (3, [.long (jj (nB n v)), .ref 33, .ref 34, .int (ii (n : Int)), .int (ii ((al n : Nat) : Int))])) ∧ h 33 = some (.inl (1, 4, .inr (.inl (fun k => jj (A k))))) ∧ h 34 = some (.inl (1, 16, .inr (.inl (fun k => jj (E k))))) ∧ (∀ j, 1 ≤ j → j ≤ nM n v → tt j = nP n v j ∧ tb j = nQ n v j ∧ tf j = ((nF n v j : Nat) : Int)) ∧ (∀ i, i < 4 → A i = nA n v i) ∧ ∀ g, 1 ≤ g → g < al n → E g = nE n v g
theorem SV_SW28 {h : Nat → Option rr_E} {n : Nat} {v : Nat → Int} (hn : 2 ≤ n ∧ n ≤ 4) (hv : ∀ k, -999 ≤ v k ∧ v k ≤ 999) (h0 : v 0 = 0) (k : SV28 h n v) : SW28 h n v := by
  obtain ⟨ku, wc, F, tt, tb, tf, lp, lq, A, E, q0, a0, c0, h9, be, oc, bs, bt, bb, W, c28, c29, c30, c31, c32, c33, c34, c35, cw, c39, c40, c41, c42, sq, h1, hE⟩ := k
  have k := NU_n hn hv h0 (NU_of sq h1)
  obtain ⟨k1, k2, k3, k4⟩ := k
  rw [k1] at c28
  rw [k3] at c32
  refine ⟨_, _, _, _, bs, tt, tb, tf, A, E, c28, c29, c30, c31, c32, c33, c34, fun j j1 j2 => ⟨(k2 j j1 j2).2.1, (k2 j j1 j2).2.2, ?_⟩, k4, fun g g1 g2 => ?_⟩
  · rw [(sq.2.1 j j1 (by rw [k1]; exact j2)).1, (k2 j j1 j2).1]
  · rw [hE g g1 g2, k3, sh_cg (y := nA n v) (fun i hi => k4 i hi), nA_4 hn hv h0]; rfl
theorem d_solved {d N S n : Nat} {v : Nat → Int} {h : Nat → Option rr_E} (hn : 2 ≤ n ∧ n ≤ 4) (c1 : h 1 = some (.inr (0, [.int (ii (n : Int)), .ref 2]))) (c2 : h 2 = some (.inl (0, 16, .inl (fun k => ii (v k))))) (hv : ∀ k, -999 ≤ v k ∧ v k ≤ 999) (h0 : v 0 = 0) (c1000000 : h 1000000 = some (.inl (8, 5, .inl (fun j => rr_two.getD j 0)))) (c1000001 : h 1000001 = some (.inl (8, 25, .inl (fun j => rr_three.getD j 0)))) (c1000002 : h 1000002 = some (.inl (8, 205, .inl (fun j => rr_four.getD j 0)))) {sl im : Int} (c0 : h 0 = some (DO sl im)) (hsl : sl = 0 ∨ sl = 1) (hraw : RAW13 h) (hsv : sl = 0 → SV13 h n v) : rr_Calls (d + 6) j_Desk_solved [.ref 0] (N, S, h) (fun r R => r = some (.ref 13) ∧ ∃ h', R = (N, S, h') ∧ fr [0, 13, 14, 15, 16, 17, 18, 19, 24, 25, 26, 27, 21, 22, 23] h h' ∧ h' 0 = some (DO 0 im) ∧ SV13 h' n v) := by
  refine rr_meth (C := K_Desk_solved) (hd := h_Desk_solved) (mx := 1) rfl rfl (fun K hK => ?_)
  refine hK _ _ _ _ ?_
  refine s_aload_n rfl (cn rfl) rfl ?_
  refine s_getfield rfl (cn rfl) c0 rfl ?_
  refine s_if_eq rfl (cn rfl) (cn rfl) ⟨by omega, by omega⟩ (fun q2 => ?_) (fun q2 => ?_)
  · refine s_aload_n rfl (cn rfl) rfl ?_
    refine s_getfield rfl (cn rfl) c0 rfl ?_
    refine s_areturn rfl ?_
    first
      | exact ⟨rfl, _, rfl, fr_s (by decide) (fr_w hf (by intro k hk; simp at hk ⊢; omega)), rr_set_eq, fr_SV13 (fr_s (l := [0]) (by decide) fr_r) (by decide) (fun i hi => by first | (simp; done) | (simp; omega)) hs⟩
      | (have e0 : sl = 0 := q2
         subst e0
         exact ⟨rfl, h, rfl, fr_r, c0, hsv rfl⟩)
  · refine s_aload_n rfl (cn rfl) rfl ?_
    refine s_getfield rfl (cn rfl) c0 rfl ?_
    refine s_aload_n rfl (cn rfl) rfl ?_
    refine s_getfield rfl (cn rfl) c0 rfl ?_
    obtain ⟨ku, wc, op, oc, bt, bb, bs, be, x0, y0, tt, tb, tf, A, E, q0, a0, e0, h9, W, c13, c14, c15, c16, c17, c18, c19, c20, cw, c24, c25, c26, c27⟩ := hraw
    refine s_virt rfl (cn rfl) rfl rfl c13 rfl (v_solve_13 hn c1 c2 hv h0 c1000000 c1000001 c1000002 c13 c14 c15 c16 c17 c18 c19 c20 cw c24 c25 c26 c27) ?_
    rintro _ _ ⟨rfl, h1, rfl, hf, hs⟩
    have c0 := (hf 0 (by decide)).trans c0
    refine s_aload_n rfl (cn rfl) rfl ?_
    refine s_iconst rfl (cn rfl) ?_
    refine s_putz rfl (cn rfl) rfl (Or.inl rfl) c0 rfl ?_
    refine s_aload_n rfl (cn rfl) rfl ?_
    refine s_getfield rfl (cn rfl) rr_set_eq rfl ?_
    refine s_areturn rfl ?_
    first
      | exact ⟨rfl, _, rfl, fr_s (by decide) (fr_w hf (by intro k hk; simp at hk ⊢; omega)), rr_set_eq, fr_SV13 (fr_s (l := [0]) (by decide) fr_r) (by decide) (fun i hi => by first | (simp; done) | (simp; omega)) hs⟩
      | (have e0 : sl = 0 := q2
         subst e0
         exact ⟨rfl, h, rfl, fr_r, c0, hsv rfl⟩)
noncomputable def sp_level (n : Nat) (v : Nat → Int) (a z : Int) : Int := if (1 ≤ a ∧ a ≤ (nM n v : Int)) ∧ (z = 0 ∨ z = 1) then (if z = 0 then nP n v a.toNat else nQ n v a.toNat) else -9223372036854775808
noncomputable def sp_fixed (n : Nat) (v : Nat → Int) (a : Int) : Int := if 1 ≤ a ∧ a ≤ (nM n v : Int) then ((nF n v a.toNat : Nat) : Int) else -1
noncomputable def sp_stageOf (n : Nat) (v : Nat → Int) (a : Int) : Int := if 1 ≤ a ∧ a < (al n : Int) then ((nS n v a.toNat : Nat) : Int) else -1
noncomputable def sp_fair (n : Nat) (v : Nat → Int) (a z : Int) : Int := if (0 ≤ a ∧ a < (n : Int)) ∧ (z = 0 ∨ z = 1) then lw (nA n v a.toNat) (nB n v) z else -9223372036854775808
noncomputable def sp_grudge (n : Nat) (v : Nat → Int) (a z : Int) : Int := if (1 ≤ a ∧ a < (al n : Int)) ∧ (z = 0 ∨ z = 1) then (if z = 0 then nP n v (nS n v a.toNat) else nQ n v (nS n v a.toNat)) else -9223372036854775808
noncomputable def sp_empty (n : Nat) (v : Nat → Int) : Int := if 0 < nP n v 1 then 1 else 0
theorem lw_nE {n : Nat} {v : Nat → Int} (hn : 2 ≤ n ∧ n ≤ 4) (hv : ∀ k, -999 ≤ v k ∧ v k ≤ 999) (h0 : v 0 = 0) {g : Nat} (g1 : 1 ≤ g) (g2 : g < al n) (z : Int) : lw (nE n v g) (nB n v) z = if z = 0 then nP n v (nS n v g) else nQ n v (nS n v g) := by
  have s := nS_s hn hv h0 g1 g2
  have q := nQ_p hn hv h0 s.1 s.2.1
  rw [lw_eq (nB_b hn hv h0).1 q.1 (nE_l hn hv h0 g1 g2)]
  exact lw_r q.1 q.2.1
theorem v_has {d N S : Nat} {h : Nat → Option rr_E} {ku : Nat} (hk : ku ≤ 14) {wc op oc bs bt bb : Int} (c13 : h 13 = some (ST13 (ku : Int) wc op oc bs bt bb)) {a : Int} (ha : b3 a) : rr_Calls (d + 1) j_Stages_hasStage [.ref 13, .int (ii a)] (N, S, h) (fun r R => r = some (.int (rb (1 ≤ a ∧ a ≤ (ku : Int)))) ∧ R = (N, S, h)) := by
  refine rr_meth (C := K_Stages_hasStage) (hd := h_Stages_hasStage) (mx := 2) rfl rfl (fun K hK => ?_)
  refine hK _ _ _ _ ?_
  refine s_iload_n rfl (cn rfl) rfl ?_
  refine s_iconst rfl (cn rfl) ?_
  refine s_icmp_lt rfl (cn rfl) (cn rfl) ⟨by omega, by omega⟩ ⟨by omega, by omega⟩ (fun q2 => ?_) (fun q2 => ?_)
  · refine s_iconst rfl (cn rfl) ?_
    refine s_zreturn rfl (Or.inl rfl) ?_
    exact ⟨rz_f (by omega), rfl⟩
  · refine s_iload_n rfl (cn rfl) rfl ?_
    refine s_aload_n rfl (cn rfl) rfl ?_
    refine s_getfield rfl (cn rfl) c13 rfl ?_
    refine s_icmp_gt rfl (cn rfl) (cn rfl) ⟨by omega, by omega⟩ ⟨by omega, by omega⟩ (fun q6 => ?_) (fun q6 => ?_)
    · refine s_iconst rfl (cn rfl) ?_
      refine s_zreturn rfl (Or.inl rfl) ?_
      exact ⟨rz_f (by omega), rfl⟩
    · refine s_iconst rfl (cn rfl) ?_
      refine s_goto rfl (cn rfl) ?_
      refine s_zreturn rfl (Or.inr rfl) ?_
      exact ⟨rz_t (by omega), rfl⟩
theorem v_sfix {d N S : Nat} {h : Nat → Option rr_E} {ku : Nat} (hk : ku ≤ 14) {wc op oc bs bt bb : Int} (c13 : h 13 = some (ST13 (ku : Int) wc op oc bs bt bb)) {tf : Nat → Int} (c16 : h 16 = some (.inl (0, 15, .inl (fun k => ii (tf k))))) {F : Nat → Nat} (hF : ∀ j, 1 ≤ j → j ≤ ku → tf j = ((F j : Nat) : Int) ∧ F j < 32768) {g : Nat} (hg : g < 16) : rr_Calls (d + 1) j_Stages_stageFixing [.ref 13, .int (ii (g : Int))] (N, S, h) (fun r R => r = some (.int (ii (ff 1 (ku + 1) (fun j => (F j).testBit g = true) (-1)))) ∧ R = (N, S, h)) := by
  refine rr_meth (C := K_Stages_stageFixing) (hd := h_Stages_stageFixing) (mx := 3) rfl rfl (fun K hK => ?_)
  refine hK _ _ _ _ ?_
  refine s_iconst rfl (cn rfl) ?_
  refine s_istore_n rfl (ch rfl) ?_
  have lp2 : ∀ k : Nat, k ≤ ku + 1 → ∀ (k1 : 1 ≤ k) (no : ∀ j, 1 ≤ j → j < k → ¬ (F j).testBit g = true), K 2 [some (.ref 13), some (.int (ii (g : Int))), some (.int (ii (k : Int)))] [] (N, S, h) := by
    refine dn (fun k hk ih2 => ?_)
    intro k1 no
    refine hK _ _ _ _ ?_
    refine s_iload_n rfl (cn rfl) rfl ?_
    refine s_aload_n rfl (cn rfl) rfl ?_
    refine s_getfield rfl (cn rfl) c13 rfl ?_
    refine s_icmp_gt rfl (cn rfl) (cn rfl) ⟨by omega, by omega⟩ ⟨by omega, by omega⟩ (fun q5 => ?_) (fun q5 => ?_)
    · refine s_iconst rfl (cn rfl) ?_
      refine s_ireturn rfl ?_
      exact ⟨ri (ff_n (fun j q1 q2 => no j q1 (by omega))), rfl⟩
    · refine s_aload_n rfl (cn rfl) rfl ?_
      refine s_getfield rfl (cn rfl) c13 rfl ?_
      refine s_iload_n rfl (cn rfl) rfl ?_
      have hFk := hF k k1 (by omega)
      refine s_iaload rfl (cn rfl) _ rfl c16 rfl (by omega) (by decide) (congrArg ii hFk.1) ?_
      refine s_iload_n rfl (cn rfl) rfl ?_
      refine s_ishr rfl (cn rfl) ?_
      refine s_iconst rfl (cn rfl) ?_
      refine s_iand rfl (cn rfl) _ (bi_bit (by omega) (by omega)) ?_
      refine s_iconst rfl (cn rfl) ?_
      refine s_icmp_ne rfl (cn rfl) (cn rfl) (bt_b3 _ _) (by decide) (fun q15 => ?_) (fun q15 => ?_)
      · refine s_iinc rfl (cn rfl) rfl ?_
        refine s_goto rfl (ch rfl) ?_
        exact ih2 (by omega) (by omega) (fun j q1 q2 => by
            by_cases e : j = k
            · subst e; exact fun q => q15 (bt_1.mpr q)
            · exact no j q1 (by omega))
      · refine s_iload_n rfl (cn rfl) rfl ?_
        refine s_ireturn rfl ?_
        exact ⟨ri (ff_y k1 (by omega) (bt_1.mp q15) no), rfl⟩
  exact lp2 1 (by omega) (by omega) (fun j q1 q2 => absurd q2 (by omega))
theorem d_stages {d N S n : Nat} {v : Nat → Int} {h : Nat → Option rr_E} (hn : 2 ≤ n ∧ n ≤ 4) (c1 : h 1 = some (.inr (0, [.int (ii (n : Int)), .ref 2]))) (c2 : h 2 = some (.inl (0, 16, .inl (fun k => ii (v k))))) (hv : ∀ k, -999 ≤ v k ∧ v k ≤ 999) (h0 : v 0 = 0) (c1000000 : h 1000000 = some (.inl (8, 5, .inl (fun j => rr_two.getD j 0)))) (c1000001 : h 1000001 = some (.inl (8, 25, .inl (fun j => rr_three.getD j 0)))) (c1000002 : h 1000002 = some (.inl (8, 205, .inl (fun j => rr_four.getD j 0)))) {sl im : Int} (c0 : h 0 = some (DO sl im)) (hsl : sl = 0 ∨ sl = 1) (hraw : RAW13 h) (hsv : sl = 0 → SV13 h n v) : rr_Calls (d + 7) j_Desk_stages [.ref 0] (N, S, h) (fun r R => r = some (.int (ii ((nM n v : Nat) : Int))) ∧ ∃ (h' : Nat → Option rr_E) (sl' : Int), R = (N, S, h') ∧ fr [0, 13, 14, 15, 16, 17, 18, 19, 24, 25, 26, 27, 21, 22, 23] h h' ∧ h' 0 = some (DO sl' im) ∧ (sl' = 0 ∨ sl' = 1) ∧ RAW13 h' ∧ (sl' = 0 → SV13 h' n v)) := by
  refine rr_meth (C := K_Desk_stages) (hd := h_Desk_stages) (mx := 1) rfl rfl (fun K hK => ?_)
  refine hK _ _ _ _ ?_
  refine s_aload_n rfl (cn rfl) rfl ?_
  refine s_virt rfl (cn rfl) rfl rfl c0 rfl (d_solved hn c1 c2 hv h0 c1000000 c1000001 c1000002 c0 hsl hraw hsv) ?_
  rintro _ _ ⟨rfl, h', rfl, hf, c0, hs⟩
  have c1 := (hf 1 (by decide)).trans c1
  have c2 := (hf 2 (by decide)).trans c2
  obtain ⟨wc, oc, bt, bb, bs, tt, tb, tf, A, E, c13, c14, c15, c16, c17, c18, c19, hS, hA4, hE⟩ := SV_SW13 hn hv h0 hs
  have nMb := nM_b hn hv h0
  have nBb := nB_b hn hv h0
  refine s_getfield rfl (cn rfl) c13 rfl ?_
  refine s_ireturn rfl ?_
  exact ⟨rfl, ⟨h', 0, rfl, hf, c0, Or.inl rfl, SV_RAW13 hs, fun _ => hs⟩⟩
theorem d_level {d N S n : Nat} {v : Nat → Int} {h : Nat → Option rr_E} (hn : 2 ≤ n ∧ n ≤ 4) (c1 : h 1 = some (.inr (0, [.int (ii (n : Int)), .ref 2]))) (c2 : h 2 = some (.inl (0, 16, .inl (fun k => ii (v k))))) (hv : ∀ k, -999 ≤ v k ∧ v k ≤ 999) (h0 : v 0 = 0) (c1000000 : h 1000000 = some (.inl (8, 5, .inl (fun j => rr_two.getD j 0)))) (c1000001 : h 1000001 = some (.inl (8, 25, .inl (fun j => rr_three.getD j 0)))) (c1000002 : h 1000002 = some (.inl (8, 205, .inl (fun j => rr_four.getD j 0)))) {sl im : Int} (c0 : h 0 = some (DO sl im)) (hsl : sl = 0 ∨ sl = 1) (hraw : RAW13 h) (hsv : sl = 0 → SV13 h n v) {a z : Int} (ha : b3 a) (hz : b3 z) : rr_Calls (d + 7) j_Desk_level [.ref 0, .int (ii a), .int (ii z)] (N, S, h) (fun r R => r = some (.long (jj (sp_level n v a z))) ∧ ∃ (h' : Nat → Option rr_E) (sl' : Int), R = (N, S, h') ∧ fr [0, 13, 14, 15, 16, 17, 18, 19, 24, 25, 26, 27, 21, 22, 23] h h' ∧ h' 0 = some (DO sl' im) ∧ (sl' = 0 ∨ sl' = 1) ∧ RAW13 h' ∧ (sl' = 0 → SV13 h' n v)) := by
  refine rr_meth (C := K_Desk_level) (hd := h_Desk_level) (mx := 4) rfl rfl (fun K hK => ?_)
  refine hK _ _ _ _ ?_
  refine s_aload_n rfl (cn rfl) rfl ?_
  refine s_virt rfl (cn rfl) rfl rfl c0 rfl (d_solved hn c1 c2 hv h0 c1000000 c1000001 c1000002 c0 hsl hraw hsv) ?_
  rintro _ _ ⟨rfl, h', rfl, hf, c0, hs⟩
  have c1 := (hf 1 (by decide)).trans c1
  have c2 := (hf 2 (by decide)).trans c2
  obtain ⟨wc, oc, bt, bb, bs, tt, tb, tf, A, E, c13, c14, c15, c16, c17, c18, c19, hS, hA4, hE⟩ := SV_SW13 hn hv h0 hs
  have nMb := nM_b hn hv h0
  have nBb := nB_b hn hv h0
  refine s_astore_n rfl (cn rfl) ?_
  refine s_aload_n rfl (cn rfl) rfl ?_
  refine s_iload_n rfl (cn rfl) rfl ?_
  refine s_virt rfl (cn rfl) rfl rfl c13 rfl (v_has (ku := nM n v) (by omega) c13 (by omega)) ?_
  rintro _ _ ⟨rfl, rfl⟩
  refine s_ifb_eq rfl (cn rfl) (cn rfl) (fun q6 => ?_) (fun q6 => ?_)
  · refine s_ldc2_w rfl (cn rfl) ?_
    refine s_lreturn rfl ?_
    exact ⟨rl (if_neg (fun q => by first | exact q6 q.1 | exact q9 q.2)).symm, ⟨h', 0, rfl, hf, c0, Or.inl rfl, SV_RAW13 hs, fun _ => hs⟩⟩
  · refine s_iload_n rfl (cn rfl) rfl ?_
    refine s_stat rfl (cn rfl) rfl rfl rfl (u_fpart (by omega)) ?_
    rintro _ _ ⟨rfl, rfl⟩
    refine s_ifb_ne rfl (cn rfl) (cn rfl) (fun q9 => ?_) (fun q9 => ?_)
    · obtain ⟨j, rfl⟩ := Int.eq_ofNat_of_zero_le (show 0 ≤ a by omega)
      have hSj := hS j (by omega) (by omega)
      have hqj := nQ_p hn hv h0 (show 1 ≤ j by omega) (show j ≤ nM n v by omega)
      have hpj := nP_b hn hv h0 (show 1 ≤ j by omega) (show j ≤ nM n v by omega)
      refine s_aload_n rfl (cn rfl) rfl ?_
      refine s_getfield rfl (cn rfl) c13 rfl ?_
      refine s_iload_n rfl (cn rfl) rfl ?_
      refine s_laload rfl (cn rfl) _ rfl c14 (by omega) (by decide) (congrArg jj hSj.1) ?_
      refine s_aload_n rfl (cn rfl) rfl ?_
      refine s_getfield rfl (cn rfl) c13 rfl ?_
      refine s_iload_n rfl (cn rfl) rfl ?_
      refine s_laload rfl (cn rfl) _ rfl c15 (by omega) (by decide) (congrArg jj hSj.2.1) ?_
      refine s_iload_n rfl (cn rfl) rfl ?_
      refine s_stat rfl (cn rfl) rfl rfl rfl (u_lowest ⟨by omega, by omega⟩ ⟨by omega, by omega⟩ (by omega) (by omega)) ?_
      rintro _ _ ⟨rfl, rfl⟩
      refine s_lreturn rfl ?_
      exact ⟨rl (by unfold sp_level; rw [if_pos ⟨q6, q9⟩, lw_r hqj.1 hqj.2.1]; rfl), ⟨h', 0, rfl, hf, c0, Or.inl rfl, SV_RAW13 hs, fun _ => hs⟩⟩
    · refine s_ldc2_w rfl (cn rfl) ?_
      refine s_lreturn rfl ?_
      exact ⟨rl (if_neg (fun q => by first | exact q6 q.1 | exact q9 q.2)).symm, ⟨h', 0, rfl, hf, c0, Or.inl rfl, SV_RAW13 hs, fun _ => hs⟩⟩
theorem d_fixed {d N S n : Nat} {v : Nat → Int} {h : Nat → Option rr_E} (hn : 2 ≤ n ∧ n ≤ 4) (c1 : h 1 = some (.inr (0, [.int (ii (n : Int)), .ref 2]))) (c2 : h 2 = some (.inl (0, 16, .inl (fun k => ii (v k))))) (hv : ∀ k, -999 ≤ v k ∧ v k ≤ 999) (h0 : v 0 = 0) (c1000000 : h 1000000 = some (.inl (8, 5, .inl (fun j => rr_two.getD j 0)))) (c1000001 : h 1000001 = some (.inl (8, 25, .inl (fun j => rr_three.getD j 0)))) (c1000002 : h 1000002 = some (.inl (8, 205, .inl (fun j => rr_four.getD j 0)))) {sl im : Int} (c0 : h 0 = some (DO sl im)) (hsl : sl = 0 ∨ sl = 1) (hraw : RAW13 h) (hsv : sl = 0 → SV13 h n v) {a : Int} (ha : b3 a) : rr_Calls (d + 7) j_Desk_fixed [.ref 0, .int (ii a)] (N, S, h) (fun r R => r = some (.int (ii (sp_fixed n v a))) ∧ ∃ (h' : Nat → Option rr_E) (sl' : Int), R = (N, S, h') ∧ fr [0, 13, 14, 15, 16, 17, 18, 19, 24, 25, 26, 27, 21, 22, 23] h h' ∧ h' 0 = some (DO sl' im) ∧ (sl' = 0 ∨ sl' = 1) ∧ RAW13 h' ∧ (sl' = 0 → SV13 h' n v)) := by
  refine rr_meth (C := K_Desk_fixed) (hd := h_Desk_fixed) (mx := 3) rfl rfl (fun K hK => ?_)
  refine hK _ _ _ _ ?_
  refine s_aload_n rfl (cn rfl) rfl ?_
  refine s_virt rfl (cn rfl) rfl rfl c0 rfl (d_solved hn c1 c2 hv h0 c1000000 c1000001 c1000002 c0 hsl hraw hsv) ?_
  rintro _ _ ⟨rfl, h', rfl, hf, c0, hs⟩
  have c1 := (hf 1 (by decide)).trans c1
  have c2 := (hf 2 (by decide)).trans c2
  obtain ⟨wc, oc, bt, bb, bs, tt, tb, tf, A, E, c13, c14, c15, c16, c17, c18, c19, hS, hA4, hE⟩ := SV_SW13 hn hv h0 hs
  have nMb := nM_b hn hv h0
  have nBb := nB_b hn hv h0
  refine s_astore_n rfl (cn rfl) ?_
  refine s_aload_n rfl (cn rfl) rfl ?_
  refine s_iload_n rfl (cn rfl) rfl ?_
  refine s_virt rfl (cn rfl) rfl rfl c13 rfl (v_has (ku := nM n v) (by omega) c13 (by omega)) ?_
  rintro _ _ ⟨rfl, rfl⟩
  refine s_ifb_eq rfl (cn rfl) (cn rfl) (fun q6 => ?_) (fun q6 => ?_)
  · refine s_iconst rfl (cn rfl) ?_
    refine s_ireturn rfl ?_
    first
      | exact ⟨ri (if_neg q6).symm, ⟨h', 0, rfl, hf, c0, Or.inl rfl, SV_RAW13 hs, fun _ => hs⟩⟩
      | exact ⟨ri (if_pos q6).symm, ⟨h', 0, rfl, hf, c0, Or.inl rfl, SV_RAW13 hs, fun _ => hs⟩⟩
  · obtain ⟨j, rfl⟩ := Int.eq_ofNat_of_zero_le (show 0 ≤ a by omega)
    have hSj := hS j (by omega) (by omega)
    refine s_aload_n rfl (cn rfl) rfl ?_
    refine s_getfield rfl (cn rfl) c13 rfl ?_
    refine s_iload_n rfl (cn rfl) rfl ?_
    refine s_iaload rfl (cn rfl) _ rfl c16 rfl (by omega) (by decide) (congrArg ii hSj.2.2) ?_
    refine s_goto rfl (cn rfl) ?_
    refine s_ireturn rfl ?_
    first
      | exact ⟨ri (if_neg q6).symm, ⟨h', 0, rfl, hf, c0, Or.inl rfl, SV_RAW13 hs, fun _ => hs⟩⟩
      | exact ⟨ri (if_pos q6).symm, ⟨h', 0, rfl, hf, c0, Or.inl rfl, SV_RAW13 hs, fun _ => hs⟩⟩
theorem d_stageOf {d N S n : Nat} {v : Nat → Int} {h : Nat → Option rr_E} (hn : 2 ≤ n ∧ n ≤ 4) (c1 : h 1 = some (.inr (0, [.int (ii (n : Int)), .ref 2]))) (c2 : h 2 = some (.inl (0, 16, .inl (fun k => ii (v k))))) (hv : ∀ k, -999 ≤ v k ∧ v k ≤ 999) (h0 : v 0 = 0) (c1000000 : h 1000000 = some (.inl (8, 5, .inl (fun j => rr_two.getD j 0)))) (c1000001 : h 1000001 = some (.inl (8, 25, .inl (fun j => rr_three.getD j 0)))) (c1000002 : h 1000002 = some (.inl (8, 205, .inl (fun j => rr_four.getD j 0)))) {sl im : Int} (c0 : h 0 = some (DO sl im)) (hsl : sl = 0 ∨ sl = 1) (hraw : RAW13 h) (hsv : sl = 0 → SV13 h n v) {a : Int} (ha : b3 a) : rr_Calls (d + 7) j_Desk_stageOf [.ref 0, .int (ii a)] (N, S, h) (fun r R => r = some (.int (ii (sp_stageOf n v a))) ∧ ∃ (h' : Nat → Option rr_E) (sl' : Int), R = (N, S, h') ∧ fr [0, 13, 14, 15, 16, 17, 18, 19, 24, 25, 26, 27, 21, 22, 23] h h' ∧ h' 0 = some (DO sl' im) ∧ (sl' = 0 ∨ sl' = 1) ∧ RAW13 h' ∧ (sl' = 0 → SV13 h' n v)) := by
  refine rr_meth (C := K_Desk_stageOf) (hd := h_Desk_stageOf) (mx := 2) rfl rfl (fun K hK => ?_)
  have hA := al_b hn
  refine hK _ _ _ _ ?_
  refine s_aload_n rfl (cn rfl) rfl ?_
  refine s_getfield rfl (cn rfl) c0 rfl ?_
  refine s_iload_n rfl (cn rfl) rfl ?_
  refine s_virt rfl (cn rfl) rfl rfl c1 rfl (u_hasPart hn c1 (by omega)) ?_
  rintro _ _ ⟨rfl, rfl⟩
  refine s_ifb_eq rfl (cn rfl) (cn rfl) (fun q4 => ?_) (fun q4 => ?_)
  · refine s_iconst rfl (cn rfl) ?_
    refine s_ireturn rfl ?_
    first
      | exact ⟨ri (if_neg q4).symm, ⟨h, sl, rfl, fr_r, c0, hsl, hraw, hsv⟩⟩
      | (have s := nS_s hn hv h0 (g := g) (by omega) (by omega)
         have e := ff_y (no := -1) (P := fun j => (nF n v j).testBit g = true) s.1 (show nS n v g < nM n v + 1 by omega) s.2.2 (fun j j1 j2 q => by have := nS_u hn hv h0 j1 (by omega) q; omega)
         exact ⟨ri (by unfold sp_stageOf; rw [if_pos q4, ← e]; rfl), ⟨h', 0, rfl, hf, c0, Or.inl rfl, SV_RAW13 hs, fun _ => hs⟩⟩)
  · obtain ⟨g, rfl⟩ := Int.eq_ofNat_of_zero_le (show 0 ≤ a by omega)
    refine s_aload_n rfl (cn rfl) rfl ?_
    refine s_virt rfl (cn rfl) rfl rfl c0 rfl (d_solved hn c1 c2 hv h0 c1000000 c1000001 c1000002 c0 hsl hraw hsv) ?_
    rintro _ _ ⟨rfl, h', rfl, hf, c0, hs⟩
    have c1 := (hf 1 (by decide)).trans c1
    have c2 := (hf 2 (by decide)).trans c2
    obtain ⟨wc, oc, bt, bb, bs, tt, tb, tf, A, E, c13, c14, c15, c16, c17, c18, c19, hS, hA4, hE⟩ := SV_SW13 hn hv h0 hs
    have nMb := nM_b hn hv h0
    have nBb := nB_b hn hv h0
    refine s_iload_n rfl (cn rfl) rfl ?_
    refine s_virt rfl (cn rfl) rfl rfl c13 rfl (v_sfix (ku := nM n v) (F := nF n v) (g := g) (by omega) c13 c16 (fun j j1 j2 => ⟨(hS j j1 j2).2.2, nF_b hn hv h0 j1 j2⟩) (by omega)) ?_
    rintro _ _ ⟨rfl, rfl⟩
    refine s_goto rfl (cn rfl) ?_
    refine s_ireturn rfl ?_
    first
      | exact ⟨ri (if_neg q4).symm, ⟨h, sl, rfl, fr_r, c0, hsl, hraw, hsv⟩⟩
      | (have s := nS_s hn hv h0 (g := g) (by omega) (by omega)
         have e := ff_y (no := -1) (P := fun j => (nF n v j).testBit g = true) s.1 (show nS n v g < nM n v + 1 by omega) s.2.2 (fun j j1 j2 q => by have := nS_u hn hv h0 j1 (by omega) q; omega)
         exact ⟨ri (by unfold sp_stageOf; rw [if_pos q4, ← e]; rfl), ⟨h', 0, rfl, hf, c0, Or.inl rfl, SV_RAW13 hs, fun _ => hs⟩⟩)
theorem u_shareOf {d N S : Nat} {h : Nat → Option rr_E} {be x y : Int} {A : Nat → Int} (c17 : h 17 = some (.inr (3, [.long (jj be), .ref 18, .ref 19, .int (ii x), .int (ii y)]))) (c18 : h 18 = some (.inl (1, 4, .inr (.inl (fun k => jj (A k)))))) {p : Nat} (hp : p < 4) {z : Int} (hz : b3 z) (ea : b5 (A p)) (eb : b5 be) (hb : 0 < be) : rr_Calls (d + 3) j_Shares_shareOf [.ref 17, .int (ii (p : Int)), .int (ii z)] (N, S, h) (fun r R => r = some (.long (jj (lw (A p) be z))) ∧ R = (N, S, h)) := by
  refine rr_meth (C := K_Shares_shareOf) (hd := h_Shares_shareOf) (mx := 3) rfl rfl (fun K hK => ?_)
  refine hK _ _ _ _ ?_
  refine s_aload_n rfl (cn rfl) rfl ?_
  refine s_getfield rfl (cn rfl) c17 rfl ?_
  refine s_iload_n rfl (cn rfl) rfl ?_
  refine s_laload rfl (cn rfl) _ rfl c18 (by omega) (by decide) rfl ?_
  refine s_aload_n rfl (cn rfl) rfl ?_
  refine s_getfield rfl (cn rfl) c17 rfl ?_
  refine s_iload_n rfl (cn rfl) rfl ?_
  refine s_stat rfl (cn rfl) rfl rfl rfl (u_lowest ea eb hb hz) ?_
  rintro _ _ ⟨rfl, rfl⟩
  refine s_lreturn rfl ?_
  exact ⟨rfl, rfl⟩
theorem u_shareOf32 {d N S : Nat} {h : Nat → Option rr_E} {be x y : Int} {A : Nat → Int} (c32 : h 32 = some (.inr (3, [.long (jj be), .ref 33, .ref 34, .int (ii x), .int (ii y)]))) (c33 : h 33 = some (.inl (1, 4, .inr (.inl (fun k => jj (A k)))))) {p : Nat} (hp : p < 4) {z : Int} (hz : b3 z) (ea : b5 (A p)) (eb : b5 be) (hb : 0 < be) : rr_Calls (d + 3) j_Shares_shareOf [.ref 32, .int (ii (p : Int)), .int (ii z)] (N, S, h) (fun r R => r = some (.long (jj (lw (A p) be z))) ∧ R = (N, S, h)) := by
  refine rr_meth (C := K_Shares_shareOf) (hd := h_Shares_shareOf) (mx := 3) rfl rfl (fun K hK => ?_)
  refine hK _ _ _ _ ?_
  refine s_aload_n rfl (cn rfl) rfl ?_
  refine s_getfield rfl (cn rfl) c32 rfl ?_
  refine s_iload_n rfl (cn rfl) rfl ?_
  refine s_laload rfl (cn rfl) _ rfl c33 (by omega) (by decide) rfl ?_
  refine s_aload_n rfl (cn rfl) rfl ?_
  refine s_getfield rfl (cn rfl) c32 rfl ?_
  refine s_iload_n rfl (cn rfl) rfl ?_
  refine s_stat rfl (cn rfl) rfl rfl rfl (u_lowest ea eb hb hz) ?_
  rintro _ _ ⟨rfl, rfl⟩
  refine s_lreturn rfl ?_
  exact ⟨rfl, rfl⟩
theorem d_fair {d N S n : Nat} {v : Nat → Int} {h : Nat → Option rr_E} (hn : 2 ≤ n ∧ n ≤ 4) (c1 : h 1 = some (.inr (0, [.int (ii (n : Int)), .ref 2]))) (c2 : h 2 = some (.inl (0, 16, .inl (fun k => ii (v k))))) (hv : ∀ k, -999 ≤ v k ∧ v k ≤ 999) (h0 : v 0 = 0) (c1000000 : h 1000000 = some (.inl (8, 5, .inl (fun j => rr_two.getD j 0)))) (c1000001 : h 1000001 = some (.inl (8, 25, .inl (fun j => rr_three.getD j 0)))) (c1000002 : h 1000002 = some (.inl (8, 205, .inl (fun j => rr_four.getD j 0)))) {sl im : Int} (c0 : h 0 = some (DO sl im)) (hsl : sl = 0 ∨ sl = 1) (hraw : RAW13 h) (hsv : sl = 0 → SV13 h n v) {a z : Int} (ha : b3 a) (hz : b3 z) : rr_Calls (d + 7) j_Desk_fair [.ref 0, .int (ii a), .int (ii z)] (N, S, h) (fun r R => r = some (.long (jj (sp_fair n v a z))) ∧ ∃ (h' : Nat → Option rr_E) (sl' : Int), R = (N, S, h') ∧ fr [0, 13, 14, 15, 16, 17, 18, 19, 24, 25, 26, 27, 21, 22, 23] h h' ∧ h' 0 = some (DO sl' im) ∧ (sl' = 0 ∨ sl' = 1) ∧ RAW13 h' ∧ (sl' = 0 → SV13 h' n v)) := by
  refine rr_meth (C := K_Desk_fair) (hd := h_Desk_fair) (mx := 3) rfl rfl (fun K hK => ?_)
  refine hK _ _ _ _ ?_
  refine s_aload_n rfl (cn rfl) rfl ?_
  refine s_getfield rfl (cn rfl) c0 rfl ?_
  refine s_iload_n rfl (cn rfl) rfl ?_
  refine s_virt rfl (cn rfl) rfl rfl c1 rfl (u_hasOne hn c1 (by omega)) ?_
  rintro _ _ ⟨rfl, rfl⟩
  refine s_ifb_eq rfl (cn rfl) (cn rfl) (fun q4 => ?_) (fun q4 => ?_)
  · refine s_ldc2_w rfl (cn rfl) ?_
    refine s_lreturn rfl ?_
    exact ⟨rl (if_neg (fun q => by first | exact q4 q.1 | exact q7 q.2)).symm, ⟨h, sl, rfl, fr_r, c0, hsl, hraw, hsv⟩⟩
  · refine s_iload_n rfl (cn rfl) rfl ?_
    refine s_stat rfl (cn rfl) rfl rfl rfl (u_fpart (by omega)) ?_
    rintro _ _ ⟨rfl, rfl⟩
    refine s_ifb_ne rfl (cn rfl) (cn rfl) (fun q7 => ?_) (fun q7 => ?_)
    · obtain ⟨i, rfl⟩ := Int.eq_ofNat_of_zero_le q4.1
      have hAi := nA_1b hn hv h0 (show i < n by omega)
      refine s_aload_n rfl (cn rfl) rfl ?_
      refine s_virt rfl (cn rfl) rfl rfl c0 rfl (d_solved hn c1 c2 hv h0 c1000000 c1000001 c1000002 c0 hsl hraw hsv) ?_
      rintro _ _ ⟨rfl, h', rfl, hf, c0, hs⟩
      have c1 := (hf 1 (by decide)).trans c1
      have c2 := (hf 2 (by decide)).trans c2
      obtain ⟨wc, oc, bt, bb, bs, tt, tb, tf, A, E, c13, c14, c15, c16, c17, c18, c19, hS, hA4, hE⟩ := SV_SW13 hn hv h0 hs
      have nMb := nM_b hn hv h0
      have nBb := nB_b hn hv h0
      refine s_getfield rfl (cn rfl) c13 rfl ?_
      refine s_iload_n rfl (cn rfl) rfl ?_
      refine s_iload_n rfl (cn rfl) rfl ?_
      have eA := hA4 i (by omega)
      refine s_virt rfl (cn rfl) rfl rfl c17 rfl (u_shareOf (p := i) c17 c18 (by omega) hz ⟨by rw [eA]; omega, by rw [eA]; omega⟩ ⟨by omega, by omega⟩ (by omega)) ?_
      rintro _ _ ⟨rfl, rfl⟩
      refine s_lreturn rfl ?_
      exact ⟨rl (by unfold sp_fair; rw [if_pos ⟨q4, q7⟩, eA]; rfl), ⟨h', 0, rfl, hf, c0, Or.inl rfl, SV_RAW13 hs, fun _ => hs⟩⟩
    · refine s_ldc2_w rfl (cn rfl) ?_
      refine s_lreturn rfl ?_
      exact ⟨rl (if_neg (fun q => by first | exact q4 q.1 | exact q7 q.2)).symm, ⟨h, sl, rfl, fr_r, c0, hsl, hraw, hsv⟩⟩
theorem d_grudge {d N S n : Nat} {v : Nat → Int} {h : Nat → Option rr_E} (hn : 2 ≤ n ∧ n ≤ 4) (c1 : h 1 = some (.inr (0, [.int (ii (n : Int)), .ref 2]))) (c2 : h 2 = some (.inl (0, 16, .inl (fun k => ii (v k))))) (hv : ∀ k, -999 ≤ v k ∧ v k ≤ 999) (h0 : v 0 = 0) (c1000000 : h 1000000 = some (.inl (8, 5, .inl (fun j => rr_two.getD j 0)))) (c1000001 : h 1000001 = some (.inl (8, 25, .inl (fun j => rr_three.getD j 0)))) (c1000002 : h 1000002 = some (.inl (8, 205, .inl (fun j => rr_four.getD j 0)))) {sl im : Int} (c0 : h 0 = some (DO sl im)) (hsl : sl = 0 ∨ sl = 1) (hraw : RAW13 h) (hsv : sl = 0 → SV13 h n v) {a z : Int} (ha : b3 a) (hz : b3 z) : rr_Calls (d + 7) j_Desk_grudge [.ref 0, .int (ii a), .int (ii z)] (N, S, h) (fun r R => r = some (.long (jj (sp_grudge n v a z))) ∧ ∃ (h' : Nat → Option rr_E) (sl' : Int), R = (N, S, h') ∧ fr [0, 13, 14, 15, 16, 17, 18, 19, 24, 25, 26, 27, 21, 22, 23] h h' ∧ h' 0 = some (DO sl' im) ∧ (sl' = 0 ∨ sl' = 1) ∧ RAW13 h' ∧ (sl' = 0 → SV13 h' n v)) := by
  refine rr_meth (C := K_Desk_grudge) (hd := h_Desk_grudge) (mx := 3) rfl rfl (fun K hK => ?_)
  have hA := al_b hn
  refine hK _ _ _ _ ?_
  refine s_aload_n rfl (cn rfl) rfl ?_
  refine s_getfield rfl (cn rfl) c0 rfl ?_
  refine s_iload_n rfl (cn rfl) rfl ?_
  refine s_virt rfl (cn rfl) rfl rfl c1 rfl (u_hasPart hn c1 (by omega)) ?_
  rintro _ _ ⟨rfl, rfl⟩
  refine s_ifb_eq rfl (cn rfl) (cn rfl) (fun q4 => ?_) (fun q4 => ?_)
  · refine s_ldc2_w rfl (cn rfl) ?_
    refine s_lreturn rfl ?_
    exact ⟨rl (if_neg (fun q => by first | exact q4 q.1 | exact q7 q.2)).symm, ⟨h, sl, rfl, fr_r, c0, hsl, hraw, hsv⟩⟩
  · refine s_iload_n rfl (cn rfl) rfl ?_
    refine s_stat rfl (cn rfl) rfl rfl rfl (u_fpart (by omega)) ?_
    rintro _ _ ⟨rfl, rfl⟩
    refine s_ifb_ne rfl (cn rfl) (cn rfl) (fun q7 => ?_) (fun q7 => ?_)
    · obtain ⟨g, rfl⟩ := Int.eq_ofNat_of_zero_le (show 0 ≤ a by omega)
      have hEg := nE_b hn hv h0 (show g ≤ al n by omega)
      refine s_aload_n rfl (cn rfl) rfl ?_
      refine s_virt rfl (cn rfl) rfl rfl c0 rfl (d_solved hn c1 c2 hv h0 c1000000 c1000001 c1000002 c0 hsl hraw hsv) ?_
      rintro _ _ ⟨rfl, h', rfl, hf, c0, hs⟩
      have c1 := (hf 1 (by decide)).trans c1
      have c2 := (hf 2 (by decide)).trans c2
      obtain ⟨wc, oc, bt, bb, bs, tt, tb, tf, A, E, c13, c14, c15, c16, c17, c18, c19, hS, hA4, hE⟩ := SV_SW13 hn hv h0 hs
      have nMb := nM_b hn hv h0
      have nBb := nB_b hn hv h0
      refine s_getfield rfl (cn rfl) c13 rfl ?_
      refine s_iload_n rfl (cn rfl) rfl ?_
      refine s_iload_n rfl (cn rfl) rfl ?_
      have eE := hE g (by omega) (by omega)
      refine s_virt rfl (cn rfl) rfl rfl c17 rfl (u_grudgeOf_17 hn c17 c18 c19 (g := g) (by omega) (by omega) ⟨by rw [eE]; omega, by rw [eE]; omega⟩ ⟨by omega, by omega⟩ (by omega) hz) ?_
      rintro _ _ ⟨rfl, rfl⟩
      refine s_lreturn rfl ?_
      exact ⟨rl (by unfold sp_grudge; rw [if_pos ⟨q4, q7⟩, eE, lw_nE hn hv h0 (by omega) (by omega)]; rfl), ⟨h', 0, rfl, hf, c0, Or.inl rfl, SV_RAW13 hs, fun _ => hs⟩⟩
    · refine s_ldc2_w rfl (cn rfl) ?_
      refine s_lreturn rfl ?_
      exact ⟨rl (if_neg (fun q => by first | exact q4 q.1 | exact q7 q.2)).symm, ⟨h, sl, rfl, fr_r, c0, hsl, hraw, hsv⟩⟩
theorem d_ordered {d N S n : Nat} {v : Nat → Int} {h : Nat → Option rr_E} (hn : 2 ≤ n ∧ n ≤ 4) (c1 : h 1 = some (.inr (0, [.int (ii (n : Int)), .ref 2]))) (c2 : h 2 = some (.inl (0, 16, .inl (fun k => ii (v k))))) (hv : ∀ k, -999 ≤ v k ∧ v k ≤ 999) (h0 : v 0 = 0) (c1000000 : h 1000000 = some (.inl (8, 5, .inl (fun j => rr_two.getD j 0)))) (c1000001 : h 1000001 = some (.inl (8, 25, .inl (fun j => rr_three.getD j 0)))) (c1000002 : h 1000002 = some (.inl (8, 205, .inl (fun j => rr_four.getD j 0)))) {sl im : Int} (c0 : h 0 = some (DO sl im)) (hsl : sl = 0 ∨ sl = 1) (hraw : RAW13 h) (hsv : sl = 0 → SV13 h n v) {a : Int} (ha : b3 a) : rr_Calls (d + 7) j_Desk_ordered [.ref 0, .int (ii a)] (N, S, h) (fun r R => r = some (.int (ii (ino (nE n v) (al n) a))) ∧ ∃ (h' : Nat → Option rr_E) (sl' : Int), R = (N, S, h') ∧ fr [0, 13, 14, 15, 16, 17, 18, 19, 24, 25, 26, 27, 21, 22, 23] h h' ∧ h' 0 = some (DO sl' im) ∧ (sl' = 0 ∨ sl' = 1) ∧ RAW13 h' ∧ (sl' = 0 → SV13 h' n v)) := by
  refine rr_meth (C := K_Desk_ordered) (hd := h_Desk_ordered) (mx := 2) rfl rfl (fun K hK => ?_)
  refine hK _ _ _ _ ?_
  refine s_aload_n rfl (cn rfl) rfl ?_
  refine s_virt rfl (cn rfl) rfl rfl c0 rfl (d_solved hn c1 c2 hv h0 c1000000 c1000001 c1000002 c0 hsl hraw hsv) ?_
  rintro _ _ ⟨rfl, h', rfl, hf, c0, hs⟩
  have c1 := (hf 1 (by decide)).trans c1
  have c2 := (hf 2 (by decide)).trans c2
  obtain ⟨wc, oc, bt, bb, bs, tt, tb, tf, A, E, c13, c14, c15, c16, c17, c18, c19, hS, hA4, hE⟩ := SV_SW13 hn hv h0 hs
  have nMb := nM_b hn hv h0
  have nBb := nB_b hn hv h0
  refine s_getfield rfl (cn rfl) c13 rfl ?_
  refine s_iload_n rfl (cn rfl) rfl ?_
  refine s_virt rfl (cn rfl) rfl rfl c17 rfl (u_inOrder_17 hn c17 c18 c19 (fun g g1 g2 => by rw [hE g g1 g2]; have := nE_b hn hv h0 (show g ≤ al n by omega); exact ⟨by omega, by omega⟩) ha) ?_
  rintro _ _ ⟨rfl, rfl⟩
  refine s_ireturn rfl ?_
  exact ⟨ri (ino_cg (fun g g1 g2 => hE g g1 g2)), ⟨h', 0, rfl, hf, c0, Or.inl rfl, SV_RAW13 hs, fun _ => hs⟩⟩
theorem d_empty {d N S n : Nat} {v : Nat → Int} {h : Nat → Option rr_E} (hn : 2 ≤ n ∧ n ≤ 4) (c1 : h 1 = some (.inr (0, [.int (ii (n : Int)), .ref 2]))) (c2 : h 2 = some (.inl (0, 16, .inl (fun k => ii (v k))))) (hv : ∀ k, -999 ≤ v k ∧ v k ≤ 999) (h0 : v 0 = 0) (c1000000 : h 1000000 = some (.inl (8, 5, .inl (fun j => rr_two.getD j 0)))) (c1000001 : h 1000001 = some (.inl (8, 25, .inl (fun j => rr_three.getD j 0)))) (c1000002 : h 1000002 = some (.inl (8, 205, .inl (fun j => rr_four.getD j 0)))) {sl im : Int} (c0 : h 0 = some (DO sl im)) (hsl : sl = 0 ∨ sl = 1) (hraw : RAW13 h) (hsv : sl = 0 → SV13 h n v) : rr_Calls (d + 7) j_Desk_empty [.ref 0] (N, S, h) (fun r R => r = some (.int (ii (sp_empty n v))) ∧ ∃ (h' : Nat → Option rr_E) (sl' : Int), R = (N, S, h') ∧ fr [0, 13, 14, 15, 16, 17, 18, 19, 24, 25, 26, 27, 21, 22, 23] h h' ∧ h' 0 = some (DO sl' im) ∧ (sl' = 0 ∨ sl' = 1) ∧ RAW13 h' ∧ (sl' = 0 → SV13 h' n v)) := by
  refine rr_meth (C := K_Desk_empty) (hd := h_Desk_empty) (mx := 1) rfl rfl (fun K hK => ?_)
  refine hK _ _ _ _ ?_
  refine s_aload_n rfl (cn rfl) rfl ?_
  refine s_virt rfl (cn rfl) rfl rfl c0 rfl (d_solved hn c1 c2 hv h0 c1000000 c1000001 c1000002 c0 hsl hraw hsv) ?_
  rintro _ _ ⟨rfl, h', rfl, hf, c0, hs⟩
  have c1 := (hf 1 (by decide)).trans c1
  have c2 := (hf 2 (by decide)).trans c2
  obtain ⟨wc, oc, bt, bb, bs, tt, tb, tf, A, E, c13, c14, c15, c16, c17, c18, c19, hS, hA4, hE⟩ := SV_SW13 hn hv h0 hs
  have nMb := nM_b hn hv h0
  have nBb := nB_b hn hv h0
  refine s_getfield rfl (cn rfl) c13 rfl ?_
  refine s_iconst rfl (cn rfl) ?_
  have hS1 := hS 1 (by omega) (by omega)
  have hp1 := nP_b hn hv h0 (show 1 ≤ 1 by omega) (show 1 ≤ nM n v by omega)
  have hq1 := nQ_p hn hv h0 (show 1 ≤ 1 by omega) (show 1 ≤ nM n v by omega)
  refine s_laload rfl (cn rfl) 1 rfl c14 (by decide) (by decide) (congrArg jj hS1.1) ?_
  refine s_lconst rfl (cn rfl) 0 (by decide) ?_
  refine s_lcmp rfl (cn rfl) ?_
  refine s_ifl_le rfl (cn rfl) (cn rfl) ⟨by omega, by omega⟩ ⟨by omega, by omega⟩ (fun q7 => ?_) (fun q7 => ?_)
  · refine s_iconst rfl (cn rfl) ?_
    refine s_ireturn rfl ?_
    first
      | exact ⟨ri (if_pos (by omega)).symm, ⟨h', 0, rfl, hf, c0, Or.inl rfl, SV_RAW13 hs, fun _ => hs⟩⟩
      | exact ⟨ri (if_neg (by omega)).symm, ⟨h', 0, rfl, hf, c0, Or.inl rfl, SV_RAW13 hs, fun _ => hs⟩⟩
  · refine s_iconst rfl (cn rfl) ?_
    refine s_goto rfl (cn rfl) ?_
    refine s_ireturn rfl ?_
    first
      | exact ⟨ri (if_pos (by omega)).symm, ⟨h', 0, rfl, hf, c0, Or.inl rfl, SV_RAW13 hs, fun _ => hs⟩⟩
      | exact ⟨ri (if_neg (by omega)).symm, ⟨h', 0, rfl, hf, c0, Or.inl rfl, SV_RAW13 hs, fun _ => hs⟩⟩
