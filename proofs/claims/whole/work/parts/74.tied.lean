/-! The parts that a stage fixes are tied. -/
theorem CI_cg {n : Nat} {v : Nat → Int} {fx fx' : Nat → Prop} {lp lq : Nat → Int} {be : Int} {A : Nat → Int} {wc : Nat} {W : Nat → Nat → Int} (h : CI n v fx lp lq be A wc W) (e : ∀ k, fx k ↔ fx' k) : CI n v fx' lp lq be A wc W := by
  have : fx = fx' := funext (fun k => propext (e k))
  exact this ▸ h
theorem kQ_m {m wc : Nat} (h : m ≤ wc) (hw : wc ≤ 3) : kQ wc ≤ kQ m ∧ kT wc ≤ kT m := by
  have h1 : wc = 0 ∨ wc = 1 ∨ wc = 2 ∨ wc = 3 := by omega
  have h2 : m = 0 ∨ m = 1 ∨ m = 2 ∨ m = 3 := by omega
  rcases h1 with rfl | rfl | rfl | rfl <;> rcases h2 with rfl | rfl | rfl | rfl <;> first | (exfalso; omega) | decide
def fxg (fx : Nat → Prop) (s g : Nat) : Nat → Prop := fun k => fx k ∨ (s.testBit k = true ∧ k < g)
theorem kG_b6 {wc : Nat} {x : Int} (h : -kG wc ≤ x ∧ x ≤ kG wc) : b6 x := by
  have : kG wc ≤ 128 := by unfold kG; split <;> (try split) <;> (try split) <;> omega
  exact ⟨by omega, by omega⟩
theorem kA_b5 {wc : Nat} {x : Int} (h : -kA wc ≤ x ∧ x ≤ kA wc) : b5 x := by
  have : kA wc ≤ 450000000000000 := by unfold kA; split <;> (try split) <;> (try split) <;> omega
  exact ⟨by omega, by omega⟩
theorem kB_b5 {wc : Nat} {x : Int} (h : -kB wc ≤ x ∧ x ≤ kB wc) : b5 x := by
  have : kB wc ≤ 655360000 := by unfold kB; split <;> (try split) <;> (try split) <;> omega
  exact ⟨by omega, by omega⟩
theorem sgn_or {x : Int} : (if x < 0 then (-1 : Int) else 1) = 1 ∨ (if x < 0 then (-1 : Int) else 1) = -1 := by split <;> omega
theorem v_tie_13 {d N S n : Nat} {v : Nat → Int} {h : Nat → Option rr_E} (hn : 2 ≤ n ∧ n ≤ 4) (c1 : h 1 = some (.inr (0, [.int (ii (n : Int)), .ref 2]))) (c2 : h 2 = some (.inl (0, 16, .inl (fun k => ii (v k))))) (hv : ∀ k, -999 ≤ v k ∧ v k ≤ 999) {op oc bt bb be x0 y0 u : Int} {ku wc s : Nat} (hku : ku < 15) (hwc : wc ≤ 3) (hs15 : s < 32768) (c13 : h 13 = some (ST13 (ku : Int) (wc : Int) op oc (s : Int) bt bb)) {W : Nat → Nat → Int} (c20 : h 20 = some WA13) (cw : ∀ w, w < 3 → h (21 + w) = some (.inl (1, 4, .inr (.inl (fun k => jj (W w k)))))) {tt tb A x : Nat → Int} (c14 : h 14 = some (.inl (1, 15, .inr (.inl (fun k => jj (tt k)))))) (c15 : h 15 = some (.inl (1, 15, .inr (.inl (fun k => jj (tb k)))))) (c17 : h 17 = some (.inr (3, [.long (jj be), .ref 18, .ref 19, .int (ii x0), .int (ii y0)]))) (c18 : h 18 = some (.inl (1, 4, .inr (.inl (fun k => jj (A k)))))) {fx : Nat → Prop} {lp lq : Nat → Int} (hC : CI n v fx lp lq be A wc W) (hs : ∀ k, s.testBit k = true → (1 ≤ k ∧ k < al n) ∧ ¬ fx k ∧ lp k = tt ku ∧ lq k = tb ku) (hl : ∀ k, 1 ≤ k → k < 2 ^ n - 1 → fx k → 0 < lq k) (hbot : 0 < tb ku ∧ tb ku ≤ kQ wc) (htop : -kT wc ≤ tt ku ∧ tt ku ≤ kT wc) (hx : st_Fe n v fx lp lq u x) (hxt : ∀ k, s.testBit k = true → lq k * (u * v k - st_sh n k x) = u * lp k) (hred : (∀ k : Int, k ∣ be → (∀ p, p < 4 → k ∣ A p) → k ∣ 1)) : rr_Calls (d + 4) j_Stages_tieFixed [.ref 13, .ref 1] (N, S, h) (fun r R => r = none ∧ ∃ (h' : Nat → Option rr_E) (be' : Int) (A' : Nat → Int) (wc' : Nat) (W' : Nat → Nat → Int), R = (N, S, h') ∧ fr [13, 17, 18, 21 + 0, 21 + 1, 21 + 2] h h' ∧ h' 13 = some (ST13 (ku : Int) (wc' : Int) op oc (s : Int) bt bb) ∧ h' 17 = some (.inr (3, [.long (jj be'), .ref 18, .ref 19, .int (ii x0), .int (ii y0)])) ∧ h' 18 = some (.inl (1, 4, .inr (.inl (fun k => jj (A' k))))) ∧ (∀ w, w < 3 → h' (21 + w) = some (.inl (1, 4, .inr (.inl (fun k => jj (W' w k)))))) ∧ CI n v (fun k => fx k ∨ s.testBit k = true) lp lq be' A' wc' W' ∧ wc' ≤ wc ∧ (wc' = wc → ∀ k, s.testBit k = true → ∀ w, w < wc → st_sh 4 k (W w) = 0) ∧ (∀ k : Int, k ∣ be' → (∀ p, p < 4 → k ∣ A' p) → k ∣ 1)) := by
  refine rr_meth (C := K_Stages_tieFixed) (hd := h_Stages_tieFixed) (mx := 4) rfl rfl (fun K hK => ?_)
  have hA := al_b hn
  refine hK _ _ _ _ ?_
  refine s_iconst rfl (cn rfl) ?_
  refine s_istore_n rfl (ch rfl) ?_
  have lp2 : ∀ g : Nat, g ≤ al n → ∀ (l3 : Option Value) (h' : Nat → Option rr_E) (be2 : Int) (A2 : Nat → Int) (m : Nat) (Y : Nat → Nat → Int) (h1 : 1 ≤ g) (c13 : h' 13 = some (ST13 (ku : Int) (m : Int) op oc (s : Int) bt bb)) (c17 : h' 17 = some (.inr (3, [.long (jj be2), .ref 18, .ref 19, .int (ii x0), .int (ii y0)]))) (c18 : h' 18 = some (.inl (1, 4, .inr (.inl (fun k => jj (A2 k)))))) (cy : ∀ w, w < 3 → h' (21 + w) = some (.inl (1, 4, .inr (.inl (fun k => jj (Y w k)))))) (hf : fr [13, 17, 18, 21 + 0, 21 + 1, 21 + 2] h h') (hC2 : CI n v (fxg fx s g) lp lq be2 A2 m Y) (hm : m ≤ wc) (hsame : m = wc → Y = W ∧ ∀ k, k < g → s.testBit k = true → ∀ w, w < wc → st_sh 4 k (W w) = 0) (hred2 : (∀ k : Int, k ∣ be2 → (∀ p, p < 4 → k ∣ A2 p) → k ∣ 1)), K 2 [some (.ref 13), some (.ref 1), some (.int (ii (g : Int))), l3] [] (N, S, h') := by
    refine dn (fun g hg ih2 => ?_)
    intro l3 h' be2 A2 m Y h1 c13 c17 c18 cy hf hC2 hm hsame hred2
    have c1 := (hf 1 (by simp)).trans c1
    have c2 := (hf 2 (by simp)).trans c2
    have c20 := (hf 20 (by simp)).trans c20
    have c14 := (hf 14 (by simp)).trans c14
    have c15 := (hf 15 (by simp)).trans c15
    have hvg := hv g
    refine hK _ _ _ _ ?_
    refine s_iload_n rfl (cn rfl) rfl ?_
    refine s_aload_n rfl (cn rfl) rfl ?_
    refine s_virt rfl (cn rfl) rfl rfl c1 rfl (u_all_1 hn c1) ?_
    rintro _ _ ⟨rfl, rfl⟩
    refine s_icmp_ge rfl (cn rfl) (cn rfl) ⟨by omega, by omega⟩ ⟨by omega, by omega⟩ (fun q5 => ?_) (fun q5 => ?_)
    · refine s_return rfl ?_
      exact ⟨rfl, h', be2, A2, m, Y, rfl, hf, c13, c17, c18, cy, CI_cg hC2 (fun k => ⟨fun q => q.imp id (fun q => q.1), fun q => q.imp id (fun q => ⟨q, by have := (hs k q).1.2; omega⟩)⟩), hm, fun e k hb w hw => (hsame e).2 k (by have := (hs k hb).1.2; omega) hb w hw, hred2⟩
    · refine s_aload_n rfl (cn rfl) rfl ?_
      refine s_getfield rfl (cn rfl) c13 rfl ?_
      refine s_iload_n rfl (cn rfl) rfl ?_
      refine s_ishr rfl (cn rfl) ?_
      refine s_iconst rfl (cn rfl) ?_
      refine s_iand rfl (cn rfl) _ (bi_bit (by omega) (by omega)) ?_
      refine s_iconst rfl (cn rfl) ?_
      refine s_icmp_ne rfl (cn rfl) (cn rfl) (bt_b3 _ _) (by decide) (fun q13 => ?_) (fun q13 => ?_)
      · refine s_iconst rfl (cn rfl) ?_
        refine s_istore_n rfl (cn rfl) ?_
        skip
        refine s_iload_n rfl (cn rfl) rfl ?_
        refine s_iconst rfl (cn rfl) ?_
        refine s_icmp_eq rfl (cn rfl) (cn rfl) (by first | decide | (have := ff_b 0 m (fun w => st_sh 4 g (Y w) ≠ 0) (-1); omega)) (by decide) (fun q22 => ?_) (fun q22 => ?_)
        · refine s_iinc rfl (cn rfl) rfl ?_
          refine s_goto rfl (ch rfl) ?_
          first
            | exact ih2 (by omega) _ h7 be6 A6 (m - 1) W7 (by omega) k13 ((hf7 17 (by simp)).trans d17) ((hf7 18 (by simp)).trans d18) k7 (fr_t (fr_t hf (fr_w (l := [13, 17, 18, 21 + 0, 21 + 1, 21 + 2]) hf6 (by simp)) (by simp)) hf7 (by simp)) (CI_cg hCm (fun k => ⟨fun q => by
                  rcases q with (q | q) | rfl
                  · exact Or.inl q
                  · exact Or.inr ⟨q.1, by omega⟩
                  · exact Or.inr ⟨bt_1.mp q13, by omega⟩, fun q => by
                  rcases q with q | q
                  · exact Or.inl (Or.inl q)
                  · by_cases e : k = g
                    · exact Or.inr e
                    · exact Or.inl (Or.inr ⟨q.1, by omega⟩)⟩)) (by omega) (fun e => absurd e (by omega)) m5
            | exact ih2 (by omega) _ h' be2 A2 m Y (by omega) c13 c17 c18 cy hf (CI_cg (CI_same (u := u) (x := x) hn.2 hC2 (fun k k1 k2 k3 => by
                  rcases k3 with k3 | k3
                  · exact hl k k1 k2 k3
                  · rw [(hs k k3.1).2.2.2]; exact hbot.1) (fun q => by
                  rcases q with q | q
                  · exact (hs g (bt_1.mp q13)).2.1 q
                  · omega) (fun w hw => Classical.not_not.mp (ff_m q22 w (Nat.zero_le w) hw)) ⟨hx.1, hx.2.1, fun k k1 k2 k3 => by
                  rcases k3 with k3 | k3
                  · exact hx.2.2 k k1 k2 k3
                  · exact hxt k k3.1⟩ (hxt g (bt_1.mp q13))) (fun k => ⟨fun q => by
                  rcases q with (q | q) | rfl
                  · exact Or.inl q
                  · exact Or.inr ⟨q.1, by omega⟩
                  · exact Or.inr ⟨bt_1.mp q13, by omega⟩, fun q => by
                  rcases q with q | q
                  · exact Or.inl (Or.inl q)
                  · by_cases e : k = g
                    · exact Or.inr e
                    · exact Or.inl (Or.inr ⟨q.1, by omega⟩)⟩)) hm (fun e => ⟨(hsame e).1, fun k hk hb w hw => by
                  by_cases e2 : k = g
                  · subst e2; rw [← (hsame e).1]; exact Classical.not_not.mp (ff_m q22 w (Nat.zero_le w) (by omega))
                  · exact (hsame e).2 k (by omega) hb w hw⟩) hred2
            | exact ih2 (by omega) _ h' be2 A2 m Y (by omega) c13 c17 c18 cy hf (CI_cg hC2 (fun k => ⟨fun q => q.imp id (fun q => ⟨q.1, by omega⟩), fun q => q.imp id (fun q => ⟨q.1, by
                  by_cases e : k = g
                  · subst e; exact absurd (bt_1.mpr q.1) q13
                  · omega⟩)⟩)) hm (fun e => ⟨(hsame e).1, fun k hk hb w hw => by
                  by_cases e2 : k = g
                  · subst e2; exact absurd (bt_1.mpr hb) q13
                  · exact (hsame e).2 k (by omega) hb w hw⟩) hred2
        · first
          | (exact absurd rfl q22)
          | skip
            obtain ⟨y, ey, _, hy, hgo⟩ := ff_c q22
            rw [ey]
            have hb1 := hs g (bt_1.mp q13)
            have hmm := kQ_m hm hwc
            have hmv := bdd_mv (g := g) (y := y) (top := tt ku) (bot := tb ku) (wv := v g) hC2.2.2.2.2 (by omega) hy (by omega) ⟨by omega, by omega⟩ ⟨by omega, by omega⟩ hvg
            have hsc : tb ku * st_sh 4 g (Y y) ≠ 0 := fun e => by
              rcases Int.mul_eq_zero.mp e with q | q
              · omega
              · exact hgo q
            have hnx : ¬ fxg fx s g g := fun q => by
              rcases q with q | q
              · exact hb1.2.1 q
              · omega
            refine s_aload_n rfl (cn rfl) rfl ?_
            refine s_iload_n rfl (cn rfl) rfl ?_
            refine s_iload_n rfl (cn rfl) rfl ?_
            refine s_aload_n rfl (cn rfl) rfl ?_
            refine s_getfield rfl (cn rfl) c1 rfl ?_
            refine s_iload_n rfl (cn rfl) rfl ?_
            refine s_iaload rfl (cn rfl) _ rfl c2 rfl (by omega) (by decide) rfl ?_
            refine s_virt rfl (cn rfl) rfl rfl c13 rfl (v_move_13 (W := Y) (y := y) (g := g) hku (by omega) (by omega) ⟨by omega, by omega⟩ c13 c20 cy c14 c15 c17 c18 hC2.1.1 hsc ⟨by have := hmv.1; omega, by have := hmv.1; omega⟩ (by rw [Int.mul_assoc]; exact kB_b5 (sg_b sgn_or hmv.2.1)) (fun p hp => kA_b5 (sg_b sgn_or (hmv.2.2 p hp)))) ?_
            rintro _ _ ⟨rfl, h6, be6, dv6, A6, rfl, hf6, d17, d18, m1, m2, m3, m4, m5⟩
            have e13 := (hf6 13 (by decide)).trans c13
            have e20 := (hf6 20 (by decide)).trans c20
            have ey6 : ∀ w, w < 3 → h6 (21 + w) = some (.inl (1, 4, .inr (.inl (fun k => jj (Y w k))))) := fun k hk => (hf6 (21 + k) (by simp; omega)).trans (cy k hk)
            refine s_aload_n rfl (cn rfl) rfl ?_
            refine s_iload_n rfl (cn rfl) rfl ?_
            refine s_iload_n rfl (cn rfl) rfl ?_
            refine s_virt rfl (cn rfl) rfl rfl e13 rfl (v_drop_13 (W := Y) (show m ≤ 3 by omega) e13 e20 ey6 hy (show g < 16 by omega)) ?_
            rintro _ _ ⟨rfl, h7, W7, rfl, hf7, k13, k7, k8⟩
            have hCm := CI_move (be' := be6) (dv := dv6) (sg := (if tb ku * st_sh 4 g (Y y) < 0 then (-1 : Int) else 1)) (A' := A6) (W' := W7) hn.2 ⟨hb1.1.1, hb1.1.2⟩ (by omega) hC2 (by omega) hy hnx hgo hvg (by rw [hb1.2.2.2]; exact ⟨by omega, by omega⟩) (by rw [hb1.2.2.1]; exact ⟨by omega, by omega⟩) sgn_or m1 m2 (by rw [m3, hb1.2.2.2]) (fun p hp => by rw [m4 p hp, hb1.2.2.2, hb1.2.2.1]) k8
            refine s_iinc rfl (cn rfl) rfl ?_
            refine s_goto rfl (ch rfl) ?_
            first
              | exact ih2 (by omega) _ h7 be6 A6 (m - 1) W7 (by omega) k13 ((hf7 17 (by simp)).trans d17) ((hf7 18 (by simp)).trans d18) k7 (fr_t (fr_t hf (fr_w (l := [13, 17, 18, 21 + 0, 21 + 1, 21 + 2]) hf6 (by simp)) (by simp)) hf7 (by simp)) (CI_cg hCm (fun k => ⟨fun q => by
                    rcases q with (q | q) | rfl
                    · exact Or.inl q
                    · exact Or.inr ⟨q.1, by omega⟩
                    · exact Or.inr ⟨bt_1.mp q13, by omega⟩, fun q => by
                    rcases q with q | q
                    · exact Or.inl (Or.inl q)
                    · by_cases e : k = g
                      · exact Or.inr e
                      · exact Or.inl (Or.inr ⟨q.1, by omega⟩)⟩)) (by omega) (fun e => absurd e (by omega)) m5
              | exact ih2 (by omega) _ h' be2 A2 m Y (by omega) c13 c17 c18 cy hf (CI_cg (CI_same (u := u) (x := x) hn.2 hC2 (fun k k1 k2 k3 => by
                    rcases k3 with k3 | k3
                    · exact hl k k1 k2 k3
                    · rw [(hs k k3.1).2.2.2]; exact hbot.1) (fun q => by
                    rcases q with q | q
                    · exact (hs g (bt_1.mp q13)).2.1 q
                    · omega) (fun w hw => Classical.not_not.mp (ff_m q22 w (Nat.zero_le w) hw)) ⟨hx.1, hx.2.1, fun k k1 k2 k3 => by
                    rcases k3 with k3 | k3
                    · exact hx.2.2 k k1 k2 k3
                    · exact hxt k k3.1⟩ (hxt g (bt_1.mp q13))) (fun k => ⟨fun q => by
                    rcases q with (q | q) | rfl
                    · exact Or.inl q
                    · exact Or.inr ⟨q.1, by omega⟩
                    · exact Or.inr ⟨bt_1.mp q13, by omega⟩, fun q => by
                    rcases q with q | q
                    · exact Or.inl (Or.inl q)
                    · by_cases e : k = g
                      · exact Or.inr e
                      · exact Or.inl (Or.inr ⟨q.1, by omega⟩)⟩)) hm (fun e => ⟨(hsame e).1, fun k hk hb w hw => by
                    by_cases e2 : k = g
                    · subst e2; rw [← (hsame e).1]; exact Classical.not_not.mp (ff_m q22 w (Nat.zero_le w) (by omega))
                    · exact (hsame e).2 k (by omega) hb w hw⟩) hred2
              | exact ih2 (by omega) _ h' be2 A2 m Y (by omega) c13 c17 c18 cy hf (CI_cg hC2 (fun k => ⟨fun q => q.imp id (fun q => ⟨q.1, by omega⟩), fun q => q.imp id (fun q => ⟨q.1, by
                    by_cases e : k = g
                    · subst e; exact absurd (bt_1.mpr q.1) q13
                    · omega⟩)⟩)) hm (fun e => ⟨(hsame e).1, fun k hk hb w hw => by
                    by_cases e2 : k = g
                    · subst e2; exact absurd (bt_1.mpr hb) q13
                    · exact (hsame e).2 k (by omega) hb w hw⟩) hred2
      · refine s_aload_n rfl (cn rfl) rfl ?_
        refine s_iload_n rfl (cn rfl) rfl ?_
        refine s_virt rfl (cn rfl) rfl rfl c13 rfl (v_change_13 (W := Y) (show m ≤ 3 by omega) c13 c20 cy (show g < 16 by omega) (fun k hk => kG_b6 (hC2.2.2.2.2.2.2 k hk g (by omega)))) ?_
        rintro _ _ ⟨rfl, rfl⟩
        refine s_goto rfl (cn rfl) ?_
        refine s_istore_n rfl (cn rfl) ?_
        skip
        refine s_iload_n rfl (cn rfl) rfl ?_
        refine s_iconst rfl (cn rfl) ?_
        refine s_icmp_eq rfl (cn rfl) (cn rfl) (by first | decide | (have := ff_b 0 m (fun w => st_sh 4 g (Y w) ≠ 0) (-1); omega)) (by decide) (fun q22 => ?_) (fun q22 => ?_)
        · refine s_iinc rfl (cn rfl) rfl ?_
          refine s_goto rfl (ch rfl) ?_
          first
            | exact ih2 (by omega) _ h7 be6 A6 (m - 1) W7 (by omega) k13 ((hf7 17 (by simp)).trans d17) ((hf7 18 (by simp)).trans d18) k7 (fr_t (fr_t hf (fr_w (l := [13, 17, 18, 21 + 0, 21 + 1, 21 + 2]) hf6 (by simp)) (by simp)) hf7 (by simp)) (CI_cg hCm (fun k => ⟨fun q => by
                  rcases q with (q | q) | rfl
                  · exact Or.inl q
                  · exact Or.inr ⟨q.1, by omega⟩
                  · exact Or.inr ⟨bt_1.mp q13, by omega⟩, fun q => by
                  rcases q with q | q
                  · exact Or.inl (Or.inl q)
                  · by_cases e : k = g
                    · exact Or.inr e
                    · exact Or.inl (Or.inr ⟨q.1, by omega⟩)⟩)) (by omega) (fun e => absurd e (by omega)) m5
            | exact ih2 (by omega) _ h' be2 A2 m Y (by omega) c13 c17 c18 cy hf (CI_cg (CI_same (u := u) (x := x) hn.2 hC2 (fun k k1 k2 k3 => by
                  rcases k3 with k3 | k3
                  · exact hl k k1 k2 k3
                  · rw [(hs k k3.1).2.2.2]; exact hbot.1) (fun q => by
                  rcases q with q | q
                  · exact (hs g (bt_1.mp q13)).2.1 q
                  · omega) (fun w hw => Classical.not_not.mp (ff_m q22 w (Nat.zero_le w) hw)) ⟨hx.1, hx.2.1, fun k k1 k2 k3 => by
                  rcases k3 with k3 | k3
                  · exact hx.2.2 k k1 k2 k3
                  · exact hxt k k3.1⟩ (hxt g (bt_1.mp q13))) (fun k => ⟨fun q => by
                  rcases q with (q | q) | rfl
                  · exact Or.inl q
                  · exact Or.inr ⟨q.1, by omega⟩
                  · exact Or.inr ⟨bt_1.mp q13, by omega⟩, fun q => by
                  rcases q with q | q
                  · exact Or.inl (Or.inl q)
                  · by_cases e : k = g
                    · exact Or.inr e
                    · exact Or.inl (Or.inr ⟨q.1, by omega⟩)⟩)) hm (fun e => ⟨(hsame e).1, fun k hk hb w hw => by
                  by_cases e2 : k = g
                  · subst e2; rw [← (hsame e).1]; exact Classical.not_not.mp (ff_m q22 w (Nat.zero_le w) (by omega))
                  · exact (hsame e).2 k (by omega) hb w hw⟩) hred2
            | exact ih2 (by omega) _ h' be2 A2 m Y (by omega) c13 c17 c18 cy hf (CI_cg hC2 (fun k => ⟨fun q => q.imp id (fun q => ⟨q.1, by omega⟩), fun q => q.imp id (fun q => ⟨q.1, by
                  by_cases e : k = g
                  · subst e; exact absurd (bt_1.mpr q.1) q13
                  · omega⟩)⟩)) hm (fun e => ⟨(hsame e).1, fun k hk hb w hw => by
                  by_cases e2 : k = g
                  · subst e2; exact absurd (bt_1.mpr hb) q13
                  · exact (hsame e).2 k (by omega) hb w hw⟩) hred2
        · first
          | (exact absurd rfl q22)
          | skip
            obtain ⟨y, ey, _, hy, hgo⟩ := ff_c q22
            rw [ey]
            have hb1 := hs g (bt_1.mp q13)
            have hmm := kQ_m hm hwc
            have hmv := bdd_mv (g := g) (y := y) (top := tt ku) (bot := tb ku) (wv := v g) hC2.2.2.2.2 (by omega) hy (by omega) ⟨by omega, by omega⟩ ⟨by omega, by omega⟩ hvg
            have hsc : tb ku * st_sh 4 g (Y y) ≠ 0 := fun e => by
              rcases Int.mul_eq_zero.mp e with q | q
              · omega
              · exact hgo q
            have hnx : ¬ fxg fx s g g := fun q => by
              rcases q with q | q
              · exact hb1.2.1 q
              · omega
            refine s_aload_n rfl (cn rfl) rfl ?_
            refine s_iload_n rfl (cn rfl) rfl ?_
            refine s_iload_n rfl (cn rfl) rfl ?_
            refine s_aload_n rfl (cn rfl) rfl ?_
            refine s_getfield rfl (cn rfl) c1 rfl ?_
            refine s_iload_n rfl (cn rfl) rfl ?_
            refine s_iaload rfl (cn rfl) _ rfl c2 rfl (by omega) (by decide) rfl ?_
            refine s_virt rfl (cn rfl) rfl rfl c13 rfl (v_move_13 (W := Y) (y := y) (g := g) hku (by omega) (by omega) ⟨by omega, by omega⟩ c13 c20 cy c14 c15 c17 c18 hC2.1.1 hsc ⟨by have := hmv.1; omega, by have := hmv.1; omega⟩ (by rw [Int.mul_assoc]; exact kB_b5 (sg_b sgn_or hmv.2.1)) (fun p hp => kA_b5 (sg_b sgn_or (hmv.2.2 p hp)))) ?_
            rintro _ _ ⟨rfl, h6, be6, dv6, A6, rfl, hf6, d17, d18, m1, m2, m3, m4, m5⟩
            have e13 := (hf6 13 (by decide)).trans c13
            have e20 := (hf6 20 (by decide)).trans c20
            have ey6 : ∀ w, w < 3 → h6 (21 + w) = some (.inl (1, 4, .inr (.inl (fun k => jj (Y w k))))) := fun k hk => (hf6 (21 + k) (by simp; omega)).trans (cy k hk)
            refine s_aload_n rfl (cn rfl) rfl ?_
            refine s_iload_n rfl (cn rfl) rfl ?_
            refine s_iload_n rfl (cn rfl) rfl ?_
            refine s_virt rfl (cn rfl) rfl rfl e13 rfl (v_drop_13 (W := Y) (show m ≤ 3 by omega) e13 e20 ey6 hy (show g < 16 by omega)) ?_
            rintro _ _ ⟨rfl, h7, W7, rfl, hf7, k13, k7, k8⟩
            have hCm := CI_move (be' := be6) (dv := dv6) (sg := (if tb ku * st_sh 4 g (Y y) < 0 then (-1 : Int) else 1)) (A' := A6) (W' := W7) hn.2 ⟨hb1.1.1, hb1.1.2⟩ (by omega) hC2 (by omega) hy hnx hgo hvg (by rw [hb1.2.2.2]; exact ⟨by omega, by omega⟩) (by rw [hb1.2.2.1]; exact ⟨by omega, by omega⟩) sgn_or m1 m2 (by rw [m3, hb1.2.2.2]) (fun p hp => by rw [m4 p hp, hb1.2.2.2, hb1.2.2.1]) k8
            refine s_iinc rfl (cn rfl) rfl ?_
            refine s_goto rfl (ch rfl) ?_
            first
              | exact ih2 (by omega) _ h7 be6 A6 (m - 1) W7 (by omega) k13 ((hf7 17 (by simp)).trans d17) ((hf7 18 (by simp)).trans d18) k7 (fr_t (fr_t hf (fr_w (l := [13, 17, 18, 21 + 0, 21 + 1, 21 + 2]) hf6 (by simp)) (by simp)) hf7 (by simp)) (CI_cg hCm (fun k => ⟨fun q => by
                    rcases q with (q | q) | rfl
                    · exact Or.inl q
                    · exact Or.inr ⟨q.1, by omega⟩
                    · exact Or.inr ⟨bt_1.mp q13, by omega⟩, fun q => by
                    rcases q with q | q
                    · exact Or.inl (Or.inl q)
                    · by_cases e : k = g
                      · exact Or.inr e
                      · exact Or.inl (Or.inr ⟨q.1, by omega⟩)⟩)) (by omega) (fun e => absurd e (by omega)) m5
              | exact ih2 (by omega) _ h' be2 A2 m Y (by omega) c13 c17 c18 cy hf (CI_cg (CI_same (u := u) (x := x) hn.2 hC2 (fun k k1 k2 k3 => by
                    rcases k3 with k3 | k3
                    · exact hl k k1 k2 k3
                    · rw [(hs k k3.1).2.2.2]; exact hbot.1) (fun q => by
                    rcases q with q | q
                    · exact (hs g (bt_1.mp q13)).2.1 q
                    · omega) (fun w hw => Classical.not_not.mp (ff_m q22 w (Nat.zero_le w) hw)) ⟨hx.1, hx.2.1, fun k k1 k2 k3 => by
                    rcases k3 with k3 | k3
                    · exact hx.2.2 k k1 k2 k3
                    · exact hxt k k3.1⟩ (hxt g (bt_1.mp q13))) (fun k => ⟨fun q => by
                    rcases q with (q | q) | rfl
                    · exact Or.inl q
                    · exact Or.inr ⟨q.1, by omega⟩
                    · exact Or.inr ⟨bt_1.mp q13, by omega⟩, fun q => by
                    rcases q with q | q
                    · exact Or.inl (Or.inl q)
                    · by_cases e : k = g
                      · exact Or.inr e
                      · exact Or.inl (Or.inr ⟨q.1, by omega⟩)⟩)) hm (fun e => ⟨(hsame e).1, fun k hk hb w hw => by
                    by_cases e2 : k = g
                    · subst e2; rw [← (hsame e).1]; exact Classical.not_not.mp (ff_m q22 w (Nat.zero_le w) (by omega))
                    · exact (hsame e).2 k (by omega) hb w hw⟩) hred2
              | exact ih2 (by omega) _ h' be2 A2 m Y (by omega) c13 c17 c18 cy hf (CI_cg hC2 (fun k => ⟨fun q => q.imp id (fun q => ⟨q.1, by omega⟩), fun q => q.imp id (fun q => ⟨q.1, by
                    by_cases e : k = g
                    · subst e; exact absurd (bt_1.mpr q.1) q13
                    · omega⟩)⟩)) hm (fun e => ⟨(hsame e).1, fun k hk hb w hw => by
                    by_cases e2 : k = g
                    · subst e2; exact absurd (bt_1.mpr hb) q13
                    · exact (hsame e).2 k (by omega) hb w hw⟩) hred2
  exact lp2 1 (by omega) _ h be A wc W (by omega) c13 c17 c18 cw fr_r (CI_cg hC (fun k => ⟨Or.inl, fun q => q.elim id (fun q => absurd (hs k q.1).1.1 (by omega))⟩)) (Nat.le_refl wc) (fun _ => ⟨rfl, fun k hk hb => absurd (hs k hb).1.1 (by omega)⟩) hred
theorem v_tie_28 {d N S n : Nat} {v : Nat → Int} {h : Nat → Option rr_E} (hn : 2 ≤ n ∧ n ≤ 4) (c5 : h 5 = some (.inr (0, [.int (ii (n : Int)), .ref 6]))) (c6 : h 6 = some (.inl (0, 16, .inl (fun k => ii (v k))))) (hv : ∀ k, -999 ≤ v k ∧ v k ≤ 999) {op oc bt bb be x0 y0 u : Int} {ku wc s : Nat} (hku : ku < 15) (hwc : wc ≤ 3) (hs15 : s < 32768) (c28 : h 28 = some (ST28 (ku : Int) (wc : Int) op oc (s : Int) bt bb)) {W : Nat → Nat → Int} (c35 : h 35 = some WA28) (cw : ∀ w, w < 3 → h (36 + w) = some (.inl (1, 4, .inr (.inl (fun k => jj (W w k)))))) {tt tb A x : Nat → Int} (c29 : h 29 = some (.inl (1, 15, .inr (.inl (fun k => jj (tt k)))))) (c30 : h 30 = some (.inl (1, 15, .inr (.inl (fun k => jj (tb k)))))) (c32 : h 32 = some (.inr (3, [.long (jj be), .ref 33, .ref 34, .int (ii x0), .int (ii y0)]))) (c33 : h 33 = some (.inl (1, 4, .inr (.inl (fun k => jj (A k)))))) {fx : Nat → Prop} {lp lq : Nat → Int} (hC : CI n v fx lp lq be A wc W) (hs : ∀ k, s.testBit k = true → (1 ≤ k ∧ k < al n) ∧ ¬ fx k ∧ lp k = tt ku ∧ lq k = tb ku) (hl : ∀ k, 1 ≤ k → k < 2 ^ n - 1 → fx k → 0 < lq k) (hbot : 0 < tb ku ∧ tb ku ≤ kQ wc) (htop : -kT wc ≤ tt ku ∧ tt ku ≤ kT wc) (hx : st_Fe n v fx lp lq u x) (hxt : ∀ k, s.testBit k = true → lq k * (u * v k - st_sh n k x) = u * lp k) (hred : (∀ k : Int, k ∣ be → (∀ p, p < 4 → k ∣ A p) → k ∣ 1)) : rr_Calls (d + 4) j_Stages_tieFixed [.ref 28, .ref 5] (N, S, h) (fun r R => r = none ∧ ∃ (h' : Nat → Option rr_E) (be' : Int) (A' : Nat → Int) (wc' : Nat) (W' : Nat → Nat → Int), R = (N, S, h') ∧ fr [28, 32, 33, 36 + 0, 36 + 1, 36 + 2] h h' ∧ h' 28 = some (ST28 (ku : Int) (wc' : Int) op oc (s : Int) bt bb) ∧ h' 32 = some (.inr (3, [.long (jj be'), .ref 33, .ref 34, .int (ii x0), .int (ii y0)])) ∧ h' 33 = some (.inl (1, 4, .inr (.inl (fun k => jj (A' k))))) ∧ (∀ w, w < 3 → h' (36 + w) = some (.inl (1, 4, .inr (.inl (fun k => jj (W' w k)))))) ∧ CI n v (fun k => fx k ∨ s.testBit k = true) lp lq be' A' wc' W' ∧ wc' ≤ wc ∧ (wc' = wc → ∀ k, s.testBit k = true → ∀ w, w < wc → st_sh 4 k (W w) = 0) ∧ (∀ k : Int, k ∣ be' → (∀ p, p < 4 → k ∣ A' p) → k ∣ 1)) := by
  refine rr_meth (C := K_Stages_tieFixed) (hd := h_Stages_tieFixed) (mx := 4) rfl rfl (fun K hK => ?_)
  have hA := al_b hn
  refine hK _ _ _ _ ?_
  refine s_iconst rfl (cn rfl) ?_
  refine s_istore_n rfl (ch rfl) ?_
  have lp2 : ∀ g : Nat, g ≤ al n → ∀ (l3 : Option Value) (h' : Nat → Option rr_E) (be2 : Int) (A2 : Nat → Int) (m : Nat) (Y : Nat → Nat → Int) (h1 : 1 ≤ g) (c28 : h' 28 = some (ST28 (ku : Int) (m : Int) op oc (s : Int) bt bb)) (c32 : h' 32 = some (.inr (3, [.long (jj be2), .ref 33, .ref 34, .int (ii x0), .int (ii y0)]))) (c33 : h' 33 = some (.inl (1, 4, .inr (.inl (fun k => jj (A2 k)))))) (cy : ∀ w, w < 3 → h' (36 + w) = some (.inl (1, 4, .inr (.inl (fun k => jj (Y w k)))))) (hf : fr [28, 32, 33, 36 + 0, 36 + 1, 36 + 2] h h') (hC2 : CI n v (fxg fx s g) lp lq be2 A2 m Y) (hm : m ≤ wc) (hsame : m = wc → Y = W ∧ ∀ k, k < g → s.testBit k = true → ∀ w, w < wc → st_sh 4 k (W w) = 0) (hred2 : (∀ k : Int, k ∣ be2 → (∀ p, p < 4 → k ∣ A2 p) → k ∣ 1)), K 2 [some (.ref 28), some (.ref 5), some (.int (ii (g : Int))), l3] [] (N, S, h') := by
    refine dn (fun g hg ih2 => ?_)
    intro l3 h' be2 A2 m Y h1 c28 c32 c33 cy hf hC2 hm hsame hred2
    have c5 := (hf 5 (by simp)).trans c5
    have c6 := (hf 6 (by simp)).trans c6
    have c35 := (hf 35 (by simp)).trans c35
    have c29 := (hf 29 (by simp)).trans c29
    have c30 := (hf 30 (by simp)).trans c30
    have hvg := hv g
    refine hK _ _ _ _ ?_
    refine s_iload_n rfl (cn rfl) rfl ?_
    refine s_aload_n rfl (cn rfl) rfl ?_
    refine s_virt rfl (cn rfl) rfl rfl c5 rfl (u_all_5 hn c5) ?_
    rintro _ _ ⟨rfl, rfl⟩
    refine s_icmp_ge rfl (cn rfl) (cn rfl) ⟨by omega, by omega⟩ ⟨by omega, by omega⟩ (fun q5 => ?_) (fun q5 => ?_)
    · refine s_return rfl ?_
      exact ⟨rfl, h', be2, A2, m, Y, rfl, hf, c28, c32, c33, cy, CI_cg hC2 (fun k => ⟨fun q => q.imp id (fun q => q.1), fun q => q.imp id (fun q => ⟨q, by have := (hs k q).1.2; omega⟩)⟩), hm, fun e k hb w hw => (hsame e).2 k (by have := (hs k hb).1.2; omega) hb w hw, hred2⟩
    · refine s_aload_n rfl (cn rfl) rfl ?_
      refine s_getfield rfl (cn rfl) c28 rfl ?_
      refine s_iload_n rfl (cn rfl) rfl ?_
      refine s_ishr rfl (cn rfl) ?_
      refine s_iconst rfl (cn rfl) ?_
      refine s_iand rfl (cn rfl) _ (bi_bit (by omega) (by omega)) ?_
      refine s_iconst rfl (cn rfl) ?_
      refine s_icmp_ne rfl (cn rfl) (cn rfl) (bt_b3 _ _) (by decide) (fun q13 => ?_) (fun q13 => ?_)
      · refine s_iconst rfl (cn rfl) ?_
        refine s_istore_n rfl (cn rfl) ?_
        skip
        refine s_iload_n rfl (cn rfl) rfl ?_
        refine s_iconst rfl (cn rfl) ?_
        refine s_icmp_eq rfl (cn rfl) (cn rfl) (by first | decide | (have := ff_b 0 m (fun w => st_sh 4 g (Y w) ≠ 0) (-1); omega)) (by decide) (fun q22 => ?_) (fun q22 => ?_)
        · refine s_iinc rfl (cn rfl) rfl ?_
          refine s_goto rfl (ch rfl) ?_
          first
            | exact ih2 (by omega) _ h7 be6 A6 (m - 1) W7 (by omega) k28 ((hf7 32 (by simp)).trans d32) ((hf7 33 (by simp)).trans d33) k7 (fr_t (fr_t hf (fr_w (l := [28, 32, 33, 36 + 0, 36 + 1, 36 + 2]) hf6 (by simp)) (by simp)) hf7 (by simp)) (CI_cg hCm (fun k => ⟨fun q => by
                  rcases q with (q | q) | rfl
                  · exact Or.inl q
                  · exact Or.inr ⟨q.1, by omega⟩
                  · exact Or.inr ⟨bt_1.mp q13, by omega⟩, fun q => by
                  rcases q with q | q
                  · exact Or.inl (Or.inl q)
                  · by_cases e : k = g
                    · exact Or.inr e
                    · exact Or.inl (Or.inr ⟨q.1, by omega⟩)⟩)) (by omega) (fun e => absurd e (by omega)) m5
            | exact ih2 (by omega) _ h' be2 A2 m Y (by omega) c28 c32 c33 cy hf (CI_cg (CI_same (u := u) (x := x) hn.2 hC2 (fun k k1 k2 k3 => by
                  rcases k3 with k3 | k3
                  · exact hl k k1 k2 k3
                  · rw [(hs k k3.1).2.2.2]; exact hbot.1) (fun q => by
                  rcases q with q | q
                  · exact (hs g (bt_1.mp q13)).2.1 q
                  · omega) (fun w hw => Classical.not_not.mp (ff_m q22 w (Nat.zero_le w) hw)) ⟨hx.1, hx.2.1, fun k k1 k2 k3 => by
                  rcases k3 with k3 | k3
                  · exact hx.2.2 k k1 k2 k3
                  · exact hxt k k3.1⟩ (hxt g (bt_1.mp q13))) (fun k => ⟨fun q => by
                  rcases q with (q | q) | rfl
                  · exact Or.inl q
                  · exact Or.inr ⟨q.1, by omega⟩
                  · exact Or.inr ⟨bt_1.mp q13, by omega⟩, fun q => by
                  rcases q with q | q
                  · exact Or.inl (Or.inl q)
                  · by_cases e : k = g
                    · exact Or.inr e
                    · exact Or.inl (Or.inr ⟨q.1, by omega⟩)⟩)) hm (fun e => ⟨(hsame e).1, fun k hk hb w hw => by
                  by_cases e2 : k = g
                  · subst e2; rw [← (hsame e).1]; exact Classical.not_not.mp (ff_m q22 w (Nat.zero_le w) (by omega))
                  · exact (hsame e).2 k (by omega) hb w hw⟩) hred2
            | exact ih2 (by omega) _ h' be2 A2 m Y (by omega) c28 c32 c33 cy hf (CI_cg hC2 (fun k => ⟨fun q => q.imp id (fun q => ⟨q.1, by omega⟩), fun q => q.imp id (fun q => ⟨q.1, by
                  by_cases e : k = g
                  · subst e; exact absurd (bt_1.mpr q.1) q13
                  · omega⟩)⟩)) hm (fun e => ⟨(hsame e).1, fun k hk hb w hw => by
                  by_cases e2 : k = g
                  · subst e2; exact absurd (bt_1.mpr hb) q13
                  · exact (hsame e).2 k (by omega) hb w hw⟩) hred2
        · first
          | (exact absurd rfl q22)
          | skip
            obtain ⟨y, ey, _, hy, hgo⟩ := ff_c q22
            rw [ey]
            have hb1 := hs g (bt_1.mp q13)
            have hmm := kQ_m hm hwc
            have hmv := bdd_mv (g := g) (y := y) (top := tt ku) (bot := tb ku) (wv := v g) hC2.2.2.2.2 (by omega) hy (by omega) ⟨by omega, by omega⟩ ⟨by omega, by omega⟩ hvg
            have hsc : tb ku * st_sh 4 g (Y y) ≠ 0 := fun e => by
              rcases Int.mul_eq_zero.mp e with q | q
              · omega
              · exact hgo q
            have hnx : ¬ fxg fx s g g := fun q => by
              rcases q with q | q
              · exact hb1.2.1 q
              · omega
            refine s_aload_n rfl (cn rfl) rfl ?_
            refine s_iload_n rfl (cn rfl) rfl ?_
            refine s_iload_n rfl (cn rfl) rfl ?_
            refine s_aload_n rfl (cn rfl) rfl ?_
            refine s_getfield rfl (cn rfl) c5 rfl ?_
            refine s_iload_n rfl (cn rfl) rfl ?_
            refine s_iaload rfl (cn rfl) _ rfl c6 rfl (by omega) (by decide) rfl ?_
            refine s_virt rfl (cn rfl) rfl rfl c28 rfl (v_move_28 (W := Y) (y := y) (g := g) hku (by omega) (by omega) ⟨by omega, by omega⟩ c28 c35 cy c29 c30 c32 c33 hC2.1.1 hsc ⟨by have := hmv.1; omega, by have := hmv.1; omega⟩ (by rw [Int.mul_assoc]; exact kB_b5 (sg_b sgn_or hmv.2.1)) (fun p hp => kA_b5 (sg_b sgn_or (hmv.2.2 p hp)))) ?_
            rintro _ _ ⟨rfl, h6, be6, dv6, A6, rfl, hf6, d32, d33, m1, m2, m3, m4, m5⟩
            have e28 := (hf6 28 (by decide)).trans c28
            have e35 := (hf6 35 (by decide)).trans c35
            have ey6 : ∀ w, w < 3 → h6 (36 + w) = some (.inl (1, 4, .inr (.inl (fun k => jj (Y w k))))) := fun k hk => (hf6 (36 + k) (by simp; omega)).trans (cy k hk)
            refine s_aload_n rfl (cn rfl) rfl ?_
            refine s_iload_n rfl (cn rfl) rfl ?_
            refine s_iload_n rfl (cn rfl) rfl ?_
            refine s_virt rfl (cn rfl) rfl rfl e28 rfl (v_drop_28 (W := Y) (show m ≤ 3 by omega) e28 e35 ey6 hy (show g < 16 by omega)) ?_
            rintro _ _ ⟨rfl, h7, W7, rfl, hf7, k28, k7, k8⟩
            have hCm := CI_move (be' := be6) (dv := dv6) (sg := (if tb ku * st_sh 4 g (Y y) < 0 then (-1 : Int) else 1)) (A' := A6) (W' := W7) hn.2 ⟨hb1.1.1, hb1.1.2⟩ (by omega) hC2 (by omega) hy hnx hgo hvg (by rw [hb1.2.2.2]; exact ⟨by omega, by omega⟩) (by rw [hb1.2.2.1]; exact ⟨by omega, by omega⟩) sgn_or m1 m2 (by rw [m3, hb1.2.2.2]) (fun p hp => by rw [m4 p hp, hb1.2.2.2, hb1.2.2.1]) k8
            refine s_iinc rfl (cn rfl) rfl ?_
            refine s_goto rfl (ch rfl) ?_
            first
              | exact ih2 (by omega) _ h7 be6 A6 (m - 1) W7 (by omega) k28 ((hf7 32 (by simp)).trans d32) ((hf7 33 (by simp)).trans d33) k7 (fr_t (fr_t hf (fr_w (l := [28, 32, 33, 36 + 0, 36 + 1, 36 + 2]) hf6 (by simp)) (by simp)) hf7 (by simp)) (CI_cg hCm (fun k => ⟨fun q => by
                    rcases q with (q | q) | rfl
                    · exact Or.inl q
                    · exact Or.inr ⟨q.1, by omega⟩
                    · exact Or.inr ⟨bt_1.mp q13, by omega⟩, fun q => by
                    rcases q with q | q
                    · exact Or.inl (Or.inl q)
                    · by_cases e : k = g
                      · exact Or.inr e
                      · exact Or.inl (Or.inr ⟨q.1, by omega⟩)⟩)) (by omega) (fun e => absurd e (by omega)) m5
              | exact ih2 (by omega) _ h' be2 A2 m Y (by omega) c28 c32 c33 cy hf (CI_cg (CI_same (u := u) (x := x) hn.2 hC2 (fun k k1 k2 k3 => by
                    rcases k3 with k3 | k3
                    · exact hl k k1 k2 k3
                    · rw [(hs k k3.1).2.2.2]; exact hbot.1) (fun q => by
                    rcases q with q | q
                    · exact (hs g (bt_1.mp q13)).2.1 q
                    · omega) (fun w hw => Classical.not_not.mp (ff_m q22 w (Nat.zero_le w) hw)) ⟨hx.1, hx.2.1, fun k k1 k2 k3 => by
                    rcases k3 with k3 | k3
                    · exact hx.2.2 k k1 k2 k3
                    · exact hxt k k3.1⟩ (hxt g (bt_1.mp q13))) (fun k => ⟨fun q => by
                    rcases q with (q | q) | rfl
                    · exact Or.inl q
                    · exact Or.inr ⟨q.1, by omega⟩
                    · exact Or.inr ⟨bt_1.mp q13, by omega⟩, fun q => by
                    rcases q with q | q
                    · exact Or.inl (Or.inl q)
                    · by_cases e : k = g
                      · exact Or.inr e
                      · exact Or.inl (Or.inr ⟨q.1, by omega⟩)⟩)) hm (fun e => ⟨(hsame e).1, fun k hk hb w hw => by
                    by_cases e2 : k = g
                    · subst e2; rw [← (hsame e).1]; exact Classical.not_not.mp (ff_m q22 w (Nat.zero_le w) (by omega))
                    · exact (hsame e).2 k (by omega) hb w hw⟩) hred2
              | exact ih2 (by omega) _ h' be2 A2 m Y (by omega) c28 c32 c33 cy hf (CI_cg hC2 (fun k => ⟨fun q => q.imp id (fun q => ⟨q.1, by omega⟩), fun q => q.imp id (fun q => ⟨q.1, by
                    by_cases e : k = g
                    · subst e; exact absurd (bt_1.mpr q.1) q13
                    · omega⟩)⟩)) hm (fun e => ⟨(hsame e).1, fun k hk hb w hw => by
                    by_cases e2 : k = g
                    · subst e2; exact absurd (bt_1.mpr hb) q13
                    · exact (hsame e).2 k (by omega) hb w hw⟩) hred2
      · refine s_aload_n rfl (cn rfl) rfl ?_
        refine s_iload_n rfl (cn rfl) rfl ?_
        refine s_virt rfl (cn rfl) rfl rfl c28 rfl (v_change_28 (W := Y) (show m ≤ 3 by omega) c28 c35 cy (show g < 16 by omega) (fun k hk => kG_b6 (hC2.2.2.2.2.2.2 k hk g (by omega)))) ?_
        rintro _ _ ⟨rfl, rfl⟩
        refine s_goto rfl (cn rfl) ?_
        refine s_istore_n rfl (cn rfl) ?_
        skip
        refine s_iload_n rfl (cn rfl) rfl ?_
        refine s_iconst rfl (cn rfl) ?_
        refine s_icmp_eq rfl (cn rfl) (cn rfl) (by first | decide | (have := ff_b 0 m (fun w => st_sh 4 g (Y w) ≠ 0) (-1); omega)) (by decide) (fun q22 => ?_) (fun q22 => ?_)
        · refine s_iinc rfl (cn rfl) rfl ?_
          refine s_goto rfl (ch rfl) ?_
          first
            | exact ih2 (by omega) _ h7 be6 A6 (m - 1) W7 (by omega) k28 ((hf7 32 (by simp)).trans d32) ((hf7 33 (by simp)).trans d33) k7 (fr_t (fr_t hf (fr_w (l := [28, 32, 33, 36 + 0, 36 + 1, 36 + 2]) hf6 (by simp)) (by simp)) hf7 (by simp)) (CI_cg hCm (fun k => ⟨fun q => by
                  rcases q with (q | q) | rfl
                  · exact Or.inl q
                  · exact Or.inr ⟨q.1, by omega⟩
                  · exact Or.inr ⟨bt_1.mp q13, by omega⟩, fun q => by
                  rcases q with q | q
                  · exact Or.inl (Or.inl q)
                  · by_cases e : k = g
                    · exact Or.inr e
                    · exact Or.inl (Or.inr ⟨q.1, by omega⟩)⟩)) (by omega) (fun e => absurd e (by omega)) m5
            | exact ih2 (by omega) _ h' be2 A2 m Y (by omega) c28 c32 c33 cy hf (CI_cg (CI_same (u := u) (x := x) hn.2 hC2 (fun k k1 k2 k3 => by
                  rcases k3 with k3 | k3
                  · exact hl k k1 k2 k3
                  · rw [(hs k k3.1).2.2.2]; exact hbot.1) (fun q => by
                  rcases q with q | q
                  · exact (hs g (bt_1.mp q13)).2.1 q
                  · omega) (fun w hw => Classical.not_not.mp (ff_m q22 w (Nat.zero_le w) hw)) ⟨hx.1, hx.2.1, fun k k1 k2 k3 => by
                  rcases k3 with k3 | k3
                  · exact hx.2.2 k k1 k2 k3
                  · exact hxt k k3.1⟩ (hxt g (bt_1.mp q13))) (fun k => ⟨fun q => by
                  rcases q with (q | q) | rfl
                  · exact Or.inl q
                  · exact Or.inr ⟨q.1, by omega⟩
                  · exact Or.inr ⟨bt_1.mp q13, by omega⟩, fun q => by
                  rcases q with q | q
                  · exact Or.inl (Or.inl q)
                  · by_cases e : k = g
                    · exact Or.inr e
                    · exact Or.inl (Or.inr ⟨q.1, by omega⟩)⟩)) hm (fun e => ⟨(hsame e).1, fun k hk hb w hw => by
                  by_cases e2 : k = g
                  · subst e2; rw [← (hsame e).1]; exact Classical.not_not.mp (ff_m q22 w (Nat.zero_le w) (by omega))
                  · exact (hsame e).2 k (by omega) hb w hw⟩) hred2
            | exact ih2 (by omega) _ h' be2 A2 m Y (by omega) c28 c32 c33 cy hf (CI_cg hC2 (fun k => ⟨fun q => q.imp id (fun q => ⟨q.1, by omega⟩), fun q => q.imp id (fun q => ⟨q.1, by
                  by_cases e : k = g
                  · subst e; exact absurd (bt_1.mpr q.1) q13
                  · omega⟩)⟩)) hm (fun e => ⟨(hsame e).1, fun k hk hb w hw => by
                  by_cases e2 : k = g
                  · subst e2; exact absurd (bt_1.mpr hb) q13
                  · exact (hsame e).2 k (by omega) hb w hw⟩) hred2
        · first
          | (exact absurd rfl q22)
          | skip
            obtain ⟨y, ey, _, hy, hgo⟩ := ff_c q22
            rw [ey]
            have hb1 := hs g (bt_1.mp q13)
            have hmm := kQ_m hm hwc
            have hmv := bdd_mv (g := g) (y := y) (top := tt ku) (bot := tb ku) (wv := v g) hC2.2.2.2.2 (by omega) hy (by omega) ⟨by omega, by omega⟩ ⟨by omega, by omega⟩ hvg
            have hsc : tb ku * st_sh 4 g (Y y) ≠ 0 := fun e => by
              rcases Int.mul_eq_zero.mp e with q | q
              · omega
              · exact hgo q
            have hnx : ¬ fxg fx s g g := fun q => by
              rcases q with q | q
              · exact hb1.2.1 q
              · omega
            refine s_aload_n rfl (cn rfl) rfl ?_
            refine s_iload_n rfl (cn rfl) rfl ?_
            refine s_iload_n rfl (cn rfl) rfl ?_
            refine s_aload_n rfl (cn rfl) rfl ?_
            refine s_getfield rfl (cn rfl) c5 rfl ?_
            refine s_iload_n rfl (cn rfl) rfl ?_
            refine s_iaload rfl (cn rfl) _ rfl c6 rfl (by omega) (by decide) rfl ?_
            refine s_virt rfl (cn rfl) rfl rfl c28 rfl (v_move_28 (W := Y) (y := y) (g := g) hku (by omega) (by omega) ⟨by omega, by omega⟩ c28 c35 cy c29 c30 c32 c33 hC2.1.1 hsc ⟨by have := hmv.1; omega, by have := hmv.1; omega⟩ (by rw [Int.mul_assoc]; exact kB_b5 (sg_b sgn_or hmv.2.1)) (fun p hp => kA_b5 (sg_b sgn_or (hmv.2.2 p hp)))) ?_
            rintro _ _ ⟨rfl, h6, be6, dv6, A6, rfl, hf6, d32, d33, m1, m2, m3, m4, m5⟩
            have e28 := (hf6 28 (by decide)).trans c28
            have e35 := (hf6 35 (by decide)).trans c35
            have ey6 : ∀ w, w < 3 → h6 (36 + w) = some (.inl (1, 4, .inr (.inl (fun k => jj (Y w k))))) := fun k hk => (hf6 (36 + k) (by simp; omega)).trans (cy k hk)
            refine s_aload_n rfl (cn rfl) rfl ?_
            refine s_iload_n rfl (cn rfl) rfl ?_
            refine s_iload_n rfl (cn rfl) rfl ?_
            refine s_virt rfl (cn rfl) rfl rfl e28 rfl (v_drop_28 (W := Y) (show m ≤ 3 by omega) e28 e35 ey6 hy (show g < 16 by omega)) ?_
            rintro _ _ ⟨rfl, h7, W7, rfl, hf7, k28, k7, k8⟩
            have hCm := CI_move (be' := be6) (dv := dv6) (sg := (if tb ku * st_sh 4 g (Y y) < 0 then (-1 : Int) else 1)) (A' := A6) (W' := W7) hn.2 ⟨hb1.1.1, hb1.1.2⟩ (by omega) hC2 (by omega) hy hnx hgo hvg (by rw [hb1.2.2.2]; exact ⟨by omega, by omega⟩) (by rw [hb1.2.2.1]; exact ⟨by omega, by omega⟩) sgn_or m1 m2 (by rw [m3, hb1.2.2.2]) (fun p hp => by rw [m4 p hp, hb1.2.2.2, hb1.2.2.1]) k8
            refine s_iinc rfl (cn rfl) rfl ?_
            refine s_goto rfl (ch rfl) ?_
            first
              | exact ih2 (by omega) _ h7 be6 A6 (m - 1) W7 (by omega) k28 ((hf7 32 (by simp)).trans d32) ((hf7 33 (by simp)).trans d33) k7 (fr_t (fr_t hf (fr_w (l := [28, 32, 33, 36 + 0, 36 + 1, 36 + 2]) hf6 (by simp)) (by simp)) hf7 (by simp)) (CI_cg hCm (fun k => ⟨fun q => by
                    rcases q with (q | q) | rfl
                    · exact Or.inl q
                    · exact Or.inr ⟨q.1, by omega⟩
                    · exact Or.inr ⟨bt_1.mp q13, by omega⟩, fun q => by
                    rcases q with q | q
                    · exact Or.inl (Or.inl q)
                    · by_cases e : k = g
                      · exact Or.inr e
                      · exact Or.inl (Or.inr ⟨q.1, by omega⟩)⟩)) (by omega) (fun e => absurd e (by omega)) m5
              | exact ih2 (by omega) _ h' be2 A2 m Y (by omega) c28 c32 c33 cy hf (CI_cg (CI_same (u := u) (x := x) hn.2 hC2 (fun k k1 k2 k3 => by
                    rcases k3 with k3 | k3
                    · exact hl k k1 k2 k3
                    · rw [(hs k k3.1).2.2.2]; exact hbot.1) (fun q => by
                    rcases q with q | q
                    · exact (hs g (bt_1.mp q13)).2.1 q
                    · omega) (fun w hw => Classical.not_not.mp (ff_m q22 w (Nat.zero_le w) hw)) ⟨hx.1, hx.2.1, fun k k1 k2 k3 => by
                    rcases k3 with k3 | k3
                    · exact hx.2.2 k k1 k2 k3
                    · exact hxt k k3.1⟩ (hxt g (bt_1.mp q13))) (fun k => ⟨fun q => by
                    rcases q with (q | q) | rfl
                    · exact Or.inl q
                    · exact Or.inr ⟨q.1, by omega⟩
                    · exact Or.inr ⟨bt_1.mp q13, by omega⟩, fun q => by
                    rcases q with q | q
                    · exact Or.inl (Or.inl q)
                    · by_cases e : k = g
                      · exact Or.inr e
                      · exact Or.inl (Or.inr ⟨q.1, by omega⟩)⟩)) hm (fun e => ⟨(hsame e).1, fun k hk hb w hw => by
                    by_cases e2 : k = g
                    · subst e2; rw [← (hsame e).1]; exact Classical.not_not.mp (ff_m q22 w (Nat.zero_le w) (by omega))
                    · exact (hsame e).2 k (by omega) hb w hw⟩) hred2
              | exact ih2 (by omega) _ h' be2 A2 m Y (by omega) c28 c32 c33 cy hf (CI_cg hC2 (fun k => ⟨fun q => q.imp id (fun q => ⟨q.1, by omega⟩), fun q => q.imp id (fun q => ⟨q.1, by
                    by_cases e : k = g
                    · subst e; exact absurd (bt_1.mpr q.1) q13
                    · omega⟩)⟩)) hm (fun e => ⟨(hsame e).1, fun k hk hb w hw => by
                    by_cases e2 : k = g
                    · subst e2; exact absurd (bt_1.mpr hb) q13
                    · exact (hsame e).2 k (by omega) hb w hw⟩) hred2
  exact lp2 1 (by omega) _ h be A wc W (by omega) c28 c32 c33 cw fr_r (CI_cg hC (fun k => ⟨Or.inl, fun q => q.elim id (fun q => absurd (hs k q.1).1.1 (by omega))⟩)) (Nat.le_refl wc) (fun _ => ⟨rfl, fun k hk hb => absurd (hs k hb).1.1 (by omega)⟩) hred
