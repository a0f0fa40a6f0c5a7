/-! Told shares: the calls. -/
theorem hld_cg {m : Nat} {E E' F F' : Nat → Int} {be be' : Int} (hm : 2 ≤ m) (h : ∀ k, 1 ≤ k → k < m → E k = F k) (h' : ∀ k, 1 ≤ k → k < m → E' k = F' k) : hld m E E' be be' = hld m F F' be be' := by
  have e1 : ∀ k : Nat, k < m - 1 → E (ino E m k).toNat = F (ino F m k).toNat := fun k hk => by
    have := ino_ex (E := E) hm (k := k) (by omega)
    rw [← ino_cg (E := E) (E' := F) h]
    exact h _ (by omega) (by omega)
  have e2 : ∀ k : Nat, k < m - 1 → E' (ino E' m k).toNat = F' (ino F' m k).toNat := fun k hk => by
    have := ino_ex (E := E') hm (k := k) (by omega)
    rw [← ino_cg (E := E') (E' := F') h']
    exact h' _ (by omega) (by omega)
  rcases Classical.choose_spec (isF_e 0 (fun k => E (ino E m k).toNat * be' ≠ E' (ino E' m k).toNat * be) (-1) (m - 1)) with ⟨g, g1, g2, g3, g4, _⟩ | ⟨g1, _⟩
  · have n1 : ∀ j : Nat, j < g → E (ino E m j).toNat * be' = E' (ino E' m j).toNat * be := fun j hj => Decidable.not_not.mp (g4 j (Nat.zero_le j) hj)
    have n2 : ∀ j : Nat, j < g → F (ino F m j).toNat * be' = F' (ino F' m j).toNat * be := fun j hj => by rw [← e1 j (by omega), ← e2 j (by omega)]; exact n1 j hj
    rcases Int.lt_or_gt_of_ne g3 with q | q
    · rw [hld_1 g2 n1 q, hld_1 g2 n2 (by rw [← e1 g g2, ← e2 g g2]; exact q)]
    · rw [hld_2 g2 n1 q, hld_2 g2 n2 (by rw [← e1 g g2, ← e2 g g2]; exact q)]
  · have n1 : ∀ j : Nat, j < m - 1 → E (ino E m j).toNat * be' = E' (ino E' m j).toNat * be := fun j hj => Decidable.not_not.mp (g1 j (Nat.zero_le j) hj)
    rw [hld_0 n1, hld_0 (fun j hj => by rw [← e1 j hj, ← e2 j hj]; exact n1 j hj)]
noncomputable def sp_grudgeBy (n : Nat) (v sz : Nat → Int) (it : Nat → Nat → Int) (a i g z : Int) : Int := if (1 ≤ g ∧ g < (al n : Int)) ∧ (z = 0 ∨ z = 1) ∧ rss n sz it a i = 0 then lw (tg n v it a i g.toNat) (shb it a i) z else -9223372036854775808
noncomputable def sp_shares (n : Nat) (v sz : Nat → Int) (it : Nat → Nat → Int) (a i : Int) : Int := if rss n sz it a i = 0 then (if tg n v it a i (al n) = 0 then @ite _ (∃ g, 1 ≤ g ∧ g < al n ∧ 0 < tg n v it a i g) (Classical.propDecidable _) 1 2 else 0) else rss n sz it a i
noncomputable def sp_orderedBy (n : Nat) (v sz : Nat → Int) (it : Nat → Nat → Int) (a i k : Int) : Int := if rss n sz it a i = 0 then ino (tg n v it a i) (al n) k else rss n sz it a i
noncomputable def sp_better (n : Nat) (v sz : Nat → Int) (it : Nat → Nat → Int) (a i a' i' : Int) : Int := if rss n sz it a i = 0 then (if rss n sz it a' i' = 0 then hld (al n) (tg n v it a i) (tg n v it a' i') (shb it a i) (shb it a' i') else rss n sz it a' i') else rss n sz it a i
theorem d_grudgeBy {d N S n : Nat} {v : Nat → Int} {h : Nat → Option rr_E} (hn : 2 ≤ n ∧ n ≤ 4) (c1 : h 1 = some (.inr (0, [.int (ii (n : Int)), .ref 2]))) (c2 : h 2 = some (.inl (0, 16, .inl (fun k => ii (v k))))) (hv : ∀ k, -999 ≤ v k ∧ v k ≤ 999) {sz : Nat → Int} {it : Nat → Nat → Int} (hsz : ∀ l, l < 4 → -1 ≤ sz l ∧ sz l ≤ 30) (hit : ∀ l i, b6 (it l i)) (c51 : h 51 = some (.inr (1, [.ref 52, .ref 57]))) (c52 : h 52 = some AA) (c53 : ∀ l, l < 4 → h (53 + l) = some (.inl (1, 30, .inr (.inl (fun k => jj (it l k)))))) (c57 : h 57 = some (.inl (0, 4, .inl (fun k => ii (sz k))))) {be0 x0 y0 : Int} {A0 E0 : Nat → Int} (c43 : h 43 = some (.inr (3, [.long (jj be0), .ref 44, .ref 45, .int (ii x0), .int (ii y0)]))) (c44 : h 44 = some (.inl (1, 4, .inr (.inl (fun k => jj (A0 k)))))) (c45 : h 45 = some (.inl (1, 16, .inr (.inl (fun k => jj (E0 k)))))) {sl im : Int} (c0 : h 0 = some (DO sl im)) {a i : Int} (ha : b3 a) (hi : b3 i) {g z : Int} (hg : b3 g) (hz : b3 z) : rr_Calls (d + 4) j_Desk_grudgeBy [.ref 0, .int (ii a), .int (ii i), .int (ii g), .int (ii z)] (N, S, h) (fun r R => r = some (.long (jj (sp_grudgeBy n v sz it a i g z))) ∧ ∃ h', R = (N, S, h') ∧ fr [43, 44, 45] h h' ∧ (∃ (be x y : Int) (A E : Nat → Int), h' 43 = some (.inr (3, [.long (jj be), .ref 44, .ref 45, .int (ii x), .int (ii y)])) ∧ h' 44 = some (.inl (1, 4, .inr (.inl (fun k => jj (A k))))) ∧ h' 45 = some (.inl (1, 16, .inr (.inl (fun k => jj (E k))))))) := by
  refine rr_meth (C := K_Desk_grudgeBy) (hd := h_Desk_grudgeBy) (mx := 5) rfl rfl (fun K hK => ?_)
  have hA := al_b hn
  refine hK _ _ _ _ ?_
  refine s_aload_n rfl (cn rfl) rfl ?_
  refine s_getfield rfl (cn rfl) c0 rfl ?_
  refine s_iload_n rfl (cn rfl) rfl ?_
  refine s_virt rfl (cn rfl) rfl rfl c1 rfl (u_hasPart hn c1 (by omega)) ?_
  rintro _ _ ⟨rfl, rfl⟩
  refine s_ifb_eq rfl (cn rfl) (cn rfl) (fun q4 => ?_) (fun q4 => ?_)
  · refine s_ldc2_w rfl (cn rfl) ?_
    refine s_lreturn rfl ?_
    first
      | exact ⟨rl (if_neg (fun q => q4 q.1)).symm, h, rfl, fr_r, ⟨_, _, _, _, _, c43, c44, c45⟩⟩
      | exact ⟨rl (if_neg (fun q => q7 q.2.1)).symm, h, rfl, fr_r, ⟨_, _, _, _, _, c43, c44, c45⟩⟩
      | exact ⟨rl (if_neg (fun q => q17 q.2.2)).symm, h1', rfl, hf1, ⟨_, _, _, _, _, d43, d44, d45⟩⟩
  · refine s_iload rfl (cn rfl) rfl ?_
    refine s_stat rfl (cn rfl) rfl rfl rfl (u_fpart (by omega)) ?_
    rintro _ _ ⟨rfl, rfl⟩
    refine s_ifb_eq rfl (cn rfl) (cn rfl) (fun q7 => ?_) (fun q7 => ?_)
    · refine s_ldc2_w rfl (cn rfl) ?_
      refine s_lreturn rfl ?_
      first
        | exact ⟨rl (if_neg (fun q => q4 q.1)).symm, h, rfl, fr_r, ⟨_, _, _, _, _, c43, c44, c45⟩⟩
        | exact ⟨rl (if_neg (fun q => q7 q.2.1)).symm, h, rfl, fr_r, ⟨_, _, _, _, _, c43, c44, c45⟩⟩
        | exact ⟨rl (if_neg (fun q => q17 q.2.2)).symm, h1', rfl, hf1, ⟨_, _, _, _, _, d43, d44, d45⟩⟩
    · refine s_aload_n rfl (cn rfl) rfl ?_
      refine s_getfield rfl (cn rfl) c0 rfl ?_
      refine s_iload_n rfl (cn rfl) rfl ?_
      refine s_iload_n rfl (cn rfl) rfl ?_
      refine s_aload_n rfl (cn rfl) rfl ?_
      refine s_getfield rfl (cn rfl) c0 rfl ?_
      refine s_aload_n rfl (cn rfl) rfl ?_
      refine s_getfield rfl (cn rfl) c0 rfl ?_
      refine s_virt rfl (cn rfl) rfl rfl c51 rfl (u_readS_43 hn c1 c2 hv hsz hit c51 c52 c53 c57 c43 c44 c45 ha hi) ?_
      rintro _ _ ⟨rfl, h1', rfl, hf1, be1, x1, y1, A1, E1, d43, d44, d45, hw1⟩
      have hr1 := rss_r n sz it a i
      have c0 := (hf1 0 (by decide)).trans c0
      have c1 := (hf1 1 (by decide)).trans c1
      have c2 := (hf1 2 (by decide)).trans c2
      have c43 := d43
      have c44 := d44
      have c45 := d45
      refine s_if_eq rfl (cn rfl) (cn rfl) ⟨by omega, by omega⟩ (fun q17 => ?_) (fun q17 => ?_)
      · obtain ⟨b, rfl⟩ := Int.eq_ofNat_of_zero_le (show 0 ≤ g by omega)
        obtain ⟨z01, ok1⟩ := rss_z q17
        obtain ⟨rfl, rfl, rfl, hA1, hE1⟩ := hw1 q17
        have hb1 := ok1.1
        have tb1 := tg_b hn hv ok1
        refine s_aload_n rfl (cn rfl) rfl ?_
        refine s_getfield rfl (cn rfl) c0 rfl ?_
        refine s_iload_n rfl (cn rfl) rfl ?_
        refine s_iload rfl (cn rfl) rfl ?_
        refine s_virt rfl (cn rfl) rfl rfl c43 rfl (u_grudgeOf_43 hn c43 c44 c45 (by omega) (by omega) ⟨by rw [hE1 _ (by omega) (by omega)]; have := tb1 b; omega, by rw [hE1 _ (by omega) (by omega)]; have := tb1 b; omega⟩ (by omega) (by omega) (by omega)) ?_
        rintro _ _ ⟨rfl, rfl⟩
        refine s_lreturn rfl ?_
        exact ⟨rl (by unfold sp_grudgeBy; rw [if_pos ⟨q4, q7, q17⟩, hE1 _ (by omega) (by omega)]; rfl), h1', rfl, hf1, ⟨_, _, _, _, _, d43, d44, d45⟩⟩
      · refine s_ldc2_w rfl (cn rfl) ?_
        refine s_lreturn rfl ?_
        first
          | exact ⟨rl (if_neg (fun q => q4 q.1)).symm, h, rfl, fr_r, ⟨_, _, _, _, _, c43, c44, c45⟩⟩
          | exact ⟨rl (if_neg (fun q => q7 q.2.1)).symm, h, rfl, fr_r, ⟨_, _, _, _, _, c43, c44, c45⟩⟩
          | exact ⟨rl (if_neg (fun q => q17 q.2.2)).symm, h1', rfl, hf1, ⟨_, _, _, _, _, d43, d44, d45⟩⟩
theorem d_shares {d N S n : Nat} {v : Nat → Int} {h : Nat → Option rr_E} (hn : 2 ≤ n ∧ n ≤ 4) (c1 : h 1 = some (.inr (0, [.int (ii (n : Int)), .ref 2]))) (c2 : h 2 = some (.inl (0, 16, .inl (fun k => ii (v k))))) (hv : ∀ k, -999 ≤ v k ∧ v k ≤ 999) {sz : Nat → Int} {it : Nat → Nat → Int} (hsz : ∀ l, l < 4 → -1 ≤ sz l ∧ sz l ≤ 30) (hit : ∀ l i, b6 (it l i)) (c51 : h 51 = some (.inr (1, [.ref 52, .ref 57]))) (c52 : h 52 = some AA) (c53 : ∀ l, l < 4 → h (53 + l) = some (.inl (1, 30, .inr (.inl (fun k => jj (it l k)))))) (c57 : h 57 = some (.inl (0, 4, .inl (fun k => ii (sz k))))) {be0 x0 y0 : Int} {A0 E0 : Nat → Int} (c43 : h 43 = some (.inr (3, [.long (jj be0), .ref 44, .ref 45, .int (ii x0), .int (ii y0)]))) (c44 : h 44 = some (.inl (1, 4, .inr (.inl (fun k => jj (A0 k)))))) (c45 : h 45 = some (.inl (1, 16, .inr (.inl (fun k => jj (E0 k)))))) {sl im : Int} (c0 : h 0 = some (DO sl im)) {a i : Int} (ha : b3 a) (hi : b3 i) : rr_Calls (d + 4) j_Desk_shares [.ref 0, .int (ii a), .int (ii i)] (N, S, h) (fun r R => r = some (.int (ii (sp_shares n v sz it a i))) ∧ ∃ h', R = (N, S, h') ∧ fr [43, 44, 45] h h' ∧ (∃ (be x y : Int) (A E : Nat → Int), h' 43 = some (.inr (3, [.long (jj be), .ref 44, .ref 45, .int (ii x), .int (ii y)])) ∧ h' 44 = some (.inl (1, 4, .inr (.inl (fun k => jj (A k))))) ∧ h' 45 = some (.inl (1, 16, .inr (.inl (fun k => jj (E k))))))) := by
  refine rr_meth (C := K_Desk_shares) (hd := h_Desk_shares) (mx := 4) rfl rfl (fun K hK => ?_)
  have hA := al_b hn
  refine hK _ _ _ _ ?_
  refine s_aload_n rfl (cn rfl) rfl ?_
  refine s_getfield rfl (cn rfl) c0 rfl ?_
  refine s_iload_n rfl (cn rfl) rfl ?_
  refine s_iload_n rfl (cn rfl) rfl ?_
  refine s_aload_n rfl (cn rfl) rfl ?_
  refine s_getfield rfl (cn rfl) c0 rfl ?_
  refine s_aload_n rfl (cn rfl) rfl ?_
  refine s_getfield rfl (cn rfl) c0 rfl ?_
  refine s_virt rfl (cn rfl) rfl rfl c51 rfl (u_readS_43 hn c1 c2 hv hsz hit c51 c52 c53 c57 c43 c44 c45 ha hi) ?_
  rintro _ _ ⟨rfl, h1', rfl, hf1, be1, x1, y1, A1, E1, d43, d44, d45, hw1⟩
  have hr1 := rss_r n sz it a i
  have c0 := (hf1 0 (by decide)).trans c0
  have c1 := (hf1 1 (by decide)).trans c1
  have c2 := (hf1 2 (by decide)).trans c2
  have c43 := d43
  have c44 := d44
  have c45 := d45
  refine s_istore_n rfl (cn rfl) ?_
  refine s_iload_n rfl (cn rfl) rfl ?_
  refine s_if_eq rfl (cn rfl) (cn rfl) ⟨by omega, by omega⟩ (fun q11 => ?_) (fun q11 => ?_)
  · obtain ⟨z01, ok1⟩ := rss_z q11
    obtain ⟨rfl, rfl, rfl, hA1, hE1⟩ := hw1 q11
    have hb1 := ok1.1
    have tb1 := tg_b hn hv ok1
    have eA : st_sh 4 (al n) A1 = st_sh n (al n) (sha n it a i) := by rw [sh_cg hA1, sh4 hn]
    have ta := tb1 (al n)
    have te : tg n v it a i (al n) = v (al n) * shb it a i - st_sh n (al n) (sha n it a i) := rfl
    have m2 := ab_mul (x := v (al n)) (y := shb it a i) (a := 999) (b := 1000) (hv _) (by omega) (by decide) (by decide)
    refine s_aload_n rfl (cn rfl) rfl ?_
    refine s_getfield rfl (cn rfl) c0 rfl ?_
    refine s_aload_n rfl (cn rfl) rfl ?_
    refine s_getfield rfl (cn rfl) c0 rfl ?_
    refine s_virt rfl (cn rfl) rfl rfl c43 rfl (u_good hn c1 c2 hv c43 c44 ⟨by omega, by omega⟩ ⟨by omega, by omega⟩) ?_
    rintro _ _ ⟨rfl, rfl⟩
    refine s_ifb_ne rfl (cn rfl) (cn rfl) (fun q19 => ?_) (fun q19 => ?_)
    · refine s_aload_n rfl (cn rfl) rfl ?_
      refine s_getfield rfl (cn rfl) c0 rfl ?_
      refine s_virt rfl (cn rfl) rfl rfl c43 rfl (u_any hn c43 c44 c45 (fun g g1 g2 => by rw [hE1 g g1 g2]; exact ⟨by have := tb1 g; omega, by have := tb1 g; omega⟩)) ?_
      rintro _ _ ⟨rfl, rfl⟩
      refine s_ifb_eq rfl (cn rfl) (cn rfl) (fun q25 => ?_) (fun q25 => ?_)
      · refine s_iconst rfl (cn rfl) ?_
        refine s_ireturn rfl ?_
        have eP : (∃ g, 1 ≤ g ∧ g < al n ∧ 0 < E1 g) ↔ (∃ g, 1 ≤ g ∧ g < al n ∧ 0 < tg n v it a i g) := ⟨fun ⟨g, g1, g2, g3⟩ => ⟨g, g1, g2, by rw [← hE1 g g1 g2]; exact g3⟩, fun ⟨g, g1, g2, g3⟩ => ⟨g, g1, g2, by rw [hE1 g g1 g2]; exact g3⟩⟩
        refine ⟨ri ?_, h1', rfl, hf1, ⟨_, _, _, _, _, d43, d44, d45⟩⟩
        unfold sp_shares
        rw [if_pos q11, if_pos (by omega)]
        first
          | (rw [if_pos (eP.mp q25)]; done)
          | (rw [if_neg (fun q => q25 (eP.mpr q))])
      · refine s_iconst rfl (cn rfl) ?_
        refine s_goto rfl (cn rfl) ?_
        refine s_ireturn rfl ?_
        have eP : (∃ g, 1 ≤ g ∧ g < al n ∧ 0 < E1 g) ↔ (∃ g, 1 ≤ g ∧ g < al n ∧ 0 < tg n v it a i g) := ⟨fun ⟨g, g1, g2, g3⟩ => ⟨g, g1, g2, by rw [← hE1 g g1 g2]; exact g3⟩, fun ⟨g, g1, g2, g3⟩ => ⟨g, g1, g2, by rw [hE1 g g1 g2]; exact g3⟩⟩
        refine ⟨ri ?_, h1', rfl, hf1, ⟨_, _, _, _, _, d43, d44, d45⟩⟩
        unfold sp_shares
        rw [if_pos q11, if_pos (by omega)]
        first
          | (rw [if_pos (eP.mp q25)]; done)
          | (rw [if_neg (fun q => q25 (eP.mpr q))])
    · refine s_iconst rfl (cn rfl) ?_
      refine s_ireturn rfl ?_
      exact ⟨ri (by unfold sp_shares; rw [if_pos q11, if_neg (fun q => q19 (by omega))]), h1', rfl, hf1, ⟨_, _, _, _, _, d43, d44, d45⟩⟩
  · refine s_iload_n rfl (cn rfl) rfl ?_
    refine s_ireturn rfl ?_
    exact ⟨ri (if_neg q11).symm, h1', rfl, hf1, ⟨_, _, _, _, _, d43, d44, d45⟩⟩
theorem d_orderedBy {d N S n : Nat} {v : Nat → Int} {h : Nat → Option rr_E} (hn : 2 ≤ n ∧ n ≤ 4) (c1 : h 1 = some (.inr (0, [.int (ii (n : Int)), .ref 2]))) (c2 : h 2 = some (.inl (0, 16, .inl (fun k => ii (v k))))) (hv : ∀ k, -999 ≤ v k ∧ v k ≤ 999) {sz : Nat → Int} {it : Nat → Nat → Int} (hsz : ∀ l, l < 4 → -1 ≤ sz l ∧ sz l ≤ 30) (hit : ∀ l i, b6 (it l i)) (c51 : h 51 = some (.inr (1, [.ref 52, .ref 57]))) (c52 : h 52 = some AA) (c53 : ∀ l, l < 4 → h (53 + l) = some (.inl (1, 30, .inr (.inl (fun k => jj (it l k)))))) (c57 : h 57 = some (.inl (0, 4, .inl (fun k => ii (sz k))))) {be0 x0 y0 : Int} {A0 E0 : Nat → Int} (c43 : h 43 = some (.inr (3, [.long (jj be0), .ref 44, .ref 45, .int (ii x0), .int (ii y0)]))) (c44 : h 44 = some (.inl (1, 4, .inr (.inl (fun k => jj (A0 k)))))) (c45 : h 45 = some (.inl (1, 16, .inr (.inl (fun k => jj (E0 k)))))) {sl im : Int} (c0 : h 0 = some (DO sl im)) {a i : Int} (ha : b3 a) (hi : b3 i) {k : Int} (hk : b3 k) : rr_Calls (d + 4) j_Desk_orderedBy [.ref 0, .int (ii a), .int (ii i), .int (ii k)] (N, S, h) (fun r R => r = some (.int (ii (sp_orderedBy n v sz it a i k))) ∧ ∃ h', R = (N, S, h') ∧ fr [43, 44, 45] h h' ∧ (∃ (be x y : Int) (A E : Nat → Int), h' 43 = some (.inr (3, [.long (jj be), .ref 44, .ref 45, .int (ii x), .int (ii y)])) ∧ h' 44 = some (.inl (1, 4, .inr (.inl (fun k => jj (A k))))) ∧ h' 45 = some (.inl (1, 16, .inr (.inl (fun k => jj (E k))))))) := by
  refine rr_meth (C := K_Desk_orderedBy) (hd := h_Desk_orderedBy) (mx := 5) rfl rfl (fun K hK => ?_)
  have hA := al_b hn
  refine hK _ _ _ _ ?_
  refine s_aload_n rfl (cn rfl) rfl ?_
  refine s_getfield rfl (cn rfl) c0 rfl ?_
  refine s_iload_n rfl (cn rfl) rfl ?_
  refine s_iload_n rfl (cn rfl) rfl ?_
  refine s_aload_n rfl (cn rfl) rfl ?_
  refine s_getfield rfl (cn rfl) c0 rfl ?_
  refine s_aload_n rfl (cn rfl) rfl ?_
  refine s_getfield rfl (cn rfl) c0 rfl ?_
  refine s_virt rfl (cn rfl) rfl rfl c51 rfl (u_readS_43 hn c1 c2 hv hsz hit c51 c52 c53 c57 c43 c44 c45 ha hi) ?_
  rintro _ _ ⟨rfl, h1', rfl, hf1, be1, x1, y1, A1, E1, d43, d44, d45, hw1⟩
  have hr1 := rss_r n sz it a i
  have c0 := (hf1 0 (by decide)).trans c0
  have c1 := (hf1 1 (by decide)).trans c1
  have c2 := (hf1 2 (by decide)).trans c2
  have c43 := d43
  have c44 := d44
  have c45 := d45
  refine s_istore rfl (cn rfl) ?_
  refine s_iload rfl (cn rfl) rfl ?_
  refine s_if_eq rfl (cn rfl) (cn rfl) ⟨by omega, by omega⟩ (fun q11 => ?_) (fun q11 => ?_)
  · obtain ⟨z01, ok1⟩ := rss_z q11
    obtain ⟨rfl, rfl, rfl, hA1, hE1⟩ := hw1 q11
    have hb1 := ok1.1
    have tb1 := tg_b hn hv ok1
    refine s_aload_n rfl (cn rfl) rfl ?_
    refine s_getfield rfl (cn rfl) c0 rfl ?_
    refine s_iload_n rfl (cn rfl) rfl ?_
    refine s_virt rfl (cn rfl) rfl rfl c43 rfl (u_inOrder_43 hn c43 c44 c45 (fun g g1 g2 => by rw [hE1 g g1 g2]; exact ⟨by have := tb1 g; omega, by have := tb1 g; omega⟩) hk) ?_
    rintro _ _ ⟨rfl, rfl⟩
    refine s_ireturn rfl ?_
    first
      | exact ⟨ri (if_neg q11).symm, h1', rfl, hf1, ⟨_, _, _, _, _, d43, d44, d45⟩⟩
      | exact ⟨ri (by unfold sp_orderedBy; rw [if_pos q11]; exact ino_cg hE1), h1', rfl, hf1, ⟨_, _, _, _, _, d43, d44, d45⟩⟩
  · refine s_iload rfl (cn rfl) rfl ?_
    refine s_goto rfl (cn rfl) ?_
    refine s_ireturn rfl ?_
    first
      | exact ⟨ri (if_neg q11).symm, h1', rfl, hf1, ⟨_, _, _, _, _, d43, d44, d45⟩⟩
      | exact ⟨ri (by unfold sp_orderedBy; rw [if_pos q11]; exact ino_cg hE1), h1', rfl, hf1, ⟨_, _, _, _, _, d43, d44, d45⟩⟩
theorem d_better {d N S n : Nat} {v : Nat → Int} {h : Nat → Option rr_E} (hn : 2 ≤ n ∧ n ≤ 4) (c1 : h 1 = some (.inr (0, [.int (ii (n : Int)), .ref 2]))) (c2 : h 2 = some (.inl (0, 16, .inl (fun k => ii (v k))))) (hv : ∀ k, -999 ≤ v k ∧ v k ≤ 999) {sz : Nat → Int} {it : Nat → Nat → Int} (hsz : ∀ l, l < 4 → -1 ≤ sz l ∧ sz l ≤ 30) (hit : ∀ l i, b6 (it l i)) (c51 : h 51 = some (.inr (1, [.ref 52, .ref 57]))) (c52 : h 52 = some AA) (c53 : ∀ l, l < 4 → h (53 + l) = some (.inl (1, 30, .inr (.inl (fun k => jj (it l k)))))) (c57 : h 57 = some (.inl (0, 4, .inl (fun k => ii (sz k))))) {be0 x0 y0 : Int} {A0 E0 : Nat → Int} (c43 : h 43 = some (.inr (3, [.long (jj be0), .ref 44, .ref 45, .int (ii x0), .int (ii y0)]))) (c44 : h 44 = some (.inl (1, 4, .inr (.inl (fun k => jj (A0 k)))))) (c45 : h 45 = some (.inl (1, 16, .inr (.inl (fun k => jj (E0 k)))))) {sl im : Int} (c0 : h 0 = some (DO sl im)) {be9 x9 y9 : Int} {A9 E9 : Nat → Int} (c46 : h 46 = some (.inr (3, [.long (jj be9), .ref 47, .ref 48, .int (ii x9), .int (ii y9)]))) (c47 : h 47 = some (.inl (1, 4, .inr (.inl (fun k => jj (A9 k)))))) (c48 : h 48 = some (.inl (1, 16, .inr (.inl (fun k => jj (E9 k)))))) {a i a2 i2 : Int} (ha : b3 a) (hi : b3 i) (ha2 : b3 a2) (hi2 : b3 i2) : rr_Calls (d + 4) j_Desk_better [.ref 0, .int (ii a), .int (ii i), .int (ii a2), .int (ii i2)] (N, S, h) (fun r R => r = some (.int (ii (sp_better n v sz it a i a2 i2))) ∧ ∃ h', R = (N, S, h') ∧ fr [43, 44, 45, 46, 47, 48] h h' ∧ (∃ (be x y : Int) (A E : Nat → Int), h' 43 = some (.inr (3, [.long (jj be), .ref 44, .ref 45, .int (ii x), .int (ii y)])) ∧ h' 44 = some (.inl (1, 4, .inr (.inl (fun k => jj (A k))))) ∧ h' 45 = some (.inl (1, 16, .inr (.inl (fun k => jj (E k)))))) ∧ (∃ (be x y : Int) (A E : Nat → Int), h' 46 = some (.inr (3, [.long (jj be), .ref 47, .ref 48, .int (ii x), .int (ii y)])) ∧ h' 47 = some (.inl (1, 4, .inr (.inl (fun k => jj (A k))))) ∧ h' 48 = some (.inl (1, 16, .inr (.inl (fun k => jj (E k))))))) := by
  refine rr_meth (C := K_Desk_better) (hd := h_Desk_better) (mx := 6) rfl rfl (fun K hK => ?_)
  have hA := al_b hn
  refine hK _ _ _ _ ?_
  refine s_aload_n rfl (cn rfl) rfl ?_
  refine s_getfield rfl (cn rfl) c0 rfl ?_
  refine s_iload_n rfl (cn rfl) rfl ?_
  refine s_iload_n rfl (cn rfl) rfl ?_
  refine s_aload_n rfl (cn rfl) rfl ?_
  refine s_getfield rfl (cn rfl) c0 rfl ?_
  refine s_aload_n rfl (cn rfl) rfl ?_
  refine s_getfield rfl (cn rfl) c0 rfl ?_
  refine s_virt rfl (cn rfl) rfl rfl c51 rfl (u_readS_43 hn c1 c2 hv hsz hit c51 c52 c53 c57 c43 c44 c45 ha hi) ?_
  rintro _ _ ⟨rfl, h1', rfl, hf1, be1, x1, y1, A1, E1, d43, d44, d45, hw1⟩
  have hr1 := rss_r n sz it a i
  have c0 := (hf1 0 (by decide)).trans c0
  have c1 := (hf1 1 (by decide)).trans c1
  have c2 := (hf1 2 (by decide)).trans c2
  have c51 := (hf1 51 (by decide)).trans c51
  have c52 := (hf1 52 (by decide)).trans c52
  have c57 := (hf1 57 (by decide)).trans c57
  have c46 := (hf1 46 (by decide)).trans c46
  have c47 := (hf1 47 (by decide)).trans c47
  have c48 := (hf1 48 (by decide)).trans c48
  have c43 := d43
  have c44 := d44
  have c45 := d45
  have c53 : ∀ l, l < 4 → _ := fun l hl => (hf1 (53 + l) (by simp; omega)).trans (c53 l hl)
  refine s_istore rfl (cn rfl) ?_
  refine s_iload rfl (cn rfl) rfl ?_
  refine s_if_ne rfl (cn rfl) (cn rfl) ⟨by omega, by omega⟩ (fun q11 => ?_) (fun q11 => ?_)
  · refine s_iload rfl (cn rfl) rfl ?_
    refine s_if_eq rfl (cn rfl) (cn rfl) ⟨by omega, by omega⟩ (fun q23 => ?_) (fun q23 => ?_)
    · first
      | (exfalso; exact q11 q23)
      | skip
        obtain ⟨z01, ok1⟩ := rss_z q11
        obtain ⟨rfl, rfl, rfl, hA1, hE1⟩ := hw1 q11
        have hb1 := ok1.1
        have tb1 := tg_b hn hv ok1
        obtain ⟨z02, ok2⟩ := rss_z q23
        obtain ⟨rfl, rfl, rfl, hA2, hE2⟩ := hw2 q23
        have hb2 := ok2.1
        have tb2 := tg_b hn hv ok2
        refine s_aload_n rfl (cn rfl) rfl ?_
        refine s_getfield rfl (cn rfl) c0 rfl ?_
        refine s_aload_n rfl (cn rfl) rfl ?_
        refine s_getfield rfl (cn rfl) c0 rfl ?_
        refine s_virt rfl (cn rfl) rfl rfl c43 rfl (u_held hn c43 c44 c45 c46 c47 c48 (by omega) (by omega) (fun g g1 g2 => by rw [hE1 g g1 g2]; exact tb1 g) (fun g g1 g2 => by rw [hE2 g g1 g2]; exact tb2 g)) ?_
        rintro _ _ ⟨rfl, rfl⟩
        refine s_ireturn rfl ?_
        first
          | exact ⟨ri (by unfold sp_better; rw [if_pos q11, if_pos q23]; exact hld_cg (by omega) hE1 hE2), h2', rfl, fr_t (fr_w hf1 (by decide)) hf2 (by decide), ⟨_, _, _, _, _, c43, c44, c45⟩, ⟨_, _, _, _, _, d46, d47, d48⟩⟩
          | exact ⟨ri (by unfold sp_better; rw [if_pos q11, if_neg q23]), h2', rfl, fr_t (fr_w hf1 (by decide)) hf2 (by decide), ⟨_, _, _, _, _, c43, c44, c45⟩, ⟨_, _, _, _, _, d46, d47, d48⟩⟩
          | exact ⟨ri (by unfold sp_better; rw [if_neg q11]), h1', rfl, fr_w hf1 (by decide), ⟨_, _, _, _, _, d43, d44, d45⟩, ⟨_, _, _, _, _, c46, c47, c48⟩⟩
    · refine s_iload rfl (cn rfl) rfl ?_
      refine s_goto rfl (cn rfl) ?_
      refine s_ireturn rfl ?_
      first
        | exact ⟨ri (by unfold sp_better; rw [if_pos q11, if_pos q23]; exact hld_cg (by omega) hE1 hE2), h2', rfl, fr_t (fr_w hf1 (by decide)) hf2 (by decide), ⟨_, _, _, _, _, c43, c44, c45⟩, ⟨_, _, _, _, _, d46, d47, d48⟩⟩
        | exact ⟨ri (by unfold sp_better; rw [if_pos q11, if_neg q23]), h2', rfl, fr_t (fr_w hf1 (by decide)) hf2 (by decide), ⟨_, _, _, _, _, c43, c44, c45⟩, ⟨_, _, _, _, _, d46, d47, d48⟩⟩
        | exact ⟨ri (by unfold sp_better; rw [if_neg q11]), h1', rfl, fr_w hf1 (by decide), ⟨_, _, _, _, _, d43, d44, d45⟩, ⟨_, _, _, _, _, c46, c47, c48⟩⟩
  · refine s_aload_n rfl (cn rfl) rfl ?_
    refine s_getfield rfl (cn rfl) c0 rfl ?_
    refine s_iload_n rfl (cn rfl) rfl ?_
    refine s_iload rfl (cn rfl) rfl ?_
    refine s_aload_n rfl (cn rfl) rfl ?_
    refine s_getfield rfl (cn rfl) c0 rfl ?_
    refine s_aload_n rfl (cn rfl) rfl ?_
    refine s_getfield rfl (cn rfl) c0 rfl ?_
    refine s_virt rfl (cn rfl) rfl rfl c51 rfl (u_readS_46 hn c1 c2 hv hsz hit c51 c52 c53 c57 c46 c47 c48 ha2 hi2) ?_
    rintro _ _ ⟨rfl, h2', rfl, hf2, be2, x2, y2, A2, E2, d46, d47, d48, hw2⟩
    have hr2 := rss_r n sz it a2 i2
    have c0 := (hf2 0 (by decide)).trans c0
    have c1 := (hf2 1 (by decide)).trans c1
    have c2 := (hf2 2 (by decide)).trans c2
    have c43 := (hf2 43 (by decide)).trans c43
    have c44 := (hf2 44 (by decide)).trans c44
    have c45 := (hf2 45 (by decide)).trans c45
    have c46 := d46
    have c47 := d47
    have c48 := d48
    refine s_istore rfl (cn rfl) ?_
    refine s_iload rfl (cn rfl) rfl ?_
    refine s_if_eq rfl (cn rfl) (cn rfl) ⟨by omega, by omega⟩ (fun q23 => ?_) (fun q23 => ?_)
    · first
      | (exfalso; exact q11 q23)
      | skip
        obtain ⟨z01, ok1⟩ := rss_z q11
        obtain ⟨rfl, rfl, rfl, hA1, hE1⟩ := hw1 q11
        have hb1 := ok1.1
        have tb1 := tg_b hn hv ok1
        obtain ⟨z02, ok2⟩ := rss_z q23
        obtain ⟨rfl, rfl, rfl, hA2, hE2⟩ := hw2 q23
        have hb2 := ok2.1
        have tb2 := tg_b hn hv ok2
        refine s_aload_n rfl (cn rfl) rfl ?_
        refine s_getfield rfl (cn rfl) c0 rfl ?_
        refine s_aload_n rfl (cn rfl) rfl ?_
        refine s_getfield rfl (cn rfl) c0 rfl ?_
        refine s_virt rfl (cn rfl) rfl rfl c43 rfl (u_held hn c43 c44 c45 c46 c47 c48 (by omega) (by omega) (fun g g1 g2 => by rw [hE1 g g1 g2]; exact tb1 g) (fun g g1 g2 => by rw [hE2 g g1 g2]; exact tb2 g)) ?_
        rintro _ _ ⟨rfl, rfl⟩
        refine s_ireturn rfl ?_
        first
          | exact ⟨ri (by unfold sp_better; rw [if_pos q11, if_pos q23]; exact hld_cg (by omega) hE1 hE2), h2', rfl, fr_t (fr_w hf1 (by decide)) hf2 (by decide), ⟨_, _, _, _, _, c43, c44, c45⟩, ⟨_, _, _, _, _, d46, d47, d48⟩⟩
          | exact ⟨ri (by unfold sp_better; rw [if_pos q11, if_neg q23]), h2', rfl, fr_t (fr_w hf1 (by decide)) hf2 (by decide), ⟨_, _, _, _, _, c43, c44, c45⟩, ⟨_, _, _, _, _, d46, d47, d48⟩⟩
          | exact ⟨ri (by unfold sp_better; rw [if_neg q11]), h1', rfl, fr_w hf1 (by decide), ⟨_, _, _, _, _, d43, d44, d45⟩, ⟨_, _, _, _, _, c46, c47, c48⟩⟩
    · refine s_iload rfl (cn rfl) rfl ?_
      refine s_goto rfl (cn rfl) ?_
      refine s_ireturn rfl ?_
      first
        | exact ⟨ri (by unfold sp_better; rw [if_pos q11, if_pos q23]; exact hld_cg (by omega) hE1 hE2), h2', rfl, fr_t (fr_w hf1 (by decide)) hf2 (by decide), ⟨_, _, _, _, _, c43, c44, c45⟩, ⟨_, _, _, _, _, d46, d47, d48⟩⟩
        | exact ⟨ri (by unfold sp_better; rw [if_pos q11, if_neg q23]), h2', rfl, fr_t (fr_w hf1 (by decide)) hf2 (by decide), ⟨_, _, _, _, _, c43, c44, c45⟩, ⟨_, _, _, _, _, d46, d47, d48⟩⟩
        | exact ⟨ri (by unfold sp_better; rw [if_neg q11]), h1', rfl, fr_w hf1 (by decide), ⟨_, _, _, _, _, d43, d44, d45⟩, ⟨_, _, _, _, _, c46, c47, c48⟩⟩
theorem m_tellsS {d N S n : Nat} {kp tp pt wr fa dm ce di be od sm le sc ba bb ti rk ts tm pa wa : Int} {h : Nat → Option rr_E} (hn : 2 ≤ n ∧ n ≤ 4) (c58 : h 58 = some (MO (n : Int) kp tp pt wr fa dm ce di be od sm le sc ba bb ti rk ts tm pa wa)) {sz th ms w : Nat → Int} {it : Nat → Nat → Int} (hth : ∀ l, l < 4 → (th l = 0 ∧ sz l = -1) ∨ (th l = 1 ∧ sz l = ms l ∧ 0 ≤ sz l ∧ sz l ≤ 30)) (hit : ∀ l i, l < 4 → i < 30 → w (30 * l + i) = it l i) (c77 : h 77 = some (.inl (2, 4, .inl (fun k => ii (th k))))) (c78 : h 78 = some (.inl (0, 4, .inl (fun k => ii (ms k))))) (c79 : h 79 = some (.inl (1, 120, .inr (.inl (fun k => jj (w k)))))) {w2 : Nat → Int} (c75 : h 75 = some (.inl (1, 4, .inr (.inl (fun k => jj (w2 k)))))) (hb : ∀ l i, b6 (it l i)) {a i : Int} (ha : b3 a) (hi : b3 i) : rr_Calls (d + 3) j_Model_tellsShares [.ref 58, .int (ii a), .int (ii i)] (N, S, h) (fun r R => r = some (.int (ii (rss n sz it a i))) ∧ ∃ h', R = (N, S, h') ∧ fr [58, 75] h h' ∧ ∃ (pb : Int) (w3 : Nat → Int), h' 58 = some (MO (n : Int) kp tp pt wr fa dm ce di be od sm le sc ba bb ti rk ts tm pb wa) ∧ h' 75 = some (.inl (1, 4, .inr (.inl (fun k => jj (w3 k))))) ∧ (rss n sz it a i = 0 → pb = shb it a i ∧ ∀ p, p < n → w3 p = sha n it a i p)) := by
  refine rr_meth (C := K_Model_tellsShares) (hd := h_Model_tellsShares) (mx := 5) rfl rfl (fun K hK => ?_)
  have hA := al_b hn
  refine hK _ _ _ _ ?_
  refine s_iload_n rfl (cn rfl) rfl ?_
  refine s_stat rfl (cn rfl) rfl rfl rfl (m_isList (by omega)) ?_
  rintro _ _ ⟨rfl, rfl⟩
  refine s_ifb_ne rfl (cn rfl) (cn rfl) (fun q2 => ?_) (fun q2 => ?_)
  · obtain ⟨l, rfl⟩ := Int.eq_ofNat_of_zero_le (show 0 ≤ a by omega)
    have hl : l < 4 := by omega
    have hs := hth l hl
    refine s_aload_n rfl (cn rfl) rfl ?_
    refine s_getfield rfl (cn rfl) c58 rfl ?_
    refine s_iload_n rfl (cn rfl) rfl ?_
    refine s_baload rfl (cn rfl) _ rfl c77 rfl (by omega) (by decide) rfl ?_
    refine s_if_ne rfl (cn rfl) (cn rfl) ⟨by omega, by omega⟩ (fun q9 => ?_) (fun q9 => ?_)
    · refine s_iload_n rfl (cn rfl) rfl ?_
      refine s_if_lt rfl (cn rfl) (cn rfl) ⟨by omega, by omega⟩ (fun q13 => ?_) (fun q13 => ?_)
      · refine s_bipush rfl (cn rfl) (by decide) ?_
        refine s_ireturn rfl ?_
        have e1 : cpl sz (l : Int) i ((n : Int) + 1) = -13 := by
          unfold cpl; rw [if_pos q2]
          show (if sz l = -1 then _ else if i < 0 ∨ sz l - ((n : Int) + 1) < i then _ else _) = _
          rw [if_neg (by omega), if_pos (by omega)]
        exact ⟨ri (by rw [rss_n (by omega), e1]), h, rfl, fr_r, _, _, c58, c75, fun q => absurd (rss_z q).1 (by omega)⟩
      · refine s_iload_n rfl (cn rfl) rfl ?_
        refine s_aload_n rfl (cn rfl) rfl ?_
        refine s_getfield rfl (cn rfl) c58 rfl ?_
        refine s_iload_n rfl (cn rfl) rfl ?_
        refine s_iaload rfl (cn rfl) _ rfl c78 rfl (by omega) (by decide) rfl ?_
        refine s_aload_n rfl (cn rfl) rfl ?_
        refine s_getfield rfl (cn rfl) c58 rfl ?_
        refine s_isub rfl (cn rfl) ?_
        refine s_iconst rfl (cn rfl) ?_
        refine s_isub rfl (cn rfl) ?_
        refine s_icmp_le rfl (cn rfl) (cn rfl) ⟨by omega, by omega⟩ ⟨by omega, by omega⟩ (fun q24 => ?_) (fun q24 => ?_)
        · have e1 : cpl sz (l : Int) i ((n : Int) + 1) = 0 := by
            unfold cpl; rw [if_pos q2]
            show (if sz l = -1 then _ else if i < 0 ∨ sz l - ((n : Int) + 1) < i then _ else _) = _
            rw [if_neg (by omega), if_neg (by omega)]
          obtain ⟨j, rfl⟩ := Int.eq_ofNat_of_zero_le (show 0 ≤ i by omega)
          have hj : j + n + 1 ≤ 30 := by omega
          have h0 := hit l j hl (by omega)
          have b0 := hb l j
          refine s_bipush rfl (cn rfl) (by decide) ?_
          refine s_iload_n rfl (cn rfl) rfl ?_
          refine s_imul rfl (cn rfl) ?_
          refine s_iload_n rfl (cn rfl) rfl ?_
          refine s_iadd rfl (cn rfl) ?_
          refine s_istore_n rfl (cn rfl) ?_
          refine s_aload_n rfl (cn rfl) rfl ?_
          refine s_getfield rfl (cn rfl) c58 rfl ?_
          refine s_iload_n rfl (cn rfl) rfl ?_
          refine s_laload rfl (cn rfl) (30 * l + j) (by omega) c79 (by omega) (by decide) (congrArg jj h0) ?_
          refine s_lconst rfl (cn rfl) 1 (by decide) ?_
          refine s_ldc2_w rfl (cn rfl) ?_
          refine s_stat rfl (cn rfl) rfl rfl rfl (m_in (by omega) (by omega) (by omega)) ?_
          rintro _ _ ⟨rfl, rfl⟩
          refine s_ifb_ne rfl (cn rfl) (cn rfl) (fun q40 => ?_) (fun q40 => ?_)
          · refine s_iconst rfl (cn rfl) ?_
            refine s_istore rfl (ch rfl) ?_
            have lp45 : ∀ p : Nat, p ≤ n → ∀ (h' : Nat → Option rr_E) (w3 : Nat → Int) (c75 : h' 75 = some (.inl (1, 4, .inr (.inl (fun k => jj (w3 k)))))) (hf : fr [58, 75] h h') (c58 : h' 58 = some (MO (n : Int) kp tp pt wr fa dm ce di be od sm le sc ba bb ti rk ts tm pa wa)) (hw : ∀ k, k < p → w3 k = sha n it l j k ∧ -1000000 ≤ sha n it l j k ∧ sha n it l j k ≤ 1000000), K 45 [some (.ref 58), some (.int (ii (l : Int))), some (.int (ii (j : Int))), some (.int (ii (30 * (l : Int) + (j : Int)))), some (.int (ii (p : Int)))] [] (N, S, h') := by
              refine dn (fun p hp ih45 => ?_)
              intro h' w3 c75 hf c58 hw
              have c79 := (hf 79 (by decide)).trans c79
              refine hK _ _ _ _ ?_
              refine s_iload rfl (cn rfl) rfl ?_
              refine s_aload_n rfl (cn rfl) rfl ?_
              refine s_getfield rfl (cn rfl) c58 rfl ?_
              refine s_icmp_ge rfl (cn rfl) (cn rfl) ⟨by omega, by omega⟩ ⟨by omega, by omega⟩ (fun q48 => ?_) (fun q48 => ?_)
              · refine s_aload_n rfl (cn rfl) rfl ?_
                refine s_aload_n rfl (cn rfl) rfl ?_
                refine s_getfield rfl (cn rfl) c58 rfl ?_
                refine s_iload_n rfl (cn rfl) rfl ?_
                refine s_laload rfl (cn rfl) (30 * l + j) (by omega) c79 (by omega) (by decide) (congrArg jj h0) ?_
                refine s_putl rfl (cn rfl) rfl c58 rfl ?_
                refine s_iconst rfl (cn rfl) ?_
                refine s_ireturn rfl ?_
                have ok : okS n it (l : Int) (j : Int) := ⟨q40, fun k hk => (hw k (by omega)).2⟩
                exact ⟨ri (rss_0 e1 ok).symm, _, rfl, fr_s (by decide) hf, _, _, rr_set_eq, c75, fun _ => ⟨rfl, fun k hk => (hw k (by omega)).1⟩⟩
              · have h1 := hit l (j + 1 + p) hl (by omega)
                have b1 := hb l (j + 1 + p)
                rw [show 30 * l + (j + 1 + p) = 30 * l + j + 1 + p by omega] at h1
                refine s_aload_n rfl (cn rfl) rfl ?_
                refine s_getfield rfl (cn rfl) c58 rfl ?_
                refine s_iload_n rfl (cn rfl) rfl ?_
                refine s_iconst rfl (cn rfl) ?_
                refine s_iadd rfl (cn rfl) ?_
                refine s_iload rfl (cn rfl) rfl ?_
                refine s_iadd rfl (cn rfl) ?_
                refine s_laload rfl (cn rfl) (30 * l + j + 1 + p) (by omega) c79 (by omega) (by decide) (congrArg jj h1) ?_
                refine s_ldc2_w rfl (cn rfl) ?_
                refine s_ldc2_w rfl (cn rfl) ?_
                refine s_stat rfl (cn rfl) rfl rfl rfl (m_in (by omega) (by omega) (by omega)) ?_
                rintro _ _ ⟨rfl, rfl⟩
                refine s_ifb_ne rfl (cn rfl) (cn rfl) (fun q60 => ?_) (fun q60 => ?_)
                · refine s_aload_n rfl (cn rfl) rfl ?_
                  refine s_getfield rfl (cn rfl) c58 rfl ?_
                  refine s_iload rfl (cn rfl) rfl ?_
                  refine s_aload_n rfl (cn rfl) rfl ?_
                  refine s_getfield rfl (cn rfl) c58 rfl ?_
                  refine s_iload_n rfl (cn rfl) rfl ?_
                  refine s_iconst rfl (cn rfl) ?_
                  refine s_iadd rfl (cn rfl) ?_
                  refine s_iload rfl (cn rfl) rfl ?_
                  refine s_iadd rfl (cn rfl) ?_
                  refine s_laload rfl (cn rfl) (30 * l + j + 1 + p) (by omega) c79 (by omega) (by decide) (congrArg jj h1) ?_
                  refine s_lastore rfl (cn rfl) _ rfl c75 (by omega) (by decide) ?_
                  refine s_iinc rfl (cn rfl) rfl ?_
                  refine s_goto rfl (ch rfl) ?_
                  exact ih45 (by omega) _ _ rr_set_eq (fr_s (by decide) hf) c58 (fun k q => by
                      by_cases e : k = p
                      · subst e
                        rw [fu_s, show sha n it (l : Int) (j : Int) k = it l (j + 1 + k) from if_pos (by omega)]
                        exact ⟨rfl, q60⟩
                      · rw [fu_n e]; exact hw k (by omega))
                · refine s_bipush rfl (cn rfl) (by decide) ?_
                  refine s_ireturn rfl ?_
                  have nk : ¬ okS n it (l : Int) (j : Int) := fun q => by
                    have q2 := q.2 p (by omega)
                    rw [show sha n it (l : Int) (j : Int) p = it l (j + 1 + p) from if_pos (by omega)] at q2
                    exact q60 q2
                  exact ⟨ri (rss_b e1 nk).symm, h', rfl, hf, _, _, c58, c75, fun q => absurd (rss_z q).2 nk⟩
            exact lp45 0 (by omega) _ _ c75 fr_r c58 (fun k q => absurd q (by omega))
          · refine s_bipush rfl (cn rfl) (by decide) ?_
            refine s_ireturn rfl ?_
            have nk : ¬ okS n it (l : Int) (j : Int) := fun q => by
              exact q40 q.1
            exact ⟨ri (rss_b e1 nk).symm, h, rfl, fr_r, _, _, c58, c75, fun q => absurd (rss_z q).2 nk⟩
        · refine s_bipush rfl (cn rfl) (by decide) ?_
          refine s_ireturn rfl ?_
          have e1 : cpl sz (l : Int) i ((n : Int) + 1) = -13 := by
            unfold cpl; rw [if_pos q2]
            show (if sz l = -1 then _ else if i < 0 ∨ sz l - ((n : Int) + 1) < i then _ else _) = _
            rw [if_neg (by omega), if_pos (by omega)]
          exact ⟨ri (by rw [rss_n (by omega), e1]), h, rfl, fr_r, _, _, c58, c75, fun q => absurd (rss_z q).1 (by omega)⟩
    · refine s_bipush rfl (cn rfl) (by decide) ?_
      refine s_ireturn rfl ?_
      have e1 : cpl sz (l : Int) i ((n : Int) + 1) = -11 := by
        unfold cpl; rw [if_pos q2]
        show (if sz l = -1 then _ else if i < 0 ∨ sz l - ((n : Int) + 1) < i then _ else _) = _
        rw [if_pos (by omega)]
      exact ⟨ri (by rw [rss_n (by omega), e1]), h, rfl, fr_r, _, _, c58, c75, fun q => absurd (rss_z q).1 (by omega)⟩
  · refine s_iconst rfl (cn rfl) ?_
    refine s_ireturn rfl ?_
    have e1 : cpl sz a i ((n : Int) + 1) = -1 := by unfold cpl; rw [if_neg q2]
    exact ⟨ri (by rw [rss_n (by omega), e1]), h, rfl, fr_r, _, _, c58, c75, fun q => absurd (rss_z q).1 (by omega)⟩
theorem m_shareOf {d N S n : Nat} {kp tp pt wr fa dm ce di be od sm le sc ba bb ti rk ts tm wa : Int} {h : Nat → Option rr_E} (hn : 2 ≤ n ∧ n ≤ 4)  {v w3 : Nat → Int} {it : Nat → Nat → Int} {a i : Int} (c58 : h 58 = some (MO (n : Int) kp tp pt wr fa dm ce di be od sm le sc ba bb ti rk ts tm (shb it a i) wa)) (c59 : h 59 = some (.inl (0, 16, .inl (fun k => ii (v k))))) (hv : ∀ k, -999 ≤ v k ∧ v k ≤ 999) (c75 : h 75 = some (.inl (1, 4, .inr (.inl (fun k => jj (w3 k)))))) (ok : okS n it a i) (hw : ∀ p, p < n → w3 p = sha n it a i p) {g : Nat} (hg : g < 16) : rr_Calls (d + 2) j_Model_shareOf [.ref 58, .int (ii (g : Int))] (N, S, h) (fun r R => r = some (.long (jj (st_sh n g (sha n it a i)))) ∧ R = (N, S, h)) := by
  refine rr_meth (C := K_Model_shareOf) (hd := h_Model_shareOf) (mx := 5) rfl rfl (fun K hK => ?_)
  have hA := al_b hn
  refine hK _ _ _ _ ?_
  refine s_lconst rfl (cn rfl) 0 (by decide) ?_
  refine s_lstore_n rfl (cn rfl) ?_
  refine s_iconst rfl (cn rfl) ?_
  refine s_istore rfl (ch rfl) ?_
  have lp4 : ∀ p : Nat, p ≤ n → ∀ (x : Int) (hx : x = st_sh p g (sha n it a i)), K 4 [some (.ref 58), some (.int (ii (g : Int))), some (.long (jj x)), none, some (.int (ii (p : Int)))] [] (N, S, h) := by
    refine dn (fun p hp ih4 => ?_)
    intro x hx
    refine hK _ _ _ _ ?_
    refine s_iload rfl (cn rfl) rfl ?_
    refine s_aload_n rfl (cn rfl) rfl ?_
    refine s_getfield rfl (cn rfl) c58 rfl ?_
    refine s_icmp_ge rfl (cn rfl) (cn rfl) ⟨by omega, by omega⟩ ⟨by omega, by omega⟩ (fun q7 => ?_) (fun q7 => ?_)
    · refine s_lload_n rfl (cn rfl) rfl ?_
      refine s_lreturn rfl ?_
      exact ⟨rl (by rw [hx, show p = n by omega]), rfl⟩
    · refine s_lload_n rfl (cn rfl) rfl ?_
      refine s_iload_n rfl (cn rfl) rfl ?_
      refine s_iload rfl (cn rfl) rfl ?_
      refine s_stat rfl (cn rfl) rfl rfl rfl (m_has (by omega) (by omega)) ?_
      rintro _ _ ⟨rfl, rfl⟩
      refine s_ifb_eq rfl (cn rfl) (cn rfl) (fun q12 => ?_) (fun q12 => ?_)
      · refine s_lconst rfl (cn rfl) 0 (by decide) ?_
        refine s_ladd rfl (cn rfl) ?_
        refine s_lstore_n rfl (cn rfl) ?_
        refine s_iinc rfl (cn rfl) rfl ?_
        refine s_goto rfl (ch rfl) ?_
        exact ih4 (by omega) _ (by show _ = st_sh p g (sha n it a i) + st_bt g p * sha n it a i p; rw [hx, show st_bt g p = 0 by have := bt_01 g p; omega]; omega)
      · refine s_aload_n rfl (cn rfl) rfl ?_
        refine s_getfield rfl (cn rfl) c58 rfl ?_
        refine s_iload rfl (cn rfl) rfl ?_
        refine s_laload rfl (cn rfl) _ rfl c75 (by omega) (by decide) rfl ?_
        refine s_goto rfl (cn rfl) ?_
        refine s_ladd rfl (cn rfl) ?_
        refine s_lstore_n rfl (cn rfl) ?_
        refine s_iinc rfl (cn rfl) rfl ?_
        refine s_goto rfl (ch rfl) ?_
        exact ih4 (by omega) _ (by show _ = st_sh p g (sha n it a i) + st_bt g p * sha n it a i p; rw [hx, q12, hw p (by omega)]; omega)
  exact lp4 0 (by omega) _ rfl
theorem m_tg {d N S n : Nat} {kp tp pt wr fa dm ce di be od sm le sc ba bb ti rk ts tm wa : Int} {h : Nat → Option rr_E} (hn : 2 ≤ n ∧ n ≤ 4)  {v w3 : Nat → Int} {it : Nat → Nat → Int} {a i : Int} (c58 : h 58 = some (MO (n : Int) kp tp pt wr fa dm ce di be od sm le sc ba bb ti rk ts tm (shb it a i) wa)) (c59 : h 59 = some (.inl (0, 16, .inl (fun k => ii (v k))))) (hv : ∀ k, -999 ≤ v k ∧ v k ≤ 999) (c75 : h 75 = some (.inl (1, 4, .inr (.inl (fun k => jj (w3 k)))))) (ok : okS n it a i) (hw : ∀ p, p < n → w3 p = sha n it a i p) {g : Nat} (hg : g < 16) : rr_Calls (d + 3) j_Model_toldGrudge [.ref 58, .int (ii (g : Int))] (N, S, h) (fun r R => r = some (.long (jj (tg n v it a i g))) ∧ R = (N, S, h)) := by
  refine rr_meth (C := K_Model_toldGrudge) (hd := h_Model_toldGrudge) (mx := 2) rfl rfl (fun K hK => ?_)
  have hA := al_b hn
  have hvg := hv g
  refine hK _ _ _ _ ?_
  refine s_aload_n rfl (cn rfl) rfl ?_
  refine s_getfield rfl (cn rfl) c58 rfl ?_
  refine s_iload_n rfl (cn rfl) rfl ?_
  refine s_iaload rfl (cn rfl) _ rfl c59 rfl (by omega) (by decide) rfl ?_
  refine s_i2l rfl (cn rfl) ⟨by omega, by omega⟩ ?_
  refine s_aload_n rfl (cn rfl) rfl ?_
  refine s_getfield rfl (cn rfl) c58 rfl ?_
  refine s_lmul rfl (cn rfl) ?_
  refine s_aload_n rfl (cn rfl) rfl ?_
  refine s_iload_n rfl (cn rfl) rfl ?_
  refine s_virt rfl (cn rfl) rfl rfl c58 rfl (m_shareOf hn c58 c59 hv c75 ok hw (by omega)) ?_
  rintro _ _ ⟨rfl, rfl⟩
  refine s_lsub rfl (cn rfl) ?_
  refine s_lreturn rfl ?_
  exact ⟨rfl, rfl⟩
theorem m_good {d N S n : Nat} {kp tp pt wr fa dm ce di be od sm le sc ba bb ti rk ts tm wa : Int} {h : Nat → Option rr_E} (hn : 2 ≤ n ∧ n ≤ 4)  {v w3 : Nat → Int} {it : Nat → Nat → Int} {a i : Int} (c58 : h 58 = some (MO (n : Int) kp tp pt wr fa dm ce di be od sm le sc ba bb ti rk ts tm (shb it a i) wa)) (c59 : h 59 = some (.inl (0, 16, .inl (fun k => ii (v k))))) (hv : ∀ k, -999 ≤ v k ∧ v k ≤ 999) (c75 : h 75 = some (.inl (1, 4, .inr (.inl (fun k => jj (w3 k)))))) (ok : okS n it a i) (hw : ∀ p, p < n → w3 p = sha n it a i p) : rr_Calls (d + 4) j_Model_isGood [.ref 58] (N, S, h) (fun r R => r = some (.int (rb (tg n v it a i (al n) = 0))) ∧ R = (N, S, h)) := by
  refine rr_meth (C := K_Model_isGood) (hd := h_Model_isGood) (mx := 1) rfl rfl (fun K hK => ?_)
  have hA := al_b hn
  have tb := tg_b hn hv ok (al n)
  refine hK _ _ _ _ ?_
  refine s_aload_n rfl (cn rfl) rfl ?_
  refine s_aload_n rfl (cn rfl) rfl ?_
  refine s_virt rfl (cn rfl) rfl rfl c58 rfl (m_all hn c58) ?_
  rintro _ _ ⟨rfl, rfl⟩
  refine s_virt rfl (cn rfl) rfl rfl c58 rfl (m_tg hn c58 c59 hv c75 ok hw (by omega)) ?_
  rintro _ _ ⟨rfl, rfl⟩
  refine s_lconst rfl (cn rfl) 0 (by decide) ?_
  refine s_lcmp rfl (cn rfl) ?_
  refine s_ifl_ne rfl (cn rfl) (cn rfl) ⟨by omega, by omega⟩ ⟨by omega, by omega⟩ (fun q6 => ?_) (fun q6 => ?_)
  · refine s_iconst rfl (cn rfl) ?_
    refine s_zreturn rfl (Or.inl rfl) ?_
    exact ⟨rz_f q6, rfl⟩
  · refine s_iconst rfl (cn rfl) ?_
    refine s_goto rfl (cn rfl) ?_
    refine s_zreturn rfl (Or.inr rfl) ?_
    exact ⟨rz_t q6, rfl⟩
theorem m_toldAt {d N S n : Nat} {kp tp pt wr fa dm ce di be od sm le sc ba bb ti rk ts tm wa : Int} {h : Nat → Option rr_E} (hn : 2 ≤ n ∧ n ≤ 4)  {v w3 : Nat → Int} {it : Nat → Nat → Int} {a i : Int} (c58 : h 58 = some (MO (n : Int) kp tp pt wr fa dm ce di be od sm le sc ba bb ti rk ts tm (shb it a i) wa)) (c59 : h 59 = some (.inl (0, 16, .inl (fun k => ii (v k))))) (hv : ∀ k, -999 ≤ v k ∧ v k ≤ 999) (c75 : h 75 = some (.inl (1, 4, .inr (.inl (fun k => jj (w3 k)))))) (ok : okS n it a i) (hw : ∀ p, p < n → w3 p = sha n it a i p) {k : Int} (hk : b3 k) : rr_Calls (d + 4) j_Model_toldAt [.ref 58, .int (ii k)] (N, S, h) (fun r R => r = some (.int (ii (ino (tg n v it a i) (al n) k))) ∧ R = (N, S, h)) := by
  refine rr_meth (C := K_Model_toldAt) (hd := h_Model_toldAt) (mx := 5) rfl rfl (fun K hK => ?_)
  have hA := al_b hn
  refine hK _ _ _ _ ?_
  refine s_iconst rfl (cn rfl) ?_
  refine s_istore_n rfl (ch rfl) ?_
  have lp2 : ∀ g : Nat, g ≤ al n → ∀ (l3 l4 : Option Value) (h1 : 1 ≤ g) (no : ∀ j, 1 ≤ j → j < g → ¬ cA (tg n v it a i) (al n) j = k), K 2 [some (.ref 58), some (.int (ii k)), some (.int (ii (g : Int))), l3, l4] [] (N, S, h) := by
    refine dn (fun g hg ih2 => ?_)
    intro l3 l4 h1 no
    have hcb := cA_b (E := tg n v it a i) (m := al n) (g := g)
    have tb := tg_b hn hv ok g
    refine hK _ _ _ _ ?_
    refine s_iload_n rfl (cn rfl) rfl ?_
    refine s_aload_n rfl (cn rfl) rfl ?_
    refine s_virt rfl (cn rfl) rfl rfl c58 rfl (m_all hn c58) ?_
    rintro _ _ ⟨rfl, rfl⟩
    refine s_icmp_ge rfl (cn rfl) (cn rfl) ⟨by omega, by omega⟩ ⟨by omega, by omega⟩ (fun q5 => ?_) (fun q5 => ?_)
    · refine s_iconst rfl (cn rfl) ?_
      refine s_ireturn rfl ?_
      exact ⟨ri (ff_n (fun k q1 q2 => no k q1 (by omega))), rfl⟩
    · refine s_iconst rfl (cn rfl) ?_
      refine s_istore_n rfl (cn rfl) ?_
      refine s_iconst rfl (cn rfl) ?_
      refine s_istore rfl (ch rfl) ?_
      have lp10 : ∀ f : Nat, f ≤ al n → ∀ (x : Int) (hx : x = gs f (fun k => ah1 (tg n v it a i) k g)) (h2 : 1 ≤ f), K 10 [some (.ref 58), some (.int (ii k)), some (.int (ii (g : Int))), some (.int (ii x)), some (.int (ii (f : Int)))] [] (N, S, h) := by
        refine dn (fun f hf ih10 => ?_)
        intro x hx h2
        have tb2 := tg_b hn hv ok f
        refine hK _ _ _ _ ?_
        refine s_iload rfl (cn rfl) rfl ?_
        refine s_aload_n rfl (cn rfl) rfl ?_
        refine s_virt rfl (cn rfl) rfl rfl c58 rfl (m_all hn c58) ?_
        rintro _ _ ⟨rfl, rfl⟩
        refine s_icmp_ge rfl (cn rfl) (cn rfl) ⟨by omega, by omega⟩ ⟨by omega, by omega⟩ (fun q13 => ?_) (fun q13 => ?_)
        · have hxe : x = cA (tg n v it a i) (al n) g := by rw [hx, show f = al n by omega]; rfl
          refine s_iload_n rfl (cn rfl) rfl ?_
          refine s_iload_n rfl (cn rfl) rfl ?_
          refine s_icmp_ne rfl (cn rfl) (cn rfl) ⟨by omega, by omega⟩ ⟨by omega, by omega⟩ (fun q43 => ?_) (fun q43 => ?_)
          · refine s_iinc rfl (cn rfl) rfl ?_
            refine s_goto rfl (ch rfl) ?_
            exact ih2 (by omega) _ _ (by omega) (fun j q1 q2 => by
                by_cases e : j = g
                · subst e; intro q; exact q43 (by rw [hx, show f = al n by omega]; exact q)
                · exact no j q1 (by omega))
          · refine s_iload_n rfl (cn rfl) rfl ?_
            refine s_ireturn rfl ?_
            exact ⟨ri (ff_y h1 (by omega) (by rw [← hxe]; exact q43) no), rfl⟩
        · refine s_iload_n rfl (cn rfl) rfl ?_
          refine s_aload_n rfl (cn rfl) rfl ?_
          refine s_iload rfl (cn rfl) rfl ?_
          refine s_virt rfl (cn rfl) rfl rfl c58 rfl (m_tg hn c58 c59 hv c75 ok hw (by omega)) ?_
          rintro _ _ ⟨rfl, rfl⟩
          refine s_aload_n rfl (cn rfl) rfl ?_
          refine s_iload_n rfl (cn rfl) rfl ?_
          refine s_virt rfl (cn rfl) rfl rfl c58 rfl (m_tg hn c58 c59 hv c75 ok hw (by omega)) ?_
          rintro _ _ ⟨rfl, rfl⟩
          refine s_lcmp rfl (cn rfl) ?_
          refine s_ifl_gt rfl (cn rfl) (cn rfl) ⟨by omega, by omega⟩ ⟨by omega, by omega⟩ (fun q22 => ?_) (fun q22 => ?_)
          · refine s_iconst rfl (cn rfl) ?_
            refine s_goto rfl (cn rfl) ?_
            refine s_iadd rfl (cn rfl) ?_
            refine s_istore_n rfl (cn rfl) ?_
            refine s_iinc rfl (cn rfl) rfl ?_
            refine s_goto rfl (ch rfl) ?_
            exact ih10 (by omega) _ (by rw [gs_s h2, hx]; unfold ah1; split <;> omega) (by omega)
          · refine s_aload_n rfl (cn rfl) rfl ?_
            refine s_iload rfl (cn rfl) rfl ?_
            refine s_virt rfl (cn rfl) rfl rfl c58 rfl (m_tg hn c58 c59 hv c75 ok hw (by omega)) ?_
            rintro _ _ ⟨rfl, rfl⟩
            refine s_aload_n rfl (cn rfl) rfl ?_
            refine s_iload_n rfl (cn rfl) rfl ?_
            refine s_virt rfl (cn rfl) rfl rfl c58 rfl (m_tg hn c58 c59 hv c75 ok hw (by omega)) ?_
            rintro _ _ ⟨rfl, rfl⟩
            refine s_lcmp rfl (cn rfl) ?_
            refine s_ifl_ne rfl (cn rfl) (cn rfl) ⟨by omega, by omega⟩ ⟨by omega, by omega⟩ (fun q30 => ?_) (fun q30 => ?_)
            · refine s_iconst rfl (cn rfl) ?_
              refine s_iadd rfl (cn rfl) ?_
              refine s_istore_n rfl (cn rfl) ?_
              refine s_iinc rfl (cn rfl) rfl ?_
              refine s_goto rfl (ch rfl) ?_
              exact ih10 (by omega) _ (by rw [gs_s h2, hx]; unfold ah1; split <;> omega) (by omega)
            · refine s_iload rfl (cn rfl) rfl ?_
              refine s_iload_n rfl (cn rfl) rfl ?_
              refine s_icmp_ge rfl (cn rfl) (cn rfl) ⟨by omega, by omega⟩ ⟨by omega, by omega⟩ (fun q33 => ?_) (fun q33 => ?_)
              · refine s_iconst rfl (cn rfl) ?_
                refine s_iadd rfl (cn rfl) ?_
                refine s_istore_n rfl (cn rfl) ?_
                refine s_iinc rfl (cn rfl) rfl ?_
                refine s_goto rfl (ch rfl) ?_
                exact ih10 (by omega) _ (by rw [gs_s h2, hx]; unfold ah1; split <;> omega) (by omega)
              · refine s_iconst rfl (cn rfl) ?_
                refine s_goto rfl (cn rfl) ?_
                refine s_iadd rfl (cn rfl) ?_
                refine s_istore_n rfl (cn rfl) ?_
                refine s_iinc rfl (cn rfl) rfl ?_
                refine s_goto rfl (ch rfl) ?_
                exact ih10 (by omega) _ (by rw [gs_s h2, hx]; unfold ah1; split <;> omega) (by omega)
      exact lp10 1 (by omega) _ gs_1.symm (by omega)
  exact lp2 1 (by omega) _ _ (by omega) (fun k q1 q2 => absurd q2 (by omega))
theorem m_grudgeBy {d N S n : Nat} {kp tp pt wr fa dm ce di be od sm le sc ba bb ti rk ts tm pa wa : Int} {h : Nat → Option rr_E} (hn : 2 ≤ n ∧ n ≤ 4) (c58 : h 58 = some (MO (n : Int) kp tp pt wr fa dm ce di be od sm le sc ba bb ti rk ts tm pa wa)) {sz th ms w : Nat → Int} {it : Nat → Nat → Int} (hth : ∀ l, l < 4 → (th l = 0 ∧ sz l = -1) ∨ (th l = 1 ∧ sz l = ms l ∧ 0 ≤ sz l ∧ sz l ≤ 30)) (hit : ∀ l i, l < 4 → i < 30 → w (30 * l + i) = it l i) (c77 : h 77 = some (.inl (2, 4, .inl (fun k => ii (th k))))) (c78 : h 78 = some (.inl (0, 4, .inl (fun k => ii (ms k))))) (c79 : h 79 = some (.inl (1, 120, .inr (.inl (fun k => jj (w k)))))) {w2 : Nat → Int} (c75 : h 75 = some (.inl (1, 4, .inr (.inl (fun k => jj (w2 k)))))) (hbi : ∀ l i, b6 (it l i)) {v : Nat → Int} (c59 : h 59 = some (.inl (0, 16, .inl (fun k => ii (v k))))) (hv : ∀ k, -999 ≤ v k ∧ v k ≤ 999) {a i : Int} (ha : b3 a) (hi : b3 i) {g z : Int} (hg : b3 g) (hz : b3 z) : rr_Calls (d + 4) j_Model_grudgeBy [.ref 58, .int (ii a), .int (ii i), .int (ii g), .int (ii z)] (N, S, h) (fun r R => r = some (.long (jj (sp_grudgeBy n v sz it a i g z))) ∧ ∃ h', R = (N, S, h') ∧ fr [58, 75] h h' ∧ ∃ (pb : Int) (w3 : Nat → Int), h' 58 = some (MO (n : Int) kp tp pt wr fa dm ce di be od sm le sc ba bb ti rk ts tm pb wa) ∧ h' 75 = some (.inl (1, 4, .inr (.inl (fun k => jj (w3 k)))))) := by
  refine rr_meth (C := K_Model_grudgeBy) (hd := h_Model_grudgeBy) (mx := 5) rfl rfl (fun K hK => ?_)
  have hA := al_b hn
  refine hK _ _ _ _ ?_
  refine s_aload_n rfl (cn rfl) rfl ?_
  refine s_iload_n rfl (cn rfl) rfl ?_
  refine s_virt rfl (cn rfl) rfl rfl c58 rfl (m_isPart hn c58 (by omega)) ?_
  rintro _ _ ⟨rfl, rfl⟩
  refine s_ifb_eq rfl (cn rfl) (cn rfl) (fun q3 => ?_) (fun q3 => ?_)
  · refine s_ldc2_w rfl (cn rfl) ?_
    refine s_lreturn rfl ?_
    first
      | exact ⟨rl (if_neg (fun q => q3 q.1)).symm, h, rfl, fr_r, _, _, c58, c75⟩
      | exact ⟨rl (if_neg (fun q => q9 (by omega))).symm, h, rfl, fr_r, _, _, c58, c75⟩
      | exact ⟨rl (if_neg (fun q => q14 q.2.2)).symm, h1', rfl, hf1, _, _, c58, c75⟩
  · refine s_iload rfl (cn rfl) rfl ?_
    refine s_i2l rfl (cn rfl) ⟨by omega, by omega⟩ ?_
    refine s_lconst rfl (cn rfl) 0 (by decide) ?_
    refine s_lconst rfl (cn rfl) 1 (by decide) ?_
    refine s_stat rfl (cn rfl) rfl rfl rfl (m_in (by omega) (by omega) (by omega)) ?_
    rintro _ _ ⟨rfl, rfl⟩
    refine s_ifb_eq rfl (cn rfl) (cn rfl) (fun q9 => ?_) (fun q9 => ?_)
    · refine s_ldc2_w rfl (cn rfl) ?_
      refine s_lreturn rfl ?_
      first
        | exact ⟨rl (if_neg (fun q => q3 q.1)).symm, h, rfl, fr_r, _, _, c58, c75⟩
        | exact ⟨rl (if_neg (fun q => q9 (by omega))).symm, h, rfl, fr_r, _, _, c58, c75⟩
        | exact ⟨rl (if_neg (fun q => q14 q.2.2)).symm, h1', rfl, hf1, _, _, c58, c75⟩
    · refine s_aload_n rfl (cn rfl) rfl ?_
      refine s_iload_n rfl (cn rfl) rfl ?_
      refine s_iload_n rfl (cn rfl) rfl ?_
      refine s_virt rfl (cn rfl) rfl rfl c58 rfl (m_tellsS hn c58 hth hit c77 c78 c79 c75 hbi ha hi) ?_
      rintro _ _ ⟨rfl, h1', rfl, hf1, pb1, w1, c58, c75, hw1⟩
      have hr1 := rss_r n sz it a i
      have c59 := (hf1 59 (by decide)).trans c59
      have c77 := (hf1 77 (by decide)).trans c77
      have c78 := (hf1 78 (by decide)).trans c78
      have c79 := (hf1 79 (by decide)).trans c79
      refine s_if_eq rfl (cn rfl) (cn rfl) ⟨by omega, by omega⟩ (fun q14 => ?_) (fun q14 => ?_)
      · obtain ⟨b, rfl⟩ := Int.eq_ofNat_of_zero_le (show 0 ≤ g by omega)
        obtain ⟨z01, ok1⟩ := rss_z q14
        obtain ⟨rfl, hw1b⟩ := hw1 q14
        have tb1 := tg_b hn hv ok1
        have hb1 := ok1.1
        refine s_aload_n rfl (cn rfl) rfl ?_
        refine s_iload_n rfl (cn rfl) rfl ?_
        refine s_virt rfl (cn rfl) rfl rfl c58 rfl (m_tg hn c58 c59 hv c75 ok1 hw1b (by omega)) ?_
        rintro _ _ ⟨rfl, rfl⟩
        refine s_aload_n rfl (cn rfl) rfl ?_
        refine s_getfield rfl (cn rfl) c58 rfl ?_
        refine s_iload rfl (cn rfl) rfl ?_
        refine s_stat rfl (cn rfl) rfl rfl rfl (m_lowest (by have := tb1 b; omega) (by omega) (by omega) (by omega)) ?_
        rintro _ _ ⟨rfl, rfl⟩
        refine s_lreturn rfl ?_
        exact ⟨rl (by unfold sp_grudgeBy; rw [if_pos ⟨q3, by omega, q14⟩]; rfl), h1', rfl, hf1, _, _, c58, c75⟩
      · refine s_ldc2_w rfl (cn rfl) ?_
        refine s_lreturn rfl ?_
        first
          | exact ⟨rl (if_neg (fun q => q3 q.1)).symm, h, rfl, fr_r, _, _, c58, c75⟩
          | exact ⟨rl (if_neg (fun q => q9 (by omega))).symm, h, rfl, fr_r, _, _, c58, c75⟩
          | exact ⟨rl (if_neg (fun q => q14 q.2.2)).symm, h1', rfl, hf1, _, _, c58, c75⟩
theorem m_shares {d N S n : Nat} {kp tp pt wr fa dm ce di be od sm le sc ba bb ti rk ts tm pa wa : Int} {h : Nat → Option rr_E} (hn : 2 ≤ n ∧ n ≤ 4) (c58 : h 58 = some (MO (n : Int) kp tp pt wr fa dm ce di be od sm le sc ba bb ti rk ts tm pa wa)) {sz th ms w : Nat → Int} {it : Nat → Nat → Int} (hth : ∀ l, l < 4 → (th l = 0 ∧ sz l = -1) ∨ (th l = 1 ∧ sz l = ms l ∧ 0 ≤ sz l ∧ sz l ≤ 30)) (hit : ∀ l i, l < 4 → i < 30 → w (30 * l + i) = it l i) (c77 : h 77 = some (.inl (2, 4, .inl (fun k => ii (th k))))) (c78 : h 78 = some (.inl (0, 4, .inl (fun k => ii (ms k))))) (c79 : h 79 = some (.inl (1, 120, .inr (.inl (fun k => jj (w k)))))) {w2 : Nat → Int} (c75 : h 75 = some (.inl (1, 4, .inr (.inl (fun k => jj (w2 k)))))) (hbi : ∀ l i, b6 (it l i)) {v : Nat → Int} (c59 : h 59 = some (.inl (0, 16, .inl (fun k => ii (v k))))) (hv : ∀ k, -999 ≤ v k ∧ v k ≤ 999) {a i : Int} (ha : b3 a) (hi : b3 i) : rr_Calls (d + 5) j_Model_shares [.ref 58, .int (ii a), .int (ii i)] (N, S, h) (fun r R => r = some (.int (ii (sp_shares n v sz it a i))) ∧ ∃ h', R = (N, S, h') ∧ fr [58, 75] h h' ∧ ∃ (pb : Int) (w3 : Nat → Int), h' 58 = some (MO (n : Int) kp tp pt wr fa dm ce di be od sm le sc ba bb ti rk ts tm pb wa) ∧ h' 75 = some (.inl (1, 4, .inr (.inl (fun k => jj (w3 k)))))) := by
  refine rr_meth (C := K_Model_shares) (hd := h_Model_shares) (mx := 5) rfl rfl (fun K hK => ?_)
  have hA := al_b hn
  refine hK _ _ _ _ ?_
  refine s_aload_n rfl (cn rfl) rfl ?_
  refine s_iload_n rfl (cn rfl) rfl ?_
  refine s_iload_n rfl (cn rfl) rfl ?_
  refine s_virt rfl (cn rfl) rfl rfl c58 rfl (m_tellsS hn c58 hth hit c77 c78 c79 c75 hbi ha hi) ?_
  rintro _ _ ⟨rfl, h1', rfl, hf1, pb1, w1, c58, c75, hw1⟩
  have hr1 := rss_r n sz it a i
  have c59 := (hf1 59 (by decide)).trans c59
  have c77 := (hf1 77 (by decide)).trans c77
  have c78 := (hf1 78 (by decide)).trans c78
  have c79 := (hf1 79 (by decide)).trans c79
  refine s_istore_n rfl (cn rfl) ?_
  refine s_iload_n rfl (cn rfl) rfl ?_
  refine s_if_eq rfl (cn rfl) (cn rfl) ⟨by omega, by omega⟩ (fun q6 => ?_) (fun q6 => ?_)
  · obtain ⟨z01, ok1⟩ := rss_z q6
    obtain ⟨rfl, hw1b⟩ := hw1 q6
    have tb1 := tg_b hn hv ok1
    have hb1 := ok1.1
    refine s_aload_n rfl (cn rfl) rfl ?_
    refine s_virt rfl (cn rfl) rfl rfl c58 rfl (m_good hn c58 c59 hv c75 ok1 hw1b) ?_
    rintro _ _ ⟨rfl, rfl⟩
    refine s_ifb_ne rfl (cn rfl) (cn rfl) (fun q11 => ?_) (fun q11 => ?_)
    · refine s_iconst rfl (cn rfl) ?_
      refine s_istore rfl (ch rfl) ?_
      have lp16 : ∀ g : Nat, g ≤ al n → ∀ (l3 : Option Value) (h1 : 1 ≤ g) (no : ∀ k, 1 ≤ k → k < g → ¬ 0 < tg n v it a i k), K 16 [some (.ref 58), some (.int (ii a)), some (.int (ii i)), l3, some (.int (ii (g : Int)))] [] (N, S, h1') := by
        refine dn (fun g hg ih16 => ?_)
        intro l3 h1 no
        have tbg := tb1 g
        refine hK _ _ _ _ ?_
        refine s_iload rfl (cn rfl) rfl ?_
        refine s_aload_n rfl (cn rfl) rfl ?_
        refine s_virt rfl (cn rfl) rfl rfl c58 rfl (m_all hn c58) ?_
        rintro _ _ ⟨rfl, rfl⟩
        refine s_icmp_ge rfl (cn rfl) (cn rfl) ⟨by omega, by omega⟩ ⟨by omega, by omega⟩ (fun q19 => ?_) (fun q19 => ?_)
        · refine s_iconst rfl (cn rfl) ?_
          refine s_ireturn rfl ?_
          exact ⟨ri (by unfold sp_shares; rw [if_pos q6, if_pos q11, if_neg (fun ⟨k, k1, k2, k3⟩ => no k k1 (by omega) k3)]), h1', rfl, hf1, _, _, c58, c75⟩
        · refine s_aload_n rfl (cn rfl) rfl ?_
          refine s_iload rfl (cn rfl) rfl ?_
          refine s_virt rfl (cn rfl) rfl rfl c58 rfl (m_tg hn c58 c59 hv c75 ok1 hw1b (by omega)) ?_
          rintro _ _ ⟨rfl, rfl⟩
          refine s_lconst rfl (cn rfl) 0 (by decide) ?_
          refine s_lcmp rfl (cn rfl) ?_
          refine s_ifl_le rfl (cn rfl) (cn rfl) ⟨by omega, by omega⟩ ⟨by omega, by omega⟩ (fun q25 => ?_) (fun q25 => ?_)
          · refine s_iinc rfl (cn rfl) rfl ?_
            refine s_goto rfl (ch rfl) ?_
            exact ih16 (by omega) _ (by omega) (fun k q1 q2 => by
                by_cases e : k = g
                · subst e; omega
                · exact no k q1 (by omega))
          · refine s_iconst rfl (cn rfl) ?_
            refine s_ireturn rfl ?_
            exact ⟨ri (by unfold sp_shares; rw [if_pos q6, if_pos q11, if_pos ⟨g, h1, by omega, q25⟩]), h1', rfl, hf1, _, _, c58, c75⟩
      exact lp16 1 (by omega) _ (by omega) (fun k q1 q2 => absurd q2 (by omega))
    · refine s_iconst rfl (cn rfl) ?_
      refine s_ireturn rfl ?_
      exact ⟨ri (by unfold sp_shares; rw [if_pos q6, if_neg q11]), h1', rfl, hf1, _, _, c58, c75⟩
  · refine s_iload_n rfl (cn rfl) rfl ?_
    refine s_ireturn rfl ?_
    exact ⟨ri (if_neg q6).symm, h1', rfl, hf1, _, _, c58, c75⟩
theorem m_orderedBy {d N S n : Nat} {kp tp pt wr fa dm ce di be od sm le sc ba bb ti rk ts tm pa wa : Int} {h : Nat → Option rr_E} (hn : 2 ≤ n ∧ n ≤ 4) (c58 : h 58 = some (MO (n : Int) kp tp pt wr fa dm ce di be od sm le sc ba bb ti rk ts tm pa wa)) {sz th ms w : Nat → Int} {it : Nat → Nat → Int} (hth : ∀ l, l < 4 → (th l = 0 ∧ sz l = -1) ∨ (th l = 1 ∧ sz l = ms l ∧ 0 ≤ sz l ∧ sz l ≤ 30)) (hit : ∀ l i, l < 4 → i < 30 → w (30 * l + i) = it l i) (c77 : h 77 = some (.inl (2, 4, .inl (fun k => ii (th k))))) (c78 : h 78 = some (.inl (0, 4, .inl (fun k => ii (ms k))))) (c79 : h 79 = some (.inl (1, 120, .inr (.inl (fun k => jj (w k)))))) {w2 : Nat → Int} (c75 : h 75 = some (.inl (1, 4, .inr (.inl (fun k => jj (w2 k)))))) (hbi : ∀ l i, b6 (it l i)) {v : Nat → Int} (c59 : h 59 = some (.inl (0, 16, .inl (fun k => ii (v k))))) (hv : ∀ k, -999 ≤ v k ∧ v k ≤ 999) {a i : Int} (ha : b3 a) (hi : b3 i) {k : Int} (hk : b3 k) : rr_Calls (d + 5) j_Model_orderedBy [.ref 58, .int (ii a), .int (ii i), .int (ii k)] (N, S, h) (fun r R => r = some (.int (ii (sp_orderedBy n v sz it a i k))) ∧ ∃ h', R = (N, S, h') ∧ fr [58, 75] h h' ∧ ∃ (pb : Int) (w3 : Nat → Int), h' 58 = some (MO (n : Int) kp tp pt wr fa dm ce di be od sm le sc ba bb ti rk ts tm pb wa) ∧ h' 75 = some (.inl (1, 4, .inr (.inl (fun k => jj (w3 k)))))) := by
  refine rr_meth (C := K_Model_orderedBy) (hd := h_Model_orderedBy) (mx := 5) rfl rfl (fun K hK => ?_)
  have hA := al_b hn
  refine hK _ _ _ _ ?_
  refine s_aload_n rfl (cn rfl) rfl ?_
  refine s_iload_n rfl (cn rfl) rfl ?_
  refine s_iload_n rfl (cn rfl) rfl ?_
  refine s_virt rfl (cn rfl) rfl rfl c58 rfl (m_tellsS hn c58 hth hit c77 c78 c79 c75 hbi ha hi) ?_
  rintro _ _ ⟨rfl, h1', rfl, hf1, pb1, w1, c58, c75, hw1⟩
  have hr1 := rss_r n sz it a i
  have c59 := (hf1 59 (by decide)).trans c59
  have c77 := (hf1 77 (by decide)).trans c77
  have c78 := (hf1 78 (by decide)).trans c78
  have c79 := (hf1 79 (by decide)).trans c79
  refine s_istore rfl (cn rfl) ?_
  refine s_iload rfl (cn rfl) rfl ?_
  refine s_if_eq rfl (cn rfl) (cn rfl) ⟨by omega, by omega⟩ (fun q6 => ?_) (fun q6 => ?_)
  · obtain ⟨z01, ok1⟩ := rss_z q6
    obtain ⟨rfl, hw1b⟩ := hw1 q6
    have tb1 := tg_b hn hv ok1
    have hb1 := ok1.1
    refine s_aload_n rfl (cn rfl) rfl ?_
    refine s_iload_n rfl (cn rfl) rfl ?_
    refine s_virt rfl (cn rfl) rfl rfl c58 rfl (m_toldAt hn c58 c59 hv c75 ok1 hw1b hk) ?_
    rintro _ _ ⟨rfl, rfl⟩
    refine s_ireturn rfl ?_
    first
      | exact ⟨ri (if_neg q6).symm, h1', rfl, hf1, _, _, c58, c75⟩
      | exact ⟨ri (if_pos q6).symm, h1', rfl, hf1, _, _, c58, c75⟩
  · refine s_iload rfl (cn rfl) rfl ?_
    refine s_goto rfl (cn rfl) ?_
    refine s_ireturn rfl ?_
    first
      | exact ⟨ri (if_neg q6).symm, h1', rfl, hf1, _, _, c58, c75⟩
      | exact ⟨ri (if_pos q6).symm, h1', rfl, hf1, _, _, c58, c75⟩
theorem nth_b {E : Nat → Int} {m k : Nat} (hm : 2 ≤ m) (hk : k + 1 < m) : ∃ g : Nat, ino E m k = g ∧ 1 ≤ g ∧ g < m := by
  have := ino_ex (E := E) hm hk
  exact ⟨(ino E m k).toNat, by omega, by omega, by omega⟩
theorem m_better {d N S n : Nat} {kp tp pt wr fa dm ce di be od sm le sc ba bb ti rk ts tm pa wa : Int} {h : Nat → Option rr_E} (hn : 2 ≤ n ∧ n ≤ 4) (c58 : h 58 = some (MO (n : Int) kp tp pt wr fa dm ce di be od sm le sc ba bb ti rk ts tm pa wa)) {sz th ms w : Nat → Int} {it : Nat → Nat → Int} (hth : ∀ l, l < 4 → (th l = 0 ∧ sz l = -1) ∨ (th l = 1 ∧ sz l = ms l ∧ 0 ≤ sz l ∧ sz l ≤ 30)) (hit : ∀ l i, l < 4 → i < 30 → w (30 * l + i) = it l i) (c77 : h 77 = some (.inl (2, 4, .inl (fun k => ii (th k))))) (c78 : h 78 = some (.inl (0, 4, .inl (fun k => ii (ms k))))) (c79 : h 79 = some (.inl (1, 120, .inr (.inl (fun k => jj (w k)))))) {w2 : Nat → Int} (c75 : h 75 = some (.inl (1, 4, .inr (.inl (fun k => jj (w2 k)))))) (hbi : ∀ l i, b6 (it l i)) {v : Nat → Int} (c59 : h 59 = some (.inl (0, 16, .inl (fun k => ii (v k))))) (hv : ∀ k, -999 ≤ v k ∧ v k ≤ 999) {w4 : Nat → Int} (c76 : h 76 = some (.inl (1, 14, .inr (.inl (fun k => jj (w4 k)))))) {a i a2 i2 : Int} (ha : b3 a) (hi : b3 i) (ha2 : b3 a2) (hi2 : b3 i2) : rr_Calls (d + 5) j_Model_better [.ref 58, .int (ii a), .int (ii i), .int (ii a2), .int (ii i2)] (N, S, h) (fun r R => r = some (.int (ii (sp_better n v sz it a i a2 i2))) ∧ ∃ h', R = (N, S, h') ∧ fr [58, 75, 76] h h' ∧ ∃ (pb : Int) (w3 w4 : Nat → Int), h' 58 = some (MO (n : Int) kp tp pt wr fa dm ce di be od sm le sc ba bb ti rk ts tm pb wa) ∧ h' 75 = some (.inl (1, 4, .inr (.inl (fun k => jj (w3 k))))) ∧ h' 76 = some (.inl (1, 14, .inr (.inl (fun k => jj (w4 k)))))) := by
  refine rr_meth (C := K_Model_better) (hd := h_Model_better) (mx := 13) rfl rfl (fun K hK => ?_)
  have hA := al_b hn
  refine hK _ _ _ _ ?_
  refine s_aload_n rfl (cn rfl) rfl ?_
  refine s_iload_n rfl (cn rfl) rfl ?_
  refine s_iload_n rfl (cn rfl) rfl ?_
  refine s_virt rfl (cn rfl) rfl rfl c58 rfl (m_tellsS hn c58 hth hit c77 c78 c79 c75 hbi ha hi) ?_
  rintro _ _ ⟨rfl, h1', rfl, hf1, pb1, w1, c58, c75, hw1⟩
  have hr1 := rss_r n sz it a i
  have c59 := (hf1 59 (by decide)).trans c59
  have c76 := (hf1 76 (by decide)).trans c76
  have c77 := (hf1 77 (by decide)).trans c77
  have c78 := (hf1 78 (by decide)).trans c78
  have c79 := (hf1 79 (by decide)).trans c79
  refine s_istore rfl (cn rfl) ?_
  refine s_iload rfl (cn rfl) rfl ?_
  refine s_if_eq rfl (cn rfl) (cn rfl) ⟨by omega, by omega⟩ (fun q6 => ?_) (fun q6 => ?_)
  · obtain ⟨z01, ok1⟩ := rss_z q6
    obtain ⟨rfl, hw1b⟩ := hw1 q6
    have tb1 := tg_b hn hv ok1
    have hb1 := ok1.1
    refine s_iconst rfl (cn rfl) ?_
    refine s_istore rfl (ch rfl) ?_
    have lp11 : ∀ k : Nat, k ≤ al n - 1 → ∀ (h' : Nat → Option rr_E) (w5 : Nat → Int) (l5 : Option Value) (c76 : h' 76 = some (.inl (1, 14, .inr (.inl (fun k => jj (w5 k)))))) (hf : fr [76] h1' h') (hw5 : ∀ j : Nat, j < k → w5 j = tg n v it a i (ino (tg n v it a i) (al n) j).toNat), K 11 [some (.ref 58), some (.int (ii a)), some (.int (ii i)), some (.int (ii a2)), some (.int (ii i2)), l5, some (.int (ii (k : Int))), none, none, none, none, none, none] [] (N, S, h') := by
      refine dn (fun k hk ih11 => ?_)
      intro h' w5 l5 c76 hf hw5
      have c58 := (hf 58 (by decide)).trans c58
      have c59 := (hf 59 (by decide)).trans c59
      have c75 := (hf 75 (by decide)).trans c75
      have c77 := (hf 77 (by decide)).trans c77
      have c78 := (hf 78 (by decide)).trans c78
      have c79 := (hf 79 (by decide)).trans c79
      refine hK _ _ _ _ ?_
      refine s_iload rfl (cn rfl) rfl ?_
      refine s_aload_n rfl (cn rfl) rfl ?_
      refine s_virt rfl (cn rfl) rfl rfl c58 rfl (m_all hn c58) ?_
      rintro _ _ ⟨rfl, rfl⟩
      refine s_iconst rfl (cn rfl) ?_
      refine s_isub rfl (cn rfl) ?_
      refine s_icmp_ge rfl (cn rfl) (cn rfl) ⟨by omega, by omega⟩ ⟨by omega, by omega⟩ (fun q16 => ?_) (fun q16 => ?_)
      · refine s_aload_n rfl (cn rfl) rfl ?_
        refine s_getfield rfl (cn rfl) c58 rfl ?_
        refine s_lstore rfl (cn rfl) ?_
        refine s_aload_n rfl (cn rfl) rfl ?_
        refine s_iload_n rfl (cn rfl) rfl ?_
        refine s_iload rfl (cn rfl) rfl ?_
        refine s_virt rfl (cn rfl) rfl rfl c58 rfl (m_tellsS hn c58 hth hit c77 c78 c79 c75 hbi ha2 hi2) ?_
        rintro _ _ ⟨rfl, h2', rfl, hf2, pb2, w2, c58, c75, hw2⟩
        have hr2 := rss_r n sz it a2 i2
        have c59 := (hf2 59 (by decide)).trans c59
        have c76 := (hf2 76 (by decide)).trans c76
        refine s_istore rfl (cn rfl) ?_
        refine s_iload rfl (cn rfl) rfl ?_
        refine s_if_eq rfl (cn rfl) (cn rfl) ⟨by omega, by omega⟩ (fun q37 => ?_) (fun q37 => ?_)
        · obtain ⟨z02, ok2⟩ := rss_z q37
          obtain ⟨rfl, hw2b⟩ := hw2 q37
          have tb2 := tg_b hn hv ok2
          have hb2 := ok2.1
          refine s_iconst rfl (cn rfl) ?_
          refine s_istore rfl (ch rfl) ?_
          have lp42 : ∀ k2 : Nat, k2 ≤ al n - 1 → ∀ (l5 l9 l11 : Option Value) (no : ∀ j : Nat, j < k2 → tg n v it a i (ino (tg n v it a i) (al n) j).toNat * shb it a2 i2 = tg n v it a2 i2 (ino (tg n v it a2 i2) (al n) j).toNat * shb it a i), K 42 [some (.ref 58), some (.int (ii a)), some (.int (ii i)), some (.int (ii a2)), some (.int (ii i2)), l5, some (.long (jj (shb it a i))), none, some (.int (ii (k2 : Int))), l9, none, l11, none] [] (N, S, h2') := by
            refine dn (fun k2 hk2 ih42 => ?_)
            intro l5 l9 l11 no
            refine hK _ _ _ _ ?_
            refine s_iload rfl (cn rfl) rfl ?_
            refine s_aload_n rfl (cn rfl) rfl ?_
            refine s_virt rfl (cn rfl) rfl rfl c58 rfl (m_all hn c58) ?_
            rintro _ _ ⟨rfl, rfl⟩
            refine s_iconst rfl (cn rfl) ?_
            refine s_isub rfl (cn rfl) ?_
            refine s_icmp_ge rfl (cn rfl) (cn rfl) ⟨by omega, by omega⟩ ⟨by omega, by omega⟩ (fun q47 => ?_) (fun q47 => ?_)
            · refine s_iconst rfl (cn rfl) ?_
              refine s_ireturn rfl ?_
              exact ⟨ri (by unfold sp_better; rw [if_pos q6, if_pos q37]; exact (hld_0 (fun j q => no j (by omega))).symm), h2', rfl, fr_t (fr_t (fr_w hf1 (by decide)) hf (by decide)) hf2 (by decide), _, _, _, c58, c75, c76⟩
            · obtain ⟨g2, ig2, ig3, ig4⟩ := nth_b (E := tg n v it a2 i2) (m := al n) (k := k2) (by omega) (by omega)
              obtain ⟨g, ig, ig1, _⟩ := nth_b (E := tg n v it a i) (m := al n) (k := k2) (by omega) (by omega)
              have m1 := ab_mul (x := tg n v it a i g) (y := shb it a2 i2) (a := 5000000) (b := 1000) (tb1 g) (by omega) (by decide) (by decide)
              have m2 := ab_mul (x := tg n v it a2 i2 g2) (y := shb it a i) (a := 5000000) (b := 1000) (tb2 g2) (by omega) (by decide) (by decide)
              have i1 : (ino (tg n v it a i) (al n) (k2 : Int)).toNat = g := by omega
              have i2e : (ino (tg n v it a2 i2) (al n) (k2 : Int)).toNat = g2 := by omega
              have hfg : w5 k2 = tg n v it a i g := by rw [hw5 k2 (by omega), i1]
              refine s_aload_n rfl (cn rfl) rfl ?_
              refine s_getfield rfl (cn rfl) c58 rfl ?_
              refine s_iload rfl (cn rfl) rfl ?_
              refine s_laload rfl (cn rfl) _ rfl c76 (by omega) (by decide) (congrArg jj hfg) ?_
              refine s_aload_n rfl (cn rfl) rfl ?_
              refine s_getfield rfl (cn rfl) c58 rfl ?_
              refine s_lmul rfl (cn rfl) ?_
              refine s_lstore rfl (cn rfl) ?_
              refine s_aload_n rfl (cn rfl) rfl ?_
              refine s_aload_n rfl (cn rfl) rfl ?_
              refine s_iload rfl (cn rfl) rfl ?_
              refine s_virt rfl (cn rfl) rfl rfl c58 rfl (m_toldAt hn c58 c59 hv c75 ok2 hw2b (by omega)) ?_
              rintro _ _ ⟨rfl, rfl⟩
              rw [ig2]
              refine s_virt rfl (cn rfl) rfl rfl c58 rfl (m_tg hn c58 c59 hv c75 ok2 hw2b (by omega)) ?_
              rintro _ _ ⟨rfl, rfl⟩
              refine s_lload rfl (cn rfl) rfl ?_
              refine s_lmul rfl (cn rfl) ?_
              refine s_lstore rfl (cn rfl) ?_
              refine s_lload rfl (cn rfl) rfl ?_
              refine s_lload rfl (cn rfl) rfl ?_
              refine s_lcmp rfl (cn rfl) ?_
              refine s_ifl_eq rfl (cn rfl) (cn rfl) ⟨by omega, by omega⟩ ⟨by omega, by omega⟩ (fun q67 => ?_) (fun q67 => ?_)
              · refine s_iinc rfl (cn rfl) rfl ?_
                refine s_goto rfl (ch rfl) ?_
                exact ih42 (by omega) _ _ _ (fun j q => by
                    by_cases e : j = k2
                    · subst e; rw [i1, i2e]; exact q67
                    · exact no j (by omega))
              · refine s_lload rfl (cn rfl) rfl ?_
                refine s_lload rfl (cn rfl) rfl ?_
                refine s_lcmp rfl (cn rfl) ?_
                refine s_ifl_ge rfl (cn rfl) (cn rfl) ⟨by omega, by omega⟩ ⟨by omega, by omega⟩ (fun q71 => ?_) (fun q71 => ?_)
                · refine s_iconst rfl (cn rfl) ?_
                  refine s_ireturn rfl ?_
                  refine ⟨ri ?_, h2', rfl, fr_t (fr_t (fr_w hf1 (by decide)) hf (by decide)) hf2 (by decide), _, _, _, c58, c75, c76⟩
                  unfold sp_better
                  rw [if_pos q6, if_pos q37]
                  first
                    | exact (hld_1 (by omega) no (by rw [i1, i2e]; exact q71)).symm
                    | exact (hld_2 (by omega) no (by rw [i1, i2e]; omega)).symm
                · refine s_iconst rfl (cn rfl) ?_
                  refine s_goto rfl (cn rfl) ?_
                  refine s_ireturn rfl ?_
                  refine ⟨ri ?_, h2', rfl, fr_t (fr_t (fr_w hf1 (by decide)) hf (by decide)) hf2 (by decide), _, _, _, c58, c75, c76⟩
                  unfold sp_better
                  rw [if_pos q6, if_pos q37]
                  first
                    | exact (hld_1 (by omega) no (by rw [i1, i2e]; exact q71)).symm
                    | exact (hld_2 (by omega) no (by rw [i1, i2e]; omega)).symm
          exact lp42 0 (by omega) _ _ _ (fun j q => absurd q (by omega))
        · refine s_iload rfl (cn rfl) rfl ?_
          refine s_ireturn rfl ?_
          exact ⟨ri (by unfold sp_better; rw [if_pos q6, if_neg q37]), h2', rfl, fr_t (fr_t (fr_w hf1 (by decide)) hf (by decide)) hf2 (by decide), _, _, _, c58, c75, c76⟩
      · obtain ⟨g, ig, ig1, ig2⟩ := nth_b (E := tg n v it a i) (m := al n) (k := k) (by omega) (by omega)
        refine s_aload_n rfl (cn rfl) rfl ?_
        refine s_getfield rfl (cn rfl) c58 rfl ?_
        refine s_iload rfl (cn rfl) rfl ?_
        refine s_aload_n rfl (cn rfl) rfl ?_
        refine s_aload_n rfl (cn rfl) rfl ?_
        refine s_iload rfl (cn rfl) rfl ?_
        refine s_virt rfl (cn rfl) rfl rfl c58 rfl (m_toldAt hn c58 c59 hv c75 ok1 hw1b (by omega)) ?_
        rintro _ _ ⟨rfl, rfl⟩
        rw [ig]
        refine s_virt rfl (cn rfl) rfl rfl c58 rfl (m_tg hn c58 c59 hv c75 ok1 hw1b (by omega)) ?_
        rintro _ _ ⟨rfl, rfl⟩
        refine s_lastore rfl (cn rfl) _ rfl c76 (by omega) (by decide) ?_
        refine s_iinc rfl (cn rfl) rfl ?_
        refine s_goto rfl (ch rfl) ?_
        exact ih11 (by omega) _ _ _ rr_set_eq (fr_s (by decide) hf) (fun j q => by
            by_cases e : j = k
            · subst e; rw [fu_s, ig]; rfl
            · rw [fu_n e]; exact hw5 j (by omega))
    exact lp11 0 (by omega) _ _ _ c76 fr_r (fun j q => absurd q (by omega))
  · refine s_iload rfl (cn rfl) rfl ?_
    refine s_ireturn rfl ?_
    exact ⟨ri (if_neg q6).symm, h1', rfl, fr_w hf1 (by decide), _, _, _, c58, c75, c76⟩
