/-! Told shares: the calls. -/
theorem hld_cg {m : Nat} {E E' F F' : Nat → Int} {be be' : Int} (hm : 2 ≤ m) (h : ∀ k, 1 ≤ k → k < m → E k = F k) (h' : ∀ k, 1 ≤ k → k < m → E' k = F' k) : hld m E E' be be' = hld m F F' be be' := by
  have e1 : ∀ k : Nat, k < m - 1 → E (ino E m k).toNat = F (ino F m k).toNat := fun k hk => by
    have := ino_ex (E := E) hm (k := k) (by omega)
    rw [← ino_cg (E := E) (E' := F) h]
    exact h _ (by omega) (by omega)
  have e2 : ∀ k : Nat, k < m - 1 → E' (ino E' m k).toNat = F' (ino F' m k).toNat := fun k hk => by
    have := ino_ex (E := E') hm (k := k) (by omega)
    rw [← ino_cg (E := E') (E' := F') h']
    exact h' _ (by omega) (by omega)
  rcases Classical.choose_spec (isF_e 0 (fun k => E (ino E m k).toNat * be' ≠ E' (ino E' m k).toNat * be) (-1) (m - 1)) with ⟨g, g1, g2, g3, g4, _⟩ | ⟨g1, _⟩
  · have n1 : ∀ j : Nat, j < g → E (ino E m j).toNat * be' = E' (ino E' m j).toNat * be := fun j hj => Decidable.not_not.mp (g4 j (Nat.zero_le j) hj)
    have n2 : ∀ j : Nat, j < g → F (ino F m j).toNat * be' = F' (ino F' m j).toNat * be := fun j hj => by rw [← e1 j (by omega), ← e2 j (by omega)]; exact n1 j hj
    rcases Int.lt_or_gt_of_ne g3 with q | q
    · rw [hld_1 g2 n1 q, hld_1 g2 n2 (by rw [← e1 g g2, ← e2 g g2]; exact q)]
    · rw [hld_2 g2 n1 q, hld_2 g2 n2 (by rw [← e1 g g2, ← e2 g g2]; exact q)]
  · have n1 : ∀ j : Nat, j < m - 1 → E (ino E m j).toNat * be' = E' (ino E' m j).toNat * be := fun j hj => Decidable.not_not.mp (g1 j (Nat.zero_le j) hj)
    rw [hld_0 n1, hld_0 (fun j hj => by rw [← e1 j hj, ← e2 j hj]; exact n1 j hj)]
noncomputable def sp_grudgeBy (n : Nat) (v sz : Nat → Int) (it : Nat → Nat → Int) (a i g z : Int) : Int := if (1 ≤ g ∧ g < (al n : Int)) ∧ (z = 0 ∨ z = 1) ∧ rss n sz it a i = 0 then lw (tg n v it a i g.toNat) (shb it a i) z else -9223372036854775808
noncomputable def sp_shares (n : Nat) (v sz : Nat → Int) (it : Nat → Nat → Int) (a i : Int) : Int := if rss n sz it a i = 0 then (if tg n v it a i (al n) = 0 then @ite _ (∃ g, 1 ≤ g ∧ g < al n ∧ 0 < tg n v it a i g) (Classical.propDecidable _) 1 2 else 0) else rss n sz it a i
noncomputable def sp_orderedBy (n : Nat) (v sz : Nat → Int) (it : Nat → Nat → Int) (a i k : Int) : Int := if rss n sz it a i = 0 then ino (tg n v it a i) (al n) k else rss n sz it a i
noncomputable def sp_better (n : Nat) (v sz : Nat → Int) (it : Nat → Nat → Int) (a i a' i' : Int) : Int := if rss n sz it a i = 0 then (if rss n sz it a' i' = 0 then hld (al n) (tg n v it a i) (tg n v it a' i') (shb it a i) (shb it a' i') else rss n sz it a' i') else rss n sz it a i
theorem d_grudgeBy {d N S n : Nat} {v : Nat → Int} {h : Nat → Option rr_E} (hn : 2 ≤ n ∧ n ≤ 4) (c1 : h 1 = some (.inr (0, [.int (ii (n : Int)), .ref 2]))) (c2 : h 2 = some (.inl (0, 16, .inl (fun k => ii (v k))))) (hv : ∀ k, -999 ≤ v k ∧ v k ≤ 999) {sz : Nat → Int} {it : Nat → Nat → Int} (hsz : ∀ l, l < 4 → -1 ≤ sz l ∧ sz l ≤ 30) (hit : ∀ l i, b6 (it l i)) (c51 : h 51 = some (.inr (1, [.ref 52, .ref 57]))) (c52 : h 52 = some AA) (c53 : ∀ l, l < 4 → h (53 + l) = some (.inl (1, 30, .inr (.inl (fun k => jj (it l k)))))) (c57 : h 57 = some (.inl (0, 4, .inl (fun k => ii (sz k))))) {be0 x0 y0 : Int} {A0 E0 : Nat → Int} (c43 : h 43 = some (.inr (3, [.long (jj be0), .ref 44, .ref 45, .int (ii x0), .int (ii y0)]))) (c44 : h 44 = some (.inl (1, 4, .inr (.inl (fun k => jj (A0 k)))))) (c45 : h 45 = some (.inl (1, 16, .inr (.inl (fun k => jj (E0 k)))))) {sl im : Int} (c0 : h 0 = some (DO sl im)) {a i : Int} (ha : b3 a) (hi : b3 i) {g z : Int} (hg : b3 g) (hz : b3 z) : rr_Calls (d + 4) j_Desk_grudgeBy [.ref 0, .int (ii a), .int (ii i), .int (ii g), .int (ii z)] (N, S, h) (fun r R => r = some (.long (jj (sp_grudgeBy n v sz it a i g z))) ∧ ∃ h', R = (N, S, h') ∧ fr [43, 44, 45] h h' ∧ (∃ (be x y : Int) (A E : Nat → Int), h' 43 = some (.inr (3, [.long (jj be), .ref 44, .ref 45, .int (ii x), .int (ii y)])) ∧ h' 44 = some (.inl (1, 4, .inr (.inl (fun k => jj (A k))))) ∧ h' 45 = some (.inl (1, 16, .inr (.inl (fun k => jj (E k))))))) := by
  refine rr_meth (C := K_Desk_grudgeBy) (hd := h_Desk_grudgeBy) (mx := 5) rfl rfl (fun K hK => ?_)
  have hA := al_b hn
  refine hK _ _ _ _ ?_
  refine s_aload_n rfl (cn rfl) rfl ?_
  refine s_getfield rfl (cn rfl) c0 rfl ?_
  refine s_iload_n rfl (cn rfl) rfl ?_
  refine s_virt rfl (cn rfl) rfl rfl c1 rfl (u_hasPart hn c1 (by omega)) ?_
  rintro _ _ ⟨rfl, rfl⟩
  refine s_ifb_eq rfl (cn rfl) (cn rfl) (fun q4 => ?_) (fun q4 => ?_)
  · refine s_ldc2_w rfl (cn rfl) ?_
    refine s_lreturn rfl ?_
    first
      | exact ⟨rl (if_neg (fun q => q4 q.1)).symm, h, rfl, fr_r, ⟨_, _, _, _, _, c43, c44, c45⟩⟩
      | exact ⟨rl (if_neg (fun q => q7 q.2.1)).symm, h, rfl, fr_r, ⟨_, _, _, _, _, c43, c44, c45⟩⟩
      | exact ⟨rl (if_neg (fun q => q17 q.2.2)).symm, h1', rfl, hf1, ⟨_, _, _, _, _, d43, d44, d45⟩⟩
  · refine s_iload rfl (cn rfl) rfl ?_
    refine s_stat rfl (cn rfl) rfl rfl rfl (u_fpart (by omega)) ?_
    rintro _ _ ⟨rfl, rfl⟩
    refine s_ifb_eq rfl (cn rfl) (cn rfl) (fun q7 => ?_) (fun q7 => ?_)
    · refine s_ldc2_w rfl (cn rfl) ?_
      refine s_lreturn rfl ?_
      first
        | exact ⟨rl (if_neg (fun q => q4 q.1)).symm, h, rfl, fr_r, ⟨_, _, _, _, _, c43, c44, c45⟩⟩
        | exact ⟨rl (if_neg (fun q => q7 q.2.1)).symm, h, rfl, fr_r, ⟨_, _, _, _, _, c43, c44, c45⟩⟩
        | exact ⟨rl (if_neg (fun q => q17 q.2.2)).symm, h1', rfl, hf1, ⟨_, _, _, _, _, d43, d44, d45⟩⟩
    · refine s_aload_n rfl (cn rfl) rfl ?_
      refine s_getfield rfl (cn rfl) c0 rfl ?_
      refine s_iload_n rfl (cn rfl) rfl ?_
      refine s_iload_n rfl (cn rfl) rfl ?_
      refine s_aload_n rfl (cn rfl) rfl ?_
      refine s_getfield rfl (cn rfl) c0 rfl ?_
      refine s_aload_n rfl (cn rfl) rfl ?_
      refine s_getfield rfl (cn rfl) c0 rfl ?_
      refine s_virt rfl (cn rfl) rfl rfl c51 rfl (u_readS_43 hn c1 c2 hv hsz hit c51 c52 c53 c57 c43 c44 c45 ha hi) ?_
      rintro _ _ ⟨rfl, h1', rfl, hf1, be1, x1, y1, A1, E1, d43, d44, d45, hw1⟩
      have hr1 := rss_r n sz it a i
      have c0 := (hf1 0 (by decide)).trans c0
      have c1 := (hf1 1 (by decide)).trans c1
      have c2 := (hf1 2 (by decide)).trans c2
      have c43 := d43
      have c44 := d44
      have c45 := d45
      refine s_if_eq rfl (cn rfl) (cn rfl) ⟨by omega, by omega⟩ (fun q17 => ?_) (fun q17 => ?_)
      · obtain ⟨b, rfl⟩ := Int.eq_ofNat_of_zero_le (show 0 ≤ g by omega)
        obtain ⟨z01, ok1⟩ := rss_z q17
        obtain ⟨rfl, rfl, rfl, hA1, hE1⟩ := hw1 q17
        have hb1 := ok1.1
        have tb1 := tg_b hn hv ok1
        refine s_aload_n rfl (cn rfl) rfl ?_
        refine s_getfield rfl (cn rfl) c0 rfl ?_
        refine s_iload_n rfl (cn rfl) rfl ?_
        refine s_iload rfl (cn rfl) rfl ?_
        refine s_virt rfl (cn rfl) rfl rfl c43 rfl (u_grudgeOf_43 hn c43 c44 c45 (by omega) (by omega) ⟨by rw [hE1 _ (by omega) (by omega)]; have := tb1 b; omega, by rw [hE1 _ (by omega) (by omega)]; have := tb1 b; omega⟩ (by omega) (by omega) (by omega)) ?_
        rintro _ _ ⟨rfl, rfl⟩
        refine s_lreturn rfl ?_
        exact ⟨rl (by unfold sp_grudgeBy; rw [if_pos ⟨q4, q7, q17⟩, hE1 _ (by omega) (by omega)]; rfl), h1', rfl, hf1, ⟨_, _, _, _, _, d43, d44, d45⟩⟩
      · refine s_ldc2_w rfl (cn rfl) ?_
        refine s_lreturn rfl ?_
        first
          | exact ⟨rl (if_neg (fun q => q4 q.1)).symm, h, rfl, fr_r, ⟨_, _, _, _, _, c43, c44, c45⟩⟩
          | exact ⟨rl (if_neg (fun q => q7 q.2.1)).symm, h, rfl, fr_r, ⟨_, _, _, _, _, c43, c44, c45⟩⟩
          | exact ⟨rl (if_neg (fun q => q17 q.2.2)).symm, h1', rfl, hf1, ⟨_, _, _, _, _, d43, d44, d45⟩⟩
theorem d_shares {d N S n : Nat} {v : Nat → Int} {h : Nat → Option rr_E} (hn : 2 ≤ n ∧ n ≤ 4) (c1 : h 1 = some (.inr (0, [.int (ii (n : Int)), .ref 2]))) (c2 : h 2 = some (.inl (0, 16, .inl (fun k => ii (v k))))) (hv : ∀ k, -999 ≤ v k ∧ v k ≤ 999) {sz : Nat → Int} {it : Nat → Nat → Int} (hsz : ∀ l, l < 4 → -1 ≤ sz l ∧ sz l ≤ 30) (hit : ∀ l i, b6 (it l i)) (c51 : h 51 = some (.inr (1, [.ref 52, .ref 57]))) (c52 : h 52 = some AA) (c53 : ∀ l, l < 4 → h (53 + l) = some (.inl (1, 30, .inr (.inl (fun k => jj (it l k)))))) (c57 : h 57 = some (.inl (0, 4, .inl (fun k => ii (sz k))))) {be0 x0 y0 : Int} {A0 E0 : Nat → Int} (c43 : h 43 = some (.inr (3, [.long (jj be0), .ref 44, .ref 45, .int (ii x0), .int (ii y0)]))) (c44 : h 44 = some (.inl (1, 4, .inr (.inl (fun k => jj (A0 k)))))) (c45 : h 45 = some (.inl (1, 16, .inr (.inl (fun k => jj (E0 k)))))) {sl im : Int} (c0 : h 0 = some (DO sl im)) {a i : Int} (ha : b3 a) (hi : b3 i) : rr_Calls (d + 4) j_Desk_shares [.ref 0, .int (ii a), .int (ii i)] (N, S, h) (fun r R => r = some (.int (ii (sp_shares n v sz it a i))) ∧ ∃ h', R = (N, S, h') ∧ fr [43, 44, 45] h h' ∧ (∃ (be x y : Int) (A E : Nat → Int), h' 43 = some (.inr (3, [.long (jj be), .ref 44, .ref 45, .int (ii x), .int (ii y)])) ∧ h' 44 = some (.inl (1, 4, .inr (.inl (fun k => jj (A k))))) ∧ h' 45 = some (.inl (1, 16, .inr (.inl (fun k => jj (E k))))))) := by
  refine rr_meth (C := K_Desk_shares) (hd := h_Desk_shares) (mx := 4) rfl rfl (fun K hK => ?_)
  have hA := al_b hn
  refine hK _ _ _ _ ?_
  refine s_aload_n rfl (cn rfl) rfl ?_
  refine s_getfield rfl (cn rfl) c0 rfl ?_
  refine s_iload_n rfl (cn rfl) rfl ?_
  refine s_iload_n rfl (cn rfl) rfl ?_
  refine s_aload_n rfl (cn rfl) rfl ?_
  refine s_getfield rfl (cn rfl) c0 rfl ?_
  refine s_aload_n rfl (cn rfl) rfl ?_
  refine s_getfield rfl (cn rfl) c0 rfl ?_
  refine s_virt rfl (cn rfl) rfl rfl c51 rfl (u_readS_43 hn c1 c2 hv hsz hit c51 c52 c53 c57 c43 c44 c45 ha hi) ?_
  rintro _ _ ⟨rfl, h1', rfl, hf1, be1, x1, y1, A1, E1, d43, d44, d45, hw1⟩
  have hr1 := rss_r n sz it a i
  have c0 := (hf1 0 (by decide)).trans c0
  have c1 := (hf1 1 (by decide)).trans c1
  have c2 := (hf1 2 (by decide)).trans c2
  have c43 := d43
  have c44 := d44
  have c45 := d45
  refine s_istore_n rfl (cn rfl) ?_
  refine s_iload_n rfl (cn rfl) rfl ?_
  refine s_if_eq rfl (cn rfl) (cn rfl) ⟨by omega, by omega⟩ (fun q11 => ?_) (fun q11 => ?_)
  · obtain ⟨z01, ok1⟩ := rss_z q11
    obtain ⟨rfl, rfl, rfl, hA1, hE1⟩ := hw1 q11
    have hb1 := ok1.1
    have tb1 := tg_b hn hv ok1
    have eA : st_sh 4 (al n) A1 = st_sh n (al n) (sha n it a i) := by rw [sh_cg hA1, sh4 hn]
    have ta := tb1 (al n)
    have te : tg n v it a i (al n) = v (al n) * shb it a i - st_sh n (al n) (sha n it a i) := rfl
    have m2 := ab_mul (x := v (al n)) (y := shb it a i) (a := 999) (b := 1000) (hv _) (by omega) (by decide) (by decide)
    refine s_aload_n rfl (cn rfl) rfl ?_
    refine s_getfield rfl (cn rfl) c0 rfl ?_
    refine s_aload_n rfl (cn rfl) rfl ?_
    refine s_getfield rfl (cn rfl) c0 rfl ?_
    refine s_virt rfl (cn rfl) rfl rfl c43 rfl (u_good hn c1 c2 hv c43 c44 ⟨by omega, by omega⟩ ⟨by omega, by omega⟩) ?_
    rintro _ _ ⟨rfl, rfl⟩
    refine s_ifb_ne rfl (cn rfl) (cn rfl) (fun q19 => ?_) (fun q19 => ?_)
    · refine s_aload_n rfl (cn rfl) rfl ?_
      refine s_getfield rfl (cn rfl) c0 rfl ?_
      refine s_virt rfl (cn rfl) rfl rfl c43 rfl (u_any hn c43 c44 c45 (fun g g1 g2 => by rw [hE1 g g1 g2]; exact ⟨by have := tb1 g; omega, by have := tb1 g; omega⟩)) ?_
      rintro _ _ ⟨rfl, rfl⟩
      refine s_ifb_eq rfl (cn rfl) (cn rfl) (fun q25 => ?_) (fun q25 => ?_)
      · refine s_iconst rfl (cn rfl) ?_
        refine s_ireturn rfl ?_
        have eP : (∃ g, 1 ≤ g ∧ g < al n ∧ 0 < E1 g) ↔ (∃ g, 1 ≤ g ∧ g < al n ∧ 0 < tg n v it a i g) := ⟨fun ⟨g, g1, g2, g3⟩ => ⟨g, g1, g2, by rw [← hE1 g g1 g2]; exact g3⟩, fun ⟨g, g1, g2, g3⟩ => ⟨g, g1, g2, by rw [hE1 g g1 g2]; exact g3⟩⟩
        refine ⟨ri ?_, h1', rfl, hf1, ⟨_, _, _, _, _, d43, d44, d45⟩⟩
        unfold sp_shares
        rw [if_pos q11, if_pos (by omega)]
        first
          | (rw [if_pos (eP.mp q25)]; done)
          | (rw [if_neg (fun q => q25 (eP.mpr q))])
      · refine s_iconst rfl (cn rfl) ?_
        refine s_goto rfl (cn rfl) ?_
        refine s_ireturn rfl ?_
        have eP : (∃ g, 1 ≤ g ∧ g < al n ∧ 0 < E1 g) ↔ (∃ g, 1 ≤ g ∧ g < al n ∧ 0 < tg n v it a i g) := ⟨fun ⟨g, g1, g2, g3⟩ => ⟨g, g1, g2, by rw [← hE1 g g1 g2]; exact g3⟩, fun ⟨g, g1, g2, g3⟩ => ⟨g, g1, g2, by rw [hE1 g g1 g2]; exact g3⟩⟩
        refine ⟨ri ?_, h1', rfl, hf1, ⟨_, _, _, _, _, d43, d44, d45⟩⟩
        unfold sp_shares
        rw [if_pos q11, if_pos (by omega)]
        first
          | (rw [if_pos (eP.mp q25)]; done)
          | (rw [if_neg (fun q => q25 (eP.mpr q))])
    · refine s_iconst rfl (cn rfl) ?_
      refine s_ireturn rfl ?_
      exact ⟨ri (by unfold sp_shares; rw [if_pos q11, if_neg (fun q => q19 (by omega))]), h1', rfl, hf1, ⟨_, _, _, _, _, d43, d44, d45⟩⟩
  · refine s_iload_n rfl (cn rfl) rfl ?_
    refine s_ireturn rfl ?_
    exact ⟨ri (if_neg q11).symm, h1', rfl, hf1, ⟨_, _, _, _, _, d43, d44, d45⟩⟩
theorem d_orderedBy {d N S n : Nat} {v : Nat → Int} {h : Nat → Option rr_E} (hn : 2 ≤ n ∧ n ≤ 4) (c1 : h 1 = some (.inr (0, [.int (ii (n : Int)), .ref 2]))) (c2 : h 2 = some (.inl (0, 16, .inl (fun k => ii (v k))))) (hv : ∀ k, -999 ≤ v k ∧ v k ≤ 999) {sz : Nat → Int} {it : Nat → Nat → Int} (hsz : ∀ l, l < 4 → -1 ≤ sz l ∧ sz l ≤ 30) (hit : ∀ l i, b6 (it l i)) (c51 : h 51 = some (.inr (1, [.ref 52, .ref 57]))) (c52 : h 52 = some AA) (c53 : ∀ l, l < 4 → h (53 + l) = some (.inl (1, 30, .inr (.inl (fun k => jj (it l k)))))) (c57 : h 57 = some (.inl (0, 4, .inl (fun k => ii (sz k))))) {be0 x0 y0 : Int} {A0 E0 : Nat → Int} (c43 : h 43 = some (.inr (3, [.long (jj be0), .ref 44, .ref 45, .int (ii x0), .int (ii y0)]))) (c44 : h 44 = some (.inl (1, 4, .inr (.inl (fun k => jj (A0 k)))))) (c45 : h 45 = some (.inl (1, 16, .inr (.inl (fun k => jj (E0 k)))))) {sl im : Int} (c0 : h 0 = some (DO sl im)) {a i : Int} (ha : b3 a) (hi : b3 i) {k : Int} (hk : b3 k) : rr_Calls (d + 4) j_Desk_orderedBy [.ref 0, .int (ii a), .int (ii i), .int (ii k)] (N, S, h) (fun r R => r = some (.int (ii (sp_orderedBy n v sz it a i k))) ∧ ∃ h', R = (N, S, h') ∧ fr [43, 44, 45] h h' ∧ (∃ (be x y : Int) (A E : Nat → Int), h' 43 = some (.inr (3, [.long (jj be), .ref 44, .ref 45, .int (ii x), .int (ii y)])) ∧ h' 44 = some (.inl (1, 4, .inr (.inl (fun k => jj (A k))))) ∧ h' 45 = some (.inl (1, 16, .inr (.inl (fun k => jj (E k))))))) := by
  refine rr_meth (C := K_Desk_orderedBy) (hd := h_Desk_orderedBy) (mx := 5) rfl rfl (fun K hK => ?_)
  have hA := al_b hn
  refine hK _ _ _ _ ?_
  refine s_aload_n rfl (cn rfl) rfl ?_
  refine s_getfield rfl (cn rfl) c0 rfl ?_
  refine s_iload_n rfl (cn rfl) rfl ?_
  refine s_iload_n rfl (cn rfl) rfl ?_
  refine s_aload_n rfl (cn rfl) rfl ?_
  refine s_getfield rfl (cn rfl) c0 rfl ?_
  refine s_aload_n rfl (cn rfl) rfl ?_
  refine s_getfield rfl (cn rfl) c0 rfl ?_
  refine s_virt rfl (cn rfl) rfl rfl c51 rfl (u_readS_43 hn c1 c2 hv hsz hit c51 c52 c53 c57 c43 c44 c45 ha hi) ?_
  rintro _ _ ⟨rfl, h1', rfl, hf1, be1, x1, y1, A1, E1, d43, d44, d45, hw1⟩
  have hr1 := rss_r n sz it a i
  have c0 := (hf1 0 (by decide)).trans c0
  have c1 := (hf1 1 (by decide)).trans c1
  have c2 := (hf1 2 (by decide)).trans c2
  have c43 := d43
  have c44 := d44
  have c45 := d45
  refine s_istore rfl (cn rfl) ?_
  refine s_iload rfl (cn rfl) rfl ?_
  refine s_if_eq rfl (cn rfl) (cn rfl) ⟨by omega, by omega⟩ (fun q11 => ?_) (fun q11 => ?_)
  · obtain ⟨z01, ok1⟩ := rss_z q11
    obtain ⟨rfl, rfl, rfl, hA1, hE1⟩ := hw1 q11
    have hb1 := ok1.1
    have tb1 := tg_b hn hv ok1
    refine s_aload_n rfl (cn rfl) rfl ?_
    refine s_getfield rfl (cn rfl) c0 rfl ?_
    refine s_iload_n rfl (cn rfl) rfl ?_
    refine s_virt rfl (cn rfl) rfl rfl c43 rfl (u_inOrder_43 hn c43 c44 c45 (fun g g1 g2 => by rw [hE1 g g1 g2]; exact ⟨by have := tb1 g; omega, by have := tb1 g; omega⟩) hk) ?_
    rintro _ _ ⟨rfl, rfl⟩
    refine s_ireturn rfl ?_
    first
      | exact ⟨ri (if_neg q11).symm, h1', rfl, hf1, ⟨_, _, _, _, _, d43, d44, d45⟩⟩
      | exact ⟨ri (by unfold sp_orderedBy; rw [if_pos q11]; exact ino_cg hE1), h1', rfl, hf1, ⟨_, _, _, _, _, d43, d44, d45⟩⟩
  · refine s_iload rfl (cn rfl) rfl ?_
    refine s_goto rfl (cn rfl) ?_
    refine s_ireturn rfl ?_
    first
      | exact ⟨ri (if_neg q11).symm, h1', rfl, hf1, ⟨_, _, _, _, _, d43, d44, d45⟩⟩
      | exact ⟨ri (by unfold sp_orderedBy; rw [if_pos q11]; exact ino_cg hE1), h1', rfl, hf1, ⟨_, _, _, _, _, d43, d44, d45⟩⟩
