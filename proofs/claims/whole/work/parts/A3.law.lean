/-! The law's own run: call after call, class and model answer alike. -/
section
variable {C : List rr_I} {hd : List Nat} {d n k a b y : Nat} {z : Int} {Q : Option Value → rr_H → Prop} {K : Nat → rr_L → List Value → rr_H → Prop} {loc : rr_L} {st : List Value} {N S : Nat} {h : Nat → Option rr_E} {G G' : rr_L → List Value → rr_H → Prop}
theorem s_same {x : Int} {u : Int32} (he : rr_nth C k = some (.if_icmp .eq x, a, b, z)) (c1 : ct C hd d Q K n a G) (q1 : G loc st (N, S, h)) : rr_step C hd d Q K (n + 1) k loc (.int u :: .int u :: st) (N, S, h) := by
  unfold rr_step; rw [he]; exact ⟨fun _ => c1 _ _ _ q1, fun q => absurd rfl q⟩
theorem s_samel {x : Int} {u : Int64} (he : rr_nth C k = some (.ifCond .eq x, a, b, z)) (c1 : ct C hd d Q K n a G) (q1 : G loc st (N, S, h)) : rr_step C hd d Q K (n + 1) k loc (.int (lg_cmp u u) :: st) (N, S, h) := by
  unfold rr_step; rw [he]; exact ⟨fun _ => c1 _ _ _ q1, fun q => absurd (lc_eq.mpr rfl) q⟩
theorem s_lshl {u : Int64} {v : Int32} (he : rr_nth C k = some (.lshl, a, b, z)) (c : ct C hd d Q K n (k + 1) G) (g : G loc (.long (u <<< (v.toInt64 &&& 63)) :: st) (N, S, h)) : rr_step C hd d Q K (n + 1) k loc (.int v :: .long u :: st) (N, S, h) := by
  unfold rr_step; rw [he]; exact c _ _ _ g
theorem s_land {u v : Int64} (he : rr_nth C k = some (.land, a, b, z)) (c : ct C hd d Q K n (k + 1) G) (g : G loc (.long (u &&& v) :: st) (N, S, h)) : rr_step C hd d Q K (n + 1) k loc (.long v :: .long u :: st) (N, S, h) := by
  unfold rr_step; rw [he]; exact c _ _ _ g
theorem s_lor {u v : Int64} (he : rr_nth C k = some (.lor, a, b, z)) (c : ct C hd d Q K n (k + 1) G) (y : Int) (e : u ||| v = jj y) (g : G loc (.long (jj y) :: st) (N, S, h)) : rr_step C hd d Q K (n + 1) k loc (.long v :: .long u :: st) (N, S, h) := by
  unfold rr_step; rw [he]; rw [← e] at g; exact c _ _ _ g
end
def hiE (h g : Nat → Option rr_E) : Prop := ∀ k, 1000000 ≤ k → h k = g k
theorem hi_r {h : Nat → Option rr_E} : hiE h h := fun _ _ => rfl
theorem hi_set {h g : Nat → Option rr_E} {j : Nat} {c : rr_E} (hj : j < 1000000) (e : hiE h g) : hiE (rr_set h j c) g := fun k hk => (rr_set_ne (show k ≠ j by omega)).trans (e k hk)
theorem hi_setR {h g : Nat → Option rr_E} {j m : Nat} {c : rr_E} (hj : j + m ≤ 1000000) (e : hiE h g) : hiE (rr_setR h j m c) g := fun k hk => (rr_setR_out (Or.inr (show j + m ≤ k by omega))).trans (e k hk)
def sz0 : Nat → Int := fu (fu (fu (fu (fun _ => 0) 0 (-1)) 1 (-1)) 2 (-1)) 3 (-1)
theorem sz0_e : ∀ l, l < 4 → sz0 l = -1 := by decide
theorem sz0_u : upd (upd (upd (upd (fun _ => 0) 0 (-1)) 1 (-1)) 2 (-1)) 3 (-1) = fun k => ii (sz0 k) := by
  show upd (upd (upd (upd (fun k => ii ((fun _ => (0 : Int)) k)) 0 (ii (-1))) 1 (ii (-1))) 2 (ii (-1))) 3 (ii (-1)) = _
  rw [fu_u, fu_u, fu_u, fu_u]; rfl
set_option maxRecDepth 100000 in
set_option maxHeartbeats 40000000 in
theorem law_run {d L : Nat} {xs : Nat → Int32} (hL : L ≤ 2560) : rr_Calls (d + 21) j_Law_law [.ref 1000060] (0, 0, rr_ro L xs) (fun r R => r = some (.int 1) ∧ R.1 ≤ 600000 ∧ R.2.1 ≤ 7302250) := by
  refine rr_meth (C := K_Law_law) (hd := h_Law_law) (mx := 4) rfl rfl (fun K hK => ?_)
  obtain ⟨X, hX⟩ : ∃ X : Nat → Int, ∀ k, b3 (X k) ∧ xs k = ii (X k) := ⟨fun k => (xs k).toInt, fun k => ⟨⟨by have := (xs k).le_toInt; dsimp only; omega, by have := (xs k).toInt_lt; dsimp only; omega⟩, (Int32.ofInt_toInt (xs k)).symm⟩⟩
  have lp10 : ∀ S : Nat, S ≤ 7302250 → ∀ i : Nat, i ≤ 513 → ∀ (n : Nat) (v : Nat → Int) (kn : Nat) (kv : Nat → Int) (im : Int) (tl : Nat) (tp sz : Nat → Int) (it : Nat → Nat → Int) (h : Nat → Option rr_E), IA n v kn kv im tl tp sz it → ID n v kn kv im tl tp sz it h → IM n v kn kv im tl tp sz it h → IRo L xs h → K 10 [some (.ref 1000060), some (.ref 0), some (.ref 58), some (.int (ii ((5 * i : Nat) : Int)))] [] (80, S, h) := by
    intro S hS
    refine dn (fun i hi ih10 => ?_)
    intro n v kn kv im tl tp sz it h hA hD hM hR
    obtain ⟨fs0, hc0⟩ : ∃ fs, h 0 = some (.inr (6, fs)) := by
      obtain ⟨_, _, _, _, _, _, _, _, _, _, _, _, _, _, _, _, _, _, _, _, _, _, _, _, c0, _⟩ := hD
      exact ⟨_, c0⟩
    obtain ⟨fs8, hc58⟩ : ∃ fs, h 58 = some (.inr (7, fs)) := by
      obtain ⟨_, _, _, _, _, _, _, _, _, _, _, _, _, _, _, _, _, _, _, _, _, _, _, _, _, _, _, _, _, c58, _⟩ := hM
      exact ⟨_, c58⟩
    refine hK _ _ _ _ ?_
    refine s_iload_n rfl (cn rfl) rfl ?_
    refine s_aload_n rfl (cn rfl) rfl ?_
    refine s_arraylength rfl (cn rfl) (hR 1000060 (by decide)) Int32.ofInt_eq_ofNat.symm ?_
    refine s_iconst rfl (cn rfl) ?_
    refine s_isub rfl (cn rfl) ?_
    refine s_icmp_gt rfl (cn rfl) (cn rfl) ⟨by omega, by omega⟩ ⟨by omega, by omega⟩ (fun q15 => ?_) (fun q15 => ?_)
    · refine s_iconst rfl (cn rfl) ?_
      refine s_zreturn rfl (Or.inr rfl) ?_
      exact ⟨rfl, (by show (80 : Nat) ≤ 600000; decide), hS⟩
    · refine s_aload_n rfl (cn rfl) rfl ?_
      refine s_iload_n rfl (cn rfl) rfl ?_
      refine s_iaload rfl (cn rfl) (5 * i) rfl (hR 1000060 (by decide)) rfl (by omega) (by omega) (hX _).2 ?_
      refine s_bipush rfl (cn rfl) (by decide) ?_
      obtain ⟨x, hx, ex⟩ := ii_of (ii (X (5 * i)) &&& ii 63)
      obtain ⟨y, hy, hye⟩ := jj_of ((jj (X (5 * i + 3)) <<< ((ii 32).toInt64 &&& 63)) ||| (jj (X (5 * i + 4)) &&& jj 4294967295))
      refine s_iand rfl (cn rfl) x ex ?_
      refine s_tsw rfl rfl hx ?_
      refine And.intro (fun e21 => (cn rfl : ct _ _ _ _ _ _ 22 _) _ _ _ ?_) (fun n21_0 => ?_)
      · refine s_aload_n rfl (cn rfl) rfl ?_
        refine s_aload_n rfl (cn rfl) rfl ?_
        refine s_iload_n rfl (cn rfl) rfl ?_
        refine s_iconst rfl (cn rfl) ?_
        refine s_iadd rfl (cn rfl) ?_
        refine s_iaload rfl (cn rfl) (5 * i + 1) (by omega) (hR 1000060 (by decide)) rfl (by omega) (by omega) (hX _).2 ?_
        refine s_virt rfl (cn rfl) rfl rfl hc0 rfl (D_people hA hD hR (hX _).1) ?_
        rintro _ _ ⟨rfl, h1, rfl, e1, hD1, hA1⟩
        have hM1 := IM_fr (fun k a _ => e1 k a) hM
        have hR1 := IRo_fr (fun k hk => e1 k (by omega)) hR
        have hc1 := (e1 58 (Nat.le_refl _)).trans hc58
        refine s_aload_n rfl (cn rfl) rfl ?_
        refine s_aload_n rfl (cn rfl) rfl ?_
        refine s_iload_n rfl (cn rfl) rfl ?_
        refine s_iconst rfl (cn rfl) ?_
        refine s_iadd rfl (cn rfl) ?_
        refine s_iaload rfl (cn rfl) (5 * i + 1) (by omega) (hR1 1000060 (by decide)) rfl (by omega) (by omega) (hX _).2 ?_
        refine s_virt rfl (cn rfl) rfl rfl hc1 rfl (M_people hA hM1 (hX _).1) ?_
        rintro _ _ ⟨rfl, h2, rfl, e2, hM2⟩
        refine s_same rfl (cn rfl) ?_
        refine s_iinc rfl (cn rfl) rfl ?_
        refine s_goto rfl (ch rfl) ?_
        exact ih10 (by omega) _ _ _ _ _ _ _ _ _ h2 hA1 (ID_fr (fun k hk => e2 k (Or.inl hk)) hD1) hM2 (IRo_fr (fun k hk => e2 k (Or.inr (by omega))) hR1)
      refine And.intro (fun e21 => (cn rfl : ct _ _ _ _ _ _ 39 _) _ _ _ ?_) (fun n21_1 => ?_)
      · refine s_aload_n rfl (cn rfl) rfl ?_
        refine s_aload_n rfl (cn rfl) rfl ?_
        refine s_iload_n rfl (cn rfl) rfl ?_
        refine s_iconst rfl (cn rfl) ?_
        refine s_iadd rfl (cn rfl) ?_
        refine s_iaload rfl (cn rfl) (5 * i + 1) (by omega) (hR 1000060 (by decide)) rfl (by omega) (by omega) (hX _).2 ?_
        refine s_aload_n rfl (cn rfl) rfl ?_
        refine s_iload_n rfl (cn rfl) rfl ?_
        refine s_iconst rfl (cn rfl) ?_
        refine s_iadd rfl (cn rfl) ?_
        refine s_iaload rfl (cn rfl) (5 * i + 2) (by omega) (hR 1000060 (by decide)) rfl (by omega) (by omega) (hX _).2 ?_
        refine s_virt rfl (cn rfl) rfl rfl hc0 rfl (D_worth hA hD hR (hX _).1 (hX _).1) ?_
        rintro _ _ ⟨rfl, h1, rfl, e1, hD1, hA1⟩
        have hM1 := IM_fr (fun k a _ => e1 k a) hM
        have hR1 := IRo_fr (fun k hk => e1 k (by omega)) hR
        have hc1 := (e1 58 (Nat.le_refl _)).trans hc58
        refine s_aload_n rfl (cn rfl) rfl ?_
        refine s_aload_n rfl (cn rfl) rfl ?_
        refine s_iload_n rfl (cn rfl) rfl ?_
        refine s_iconst rfl (cn rfl) ?_
        refine s_iadd rfl (cn rfl) ?_
        refine s_iaload rfl (cn rfl) (5 * i + 1) (by omega) (hR1 1000060 (by decide)) rfl (by omega) (by omega) (hX _).2 ?_
        refine s_aload_n rfl (cn rfl) rfl ?_
        refine s_iload_n rfl (cn rfl) rfl ?_
        refine s_iconst rfl (cn rfl) ?_
        refine s_iadd rfl (cn rfl) ?_
        refine s_iaload rfl (cn rfl) (5 * i + 2) (by omega) (hR1 1000060 (by decide)) rfl (by omega) (by omega) (hX _).2 ?_
        refine s_virt rfl (cn rfl) rfl rfl hc1 rfl (M_worth hA hM1 (hX _).1 (hX _).1) ?_
        rintro _ _ ⟨rfl, h2, rfl, e2, hM2⟩
        refine s_lcmp rfl (cn rfl) ?_
        refine s_samel rfl (cn rfl) ?_
        refine s_iinc rfl (cn rfl) rfl ?_
        refine s_goto rfl (ch rfl) ?_
        exact ih10 (by omega) _ _ _ _ _ _ _ _ _ h2 hA1 (ID_fr (fun k hk => e2 k (Or.inl hk)) hD1) hM2 (IRo_fr (fun k hk => e2 k (Or.inr (by omega))) hR1)
      refine And.intro (fun e21 => (cn rfl : ct _ _ _ _ _ _ 67 _) _ _ _ ?_) (fun n21_2 => ?_)
      · refine s_aload_n rfl (cn rfl) rfl ?_
        refine s_aload_n rfl (cn rfl) rfl ?_
        refine s_iload_n rfl (cn rfl) rfl ?_
        refine s_iconst rfl (cn rfl) ?_
        refine s_iadd rfl (cn rfl) ?_
        refine s_iaload rfl (cn rfl) (5 * i + 1) (by omega) (hR 1000060 (by decide)) rfl (by omega) (by omega) (hX _).2 ?_
        refine s_virt rfl (cn rfl) rfl rfl hc0 rfl (D_worthOf hA hD hR (hX _).1) ?_
        rintro _ _ ⟨rfl, h1, rfl, e1, hD1, hA1⟩
        have hM1 := IM_fr (fun k a _ => e1 k a) hM
        have hR1 := IRo_fr (fun k hk => e1 k (by omega)) hR
        have hc1 := (e1 58 (Nat.le_refl _)).trans hc58
        refine s_aload_n rfl (cn rfl) rfl ?_
        refine s_aload_n rfl (cn rfl) rfl ?_
        refine s_iload_n rfl (cn rfl) rfl ?_
        refine s_iconst rfl (cn rfl) ?_
        refine s_iadd rfl (cn rfl) ?_
        refine s_iaload rfl (cn rfl) (5 * i + 1) (by omega) (hR1 1000060 (by decide)) rfl (by omega) (by omega) (hX _).2 ?_
        refine s_virt rfl (cn rfl) rfl rfl hc1 rfl (M_worthOf hA hM1 (hX _).1) ?_
        rintro _ _ ⟨rfl, h2, rfl, e2, hM2⟩
        refine s_lcmp rfl (cn rfl) ?_
        refine s_samel rfl (cn rfl) ?_
        refine s_iinc rfl (cn rfl) rfl ?_
        refine s_goto rfl (ch rfl) ?_
        exact ih10 (by omega) _ _ _ _ _ _ _ _ _ h2 hA1 (ID_fr (fun k hk => e2 k (Or.inl hk)) hD1) hM2 (IRo_fr (fun k hk => e2 k (Or.inr (by omega))) hR1)
      refine And.intro (fun e21 => (cn rfl : ct _ _ _ _ _ _ 85 _) _ _ _ ?_) (fun n21_3 => ?_)
      · refine s_aload_n rfl (cn rfl) rfl ?_
        refine s_aload_n rfl (cn rfl) rfl ?_
        refine s_iload_n rfl (cn rfl) rfl ?_
        refine s_iconst rfl (cn rfl) ?_
        refine s_iadd rfl (cn rfl) ?_
        refine s_iaload rfl (cn rfl) (5 * i + 1) (by omega) (hR 1000060 (by decide)) rfl (by omega) (by omega) (hX _).2 ?_
        refine s_virt rfl (cn rfl) rfl rfl hc0 rfl (D_feed hA hD hR (hX _).1) ?_
        rintro _ _ ⟨rfl, h1, rfl, e1, hD1, hA1⟩
        have hM1 := IM_fr (fun k a _ => e1 k a) hM
        have hR1 := IRo_fr (fun k hk => e1 k (by omega)) hR
        have hc1 := (e1 58 (Nat.le_refl _)).trans hc58
        refine s_aload_n rfl (cn rfl) rfl ?_
        refine s_aload_n rfl (cn rfl) rfl ?_
        refine s_iload_n rfl (cn rfl) rfl ?_
        refine s_iconst rfl (cn rfl) ?_
        refine s_iadd rfl (cn rfl) ?_
        refine s_iaload rfl (cn rfl) (5 * i + 1) (by omega) (hR1 1000060 (by decide)) rfl (by omega) (by omega) (hX _).2 ?_
        refine s_virt rfl (cn rfl) rfl rfl hc1 rfl (M_feed hA hM1 (hX _).1) ?_
        rintro _ _ ⟨rfl, h2, rfl, e2, hM2⟩
        refine s_same rfl (cn rfl) ?_
        refine s_iinc rfl (cn rfl) rfl ?_
        refine s_goto rfl (ch rfl) ?_
        exact ih10 (by omega) _ _ _ _ _ _ _ _ _ h2 hA1 (ID_fr (fun k hk => e2 k (Or.inl hk)) hD1) hM2 (IRo_fr (fun k hk => e2 k (Or.inr (by omega))) hR1)
      refine And.intro (fun e21 => (cn rfl : ct _ _ _ _ _ _ 102 _) _ _ _ ?_) (fun n21_4 => ?_)
      · refine s_aload_n rfl (cn rfl) rfl ?_
        refine s_virt rfl (cn rfl) rfl rfl hc0 rfl (D_clear hA hD hR ) ?_
        rintro _ _ ⟨rfl, h1, rfl, e1, hD1, hA1⟩
        have hM1 := IM_fr (fun k a _ => e1 k a) hM
        have hR1 := IRo_fr (fun k hk => e1 k (by omega)) hR
        have hc1 := (e1 58 (Nat.le_refl _)).trans hc58
        refine s_aload_n rfl (cn rfl) rfl ?_
        refine s_virt rfl (cn rfl) rfl rfl hc1 rfl (M_clear hA hM1 ) ?_
        rintro _ _ ⟨rfl, h2, rfl, e2, hM2⟩
        refine s_same rfl (cn rfl) ?_
        refine s_iinc rfl (cn rfl) rfl ?_
        refine s_goto rfl (ch rfl) ?_
        exact ih10 (by omega) _ _ _ _ _ _ _ _ _ h2 hA1 (ID_fr (fun k hk => e2 k (Or.inl hk)) hD1) hM2 (IRo_fr (fun k hk => e2 k (Or.inr (by omega))) hR1)
      refine And.intro (fun e21 => (cn rfl : ct _ _ _ _ _ _ 109 _) _ _ _ ?_) (fun n21_5 => ?_)
      · refine s_aload_n rfl (cn rfl) rfl ?_
        refine s_virt rfl (cn rfl) rfl rfl hc0 rfl (D_deeds hA hD hR ) ?_
        rintro _ _ ⟨rfl, h1, rfl, e1, hD1, hA1⟩
        have hM1 := IM_fr (fun k a _ => e1 k a) hM
        have hR1 := IRo_fr (fun k hk => e1 k (by omega)) hR
        have hc1 := (e1 58 (Nat.le_refl _)).trans hc58
        refine s_aload_n rfl (cn rfl) rfl ?_
        refine s_virt rfl (cn rfl) rfl rfl hc1 rfl (M_deeds hA hM1 ) ?_
        rintro _ _ ⟨rfl, h2, rfl, e2, hM2⟩
        refine s_same rfl (cn rfl) ?_
        refine s_iinc rfl (cn rfl) rfl ?_
        refine s_goto rfl (ch rfl) ?_
        exact ih10 (by omega) _ _ _ _ _ _ _ _ _ h2 hA1 (ID_fr (fun k hk => e2 k (Or.inl hk)) hD1) hM2 (IRo_fr (fun k hk => e2 k (Or.inr (by omega))) hR1)
      refine And.intro (fun e21 => (cn rfl : ct _ _ _ _ _ _ 116 _) _ _ _ ?_) (fun n21_6 => ?_)
      · refine s_aload_n rfl (cn rfl) rfl ?_
        refine s_aload_n rfl (cn rfl) rfl ?_
        refine s_iload_n rfl (cn rfl) rfl ?_
        refine s_iconst rfl (cn rfl) ?_
        refine s_iadd rfl (cn rfl) ?_
        refine s_iaload rfl (cn rfl) (5 * i + 1) (by omega) (hR 1000060 (by decide)) rfl (by omega) (by omega) (hX _).2 ?_
        refine s_virt rfl (cn rfl) rfl rfl hc0 rfl (D_told hA hD hR (hX _).1) ?_
        rintro _ _ ⟨rfl, h1, rfl, e1, hD1, hA1⟩
        have hM1 := IM_fr (fun k a _ => e1 k a) hM
        have hR1 := IRo_fr (fun k hk => e1 k (by omega)) hR
        have hc1 := (e1 58 (Nat.le_refl _)).trans hc58
        refine s_aload_n rfl (cn rfl) rfl ?_
        refine s_aload_n rfl (cn rfl) rfl ?_
        refine s_iload_n rfl (cn rfl) rfl ?_
        refine s_iconst rfl (cn rfl) ?_
        refine s_iadd rfl (cn rfl) ?_
        refine s_iaload rfl (cn rfl) (5 * i + 1) (by omega) (hR1 1000060 (by decide)) rfl (by omega) (by omega) (hX _).2 ?_
        refine s_virt rfl (cn rfl) rfl rfl hc1 rfl (M_told hA hM1 (hX _).1) ?_
        rintro _ _ ⟨rfl, h2, rfl, e2, hM2⟩
        refine s_same rfl (cn rfl) ?_
        refine s_iinc rfl (cn rfl) rfl ?_
        refine s_goto rfl (ch rfl) ?_
        exact ih10 (by omega) _ _ _ _ _ _ _ _ _ h2 hA1 (ID_fr (fun k hk => e2 k (Or.inl hk)) hD1) hM2 (IRo_fr (fun k hk => e2 k (Or.inr (by omega))) hR1)
      refine And.intro (fun e21 => (cn rfl : ct _ _ _ _ _ _ 133 _) _ _ _ ?_) (fun n21_7 => ?_)
      · refine s_aload_n rfl (cn rfl) rfl ?_
        refine s_virt rfl (cn rfl) rfl rfl hc0 rfl (D_stages hA hD hR ) ?_
        rintro _ _ ⟨rfl, h1, rfl, e1, hD1, hA1⟩
        have hM1 := IM_fr (fun k a _ => e1 k a) hM
        have hR1 := IRo_fr (fun k hk => e1 k (by omega)) hR
        have hc1 := (e1 58 (Nat.le_refl _)).trans hc58
        refine s_aload_n rfl (cn rfl) rfl ?_
        refine s_virt rfl (cn rfl) rfl rfl hc1 rfl (M_stages hA hM1 ) ?_
        rintro _ _ ⟨rfl, h2, rfl, e2, hM2⟩
        refine s_same rfl (cn rfl) ?_
        refine s_iinc rfl (cn rfl) rfl ?_
        refine s_goto rfl (ch rfl) ?_
        exact ih10 (by omega) _ _ _ _ _ _ _ _ _ h2 hA1 (ID_fr (fun k hk => e2 k (Or.inl hk)) hD1) hM2 (IRo_fr (fun k hk => e2 k (Or.inr (by omega))) hR1)
      refine And.intro (fun e21 => (cn rfl : ct _ _ _ _ _ _ 140 _) _ _ _ ?_) (fun n21_8 => ?_)
      · refine s_aload_n rfl (cn rfl) rfl ?_
        refine s_aload_n rfl (cn rfl) rfl ?_
        refine s_iload_n rfl (cn rfl) rfl ?_
        refine s_iconst rfl (cn rfl) ?_
        refine s_iadd rfl (cn rfl) ?_
        refine s_iaload rfl (cn rfl) (5 * i + 1) (by omega) (hR 1000060 (by decide)) rfl (by omega) (by omega) (hX _).2 ?_
        refine s_aload_n rfl (cn rfl) rfl ?_
        refine s_iload_n rfl (cn rfl) rfl ?_
        refine s_iconst rfl (cn rfl) ?_
        refine s_iadd rfl (cn rfl) ?_
        refine s_iaload rfl (cn rfl) (5 * i + 2) (by omega) (hR 1000060 (by decide)) rfl (by omega) (by omega) (hX _).2 ?_
        refine s_virt rfl (cn rfl) rfl rfl hc0 rfl (D_level hA hD hR (hX _).1 (hX _).1) ?_
        rintro _ _ ⟨rfl, h1, rfl, e1, hD1, hA1⟩
        have hM1 := IM_fr (fun k a _ => e1 k a) hM
        have hR1 := IRo_fr (fun k hk => e1 k (by omega)) hR
        have hc1 := (e1 58 (Nat.le_refl _)).trans hc58
        refine s_aload_n rfl (cn rfl) rfl ?_
        refine s_aload_n rfl (cn rfl) rfl ?_
        refine s_iload_n rfl (cn rfl) rfl ?_
        refine s_iconst rfl (cn rfl) ?_
        refine s_iadd rfl (cn rfl) ?_
        refine s_iaload rfl (cn rfl) (5 * i + 1) (by omega) (hR1 1000060 (by decide)) rfl (by omega) (by omega) (hX _).2 ?_
        refine s_aload_n rfl (cn rfl) rfl ?_
        refine s_iload_n rfl (cn rfl) rfl ?_
        refine s_iconst rfl (cn rfl) ?_
        refine s_iadd rfl (cn rfl) ?_
        refine s_iaload rfl (cn rfl) (5 * i + 2) (by omega) (hR1 1000060 (by decide)) rfl (by omega) (by omega) (hX _).2 ?_
        refine s_virt rfl (cn rfl) rfl rfl hc1 rfl (M_level hA hM1 (hX _).1 (hX _).1) ?_
        rintro _ _ ⟨rfl, h2, rfl, e2, hM2⟩
        refine s_lcmp rfl (cn rfl) ?_
        refine s_samel rfl (cn rfl) ?_
        refine s_iinc rfl (cn rfl) rfl ?_
        refine s_goto rfl (ch rfl) ?_
        exact ih10 (by omega) _ _ _ _ _ _ _ _ _ h2 hA1 (ID_fr (fun k hk => e2 k (Or.inl hk)) hD1) hM2 (IRo_fr (fun k hk => e2 k (Or.inr (by omega))) hR1)
      refine And.intro (fun e21 => (cn rfl : ct _ _ _ _ _ _ 168 _) _ _ _ ?_) (fun n21_9 => ?_)
      · refine s_aload_n rfl (cn rfl) rfl ?_
        refine s_aload_n rfl (cn rfl) rfl ?_
        refine s_iload_n rfl (cn rfl) rfl ?_
        refine s_iconst rfl (cn rfl) ?_
        refine s_iadd rfl (cn rfl) ?_
        refine s_iaload rfl (cn rfl) (5 * i + 1) (by omega) (hR 1000060 (by decide)) rfl (by omega) (by omega) (hX _).2 ?_
        refine s_virt rfl (cn rfl) rfl rfl hc0 rfl (D_fixed hA hD hR (hX _).1) ?_
        rintro _ _ ⟨rfl, h1, rfl, e1, hD1, hA1⟩
        have hM1 := IM_fr (fun k a _ => e1 k a) hM
        have hR1 := IRo_fr (fun k hk => e1 k (by omega)) hR
        have hc1 := (e1 58 (Nat.le_refl _)).trans hc58
        refine s_aload_n rfl (cn rfl) rfl ?_
        refine s_aload_n rfl (cn rfl) rfl ?_
        refine s_iload_n rfl (cn rfl) rfl ?_
        refine s_iconst rfl (cn rfl) ?_
        refine s_iadd rfl (cn rfl) ?_
        refine s_iaload rfl (cn rfl) (5 * i + 1) (by omega) (hR1 1000060 (by decide)) rfl (by omega) (by omega) (hX _).2 ?_
        refine s_virt rfl (cn rfl) rfl rfl hc1 rfl (M_fixed hA hM1 (hX _).1) ?_
        rintro _ _ ⟨rfl, h2, rfl, e2, hM2⟩
        refine s_same rfl (cn rfl) ?_
        refine s_iinc rfl (cn rfl) rfl ?_
        refine s_goto rfl (ch rfl) ?_
        exact ih10 (by omega) _ _ _ _ _ _ _ _ _ h2 hA1 (ID_fr (fun k hk => e2 k (Or.inl hk)) hD1) hM2 (IRo_fr (fun k hk => e2 k (Or.inr (by omega))) hR1)
      refine And.intro (fun e21 => (cn rfl : ct _ _ _ _ _ _ 185 _) _ _ _ ?_) (fun n21_10 => ?_)
      · refine s_aload_n rfl (cn rfl) rfl ?_
        refine s_aload_n rfl (cn rfl) rfl ?_
        refine s_iload_n rfl (cn rfl) rfl ?_
        refine s_iconst rfl (cn rfl) ?_
        refine s_iadd rfl (cn rfl) ?_
        refine s_iaload rfl (cn rfl) (5 * i + 1) (by omega) (hR 1000060 (by decide)) rfl (by omega) (by omega) (hX _).2 ?_
        refine s_virt rfl (cn rfl) rfl rfl hc0 rfl (D_stageOf hA hD hR (hX _).1) ?_
        rintro _ _ ⟨rfl, h1, rfl, e1, hD1, hA1⟩
        have hM1 := IM_fr (fun k a _ => e1 k a) hM
        have hR1 := IRo_fr (fun k hk => e1 k (by omega)) hR
        have hc1 := (e1 58 (Nat.le_refl _)).trans hc58
        refine s_aload_n rfl (cn rfl) rfl ?_
        refine s_aload_n rfl (cn rfl) rfl ?_
        refine s_iload_n rfl (cn rfl) rfl ?_
        refine s_iconst rfl (cn rfl) ?_
        refine s_iadd rfl (cn rfl) ?_
        refine s_iaload rfl (cn rfl) (5 * i + 1) (by omega) (hR1 1000060 (by decide)) rfl (by omega) (by omega) (hX _).2 ?_
        refine s_virt rfl (cn rfl) rfl rfl hc1 rfl (M_stageOf hA hM1 (hX _).1) ?_
        rintro _ _ ⟨rfl, h2, rfl, e2, hM2⟩
        refine s_same rfl (cn rfl) ?_
        refine s_iinc rfl (cn rfl) rfl ?_
        refine s_goto rfl (ch rfl) ?_
        exact ih10 (by omega) _ _ _ _ _ _ _ _ _ h2 hA1 (ID_fr (fun k hk => e2 k (Or.inl hk)) hD1) hM2 (IRo_fr (fun k hk => e2 k (Or.inr (by omega))) hR1)
      refine And.intro (fun e21 => (cn rfl : ct _ _ _ _ _ _ 202 _) _ _ _ ?_) (fun n21_11 => ?_)
      · refine s_aload_n rfl (cn rfl) rfl ?_
        refine s_aload_n rfl (cn rfl) rfl ?_
        refine s_iload_n rfl (cn rfl) rfl ?_
        refine s_iconst rfl (cn rfl) ?_
        refine s_iadd rfl (cn rfl) ?_
        refine s_iaload rfl (cn rfl) (5 * i + 1) (by omega) (hR 1000060 (by decide)) rfl (by omega) (by omega) (hX _).2 ?_
        refine s_aload_n rfl (cn rfl) rfl ?_
        refine s_iload_n rfl (cn rfl) rfl ?_
        refine s_iconst rfl (cn rfl) ?_
        refine s_iadd rfl (cn rfl) ?_
        refine s_iaload rfl (cn rfl) (5 * i + 2) (by omega) (hR 1000060 (by decide)) rfl (by omega) (by omega) (hX _).2 ?_
        refine s_virt rfl (cn rfl) rfl rfl hc0 rfl (D_fair hA hD hR (hX _).1 (hX _).1) ?_
        rintro _ _ ⟨rfl, h1, rfl, e1, hD1, hA1⟩
        have hM1 := IM_fr (fun k a _ => e1 k a) hM
        have hR1 := IRo_fr (fun k hk => e1 k (by omega)) hR
        have hc1 := (e1 58 (Nat.le_refl _)).trans hc58
        refine s_aload_n rfl (cn rfl) rfl ?_
        refine s_aload_n rfl (cn rfl) rfl ?_
        refine s_iload_n rfl (cn rfl) rfl ?_
        refine s_iconst rfl (cn rfl) ?_
        refine s_iadd rfl (cn rfl) ?_
        refine s_iaload rfl (cn rfl) (5 * i + 1) (by omega) (hR1 1000060 (by decide)) rfl (by omega) (by omega) (hX _).2 ?_
        refine s_aload_n rfl (cn rfl) rfl ?_
        refine s_iload_n rfl (cn rfl) rfl ?_
        refine s_iconst rfl (cn rfl) ?_
        refine s_iadd rfl (cn rfl) ?_
        refine s_iaload rfl (cn rfl) (5 * i + 2) (by omega) (hR1 1000060 (by decide)) rfl (by omega) (by omega) (hX _).2 ?_
        refine s_virt rfl (cn rfl) rfl rfl hc1 rfl (M_fair hA hM1 (hX _).1 (hX _).1) ?_
        rintro _ _ ⟨rfl, h2, rfl, e2, hM2⟩
        refine s_lcmp rfl (cn rfl) ?_
        refine s_samel rfl (cn rfl) ?_
        refine s_iinc rfl (cn rfl) rfl ?_
        refine s_goto rfl (ch rfl) ?_
        exact ih10 (by omega) _ _ _ _ _ _ _ _ _ h2 hA1 (ID_fr (fun k hk => e2 k (Or.inl hk)) hD1) hM2 (IRo_fr (fun k hk => e2 k (Or.inr (by omega))) hR1)
      refine And.intro (fun e21 => (cn rfl : ct _ _ _ _ _ _ 230 _) _ _ _ ?_) (fun n21_12 => ?_)
      · refine s_aload_n rfl (cn rfl) rfl ?_
        refine s_aload_n rfl (cn rfl) rfl ?_
        refine s_iload_n rfl (cn rfl) rfl ?_
        refine s_iconst rfl (cn rfl) ?_
        refine s_iadd rfl (cn rfl) ?_
        refine s_iaload rfl (cn rfl) (5 * i + 1) (by omega) (hR 1000060 (by decide)) rfl (by omega) (by omega) (hX _).2 ?_
        refine s_aload_n rfl (cn rfl) rfl ?_
        refine s_iload_n rfl (cn rfl) rfl ?_
        refine s_iconst rfl (cn rfl) ?_
        refine s_iadd rfl (cn rfl) ?_
        refine s_iaload rfl (cn rfl) (5 * i + 2) (by omega) (hR 1000060 (by decide)) rfl (by omega) (by omega) (hX _).2 ?_
        refine s_virt rfl (cn rfl) rfl rfl hc0 rfl (D_grudge hA hD hR (hX _).1 (hX _).1) ?_
        rintro _ _ ⟨rfl, h1, rfl, e1, hD1, hA1⟩
        have hM1 := IM_fr (fun k a _ => e1 k a) hM
        have hR1 := IRo_fr (fun k hk => e1 k (by omega)) hR
        have hc1 := (e1 58 (Nat.le_refl _)).trans hc58
        refine s_aload_n rfl (cn rfl) rfl ?_
        refine s_aload_n rfl (cn rfl) rfl ?_
        refine s_iload_n rfl (cn rfl) rfl ?_
        refine s_iconst rfl (cn rfl) ?_
        refine s_iadd rfl (cn rfl) ?_
        refine s_iaload rfl (cn rfl) (5 * i + 1) (by omega) (hR1 1000060 (by decide)) rfl (by omega) (by omega) (hX _).2 ?_
        refine s_aload_n rfl (cn rfl) rfl ?_
        refine s_iload_n rfl (cn rfl) rfl ?_
        refine s_iconst rfl (cn rfl) ?_
        refine s_iadd rfl (cn rfl) ?_
        refine s_iaload rfl (cn rfl) (5 * i + 2) (by omega) (hR1 1000060 (by decide)) rfl (by omega) (by omega) (hX _).2 ?_
        refine s_virt rfl (cn rfl) rfl rfl hc1 rfl (M_grudge hA hM1 (hX _).1 (hX _).1) ?_
        rintro _ _ ⟨rfl, h2, rfl, e2, hM2⟩
        refine s_lcmp rfl (cn rfl) ?_
        refine s_samel rfl (cn rfl) ?_
        refine s_iinc rfl (cn rfl) rfl ?_
        refine s_goto rfl (ch rfl) ?_
        exact ih10 (by omega) _ _ _ _ _ _ _ _ _ h2 hA1 (ID_fr (fun k hk => e2 k (Or.inl hk)) hD1) hM2 (IRo_fr (fun k hk => e2 k (Or.inr (by omega))) hR1)
      refine And.intro (fun e21 => (cn rfl : ct _ _ _ _ _ _ 258 _) _ _ _ ?_) (fun n21_13 => ?_)
      · refine s_aload_n rfl (cn rfl) rfl ?_
        refine s_aload_n rfl (cn rfl) rfl ?_
        refine s_iload_n rfl (cn rfl) rfl ?_
        refine s_iconst rfl (cn rfl) ?_
        refine s_iadd rfl (cn rfl) ?_
        refine s_iaload rfl (cn rfl) (5 * i + 1) (by omega) (hR 1000060 (by decide)) rfl (by omega) (by omega) (hX _).2 ?_
        refine s_virt rfl (cn rfl) rfl rfl hc0 rfl (D_ordered hA hD hR (hX _).1) ?_
        rintro _ _ ⟨rfl, h1, rfl, e1, hD1, hA1⟩
        have hM1 := IM_fr (fun k a _ => e1 k a) hM
        have hR1 := IRo_fr (fun k hk => e1 k (by omega)) hR
        have hc1 := (e1 58 (Nat.le_refl _)).trans hc58
        refine s_aload_n rfl (cn rfl) rfl ?_
        refine s_aload_n rfl (cn rfl) rfl ?_
        refine s_iload_n rfl (cn rfl) rfl ?_
        refine s_iconst rfl (cn rfl) ?_
        refine s_iadd rfl (cn rfl) ?_
        refine s_iaload rfl (cn rfl) (5 * i + 1) (by omega) (hR1 1000060 (by decide)) rfl (by omega) (by omega) (hX _).2 ?_
        refine s_virt rfl (cn rfl) rfl rfl hc1 rfl (M_ordered hA hM1 (hX _).1) ?_
        rintro _ _ ⟨rfl, h2, rfl, e2, hM2⟩
        refine s_same rfl (cn rfl) ?_
        refine s_iinc rfl (cn rfl) rfl ?_
        refine s_goto rfl (ch rfl) ?_
        exact ih10 (by omega) _ _ _ _ _ _ _ _ _ h2 hA1 (ID_fr (fun k hk => e2 k (Or.inl hk)) hD1) hM2 (IRo_fr (fun k hk => e2 k (Or.inr (by omega))) hR1)
      refine And.intro (fun e21 => (cn rfl : ct _ _ _ _ _ _ 275 _) _ _ _ ?_) (fun n21_14 => ?_)
      · refine s_aload_n rfl (cn rfl) rfl ?_
        refine s_virt rfl (cn rfl) rfl rfl hc0 rfl (D_empty hA hD hR ) ?_
        rintro _ _ ⟨rfl, h1, rfl, e1, hD1, hA1⟩
        have hM1 := IM_fr (fun k a _ => e1 k a) hM
        have hR1 := IRo_fr (fun k hk => e1 k (by omega)) hR
        have hc1 := (e1 58 (Nat.le_refl _)).trans hc58
        refine s_aload_n rfl (cn rfl) rfl ?_
        refine s_virt rfl (cn rfl) rfl rfl hc1 rfl (M_empty hA hM1 ) ?_
        rintro _ _ ⟨rfl, h2, rfl, e2, hM2⟩
        refine s_same rfl (cn rfl) ?_
        refine s_iinc rfl (cn rfl) rfl ?_
        refine s_goto rfl (ch rfl) ?_
        exact ih10 (by omega) _ _ _ _ _ _ _ _ _ h2 hA1 (ID_fr (fun k hk => e2 k (Or.inl hk)) hD1) hM2 (IRo_fr (fun k hk => e2 k (Or.inr (by omega))) hR1)
      refine And.intro (fun e21 => (cn rfl : ct _ _ _ _ _ _ 282 _) _ _ _ ?_) (fun n21_15 => ?_)
      · refine s_aload_n rfl (cn rfl) rfl ?_
        refine s_aload_n rfl (cn rfl) rfl ?_
        refine s_iload_n rfl (cn rfl) rfl ?_
        refine s_iconst rfl (cn rfl) ?_
        refine s_iadd rfl (cn rfl) ?_
        refine s_iaload rfl (cn rfl) (5 * i + 1) (by omega) (hR 1000060 (by decide)) rfl (by omega) (by omega) (hX _).2 ?_
        refine s_virt rfl (cn rfl) rfl rfl hc0 rfl (D_cost hA hD hR (hX _).1) ?_
        rintro _ _ ⟨rfl, h1, rfl, e1, hD1, hA1⟩
        have hM1 := IM_fr (fun k a _ => e1 k a) hM
        have hR1 := IRo_fr (fun k hk => e1 k (by omega)) hR
        have hc1 := (e1 58 (Nat.le_refl _)).trans hc58
        refine s_aload_n rfl (cn rfl) rfl ?_
        refine s_aload_n rfl (cn rfl) rfl ?_
        refine s_iload_n rfl (cn rfl) rfl ?_
        refine s_iconst rfl (cn rfl) ?_
        refine s_iadd rfl (cn rfl) ?_
        refine s_iaload rfl (cn rfl) (5 * i + 1) (by omega) (hR1 1000060 (by decide)) rfl (by omega) (by omega) (hX _).2 ?_
        refine s_virt rfl (cn rfl) rfl rfl hc1 rfl (M_cost hA hM1 (hX _).1) ?_
        rintro _ _ ⟨rfl, h2, rfl, e2, hM2⟩
        refine s_lcmp rfl (cn rfl) ?_
        refine s_samel rfl (cn rfl) ?_
        refine s_iinc rfl (cn rfl) rfl ?_
        refine s_goto rfl (ch rfl) ?_
        exact ih10 (by omega) _ _ _ _ _ _ _ _ _ h2 hA1 (ID_fr (fun k hk => e2 k (Or.inl hk)) hD1) hM2 (IRo_fr (fun k hk => e2 k (Or.inr (by omega))) hR1)
      refine And.intro (fun e21 => (cn rfl : ct _ _ _ _ _ _ 300 _) _ _ _ ?_) (fun n21_16 => ?_)
      · refine s_aload_n rfl (cn rfl) rfl ?_
        refine s_aload_n rfl (cn rfl) rfl ?_
        refine s_iload_n rfl (cn rfl) rfl ?_
        refine s_iconst rfl (cn rfl) ?_
        refine s_iadd rfl (cn rfl) ?_
        refine s_iaload rfl (cn rfl) (5 * i + 1) (by omega) (hR 1000060 (by decide)) rfl (by omega) (by omega) (hX _).2 ?_
        refine s_aload_n rfl (cn rfl) rfl ?_
        refine s_iload_n rfl (cn rfl) rfl ?_
        refine s_iconst rfl (cn rfl) ?_
        refine s_iadd rfl (cn rfl) ?_
        refine s_iaload rfl (cn rfl) (5 * i + 2) (by omega) (hR 1000060 (by decide)) rfl (by omega) (by omega) (hX _).2 ?_
        refine s_virt rfl (cn rfl) rfl rfl hc0 rfl (D_byTurns hA hD hR (hX _).1 (hX _).1) ?_
        rintro _ _ ⟨rfl, h1, rfl, e1, hD1, hA1⟩
        have hM1 := IM_fr (fun k a _ => e1 k a) hM
        have hR1 := IRo_fr (fun k hk => e1 k (by omega)) hR
        have hc1 := (e1 58 (Nat.le_refl _)).trans hc58
        refine s_aload_n rfl (cn rfl) rfl ?_
        refine s_aload_n rfl (cn rfl) rfl ?_
        refine s_iload_n rfl (cn rfl) rfl ?_
        refine s_iconst rfl (cn rfl) ?_
        refine s_iadd rfl (cn rfl) ?_
        refine s_iaload rfl (cn rfl) (5 * i + 1) (by omega) (hR1 1000060 (by decide)) rfl (by omega) (by omega) (hX _).2 ?_
        refine s_aload_n rfl (cn rfl) rfl ?_
        refine s_iload_n rfl (cn rfl) rfl ?_
        refine s_iconst rfl (cn rfl) ?_
        refine s_iadd rfl (cn rfl) ?_
        refine s_iaload rfl (cn rfl) (5 * i + 2) (by omega) (hR1 1000060 (by decide)) rfl (by omega) (by omega) (hX _).2 ?_
        refine s_virt rfl (cn rfl) rfl rfl hc1 rfl (M_byTurns hA hM1 (hX _).1 (hX _).1) ?_
        rintro _ _ ⟨rfl, h2, rfl, e2, hM2⟩
        refine s_lcmp rfl (cn rfl) ?_
        refine s_samel rfl (cn rfl) ?_
        refine s_iinc rfl (cn rfl) rfl ?_
        refine s_goto rfl (ch rfl) ?_
        exact ih10 (by omega) _ _ _ _ _ _ _ _ _ h2 hA1 (ID_fr (fun k hk => e2 k (Or.inl hk)) hD1) hM2 (IRo_fr (fun k hk => e2 k (Or.inr (by omega))) hR1)
      refine And.intro (fun e21 => (cn rfl : ct _ _ _ _ _ _ 328 _) _ _ _ ?_) (fun n21_17 => ?_)
      · refine s_aload_n rfl (cn rfl) rfl ?_
        refine s_aload_n rfl (cn rfl) rfl ?_
        refine s_iload_n rfl (cn rfl) rfl ?_
        refine s_iconst rfl (cn rfl) ?_
        refine s_iadd rfl (cn rfl) ?_
        refine s_iaload rfl (cn rfl) (5 * i + 1) (by omega) (hR 1000060 (by decide)) rfl (by omega) (by omega) (hX _).2 ?_
        refine s_aload_n rfl (cn rfl) rfl ?_
        refine s_iload_n rfl (cn rfl) rfl ?_
        refine s_iconst rfl (cn rfl) ?_
        refine s_iadd rfl (cn rfl) ?_
        refine s_iaload rfl (cn rfl) (5 * i + 2) (by omega) (hR 1000060 (by decide)) rfl (by omega) (by omega) (hX _).2 ?_
        refine s_aload_n rfl (cn rfl) rfl ?_
        refine s_iload_n rfl (cn rfl) rfl ?_
        refine s_iconst rfl (cn rfl) ?_
        refine s_iadd rfl (cn rfl) ?_
        refine s_iaload rfl (cn rfl) (5 * i + 3) (by omega) (hR 1000060 (by decide)) rfl (by omega) (by omega) (hX _).2 ?_
        refine s_virt rfl (cn rfl) rfl rfl hc0 rfl (D_surplus hA hD hR (hX _).1 (hX _).1 (hX _).1) ?_
        rintro _ _ ⟨rfl, h1, rfl, e1, hD1, hA1⟩
        have hM1 := IM_fr (fun k a _ => e1 k a) hM
        have hR1 := IRo_fr (fun k hk => e1 k (by omega)) hR
        have hc1 := (e1 58 (Nat.le_refl _)).trans hc58
        refine s_aload_n rfl (cn rfl) rfl ?_
        refine s_aload_n rfl (cn rfl) rfl ?_
        refine s_iload_n rfl (cn rfl) rfl ?_
        refine s_iconst rfl (cn rfl) ?_
        refine s_iadd rfl (cn rfl) ?_
        refine s_iaload rfl (cn rfl) (5 * i + 1) (by omega) (hR1 1000060 (by decide)) rfl (by omega) (by omega) (hX _).2 ?_
        refine s_aload_n rfl (cn rfl) rfl ?_
        refine s_iload_n rfl (cn rfl) rfl ?_
        refine s_iconst rfl (cn rfl) ?_
        refine s_iadd rfl (cn rfl) ?_
        refine s_iaload rfl (cn rfl) (5 * i + 2) (by omega) (hR1 1000060 (by decide)) rfl (by omega) (by omega) (hX _).2 ?_
        refine s_aload_n rfl (cn rfl) rfl ?_
        refine s_iload_n rfl (cn rfl) rfl ?_
        refine s_iconst rfl (cn rfl) ?_
        refine s_iadd rfl (cn rfl) ?_
        refine s_iaload rfl (cn rfl) (5 * i + 3) (by omega) (hR1 1000060 (by decide)) rfl (by omega) (by omega) (hX _).2 ?_
        refine s_virt rfl (cn rfl) rfl rfl hc1 rfl (M_surplus hA hM1 (hX _).1 (hX _).1 (hX _).1) ?_
        rintro _ _ ⟨rfl, h2, rfl, e2, hM2⟩
        refine s_lcmp rfl (cn rfl) ?_
        refine s_samel rfl (cn rfl) ?_
        refine s_iinc rfl (cn rfl) rfl ?_
        refine s_goto rfl (ch rfl) ?_
        exact ih10 (by omega) _ _ _ _ _ _ _ _ _ h2 hA1 (ID_fr (fun k hk => e2 k (Or.inl hk)) hD1) hM2 (IRo_fr (fun k hk => e2 k (Or.inr (by omega))) hR1)
      refine And.intro (fun e21 => (cn rfl : ct _ _ _ _ _ _ 366 _) _ _ _ ?_) (fun n21_18 => ?_)
      · refine s_aload_n rfl (cn rfl) rfl ?_
        refine s_aload_n rfl (cn rfl) rfl ?_
        refine s_iload_n rfl (cn rfl) rfl ?_
        refine s_iconst rfl (cn rfl) ?_
        refine s_iadd rfl (cn rfl) ?_
        refine s_iaload rfl (cn rfl) (5 * i + 1) (by omega) (hR 1000060 (by decide)) rfl (by omega) (by omega) (hX _).2 ?_
        refine s_aload_n rfl (cn rfl) rfl ?_
        refine s_iload_n rfl (cn rfl) rfl ?_
        refine s_iconst rfl (cn rfl) ?_
        refine s_iadd rfl (cn rfl) ?_
        refine s_iaload rfl (cn rfl) (5 * i + 2) (by omega) (hR 1000060 (by decide)) rfl (by omega) (by omega) (hX _).2 ?_
        refine s_aload_n rfl (cn rfl) rfl ?_
        refine s_iload_n rfl (cn rfl) rfl ?_
        refine s_iconst rfl (cn rfl) ?_
        refine s_iadd rfl (cn rfl) ?_
        refine s_iaload rfl (cn rfl) (5 * i + 3) (by omega) (hR 1000060 (by decide)) rfl (by omega) (by omega) (hX _).2 ?_
        refine s_aload_n rfl (cn rfl) rfl ?_
        refine s_iload_n rfl (cn rfl) rfl ?_
        refine s_iconst rfl (cn rfl) ?_
        refine s_iadd rfl (cn rfl) ?_
        refine s_iaload rfl (cn rfl) (5 * i + 4) (by omega) (hR 1000060 (by decide)) rfl (by omega) (by omega) (hX _).2 ?_
        refine s_virt rfl (cn rfl) rfl rfl hc0 rfl (D_would hA hD hR (hX _).1 (hX _).1 (hX _).1 (hX _).1) ?_
        rintro _ _ ⟨rfl, h1, rfl, e1, hD1, hA1⟩
        have hM1 := IM_fr (fun k a _ => e1 k a) hM
        have hR1 := IRo_fr (fun k hk => e1 k (by omega)) hR
        have hc1 := (e1 58 (Nat.le_refl _)).trans hc58
        refine s_aload_n rfl (cn rfl) rfl ?_
        refine s_aload_n rfl (cn rfl) rfl ?_
        refine s_iload_n rfl (cn rfl) rfl ?_
        refine s_iconst rfl (cn rfl) ?_
        refine s_iadd rfl (cn rfl) ?_
        refine s_iaload rfl (cn rfl) (5 * i + 1) (by omega) (hR1 1000060 (by decide)) rfl (by omega) (by omega) (hX _).2 ?_
        refine s_aload_n rfl (cn rfl) rfl ?_
        refine s_iload_n rfl (cn rfl) rfl ?_
        refine s_iconst rfl (cn rfl) ?_
        refine s_iadd rfl (cn rfl) ?_
        refine s_iaload rfl (cn rfl) (5 * i + 2) (by omega) (hR1 1000060 (by decide)) rfl (by omega) (by omega) (hX _).2 ?_
        refine s_aload_n rfl (cn rfl) rfl ?_
        refine s_iload_n rfl (cn rfl) rfl ?_
        refine s_iconst rfl (cn rfl) ?_
        refine s_iadd rfl (cn rfl) ?_
        refine s_iaload rfl (cn rfl) (5 * i + 3) (by omega) (hR1 1000060 (by decide)) rfl (by omega) (by omega) (hX _).2 ?_
        refine s_aload_n rfl (cn rfl) rfl ?_
        refine s_iload_n rfl (cn rfl) rfl ?_
        refine s_iconst rfl (cn rfl) ?_
        refine s_iadd rfl (cn rfl) ?_
        refine s_iaload rfl (cn rfl) (5 * i + 4) (by omega) (hR1 1000060 (by decide)) rfl (by omega) (by omega) (hX _).2 ?_
        refine s_virt rfl (cn rfl) rfl rfl hc1 rfl (M_would hA hM1 (hX _).1 (hX _).1 (hX _).1 (hX _).1) ?_
        rintro _ _ ⟨rfl, h2, rfl, e2, hM2⟩
        refine s_lcmp rfl (cn rfl) ?_
        refine s_samel rfl (cn rfl) ?_
        refine s_iinc rfl (cn rfl) rfl ?_
        refine s_goto rfl (ch rfl) ?_
        exact ih10 (by omega) _ _ _ _ _ _ _ _ _ h2 hA1 (ID_fr (fun k hk => e2 k (Or.inl hk)) hD1) hM2 (IRo_fr (fun k hk => e2 k (Or.inr (by omega))) hR1)
      refine And.intro (fun e21 => (cn rfl : ct _ _ _ _ _ _ 414 _) _ _ _ ?_) (fun n21_19 => ?_)
      · refine s_aload_n rfl (cn rfl) rfl ?_
        refine s_aload_n rfl (cn rfl) rfl ?_
        refine s_iload_n rfl (cn rfl) rfl ?_
        refine s_iconst rfl (cn rfl) ?_
        refine s_iadd rfl (cn rfl) ?_
        refine s_iaload rfl (cn rfl) (5 * i + 1) (by omega) (hR 1000060 (by decide)) rfl (by omega) (by omega) (hX _).2 ?_
        refine s_aload_n rfl (cn rfl) rfl ?_
        refine s_iload_n rfl (cn rfl) rfl ?_
        refine s_iconst rfl (cn rfl) ?_
        refine s_iadd rfl (cn rfl) ?_
        refine s_iaload rfl (cn rfl) (5 * i + 2) (by omega) (hR 1000060 (by decide)) rfl (by omega) (by omega) (hX _).2 ?_
        refine s_aload_n rfl (cn rfl) rfl ?_
        refine s_iload_n rfl (cn rfl) rfl ?_
        refine s_iconst rfl (cn rfl) ?_
        refine s_iadd rfl (cn rfl) ?_
        refine s_iaload rfl (cn rfl) (5 * i + 3) (by omega) (hR 1000060 (by decide)) rfl (by omega) (by omega) (hX _).2 ?_
        refine s_virt rfl (cn rfl) rfl rfl hc0 rfl (D_needs hA hD hR (hX _).1 (hX _).1 (hX _).1) ?_
        rintro _ _ ⟨rfl, h1, rfl, e1, hD1, hA1⟩
        have hM1 := IM_fr (fun k a _ => e1 k a) hM
        have hR1 := IRo_fr (fun k hk => e1 k (by omega)) hR
        have hc1 := (e1 58 (Nat.le_refl _)).trans hc58
        refine s_aload_n rfl (cn rfl) rfl ?_
        refine s_aload_n rfl (cn rfl) rfl ?_
        refine s_iload_n rfl (cn rfl) rfl ?_
        refine s_iconst rfl (cn rfl) ?_
        refine s_iadd rfl (cn rfl) ?_
        refine s_iaload rfl (cn rfl) (5 * i + 1) (by omega) (hR1 1000060 (by decide)) rfl (by omega) (by omega) (hX _).2 ?_
        refine s_aload_n rfl (cn rfl) rfl ?_
        refine s_iload_n rfl (cn rfl) rfl ?_
        refine s_iconst rfl (cn rfl) ?_
        refine s_iadd rfl (cn rfl) ?_
        refine s_iaload rfl (cn rfl) (5 * i + 2) (by omega) (hR1 1000060 (by decide)) rfl (by omega) (by omega) (hX _).2 ?_
        refine s_aload_n rfl (cn rfl) rfl ?_
        refine s_iload_n rfl (cn rfl) rfl ?_
        refine s_iconst rfl (cn rfl) ?_
        refine s_iadd rfl (cn rfl) ?_
        refine s_iaload rfl (cn rfl) (5 * i + 3) (by omega) (hR1 1000060 (by decide)) rfl (by omega) (by omega) (hX _).2 ?_
        refine s_virt rfl (cn rfl) rfl rfl hc1 rfl (M_needs hA hM1 (hX _).1 (hX _).1 (hX _).1) ?_
        rintro _ _ ⟨rfl, h2, rfl, e2, hM2⟩
        refine s_lcmp rfl (cn rfl) ?_
        refine s_samel rfl (cn rfl) ?_
        refine s_iinc rfl (cn rfl) rfl ?_
        refine s_goto rfl (ch rfl) ?_
        exact ih10 (by omega) _ _ _ _ _ _ _ _ _ h2 hA1 (ID_fr (fun k hk => e2 k (Or.inl hk)) hD1) hM2 (IRo_fr (fun k hk => e2 k (Or.inr (by omega))) hR1)
      refine And.intro (fun e21 => (cn rfl : ct _ _ _ _ _ _ 452 _) _ _ _ ?_) (fun n21_20 => ?_)
      · refine s_aload_n rfl (cn rfl) rfl ?_
        refine s_aload_n rfl (cn rfl) rfl ?_
        refine s_iload_n rfl (cn rfl) rfl ?_
        refine s_iconst rfl (cn rfl) ?_
        refine s_iadd rfl (cn rfl) ?_
        refine s_iaload rfl (cn rfl) (5 * i + 1) (by omega) (hR 1000060 (by decide)) rfl (by omega) (by omega) (hX _).2 ?_
        refine s_virt rfl (cn rfl) rfl rfl hc0 rfl (D_is hA hD hR (hX _).1) ?_
        rintro _ _ ⟨rfl, h1, rfl, e1, hD1, hA1⟩
        have hM1 := IM_fr (fun k a _ => e1 k a) hM
        have hR1 := IRo_fr (fun k hk => e1 k (by omega)) hR
        have hc1 := (e1 58 (Nat.le_refl _)).trans hc58
        refine s_aload_n rfl (cn rfl) rfl ?_
        refine s_aload_n rfl (cn rfl) rfl ?_
        refine s_iload_n rfl (cn rfl) rfl ?_
        refine s_iconst rfl (cn rfl) ?_
        refine s_iadd rfl (cn rfl) ?_
        refine s_iaload rfl (cn rfl) (5 * i + 1) (by omega) (hR1 1000060 (by decide)) rfl (by omega) (by omega) (hX _).2 ?_
        refine s_virt rfl (cn rfl) rfl rfl hc1 rfl (M_is hA hM1 (hX _).1) ?_
        rintro _ _ ⟨rfl, h2, rfl, e2, hM2⟩
        refine s_same rfl (cn rfl) ?_
        refine s_iinc rfl (cn rfl) rfl ?_
        refine s_goto rfl (ch rfl) ?_
        exact ih10 (by omega) _ _ _ _ _ _ _ _ _ h2 hA1 (ID_fr (fun k hk => e2 k (Or.inl hk)) hD1) hM2 (IRo_fr (fun k hk => e2 k (Or.inr (by omega))) hR1)
      refine And.intro (fun e21 => (cn rfl : ct _ _ _ _ _ _ 469 _) _ _ _ ?_) (fun n21_21 => ?_)
      · refine s_aload_n rfl (cn rfl) rfl ?_
        refine s_virt rfl (cn rfl) rfl rfl hc0 rfl (D_idle hA hD hR ) ?_
        rintro _ _ ⟨rfl, h1, rfl, e1, hD1, hA1⟩
        have hM1 := IM_fr (fun k a _ => e1 k a) hM
        have hR1 := IRo_fr (fun k hk => e1 k (by omega)) hR
        have hc1 := (e1 58 (Nat.le_refl _)).trans hc58
        refine s_aload_n rfl (cn rfl) rfl ?_
        refine s_virt rfl (cn rfl) rfl rfl hc1 rfl (M_idle hA hM1 ) ?_
        rintro _ _ ⟨rfl, h2, rfl, e2, hM2⟩
        refine s_same rfl (cn rfl) ?_
        refine s_iinc rfl (cn rfl) rfl ?_
        refine s_goto rfl (ch rfl) ?_
        exact ih10 (by omega) _ _ _ _ _ _ _ _ _ h2 hA1 (ID_fr (fun k hk => e2 k (Or.inl hk)) hD1) hM2 (IRo_fr (fun k hk => e2 k (Or.inr (by omega))) hR1)
      refine And.intro (fun e21 => (cn rfl : ct _ _ _ _ _ _ 476 _) _ _ _ ?_) (fun n21_22 => ?_)
      · refine s_aload_n rfl (cn rfl) rfl ?_
        refine s_aload_n rfl (cn rfl) rfl ?_
        refine s_iload_n rfl (cn rfl) rfl ?_
        refine s_iconst rfl (cn rfl) ?_
        refine s_iadd rfl (cn rfl) ?_
        refine s_iaload rfl (cn rfl) (5 * i + 1) (by omega) (hR 1000060 (by decide)) rfl (by omega) (by omega) (hX _).2 ?_
        refine s_virt rfl (cn rfl) rfl rfl hc0 rfl (D_alike hA hD hR (hX _).1) ?_
        rintro _ _ ⟨rfl, h1, rfl, e1, hD1, hA1⟩
        have hM1 := IM_fr (fun k a _ => e1 k a) hM
        have hR1 := IRo_fr (fun k hk => e1 k (by omega)) hR
        have hc1 := (e1 58 (Nat.le_refl _)).trans hc58
        refine s_aload_n rfl (cn rfl) rfl ?_
        refine s_aload_n rfl (cn rfl) rfl ?_
        refine s_iload_n rfl (cn rfl) rfl ?_
        refine s_iconst rfl (cn rfl) ?_
        refine s_iadd rfl (cn rfl) ?_
        refine s_iaload rfl (cn rfl) (5 * i + 1) (by omega) (hR1 1000060 (by decide)) rfl (by omega) (by omega) (hX _).2 ?_
        refine s_virt rfl (cn rfl) rfl rfl hc1 rfl (M_alike hA hM1 (hX _).1) ?_
        rintro _ _ ⟨rfl, h2, rfl, e2, hM2⟩
        refine s_same rfl (cn rfl) ?_
        refine s_iinc rfl (cn rfl) rfl ?_
        refine s_goto rfl (ch rfl) ?_
        exact ih10 (by omega) _ _ _ _ _ _ _ _ _ h2 hA1 (ID_fr (fun k hk => e2 k (Or.inl hk)) hD1) hM2 (IRo_fr (fun k hk => e2 k (Or.inr (by omega))) hR1)
      refine And.intro (fun e21 => (cn rfl : ct _ _ _ _ _ _ 493 _) _ _ _ ?_) (fun n21_23 => ?_)
      · refine s_aload_n rfl (cn rfl) rfl ?_
        refine s_aload_n rfl (cn rfl) rfl ?_
        refine s_iload_n rfl (cn rfl) rfl ?_
        refine s_iconst rfl (cn rfl) ?_
        refine s_iadd rfl (cn rfl) ?_
        refine s_iaload rfl (cn rfl) (5 * i + 1) (by omega) (hR 1000060 (by decide)) rfl (by omega) (by omega) (hX _).2 ?_
        refine s_virt rfl (cn rfl) rfl rfl hc0 rfl (D_against hA hD hR (hX _).1) ?_
        rintro _ _ ⟨rfl, h1, rfl, e1, hD1, hA1⟩
        have hM1 := IM_fr (fun k a _ => e1 k a) hM
        have hR1 := IRo_fr (fun k hk => e1 k (by omega)) hR
        have hc1 := (e1 58 (Nat.le_refl _)).trans hc58
        refine s_aload_n rfl (cn rfl) rfl ?_
        refine s_aload_n rfl (cn rfl) rfl ?_
        refine s_iload_n rfl (cn rfl) rfl ?_
        refine s_iconst rfl (cn rfl) ?_
        refine s_iadd rfl (cn rfl) ?_
        refine s_iaload rfl (cn rfl) (5 * i + 1) (by omega) (hR1 1000060 (by decide)) rfl (by omega) (by omega) (hX _).2 ?_
        refine s_virt rfl (cn rfl) rfl rfl hc1 rfl (M_against hA hM1 (hX _).1) ?_
        rintro _ _ ⟨rfl, h2, rfl, e2, hM2⟩
        refine s_same rfl (cn rfl) ?_
        refine s_iinc rfl (cn rfl) rfl ?_
        refine s_goto rfl (ch rfl) ?_
        exact ih10 (by omega) _ _ _ _ _ _ _ _ _ h2 hA1 (ID_fr (fun k hk => e2 k (Or.inl hk)) hD1) hM2 (IRo_fr (fun k hk => e2 k (Or.inr (by omega))) hR1)
      refine And.intro (fun e21 => (cn rfl : ct _ _ _ _ _ _ 510 _) _ _ _ ?_) (fun n21_24 => ?_)
      · refine s_aload_n rfl (cn rfl) rfl ?_
        refine s_aload_n rfl (cn rfl) rfl ?_
        refine s_iload_n rfl (cn rfl) rfl ?_
        refine s_iconst rfl (cn rfl) ?_
        refine s_iadd rfl (cn rfl) ?_
        refine s_iaload rfl (cn rfl) (5 * i + 1) (by omega) (hR 1000060 (by decide)) rfl (by omega) (by omega) (hX _).2 ?_
        refine s_aload_n rfl (cn rfl) rfl ?_
        refine s_iload_n rfl (cn rfl) rfl ?_
        refine s_iconst rfl (cn rfl) ?_
        refine s_iadd rfl (cn rfl) ?_
        refine s_iaload rfl (cn rfl) (5 * i + 2) (by omega) (hR 1000060 (by decide)) rfl (by omega) (by omega) (hX _).2 ?_
        refine s_aload_n rfl (cn rfl) rfl ?_
        refine s_iload_n rfl (cn rfl) rfl ?_
        refine s_iconst rfl (cn rfl) ?_
        refine s_iadd rfl (cn rfl) ?_
        refine s_iaload rfl (cn rfl) (5 * i + 3) (by omega) (hR 1000060 (by decide)) rfl (by omega) (by omega) (hX _).2 ?_
        refine s_aload_n rfl (cn rfl) rfl ?_
        refine s_iload_n rfl (cn rfl) rfl ?_
        refine s_iconst rfl (cn rfl) ?_
        refine s_iadd rfl (cn rfl) ?_
        refine s_iaload rfl (cn rfl) (5 * i + 4) (by omega) (hR 1000060 (by decide)) rfl (by omega) (by omega) (hX _).2 ?_
        refine s_virt rfl (cn rfl) rfl rfl hc0 rfl (D_grudgeBy hA hD hR (hX _).1 (hX _).1 (hX _).1 (hX _).1) ?_
        rintro _ _ ⟨rfl, h1, rfl, e1, hD1, hA1⟩
        have hM1 := IM_fr (fun k a _ => e1 k a) hM
        have hR1 := IRo_fr (fun k hk => e1 k (by omega)) hR
        have hc1 := (e1 58 (Nat.le_refl _)).trans hc58
        refine s_aload_n rfl (cn rfl) rfl ?_
        refine s_aload_n rfl (cn rfl) rfl ?_
        refine s_iload_n rfl (cn rfl) rfl ?_
        refine s_iconst rfl (cn rfl) ?_
        refine s_iadd rfl (cn rfl) ?_
        refine s_iaload rfl (cn rfl) (5 * i + 1) (by omega) (hR1 1000060 (by decide)) rfl (by omega) (by omega) (hX _).2 ?_
        refine s_aload_n rfl (cn rfl) rfl ?_
        refine s_iload_n rfl (cn rfl) rfl ?_
        refine s_iconst rfl (cn rfl) ?_
        refine s_iadd rfl (cn rfl) ?_
        refine s_iaload rfl (cn rfl) (5 * i + 2) (by omega) (hR1 1000060 (by decide)) rfl (by omega) (by omega) (hX _).2 ?_
        refine s_aload_n rfl (cn rfl) rfl ?_
        refine s_iload_n rfl (cn rfl) rfl ?_
        refine s_iconst rfl (cn rfl) ?_
        refine s_iadd rfl (cn rfl) ?_
        refine s_iaload rfl (cn rfl) (5 * i + 3) (by omega) (hR1 1000060 (by decide)) rfl (by omega) (by omega) (hX _).2 ?_
        refine s_aload_n rfl (cn rfl) rfl ?_
        refine s_iload_n rfl (cn rfl) rfl ?_
        refine s_iconst rfl (cn rfl) ?_
        refine s_iadd rfl (cn rfl) ?_
        refine s_iaload rfl (cn rfl) (5 * i + 4) (by omega) (hR1 1000060 (by decide)) rfl (by omega) (by omega) (hX _).2 ?_
        refine s_virt rfl (cn rfl) rfl rfl hc1 rfl (M_grudgeBy hA hM1 (hX _).1 (hX _).1 (hX _).1 (hX _).1) ?_
        rintro _ _ ⟨rfl, h2, rfl, e2, hM2⟩
        refine s_lcmp rfl (cn rfl) ?_
        refine s_samel rfl (cn rfl) ?_
        refine s_iinc rfl (cn rfl) rfl ?_
        refine s_goto rfl (ch rfl) ?_
        exact ih10 (by omega) _ _ _ _ _ _ _ _ _ h2 hA1 (ID_fr (fun k hk => e2 k (Or.inl hk)) hD1) hM2 (IRo_fr (fun k hk => e2 k (Or.inr (by omega))) hR1)
      refine And.intro (fun e21 => (cn rfl : ct _ _ _ _ _ _ 558 _) _ _ _ ?_) (fun n21_25 => ?_)
      · refine s_aload_n rfl (cn rfl) rfl ?_
        refine s_aload_n rfl (cn rfl) rfl ?_
        refine s_iload_n rfl (cn rfl) rfl ?_
        refine s_iconst rfl (cn rfl) ?_
        refine s_iadd rfl (cn rfl) ?_
        refine s_iaload rfl (cn rfl) (5 * i + 1) (by omega) (hR 1000060 (by decide)) rfl (by omega) (by omega) (hX _).2 ?_
        refine s_aload_n rfl (cn rfl) rfl ?_
        refine s_iload_n rfl (cn rfl) rfl ?_
        refine s_iconst rfl (cn rfl) ?_
        refine s_iadd rfl (cn rfl) ?_
        refine s_iaload rfl (cn rfl) (5 * i + 2) (by omega) (hR 1000060 (by decide)) rfl (by omega) (by omega) (hX _).2 ?_
        refine s_virt rfl (cn rfl) rfl rfl hc0 rfl (D_shares hA hD hR (hX _).1 (hX _).1) ?_
        rintro _ _ ⟨rfl, h1, rfl, e1, hD1, hA1⟩
        have hM1 := IM_fr (fun k a _ => e1 k a) hM
        have hR1 := IRo_fr (fun k hk => e1 k (by omega)) hR
        have hc1 := (e1 58 (Nat.le_refl _)).trans hc58
        refine s_aload_n rfl (cn rfl) rfl ?_
        refine s_aload_n rfl (cn rfl) rfl ?_
        refine s_iload_n rfl (cn rfl) rfl ?_
        refine s_iconst rfl (cn rfl) ?_
        refine s_iadd rfl (cn rfl) ?_
        refine s_iaload rfl (cn rfl) (5 * i + 1) (by omega) (hR1 1000060 (by decide)) rfl (by omega) (by omega) (hX _).2 ?_
        refine s_aload_n rfl (cn rfl) rfl ?_
        refine s_iload_n rfl (cn rfl) rfl ?_
        refine s_iconst rfl (cn rfl) ?_
        refine s_iadd rfl (cn rfl) ?_
        refine s_iaload rfl (cn rfl) (5 * i + 2) (by omega) (hR1 1000060 (by decide)) rfl (by omega) (by omega) (hX _).2 ?_
        refine s_virt rfl (cn rfl) rfl rfl hc1 rfl (M_shares hA hM1 (hX _).1 (hX _).1) ?_
        rintro _ _ ⟨rfl, h2, rfl, e2, hM2⟩
        refine s_same rfl (cn rfl) ?_
        refine s_iinc rfl (cn rfl) rfl ?_
        refine s_goto rfl (ch rfl) ?_
        exact ih10 (by omega) _ _ _ _ _ _ _ _ _ h2 hA1 (ID_fr (fun k hk => e2 k (Or.inl hk)) hD1) hM2 (IRo_fr (fun k hk => e2 k (Or.inr (by omega))) hR1)
      refine And.intro (fun e21 => (cn rfl : ct _ _ _ _ _ _ 585 _) _ _ _ ?_) (fun n21_26 => ?_)
      · refine s_aload_n rfl (cn rfl) rfl ?_
        refine s_aload_n rfl (cn rfl) rfl ?_
        refine s_iload_n rfl (cn rfl) rfl ?_
        refine s_iconst rfl (cn rfl) ?_
        refine s_iadd rfl (cn rfl) ?_
        refine s_iaload rfl (cn rfl) (5 * i + 1) (by omega) (hR 1000060 (by decide)) rfl (by omega) (by omega) (hX _).2 ?_
        refine s_aload_n rfl (cn rfl) rfl ?_
        refine s_iload_n rfl (cn rfl) rfl ?_
        refine s_iconst rfl (cn rfl) ?_
        refine s_iadd rfl (cn rfl) ?_
        refine s_iaload rfl (cn rfl) (5 * i + 2) (by omega) (hR 1000060 (by decide)) rfl (by omega) (by omega) (hX _).2 ?_
        refine s_aload_n rfl (cn rfl) rfl ?_
        refine s_iload_n rfl (cn rfl) rfl ?_
        refine s_iconst rfl (cn rfl) ?_
        refine s_iadd rfl (cn rfl) ?_
        refine s_iaload rfl (cn rfl) (5 * i + 3) (by omega) (hR 1000060 (by decide)) rfl (by omega) (by omega) (hX _).2 ?_
        refine s_virt rfl (cn rfl) rfl rfl hc0 rfl (D_orderedBy hA hD hR (hX _).1 (hX _).1 (hX _).1) ?_
        rintro _ _ ⟨rfl, h1, rfl, e1, hD1, hA1⟩
        have hM1 := IM_fr (fun k a _ => e1 k a) hM
        have hR1 := IRo_fr (fun k hk => e1 k (by omega)) hR
        have hc1 := (e1 58 (Nat.le_refl _)).trans hc58
        refine s_aload_n rfl (cn rfl) rfl ?_
        refine s_aload_n rfl (cn rfl) rfl ?_
        refine s_iload_n rfl (cn rfl) rfl ?_
        refine s_iconst rfl (cn rfl) ?_
        refine s_iadd rfl (cn rfl) ?_
        refine s_iaload rfl (cn rfl) (5 * i + 1) (by omega) (hR1 1000060 (by decide)) rfl (by omega) (by omega) (hX _).2 ?_
        refine s_aload_n rfl (cn rfl) rfl ?_
        refine s_iload_n rfl (cn rfl) rfl ?_
        refine s_iconst rfl (cn rfl) ?_
        refine s_iadd rfl (cn rfl) ?_
        refine s_iaload rfl (cn rfl) (5 * i + 2) (by omega) (hR1 1000060 (by decide)) rfl (by omega) (by omega) (hX _).2 ?_
        refine s_aload_n rfl (cn rfl) rfl ?_
        refine s_iload_n rfl (cn rfl) rfl ?_
        refine s_iconst rfl (cn rfl) ?_
        refine s_iadd rfl (cn rfl) ?_
        refine s_iaload rfl (cn rfl) (5 * i + 3) (by omega) (hR1 1000060 (by decide)) rfl (by omega) (by omega) (hX _).2 ?_
        refine s_virt rfl (cn rfl) rfl rfl hc1 rfl (M_orderedBy hA hM1 (hX _).1 (hX _).1 (hX _).1) ?_
        rintro _ _ ⟨rfl, h2, rfl, e2, hM2⟩
        refine s_same rfl (cn rfl) ?_
        refine s_iinc rfl (cn rfl) rfl ?_
        refine s_goto rfl (ch rfl) ?_
        exact ih10 (by omega) _ _ _ _ _ _ _ _ _ h2 hA1 (ID_fr (fun k hk => e2 k (Or.inl hk)) hD1) hM2 (IRo_fr (fun k hk => e2 k (Or.inr (by omega))) hR1)
      refine And.intro (fun e21 => (cn rfl : ct _ _ _ _ _ _ 622 _) _ _ _ ?_) (fun n21_27 => ?_)
      · refine s_aload_n rfl (cn rfl) rfl ?_
        refine s_aload_n rfl (cn rfl) rfl ?_
        refine s_iload_n rfl (cn rfl) rfl ?_
        refine s_iconst rfl (cn rfl) ?_
        refine s_iadd rfl (cn rfl) ?_
        refine s_iaload rfl (cn rfl) (5 * i + 1) (by omega) (hR 1000060 (by decide)) rfl (by omega) (by omega) (hX _).2 ?_
        refine s_aload_n rfl (cn rfl) rfl ?_
        refine s_iload_n rfl (cn rfl) rfl ?_
        refine s_iconst rfl (cn rfl) ?_
        refine s_iadd rfl (cn rfl) ?_
        refine s_iaload rfl (cn rfl) (5 * i + 2) (by omega) (hR 1000060 (by decide)) rfl (by omega) (by omega) (hX _).2 ?_
        refine s_aload_n rfl (cn rfl) rfl ?_
        refine s_iload_n rfl (cn rfl) rfl ?_
        refine s_iconst rfl (cn rfl) ?_
        refine s_iadd rfl (cn rfl) ?_
        refine s_iaload rfl (cn rfl) (5 * i + 3) (by omega) (hR 1000060 (by decide)) rfl (by omega) (by omega) (hX _).2 ?_
        refine s_aload_n rfl (cn rfl) rfl ?_
        refine s_iload_n rfl (cn rfl) rfl ?_
        refine s_iconst rfl (cn rfl) ?_
        refine s_iadd rfl (cn rfl) ?_
        refine s_iaload rfl (cn rfl) (5 * i + 4) (by omega) (hR 1000060 (by decide)) rfl (by omega) (by omega) (hX _).2 ?_
        refine s_virt rfl (cn rfl) rfl rfl hc0 rfl (D_better hA hD hR (hX _).1 (hX _).1 (hX _).1 (hX _).1) ?_
        rintro _ _ ⟨rfl, h1, rfl, e1, hD1, hA1⟩
        have hM1 := IM_fr (fun k a _ => e1 k a) hM
        have hR1 := IRo_fr (fun k hk => e1 k (by omega)) hR
        have hc1 := (e1 58 (Nat.le_refl _)).trans hc58
        refine s_aload_n rfl (cn rfl) rfl ?_
        refine s_aload_n rfl (cn rfl) rfl ?_
        refine s_iload_n rfl (cn rfl) rfl ?_
        refine s_iconst rfl (cn rfl) ?_
        refine s_iadd rfl (cn rfl) ?_
        refine s_iaload rfl (cn rfl) (5 * i + 1) (by omega) (hR1 1000060 (by decide)) rfl (by omega) (by omega) (hX _).2 ?_
        refine s_aload_n rfl (cn rfl) rfl ?_
        refine s_iload_n rfl (cn rfl) rfl ?_
        refine s_iconst rfl (cn rfl) ?_
        refine s_iadd rfl (cn rfl) ?_
        refine s_iaload rfl (cn rfl) (5 * i + 2) (by omega) (hR1 1000060 (by decide)) rfl (by omega) (by omega) (hX _).2 ?_
        refine s_aload_n rfl (cn rfl) rfl ?_
        refine s_iload_n rfl (cn rfl) rfl ?_
        refine s_iconst rfl (cn rfl) ?_
        refine s_iadd rfl (cn rfl) ?_
        refine s_iaload rfl (cn rfl) (5 * i + 3) (by omega) (hR1 1000060 (by decide)) rfl (by omega) (by omega) (hX _).2 ?_
        refine s_aload_n rfl (cn rfl) rfl ?_
        refine s_iload_n rfl (cn rfl) rfl ?_
        refine s_iconst rfl (cn rfl) ?_
        refine s_iadd rfl (cn rfl) ?_
        refine s_iaload rfl (cn rfl) (5 * i + 4) (by omega) (hR1 1000060 (by decide)) rfl (by omega) (by omega) (hX _).2 ?_
        refine s_virt rfl (cn rfl) rfl rfl hc1 rfl (M_better hA hM1 (hX _).1 (hX _).1 (hX _).1 (hX _).1) ?_
        rintro _ _ ⟨rfl, h2, rfl, e2, hM2⟩
        refine s_same rfl (cn rfl) ?_
        refine s_iinc rfl (cn rfl) rfl ?_
        refine s_goto rfl (ch rfl) ?_
        exact ih10 (by omega) _ _ _ _ _ _ _ _ _ h2 hA1 (ID_fr (fun k hk => e2 k (Or.inl hk)) hD1) hM2 (IRo_fr (fun k hk => e2 k (Or.inr (by omega))) hR1)
      refine And.intro (fun e21 => (cn rfl : ct _ _ _ _ _ _ 669 _) _ _ _ ?_) (fun n21_28 => ?_)
      · refine s_aload_n rfl (cn rfl) rfl ?_
        refine s_aload_n rfl (cn rfl) rfl ?_
        refine s_iload_n rfl (cn rfl) rfl ?_
        refine s_iconst rfl (cn rfl) ?_
        refine s_iadd rfl (cn rfl) ?_
        refine s_iaload rfl (cn rfl) (5 * i + 1) (by omega) (hR 1000060 (by decide)) rfl (by omega) (by omega) (hX _).2 ?_
        refine s_aload_n rfl (cn rfl) rfl ?_
        refine s_iload_n rfl (cn rfl) rfl ?_
        refine s_iconst rfl (cn rfl) ?_
        refine s_iadd rfl (cn rfl) ?_
        refine s_iaload rfl (cn rfl) (5 * i + 2) (by omega) (hR 1000060 (by decide)) rfl (by omega) (by omega) (hX _).2 ?_
        refine s_virt rfl (cn rfl) rfl rfl hc0 rfl (D_judge hA hD hR (hX _).1 (hX _).1) ?_
        rintro _ _ ⟨rfl, h1, rfl, e1, hD1, hA1⟩
        have hM1 := IM_fr (fun k a _ => e1 k a) hM
        have hR1 := IRo_fr (fun k hk => e1 k (by omega)) hR
        have hc1 := (e1 58 (Nat.le_refl _)).trans hc58
        refine s_aload_n rfl (cn rfl) rfl ?_
        refine s_aload_n rfl (cn rfl) rfl ?_
        refine s_iload_n rfl (cn rfl) rfl ?_
        refine s_iconst rfl (cn rfl) ?_
        refine s_iadd rfl (cn rfl) ?_
        refine s_iaload rfl (cn rfl) (5 * i + 1) (by omega) (hR1 1000060 (by decide)) rfl (by omega) (by omega) (hX _).2 ?_
        refine s_aload_n rfl (cn rfl) rfl ?_
        refine s_iload_n rfl (cn rfl) rfl ?_
        refine s_iconst rfl (cn rfl) ?_
        refine s_iadd rfl (cn rfl) ?_
        refine s_iaload rfl (cn rfl) (5 * i + 2) (by omega) (hR1 1000060 (by decide)) rfl (by omega) (by omega) (hX _).2 ?_
        refine s_virt rfl (cn rfl) rfl rfl hc1 rfl (M_judge hA hM1 (hX _).1 (hX _).1) ?_
        rintro _ _ ⟨rfl, h2, rfl, e2, hM2⟩
        refine s_same rfl (cn rfl) ?_
        refine s_iinc rfl (cn rfl) rfl ?_
        refine s_goto rfl (ch rfl) ?_
        exact ih10 (by omega) _ _ _ _ _ _ _ _ _ h2 hA1 (ID_fr (fun k hk => e2 k (Or.inl hk)) hD1) hM2 (IRo_fr (fun k hk => e2 k (Or.inr (by omega))) hR1)
      refine And.intro (fun e21 => (cn rfl : ct _ _ _ _ _ _ 696 _) _ _ _ ?_) (fun n21_29 => ?_)
      · refine s_aload_n rfl (cn rfl) rfl ?_
        refine s_aload_n rfl (cn rfl) rfl ?_
        refine s_iload_n rfl (cn rfl) rfl ?_
        refine s_iconst rfl (cn rfl) ?_
        refine s_iadd rfl (cn rfl) ?_
        refine s_iaload rfl (cn rfl) (5 * i + 1) (by omega) (hR 1000060 (by decide)) rfl (by omega) (by omega) (hX _).2 ?_
        refine s_aload_n rfl (cn rfl) rfl ?_
        refine s_iload_n rfl (cn rfl) rfl ?_
        refine s_iconst rfl (cn rfl) ?_
        refine s_iadd rfl (cn rfl) ?_
        refine s_iaload rfl (cn rfl) (5 * i + 2) (by omega) (hR 1000060 (by decide)) rfl (by omega) (by omega) (hX _).2 ?_
        refine s_virt rfl (cn rfl) rfl rfl hc0 rfl (D_lay hA hD hR (hX _).1 (hX _).1) ?_
        rintro _ _ ⟨rfl, h1, rfl, e1, hD1, hA1⟩
        have hM1 := IM_fr (fun k a _ => e1 k a) hM
        have hR1 := IRo_fr (fun k hk => e1 k (by omega)) hR
        have hc1 := (e1 58 (Nat.le_refl _)).trans hc58
        refine s_aload_n rfl (cn rfl) rfl ?_
        refine s_aload_n rfl (cn rfl) rfl ?_
        refine s_iload_n rfl (cn rfl) rfl ?_
        refine s_iconst rfl (cn rfl) ?_
        refine s_iadd rfl (cn rfl) ?_
        refine s_iaload rfl (cn rfl) (5 * i + 1) (by omega) (hR1 1000060 (by decide)) rfl (by omega) (by omega) (hX _).2 ?_
        refine s_aload_n rfl (cn rfl) rfl ?_
        refine s_iload_n rfl (cn rfl) rfl ?_
        refine s_iconst rfl (cn rfl) ?_
        refine s_iadd rfl (cn rfl) ?_
        refine s_iaload rfl (cn rfl) (5 * i + 2) (by omega) (hR1 1000060 (by decide)) rfl (by omega) (by omega) (hX _).2 ?_
        refine s_virt rfl (cn rfl) rfl rfl hc1 rfl (M_lay hA hM1 (hX _).1 (hX _).1) ?_
        rintro _ _ ⟨rfl, h2, rfl, e2, hM2⟩
        refine s_same rfl (cn rfl) ?_
        refine s_iinc rfl (cn rfl) rfl ?_
        refine s_goto rfl (ch rfl) ?_
        exact ih10 (by omega) _ _ _ _ _ _ _ _ _ h2 hA1 (ID_fr (fun k hk => e2 k (Or.inl hk)) hD1) hM2 (IRo_fr (fun k hk => e2 k (Or.inr (by omega))) hR1)
      refine And.intro (fun e21 => (cn rfl : ct _ _ _ _ _ _ 723 _) _ _ _ ?_) (fun n21_30 => ?_)
      · refine s_aload_n rfl (cn rfl) rfl ?_
        refine s_aload_n rfl (cn rfl) rfl ?_
        refine s_iload_n rfl (cn rfl) rfl ?_
        refine s_iconst rfl (cn rfl) ?_
        refine s_iadd rfl (cn rfl) ?_
        refine s_iaload rfl (cn rfl) (5 * i + 1) (by omega) (hR 1000060 (by decide)) rfl (by omega) (by omega) (hX _).2 ?_
        refine s_aload_n rfl (cn rfl) rfl ?_
        refine s_iload_n rfl (cn rfl) rfl ?_
        refine s_iconst rfl (cn rfl) ?_
        refine s_iadd rfl (cn rfl) ?_
        refine s_iaload rfl (cn rfl) (5 * i + 2) (by omega) (hR 1000060 (by decide)) rfl (by omega) (by omega) (hX _).2 ?_
        refine s_aload_n rfl (cn rfl) rfl ?_
        refine s_iload_n rfl (cn rfl) rfl ?_
        refine s_iconst rfl (cn rfl) ?_
        refine s_iadd rfl (cn rfl) ?_
        refine s_iaload rfl (cn rfl) (5 * i + 3) (by omega) (hR 1000060 (by decide)) rfl (by omega) (by omega) (hX _).2 ?_
        refine s_virt rfl (cn rfl) rfl rfl hc0 rfl (D_proof hA hD hR (hX _).1 (hX _).1 (hX _).1) ?_
        rintro _ _ ⟨rfl, h1, rfl, e1, hD1, hA1⟩
        have hM1 := IM_fr (fun k a _ => e1 k a) hM
        have hR1 := IRo_fr (fun k hk => e1 k (by omega)) hR
        have hc1 := (e1 58 (Nat.le_refl _)).trans hc58
        refine s_aload_n rfl (cn rfl) rfl ?_
        refine s_aload_n rfl (cn rfl) rfl ?_
        refine s_iload_n rfl (cn rfl) rfl ?_
        refine s_iconst rfl (cn rfl) ?_
        refine s_iadd rfl (cn rfl) ?_
        refine s_iaload rfl (cn rfl) (5 * i + 1) (by omega) (hR1 1000060 (by decide)) rfl (by omega) (by omega) (hX _).2 ?_
        refine s_aload_n rfl (cn rfl) rfl ?_
        refine s_iload_n rfl (cn rfl) rfl ?_
        refine s_iconst rfl (cn rfl) ?_
        refine s_iadd rfl (cn rfl) ?_
        refine s_iaload rfl (cn rfl) (5 * i + 2) (by omega) (hR1 1000060 (by decide)) rfl (by omega) (by omega) (hX _).2 ?_
        refine s_aload_n rfl (cn rfl) rfl ?_
        refine s_iload_n rfl (cn rfl) rfl ?_
        refine s_iconst rfl (cn rfl) ?_
        refine s_iadd rfl (cn rfl) ?_
        refine s_iaload rfl (cn rfl) (5 * i + 3) (by omega) (hR1 1000060 (by decide)) rfl (by omega) (by omega) (hX _).2 ?_
        refine s_virt rfl (cn rfl) rfl rfl hc1 rfl (M_proof hA hM1 (hX _).1 (hX _).1 (hX _).1) ?_
        rintro _ _ ⟨rfl, h2, rfl, e2, hM2⟩
        refine s_lcmp rfl (cn rfl) ?_
        refine s_samel rfl (cn rfl) ?_
        refine s_iinc rfl (cn rfl) rfl ?_
        refine s_goto rfl (ch rfl) ?_
        exact ih10 (by omega) _ _ _ _ _ _ _ _ _ h2 hA1 (ID_fr (fun k hk => e2 k (Or.inl hk)) hD1) hM2 (IRo_fr (fun k hk => e2 k (Or.inr (by omega))) hR1)
      refine And.intro (fun e21 => (cn rfl : ct _ _ _ _ _ _ 761 _) _ _ _ ?_) (fun n21_31 => ?_)
      · refine s_aload_n rfl (cn rfl) rfl ?_
        refine s_aload_n rfl (cn rfl) rfl ?_
        refine s_iload_n rfl (cn rfl) rfl ?_
        refine s_iconst rfl (cn rfl) ?_
        refine s_iadd rfl (cn rfl) ?_
        refine s_iaload rfl (cn rfl) (5 * i + 1) (by omega) (hR 1000060 (by decide)) rfl (by omega) (by omega) (hX _).2 ?_
        refine s_aload_n rfl (cn rfl) rfl ?_
        refine s_iload_n rfl (cn rfl) rfl ?_
        refine s_iconst rfl (cn rfl) ?_
        refine s_iadd rfl (cn rfl) ?_
        refine s_iaload rfl (cn rfl) (5 * i + 2) (by omega) (hR 1000060 (by decide)) rfl (by omega) (by omega) (hX _).2 ?_
        refine s_virt rfl (cn rfl) rfl rfl hc0 rfl (D_proves hA hD hR (hX _).1 (hX _).1) ?_
        rintro _ _ ⟨rfl, h1, rfl, e1, hD1, hA1⟩
        have hM1 := IM_fr (fun k a _ => e1 k a) hM
        have hR1 := IRo_fr (fun k hk => e1 k (by omega)) hR
        have hc1 := (e1 58 (Nat.le_refl _)).trans hc58
        refine s_aload_n rfl (cn rfl) rfl ?_
        refine s_aload_n rfl (cn rfl) rfl ?_
        refine s_iload_n rfl (cn rfl) rfl ?_
        refine s_iconst rfl (cn rfl) ?_
        refine s_iadd rfl (cn rfl) ?_
        refine s_iaload rfl (cn rfl) (5 * i + 1) (by omega) (hR1 1000060 (by decide)) rfl (by omega) (by omega) (hX _).2 ?_
        refine s_aload_n rfl (cn rfl) rfl ?_
        refine s_iload_n rfl (cn rfl) rfl ?_
        refine s_iconst rfl (cn rfl) ?_
        refine s_iadd rfl (cn rfl) ?_
        refine s_iaload rfl (cn rfl) (5 * i + 2) (by omega) (hR1 1000060 (by decide)) rfl (by omega) (by omega) (hX _).2 ?_
        refine s_virt rfl (cn rfl) rfl rfl hc1 rfl (M_proves hA hM1 (hX _).1 (hX _).1) ?_
        rintro _ _ ⟨rfl, h2, rfl, e2, hM2⟩
        refine s_same rfl (cn rfl) ?_
        refine s_iinc rfl (cn rfl) rfl ?_
        refine s_goto rfl (ch rfl) ?_
        exact ih10 (by omega) _ _ _ _ _ _ _ _ _ h2 hA1 (ID_fr (fun k hk => e2 k (Or.inl hk)) hD1) hM2 (IRo_fr (fun k hk => e2 k (Or.inr (by omega))) hR1)
      refine And.intro (fun e21 => (cn rfl : ct _ _ _ _ _ _ 788 _) _ _ _ ?_) (fun n21_32 => ?_)
      · refine s_aload_n rfl (cn rfl) rfl ?_
        refine s_aload_n rfl (cn rfl) rfl ?_
        refine s_iload_n rfl (cn rfl) rfl ?_
        refine s_iconst rfl (cn rfl) ?_
        refine s_iadd rfl (cn rfl) ?_
        refine s_iaload rfl (cn rfl) (5 * i + 1) (by omega) (hR 1000060 (by decide)) rfl (by omega) (by omega) (hX _).2 ?_
        refine s_aload_n rfl (cn rfl) rfl ?_
        refine s_iload_n rfl (cn rfl) rfl ?_
        refine s_iconst rfl (cn rfl) ?_
        refine s_iadd rfl (cn rfl) ?_
        refine s_iaload rfl (cn rfl) (5 * i + 2) (by omega) (hR 1000060 (by decide)) rfl (by omega) (by omega) (hX _).2 ?_
        refine s_virt rfl (cn rfl) rfl rfl hc0 rfl (D_tilts hA hD hR (hX _).1 (hX _).1) ?_
        rintro _ _ ⟨rfl, h1, rfl, e1, hD1, hA1⟩
        have hM1 := IM_fr (fun k a _ => e1 k a) hM
        have hR1 := IRo_fr (fun k hk => e1 k (by omega)) hR
        have hc1 := (e1 58 (Nat.le_refl _)).trans hc58
        refine s_aload_n rfl (cn rfl) rfl ?_
        refine s_aload_n rfl (cn rfl) rfl ?_
        refine s_iload_n rfl (cn rfl) rfl ?_
        refine s_iconst rfl (cn rfl) ?_
        refine s_iadd rfl (cn rfl) ?_
        refine s_iaload rfl (cn rfl) (5 * i + 1) (by omega) (hR1 1000060 (by decide)) rfl (by omega) (by omega) (hX _).2 ?_
        refine s_aload_n rfl (cn rfl) rfl ?_
        refine s_iload_n rfl (cn rfl) rfl ?_
        refine s_iconst rfl (cn rfl) ?_
        refine s_iadd rfl (cn rfl) ?_
        refine s_iaload rfl (cn rfl) (5 * i + 2) (by omega) (hR1 1000060 (by decide)) rfl (by omega) (by omega) (hX _).2 ?_
        refine s_virt rfl (cn rfl) rfl rfl hc1 rfl (M_tilts hA hM1 (hX _).1 (hX _).1) ?_
        rintro _ _ ⟨rfl, h2, rfl, e2, hM2⟩
        refine s_same rfl (cn rfl) ?_
        refine s_iinc rfl (cn rfl) rfl ?_
        refine s_goto rfl (ch rfl) ?_
        exact ih10 (by omega) _ _ _ _ _ _ _ _ _ h2 hA1 (ID_fr (fun k hk => e2 k (Or.inl hk)) hD1) hM2 (IRo_fr (fun k hk => e2 k (Or.inr (by omega))) hR1)
      refine And.intro (fun e21 => (cn rfl : ct _ _ _ _ _ _ 815 _) _ _ _ ?_) (fun n21_33 => ?_)
      · refine s_aload_n rfl (cn rfl) rfl ?_
        refine s_aload_n rfl (cn rfl) rfl ?_
        refine s_iload_n rfl (cn rfl) rfl ?_
        refine s_iconst rfl (cn rfl) ?_
        refine s_iadd rfl (cn rfl) ?_
        refine s_iaload rfl (cn rfl) (5 * i + 1) (by omega) (hR 1000060 (by decide)) rfl (by omega) (by omega) (hX _).2 ?_
        refine s_aload_n rfl (cn rfl) rfl ?_
        refine s_iload_n rfl (cn rfl) rfl ?_
        refine s_iconst rfl (cn rfl) ?_
        refine s_iadd rfl (cn rfl) ?_
        refine s_iaload rfl (cn rfl) (5 * i + 2) (by omega) (hR 1000060 (by decide)) rfl (by omega) (by omega) (hX _).2 ?_
        refine s_virt rfl (cn rfl) rfl rfl hc0 rfl (D_list hA hD hR (hX _).1 (hX _).1) ?_
        rintro _ _ ⟨rfl, h1, rfl, e1, hD1, hA1⟩
        have hM1 := IM_fr (fun k a _ => e1 k a) hM
        have hR1 := IRo_fr (fun k hk => e1 k (by omega)) hR
        have hc1 := (e1 58 (Nat.le_refl _)).trans hc58
        refine s_aload_n rfl (cn rfl) rfl ?_
        refine s_aload_n rfl (cn rfl) rfl ?_
        refine s_iload_n rfl (cn rfl) rfl ?_
        refine s_iconst rfl (cn rfl) ?_
        refine s_iadd rfl (cn rfl) ?_
        refine s_iaload rfl (cn rfl) (5 * i + 1) (by omega) (hR1 1000060 (by decide)) rfl (by omega) (by omega) (hX _).2 ?_
        refine s_aload_n rfl (cn rfl) rfl ?_
        refine s_iload_n rfl (cn rfl) rfl ?_
        refine s_iconst rfl (cn rfl) ?_
        refine s_iadd rfl (cn rfl) ?_
        refine s_iaload rfl (cn rfl) (5 * i + 2) (by omega) (hR1 1000060 (by decide)) rfl (by omega) (by omega) (hX _).2 ?_
        refine s_virt rfl (cn rfl) rfl rfl hc1 rfl (M_list hA hM1 (hX _).1 (hX _).1) ?_
        rintro _ _ ⟨rfl, h2, rfl, e2, hM2⟩
        refine s_same rfl (cn rfl) ?_
        refine s_iinc rfl (cn rfl) rfl ?_
        refine s_goto rfl (ch rfl) ?_
        exact ih10 (by omega) _ _ _ _ _ _ _ _ _ h2 hA1 (ID_fr (fun k hk => e2 k (Or.inl hk)) hD1) hM2 (IRo_fr (fun k hk => e2 k (Or.inr (by omega))) hR1)
      refine And.intro (fun e21 => (cn rfl : ct _ _ _ _ _ _ 842 _) _ _ _ ?_) (fun n21_34 => ?_)
      · refine s_aload_n rfl (cn rfl) rfl ?_
        refine s_aload_n rfl (cn rfl) rfl ?_
        refine s_iload_n rfl (cn rfl) rfl ?_
        refine s_iconst rfl (cn rfl) ?_
        refine s_iadd rfl (cn rfl) ?_
        refine s_iaload rfl (cn rfl) (5 * i + 1) (by omega) (hR 1000060 (by decide)) rfl (by omega) (by omega) (hX _).2 ?_
        refine s_aload_n rfl (cn rfl) rfl ?_
        refine s_iload_n rfl (cn rfl) rfl ?_
        refine s_iconst rfl (cn rfl) ?_
        refine s_iadd rfl (cn rfl) ?_
        refine s_iaload rfl (cn rfl) (5 * i + 2) (by omega) (hR 1000060 (by decide)) rfl (by omega) (by omega) (hX _).2 ?_
        refine s_aload_n rfl (cn rfl) rfl ?_
        refine s_iload_n rfl (cn rfl) rfl ?_
        refine s_iconst rfl (cn rfl) ?_
        refine s_iadd rfl (cn rfl) ?_
        refine s_iaload rfl (cn rfl) (5 * i + 3) (by omega) (hR 1000060 (by decide)) rfl (by omega) (by omega) (hX _).2 ?_
        refine s_i2l rfl (cn rfl) (hX _).1 ?_
        refine s_bipush rfl (cn rfl) (by decide) ?_
        refine s_lshl rfl (cn rfl) ?_
        refine s_aload_n rfl (cn rfl) rfl ?_
        refine s_iload_n rfl (cn rfl) rfl ?_
        refine s_iconst rfl (cn rfl) ?_
        refine s_iadd rfl (cn rfl) ?_
        refine s_iaload rfl (cn rfl) (5 * i + 4) (by omega) (hR 1000060 (by decide)) rfl (by omega) (by omega) (hX _).2 ?_
        refine s_i2l rfl (cn rfl) (hX _).1 ?_
        refine s_ldc2_w rfl (cn rfl) ?_
        refine s_land rfl (cn rfl) ?_
        refine s_lor rfl (cn rfl) y hye ?_
        refine s_virt rfl (cn rfl) rfl rfl hc0 rfl (D_set hA hD hR (hX _).1 (hX _).1 hy) ?_
        rintro _ _ ⟨rfl, h1, rfl, e1, hD1, hA1⟩
        have hM1 := IM_fr (fun k a _ => e1 k a) hM
        have hR1 := IRo_fr (fun k hk => e1 k (by omega)) hR
        have hc1 := (e1 58 (Nat.le_refl _)).trans hc58
        refine s_aload_n rfl (cn rfl) rfl ?_
        refine s_aload_n rfl (cn rfl) rfl ?_
        refine s_iload_n rfl (cn rfl) rfl ?_
        refine s_iconst rfl (cn rfl) ?_
        refine s_iadd rfl (cn rfl) ?_
        refine s_iaload rfl (cn rfl) (5 * i + 1) (by omega) (hR1 1000060 (by decide)) rfl (by omega) (by omega) (hX _).2 ?_
        refine s_aload_n rfl (cn rfl) rfl ?_
        refine s_iload_n rfl (cn rfl) rfl ?_
        refine s_iconst rfl (cn rfl) ?_
        refine s_iadd rfl (cn rfl) ?_
        refine s_iaload rfl (cn rfl) (5 * i + 2) (by omega) (hR1 1000060 (by decide)) rfl (by omega) (by omega) (hX _).2 ?_
        refine s_aload_n rfl (cn rfl) rfl ?_
        refine s_iload_n rfl (cn rfl) rfl ?_
        refine s_iconst rfl (cn rfl) ?_
        refine s_iadd rfl (cn rfl) ?_
        refine s_iaload rfl (cn rfl) (5 * i + 3) (by omega) (hR1 1000060 (by decide)) rfl (by omega) (by omega) (hX _).2 ?_
        refine s_i2l rfl (cn rfl) (hX _).1 ?_
        refine s_bipush rfl (cn rfl) (by decide) ?_
        refine s_lshl rfl (cn rfl) ?_
        refine s_aload_n rfl (cn rfl) rfl ?_
        refine s_iload_n rfl (cn rfl) rfl ?_
        refine s_iconst rfl (cn rfl) ?_
        refine s_iadd rfl (cn rfl) ?_
        refine s_iaload rfl (cn rfl) (5 * i + 4) (by omega) (hR1 1000060 (by decide)) rfl (by omega) (by omega) (hX _).2 ?_
        refine s_i2l rfl (cn rfl) (hX _).1 ?_
        refine s_ldc2_w rfl (cn rfl) ?_
        refine s_land rfl (cn rfl) ?_
        refine s_lor rfl (cn rfl) y hye ?_
        refine s_virt rfl (cn rfl) rfl rfl hc1 rfl (M_set hA hM1 (hX _).1 (hX _).1 hy) ?_
        rintro _ _ ⟨rfl, h2, rfl, e2, hM2⟩
        refine s_same rfl (cn rfl) ?_
        refine s_iinc rfl (cn rfl) rfl ?_
        refine s_goto rfl (ch rfl) ?_
        exact ih10 (by omega) _ _ _ _ _ _ _ _ _ h2 hA1 (ID_fr (fun k hk => e2 k (Or.inl hk)) hD1) hM2 (IRo_fr (fun k hk => e2 k (Or.inr (by omega))) hR1)
      refine And.intro (fun e21 => (cn rfl : ct _ _ _ _ _ _ 903 _) _ _ _ ?_) (fun n21_35 => ?_)
      · refine s_aload_n rfl (cn rfl) rfl ?_
        refine s_aload_n rfl (cn rfl) rfl ?_
        refine s_iload_n rfl (cn rfl) rfl ?_
        refine s_iconst rfl (cn rfl) ?_
        refine s_iadd rfl (cn rfl) ?_
        refine s_iaload rfl (cn rfl) (5 * i + 1) (by omega) (hR 1000060 (by decide)) rfl (by omega) (by omega) (hX _).2 ?_
        refine s_aload_n rfl (cn rfl) rfl ?_
        refine s_iload_n rfl (cn rfl) rfl ?_
        refine s_iconst rfl (cn rfl) ?_
        refine s_iadd rfl (cn rfl) ?_
        refine s_iaload rfl (cn rfl) (5 * i + 2) (by omega) (hR 1000060 (by decide)) rfl (by omega) (by omega) (hX _).2 ?_
        refine s_virt rfl (cn rfl) rfl rfl hc0 rfl (D_get hA hD hR (hX _).1 (hX _).1) ?_
        rintro _ _ ⟨rfl, h1, rfl, e1, hD1, hA1⟩
        have hM1 := IM_fr (fun k a _ => e1 k a) hM
        have hR1 := IRo_fr (fun k hk => e1 k (by omega)) hR
        have hc1 := (e1 58 (Nat.le_refl _)).trans hc58
        refine s_aload_n rfl (cn rfl) rfl ?_
        refine s_aload_n rfl (cn rfl) rfl ?_
        refine s_iload_n rfl (cn rfl) rfl ?_
        refine s_iconst rfl (cn rfl) ?_
        refine s_iadd rfl (cn rfl) ?_
        refine s_iaload rfl (cn rfl) (5 * i + 1) (by omega) (hR1 1000060 (by decide)) rfl (by omega) (by omega) (hX _).2 ?_
        refine s_aload_n rfl (cn rfl) rfl ?_
        refine s_iload_n rfl (cn rfl) rfl ?_
        refine s_iconst rfl (cn rfl) ?_
        refine s_iadd rfl (cn rfl) ?_
        refine s_iaload rfl (cn rfl) (5 * i + 2) (by omega) (hR1 1000060 (by decide)) rfl (by omega) (by omega) (hX _).2 ?_
        refine s_virt rfl (cn rfl) rfl rfl hc1 rfl (M_get hA hM1 (hX _).1 (hX _).1) ?_
        rintro _ _ ⟨rfl, h2, rfl, e2, hM2⟩
        refine s_lcmp rfl (cn rfl) ?_
        refine s_samel rfl (cn rfl) ?_
        refine s_iinc rfl (cn rfl) rfl ?_
        refine s_goto rfl (ch rfl) ?_
        exact ih10 (by omega) _ _ _ _ _ _ _ _ _ h2 hA1 (ID_fr (fun k hk => e2 k (Or.inl hk)) hD1) hM2 (IRo_fr (fun k hk => e2 k (Or.inr (by omega))) hR1)
      refine And.intro (fun e21 => (cn rfl : ct _ _ _ _ _ _ 931 _) _ _ _ ?_) (fun n21_36 => ?_)
      · refine s_aload_n rfl (cn rfl) rfl ?_
        refine s_virt rfl (cn rfl) rfl rfl hc0 rfl (D_image hA hD hR ) ?_
        rintro _ _ ⟨rfl, h1, rfl, e1, hD1, hA1⟩
        have hM1 := IM_fr (fun k a _ => e1 k a) hM
        have hR1 := IRo_fr (fun k hk => e1 k (by omega)) hR
        have hc1 := (e1 58 (Nat.le_refl _)).trans hc58
        refine s_aload_n rfl (cn rfl) rfl ?_
        refine s_virt rfl (cn rfl) rfl rfl hc1 rfl (M_image hA hM1 ) ?_
        rintro _ _ ⟨rfl, h2, rfl, e2, hM2⟩
        refine s_same rfl (cn rfl) ?_
        refine s_iinc rfl (cn rfl) rfl ?_
        refine s_goto rfl (ch rfl) ?_
        exact ih10 (by omega) _ _ _ _ _ _ _ _ _ h2 hA1 (ID_fr (fun k hk => e2 k (Or.inl hk)) hD1) hM2 (IRo_fr (fun k hk => e2 k (Or.inr (by omega))) hR1)
      refine And.intro (fun e21 => (cn rfl : ct _ _ _ _ _ _ 938 _) _ _ _ ?_) (fun n21_37 => ?_)
      · refine s_aload_n rfl (cn rfl) rfl ?_
        refine s_virt rfl (cn rfl) rfl rfl hc0 rfl (D_undo hA hD hR ) ?_
        rintro _ _ ⟨rfl, h1, rfl, e1, hD1, hA1⟩
        have hM1 := IM_fr (fun k a _ => e1 k a) hM
        have hR1 := IRo_fr (fun k hk => e1 k (by omega)) hR
        have hc1 := (e1 58 (Nat.le_refl _)).trans hc58
        refine s_aload_n rfl (cn rfl) rfl ?_
        refine s_virt rfl (cn rfl) rfl rfl hc1 rfl (M_undo hA hM1 ) ?_
        rintro _ _ ⟨rfl, h2, rfl, e2, hM2⟩
        refine s_same rfl (cn rfl) ?_
        refine s_iinc rfl (cn rfl) rfl ?_
        refine s_goto rfl (ch rfl) ?_
        exact ih10 (by omega) _ _ _ _ _ _ _ _ _ h2 hA1 (ID_fr (fun k hk => e2 k (Or.inl hk)) hD1) hM2 (IRo_fr (fun k hk => e2 k (Or.inr (by omega))) hR1)
      refine (cn rfl : ct _ _ _ _ _ _ 945 _) _ _ _ ?_
      refine s_iinc rfl (cn rfl) rfl ?_
      refine s_goto rfl (ch rfl) ?_
      exact ih10 (by omega) _ _ _ _ _ _ _ _ _ h hA hD hM hR
  refine hK _ _ _ _ ?_
  refine Exists.intro _ (And.intro (c_Desk_init_0 rfl) ?_)
  rintro _ _ ⟨rfl, rfl⟩
  refine Exists.intro _ (And.intro (c_Model_init_58 rfl) ?_)
  rintro _ _ ⟨rfl, rfl⟩
  refine lp10 _ (by decide) 0 (by decide) 3 (fun _ => 0) 3 (fun _ => 0) 0 0 (fun _ => 0) sz0 (fun _ _ => 0) _ ?_ ?_ ?_ ?_
  · exact ⟨⟨by decide, fun _ => (show (-999 : Int) ≤ 0 ∧ (0 : Int) ≤ 999 by decide), rfl⟩, ⟨by decide, fun _ => (show (-999 : Int) ≤ 0 ∧ (0 : Int) ≤ 999 by decide), rfl⟩, by decide, fun p hp => absurd hp (Nat.not_lt_zero p), fun l hl => by rw [sz0_e l hl]; decide, fun _ _ => (show b6 0 by decide), Or.inl rfl⟩
  · exact ⟨1, 0, 0, 0, 0, 3, 1, 2, 3, 1, 2, 3, 2, 3, fun _ => 0, fun _ => 0, fun _ => 0, fun _ => 0, fun _ => 0, fun _ => 0, fun _ => 0, fun _ => 0, fun _ => 0, fun _ => 0, rfl, Or.inr rfl, rfl, rfl, rfl, rfl, rfl, rfl, fun _ => (show (-999 : Int) ≤ 0 ∧ (0 : Int) ≤ 999 by decide), rfl, rfl, rfl, rfl, rfl, rfl, ⟨0, 0, 0, 0, 0, 0, 0, 1, 2, 3, fun _ => 0, fun _ => 0, fun _ => 0, fun _ => 0, fun _ => 0, fun _ => 0, fun _ => 0, fun _ => 0, fun _ => 0, fun _ _ => 0, rfl, rfl, rfl, rfl, rfl, rfl, rfl, rfl, fun w hw => by
    have : w = 0 ∨ w = 1 ∨ w = 2 := by omega
    rcases this with rfl | rfl | rfl <;> rfl, rfl, rfl, rfl, rfl⟩, fun e => absurd e (by decide), ⟨0, 0, 0, 0, 0, 0, 0, 1, 2, 3, fun _ => 0, fun _ => 0, fun _ => 0, fun _ => 0, fun _ => 0, fun _ => 0, fun _ => 0, fun _ => 0, fun _ => 0, fun _ _ => 0, rfl, rfl, rfl, rfl, rfl, rfl, rfl, rfl, fun w hw => by
    have : w = 0 ∨ w = 1 ∨ w = 2 := by omega
    rcases this with rfl | rfl | rfl <;> rfl, rfl, rfl, rfl, rfl⟩, rfl, rfl, rfl, rfl, rfl, rfl, rfl, rfl, rfl, rfl, fun l hl => by
    have : l = 0 ∨ l = 1 ∨ l = 2 ∨ l = 3 := by omega
    rcases this with rfl | rfl | rfl | rfl <;> rfl, (by rw [← sz0_u]; rfl)⟩
  · exact ⟨-1, 0, 0, 0, 0, 0, 0, 0, 1, 0, 0, 0, 0, 0, 0, 0, 0, 0, 0, 0, fun _ => 0, fun _ => 0, fun _ => 0, fun _ => 0, fun _ => 0, fun _ => 0, fun _ => 0, fun _ => 0, fun _ => 0, rfl, rfl, rfl, Or.inl ⟨rfl, rfl⟩, rfl, rfl, rfl, rfl, rfl, rfl, rfl, rfl, rfl, rfl, fun l hl => Or.inl ⟨rfl, sz0_e l hl⟩, fun _ _ _ _ => rfl, (by decide : (0 : Nat) < 32768), ⟨by decide, by decide⟩, Or.inr rfl, ⟨fun _ => 0, fun _ => 0, fun _ => 0, fun _ => 0, fun _ => 0, rfl, rfl, rfl, rfl, rfl, fun _ => (show (0 : Nat) < 16 by decide)⟩, ⟨fun _ => 0, fun _ => 0, fun _ => 0, fun _ => 0, rfl, rfl, rfl, rfl⟩, fun e => absurd e (by decide)⟩
  · intro k hk
    revert k hk
    show hiE _ (rr_ro L xs)
    repeat (first | exact hi_r | refine hi_set (by decide) ?_ | refine hi_setR (by decide) ?_)
