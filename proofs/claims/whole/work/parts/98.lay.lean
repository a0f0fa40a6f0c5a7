/-! Fair shares laid into a list. -/
def lif (f : Nat → Int) (be : Int) (A : Nat → Int) (i c : Nat) : Nat → Int := fun k => if i ≤ k ∧ k < i + c then (if k = i then be else A (k - i - 1)) else f k
theorem lif_0 {f : Nat → Int} {be : Int} {A : Nat → Int} {i : Nat} : lif f be A i 0 = f := by
  funext k
  unfold lif
  rw [if_neg (by omega)]
theorem lif_s {f : Nat → Int} {be : Int} {A : Nat → Int} {i c : Nat} {t : Int} (ht : t = if c = 0 then be else A (c - 1)) : fu (lif f be A i c) (i + c) t = lif f be A i (c + 1) := by
  funext k
  unfold fu lif
  by_cases e : k = i + c
  · rw [if_pos e, if_pos (by omega), ht]
    by_cases e2 : c = 0
    · rw [if_pos e2, if_pos (by omega)]
    · rw [if_neg e2, if_neg (by omega), show k - i - 1 = c - 1 by omega]
  · rw [if_neg e]
    by_cases e2 : i ≤ k ∧ k < i + c
    · rw [if_pos e2, if_pos (show i ≤ k ∧ k < i + (c + 1) by omega)]
    · rw [if_neg e2, if_neg (by omega)]
def lc (n : Nat) (s i : Int) : Nat := if 0 ≤ i then min (n + 1) (s - i).toNat else 0
noncomputable def sp_lay (n : Nat) (sz : Nat → Int) (a i : Int) : Int := if cpl sz a 0 0 = 0 then (if 0 ≤ i ∧ i + (n : Int) < sz a.toNat then (n : Int) + 1 else -13) else cpl sz a 0 0
noncomputable def itl (n : Nat) (v sz : Nat → Int) (it : Nat → Nat → Int) (a i : Int) : Nat → Nat → Int := fun l => cite (cpl sz a 0 0 = 0 ∧ l = a.toNat) (lif (it l) (nB n v) (nA n v) i.toNat (lc n (sz l) i)) (it l)
theorem itl_n {n : Nat} {v sz : Nat → Int} {it : Nat → Nat → Int} {a i : Int} (h : ¬ cpl sz a 0 0 = 0) : itl n v sz it a i = it := funext (fun _ => ci_n (fun q => h q.1))
theorem itl_o {n : Nat} {v sz : Nat → Int} {it : Nat → Nat → Int} {a i : Int} {l : Nat} (h : l ≠ a.toNat) : itl n v sz it a i l = it l := ci_n (fun q => h q.2)
theorem lif_b {f : Nat → Int} {be : Int} {A : Nat → Int} {i c : Nat} (hf : ∀ k, b6 (f k)) (hb : b6 be) (hA : ∀ k, k + 1 < c → b6 (A k)) : ∀ k, b6 (lif f be A i c k) := by
  intro k
  unfold lif
  by_cases e2 : i ≤ k ∧ k < i + c
  · rw [if_pos e2]
    by_cases e : k = i
    · rw [if_pos e]; exact hb
    · rw [if_neg e]; exact hA _ (by omega)
  · rw [if_neg e2]; exact hf k
theorem itl_b {n : Nat} {v sz : Nat → Int} {it : Nat → Nat → Int} {a i : Int} (hn : 2 ≤ n ∧ n ≤ 4) (hv : ∀ k, -999 ≤ v k ∧ v k ≤ 999) (h0 : v 0 = 0) (hit : ∀ l i, b6 (it l i)) : ∀ l k, b6 (itl n v sz it a i l k) := by
  intro l k
  unfold itl
  by_cases e : cpl sz a 0 0 = 0 ∧ l = a.toNat
  · rw [ci_y e]
    refine lif_b (hit l) ?_ (fun p hp => ?_) k
    · have := nB_b hn hv h0; exact ⟨by omega, by omega⟩
    · have hc : lc n (sz l) i ≤ n + 1 := by unfold lc; split <;> omega
      have := nA_1b hn hv h0 (show p < n by omega); exact ⟨by omega, by omega⟩
  · rw [ci_n e]; exact hit l k
theorem lif_cg {f : Nat → Int} {be : Int} {A A' : Nat → Int} {i c : Nat} (h : ∀ p, p + 1 < c → A p = A' p) : lif f be A i c = lif f be A' i c := by
  funext k
  unfold lif
  by_cases e : i ≤ k ∧ k < i + c
  · rw [if_pos e, if_pos e]
    by_cases e2 : k = i
    · rw [if_pos e2, if_pos e2]
    · rw [if_neg e2, if_neg e2, h _ (by omega)]
  · rw [if_neg e, if_neg e]
theorem u_put {d N S : Nat} {h : Nat → Option rr_E} {n : Nat} (hn : 2 ≤ n ∧ n ≤ 4) {sz : Nat → Int} {it : Nat → Nat → Int} (hsz : ∀ l, l < 4 → -1 ≤ sz l ∧ sz l ≤ 30) (hit : ∀ l i, b6 (it l i)) (c51 : h 51 = some (.inr (1, [.ref 52, .ref 57]))) (c52 : h 52 = some AA) (c53 : ∀ l, l < 4 → h (53 + l) = some (.inl (1, 30, .inr (.inl (fun k => jj (it l k)))))) (c57 : h 57 = some (.inl (0, 4, .inl (fun k => ii (sz k))))) {be y : Int} {A : Nat → Int} (c17 : h 17 = some (.inr (3, [.long (jj be), .ref 18, .ref 19, .int (ii (n : Int)), .int (ii y)]))) (c18 : h 18 = some (.inl (1, 4, .inr (.inl (fun k => jj (A k)))))) {l : Nat} (hl : l < 4) (hz : 0 ≤ sz l) {i : Int} (hi : b3 i) : rr_Calls (d + 1) j_Rows_putShares [.ref 51, .int (ii (l : Int)), .int (ii i), .ref 17] (N, S, h) (fun r R => r = some (.int (ii (if 0 ≤ i ∧ i + (n : Int) < sz l then (n : Int) + 1 else -13))) ∧ ∃ h', R = (N, S, h') ∧ fr [53 + l] h h' ∧ h' (53 + l) = some (.inl (1, 30, .inr (.inl (fun k => jj (lif (it l) be A i.toNat (lc n (sz l) i) k)))))) := by
  refine rr_meth (C := K_Rows_putShares) (hd := h_Rows_putShares) (mx := 5) rfl rfl (fun K hK => ?_)
  refine hK _ _ _ _ ?_
  refine s_iload_n rfl (cn rfl) rfl ?_
  refine s_if_ge rfl (cn rfl) (cn rfl) ⟨by omega, by omega⟩ (fun q1 => ?_) (fun q1 => ?_)
  · obtain ⟨j, rfl⟩ := Int.eq_ofNat_of_zero_le (show 0 ≤ i by omega)
    refine s_iconst rfl (cn rfl) ?_
    refine s_istore rfl (ch rfl) ?_
    have lp6 : ∀ k : Nat, k ≤ n + 1 → ∀ (h' : Nat → Option rr_E) (c53l : h' (53 + l) = some (.inl (1, 30, .inr (.inl (fun m => jj (lif (it l) be A j k m)))))) (hf : fr [53 + l] h h') (hk0 : k = 0 ∨ (j : Int) + (k : Int) ≤ sz l), K 6 [some (.ref 51), some (.int (ii (l : Int))), some (.int (ii (j : Int))), some (.ref 17), some (.int (ii (k : Int)))] [] (N, S, h') := by
      refine dn (fun k hk ih6 => ?_)
      intro h' c53l hf hk0
      have c17 := (hf 17 (by simp; omega)).trans c17
      have c18 := (hf 18 (by simp; omega)).trans c18
      have c51 := (hf 51 (by simp; omega)).trans c51
      have c52 := (hf 52 (by simp; omega)).trans c52
      have c57 := (hf 57 (by simp; omega)).trans c57
      have hs := hsz l hl
      refine hK _ _ _ _ ?_
      refine s_iload rfl (cn rfl) rfl ?_
      refine s_aload_n rfl (cn rfl) rfl ?_
      refine s_getfield rfl (cn rfl) c17 rfl ?_
      refine s_icmp_gt rfl (cn rfl) (cn rfl) ⟨by omega, by omega⟩ ⟨by omega, by omega⟩ (fun q9 => ?_) (fun q9 => ?_)
      · refine s_aload_n rfl (cn rfl) rfl ?_
        refine s_getfield rfl (cn rfl) c17 rfl ?_
        refine s_iconst rfl (cn rfl) ?_
        refine s_iadd rfl (cn rfl) ?_
        refine s_ireturn rfl ?_
        exact ⟨ri (if_pos (by omega)).symm, h', rfl, hf, ar_l c53l (by show lif (it l) be A j k = lif (it l) be A j (lc n (sz l) (j : Int)); congr 1; unfold lc; rw [if_pos (by omega)]; omega)⟩
      · refine s_iload_n rfl (cn rfl) rfl ?_
        refine s_aload_n rfl (cn rfl) rfl ?_
        refine s_getfield rfl (cn rfl) c51 rfl ?_
        refine s_iload_n rfl (cn rfl) rfl ?_
        refine s_iaload rfl (cn rfl) _ rfl c57 rfl (by omega) (by decide) rfl ?_
        refine s_iload rfl (cn rfl) rfl ?_
        refine s_isub rfl (cn rfl) ?_
        refine s_icmp_lt rfl (cn rfl) (cn rfl) ⟨by omega, by omega⟩ ⟨by omega, by omega⟩ (fun q17 => ?_) (fun q17 => ?_)
        · refine s_aload_n rfl (cn rfl) rfl ?_
          refine s_getfield rfl (cn rfl) c51 rfl ?_
          refine s_iload_n rfl (cn rfl) rfl ?_
          refine s_aaload rfl (cn rfl) _ rfl c52 (by omega) (by decide) ((if_pos hl).trans rfl) ?_
          refine s_iload_n rfl (cn rfl) rfl ?_
          refine s_iload rfl (cn rfl) rfl ?_
          refine s_iadd rfl (cn rfl) ?_
          refine s_iload rfl (cn rfl) rfl ?_
          refine s_if_ne rfl (cn rfl) (cn rfl) ⟨by omega, by omega⟩ (fun q28 => ?_) (fun q28 => ?_)
          · refine s_aload_n rfl (cn rfl) rfl ?_
            refine s_getfield rfl (cn rfl) c17 rfl ?_
            refine s_iload rfl (cn rfl) rfl ?_
            refine s_iconst rfl (cn rfl) ?_
            refine s_isub rfl (cn rfl) ?_
            refine s_laload rfl (cn rfl) (k - 1) (by omega) c18 (by omega) (by decide) rfl ?_
            refine s_lastore rfl (cn rfl) (j + k) (by omega) c53l (by omega) (by decide) ?_
            refine s_iinc rfl (cn rfl) rfl ?_
            refine s_goto rfl (ch rfl) ?_
            first
              | exact ih6 (by omega) _ (ar_l rr_set_eq (lif_s (if_pos (by omega)).symm)) (fr_s (by simp) hf) (by omega)
              | exact ih6 (by omega) _ (ar_l rr_set_eq (lif_s (if_neg (by omega)).symm)) (fr_s (by simp) hf) (by omega)
          · refine s_aload_n rfl (cn rfl) rfl ?_
            refine s_getfield rfl (cn rfl) c17 rfl ?_
            refine s_goto rfl (cn rfl) ?_
            refine s_lastore rfl (cn rfl) (j + k) (by omega) c53l (by omega) (by decide) ?_
            refine s_iinc rfl (cn rfl) rfl ?_
            refine s_goto rfl (ch rfl) ?_
            first
              | exact ih6 (by omega) _ (ar_l rr_set_eq (lif_s (if_pos (by omega)).symm)) (fr_s (by simp) hf) (by omega)
              | exact ih6 (by omega) _ (ar_l rr_set_eq (lif_s (if_neg (by omega)).symm)) (fr_s (by simp) hf) (by omega)
        · refine s_bipush rfl (cn rfl) (by decide) ?_
          refine s_ireturn rfl ?_
          exact ⟨ri (if_neg (by omega)).symm, h', rfl, hf, ar_l c53l (by show lif (it l) be A j k = lif (it l) be A j (lc n (sz l) (j : Int)); congr 1; unfold lc; rw [if_pos (by omega)]; omega)⟩
    exact lp6 0 (by omega) _ (ar_l (c53 l hl) lif_0.symm) fr_r (Or.inl rfl)
  · refine s_bipush rfl (cn rfl) (by decide) ?_
    refine s_ireturn rfl ?_
    exact ⟨ri (if_neg (by omega)).symm, h, rfl, fr_r, ar_l (c53 l hl) (by unfold lc; rw [if_neg (by omega)]; exact lif_0.symm)⟩
theorem d_lay {d N S n : Nat} {v : Nat → Int} {h : Nat → Option rr_E} (hn : 2 ≤ n ∧ n ≤ 4) (c1 : h 1 = some (.inr (0, [.int (ii (n : Int)), .ref 2]))) (c2 : h 2 = some (.inl (0, 16, .inl (fun k => ii (v k))))) (hv : ∀ k, -999 ≤ v k ∧ v k ≤ 999) (h0 : v 0 = 0) (c1000000 : h 1000000 = some (.inl (8, 5, .inl (fun j => rr_two.getD j 0)))) (c1000001 : h 1000001 = some (.inl (8, 25, .inl (fun j => rr_three.getD j 0)))) (c1000002 : h 1000002 = some (.inl (8, 205, .inl (fun j => rr_four.getD j 0)))) {sl im : Int} (c0 : h 0 = some (DO sl im)) (hsl : sl = 0 ∨ sl = 1) (hraw : RAW13 h) (hsv : sl = 0 → SV13 h n v) {sz : Nat → Int} {it : Nat → Nat → Int} (hsz : ∀ l, l < 4 → -1 ≤ sz l ∧ sz l ≤ 30) (hit : ∀ l i, b6 (it l i)) (c51 : h 51 = some (.inr (1, [.ref 52, .ref 57]))) (c52 : h 52 = some AA) (c53 : ∀ l, l < 4 → h (53 + l) = some (.inl (1, 30, .inr (.inl (fun k => jj (it l k)))))) (c57 : h 57 = some (.inl (0, 4, .inl (fun k => ii (sz k))))) {a i : Int} (ha : b3 a) (hi : b3 i) : rr_Calls (d + 7) j_Desk_lay [.ref 0, .int (ii a), .int (ii i)] (N, S, h) (fun r R => r = some (.int (ii (sp_lay n sz a i))) ∧ ∃ (h' : Nat → Option rr_E) (sl' : Int), R = (N, S, h') ∧ fr [0, 13, 14, 15, 16, 17, 18, 19, 24, 25, 26, 27, 21, 22, 23, 53, 54, 55, 56] h h' ∧ h' 0 = some (DO sl' im) ∧ (sl' = 0 ∨ sl' = 1) ∧ RAW13 h' ∧ (sl' = 0 → SV13 h' n v) ∧ ∀ l, l < 4 → h' (53 + l) = some (.inl (1, 30, .inr (.inl (fun k => jj (itl n v sz it a i l k)))))) := by
  refine rr_meth (C := K_Desk_lay) (hd := h_Desk_lay) (mx := 4) rfl rfl (fun K hK => ?_)
  have hc := cpl_b sz a 0 0
  refine hK _ _ _ _ ?_
  refine s_aload_n rfl (cn rfl) rfl ?_
  refine s_getfield rfl (cn rfl) c0 rfl ?_
  refine s_iload_n rfl (cn rfl) rfl ?_
  refine s_iconst rfl (cn rfl) ?_
  refine s_iconst rfl (cn rfl) ?_
  refine s_virt rfl (cn rfl) rfl rfl c51 rfl (u_compl (i := 0) (m := 0) hsz c51 c57 ha (by decide) (by decide)) ?_
  rintro _ _ ⟨rfl, rfl⟩
  refine s_istore_n rfl (cn rfl) ?_
  refine s_iload_n rfl (cn rfl) rfl ?_
  refine s_if_eq rfl (cn rfl) (cn rfl) ⟨by omega, by omega⟩ (fun q8 => ?_) (fun q8 => ?_)
  · obtain ⟨z1, z2, z3, z4⟩ := cpl_0 q8
    obtain ⟨l, rfl⟩ := Int.eq_ofNat_of_zero_le (show 0 ≤ a by omega)
    have hl : l < 4 := by omega
    have hs := hsz l hl
    have z5 : sz l ≠ -1 := z2
    refine s_aload_n rfl (cn rfl) rfl ?_
    refine s_getfield rfl (cn rfl) c0 rfl ?_
    refine s_iload_n rfl (cn rfl) rfl ?_
    refine s_iload_n rfl (cn rfl) rfl ?_
    refine s_aload_n rfl (cn rfl) rfl ?_
    refine s_virt rfl (cn rfl) rfl rfl c0 rfl (d_solved hn c1 c2 hv h0 c1000000 c1000001 c1000002 c0 hsl hraw hsv) ?_
    rintro _ _ ⟨rfl, h', rfl, hf, c0, hs⟩
    have c1 := (hf 1 (by decide)).trans c1
    have c2 := (hf 2 (by decide)).trans c2
    have c51 := (hf 51 (by decide)).trans c51
    have c52 := (hf 52 (by decide)).trans c52
    have c57 := (hf 57 (by decide)).trans c57
    have c53 := fun l hl => (hf (53 + l) (by simp; omega)).trans (c53 l hl)
    obtain ⟨wc, oc, bt, bb, bs, tt, tb, tf, A, E, c13, c14, c15, c16, c17, c18, c19, hS, hA4, hE⟩ := SV_SW13 hn hv h0 hs
    have nMb := nM_b hn hv h0
    have nBb := nB_b hn hv h0
    refine s_getfield rfl (cn rfl) c13 rfl ?_
    refine s_virt rfl (cn rfl) rfl rfl c51 rfl (u_put hn hsz hit c51 c52 c53 c57 c17 c18 hl (by omega) hi) ?_
    rintro _ _ ⟨rfl, h2, rfl, hf2, c53l⟩
    refine s_ireturn rfl ?_
    first
      | exact ⟨ri (if_neg q8).symm, h, sl, rfl, fr_r, c0, hsl, hraw, hsv, by rw [itl_n q8]; exact c53⟩
      | (refine ⟨ri (if_pos q8).symm, h2, 0, rfl, fr_t (fr_w hf (by simp)) (fr_w (l := [0, 13, 14, 15, 16, 17, 18, 19, 24, 25, 26, 27, 21, 22, 23, 53, 54, 55, 56]) hf2 (by intro k hk; simp at hk ⊢; omega)) (by simp), (hf2 0 (by simp; omega)).trans c0, Or.inl rfl, ?_, fun _ => ?_, fun m hm => ?_⟩
         · exact fr_RAW13 hf2 (by simp; omega) (fun k hk => by simp; omega) (SV_RAW13 hs)
         · exact fr_SV13 hf2 (by simp; omega) (fun k hk => by simp; omega) hs
         · by_cases e : m = l
           · subst e
             refine ar_l c53l ?_
             rw [show itl n v sz it (m : Int) i m = _ from ci_y ⟨q8, rfl⟩]
             exact lif_cg (fun p hp => hA4 p (by unfold lc at hp; split at hp <;> omega))
           · rw [itl_o (show m ≠ ((l : Nat) : Int).toNat from e)]
             exact (hf2 (53 + m) (by simp; omega)).trans (c53 m hm))
  · refine s_iload_n rfl (cn rfl) rfl ?_
    refine s_goto rfl (cn rfl) ?_
    refine s_ireturn rfl ?_
    first
      | exact ⟨ri (if_neg q8).symm, h, sl, rfl, fr_r, c0, hsl, hraw, hsv, by rw [itl_n q8]; exact c53⟩
      | (refine ⟨ri (if_pos q8).symm, h2, 0, rfl, fr_t (fr_w hf (by simp)) (fr_w (l := [0, 13, 14, 15, 16, 17, 18, 19, 24, 25, 26, 27, 21, 22, 23, 53, 54, 55, 56]) hf2 (by intro k hk; simp at hk ⊢; omega)) (by simp), (hf2 0 (by simp; omega)).trans c0, Or.inl rfl, ?_, fun _ => ?_, fun m hm => ?_⟩
         · exact fr_RAW13 hf2 (by simp; omega) (fun k hk => by simp; omega) (SV_RAW13 hs)
         · exact fr_SV13 hf2 (by simp; omega) (fun k hk => by simp; omega) hs
         · by_cases e : m = l
           · subst e
             refine ar_l c53l ?_
             rw [show itl n v sz it (m : Int) i m = _ from ci_y ⟨q8, rfl⟩]
             exact lif_cg (fun p hp => hA4 p (by unfold lc at hp; split at hp <;> omega))
           · rw [itl_o (show m ≠ ((l : Nat) : Int).toNat from e)]
             exact (hf2 (53 + m) (by simp; omega)).trans (c53 m hm))
theorem den_d {n : Nat} {v : Nat → Int} (hn : 2 ≤ n ∧ n ≤ 4) (hv : ∀ k, -999 ≤ v k ∧ v k ≤ 999) (h0 : v 0 = 0) {p : Nat} (hp : p < n) : (0 < lw (nA n v p) (nB n v) 1 ∧ lw (nA n v p) (nB n v) 1 ≤ 655360000) ∧ lw (nA n v p) (nB n v) 1 ∣ nB n v ∧ (nB n v).tdiv (lw (nA n v p) (nB n v) 1) * lw (nA n v p) (nB n v) 0 = nA n v p ∧ (-4600000000000 ≤ lw (nA n v p) (nB n v) 0 ∧ lw (nA n v p) (nB n v) 0 ≤ 4600000000000) := by
  have b := nB_b hn hv h0
  have s := lw_spec (a := nA n v p) b.1
  have e : (Int.gcd (nA n v p) (nB n v) : Int) * lw (nA n v p) (nB n v) 1 = nB n v := dvd_t (Int.gcd_dvd_right _ _)
  have e0 : (Int.gcd (nA n v p) (nB n v) : Int) * lw (nA n v p) (nB n v) 0 = nA n v p := dvd_t (Int.gcd_dvd_left _ _)
  have a := nA_1b hn hv h0 hp
  have t : (nB n v).tdiv (lw (nA n v p) (nB n v) 1) = (Int.gcd (nA n v p) (nB n v) : Int) := by
    have : ((Int.gcd (nA n v p) (nB n v) : Int) * lw (nA n v p) (nB n v) 1).tdiv (lw (nA n v p) (nB n v) 1) = (Int.gcd (nA n v p) (nB n v) : Int) := Int.mul_tdiv_cancel _ (by omega)
    rw [e] at this; exact this
  refine ⟨⟨s.1, by omega⟩, ⟨_, by rw [Int.mul_comm]; exact e.symm⟩, by rw [t]; exact e0, s.2.2.2.1 _ (by omega)⟩
/-- what all denominators divide, and divides the number below, is that number -/
theorem den_all {n : Nat} {v : Nat → Int} (hn : 2 ≤ n ∧ n ≤ 4) (hv : ∀ k, -999 ≤ v k ∧ v k ≤ 999) (h0 : v 0 = 0) {x : Int} (hx : 0 < x) (h1 : x ∣ nB n v) (h2 : ∀ p, p < n → lw (nA n v p) (nB n v) 1 ∣ x) : x = nB n v := by
  have b := nB_b hn hv h0
  obtain ⟨lp, lq, hN⟩ := NU_c hn hv h0
  obtain ⟨z, hz⟩ := h1
  have hz1 : z ∣ 1 := by
    refine hN.2.2.2.2.2.1 z ⟨x, by rw [hz]; exact Int.mul_comm _ _⟩ (fun p hp => ?_)
    by_cases e : p < n
    · obtain ⟨w, hw⟩ := h2 p e
      have s := lw_spec (a := nA n v p) b.1
      refine ⟨w * lw (nA n v p) (nB n v) 0, ?_⟩
      refine Int.eq_of_mul_eq_mul_left (show x ≠ 0 by omega) ?_
      calc x * nA n v p = w * (lw (nA n v p) (nB n v) 1 * nA n v p) := by rw [hw]; grind
        _ = w * (lw (nA n v p) (nB n v) 0 * (x * z)) := by rw [← s.2.1, hz]
        _ = x * (z * (w * lw (nA n v p) (nB n v) 0)) := by grind
    · rw [nA_z hn hv h0 (by omega) hp]; exact Int.dvd_zero z
  have zp : 0 < z := by
    apply Int.not_le.mp; intro q
    have := Int.mul_nonneg (Int.le_of_lt hx) (show 0 ≤ -z by omega)
    rw [Int.mul_neg] at this; omega
  have : z ≤ 1 := Int.le_of_dvd (by decide) hz1
  have : z = 1 := by omega
  rw [this, Int.mul_one] at hz
  exact hz.symm
theorem m_fairBelow1 {d N S n : Nat} {kp tp pt wr fa dm ce di be od sm le sc ba bb ti rk ts tm pa wa : Int} {v LA LB SG : Nat → Int} {h : Nat → Option rr_E} (hn : 2 ≤ n ∧ n ≤ 4) (hv : ∀ k, -999 ≤ v k ∧ v k ≤ 999) (h0 : v 0 = 0) (c58 : h 58 = some (MO (n : Int) kp tp pt wr fa dm ce di be od sm le sc ba bb ti rk ts tm pa wa)) (c59 : h 59 = some (.inl (0, 16, .inl (fun k => ii (v k))))) (c70 : h 70 = some (.inl (1, 16, .inr (.inl (fun k => jj (LA k)))))) (c71 : h 71 = some (.inl (1, 16, .inr (.inl (fun k => jj (LB k)))))) (c73 : h 73 = some (.inl (0, 16, .inl (fun k => ii (SG k))))) (hL1 : ∀ i, 1 ≤ i → i ≤ nM n v → LA (i - 1) = nP n v i ∧ LB (i - 1) = nQ n v i) (hSG : ∀ g, 1 ≤ g → g < al n → SG g = ((nS n v g : Nat) : Int) - 1) {i : Nat} (hi : i < n) : rr_Calls (d + 3) j_Model_fairBelow1 [.ref 58, .int (ii (i : Int))] (N, S, h) (fun r R => r = some (.long (jj (lw (nA n v i) (nB n v) 1))) ∧ R = (N, S, h)) := by
  refine rr_meth (C := K_Model_fairBelow1) (hd := h_Model_fairBelow1) (mx := 2) rfl rfl (fun K hK => ?_)
  have hfe := fair_e hn hv h0 hi
  have nBb := nB_b hn hv h0
  refine hK _ _ _ _ ?_
  refine s_aload_n rfl (cn rfl) rfl ?_
  refine s_iload_n rfl (cn rfl) rfl ?_
  refine s_virt rfl (cn rfl) rfl rfl c58 rfl (m_fairAbove hn hv h0 c58 c59 c70 c71 c73 hL1 hSG hi) ?_
  rintro _ _ ⟨rfl, rfl⟩
  refine s_aload_n rfl (cn rfl) rfl ?_
  refine s_iload_n rfl (cn rfl) rfl ?_
  refine s_virt rfl (cn rfl) rfl rfl c58 rfl (m_fairBelow hn hv h0 c58 c59 c70 c71 c73 hL1 hSG hi) ?_
  rintro _ _ ⟨rfl, rfl⟩
  refine s_iconst rfl (cn rfl) ?_
  refine s_stat rfl (cn rfl) rfl rfl rfl (m_lowest ⟨by omega, by omega⟩ ⟨by omega, by omega⟩ (by omega) (by decide)) ?_
  rintro _ _ ⟨rfl, rfl⟩
  refine s_lreturn rfl ?_
  exact ⟨rl (lw_eq hfe.2.1.1 nBb.1 hfe.1), rfl⟩
theorem m_lay {d N S n : Nat} {kp tp pt wr fa dm ce di be od sm le sc ba bb rk ts tm pa wa : Int} {ti : Nat} {v : Nat → Int} {h : Nat → Option rr_E} (hn : 2 ≤ n ∧ n ≤ 4) (hv : ∀ k, -999 ≤ v k ∧ v k ≤ 999) (h0 : v 0 = 0) (c58 : h 58 = some (MO (n : Int) kp tp pt wr fa dm ce di be od sm le sc ba bb (ti : Int) rk ts tm pa wa)) (c59 : h 59 = some (.inl (0, 16, .inl (fun k => ii (v k))))) (hti : ti < 32768) (hba : -1500000000000000 ≤ ba ∧ ba ≤ 1500000000000000) (hod : od = 0 ∨ od = 1) (hW : MW h) (hL : ML h) (hs : od = 0 → MS h n v sm) {sz th ms w : Nat → Int} {it : Nat → Nat → Int} (hth : ∀ l, l < 4 → (th l = 0 ∧ sz l = -1) ∨ (th l = 1 ∧ sz l = ms l ∧ 0 ≤ sz l ∧ sz l ≤ 30)) (hit : ∀ l i, l < 4 → i < 30 → w (30 * l + i) = it l i) (c77 : h 77 = some (.inl (2, 4, .inl (fun k => ii (th k))))) (c78 : h 78 = some (.inl (0, 4, .inl (fun k => ii (ms k))))) (c79 : h 79 = some (.inl (1, 120, .inr (.inl (fun k => jj (w k)))))) {a i : Int} (ha : b3 a) (hi : b3 i) : rr_Calls (d + (n + 7)) j_Model_lay [.ref 58, .int (ii a), .int (ii i)] (N, S, h) (fun r R => r = some (.int (ii (sp_lay n sz a i))) ∧ ∃ (h' : Nat → Option rr_E) (ce' di' be' sm' le' sc' ba' bb' rk' od' : Int) (ti' : Nat) (w' : Nat → Int), R = (N, S, h') ∧ fr [58, 66, 67, 68, 69, 70, 71, 72, 73, 74, 79] h h' ∧ h' 58 = some (MO (n : Int) kp tp pt wr fa dm ce' di' be' od' sm' le' sc' ba' bb' (ti' : Int) rk' ts tm pa wa) ∧ ti' < 32768 ∧ (-1500000000000000 ≤ ba' ∧ ba' ≤ 1500000000000000) ∧ (od' = 0 ∨ od' = 1) ∧ MW h' ∧ ML h' ∧ (od' = 0 → MS h' n v sm') ∧ h' 79 = some (.inl (1, 120, .inr (.inl (fun k => jj (w' k))))) ∧ ∀ l k, l < 4 → k < 30 → w' (30 * l + k) = itl n v sz it a i l k) := by
  refine rr_meth (C := K_Model_lay) (hd := h_Model_lay) (mx := 8) rfl rfl (fun K hK => ?_)
  have hA := al_b hn
  refine hK _ _ _ _ ?_
  refine s_iload_n rfl (cn rfl) rfl ?_
  refine s_stat rfl (cn rfl) rfl rfl rfl (m_isList (by omega)) ?_
  rintro _ _ ⟨rfl, rfl⟩
  refine s_ifb_ne rfl (cn rfl) (cn rfl) (fun q2 => ?_) (fun q2 => ?_)
  · obtain ⟨l, rfl⟩ := Int.eq_ofNat_of_zero_le (show 0 ≤ a by omega)
    have hl : l < 4 := by omega
    have hth9 := hth l hl
    refine s_aload_n rfl (cn rfl) rfl ?_
    refine s_getfield rfl (cn rfl) c58 rfl ?_
    refine s_iload_n rfl (cn rfl) rfl ?_
    refine s_baload rfl (cn rfl) _ rfl c77 rfl (by omega) (by decide) rfl ?_
    refine s_if_ne rfl (cn rfl) (cn rfl) ⟨by omega, by omega⟩ (fun q9 => ?_) (fun q9 => ?_)
    · refine s_iload_n rfl (cn rfl) rfl ?_
      refine s_if_ge rfl (cn rfl) (cn rfl) ⟨by omega, by omega⟩ (fun q13 => ?_) (fun q13 => ?_)
      · have e1 : cpl sz (l : Int) 0 0 = 0 := by
          unfold cpl; rw [if_pos q2]
          show (if sz l = -1 then _ else if (0 : Int) < 0 ∨ sz l - 0 < 0 then _ else _) = _
          rw [if_neg (by omega), if_neg (by omega)]
        obtain ⟨j, rfl⟩ := Int.eq_ofNat_of_zero_le (show 0 ≤ i by omega)
        refine s_aload_n rfl (cn rfl) rfl ?_
        refine s_virt rfl (cn rfl) rfl rfl c58 rfl (m_reckon hn hv h0 c58 c59 hti hba hod hW hL hs) ?_
        rintro _ _ ⟨rfl, h', ce', di', be', sm', le', sc', ba', bb', rk', ti', rfl, hf, c58, hti', hba', hW', hs'⟩
        obtain ⟨LA, LB, FX, SG, esm, c70, c71, c72, c73, hL1, hSG⟩ := MS_MX hn hv h0 hs'
        subst esm
        have nMb := nM_b hn hv h0
        have nBb := nB_b hn hv h0
        have c59 := (hf 59 (by decide)).trans c59
        have c78 := (hf 78 (by decide)).trans c78
        have c79 := (hf 79 (by decide)).trans c79
        refine s_lconst rfl (cn rfl) 1 (by decide) ?_
        refine s_lstore_n rfl (cn rfl) ?_
        refine s_iconst rfl (cn rfl) ?_
        refine s_istore rfl (ch rfl) ?_
        have lp22 : ∀ p : Nat, p ≤ n → ∀ (x : Int) (l6 : Option Value) (hx0 : 0 < x) (hx1 : x ∣ nB n v) (hx2 : ∀ k, k < p → lw (nA n v k) (nB n v) 1 ∣ x), K 22 [some (.ref 58), some (.int (ii (l : Int))), some (.int (ii (j : Int))), some (.long (jj x)), none, some (.int (ii (p : Int))), l6, none] [] (N, S, h') := by
          refine dn (fun p hp ih22 => ?_)
          intro x l6 hx0 hx1 hx2
          have hxb := Int.le_of_dvd nBb.1 hx1
          refine hK _ _ _ _ ?_
          refine s_iload rfl (cn rfl) rfl ?_
          refine s_aload_n rfl (cn rfl) rfl ?_
          refine s_getfield rfl (cn rfl) c58 rfl ?_
          refine s_icmp_ge rfl (cn rfl) (cn rfl) ⟨by omega, by omega⟩ ⟨by omega, by omega⟩ (fun q25 => ?_) (fun q25 => ?_)
          · obtain rfl : x = nB n v := den_all hn hv h0 hx0 hx1 (fun q hq => hx2 q (by omega))
            refine s_iconst rfl (cn rfl) ?_
            refine s_istore rfl (ch rfl) ?_
            have lp47 : ∀ k : Nat, k ≤ n + 1 → ∀ (h3 : Nat → Option rr_E) (w3 : Nat → Int) (m6 : Option Value) (c58 : h3 58 = some (MO (n : Int) kp tp pt wr fa dm ce' di' be' 0 ((nM n v : Nat) : Int) le' sc' ba' bb' (ti' : Int) rk' ts tm pa wa)) (c79 : h3 79 = some (.inl (1, 120, .inr (.inl (fun k => jj (w3 k)))))) (hf3 : fr [79] h' h3) (hw3 : ∀ m q, m < 4 → q < 30 → w3 (30 * m + q) = if m = l then lif (it l) (nB n v) (nA n v) j k q else it m q) (hk0 : k = 0 ∨ (j : Int) + (k : Int) ≤ sz l), K 47 [some (.ref 58), some (.int (ii (l : Int))), some (.int (ii (j : Int))), some (.long (jj (nB n v))), none, some (.int (ii (k : Int))), m6, none] [] (N, S, h3) := by
              refine dn (fun k hk ih47 => ?_)
              intro h3 w3 m6 c58 c79 hf3 hw3 hk0
              have c59 := (hf3 59 (by decide)).trans c59
              have c70 := (hf3 70 (by decide)).trans c70
              have c71 := (hf3 71 (by decide)).trans c71
              have c73 := (hf3 73 (by decide)).trans c73
              have c78 := (hf3 78 (by decide)).trans c78
              refine hK _ _ _ _ ?_
              refine s_iload rfl (cn rfl) rfl ?_
              refine s_aload_n rfl (cn rfl) rfl ?_
              refine s_getfield rfl (cn rfl) c58 rfl ?_
              refine s_icmp_gt rfl (cn rfl) (cn rfl) ⟨by omega, by omega⟩ ⟨by omega, by omega⟩ (fun q50 => ?_) (fun q50 => ?_)
              · refine s_aload_n rfl (cn rfl) rfl ?_
                refine s_getfield rfl (cn rfl) c58 rfl ?_
                refine s_iconst rfl (cn rfl) ?_
                refine s_iadd rfl (cn rfl) ?_
                refine s_ireturn rfl ?_
                exact ⟨ri ((if_pos e1).trans (if_pos (by show 0 ≤ (j : Int) ∧ (j : Int) + (n : Int) < sz l; omega))).symm, ⟨h3, _, _, _, _, _, _, _, _, _, 0, ti', w3, rfl, fr_t (fr_w hf (by simp)) (fr_w (l := [58, 66, 67, 68, 69, 70, 71, 72, 73, 74, 79]) hf3 (by simp)) (by simp), c58, hti', hba', Or.inl rfl, fr_MW hf3 (by decide) hW', MS_ML (fr_MS hf3 (by decide) hs'), fun _ => fr_MS hf3 (by decide) hs', c79, (fun m q hm hq => by
                  rw [hw3 m q hm hq]
                  by_cases e : m = l
                  · subst e
                    rw [if_pos rfl, show itl n v sz it (m : Int) (j : Int) m = _ from ci_y ⟨e1, rfl⟩]
                    show _ = lif (it m) (nB n v) (nA n v) j (lc n (sz m) (j : Int)) q
                    congr 1
                    unfold lc; rw [if_pos (by omega)]; omega
                  · rw [if_neg e, itl_o (show m ≠ ((l : Nat) : Int).toNat from e)])⟩⟩
              · refine s_iload_n rfl (cn rfl) rfl ?_
                refine s_aload_n rfl (cn rfl) rfl ?_
                refine s_getfield rfl (cn rfl) c58 rfl ?_
                refine s_iload_n rfl (cn rfl) rfl ?_
                refine s_iaload rfl (cn rfl) _ rfl c78 rfl (by omega) (by decide) rfl ?_
                refine s_iload rfl (cn rfl) rfl ?_
                refine s_isub rfl (cn rfl) ?_
                refine s_icmp_lt rfl (cn rfl) (cn rfl) ⟨by omega, by omega⟩ ⟨by omega, by omega⟩ (fun q58 => ?_) (fun q58 => ?_)
                · refine s_aload_n rfl (cn rfl) rfl ?_
                  refine s_getfield rfl (cn rfl) c58 rfl ?_
                  refine s_bipush rfl (cn rfl) (by decide) ?_
                  refine s_iload_n rfl (cn rfl) rfl ?_
                  refine s_imul rfl (cn rfl) ?_
                  refine s_iload_n rfl (cn rfl) rfl ?_
                  refine s_iadd rfl (cn rfl) ?_
                  refine s_iload rfl (cn rfl) rfl ?_
                  refine s_iadd rfl (cn rfl) ?_
                  refine s_iload rfl (cn rfl) rfl ?_
                  refine s_if_ne rfl (cn rfl) (cn rfl) ⟨by omega, by omega⟩ (fun q71 => ?_) (fun q71 => ?_)
                  · have hkn : k - 1 < n := by omega
                    have hfe := fair_e hn hv h0 hkn
                    have hd := den_d hn hv h0 hkn
                    have elw : ∀ z, lw (v (2 ^ (k - 1)) * nQ n v (nS n v (2 ^ (k - 1))) - nP n v (nS n v (2 ^ (k - 1)))) (nQ n v (nS n v (2 ^ (k - 1)))) z = lw (nA n v (k - 1)) (nB n v) z := fun z => lw_eq hfe.2.1.1 nBb.1 hfe.1
                    have ek : (k : Int) - 1 = ((k - 1 : Nat) : Int) := by omega
                    refine s_lload_n rfl (cn rfl) rfl ?_
                    refine s_aload_n rfl (cn rfl) rfl ?_
                    refine s_iload rfl (cn rfl) rfl ?_
                    refine s_iconst rfl (cn rfl) ?_
                    refine s_isub rfl (cn rfl) ?_
                    rw [ek]
                    refine s_virt rfl (cn rfl) rfl rfl c58 rfl (calls_d (m_fairBelow1 (d := d + (n + 3)) (i := k - 1) hn hv h0 c58 c59 c70 c71 c73 (fun i i1 i2 => ⟨(hL1 i i1 i2).1, (hL1 i i1 i2).2.1⟩) hSG (by omega)) (show d + (n + 3) + 3 = d + (n + 6) by omega)) ?_
                    rintro _ _ ⟨rfl, rfl⟩
                    refine s_ldiv rfl (cn rfl) ⟨by omega, by omega⟩ ⟨by omega, by omega⟩ (td_b ⟨by omega, by omega⟩) (by omega) ?_
                    refine s_aload_n rfl (cn rfl) rfl ?_
                    refine s_iload rfl (cn rfl) rfl ?_
                    refine s_iconst rfl (cn rfl) ?_
                    refine s_isub rfl (cn rfl) ?_
                    rw [ek]
                    refine s_virt rfl (cn rfl) rfl rfl c58 rfl (calls_d (m_fairAbove (d := d + (n + 5)) (i := k - 1) hn hv h0 c58 c59 c70 c71 c73 (fun i i1 i2 => ⟨(hL1 i i1 i2).1, (hL1 i i1 i2).2.1⟩) hSG (by omega)) (show d + (n + 5) + 1 = d + (n + 6) by omega)) ?_
                    rintro _ _ ⟨rfl, rfl⟩
                    refine s_aload_n rfl (cn rfl) rfl ?_
                    refine s_iload rfl (cn rfl) rfl ?_
                    refine s_iconst rfl (cn rfl) ?_
                    refine s_isub rfl (cn rfl) ?_
                    rw [ek]
                    refine s_virt rfl (cn rfl) rfl rfl c58 rfl (calls_d (m_fairBelow (d := d + (n + 5)) (i := k - 1) hn hv h0 c58 c59 c70 c71 c73 (fun i i1 i2 => ⟨(hL1 i i1 i2).1, (hL1 i i1 i2).2.1⟩) hSG (by omega)) (show d + (n + 5) + 1 = d + (n + 6) by omega)) ?_
                    rintro _ _ ⟨rfl, rfl⟩
                    refine s_iconst rfl (cn rfl) ?_
                    refine s_stat rfl (cn rfl) rfl rfl rfl (calls_d (m_lowest (d := d + (n + 4)) ⟨by omega, by omega⟩ ⟨by omega, by omega⟩ (by omega) (by decide)) (show d + (n + 4) + 2 = d + (n + 6) by omega)) ?_
                    rintro _ _ ⟨rfl, rfl⟩
                    rw [elw]
                    refine s_lmul rfl (cn rfl) ?_
                    first | rw [hd.2.2.1] | skip
                    refine s_lastore rfl (cn rfl) (30 * l + (j + k)) (by omega) c79 (by omega) (by decide) ?_
                    refine s_iinc rfl (cn rfl) rfl ?_
                    refine s_goto rfl (ch rfl) ?_
                    exact ih47 (by omega) _ _ _ c58 rr_set_eq (fr_s (by decide) hf3) (fun m q hm hq => by
                      by_cases e : m = l ∧ q = j + k
                      · rw [if_pos e.1, show 30 * m + q = 30 * l + (j + k) by omega, fu_s, e.2]
                        have z := congrFun (lif_s (f := it l) (be := nB n v) (A := nA n v) (i := j) (c := k) (t := nA n v (k - 1)) (if_neg (by omega)).symm) (j + k)
                        rw [fu_s] at z; exact z
                      · rw [fu_n (by omega), hw3 m q hm hq]
                        by_cases e2 : m = l
                        · rw [if_pos e2, if_pos e2]
                          have z := congrFun (lif_s (f := it l) (be := nB n v) (A := nA n v) (i := j) (c := k) (t := nA n v (k - 1)) (if_neg (by omega)).symm) q
                          rw [fu_n (by omega)] at z; exact z
                        · rw [if_neg e2, if_neg e2]) (by omega)
                  · refine s_lload_n rfl (cn rfl) rfl ?_
                    refine s_goto rfl (cn rfl) ?_
                    first | rw [hd.2.2.1] | skip
                    refine s_lastore rfl (cn rfl) (30 * l + (j + k)) (by omega) c79 (by omega) (by decide) ?_
                    refine s_iinc rfl (cn rfl) rfl ?_
                    refine s_goto rfl (ch rfl) ?_
                    exact ih47 (by omega) _ _ _ c58 rr_set_eq (fr_s (by decide) hf3) (fun m q hm hq => by
                      by_cases e : m = l ∧ q = j + k
                      · rw [if_pos e.1, show 30 * m + q = 30 * l + (j + k) by omega, fu_s, e.2]
                        have z := congrFun (lif_s (f := it l) (be := nB n v) (A := nA n v) (i := j) (c := k) (t := nB n v) (if_pos (by omega)).symm) (j + k)
                        rw [fu_s] at z; exact z
                      · rw [fu_n (by omega), hw3 m q hm hq]
                        by_cases e2 : m = l
                        · rw [if_pos e2, if_pos e2]
                          have z := congrFun (lif_s (f := it l) (be := nB n v) (A := nA n v) (i := j) (c := k) (t := nB n v) (if_pos (by omega)).symm) q
                          rw [fu_n (by omega)] at z; exact z
                        · rw [if_neg e2, if_neg e2]) (by omega)
                · refine s_bipush rfl (cn rfl) (by decide) ?_
                  refine s_ireturn rfl ?_
                  exact ⟨ri ((if_pos e1).trans (if_neg (by show ¬ (0 ≤ (j : Int) ∧ (j : Int) + (n : Int) < sz l); omega))).symm, ⟨h3, _, _, _, _, _, _, _, _, _, 0, ti', w3, rfl, fr_t (fr_w hf (by simp)) (fr_w (l := [58, 66, 67, 68, 69, 70, 71, 72, 73, 74, 79]) hf3 (by simp)) (by simp), c58, hti', hba', Or.inl rfl, fr_MW hf3 (by decide) hW', MS_ML (fr_MS hf3 (by decide) hs'), fun _ => fr_MS hf3 (by decide) hs', c79, (fun m q hm hq => by
                    rw [hw3 m q hm hq]
                    by_cases e : m = l
                    · subst e
                      rw [if_pos rfl, show itl n v sz it (m : Int) (j : Int) m = _ from ci_y ⟨e1, rfl⟩]
                      show _ = lif (it m) (nB n v) (nA n v) j (lc n (sz m) (j : Int)) q
                      congr 1
                      unfold lc; rw [if_pos (by omega)]; omega
                    · rw [if_neg e, itl_o (show m ≠ ((l : Nat) : Int).toNat from e)])⟩⟩
            exact lp47 0 (by omega) _ w _ (by exact c58) c79 fr_r (fun m q hm hq => by
              rw [hit m q hm hq]
              by_cases e : m = l
              · rw [if_pos e, lif_0, e]
              · rw [if_neg e]) (Or.inl rfl)
          · have hpn : p < n := by omega
            have hfe := fair_e hn hv h0 hpn
            have hd := den_d hn hv h0 hpn
            have elw : ∀ z, lw (v (2 ^ p) * nQ n v (nS n v (2 ^ p)) - nP n v (nS n v (2 ^ p))) (nQ n v (nS n v (2 ^ p))) z = lw (nA n v p) (nB n v) z := fun z => lw_eq hfe.2.1.1 nBb.1 hfe.1
            obtain ⟨t, s, ht0, hs0, hs1, hs2, hs3, hs4, hs5⟩ := wd_s hx0 hd.1.1
            have hwp : 0 < s * lw (nA n v p) (nB n v) 1 := Int.mul_pos hs0 hd.1.1
            have hgb := gcd_b (a := x) (b := lw (nA n v p) (nB n v) 1) ⟨by omega, by omega⟩ hd.1.1
            refine s_aload_n rfl (cn rfl) rfl ?_
            refine s_iload rfl (cn rfl) rfl ?_
            refine s_virt rfl (cn rfl) rfl rfl c58 rfl (calls_d (m_fairAbove (d := d + (n + 5)) (i := p) hn hv h0 c58 c59 c70 c71 c73 (fun i i1 i2 => ⟨(hL1 i i1 i2).1, (hL1 i i1 i2).2.1⟩) hSG (by omega)) (show d + (n + 5) + 1 = d + (n + 6) by omega)) ?_
            rintro _ _ ⟨rfl, rfl⟩
            refine s_aload_n rfl (cn rfl) rfl ?_
            refine s_iload rfl (cn rfl) rfl ?_
            refine s_virt rfl (cn rfl) rfl rfl c58 rfl (calls_d (m_fairBelow (d := d + (n + 5)) (i := p) hn hv h0 c58 c59 c70 c71 c73 (fun i i1 i2 => ⟨(hL1 i i1 i2).1, (hL1 i i1 i2).2.1⟩) hSG (by omega)) (show d + (n + 5) + 1 = d + (n + 6) by omega)) ?_
            rintro _ _ ⟨rfl, rfl⟩
            refine s_iconst rfl (cn rfl) ?_
            refine s_stat rfl (cn rfl) rfl rfl rfl (calls_d (m_lowest (d := d + (n + 4)) ⟨by omega, by omega⟩ ⟨by omega, by omega⟩ (by omega) (by decide)) (show d + (n + 4) + 2 = d + (n + 6) by omega)) ?_
            rintro _ _ ⟨rfl, rfl⟩
            rw [elw]
            refine s_lstore rfl (cn rfl) ?_
            refine s_lload_n rfl (cn rfl) rfl ?_
            refine s_lload_n rfl (cn rfl) rfl ?_
            refine s_lload rfl (cn rfl) rfl ?_
            refine s_stat rfl (cn rfl) rfl rfl rfl (calls_d (m_common (d := d + (n + 5)) ⟨by omega, by omega⟩ ⟨by omega, by omega⟩ (by omega)) (show d + (n + 5) + 1 = d + (n + 6) by omega)) ?_
            rintro _ _ ⟨rfl, rfl⟩
            refine s_ldiv rfl (cn rfl) ⟨by omega, by omega⟩ ⟨by omega, by omega⟩ (td_b ⟨by omega, by omega⟩) (by omega) ?_
            rw [hs1]
            refine s_lload rfl (cn rfl) rfl ?_
            refine s_lmul rfl (cn rfl) ?_
            refine s_lstore_n rfl (cn rfl) ?_
            refine s_iinc rfl (cn rfl) rfl ?_
            refine s_goto rfl (ch rfl) ?_
            exact ih22 (by omega) _ _ hwp (hs5 _ hx1 hd.2.1) (fun k hk => by
              by_cases e : k = p
              · rw [e]; exact ⟨s, Int.mul_comm _ _⟩
              · exact Int.dvd_trans (hx2 k (by omega)) ⟨t, hs2⟩)
        exact lp22 0 (by omega) 1 _ (by decide) (Int.one_dvd _) (fun k hk => absurd hk (by omega))
      · refine s_bipush rfl (cn rfl) (by decide) ?_
        refine s_ireturn rfl ?_
        have e1 : cpl sz (l : Int) 0 0 = 0 := by
          unfold cpl; rw [if_pos q2]
          show (if sz l = -1 then _ else if (0 : Int) < 0 ∨ sz l - 0 < 0 then _ else _) = _
          rw [if_neg (by omega), if_neg (by omega)]
        exact ⟨ri ((if_pos e1).trans (if_neg (by omega))).symm, h, _, _, _, _, _, _, _, _, _, od, ti, w, rfl, fr_r, c58, hti, hba, hod, hW, hL, hs, c79, fun m q hm hq => by
          rw [hit m q hm hq]
          unfold itl
          by_cases e : cpl sz (l : Int) 0 0 = 0 ∧ m = ((l : Nat) : Int).toNat
          · rw [ci_y e, show lc n (sz m) i = 0 from if_neg (by omega), lif_0]
          · rw [ci_n e]⟩
    · refine s_bipush rfl (cn rfl) (by decide) ?_
      refine s_ireturn rfl ?_
      have e1 : cpl sz (l : Int) 0 0 = -11 := by
        unfold cpl; rw [if_pos q2]
        show (if sz l = -1 then _ else if (0 : Int) < 0 ∨ sz l - 0 < 0 then _ else _) = _
        rw [if_pos (by omega)]
      exact ⟨ri (by unfold sp_lay; rw [if_neg (by omega), e1]), h, _, _, _, _, _, _, _, _, _, od, ti, w, rfl, fr_r, c58, hti, hba, hod, hW, hL, hs, c79, by rw [itl_n (by omega)]; exact hit⟩
  · refine s_iconst rfl (cn rfl) ?_
    refine s_ireturn rfl ?_
    have e1 : cpl sz a 0 0 = -1 := by unfold cpl; rw [if_neg q2]
    exact ⟨ri (by unfold sp_lay; rw [if_neg (by omega), e1]), h, _, _, _, _, _, _, _, _, _, od, ti, w, rfl, fr_r, c58, hti, hba, hod, hW, hL, hs, c79, by rw [itl_n (by omega)]; exact hit⟩
