/-! Told shares. -/
def shb (it : Nat → Nat → Int) (a i : Int) : Int := it a.toNat i.toNat
def sha (n : Nat) (it : Nat → Nat → Int) (a i : Int) : Nat → Int := fun p => if p < n then it a.toNat (i.toNat + 1 + p) else 0
def okS (n : Nat) (it : Nat → Nat → Int) (a i : Int) : Prop := (1 ≤ shb it a i ∧ shb it a i ≤ 1000) ∧ ∀ p, p < n → -1000000 ≤ sha n it a i p ∧ sha n it a i p ≤ 1000000
noncomputable def rss (n : Nat) (sz : Nat → Int) (it : Nat → Nat → Int) (a i : Int) : Int := if cpl sz a i ((n : Int) + 1) ≠ 0 then cpl sz a i ((n : Int) + 1) else @ite _ (okS n it a i) (Classical.propDecidable _) 0 (-2)
theorem rss_n {n : Nat} {sz : Nat → Int} {it : Nat → Nat → Int} {a i : Int} (h : cpl sz a i ((n : Int) + 1) ≠ 0) : rss n sz it a i = cpl sz a i ((n : Int) + 1) := if_pos h
theorem rss_b {n : Nat} {sz : Nat → Int} {it : Nat → Nat → Int} {a i : Int} (h : cpl sz a i ((n : Int) + 1) = 0) (h3 : ¬ okS n it a i) : rss n sz it a i = -2 := by
  unfold rss
  rw [if_neg (fun q => q h), if_neg h3]
theorem rss_0 {n : Nat} {sz : Nat → Int} {it : Nat → Nat → Int} {a i : Int} (h : cpl sz a i ((n : Int) + 1) = 0) (h3 : okS n it a i) : rss n sz it a i = 0 := by
  unfold rss
  rw [if_neg (fun q => q h), if_pos h3]
theorem rss_z {n : Nat} {sz : Nat → Int} {it : Nat → Nat → Int} {a i : Int} (h : rss n sz it a i = 0) : cpl sz a i ((n : Int) + 1) = 0 ∧ okS n it a i := by
  by_cases h1 : cpl sz a i ((n : Int) + 1) = 0
  · refine ⟨h1, ?_⟩
    by_cases h2 : okS n it a i
    · exact h2
    · rw [rss_b h1 h2] at h; omega
  · rw [rss_n h1] at h; exact absurd h h1
theorem rss_r (n : Nat) (sz : Nat → Int) (it : Nat → Nat → Int) (a i : Int) : -13 ≤ rss n sz it a i ∧ rss n sz it a i ≤ 0 := by
  have := cpl_b sz a i ((n : Int) + 1)
  unfold rss
  split
  · omega
  · split <;> omega
/-- the grudge by told shares, over their number below -/
def tg (n : Nat) (v : Nat → Int) (it : Nat → Nat → Int) (a i : Int) : Nat → Int := fun g => v g * shb it a i - st_sh n g (sha n it a i)
theorem sh_cut {g : Nat} {x : Nat → Int} {n : Nat} : ∀ m, n ≤ m → (∀ p, n ≤ p → p < m → x p = 0) → st_sh m g x = st_sh n g x
  | 0, h, _ => by rw [show n = 0 by omega]
  | m + 1, h, hx => by
    by_cases e : n = m + 1
    · rw [e]
    · show st_sh m g x + st_bt g m * x m = _
      rw [sh_cut m (by omega) (fun p p1 p2 => hx p p1 (by omega)), hx m (by omega) (by omega)]; omega
theorem sh_cg {g : Nat} {x y : Nat → Int} {n : Nat} (h : ∀ p, p < n → x p = y p) : st_sh n g x = st_sh n g y := ms_cg (fun p hp => by rw [h p hp])
theorem sh_b {g : Nat} {x : Nat → Int} {c : Int} (hc : 0 ≤ c) : ∀ n, (∀ p, p < n → -c ≤ x p ∧ x p ≤ c) → -((n : Int) * c) ≤ st_sh n g x ∧ st_sh n g x ≤ (n : Int) * c
  | 0, _ => by show -((0 : Int) * c) ≤ 0 ∧ 0 ≤ (0 : Int) * c; omega
  | n + 1, h => by
    have h1 := sh_b (g := g) hc n (fun p hp => h p (by omega))
    have h2 := h n (by omega)
    have e : (((n + 1 : Nat) : Int)) * c = (n : Int) * c + c := by rw [Int.natCast_add, Int.add_mul]; omega
    rw [e]
    have h3 : st_sh (n + 1) g x = st_sh n g x + st_bt g n * x n := rfl
    rcases bt_01 g n with q | q
    · rw [h3, q]; omega
    · rw [h3, q]; omega
theorem tg_b {n : Nat} {v : Nat → Int} {it : Nat → Nat → Int} {a i : Int} (hn : 2 ≤ n ∧ n ≤ 4) (hv : ∀ k, -999 ≤ v k ∧ v k ≤ 999) (hk : okS n it a i) (g : Nat) : -5000000 ≤ tg n v it a i g ∧ tg n v it a i g ≤ 5000000 := by
  have h1 := sh_b (g := g) (x := sha n it a i) (c := 1000000) (by decide) n hk.2
  have h2 := ab_mul (x := v g) (y := shb it a i) (a := 999) (b := 1000) (hv g) (by have := hk.1; omega) (by decide) (by decide)
  unfold tg
  omega
theorem sh4 {n g : Nat} {it : Nat → Nat → Int} {a i : Int} (hn : 2 ≤ n ∧ n ≤ 4) : st_sh 4 g (sha n it a i) = st_sh n g (sha n it a i) := sh_cut 4 hn.2 (fun p p1 _ => if_neg (by omega))
/-- told shares held against others -/
noncomputable def hld (m : Nat) (E E' : Nat → Int) (be be' : Int) : Int :=
  if ff 0 (m - 1) (fun k => E (ino E m k).toNat * be' ≠ E' (ino E' m k).toNat * be) (-1) = -1 then 0
  else if E (ino E m (ff 0 (m - 1) (fun k => E (ino E m k).toNat * be' ≠ E' (ino E' m k).toNat * be) (-1))).toNat * be' < E' (ino E' m (ff 0 (m - 1) (fun k => E (ino E m k).toNat * be' ≠ E' (ino E' m k).toNat * be) (-1))).toNat * be then 1 else 2
theorem hld_0 {m : Nat} {E E' : Nat → Int} {be be' : Int} (h : ∀ k, k < m - 1 → E (ino E m k).toNat * be' = E' (ino E' m k).toNat * be) : hld m E E' be be' = 0 := if_pos (ff_n (fun k _ h2 q => q (h k h2))).symm
theorem hld_1 {m k : Nat} {E E' : Nat → Int} {be be' : Int} (hk : k < m - 1) (h : ∀ j : Nat, j < k → E (ino E m j).toNat * be' = E' (ino E' m j).toNat * be) (h1 : E (ino E m k).toNat * be' < E' (ino E' m k).toNat * be) : hld m E E' be be' = 1 := by
  have e : (k : Int) = ff 0 (m - 1) (fun k => E (ino E m k).toNat * be' ≠ E' (ino E' m k).toNat * be) (-1) := ff_y (Nat.zero_le k) hk (by omega) (fun j _ j2 q => q (h j j2))
  unfold hld
  rw [← e, if_neg (by omega), if_pos h1]
theorem hld_2 {m k : Nat} {E E' : Nat → Int} {be be' : Int} (hk : k < m - 1) (h : ∀ j : Nat, j < k → E (ino E m j).toNat * be' = E' (ino E' m j).toNat * be) (h1 : E' (ino E' m k).toNat * be < E (ino E m k).toNat * be') : hld m E E' be be' = 2 := by
  have e : (k : Int) = ff 0 (m - 1) (fun k => E (ino E m k).toNat * be' ≠ E' (ino E' m k).toNat * be) (-1) := ff_y (Nat.zero_le k) hk (by omega) (fun j _ j2 q => q (h j j2))
  unfold hld
  rw [← e, if_neg (by omega), if_neg (by omega)]
theorem u_good {d N S n : Nat} {v : Nat → Int} {h : Nat → Option rr_E} (hn : 2 ≤ n ∧ n ≤ 4) (c1 : h 1 = some (.inr (0, [.int (ii (n : Int)), .ref 2]))) (c2 : h 2 = some (.inl (0, 16, .inl (fun k => ii (v k))))) (hv : ∀ k, -999 ≤ v k ∧ v k ≤ 999) {be x y : Int} {A : Nat → Int} (c43 : h 43 = some (.inr (3, [.long (jj be), .ref 44, .ref 45, .int (ii x), .int (ii y)]))) (c44 : h 44 = some (.inl (1, 4, .inr (.inl (fun k => jj (A k)))))) (b1 : b6 (st_sh 4 (al n) A)) (b2 : b6 (v (al n) * be)) : rr_Calls (d + 2) j_Shares_areGood [.ref 43, .ref 1] (N, S, h) (fun r R => r = some (.int (rb (st_sh 4 (al n) A = v (al n) * be))) ∧ R = (N, S, h)) := by
  refine rr_meth (C := K_Shares_areGood) (hd := h_Shares_areGood) (mx := 2) rfl rfl (fun K hK => ?_)
  have hA := al_b hn
  have hva := hv (al n)
  refine hK _ _ _ _ ?_
  refine s_aload_n rfl (cn rfl) rfl ?_
  refine s_aload_n rfl (cn rfl) rfl ?_
  refine s_virt rfl (cn rfl) rfl rfl c1 rfl (u_all_1 hn c1) ?_
  rintro _ _ ⟨rfl, rfl⟩
  refine s_virt rfl (cn rfl) rfl rfl c43 rfl (u_sumOf_43 c43 c44 (by omega)) ?_
  rintro _ _ ⟨rfl, rfl⟩
  refine s_aload_n rfl (cn rfl) rfl ?_
  refine s_getfield rfl (cn rfl) c1 rfl ?_
  refine s_aload_n rfl (cn rfl) rfl ?_
  refine s_virt rfl (cn rfl) rfl rfl c1 rfl (u_all_1 hn c1) ?_
  rintro _ _ ⟨rfl, rfl⟩
  refine s_iaload rfl (cn rfl) _ rfl c2 rfl (by omega) (by decide) rfl ?_
  refine s_i2l rfl (cn rfl) ⟨by omega, by omega⟩ ?_
  refine s_aload_n rfl (cn rfl) rfl ?_
  refine s_getfield rfl (cn rfl) c43 rfl ?_
  refine s_lmul rfl (cn rfl) ?_
  refine s_lcmp rfl (cn rfl) ?_
  refine s_ifl_ne rfl (cn rfl) (cn rfl) ⟨by omega, by omega⟩ ⟨by omega, by omega⟩ (fun q14 => ?_) (fun q14 => ?_)
  · refine s_iconst rfl (cn rfl) ?_
    refine s_zreturn rfl (Or.inl rfl) ?_
    exact ⟨rz_f q14, rfl⟩
  · refine s_iconst rfl (cn rfl) ?_
    refine s_goto rfl (cn rfl) ?_
    refine s_zreturn rfl (Or.inr rfl) ?_
    exact ⟨rz_t q14, rfl⟩
theorem u_any {d N S n : Nat} {h : Nat → Option rr_E} (hn : 2 ≤ n ∧ n ≤ 4) {be : Int} {A E : Nat → Int} (c43 : h 43 = some (.inr (3, [.long (jj be), .ref 44, .ref 45, .int (ii (n : Int)), .int (ii ((al n : Nat) : Int))]))) (c44 : h 44 = some (.inl (1, 4, .inr (.inl (fun k => jj (A k)))))) (c45 : h 45 = some (.inl (1, 16, .inr (.inl (fun k => jj (E k)))))) (hE : ∀ g, 1 ≤ g → g < al n → b6 (E g)) : rr_Calls (d + 1) j_Shares_anyGrudgeAboveZero [.ref 43] (N, S, h) (fun r R => r = some (.int (rc (∃ g, 1 ≤ g ∧ g < al n ∧ 0 < E g))) ∧ R = (N, S, h)) := by
  refine rr_meth (C := K_Shares_anyGrudgeAboveZero) (hd := h_Shares_anyGrudgeAboveZero) (mx := 2) rfl rfl (fun K hK => ?_)
  have hA := al_b hn
  refine hK _ _ _ _ ?_
  refine s_iconst rfl (cn rfl) ?_
  refine s_istore_n rfl (ch rfl) ?_
  have lp2 : ∀ g : Nat, g ≤ al n → ∀ (h1 : 1 ≤ g) (no : ∀ k, 1 ≤ k → k < g → ¬ 0 < E k), K 2 [some (.ref 43), some (.int (ii (g : Int)))] [] (N, S, h) := by
    refine dn (fun g hg ih2 => ?_)
    intro h1 no
    refine hK _ _ _ _ ?_
    refine s_iload_n rfl (cn rfl) rfl ?_
    refine s_aload_n rfl (cn rfl) rfl ?_
    refine s_getfield rfl (cn rfl) c43 rfl ?_
    refine s_icmp_ge rfl (cn rfl) (cn rfl) ⟨by omega, by omega⟩ ⟨by omega, by omega⟩ (fun q5 => ?_) (fun q5 => ?_)
    · refine s_iconst rfl (cn rfl) ?_
      refine s_zreturn rfl (Or.inl rfl) ?_
      exact ⟨rz_f (fun ⟨k, k1, k2, k3⟩ => no k k1 (by omega) k3), rfl⟩
    · have eg := hE g h1 (by omega)
      refine s_aload_n rfl (cn rfl) rfl ?_
      refine s_getfield rfl (cn rfl) c43 rfl ?_
      refine s_iload_n rfl (cn rfl) rfl ?_
      refine s_laload rfl (cn rfl) _ rfl c45 (by omega) (by decide) rfl ?_
      refine s_lconst rfl (cn rfl) 0 (by decide) ?_
      refine s_lcmp rfl (cn rfl) ?_
      refine s_ifl_le rfl (cn rfl) (cn rfl) ⟨by omega, by omega⟩ ⟨by omega, by omega⟩ (fun q12 => ?_) (fun q12 => ?_)
      · refine s_iinc rfl (cn rfl) rfl ?_
        refine s_goto rfl (ch rfl) ?_
        exact ih2 (by omega) (by omega) (fun k q1 q2 => by
            by_cases e : k = g
            · subst e; omega
            · exact no k q1 (by omega))
      · refine s_iconst rfl (cn rfl) ?_
        refine s_zreturn rfl (Or.inr rfl) ?_
        exact ⟨rz_t ⟨g, h1, by omega, q12⟩, rfl⟩
  exact lp2 1 (by omega) (by omega) (fun k q1 q2 => absurd q2 (by omega))
theorem u_grudgeOf_43 {d N S n : Nat} {h : Nat → Option rr_E} (hn : 2 ≤ n ∧ n ≤ 4) {be : Int} {A E : Nat → Int} (c43 : h 43 = some (.inr (3, [.long (jj be), .ref 44, .ref 45, .int (ii (n : Int)), .int (ii ((al n : Nat) : Int))]))) (c44 : h 44 = some (.inl (1, 4, .inr (.inl (fun k => jj (A k)))))) (c45 : h 45 = some (.inl (1, 16, .inr (.inl (fun k => jj (E k)))))) {g : Nat} (h1 : 1 ≤ g) (h2 : g < al n) (eg : b5 (E g)) (eb : b5 be) (hb : 0 < be) {z : Int} (hz : b3 z) : rr_Calls (d + 3) j_Shares_grudgeOf [.ref 43, .int (ii (g : Int)), .int (ii z)] (N, S, h) (fun r R => r = some (.long (jj (lw (E g) be z))) ∧ R = (N, S, h)) := by
  refine rr_meth (C := K_Shares_grudgeOf) (hd := h_Shares_grudgeOf) (mx := 3) rfl rfl (fun K hK => ?_)
  have hA := al_b hn
  refine hK _ _ _ _ ?_
  refine s_aload_n rfl (cn rfl) rfl ?_
  refine s_getfield rfl (cn rfl) c43 rfl ?_
  refine s_iload_n rfl (cn rfl) rfl ?_
  refine s_laload rfl (cn rfl) _ rfl c45 (by omega) (by decide) rfl ?_
  refine s_aload_n rfl (cn rfl) rfl ?_
  refine s_getfield rfl (cn rfl) c43 rfl ?_
  refine s_iload_n rfl (cn rfl) rfl ?_
  refine s_stat rfl (cn rfl) rfl rfl rfl (u_lowest (by omega) (by omega) (by omega) (by omega)) ?_
  rintro _ _ ⟨rfl, rfl⟩
  refine s_lreturn rfl ?_
  exact ⟨rfl, rfl⟩
theorem u_grudgeOf_17 {d N S n : Nat} {h : Nat → Option rr_E} (hn : 2 ≤ n ∧ n ≤ 4) {be : Int} {A E : Nat → Int} (c17 : h 17 = some (.inr (3, [.long (jj be), .ref 18, .ref 19, .int (ii (n : Int)), .int (ii ((al n : Nat) : Int))]))) (c18 : h 18 = some (.inl (1, 4, .inr (.inl (fun k => jj (A k)))))) (c19 : h 19 = some (.inl (1, 16, .inr (.inl (fun k => jj (E k)))))) {g : Nat} (h1 : 1 ≤ g) (h2 : g < al n) (eg : b5 (E g)) (eb : b5 be) (hb : 0 < be) {z : Int} (hz : b3 z) : rr_Calls (d + 3) j_Shares_grudgeOf [.ref 17, .int (ii (g : Int)), .int (ii z)] (N, S, h) (fun r R => r = some (.long (jj (lw (E g) be z))) ∧ R = (N, S, h)) := by
  refine rr_meth (C := K_Shares_grudgeOf) (hd := h_Shares_grudgeOf) (mx := 3) rfl rfl (fun K hK => ?_)
  have hA := al_b hn
  refine hK _ _ _ _ ?_
  refine s_aload_n rfl (cn rfl) rfl ?_
  refine s_getfield rfl (cn rfl) c17 rfl ?_
  refine s_iload_n rfl (cn rfl) rfl ?_
  refine s_laload rfl (cn rfl) _ rfl c19 (by omega) (by decide) rfl ?_
  refine s_aload_n rfl (cn rfl) rfl ?_
  refine s_getfield rfl (cn rfl) c17 rfl ?_
  refine s_iload_n rfl (cn rfl) rfl ?_
  refine s_stat rfl (cn rfl) rfl rfl rfl (u_lowest (by omega) (by omega) (by omega) (by omega)) ?_
  rintro _ _ ⟨rfl, rfl⟩
  refine s_lreturn rfl ?_
  exact ⟨rfl, rfl⟩
theorem u_held {d N S n : Nat} {h : Nat → Option rr_E} (hn : 2 ≤ n ∧ n ≤ 4) {be be2 : Int} {A E A2 E2 : Nat → Int} (c43 : h 43 = some (.inr (3, [.long (jj be), .ref 44, .ref 45, .int (ii (n : Int)), .int (ii ((al n : Nat) : Int))]))) (c44 : h 44 = some (.inl (1, 4, .inr (.inl (fun k => jj (A k)))))) (c45 : h 45 = some (.inl (1, 16, .inr (.inl (fun k => jj (E k)))))) (c46 : h 46 = some (.inr (3, [.long (jj be2), .ref 47, .ref 48, .int (ii (n : Int)), .int (ii ((al n : Nat) : Int))]))) (c47 : h 47 = some (.inl (1, 4, .inr (.inl (fun k => jj (A2 k)))))) (c48 : h 48 = some (.inl (1, 16, .inr (.inl (fun k => jj (E2 k)))))) (hbe : 1 ≤ be ∧ be ≤ 1000) (hbe2 : 1 ≤ be2 ∧ be2 ≤ 1000) (hE : ∀ g, 1 ≤ g → g < al n → -5000000 ≤ E g ∧ E g ≤ 5000000) (hE2 : ∀ g, 1 ≤ g → g < al n → -5000000 ≤ E2 g ∧ E2 g ≤ 5000000) : rr_Calls (d + 3) j_Shares_heldAgainst [.ref 43, .ref 46] (N, S, h) (fun r R => r = some (.int (ii (hld (al n) E E2 be be2))) ∧ R = (N, S, h)) := by
  refine rr_meth (C := K_Shares_heldAgainst) (hd := h_Shares_heldAgainst) (mx := 9) rfl rfl (fun K hK => ?_)
  have hA := al_b hn
  have hE' : ∀ g, 1 ≤ g → g < al n → b6 (E g) := fun g q1 q2 => ⟨by have := hE g q1 q2; omega, by have := hE g q1 q2; omega⟩
  have hE2' : ∀ g, 1 ≤ g → g < al n → b6 (E2 g) := fun g q1 q2 => ⟨by have := hE2 g q1 q2; omega, by have := hE2 g q1 q2; omega⟩
  refine hK _ _ _ _ ?_
  refine s_iconst rfl (cn rfl) ?_
  refine s_istore_n rfl (ch rfl) ?_
  have lp2 : ∀ k : Nat, k ≤ al n - 1 → ∀ (l3 l4 l5 l7 : Option Value) (no : ∀ j : Nat, j < k → E (ino E (al n) j).toNat * be2 = E2 (ino E2 (al n) j).toNat * be), K 2 [some (.ref 43), some (.ref 46), some (.int (ii (k : Int))), l3, l4, l5, none, l7, none] [] (N, S, h) := by
    refine dn (fun k hk ih2 => ?_)
    intro l3 l4 l5 l7 no
    refine hK _ _ _ _ ?_
    refine s_iload_n rfl (cn rfl) rfl ?_
    refine s_aload_n rfl (cn rfl) rfl ?_
    refine s_getfield rfl (cn rfl) c43 rfl ?_
    refine s_iconst rfl (cn rfl) ?_
    refine s_isub rfl (cn rfl) ?_
    refine s_icmp_ge rfl (cn rfl) (cn rfl) ⟨by omega, by omega⟩ ⟨by omega, by omega⟩ (fun q7 => ?_) (fun q7 => ?_)
    · refine s_iconst rfl (cn rfl) ?_
      refine s_ireturn rfl ?_
      exact ⟨ri (hld_0 (fun j q => no j (by omega))).symm, rfl⟩
    · obtain ⟨a1, a2⟩ := ino_ex (E := E) (m := al n) (by omega) (k := k) (by omega)
      obtain ⟨a3, a4⟩ := ino_ex (E := E2) (m := al n) (by omega) (k := k) (by omega)
      obtain ⟨g1, i1⟩ := Int.eq_ofNat_of_zero_le (show 0 ≤ ino E (al n) k by omega)
      obtain ⟨g2, i2⟩ := Int.eq_ofNat_of_zero_le (show 0 ≤ ino E2 (al n) k by omega)
      have e1 := hE g1 (by omega) (by omega)
      have e2 := hE2 g2 (by omega) (by omega)
      have m1 := ab_mul (x := E g1) (y := be2) (a := 5000000) (b := 1000) (by omega) (by omega) (by decide) (by decide)
      have m2 := ab_mul (x := E2 g2) (y := be) (a := 5000000) (b := 1000) (by omega) (by omega) (by decide) (by decide)
      refine s_aload_n rfl (cn rfl) rfl ?_
      refine s_iload_n rfl (cn rfl) rfl ?_
      refine s_virt rfl (cn rfl) rfl rfl c43 rfl (u_inOrder_43 hn c43 c44 c45 hE' (by omega)) ?_
      rintro _ _ ⟨rfl, rfl⟩
      rw [i1]
      refine s_istore_n rfl (cn rfl) ?_
      refine s_aload_n rfl (cn rfl) rfl ?_
      refine s_iload_n rfl (cn rfl) rfl ?_
      refine s_virt rfl (cn rfl) rfl rfl c46 rfl (u_inOrder_46 hn c46 c47 c48 hE2' (by omega)) ?_
      rintro _ _ ⟨rfl, rfl⟩
      rw [i2]
      refine s_istore rfl (cn rfl) ?_
      refine s_iload_n rfl (cn rfl) rfl ?_
      refine s_if_lt rfl (cn rfl) (cn rfl) ⟨by omega, by omega⟩ (fun q17 => ?_) (fun q17 => ?_)
      · omega
      · refine s_iload rfl (cn rfl) rfl ?_
        refine s_if_ge rfl (cn rfl) (cn rfl) ⟨by omega, by omega⟩ (fun q19 => ?_) (fun q19 => ?_)
        · refine s_aload_n rfl (cn rfl) rfl ?_
          refine s_getfield rfl (cn rfl) c43 rfl ?_
          refine s_iload_n rfl (cn rfl) rfl ?_
          refine s_laload rfl (cn rfl) _ rfl c45 (by omega) (by decide) rfl ?_
          refine s_aload_n rfl (cn rfl) rfl ?_
          refine s_getfield rfl (cn rfl) c46 rfl ?_
          refine s_lmul rfl (cn rfl) ?_
          refine s_lstore rfl (cn rfl) ?_
          refine s_aload_n rfl (cn rfl) rfl ?_
          refine s_getfield rfl (cn rfl) c46 rfl ?_
          refine s_iload rfl (cn rfl) rfl ?_
          refine s_laload rfl (cn rfl) _ rfl c48 (by omega) (by decide) rfl ?_
          refine s_aload_n rfl (cn rfl) rfl ?_
          refine s_getfield rfl (cn rfl) c43 rfl ?_
          refine s_lmul rfl (cn rfl) ?_
          refine s_lstore rfl (cn rfl) ?_
          refine s_lload rfl (cn rfl) rfl ?_
          refine s_lload rfl (cn rfl) rfl ?_
          refine s_lcmp rfl (cn rfl) ?_
          refine s_ifl_eq rfl (cn rfl) (cn rfl) ⟨by omega, by omega⟩ ⟨by omega, by omega⟩ (fun q41 => ?_) (fun q41 => ?_)
          · refine s_iinc rfl (cn rfl) rfl ?_
            refine s_goto rfl (ch rfl) ?_
            exact ih2 (by omega) _ _ _ _ (fun j q => by
                by_cases e : j = k
                · subst e; rw [i1, i2]; exact q41
                · exact no j (by omega))
          · refine s_lload rfl (cn rfl) rfl ?_
            refine s_lload rfl (cn rfl) rfl ?_
            refine s_lcmp rfl (cn rfl) ?_
            refine s_ifl_ge rfl (cn rfl) (cn rfl) ⟨by omega, by omega⟩ ⟨by omega, by omega⟩ (fun q45 => ?_) (fun q45 => ?_)
            · refine s_iconst rfl (cn rfl) ?_
              refine s_ireturn rfl ?_
              have i1' : (ino E (al n) (k : Int)).toNat = g1 := by omega
              have i2' : (ino E2 (al n) (k : Int)).toNat = g2 := by omega
              first
                | exact ⟨ri (hld_1 (by omega) no (by rw [i1', i2']; exact q45)).symm, rfl⟩
                | exact ⟨ri (hld_2 (by omega) no (by rw [i1', i2']; omega)).symm, rfl⟩
            · refine s_iconst rfl (cn rfl) ?_
              refine s_goto rfl (cn rfl) ?_
              refine s_ireturn rfl ?_
              have i1' : (ino E (al n) (k : Int)).toNat = g1 := by omega
              have i2' : (ino E2 (al n) (k : Int)).toNat = g2 := by omega
              first
                | exact ⟨ri (hld_1 (by omega) no (by rw [i1', i2']; exact q45)).symm, rfl⟩
                | exact ⟨ri (hld_2 (by omega) no (by rw [i1', i2']; omega)).symm, rfl⟩
        · omega
  exact lp2 0 (by omega) _ _ _ _ (fun j q => absurd q (by omega))
theorem u_readS_43 {d N S n : Nat} {v : Nat → Int} {h : Nat → Option rr_E} (hn : 2 ≤ n ∧ n ≤ 4) (c1 : h 1 = some (.inr (0, [.int (ii (n : Int)), .ref 2]))) (c2 : h 2 = some (.inl (0, 16, .inl (fun k => ii (v k))))) (hv : ∀ k, -999 ≤ v k ∧ v k ≤ 999) {sz : Nat → Int} {it : Nat → Nat → Int} (hsz : ∀ l, l < 4 → -1 ≤ sz l ∧ sz l ≤ 30) (hit : ∀ l i, b6 (it l i)) (c51 : h 51 = some (.inr (1, [.ref 52, .ref 57]))) (c52 : h 52 = some AA) (c53 : ∀ l, l < 4 → h (53 + l) = some (.inl (1, 30, .inr (.inl (fun k => jj (it l k)))))) (c57 : h 57 = some (.inl (0, 4, .inl (fun k => ii (sz k))))) {be0 x0 y0 : Int} {A0 E0 : Nat → Int} (c43 : h 43 = some (.inr (3, [.long (jj be0), .ref 44, .ref 45, .int (ii x0), .int (ii y0)]))) (c44 : h 44 = some (.inl (1, 4, .inr (.inl (fun k => jj (A0 k)))))) (c45 : h 45 = some (.inl (1, 16, .inr (.inl (fun k => jj (E0 k)))))) {a i : Int} (ha : b3 a) (hi : b3 i) : rr_Calls (d + 3) j_Rows_readShares [.ref 51, .int (ii a), .int (ii i), .ref 1, .ref 43] (N, S, h) (fun r R => r = some (.int (ii (rss n sz it a i))) ∧ ∃ h', R = (N, S, h') ∧ fr [43, 44, 45] h h' ∧ ∃ (be x y : Int) (A E : Nat → Int), h' 43 = some (.inr (3, [.long (jj be), .ref 44, .ref 45, .int (ii x), .int (ii y)])) ∧ h' 44 = some (.inl (1, 4, .inr (.inl (fun k => jj (A k))))) ∧ h' 45 = some (.inl (1, 16, .inr (.inl (fun k => jj (E k))))) ∧ (rss n sz it a i = 0 → be = shb it a i ∧ x = (n : Int) ∧ y = ((al n : Nat) : Int) ∧ (∀ p, p < 4 → A p = sha n it a i p) ∧ ∀ g, 1 ≤ g → g < al n → E g = tg n v it a i g)) := by
  refine rr_meth (C := K_Rows_readShares) (hd := h_Rows_readShares) (mx := 10) rfl rfl (fun K hK => ?_)
  have hA := al_b hn
  have hc := cpl_b sz a i ((n : Int) + 1)
  refine hK _ _ _ _ ?_
  refine s_aload_n rfl (cn rfl) rfl ?_
  refine s_iload_n rfl (cn rfl) rfl ?_
  refine s_iload_n rfl (cn rfl) rfl ?_
  refine s_aload_n rfl (cn rfl) rfl ?_
  refine s_getfield rfl (cn rfl) c1 rfl ?_
  refine s_iconst rfl (cn rfl) ?_
  refine s_iadd rfl (cn rfl) ?_
  refine s_virt rfl (cn rfl) rfl rfl c51 rfl (u_compl hsz c51 c57 (by omega) (by omega) (by omega)) ?_
  rintro _ _ ⟨rfl, rfl⟩
  refine s_istore rfl (cn rfl) ?_
  refine s_iload rfl (cn rfl) rfl ?_
  refine s_if_eq rfl (cn rfl) (cn rfl) ⟨by omega, by omega⟩ (fun q10 => ?_) (fun q10 => ?_)
  · have z0 : cpl sz a i ((n : Int) + 1) = 0 := q10
    obtain ⟨z1, z2, z3, z4⟩ := cpl_0 z0
    obtain ⟨l, rfl⟩ := Int.eq_ofNat_of_zero_le (show 0 ≤ a by omega)
    have hl : l < 4 := by omega
    have hs := hsz l hl
    obtain ⟨j, rfl⟩ := Int.eq_ofNat_of_zero_le z3
    have hsl : sz l ≤ 30 := (hsz l hl).2
    have z5 : (j : Int) ≤ sz l - ((n : Int) + 1) := z4
    have hb := hit l j
    refine s_aload_n rfl (cn rfl) rfl ?_
    refine s_getfield rfl (cn rfl) c51 rfl ?_
    refine s_iload_n rfl (cn rfl) rfl ?_
    refine s_aaload rfl (cn rfl) _ rfl c52 (by omega) (by decide) ((if_pos hl).trans rfl) ?_
    refine s_astore rfl (cn rfl) ?_
    refine s_aload rfl (cn rfl) rfl ?_
    refine s_iload_n rfl (cn rfl) rfl ?_
    refine s_laload rfl (cn rfl) _ rfl (c53 l hl) (by omega) (by decide) rfl ?_
    refine s_lconst rfl (cn rfl) 1 (by decide) ?_
    refine s_lcmp rfl (cn rfl) ?_
    refine s_ifl_lt rfl (cn rfl) (cn rfl) ⟨by omega, by omega⟩ ⟨by omega, by omega⟩ (fun q23 => ?_) (fun q23 => ?_)
    · refine s_bipush rfl (cn rfl) (by decide) ?_
      refine s_ireturn rfl ?_
      have nk : ¬ okS n it (l : Int) (j : Int) := fun q => by
        have q' : 1 ≤ it l j ∧ it l j ≤ 1000 := q.1
        omega
      exact ⟨ri (rss_b z0 nk).symm, h, rfl, fr_r, _, _, _, _, _, c43, c44, c45, fun q => absurd (rss_z q).2 nk⟩
    · refine s_aload rfl (cn rfl) rfl ?_
      refine s_iload_n rfl (cn rfl) rfl ?_
      refine s_laload rfl (cn rfl) _ rfl (c53 l hl) (by omega) (by decide) rfl ?_
      refine s_ldc2_w rfl (cn rfl) ?_
      refine s_lcmp rfl (cn rfl) ?_
      refine s_ifl_le rfl (cn rfl) (cn rfl) ⟨by omega, by omega⟩ ⟨by omega, by omega⟩ (fun q29 => ?_) (fun q29 => ?_)
      · refine s_aload rfl (cn rfl) rfl ?_
        refine s_aload rfl (cn rfl) rfl ?_
        refine s_iload_n rfl (cn rfl) rfl ?_
        refine s_laload rfl (cn rfl) _ rfl (c53 l hl) (by omega) (by decide) rfl ?_
        refine s_putl rfl (cn rfl) rfl c43 rfl ?_
        refine s_iconst rfl (cn rfl) ?_
        refine s_istore rfl (ch rfl) ?_
        have lp39 : ∀ p : Nat, p ≤ 4 → ∀ (h' : Nat → Option rr_E) (A : Nat → Int) (l5 l8 : Option Value) (c43 : h' 43 = some (.inr (3, [.long (jj (it l j)), .ref 44, .ref 45, .int (ii x0), .int (ii y0)]))) (c44 : h' 44 = some (.inl (1, 4, .inr (.inl (fun k => jj (A k)))))) (hf : fr [43, 44] h h') (hw : ∀ k, k < p → A k = sha n it l j k ∧ -1000000 ≤ sha n it l j k ∧ sha n it l j k ≤ 1000000), K 39 [some (.ref 51), some (.int (ii (l : Int))), some (.int (ii (j : Int))), some (.ref 1), some (.ref 43), l5, some (.ref (53 + l)), some (.int (ii (p : Int))), l8, none] [] (N, S, h') := by
          refine dn (fun p hp ih39 => ?_)
          intro h' A l5 l8 c43 c44 hf hw
          have hb2 := hit l (j + 1 + p)
          refine hK _ _ _ _ ?_
          refine s_iload rfl (cn rfl) rfl ?_
          refine s_iconst rfl (cn rfl) ?_
          refine s_icmp_ge rfl (cn rfl) (cn rfl) ⟨by omega, by omega⟩ ⟨by omega, by omega⟩ (fun q41 => ?_) (fun q41 => ?_)
          · refine s_aload rfl (cn rfl) rfl ?_
            refine s_aload_n rfl (cn rfl) rfl ?_
            refine s_virt rfl (cn rfl) rfl rfl c43 rfl (u_measure_43 hn ((hf 1 (by decide)).trans c1) ((hf 2 (by decide)).trans c2) hv c43 c44 (show h' 45 = _ from (hf 45 (by decide)).trans c45)) ?_
            rintro _ _ ⟨rfl, h2, rfl, d1, d2, hf2⟩
            refine s_iconst rfl (cn rfl) ?_
            refine s_ireturn rfl ?_
            have ok : okS n it (l : Int) (j : Int) := ⟨⟨q23, q29⟩, fun k hk => (hw k (by omega)).2⟩
            exact ⟨ri (rss_0 z0 ok).symm, h2, rfl, fr_t (fr_w hf (by decide)) hf2 (by decide), _, _, _, _, _, d1, (hf2 44 (by decide)).trans c44, d2, fun _ => ⟨rfl, rfl, rfl, fun k hk => (hw k (by omega)).1, fun g g1 g2 => by
              show (if 1 ≤ g ∧ g < al n then v g * it l j - st_sh 4 g A else _) = _
              rw [if_pos ⟨g1, g2⟩, sh_cg (fun k hk => (hw k (by omega)).1), sh4 hn]; rfl⟩⟩
          · refine s_iload rfl (cn rfl) rfl ?_
            refine s_aload_n rfl (cn rfl) rfl ?_
            refine s_getfield rfl (cn rfl) ((hf 1 (by decide)).trans c1) rfl ?_
            refine s_icmp_ge rfl (cn rfl) (cn rfl) ⟨by omega, by omega⟩ ⟨by omega, by omega⟩ (fun q45 => ?_) (fun q45 => ?_)
            · refine s_lconst rfl (cn rfl) 0 (by decide) ?_
              refine s_lstore rfl (cn rfl) ?_
              refine s_lload rfl (cn rfl) rfl ?_
              refine s_ldc2_w rfl (cn rfl) ?_
              refine s_lcmp rfl (cn rfl) ?_
              refine s_ifl_lt rfl (cn rfl) (cn rfl) ⟨by omega, by omega⟩ ⟨by omega, by omega⟩ (fun q59 => ?_) (fun q59 => ?_)
              · refine s_bipush rfl (cn rfl) (by decide) ?_
                refine s_ireturn rfl ?_
                have nk : ¬ okS n it (l : Int) (j : Int) := fun q => by
                  first
                    | omega
                    | (have q2 := q.2 p (by omega)
                       rw [show sha n it (l : Int) (j : Int) p = it l (j + 1 + p) from if_pos (by omega)] at q2
                       omega)
                exact ⟨ri (rss_b z0 nk).symm, h', rfl, fr_w hf (by decide), _, _, _, _, _, c43, c44, (hf 45 (by decide)).trans c45, fun q => absurd (rss_z q).2 nk⟩
              · refine s_lload rfl (cn rfl) rfl ?_
                refine s_ldc2_w rfl (cn rfl) ?_
                refine s_lcmp rfl (cn rfl) ?_
                refine s_ifl_le rfl (cn rfl) (cn rfl) ⟨by omega, by omega⟩ ⟨by omega, by omega⟩ (fun q63 => ?_) (fun q63 => ?_)
                · refine s_aload rfl (cn rfl) rfl ?_
                  refine s_getfield rfl (cn rfl) c43 rfl ?_
                  refine s_iload rfl (cn rfl) rfl ?_
                  refine s_lload rfl (cn rfl) rfl ?_
                  refine s_lastore rfl (cn rfl) _ rfl c44 (by omega) (by decide) ?_
                  refine s_iinc rfl (cn rfl) rfl ?_
                  refine s_goto rfl (ch rfl) ?_
                  exact ih39 (by omega) _ _ _ _ c43 rr_set_eq (fr_s (by decide) hf) (fun k q1 => by
                      by_cases e : k = p
                      · subst e
                        rw [fu_s]
                        show _ = (if k < n then it l (j + 1 + k) else 0) ∧ -1000000 ≤ (if k < n then it l (j + 1 + k) else 0) ∧ (if k < n then it l (j + 1 + k) else 0) ≤ 1000000
                        split <;> omega
                      · rw [fu_n e]; exact hw k (by omega))
                · refine s_bipush rfl (cn rfl) (by decide) ?_
                  refine s_ireturn rfl ?_
                  have nk : ¬ okS n it (l : Int) (j : Int) := fun q => by
                    first
                      | omega
                      | (have q2 := q.2 p (by omega)
                         rw [show sha n it (l : Int) (j : Int) p = it l (j + 1 + p) from if_pos (by omega)] at q2
                         omega)
                  exact ⟨ri (rss_b z0 nk).symm, h', rfl, fr_w hf (by decide), _, _, _, _, _, c43, c44, (hf 45 (by decide)).trans c45, fun q => absurd (rss_z q).2 nk⟩
            · refine s_aload rfl (cn rfl) rfl ?_
              refine s_iload_n rfl (cn rfl) rfl ?_
              refine s_iconst rfl (cn rfl) ?_
              refine s_iadd rfl (cn rfl) ?_
              refine s_iload rfl (cn rfl) rfl ?_
              refine s_iadd rfl (cn rfl) ?_
              refine s_laload rfl (cn rfl) (j + 1 + p) (by omega) ((hf (53 + l) (by simp; omega)).trans (c53 l hl)) (by omega) (by decide) rfl ?_
              refine s_goto rfl (cn rfl) ?_
              refine s_lstore rfl (cn rfl) ?_
              refine s_lload rfl (cn rfl) rfl ?_
              refine s_ldc2_w rfl (cn rfl) ?_
              refine s_lcmp rfl (cn rfl) ?_
              refine s_ifl_lt rfl (cn rfl) (cn rfl) ⟨by omega, by omega⟩ ⟨by omega, by omega⟩ (fun q59 => ?_) (fun q59 => ?_)
              · refine s_bipush rfl (cn rfl) (by decide) ?_
                refine s_ireturn rfl ?_
                have nk : ¬ okS n it (l : Int) (j : Int) := fun q => by
                  first
                    | omega
                    | (have q2 := q.2 p (by omega)
                       rw [show sha n it (l : Int) (j : Int) p = it l (j + 1 + p) from if_pos (by omega)] at q2
                       omega)
                exact ⟨ri (rss_b z0 nk).symm, h', rfl, fr_w hf (by decide), _, _, _, _, _, c43, c44, (hf 45 (by decide)).trans c45, fun q => absurd (rss_z q).2 nk⟩
              · refine s_lload rfl (cn rfl) rfl ?_
                refine s_ldc2_w rfl (cn rfl) ?_
                refine s_lcmp rfl (cn rfl) ?_
                refine s_ifl_le rfl (cn rfl) (cn rfl) ⟨by omega, by omega⟩ ⟨by omega, by omega⟩ (fun q63 => ?_) (fun q63 => ?_)
                · refine s_aload rfl (cn rfl) rfl ?_
                  refine s_getfield rfl (cn rfl) c43 rfl ?_
                  refine s_iload rfl (cn rfl) rfl ?_
                  refine s_lload rfl (cn rfl) rfl ?_
                  refine s_lastore rfl (cn rfl) _ rfl c44 (by omega) (by decide) ?_
                  refine s_iinc rfl (cn rfl) rfl ?_
                  refine s_goto rfl (ch rfl) ?_
                  exact ih39 (by omega) _ _ _ _ c43 rr_set_eq (fr_s (by decide) hf) (fun k q1 => by
                      by_cases e : k = p
                      · subst e
                        rw [fu_s]
                        show _ = (if k < n then it l (j + 1 + k) else 0) ∧ -1000000 ≤ (if k < n then it l (j + 1 + k) else 0) ∧ (if k < n then it l (j + 1 + k) else 0) ≤ 1000000
                        split <;> omega
                      · rw [fu_n e]; exact hw k (by omega))
                · refine s_bipush rfl (cn rfl) (by decide) ?_
                  refine s_ireturn rfl ?_
                  have nk : ¬ okS n it (l : Int) (j : Int) := fun q => by
                    first
                      | omega
                      | (have q2 := q.2 p (by omega)
                         rw [show sha n it (l : Int) (j : Int) p = it l (j + 1 + p) from if_pos (by omega)] at q2
                         omega)
                  exact ⟨ri (rss_b z0 nk).symm, h', rfl, fr_w hf (by decide), _, _, _, _, _, c43, c44, (hf 45 (by decide)).trans c45, fun q => absurd (rss_z q).2 nk⟩
        exact lp39 0 (by omega) _ _ _ _ rr_set_eq c44 (fr_s (by decide) fr_r) (fun k q1 => absurd q1 (by omega))
      · refine s_bipush rfl (cn rfl) (by decide) ?_
        refine s_ireturn rfl ?_
        have nk : ¬ okS n it (l : Int) (j : Int) := fun q => by
          have q' : 1 ≤ it l j ∧ it l j ≤ 1000 := q.1
          omega
        exact ⟨ri (rss_b z0 nk).symm, h, rfl, fr_r, _, _, _, _, _, c43, c44, c45, fun q => absurd (rss_z q).2 nk⟩
  · refine s_iload rfl (cn rfl) rfl ?_
    refine s_ireturn rfl ?_
    exact ⟨ri (rss_n (by assumption)).symm, h, rfl, fr_r, _, _, _, _, _, c43, c44, c45, fun q => absurd (rss_z q).1 (by assumption)⟩
theorem u_readS_46 {d N S n : Nat} {v : Nat → Int} {h : Nat → Option rr_E} (hn : 2 ≤ n ∧ n ≤ 4) (c1 : h 1 = some (.inr (0, [.int (ii (n : Int)), .ref 2]))) (c2 : h 2 = some (.inl (0, 16, .inl (fun k => ii (v k))))) (hv : ∀ k, -999 ≤ v k ∧ v k ≤ 999) {sz : Nat → Int} {it : Nat → Nat → Int} (hsz : ∀ l, l < 4 → -1 ≤ sz l ∧ sz l ≤ 30) (hit : ∀ l i, b6 (it l i)) (c51 : h 51 = some (.inr (1, [.ref 52, .ref 57]))) (c52 : h 52 = some AA) (c53 : ∀ l, l < 4 → h (53 + l) = some (.inl (1, 30, .inr (.inl (fun k => jj (it l k)))))) (c57 : h 57 = some (.inl (0, 4, .inl (fun k => ii (sz k))))) {be0 x0 y0 : Int} {A0 E0 : Nat → Int} (c46 : h 46 = some (.inr (3, [.long (jj be0), .ref 47, .ref 48, .int (ii x0), .int (ii y0)]))) (c47 : h 47 = some (.inl (1, 4, .inr (.inl (fun k => jj (A0 k)))))) (c48 : h 48 = some (.inl (1, 16, .inr (.inl (fun k => jj (E0 k)))))) {a i : Int} (ha : b3 a) (hi : b3 i) : rr_Calls (d + 3) j_Rows_readShares [.ref 51, .int (ii a), .int (ii i), .ref 1, .ref 46] (N, S, h) (fun r R => r = some (.int (ii (rss n sz it a i))) ∧ ∃ h', R = (N, S, h') ∧ fr [46, 47, 48] h h' ∧ ∃ (be x y : Int) (A E : Nat → Int), h' 46 = some (.inr (3, [.long (jj be), .ref 47, .ref 48, .int (ii x), .int (ii y)])) ∧ h' 47 = some (.inl (1, 4, .inr (.inl (fun k => jj (A k))))) ∧ h' 48 = some (.inl (1, 16, .inr (.inl (fun k => jj (E k))))) ∧ (rss n sz it a i = 0 → be = shb it a i ∧ x = (n : Int) ∧ y = ((al n : Nat) : Int) ∧ (∀ p, p < 4 → A p = sha n it a i p) ∧ ∀ g, 1 ≤ g → g < al n → E g = tg n v it a i g)) := by
  refine rr_meth (C := K_Rows_readShares) (hd := h_Rows_readShares) (mx := 10) rfl rfl (fun K hK => ?_)
  have hA := al_b hn
  have hc := cpl_b sz a i ((n : Int) + 1)
  refine hK _ _ _ _ ?_
  refine s_aload_n rfl (cn rfl) rfl ?_
  refine s_iload_n rfl (cn rfl) rfl ?_
  refine s_iload_n rfl (cn rfl) rfl ?_
  refine s_aload_n rfl (cn rfl) rfl ?_
  refine s_getfield rfl (cn rfl) c1 rfl ?_
  refine s_iconst rfl (cn rfl) ?_
  refine s_iadd rfl (cn rfl) ?_
  refine s_virt rfl (cn rfl) rfl rfl c51 rfl (u_compl hsz c51 c57 (by omega) (by omega) (by omega)) ?_
  rintro _ _ ⟨rfl, rfl⟩
  refine s_istore rfl (cn rfl) ?_
  refine s_iload rfl (cn rfl) rfl ?_
  refine s_if_eq rfl (cn rfl) (cn rfl) ⟨by omega, by omega⟩ (fun q10 => ?_) (fun q10 => ?_)
  · have z0 : cpl sz a i ((n : Int) + 1) = 0 := q10
    obtain ⟨z1, z2, z3, z4⟩ := cpl_0 z0
    obtain ⟨l, rfl⟩ := Int.eq_ofNat_of_zero_le (show 0 ≤ a by omega)
    have hl : l < 4 := by omega
    have hs := hsz l hl
    obtain ⟨j, rfl⟩ := Int.eq_ofNat_of_zero_le z3
    have hsl : sz l ≤ 30 := (hsz l hl).2
    have z5 : (j : Int) ≤ sz l - ((n : Int) + 1) := z4
    have hb := hit l j
    refine s_aload_n rfl (cn rfl) rfl ?_
    refine s_getfield rfl (cn rfl) c51 rfl ?_
    refine s_iload_n rfl (cn rfl) rfl ?_
    refine s_aaload rfl (cn rfl) _ rfl c52 (by omega) (by decide) ((if_pos hl).trans rfl) ?_
    refine s_astore rfl (cn rfl) ?_
    refine s_aload rfl (cn rfl) rfl ?_
    refine s_iload_n rfl (cn rfl) rfl ?_
    refine s_laload rfl (cn rfl) _ rfl (c53 l hl) (by omega) (by decide) rfl ?_
    refine s_lconst rfl (cn rfl) 1 (by decide) ?_
    refine s_lcmp rfl (cn rfl) ?_
    refine s_ifl_lt rfl (cn rfl) (cn rfl) ⟨by omega, by omega⟩ ⟨by omega, by omega⟩ (fun q23 => ?_) (fun q23 => ?_)
    · refine s_bipush rfl (cn rfl) (by decide) ?_
      refine s_ireturn rfl ?_
      have nk : ¬ okS n it (l : Int) (j : Int) := fun q => by
        have q' : 1 ≤ it l j ∧ it l j ≤ 1000 := q.1
        omega
      exact ⟨ri (rss_b z0 nk).symm, h, rfl, fr_r, _, _, _, _, _, c46, c47, c48, fun q => absurd (rss_z q).2 nk⟩
    · refine s_aload rfl (cn rfl) rfl ?_
      refine s_iload_n rfl (cn rfl) rfl ?_
      refine s_laload rfl (cn rfl) _ rfl (c53 l hl) (by omega) (by decide) rfl ?_
      refine s_ldc2_w rfl (cn rfl) ?_
      refine s_lcmp rfl (cn rfl) ?_
      refine s_ifl_le rfl (cn rfl) (cn rfl) ⟨by omega, by omega⟩ ⟨by omega, by omega⟩ (fun q29 => ?_) (fun q29 => ?_)
      · refine s_aload rfl (cn rfl) rfl ?_
        refine s_aload rfl (cn rfl) rfl ?_
        refine s_iload_n rfl (cn rfl) rfl ?_
        refine s_laload rfl (cn rfl) _ rfl (c53 l hl) (by omega) (by decide) rfl ?_
        refine s_putl rfl (cn rfl) rfl c46 rfl ?_
        refine s_iconst rfl (cn rfl) ?_
        refine s_istore rfl (ch rfl) ?_
        have lp39 : ∀ p : Nat, p ≤ 4 → ∀ (h' : Nat → Option rr_E) (A : Nat → Int) (l5 l8 : Option Value) (c46 : h' 46 = some (.inr (3, [.long (jj (it l j)), .ref 47, .ref 48, .int (ii x0), .int (ii y0)]))) (c47 : h' 47 = some (.inl (1, 4, .inr (.inl (fun k => jj (A k)))))) (hf : fr [46, 47] h h') (hw : ∀ k, k < p → A k = sha n it l j k ∧ -1000000 ≤ sha n it l j k ∧ sha n it l j k ≤ 1000000), K 39 [some (.ref 51), some (.int (ii (l : Int))), some (.int (ii (j : Int))), some (.ref 1), some (.ref 46), l5, some (.ref (53 + l)), some (.int (ii (p : Int))), l8, none] [] (N, S, h') := by
          refine dn (fun p hp ih39 => ?_)
          intro h' A l5 l8 c46 c47 hf hw
          have hb2 := hit l (j + 1 + p)
          refine hK _ _ _ _ ?_
          refine s_iload rfl (cn rfl) rfl ?_
          refine s_iconst rfl (cn rfl) ?_
          refine s_icmp_ge rfl (cn rfl) (cn rfl) ⟨by omega, by omega⟩ ⟨by omega, by omega⟩ (fun q41 => ?_) (fun q41 => ?_)
          · refine s_aload rfl (cn rfl) rfl ?_
            refine s_aload_n rfl (cn rfl) rfl ?_
            refine s_virt rfl (cn rfl) rfl rfl c46 rfl (u_measure_46 hn ((hf 1 (by decide)).trans c1) ((hf 2 (by decide)).trans c2) hv c46 c47 (show h' 48 = _ from (hf 48 (by decide)).trans c48)) ?_
            rintro _ _ ⟨rfl, h2, rfl, d1, d2, hf2⟩
            refine s_iconst rfl (cn rfl) ?_
            refine s_ireturn rfl ?_
            have ok : okS n it (l : Int) (j : Int) := ⟨⟨q23, q29⟩, fun k hk => (hw k (by omega)).2⟩
            exact ⟨ri (rss_0 z0 ok).symm, h2, rfl, fr_t (fr_w hf (by decide)) hf2 (by decide), _, _, _, _, _, d1, (hf2 47 (by decide)).trans c47, d2, fun _ => ⟨rfl, rfl, rfl, fun k hk => (hw k (by omega)).1, fun g g1 g2 => by
              show (if 1 ≤ g ∧ g < al n then v g * it l j - st_sh 4 g A else _) = _
              rw [if_pos ⟨g1, g2⟩, sh_cg (fun k hk => (hw k (by omega)).1), sh4 hn]; rfl⟩⟩
          · refine s_iload rfl (cn rfl) rfl ?_
            refine s_aload_n rfl (cn rfl) rfl ?_
            refine s_getfield rfl (cn rfl) ((hf 1 (by decide)).trans c1) rfl ?_
            refine s_icmp_ge rfl (cn rfl) (cn rfl) ⟨by omega, by omega⟩ ⟨by omega, by omega⟩ (fun q45 => ?_) (fun q45 => ?_)
            · refine s_lconst rfl (cn rfl) 0 (by decide) ?_
              refine s_lstore rfl (cn rfl) ?_
              refine s_lload rfl (cn rfl) rfl ?_
              refine s_ldc2_w rfl (cn rfl) ?_
              refine s_lcmp rfl (cn rfl) ?_
              refine s_ifl_lt rfl (cn rfl) (cn rfl) ⟨by omega, by omega⟩ ⟨by omega, by omega⟩ (fun q59 => ?_) (fun q59 => ?_)
              · refine s_bipush rfl (cn rfl) (by decide) ?_
                refine s_ireturn rfl ?_
                have nk : ¬ okS n it (l : Int) (j : Int) := fun q => by
                  first
                    | omega
                    | (have q2 := q.2 p (by omega)
                       rw [show sha n it (l : Int) (j : Int) p = it l (j + 1 + p) from if_pos (by omega)] at q2
                       omega)
                exact ⟨ri (rss_b z0 nk).symm, h', rfl, fr_w hf (by decide), _, _, _, _, _, c46, c47, (hf 48 (by decide)).trans c48, fun q => absurd (rss_z q).2 nk⟩
              · refine s_lload rfl (cn rfl) rfl ?_
                refine s_ldc2_w rfl (cn rfl) ?_
                refine s_lcmp rfl (cn rfl) ?_
                refine s_ifl_le rfl (cn rfl) (cn rfl) ⟨by omega, by omega⟩ ⟨by omega, by omega⟩ (fun q63 => ?_) (fun q63 => ?_)
                · refine s_aload rfl (cn rfl) rfl ?_
                  refine s_getfield rfl (cn rfl) c46 rfl ?_
                  refine s_iload rfl (cn rfl) rfl ?_
                  refine s_lload rfl (cn rfl) rfl ?_
                  refine s_lastore rfl (cn rfl) _ rfl c47 (by omega) (by decide) ?_
                  refine s_iinc rfl (cn rfl) rfl ?_
                  refine s_goto rfl (ch rfl) ?_
                  exact ih39 (by omega) _ _ _ _ c46 rr_set_eq (fr_s (by decide) hf) (fun k q1 => by
                      by_cases e : k = p
                      · subst e
                        rw [fu_s]
                        show _ = (if k < n then it l (j + 1 + k) else 0) ∧ -1000000 ≤ (if k < n then it l (j + 1 + k) else 0) ∧ (if k < n then it l (j + 1 + k) else 0) ≤ 1000000
                        split <;> omega
                      · rw [fu_n e]; exact hw k (by omega))
                · refine s_bipush rfl (cn rfl) (by decide) ?_
                  refine s_ireturn rfl ?_
                  have nk : ¬ okS n it (l : Int) (j : Int) := fun q => by
                    first
                      | omega
                      | (have q2 := q.2 p (by omega)
                         rw [show sha n it (l : Int) (j : Int) p = it l (j + 1 + p) from if_pos (by omega)] at q2
                         omega)
                  exact ⟨ri (rss_b z0 nk).symm, h', rfl, fr_w hf (by decide), _, _, _, _, _, c46, c47, (hf 48 (by decide)).trans c48, fun q => absurd (rss_z q).2 nk⟩
            · refine s_aload rfl (cn rfl) rfl ?_
              refine s_iload_n rfl (cn rfl) rfl ?_
              refine s_iconst rfl (cn rfl) ?_
              refine s_iadd rfl (cn rfl) ?_
              refine s_iload rfl (cn rfl) rfl ?_
              refine s_iadd rfl (cn rfl) ?_
              refine s_laload rfl (cn rfl) (j + 1 + p) (by omega) ((hf (53 + l) (by simp; omega)).trans (c53 l hl)) (by omega) (by decide) rfl ?_
              refine s_goto rfl (cn rfl) ?_
              refine s_lstore rfl (cn rfl) ?_
              refine s_lload rfl (cn rfl) rfl ?_
              refine s_ldc2_w rfl (cn rfl) ?_
              refine s_lcmp rfl (cn rfl) ?_
              refine s_ifl_lt rfl (cn rfl) (cn rfl) ⟨by omega, by omega⟩ ⟨by omega, by omega⟩ (fun q59 => ?_) (fun q59 => ?_)
              · refine s_bipush rfl (cn rfl) (by decide) ?_
                refine s_ireturn rfl ?_
                have nk : ¬ okS n it (l : Int) (j : Int) := fun q => by
                  first
                    | omega
                    | (have q2 := q.2 p (by omega)
                       rw [show sha n it (l : Int) (j : Int) p = it l (j + 1 + p) from if_pos (by omega)] at q2
                       omega)
                exact ⟨ri (rss_b z0 nk).symm, h', rfl, fr_w hf (by decide), _, _, _, _, _, c46, c47, (hf 48 (by decide)).trans c48, fun q => absurd (rss_z q).2 nk⟩
              · refine s_lload rfl (cn rfl) rfl ?_
                refine s_ldc2_w rfl (cn rfl) ?_
                refine s_lcmp rfl (cn rfl) ?_
                refine s_ifl_le rfl (cn rfl) (cn rfl) ⟨by omega, by omega⟩ ⟨by omega, by omega⟩ (fun q63 => ?_) (fun q63 => ?_)
                · refine s_aload rfl (cn rfl) rfl ?_
                  refine s_getfield rfl (cn rfl) c46 rfl ?_
                  refine s_iload rfl (cn rfl) rfl ?_
                  refine s_lload rfl (cn rfl) rfl ?_
                  refine s_lastore rfl (cn rfl) _ rfl c47 (by omega) (by decide) ?_
                  refine s_iinc rfl (cn rfl) rfl ?_
                  refine s_goto rfl (ch rfl) ?_
                  exact ih39 (by omega) _ _ _ _ c46 rr_set_eq (fr_s (by decide) hf) (fun k q1 => by
                      by_cases e : k = p
                      · subst e
                        rw [fu_s]
                        show _ = (if k < n then it l (j + 1 + k) else 0) ∧ -1000000 ≤ (if k < n then it l (j + 1 + k) else 0) ∧ (if k < n then it l (j + 1 + k) else 0) ≤ 1000000
                        split <;> omega
                      · rw [fu_n e]; exact hw k (by omega))
                · refine s_bipush rfl (cn rfl) (by decide) ?_
                  refine s_ireturn rfl ?_
                  have nk : ¬ okS n it (l : Int) (j : Int) := fun q => by
                    first
                      | omega
                      | (have q2 := q.2 p (by omega)
                         rw [show sha n it (l : Int) (j : Int) p = it l (j + 1 + p) from if_pos (by omega)] at q2
                         omega)
                  exact ⟨ri (rss_b z0 nk).symm, h', rfl, fr_w hf (by decide), _, _, _, _, _, c46, c47, (hf 48 (by decide)).trans c48, fun q => absurd (rss_z q).2 nk⟩
        exact lp39 0 (by omega) _ _ _ _ rr_set_eq c47 (fr_s (by decide) fr_r) (fun k q1 => absurd q1 (by omega))
      · refine s_bipush rfl (cn rfl) (by decide) ?_
        refine s_ireturn rfl ?_
        have nk : ¬ okS n it (l : Int) (j : Int) := fun q => by
          have q' : 1 ≤ it l j ∧ it l j ≤ 1000 := q.1
          omega
        exact ⟨ri (rss_b z0 nk).symm, h, rfl, fr_r, _, _, _, _, _, c46, c47, c48, fun q => absurd (rss_z q).2 nk⟩
  · refine s_iload rfl (cn rfl) rfl ?_
    refine s_ireturn rfl ?_
    exact ⟨ri (rss_n (by assumption)).symm, h, rfl, fr_r, _, _, _, _, _, c46, c47, c48, fun q => absurd (rss_z q).1 (by assumption)⟩
