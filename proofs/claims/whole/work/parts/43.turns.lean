/-! By turns. -/
def pcn : Nat → Nat → Nat
  | 0, _ => 0
  | m + 1, g => pcn m g + if g.testBit m then 1 else 0
def FA (j : Nat) : Int := [1, 1, 2, 6, 24].getD j 0
theorem FA_e : ∀ j, j < 5 → rr_fac.getD j 0 = ii (FA j) := by decide
theorem FA_b : ∀ j, j < 5 → 1 ≤ FA j ∧ FA j ≤ 24 := by decide
def tM (n : Nat) : Nat → Nat → Int
  | 0, _ => 1
  | k + 1, c => ms_sm n (fun p => if c.testBit p then 0 else tM n k (c ||| 2 ^ p))
def tS (n one : Nat) (v : Nat → Int) : Nat → Nat → Int
  | 0, _ => 0
  | k + 1, c => ms_sm n (fun p => if c.testBit p then 0 else tS n one v k (c ||| 2 ^ p) + (if p = one then tM n k (c ||| 2 ^ p) * (v (c ||| 2 ^ p) - v c) else 0))
def dT (n p : Nat) (v : Nat → Int) : Int := ms_sm (al n + 1) (fun g => if g.testBit p then 0 else FA (pcn 4 g) * FA (n - 1 - pcn 4 g) * (v (g ||| 2 ^ p) - v g))
theorem tM_b {n : Nat} (hn : n ≤ 4) : ∀ k c, 0 ≤ tM n k c ∧ tM n k c ≤ ((4 ^ k : Nat) : Int)
  | 0, _ => ⟨by show (0 : Int) ≤ 1; decide, by show (1 : Int) ≤ 1; decide⟩
  | k + 1, c => by
    have aux : ∀ m, m ≤ 4 → 0 ≤ ms_sm m (fun p => if c.testBit p then 0 else tM n k (c ||| 2 ^ p)) ∧ ms_sm m (fun p => if c.testBit p then 0 else tM n k (c ||| 2 ^ p)) ≤ (m : Int) * ((4 ^ k : Nat) : Int) := by
      intro m
      induction m with
      | zero => intro _; show (0 : Int) ≤ 0 ∧ (0 : Int) ≤ ((0 : Nat) : Int) * _; rw [Int.natCast_zero, Int.zero_mul]; decide
      | succ m ih =>
        intro hm
        have h1 := ih (by omega)
        have h2 := tM_b hn k (c ||| 2 ^ m)
        show 0 ≤ ms_sm m _ + (if c.testBit m = true then 0 else tM n k (c ||| 2 ^ m)) ∧ ms_sm m _ + (if c.testBit m = true then 0 else tM n k (c ||| 2 ^ m)) ≤ _
        rw [Int.natCast_add, Int.add_mul]
        split <;> omega
    have h := aux n hn
    have h3 : (n : Int) * ((4 ^ k : Nat) : Int) ≤ 4 * ((4 ^ k : Nat) : Int) := Int.mul_le_mul_of_nonneg_right (by omega) (Int.natCast_nonneg _)
    have h4 : ((4 ^ (k + 1) : Nat) : Int) = 4 * ((4 ^ k : Nat) : Int) := by rw [Nat.pow_succ]; omega
    show 0 ≤ ms_sm n _ ∧ ms_sm n _ ≤ _
    omega
theorem pz_s1 : ∀ n, n < 5 → ∀ c, c < 16 → ∀ p, p < 4 → (2 ≤ n ∧ c ≤ al n ∧ p < n ∧ c.testBit p = false) → (c ||| 2 ^ p) ≤ al n := by decide +kernel
theorem pz_s2 : ∀ n, n < 5 → ∀ c, c < 16 → ∀ p, p < 4 → (2 ≤ n ∧ c ≤ al n ∧ p < n ∧ c.testBit p = false) → n - pcn 4 (c ||| 2 ^ p) + 1 = n - pcn 4 c := by decide +kernel
theorem pz_s3 : ∀ n, n < 5 → ∀ c, c < 16 → ∀ p, p < 4 → (2 ≤ n ∧ c ≤ al n ∧ p < n ∧ c.testBit p = false) → pcn 4 (c ||| 2 ^ p) ≤ n := by decide +kernel
theorem pz_s : ∀ n, n < 5 → ∀ c, c < 16 → ∀ p, p < 4 → (2 ≤ n ∧ c ≤ al n ∧ p < n ∧ c.testBit p = false) → (c ||| 2 ^ p) ≤ al n ∧ n - pcn 4 (c ||| 2 ^ p) + 1 = n - pcn 4 c ∧ pcn 4 (c ||| 2 ^ p) ≤ n := fun n h1 c h2 p h3 h4 => ⟨pz_s1 n h1 c h2 p h3 h4, pz_s2 n h1 c h2 p h3 h4, pz_s3 n h1 c h2 p h3 h4⟩
theorem pz_0 : ∀ n, n < 5 → 2 ≤ n → ∀ c, c < 16 → c ≤ al n → (n - pcn 4 c = 0 ↔ c = al n) := by decide +kernel
theorem pcn_b : ∀ n, n < 5 → ∀ c, c < 16 → ∀ p, p < 4 → (2 ≤ n ∧ c ≤ al n ∧ p < n ∧ c.testBit p = false) → pcn 4 c ≤ n - 1 := by decide +kernel
def te (g : Nat) : Nat → Int := fun k => if k = g then 1 else 0
theorem te_v {v : Nat → Int} {c : Nat} : ∀ m, ms_sm m (fun g => v g * te g c) = if c < m then v c else 0
  | 0 => rfl
  | m + 1 => by
    show ms_sm m (fun g => v g * te g c) + v m * te m c = _
    rw [te_v m]
    unfold te
    by_cases e : c = m
    · rw [if_pos e, if_neg (by omega), if_pos (by omega), e]; omega
    · rw [if_neg e]
      by_cases e2 : c < m
      · rw [if_pos e2, if_pos (by omega)]; omega
      · rw [if_neg e2, if_neg (by omega)]; omega
theorem te_16 {v : Nat → Int} {c : Nat} (h : c < 16) : v c = ms_sm 16 (fun g => v g * te g c) := by rw [te_v 16, if_pos h]
theorem tS_lin {n one : Nat} {v : Nat → Int} : ∀ k c, c < 16 → n ≤ 4 → tS n one v k c = ms_sm 16 (fun g => v g * tS n one (te g) k c)
  | 0, c, _, _ => by
    show 0 = ms_sm 16 (fun g => v g * 0)
    rw [ms_cg (g := fun _ => 0) (fun j _ => Int.mul_zero _), ms_zero]
  | k + 1, c, hc, hn => by
    show ms_sm n _ = ms_sm 16 (fun g => v g * ms_sm n _)
    have e1 : ms_sm 16 (fun g => v g * ms_sm n (fun p => if c.testBit p then 0 else tS n one (te g) k (c ||| 2 ^ p) + (if p = one then tM n k (c ||| 2 ^ p) * (te g (c ||| 2 ^ p) - te g c) else 0))) = ms_sm 16 (fun g => ms_sm n (fun p => v g * (if c.testBit p then 0 else tS n one (te g) k (c ||| 2 ^ p) + (if p = one then tM n k (c ||| 2 ^ p) * (te g (c ||| 2 ^ p) - te g c) else 0)))) := ms_cg (fun g _ => (ms_mul n (v g) _).symm)
    rw [e1, ms_swap]
    refine ms_cg (fun p hp => ?_)
    by_cases q : c.testBit p = true
    · rw [if_pos q, ms_cg (g := fun _ => 0) (fun g _ => by rw [if_pos q, Int.mul_zero]), ms_zero]
    · have h2 : c ||| 2 ^ p < 16 := or_16 hc (Nat.lt_of_lt_of_le (Nat.pow_lt_pow_right (by decide) (show p < 4 by omega)) (by decide))
      rw [if_neg q, ms_cg (g := fun g => v g * tS n one (te g) k (c ||| 2 ^ p) + v g * (if p = one then tM n k (c ||| 2 ^ p) * (te g (c ||| 2 ^ p) - te g c) else 0)) (fun g _ => by rw [if_neg q, Int.mul_add]), ms_add, ← tS_lin k _ h2 hn]
      congr 1
      by_cases e : p = one
      · rw [if_pos e, ms_cg (g := fun g => tM n k (c ||| 2 ^ p) * (v g * te g (c ||| 2 ^ p) + (-1) * (v g * te g c))) (fun g _ => by rw [if_pos e]; grind), ms_mul, ms_add, ms_mul, ← te_16 h2, ← te_16 hc]
        congr 1; omega
      · rw [if_neg e, ms_cg (g := fun _ => 0) (fun g _ => by rw [if_neg e, Int.mul_zero]), ms_zero]
theorem dT_lin {n p : Nat} {v : Nat → Int} (hn : 2 ≤ n ∧ n ≤ 4) (hp : p < n) : dT n p v = ms_sm 16 (fun g => v g * dT n p (te g)) := by
  have hA := al_b hn
  have h8 := one_lt hn hp
  unfold dT
  have e1 : ms_sm 16 (fun g => v g * ms_sm (al n + 1) (fun c => if c.testBit p then 0 else FA (pcn 4 c) * FA (n - 1 - pcn 4 c) * (te g (c ||| 2 ^ p) - te g c))) = ms_sm 16 (fun g => ms_sm (al n + 1) (fun c => v g * (if c.testBit p then 0 else FA (pcn 4 c) * FA (n - 1 - pcn 4 c) * (te g (c ||| 2 ^ p) - te g c)))) := ms_cg (fun g _ => (ms_mul _ (v g) _).symm)
  rw [e1, ms_swap]
  refine ms_cg (fun c hc => ?_)
  by_cases q : c.testBit p = true
  · rw [if_pos q, ms_cg (g := fun _ => 0) (fun g _ => by rw [if_pos q, Int.mul_zero]), ms_zero]
  · have h2 : c ||| 2 ^ p < 16 := or_16 (by omega) (by omega)
    rw [if_neg q, ms_cg (g := fun g => FA (pcn 4 c) * FA (n - 1 - pcn 4 c) * (v g * te g (c ||| 2 ^ p) + (-1) * (v g * te g c))) (fun g _ => by rw [if_neg q]; grind), ms_mul, ms_add, ms_mul, ← te_16 h2, ← te_16 (show c < 16 by omega)]
    congr 1; omega
theorem tS_e : ∀ n, n < 5 → 2 ≤ n → ∀ p, p < n → ∀ g, g < 16 → tS n p (te g) n 0 = dT n p (te g) := by decide +kernel
theorem tM_e : ∀ n, n < 5 → 2 ≤ n → tM n n 0 = FA n := by decide +kernel
theorem turns_eq {n p : Nat} {v : Nat → Int} (hn : 2 ≤ n ∧ n ≤ 4) (hp : p < n) : tS n p v n 0 = dT n p v := by
  rw [tS_lin n 0 (by decide) hn.2, dT_lin hn hp]
  exact ms_cg (fun g hg => by rw [tS_e n (by omega) hn.1 p hp g hg])
theorem sm_bd {f : Nat → Int} {c : Int} (hc : 0 ≤ c) : ∀ m, (∀ j, j < m → -c ≤ f j ∧ f j ≤ c) → -((m : Int) * c) ≤ ms_sm m f ∧ ms_sm m f ≤ (m : Int) * c
  | 0, _ => by show -((0 : Int) * c) ≤ 0 ∧ 0 ≤ (0 : Int) * c; omega
  | m + 1, h => by
    have h1 := sm_bd hc m (fun j hj => h j (by omega))
    have h2 := h m (by omega)
    rw [Int.natCast_add, Int.add_mul]
    show -_ ≤ ms_sm m f + f m ∧ ms_sm m f + f m ≤ _
    omega
theorem dT_b {n p : Nat} {v : Nat → Int} (hn : 2 ≤ n ∧ n ≤ 4) (hp : p < n) (hv : ∀ k, -999 ≤ v k ∧ v k ≤ 999) : -20000000 ≤ dT n p v ∧ dT n p v ≤ 20000000 := by
  have hA := al_b hn
  have h := sm_bd (f := fun g => if g.testBit p then 0 else FA (pcn 4 g) * FA (n - 1 - pcn 4 g) * (v (g ||| 2 ^ p) - v g)) (c := 1150848) (by decide) (al n + 1) (fun g hg => by
    show -1150848 ≤ (if g.testBit p then 0 else _) ∧ (if g.testBit p then 0 else _) ≤ (1150848 : Int)
    by_cases q : g.testBit p = true
    · rw [if_pos q]; decide
    · rw [if_neg q]
      have q' : g.testBit p = false := by simpa using q
      have b1 := pcn_b n (by omega) g (by omega) p (by omega) ⟨hn.1, by omega, hp, q'⟩
      have f1 := FA_b (pcn 4 g) (by omega)
      have f2 := FA_b (n - 1 - pcn 4 g) (by omega)
      have f3 := ab_mul (x := FA (pcn 4 g)) (y := FA (n - 1 - pcn 4 g)) (a := 24) (b := 24) (by omega) (by omega) (by decide) (by decide)
      have v1 := hv (g ||| 2 ^ p)
      have v2 := hv g
      have f4 := ab_mul (x := FA (pcn 4 g) * FA (n - 1 - pcn 4 g)) (y := v (g ||| 2 ^ p) - v g) (a := 576) (b := 1998) (by omega) (by omega) (by decide) (by decide)
      omega)
  unfold dT
  omega
theorem t_bc {d N S : Nat} {h : Nat → Option rr_E} : ∀ g : Nat, g < 16 → rr_Calls (d + 1) j_Integer_bitCount [.int (ii (g : Int))] (N, S, h) (fun r R => r = some (.int (ii ((pcn 4 g : Nat) : Int))) ∧ R = (N, S, h)) := by
  intro g hg
  have key : ∀ g, g < 16 → ∃ y : Int32, y = ii ((pcn 4 g : Nat) : Int) ∧ rr_Calls (d + 1) j_Integer_bitCount [.int (ii (g : Int))] (N, S, h) (fun r R => r = some (.int y) ∧ R = (N, S, h)) := by
    intro g hg
    refine ⟨_, ?_, rr_meth (C := K_Integer_bitCount) (hd := h_Integer_bitCount) (mx := 1) rfl rfl (fun K hK => hK _ _ _ _ ⟨rfl, rfl⟩)⟩
    revert hg
    revert g
    decide +kernel
  obtain ⟨y, e, t⟩ := key g hg
  subst e
  exact t
theorem u_turns {d N S n : Nat} {v : Nat → Int} {h : Nat → Option rr_E} (hn : 2 ≤ n ∧ n ≤ 4) (c1 : h 1 = some (.inr (0, [.int (ii (n : Int)), .ref 2]))) (c2 : h 2 = some (.inl (0, 16, .inl (fun k => ii (v k))))) (hv : ∀ k, -999 ≤ v k ∧ v k ≤ 999) (c1000003 : h 1000003 = some (.inl (8, 5, .inl (fun j => rr_fac.getD j 0)))) {p : Nat} (hp : p < n) {z : Int} (hz : b3 z) : rr_Calls (d + 3) j_Kinds_turnsOf [.ref 1, .int (ii (p : Int)), .int (ii z)] (N, S, h) (fun r R => r = some (.long (jj (lw (dT n p v) (FA n) z))) ∧ R = (N, S, h)) := by
  refine rr_meth (C := K_Kinds_turnsOf) (hd := h_Kinds_turnsOf) (mx := 8) rfl rfl (fun K hK => ?_)
  have hA := al_b hn
  have h8 := one_lt hn hp
  have hT := dT_b hn hp hv
  have hF := FA_b n (by omega)
  refine hK _ _ _ _ ?_
  refine s_lconst rfl (cn rfl) 0 (by decide) ?_
  refine s_lstore_n rfl (cn rfl) ?_
  refine s_iconst rfl (cn rfl) ?_
  refine s_istore rfl (ch rfl) ?_
  have lp4 : ∀ g : Nat, g ≤ al n + 1 → ∀ (x : Int) (l6 l7 : Option Value) (hx : x = ms_sm g (fun g => if g.testBit p then 0 else FA (pcn 4 g) * FA (n - 1 - pcn 4 g) * (v (g ||| 2 ^ p) - v g))), K 4 [some (.ref 1), some (.int (ii (p : Int))), some (.int (ii z)), some (.long (jj x)), none, some (.int (ii (g : Int))), l6, l7] [] (N, S, h) := by
    refine dn (fun g hg ih4 => ?_)
    intro x l6 l7 hx
    refine hK _ _ _ _ ?_
    refine s_iload rfl (cn rfl) rfl ?_
    refine s_aload_n rfl (cn rfl) rfl ?_
    refine s_virt rfl (cn rfl) rfl rfl c1 rfl (u_all_1 hn c1) ?_
    rintro _ _ ⟨rfl, rfl⟩
    refine s_icmp_gt rfl (cn rfl) (cn rfl) ⟨by omega, by omega⟩ ⟨by omega, by omega⟩ (fun q7 => ?_) (fun q7 => ?_)
    · have hxe : x = dT n p v := by rw [hx, show g = al n + 1 by omega]; rfl
      subst hxe
      refine s_lload_n rfl (cn rfl) rfl ?_
      refine s_getstatic rfl (cn rfl) rfl ?_
      refine s_aload_n rfl (cn rfl) rfl ?_
      refine s_getfield rfl (cn rfl) c1 rfl ?_
      refine s_iaload rfl (cn rfl) _ rfl c1000003 rfl (by omega) (by decide) (FA_e _ (by omega)) ?_
      refine s_i2l rfl (cn rfl) ⟨by omega, by omega⟩ ?_
      refine s_iload_n rfl (cn rfl) rfl ?_
      refine s_stat rfl (cn rfl) rfl rfl rfl (u_lowest (by omega) (by omega) (by omega) (by omega)) ?_
      rintro _ _ ⟨rfl, rfl⟩
      refine s_lreturn rfl ?_
      exact ⟨rfl, rfl⟩
    · refine s_iload rfl (cn rfl) rfl ?_
      refine s_iload_n rfl (cn rfl) rfl ?_
      refine s_ishr rfl (cn rfl) ?_
      refine s_iconst rfl (cn rfl) ?_
      refine s_iand rfl (cn rfl) _ (bi_bit (by omega) (by omega)) ?_
      refine s_if_ne rfl (cn rfl) (cn rfl) (bt_b3 _ _) (fun q13 => ?_) (fun q13 => ?_)
      · refine s_iinc rfl (cn rfl) rfl ?_
        refine s_goto rfl (ch rfl) ?_
        exact ih4 (by omega) _ _ _ (by show _ = ms_sm g _ + (if g.testBit p then 0 else _); rw [if_pos (bt_1.mp (by have := bt_01 g p; omega)), hx]; omega)
      · have q' : g.testBit p = false := bt_0.mp q13
        have b1 := pcn_b n (by omega) g (by omega) p (by omega) ⟨hn.1, by omega, hp, q'⟩
        have f1 := FA_b (pcn 4 g) (by omega)
        have f2 := FA_b (n - 1 - pcn 4 g) (by omega)
        have f3 := ab_mul (x := FA (pcn 4 g)) (y := FA (n - 1 - pcn 4 g)) (a := 24) (b := 24) (by omega) (by omega) (by decide) (by decide)
        have v1 := hv (g ||| 2 ^ p)
        have v2 := hv g
        have l1 := or_16 (show g < 16 by omega) (show 2 ^ p < 16 by omega)
        refine s_iload rfl (cn rfl) rfl ?_
        refine s_stat rfl (cn rfl) rfl rfl rfl (t_bc g (by omega)) ?_
        rintro _ _ ⟨rfl, rfl⟩
        refine s_istore rfl (cn rfl) ?_
        refine s_getstatic rfl (cn rfl) rfl ?_
        refine s_iload rfl (cn rfl) rfl ?_
        refine s_iaload rfl (cn rfl) _ rfl c1000003 rfl (by omega) (by decide) (FA_e _ (by omega)) ?_
        refine s_getstatic rfl (cn rfl) rfl ?_
        refine s_aload_n rfl (cn rfl) rfl ?_
        refine s_getfield rfl (cn rfl) c1 rfl ?_
        refine s_iconst rfl (cn rfl) ?_
        refine s_isub rfl (cn rfl) ?_
        refine s_iload rfl (cn rfl) rfl ?_
        refine s_isub rfl (cn rfl) ?_
        refine s_iaload rfl (cn rfl) (n - 1 - pcn 4 g) (by omega) c1000003 rfl (by omega) (by decide) (FA_e _ (by omega)) ?_
        refine s_imul rfl (cn rfl) ?_
        refine s_istore rfl (cn rfl) ?_
        refine s_lload_n rfl (cn rfl) rfl ?_
        refine s_iload rfl (cn rfl) rfl ?_
        refine s_i2l rfl (cn rfl) ⟨by omega, by omega⟩ ?_
        refine s_aload_n rfl (cn rfl) rfl ?_
        refine s_getfield rfl (cn rfl) c1 rfl ?_
        refine s_iload rfl (cn rfl) rfl ?_
        refine s_iconst rfl (cn rfl) ?_
        refine s_iload_n rfl (cn rfl) rfl ?_
        refine s_ishl rfl (cn rfl) _ (bi_shl1 (by omega)) ?_
        refine s_ior rfl (cn rfl) _ (bi_or _ _) ?_
        refine s_iaload rfl (cn rfl) _ rfl c2 rfl (by omega) (by decide) rfl ?_
        refine s_aload_n rfl (cn rfl) rfl ?_
        refine s_getfield rfl (cn rfl) c1 rfl ?_
        refine s_iload rfl (cn rfl) rfl ?_
        refine s_iaload rfl (cn rfl) _ rfl c2 rfl (by omega) (by decide) rfl ?_
        refine s_isub rfl (cn rfl) ?_
        refine s_i2l rfl (cn rfl) ⟨by omega, by omega⟩ ?_
        refine s_lmul rfl (cn rfl) ?_
        refine s_ladd rfl (cn rfl) ?_
        refine s_lstore_n rfl (cn rfl) ?_
        refine s_iinc rfl (cn rfl) rfl ?_
        refine s_goto rfl (ch rfl) ?_
        exact ih4 (by omega) _ _ _ (by show _ = ms_sm g _ + (if g.testBit p then 0 else _); rw [if_neg (by rw [q']; decide), hx])
  exact lp4 0 (by omega) _ _ _ rfl
theorem d_byTurns {d N S n : Nat} {v : Nat → Int} {h : Nat → Option rr_E} (hn : 2 ≤ n ∧ n ≤ 4) (c1 : h 1 = some (.inr (0, [.int (ii (n : Int)), .ref 2]))) (c2 : h 2 = some (.inl (0, 16, .inl (fun k => ii (v k))))) (hv : ∀ k, -999 ≤ v k ∧ v k ≤ 999) (c1000003 : h 1000003 = some (.inl (8, 5, .inl (fun j => rr_fac.getD j 0)))) {sl im : Int} (c0 : h 0 = some (DO sl im)) {a z : Int} (ha : b3 a) (hz : b3 z) : rr_Calls (d + 4) j_Desk_byTurns [.ref 0, .int (ii a), .int (ii z)] (N, S, h) (fun r R => r = some (.long (jj (if (0 ≤ a ∧ a < (n : Int)) ∧ (z = 0 ∨ z = 1) then lw (dT n a.toNat v) (FA n) z else (-9223372036854775808)))) ∧ R = (N, S, h)) := by
  refine rr_meth (C := K_Desk_byTurns) (hd := h_Desk_byTurns) (mx := 3) rfl rfl (fun K hK => ?_)
  refine hK _ _ _ _ ?_
  refine s_aload_n rfl (cn rfl) rfl ?_
  refine s_getfield rfl (cn rfl) c0 rfl ?_
  refine s_iload_n rfl (cn rfl) rfl ?_
  refine s_virt rfl (cn rfl) rfl rfl c1 rfl (u_hasOne hn c1 (by omega)) ?_
  rintro _ _ ⟨rfl, rfl⟩
  refine s_ifb_eq rfl (cn rfl) (cn rfl) (fun q4 => ?_) (fun q4 => ?_)
  · refine s_ldc2_w rfl (cn rfl) ?_
    refine s_lreturn rfl ?_
    exact ⟨rl (if_neg (fun q => by first | exact q4 q.1 | exact q7 q.2)).symm, rfl⟩
  · refine s_iload_n rfl (cn rfl) rfl ?_
    refine s_stat rfl (cn rfl) rfl rfl rfl (u_fpart (by omega)) ?_
    rintro _ _ ⟨rfl, rfl⟩
    refine s_ifb_ne rfl (cn rfl) (cn rfl) (fun q7 => ?_) (fun q7 => ?_)
    · obtain ⟨o, rfl⟩ := Int.eq_ofNat_of_zero_le q4.1
      refine s_aload_n rfl (cn rfl) rfl ?_
      refine s_getfield rfl (cn rfl) c0 rfl ?_
      refine s_iload_n rfl (cn rfl) rfl ?_
      refine s_iload_n rfl (cn rfl) rfl ?_
      refine s_stat rfl (cn rfl) rfl rfl rfl (u_turns hn c1 c2 hv c1000003 (show o < n by omega) hz) ?_
      rintro _ _ ⟨rfl, rfl⟩
      refine s_lreturn rfl ?_
      exact ⟨rl (if_pos ⟨q4, q7⟩).symm, rfl⟩
    · refine s_ldc2_w rfl (cn rfl) ?_
      refine s_lreturn rfl ?_
      exact ⟨rl (if_neg (fun q => by first | exact q4 q.1 | exact q7 q.2)).symm, rfl⟩
theorem m_turns_0 {d N S n : Nat} {kp tp pt wr fa dm ce di be od sm le sc ba bb ti rk ts tm pa wa : Int} {h : Nat → Option rr_E} (hn : 2 ≤ n ∧ n ≤ 4)  {v : Nat → Int} {one c : Nat} (c58 : h 58 = some (MO (n : Int) kp tp pt wr fa dm ce di be od sm le sc ba bb ti rk ts tm pa wa)) (hc : c = al n) : rr_Calls (d + 2) j_Model_turns [.ref 58, .int (ii (c : Int)), .int (ii (one : Int))] (N, S, h) (fun r R => r = none ∧ ∃ h', R = (N, S, h') ∧ h' 58 = some (MO (n : Int) kp tp pt wr fa dm ce di be od sm le sc ba bb ti rk (ts + tS n one v 0 c) (tm + tM n 0 c) pa wa) ∧ fr [58] h h') := by
  refine rr_meth (C := K_Model_turns) (hd := h_Model_turns) (mx := 5) rfl rfl (fun K hK => ?_)
  have hA := al_b hn
  refine hK _ _ _ _ ?_
  refine s_iload_n rfl (cn rfl) rfl ?_
  refine s_aload_n rfl (cn rfl) rfl ?_
  refine s_virt rfl (cn rfl) rfl rfl c58 rfl (m_all hn c58) ?_
  rintro _ _ ⟨rfl, rfl⟩
  refine s_icmp_ne rfl (cn rfl) (cn rfl) ⟨by omega, by omega⟩ ⟨by omega, by omega⟩ (fun q3 => ?_) (fun q3 => ?_)
  · omega
  · refine s_aload_n rfl (cn rfl) rfl ?_
    refine s_dupr rfl (cn rfl) ?_
    refine s_getfield rfl (cn rfl) c58 rfl ?_
    refine s_iconst rfl (cn rfl) ?_
    refine s_iadd rfl (cn rfl) ?_
    refine s_puti rfl (cn rfl) rfl c58 rfl ?_
    refine s_return rfl ?_
    exact ⟨rfl, _, rfl, (by rw [show ts + tS n one v 0 c = ts + 0 from rfl, Int.add_zero]; exact rr_set_eq), fr_s (by decide) fr_r⟩
theorem m_turns_s {d N S n : Nat} {kp tp pt wr fa dm ce di be od sm le sc ba bb ti rk ts tm pa wa : Int} {h : Nat → Option rr_E} (hn : 2 ≤ n ∧ n ≤ 4)  {v : Nat → Int} {one c k : Nat} (hv : ∀ k, -999 ≤ v k ∧ v k ≤ 999) (ho : one < n) (hc : c ≤ al n) (hne : c ≠ al n) (hk : n - pcn 4 c = k + 1) (hk4 : ((4 ^ k : Nat) : Int) ≤ 256) (c58 : h 58 = some (MO (n : Int) kp tp pt wr fa dm ce di be od sm le sc ba bb ti rk ts tm pa wa)) (c59 : h 59 = some (.inl (0, 16, .inl (fun k => ii (v k))))) (ih : ∀ (c : Nat), c ≤ al n → n - pcn 4 c = k → ∀ {kp tp pt wr fa dm ce di be od sm le sc ba bb ti rk ts tm pa wa : Int} {h : Nat → Option rr_E}, h 58 = some (MO (n : Int) kp tp pt wr fa dm ce di be od sm le sc ba bb ti rk ts tm pa wa) → h 59 = some (.inl (0, 16, .inl (fun k => ii (v k)))) → rr_Calls (d + k + 2) j_Model_turns [.ref 58, .int (ii (c : Int)), .int (ii (one : Int))] (N, S, h) (fun r R => r = none ∧ ∃ h', R = (N, S, h') ∧ h' 58 = some (MO (n : Int) kp tp pt wr fa dm ce di be od sm le sc ba bb ti rk (ts + tS n one v k c) (tm + tM n k c) pa wa) ∧ fr [58] h h')) : rr_Calls (d + k + 3) j_Model_turns [.ref 58, .int (ii (c : Int)), .int (ii (one : Int))] (N, S, h) (fun r R => r = none ∧ ∃ h', R = (N, S, h') ∧ h' 58 = some (MO (n : Int) kp tp pt wr fa dm ce di be od sm le sc ba bb ti rk (ts + tS n one v (k + 1) c) (tm + tM n (k + 1) c) pa wa) ∧ fr [58] h h') := by
  refine rr_meth (C := K_Model_turns) (hd := h_Model_turns) (mx := 5) rfl rfl (fun K hK => ?_)
  have hA := al_b hn
  refine hK _ _ _ _ ?_
  refine s_iload_n rfl (cn rfl) rfl ?_
  refine s_aload_n rfl (cn rfl) rfl ?_
  refine s_virt rfl (cn rfl) rfl rfl c58 rfl (m_all hn c58) ?_
  rintro _ _ ⟨rfl, rfl⟩
  refine s_icmp_ne rfl (cn rfl) (cn rfl) ⟨by omega, by omega⟩ ⟨by omega, by omega⟩ (fun q3 => ?_) (fun q3 => ?_)
  · refine s_iconst rfl (cn rfl) ?_
    refine s_istore_n rfl (ch rfl) ?_
    have lp13 : ∀ p : Nat, p ≤ n → ∀ (h' : Nat → Option rr_E) (l4 : Option Value) (x y : Int) (hx : x = ts + ms_sm p (fun p => if c.testBit p then 0 else tS n one v k (c ||| 2 ^ p) + (if p = one then tM n k (c ||| 2 ^ p) * (v (c ||| 2 ^ p) - v c) else 0))) (hy : y = tm + ms_sm p (fun p => if c.testBit p then 0 else tM n k (c ||| 2 ^ p))) (c58 : h' 58 = some (MO (n : Int) kp tp pt wr fa dm ce di be od sm le sc ba bb ti rk x y pa wa)) (hf : fr [58] h h'), K 13 [some (.ref 58), some (.int (ii (c : Int))), some (.int (ii (one : Int))), some (.int (ii (p : Int))), l4] [] (N, S, h') := by
      refine dn (fun p hp ih13 => ?_)
      intro h' l4 x y hx hy c58 hf
      have c59 := (hf 59 (by decide)).trans c59
      refine hK _ _ _ _ ?_
      refine s_iload_n rfl (cn rfl) rfl ?_
      refine s_aload_n rfl (cn rfl) rfl ?_
      refine s_getfield rfl (cn rfl) c58 rfl ?_
      refine s_icmp_ge rfl (cn rfl) (cn rfl) ⟨by omega, by omega⟩ ⟨by omega, by omega⟩ (fun q16 => ?_) (fun q16 => ?_)
      · refine s_return rfl ?_
        exact ⟨rfl, h', rfl, (by rw [show ts + tS n one v (k + 1) c = x by rw [hx, show p = n by omega]; rfl, show tm + tM n (k + 1) c = y by rw [hy, show p = n by omega]; rfl]; exact c58), hf⟩
      · refine s_iload_n rfl (cn rfl) rfl ?_
        refine s_iload_n rfl (cn rfl) rfl ?_
        refine s_stat rfl (cn rfl) rfl rfl rfl (m_has (by omega) (by omega)) ?_
        rintro _ _ ⟨rfl, rfl⟩
        refine s_ifb_eq rfl (cn rfl) (cn rfl) (fun q20 => ?_) (fun q20 => ?_)
        · have q' : c.testBit p = false := bf.mp q20
          obtain ⟨p1, p2, p3⟩ := pz_s n (by omega) c (by omega) p (by omega) ⟨hn.1, hc, by omega, q'⟩
          have l1 : 2 ^ p < 16 := by have := one_lt hn (show p < n by omega); omega
          have l2 := or_16 (show c < 16 by omega) l1
          have mb := tM_b (n := n) hn.2 k (c ||| 2 ^ p)
          have v1 := hv (c ||| 2 ^ p)
          have v2 := hv c
          refine s_aload_n rfl (cn rfl) rfl ?_
          refine s_getfield rfl (cn rfl) c58 rfl ?_
          refine s_istore rfl (cn rfl) ?_
          refine s_aload_n rfl (cn rfl) rfl ?_
          refine s_iload_n rfl (cn rfl) rfl ?_
          refine s_iconst rfl (cn rfl) ?_
          refine s_iload_n rfl (cn rfl) rfl ?_
          refine s_ishl rfl (cn rfl) _ (bi_shl1 (by omega)) ?_
          refine s_ior rfl (cn rfl) _ (bi_or _ _) ?_
          refine s_iload_n rfl (cn rfl) rfl ?_
          refine s_virt rfl (cn rfl) rfl rfl c58 rfl (ih (c ||| 2 ^ p) (by omega) (by omega) c58 c59) ?_
          rintro _ _ ⟨rfl, h2, rfl, d58, hf2⟩
          have c58 := d58
          have c59 := (hf2 59 (by decide)).trans c59
          refine s_aload_n rfl (cn rfl) rfl ?_
          refine s_dupr rfl (cn rfl) ?_
          refine s_getfield rfl (cn rfl) c58 rfl ?_
          refine s_iload_n rfl (cn rfl) rfl ?_
          refine s_iload_n rfl (cn rfl) rfl ?_
          refine s_icmp_ne rfl (cn rfl) (cn rfl) ⟨by omega, by omega⟩ ⟨by omega, by omega⟩ (fun q38 => ?_) (fun q38 => ?_)
          · refine s_lconst rfl (cn rfl) 0 (by decide) ?_
            refine s_ladd rfl (cn rfl) ?_
            refine s_putl rfl (cn rfl) rfl c58 rfl ?_
            refine s_iinc rfl (cn rfl) rfl ?_
            refine s_goto rfl (ch rfl) ?_
            exact ih13 (by omega) _ _ _ _ (by show _ = ts + (ms_sm p _ + (if c.testBit p then 0 else _)); rw [if_neg (by rw [q']; decide), if_neg (by omega), hx]; omega) (by show _ = tm + (ms_sm p _ + (if c.testBit p then 0 else _)); rw [if_neg (by rw [q']; decide), hy]; omega) rr_set_eq (fr_s (by decide) (fr_t hf hf2 (by decide)))
          · refine s_aload_n rfl (cn rfl) rfl ?_
            refine s_getfield rfl (cn rfl) c58 rfl ?_
            refine s_iload rfl (cn rfl) rfl ?_
            refine s_isub rfl (cn rfl) ?_
            refine s_i2l rfl (cn rfl) ⟨by omega, by omega⟩ ?_
            refine s_aload_n rfl (cn rfl) rfl ?_
            refine s_getfield rfl (cn rfl) c58 rfl ?_
            refine s_iload_n rfl (cn rfl) rfl ?_
            refine s_iconst rfl (cn rfl) ?_
            refine s_iload_n rfl (cn rfl) rfl ?_
            refine s_ishl rfl (cn rfl) _ (bi_shl1 (by omega)) ?_
            refine s_ior rfl (cn rfl) _ (bi_or _ _) ?_
            refine s_iaload rfl (cn rfl) _ rfl c59 rfl (by omega) (by decide) rfl ?_
            refine s_aload_n rfl (cn rfl) rfl ?_
            refine s_getfield rfl (cn rfl) c58 rfl ?_
            refine s_iload_n rfl (cn rfl) rfl ?_
            refine s_iaload rfl (cn rfl) _ rfl c59 rfl (by omega) (by decide) rfl ?_
            refine s_isub rfl (cn rfl) ?_
            refine s_i2l rfl (cn rfl) ⟨by omega, by omega⟩ ?_
            refine s_lmul rfl (cn rfl) ?_
            refine s_goto rfl (cn rfl) ?_
            refine s_ladd rfl (cn rfl) ?_
            refine s_putl rfl (cn rfl) rfl c58 rfl ?_
            refine s_iinc rfl (cn rfl) rfl ?_
            refine s_goto rfl (ch rfl) ?_
            exact ih13 (by omega) _ _ _ _ (by show _ = ts + (ms_sm p _ + (if c.testBit p then 0 else _)); rw [if_neg (by rw [q']; decide), if_pos (by omega), hx, show y + tM n k (c ||| 2 ^ p) - y = tM n k (c ||| 2 ^ p) by omega]; omega) (by show _ = tm + (ms_sm p _ + (if c.testBit p then 0 else _)); rw [if_neg (by rw [q']; decide), hy]; omega) rr_set_eq (fr_s (by decide) (fr_t hf hf2 (by decide)))
        · refine s_goto rfl (cn rfl) ?_
          refine s_iinc rfl (cn rfl) rfl ?_
          refine s_goto rfl (ch rfl) ?_
          exact ih13 (by omega) _ _ _ _ (by show _ = ts + (ms_sm p _ + (if c.testBit p then 0 else _)); rw [if_pos (bt_1.mp q20), hx]; omega) (by show _ = tm + (ms_sm p _ + (if c.testBit p then 0 else _)); rw [if_pos (bt_1.mp q20), hy]; omega) c58 hf
    exact lp13 0 (by omega) _ _ _ _ (by show ts = ts + 0; omega) (by show tm = tm + 0; omega) c58 fr_r
  · omega
theorem m_turns {d N S n : Nat} (hn : 2 ≤ n ∧ n ≤ 4) {v : Nat → Int} (hv : ∀ k, -999 ≤ v k ∧ v k ≤ 999) {one : Nat} (ho : one < n) : ∀ (k c : Nat), c ≤ al n → n - pcn 4 c = k → ∀ {kp tp pt wr fa dm ce di be od sm le sc ba bb ti rk ts tm pa wa : Int} {h : Nat → Option rr_E}, h 58 = some (MO (n : Int) kp tp pt wr fa dm ce di be od sm le sc ba bb ti rk ts tm pa wa) → h 59 = some (.inl (0, 16, .inl (fun k => ii (v k)))) → rr_Calls (d + k + 2) j_Model_turns [.ref 58, .int (ii (c : Int)), .int (ii (one : Int))] (N, S, h) (fun r R => r = none ∧ ∃ h', R = (N, S, h') ∧ h' 58 = some (MO (n : Int) kp tp pt wr fa dm ce di be od sm le sc ba bb ti rk (ts + tS n one v k c) (tm + tM n k c) pa wa) ∧ fr [58] h h') := by
  have hA := al_b hn
  intro k
  induction k with
  | zero =>
    intro c hc hk kp tp pt wr fa dm ce di be od sm le sc ba bb ti rk ts tm pa wa h c58 c59
    exact m_turns_0 hn c58 ((pz_0 n (by omega) hn.1 c (by omega) hc).mp hk)
  | succ k ih =>
    intro c hc hk kp tp pt wr fa dm ce di be od sm le sc ba bb ti rk ts tm pa wa h c58 c59
    have h4 : 4 ^ k ≤ 4 ^ 4 := Nat.pow_le_pow_right (by decide) (by omega)
    exact m_turns_s hn hv ho hc (fun e => by have := (pz_0 n (by omega) hn.1 c (by omega) hc).mpr e; omega) hk (by omega) c58 c59 ih
theorem m_byTurns {d N S n : Nat} {kp tp pt wr fa dm ce di be od sm le sc ba bb ti rk ts tm pa wa : Int} {h : Nat → Option rr_E} (hn : 2 ≤ n ∧ n ≤ 4)  {v : Nat → Int} (c58 : h 58 = some (MO (n : Int) kp tp pt wr fa dm ce di be od sm le sc ba bb ti rk ts tm pa wa)) (c59 : h 59 = some (.inl (0, 16, .inl (fun k => ii (v k))))) (hv : ∀ k, -999 ≤ v k ∧ v k ≤ 999) {a z : Int} (ha : b3 a) (hz : b3 z) : rr_Calls (d + n + 3) j_Model_byTurns [.ref 58, .int (ii a), .int (ii z)] (N, S, h) (fun r R => r = some (.long (jj (if (0 ≤ a ∧ a < (n : Int)) ∧ (z = 0 ∨ z = 1) then lw (dT n a.toNat v) (FA n) z else (-9223372036854775808)))) ∧ ∃ h', R = (N, S, h') ∧ fr [58] h h' ∧ ∃ x y : Int, h' 58 = some (MO (n : Int) kp tp pt wr fa dm ce di be od sm le sc ba bb ti rk x y pa wa)) := by
  refine rr_meth (C := K_Model_byTurns) (hd := h_Model_byTurns) (mx := 3) rfl rfl (fun K hK => ?_)
  have hA := al_b hn
  refine hK _ _ _ _ ?_
  refine s_aload_n rfl (cn rfl) rfl ?_
  refine s_iload_n rfl (cn rfl) rfl ?_
  refine s_virt rfl (cn rfl) rfl rfl c58 rfl (m_isOne hn c58 (by omega)) ?_
  rintro _ _ ⟨rfl, rfl⟩
  refine s_ifb_eq rfl (cn rfl) (cn rfl) (fun q3 => ?_) (fun q3 => ?_)
  · refine s_ldc2_w rfl (cn rfl) ?_
    refine s_lreturn rfl ?_
    exact ⟨rl (if_neg (fun q => by first | exact q3 q.1 | exact q9 (by omega))).symm, h, rfl, fr_r, _, _, c58⟩
  · refine s_iload_n rfl (cn rfl) rfl ?_
    refine s_i2l rfl (cn rfl) ⟨by omega, by omega⟩ ?_
    refine s_lconst rfl (cn rfl) 0 (by decide) ?_
    refine s_lconst rfl (cn rfl) 1 (by decide) ?_
    refine s_stat rfl (cn rfl) rfl rfl rfl (m_in (by omega) (by omega) (by omega)) ?_
    rintro _ _ ⟨rfl, rfl⟩
    refine s_ifb_ne rfl (cn rfl) (cn rfl) (fun q9 => ?_) (fun q9 => ?_)
    · obtain ⟨o, rfl⟩ := Int.eq_ofNat_of_zero_le q3.1
      refine s_aload_n rfl (cn rfl) rfl ?_
      refine s_lconst rfl (cn rfl) 0 (by decide) ?_
      refine s_putl rfl (cn rfl) rfl c58 rfl ?_
      refine s_aload_n rfl (cn rfl) rfl ?_
      refine s_iconst rfl (cn rfl) ?_
      refine s_puti rfl (cn rfl) rfl rr_set_eq rfl ?_
      refine s_aload_n rfl (cn rfl) rfl ?_
      refine s_iconst rfl (cn rfl) ?_
      refine s_iload_n rfl (cn rfl) rfl ?_
      refine s_virt rfl (cn rfl) rfl rfl rr_set_eq rfl (m_turns (one := o) hn hv (by omega) n 0 (by omega) rfl rr_set_eq c59) ?_
      rintro _ _ ⟨rfl, h2, rfl, d58, hf2⟩
      have c58 := d58
      rw [turns_eq hn (show o < n by omega), tM_e n (by omega) hn.1, Int.zero_add, Int.zero_add] at c58
      have hT := dT_b hn (show o < n by omega) hv
      have hF := FA_b n (by omega)
      refine s_aload_n rfl (cn rfl) rfl ?_
      refine s_getfield rfl (cn rfl) c58 rfl ?_
      refine s_aload_n rfl (cn rfl) rfl ?_
      refine s_getfield rfl (cn rfl) c58 rfl ?_
      refine s_i2l rfl (cn rfl) ⟨by omega, by omega⟩ ?_
      refine s_iload_n rfl (cn rfl) rfl ?_
      refine s_stat rfl (cn rfl) rfl rfl rfl (m_lowest (by omega) (by omega) (by omega) (by omega)) ?_
      rintro _ _ ⟨rfl, rfl⟩
      refine s_lreturn rfl ?_
      exact ⟨rl (if_pos ⟨q3, by omega⟩).symm, h2, rfl, fr_t (fr_s (by decide) (fr_s (by decide) fr_r)) hf2 (by decide), _, _, c58⟩
    · refine s_ldc2_w rfl (cn rfl) ?_
      refine s_lreturn rfl ?_
      exact ⟨rl (if_neg (fun q => by first | exact q3 q.1 | exact q9 (by omega))).symm, h, rfl, fr_r, _, _, c58⟩
