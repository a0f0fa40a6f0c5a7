/-! More of the game; fractions. -/
def fr (l : List Nat) (h h' : Nat → Option rr_E) : Prop := ∀ k, k ∉ l → h' k = h k
theorem fr_r {l : List Nat} {h : Nat → Option rr_E} : fr l h h := fun _ _ => rfl
theorem fr_s {l : List Nat} {h h' : Nat → Option rr_E} {k : Nat} {c : rr_E} (hk : k ∈ l) (f : fr l h h') : fr l h (rr_set h' k c) := fun j hj => (rr_set_ne (fun e : j = k => hj (by rw [e]; exact hk))).trans (f j hj)
theorem fr_t {l m : List Nat} {h h' h'' : Nat → Option rr_E} (f : fr l h h') (f' : fr m h' h'') (s : ∀ k, k ∈ m → k ∈ l) : fr l h h'' := fun j hj => (f' j (fun q => hj (s j q))).trans (f j hj)
theorem fr_w {l m : List Nat} {h h' : Nat → Option rr_E} (f : fr m h h') (s : ∀ k, k ∈ m → k ∈ l) : fr l h h' := fun j hj => f j (fun q => hj (s j q))
def zr (v : Nat → Int) (m : Nat) : Nat → Int := fun k => if k < m then 0 else v k
theorem zr_0 {v : Nat → Int} : zr v 0 = v := by
  funext k
  exact if_neg (Nat.not_lt_zero k)
theorem zr_s {v : Nat → Int} {m : Nat} : fu (zr v m) m 0 = zr v (m + 1) := by
  funext k
  show (if k = m then 0 else if k < m then 0 else v k) = if k < m + 1 then 0 else v k
  by_cases h : k = m
  · rw [if_pos h, if_pos (by omega)]
  · rw [if_neg h]
    by_cases h2 : k < m
    · rw [if_pos h2, if_pos (by omega)]
    · rw [if_neg h2, if_neg (by omega)]
theorem ar_f {m : Nat} {v w : Nat → Int} {h : Nat → Option rr_E} {q : Nat} (c : h q = some (.inl (0, m, .inl (fun k => ii (v k))))) (e : v = w) : h q = some (.inl (0, m, .inl (fun k => ii (w k)))) := e ▸ c
theorem ar_l {m : Nat} {v w : Nat → Int} {h : Nat → Option rr_E} {q : Nat} (c : h q = some (.inl (1, m, .inr (.inl (fun k => jj (v k)))))) (e : v = w) : h q = some (.inl (1, m, .inr (.inl (fun k => jj (w k))))) := e ▸ c
theorem u_begin {d N S n : Nat} {v : Nat → Int} {h : Nat → Option rr_E} (hn : 2 ≤ n ∧ n ≤ 4) (c1 : h 1 = some (.inr (0, [.int (ii (n : Int)), .ref 2]))) (c2 : h 2 = some (.inl (0, 16, .inl (fun k => ii (v k))))) {m : Int} : rr_Calls (d + 1) j_Game_begin [.ref 1, .int (ii m)] (N, S, h) (fun r R => r = none ∧ ∃ h', R = (N, S, h') ∧ h' 1 = some (.inr (0, [.int (ii (m : Int)), .ref 2])) ∧ h' 2 = some (.inl (0, 16, .inl (fun k => ii (zr v 16 k)))) ∧ fr [1, 2] h h') := by
  refine rr_meth (C := K_Game_begin) (hd := h_Game_begin) (mx := 3) rfl rfl (fun K hK => ?_)
  refine hK _ _ _ _ ?_
  refine s_aload_n rfl (cn rfl) rfl ?_
  refine s_iload_n rfl (cn rfl) rfl ?_
  refine s_puti rfl (cn rfl) rfl c1 rfl ?_
  refine s_iconst rfl (cn rfl) ?_
  refine s_istore_n rfl (ch rfl) ?_
  have lp5 : ∀ g : Nat, g ≤ 16 → ∀ (h' : Nat → Option rr_E) (c1 : h' 1 = some (.inr (0, [.int (ii m), .ref 2]))) (c2 : h' 2 = some (.inl (0, 16, .inl (fun k => ii (zr v g k))))) (hf : fr [1, 2] h h'), K 5 [some (.ref 1), some (.int (ii m)), some (.int (ii (g : Int)))] [] (N, S, h') := by
    refine dn (fun g hg ih5 => ?_)
    intro h' c1 c2 hf
    refine hK _ _ _ _ ?_
    refine s_iload_n rfl (cn rfl) rfl ?_
    refine s_bipush rfl (cn rfl) (by decide) ?_
    refine s_icmp_ge rfl (cn rfl) (cn rfl) ⟨by omega, by omega⟩ ⟨by omega, by omega⟩ (fun q7 => ?_) (fun q7 => ?_)
    · refine s_return rfl ?_
      exact ⟨rfl, h', rfl, c1, ar_f c2 (by rw [show g = 16 by omega]), hf⟩
    · refine s_aload_n rfl (cn rfl) rfl ?_
      refine s_getfield rfl (cn rfl) c1 rfl ?_
      refine s_iload_n rfl (cn rfl) rfl ?_
      refine s_iconst rfl (cn rfl) ?_
      refine s_iastore rfl (cn rfl) _ rfl c2 (by omega) (by decide) ?_
      refine s_iinc rfl (cn rfl) rfl ?_
      refine s_goto rfl (ch rfl) ?_
      exact ih5 (by omega) _ c1 (ar_f rr_set_eq zr_s) (fr_s (by decide) hf)
  exact lp5 0 (by omega) _ rr_set_eq (ar_f c2 zr_0.symm) (fr_s (by decide) fr_r)
theorem u_copy_3_1 {d N S n : Nat} {m : Int} {v w : Nat → Int} {h : Nat → Option rr_E} (c1 : h 1 = some (.inr (0, [.int (ii (n : Int)), .ref 2]))) (c2 : h 2 = some (.inl (0, 16, .inl (fun k => ii (v k))))) (c3 : h 3 = some (.inr (0, [.int (ii m), .ref 4]))) (c4 : h 4 = some (.inl (0, 16, .inl (fun k => ii (w k))))) : rr_Calls (d + 1) j_Game_copyFrom [.ref 3, .ref 1] (N, S, h) (fun r R => r = none ∧ ∃ h', R = (N, S, h') ∧ h' 3 = some (.inr (0, [.int (ii (n : Int)), .ref 4])) ∧ h' 4 = some (.inl (0, 16, .inl (fun k => ii (fc v w 0 0 16 k)))) ∧ fr [3, 4] h h') := by
  refine rr_meth (C := K_Game_copyFrom) (hd := h_Game_copyFrom) (mx := 2) rfl rfl (fun K hK => ?_)
  refine hK _ _ _ _ ?_
  refine s_aload_n rfl (cn rfl) rfl ?_
  refine s_aload_n rfl (cn rfl) rfl ?_
  refine s_getfield rfl (cn rfl) c1 rfl ?_
  refine s_puti rfl (cn rfl) rfl c3 rfl ?_
  refine s_aload_n rfl (cn rfl) rfl ?_
  refine s_getfield rfl (cn rfl) c1 rfl ?_
  refine s_iconst rfl (cn rfl) ?_
  refine s_aload_n rfl (cn rfl) rfl ?_
  refine s_getfield rfl (cn rfl) rr_set_eq rfl ?_
  refine s_iconst rfl (cn rfl) ?_
  refine s_bipush rfl (cn rfl) (by decide) ?_
  refine s_copy rfl (cn rfl) c2 c4 (by decide) (by decide) (by decide) (by decide) rfl ?_
  refine s_return rfl ?_
  exact ⟨rfl, _, rfl, rfl, rr_set_eq, fr_s (by decide) (fr_s (by decide) fr_r)⟩
theorem u_copy_1_3 {d N S n : Nat} {m : Int} {v w : Nat → Int} {h : Nat → Option rr_E} (c3 : h 3 = some (.inr (0, [.int (ii (n : Int)), .ref 4]))) (c4 : h 4 = some (.inl (0, 16, .inl (fun k => ii (v k))))) (c1 : h 1 = some (.inr (0, [.int (ii m), .ref 2]))) (c2 : h 2 = some (.inl (0, 16, .inl (fun k => ii (w k))))) : rr_Calls (d + 1) j_Game_copyFrom [.ref 1, .ref 3] (N, S, h) (fun r R => r = none ∧ ∃ h', R = (N, S, h') ∧ h' 1 = some (.inr (0, [.int (ii (n : Int)), .ref 2])) ∧ h' 2 = some (.inl (0, 16, .inl (fun k => ii (fc v w 0 0 16 k)))) ∧ fr [1, 2] h h') := by
  refine rr_meth (C := K_Game_copyFrom) (hd := h_Game_copyFrom) (mx := 2) rfl rfl (fun K hK => ?_)
  refine hK _ _ _ _ ?_
  refine s_aload_n rfl (cn rfl) rfl ?_
  refine s_aload_n rfl (cn rfl) rfl ?_
  refine s_getfield rfl (cn rfl) c3 rfl ?_
  refine s_puti rfl (cn rfl) rfl c1 rfl ?_
  refine s_aload_n rfl (cn rfl) rfl ?_
  refine s_getfield rfl (cn rfl) c3 rfl ?_
  refine s_iconst rfl (cn rfl) ?_
  refine s_aload_n rfl (cn rfl) rfl ?_
  refine s_getfield rfl (cn rfl) rr_set_eq rfl ?_
  refine s_iconst rfl (cn rfl) ?_
  refine s_bipush rfl (cn rfl) (by decide) ?_
  refine s_copy rfl (cn rfl) c4 c2 (by decide) (by decide) (by decide) (by decide) rfl ?_
  refine s_return rfl ?_
  exact ⟨rfl, _, rfl, rfl, rr_set_eq, fr_s (by decide) (fr_s (by decide) fr_r)⟩
theorem u_copy_5_1 {d N S n : Nat} {m : Int} {v w : Nat → Int} {h : Nat → Option rr_E} (c1 : h 1 = some (.inr (0, [.int (ii (n : Int)), .ref 2]))) (c2 : h 2 = some (.inl (0, 16, .inl (fun k => ii (v k))))) (c5 : h 5 = some (.inr (0, [.int (ii m), .ref 6]))) (c6 : h 6 = some (.inl (0, 16, .inl (fun k => ii (w k))))) : rr_Calls (d + 1) j_Game_copyFrom [.ref 5, .ref 1] (N, S, h) (fun r R => r = none ∧ ∃ h', R = (N, S, h') ∧ h' 5 = some (.inr (0, [.int (ii (n : Int)), .ref 6])) ∧ h' 6 = some (.inl (0, 16, .inl (fun k => ii (fc v w 0 0 16 k)))) ∧ fr [5, 6] h h') := by
  refine rr_meth (C := K_Game_copyFrom) (hd := h_Game_copyFrom) (mx := 2) rfl rfl (fun K hK => ?_)
  refine hK _ _ _ _ ?_
  refine s_aload_n rfl (cn rfl) rfl ?_
  refine s_aload_n rfl (cn rfl) rfl ?_
  refine s_getfield rfl (cn rfl) c1 rfl ?_
  refine s_puti rfl (cn rfl) rfl c5 rfl ?_
  refine s_aload_n rfl (cn rfl) rfl ?_
  refine s_getfield rfl (cn rfl) c1 rfl ?_
  refine s_iconst rfl (cn rfl) ?_
  refine s_aload_n rfl (cn rfl) rfl ?_
  refine s_getfield rfl (cn rfl) rr_set_eq rfl ?_
  refine s_iconst rfl (cn rfl) ?_
  refine s_bipush rfl (cn rfl) (by decide) ?_
  refine s_copy rfl (cn rfl) c2 c6 (by decide) (by decide) (by decide) (by decide) rfl ?_
  refine s_return rfl ?_
  exact ⟨rfl, _, rfl, rfl, rr_set_eq, fr_s (by decide) (fr_s (by decide) fr_r)⟩
theorem u_alone {d N S n : Nat} {v : Nat → Int} {h : Nat → Option rr_E} (hn : 2 ≤ n ∧ n ≤ 4) (c1 : h 1 = some (.inr (0, [.int (ii (n : Int)), .ref 2]))) (c2 : h 2 = some (.inl (0, 16, .inl (fun k => ii (v k))))) {g : Nat} (hg : g < 16) : rr_Calls (d + 1) j_Game_sumOfEachAlone [.ref 1, .int (ii (g : Int))] (N, S, h) (fun r R => r = some (.int (ii (ms_sm n (fun p => st_bt g p * v (2 ^ p))))) ∧ R = (N, S, h)) := by
  refine rr_meth (C := K_Game_sumOfEachAlone) (hd := h_Game_sumOfEachAlone) (mx := 4) rfl rfl (fun K hK => ?_)
  refine hK _ _ _ _ ?_
  refine s_iconst rfl (cn rfl) ?_
  refine s_istore_n rfl (cn rfl) ?_
  refine s_iconst rfl (cn rfl) ?_
  refine s_istore_n rfl (ch rfl) ?_
  have lp4 : ∀ p : Nat, p ≤ n → ∀ (x : Int) (hx : x = ms_sm p (fun p => st_bt g p * v (2 ^ p))), K 4 [some (.ref 1), some (.int (ii (g : Int))), some (.int (ii x)), some (.int (ii (p : Int)))] [] (N, S, h) := by
    refine dn (fun p hp ih4 => ?_)
    intro x hx
    refine hK _ _ _ _ ?_
    refine s_iload_n rfl (cn rfl) rfl ?_
    refine s_aload_n rfl (cn rfl) rfl ?_
    refine s_getfield rfl (cn rfl) c1 rfl ?_
    refine s_icmp_ge rfl (cn rfl) (cn rfl) ⟨by omega, by omega⟩ ⟨by omega, by omega⟩ (fun q7 => ?_) (fun q7 => ?_)
    · refine s_iload_n rfl (cn rfl) rfl ?_
      refine s_ireturn rfl ?_
      exact ⟨ri (by rw [hx, show p = n by omega]), rfl⟩
    · refine s_iload_n rfl (cn rfl) rfl ?_
      refine s_iload_n rfl (cn rfl) rfl ?_
      refine s_ishr rfl (cn rfl) ?_
      refine s_iconst rfl (cn rfl) ?_
      refine s_iand rfl (cn rfl) _ (bi_bit (by omega) (by omega)) ?_
      refine s_iconst rfl (cn rfl) ?_
      refine s_icmp_ne rfl (cn rfl) (cn rfl) (bt_b3 _ _) (by decide) (fun q14 => ?_) (fun q14 => ?_)
      · refine s_iinc rfl (cn rfl) rfl ?_
        refine s_goto rfl (ch rfl) ?_
        exact ih4 (by omega) _ (by show _ = ms_sm p _ + st_bt g p * v (2 ^ p); rw [hx, show st_bt g p = 0 by have := bt_01 g p; omega]; omega)
      · refine s_iload_n rfl (cn rfl) rfl ?_
        refine s_aload_n rfl (cn rfl) rfl ?_
        refine s_getfield rfl (cn rfl) c1 rfl ?_
        refine s_iconst rfl (cn rfl) ?_
        refine s_iload_n rfl (cn rfl) rfl ?_
        refine s_ishl rfl (cn rfl) _ (bi_shl1 (by omega)) ?_
        have h2 := one_lt hn (show p < n by omega)
        have hA := al_b hn
        refine s_iaload rfl (cn rfl) _ rfl c2 rfl (by omega) (by decide) rfl ?_
        refine s_iadd rfl (cn rfl) ?_
        refine s_istore_n rfl (cn rfl) ?_
        refine s_iinc rfl (cn rfl) rfl ?_
        refine s_goto rfl (ch rfl) ?_
        exact ih4 (by omega) _ (by show _ = ms_sm p _ + st_bt g p * v (2 ^ p); rw [hx, q14]; omega)
  exact lp4 0 (by omega) _ rfl
def eu_ok : Nat → Nat → Nat → Prop
  | 0, _, y => y = 0
  | k + 1, x, y => y = 0 ∨ eu_ok k y (x % y)
def eu_F : Nat → Nat
  | 0 => 1
  | 1 => 1
  | k + 2 => eu_F (k + 1) + eu_F k
theorem eu_0 : ∀ k x, eu_ok k x 0
  | 0, _ => rfl
  | _ + 1, _ => Or.inl rfl
theorem eu_a : ∀ k x y, y < x → x < eu_F (k + 2) → eu_ok k x y := by
  intro k
  induction k using Nat.strongRecOn with
  | ind k ih =>
    intro x y hxy hx
    match k with
    | 0 =>
      have : eu_F (0 + 2) = 2 := rfl
      show y = 0
      omega
    | 1 =>
      by_cases hy : y = 0
      · exact Or.inl hy
      · have : eu_F (1 + 2) = 3 := rfl
        right
        show x % y = 0
        have h1 : y = 1 := by omega
        rw [h1]; exact Nat.mod_one x
    | k + 2 =>
      by_cases hy : y = 0
      · exact Or.inl hy
      · right
        have h1 : x % y < y := Nat.mod_lt _ (by omega)
        have h2 : eu_F (k + 2 + 2) = eu_F (k + 3) + eu_F (k + 2) := rfl
        by_cases h3 : y < eu_F (k + 3)
        · exact ih (k + 1) (by omega) y (x % y) h1 h3
        · by_cases h4 : x % y = 0
          · rw [h4]; exact eu_0 _ _
          · right
            have h5 : x % y ≤ x - y := by
              rw [Nat.mod_eq_sub_mod (by omega)]
              exact Nat.mod_le _ _
            exact ih k (by omega) _ _ (Nat.mod_lt _ (by omega)) (by omega)
def eu_f2 : Nat → Nat × Nat
  | 0 => (1, 1)
  | k + 1 => ((eu_f2 k).2, (eu_f2 k).2 + (eu_f2 k).1)
theorem eu_f2_eq : ∀ k, eu_f2 k = (eu_F k, eu_F (k + 1))
  | 0 => rfl
  | k + 1 => by
    show ((eu_f2 k).2, (eu_f2 k).2 + (eu_f2 k).1) = _
    rw [eu_f2_eq k]; rfl
theorem eu_big : eu_F 101 = 927372692193078999176 := by
  have h : eu_f2 101 = (927372692193078999176, 1500520536206896083277) := by decide +kernel
  rw [eu_f2_eq] at h
  exact congrArg Prod.fst h
theorem eu_100 {x y : Nat} (hx : x ≤ 9223372036854775807) (hy : y ≤ 9223372036854775807) : eu_ok 100 x y := by
  by_cases h0 : y = 0
  · exact Or.inl h0
  · right
    exact eu_a 99 y (x % y) (Nat.mod_lt _ (by omega)) (by show y < eu_F 101; rw [eu_big]; omega)
theorem td_nn {x y : Nat} (hx : x ≤ 9223372036854775807) : b6 ((x : Int).tdiv (y : Int)) := by
  have h1 : (x : Int).tdiv (y : Int) = ((x / y : Nat) : Int) := rfl
  have h2 : x / y ≤ x := Nat.div_le_self x y
  rw [h1]
  generalize x / y = q at h2
  exact ⟨by omega, by omega⟩
/-- what may be turned round without loss -/
abbrev b5 (x : Int) : Prop := -9223372036854775807 ≤ x ∧ x ≤ 9223372036854775807
theorem u_gcd {d N S : Nat} {h : Nat → Option rr_E} {a b : Int} (ha : b5 a) (hb : b5 b) : rr_Calls (d + 1) j_Fractions_commonDivisor [.long (jj a), .long (jj b)] (N, S, h) (fun r R => r = some (.long (jj (Int.gcd a b : Int))) ∧ R = (N, S, h)) := by
  refine rr_meth (C := K_Fractions_commonDivisor) (hd := h_Fractions_commonDivisor) (mx := 11) rfl rfl (fun K hK => ?_)
  refine hK _ _ _ _ ?_
  refine s_lload_n rfl (cn rfl) rfl ?_
  refine s_lconst rfl (cn rfl) 0 (by decide) ?_
  refine s_lcmp rfl (cn rfl) ?_
  refine s_ifl_ge rfl (cn rfl) (cn rfl) ⟨by omega, by omega⟩ ⟨by omega, by omega⟩ (fun q3 => ?_) (fun q3 => ?_)
  · refine s_lload_n rfl (cn rfl) rfl ?_
    refine s_lstore rfl (cn rfl) ?_
    refine s_lload_n rfl (cn rfl) rfl ?_
    refine s_lconst rfl (cn rfl) 0 (by decide) ?_
    refine s_lcmp rfl (cn rfl) ?_
    refine s_ifl_ge rfl (cn rfl) (cn rfl) ⟨by omega, by omega⟩ ⟨by omega, by omega⟩ (fun q12 => ?_) (fun q12 => ?_)
    · refine s_lload_n rfl (cn rfl) rfl ?_
      refine s_lstore rfl (cn rfl) ?_
      refine s_iconst rfl (cn rfl) ?_
      refine s_istore rfl (ch rfl) ?_
      have lp20 : ∀ s : Nat, s ≤ 100 → ∀ (x y : Nat) (hx : x ≤ 9223372036854775807) (hy : y ≤ 9223372036854775807) (hg : Nat.gcd x y = Int.gcd a b) (he : eu_ok (100 - s) x y) (l9 : Option Value), K 20 [some (.long (jj a)), none, some (.long (jj b)), none, some (.long (jj (x : Int))), none, some (.long (jj (y : Int))), none, some (.int (ii (s : Int))), l9, none] [] (N, S, h) := by
        refine dn (fun s hs ih20 => ?_)
        intro x y hx hy hg he l9
        refine hK _ _ _ _ ?_
        refine s_iload rfl (cn rfl) rfl ?_
        refine s_bipush rfl (cn rfl) (by decide) ?_
        refine s_icmp_ge rfl (cn rfl) (cn rfl) ⟨by omega, by omega⟩ ⟨by omega, by omega⟩ (fun q22 => ?_) (fun q22 => ?_)
        · refine s_lload rfl (cn rfl) rfl ?_
          refine s_lreturn rfl ?_
          refine ⟨rl ?_, rfl⟩
          have hy0 : y = 0 := by
            first
              | omega
              | (rw [show 100 - s = 0 by omega] at he; exact he)
          rw [hy0, Nat.gcd_zero_right] at hg
          rw [hg]
        · refine s_lload rfl (cn rfl) rfl ?_
          refine s_lconst rfl (cn rfl) 0 (by decide) ?_
          refine s_lcmp rfl (cn rfl) ?_
          refine s_ifl_eq rfl (cn rfl) (cn rfl) ⟨by omega, by omega⟩ ⟨by omega, by omega⟩ (fun q26 => ?_) (fun q26 => ?_)
          · refine s_lload rfl (cn rfl) rfl ?_
            refine s_lreturn rfl ?_
            refine ⟨rl ?_, rfl⟩
            have hy0 : y = 0 := by
              first
                | omega
                | (rw [show 100 - s = 0 by omega] at he; exact he)
            rw [hy0, Nat.gcd_zero_right] at hg
            rw [hg]
          · refine s_lload rfl (cn rfl) rfl ?_
            refine s_lload rfl (cn rfl) rfl ?_
            refine s_lrem rfl (cn rfl) ⟨by omega, by omega⟩ ⟨by omega, by omega⟩ (td_nn hx) (by omega) ?_
            refine s_lstore rfl (cn rfl) ?_
            refine s_lload rfl (cn rfl) rfl ?_
            refine s_lstore rfl (cn rfl) ?_
            refine s_lload rfl (cn rfl) rfl ?_
            refine s_lstore rfl (cn rfl) ?_
            refine s_iinc rfl (cn rfl) rfl ?_
            refine s_goto rfl (ch rfl) ?_
            exact ih20 (by omega) y (x % y) hy (by have := Nat.mod_lt x (show y > 0 by omega); omega) (by rw [← hg, Nat.gcd_comm y, ← Nat.gcd_rec, Nat.gcd_comm]) (by rw [show 100 - s = 100 - (s + 1) + 1 by omega] at he; exact he.resolve_left (by omega)) _
      have ea : (a.natAbs : Int) = a ∨ (a.natAbs : Int) = -a := by omega
      have e1 := lp20 0 (by omega) a.natAbs b.natAbs (by omega) (by omega) rfl (eu_100 (by omega) (by omega)) none
      first
        | (rw [show (a.natAbs : Int) = a by omega, show (b.natAbs : Int) = b by omega] at e1; exact e1)
        | (rw [show (a.natAbs : Int) = a by omega, show (b.natAbs : Int) = -b by omega] at e1; exact e1)
        | (rw [show (a.natAbs : Int) = -a by omega, show (b.natAbs : Int) = b by omega] at e1; exact e1)
        | (rw [show (a.natAbs : Int) = -a by omega, show (b.natAbs : Int) = -b by omega] at e1; exact e1)
    · refine s_lload_n rfl (cn rfl) rfl ?_
      refine s_lneg rfl (cn rfl) ?_
      refine s_goto rfl (cn rfl) ?_
      refine s_lstore rfl (cn rfl) ?_
      refine s_iconst rfl (cn rfl) ?_
      refine s_istore rfl (ch rfl) ?_
      have lp20 : ∀ s : Nat, s ≤ 100 → ∀ (x y : Nat) (hx : x ≤ 9223372036854775807) (hy : y ≤ 9223372036854775807) (hg : Nat.gcd x y = Int.gcd a b) (he : eu_ok (100 - s) x y) (l9 : Option Value), K 20 [some (.long (jj a)), none, some (.long (jj b)), none, some (.long (jj (x : Int))), none, some (.long (jj (y : Int))), none, some (.int (ii (s : Int))), l9, none] [] (N, S, h) := by
        refine dn (fun s hs ih20 => ?_)
        intro x y hx hy hg he l9
        refine hK _ _ _ _ ?_
        refine s_iload rfl (cn rfl) rfl ?_
        refine s_bipush rfl (cn rfl) (by decide) ?_
        refine s_icmp_ge rfl (cn rfl) (cn rfl) ⟨by omega, by omega⟩ ⟨by omega, by omega⟩ (fun q22 => ?_) (fun q22 => ?_)
        · refine s_lload rfl (cn rfl) rfl ?_
          refine s_lreturn rfl ?_
          refine ⟨rl ?_, rfl⟩
          have hy0 : y = 0 := by
            first
              | omega
              | (rw [show 100 - s = 0 by omega] at he; exact he)
          rw [hy0, Nat.gcd_zero_right] at hg
          rw [hg]
        · refine s_lload rfl (cn rfl) rfl ?_
          refine s_lconst rfl (cn rfl) 0 (by decide) ?_
          refine s_lcmp rfl (cn rfl) ?_
          refine s_ifl_eq rfl (cn rfl) (cn rfl) ⟨by omega, by omega⟩ ⟨by omega, by omega⟩ (fun q26 => ?_) (fun q26 => ?_)
          · refine s_lload rfl (cn rfl) rfl ?_
            refine s_lreturn rfl ?_
            refine ⟨rl ?_, rfl⟩
            have hy0 : y = 0 := by
              first
                | omega
                | (rw [show 100 - s = 0 by omega] at he; exact he)
            rw [hy0, Nat.gcd_zero_right] at hg
            rw [hg]
          · refine s_lload rfl (cn rfl) rfl ?_
            refine s_lload rfl (cn rfl) rfl ?_
            refine s_lrem rfl (cn rfl) ⟨by omega, by omega⟩ ⟨by omega, by omega⟩ (td_nn hx) (by omega) ?_
            refine s_lstore rfl (cn rfl) ?_
            refine s_lload rfl (cn rfl) rfl ?_
            refine s_lstore rfl (cn rfl) ?_
            refine s_lload rfl (cn rfl) rfl ?_
            refine s_lstore rfl (cn rfl) ?_
            refine s_iinc rfl (cn rfl) rfl ?_
            refine s_goto rfl (ch rfl) ?_
            exact ih20 (by omega) y (x % y) hy (by have := Nat.mod_lt x (show y > 0 by omega); omega) (by rw [← hg, Nat.gcd_comm y, ← Nat.gcd_rec, Nat.gcd_comm]) (by rw [show 100 - s = 100 - (s + 1) + 1 by omega] at he; exact he.resolve_left (by omega)) _
      have ea : (a.natAbs : Int) = a ∨ (a.natAbs : Int) = -a := by omega
      have e1 := lp20 0 (by omega) a.natAbs b.natAbs (by omega) (by omega) rfl (eu_100 (by omega) (by omega)) none
      first
        | (rw [show (a.natAbs : Int) = a by omega, show (b.natAbs : Int) = b by omega] at e1; exact e1)
        | (rw [show (a.natAbs : Int) = a by omega, show (b.natAbs : Int) = -b by omega] at e1; exact e1)
        | (rw [show (a.natAbs : Int) = -a by omega, show (b.natAbs : Int) = b by omega] at e1; exact e1)
        | (rw [show (a.natAbs : Int) = -a by omega, show (b.natAbs : Int) = -b by omega] at e1; exact e1)
  · refine s_lload_n rfl (cn rfl) rfl ?_
    refine s_lneg rfl (cn rfl) ?_
    refine s_goto rfl (cn rfl) ?_
    refine s_lstore rfl (cn rfl) ?_
    refine s_lload_n rfl (cn rfl) rfl ?_
    refine s_lconst rfl (cn rfl) 0 (by decide) ?_
    refine s_lcmp rfl (cn rfl) ?_
    refine s_ifl_ge rfl (cn rfl) (cn rfl) ⟨by omega, by omega⟩ ⟨by omega, by omega⟩ (fun q12 => ?_) (fun q12 => ?_)
    · refine s_lload_n rfl (cn rfl) rfl ?_
      refine s_lstore rfl (cn rfl) ?_
      refine s_iconst rfl (cn rfl) ?_
      refine s_istore rfl (ch rfl) ?_
      have lp20 : ∀ s : Nat, s ≤ 100 → ∀ (x y : Nat) (hx : x ≤ 9223372036854775807) (hy : y ≤ 9223372036854775807) (hg : Nat.gcd x y = Int.gcd a b) (he : eu_ok (100 - s) x y) (l9 : Option Value), K 20 [some (.long (jj a)), none, some (.long (jj b)), none, some (.long (jj (x : Int))), none, some (.long (jj (y : Int))), none, some (.int (ii (s : Int))), l9, none] [] (N, S, h) := by
        refine dn (fun s hs ih20 => ?_)
        intro x y hx hy hg he l9
        refine hK _ _ _ _ ?_
        refine s_iload rfl (cn rfl) rfl ?_
        refine s_bipush rfl (cn rfl) (by decide) ?_
        refine s_icmp_ge rfl (cn rfl) (cn rfl) ⟨by omega, by omega⟩ ⟨by omega, by omega⟩ (fun q22 => ?_) (fun q22 => ?_)
        · refine s_lload rfl (cn rfl) rfl ?_
          refine s_lreturn rfl ?_
          refine ⟨rl ?_, rfl⟩
          have hy0 : y = 0 := by
            first
              | omega
              | (rw [show 100 - s = 0 by omega] at he; exact he)
          rw [hy0, Nat.gcd_zero_right] at hg
          rw [hg]
        · refine s_lload rfl (cn rfl) rfl ?_
          refine s_lconst rfl (cn rfl) 0 (by decide) ?_
          refine s_lcmp rfl (cn rfl) ?_
          refine s_ifl_eq rfl (cn rfl) (cn rfl) ⟨by omega, by omega⟩ ⟨by omega, by omega⟩ (fun q26 => ?_) (fun q26 => ?_)
          · refine s_lload rfl (cn rfl) rfl ?_
            refine s_lreturn rfl ?_
            refine ⟨rl ?_, rfl⟩
            have hy0 : y = 0 := by
              first
                | omega
                | (rw [show 100 - s = 0 by omega] at he; exact he)
            rw [hy0, Nat.gcd_zero_right] at hg
            rw [hg]
          · refine s_lload rfl (cn rfl) rfl ?_
            refine s_lload rfl (cn rfl) rfl ?_
            refine s_lrem rfl (cn rfl) ⟨by omega, by omega⟩ ⟨by omega, by omega⟩ (td_nn hx) (by omega) ?_
            refine s_lstore rfl (cn rfl) ?_
            refine s_lload rfl (cn rfl) rfl ?_
            refine s_lstore rfl (cn rfl) ?_
            refine s_lload rfl (cn rfl) rfl ?_
            refine s_lstore rfl (cn rfl) ?_
            refine s_iinc rfl (cn rfl) rfl ?_
            refine s_goto rfl (ch rfl) ?_
            exact ih20 (by omega) y (x % y) hy (by have := Nat.mod_lt x (show y > 0 by omega); omega) (by rw [← hg, Nat.gcd_comm y, ← Nat.gcd_rec, Nat.gcd_comm]) (by rw [show 100 - s = 100 - (s + 1) + 1 by omega] at he; exact he.resolve_left (by omega)) _
      have ea : (a.natAbs : Int) = a ∨ (a.natAbs : Int) = -a := by omega
      have e1 := lp20 0 (by omega) a.natAbs b.natAbs (by omega) (by omega) rfl (eu_100 (by omega) (by omega)) none
      first
        | (rw [show (a.natAbs : Int) = a by omega, show (b.natAbs : Int) = b by omega] at e1; exact e1)
        | (rw [show (a.natAbs : Int) = a by omega, show (b.natAbs : Int) = -b by omega] at e1; exact e1)
        | (rw [show (a.natAbs : Int) = -a by omega, show (b.natAbs : Int) = b by omega] at e1; exact e1)
        | (rw [show (a.natAbs : Int) = -a by omega, show (b.natAbs : Int) = -b by omega] at e1; exact e1)
    · refine s_lload_n rfl (cn rfl) rfl ?_
      refine s_lneg rfl (cn rfl) ?_
      refine s_goto rfl (cn rfl) ?_
      refine s_lstore rfl (cn rfl) ?_
      refine s_iconst rfl (cn rfl) ?_
      refine s_istore rfl (ch rfl) ?_
      have lp20 : ∀ s : Nat, s ≤ 100 → ∀ (x y : Nat) (hx : x ≤ 9223372036854775807) (hy : y ≤ 9223372036854775807) (hg : Nat.gcd x y = Int.gcd a b) (he : eu_ok (100 - s) x y) (l9 : Option Value), K 20 [some (.long (jj a)), none, some (.long (jj b)), none, some (.long (jj (x : Int))), none, some (.long (jj (y : Int))), none, some (.int (ii (s : Int))), l9, none] [] (N, S, h) := by
        refine dn (fun s hs ih20 => ?_)
        intro x y hx hy hg he l9
        refine hK _ _ _ _ ?_
        refine s_iload rfl (cn rfl) rfl ?_
        refine s_bipush rfl (cn rfl) (by decide) ?_
        refine s_icmp_ge rfl (cn rfl) (cn rfl) ⟨by omega, by omega⟩ ⟨by omega, by omega⟩ (fun q22 => ?_) (fun q22 => ?_)
        · refine s_lload rfl (cn rfl) rfl ?_
          refine s_lreturn rfl ?_
          refine ⟨rl ?_, rfl⟩
          have hy0 : y = 0 := by
            first
              | omega
              | (rw [show 100 - s = 0 by omega] at he; exact he)
          rw [hy0, Nat.gcd_zero_right] at hg
          rw [hg]
        · refine s_lload rfl (cn rfl) rfl ?_
          refine s_lconst rfl (cn rfl) 0 (by decide) ?_
          refine s_lcmp rfl (cn rfl) ?_
          refine s_ifl_eq rfl (cn rfl) (cn rfl) ⟨by omega, by omega⟩ ⟨by omega, by omega⟩ (fun q26 => ?_) (fun q26 => ?_)
          · refine s_lload rfl (cn rfl) rfl ?_
            refine s_lreturn rfl ?_
            refine ⟨rl ?_, rfl⟩
            have hy0 : y = 0 := by
              first
                | omega
                | (rw [show 100 - s = 0 by omega] at he; exact he)
            rw [hy0, Nat.gcd_zero_right] at hg
            rw [hg]
          · refine s_lload rfl (cn rfl) rfl ?_
            refine s_lload rfl (cn rfl) rfl ?_
            refine s_lrem rfl (cn rfl) ⟨by omega, by omega⟩ ⟨by omega, by omega⟩ (td_nn hx) (by omega) ?_
            refine s_lstore rfl (cn rfl) ?_
            refine s_lload rfl (cn rfl) rfl ?_
            refine s_lstore rfl (cn rfl) ?_
            refine s_lload rfl (cn rfl) rfl ?_
            refine s_lstore rfl (cn rfl) ?_
            refine s_iinc rfl (cn rfl) rfl ?_
            refine s_goto rfl (ch rfl) ?_
            exact ih20 (by omega) y (x % y) hy (by have := Nat.mod_lt x (show y > 0 by omega); omega) (by rw [← hg, Nat.gcd_comm y, ← Nat.gcd_rec, Nat.gcd_comm]) (by rw [show 100 - s = 100 - (s + 1) + 1 by omega] at he; exact he.resolve_left (by omega)) _
      have ea : (a.natAbs : Int) = a ∨ (a.natAbs : Int) = -a := by omega
      have e1 := lp20 0 (by omega) a.natAbs b.natAbs (by omega) (by omega) rfl (eu_100 (by omega) (by omega)) none
      first
        | (rw [show (a.natAbs : Int) = a by omega, show (b.natAbs : Int) = b by omega] at e1; exact e1)
        | (rw [show (a.natAbs : Int) = a by omega, show (b.natAbs : Int) = -b by omega] at e1; exact e1)
        | (rw [show (a.natAbs : Int) = -a by omega, show (b.natAbs : Int) = b by omega] at e1; exact e1)
        | (rw [show (a.natAbs : Int) = -a by omega, show (b.natAbs : Int) = -b by omega] at e1; exact e1)
