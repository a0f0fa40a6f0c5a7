/-! The tables of least balanced collections: whatever balances has one of them within (by the kernel: all sets of parts). -/
def tb_rows (n : Nat) : List (List Nat) := match n with
  | 2 => [[1, 2, 0, 0, 0]]
  | 3 => [[1, 6, 0, 0, 0], [2, 5, 0, 0, 0], [3, 4, 0, 0, 0], [1, 2, 4, 0, 0], [3, 5, 6, 0, 0]]
  | _ => [[1, 14, 0, 0, 0], [2, 13, 0, 0, 0], [4, 11, 0, 0, 0], [7, 8, 0, 0, 0], [3, 12, 0, 0, 0], [5, 10, 0, 0, 0], [6, 9, 0, 0, 0], [1, 2, 12, 0, 0], [1, 4, 10, 0, 0], [1, 6, 8, 0, 0], [2, 4, 9, 0, 0], [2, 5, 8, 0, 0], [3, 4, 8, 0, 0], [3, 13, 14, 0, 0], [5, 11, 14, 0, 0], [6, 11, 13, 0, 0], [7, 9, 14, 0, 0], [7, 10, 13, 0, 0], [7, 11, 12, 0, 0], [1, 2, 4, 8, 0], [7, 11, 13, 14, 0], [1, 6, 10, 13, 0], [1, 6, 11, 12, 0], [1, 7, 10, 12, 0], [2, 5, 9, 14, 0], [2, 5, 11, 12, 0], [2, 7, 9, 12, 0], [3, 4, 9, 14, 0], [3, 4, 10, 13, 0], [4, 7, 9, 10, 0], [3, 5, 8, 14, 0], [3, 6, 8, 13, 0], [5, 6, 8, 11, 0], [1, 1, 6, 10, 12], [2, 2, 5, 9, 12], [3, 4, 4, 9, 10], [3, 5, 6, 8, 8], [3, 5, 9, 14, 14], [3, 6, 10, 13, 13], [5, 6, 11, 11, 12], [7, 7, 9, 10, 12]]
/-- directions: where no collection is within a set of parts, one of these has more for all of them -/
def tb_ys (n : Nat) : List (List Int) := match n with
  | 2 => [[(-3), 3], [1, (-1)]]
  | 3 => [[(-3), 1, 2], [(-2), (-1), 3], [(-2), 3, (-1)], [1, (-3), 2], [1, 1, (-2)], [2, (-1), (-1)]]
  | _ => [[(-3), (-1), 2, 2], [(-3), 1, 1, 1], [(-3), 2, (-1), 2], [(-3), 2, 2, (-1)], [(-2), (-2), 1, 3], [(-2), (-2), 3, 1], [(-2), 1, (-2), 3], [(-2), 1, 3, (-2)], [(-2), 3, (-2), 1], [(-2), 3, 1, (-2)], [(-1), (-3), 2, 2], [(-1), (-1), (-1), 3], [(-1), (-1), 3, (-1)], [(-1), 2, (-3), 2], [(-1), 2, 2, (-3)], [(-1), 3, (-1), (-1)], [1, (-3), 1, 1], [1, (-2), (-2), 3], [1, (-2), 3, (-2)], [1, 1, (-3), 1], [1, 1, 1, (-3)], [1, 3, (-2), (-2)], [2, (-3), (-1), 2], [2, (-3), 2, (-1)], [2, (-1), (-3), 2], [2, (-1), 2, (-3)], [2, 2, (-3), (-1)], [2, 2, (-1), (-3)], [3, (-2), (-2), 1], [3, (-2), 1, (-2)], [3, (-1), (-1), (-1)], [3, 1, (-2), (-2)]]
def tb_sup (r : List Nat) : Nat := r.foldl (fun s g => if g = 0 then s else s ||| 2 ^ g) 0
def tb_ysh (n g : Nat) (y : List Int) : Int := ms_sm n (fun p => st_bt g p * y.getD p 0)
def tb_pos (n : Nat) (y : List Int) : Nat := (List.range (2 ^ n - 1)).foldl (fun s g => if 0 < tb_ysh n g y then s ||| 2 ^ g else s) 0
def tb_good (S P : List Nat) (t : Nat) : Bool := S.any (fun s => Nat.beq (s &&& t) s) || P.any (fun m => Nat.beq (t &&& m) t)
/-- all sets of parts below 2 ^ (k + 1) -/
def tb_all (S P : List Nat) : Nat → Nat → Bool
  | 0, t => tb_good S P t
  | k + 1, t => tb_all S P k t && tb_all S P k (t ||| 2 ^ (k + 1))
def tb_S (n : Nat) : List Nat := (tb_rows n).map tb_sup
def tb_Pm (n : Nat) : List Nat := (tb_ys n).map (tb_pos n)
theorem tb_S4 : tb_S 4 = [16386, 8196, 2064, 384, 4104, 1056, 576, 4102, 1042, 322, 532, 292, 280, 24584, 18464, 10304, 17024, 9344, 6272, 278, 26752, 9282, 6210, 5250, 16932, 6180, 4740, 16920, 9240, 1680, 16680, 8520, 2400, 5186, 4644, 1560, 360, 16936, 9288, 6240, 5760] := by decide +kernel
theorem tb_P4 : tb_Pm 4 = [30032, 21844, 23876, 21716, 30480, 29040, 24324, 20724, 19788, 17628, 29488, 32512, 28912, 20236, 16636, 19660, 13106, 16130, 12530, 3854, 254, 3278, 15138, 12978, 12042, 8442, 3726, 2286, 11050, 8890, 10922, 2734] := by decide +kernel
set_option maxRecDepth 100000 in
theorem tb_k4 : tb_all [16386, 8196, 2064, 384, 4104, 1056, 576, 4102, 1042, 322, 532, 292, 280, 24584, 18464, 10304, 17024, 9344, 6272, 278, 26752, 9282, 6210, 5250, 16932, 6180, 4740, 16920, 9240, 1680, 16680, 8520, 2400, 5186, 4644, 1560, 360, 16936, 9288, 6240, 5760] [30032, 21844, 23876, 21716, 30480, 29040, 24324, 20724, 19788, 17628, 29488, 32512, 28912, 20236, 16636, 19660, 13106, 16130, 12530, 3854, 254, 3278, 15138, 12978, 12042, 8442, 3726, 2286, 11050, 8890, 10922, 2734] 14 0 = true := by decide +kernel
theorem tb_k3 : tb_all (tb_S 3) (tb_Pm 3) 6 0 = true := by decide +kernel
theorem tb_k2 : tb_all (tb_S 2) (tb_Pm 2) 2 0 = true := by decide +kernel
def tb_msk : Nat → Nat → (Nat → Bool) → Nat
  | 0, t, _ => t
  | k + 1, t, f => tb_msk k (if f (k + 1) = true then t ||| 2 ^ (k + 1) else t) f
theorem tb_all_msk {S P : List Nat} : ∀ (k t : Nat) (f : Nat → Bool), tb_all S P k t = true → tb_good S P (tb_msk k t f) = true
  | 0, _, _, h => h
  | k + 1, t, f, h => by
    simp only [tb_all, Bool.and_eq_true] at h
    unfold tb_msk
    by_cases hf : f (k + 1) = true
    · rw [if_pos hf]; exact tb_all_msk k _ f h.2
    · rw [if_neg hf]; exact tb_all_msk k _ f h.1
theorem tb_msk_bit : ∀ (k t : Nat) (f : Nat → Bool) (j : Nat), (tb_msk k t f).testBit j = (t.testBit j || (decide (1 ≤ j ∧ j ≤ k) && f j))
  | 0, t, f, j => by
    have : decide (1 ≤ j ∧ j ≤ 0) = false := by simp; omega
    rw [this]
    simp [tb_msk]
  | k + 1, t, f, j => by
    unfold tb_msk
    rw [tb_msk_bit k _ f j]
    by_cases hj : j = k + 1
    · subst hj
      cases hf : f (k + 1) with
      | true => simp [Nat.testBit_or, Nat.testBit_two_pow_self]
      | false => simp
    · have e : decide (1 ≤ j ∧ j ≤ k + 1) = decide (1 ≤ j ∧ j ≤ k) := by
        apply decide_eq_decide.mpr
        omega
      rw [e]
      cases hf : f (k + 1) with
      | true =>
        simp only [if_pos, Nat.testBit_or]
        rw [Nat.testBit_two_pow_of_ne (fun q => hj q.symm)]
        simp
      | false => simp
theorem tb_foldsup : ∀ (r : List Nat) (s0 j : Nat), (r.foldl (fun s g => if g = 0 then s else s ||| 2 ^ g) s0).testBit j = (s0.testBit j || (decide (j ≠ 0) && decide (j ∈ r)))
  | [], s0, j => by simp
  | g :: r, s0, j => by
    rw [List.foldl_cons, tb_foldsup r]
    by_cases hg : g = 0
    · rw [if_pos hg, hg]
      by_cases hj : j = 0
      · subst hj; simp
      · simp [hj]
    · rw [if_neg hg, Nat.testBit_or]
      by_cases hj : j = g
      · subst hj
        simp [Nat.testBit_two_pow_self, hg]
      · rw [Nat.testBit_two_pow_of_ne (fun q => hj q.symm)]
        simp [hj]
theorem tb_foldpos {n : Nat} {y : List Int} : ∀ (r : List Nat) (s0 j : Nat), (r.foldl (fun s g => if 0 < tb_ysh n g y then s ||| 2 ^ g else s) s0).testBit j = (s0.testBit j || (decide (j ∈ r) && decide (0 < tb_ysh n j y)))
  | [], s0, j => by simp
  | g :: r, s0, j => by
    rw [List.foldl_cons, tb_foldpos r]
    by_cases hj : j = g
    · subst hj
      by_cases hp : 0 < tb_ysh n j y
      · rw [if_pos hp, Nat.testBit_or, Nat.testBit_two_pow_self]; simp [hp]
      · rw [if_neg hp]; simp [hp]
    · by_cases hp : 0 < tb_ysh n g y
      · rw [if_pos hp, Nat.testBit_or, Nat.testBit_two_pow_of_ne (fun q => hj q.symm)]; simp [hj]
      · rw [if_neg hp]; simp [hj]
theorem tb_ysum : ∀ n, n = 2 ∨ n = 3 ∨ n = 4 → ∀ y ∈ tb_ys n, tb_ysh n (2 ^ n - 1) y = 0 := by
  intro n hn
  rcases hn with rfl | rfl | rfl <;> decide +kernel
/-- what balances has a collection of the table within -/
theorem tb_C {n : Nat} (hn : n = 2 ∨ n = 3 ∨ n = 4) {l : Nat → Int} (hl : ∀ g, g < 2 ^ n - 1 → 0 ≤ l g) (hl0 : l 0 = 0) {c : Int} (hb : ∀ i, i < n → ms_sm (2 ^ n - 1) (fun g => l g * st_bt g i) = c) (hne : ∃ g, g < 2 ^ n - 1 ∧ 0 < l g) :
    ∃ r ∈ tb_rows n, ∀ g ∈ r, g ≠ 0 → 0 < l g := by
  have hk : tb_good (tb_S n) (tb_Pm n) (tb_msk (2 ^ n - 2) 0 (fun g => decide (0 < l g))) = true := by
    rcases hn with rfl | rfl | rfl
    · exact tb_all_msk 2 0 _ tb_k2
    · exact tb_all_msk 6 0 _ tb_k3
    · rw [tb_S4, tb_P4]; exact tb_all_msk 14 0 _ tb_k4
  have hbit : ∀ j, (tb_msk (2 ^ n - 2) 0 (fun g => decide (0 < l g))).testBit j = true ↔ 1 ≤ j ∧ j ≤ 2 ^ n - 2 ∧ 0 < l j := by
    intro j
    rw [tb_msk_bit]
    simp
    constructor
    · rintro ⟨⟨a, b⟩, c⟩; exact ⟨a, b, c⟩
    · rintro ⟨a, b, c⟩; exact ⟨⟨a, b⟩, c⟩
  generalize tb_msk (2 ^ n - 2) 0 (fun g => decide (0 < l g)) = t at hk hbit
  unfold tb_good at hk
  rw [Bool.or_eq_true] at hk
  rcases hk with hk | hk
  · obtain ⟨s, hs, he⟩ := List.any_eq_true.mp hk
    have he := Nat.eq_of_beq_eq_true he
    obtain ⟨r, hr, rfl⟩ := List.mem_map.mp hs
    refine ⟨r, hr, fun g hg hg0 => ?_⟩
    have h1 : (tb_sup r).testBit g = true := by
      unfold tb_sup
      rw [tb_foldsup]
      simp [hg, hg0]
    rw [← he, Nat.testBit_and, Bool.and_eq_true] at h1
    exact ((hbit g).mp h1.2).2.2
  · exfalso
    obtain ⟨m, hm, he⟩ := List.any_eq_true.mp hk
    have he := Nat.eq_of_beq_eq_true he
    obtain ⟨y, hy, rfl⟩ := List.mem_map.mp hm
    have hp : ∀ g, g < 2 ^ n - 1 → 0 < l g → 0 < tb_ysh n g y := by
      intro g hg hlg
      have hg1 : 1 ≤ g := by
        rcases Nat.eq_zero_or_pos g with h | h
        · subst h; omega
        · exact h
      have h1 : t.testBit g = true := (hbit g).mpr ⟨hg1, by omega, hlg⟩
      rw [← he, Nat.testBit_and, Bool.and_eq_true] at h1
      have h2 := h1.2
      unfold tb_pos at h2
      rw [tb_foldpos] at h2
      simp at h2
      exact h2.2
    have hsum : ms_sm (2 ^ n - 1) (fun g => l g * tb_ysh n g y) = 0 := by
      have e1 : ms_sm (2 ^ n - 1) (fun g => l g * tb_ysh n g y) = ms_sm n (fun i => ms_sm (2 ^ n - 1) (fun g => l g * st_bt g i) * y.getD i 0) := by
        rw [ms_cg (g := fun g => ms_sm n (fun i => l g * st_bt g i * y.getD i 0)) (fun g _ => by
          unfold tb_ysh
          rw [← ms_mul]
          exact ms_cg (fun i _ => by rw [Int.mul_assoc])), ms_swap]
        exact ms_cg (fun i _ => by rw [ms_mulr])
      rw [e1, ms_cg (g := fun i => c * y.getD i 0) (fun i hi => by rw [hb i hi]), ms_mul]
      have e2 := tb_ysum n hn y hy
      have e3 : tb_ysh n (2 ^ n - 1) y = ms_sm n (fun i => y.getD i 0) := by
        unfold tb_ysh
        refine ms_cg (fun i hi => ?_)
        have : st_bt (2 ^ n - 1) i = 1 := by
          unfold st_bt
          rw [Nat.testBit_two_pow_sub_one]
          simp [hi]
        rw [this, Int.one_mul]
      rw [← e3, e2, Int.mul_zero]
    obtain ⟨g, hg, hlg⟩ := hne
    have := pl_pos (M := 2 ^ n - 1) (f := fun g => l g * tb_ysh n g y) (fun g hg => by
      rcases Int.lt_or_eq_of_le (hl g hg) with h | h
      · exact Int.mul_nonneg (Int.le_of_lt h) (Int.le_of_lt (hp g hg h))
      · rw [← h, Int.zero_mul]; decide) hg (Int.mul_pos hlg (hp g hg hlg))
    omega
