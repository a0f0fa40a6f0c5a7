/-! Plain mathematics: Tucker's lemma over the integers. -/
def ms_sm : Nat → (Nat → Int) → Int
  | 0, _ => 0
  | m + 1, f => ms_sm m f + f m
def ms_dot (d : Nat) (a y : Nat → Int) : Int := ms_sm d (fun i => a i * y i)
theorem ms_cg : ∀ {m : Nat} {f g : Nat → Int}, (∀ j, j < m → f j = g j) → ms_sm m f = ms_sm m g
  | 0, _, _, _ => rfl
  | m + 1, f, g, h => by
    show ms_sm m f + f m = ms_sm m g + g m
    rw [ms_cg (fun j hj => h j (by omega)), h m (by omega)]
theorem ms_add : ∀ (m : Nat) (f g : Nat → Int), ms_sm m (fun j => f j + g j) = ms_sm m f + ms_sm m g
  | 0, _, _ => rfl
  | m + 1, f, g => by
    show ms_sm m (fun j => f j + g j) + (f m + g m) = (ms_sm m f + f m) + (ms_sm m g + g m)
    rw [ms_add m f g]; omega
theorem ms_mul : ∀ (m : Nat) (c : Int) (f : Nat → Int), ms_sm m (fun j => c * f j) = c * ms_sm m f
  | 0, c, _ => by show (0 : Int) = c * 0; rw [Int.mul_zero]
  | m + 1, c, f => by
    show ms_sm m (fun j => c * f j) + c * f m = c * (ms_sm m f + f m)
    rw [ms_mul m c f, Int.mul_add]
theorem ms_mulr (m : Nat) (c : Int) (f : Nat → Int) : ms_sm m (fun j => f j * c) = ms_sm m f * c := by
  rw [Int.mul_comm, ← ms_mul]
  exact ms_cg (fun j _ => Int.mul_comm _ _)
theorem ms_zero : ∀ (m : Nat), ms_sm m (fun _ => 0) = 0
  | 0 => rfl
  | m + 1 => by show ms_sm m (fun _ => 0) + 0 = 0; rw [ms_zero m]; rfl
theorem ms_nonneg : ∀ {m : Nat} {f : Nat → Int}, (∀ j, j < m → 0 ≤ f j) → 0 ≤ ms_sm m f
  | 0, _, _ => Int.le_refl 0
  | m + 1, f, h => by
    have h1 := ms_nonneg (m := m) (f := f) (fun j hj => h j (by omega))
    have h2 := h m (by omega)
    show 0 ≤ ms_sm m f + f m
    omega
theorem ms_le_of : ∀ {m : Nat} {f : Nat → Int}, (∀ j, j < m → 0 ≤ f j) → ∀ k, k < m → f k ≤ ms_sm m f
  | 0, _, _, k, hk => absurd hk (Nat.not_lt_zero k)
  | m + 1, f, h, k, hk => by
    have h1 := ms_nonneg (m := m) (f := f) (fun j hj => h j (by omega))
    have h2 := h m (by omega)
    show f k ≤ ms_sm m f + f m
    by_cases hkm : k = m
    · subst hkm; omega
    · have := ms_le_of (m := m) (f := f) (fun j hj => h j (by omega)) k (by omega)
      omega
theorem ms_dot_add (d : Nat) (a y z : Nat → Int) : ms_dot d a (fun i => y i + z i) = ms_dot d a y + ms_dot d a z := by
  unfold ms_dot
  rw [← ms_add]
  exact ms_cg (fun j _ => Int.mul_add _ _ _)
theorem ms_dot_mul (d : Nat) (a y : Nat → Int) (c : Int) : ms_dot d a (fun i => c * y i) = c * ms_dot d a y := by
  unfold ms_dot
  rw [← ms_mul]
  exact ms_cg (fun j _ => by rw [← Int.mul_assoc, Int.mul_comm (a j) c, Int.mul_assoc])
theorem ms_dot_comm (d : Nat) (a y : Nat → Int) : ms_dot d a y = ms_dot d y a := ms_cg (fun j _ => Int.mul_comm _ _)
theorem ms_dot_addl (d : Nat) (a b y : Nat → Int) : ms_dot d (fun i => a i + b i) y = ms_dot d a y + ms_dot d b y := by
  rw [ms_dot_comm, ms_dot_add, ms_dot_comm d y a, ms_dot_comm d y b]
theorem ms_dot_mull (d : Nat) (a y : Nat → Int) (c : Int) : ms_dot d (fun i => c * a i) y = c * ms_dot d a y := by
  rw [ms_dot_comm, ms_dot_mul, ms_dot_comm]
theorem ms_sq (x : Int) : 0 ≤ x * x := by
  rcases Int.le_total 0 x with h | h
  · exact Int.mul_nonneg h h
  · have := Int.mul_nonneg (show 0 ≤ -x by omega) (show 0 ≤ -x by omega)
    rw [Int.neg_mul_neg] at this
    exact this
/-- sums of sums -/
theorem ms_swap : ∀ (m d : Nat) (f : Nat → Nat → Int), ms_sm m (fun j => ms_sm d (fun i => f j i)) = ms_sm d (fun i => ms_sm m (fun j => f j i))
  | 0, d, f => by
    show (0 : Int) = ms_sm d (fun _ => 0)
    rw [ms_zero]
  | m + 1, d, f => by
    show ms_sm m (fun j => ms_sm d (fun i => f j i)) + ms_sm d (fun i => f m i) = ms_sm d (fun i => ms_sm m (fun j => f j i) + f m i)
    rw [ms_swap m d f, ms_add]
/-- Tucker's lemma, for the first vector -/
theorem ms_key (d : Nat) : ∀ (m : Nat) (a : Nat → Nat → Int), ∃ (y l : Nat → Int), (∀ j, j ≤ m → 0 ≤ ms_dot d (a j) y) ∧ (∀ j, j ≤ m → 0 ≤ l j) ∧ (∀ i, i < d → ms_sm (m + 1) (fun j => l j * a j i) = 0) ∧ 0 < ms_dot d (a 0) y + l 0 := by
  intro m
  induction m with
  | zero =>
    intro a
    have hnn : ∀ i, i < d → 0 ≤ a 0 i * a 0 i := fun i _ => ms_sq _
    rcases Int.lt_or_eq_of_le (ms_nonneg hnn) with h | h
    · refine ⟨a 0, fun _ => 0, fun j hj => ?_, fun _ _ => Int.le_refl 0, fun i _ => ?_, ?_⟩
      · have : j = 0 := by omega
        subst this
        exact Int.le_of_lt h
      · show (0 : Int) + 0 * a 0 i = 0
        omega
      · show 0 < ms_dot d (a 0) (a 0) + 0
        have : 0 < ms_dot d (a 0) (a 0) := h
        omega
    · refine ⟨fun _ => 0, fun _ => 1, fun j hj => ?_, fun _ _ => (by decide : (0 : Int) ≤ 1), fun i hi => ?_, ?_⟩
      · rw [show ms_dot d (a j) (fun _ => 0) = 0 by
          unfold ms_dot
          rw [ms_cg (g := fun _ => 0) (fun j _ => Int.mul_zero _), ms_zero]]
        exact Int.le_refl 0
      · have h1 := ms_le_of hnn i hi
        have h2 := hnn i hi
        rw [← h] at h1
        have h3 : a 0 i * a 0 i = 0 := by omega
        have h4 : a 0 i = 0 := by
          rcases Int.mul_eq_zero.mp h3 with h | h <;> exact h
        show (0 : Int) + 1 * a 0 i = 0
        omega
      · rw [show ms_dot d (a 0) (fun _ => 0) = 0 by
          unfold ms_dot
          rw [ms_cg (g := fun _ => 0) (fun j _ => Int.mul_zero _), ms_zero]]
        decide
  | succ m ih =>
    intro a
    obtain ⟨y, l, h1, h2, h3, h4⟩ := ih a
    rcases Int.lt_or_le (ms_dot d (a (m + 1)) y) 0 with hneg | hpos
    · have hp : 0 < -ms_dot d (a (m + 1)) y := by omega
      generalize hpe : -ms_dot d (a (m + 1)) y = p at hp
      obtain ⟨y', l', g1, g2, g3, g4⟩ := ih (fun j i => p * a j i + ms_dot d (a j) y * a (m + 1) i)
      have hb : ∀ j, ms_dot d (fun i => p * a j i + ms_dot d (a j) y * a (m + 1) i) y' = p * ms_dot d (a j) y' + ms_dot d (a j) y * ms_dot d (a (m + 1)) y' := by
        intro j
        rw [ms_dot_addl, ms_dot_mull, ms_dot_mull]
      have hY : ∀ j, ms_dot d (a j) (fun i => p * y' i + ms_dot d (a (m + 1)) y' * y i) = p * ms_dot d (a j) y' + ms_dot d (a (m + 1)) y' * ms_dot d (a j) y := by
        intro j
        rw [ms_dot_add, ms_dot_mul, ms_dot_mul]
      refine ⟨fun i => p * y' i + ms_dot d (a (m + 1)) y' * y i, fun j => if j ≤ m then p * l' j else ms_sm (m + 1) (fun j => l' j * ms_dot d (a j) y), fun j hj => ?_, fun j hj => ?_, fun i hi => ?_, ?_⟩
      · rw [hY]
        by_cases hjm : j = m + 1
        · subst hjm
          have e : ms_dot d (a (m + 1)) y = -p := by omega
          rw [e, Int.mul_neg, Int.mul_comm p]
          omega
        · have := g1 j (by omega)
          rw [hb, Int.mul_comm (ms_dot d (a j) y)] at this
          exact this
      · dsimp only
        by_cases hjm : j ≤ m
        · rw [if_pos hjm]; exact Int.mul_nonneg (by omega) (g2 j hjm)
        · rw [if_neg hjm]; exact ms_nonneg (fun j hj => Int.mul_nonneg (g2 j (by omega)) (h1 j (by omega)))
      · show ms_sm (m + 1) (fun j => (if j ≤ m then p * l' j else ms_sm (m + 1) (fun j => l' j * ms_dot d (a j) y)) * a j i) + (if m + 1 ≤ m then p * l' (m + 1) else ms_sm (m + 1) (fun j => l' j * ms_dot d (a j) y)) * a (m + 1) i = 0
        rw [if_neg (by omega), ← ms_mulr, ← ms_add, ← g3 i hi]
        refine ms_cg (fun j hj => ?_)
        rw [if_pos (by omega), Int.mul_add, Int.mul_comm p (l' j), Int.mul_assoc, Int.mul_assoc]
      · dsimp only
        rw [hY, if_pos (Nat.zero_le m)]
        have := hb 0
        have h5 : 0 < ms_dot d (fun i => p * a 0 i + ms_dot d (a 0) y * a (m + 1) i) y' + l' 0 := g4
        rw [this, Int.mul_comm (ms_dot d (a 0) y)] at h5
        have h6 : l' 0 ≤ p * l' 0 := by
          have := Int.mul_le_mul_of_nonneg_right (show 1 ≤ p by omega) (g2 0 (Nat.zero_le m))
          rw [Int.one_mul] at this
          exact this
        omega
    · refine ⟨y, fun j => if j ≤ m then l j else 0, fun j hj => ?_, fun j hj => ?_, fun i hi => ?_, ?_⟩
      · by_cases hjm : j = m + 1
        · subst hjm; exact hpos
        · exact h1 j (by omega)
      · dsimp only
        by_cases hjm : j ≤ m
        · rw [if_pos hjm]; exact h2 j hjm
        · rw [if_neg hjm]; exact Int.le_refl 0
      · show ms_sm (m + 1) (fun j => (if j ≤ m then l j else 0) * a j i) + (if m + 1 ≤ m then l (m + 1) else 0) * a (m + 1) i = 0
        rw [if_neg (by omega), Int.zero_mul, Int.add_zero, ← h3 i hi]
        exact ms_cg (fun j hj => by rw [if_pos (by omega)])
      · dsimp only
        rw [if_pos (Nat.zero_le m)]
        exact h4
/-- all vectors at once: y and l fill each other up -/
theorem ms_tucker (d m : Nat) (a : Nat → Nat → Int) : ∃ (y l : Nat → Int), (∀ j, j < m → 0 ≤ ms_dot d (a j) y) ∧ (∀ j, j < m → 0 ≤ l j) ∧ (∀ i, i < d → ms_sm m (fun j => l j * a j i) = 0) ∧ ∀ j, j < m → 0 < ms_dot d (a j) y + l j := by
  have one : ∀ k, k < m → ∃ (y l : Nat → Int), (∀ j, j < m → 0 ≤ ms_dot d (a j) y) ∧ (∀ j, j < m → 0 ≤ l j) ∧ (∀ i, i < d → ms_sm m (fun j => l j * a j i) = 0) ∧ 0 < ms_dot d (a k) y + l k := by
    intro k hk
    obtain ⟨m', rfl⟩ : ∃ m', m = m' + 1 := ⟨m - 1, by omega⟩
    -- the family with a k first, then all: a k counted twice does no harm
    obtain ⟨y, l, h1, h2, h3, h4⟩ := ms_key d (m' + 1) (fun j => if j = 0 then a k else a (j - 1))
    refine ⟨y, fun j => l (j + 1) + (if j = k then l 0 else 0), fun j hj => ?_, fun j hj => ?_, fun i hi => ?_, ?_⟩
    · have := h1 (j + 1) (by omega)
      rw [if_neg (by omega), Nat.add_sub_cancel] at this
      exact this
    · dsimp only
      have a1 := h2 (j + 1) (by omega)
      have a2 := h2 0 (by omega)
      by_cases hjk : j = k
      · rw [if_pos hjk]; omega
      · rw [if_neg hjk]; omega
    · have h5 := h3 i hi
      have shift : ∀ (n : Nat) (f : Nat → Int), ms_sm (n + 1) f = f 0 + ms_sm n (fun j => f (j + 1)) := by
        intro n
        induction n with
        | zero => intro f; show 0 + f 0 = f 0 + 0; omega
        | succ n ih =>
          intro f
          show ms_sm (n + 1) f + f (n + 1) = f 0 + (ms_sm n (fun j => f (j + 1)) + f (n + 1))
          rw [ih f]; omega
      have pick : ∀ (n : Nat) (c : Int), k < n → ms_sm n (fun j => (if j = k then c else 0) * a j i) = c * a k i := by
        intro n
        induction n with
        | zero => intro c hk; omega
        | succ n ih =>
          intro c hk
          show ms_sm n (fun j => (if j = k then c else 0) * a j i) + (if n = k then c else 0) * a n i = c * a k i
          by_cases hnk : n = k
          · subst hnk
            rw [if_pos rfl, ms_cg (g := fun _ => 0) (fun j hj => by rw [if_neg (by omega), Int.zero_mul]), ms_zero]
            omega
          · rw [ih c (by omega), if_neg hnk, Int.zero_mul, Int.add_zero]
      rw [shift] at h5
      rw [if_pos rfl] at h5
      refine Eq.trans ?_ h5
      have e1 : ms_sm (m' + 1) (fun j => l (j + 1) * (if j + 1 = 0 then a k else a (j + 1 - 1)) i) = ms_sm (m' + 1) (fun j => l (j + 1) * a j i) := ms_cg (fun j _ => by rw [if_neg (by omega), Nat.add_sub_cancel])
      rw [e1, ← pick (m' + 1) (l 0) hk, ← ms_add]
      exact ms_cg (fun j _ => by rw [Int.add_mul]; omega)
    · dsimp only
      rw [if_pos rfl]
      have h5 : 0 < ms_dot d (a k) y + l 0 := h4
      have := h2 (k + 1) (by omega)
      omega
  have upto : ∀ n, n ≤ m → ∃ (y l : Nat → Int), (∀ j, j < m → 0 ≤ ms_dot d (a j) y) ∧ (∀ j, j < m → 0 ≤ l j) ∧ (∀ i, i < d → ms_sm m (fun j => l j * a j i) = 0) ∧ ∀ j, j < n → 0 < ms_dot d (a j) y + l j := by
    intro n
    induction n with
    | zero =>
      intro _
      refine ⟨fun _ => 0, fun _ => 0, fun j _ => ?_, fun _ _ => Int.le_refl 0, fun i _ => ?_, fun j hj => absurd hj (Nat.not_lt_zero j)⟩
      · rw [show ms_dot d (a j) (fun _ => 0) = 0 by
          unfold ms_dot
          rw [ms_cg (g := fun _ => 0) (fun j _ => Int.mul_zero _), ms_zero]]
        exact Int.le_refl 0
      · rw [ms_cg (g := fun _ => 0) (fun j _ => Int.zero_mul _), ms_zero]
    | succ n ih =>
      intro hn
      obtain ⟨y, l, h1, h2, h3, h4⟩ := ih (by omega)
      obtain ⟨y', l', g1, g2, g3, g4⟩ := one n (by omega)
      refine ⟨fun i => y i + y' i, fun j => l j + l' j, fun j hj => ?_, fun j hj => ?_, fun i hi => ?_, fun j hj => ?_⟩
      · rw [ms_dot_add]
        have a1 := h1 j hj
        have a2 := g1 j hj
        omega
      · have a1 := h2 j hj
        have a2 := g2 j hj
        dsimp only
        omega
      · rw [ms_cg (g := fun j => l j * a j i + l' j * a j i) (fun j _ => Int.add_mul _ _ _), ms_add, h3 i hi, g3 i hi]
        rfl
      · rw [ms_dot_add]
        dsimp only
        have a1 := h1 j (by omega)
        have a2 := g1 j (by omega)
        have a3 := h2 j (by omega)
        have a4 := g2 j (by omega)
        by_cases hjn : j = n
        · subst hjn; omega
        · have := h4 j (by omega)
          omega
  exact upto m (Nat.le_refl m)
