/-! From a list of weights that shows all (each balance has one of them within) to a point that is tight just at T. -/
def du_B (d M : Nat) (op : Nat → Bool) (b : Nat → Nat → Int) (l : Nat → Int) : Prop := (∀ j, j < M → 0 ≤ l j) ∧ (∀ j, op j = false → l j = 0) ∧ ∀ i, i < d → ms_sm M (fun j => l j * b j i) = 0
theorem du_count : ∀ (M : Nat) (f g : Nat → Bool), (∀ j, j < M → f j = true → g j = true) → ∀ k, k < M → f k = false → g k = true → ((List.range M).filter f).length < ((List.range M).filter g).length
  | 0, _, _, _, k, hk, _, _ => absurd hk (Nat.not_lt_zero k)
  | M + 1, f, g, h, k, hk, h1, h2 => by
    have le : ∀ (M : Nat), (∀ j, j < M → f j = true → g j = true) → ((List.range M).filter f).length ≤ ((List.range M).filter g).length := by
      intro M
      induction M with
      | zero => intro _; simp
      | succ M ih =>
        intro h
        have := ih (fun j hj => h j (by omega))
        rw [List.range_succ, List.filter_append, List.filter_append, List.length_append, List.length_append]
        cases hf : f M with
        | false => simp [hf]; omega
        | true => simp [hf, h M (by omega) hf]; omega
    rw [List.range_succ, List.filter_append, List.filter_append, List.length_append, List.length_append]
    by_cases hkM : k = M
    · subst hkM
      have := le k (fun j hj => h j (by omega))
      simp [h1, h2]
      omega
    · have := du_count M f g (fun j hj => h j (by omega)) k (by omega) h1 h2
      cases hf : f M with
      | false => simp [hf]; omega
      | true => simp [hf, h M (by omega) hf]; omega
/-- the least of finitely many fractions l/e over places with e > 0 -/
theorem du_min : ∀ (M : Nat) (l e : Nat → Int), (∀ j, j < M → 0 ≤ l j) → (∀ j, j < M → 0 ≤ e j) → (∃ j, j < M ∧ 0 < e j) → ∃ k, k < M ∧ 0 < e k ∧ ∀ j, j < M → 0 < e j → l k * e j ≤ l j * e k
  | 0, _, _, _, _, ⟨j, hj, _⟩ => absurd hj (Nat.not_lt_zero j)
  | M + 1, l, e, hl, he, hex => by
    by_cases hM : ∃ j, j < M ∧ 0 < e j
    · obtain ⟨k, h1, h2, h3⟩ := du_min M l e (fun j hj => hl j (by omega)) (fun j hj => he j (by omega)) hM
      by_cases hc : 0 < e M ∧ l M * e k < l k * e M
      · refine ⟨M, by omega, hc.1, fun j hj hej => ?_⟩
        by_cases hjM : j = M
        · subst hjM; exact Int.le_refl _
        · have a1 := h3 j (by omega) hej
          have a2 : l M * e k * e j ≤ l k * e M * e j := Int.mul_le_mul_of_nonneg_right (Int.le_of_lt hc.2) (Int.le_of_lt hej)
          have a3 : l k * e j * e M ≤ l j * e k * e M := Int.mul_le_mul_of_nonneg_right a1 (Int.le_of_lt hc.1)
          have a4 : (l M * e j) * e k ≤ (l j * e M) * e k := by grind
          exact Int.le_of_mul_le_mul_right a4 h2
      · refine ⟨k, by omega, h2, fun j hj hej => ?_⟩
        by_cases hjM : j = M
        · subst hjM
          rcases Int.lt_or_le (l j * e k) (l k * e j) with h | h
          · exact absurd ⟨hej, h⟩ hc
          · exact h
        · exact h3 j (by omega) hej
    · obtain ⟨j, hj, hej⟩ := hex
      have hjM : j = M := by
        rcases Nat.lt_or_ge j M with h | h
        · exact absurd ⟨j, h, hej⟩ hM
        · omega
      subst hjM
      refine ⟨j, by omega, hej, fun i hi hei => ?_⟩
      have : i = j := by
        rcases Nat.lt_or_ge i j with h | h
        · exact absurd ⟨i, h, hei⟩ hM
        · omega
      subst this
      exact Int.le_refl _
section DU
variable {d M : Nat} {op : Nat → Bool} {b : Nat → Nat → Int} {c : Nat → Int} {T : Nat → Prop}
/-- every balance proves no more than the best of the list, and as much only within T -/
theorem du_all (hC : ∀ l, du_B d M op b l → (∃ j, j < M ∧ 0 < l j) → ∃ e, du_B d M op b e ∧ (∃ j, j < M ∧ 0 < e j) ∧ (∀ j, j < M → 0 < e j → 0 < l j) ∧ 0 ≤ ms_sm M (fun j => e j * c j) ∧ (ms_sm M (fun j => e j * c j) = 0 → ∀ j, j < M → 0 < e j → T j)) :
    ∀ (k : Nat) (l : Nat → Int), ((List.range M).filter (fun j => decide (0 < l j))).length ≤ k → du_B d M op b l → 0 ≤ ms_sm M (fun j => l j * c j) ∧ (ms_sm M (fun j => l j * c j) = 0 → ∀ j, j < M → 0 < l j → T j) := by
  intro k
  induction k with
  | zero =>
    intro l hk hB
    have hz : ∀ j, j < M → l j = 0 := by
      intro j hj
      rcases Int.lt_or_eq_of_le (hB.1 j hj) with h | h
      · exfalso
        have : j ∈ (List.range M).filter (fun j => decide (0 < l j)) := List.mem_filter.mpr ⟨List.mem_range.mpr hj, by simpa using h⟩
        have hl := List.length_pos_of_mem this
        omega
      · exact h.symm
    refine ⟨?_, fun _ j hj h => ?_⟩
    · rw [ms_cg (g := fun _ => 0) (fun j hj => by rw [hz j hj, Int.zero_mul]), ms_zero]
      exact Int.le_refl 0
    · have := hz j hj
      omega
  | succ k ih =>
    intro l hk hB
    by_cases hne : ∃ j, j < M ∧ 0 < l j
    · obtain ⟨e, heB, hene, hsub, hf, hfT⟩ := hC l hB hne
      obtain ⟨k0, hk0, hek, hmin⟩ := du_min M l e hB.1 heB.1 hene
      have hlk : 0 < l k0 := hsub k0 hk0 hek
      have hB' : du_B d M op b (fun j => e k0 * l j + (-l k0) * e j) := by
        refine ⟨fun j hj => ?_, fun j hj => ?_, fun i hi => ?_⟩
        · dsimp only
          rcases Int.lt_or_eq_of_le (heB.1 j hj) with h | h
          · have := hmin j hj h
            grind
          · rw [← h, Int.mul_zero, Int.add_zero]
            exact Int.mul_nonneg (Int.le_of_lt hek) (hB.1 j hj)
        · dsimp only
          rw [hB.2.1 j hj, heB.2.1 j hj, Int.mul_zero, Int.mul_zero]
          rfl
        · rw [ms_cg (g := fun j => e k0 * (l j * b j i) + (-l k0) * (e j * b j i)) (fun j _ => by grind), ms_add, ms_mul, ms_mul, hB.2.2 i hi, heB.2.2 i hi, Int.mul_zero, Int.mul_zero]
          rfl
      have hlt : ((List.range M).filter (fun j => decide (0 < e k0 * l j + (-l k0) * e j))).length < ((List.range M).filter (fun j => decide (0 < l j))).length := by
        refine du_count M _ _ (fun j hj h => ?_) k0 hk0 ?_ ?_
        · simp only [decide_eq_true_eq] at h ⊢
          rcases Int.lt_or_eq_of_le (hB.1 j hj) with h2 | h2
          · exact h2
          · exfalso
            rw [← h2, Int.mul_zero, Int.zero_add] at h
            have := Int.mul_nonneg (Int.le_of_lt hlk) (heB.1 j hj)
            rw [Int.neg_mul] at h
            omega
        · simp only [decide_eq_false_iff_not]
          intro h
          rw [Int.neg_mul, Int.mul_comm] at h
          omega
        · simpa using hlk
      have ih' := ih _ (by omega) hB'
      have hfe : ms_sm M (fun j => (e k0 * l j + (-l k0) * e j) * c j) = e k0 * ms_sm M (fun j => l j * c j) + (-l k0) * ms_sm M (fun j => e j * c j) := by
        rw [← ms_mul, ← ms_mul, ← ms_add]
        exact ms_cg (fun j _ => by grind)
      rw [hfe] at ih'
      generalize ms_sm M (fun j => l j * c j) = fl at ih' ⊢
      generalize ms_sm M (fun j => e j * c j) = fe at ih' hf hfT
      have h1 : 0 ≤ l k0 * fe := Int.mul_nonneg (Int.le_of_lt hlk) hf
      have h2 : 0 ≤ e k0 * fl := by
        have := ih'.1
        rw [Int.neg_mul] at this
        omega
      refine ⟨?_, fun hz j hj hlj => ?_⟩
      · rcases Int.lt_or_le fl 0 with h | h
        · exfalso
          have := Int.mul_neg_of_pos_of_neg hek h
          omega
        · exact h
      · have h3 := ih'.1
        rw [hz, Int.mul_zero, Int.zero_add, Int.neg_mul] at h3
        have h4 : l k0 * fe = 0 := by omega
        have h5 : fe = 0 := by
          rcases Int.mul_eq_zero.mp h4 with h | h
          · omega
          · exact h
        rcases Int.lt_or_eq_of_le (heB.1 j hj) with h6 | h6
        · exact hfT h5 j hj h6
        · refine ih'.2 (by rw [hz, h5, Int.mul_zero, Int.mul_zero]; rfl) j hj ?_
          rw [← h6, Int.mul_zero, Int.add_zero]
          exact Int.mul_pos hek hlj
    · have hz : ∀ j, j < M → l j = 0 := by
        intro j hj
        rcases Int.lt_or_eq_of_le (hB.1 j hj) with h | h
        · exact absurd ⟨j, hj, h⟩ hne
        · exact h.symm
      refine ⟨?_, fun _ j hj h => ?_⟩
      · rw [ms_cg (g := fun _ => 0) (fun j hj => by rw [hz j hj, Int.zero_mul]), ms_zero]
        exact Int.le_refl 0
      · have := hz j hj
        omega
/-- a point: slack everywhere but at T -/
theorem du_point (hC : ∀ l, du_B d M op b l → (∃ j, j < M ∧ 0 < l j) → ∃ e, du_B d M op b e ∧ (∃ j, j < M ∧ 0 < e j) ∧ (∀ j, j < M → 0 < e j → 0 < l j) ∧ 0 ≤ ms_sm M (fun j => e j * c j) ∧ (ms_sm M (fun j => e j * c j) = 0 → ∀ j, j < M → 0 < e j → T j))
    {ls : Nat → Int} (hs : du_B d M op b ls) (hs0 : ms_sm M (fun j => ls j * c j) = 0) (hsT : ∀ j, j < M → op j = true → (0 < ls j ↔ T j)) :
    ∃ (y : Nat → Int) (u : Int), 0 < u ∧ ∀ j, j < M → op j = true → 0 ≤ ms_dot d (b j) y + c j * u ∧ (ms_dot d (b j) y + c j * u = 0 ↔ T j) := by
  obtain ⟨y, l, h1, h2, h3, h4⟩ := ms_tucker (d + 1) (M + 1) (fun j i => if j = M then (if i = d then 1 else 0) else if op j = true then (if i = d then c j else b j i) else 0)
  have row : ∀ j, j < M → op j = true → ms_dot (d + 1) (fun i => if j = M then (if i = d then 1 else 0) else if op j = true then (if i = d then c j else b j i) else 0) y = ms_dot d (b j) y + c j * y d := by
    intro j hj ho
    show ms_sm d (fun i => (if j = M then (if i = d then 1 else 0) else if op j = true then (if i = d then c j else b j i) else 0) * y i) + (if j = M then (if d = d then 1 else 0) else if op j = true then (if d = d then c j else b j d) else 0) * y d = _
    rw [if_neg (by omega), if_pos ho, if_pos rfl]
    congr 1
    exact ms_cg (fun i hi => by rw [if_neg (by omega), if_pos ho, if_neg (by omega)])
  have rowM : ms_dot (d + 1) (fun i => if M = M then (if i = d then 1 else 0) else if op M = true then (if i = d then c M else b M i) else 0) y = y d := by
    show ms_sm d (fun i => (if M = M then (if i = d then 1 else 0) else if op M = true then (if i = d then c M else b M i) else 0) * y i) + (if M = M then (if d = d then 1 else 0) else if op M = true then (if d = d then c M else b M d) else 0) * y d = y d
    rw [if_pos rfl, if_pos rfl, ms_cg (g := fun _ => 0) (fun i hi => by rw [if_pos rfl, if_neg (by omega), Int.zero_mul]), ms_zero]
    omega
  have hB : du_B d M op b (fun j => if op j = true then l j else 0) := by
    refine ⟨fun j hj => ?_, fun j hj => by dsimp only; rw [if_neg (by rw [hj]; decide)], fun i hi => ?_⟩
    · dsimp only
      by_cases ho : op j = true
      · rw [if_pos ho]; exact h2 j (by omega)
      · rw [if_neg ho]; exact Int.le_refl 0
    · have := h3 i (by omega)
      have e0 : ms_sm M (fun j => l j * (if j = M then (if i = d then 1 else 0) else if op j = true then (if i = d then c j else b j i) else 0)) + l M * (if M = M then (if i = d then 1 else 0) else if op M = true then (if i = d then c M else b M i) else 0) = 0 := this
      rw [if_pos rfl, if_neg (by omega), Int.mul_zero, Int.add_zero] at e0
      refine Eq.trans ?_ e0
      refine ms_cg (fun j hj => ?_)
      try dsimp only
      rw [if_neg (show ¬ j = M by omega)]
      by_cases ho : op j = true
      · rw [if_pos ho, if_pos ho, if_neg (by omega)]
      · rw [if_neg ho, if_neg ho, Int.zero_mul, Int.mul_zero]
  have hf : ms_sm M (fun j => (if op j = true then l j else 0) * c j) + l M = 0 := by
    have := h3 d (by omega)
    have e0 : ms_sm M (fun j => l j * (if j = M then (if d = d then 1 else 0) else if op j = true then (if d = d then c j else b j d) else 0)) + l M * (if M = M then (if d = d then 1 else 0) else if op M = true then (if d = d then c M else b M d) else 0) = 0 := this
    rw [if_pos rfl, if_pos rfl, Int.mul_one] at e0
    refine Eq.trans ?_ e0
    congr 1
    refine ms_cg (fun j hj => ?_)
    try dsimp only
    rw [if_neg (show ¬ j = M by omega)]
    by_cases ho : op j = true
    · rw [if_pos ho, if_pos ho, if_pos rfl]
    · rw [if_neg ho, if_neg ho, Int.zero_mul, Int.mul_zero]
  have hall := du_all hC _ _ (Nat.le_refl _) hB
  have hM0 := h2 M (by omega)
  have hf0 : ms_sm M (fun j => (if op j = true then l j else 0) * c j) = 0 := by
    have := hall.1
    omega
  have hlM : l M = 0 := by omega
  have hu : 0 < y d := by
    have := h4 M (by omega)
    rw [rowM, hlM] at this
    omega
  refine ⟨y, y d, hu, fun j hj ho => ?_⟩
  have a1 := h1 j (by omega)
  have a2 := h4 j (by omega)
  rw [row j hj ho] at a1 a2
  refine ⟨a1, fun hz => ?_, fun hT => ?_⟩
  · refine hall.2 hf0 j hj ?_
    rw [if_pos ho]
    omega
  · -- tight at T, by the weights that are positive there
    have hsum : ms_sm M (fun j => ls j * (ms_dot d (b j) y + c j * y d)) = 0 := by
      rw [ms_cg (g := fun j => ms_sm d (fun i => ls j * b j i * y i) + (ls j * c j) * y d) (fun j _ => by
        unfold ms_dot
        rw [Int.mul_add, ← ms_mul, Int.mul_assoc]
        congr 1
        exact ms_cg (fun i _ => by rw [Int.mul_assoc])), ms_add, ms_mulr, hs0, Int.zero_mul, Int.add_zero, ms_swap, ms_cg (g := fun _ => 0) (fun i hi => by rw [ms_mulr, hs.2.2 i hi, Int.zero_mul]), ms_zero]
    have hterm : ∀ j, j < M → 0 ≤ ls j * (ms_dot d (b j) y + c j * y d) := by
      intro j hj
      cases ho' : op j with
      | false => rw [hs.2.1 j ho', Int.zero_mul]; exact Int.le_refl 0
      | true =>
        have := h1 j (by omega)
        rw [row j hj ho'] at this
        exact Int.mul_nonneg (hs.1 j hj) this
    have h6 := ms_le_of hterm j hj
    rw [hsum] at h6
    have h7 := hterm j hj
    have h8 : ls j * (ms_dot d (b j) y + c j * y d) = 0 := by omega
    rcases Int.mul_eq_zero.mp h8 with h | h
    · have := (hsT j hj ho).mpr hT
      omega
    · exact h
end DU
