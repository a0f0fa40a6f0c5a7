/-! More unknowns than equations: a solution that is not 0. Basis out of a spanning family. -/
theorem ln_split : ∀ (k p : Nat) (f : Nat → Int), p < k → ms_sm k f = f p + ms_sm k (fun j => if j = p then 0 else f j)
  | 0, p, _, h => absurd h (Nat.not_lt_zero p)
  | k + 1, p, f, h => by
    show ms_sm k f + f k = f p + (ms_sm k (fun j => if j = p then 0 else f j) + (if k = p then 0 else f k))
    by_cases hk : k = p
    · subst hk
      rw [if_pos rfl, ms_cg (f := fun j => if j = k then 0 else f j) (g := f) (fun j hj => if_neg (by omega))]
      omega
    · rw [if_neg hk, ln_split k p f (by omega)]
      omega
/-- unknowns other than p, numbered anew -/
def ln_sk (p j : Nat) : Nat := if j < p then j else j + 1
theorem ln_skip : ∀ (k p : Nat) (f : Nat → Int), p < k + 1 → ms_sm (k + 1) (fun j => if j = p then 0 else f j) = ms_sm k (fun j => f (ln_sk p j)) := by
  intro k
  induction k with
  | zero =>
    intro p f h
    have : p = 0 := by omega
    subst this
    rfl
  | succ k ih =>
    intro p f h
    show ms_sm (k + 1) (fun j => if j = p then 0 else f j) + (if k + 1 = p then 0 else f (k + 1)) = ms_sm k (fun j => f (ln_sk p j)) + f (ln_sk p k)
    by_cases hp : k + 1 = p
    · subst hp
      rw [if_pos rfl, Int.add_zero]
      show ms_sm k (fun j => if j = k + 1 then 0 else f j) + (if k = k + 1 then 0 else f k) = _
      rw [if_neg (by omega)]
      unfold ln_sk
      rw [if_pos (by omega)]
      congr 1
      exact ms_cg (fun j hj => by rw [if_neg (by omega), if_pos (by omega)])
    · rw [if_neg hp, ih p f (by omega)]
      unfold ln_sk
      rw [if_neg (show ¬ k < p by omega)]
theorem ln_H : ∀ (m k : Nat), m < k → ∀ A : Nat → Nat → Int, ∃ z : Nat → Int, (∃ j, j < k ∧ z j ≠ 0) ∧ ∀ i, i < m → ms_sm k (fun j => A i j * z j) = 0 := by
  intro m
  induction m with
  | zero =>
    intro k hk A
    exact ⟨fun _ => 1, ⟨0, hk, by decide⟩, fun i hi => absurd hi (Nat.not_lt_zero i)⟩
  | succ m ih =>
    intro k hk A
    by_cases hz : ∀ j, j < k → A m j = 0
    · obtain ⟨z, h1, h2⟩ := ih k (by omega) A
      refine ⟨z, h1, fun i hi => ?_⟩
      by_cases him : i = m
      · subst him
        rw [ms_cg (g := fun _ => 0) (fun j hj => by rw [hz j hj, Int.zero_mul]), ms_zero]
      · exact h2 i (by omega)
    · obtain ⟨p, hp, hpz⟩ : ∃ p, p < k ∧ A m p ≠ 0 := by
        apply Classical.byContradiction
        intro hn
        exact hz (fun j hj => Classical.byContradiction (fun q => hn ⟨j, hj, q⟩))
      obtain ⟨k', rfl⟩ : ∃ k', k = k' + 1 := ⟨k - 1, by omega⟩
      obtain ⟨z, ⟨j0, hj0, hz0⟩, h2⟩ := ih k' (by omega) (fun i j => A m p * A i (ln_sk p j) - A i p * A m (ln_sk p j))
      -- the inverse of ln_sk
      have inv : ∀ j, ln_sk p j ≠ p := by intro j; unfold ln_sk; split <;> omega
      have un : ∀ j, (if ln_sk p j < p then ln_sk p j else ln_sk p j - 1) = j := by
        intro j
        unfold ln_sk
        by_cases h : j < p
        · simp [h]
        · simp only [if_neg h]
          rw [if_neg (by omega)]; omega
      obtain ⟨Zs, hZs⟩ : ∃ Zs, Zs = ms_sm k' (fun j => A m (ln_sk p j) * z j) := ⟨_, rfl⟩
      refine ⟨fun j => if j = p then -Zs else A m p * z (if j < p then j else j - 1), ⟨ln_sk p j0, by unfold ln_sk; split <;> omega, ?_⟩, fun i hi => ?_⟩
      · dsimp only
        rw [if_neg (inv j0), un j0]
        exact Int.mul_ne_zero hpz hz0
      · dsimp only
        rw [ln_split (k' + 1) p _ hp, if_pos rfl, ln_skip k' p (fun j => A i j * (if j = p then -Zs else A m p * z (if j < p then j else j - 1))) hp]
        rw [ms_cg (g := fun j => A m p * (A i (ln_sk p j) * z j)) (fun j _ => by rw [if_neg (inv j), un j]; grind), ms_mul]
        by_cases him : i = m
        · subst him
          rw [← hZs]
          grind
        · have h3 := h2 i (by omega)
          rw [ms_cg (g := fun j => A m p * (A i (ln_sk p j) * z j) + (-A i p) * (A m (ln_sk p j) * z j)) (fun j _ => by grind), ms_add, ms_mul, ms_mul, ← hZs] at h3
          generalize ms_sm k' (fun j => A i (ln_sk p j) * z j) = Y at h3 ⊢
          rw [Int.mul_neg]
          rw [Int.neg_mul] at h3
          omega
/-- only 0 is orthogonal to all rows of the list -/
def ln_nd (D : Nat) (rows : List (Nat → Int)) : Prop := ∀ dl : Nat → Int, (∀ r ∈ rows, ms_dot D r dl = 0) → ∀ i, i < D → dl i = 0
/-- no row is a combination: only the trivial relation -/
def ln_ind (D : Nat) (rows : List (Nat → Int)) : Prop := ∀ c : Nat → Int, (∀ i, i < D → ms_sm rows.length (fun j => c j * (rows.getD j (fun _ => 0)) i) = 0) → ∀ j, j < rows.length → c j = 0
theorem ln_few {D : Nat} {rows : List (Nat → Int)} (h : rows.length < D) : ¬ ln_nd D rows := by
  intro hn
  obtain ⟨z, ⟨j, hj, hz⟩, h2⟩ := ln_H rows.length D h (fun i j => (rows.getD i (fun _ => 0)) j)
  refine hz (hn z (fun r hr => ?_) j hj)
  obtain ⟨i, hi⟩ := List.getElem?_of_mem hr
  have hlt : i < rows.length := (List.getElem?_eq_some_iff.mp hi).1
  have := h2 i hlt
  rw [List.getD_eq_getElem?_getD, hi] at this
  exact this
theorem ln_many {D : Nat} {rows : List (Nat → Int)} (h : D < rows.length) : ¬ ln_ind D rows := by
  intro hn
  obtain ⟨z, ⟨j, hj, hz⟩, h2⟩ := ln_H D rows.length h (fun i j => (rows.getD j (fun _ => 0)) i)
  refine hz (hn z (fun i hi => ?_) j hj)
  refine Eq.trans ?_ (h2 i hi)
  exact ms_cg (fun j _ => Int.mul_comm _ _)
/-- a basis that keeps C, out of C and R -/
theorem ln_basis {D : Nat} {C : List (Nat → Int)} (hC : ln_ind D C) : ∀ (k : Nat) (R : List (Nat → Int)), R.length ≤ k → ln_nd D (C ++ R) → ∃ G, G.Sublist R ∧ C.length + G.length = D ∧ ln_nd D (C ++ G) := by
  intro k
  induction k with
  | zero =>
    intro R hR hnd
    have : R = [] := List.length_eq_zero_iff.mp (by omega)
    subst this
    rw [List.append_nil] at hnd
    have h1 : ¬ C.length < D := fun q => ln_few q hnd
    have h2 : ¬ D < C.length := fun q => ln_many q hC
    exact ⟨[], List.Sublist.refl _, by simp; omega, by rw [List.append_nil]; exact hnd⟩
  | succ k ih =>
    intro R hR hnd
    rcases Nat.lt_or_ge D (C ++ R).length with hgt | hle
    · -- a relation; one of R's rows goes
      have hni := ln_many hgt
      obtain ⟨c, hc, j, hj, hcj⟩ : ∃ c : Nat → Int, (∀ i, i < D → ms_sm (C ++ R).length (fun j => c j * ((C ++ R).getD j (fun _ => 0)) i) = 0) ∧ ∃ j, j < (C ++ R).length ∧ c j ≠ 0 := by
        apply Classical.byContradiction
        intro hn
        exact hni (fun c hc j hj => Classical.byContradiction (fun q => hn ⟨c, hc, j, hj, q⟩))
      -- one with its number behind C
      obtain ⟨j, hj, hjC, hcj⟩ : ∃ j, j < (C ++ R).length ∧ C.length ≤ j ∧ c j ≠ 0 := by
        apply Classical.byContradiction
        intro hn
        have hz : ∀ i, C.length ≤ i → i < (C ++ R).length → c i = 0 := fun i h1 h2 => Classical.byContradiction (fun q => hn ⟨i, h2, h1, q⟩)
        have hjC : j < C.length := by
          rcases Nat.lt_or_ge j C.length with h | h
          · exact h
          · exact absurd (hz j h hj) hcj
        refine hcj (hC c (fun i hi => ?_) j hjC)
        have h1 := hc i hi
        have tail : ∀ (n : Nat), C.length + n ≤ (C ++ R).length → ms_sm (C.length + n) (fun j => c j * ((C ++ R).getD j (fun _ => 0)) i) = ms_sm C.length (fun j => c j * (C.getD j (fun _ => 0)) i) := by
          intro n
          induction n with
          | zero =>
            intro _
            refine ms_cg (fun j hj => ?_)
            rw [List.getD_eq_getElem?_getD, List.getElem?_append_left hj, ← List.getD_eq_getElem?_getD]
          | succ n ihn =>
            intro hn2
            show ms_sm (C.length + n) (fun j => c j * ((C ++ R).getD j (fun _ => 0)) i) + c (C.length + n) * ((C ++ R).getD (C.length + n) (fun _ => 0)) i = _
            rw [ihn (by omega), hz (C.length + n) (by omega) (by omega), Int.zero_mul, Int.add_zero]
        rw [← tail R.length (by rw [List.length_append]; exact Nat.le_refl _), ← List.length_append]
        exact h1
      have hjR : j - C.length < R.length := by rw [List.length_append] at hj; omega
      -- R without it
      have hsub : (R.eraseIdx (j - C.length)).Sublist R := List.eraseIdx_sublist R (j - C.length)
      have hlen : (R.eraseIdx (j - C.length)).length = R.length - 1 := by rw [List.length_eraseIdx, if_pos hjR]
      have hnd' : ln_nd D (C ++ R.eraseIdx (j - C.length)) := by
        intro dl hdl
        refine hnd dl (fun r hr => ?_)
        -- all others are orthogonal; by the relation the j-th too
        have hoth : ∀ i, i < (C ++ R).length → i ≠ j → ms_dot D ((C ++ R).getD i (fun _ => 0)) dl = 0 := by
          intro i hi hij
          refine hdl _ ?_
          rw [List.getD_eq_getElem?_getD]
          rcases Nat.lt_or_ge i C.length with h | h
          · rw [List.getElem?_append_left h, List.getElem?_eq_getElem h]
            exact List.mem_append_left _ (List.getElem_mem h)
          · rw [List.getElem?_append_right h]
            have hiR : i - C.length < R.length := by rw [List.length_append] at hi; omega
            rw [List.getElem?_eq_getElem hiR]
            refine List.mem_append_right _ ?_
            show R[i - C.length] ∈ _
            rw [List.mem_eraseIdx_iff_getElem]
            exact ⟨i - C.length, hiR, by omega, rfl⟩
        have hj0 : ms_dot D ((C ++ R).getD j (fun _ => 0)) dl = 0 := by
          have hs : ms_sm (C ++ R).length (fun i => c i * ms_dot D ((C ++ R).getD i (fun _ => 0)) dl) = 0 := by
            rw [ms_cg (g := fun i => ms_sm D (fun q => c i * ((C ++ R).getD i (fun _ => 0)) q * dl q)) (fun i _ => by
              unfold ms_dot
              rw [← ms_mul]
              exact ms_cg (fun q _ => by rw [Int.mul_assoc])), ms_swap, ms_cg (g := fun _ => 0) (fun q hq => by rw [ms_mulr, hc q hq, Int.zero_mul]), ms_zero]
          rw [ln_split _ j _ hj, ms_cg (g := fun _ => 0) (fun i hi => by
            by_cases hij : i = j
            · rw [if_pos hij]
            · rw [if_neg hij, hoth i hi hij, Int.mul_zero]), ms_zero, Int.add_zero] at hs
          rcases Int.mul_eq_zero.mp hs with h | h
          · exact absurd h hcj
          · exact h
        obtain ⟨i, hi⟩ := List.getElem?_of_mem hr
        have hilt : i < (C ++ R).length := (List.getElem?_eq_some_iff.mp hi).1
        have hgi : (C ++ R).getD i (fun _ => 0) = r := by rw [List.getD_eq_getElem?_getD, hi]; rfl
        by_cases hij : i = j
        · rw [← hgi, hij]; exact hj0
        · rw [← hgi]; exact hoth i hilt hij
      obtain ⟨G, g1, g2, g3⟩ := ih (R.eraseIdx (j - C.length)) (by omega) hnd'
      exact ⟨G, g1.trans hsub, g2, g3⟩
    · have h1 : ¬ (C ++ R).length < D := fun q => ln_few q hnd
      exact ⟨R, List.Sublist.refl _, by rw [List.length_append] at h1 hle; omega, hnd⟩
