/-! Small facts for the methods' conditions. -/
def rb (p : Prop) [Decidable p] : Int32 := if p then 1 else 0
theorem rb_t {p : Prop} [Decidable p] (h : p) : rb p = 1 := if_pos h
theorem rb_f {p : Prop} [Decidable p] (h : ¬ p) : rb p = 0 := if_neg h
theorem rb_01 (p : Prop) [Decidable p] : rb p = 0 ∨ rb p = 1 := by
  by_cases h : p
  · exact Or.inr (rb_t h)
  · exact Or.inl (rb_f h)
theorem lc_eq {x y : Int64} : lg_cmp x y = 0 ↔ x = y := by
  unfold lg_cmp
  by_cases h1 : y < x
  · rw [if_pos h1]
    exact ⟨fun h => absurd h (by decide), fun h => absurd h1 (by rw [h]; exact Int64.lt_irrefl)⟩
  · rw [if_neg h1]
    by_cases h2 : x = y
    · rw [if_pos h2]; exact ⟨fun _ => h2, fun _ => rfl⟩
    · rw [if_neg h2]; exact ⟨fun h => absurd h (by decide), fun h => absurd h h2⟩
theorem lc_lt {x y : Int64} : lg_cmp x y < 0 ↔ x < y := by
  unfold lg_cmp
  by_cases h1 : y < x
  · rw [if_pos h1]
    exact ⟨fun h => absurd h (by decide), fun h => absurd (Int64.lt_trans h h1) (Int64.lt_irrefl)⟩
  · rw [if_neg h1]
    by_cases h2 : x = y
    · rw [if_pos h2]; exact ⟨fun h => absurd h (by decide), fun h => absurd h (by rw [h2]; exact Int64.lt_irrefl)⟩
    · rw [if_neg h2]; exact ⟨fun _ => Int64.lt_of_le_of_ne (Int64.not_lt.mp h1) h2, fun _ => by decide⟩
theorem lc_gt {x y : Int64} : 0 < lg_cmp x y ↔ y < x := by
  unfold lg_cmp
  by_cases h1 : y < x
  · rw [if_pos h1]
    exact ⟨fun _ => h1, fun _ => by decide⟩
  · rw [if_neg h1]
    by_cases h2 : x = y
    · rw [if_pos h2]; exact ⟨fun h => absurd h (by decide), fun h => absurd h h1⟩
    · rw [if_neg h2]; exact ⟨fun h => absurd h (by decide), fun h => absurd h h1⟩
theorem lc_le {x y : Int64} : lg_cmp x y ≤ 0 ↔ x ≤ y := by
  rw [← Int32.not_lt, lc_gt, Int64.not_lt]
theorem lc_ge {x y : Int64} : 0 ≤ lg_cmp x y ↔ y ≤ x := by
  rw [← Int32.not_lt, lc_lt, Int64.not_lt]
theorem rr_set_set {h : Nat → Option rr_E} {k : Nat} {c c' : rr_E} : rr_set (rr_set h k c) k c' = rr_set h k c' := by
  funext j
  by_cases hj : j = k
  · subst hj; rw [rr_set_eq, rr_set_eq]
  · rw [rr_set_ne hj, rr_set_ne hj, rr_set_ne hj]
theorem rr_set_id {h : Nat → Option rr_E} {k : Nat} {c : rr_E} (hk : h k = some c) : rr_set h k c = h := by
  funext j
  by_cases hj : j = k
  · subst hj; rw [rr_set_eq, hk]
  · rw [rr_set_ne hj]
theorem rr_set_cm {h : Nat → Option rr_E} {k j : Nat} {c c' : rr_E} (hkj : k ≠ j) : rr_set (rr_set h k c) j c' = rr_set (rr_set h j c') k c := by
  funext i
  by_cases h1 : i = j
  · subst h1
    rw [rr_set_eq, rr_set_ne (fun q => hkj q.symm), rr_set_eq]
  · rw [rr_set_ne h1]
    by_cases h2 : i = k
    · subst h2; rw [rr_set_eq, rr_set_eq]
    · rw [rr_set_ne h2, rr_set_ne h2, rr_set_ne h1]
/-- a call whose answer and heap are known -/
theorem rr_kn {Q' : Option Value → rr_H → Prop} {v : Option Value} {H0 : rr_H} {P : Option Value → rr_H → Prop} (hq : ∀ r R, Q' r R → r = v ∧ R = H0) (h : P v H0) : ∀ r R, Q' r R → P r R := fun r R q => by
  obtain ⟨rfl, rfl⟩ := hq r R q
  exact h
