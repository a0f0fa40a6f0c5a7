def rr_LR (ad : Nat → Nat) (fm : Value) (ls : Array Slot) (mx : Nat) (loc : rr_L) : Prop := ls.size = mx ∧ lv_wf ls ∧ ∀ i v, rr_get loc i = some v → ls[i]? = some (.val (rr_tv ad fm v))
theorem rr_clr_some {a : Option Value} {v : Value} (h : rr_clr a = some v) : a = some v ∧ ¬ v.category = 2 := by
  cases a with
  | none => cases h
  | some w => cases w <;> first | (cases h; done) | (cases h; exact ⟨rfl, by decide⟩) | (cases h; exact ⟨rfl, fun q => by cases q⟩)
theorem rr_get_put : ∀ (loc : rr_L) (i : Nat) (v : Value) (j : Nat) (w : Value), rr_get (rr_put loc i v) j = some w → (j = i ∧ w = v) ∨ (j ≠ i ∧ rr_get loc j = some w ∧ ¬ (j + 1 = i ∧ w.category = 2))
  | [], _, _, _, _, h => by simp [rr_put, rr_get] at h
  | _ :: _, 0, v, 0, w, h => Or.inl ⟨rfl, (Option.some.inj h).symm⟩
  | _ :: _, 0, v, j + 1, w, h => Or.inr ⟨by omega, h, by omega⟩
  | a :: t, 1, v, 0, w, h => by
    obtain ⟨h1, h2⟩ := rr_clr_some (a := a) h
    exact Or.inr ⟨by omega, h1, fun q => h2 q.2⟩
  | a :: t, 1, v, j + 1, w, h => by
    rcases rr_get_put t 0 v j w h with ⟨h1, h2⟩ | ⟨h1, h2, h3⟩
    · exact Or.inl ⟨by omega, h2⟩
    · exact Or.inr ⟨by omega, h2, fun q => h3 ⟨by omega, q.2⟩⟩
  | a :: t, k + 2, v, 0, w, h => Or.inr ⟨by omega, h, fun q => by omega⟩
  | a :: t, k + 2, v, j + 1, w, h => by
    rcases rr_get_put t (k + 1) v j w h with ⟨h1, h2⟩ | ⟨h1, h2, h3⟩
    · exact Or.inl ⟨by omega, h2⟩
    · exact Or.inr ⟨by omega, h2, fun q => h3 ⟨by omega, q.2⟩⟩
theorem rr_get_drp : ∀ (t : rr_L) (j : Nat) (w : Value), rr_get (rr_drp t) j = some w → j ≠ 0 ∧ rr_get t j = some w
  | [], _, _, h => by simp [rr_drp, rr_get] at h
  | _ :: _, 0, _, h => by simp [rr_drp, rr_get] at h
  | _ :: _, j + 1, _, h => ⟨by omega, h⟩
theorem rr_get_putL : ∀ (loc : rr_L) (i : Nat) (v : Value) (j : Nat) (w : Value), rr_get (rr_putL loc i v) j = some w → (j = i ∧ w = v) ∨ (j ≠ i ∧ j ≠ i + 1 ∧ rr_get loc j = some w ∧ ¬ (j + 1 = i ∧ w.category = 2))
  | [], _, _, _, _, h => by simp [rr_putL, rr_get] at h
  | _ :: _, 0, v, 0, w, h => Or.inl ⟨rfl, (Option.some.inj h).symm⟩
  | _ :: t, 0, v, j + 1, w, h => by
    obtain ⟨h1, h2⟩ := rr_get_drp t j w h
    exact Or.inr ⟨by omega, by omega, h2, by omega⟩
  | a :: t, 1, v, 0, w, h => by
    obtain ⟨h1, h2⟩ := rr_clr_some (a := a) h
    exact Or.inr ⟨by omega, by omega, h1, fun q => h2 q.2⟩
  | a :: t, 1, v, j + 1, w, h => by
    rcases rr_get_putL t 0 v j w h with ⟨h1, h2⟩ | ⟨h1, h1', h2, h3⟩
    · exact Or.inl ⟨by omega, h2⟩
    · exact Or.inr ⟨by omega, by omega, h2, fun q => h3 ⟨by omega, q.2⟩⟩
  | a :: t, k + 2, v, 0, w, h => Or.inr ⟨by omega, by omega, h, fun q => by omega⟩
  | a :: t, k + 2, v, j + 1, w, h => by
    rcases rr_get_putL t (k + 1) v j w h with ⟨h1, h2⟩ | ⟨h1, h1', h2, h3⟩
    · exact Or.inl ⟨by omega, h2⟩
    · exact Or.inr ⟨by omega, by omega, h2, fun q => h3 ⟨by omega, q.2⟩⟩
theorem rr_get_lt : ∀ (loc : rr_L) (i : Nat) (v : Value), rr_get loc i = some v → i < loc.length
  | [], _, _, h => by simp [rr_get] at h
  | _ :: _, 0, _, _ => by simp
  | _ :: t, i + 1, v, h => by
    have := rr_get_lt t i v h
    simp only [List.length_cons]
    omega
/-- the known locals as a list -/
def rr_lv (ad : Nat → Nat) (fm : Value) (loc : rr_L) : List (Nat × Value) := (List.range loc.length).filterMap (fun i => (rr_get loc i).map (fun v => (i, rr_tv ad fm v)))
theorem rr_lv_mem {ad : Nat → Nat} {fm : Value} {loc : rr_L} {i : Nat} {v : Value} (h : rr_get loc i = some v) : (i, rr_tv ad fm v) ∈ rr_lv ad fm loc :=
  List.mem_filterMap.mpr ⟨i, List.mem_range.mpr (rr_get_lt _ _ _ h), by rw [h]; rfl⟩
theorem rr_lv_has {ad : Nat → Nat} {fm : Value} {ls : Array Slot} {mx : Nat} {loc : rr_L} (h : rr_LR ad fm ls mx loc) : lv_has ls mx (rr_lv ad fm loc) := by
  refine ⟨h.1, h.2.1, fun q hq => ?_⟩
  obtain ⟨i, -, hi⟩ := List.mem_filterMap.mp hq
  cases hg : rr_get loc i with
  | none => rw [hg] at hi; cases hi
  | some v => rw [hg] at hi; cases hi; exact h.2.2 i v hg
theorem rr_tv_cat {ad : Nat → Nat} {fm v : Value} (hf : fm.category = 1) : (rr_tv ad fm v).category = v.category := by
  cases v <;> first | rfl | exact hf
theorem rr_LR_put {ad : Nat → Nat} {fm : Value} {ls' : Array Slot} {mx i : Nat} {loc : rr_L} {v : Value} (hf : fm.category = 1)
    (h : lv_has ls' mx ((i, rr_tv ad fm v) :: (rr_lv ad fm loc).filter (fun q => !(q.1 == i) && !(q.1 + 1 == i && q.2.category == 2)))) : rr_LR ad fm ls' mx (rr_put loc i v) := by
  refine ⟨h.1, h.2.1, fun j w hw => ?_⟩
  rcases rr_get_put _ _ _ _ _ hw with ⟨rfl, rfl⟩ | ⟨h1, h2, h3⟩
  · exact h.2.2 _ List.mem_cons_self
  · refine h.2.2 (j, rr_tv ad fm w) (List.mem_cons_of_mem _ (List.mem_filter.mpr ⟨rr_lv_mem h2, ?_⟩))
    simp only [rr_tv_cat hf, Bool.and_eq_true, Bool.not_eq_true', beq_eq_false_iff_ne, ne_eq, Bool.and_eq_false_iff]
    refine ⟨h1, ?_⟩
    by_cases z : j + 1 = i
    · exact Or.inr (fun q => h3 ⟨z, q⟩)
    · exact Or.inl z
theorem rr_LR_putL {ad : Nat → Nat} {fm : Value} {ls' : Array Slot} {mx i : Nat} {loc : rr_L} {v : Value} (hf : fm.category = 1)
    (h : lv_has ls' mx ((i, rr_tv ad fm v) :: (rr_lv ad fm loc).filter (fun q => !(q.1 == i) && (!(q.1 == i + 1) && !(q.1 + 1 == i && q.2.category == 2))))) : rr_LR ad fm ls' mx (rr_putL loc i v) := by
  refine ⟨h.1, h.2.1, fun j w hw => ?_⟩
  rcases rr_get_putL _ _ _ _ _ hw with ⟨rfl, rfl⟩ | ⟨h1, h1', h2, h3⟩
  · exact h.2.2 _ List.mem_cons_self
  · refine h.2.2 (j, rr_tv ad fm w) (List.mem_cons_of_mem _ (List.mem_filter.mpr ⟨rr_lv_mem h2, ?_⟩))
    simp only [rr_tv_cat hf, Bool.and_eq_true, Bool.not_eq_true', beq_eq_false_iff_ne, ne_eq, Bool.and_eq_false_iff]
    refine ⟨h1, h1', ?_⟩
    by_cases z : j + 1 = i
    · exact Or.inr (fun q => h3 ⟨z, q⟩)
    · exact Or.inl z
theorem rr_get_pad : ∀ (n : Nat) (l : rr_L) (i : Nat) (v : Value), rr_get (rr_pad n l) i = some v → rr_get l i = some v
  | 0, _, _, _, h => by simp [rr_pad, rr_get] at h
  | n + 1, [], 0, _, h => by simp [rr_pad, rr_get] at h
  | n + 1, [], i + 1, v, h => by
    have := rr_get_pad n [] i v h
    simp [rr_get] at this
  | n + 1, a :: t, 0, v, h => h
  | n + 1, a :: t, i + 1, v, h => rr_get_pad n t i v h
theorem rr_get_ent {ad : Nat → Nat} {fm : Value} (hf : fm.category = 1) : ∀ (vs : List Value) (b i : Nat) (v : Value), rr_get (rr_ent vs) i = some v → (b + i, rr_tv ad fm v) ∈ lv_args b (vs.map (rr_tv ad fm)) := by
  intro vs
  induction vs with
  | nil => intro b i v h; simp [rr_ent, rr_get] at h
  | cons w t ih =>
    intro b i v h
    have key1 : ∀ (w : Value), w.category = 1 → rr_ent (w :: t) = some w :: rr_ent t := by
      intro w hw
      cases w <;> first | rfl | (exact absurd hw (fun q => by cases q))
    have key2 : ∀ (w : Value), w.category = 2 → rr_ent (w :: t) = some w :: none :: rr_ent t := by
      intro w hw
      cases w <;> first | rfl | (exact absurd hw (fun q => by cases q))
    show _ ∈ (b, rr_tv ad fm w) :: lv_args (if (rr_tv ad fm w).category = 2 then b + 2 else b + 1) (t.map (rr_tv ad fm))
    rw [rr_tv_cat hf]
    rcases lv_cat w with hc | hc
    · rw [key1 w hc] at h
      rw [if_neg (by omega)]
      cases i with
      | zero => cases h; exact List.mem_cons_self
      | succ i =>
        have := ih (b + 1) i v h
        rw [show b + (i + 1) = b + 1 + i by omega]
        exact List.mem_cons_of_mem _ this
    · rw [key2 w hc] at h
      rw [if_pos hc]
      cases i with
      | zero => cases h; exact List.mem_cons_self
      | succ i =>
        cases i with
        | zero => cases h
        | succ i =>
          have := ih (b + 2) i v h
          rw [show b + (i + 1 + 1) = b + 2 + i by omega]
          exact List.mem_cons_of_mem _ this
theorem rr_LR_ent {ad : Nat → Nat} {fm : Value} {vs : List Value} {ls : Array Slot} {mx : Nat} (hf : fm.category = 1) (h : lv_has ls mx (lv_args 0 (vs.map (rr_tv ad fm)))) : rr_LR ad fm ls mx (rr_pad mx (rr_ent vs)) := by
  refine ⟨h.1, h.2.1, fun i v hv => ?_⟩
  have := rr_get_ent (ad := ad) hf vs 0 i v (rr_get_pad _ _ _ _ hv)
  rw [Nat.zero_add] at this
  exact h.2.2 _ this
theorem rr_slots {ad : Nat → Nat} {fm : Value} (hf : fm.category = 1) : ∀ vs : List Value, (lg_sl (vs.map (rr_tv ad fm))).length = rr_cat vs
  | [] => rfl
  | v :: t => by
    have := rr_slots (ad := ad) hf t
    unfold lg_sl at this ⊢
    rw [List.map_cons, List.flatMap_cons, List.length_append, this, rr_tv_cat hf]
    show _ = v.category + rr_cat t
    rcases lv_cat v with h | h <;> rw [h] <;> rfl
theorem rr_cats {ad : Nat → Nat} {fm : Value} (hf : fm.category = 1) : ∀ vs : List Value, ((vs.map (rr_tv ad fm)).map fun v => v.category).sum = rr_cat vs
  | [] => rfl
  | v :: t => by
    have := rr_cats (ad := ad) hf t
    rw [List.map_cons, List.map_cons, List.sum_cons, this, rr_tv_cat hf]
    rfl
