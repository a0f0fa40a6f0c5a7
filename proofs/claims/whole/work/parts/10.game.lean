def gall (n : Int32) : Int32 := (1 <<< (n &&& 31)) - 1
theorem t_mayBeMany {d : Nat} {H : rr_H} {n : Int32} : rr_Calls (d + 1) j_Game_mayBeMany [.int n] H (fun r R => r = some (.int (rb (2 ≤ n ∧ n ≤ 4))) ∧ R = H) := by
  obtain ⟨N, S, h⟩ := H
  refine rr_meth (C := K_Game_mayBeMany) (hd := h_Game_mayBeMany) (mx := 1) rfl rfl (fun K hK => ?_)
  refine hK _ _ _ _ ?_
  refine And.intro (fun h1 => ?_) (fun h1 => ?_)
  · refine And.intro (Or.inl rfl) (And.intro ?_ rfl)
    rw [rb_f (fun q => Int32.not_le.mpr (show n < 2 from h1) q.1)]; rfl
  · refine And.intro (fun h2 => ?_) (fun h2 => ?_)
    · refine And.intro (Or.inl rfl) (And.intro ?_ rfl)
      rw [rb_f (fun q => Int32.not_le.mpr (show 4 < n from h2) q.2)]; rfl
    · refine And.intro (Or.inr rfl) (And.intro ?_ rfl)
      rw [rb_t ⟨Int32.not_lt.mp h1, Int32.not_lt.mp h2⟩]; rfl
theorem t_mayBeWorth {d : Nat} {H : rr_H} {v : Int32} : rr_Calls (d + 1) j_Game_mayBeWorth [.int v] H (fun r R => r = some (.int (rb (-999 ≤ v ∧ v ≤ 999))) ∧ R = H) := by
  obtain ⟨N, S, h⟩ := H
  refine rr_meth (C := K_Game_mayBeWorth) (hd := h_Game_mayBeWorth) (mx := 1) rfl rfl (fun K hK => ?_)
  refine hK _ _ _ _ ?_
  refine And.intro (fun h1 => ?_) (fun h1 => ?_)
  · refine And.intro (Or.inl rfl) (And.intro ?_ rfl)
    rw [rb_f (fun q => Int32.not_le.mpr (show v < -999 from h1) q.1)]; rfl
  · refine And.intro (fun h2 => ?_) (fun h2 => ?_)
    · refine And.intro (Or.inl rfl) (And.intro ?_ rfl)
      rw [rb_f (fun q => Int32.not_le.mpr (show 999 < v from h2) q.2)]; rfl
    · refine And.intro (Or.inr rfl) (And.intro ?_ rfl)
      rw [rb_t ⟨Int32.not_lt.mp h1, Int32.not_lt.mp h2⟩]; rfl
theorem t_all_1 {d N S : Nat} {n : Int32} {h : Nat → Option rr_E} (hb : h 1 = some (.inr (0, [.int n, .ref 2]))) : rr_Calls (d + 1) j_Game_all [.ref 1] (N, S, h) (fun r R => r = some (.int (gall n)) ∧ R = (N, S, h)) := by
  refine rr_meth (C := K_Game_all) (hd := h_Game_all) (mx := 1) rfl rfl (fun K hK => ?_)
  refine hK _ _ _ _ ?_
  refine Exists.intro _ (And.intro hb ?_)
  exact And.intro rfl rfl
theorem t_all_5 {d N S : Nat} {n : Int32} {h : Nat → Option rr_E} (hb : h 5 = some (.inr (0, [.int n, .ref 6]))) : rr_Calls (d + 1) j_Game_all [.ref 5] (N, S, h) (fun r R => r = some (.int (gall n)) ∧ R = (N, S, h)) := by
  refine rr_meth (C := K_Game_all) (hd := h_Game_all) (mx := 1) rfl rfl (fun K hK => ?_)
  refine hK _ _ _ _ ?_
  refine Exists.intro _ (And.intro hb ?_)
  exact And.intro rfl rfl
theorem t_hasGroup {d N S : Nat} {n g : Int32} {h : Nat → Option rr_E} (hb : h 1 = some (.inr (0, [.int n, .ref 2]))) : rr_Calls (d + 2) j_Game_hasGroup [.ref 1, .int g] (N, S, h) (fun r R => r = some (.int (rb (1 ≤ g ∧ g ≤ gall n))) ∧ R = (N, S, h)) := by
  refine rr_meth (C := K_Game_hasGroup) (hd := h_Game_hasGroup) (mx := 2) rfl rfl (fun K hK => ?_)
  refine hK _ _ _ _ ?_
  refine And.intro (fun h1 => ?_) (fun h1 => ?_)
  · refine And.intro (Or.inl rfl) (And.intro ?_ rfl)
    rw [rb_f (fun q => Int32.not_le.mpr (show g < 1 from h1) q.1)]; rfl
  · refine Exists.intro _ (And.intro hb ?_)
    refine Exists.intro _ (And.intro (t_all_1 hb) ?_)
    rintro _ _ ⟨rfl, rfl⟩
    refine And.intro (fun h2 => ?_) (fun h2 => ?_)
    · refine And.intro (Or.inl rfl) (And.intro ?_ rfl)
      rw [rb_f (fun q => Int32.not_le.mpr (show gall n < g from h2) q.2)]; rfl
    · refine And.intro (Or.inr rfl) (And.intro ?_ rfl)
      rw [rb_t ⟨Int32.not_lt.mp h1, Int32.not_lt.mp h2⟩]; rfl
theorem t_hasPart {d N S : Nat} {n g : Int32} {h : Nat → Option rr_E} (hb : h 1 = some (.inr (0, [.int n, .ref 2]))) : rr_Calls (d + 2) j_Game_hasPart [.ref 1, .int g] (N, S, h) (fun r R => r = some (.int (rb (1 ≤ g ∧ g < gall n))) ∧ R = (N, S, h)) := by
  refine rr_meth (C := K_Game_hasPart) (hd := h_Game_hasPart) (mx := 2) rfl rfl (fun K hK => ?_)
  refine hK _ _ _ _ ?_
  refine And.intro (fun h1 => ?_) (fun h1 => ?_)
  · refine And.intro (Or.inl rfl) (And.intro ?_ rfl)
    rw [rb_f (fun q => Int32.not_le.mpr (show g < 1 from h1) q.1)]; rfl
  · refine Exists.intro _ (And.intro hb ?_)
    refine Exists.intro _ (And.intro (t_all_1 hb) ?_)
    rintro _ _ ⟨rfl, rfl⟩
    refine And.intro (fun h2 => ?_) (fun h2 => ?_)
    · refine And.intro (Or.inl rfl) (And.intro ?_ rfl)
      rw [rb_f (fun q => Int32.not_lt.mpr (show gall n ≤ g from h2) q.2)]; rfl
    · refine And.intro (Or.inr rfl) (And.intro ?_ rfl)
      rw [rb_t ⟨Int32.not_lt.mp h1, Int32.not_le.mp h2⟩]; rfl
theorem t_hasOne {d N S : Nat} {n g : Int32} {h : Nat → Option rr_E} (hb : h 1 = some (.inr (0, [.int n, .ref 2]))) : rr_Calls (d + 1) j_Game_hasOne [.ref 1, .int g] (N, S, h) (fun r R => r = some (.int (rb (0 ≤ g ∧ g < n))) ∧ R = (N, S, h)) := by
  refine rr_meth (C := K_Game_hasOne) (hd := h_Game_hasOne) (mx := 2) rfl rfl (fun K hK => ?_)
  refine hK _ _ _ _ ?_
  refine And.intro (fun h1 => ?_) (fun h1 => ?_)
  · refine And.intro (Or.inl rfl) (And.intro ?_ rfl)
    rw [rb_f (fun q => Int32.not_le.mpr (show g < 0 from h1) q.1)]; rfl
  · refine Exists.intro _ (And.intro hb ?_)
    refine And.intro (fun h2 => ?_) (fun h2 => ?_)
    · refine And.intro (Or.inl rfl) (And.intro ?_ rfl)
      rw [rb_f (fun q => Int32.not_lt.mpr h2 q.2)]; rfl
    · refine And.intro (Or.inr rfl) (And.intro ?_ rfl)
      rw [rb_t ⟨Int32.not_lt.mp h1, Int32.not_le.mp h2⟩]; rfl
/-- all worths 0 from now on -/
theorem t_begin {d N S : Nat} {n m : Int32} {f : Nat → Int32} {h : Nat → Option rr_E} (hb : h 1 = some (.inr (0, [.int n, .ref 2]))) (hv : h 2 = some (.inl (0, 16, .inl f))) : rr_Calls (d + 1) j_Game_begin [.ref 1, .int m] (N, S, h) (fun r R => r = none ∧ ∃ f', (∀ g, g < 16 → f' g = 0) ∧ R = (N, S, rr_set (rr_set h 1 (.inr (0, [.int m, .ref 2]))) 2 (.inl (0, 16, .inl f')))) := by
  refine rr_meth (C := K_Game_begin) (hd := h_Game_begin) (mx := 3) rfl rfl (fun K hK => ?_)
  have loop : ∀ (k g : Nat) (f' : Nat → Int32), g + k = 16 → (∀ i, i < g → f' i = 0) → K 5 [some (.ref 1), some (.int m), some (.int (nI g))] [] (N, S, rr_set (rr_set h 1 (.inr (0, [.int m, .ref 2]))) 2 (.inl (0, 16, .inl f'))) := by
    intro k
    induction k with
    | zero =>
      intro g f' hg hf
      refine hK _ _ _ _ ?_
      refine And.intro (fun h1 => ?_) (fun h1 => ?_)
      · exact And.intro rfl ⟨f', fun i hi => hf i (by omega), rfl⟩
      · exact absurd (show (16 : Int32) ≤ nI g by rw [show g = 16 by omega]; decide) h1
    | succ k ih =>
      intro g f' hg hf
      refine hK _ _ _ _ ?_
      refine And.intro (fun h1 => ?_) (fun h1 => ?_)
      · exact absurd h1 (nI_ge (b := 16) (by omega) (by decide))
      · refine Exists.intro _ (And.intro rfl ?_)
        refine Exists.intro _ (Exists.intro _ (And.intro rfl (And.intro (vp_in_nI (N := 16) (by omega) (by decide)) ?_)))
        have hc : (nI g).toNatClampNeg = g := nI_clamp (by omega)
        have := ih (g + 1) (upd f' g 0) (by omega) (fun i hi => by
          by_cases hi2 : i = g
          · subst hi2; exact pk_us
          · rw [pk_un hi2]; exact hf i (by omega))
        rw [nI_succ] at this
        rw [rr_set_set, hc]
        exact this
  refine hK _ _ _ _ ?_
  refine Exists.intro _ (And.intro hb ?_)
  have hl0 := loop 16 0 f rfl (fun i hi => absurd hi (Nat.not_lt_zero i))
  rw [rr_set_id (k := 2) (show rr_set h 1 (.inr (0, [.int m, .ref 2])) 2 = some (.inl (0, 16, .inl f)) from hv)] at hl0
  exact hl0
