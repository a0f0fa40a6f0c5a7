theorem tt_all {d b v N S : Nat} {n : Int32} {h : Nat → Option rr_E} (hb : h b = some (.inr (0, [.int n, .ref v]))) : rr_Calls (d + 1) j_Game_all [.ref b] (N, S, h) (fun r R => r = some (.int ((1 <<< (n &&& 31)) - 1)) ∧ R = (N, S, h)) := by
  refine rr_meth (C := K_Game_all) (hd := h_Game_all) (mx := 1) rfl rfl (fun K hK => ?_)
  refine hK _ _ _ _ ?_
  refine Exists.intro _ (And.intro hb ?_)
  exact And.intro rfl rfl
theorem tt_hasGroup {d b v N S : Nat} {n g : Int32} {h : Nat → Option rr_E} (hb : h b = some (.inr (0, [.int n, .ref v]))) : rr_Calls (d + 2) j_Game_hasGroup [.ref b, .int g] (N, S, h) (fun r R => r = some (.int (if 1 ≤ g ∧ g ≤ (1 <<< (n &&& 31)) - 1 then 1 else 0)) ∧ R = (N, S, h)) := by
  refine rr_meth (C := K_Game_hasGroup) (hd := h_Game_hasGroup) (mx := 2) rfl rfl (fun K hK => ?_)
  refine hK _ _ _ _ ?_
  refine And.intro (fun h1 => ?_) (fun h1 => ?_)
  · refine And.intro (Or.inl rfl) ?_
    trace_state
    sorry
  · refine Exists.intro _ (And.intro hb ?_)
    refine Exists.intro _ (And.intro (tt_all hb) ?_)
    intro r R hq
    obtain ⟨rfl, rfl⟩ := hq
    refine And.intro (fun h2 => ?_) (fun h2 => ?_)
    · refine And.intro (Or.inl rfl) ?_
      sorry
    · refine And.intro (Or.inr rfl) ?_
      sorry
