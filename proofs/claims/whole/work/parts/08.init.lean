theorem c_Game_init_1 {d S : Nat} {h : Nat → Option rr_E} (hb : h 1 = some (.inr (0, [.int 0, .null]))) : rr_Calls (d + 1) j_Game_init [.ref 1] (2, S, h) (fun r R => r = none ∧ R = (3, (S + 16), rr_set (rr_set (rr_set (h) 1 (.inr (0, [.int 3, .null]))) 2 (.inl (0, 16, .inl (fun _ => 0)))) 1 (.inr (0, [.int 3, .ref 2])))) := by
  refine rr_meth (C := K_Game_init) (hd := h_Game_init) (mx := 1) rfl rfl (fun K hK => ?_)
  refine hK _ _ _ _ ?_
  refine Exists.intro _ (And.intro hb ?_)
  refine And.intro ⟨by decide, by decide, by decide⟩ ?_
  refine Exists.intro _ (And.intro rfl ?_)
  exact And.intro rfl rfl
theorem c_Game_init_3 {d S : Nat} {h : Nat → Option rr_E} (hb : h 3 = some (.inr (0, [.int 0, .null]))) : rr_Calls (d + 1) j_Game_init [.ref 3] (4, S, h) (fun r R => r = none ∧ R = (5, (S + 16), rr_set (rr_set (rr_set (h) 3 (.inr (0, [.int 3, .null]))) 4 (.inl (0, 16, .inl (fun _ => 0)))) 3 (.inr (0, [.int 3, .ref 4])))) := by
  refine rr_meth (C := K_Game_init) (hd := h_Game_init) (mx := 1) rfl rfl (fun K hK => ?_)
  refine hK _ _ _ _ ?_
  refine Exists.intro _ (And.intro hb ?_)
  refine And.intro ⟨by decide, by decide, by decide⟩ ?_
  refine Exists.intro _ (And.intro rfl ?_)
  exact And.intro rfl rfl
theorem c_Game_init_5 {d S : Nat} {h : Nat → Option rr_E} (hb : h 5 = some (.inr (0, [.int 0, .null]))) : rr_Calls (d + 1) j_Game_init [.ref 5] (6, S, h) (fun r R => r = none ∧ R = (7, (S + 16), rr_set (rr_set (rr_set (h) 5 (.inr (0, [.int 3, .null]))) 6 (.inl (0, 16, .inl (fun _ => 0)))) 5 (.inr (0, [.int 3, .ref 6])))) := by
  refine rr_meth (C := K_Game_init) (hd := h_Game_init) (mx := 1) rfl rfl (fun K hK => ?_)
  refine hK _ _ _ _ ?_
  refine Exists.intro _ (And.intro hb ?_)
  refine And.intro ⟨by decide, by decide, by decide⟩ ?_
  refine Exists.intro _ (And.intro rfl ?_)
  exact And.intro rfl rfl
theorem c_Script_init_7 {d S : Nat} {h : Nat → Option rr_E} (hb : h 7 = some (.inr (2, [.int 0, .null, .null, .null, .null, .null, .int 0, .int 0, .int 0, .int 0]))) : rr_Calls (d + 1) j_Script_init [.ref 7] (8, S, h) (fun r R => r = none ∧ R = (13, (((((S + 100) + 25) + 25) + 25) + 16), rr_set (rr_set (rr_set (rr_set (rr_set (rr_set (rr_set (rr_set (rr_set (rr_set (rr_set (h) 7 (.inr (2, [.int 0, .null, .null, .null, .null, .null, .int 0, .int 0, .int 0, .int 0]))) 8 (.inl (0, 100, .inl (fun _ => 0)))) 7 (.inr (2, [.int 0, .ref 8, .null, .null, .null, .null, .int 0, .int 0, .int 0, .int 0]))) 9 (.inl (0, 25, .inl (fun _ => 0)))) 7 (.inr (2, [.int 0, .ref 8, .ref 9, .null, .null, .null, .int 0, .int 0, .int 0, .int 0]))) 10 (.inl (0, 25, .inl (fun _ => 0)))) 7 (.inr (2, [.int 0, .ref 8, .ref 9, .ref 10, .null, .null, .int 0, .int 0, .int 0, .int 0]))) 11 (.inl (0, 25, .inl (fun _ => 0)))) 7 (.inr (2, [.int 0, .ref 8, .ref 9, .ref 10, .ref 11, .null, .int 0, .int 0, .int 0, .int 0]))) 12 (.inl (0, 16, .inl (fun _ => 0)))) 7 (.inr (2, [.int 0, .ref 8, .ref 9, .ref 10, .ref 11, .ref 12, .int 0, .int 0, .int 0, .int 0])))) := by
  refine rr_meth (C := K_Script_init) (hd := h_Script_init) (mx := 1) rfl rfl (fun K hK => ?_)
  refine hK _ _ _ _ ?_
  refine Exists.intro _ (And.intro hb ?_)
  refine And.intro ⟨by decide, by decide, by decide⟩ ?_
  refine Exists.intro _ (And.intro rfl ?_)
  refine And.intro ⟨by decide, by decide, by decide⟩ ?_
  refine Exists.intro _ (And.intro rfl ?_)
  refine And.intro ⟨by decide, by decide, by decide⟩ ?_
  refine Exists.intro _ (And.intro rfl ?_)
  refine And.intro ⟨by decide, by decide, by decide⟩ ?_
  refine Exists.intro _ (And.intro rfl ?_)
  refine And.intro ⟨by decide, by decide, by decide⟩ ?_
  refine Exists.intro _ (And.intro rfl ?_)
  exact And.intro rfl rfl
theorem c_Shares_init_17 {d S : Nat} {h : Nat → Option rr_E} (hb : h 17 = some (.inr (3, [.long 0, .null, .null, .int 0, .int 0]))) : rr_Calls (d + 1) j_Shares_init [.ref 17] (18, S, h) (fun r R => r = none ∧ R = (20, ((S + 4) + 16), rr_set (rr_set (rr_set (rr_set (rr_set (rr_set (rr_set (h) 17 (.inr (3, [.long 1, .null, .null, .int 0, .int 0]))) 18 (.inl (1, 4, .inr (.inl (fun _ => 0))))) 17 (.inr (3, [.long 1, .ref 18, .null, .int 0, .int 0]))) 19 (.inl (1, 16, .inr (.inl (fun _ => 0))))) 17 (.inr (3, [.long 1, .ref 18, .ref 19, .int 0, .int 0]))) 17 (.inr (3, [.long 1, .ref 18, .ref 19, .int 2, .int 0]))) 17 (.inr (3, [.long 1, .ref 18, .ref 19, .int 2, .int 3])))) := by
  refine rr_meth (C := K_Shares_init) (hd := h_Shares_init) (mx := 1) rfl rfl (fun K hK => ?_)
  refine hK _ _ _ _ ?_
  refine Exists.intro _ (And.intro hb ?_)
  refine And.intro ⟨by decide, by decide, by decide⟩ ?_
  refine Exists.intro _ (And.intro rfl ?_)
  refine And.intro ⟨by decide, by decide, by decide⟩ ?_
  refine Exists.intro _ (And.intro rfl ?_)
  refine Exists.intro _ (And.intro rfl ?_)
  refine Exists.intro _ (And.intro rfl ?_)
  exact And.intro rfl rfl
set_option maxRecDepth 100000 in
set_option maxHeartbeats 4000000 in
theorem c_Stages_init_13 {d S : Nat} {h : Nat → Option rr_E} (hb : h 13 = some (.inr (4, [.int 0, .null, .null, .null, .null, .int 0, .null, .int 0, .int 0, .null, .null, .null, .null, .int 0, .long 0, .long 0]))) : rr_Calls (d + 2) j_Stages_init [.ref 13] (14, S, h) (fun r R => r = none ∧ R = (28, ((((((((((((S + 15) + 15) + 15) + 5) + 4) + 16) + 3) + 3 * 4) + 14) + 14) + 14) + 14), rr_set (rr_set (rr_set (rr_set (rr_set (rr_set (rr_set (rr_set (rr_set (rr_set (rr_setR (rr_set (rr_set (rr_set (rr_set (rr_set (rr_set (rr_set (rr_set (rr_set (rr_set (rr_set (rr_set (rr_set (rr_set (rr_set (h) 14 (.inl (1, 15, .inr (.inl (fun _ => 0))))) 13 (.inr (4, [.int 0, .ref 14, .null, .null, .null, .int 0, .null, .int 0, .int 0, .null, .null, .null, .null, .int 0, .long 0, .long 0]))) 15 (.inl (1, 15, .inr (.inl (fun _ => 0))))) 13 (.inr (4, [.int 0, .ref 14, .ref 15, .null, .null, .int 0, .null, .int 0, .int 0, .null, .null, .null, .null, .int 0, .long 0, .long 0]))) 16 (.inl (0, 15, .inl (fun _ => 0)))) 13 (.inr (4, [.int 0, .ref 14, .ref 15, .ref 16, .null, .int 0, .null, .int 0, .int 0, .null, .null, .null, .null, .int 0, .long 0, .long 0]))) 17 (.inr (3, [.long 0, .null, .null, .int 0, .int 0]))) 17 (.inr (3, [.long 1, .null, .null, .int 0, .int 0]))) 18 (.inl (1, 4, .inr (.inl (fun _ => 0))))) 17 (.inr (3, [.long 1, .ref 18, .null, .int 0, .int 0]))) 19 (.inl (1, 16, .inr (.inl (fun _ => 0))))) 17 (.inr (3, [.long 1, .ref 18, .ref 19, .int 0, .int 0]))) 17 (.inr (3, [.long 1, .ref 18, .ref 19, .int 2, .int 0]))) 17 (.inr (3, [.long 1, .ref 18, .ref 19, .int 2, .int 3]))) 13 (.inr (4, [.int 0, .ref 14, .ref 15, .ref 16, .ref 17, .int 0, .null, .int 0, .int 0, .null, .null, .null, .null, .int 0, .long 0, .long 0]))) 21 3 (.inl (1, 4, .inr (.inl (fun _ => 0))))) 20 (.inl (3, 3, .inr (.inr (.inr (.inr (fun i => if i < 3 then some (20 + 1 + i) else none))))))) 13 (.inr (4, [.int 0, .ref 14, .ref 15, .ref 16, .ref 17, .int 0, .ref 20, .int 0, .int 0, .null, .null, .null, .null, .int 0, .long 0, .long 0]))) 24 (.inl (0, 14, .inl (fun _ => 0)))) 13 (.inr (4, [.int 0, .ref 14, .ref 15, .ref 16, .ref 17, .int 0, .ref 20, .int 0, .int 0, .ref 24, .null, .null, .null, .int 0, .long 0, .long 0]))) 25 (.inl (1, 14, .inr (.inl (fun _ => 0))))) 13 (.inr (4, [.int 0, .ref 14, .ref 15, .ref 16, .ref 17, .int 0, .ref 20, .int 0, .int 0, .ref 24, .ref 25, .null, .null, .int 0, .long 0, .long 0]))) 26 (.inl (1, 14, .inr (.inl (fun _ => 0))))) 13 (.inr (4, [.int 0, .ref 14, .ref 15, .ref 16, .ref 17, .int 0, .ref 20, .int 0, .int 0, .ref 24, .ref 25, .ref 26, .null, .int 0, .long 0, .long 0]))) 27 (.inl (1, 14, .inr (.inl (fun _ => 0))))) 13 (.inr (4, [.int 0, .ref 14, .ref 15, .ref 16, .ref 17, .int 0, .ref 20, .int 0, .int 0, .ref 24, .ref 25, .ref 26, .ref 27, .int 0, .long 0, .long 0])))) := by
  refine rr_meth (C := K_Stages_init) (hd := h_Stages_init) (mx := 1) rfl rfl (fun K hK => ?_)
  refine hK _ _ _ _ ?_
  refine And.intro ⟨by decide, by decide, by decide⟩ ?_
  refine Exists.intro _ (And.intro hb ?_)
  refine And.intro ⟨by decide, by decide, by decide⟩ ?_
  refine Exists.intro _ (And.intro rfl ?_)
  refine And.intro ⟨by decide, by decide, by decide⟩ ?_
  refine Exists.intro _ (And.intro rfl ?_)
  refine Exists.intro _ (And.intro (c_Shares_init_17 rfl) ?_)
  rintro _ _ ⟨rfl, rfl⟩
  refine Exists.intro _ (And.intro rfl ?_)
  refine And.intro ⟨by decide, by decide, by decide, by decide, (by decide : (_ : Nat) < 1000000)⟩ ?_
  refine Exists.intro _ (And.intro rfl ?_)
  refine And.intro ⟨by decide, by decide, by decide⟩ ?_
  refine Exists.intro _ (And.intro rfl ?_)
  refine And.intro ⟨by decide, by decide, by decide⟩ ?_
  refine Exists.intro _ (And.intro rfl ?_)
  refine And.intro ⟨by decide, by decide, by decide⟩ ?_
  refine Exists.intro _ (And.intro rfl ?_)
  refine And.intro ⟨by decide, by decide, by decide⟩ ?_
  refine Exists.intro _ (And.intro rfl ?_)
  exact And.intro rfl rfl
theorem c_Shares_init_32 {d S : Nat} {h : Nat → Option rr_E} (hb : h 32 = some (.inr (3, [.long 0, .null, .null, .int 0, .int 0]))) : rr_Calls (d + 1) j_Shares_init [.ref 32] (33, S, h) (fun r R => r = none ∧ R = (35, ((S + 4) + 16), rr_set (rr_set (rr_set (rr_set (rr_set (rr_set (rr_set (h) 32 (.inr (3, [.long 1, .null, .null, .int 0, .int 0]))) 33 (.inl (1, 4, .inr (.inl (fun _ => 0))))) 32 (.inr (3, [.long 1, .ref 33, .null, .int 0, .int 0]))) 34 (.inl (1, 16, .inr (.inl (fun _ => 0))))) 32 (.inr (3, [.long 1, .ref 33, .ref 34, .int 0, .int 0]))) 32 (.inr (3, [.long 1, .ref 33, .ref 34, .int 2, .int 0]))) 32 (.inr (3, [.long 1, .ref 33, .ref 34, .int 2, .int 3])))) := by
  refine rr_meth (C := K_Shares_init) (hd := h_Shares_init) (mx := 1) rfl rfl (fun K hK => ?_)
  refine hK _ _ _ _ ?_
  refine Exists.intro _ (And.intro hb ?_)
  refine And.intro ⟨by decide, by decide, by decide⟩ ?_
  refine Exists.intro _ (And.intro rfl ?_)
  refine And.intro ⟨by decide, by decide, by decide⟩ ?_
  refine Exists.intro _ (And.intro rfl ?_)
  refine Exists.intro _ (And.intro rfl ?_)
  refine Exists.intro _ (And.intro rfl ?_)
  exact And.intro rfl rfl
set_option maxRecDepth 100000 in
set_option maxHeartbeats 4000000 in
theorem c_Stages_init_28 {d S : Nat} {h : Nat → Option rr_E} (hb : h 28 = some (.inr (4, [.int 0, .null, .null, .null, .null, .int 0, .null, .int 0, .int 0, .null, .null, .null, .null, .int 0, .long 0, .long 0]))) : rr_Calls (d + 2) j_Stages_init [.ref 28] (29, S, h) (fun r R => r = none ∧ R = (43, ((((((((((((S + 15) + 15) + 15) + 5) + 4) + 16) + 3) + 3 * 4) + 14) + 14) + 14) + 14), rr_set (rr_set (rr_set (rr_set (rr_set (rr_set (rr_set (rr_set (rr_set (rr_set (rr_setR (rr_set (rr_set (rr_set (rr_set (rr_set (rr_set (rr_set (rr_set (rr_set (rr_set (rr_set (rr_set (rr_set (rr_set (rr_set (h) 29 (.inl (1, 15, .inr (.inl (fun _ => 0))))) 28 (.inr (4, [.int 0, .ref 29, .null, .null, .null, .int 0, .null, .int 0, .int 0, .null, .null, .null, .null, .int 0, .long 0, .long 0]))) 30 (.inl (1, 15, .inr (.inl (fun _ => 0))))) 28 (.inr (4, [.int 0, .ref 29, .ref 30, .null, .null, .int 0, .null, .int 0, .int 0, .null, .null, .null, .null, .int 0, .long 0, .long 0]))) 31 (.inl (0, 15, .inl (fun _ => 0)))) 28 (.inr (4, [.int 0, .ref 29, .ref 30, .ref 31, .null, .int 0, .null, .int 0, .int 0, .null, .null, .null, .null, .int 0, .long 0, .long 0]))) 32 (.inr (3, [.long 0, .null, .null, .int 0, .int 0]))) 32 (.inr (3, [.long 1, .null, .null, .int 0, .int 0]))) 33 (.inl (1, 4, .inr (.inl (fun _ => 0))))) 32 (.inr (3, [.long 1, .ref 33, .null, .int 0, .int 0]))) 34 (.inl (1, 16, .inr (.inl (fun _ => 0))))) 32 (.inr (3, [.long 1, .ref 33, .ref 34, .int 0, .int 0]))) 32 (.inr (3, [.long 1, .ref 33, .ref 34, .int 2, .int 0]))) 32 (.inr (3, [.long 1, .ref 33, .ref 34, .int 2, .int 3]))) 28 (.inr (4, [.int 0, .ref 29, .ref 30, .ref 31, .ref 32, .int 0, .null, .int 0, .int 0, .null, .null, .null, .null, .int 0, .long 0, .long 0]))) 36 3 (.inl (1, 4, .inr (.inl (fun _ => 0))))) 35 (.inl (3, 3, .inr (.inr (.inr (.inr (fun i => if i < 3 then some (35 + 1 + i) else none))))))) 28 (.inr (4, [.int 0, .ref 29, .ref 30, .ref 31, .ref 32, .int 0, .ref 35, .int 0, .int 0, .null, .null, .null, .null, .int 0, .long 0, .long 0]))) 39 (.inl (0, 14, .inl (fun _ => 0)))) 28 (.inr (4, [.int 0, .ref 29, .ref 30, .ref 31, .ref 32, .int 0, .ref 35, .int 0, .int 0, .ref 39, .null, .null, .null, .int 0, .long 0, .long 0]))) 40 (.inl (1, 14, .inr (.inl (fun _ => 0))))) 28 (.inr (4, [.int 0, .ref 29, .ref 30, .ref 31, .ref 32, .int 0, .ref 35, .int 0, .int 0, .ref 39, .ref 40, .null, .null, .int 0, .long 0, .long 0]))) 41 (.inl (1, 14, .inr (.inl (fun _ => 0))))) 28 (.inr (4, [.int 0, .ref 29, .ref 30, .ref 31, .ref 32, .int 0, .ref 35, .int 0, .int 0, .ref 39, .ref 40, .ref 41, .null, .int 0, .long 0, .long 0]))) 42 (.inl (1, 14, .inr (.inl (fun _ => 0))))) 28 (.inr (4, [.int 0, .ref 29, .ref 30, .ref 31, .ref 32, .int 0, .ref 35, .int 0, .int 0, .ref 39, .ref 40, .ref 41, .ref 42, .int 0, .long 0, .long 0])))) := by
  refine rr_meth (C := K_Stages_init) (hd := h_Stages_init) (mx := 1) rfl rfl (fun K hK => ?_)
  refine hK _ _ _ _ ?_
  refine And.intro ⟨by decide, by decide, by decide⟩ ?_
  refine Exists.intro _ (And.intro hb ?_)
  refine And.intro ⟨by decide, by decide, by decide⟩ ?_
  refine Exists.intro _ (And.intro rfl ?_)
  refine And.intro ⟨by decide, by decide, by decide⟩ ?_
  refine Exists.intro _ (And.intro rfl ?_)
  refine Exists.intro _ (And.intro (c_Shares_init_32 rfl) ?_)
  rintro _ _ ⟨rfl, rfl⟩
  refine Exists.intro _ (And.intro rfl ?_)
  refine And.intro ⟨by decide, by decide, by decide, by decide, (by decide : (_ : Nat) < 1000000)⟩ ?_
  refine Exists.intro _ (And.intro rfl ?_)
  refine And.intro ⟨by decide, by decide, by decide⟩ ?_
  refine Exists.intro _ (And.intro rfl ?_)
  refine And.intro ⟨by decide, by decide, by decide⟩ ?_
  refine Exists.intro _ (And.intro rfl ?_)
  refine And.intro ⟨by decide, by decide, by decide⟩ ?_
  refine Exists.intro _ (And.intro rfl ?_)
  refine And.intro ⟨by decide, by decide, by decide⟩ ?_
  refine Exists.intro _ (And.intro rfl ?_)
  exact And.intro rfl rfl
theorem c_Shares_init_43 {d S : Nat} {h : Nat → Option rr_E} (hb : h 43 = some (.inr (3, [.long 0, .null, .null, .int 0, .int 0]))) : rr_Calls (d + 1) j_Shares_init [.ref 43] (44, S, h) (fun r R => r = none ∧ R = (46, ((S + 4) + 16), rr_set (rr_set (rr_set (rr_set (rr_set (rr_set (rr_set (h) 43 (.inr (3, [.long 1, .null, .null, .int 0, .int 0]))) 44 (.inl (1, 4, .inr (.inl (fun _ => 0))))) 43 (.inr (3, [.long 1, .ref 44, .null, .int 0, .int 0]))) 45 (.inl (1, 16, .inr (.inl (fun _ => 0))))) 43 (.inr (3, [.long 1, .ref 44, .ref 45, .int 0, .int 0]))) 43 (.inr (3, [.long 1, .ref 44, .ref 45, .int 2, .int 0]))) 43 (.inr (3, [.long 1, .ref 44, .ref 45, .int 2, .int 3])))) := by
  refine rr_meth (C := K_Shares_init) (hd := h_Shares_init) (mx := 1) rfl rfl (fun K hK => ?_)
  refine hK _ _ _ _ ?_
  refine Exists.intro _ (And.intro hb ?_)
  refine And.intro ⟨by decide, by decide, by decide⟩ ?_
  refine Exists.intro _ (And.intro rfl ?_)
  refine And.intro ⟨by decide, by decide, by decide⟩ ?_
  refine Exists.intro _ (And.intro rfl ?_)
  refine Exists.intro _ (And.intro rfl ?_)
  refine Exists.intro _ (And.intro rfl ?_)
  exact And.intro rfl rfl
theorem c_Shares_init_46 {d S : Nat} {h : Nat → Option rr_E} (hb : h 46 = some (.inr (3, [.long 0, .null, .null, .int 0, .int 0]))) : rr_Calls (d + 1) j_Shares_init [.ref 46] (47, S, h) (fun r R => r = none ∧ R = (49, ((S + 4) + 16), rr_set (rr_set (rr_set (rr_set (rr_set (rr_set (rr_set (h) 46 (.inr (3, [.long 1, .null, .null, .int 0, .int 0]))) 47 (.inl (1, 4, .inr (.inl (fun _ => 0))))) 46 (.inr (3, [.long 1, .ref 47, .null, .int 0, .int 0]))) 48 (.inl (1, 16, .inr (.inl (fun _ => 0))))) 46 (.inr (3, [.long 1, .ref 47, .ref 48, .int 0, .int 0]))) 46 (.inr (3, [.long 1, .ref 47, .ref 48, .int 2, .int 0]))) 46 (.inr (3, [.long 1, .ref 47, .ref 48, .int 2, .int 3])))) := by
  refine rr_meth (C := K_Shares_init) (hd := h_Shares_init) (mx := 1) rfl rfl (fun K hK => ?_)
  refine hK _ _ _ _ ?_
  refine Exists.intro _ (And.intro hb ?_)
  refine And.intro ⟨by decide, by decide, by decide⟩ ?_
  refine Exists.intro _ (And.intro rfl ?_)
  refine And.intro ⟨by decide, by decide, by decide⟩ ?_
  refine Exists.intro _ (And.intro rfl ?_)
  refine Exists.intro _ (And.intro rfl ?_)
  refine Exists.intro _ (And.intro rfl ?_)
  exact And.intro rfl rfl
theorem c_Weights_init_49 {d S : Nat} {h : Nat → Option rr_E} (hb : h 49 = some (.inr (5, [.null, .int 0, .int 0]))) : rr_Calls (d + 1) j_Weights_init [.ref 49] (50, S, h) (fun r R => r = none ∧ R = (51, (S + 16), rr_set (rr_set (rr_set (rr_set (h) 50 (.inl (1, 16, .inr (.inl (fun _ => 0))))) 49 (.inr (5, [.ref 50, .int 0, .int 0]))) 49 (.inr (5, [.ref 50, .int 2, .int 0]))) 49 (.inr (5, [.ref 50, .int 2, .int 3])))) := by
  refine rr_meth (C := K_Weights_init) (hd := h_Weights_init) (mx := 1) rfl rfl (fun K hK => ?_)
  refine hK _ _ _ _ ?_
  refine And.intro ⟨by decide, by decide, by decide⟩ ?_
  refine Exists.intro _ (And.intro hb ?_)
  refine Exists.intro _ (And.intro rfl ?_)
  refine Exists.intro _ (And.intro rfl ?_)
  exact And.intro rfl rfl
theorem c_Rows_init_51 {d S : Nat} {h : Nat → Option rr_E} (hb : h 51 = some (.inr (1, [.null, .null]))) : rr_Calls (d + 1) j_Rows_init [.ref 51] (52, S, h) (fun r R => r = none ∧ R = (58, (((S + 4) + 4 * 30) + 4), rr_set (rr_set (rr_set (rr_set (rr_set (rr_set (rr_set (rr_set (rr_setR (h) 53 4 (.inl (1, 30, .inr (.inl (fun _ => 0))))) 52 (.inl (3, 4, .inr (.inr (.inr (.inr (fun i => if i < 4 then some (52 + 1 + i) else none))))))) 51 (.inr (1, [.ref 52, .null]))) 57 (.inl (0, 4, .inl (fun _ => 0)))) 57 (.inl (0, 4, .inl (upd (fun _ => 0) 0 (-1))))) 57 (.inl (0, 4, .inl (upd (upd (fun _ => 0) 0 (-1)) 1 (-1))))) 57 (.inl (0, 4, .inl (upd (upd (upd (fun _ => 0) 0 (-1)) 1 (-1)) 2 (-1))))) 57 (.inl (0, 4, .inl (upd (upd (upd (upd (fun _ => 0) 0 (-1)) 1 (-1)) 2 (-1)) 3 (-1))))) 51 (.inr (1, [.ref 52, .ref 57])))) := by
  refine rr_meth (C := K_Rows_init) (hd := h_Rows_init) (mx := 1) rfl rfl (fun K hK => ?_)
  refine hK _ _ _ _ ?_
  refine And.intro ⟨by decide, by decide, by decide, by decide, (by decide : (_ : Nat) < 1000000)⟩ ?_
  refine Exists.intro _ (And.intro hb ?_)
  refine And.intro ⟨by decide, by decide, by decide⟩ ?_
  refine Exists.intro _ (Exists.intro _ (And.intro rfl (And.intro (by unfold vp_in; decide) ?_)))
  refine Exists.intro _ (Exists.intro _ (And.intro rfl (And.intro (by unfold vp_in; decide) ?_)))
  refine Exists.intro _ (Exists.intro _ (And.intro rfl (And.intro (by unfold vp_in; decide) ?_)))
  refine Exists.intro _ (Exists.intro _ (And.intro rfl (And.intro (by unfold vp_in; decide) ?_)))
  refine Exists.intro _ (And.intro rfl ?_)
  exact And.intro rfl rfl
set_option maxRecDepth 100000 in
set_option maxHeartbeats 4000000 in
theorem c_Desk_init_0 {d S : Nat} {h : Nat → Option rr_E} (hb : h 0 = some (.inr (6, [.null, .null, .null, .null, .null, .null, .null, .null, .null, .null, .int 0, .int 0]))) : rr_Calls (d + 3) j_Desk_init [.ref 0] (1, S, h) (fun r R => r = none ∧ R = (58, ((((((((((((((((((((((((((((((((((((((((((((((((((S + 2) + 16) + 2) + 16) + 2) + 16) + 10) + 100) + 25) + 25) + 25) + 16) + 16) + 15) + 15) + 15) + 5) + 4) + 16) + 3) + 3 * 4) + 14) + 14) + 14) + 14) + 16) + 15) + 15) + 15) + 5) + 4) + 16) + 3) + 3 * 4) + 14) + 14) + 14) + 14) + 5) + 4) + 16) + 5) + 4) + 16) + 3) + 16) + 2) + 4) + 4 * 30) + 4), rr_set (rr_set (rr_set (rr_set (rr_set (rr_set (rr_set (rr_set (rr_set (rr_set (rr_set (rr_setR (rr_set (rr_set (rr_set (rr_set (rr_set (rr_set (rr_set (rr_set (rr_set (rr_set (rr_set (rr_set (rr_set (rr_set (rr_set (rr_set (rr_set (rr_set (rr_set (rr_set (rr_set (rr_set (rr_set (rr_set (rr_set (rr_set (rr_set (rr_set (rr_set (rr_set (rr_set (rr_set (rr_set (rr_set (rr_set (rr_set (rr_setR (rr_set (rr_set (rr_set (rr_set (rr_set (rr_set (rr_set (rr_set (rr_set (rr_set (rr_set (rr_set (rr_set (rr_set (rr_set (rr_set (rr_set (rr_set (rr_set (rr_set (rr_set (rr_set (rr_set (rr_set (rr_set (rr_set (rr_set (rr_setR (rr_set (rr_set (rr_set (rr_set (rr_set (rr_set (rr_set (rr_set (rr_set (rr_set (rr_set (rr_set (rr_set (rr_set (rr_set (rr_set (rr_set (rr_set (rr_set (rr_set (rr_set (rr_set (rr_set (rr_set (rr_set (rr_set (rr_set (rr_set (rr_set (rr_set (rr_set (rr_set (rr_set (rr_set (rr_set (rr_set (rr_set (rr_set (rr_set (rr_set (rr_set (rr_set (rr_set (rr_set (h) 1 (.inr (0, [.int 0, .null]))) 1 (.inr (0, [.int 3, .null]))) 2 (.inl (0, 16, .inl (fun _ => 0)))) 1 (.inr (0, [.int 3, .ref 2]))) 0 (.inr (6, [.ref 1, .null, .null, .null, .null, .null, .null, .null, .null, .null, .int 0, .int 0]))) 3 (.inr (0, [.int 0, .null]))) 3 (.inr (0, [.int 3, .null]))) 4 (.inl (0, 16, .inl (fun _ => 0)))) 3 (.inr (0, [.int 3, .ref 4]))) 0 (.inr (6, [.ref 1, .ref 3, .null, .null, .null, .null, .null, .null, .null, .null, .int 0, .int 0]))) 5 (.inr (0, [.int 0, .null]))) 5 (.inr (0, [.int 3, .null]))) 6 (.inl (0, 16, .inl (fun _ => 0)))) 5 (.inr (0, [.int 3, .ref 6]))) 0 (.inr (6, [.ref 1, .ref 3, .ref 5, .null, .null, .null, .null, .null, .null, .null, .int 0, .int 0]))) 7 (.inr (2, [.int 0, .null, .null, .null, .null, .null, .int 0, .int 0, .int 0, .int 0]))) 7 (.inr (2, [.int 0, .null, .null, .null, .null, .null, .int 0, .int 0, .int 0, .int 0]))) 8 (.inl (0, 100, .inl (fun _ => 0)))) 7 (.inr (2, [.int 0, .ref 8, .null, .null, .null, .null, .int 0, .int 0, .int 0, .int 0]))) 9 (.inl (0, 25, .inl (fun _ => 0)))) 7 (.inr (2, [.int 0, .ref 8, .ref 9, .null, .null, .null, .int 0, .int 0, .int 0, .int 0]))) 10 (.inl (0, 25, .inl (fun _ => 0)))) 7 (.inr (2, [.int 0, .ref 8, .ref 9, .ref 10, .null, .null, .int 0, .int 0, .int 0, .int 0]))) 11 (.inl (0, 25, .inl (fun _ => 0)))) 7 (.inr (2, [.int 0, .ref 8, .ref 9, .ref 10, .ref 11, .null, .int 0, .int 0, .int 0, .int 0]))) 12 (.inl (0, 16, .inl (fun _ => 0)))) 7 (.inr (2, [.int 0, .ref 8, .ref 9, .ref 10, .ref 11, .ref 12, .int 0, .int 0, .int 0, .int 0]))) 0 (.inr (6, [.ref 1, .ref 3, .ref 5, .ref 7, .null, .null, .null, .null, .null, .null, .int 0, .int 0]))) 13 (.inr (4, [.int 0, .null, .null, .null, .null, .int 0, .null, .int 0, .int 0, .null, .null, .null, .null, .int 0, .long 0, .long 0]))) 14 (.inl (1, 15, .inr (.inl (fun _ => 0))))) 13 (.inr (4, [.int 0, .ref 14, .null, .null, .null, .int 0, .null, .int 0, .int 0, .null, .null, .null, .null, .int 0, .long 0, .long 0]))) 15 (.inl (1, 15, .inr (.inl (fun _ => 0))))) 13 (.inr (4, [.int 0, .ref 14, .ref 15, .null, .null, .int 0, .null, .int 0, .int 0, .null, .null, .null, .null, .int 0, .long 0, .long 0]))) 16 (.inl (0, 15, .inl (fun _ => 0)))) 13 (.inr (4, [.int 0, .ref 14, .ref 15, .ref 16, .null, .int 0, .null, .int 0, .int 0, .null, .null, .null, .null, .int 0, .long 0, .long 0]))) 17 (.inr (3, [.long 0, .null, .null, .int 0, .int 0]))) 17 (.inr (3, [.long 1, .null, .null, .int 0, .int 0]))) 18 (.inl (1, 4, .inr (.inl (fun _ => 0))))) 17 (.inr (3, [.long 1, .ref 18, .null, .int 0, .int 0]))) 19 (.inl (1, 16, .inr (.inl (fun _ => 0))))) 17 (.inr (3, [.long 1, .ref 18, .ref 19, .int 0, .int 0]))) 17 (.inr (3, [.long 1, .ref 18, .ref 19, .int 2, .int 0]))) 17 (.inr (3, [.long 1, .ref 18, .ref 19, .int 2, .int 3]))) 13 (.inr (4, [.int 0, .ref 14, .ref 15, .ref 16, .ref 17, .int 0, .null, .int 0, .int 0, .null, .null, .null, .null, .int 0, .long 0, .long 0]))) 21 3 (.inl (1, 4, .inr (.inl (fun _ => 0))))) 20 (.inl (3, 3, .inr (.inr (.inr (.inr (fun i => if i < 3 then some (20 + 1 + i) else none))))))) 13 (.inr (4, [.int 0, .ref 14, .ref 15, .ref 16, .ref 17, .int 0, .ref 20, .int 0, .int 0, .null, .null, .null, .null, .int 0, .long 0, .long 0]))) 24 (.inl (0, 14, .inl (fun _ => 0)))) 13 (.inr (4, [.int 0, .ref 14, .ref 15, .ref 16, .ref 17, .int 0, .ref 20, .int 0, .int 0, .ref 24, .null, .null, .null, .int 0, .long 0, .long 0]))) 25 (.inl (1, 14, .inr (.inl (fun _ => 0))))) 13 (.inr (4, [.int 0, .ref 14, .ref 15, .ref 16, .ref 17, .int 0, .ref 20, .int 0, .int 0, .ref 24, .ref 25, .null, .null, .int 0, .long 0, .long 0]))) 26 (.inl (1, 14, .inr (.inl (fun _ => 0))))) 13 (.inr (4, [.int 0, .ref 14, .ref 15, .ref 16, .ref 17, .int 0, .ref 20, .int 0, .int 0, .ref 24, .ref 25, .ref 26, .null, .int 0, .long 0, .long 0]))) 27 (.inl (1, 14, .inr (.inl (fun _ => 0))))) 13 (.inr (4, [.int 0, .ref 14, .ref 15, .ref 16, .ref 17, .int 0, .ref 20, .int 0, .int 0, .ref 24, .ref 25, .ref 26, .ref 27, .int 0, .long 0, .long 0]))) 0 (.inr (6, [.ref 1, .ref 3, .ref 5, .ref 7, .ref 13, .null, .null, .null, .null, .null, .int 0, .int 0]))) 28 (.inr (4, [.int 0, .null, .null, .null, .null, .int 0, .null, .int 0, .int 0, .null, .null, .null, .null, .int 0, .long 0, .long 0]))) 29 (.inl (1, 15, .inr (.inl (fun _ => 0))))) 28 (.inr (4, [.int 0, .ref 29, .null, .null, .null, .int 0, .null, .int 0, .int 0, .null, .null, .null, .null, .int 0, .long 0, .long 0]))) 30 (.inl (1, 15, .inr (.inl (fun _ => 0))))) 28 (.inr (4, [.int 0, .ref 29, .ref 30, .null, .null, .int 0, .null, .int 0, .int 0, .null, .null, .null, .null, .int 0, .long 0, .long 0]))) 31 (.inl (0, 15, .inl (fun _ => 0)))) 28 (.inr (4, [.int 0, .ref 29, .ref 30, .ref 31, .null, .int 0, .null, .int 0, .int 0, .null, .null, .null, .null, .int 0, .long 0, .long 0]))) 32 (.inr (3, [.long 0, .null, .null, .int 0, .int 0]))) 32 (.inr (3, [.long 1, .null, .null, .int 0, .int 0]))) 33 (.inl (1, 4, .inr (.inl (fun _ => 0))))) 32 (.inr (3, [.long 1, .ref 33, .null, .int 0, .int 0]))) 34 (.inl (1, 16, .inr (.inl (fun _ => 0))))) 32 (.inr (3, [.long 1, .ref 33, .ref 34, .int 0, .int 0]))) 32 (.inr (3, [.long 1, .ref 33, .ref 34, .int 2, .int 0]))) 32 (.inr (3, [.long 1, .ref 33, .ref 34, .int 2, .int 3]))) 28 (.inr (4, [.int 0, .ref 29, .ref 30, .ref 31, .ref 32, .int 0, .null, .int 0, .int 0, .null, .null, .null, .null, .int 0, .long 0, .long 0]))) 36 3 (.inl (1, 4, .inr (.inl (fun _ => 0))))) 35 (.inl (3, 3, .inr (.inr (.inr (.inr (fun i => if i < 3 then some (35 + 1 + i) else none))))))) 28 (.inr (4, [.int 0, .ref 29, .ref 30, .ref 31, .ref 32, .int 0, .ref 35, .int 0, .int 0, .null, .null, .null, .null, .int 0, .long 0, .long 0]))) 39 (.inl (0, 14, .inl (fun _ => 0)))) 28 (.inr (4, [.int 0, .ref 29, .ref 30, .ref 31, .ref 32, .int 0, .ref 35, .int 0, .int 0, .ref 39, .null, .null, .null, .int 0, .long 0, .long 0]))) 40 (.inl (1, 14, .inr (.inl (fun _ => 0))))) 28 (.inr (4, [.int 0, .ref 29, .ref 30, .ref 31, .ref 32, .int 0, .ref 35, .int 0, .int 0, .ref 39, .ref 40, .null, .null, .int 0, .long 0, .long 0]))) 41 (.inl (1, 14, .inr (.inl (fun _ => 0))))) 28 (.inr (4, [.int 0, .ref 29, .ref 30, .ref 31, .ref 32, .int 0, .ref 35, .int 0, .int 0, .ref 39, .ref 40, .ref 41, .null, .int 0, .long 0, .long 0]))) 42 (.inl (1, 14, .inr (.inl (fun _ => 0))))) 28 (.inr (4, [.int 0, .ref 29, .ref 30, .ref 31, .ref 32, .int 0, .ref 35, .int 0, .int 0, .ref 39, .ref 40, .ref 41, .ref 42, .int 0, .long 0, .long 0]))) 0 (.inr (6, [.ref 1, .ref 3, .ref 5, .ref 7, .ref 13, .ref 28, .null, .null, .null, .null, .int 0, .int 0]))) 43 (.inr (3, [.long 0, .null, .null, .int 0, .int 0]))) 43 (.inr (3, [.long 1, .null, .null, .int 0, .int 0]))) 44 (.inl (1, 4, .inr (.inl (fun _ => 0))))) 43 (.inr (3, [.long 1, .ref 44, .null, .int 0, .int 0]))) 45 (.inl (1, 16, .inr (.inl (fun _ => 0))))) 43 (.inr (3, [.long 1, .ref 44, .ref 45, .int 0, .int 0]))) 43 (.inr (3, [.long 1, .ref 44, .ref 45, .int 2, .int 0]))) 43 (.inr (3, [.long 1, .ref 44, .ref 45, .int 2, .int 3]))) 0 (.inr (6, [.ref 1, .ref 3, .ref 5, .ref 7, .ref 13, .ref 28, .ref 43, .null, .null, .null, .int 0, .int 0]))) 46 (.inr (3, [.long 0, .null, .null, .int 0, .int 0]))) 46 (.inr (3, [.long 1, .null, .null, .int 0, .int 0]))) 47 (.inl (1, 4, .inr (.inl (fun _ => 0))))) 46 (.inr (3, [.long 1, .ref 47, .null, .int 0, .int 0]))) 48 (.inl (1, 16, .inr (.inl (fun _ => 0))))) 46 (.inr (3, [.long 1, .ref 47, .ref 48, .int 0, .int 0]))) 46 (.inr (3, [.long 1, .ref 47, .ref 48, .int 2, .int 0]))) 46 (.inr (3, [.long 1, .ref 47, .ref 48, .int 2, .int 3]))) 0 (.inr (6, [.ref 1, .ref 3, .ref 5, .ref 7, .ref 13, .ref 28, .ref 43, .ref 46, .null, .null, .int 0, .int 0]))) 49 (.inr (5, [.null, .int 0, .int 0]))) 50 (.inl (1, 16, .inr (.inl (fun _ => 0))))) 49 (.inr (5, [.ref 50, .int 0, .int 0]))) 49 (.inr (5, [.ref 50, .int 2, .int 0]))) 49 (.inr (5, [.ref 50, .int 2, .int 3]))) 0 (.inr (6, [.ref 1, .ref 3, .ref 5, .ref 7, .ref 13, .ref 28, .ref 43, .ref 46, .ref 49, .null, .int 0, .int 0]))) 51 (.inr (1, [.null, .null]))) 53 4 (.inl (1, 30, .inr (.inl (fun _ => 0))))) 52 (.inl (3, 4, .inr (.inr (.inr (.inr (fun i => if i < 4 then some (52 + 1 + i) else none))))))) 51 (.inr (1, [.ref 52, .null]))) 57 (.inl (0, 4, .inl (fun _ => 0)))) 57 (.inl (0, 4, .inl (upd (fun _ => 0) 0 (-1))))) 57 (.inl (0, 4, .inl (upd (upd (fun _ => 0) 0 (-1)) 1 (-1))))) 57 (.inl (0, 4, .inl (upd (upd (upd (fun _ => 0) 0 (-1)) 1 (-1)) 2 (-1))))) 57 (.inl (0, 4, .inl (upd (upd (upd (upd (fun _ => 0) 0 (-1)) 1 (-1)) 2 (-1)) 3 (-1))))) 51 (.inr (1, [.ref 52, .ref 57]))) 0 (.inr (6, [.ref 1, .ref 3, .ref 5, .ref 7, .ref 13, .ref 28, .ref 43, .ref 46, .ref 49, .ref 51, .int 0, .int 0]))) 0 (.inr (6, [.ref 1, .ref 3, .ref 5, .ref 7, .ref 13, .ref 28, .ref 43, .ref 46, .ref 49, .ref 51, .int 1, .int 0]))) 0 (.inr (6, [.ref 1, .ref 3, .ref 5, .ref 7, .ref 13, .ref 28, .ref 43, .ref 46, .ref 49, .ref 51, .int 1, .int 0])))) := by
  refine rr_meth (C := K_Desk_init) (hd := h_Desk_init) (mx := 1) rfl rfl (fun K hK => ?_)
  refine hK _ _ _ _ ?_
  refine Exists.intro _ (And.intro (c_Game_init_1 rfl) ?_)
  rintro _ _ ⟨rfl, rfl⟩
  refine Exists.intro _ (And.intro hb ?_)
  refine Exists.intro _ (And.intro (c_Game_init_3 rfl) ?_)
  rintro _ _ ⟨rfl, rfl⟩
  refine Exists.intro _ (And.intro rfl ?_)
  refine Exists.intro _ (And.intro (c_Game_init_5 rfl) ?_)
  rintro _ _ ⟨rfl, rfl⟩
  refine Exists.intro _ (And.intro rfl ?_)
  refine Exists.intro _ (And.intro (c_Script_init_7 rfl) ?_)
  rintro _ _ ⟨rfl, rfl⟩
  refine Exists.intro _ (And.intro rfl ?_)
  refine Exists.intro _ (And.intro (c_Stages_init_13 rfl) ?_)
  rintro _ _ ⟨rfl, rfl⟩
  refine Exists.intro _ (And.intro rfl ?_)
  refine Exists.intro _ (And.intro (c_Stages_init_28 rfl) ?_)
  rintro _ _ ⟨rfl, rfl⟩
  refine Exists.intro _ (And.intro rfl ?_)
  refine Exists.intro _ (And.intro (c_Shares_init_43 rfl) ?_)
  rintro _ _ ⟨rfl, rfl⟩
  refine Exists.intro _ (And.intro rfl ?_)
  refine Exists.intro _ (And.intro (c_Shares_init_46 rfl) ?_)
  rintro _ _ ⟨rfl, rfl⟩
  refine Exists.intro _ (And.intro rfl ?_)
  refine Exists.intro _ (And.intro (c_Weights_init_49 rfl) ?_)
  rintro _ _ ⟨rfl, rfl⟩
  refine Exists.intro _ (And.intro rfl ?_)
  refine Exists.intro _ (And.intro (c_Rows_init_51 rfl) ?_)
  rintro _ _ ⟨rfl, rfl⟩
  refine Exists.intro _ (And.intro rfl ?_)
  refine And.intro (by decide) ?_
  refine Exists.intro _ (And.intro rfl ?_)
  refine And.intro (by decide) ?_
  refine Exists.intro _ (And.intro rfl ?_)
  exact And.intro rfl rfl
set_option maxRecDepth 100000 in
set_option maxHeartbeats 4000000 in
theorem c_Model_init_58 {d S : Nat} {h : Nat → Option rr_E} (hb : h 58 = some (.inr (7, [.int 0, .int 0, .null, .null, .int 0, .null, .int 0, .int 0, .int 0, .int 0, .null, .null, .null, .int 0, .null, .null, .null, .int 0, .null, .int 0, .null, .long 0, .int 0, .int 0, .null, .null, .null, .null, .int 0, .long 0, .long 0, .long 0, .int 0, .null, .int 0, .long 0, .int 0, .long 0, .null, .null, .int 0, .null, .null, .null]))) : rr_Calls (d + 1) j_Model_init [.ref 58] (59, S, h) (fun r R => r = none ∧ R = (80, (((((((((((((((((((((S + 16) + 16) + 100) + 26) + 26) + 26) + 16) + 5) + 5) + 30) + 5) + 16) + 16) + 16) + 16) + 25) + 4) + 14) + 4) + 4) + 120), rr_set (rr_set (rr_set (rr_set (rr_set (rr_set (rr_set (rr_set (rr_set (rr_set (rr_set (rr_set (rr_set (rr_set (rr_set (rr_set (rr_set (rr_set (rr_set (rr_set (rr_set (rr_set (rr_set (rr_set (rr_set (rr_set (rr_set (rr_set (rr_set (rr_set (rr_set (rr_set (rr_set (rr_set (rr_set (rr_set (rr_set (rr_set (rr_set (rr_set (rr_set (rr_set (rr_set (rr_set (rr_set (h) 58 (.inr (7, [.int 0, .int 3, .null, .null, .int 0, .null, .int 0, .int 0, .int 0, .int 0, .null, .null, .null, .int 0, .null, .null, .null, .int 0, .null, .int 0, .null, .long 0, .int 0, .int 0, .null, .null, .null, .null, .int 0, .long 0, .long 0, .long 0, .int 0, .null, .int 0, .long 0, .int 0, .long 0, .null, .null, .int 0, .null, .null, .null]))) 59 (.inl (0, 16, .inl (fun _ => 0)))) 58 (.inr (7, [.int 0, .int 3, .ref 59, .null, .int 0, .null, .int 0, .int 0, .int 0, .int 0, .null, .null, .null, .int 0, .null, .null, .null, .int 0, .null, .int 0, .null, .long 0, .int 0, .int 0, .null, .null, .null, .null, .int 0, .long 0, .long 0, .long 0, .int 0, .null, .int 0, .long 0, .int 0, .long 0, .null, .null, .int 0, .null, .null, .null]))) 60 (.inl (0, 16, .inl (fun _ => 0)))) 58 (.inr (7, [.int 0, .int 3, .ref 59, .ref 60, .int 0, .null, .int 0, .int 0, .int 0, .int 0, .null, .null, .null, .int 0, .null, .null, .null, .int 0, .null, .int 0, .null, .long 0, .int 0, .int 0, .null, .null, .null, .null, .int 0, .long 0, .long 0, .long 0, .int 0, .null, .int 0, .long 0, .int 0, .long 0, .null, .null, .int 0, .null, .null, .null]))) 58 (.inr (7, [.int 0, .int 3, .ref 59, .ref 60, .int (-1), .null, .int 0, .int 0, .int 0, .int 0, .null, .null, .null, .int 0, .null, .null, .null, .int 0, .null, .int 0, .null, .long 0, .int 0, .int 0, .null, .null, .null, .null, .int 0, .long 0, .long 0, .long 0, .int 0, .null, .int 0, .long 0, .int 0, .long 0, .null, .null, .int 0, .null, .null, .null]))) 61 (.inl (0, 100, .inl (fun _ => 0)))) 58 (.inr (7, [.int 0, .int 3, .ref 59, .ref 60, .int (-1), .ref 61, .int 0, .int 0, .int 0, .int 0, .null, .null, .null, .int 0, .null, .null, .null, .int 0, .null, .int 0, .null, .long 0, .int 0, .int 0, .null, .null, .null, .null, .int 0, .long 0, .long 0, .long 0, .int 0, .null, .int 0, .long 0, .int 0, .long 0, .null, .null, .int 0, .null, .null, .null]))) 62 (.inl (0, 26, .inl (fun _ => 0)))) 58 (.inr (7, [.int 0, .int 3, .ref 59, .ref 60, .int (-1), .ref 61, .int 0, .int 0, .int 0, .int 0, .ref 62, .null, .null, .int 0, .null, .null, .null, .int 0, .null, .int 0, .null, .long 0, .int 0, .int 0, .null, .null, .null, .null, .int 0, .long 0, .long 0, .long 0, .int 0, .null, .int 0, .long 0, .int 0, .long 0, .null, .null, .int 0, .null, .null, .null]))) 63 (.inl (0, 26, .inl (fun _ => 0)))) 58 (.inr (7, [.int 0, .int 3, .ref 59, .ref 60, .int (-1), .ref 61, .int 0, .int 0, .int 0, .int 0, .ref 62, .ref 63, .null, .int 0, .null, .null, .null, .int 0, .null, .int 0, .null, .long 0, .int 0, .int 0, .null, .null, .null, .null, .int 0, .long 0, .long 0, .long 0, .int 0, .null, .int 0, .long 0, .int 0, .long 0, .null, .null, .int 0, .null, .null, .null]))) 64 (.inl (0, 26, .inl (fun _ => 0)))) 58 (.inr (7, [.int 0, .int 3, .ref 59, .ref 60, .int (-1), .ref 61, .int 0, .int 0, .int 0, .int 0, .ref 62, .ref 63, .ref 64, .int 0, .null, .null, .null, .int 0, .null, .int 0, .null, .long 0, .int 0, .int 0, .null, .null, .null, .null, .int 0, .long 0, .long 0, .long 0, .int 0, .null, .int 0, .long 0, .int 0, .long 0, .null, .null, .int 0, .null, .null, .null]))) 65 (.inl (0, 16, .inl (fun _ => 0)))) 58 (.inr (7, [.int 0, .int 3, .ref 59, .ref 60, .int (-1), .ref 61, .int 0, .int 0, .int 0, .int 0, .ref 62, .ref 63, .ref 64, .int 0, .ref 65, .null, .null, .int 0, .null, .int 0, .null, .long 0, .int 0, .int 0, .null, .null, .null, .null, .int 0, .long 0, .long 0, .long 0, .int 0, .null, .int 0, .long 0, .int 0, .long 0, .null, .null, .int 0, .null, .null, .null]))) 66 (.inl (0, 5, .inl (fun _ => 0)))) 58 (.inr (7, [.int 0, .int 3, .ref 59, .ref 60, .int (-1), .ref 61, .int 0, .int 0, .int 0, .int 0, .ref 62, .ref 63, .ref 64, .int 0, .ref 65, .ref 66, .null, .int 0, .null, .int 0, .null, .long 0, .int 0, .int 0, .null, .null, .null, .null, .int 0, .long 0, .long 0, .long 0, .int 0, .null, .int 0, .long 0, .int 0, .long 0, .null, .null, .int 0, .null, .null, .null]))) 67 (.inl (1, 5, .inr (.inl (fun _ => 0))))) 58 (.inr (7, [.int 0, .int 3, .ref 59, .ref 60, .int (-1), .ref 61, .int 0, .int 0, .int 0, .int 0, .ref 62, .ref 63, .ref 64, .int 0, .ref 65, .ref 66, .ref 67, .int 0, .null, .int 0, .null, .long 0, .int 0, .int 0, .null, .null, .null, .null, .int 0, .long 0, .long 0, .long 0, .int 0, .null, .int 0, .long 0, .int 0, .long 0, .null, .null, .int 0, .null, .null, .null]))) 68 (.inl (1, 30, .inr (.inl (fun _ => 0))))) 58 (.inr (7, [.int 0, .int 3, .ref 59, .ref 60, .int (-1), .ref 61, .int 0, .int 0, .int 0, .int 0, .ref 62, .ref 63, .ref 64, .int 0, .ref 65, .ref 66, .ref 67, .int 0, .ref 68, .int 0, .null, .long 0, .int 0, .int 0, .null, .null, .null, .null, .int 0, .long 0, .long 0, .long 0, .int 0, .null, .int 0, .long 0, .int 0, .long 0, .null, .null, .int 0, .null, .null, .null]))) 69 (.inl (1, 5, .inr (.inl (fun _ => 0))))) 58 (.inr (7, [.int 0, .int 3, .ref 59, .ref 60, .int (-1), .ref 61, .int 0, .int 0, .int 0, .int 0, .ref 62, .ref 63, .ref 64, .int 0, .ref 65, .ref 66, .ref 67, .int 0, .ref 68, .int 0, .ref 69, .long 0, .int 0, .int 0, .null, .null, .null, .null, .int 0, .long 0, .long 0, .long 0, .int 0, .null, .int 0, .long 0, .int 0, .long 0, .null, .null, .int 0, .null, .null, .null]))) 58 (.inr (7, [.int 0, .int 3, .ref 59, .ref 60, .int (-1), .ref 61, .int 0, .int 0, .int 0, .int 0, .ref 62, .ref 63, .ref 64, .int 0, .ref 65, .ref 66, .ref 67, .int 0, .ref 68, .int 0, .ref 69, .long 0, .int 1, .int 0, .null, .null, .null, .null, .int 0, .long 0, .long 0, .long 0, .int 0, .null, .int 0, .long 0, .int 0, .long 0, .null, .null, .int 0, .null, .null, .null]))) 70 (.inl (1, 16, .inr (.inl (fun _ => 0))))) 58 (.inr (7, [.int 0, .int 3, .ref 59, .ref 60, .int (-1), .ref 61, .int 0, .int 0, .int 0, .int 0, .ref 62, .ref 63, .ref 64, .int 0, .ref 65, .ref 66, .ref 67, .int 0, .ref 68, .int 0, .ref 69, .long 0, .int 1, .int 0, .ref 70, .null, .null, .null, .int 0, .long 0, .long 0, .long 0, .int 0, .null, .int 0, .long 0, .int 0, .long 0, .null, .null, .int 0, .null, .null, .null]))) 71 (.inl (1, 16, .inr (.inl (fun _ => 0))))) 58 (.inr (7, [.int 0, .int 3, .ref 59, .ref 60, .int (-1), .ref 61, .int 0, .int 0, .int 0, .int 0, .ref 62, .ref 63, .ref 64, .int 0, .ref 65, .ref 66, .ref 67, .int 0, .ref 68, .int 0, .ref 69, .long 0, .int 1, .int 0, .ref 70, .ref 71, .null, .null, .int 0, .long 0, .long 0, .long 0, .int 0, .null, .int 0, .long 0, .int 0, .long 0, .null, .null, .int 0, .null, .null, .null]))) 72 (.inl (0, 16, .inl (fun _ => 0)))) 58 (.inr (7, [.int 0, .int 3, .ref 59, .ref 60, .int (-1), .ref 61, .int 0, .int 0, .int 0, .int 0, .ref 62, .ref 63, .ref 64, .int 0, .ref 65, .ref 66, .ref 67, .int 0, .ref 68, .int 0, .ref 69, .long 0, .int 1, .int 0, .ref 70, .ref 71, .ref 72, .null, .int 0, .long 0, .long 0, .long 0, .int 0, .null, .int 0, .long 0, .int 0, .long 0, .null, .null, .int 0, .null, .null, .null]))) 73 (.inl (0, 16, .inl (fun _ => 0)))) 58 (.inr (7, [.int 0, .int 3, .ref 59, .ref 60, .int (-1), .ref 61, .int 0, .int 0, .int 0, .int 0, .ref 62, .ref 63, .ref 64, .int 0, .ref 65, .ref 66, .ref 67, .int 0, .ref 68, .int 0, .ref 69, .long 0, .int 1, .int 0, .ref 70, .ref 71, .ref 72, .ref 73, .int 0, .long 0, .long 0, .long 0, .int 0, .null, .int 0, .long 0, .int 0, .long 0, .null, .null, .int 0, .null, .null, .null]))) 74 (.inl (0, 25, .inl (fun _ => 0)))) 58 (.inr (7, [.int 0, .int 3, .ref 59, .ref 60, .int (-1), .ref 61, .int 0, .int 0, .int 0, .int 0, .ref 62, .ref 63, .ref 64, .int 0, .ref 65, .ref 66, .ref 67, .int 0, .ref 68, .int 0, .ref 69, .long 0, .int 1, .int 0, .ref 70, .ref 71, .ref 72, .ref 73, .int 0, .long 0, .long 0, .long 0, .int 0, .ref 74, .int 0, .long 0, .int 0, .long 0, .null, .null, .int 0, .null, .null, .null]))) 75 (.inl (1, 4, .inr (.inl (fun _ => 0))))) 58 (.inr (7, [.int 0, .int 3, .ref 59, .ref 60, .int (-1), .ref 61, .int 0, .int 0, .int 0, .int 0, .ref 62, .ref 63, .ref 64, .int 0, .ref 65, .ref 66, .ref 67, .int 0, .ref 68, .int 0, .ref 69, .long 0, .int 1, .int 0, .ref 70, .ref 71, .ref 72, .ref 73, .int 0, .long 0, .long 0, .long 0, .int 0, .ref 74, .int 0, .long 0, .int 0, .long 0, .ref 75, .null, .int 0, .null, .null, .null]))) 76 (.inl (1, 14, .inr (.inl (fun _ => 0))))) 58 (.inr (7, [.int 0, .int 3, .ref 59, .ref 60, .int (-1), .ref 61, .int 0, .int 0, .int 0, .int 0, .ref 62, .ref 63, .ref 64, .int 0, .ref 65, .ref 66, .ref 67, .int 0, .ref 68, .int 0, .ref 69, .long 0, .int 1, .int 0, .ref 70, .ref 71, .ref 72, .ref 73, .int 0, .long 0, .long 0, .long 0, .int 0, .ref 74, .int 0, .long 0, .int 0, .long 0, .ref 75, .ref 76, .int 0, .null, .null, .null]))) 77 (.inl (2, 4, .inl (fun _ => 0)))) 58 (.inr (7, [.int 0, .int 3, .ref 59, .ref 60, .int (-1), .ref 61, .int 0, .int 0, .int 0, .int 0, .ref 62, .ref 63, .ref 64, .int 0, .ref 65, .ref 66, .ref 67, .int 0, .ref 68, .int 0, .ref 69, .long 0, .int 1, .int 0, .ref 70, .ref 71, .ref 72, .ref 73, .int 0, .long 0, .long 0, .long 0, .int 0, .ref 74, .int 0, .long 0, .int 0, .long 0, .ref 75, .ref 76, .int 0, .ref 77, .null, .null]))) 78 (.inl (0, 4, .inl (fun _ => 0)))) 58 (.inr (7, [.int 0, .int 3, .ref 59, .ref 60, .int (-1), .ref 61, .int 0, .int 0, .int 0, .int 0, .ref 62, .ref 63, .ref 64, .int 0, .ref 65, .ref 66, .ref 67, .int 0, .ref 68, .int 0, .ref 69, .long 0, .int 1, .int 0, .ref 70, .ref 71, .ref 72, .ref 73, .int 0, .long 0, .long 0, .long 0, .int 0, .ref 74, .int 0, .long 0, .int 0, .long 0, .ref 75, .ref 76, .int 0, .ref 77, .ref 78, .null]))) 79 (.inl (1, 120, .inr (.inl (fun _ => 0))))) 58 (.inr (7, [.int 0, .int 3, .ref 59, .ref 60, .int (-1), .ref 61, .int 0, .int 0, .int 0, .int 0, .ref 62, .ref 63, .ref 64, .int 0, .ref 65, .ref 66, .ref 67, .int 0, .ref 68, .int 0, .ref 69, .long 0, .int 1, .int 0, .ref 70, .ref 71, .ref 72, .ref 73, .int 0, .long 0, .long 0, .long 0, .int 0, .ref 74, .int 0, .long 0, .int 0, .long 0, .ref 75, .ref 76, .int 0, .ref 77, .ref 78, .ref 79])))) := by
  refine rr_meth (C := K_Model_init) (hd := h_Model_init) (mx := 1) rfl rfl (fun K hK => ?_)
  refine hK _ _ _ _ ?_
  refine Exists.intro _ (And.intro hb ?_)
  refine And.intro ⟨by decide, by decide, by decide⟩ ?_
  refine Exists.intro _ (And.intro rfl ?_)
  refine And.intro ⟨by decide, by decide, by decide⟩ ?_
  refine Exists.intro _ (And.intro rfl ?_)
  refine Exists.intro _ (And.intro rfl ?_)
  refine And.intro ⟨by decide, by decide, by decide⟩ ?_
  refine Exists.intro _ (And.intro rfl ?_)
  refine And.intro ⟨by decide, by decide, by decide⟩ ?_
  refine Exists.intro _ (And.intro rfl ?_)
  refine And.intro ⟨by decide, by decide, by decide⟩ ?_
  refine Exists.intro _ (And.intro rfl ?_)
  refine And.intro ⟨by decide, by decide, by decide⟩ ?_
  refine Exists.intro _ (And.intro rfl ?_)
  refine And.intro ⟨by decide, by decide, by decide⟩ ?_
  refine Exists.intro _ (And.intro rfl ?_)
  refine And.intro ⟨by decide, by decide, by decide⟩ ?_
  refine Exists.intro _ (And.intro rfl ?_)
  refine And.intro ⟨by decide, by decide, by decide⟩ ?_
  refine Exists.intro _ (And.intro rfl ?_)
  refine And.intro ⟨by decide, by decide, by decide⟩ ?_
  refine Exists.intro _ (And.intro rfl ?_)
  refine And.intro ⟨by decide, by decide, by decide⟩ ?_
  refine Exists.intro _ (And.intro rfl ?_)
  refine And.intro (by decide) ?_
  refine Exists.intro _ (And.intro rfl ?_)
  refine And.intro ⟨by decide, by decide, by decide⟩ ?_
  refine Exists.intro _ (And.intro rfl ?_)
  refine And.intro ⟨by decide, by decide, by decide⟩ ?_
  refine Exists.intro _ (And.intro rfl ?_)
  refine And.intro ⟨by decide, by decide, by decide⟩ ?_
  refine Exists.intro _ (And.intro rfl ?_)
  refine And.intro ⟨by decide, by decide, by decide⟩ ?_
  refine Exists.intro _ (And.intro rfl ?_)
  refine And.intro ⟨by decide, by decide, by decide⟩ ?_
  refine Exists.intro _ (And.intro rfl ?_)
  refine And.intro ⟨by decide, by decide, by decide⟩ ?_
  refine Exists.intro _ (And.intro rfl ?_)
  refine And.intro ⟨by decide, by decide, by decide⟩ ?_
  refine Exists.intro _ (And.intro rfl ?_)
  refine And.intro ⟨by decide, by decide, by decide⟩ ?_
  refine Exists.intro _ (And.intro rfl ?_)
  refine And.intro ⟨by decide, by decide, by decide⟩ ?_
  refine Exists.intro _ (And.intro rfl ?_)
  refine And.intro ⟨by decide, by decide, by decide⟩ ?_
  refine Exists.intro _ (And.intro rfl ?_)
  exact And.intro rfl rfl
