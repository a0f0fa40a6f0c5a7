def rr_mo (H : rr_H) (o : rr_O) : Prop := match o with
  | .inl (_, _, _, H') => H.1 ≤ H'.1 ∧ H.2.1 ≤ H'.2.1
  | _ => True
theorem rr_stF_mo {N S : Nat} {hh : Nat → Option rr_E} {q a b : Nat} {v : Value} {G : rr_H → Prop} (h : rr_stF N S hh q a b v G) : ∃ H', G H' ∧ (∀ G' : rr_H → Prop, G' H' → rr_stF N S hh q a b v G') ∧ (N ≤ H'.1 ∧ S ≤ H'.2.1) := by
  obtain ⟨fs, h1, h2⟩ := h
  obtain ⟨e1, h3⟩ := rr_cond_lin h2
  exact ⟨_, h3, fun G' g => ⟨fs, h1, by rw [e1]; exact g⟩, Nat.le_refl _, Nat.le_refl _⟩
set_option maxHeartbeats 8000000 in
set_option maxRecDepth 100000 in
/-- one instruction comes to one thing, and takes nothing away -/
theorem rr_ex_mo {e : rr_I} {k : Nat} {loc : rr_L} {st : List Value} {H : rr_H} {F : rr_O → Prop} (h : rr_ex e k loc st H F) : ∃ o, F o ∧ (∀ F' : rr_O → Prop, F' o → rr_ex e k loc st H F') ∧ rr_mo H o := by
  obtain ⟨Nn, Ss, hh⟩ := H
  obtain ⟨ins, a, b, z⟩ := e
  cases ins <;> first | exact (h : False).elim | exact ⟨_, h, (fun _ h' => h'), (by first | exact trivial | exact ⟨Nat.le_refl _, Nat.le_refl _⟩ | exact ⟨Nat.le_add_right _ _, Nat.le_add_right _ _⟩ | (refine ⟨?_, ?_⟩ <;> dsimp only <;> omega) | exact h3)⟩ | skip
  case aaload =>
    dsimp only [rr_ex, rr_ex0] at h ⊢
    split at h
    · obtain ⟨n, f, h1, h2, t, h3, h4⟩ := h
      exact ⟨_, h4, (fun _ h' => ⟨n, f, h1, h2, t, h3, h'⟩), (by first | exact trivial | exact ⟨Nat.le_refl _, Nat.le_refl _⟩ | exact ⟨Nat.le_add_right _ _, Nat.le_add_right _ _⟩ | (refine ⟨?_, ?_⟩ <;> dsimp only <;> omega) | exact h3)⟩
    · exact h.elim
  case aload =>
    dsimp only [rr_ex, rr_ex0] at h ⊢
    obtain ⟨v, h1, h2⟩ := rr_ld_lin h
    exact ⟨_, h1, (fun _ h' => h2 _ h'), (by first | exact trivial | exact ⟨Nat.le_refl _, Nat.le_refl _⟩ | exact ⟨Nat.le_add_right _ _, Nat.le_add_right _ _⟩ | (refine ⟨?_, ?_⟩ <;> dsimp only <;> omega) | exact h3)⟩
  case aload_n =>
    dsimp only [rr_ex, rr_ex0] at h ⊢
    obtain ⟨v, h1, h2⟩ := rr_ld_lin h
    exact ⟨_, h1, (fun _ h' => h2 _ h'), (by first | exact trivial | exact ⟨Nat.le_refl _, Nat.le_refl _⟩ | exact ⟨Nat.le_add_right _ _, Nat.le_add_right _ _⟩ | (refine ⟨?_, ?_⟩ <;> dsimp only <;> omega) | exact h3)⟩
  case iload =>
    dsimp only [rr_ex, rr_ex0] at h ⊢
    obtain ⟨v, h1, h2⟩ := rr_ld_lin h
    exact ⟨_, h1, (fun _ h' => h2 _ h'), (by first | exact trivial | exact ⟨Nat.le_refl _, Nat.le_refl _⟩ | exact ⟨Nat.le_add_right _ _, Nat.le_add_right _ _⟩ | (refine ⟨?_, ?_⟩ <;> dsimp only <;> omega) | exact h3)⟩
  case iload_n =>
    dsimp only [rr_ex, rr_ex0] at h ⊢
    obtain ⟨v, h1, h2⟩ := rr_ld_lin h
    exact ⟨_, h1, (fun _ h' => h2 _ h'), (by first | exact trivial | exact ⟨Nat.le_refl _, Nat.le_refl _⟩ | exact ⟨Nat.le_add_right _ _, Nat.le_add_right _ _⟩ | (refine ⟨?_, ?_⟩ <;> dsimp only <;> omega) | exact h3)⟩
  case lload =>
    dsimp only [rr_ex, rr_ex0] at h ⊢
    obtain ⟨v, h1, h2⟩ := rr_ld_lin h
    exact ⟨_, h1, (fun _ h' => h2 _ h'), (by first | exact trivial | exact ⟨Nat.le_refl _, Nat.le_refl _⟩ | exact ⟨Nat.le_add_right _ _, Nat.le_add_right _ _⟩ | (refine ⟨?_, ?_⟩ <;> dsimp only <;> omega) | exact h3)⟩
  case lload_n =>
    dsimp only [rr_ex, rr_ex0] at h ⊢
    obtain ⟨v, h1, h2⟩ := rr_ld_lin h
    exact ⟨_, h1, (fun _ h' => h2 _ h'), (by first | exact trivial | exact ⟨Nat.le_refl _, Nat.le_refl _⟩ | exact ⟨Nat.le_add_right _ _, Nat.le_add_right _ _⟩ | (refine ⟨?_, ?_⟩ <;> dsimp only <;> omega) | exact h3)⟩
  case ldiv =>
    dsimp only [rr_ex, rr_ex0] at h ⊢
    split at h
    · exact ⟨_, h.2, (fun _ h' => ⟨h.1, h'⟩), (by first | exact trivial | exact ⟨Nat.le_refl _, Nat.le_refl _⟩ | exact ⟨Nat.le_add_right _ _, Nat.le_add_right _ _⟩ | (refine ⟨?_, ?_⟩ <;> dsimp only <;> omega) | exact h3)⟩
    · exact h.elim
  case lrem =>
    dsimp only [rr_ex, rr_ex0] at h ⊢
    split at h
    · exact ⟨_, h.2, (fun _ h' => ⟨h.1, h'⟩), (by first | exact trivial | exact ⟨Nat.le_refl _, Nat.le_refl _⟩ | exact ⟨Nat.le_add_right _ _, Nat.le_add_right _ _⟩ | (refine ⟨?_, ?_⟩ <;> dsimp only <;> omega) | exact h3)⟩
    · exact h.elim
  case if_icmp =>
    dsimp only [rr_ex, rr_ex0] at h ⊢
    split at h
    · rcases rr_br_lin h with ⟨h1, h2⟩ | ⟨h1, h2⟩
      · exact ⟨_, h1, (fun _ h' => h2 _ _ h'), (by first | exact trivial | exact ⟨Nat.le_refl _, Nat.le_refl _⟩ | exact ⟨Nat.le_add_right _ _, Nat.le_add_right _ _⟩ | (refine ⟨?_, ?_⟩ <;> dsimp only <;> omega) | exact h3)⟩
      · exact ⟨_, h1, (fun _ h' => h2 _ _ h'), (by first | exact trivial | exact ⟨Nat.le_refl _, Nat.le_refl _⟩ | exact ⟨Nat.le_add_right _ _, Nat.le_add_right _ _⟩ | (refine ⟨?_, ?_⟩ <;> dsimp only <;> omega) | exact h3)⟩
    · exact h.elim
  case ifCond =>
    dsimp only [rr_ex, rr_ex0] at h ⊢
    split at h
    · rcases rr_br_lin h with ⟨h1, h2⟩ | ⟨h1, h2⟩
      · exact ⟨_, h1, (fun _ h' => h2 _ _ h'), (by first | exact trivial | exact ⟨Nat.le_refl _, Nat.le_refl _⟩ | exact ⟨Nat.le_add_right _ _, Nat.le_add_right _ _⟩ | (refine ⟨?_, ?_⟩ <;> dsimp only <;> omega) | exact h3)⟩
      · exact ⟨_, h1, (fun _ h' => h2 _ _ h'), (by first | exact trivial | exact ⟨Nat.le_refl _, Nat.le_refl _⟩ | exact ⟨Nat.le_add_right _ _, Nat.le_add_right _ _⟩ | (refine ⟨?_, ?_⟩ <;> dsimp only <;> omega) | exact h3)⟩
    · exact h.elim
  case tableswitch =>
    dsimp only [rr_ex, rr_ex0] at h ⊢
    split at h
    · rcases rr_sws_lin h with ⟨h1, h2⟩ | ⟨t, h1, h2⟩
      · exact ⟨_, h1, (fun _ h' => h2 _ _ h'), (by first | exact trivial | exact ⟨Nat.le_refl _, Nat.le_refl _⟩ | exact ⟨Nat.le_add_right _ _, Nat.le_add_right _ _⟩ | (refine ⟨?_, ?_⟩ <;> dsimp only <;> omega) | exact h3)⟩
      · exact ⟨_, h1, (fun _ h' => h2 _ _ h'), (by first | exact trivial | exact ⟨Nat.le_refl _, Nat.le_refl _⟩ | exact ⟨Nat.le_add_right _ _, Nat.le_add_right _ _⟩ | (refine ⟨?_, ?_⟩ <;> dsimp only <;> omega) | exact h3)⟩
    · exact h.elim
  case lookupswitch =>
    dsimp only [rr_ex, rr_ex0] at h ⊢
    split at h
    · rcases rr_sws_lin h with ⟨h1, h2⟩ | ⟨t, h1, h2⟩
      · exact ⟨_, h1, (fun _ h' => h2 _ _ h'), (by first | exact trivial | exact ⟨Nat.le_refl _, Nat.le_refl _⟩ | exact ⟨Nat.le_add_right _ _, Nat.le_add_right _ _⟩ | (refine ⟨?_, ?_⟩ <;> dsimp only <;> omega) | exact h3)⟩
      · exact ⟨_, h1, (fun _ h' => h2 _ _ h'), (by first | exact trivial | exact ⟨Nat.le_refl _, Nat.le_refl _⟩ | exact ⟨Nat.le_add_right _ _, Nat.le_add_right _ _⟩ | (refine ⟨?_, ?_⟩ <;> dsimp only <;> omega) | exact h3)⟩
    · exact h.elim
  case getfield =>
    dsimp only [rr_ex, rr_ex0] at h ⊢
    split at h
    · obtain ⟨fs, h1, h2⟩ := h
      split at h2
      · next hv => exact ⟨_, h2, (fun _ h' => ⟨fs, h1, by rw [hv]; exact h'⟩), (by first | exact trivial | exact ⟨Nat.le_refl _, Nat.le_refl _⟩ | exact ⟨Nat.le_add_right _ _, Nat.le_add_right _ _⟩ | (refine ⟨?_, ?_⟩ <;> dsimp only <;> omega) | exact h3)⟩
      · exact h2.elim
    · exact h.elim
  case putfield =>
    dsimp only [rr_ex, rr_ex0] at h ⊢
    split at h
    · obtain ⟨H', h1, h2, h3⟩ := rr_stF_mo h; exact ⟨_, h1, (fun _ h' => h2 _ h'), (by first | exact trivial | exact ⟨Nat.le_refl _, Nat.le_refl _⟩ | exact ⟨Nat.le_add_right _ _, Nat.le_add_right _ _⟩ | (refine ⟨?_, ?_⟩ <;> dsimp only <;> omega) | exact h3)⟩
    · obtain ⟨H', h1, h2, h3⟩ := rr_stF_mo h; exact ⟨_, h1, (fun _ h' => h2 _ h'), (by first | exact trivial | exact ⟨Nat.le_refl _, Nat.le_refl _⟩ | exact ⟨Nat.le_add_right _ _, Nat.le_add_right _ _⟩ | (refine ⟨?_, ?_⟩ <;> dsimp only <;> omega) | exact h3)⟩
    · obtain ⟨H', h1, h2, h3⟩ := rr_stF_mo h.2; exact ⟨_, h1, (fun _ h' => ⟨h.1, h2 _ h'⟩), (by first | exact trivial | exact ⟨Nat.le_refl _, Nat.le_refl _⟩ | exact ⟨Nat.le_add_right _ _, Nat.le_add_right _ _⟩ | (refine ⟨?_, ?_⟩ <;> dsimp only <;> omega) | exact h3)⟩
    · obtain ⟨H', h1, h2, h3⟩ := rr_stF_mo h; exact ⟨_, h1, (fun _ h' => h2 _ h'), (by first | exact trivial | exact ⟨Nat.le_refl _, Nat.le_refl _⟩ | exact ⟨Nat.le_add_right _ _, Nat.le_add_right _ _⟩ | (refine ⟨?_, ?_⟩ <;> dsimp only <;> omega) | exact h3)⟩
    · exact h.elim
  case arraylength =>
    dsimp only [rr_ex, rr_ex0] at h ⊢
    split at h
    · obtain ⟨c, n, x, h1, h2⟩ := h
      exact ⟨_, h2, (fun _ h' => ⟨c, n, x, h1, h'⟩), (by first | exact trivial | exact ⟨Nat.le_refl _, Nat.le_refl _⟩ | exact ⟨Nat.le_add_right _ _, Nat.le_add_right _ _⟩ | (refine ⟨?_, ?_⟩ <;> dsimp only <;> omega) | exact h3)⟩
    · exact h.elim
  case iaload =>
    dsimp only [rr_ex, rr_ex0] at h ⊢
    split at h
    · obtain ⟨c, n, f, h1, h2⟩ := h
      obtain ⟨e1, h3, h4⟩ := rr_cond_lin h2
      exact ⟨_, h4, (fun _ h' => ⟨c, n, f, h1, by rw [e1]; exact ⟨h3, h'⟩⟩), (by first | exact trivial | exact ⟨Nat.le_refl _, Nat.le_refl _⟩ | exact ⟨Nat.le_add_right _ _, Nat.le_add_right _ _⟩ | (refine ⟨?_, ?_⟩ <;> dsimp only <;> omega) | exact h3)⟩
    · exact h.elim
  case baload =>
    dsimp only [rr_ex, rr_ex0] at h ⊢
    split at h
    · obtain ⟨c, n, f, h1, h2⟩ := h
      obtain ⟨e1, h3, h4⟩ := rr_cond_lin h2
      exact ⟨_, h4, (fun _ h' => ⟨c, n, f, h1, by rw [e1]; exact ⟨h3, h'⟩⟩), (by first | exact trivial | exact ⟨Nat.le_refl _, Nat.le_refl _⟩ | exact ⟨Nat.le_add_right _ _, Nat.le_add_right _ _⟩ | (refine ⟨?_, ?_⟩ <;> dsimp only <;> omega) | exact h3)⟩
    · exact h.elim
  case laload =>
    dsimp only [rr_ex, rr_ex0] at h ⊢
    split at h
    · obtain ⟨n, f, h1, h2, h3⟩ := h
      exact ⟨_, h3, (fun _ h' => ⟨n, f, h1, h2, h'⟩), (by first | exact trivial | exact ⟨Nat.le_refl _, Nat.le_refl _⟩ | exact ⟨Nat.le_add_right _ _, Nat.le_add_right _ _⟩ | (refine ⟨?_, ?_⟩ <;> dsimp only <;> omega) | exact h3)⟩
    · exact h.elim
  case iastore =>
    dsimp only [rr_ex, rr_ex0] at h ⊢
    split at h
    · obtain ⟨n, f, h1, h2, h3⟩ := h
      exact ⟨_, h3, (fun _ h' => ⟨n, f, h1, h2, h'⟩), (by first | exact trivial | exact ⟨Nat.le_refl _, Nat.le_refl _⟩ | exact ⟨Nat.le_add_right _ _, Nat.le_add_right _ _⟩ | (refine ⟨?_, ?_⟩ <;> dsimp only <;> omega) | exact h3)⟩
    · exact h.elim
  case bastore =>
    dsimp only [rr_ex, rr_ex0] at h ⊢
    split at h
    · obtain ⟨n, f, h1, h2, h3, h4⟩ := h
      exact ⟨_, h4, (fun _ h' => ⟨n, f, h1, h2, h3, h'⟩), (by first | exact trivial | exact ⟨Nat.le_refl _, Nat.le_refl _⟩ | exact ⟨Nat.le_add_right _ _, Nat.le_add_right _ _⟩ | (refine ⟨?_, ?_⟩ <;> dsimp only <;> omega) | exact h3)⟩
    · exact h.elim
  case lastore =>
    dsimp only [rr_ex, rr_ex0] at h ⊢
    split at h
    · obtain ⟨n, f, h1, h2, h3⟩ := h
      exact ⟨_, h3, (fun _ h' => ⟨n, f, h1, h2, h'⟩), (by first | exact trivial | exact ⟨Nat.le_refl _, Nat.le_refl _⟩ | exact ⟨Nat.le_add_right _ _, Nat.le_add_right _ _⟩ | (refine ⟨?_, ?_⟩ <;> dsimp only <;> omega) | exact h3)⟩
    · exact h.elim
  case new =>
    dsimp only [rr_ex, rr_ex0] at h ⊢
    split at h
    · obtain ⟨e1, h2⟩ := rr_cond_lin h
      exact ⟨_, h2, (fun _ h' => by rw [e1]; exact h'), (by first | exact trivial | exact ⟨Nat.le_refl _, Nat.le_refl _⟩ | exact ⟨Nat.le_add_right _ _, Nat.le_add_right _ _⟩ | (refine ⟨?_, ?_⟩ <;> dsimp only <;> omega) | exact h3)⟩
    · exact h.elim
  case newarray =>
    dsimp only [rr_ex, rr_ex0] at h ⊢
    split at h <;> first | exact h.elim | exact ⟨_, h.2, (fun _ h' => ⟨h.1, h'⟩), (by first | exact trivial | exact ⟨Nat.le_refl _, Nat.le_refl _⟩ | exact ⟨Nat.le_add_right _ _, Nat.le_add_right _ _⟩ | (refine ⟨?_, ?_⟩ <;> dsimp only <;> omega) | exact h3)⟩
  case multianewarray =>
    dsimp only [rr_ex, rr_ex0] at h ⊢
    split at h <;> first | exact h.elim | exact ⟨_, h.2, (fun _ h' => ⟨h.1, h'⟩), (by first | exact trivial | exact ⟨Nat.le_refl _, Nat.le_refl _⟩ | exact ⟨Nat.le_add_right _ _, Nat.le_add_right _ _⟩ | (refine ⟨?_, ?_⟩ <;> dsimp only <;> omega) | exact h3)⟩
  case invokevirtual =>
    dsimp only [rr_ex, rr_ex0] at h ⊢
    split at h
    · split at h
      · next hv =>
        obtain ⟨fs, h1, h2⟩ := h
        obtain ⟨e1, h3⟩ := rr_cond_lin h2
        exact ⟨_, h3, (fun _ h' => ⟨fs, h1, by rw [e1]; exact h'⟩), (by first | exact trivial | exact ⟨Nat.le_refl _, Nat.le_refl _⟩ | exact ⟨Nat.le_add_right _ _, Nat.le_add_right _ _⟩ | (refine ⟨?_, ?_⟩ <;> dsimp only <;> omega) | exact h3)⟩
      · exact h.elim
    · exact h.elim
  case invokespecial =>
    dsimp only [rr_ex, rr_ex0] at h ⊢
    split at h
    · cases hb : Nat.beq a 9998 with
      | true =>
        rw [hb] at h
        obtain ⟨e1, h3⟩ := rr_cond_lin h
        exact ⟨_, h3, (fun _ h' => by rw [e1]; exact h'), (by first | exact trivial | exact ⟨Nat.le_refl _, Nat.le_refl _⟩ | exact ⟨Nat.le_add_right _ _, Nat.le_add_right _ _⟩ | (refine ⟨?_, ?_⟩ <;> dsimp only <;> omega) | exact h3)⟩
      | false =>
        rw [hb] at h
        obtain ⟨e1, h3⟩ := rr_cond_lin h
        exact ⟨_, h3, (fun _ h' => by rw [e1]; exact h'), (by first | exact trivial | exact ⟨Nat.le_refl _, Nat.le_refl _⟩ | exact ⟨Nat.le_add_right _ _, Nat.le_add_right _ _⟩ | (refine ⟨?_, ?_⟩ <;> dsimp only <;> omega) | exact h3)⟩
    · exact h.elim
  case invokestatic =>
    dsimp only [rr_ex, rr_ex0] at h ⊢
    cases hb : Nat.beq a 9999 with
    | true =>
      rw [hb] at h
      dsimp only [cond] at h ⊢
      split at h
      · obtain ⟨n0, f, n1, g, h1, h2, h3, h4⟩ := h
        obtain ⟨e1, h5⟩ := rr_cond_lin h4
        exact ⟨_, h5, (fun _ h' => ⟨n0, f, n1, g, h1, h2, h3, by rw [e1]; exact h'⟩), (by first | exact trivial | exact ⟨Nat.le_refl _, Nat.le_refl _⟩ | exact ⟨Nat.le_add_right _ _, Nat.le_add_right _ _⟩ | (refine ⟨?_, ?_⟩ <;> dsimp only <;> omega) | exact h3)⟩
      · obtain ⟨n0, f, n1, g, h1, h2, h3, h4⟩ := h
        obtain ⟨e1, h5⟩ := rr_cond_lin h4
        exact ⟨_, h5, (fun _ h' => ⟨n0, f, n1, g, h1, h2, h3, by rw [e1]; exact h'⟩), (by first | exact trivial | exact ⟨Nat.le_refl _, Nat.le_refl _⟩ | exact ⟨Nat.le_add_right _ _, Nat.le_add_right _ _⟩ | (refine ⟨?_, ?_⟩ <;> dsimp only <;> omega) | exact h3)⟩
      · exact h.elim
    | false =>
      rw [hb] at h
      dsimp only [cond] at h ⊢
      cases hb7 : Nat.beq a 9997 with
      | true =>
        rw [hb7] at h
        dsimp only at h ⊢
        split at h
        · obtain ⟨e1, h3⟩ := rr_cond_lin h
          exact ⟨_, h3, (fun _ h' => by rw [e1]; exact h'), (by first | exact trivial | exact ⟨Nat.le_refl _, Nat.le_refl _⟩ | exact ⟨Nat.le_add_right _ _, Nat.le_add_right _ _⟩ | (refine ⟨?_, ?_⟩ <;> dsimp only <;> omega) | exact h3)⟩
        · exact h.elim
      | false =>
        rw [hb7] at h
        dsimp only at h ⊢
        cases hb6 : Nat.beq a 9996 with
        | true =>
          rw [hb6] at h
          dsimp only at h ⊢
          split at h
          · obtain ⟨e1, h3⟩ := rr_cond_lin h
            exact ⟨_, h3, (fun _ h' => by rw [e1]; exact h'), (by first | exact trivial | exact ⟨Nat.le_refl _, Nat.le_refl _⟩ | exact ⟨Nat.le_add_right _ _, Nat.le_add_right _ _⟩ | (refine ⟨?_, ?_⟩ <;> dsimp only <;> omega) | exact h3)⟩
          · exact h.elim
        | false =>
          rw [hb6] at h
          dsimp only at h ⊢
          split at h
          · obtain ⟨e1, h3⟩ := rr_cond_lin h
            exact ⟨_, h3, (fun _ h' => by rw [e1]; exact h'), (by first | exact trivial | exact ⟨Nat.le_refl _, Nat.le_refl _⟩ | exact ⟨Nat.le_add_right _ _, Nat.le_add_right _ _⟩ | (refine ⟨?_, ?_⟩ <;> dsimp only <;> omega) | exact h3)⟩
          · exact h.elim
  case ireturn =>
    dsimp only [rr_ex, rr_ex0] at h ⊢
    split at h
    · exact ⟨_, h, (fun _ h' => h'), (by first | exact trivial | exact ⟨Nat.le_refl _, Nat.le_refl _⟩ | exact ⟨Nat.le_add_right _ _, Nat.le_add_right _ _⟩ | (refine ⟨?_, ?_⟩ <;> dsimp only <;> omega) | exact h3)⟩
    · exact ⟨_, h.2, (fun _ h' => ⟨h.1, h'⟩), (by first | exact trivial | exact ⟨Nat.le_refl _, Nat.le_refl _⟩ | exact ⟨Nat.le_add_right _ _, Nat.le_add_right _ _⟩ | (refine ⟨?_, ?_⟩ <;> dsimp only <;> omega) | exact h3)⟩
    · exact ⟨_, h.2, (fun _ h' => ⟨h.1, h'⟩), (by first | exact trivial | exact ⟨Nat.le_refl _, Nat.le_refl _⟩ | exact ⟨Nat.le_add_right _ _, Nat.le_add_right _ _⟩ | (refine ⟨?_, ?_⟩ <;> dsimp only <;> omega) | exact h3)⟩
    · exact ⟨_, h.2, (fun _ h' => ⟨h.1, h'⟩), (by first | exact trivial | exact ⟨Nat.le_refl _, Nat.le_refl _⟩ | exact ⟨Nat.le_add_right _ _, Nat.le_add_right _ _⟩ | (refine ⟨?_, ?_⟩ <;> dsimp only <;> omega) | exact h3)⟩
    · exact h.elim
  all_goals
    dsimp only [rr_ex, rr_ex0] at h ⊢
    split at h <;> first | exact h.elim | exact ⟨_, h, (fun _ h' => h'), (by first | exact trivial | exact ⟨Nat.le_refl _, Nat.le_refl _⟩ | exact ⟨Nat.le_add_right _ _, Nat.le_add_right _ _⟩ | (refine ⟨?_, ?_⟩ <;> dsimp only <;> omega) | exact h3)⟩
theorem rr_Run_mono : ∀ (f d j k : Nat) (loc : rr_L) (st : List Value) (H : rr_H) (r : Option Value) (R : rr_H), rr_Run f d j k loc st H r R → H.1 ≤ R.1 ∧ H.2.1 ≤ R.2.1 := by
  intro f
  induction f with
  | zero => intro d j k loc st H r R h; exact h.elim
  | succ f ih =>
    intro d j k loc st H r R h
    unfold rr_Run at h
    split at h
    · exact h.elim
    · obtain ⟨o, h1, -, h3⟩ := rr_ex_mo h
      rcases o with ⟨k', loc', st', H'⟩ | ⟨y, args, rest⟩ | v
      · have h4 := ih _ _ _ _ _ _ _ _ h1
        exact ⟨Nat.le_trans h3.1 h4.1, Nat.le_trans h3.2 h4.2⟩
      · dsimp only at h1
        split at h1
        · exact h1.elim
        · obtain ⟨r', H', a1, a2⟩ := h1
          have h4 := ih _ _ _ _ _ _ _ _ a1
          have h5 := ih _ _ _ _ _ _ _ _ a2
          exact ⟨Nat.le_trans h4.1 h5.1, Nat.le_trans h4.2 h5.2⟩
      · obtain ⟨-, rfl⟩ := h1
        exact ⟨Nat.le_refl _, Nat.le_refl _⟩
