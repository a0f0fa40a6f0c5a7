def rr_code (j : Nat) : List rr_I := (rr_nth rr_codes j).getD []
/-- runs of at most f instructions on any path, calls of depth at most d: method j at its k-th instruction comes to the answer r with the heap R -/
def rr_Run : Nat → Nat → Nat → Nat → rr_L → List Value → rr_H → Option Value → rr_H → Prop
  | 0, _, _, _, _, _, _, _, _ => False
  | f + 1, d, j, k, loc, st, H, r, R => match rr_nth (rr_code j) k with
    | none => False
    | some e => rr_ex e k loc st H (fun o => match o with
      | .inl (k', loc', st', H') => rr_Run f d j k' loc' st' H' r R
      | .inr (.inl (y, args, rest)) => match d with
        | 0 => False
        | d' + 1 => ∃ r' H', rr_Run f d' y 0 (rr_pad (rr_max y) (rr_ent args)) [] H r' H' ∧ rr_Run f (d' + 1) j (k + 1) loc (rr_push r' rest) H' r R
      | .inr (.inr v) => v = r ∧ H = R)
def rr_Calls (d j : Nat) (args : List Value) (H : rr_H) (Q : Option Value → rr_H → Prop) : Prop := ∃ f r R, rr_Run f d j 0 (rr_pad (rr_max j) (rr_ent args)) [] H r R ∧ Q r R
def rr_K (d j : Nat) (Q : Option Value → rr_H → Prop) (k : Nat) (loc : rr_L) (st : List Value) (H : rr_H) : Prop := ∃ f r R, rr_Run f d j k loc st H r R ∧ Q r R
/-- the verification condition of a stretch of code, up to the next of the heads 'hd' -/
def rr_step (C : List rr_I) (hd : List Nat) (d : Nat) (Q : Option Value → rr_H → Prop) (K : Nat → rr_L → List Value → rr_H → Prop) : Nat → Nat → rr_L → List Value → rr_H → Prop
  | 0, k, loc, st, H => K k loc st H
  | n + 1, k, loc, st, H => match rr_nth C k with
    | none => False
    | some e => rr_ex e k loc st H (fun o => match o with
      | .inl (k', loc', st', H') => cond (rr_mem hd k') (K k' loc' st' H') (rr_step C hd d Q K n k' loc' st' H')
      | .inr (.inl (y, args, rest)) => ∃ Q', rr_Calls d y args H Q' ∧ ∀ r' H', Q' r' H' → cond (rr_mem hd (k + 1)) (K (k + 1) loc (rr_push r' rest) H') (rr_step C hd d Q K n (k + 1) loc (rr_push r' rest) H')
      | .inr (.inr v) => Q v H)
theorem rr_br_lin {c : ClassFile.Cond} {x y : Int32} {A B : Prop} (h : rr_br c x y A B) : (A ∧ ∀ A' B' : Prop, A' → rr_br c x y A' B') ∨ (B ∧ ∀ A' B' : Prop, B' → rr_br c x y A' B') := by
  cases c <;> dsimp only [rr_br] at h ⊢
  · by_cases q : x = y
    · exact Or.inl ⟨h.1 q, fun _ _ a => ⟨fun _ => a, fun n => absurd q n⟩⟩
    · exact Or.inr ⟨h.2 q, fun _ _ b => ⟨fun n => absurd n q, fun _ => b⟩⟩
  · by_cases q : x = y
    · exact Or.inr ⟨h.2 q, fun _ _ b => ⟨fun n => absurd q n, fun _ => b⟩⟩
    · exact Or.inl ⟨h.1 q, fun _ _ a => ⟨fun _ => a, fun n => absurd n q⟩⟩
  · by_cases q : x < y
    · exact Or.inl ⟨h.1 q, fun _ _ a => ⟨fun _ => a, fun n => absurd q n⟩⟩
    · exact Or.inr ⟨h.2 q, fun _ _ b => ⟨fun n => absurd n q, fun _ => b⟩⟩
  · by_cases q : y ≤ x
    · exact Or.inl ⟨h.1 q, fun _ _ a => ⟨fun _ => a, fun n => absurd q n⟩⟩
    · exact Or.inr ⟨h.2 q, fun _ _ b => ⟨fun n => absurd n q, fun _ => b⟩⟩
  · by_cases q : y < x
    · exact Or.inl ⟨h.1 q, fun _ _ a => ⟨fun _ => a, fun n => absurd q n⟩⟩
    · exact Or.inr ⟨h.2 q, fun _ _ b => ⟨fun n => absurd n q, fun _ => b⟩⟩
  · by_cases q : x ≤ y
    · exact Or.inl ⟨h.1 q, fun _ _ a => ⟨fun _ => a, fun n => absurd q n⟩⟩
    · exact Or.inr ⟨h.2 q, fun _ _ b => ⟨fun n => absurd n q, fun _ => b⟩⟩
theorem rr_sws_lin {x : Int32} {D : Prop} {A : Nat → Prop} : ∀ {l : List (Int × Nat)}, rr_sws x D A l → (D ∧ ∀ (D' : Prop) (A' : Nat → Prop), D' → rr_sws x D' A' l) ∨ ∃ t, A t ∧ ∀ (D' : Prop) (A' : Nat → Prop), A' t → rr_sws x D' A' l
  | [], h => Or.inl ⟨h, fun _ _ h => h⟩
  | (v, t) :: l, h => by
    by_cases q : x.toInt = v
    · exact Or.inr ⟨t, h.1 q, fun _ _ a => ⟨fun _ => a, fun n => absurd q n⟩⟩
    · rcases rr_sws_lin (h.2 q) with ⟨h1, h2⟩ | ⟨t', h1, h2⟩
      · exact Or.inl ⟨h1, fun D' A' a => ⟨fun n => absurd n q, fun _ => h2 D' A' a⟩⟩
      · exact Or.inr ⟨t', h1, fun D' A' a => ⟨fun n => absurd n q, fun _ => h2 D' A' a⟩⟩
theorem rr_ld_lin {loc : rr_L} {i t : Nat} {A : Value → Prop} (h : rr_ld loc i t A) : ∃ v, A v ∧ ∀ A' : Value → Prop, A' v → rr_ld loc i t A' := by
  unfold rr_ld at h ⊢
  split at h <;> first | exact h.elim | exact ⟨_, h, fun _ a => a⟩
theorem rr_stF_lin {N S : Nat} {hh : Nat → Option rr_E} {q a b : Nat} {v : Value} {G : rr_H → Prop} (h : rr_stF N S hh q a b v G) : ∃ H', G H' ∧ ∀ G' : rr_H → Prop, G' H' → rr_stF N S hh q a b v G' := by
  obtain ⟨fs, h1, h2⟩ := h
  cases hb : Nat.blt b fs.length with
  | false => rw [hb] at h2; exact h2.elim
  | true =>
    rw [hb] at h2
    exact ⟨_, h2, fun G' g => ⟨fs, h1, by rw [hb]; exact g⟩⟩
theorem rr_cond_lin {b : Bool} {A : Prop} (h : cond b A False) : b = true ∧ A := by
  cases b
  · exact h.elim
  · exact ⟨rfl, h⟩
set_option maxHeartbeats 8000000 in
set_option maxRecDepth 100000 in
/-- one instruction comes to one thing -/
theorem rr_ex_lin {e : rr_I} {k : Nat} {loc : rr_L} {st : List Value} {H : rr_H} {F : rr_O → Prop} (h : rr_ex e k loc st H F) : ∃ o, F o ∧ ∀ F' : rr_O → Prop, F' o → rr_ex e k loc st H F' := by
  obtain ⟨Nn, Ss, hh⟩ := H
  obtain ⟨ins, a, b, z⟩ := e
  cases ins <;> first | exact (h : False).elim | exact ⟨_, h, fun _ h' => h'⟩ | skip
  case aaload =>
    dsimp only [rr_ex, rr_ex0] at h ⊢
    split at h
    · obtain ⟨n, f, h1, h2, t, h3, h4⟩ := h
      exact ⟨_, h4, fun _ h' => ⟨n, f, h1, h2, t, h3, h'⟩⟩
    · exact h.elim
  case aload =>
    dsimp only [rr_ex, rr_ex0] at h ⊢
    obtain ⟨v, h1, h2⟩ := rr_ld_lin h
    exact ⟨_, h1, fun _ h' => h2 _ h'⟩
  case aload_n =>
    dsimp only [rr_ex, rr_ex0] at h ⊢
    obtain ⟨v, h1, h2⟩ := rr_ld_lin h
    exact ⟨_, h1, fun _ h' => h2 _ h'⟩
  case iload =>
    dsimp only [rr_ex, rr_ex0] at h ⊢
    obtain ⟨v, h1, h2⟩ := rr_ld_lin h
    exact ⟨_, h1, fun _ h' => h2 _ h'⟩
  case iload_n =>
    dsimp only [rr_ex, rr_ex0] at h ⊢
    obtain ⟨v, h1, h2⟩ := rr_ld_lin h
    exact ⟨_, h1, fun _ h' => h2 _ h'⟩
  case lload =>
    dsimp only [rr_ex, rr_ex0] at h ⊢
    obtain ⟨v, h1, h2⟩ := rr_ld_lin h
    exact ⟨_, h1, fun _ h' => h2 _ h'⟩
  case lload_n =>
    dsimp only [rr_ex, rr_ex0] at h ⊢
    obtain ⟨v, h1, h2⟩ := rr_ld_lin h
    exact ⟨_, h1, fun _ h' => h2 _ h'⟩
  case ldiv =>
    dsimp only [rr_ex, rr_ex0] at h ⊢
    split at h
    · exact ⟨_, h.2, fun _ h' => ⟨h.1, h'⟩⟩
    · exact h.elim
  case lrem =>
    dsimp only [rr_ex, rr_ex0] at h ⊢
    split at h
    · exact ⟨_, h.2, fun _ h' => ⟨h.1, h'⟩⟩
    · exact h.elim
  case if_icmp =>
    dsimp only [rr_ex, rr_ex0] at h ⊢
    split at h
    · rcases rr_br_lin h with ⟨h1, h2⟩ | ⟨h1, h2⟩
      · exact ⟨_, h1, fun _ h' => h2 _ _ h'⟩
      · exact ⟨_, h1, fun _ h' => h2 _ _ h'⟩
    · exact h.elim
  case ifCond =>
    dsimp only [rr_ex, rr_ex0] at h ⊢
    split at h
    · rcases rr_br_lin h with ⟨h1, h2⟩ | ⟨h1, h2⟩
      · exact ⟨_, h1, fun _ h' => h2 _ _ h'⟩
      · exact ⟨_, h1, fun _ h' => h2 _ _ h'⟩
    · exact h.elim
  case tableswitch =>
    dsimp only [rr_ex, rr_ex0] at h ⊢
    split at h
    · rcases rr_sws_lin h with ⟨h1, h2⟩ | ⟨t, h1, h2⟩
      · exact ⟨_, h1, fun _ h' => h2 _ _ h'⟩
      · exact ⟨_, h1, fun _ h' => h2 _ _ h'⟩
    · exact h.elim
  case lookupswitch =>
    dsimp only [rr_ex, rr_ex0] at h ⊢
    split at h
    · rcases rr_sws_lin h with ⟨h1, h2⟩ | ⟨t, h1, h2⟩
      · exact ⟨_, h1, fun _ h' => h2 _ _ h'⟩
      · exact ⟨_, h1, fun _ h' => h2 _ _ h'⟩
    · exact h.elim
  case getfield =>
    dsimp only [rr_ex, rr_ex0] at h ⊢
    split at h
    · obtain ⟨fs, h1, h2⟩ := h
      split at h2
      · next hv => exact ⟨_, h2, fun _ h' => ⟨fs, h1, by rw [hv]; exact h'⟩⟩
      · exact h2.elim
    · exact h.elim
  case putfield =>
    dsimp only [rr_ex, rr_ex0] at h ⊢
    split at h
    · obtain ⟨H', h1, h2⟩ := rr_stF_lin h; exact ⟨_, h1, fun _ h' => h2 _ h'⟩
    · obtain ⟨H', h1, h2⟩ := rr_stF_lin h; exact ⟨_, h1, fun _ h' => h2 _ h'⟩
    · obtain ⟨H', h1, h2⟩ := rr_stF_lin h.2; exact ⟨_, h1, fun _ h' => ⟨h.1, h2 _ h'⟩⟩
    · obtain ⟨H', h1, h2⟩ := rr_stF_lin h; exact ⟨_, h1, fun _ h' => h2 _ h'⟩
    · exact h.elim
  case arraylength =>
    dsimp only [rr_ex, rr_ex0] at h ⊢
    split at h
    · obtain ⟨c, n, x, h1, h2⟩ := h
      exact ⟨_, h2, fun _ h' => ⟨c, n, x, h1, h'⟩⟩
    · exact h.elim
  case iaload =>
    dsimp only [rr_ex, rr_ex0] at h ⊢
    split at h
    · obtain ⟨c, n, f, h1, h2⟩ := h
      obtain ⟨e1, h3, h4⟩ := rr_cond_lin h2
      exact ⟨_, h4, fun _ h' => ⟨c, n, f, h1, by rw [e1]; exact ⟨h3, h'⟩⟩⟩
    · exact h.elim
  case baload =>
    dsimp only [rr_ex, rr_ex0] at h ⊢
    split at h
    · obtain ⟨c, n, f, h1, h2⟩ := h
      obtain ⟨e1, h3, h4⟩ := rr_cond_lin h2
      exact ⟨_, h4, fun _ h' => ⟨c, n, f, h1, by rw [e1]; exact ⟨h3, h'⟩⟩⟩
    · exact h.elim
  case laload =>
    dsimp only [rr_ex, rr_ex0] at h ⊢
    split at h
    · obtain ⟨n, f, h1, h2, h3⟩ := h
      exact ⟨_, h3, fun _ h' => ⟨n, f, h1, h2, h'⟩⟩
    · exact h.elim
  case iastore =>
    dsimp only [rr_ex, rr_ex0] at h ⊢
    split at h
    · obtain ⟨n, f, h1, h2, h3⟩ := h
      exact ⟨_, h3, fun _ h' => ⟨n, f, h1, h2, h'⟩⟩
    · exact h.elim
  case bastore =>
    dsimp only [rr_ex, rr_ex0] at h ⊢
    split at h
    · obtain ⟨n, f, h1, h2, h3, h4⟩ := h
      exact ⟨_, h4, fun _ h' => ⟨n, f, h1, h2, h3, h'⟩⟩
    · exact h.elim
  case lastore =>
    dsimp only [rr_ex, rr_ex0] at h ⊢
    split at h
    · obtain ⟨n, f, h1, h2, h3⟩ := h
      exact ⟨_, h3, fun _ h' => ⟨n, f, h1, h2, h'⟩⟩
    · exact h.elim
  case new =>
    dsimp only [rr_ex, rr_ex0] at h ⊢
    split at h
    · obtain ⟨e1, h2⟩ := rr_cond_lin h
      exact ⟨_, h2, fun _ h' => by rw [e1]; exact h'⟩
    · exact h.elim
  case newarray =>
    dsimp only [rr_ex, rr_ex0] at h ⊢
    split at h <;> first | exact h.elim | exact ⟨_, h.2, fun _ h' => ⟨h.1, h'⟩⟩
  case multianewarray =>
    dsimp only [rr_ex, rr_ex0] at h ⊢
    split at h <;> first | exact h.elim | exact ⟨_, h.2, fun _ h' => ⟨h.1, h'⟩⟩
  case invokevirtual =>
    dsimp only [rr_ex, rr_ex0] at h ⊢
    split at h
    · split at h
      · next hv =>
        obtain ⟨fs, h1, h2⟩ := h
        obtain ⟨e1, h3⟩ := rr_cond_lin h2
        exact ⟨_, h3, fun _ h' => ⟨fs, h1, by rw [e1]; exact h'⟩⟩
      · exact h.elim
    · exact h.elim
  case invokespecial =>
    dsimp only [rr_ex, rr_ex0] at h ⊢
    split at h
    · cases hb : Nat.beq a 9998 with
      | true =>
        rw [hb] at h
        obtain ⟨e1, h3⟩ := rr_cond_lin h
        exact ⟨_, h3, fun _ h' => by rw [e1]; exact h'⟩
      | false =>
        rw [hb] at h
        obtain ⟨e1, h3⟩ := rr_cond_lin h
        exact ⟨_, h3, fun _ h' => by rw [e1]; exact h'⟩
    · exact h.elim
  case invokestatic =>
    dsimp only [rr_ex, rr_ex0] at h ⊢
    cases hb : Nat.beq a 9999 with
    | true =>
      rw [hb] at h
      dsimp only [cond] at h ⊢
      split at h
      · obtain ⟨n0, f, n1, g, h1, h2, h3, h4⟩ := h
        obtain ⟨e1, h5⟩ := rr_cond_lin h4
        exact ⟨_, h5, fun _ h' => ⟨n0, f, n1, g, h1, h2, h3, by rw [e1]; exact h'⟩⟩
      · obtain ⟨n0, f, n1, g, h1, h2, h3, h4⟩ := h
        obtain ⟨e1, h5⟩ := rr_cond_lin h4
        exact ⟨_, h5, fun _ h' => ⟨n0, f, n1, g, h1, h2, h3, by rw [e1]; exact h'⟩⟩
      · exact h.elim
    | false =>
      rw [hb] at h
      dsimp only [cond] at h ⊢
      cases hb7 : Nat.beq a 9997 with
      | true =>
        rw [hb7] at h
        dsimp only at h ⊢
        split at h
        · obtain ⟨e1, h3⟩ := rr_cond_lin h
          exact ⟨_, h3, fun _ h' => by rw [e1]; exact h'⟩
        · exact h.elim
      | false =>
        rw [hb7] at h
        dsimp only at h ⊢
        cases hb6 : Nat.beq a 9996 with
        | true =>
          rw [hb6] at h
          dsimp only at h ⊢
          split at h
          · obtain ⟨e1, h3⟩ := rr_cond_lin h
            exact ⟨_, h3, fun _ h' => by rw [e1]; exact h'⟩
          · exact h.elim
        | false =>
          rw [hb6] at h
          dsimp only at h ⊢
          split at h
          · obtain ⟨e1, h3⟩ := rr_cond_lin h
            exact ⟨_, h3, fun _ h' => by rw [e1]; exact h'⟩
          · exact h.elim
  case ireturn =>
    dsimp only [rr_ex, rr_ex0] at h ⊢
    split at h
    · exact ⟨_, h, fun _ h' => h'⟩
    · exact ⟨_, h.2, fun _ h' => ⟨h.1, h'⟩⟩
    · exact ⟨_, h.2, fun _ h' => ⟨h.1, h'⟩⟩
    · exact ⟨_, h.2, fun _ h' => ⟨h.1, h'⟩⟩
    · exact h.elim
  all_goals
    dsimp only [rr_ex, rr_ex0] at h ⊢
    split at h <;> first | exact h.elim | exact ⟨_, h, fun _ h' => h'⟩
/-- more fuel does no harm -/
theorem rr_Run_more : ∀ (f d j k : Nat) (loc : rr_L) (st : List Value) (H : rr_H) (r : Option Value) (R : rr_H), rr_Run f d j k loc st H r R → rr_Run (f + 1) d j k loc st H r R := by
  intro f
  induction f with
  | zero => intro d j k loc st H r R h; exact h.elim
  | succ f ih =>
    intro d j k loc st H r R h
    unfold rr_Run at h ⊢
    split at h
    · exact h.elim
    · next e he =>
      obtain ⟨o, h1, h2⟩ := rr_ex_lin h
      apply h2
      rcases o with ⟨k', loc', st', H'⟩ | ⟨y, args, rest⟩ | v
      · exact ih _ _ _ _ _ _ _ _ h1
      · dsimp only at h1 ⊢
        split at h1
        · exact h1
        · obtain ⟨r', H', a1, a2⟩ := h1
          exact ⟨r', H', ih _ _ _ _ _ _ _ _ a1, ih _ _ _ _ _ _ _ _ a2⟩
      · exact h1
theorem rr_Run_le {f g d j k : Nat} {loc : rr_L} {st : List Value} {H : rr_H} {r : Option Value} {R : rr_H} (h : rr_Run f d j k loc st H r R) (hfg : f ≤ g) : rr_Run g d j k loc st H r R := by
  induction hfg with
  | refl => exact h
  | step _ ih => exact rr_Run_more _ _ _ _ _ _ _ _ _ ih
theorem rr_one {d j k : Nat} {loc : rr_L} {st : List Value} {H : rr_H} {Q : Option Value → rr_H → Prop} {e : rr_I} (he : rr_nth (rr_code j) k = some e)
    (h : rr_ex e k loc st H (fun o => match o with
      | .inl (k', loc', st', H') => rr_K (d + 1) j Q k' loc' st' H'
      | .inr (.inl (y, args, rest)) => ∃ Q', rr_Calls d y args H Q' ∧ ∀ r' H', Q' r' H' → rr_K (d + 1) j Q (k + 1) loc (rr_push r' rest) H'
      | .inr (.inr v) => Q v H)) : rr_K (d + 1) j Q k loc st H := by
  obtain ⟨o, h1, h2⟩ := rr_ex_lin h
  rcases o with ⟨k', loc', st', H'⟩ | ⟨y, args, rest⟩ | v
  · obtain ⟨f, r, R, a1, a2⟩ := h1
    refine ⟨f + 1, r, R, ?_, a2⟩
    unfold rr_Run
    rw [he]
    exact h2 _ a1
  · obtain ⟨Q', ⟨f, r', H', b1, b2⟩, a3⟩ := h1
    obtain ⟨g, r, R, a1, a2⟩ := a3 r' H' b2
    refine ⟨(f + g) + 1, r, R, ?_, a2⟩
    unfold rr_Run
    rw [he]
    exact h2 _ ⟨r', H', rr_Run_le b1 (by omega), rr_Run_le a1 (by omega)⟩
  · refine ⟨1, v, H, ?_, h1⟩
    unfold rr_Run
    rw [he]
    exact h2 _ ⟨rfl, rfl⟩
theorem rr_cond_or {b : Bool} {A B : Prop} (h : cond b A B) (hb : B → A) : A := by
  cases b
  · exact hb h
  · exact h
theorem rr_go {C : List rr_I} {hd : List Nat} {d j : Nat} {Q : Option Value → rr_H → Prop} (hC : rr_code j = C) : ∀ (n k : Nat) (loc : rr_L) (st : List Value) (H : rr_H), rr_step C hd d Q (rr_K (d + 1) j Q) n k loc st H → rr_K (d + 1) j Q k loc st H := by
  intro n
  induction n with
  | zero => intro k loc st H h; exact h
  | succ n ih =>
    intro k loc st H h
    unfold rr_step at h
    split at h
    · exact h.elim
    · next e he =>
      obtain ⟨o, h1, h2⟩ := rr_ex_lin h
      refine rr_one (e := e) (by rw [hC]; exact he) (h2 _ ?_)
      rcases o with ⟨k', loc', st', H'⟩ | ⟨y, args, rest⟩ | v
      · exact rr_cond_or h1 (ih _ _ _ _)
      · obtain ⟨Q', a1, a2⟩ := h1
        exact ⟨Q', a1, fun r' H' q => rr_cond_or (a2 r' H' q) (ih _ _ _ _)⟩
      · exact h1
/-- A METHOD: K stands for 'from here it comes to an end with Q' -/
theorem rr_meth {C : List rr_I} {hd : List Nat} {d j mx : Nat} {args : List Value} {H : rr_H} {Q : Option Value → rr_H → Prop} (hC : rr_code j = C) (hm : rr_max j = mx)
    (h : ∀ K : Nat → rr_L → List Value → rr_H → Prop, (∀ k loc st H, rr_step C hd d Q K 4000 k loc st H → K k loc st H) → K 0 (rr_pad mx (rr_ent args)) [] H) : rr_Calls (d + 1) j args H Q := by
  have h1 := h (rr_K (d + 1) j Q) (fun k loc st H q => rr_go hC 4000 k loc st H q)
  obtain ⟨f, r, R, a1, a2⟩ := h1
  subst hm
  exact ⟨f, r, R, a1, a2⟩
theorem rr_Calls_imp {d j : Nat} {args : List Value} {H : rr_H} {Q Q' : Option Value → rr_H → Prop} (h : rr_Calls d j args H Q) (hq : ∀ r R, Q r R → Q' r R) : rr_Calls d j args H Q' := by
  obtain ⟨f, r, R, a, b⟩ := h
  exact ⟨f, r, R, a, hq r R b⟩
