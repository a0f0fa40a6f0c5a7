/-! The game's methods, fractions. -/
theorem wfn {G : Nat → Prop} (step : ∀ m, (∀ m', m' < m → G m') → G m) : ∀ m, G m := fun m => Nat.strongRecOn m step
def gs (m : Nat) (f : Nat → Int) : Int := ms_sm m (fun g => if g = 0 then 0 else f g)
theorem gs_1 {f : Nat → Int} : gs 1 f = 0 := rfl
theorem gs_s {g : Nat} {f : Nat → Int} (h : 1 ≤ g) : gs (g + 1) f = gs g f + f g := by
  show ms_sm g _ + (if g = 0 then 0 else f g) = _
  rw [if_neg (by omega)]; rfl
theorem u_many {d N S : Nat} {h : Nat → Option rr_E} {a : Int} (ha : b3 a) : rr_Calls (d + 1) j_Game_mayBeMany [.int (ii a)] (N, S, h) (fun r R => r = some (.int (rb (2 ≤ a ∧ a ≤ 4))) ∧ R = (N, S, h)) := by
  refine rr_meth (C := K_Game_mayBeMany) (hd := h_Game_mayBeMany) (mx := 1) rfl rfl (fun K hK => ?_)
  refine hK _ _ _ _ ?_
  refine s_iload_n rfl (cn rfl) rfl ?_
  refine s_iconst rfl (cn rfl) ?_
  refine s_icmp_lt rfl (cn rfl) (cn rfl) ⟨by omega, by omega⟩ ⟨by omega, by omega⟩ (fun q2 => ?_) (fun q2 => ?_)
  · refine s_iconst rfl (cn rfl) ?_
    refine s_zreturn rfl (Or.inl rfl) ?_
    exact ⟨rz_f (by omega), rfl⟩
  · refine s_iload_n rfl (cn rfl) rfl ?_
    refine s_iconst rfl (cn rfl) ?_
    refine s_icmp_gt rfl (cn rfl) (cn rfl) ⟨by omega, by omega⟩ ⟨by omega, by omega⟩ (fun q5 => ?_) (fun q5 => ?_)
    · refine s_iconst rfl (cn rfl) ?_
      refine s_zreturn rfl (Or.inl rfl) ?_
      exact ⟨rz_f (by omega), rfl⟩
    · refine s_iconst rfl (cn rfl) ?_
      refine s_goto rfl (cn rfl) ?_
      refine s_zreturn rfl (Or.inr rfl) ?_
      exact ⟨rz_t (by omega), rfl⟩
theorem u_mworth {d N S : Nat} {h : Nat → Option rr_E} {a : Int} (ha : b3 a) : rr_Calls (d + 1) j_Game_mayBeWorth [.int (ii a)] (N, S, h) (fun r R => r = some (.int (rb (-999 ≤ a ∧ a ≤ 999))) ∧ R = (N, S, h)) := by
  refine rr_meth (C := K_Game_mayBeWorth) (hd := h_Game_mayBeWorth) (mx := 1) rfl rfl (fun K hK => ?_)
  refine hK _ _ _ _ ?_
  refine s_iload_n rfl (cn rfl) rfl ?_
  refine s_sipush rfl (cn rfl) (by decide) ?_
  refine s_icmp_lt rfl (cn rfl) (cn rfl) ⟨by omega, by omega⟩ ⟨by omega, by omega⟩ (fun q2 => ?_) (fun q2 => ?_)
  · refine s_iconst rfl (cn rfl) ?_
    refine s_zreturn rfl (Or.inl rfl) ?_
    exact ⟨rz_f (by omega), rfl⟩
  · refine s_iload_n rfl (cn rfl) rfl ?_
    refine s_sipush rfl (cn rfl) (by decide) ?_
    refine s_icmp_gt rfl (cn rfl) (cn rfl) ⟨by omega, by omega⟩ ⟨by omega, by omega⟩ (fun q5 => ?_) (fun q5 => ?_)
    · refine s_iconst rfl (cn rfl) ?_
      refine s_zreturn rfl (Or.inl rfl) ?_
      exact ⟨rz_f (by omega), rfl⟩
    · refine s_iconst rfl (cn rfl) ?_
      refine s_goto rfl (cn rfl) ?_
      refine s_zreturn rfl (Or.inr rfl) ?_
      exact ⟨rz_t (by omega), rfl⟩
theorem u_all_1 {d N S n : Nat} {h : Nat → Option rr_E} (hn : 2 ≤ n ∧ n ≤ 4) (c1 : h 1 = some (.inr (0, [.int (ii (n : Int)), .ref 2]))) : rr_Calls (d + 1) j_Game_all [.ref 1] (N, S, h) (fun r R => r = some (.int (ii ((al n : Nat) : Int))) ∧ R = (N, S, h)) := by
  refine rr_meth (C := K_Game_all) (hd := h_Game_all) (mx := 1) rfl rfl (fun K hK => ?_)
  refine hK _ _ _ _ ?_
  refine s_iconst rfl (cn rfl) ?_
  refine s_aload_n rfl (cn rfl) rfl ?_
  refine s_getfield rfl (cn rfl) c1 rfl ?_
  refine s_ishl rfl (cn rfl) _ (bi_shl1 (by omega)) ?_
  refine s_iconst rfl (cn rfl) ?_
  refine s_isub rfl (cn rfl) ?_
  refine s_ireturn rfl ?_
  exact ⟨ri al_p.symm, rfl⟩
theorem u_all_5 {d N S n : Nat} {h : Nat → Option rr_E} (hn : 2 ≤ n ∧ n ≤ 4) (c5 : h 5 = some (.inr (0, [.int (ii (n : Int)), .ref 6]))) : rr_Calls (d + 1) j_Game_all [.ref 5] (N, S, h) (fun r R => r = some (.int (ii ((al n : Nat) : Int))) ∧ R = (N, S, h)) := by
  refine rr_meth (C := K_Game_all) (hd := h_Game_all) (mx := 1) rfl rfl (fun K hK => ?_)
  refine hK _ _ _ _ ?_
  refine s_iconst rfl (cn rfl) ?_
  refine s_aload_n rfl (cn rfl) rfl ?_
  refine s_getfield rfl (cn rfl) c5 rfl ?_
  refine s_ishl rfl (cn rfl) _ (bi_shl1 (by omega)) ?_
  refine s_iconst rfl (cn rfl) ?_
  refine s_isub rfl (cn rfl) ?_
  refine s_ireturn rfl ?_
  exact ⟨ri al_p.symm, rfl⟩
theorem u_hasGroup {d N S n : Nat} {h : Nat → Option rr_E} (hn : 2 ≤ n ∧ n ≤ 4) (c1 : h 1 = some (.inr (0, [.int (ii (n : Int)), .ref 2]))) {a : Int} (ha : b3 a) : rr_Calls (d + 2) j_Game_hasGroup [.ref 1, .int (ii a)] (N, S, h) (fun r R => r = some (.int (rb (1 ≤ a ∧ a ≤ (al n : Int)))) ∧ R = (N, S, h)) := by
  refine rr_meth (C := K_Game_hasGroup) (hd := h_Game_hasGroup) (mx := 2) rfl rfl (fun K hK => ?_)
  have hA := al_b hn
  refine hK _ _ _ _ ?_
  refine s_iload_n rfl (cn rfl) rfl ?_
  refine s_iconst rfl (cn rfl) ?_
  refine s_icmp_lt rfl (cn rfl) (cn rfl) ⟨by omega, by omega⟩ ⟨by omega, by omega⟩ (fun q2 => ?_) (fun q2 => ?_)
  · refine s_iconst rfl (cn rfl) ?_
    refine s_zreturn rfl (Or.inl rfl) ?_
    exact ⟨rz_f (by omega), rfl⟩
  · refine s_iload_n rfl (cn rfl) rfl ?_
    refine s_aload_n rfl (cn rfl) rfl ?_
    refine s_virt rfl (cn rfl) rfl rfl c1 rfl (u_all_1 hn c1) ?_
    rintro _ _ ⟨rfl, rfl⟩
    refine s_icmp_gt rfl (cn rfl) (cn rfl) ⟨by omega, by omega⟩ ⟨by omega, by omega⟩ (fun q6 => ?_) (fun q6 => ?_)
    · refine s_iconst rfl (cn rfl) ?_
      refine s_zreturn rfl (Or.inl rfl) ?_
      exact ⟨rz_f (by omega), rfl⟩
    · refine s_iconst rfl (cn rfl) ?_
      refine s_goto rfl (cn rfl) ?_
      refine s_zreturn rfl (Or.inr rfl) ?_
      exact ⟨rz_t (by omega), rfl⟩
theorem u_hasPart {d N S n : Nat} {h : Nat → Option rr_E} (hn : 2 ≤ n ∧ n ≤ 4) (c1 : h 1 = some (.inr (0, [.int (ii (n : Int)), .ref 2]))) {a : Int} (ha : b3 a) : rr_Calls (d + 2) j_Game_hasPart [.ref 1, .int (ii a)] (N, S, h) (fun r R => r = some (.int (rb (1 ≤ a ∧ a < (al n : Int)))) ∧ R = (N, S, h)) := by
  refine rr_meth (C := K_Game_hasPart) (hd := h_Game_hasPart) (mx := 2) rfl rfl (fun K hK => ?_)
  have hA := al_b hn
  refine hK _ _ _ _ ?_
  refine s_iload_n rfl (cn rfl) rfl ?_
  refine s_iconst rfl (cn rfl) ?_
  refine s_icmp_lt rfl (cn rfl) (cn rfl) ⟨by omega, by omega⟩ ⟨by omega, by omega⟩ (fun q2 => ?_) (fun q2 => ?_)
  · refine s_iconst rfl (cn rfl) ?_
    refine s_zreturn rfl (Or.inl rfl) ?_
    exact ⟨rz_f (by omega), rfl⟩
  · refine s_iload_n rfl (cn rfl) rfl ?_
    refine s_aload_n rfl (cn rfl) rfl ?_
    refine s_virt rfl (cn rfl) rfl rfl c1 rfl (u_all_1 hn c1) ?_
    rintro _ _ ⟨rfl, rfl⟩
    refine s_icmp_ge rfl (cn rfl) (cn rfl) ⟨by omega, by omega⟩ ⟨by omega, by omega⟩ (fun q6 => ?_) (fun q6 => ?_)
    · refine s_iconst rfl (cn rfl) ?_
      refine s_zreturn rfl (Or.inl rfl) ?_
      exact ⟨rz_f (by omega), rfl⟩
    · refine s_iconst rfl (cn rfl) ?_
      refine s_goto rfl (cn rfl) ?_
      refine s_zreturn rfl (Or.inr rfl) ?_
      exact ⟨rz_t (by omega), rfl⟩
theorem u_hasOne {d N S n : Nat} {h : Nat → Option rr_E} (hn : 2 ≤ n ∧ n ≤ 4) (c1 : h 1 = some (.inr (0, [.int (ii (n : Int)), .ref 2]))) {a : Int} (ha : b3 a) : rr_Calls (d + 1) j_Game_hasOne [.ref 1, .int (ii a)] (N, S, h) (fun r R => r = some (.int (rb (0 ≤ a ∧ a < (n : Int)))) ∧ R = (N, S, h)) := by
  refine rr_meth (C := K_Game_hasOne) (hd := h_Game_hasOne) (mx := 2) rfl rfl (fun K hK => ?_)
  refine hK _ _ _ _ ?_
  refine s_iload_n rfl (cn rfl) rfl ?_
  refine s_if_lt rfl (cn rfl) (cn rfl) ⟨by omega, by omega⟩ (fun q1 => ?_) (fun q1 => ?_)
  · refine s_iconst rfl (cn rfl) ?_
    refine s_zreturn rfl (Or.inl rfl) ?_
    exact ⟨rz_f (by omega), rfl⟩
  · refine s_iload_n rfl (cn rfl) rfl ?_
    refine s_aload_n rfl (cn rfl) rfl ?_
    refine s_getfield rfl (cn rfl) c1 rfl ?_
    refine s_icmp_ge rfl (cn rfl) (cn rfl) ⟨by omega, by omega⟩ ⟨by omega, by omega⟩ (fun q5 => ?_) (fun q5 => ?_)
    · refine s_iconst rfl (cn rfl) ?_
      refine s_zreturn rfl (Or.inl rfl) ?_
      exact ⟨rz_f (by omega), rfl⟩
    · refine s_iconst rfl (cn rfl) ?_
      refine s_goto rfl (cn rfl) ?_
      refine s_zreturn rfl (Or.inr rfl) ?_
      exact ⟨rz_t (by omega), rfl⟩
theorem u_cbz {d N S n : Nat} {v : Nat → Int} {h : Nat → Option rr_E} (hn : 2 ≤ n ∧ n ≤ 4) (c1 : h 1 = some (.inr (0, [.int (ii (n : Int)), .ref 2]))) (c2 : h 2 = some (.inl (0, 16, .inl (fun k => ii (v k))))) (hv : ∀ k, b3 (v k)) : rr_Calls (d + 2) j_Game_countBelowZero [.ref 1] (N, S, h) (fun r R => r = some (.int (ii (gs (al n + 1) (fun g => if v g < 0 then 1 else 0)))) ∧ R = (N, S, h)) := by
  refine rr_meth (C := K_Game_countBelowZero) (hd := h_Game_countBelowZero) (mx := 3) rfl rfl (fun K hK => ?_)
  have hA := al_b hn
  refine hK _ _ _ _ ?_
  refine s_iconst rfl (cn rfl) ?_
  refine s_istore_n rfl (cn rfl) ?_
  refine s_iconst rfl (cn rfl) ?_
  refine s_istore_n rfl (ch rfl) ?_
  have lp4 : ∀ g : Nat, g ≤ al n + 1 → ∀ (x : Int) (hx : x = gs g (fun g => if v g < 0 then 1 else 0)) (h1 : 1 ≤ g), K 4 [some (.ref 1), some (.int (ii x)), some (.int (ii (g : Int)))] [] (N, S, h) := by
    refine dn (fun g hg ih4 => ?_)
    intro x hx h1
    have hb := hv g
    refine hK _ _ _ _ ?_
    refine s_iload_n rfl (cn rfl) rfl ?_
    refine s_aload_n rfl (cn rfl) rfl ?_
    refine s_virt rfl (cn rfl) rfl rfl c1 rfl (u_all_1 hn c1) ?_
    rintro _ _ ⟨rfl, rfl⟩
    refine s_icmp_gt rfl (cn rfl) (cn rfl) ⟨by omega, by omega⟩ ⟨by omega, by omega⟩ (fun q7 => ?_) (fun q7 => ?_)
    · refine s_iload_n rfl (cn rfl) rfl ?_
      refine s_ireturn rfl ?_
      exact ⟨ri (by rw [hx, show g = al n + 1 by omega]), rfl⟩
    · refine s_aload_n rfl (cn rfl) rfl ?_
      refine s_getfield rfl (cn rfl) c1 rfl ?_
      refine s_iload_n rfl (cn rfl) rfl ?_
      refine s_iaload rfl (cn rfl) _ rfl c2 rfl (by omega) (by decide) rfl ?_
      refine s_if_ge rfl (cn rfl) (cn rfl) ⟨by omega, by omega⟩ (fun q12 => ?_) (fun q12 => ?_)
      · refine s_iinc rfl (cn rfl) rfl ?_
        refine s_goto rfl (ch rfl) ?_
        exact ih4 (by omega) _ (by rw [gs_s h1]; split <;> omega) (by omega)
      · refine s_iinc rfl (cn rfl) rfl ?_
        refine s_iinc rfl (cn rfl) rfl ?_
        refine s_goto rfl (ch rfl) ?_
        exact ih4 (by omega) _ (by rw [gs_s h1]; split <;> omega) (by omega)
  exact lp4 1 (by omega) _ gs_1.symm (by omega)
