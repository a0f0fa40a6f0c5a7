/-! What is told: the simple calls. -/
theorem fc_0 {v w : Nat → Int} : fc v w 0 0 0 = w := by
  funext k
  exact if_neg (by omega)
theorem fc_s {v w : Nat → Int} {g : Nat} : fu (fc v w 0 0 g) g (v g) = fc v w 0 0 (g + 1) := by
  funext k
  show (if k = g then v g else if 0 ≤ k ∧ k < 0 + g then v (0 + (k - 0)) else w k) = if 0 ≤ k ∧ k < 0 + (g + 1) then v (0 + (k - 0)) else w k
  by_cases h : k = g
  · rw [if_pos h, if_pos (by omega), h]
    congr 1; omega
  · rw [if_neg h]
    by_cases h2 : k < g
    · rw [if_pos (by omega), if_pos (by omega)]
    · rw [if_neg (by omega), if_neg (by omega)]
theorem d_people {d N S n : Nat} {v : Nat → Int} {h : Nat → Option rr_E} (hn : 2 ≤ n ∧ n ≤ 4) (c1 : h 1 = some (.inr (0, [.int (ii (n : Int)), .ref 2]))) (c2 : h 2 = some (.inl (0, 16, .inl (fun k => ii (v k))))) {sl im : Int} (c0 : h 0 = some (DO sl im)) {a : Int} (ha : b3 a) : rr_Calls (d + 3) j_Desk_people [.ref 0, .int (ii a)] (N, S, h) (fun r R => (¬ (2 ≤ a ∧ a ≤ 4) ∧ r = some (.int (ii (-2))) ∧ R = (N, S, h)) ∨ ((2 ≤ a ∧ a ≤ 4) ∧ r = some (.int (ii (n : Int))) ∧ ∃ h', R = (N, S, h') ∧ h' 0 = some (DO 1 im) ∧ h' 1 = some (.inr (0, [.int (ii a), .ref 2])) ∧ h' 2 = some (.inl (0, 16, .inl (fun k => ii (zr v 16 k)))) ∧ fr [0, 1, 2] h h')) := by
  refine rr_meth (C := K_Desk_people) (hd := h_Desk_people) (mx := 3) rfl rfl (fun K hK => ?_)
  refine hK _ _ _ _ ?_
  refine s_iload_n rfl (cn rfl) rfl ?_
  refine s_stat rfl (cn rfl) rfl rfl rfl (u_many (by omega)) ?_
  rintro _ _ ⟨rfl, rfl⟩
  refine s_ifb_ne rfl (cn rfl) (cn rfl) (fun q2 => ?_) (fun q2 => ?_)
  · refine s_aload_n rfl (cn rfl) rfl ?_
    refine s_getfield rfl (cn rfl) c0 rfl ?_
    refine s_getfield rfl (cn rfl) c1 rfl ?_
    refine s_istore_n rfl (cn rfl) ?_
    refine s_aload_n rfl (cn rfl) rfl ?_
    refine s_getfield rfl (cn rfl) c0 rfl ?_
    refine s_iload_n rfl (cn rfl) rfl ?_
    refine s_virt rfl (cn rfl) rfl rfl c1 rfl (u_begin hn c1 c2) ?_
    rintro _ _ ⟨rfl, h', rfl, d1, d2, hf⟩
    have c0 := (hf 0 (by decide)).trans c0
    refine s_aload_n rfl (cn rfl) rfl ?_
    refine s_iconst rfl (cn rfl) ?_
    refine s_putz rfl (cn rfl) rfl (Or.inr rfl) c0 rfl ?_
    refine s_iload_n rfl (cn rfl) rfl ?_
    refine s_ireturn rfl ?_
    exact Or.inr ⟨q2, rfl, _, rfl, rr_set_eq, d1, d2, fr_s (by decide) (fr_w hf (by decide))⟩
  · refine s_bipush rfl (cn rfl) (by decide) ?_
    refine s_ireturn rfl ?_
    exact Or.inl ⟨q2, rfl, rfl⟩
theorem m_people {d N S n : Nat} {kp tp pt wr fa dm ce di be od sm le sc ba bb ti rk ts tm pa wa : Int} {h : Nat → Option rr_E}  {v : Nat → Int} (c58 : h 58 = some (MO (n : Int) kp tp pt wr fa dm ce di be od sm le sc ba bb ti rk ts tm pa wa)) (c59 : h 59 = some (.inl (0, 16, .inl (fun k => ii (v k))))) {a : Int} (ha : b3 a) : rr_Calls (d + 2) j_Model_people [.ref 58, .int (ii a)] (N, S, h) (fun r R => (¬ (2 ≤ a ∧ a ≤ 4) ∧ r = some (.int (ii (-2))) ∧ R = (N, S, h)) ∨ ((2 ≤ a ∧ a ≤ 4) ∧ r = some (.int (ii (n : Int))) ∧ ∃ h', R = (N, S, h') ∧ h' 58 = some (MO a kp tp pt wr fa dm ce di be 1 sm le sc ba bb ti rk ts tm pa wa) ∧ h' 59 = some (.inl (0, 16, .inl (fun k => ii (zr v 16 k)))) ∧ fr [58, 59] h h')) := by
  refine rr_meth (C := K_Model_people) (hd := h_Model_people) (mx := 4) rfl rfl (fun K hK => ?_)
  refine hK _ _ _ _ ?_
  refine s_iload_n rfl (cn rfl) rfl ?_
  refine s_i2l rfl (cn rfl) ⟨by omega, by omega⟩ ?_
  refine s_ldc2_w rfl (cn rfl) ?_
  refine s_ldc2_w rfl (cn rfl) ?_
  refine s_stat rfl (cn rfl) rfl rfl rfl (m_in (by omega) (by omega) (by omega)) ?_
  rintro _ _ ⟨rfl, rfl⟩
  refine s_ifb_ne rfl (cn rfl) (cn rfl) (fun q5 => ?_) (fun q5 => ?_)
  · refine s_aload_n rfl (cn rfl) rfl ?_
    refine s_getfield rfl (cn rfl) c58 rfl ?_
    refine s_istore_n rfl (cn rfl) ?_
    refine s_aload_n rfl (cn rfl) rfl ?_
    refine s_iload_n rfl (cn rfl) rfl ?_
    refine s_puti rfl (cn rfl) rfl c58 rfl ?_
    refine s_iconst rfl (cn rfl) ?_
    refine s_istore_n rfl (ch rfl) ?_
    have lp16 : ∀ g : Nat, g ≤ 16 → ∀ (h' : Nat → Option rr_E) (c58 : h' 58 = some (MO a kp tp pt wr fa dm ce di be od sm le sc ba bb ti rk ts tm pa wa)) (c59 : h' 59 = some (.inl (0, 16, .inl (fun k => ii (zr v g k))))) (hf : fr [58, 59] h h'), K 16 [some (.ref 58), some (.int (ii a)), some (.int (ii (n : Int))), some (.int (ii (g : Int)))] [] (N, S, h') := by
      refine dn (fun g hg ih16 => ?_)
      intro h' c58 c59 hf
      refine hK _ _ _ _ ?_
      refine s_iload_n rfl (cn rfl) rfl ?_
      refine s_bipush rfl (cn rfl) (by decide) ?_
      refine s_icmp_ge rfl (cn rfl) (cn rfl) ⟨by omega, by omega⟩ ⟨by omega, by omega⟩ (fun q18 => ?_) (fun q18 => ?_)
      · refine s_aload_n rfl (cn rfl) rfl ?_
        refine s_iconst rfl (cn rfl) ?_
        refine s_putz rfl (cn rfl) rfl (Or.inr rfl) c58 rfl ?_
        refine s_iload_n rfl (cn rfl) rfl ?_
        refine s_ireturn rfl ?_
        exact Or.inr ⟨q5, rfl, _, rfl, rr_set_eq, ar_f c59 (by rw [show g = 16 by omega]), fr_s (by decide) hf⟩
      · refine s_aload_n rfl (cn rfl) rfl ?_
        refine s_getfield rfl (cn rfl) c58 rfl ?_
        refine s_iload_n rfl (cn rfl) rfl ?_
        refine s_iconst rfl (cn rfl) ?_
        refine s_iastore rfl (cn rfl) _ rfl c59 (by omega) (by decide) ?_
        refine s_iinc rfl (cn rfl) rfl ?_
        refine s_goto rfl (ch rfl) ?_
        exact ih16 (by omega) _ c58 (ar_f rr_set_eq zr_s) (fr_s (by decide) hf)
    exact lp16 0 (by omega) _ rr_set_eq (ar_f c59 zr_0.symm) (fr_s (by decide) fr_r)
  · refine s_bipush rfl (cn rfl) (by decide) ?_
    refine s_ireturn rfl ?_
    exact Or.inl ⟨q5, rfl, rfl⟩
theorem d_worth {d N S n : Nat} {v : Nat → Int} {h : Nat → Option rr_E} (hn : 2 ≤ n ∧ n ≤ 4) (c1 : h 1 = some (.inr (0, [.int (ii (n : Int)), .ref 2]))) (c2 : h 2 = some (.inl (0, 16, .inl (fun k => ii (v k))))) (hv : ∀ k, -999 ≤ v k ∧ v k ≤ 999) {sl im : Int} (c0 : h 0 = some (DO sl im)) {a b : Int} (ha : b3 a) (hb : b3 b) : rr_Calls (d + 3) j_Desk_worth [.ref 0, .int (ii a), .int (ii b)] (N, S, h) (fun r R => (¬ ((1 ≤ a ∧ a ≤ (al n : Int)) ∧ (-999 ≤ b ∧ b ≤ 999)) ∧ r = some (.long (jj (-9223372036854775808))) ∧ R = (N, S, h)) ∨ (((1 ≤ a ∧ a ≤ (al n : Int)) ∧ (-999 ≤ b ∧ b ≤ 999)) ∧ r = some (.long (jj (v a.toNat))) ∧ ∃ h', R = (N, S, h') ∧ h' 0 = some (DO 1 im) ∧ h' 2 = some (.inl (0, 16, .inl (fun k => ii (fu v a.toNat b k)))) ∧ fr [0, 2] h h')) := by
  refine rr_meth (C := K_Desk_worth) (hd := h_Desk_worth) (mx := 4) rfl rfl (fun K hK => ?_)
  have hA := al_b hn
  refine hK _ _ _ _ ?_
  refine s_aload_n rfl (cn rfl) rfl ?_
  refine s_getfield rfl (cn rfl) c0 rfl ?_
  refine s_iload_n rfl (cn rfl) rfl ?_
  refine s_virt rfl (cn rfl) rfl rfl c1 rfl (u_hasGroup hn c1 (by omega)) ?_
  rintro _ _ ⟨rfl, rfl⟩
  refine s_ifb_eq rfl (cn rfl) (cn rfl) (fun q4 => ?_) (fun q4 => ?_)
  · refine s_ldc2_w rfl (cn rfl) ?_
    refine s_lreturn rfl ?_
    exact Or.inl ⟨fun q => by first | exact q4 q.1 | exact q7 q.2, rfl, rfl⟩
  · refine s_iload_n rfl (cn rfl) rfl ?_
    refine s_stat rfl (cn rfl) rfl rfl rfl (u_mworth (by omega)) ?_
    rintro _ _ ⟨rfl, rfl⟩
    refine s_ifb_ne rfl (cn rfl) (cn rfl) (fun q7 => ?_) (fun q7 => ?_)
    · obtain ⟨g, rfl⟩ := Int.eq_ofNat_of_zero_le (show 0 ≤ a by omega)
      have hvg := hv g
      refine s_aload_n rfl (cn rfl) rfl ?_
      refine s_getfield rfl (cn rfl) c0 rfl ?_
      refine s_getfield rfl (cn rfl) c1 rfl ?_
      refine s_iload_n rfl (cn rfl) rfl ?_
      refine s_iaload rfl (cn rfl) _ rfl c2 rfl (by omega) (by decide) rfl ?_
      refine s_istore_n rfl (cn rfl) ?_
      refine s_aload_n rfl (cn rfl) rfl ?_
      refine s_getfield rfl (cn rfl) c0 rfl ?_
      refine s_getfield rfl (cn rfl) c1 rfl ?_
      refine s_iload_n rfl (cn rfl) rfl ?_
      refine s_iload_n rfl (cn rfl) rfl ?_
      refine s_iastore rfl (cn rfl) _ rfl c2 (by omega) (by decide) ?_
      refine s_aload_n rfl (cn rfl) rfl ?_
      refine s_iconst rfl (cn rfl) ?_
      refine s_putz rfl (cn rfl) rfl (Or.inr rfl) c0 rfl ?_
      refine s_iload_n rfl (cn rfl) rfl ?_
      refine s_i2l rfl (cn rfl) ⟨by omega, by omega⟩ ?_
      refine s_lreturn rfl ?_
      exact Or.inr ⟨⟨q4, q7⟩, rfl, _, rfl, rr_set_eq, rfl, fr_s (by decide) (fr_s (by decide) fr_r)⟩
    · refine s_ldc2_w rfl (cn rfl) ?_
      refine s_lreturn rfl ?_
      exact Or.inl ⟨fun q => by first | exact q4 q.1 | exact q7 q.2, rfl, rfl⟩
theorem m_worth {d N S n : Nat} {kp tp pt wr fa dm ce di be od sm le sc ba bb ti rk ts tm pa wa : Int} {h : Nat → Option rr_E} (hn : 2 ≤ n ∧ n ≤ 4)  {v : Nat → Int} (c58 : h 58 = some (MO (n : Int) kp tp pt wr fa dm ce di be od sm le sc ba bb ti rk ts tm pa wa)) (c59 : h 59 = some (.inl (0, 16, .inl (fun k => ii (v k))))) (hv : ∀ k, -999 ≤ v k ∧ v k ≤ 999) {a b : Int} (ha : b3 a) (hb : b3 b) : rr_Calls (d + 3) j_Model_worth [.ref 58, .int (ii a), .int (ii b)] (N, S, h) (fun r R => (¬ ((1 ≤ a ∧ a ≤ (al n : Int)) ∧ (-999 ≤ b ∧ b ≤ 999)) ∧ r = some (.long (jj (-9223372036854775808))) ∧ R = (N, S, h)) ∨ (((1 ≤ a ∧ a ≤ (al n : Int)) ∧ (-999 ≤ b ∧ b ≤ 999)) ∧ r = some (.long (jj (v a.toNat))) ∧ ∃ h', R = (N, S, h') ∧ h' 58 = some (MO (n : Int) kp tp pt wr fa dm ce di be 1 sm le sc ba bb ti rk ts tm pa wa) ∧ h' 59 = some (.inl (0, 16, .inl (fun k => ii (fu v a.toNat b k)))) ∧ fr [58, 59] h h')) := by
  refine rr_meth (C := K_Model_worth) (hd := h_Model_worth) (mx := 4) rfl rfl (fun K hK => ?_)
  have hA := al_b hn
  refine hK _ _ _ _ ?_
  refine s_aload_n rfl (cn rfl) rfl ?_
  refine s_iload_n rfl (cn rfl) rfl ?_
  refine s_virt rfl (cn rfl) rfl rfl c58 rfl (m_isGroup hn c58 (by omega)) ?_
  rintro _ _ ⟨rfl, rfl⟩
  refine s_ifb_eq rfl (cn rfl) (cn rfl) (fun q3 => ?_) (fun q3 => ?_)
  · refine s_ldc2_w rfl (cn rfl) ?_
    refine s_lreturn rfl ?_
    exact Or.inl ⟨fun q => by first | exact q3 q.1 | exact q9 q.2, rfl, rfl⟩
  · refine s_iload_n rfl (cn rfl) rfl ?_
    refine s_i2l rfl (cn rfl) ⟨by omega, by omega⟩ ?_
    refine s_ldc2_w rfl (cn rfl) ?_
    refine s_ldc2_w rfl (cn rfl) ?_
    refine s_stat rfl (cn rfl) rfl rfl rfl (m_in (by omega) (by omega) (by omega)) ?_
    rintro _ _ ⟨rfl, rfl⟩
    refine s_ifb_ne rfl (cn rfl) (cn rfl) (fun q9 => ?_) (fun q9 => ?_)
    · obtain ⟨g, rfl⟩ := Int.eq_ofNat_of_zero_le (show 0 ≤ a by omega)
      have hvg := hv g
      refine s_aload_n rfl (cn rfl) rfl ?_
      refine s_getfield rfl (cn rfl) c58 rfl ?_
      refine s_iload_n rfl (cn rfl) rfl ?_
      refine s_iaload rfl (cn rfl) _ rfl c59 rfl (by omega) (by decide) rfl ?_
      refine s_istore_n rfl (cn rfl) ?_
      refine s_aload_n rfl (cn rfl) rfl ?_
      refine s_getfield rfl (cn rfl) c58 rfl ?_
      refine s_iload_n rfl (cn rfl) rfl ?_
      refine s_iload_n rfl (cn rfl) rfl ?_
      refine s_iastore rfl (cn rfl) _ rfl c59 (by omega) (by decide) ?_
      refine s_aload_n rfl (cn rfl) rfl ?_
      refine s_iconst rfl (cn rfl) ?_
      refine s_putz rfl (cn rfl) rfl (Or.inr rfl) c58 rfl ?_
      refine s_iload_n rfl (cn rfl) rfl ?_
      refine s_i2l rfl (cn rfl) ⟨by omega, by omega⟩ ?_
      refine s_lreturn rfl ?_
      exact Or.inr ⟨⟨q3, q9⟩, rfl, _, rfl, rr_set_eq, rfl, fr_s (by decide) (fr_s (by decide) fr_r)⟩
    · refine s_ldc2_w rfl (cn rfl) ?_
      refine s_lreturn rfl ?_
      exact Or.inl ⟨fun q => by first | exact q3 q.1 | exact q9 q.2, rfl, rfl⟩
theorem d_worthOf {d N S n : Nat} {v : Nat → Int} {h : Nat → Option rr_E} (hn : 2 ≤ n ∧ n ≤ 4) (c1 : h 1 = some (.inr (0, [.int (ii (n : Int)), .ref 2]))) (c2 : h 2 = some (.inl (0, 16, .inl (fun k => ii (v k))))) (hv : ∀ k, -999 ≤ v k ∧ v k ≤ 999) {sl im : Int} (c0 : h 0 = some (DO sl im)) {a : Int} (ha : b3 a) : rr_Calls (d + 3) j_Desk_worthOf [.ref 0, .int (ii a)] (N, S, h) (fun r R => r = some (.long (jj (if 1 ≤ a ∧ a ≤ (al n : Int) then v a.toNat else (-9223372036854775808)))) ∧ R = (N, S, h)) := by
  refine rr_meth (C := K_Desk_worthOf) (hd := h_Desk_worthOf) (mx := 2) rfl rfl (fun K hK => ?_)
  have hA := al_b hn
  refine hK _ _ _ _ ?_
  refine s_aload_n rfl (cn rfl) rfl ?_
  refine s_getfield rfl (cn rfl) c0 rfl ?_
  refine s_iload_n rfl (cn rfl) rfl ?_
  refine s_virt rfl (cn rfl) rfl rfl c1 rfl (u_hasGroup hn c1 (by omega)) ?_
  rintro _ _ ⟨rfl, rfl⟩
  refine s_ifb_eq rfl (cn rfl) (cn rfl) (fun q4 => ?_) (fun q4 => ?_)
  · refine s_ldc2_w rfl (cn rfl) ?_
    refine s_lreturn rfl ?_
    first
      | exact ⟨rl (if_pos q4).symm, rfl⟩
      | exact ⟨rl (if_neg q4).symm, rfl⟩
  · obtain ⟨g, rfl⟩ := Int.eq_ofNat_of_zero_le (show 0 ≤ a by omega)
    have hvg := hv g
    refine s_aload_n rfl (cn rfl) rfl ?_
    refine s_getfield rfl (cn rfl) c0 rfl ?_
    refine s_getfield rfl (cn rfl) c1 rfl ?_
    refine s_iload_n rfl (cn rfl) rfl ?_
    refine s_iaload rfl (cn rfl) _ rfl c2 rfl (by omega) (by decide) rfl ?_
    refine s_i2l rfl (cn rfl) ⟨by omega, by omega⟩ ?_
    refine s_goto rfl (cn rfl) ?_
    refine s_lreturn rfl ?_
    first
      | exact ⟨rl (if_pos q4).symm, rfl⟩
      | exact ⟨rl (if_neg q4).symm, rfl⟩
theorem m_worthOf {d N S n : Nat} {kp tp pt wr fa dm ce di be od sm le sc ba bb ti rk ts tm pa wa : Int} {h : Nat → Option rr_E} (hn : 2 ≤ n ∧ n ≤ 4)  {v : Nat → Int} (c58 : h 58 = some (MO (n : Int) kp tp pt wr fa dm ce di be od sm le sc ba bb ti rk ts tm pa wa)) (c59 : h 59 = some (.inl (0, 16, .inl (fun k => ii (v k))))) (hv : ∀ k, -999 ≤ v k ∧ v k ≤ 999) {a : Int} (ha : b3 a) : rr_Calls (d + 3) j_Model_worthOf [.ref 58, .int (ii a)] (N, S, h) (fun r R => r = some (.long (jj (if 1 ≤ a ∧ a ≤ (al n : Int) then v a.toNat else (-9223372036854775808)))) ∧ R = (N, S, h)) := by
  refine rr_meth (C := K_Model_worthOf) (hd := h_Model_worthOf) (mx := 2) rfl rfl (fun K hK => ?_)
  have hA := al_b hn
  refine hK _ _ _ _ ?_
  refine s_aload_n rfl (cn rfl) rfl ?_
  refine s_iload_n rfl (cn rfl) rfl ?_
  refine s_virt rfl (cn rfl) rfl rfl c58 rfl (m_isGroup hn c58 (by omega)) ?_
  rintro _ _ ⟨rfl, rfl⟩
  refine s_ifb_eq rfl (cn rfl) (cn rfl) (fun q3 => ?_) (fun q3 => ?_)
  · refine s_ldc2_w rfl (cn rfl) ?_
    refine s_lreturn rfl ?_
    first
      | exact ⟨rl (if_pos q3).symm, rfl⟩
      | exact ⟨rl (if_neg q3).symm, rfl⟩
  · obtain ⟨g, rfl⟩ := Int.eq_ofNat_of_zero_le (show 0 ≤ a by omega)
    have hvg := hv g
    refine s_aload_n rfl (cn rfl) rfl ?_
    refine s_getfield rfl (cn rfl) c58 rfl ?_
    refine s_iload_n rfl (cn rfl) rfl ?_
    refine s_iaload rfl (cn rfl) _ rfl c59 rfl (by omega) (by decide) rfl ?_
    refine s_i2l rfl (cn rfl) ⟨by omega, by omega⟩ ?_
    refine s_goto rfl (cn rfl) ?_
    refine s_lreturn rfl ?_
    first
      | exact ⟨rl (if_pos q3).symm, rfl⟩
      | exact ⟨rl (if_neg q3).symm, rfl⟩
abbrev SC (tl sc sp sf sv : Int) : rr_E := (.inr (2, [.int (ii tl), .ref 8, .ref 9, .ref 10, .ref 11, .ref 12, .int (ii sc), .int (ii sp), .int (ii sf), .int (ii sv)]))
theorem u_append {d N S : Nat} {h : Nat → Option rr_E} {tl : Nat} {sc sp sf sv : Int} {tp : Nat → Int} (htl : tl ≤ 100) (c7 : h 7 = some (SC (tl : Int) sc sp sf sv)) (c8 : h 8 = some (.inl (0, 100, .inl (fun k => ii (tp k))))) {a : Int} : rr_Calls (d + 1) j_Script_append [.ref 7, .int (ii a)] (N, S, h) (fun r R => r = some (.int (rb (tl < 100))) ∧ ((¬ tl < 100 ∧ R = (N, S, h)) ∨ (tl < 100 ∧ ∃ h', R = (N, S, h') ∧ h' 7 = some (SC ((tl + 1 : Nat) : Int) sc sp sf sv) ∧ h' 8 = some (.inl (0, 100, .inl (fun k => ii (fu tp tl a k)))) ∧ fr [7, 8] h h'))) := by
  refine rr_meth (C := K_Script_append) (hd := h_Script_append) (mx := 2) rfl rfl (fun K hK => ?_)
  refine hK _ _ _ _ ?_
  refine s_aload_n rfl (cn rfl) rfl ?_
  refine s_getfield rfl (cn rfl) c7 rfl ?_
  refine s_bipush rfl (cn rfl) (by decide) ?_
  refine s_icmp_lt rfl (cn rfl) (cn rfl) ⟨by omega, by omega⟩ ⟨by omega, by omega⟩ (fun q3 => ?_) (fun q3 => ?_)
  · refine s_aload_n rfl (cn rfl) rfl ?_
    refine s_getfield rfl (cn rfl) c7 rfl ?_
    refine s_aload_n rfl (cn rfl) rfl ?_
    refine s_getfield rfl (cn rfl) c7 rfl ?_
    refine s_iload_n rfl (cn rfl) rfl ?_
    refine s_iastore rfl (cn rfl) _ rfl c8 (by omega) (by decide) ?_
    refine s_aload_n rfl (cn rfl) rfl ?_
    refine s_dupr rfl (cn rfl) ?_
    refine s_getfield rfl (cn rfl) c7 rfl ?_
    refine s_iconst rfl (cn rfl) ?_
    refine s_iadd rfl (cn rfl) ?_
    refine s_puti rfl (cn rfl) rfl c7 rfl ?_
    refine s_iconst rfl (cn rfl) ?_
    refine s_zreturn rfl (Or.inr rfl) ?_
    exact ⟨rz_t (by omega), Or.inr ⟨by omega, _, rfl, rr_set_eq, rfl, fr_s (by decide) (fr_s (by decide) fr_r)⟩⟩
  · refine s_iconst rfl (cn rfl) ?_
    refine s_zreturn rfl (Or.inl rfl) ?_
    exact ⟨rz_f (by omega), Or.inl ⟨by omega, rfl⟩⟩
theorem d_feed {d N S : Nat} {h : Nat → Option rr_E} {tl : Nat} {sc sp sf sv : Int} {tp : Nat → Int} (htl : tl ≤ 100) (c7 : h 7 = some (SC (tl : Int) sc sp sf sv)) (c8 : h 8 = some (.inl (0, 100, .inl (fun k => ii (tp k))))) {sl im : Int} (c0 : h 0 = some (DO sl im)) {a : Int} (ha : b3 a) : rr_Calls (d + 2) j_Desk_feed [.ref 0, .int (ii a)] (N, S, h) (fun r R => (¬ (1 ≤ a ∧ a ≤ 127) ∧ r = some (.int (ii (-2))) ∧ R = (N, S, h)) ∨ ((1 ≤ a ∧ a ≤ 127) ∧ tl = 100 ∧ r = some (.int (ii (-4))) ∧ R = (N, S, h)) ∨ ((1 ≤ a ∧ a ≤ 127) ∧ tl < 100 ∧ r = some (.int (ii ((tl + 1 : Nat) : Int))) ∧ ∃ h', R = (N, S, h') ∧ h' 7 = some (SC ((tl + 1 : Nat) : Int) sc sp sf sv) ∧ h' 8 = some (.inl (0, 100, .inl (fun k => ii (fu tp tl a k)))) ∧ fr [7, 8] h h')) := by
  refine rr_meth (C := K_Desk_feed) (hd := h_Desk_feed) (mx := 2) rfl rfl (fun K hK => ?_)
  refine hK _ _ _ _ ?_
  refine s_iload_n rfl (cn rfl) rfl ?_
  refine s_iconst rfl (cn rfl) ?_
  refine s_icmp_lt rfl (cn rfl) (cn rfl) ⟨by omega, by omega⟩ ⟨by omega, by omega⟩ (fun q2 => ?_) (fun q2 => ?_)
  · refine s_bipush rfl (cn rfl) (by decide) ?_
    refine s_ireturn rfl ?_
    exact Or.inl ⟨by omega, rfl, rfl⟩
  · refine s_iload_n rfl (cn rfl) rfl ?_
    refine s_bipush rfl (cn rfl) (by decide) ?_
    refine s_icmp_le rfl (cn rfl) (cn rfl) ⟨by omega, by omega⟩ ⟨by omega, by omega⟩ (fun q5 => ?_) (fun q5 => ?_)
    · refine s_aload_n rfl (cn rfl) rfl ?_
      refine s_getfield rfl (cn rfl) c0 rfl ?_
      refine s_iload_n rfl (cn rfl) rfl ?_
      refine s_virt rfl (cn rfl) rfl rfl c7 rfl (u_append htl c7 c8) ?_
      rintro _ _ ⟨rfl, ⟨e1, rfl⟩ | ⟨e1, h', rfl, d7, d8, hf⟩⟩
      · refine s_ifb_eq rfl (cn rfl) (cn rfl) (fun q12 => ?_) (fun q12 => absurd q12 e1)
        refine s_bipush rfl (cn rfl) (by decide) ?_
        refine s_ireturn rfl ?_
        exact Or.inr (Or.inl ⟨⟨by omega, by omega⟩, by omega, rfl, rfl⟩)
      · have c0 := (hf 0 (by decide)).trans c0
        refine s_ifb_eq rfl (cn rfl) (cn rfl) (fun q12 => absurd e1 q12) (fun q12 => ?_)
        refine s_aload_n rfl (cn rfl) rfl ?_
        refine s_getfield rfl (cn rfl) c0 rfl ?_
        refine s_getfield rfl (cn rfl) d7 rfl ?_
        refine s_goto rfl (cn rfl) ?_
        refine s_ireturn rfl ?_
        exact Or.inr (Or.inr ⟨⟨by omega, by omega⟩, e1, rfl, h', rfl, d7, d8, hf⟩)
    · refine s_bipush rfl (cn rfl) (by decide) ?_
      refine s_ireturn rfl ?_
      exact Or.inl ⟨by omega, rfl, rfl⟩
theorem m_feed {d N S n : Nat} {kp pt wr fa dm ce di be od sm le sc ba bb ti rk ts tm pa wa : Int} {h : Nat → Option rr_E}  {tl : Nat} {w : Nat → Int} (htl : tl ≤ 100) (c58 : h 58 = some (MO (n : Int) kp (tl : Int) pt wr fa dm ce di be od sm le sc ba bb ti rk ts tm pa wa)) (c61 : h 61 = some (.inl (0, 100, .inl (fun k => ii (w k))))) {a : Int} (ha : b3 a) : rr_Calls (d + 2) j_Model_feed [.ref 58, .int (ii a)] (N, S, h) (fun r R => (¬ (1 ≤ a ∧ a ≤ 127) ∧ r = some (.int (ii (-2))) ∧ R = (N, S, h)) ∨ ((1 ≤ a ∧ a ≤ 127) ∧ tl = 100 ∧ r = some (.int (ii (-4))) ∧ R = (N, S, h)) ∨ ((1 ≤ a ∧ a ≤ 127) ∧ tl < 100 ∧ r = some (.int (ii ((tl + 1 : Nat) : Int))) ∧ ∃ h', R = (N, S, h') ∧ h' 58 = some (MO (n : Int) kp ((tl + 1 : Nat) : Int) pt wr fa dm ce di be od sm le sc ba bb ti rk ts tm pa wa) ∧ h' 61 = some (.inl (0, 100, .inl (fun k => ii (fu w tl a k)))) ∧ fr [58, 61] h h')) := by
  refine rr_meth (C := K_Model_feed) (hd := h_Model_feed) (mx := 2) rfl rfl (fun K hK => ?_)
  refine hK _ _ _ _ ?_
  refine s_iload_n rfl (cn rfl) rfl ?_
  refine s_i2l rfl (cn rfl) ⟨by omega, by omega⟩ ?_
  refine s_lconst rfl (cn rfl) 1 (by decide) ?_
  refine s_ldc2_w rfl (cn rfl) ?_
  refine s_stat rfl (cn rfl) rfl rfl rfl (m_in (by omega) (by omega) (by omega)) ?_
  rintro _ _ ⟨rfl, rfl⟩
  refine s_ifb_ne rfl (cn rfl) (cn rfl) (fun q5 => ?_) (fun q5 => ?_)
  · refine s_aload_n rfl (cn rfl) rfl ?_
    refine s_getfield rfl (cn rfl) c58 rfl ?_
    refine s_bipush rfl (cn rfl) (by decide) ?_
    refine s_icmp_ne rfl (cn rfl) (cn rfl) ⟨by omega, by omega⟩ ⟨by omega, by omega⟩ (fun q11 => ?_) (fun q11 => ?_)
    · refine s_aload_n rfl (cn rfl) rfl ?_
      refine s_getfield rfl (cn rfl) c58 rfl ?_
      refine s_aload_n rfl (cn rfl) rfl ?_
      refine s_getfield rfl (cn rfl) c58 rfl ?_
      refine s_iload_n rfl (cn rfl) rfl ?_
      refine s_iastore rfl (cn rfl) _ rfl c61 (by omega) (by decide) ?_
      refine s_aload_n rfl (cn rfl) rfl ?_
      refine s_dupr rfl (cn rfl) ?_
      refine s_getfield rfl (cn rfl) c58 rfl ?_
      refine s_iconst rfl (cn rfl) ?_
      refine s_iadd rfl (cn rfl) ?_
      refine s_puti rfl (cn rfl) rfl c58 rfl ?_
      refine s_aload_n rfl (cn rfl) rfl ?_
      refine s_getfield rfl (cn rfl) rr_set_eq rfl ?_
      refine s_ireturn rfl ?_
      exact Or.inr (Or.inr ⟨q5, by omega, rfl, _, rfl, rr_set_eq, rfl, fr_s (by decide) (fr_s (by decide) fr_r)⟩)
    · refine s_bipush rfl (cn rfl) (by decide) ?_
      refine s_ireturn rfl ?_
      exact Or.inr (Or.inl ⟨q5, by omega, rfl, rfl⟩)
  · refine s_bipush rfl (cn rfl) (by decide) ?_
    refine s_ireturn rfl ?_
    exact Or.inl ⟨q5, rfl, rfl⟩
theorem d_clear {d N S : Nat} {h : Nat → Option rr_E} {tl : Nat} {sc sp sf sv : Int} {tp : Nat → Int} (htl : tl ≤ 100) (c7 : h 7 = some (SC (tl : Int) sc sp sf sv)) (c8 : h 8 = some (.inl (0, 100, .inl (fun k => ii (tp k))))) {sl im : Int} (c0 : h 0 = some (DO sl im)) : rr_Calls (d + 1) j_Desk_clear [.ref 0] (N, S, h) (fun r R => r = some (.int (ii (tl : Int))) ∧ ∃ h', R = (N, S, h') ∧ h' 7 = some (SC ((0 : Nat) : Int) sc sp sf sv) ∧ fr [7] h h') := by
  refine rr_meth (C := K_Desk_clear) (hd := h_Desk_clear) (mx := 2) rfl rfl (fun K hK => ?_)
  refine hK _ _ _ _ ?_
  refine s_aload_n rfl (cn rfl) rfl ?_
  refine s_getfield rfl (cn rfl) c0 rfl ?_
  refine s_getfield rfl (cn rfl) c7 rfl ?_
  refine s_istore_n rfl (cn rfl) ?_
  refine s_aload_n rfl (cn rfl) rfl ?_
  refine s_getfield rfl (cn rfl) c0 rfl ?_
  refine s_iconst rfl (cn rfl) ?_
  refine s_puti rfl (cn rfl) rfl c7 rfl ?_
  refine s_iload_n rfl (cn rfl) rfl ?_
  refine s_ireturn rfl ?_
  exact ⟨rfl, _, rfl, rr_set_eq, fr_s (by decide) fr_r⟩
theorem m_clear {d N S n : Nat} {kp pt wr fa dm ce di be od sm le sc ba bb ti rk ts tm pa wa : Int} {h : Nat → Option rr_E}  {tl : Nat} (c58 : h 58 = some (MO (n : Int) kp (tl : Int) pt wr fa dm ce di be od sm le sc ba bb ti rk ts tm pa wa)) : rr_Calls (d + 1) j_Model_clear [.ref 58] (N, S, h) (fun r R => r = some (.int (ii (tl : Int))) ∧ ∃ h', R = (N, S, h') ∧ h' 58 = some (MO (n : Int) kp ((0 : Nat) : Int) pt wr fa dm ce di be od sm le sc ba bb ti rk ts tm pa wa) ∧ fr [58] h h') := by
  refine rr_meth (C := K_Model_clear) (hd := h_Model_clear) (mx := 2) rfl rfl (fun K hK => ?_)
  refine hK _ _ _ _ ?_
  refine s_aload_n rfl (cn rfl) rfl ?_
  refine s_getfield rfl (cn rfl) c58 rfl ?_
  refine s_istore_n rfl (cn rfl) ?_
  refine s_aload_n rfl (cn rfl) rfl ?_
  refine s_iconst rfl (cn rfl) ?_
  refine s_puti rfl (cn rfl) rfl c58 rfl ?_
  refine s_iload_n rfl (cn rfl) rfl ?_
  refine s_ireturn rfl ?_
  exact ⟨rfl, _, rfl, rr_set_eq, fr_s (by decide) fr_r⟩
theorem d_told {d N S n : Nat} {v : Nat → Int} {h : Nat → Option rr_E} (hn : 2 ≤ n ∧ n ≤ 4) (c1 : h 1 = some (.inr (0, [.int (ii (n : Int)), .ref 2]))) (c2 : h 2 = some (.inl (0, 16, .inl (fun k => ii (v k))))) (hv : ∀ k, -999 ≤ v k ∧ v k ≤ 999) {tl : Nat} {sc sp sf sv : Int} {tp : Nat → Int} (htl : tl ≤ 100) (c7 : h 7 = some (SC (tl : Int) sc sp sf sv)) (c8 : h 8 = some (.inl (0, 100, .inl (fun k => ii (tp k))))) {sl im : Int} (c0 : h 0 = some (DO sl im)) {a : Int} (ha : b3 a) : rr_Calls (d + 3) j_Desk_told [.ref 0, .int (ii a)] (N, S, h) (fun r R => r = some (.int (ii (if a = 0 then (n : Int) else if a = 1 then (tl : Int) else if a = 2 then (al n : Int) else if a = 3 then gs (al n + 1) (fun g => if v g < 0 then 1 else 0) else -1))) ∧ R = (N, S, h)) := by
  refine rr_meth (C := K_Desk_told) (hd := h_Desk_told) (mx := 2) rfl rfl (fun K hK => ?_)
  refine hK _ _ _ _ ?_
  refine s_iload_n rfl (cn rfl) rfl ?_
  refine s_tsw rfl rfl ⟨by omega, by omega⟩ ?_
  refine And.intro (fun e1 => (cn rfl) _ _ _ ?_) (fun n1_0 => ?_)
  · refine s_aload_n rfl (cn rfl) rfl ?_
    refine s_getfield rfl (cn rfl) c0 rfl ?_
    refine s_getfield rfl (cn rfl) c1 rfl ?_
    refine s_ireturn rfl ?_
    refine ⟨ri ?_, rfl⟩
    first
      | (subst e1; rfl)
      | (rw [if_neg (by omega), if_neg (by omega), if_neg (by omega), if_neg (by omega)])
  refine And.intro (fun e1 => (cn rfl) _ _ _ ?_) (fun n1_1 => ?_)
  · refine s_aload_n rfl (cn rfl) rfl ?_
    refine s_getfield rfl (cn rfl) c0 rfl ?_
    refine s_getfield rfl (cn rfl) c7 rfl ?_
    refine s_ireturn rfl ?_
    refine ⟨ri ?_, rfl⟩
    first
      | (subst e1; rfl)
      | (rw [if_neg (by omega), if_neg (by omega), if_neg (by omega), if_neg (by omega)])
  refine And.intro (fun e1 => (cn rfl) _ _ _ ?_) (fun n1_2 => ?_)
  · refine s_aload_n rfl (cn rfl) rfl ?_
    refine s_getfield rfl (cn rfl) c0 rfl ?_
    refine s_virt rfl (cn rfl) rfl rfl c1 rfl (u_all_1 hn c1) ?_
    rintro _ _ ⟨rfl, rfl⟩
    refine s_ireturn rfl ?_
    refine ⟨ri ?_, rfl⟩
    first
      | (subst e1; rfl)
      | (rw [if_neg (by omega), if_neg (by omega), if_neg (by omega), if_neg (by omega)])
  refine And.intro (fun e1 => (cn rfl) _ _ _ ?_) (fun n1_3 => ?_)
  · refine s_aload_n rfl (cn rfl) rfl ?_
    refine s_getfield rfl (cn rfl) c0 rfl ?_
    refine s_virt rfl (cn rfl) rfl rfl c1 rfl (u_cbz hn c1 c2 (fun k => ⟨by have := hv k; omega, by have := hv k; omega⟩)) ?_
    rintro _ _ ⟨rfl, rfl⟩
    refine s_ireturn rfl ?_
    refine ⟨ri ?_, rfl⟩
    first
      | (subst e1; rfl)
      | (rw [if_neg (by omega), if_neg (by omega), if_neg (by omega), if_neg (by omega)])
  refine (cn rfl) _ _ _ ?_
  refine s_iconst rfl (cn rfl) ?_
  refine s_ireturn rfl ?_
  refine ⟨ri ?_, rfl⟩
  first
    | (subst e1; rfl)
    | (rw [if_neg (by omega), if_neg (by omega), if_neg (by omega), if_neg (by omega)])
theorem m_told {d N S n : Nat} {kp pt wr fa dm ce di be od sm le sc ba bb ti rk ts tm pa wa : Int} {h : Nat → Option rr_E} (hn : 2 ≤ n ∧ n ≤ 4)  {v : Nat → Int} {tl : Nat} (htl : tl ≤ 100) (c58 : h 58 = some (MO (n : Int) kp (tl : Int) pt wr fa dm ce di be od sm le sc ba bb ti rk ts tm pa wa)) (c59 : h 59 = some (.inl (0, 16, .inl (fun k => ii (v k))))) (hv : ∀ k, -999 ≤ v k ∧ v k ≤ 999) {a : Int} (ha : b3 a) : rr_Calls (d + 2) j_Model_told [.ref 58, .int (ii a)] (N, S, h) (fun r R => r = some (.int (ii (if a = 0 then (n : Int) else if a = 1 then (tl : Int) else if a = 2 then (al n : Int) else if a = 3 then gs (al n + 1) (fun g => if v g < 0 then 1 else 0) else -1))) ∧ R = (N, S, h)) := by
  refine rr_meth (C := K_Model_told) (hd := h_Model_told) (mx := 4) rfl rfl (fun K hK => ?_)
  have hA := al_b hn
  refine hK _ _ _ _ ?_
  refine s_iload_n rfl (cn rfl) rfl ?_
  refine s_iconst rfl (cn rfl) ?_
  refine s_icmp_ne rfl (cn rfl) (cn rfl) ⟨by omega, by omega⟩ ⟨by omega, by omega⟩ (fun q2 => ?_) (fun q2 => ?_)
  · refine s_iload_n rfl (cn rfl) rfl ?_
    refine s_if_ne rfl (cn rfl) (cn rfl) ⟨by omega, by omega⟩ (fun q27 => ?_) (fun q27 => ?_)
    · refine s_iload_n rfl (cn rfl) rfl ?_
      refine s_iconst rfl (cn rfl) ?_
      refine s_icmp_ne rfl (cn rfl) (cn rfl) ⟨by omega, by omega⟩ ⟨by omega, by omega⟩ (fun q33 => ?_) (fun q33 => ?_)
      · refine s_iload_n rfl (cn rfl) rfl ?_
        refine s_iconst rfl (cn rfl) ?_
        refine s_icmp_ne rfl (cn rfl) (cn rfl) ⟨by omega, by omega⟩ ⟨by omega, by omega⟩ (fun q39 => ?_) (fun q39 => ?_)
        · refine s_iconst rfl (cn rfl) ?_
          refine s_ireturn rfl ?_
          refine ⟨ri ?_, rfl⟩
          first
            | (rw [if_pos (by omega)]; done)
            | (rw [if_neg (by omega), if_pos (by omega)]; done)
            | (rw [if_neg (by omega), if_neg (by omega), if_pos (by omega)]; done)
            | (rw [if_neg (by omega), if_neg (by omega), if_neg (by omega), if_neg (by omega)])
        · refine s_aload_n rfl (cn rfl) rfl ?_
          refine s_virt rfl (cn rfl) rfl rfl c58 rfl (m_all hn c58) ?_
          rintro _ _ ⟨rfl, rfl⟩
          refine s_goto rfl (cn rfl) ?_
          refine s_ireturn rfl ?_
          refine ⟨ri ?_, rfl⟩
          first
            | (rw [if_pos (by omega)]; done)
            | (rw [if_neg (by omega), if_pos (by omega)]; done)
            | (rw [if_neg (by omega), if_neg (by omega), if_pos (by omega)]; done)
            | (rw [if_neg (by omega), if_neg (by omega), if_neg (by omega), if_neg (by omega)])
      · refine s_aload_n rfl (cn rfl) rfl ?_
        refine s_getfield rfl (cn rfl) c58 rfl ?_
        refine s_goto rfl (cn rfl) ?_
        refine s_ireturn rfl ?_
        refine ⟨ri ?_, rfl⟩
        first
          | (rw [if_pos (by omega)]; done)
          | (rw [if_neg (by omega), if_pos (by omega)]; done)
          | (rw [if_neg (by omega), if_neg (by omega), if_pos (by omega)]; done)
          | (rw [if_neg (by omega), if_neg (by omega), if_neg (by omega), if_neg (by omega)])
    · refine s_aload_n rfl (cn rfl) rfl ?_
      refine s_getfield rfl (cn rfl) c58 rfl ?_
      refine s_goto rfl (cn rfl) ?_
      refine s_ireturn rfl ?_
      refine ⟨ri ?_, rfl⟩
      first
        | (rw [if_pos (by omega)]; done)
        | (rw [if_neg (by omega), if_pos (by omega)]; done)
        | (rw [if_neg (by omega), if_neg (by omega), if_pos (by omega)]; done)
        | (rw [if_neg (by omega), if_neg (by omega), if_neg (by omega), if_neg (by omega)])
  · refine s_iconst rfl (cn rfl) ?_
    refine s_istore_n rfl (cn rfl) ?_
    refine s_iconst rfl (cn rfl) ?_
    refine s_istore_n rfl (ch rfl) ?_
    have lp7 : ∀ g : Nat, g ≤ al n + 1 → ∀ (x : Int) (hx : x = gs g (fun g => if v g < 0 then 1 else 0)) (h1 : 1 ≤ g), K 7 [some (.ref 58), some (.int (ii a)), some (.int (ii x)), some (.int (ii (g : Int)))] [] (N, S, h) := by
      refine dn (fun g hg ih7 => ?_)
      intro x hx h1
      have hb := hv g
      refine hK _ _ _ _ ?_
      refine s_iload_n rfl (cn rfl) rfl ?_
      refine s_aload_n rfl (cn rfl) rfl ?_
      refine s_virt rfl (cn rfl) rfl rfl c58 rfl (m_all hn c58) ?_
      rintro _ _ ⟨rfl, rfl⟩
      refine s_icmp_gt rfl (cn rfl) (cn rfl) ⟨by omega, by omega⟩ ⟨by omega, by omega⟩ (fun q10 => ?_) (fun q10 => ?_)
      · refine s_iload_n rfl (cn rfl) rfl ?_
        refine s_ireturn rfl ?_
        exact ⟨ri (by rw [q2, hx, show g = al n + 1 by omega]; rfl), rfl⟩
      · refine s_iload_n rfl (cn rfl) rfl ?_
        refine s_aload_n rfl (cn rfl) rfl ?_
        refine s_getfield rfl (cn rfl) c58 rfl ?_
        refine s_iload_n rfl (cn rfl) rfl ?_
        refine s_iaload rfl (cn rfl) _ rfl c59 rfl (by omega) (by decide) rfl ?_
        refine s_if_ge rfl (cn rfl) (cn rfl) ⟨by omega, by omega⟩ (fun q16 => ?_) (fun q16 => ?_)
        · refine s_iconst rfl (cn rfl) ?_
          refine s_iadd rfl (cn rfl) ?_
          refine s_istore_n rfl (cn rfl) ?_
          refine s_iinc rfl (cn rfl) rfl ?_
          refine s_goto rfl (ch rfl) ?_
          exact ih7 (by omega) _ (by rw [gs_s h1]; split <;> omega) (by omega)
        · refine s_iconst rfl (cn rfl) ?_
          refine s_goto rfl (cn rfl) ?_
          refine s_iadd rfl (cn rfl) ?_
          refine s_istore_n rfl (cn rfl) ?_
          refine s_iinc rfl (cn rfl) rfl ?_
          refine s_goto rfl (ch rfl) ?_
          exact ih7 (by omega) _ (by rw [gs_s h1]; split <;> omega) (by omega)
    exact lp7 1 (by omega) _ gs_1.symm (by omega)
theorem d_image {d N S n : Nat} {v : Nat → Int} {h : Nat → Option rr_E} (hn : 2 ≤ n ∧ n ≤ 4) (c1 : h 1 = some (.inr (0, [.int (ii (n : Int)), .ref 2]))) (c2 : h 2 = some (.inl (0, 16, .inl (fun k => ii (v k))))) {kn : Nat} {kv : Nat → Int} (c3 : h 3 = some (.inr (0, [.int (ii (kn : Int)), .ref 4]))) (c4 : h 4 = some (.inl (0, 16, .inl (fun k => ii (kv k))))) {sl im : Int} (c0 : h 0 = some (DO sl im)) : rr_Calls (d + 2) j_Desk_image [.ref 0] (N, S, h) (fun r R => r = some (.int (ii (n : Int))) ∧ ∃ h', R = (N, S, h') ∧ h' 0 = some (DO sl 1) ∧ h' 3 = some (.inr (0, [.int (ii (n : Int)), .ref 4])) ∧ h' 4 = some (.inl (0, 16, .inl (fun k => ii (fc v kv 0 0 16 k)))) ∧ fr [0, 3, 4] h h') := by
  refine rr_meth (C := K_Desk_image) (hd := h_Desk_image) (mx := 1) rfl rfl (fun K hK => ?_)
  refine hK _ _ _ _ ?_
  refine s_aload_n rfl (cn rfl) rfl ?_
  refine s_getfield rfl (cn rfl) c0 rfl ?_
  refine s_aload_n rfl (cn rfl) rfl ?_
  refine s_getfield rfl (cn rfl) c0 rfl ?_
  refine s_virt rfl (cn rfl) rfl rfl c3 rfl (u_copy_3_1 c1 c2 c3 c4) ?_
  rintro _ _ ⟨rfl, h', rfl, d3, d4, hf⟩
  have c0 := (hf 0 (by decide)).trans c0
  have c1 := (hf 1 (by decide)).trans c1
  refine s_aload_n rfl (cn rfl) rfl ?_
  refine s_iconst rfl (cn rfl) ?_
  refine s_putz rfl (cn rfl) rfl (Or.inr rfl) c0 rfl ?_
  refine s_aload_n rfl (cn rfl) rfl ?_
  refine s_getfield rfl (cn rfl) rr_set_eq rfl ?_
  refine s_getfield rfl (cn rfl) c1 rfl ?_
  refine s_ireturn rfl ?_
  exact ⟨rfl, _, rfl, rr_set_eq, d3, d4, fr_s (by decide) (fr_w hf (by decide))⟩
theorem d_undo {d N S n : Nat} {v : Nat → Int} {h : Nat → Option rr_E} (hn : 2 ≤ n ∧ n ≤ 4) (c1 : h 1 = some (.inr (0, [.int (ii (n : Int)), .ref 2]))) (c2 : h 2 = some (.inl (0, 16, .inl (fun k => ii (v k))))) {kn : Nat} {kv : Nat → Int} (c3 : h 3 = some (.inr (0, [.int (ii (kn : Int)), .ref 4]))) (c4 : h 4 = some (.inl (0, 16, .inl (fun k => ii (kv k))))) {sl im : Int} (c0 : h 0 = some (DO sl im)) (him : im = 0 ∨ im = 1) : rr_Calls (d + 2) j_Desk_undo [.ref 0] (N, S, h) (fun r R => (im = 0 ∧ r = some (.int (ii (-3))) ∧ R = (N, S, h)) ∨ (im = 1 ∧ r = some (.int (ii (kn : Int))) ∧ ∃ h', R = (N, S, h') ∧ h' 0 = some (DO 1 im) ∧ h' 1 = some (.inr (0, [.int (ii (kn : Int)), .ref 2])) ∧ h' 2 = some (.inl (0, 16, .inl (fun k => ii (fc kv v 0 0 16 k)))) ∧ fr [0, 1, 2] h h')) := by
  refine rr_meth (C := K_Desk_undo) (hd := h_Desk_undo) (mx := 1) rfl rfl (fun K hK => ?_)
  refine hK _ _ _ _ ?_
  refine s_aload_n rfl (cn rfl) rfl ?_
  refine s_getfield rfl (cn rfl) c0 rfl ?_
  refine s_if_ne rfl (cn rfl) (cn rfl) ⟨by omega, by omega⟩ (fun q2 => ?_) (fun q2 => ?_)
  · refine s_aload_n rfl (cn rfl) rfl ?_
    refine s_getfield rfl (cn rfl) c0 rfl ?_
    refine s_aload_n rfl (cn rfl) rfl ?_
    refine s_getfield rfl (cn rfl) c0 rfl ?_
    refine s_virt rfl (cn rfl) rfl rfl c1 rfl (u_copy_1_3 c3 c4 c1 c2) ?_
    rintro _ _ ⟨rfl, h', rfl, c1, d2, hf⟩
    have c0 := (hf 0 (by decide)).trans c0
    refine s_aload_n rfl (cn rfl) rfl ?_
    refine s_iconst rfl (cn rfl) ?_
    refine s_putz rfl (cn rfl) rfl (Or.inr rfl) c0 rfl ?_
    refine s_aload_n rfl (cn rfl) rfl ?_
    refine s_getfield rfl (cn rfl) rr_set_eq rfl ?_
    refine s_getfield rfl (cn rfl) c1 rfl ?_
    refine s_ireturn rfl ?_
    exact Or.inr ⟨by omega, rfl, _, rfl, rr_set_eq, c1, d2, fr_s (by decide) (fr_w hf (by decide))⟩
  · refine s_bipush rfl (cn rfl) (by decide) ?_
    refine s_ireturn rfl ?_
    exact Or.inl ⟨by omega, rfl, rfl⟩
theorem m_image {d N S n : Nat} {kp tp pt wr fa dm ce di be od sm le sc ba bb ti rk ts tm pa wa : Int} {h : Nat → Option rr_E}  {v kv : Nat → Int} (c58 : h 58 = some (MO (n : Int) kp tp pt wr fa dm ce di be od sm le sc ba bb ti rk ts tm pa wa)) (c59 : h 59 = some (.inl (0, 16, .inl (fun k => ii (v k))))) (c60 : h 60 = some (.inl (0, 16, .inl (fun k => ii (kv k))))) : rr_Calls (d + 1) j_Model_image [.ref 58] (N, S, h) (fun r R => r = some (.int (ii (n : Int))) ∧ ∃ h', R = (N, S, h') ∧ h' 58 = some (MO (n : Int) (n : Int) tp pt wr fa dm ce di be od sm le sc ba bb ti rk ts tm pa wa) ∧ h' 60 = some (.inl (0, 16, .inl (fun k => ii (fc v kv 0 0 16 k)))) ∧ fr [58, 60] h h') := by
  refine rr_meth (C := K_Model_image) (hd := h_Model_image) (mx := 2) rfl rfl (fun K hK => ?_)
  refine hK _ _ _ _ ?_
  refine s_iconst rfl (cn rfl) ?_
  refine s_istore_n rfl (ch rfl) ?_
  have lp2 : ∀ g : Nat, g ≤ 16 → ∀ (h' : Nat → Option rr_E) (c60 : h' 60 = some (.inl (0, 16, .inl (fun k => ii (fc v kv 0 0 g k))))) (hf : fr [60] h h'), K 2 [some (.ref 58), some (.int (ii (g : Int)))] [] (N, S, h') := by
    refine dn (fun g hg ih2 => ?_)
    intro h' c60 hf
    refine hK _ _ _ _ ?_
    refine s_iload_n rfl (cn rfl) rfl ?_
    refine s_bipush rfl (cn rfl) (by decide) ?_
    refine s_icmp_ge rfl (cn rfl) (cn rfl) ⟨by omega, by omega⟩ ⟨by omega, by omega⟩ (fun q4 => ?_) (fun q4 => ?_)
    · refine s_aload_n rfl (cn rfl) rfl ?_
      refine s_aload_n rfl (cn rfl) rfl ?_
      refine s_getfield rfl (cn rfl) ((hf 58 (by decide)).trans c58) rfl ?_
      refine s_puti rfl (cn rfl) rfl ((hf 58 (by decide)).trans c58) rfl ?_
      refine s_aload_n rfl (cn rfl) rfl ?_
      refine s_getfield rfl (cn rfl) rr_set_eq rfl ?_
      refine s_ireturn rfl ?_
      exact ⟨rfl, _, rfl, rr_set_eq, ar_f c60 (by rw [show g = 16 by omega]), fr_s (by decide) (fr_w hf (by decide))⟩
    · refine s_aload_n rfl (cn rfl) rfl ?_
      refine s_getfield rfl (cn rfl) ((hf 58 (by decide)).trans c58) rfl ?_
      refine s_iload_n rfl (cn rfl) rfl ?_
      refine s_aload_n rfl (cn rfl) rfl ?_
      refine s_getfield rfl (cn rfl) ((hf 58 (by decide)).trans c58) rfl ?_
      refine s_iload_n rfl (cn rfl) rfl ?_
      refine s_iaload rfl (cn rfl) _ rfl ((hf 59 (by decide)).trans c59) rfl (by omega) (by decide) rfl ?_
      refine s_iastore rfl (cn rfl) _ rfl c60 (by omega) (by decide) ?_
      refine s_iinc rfl (cn rfl) rfl ?_
      refine s_goto rfl (ch rfl) ?_
      exact ih2 (by omega) _ (ar_f rr_set_eq fc_s) (fr_s (by decide) hf)
  exact lp2 0 (by omega) _ (ar_f c60 fc_0.symm) fr_r
theorem m_undo {d N S n : Nat} {kp tp pt wr fa dm ce di be od sm le sc ba bb ti rk ts tm pa wa : Int} {h : Nat → Option rr_E}  {v kv : Nat → Int} (c58 : h 58 = some (MO (n : Int) kp tp pt wr fa dm ce di be od sm le sc ba bb ti rk ts tm pa wa)) (hkp : b3 kp) (c59 : h 59 = some (.inl (0, 16, .inl (fun k => ii (v k))))) (c60 : h 60 = some (.inl (0, 16, .inl (fun k => ii (kv k))))) : rr_Calls (d + 1) j_Model_undo [.ref 58] (N, S, h) (fun r R => (kp = -1 ∧ r = some (.int (ii (-3))) ∧ R = (N, S, h)) ∨ (kp ≠ -1 ∧ r = some (.int (ii kp)) ∧ ∃ h', R = (N, S, h') ∧ h' 58 = some (MO kp kp tp pt wr fa dm ce di be 1 sm le sc ba bb ti rk ts tm pa wa) ∧ h' 59 = some (.inl (0, 16, .inl (fun k => ii (fc kv v 0 0 16 k)))) ∧ fr [58, 59] h h')) := by
  refine rr_meth (C := K_Model_undo) (hd := h_Model_undo) (mx := 2) rfl rfl (fun K hK => ?_)
  refine hK _ _ _ _ ?_
  refine s_aload_n rfl (cn rfl) rfl ?_
  refine s_getfield rfl (cn rfl) c58 rfl ?_
  refine s_iconst rfl (cn rfl) ?_
  refine s_icmp_ne rfl (cn rfl) (cn rfl) ⟨by omega, by omega⟩ ⟨by omega, by omega⟩ (fun q3 => ?_) (fun q3 => ?_)
  · refine s_iconst rfl (cn rfl) ?_
    refine s_istore_n rfl (ch rfl) ?_
    have lp8 : ∀ g : Nat, g ≤ 16 → ∀ (h' : Nat → Option rr_E) (c59 : h' 59 = some (.inl (0, 16, .inl (fun k => ii (fc kv v 0 0 g k))))) (hf : fr [59] h h'), K 8 [some (.ref 58), some (.int (ii (g : Int)))] [] (N, S, h') := by
      refine dn (fun g hg ih8 => ?_)
      intro h' c59 hf
      refine hK _ _ _ _ ?_
      refine s_iload_n rfl (cn rfl) rfl ?_
      refine s_bipush rfl (cn rfl) (by decide) ?_
      refine s_icmp_ge rfl (cn rfl) (cn rfl) ⟨by omega, by omega⟩ ⟨by omega, by omega⟩ (fun q10 => ?_) (fun q10 => ?_)
      · refine s_aload_n rfl (cn rfl) rfl ?_
        refine s_aload_n rfl (cn rfl) rfl ?_
        refine s_getfield rfl (cn rfl) ((hf 58 (by decide)).trans c58) rfl ?_
        refine s_puti rfl (cn rfl) rfl ((hf 58 (by decide)).trans c58) rfl ?_
        refine s_aload_n rfl (cn rfl) rfl ?_
        refine s_iconst rfl (cn rfl) ?_
        refine s_putz rfl (cn rfl) rfl (Or.inr rfl) rr_set_eq rfl ?_
        refine s_aload_n rfl (cn rfl) rfl ?_
        refine s_getfield rfl (cn rfl) rr_set_eq rfl ?_
        refine s_ireturn rfl ?_
        exact Or.inr ⟨q3, rfl, _, rfl, rr_set_eq, ar_f c59 (by rw [show g = 16 by omega]), fr_s (by decide) (fr_s (by decide) (fr_w hf (by decide)))⟩
      · refine s_aload_n rfl (cn rfl) rfl ?_
        refine s_getfield rfl (cn rfl) ((hf 58 (by decide)).trans c58) rfl ?_
        refine s_iload_n rfl (cn rfl) rfl ?_
        refine s_aload_n rfl (cn rfl) rfl ?_
        refine s_getfield rfl (cn rfl) ((hf 58 (by decide)).trans c58) rfl ?_
        refine s_iload_n rfl (cn rfl) rfl ?_
        refine s_iaload rfl (cn rfl) _ rfl ((hf 60 (by decide)).trans c60) rfl (by omega) (by decide) rfl ?_
        refine s_iastore rfl (cn rfl) _ rfl c59 (by omega) (by decide) ?_
        refine s_iinc rfl (cn rfl) rfl ?_
        refine s_goto rfl (ch rfl) ?_
        exact ih8 (by omega) _ (ar_f rr_set_eq fc_s) (fr_s (by decide) hf)
    exact lp8 0 (by omega) _ (ar_f c59 fc_0.symm) fr_r
  · refine s_bipush rfl (cn rfl) (by decide) ?_
    refine s_ireturn rfl ?_
    exact Or.inl ⟨by omega, rfl, rfl⟩
