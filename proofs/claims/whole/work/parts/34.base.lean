/-! Fractions in lowest terms; the model: its object, small methods. -/
abbrev MO (n kp tp pt wr fa dm ce di be od sm le sc ba bb ti rk ts tm pa wa : Int) : rr_E := .inr (7, [.int (ii 0), .int (ii n), .ref 59, .ref 60, .int (ii kp), .ref 61, .int (ii tp), .int (ii pt), .int (ii wr), .int (ii fa), .ref 62, .ref 63, .ref 64, .int (ii dm), .ref 65, .ref 66, .ref 67, .int (ii ce), .ref 68, .int (ii di), .ref 69, .long (jj be), .int (ii od), .int (ii sm), .ref 70, .ref 71, .ref 72, .ref 73, .int (ii le), .long (jj sc), .long (jj ba), .long (jj bb), .int (ii ti), .ref 74, .int (ii rk), .long (jj ts), .int (ii tm), .long (jj pa), .ref 75, .ref 76, .int (ii wa), .ref 77, .ref 78, .ref 79])
theorem td_b {u v : Int} (h : b5 u) : b6 (u.tdiv v) := by
  have h1 : (u.tdiv v).natAbs = u.natAbs / v.natAbs := Int.natAbs_tdiv u v
  have h2 : u.natAbs / v.natAbs ≤ u.natAbs := Nat.div_le_self _ _
  have h3 := h.1
  have h4 := h.2
  exact ⟨by omega, by omega⟩
theorem gcd_b {a b : Int} (hb : b5 b) (h0 : 0 < b) : 1 ≤ (Int.gcd a b : Int) ∧ (Int.gcd a b : Int) ≤ 9223372036854775807 := by
  have h1 : 0 < Int.gcd a b := Int.gcd_pos_of_ne_zero_right a (by omega)
  have h2 : Int.gcd a b ≤ b.natAbs := Nat.gcd_le_right _ (by omega)
  have h3 := hb.2
  omega
/-- a fraction in lowest terms: its part above (0) or below the line -/
def lw (a b : Int) (z : Int) : Int := (if z = 0 then a else b).tdiv (Int.gcd a b : Int)
theorem u_lowest {d N S : Nat} {h : Nat → Option rr_E} {a b z : Int} (ha : b5 a) (hb : b5 b) (h0 : 0 < b) (hz : b3 z) : rr_Calls (d + 2) j_Fractions_lowest [.long (jj a), .long (jj b), .int (ii z)] (N, S, h) (fun r R => r = some (.long (jj (lw a b z))) ∧ R = (N, S, h)) := by
  refine rr_meth (C := K_Fractions_lowest) (hd := h_Fractions_lowest) (mx := 9) rfl rfl (fun K hK => ?_)
  have hg := gcd_b (a := a) hb h0
  refine hK _ _ _ _ ?_
  refine s_iload rfl (cn rfl) rfl ?_
  refine s_if_ne rfl (cn rfl) (cn rfl) ⟨by omega, by omega⟩ (fun q1 => ?_) (fun q1 => ?_)
  · refine s_lload_n rfl (cn rfl) rfl ?_
    refine s_lstore rfl (cn rfl) ?_
    refine s_lload_n rfl (cn rfl) rfl ?_
    refine s_lload_n rfl (cn rfl) rfl ?_
    refine s_stat rfl (cn rfl) rfl rfl rfl (u_gcd ha hb) ?_
    rintro _ _ ⟨rfl, rfl⟩
    refine s_lstore rfl (cn rfl) ?_
    refine s_lload rfl (cn rfl) rfl ?_
    refine s_lconst rfl (cn rfl) 1 (by decide) ?_
    refine s_lcmp rfl (cn rfl) ?_
    refine s_ifl_le rfl (cn rfl) (cn rfl) ⟨by omega, by omega⟩ ⟨by omega, by omega⟩ (fun q13 => ?_) (fun q13 => ?_)
    · refine s_lload rfl (cn rfl) rfl ?_
      refine s_lreturn rfl ?_
      refine ⟨rl ?_, rfl⟩
      show _ = Int.tdiv (if z = 0 then a else b) _
      first
        | (rw [if_pos q1]; done)
        | (rw [if_neg q1]; done)
        | (have e1 : (Int.gcd a b : Int) = 1 := by omega
           first
             | (rw [if_pos q1, e1, Int.tdiv_one]; done)
             | (rw [if_neg q1, e1, Int.tdiv_one]; done))
    · refine s_lload rfl (cn rfl) rfl ?_
      refine s_lload rfl (cn rfl) rfl ?_
      refine s_ldiv rfl (cn rfl) ⟨by omega, by omega⟩ ⟨by omega, by omega⟩ (td_b (by assumption)) (by omega) ?_
      refine s_goto rfl (cn rfl) ?_
      refine s_lreturn rfl ?_
      refine ⟨rl ?_, rfl⟩
      show _ = Int.tdiv (if z = 0 then a else b) _
      first
        | (rw [if_pos q1]; done)
        | (rw [if_neg q1]; done)
        | (have e1 : (Int.gcd a b : Int) = 1 := by omega
           first
             | (rw [if_pos q1, e1, Int.tdiv_one]; done)
             | (rw [if_neg q1, e1, Int.tdiv_one]; done))
  · refine s_lload_n rfl (cn rfl) rfl ?_
    refine s_goto rfl (cn rfl) ?_
    refine s_lstore rfl (cn rfl) ?_
    refine s_lload_n rfl (cn rfl) rfl ?_
    refine s_lload_n rfl (cn rfl) rfl ?_
    refine s_stat rfl (cn rfl) rfl rfl rfl (u_gcd ha hb) ?_
    rintro _ _ ⟨rfl, rfl⟩
    refine s_lstore rfl (cn rfl) ?_
    refine s_lload rfl (cn rfl) rfl ?_
    refine s_lconst rfl (cn rfl) 1 (by decide) ?_
    refine s_lcmp rfl (cn rfl) ?_
    refine s_ifl_le rfl (cn rfl) (cn rfl) ⟨by omega, by omega⟩ ⟨by omega, by omega⟩ (fun q13 => ?_) (fun q13 => ?_)
    · refine s_lload rfl (cn rfl) rfl ?_
      refine s_lreturn rfl ?_
      refine ⟨rl ?_, rfl⟩
      show _ = Int.tdiv (if z = 0 then a else b) _
      first
        | (rw [if_pos q1]; done)
        | (rw [if_neg q1]; done)
        | (have e1 : (Int.gcd a b : Int) = 1 := by omega
           first
             | (rw [if_pos q1, e1, Int.tdiv_one]; done)
             | (rw [if_neg q1, e1, Int.tdiv_one]; done))
    · refine s_lload rfl (cn rfl) rfl ?_
      refine s_lload rfl (cn rfl) rfl ?_
      refine s_ldiv rfl (cn rfl) ⟨by omega, by omega⟩ ⟨by omega, by omega⟩ (td_b (by assumption)) (by omega) ?_
      refine s_goto rfl (cn rfl) ?_
      refine s_lreturn rfl ?_
      refine ⟨rl ?_, rfl⟩
      show _ = Int.tdiv (if z = 0 then a else b) _
      first
        | (rw [if_pos q1]; done)
        | (rw [if_neg q1]; done)
        | (have e1 : (Int.gcd a b : Int) = 1 := by omega
           first
             | (rw [if_pos q1, e1, Int.tdiv_one]; done)
             | (rw [if_neg q1, e1, Int.tdiv_one]; done))
theorem u_fpart {d N S : Nat} {h : Nat → Option rr_E} {z : Int} (hz : b3 z) : rr_Calls (d + 1) j_Fractions_hasPart [.int (ii z)] (N, S, h) (fun r R => r = some (.int (rb (z = 0 ∨ z = 1))) ∧ R = (N, S, h)) := by
  refine rr_meth (C := K_Fractions_hasPart) (hd := h_Fractions_hasPart) (mx := 1) rfl rfl (fun K hK => ?_)
  refine hK _ _ _ _ ?_
  refine s_iload_n rfl (cn rfl) rfl ?_
  refine s_if_eq rfl (cn rfl) (cn rfl) ⟨by omega, by omega⟩ (fun q1 => ?_) (fun q1 => ?_)
  · refine s_iconst rfl (cn rfl) ?_
    refine s_goto rfl (cn rfl) ?_
    refine s_zreturn rfl (Or.inr rfl) ?_
    exact ⟨rz_t (by omega), rfl⟩
  · refine s_iload_n rfl (cn rfl) rfl ?_
    refine s_iconst rfl (cn rfl) ?_
    refine s_icmp_ne rfl (cn rfl) (cn rfl) ⟨by omega, by omega⟩ ⟨by omega, by omega⟩ (fun q4 => ?_) (fun q4 => ?_)
    · refine s_iconst rfl (cn rfl) ?_
      refine s_zreturn rfl (Or.inl rfl) ?_
      exact ⟨rz_f (by omega), rfl⟩
    · refine s_iconst rfl (cn rfl) ?_
      refine s_goto rfl (cn rfl) ?_
      refine s_zreturn rfl (Or.inr rfl) ?_
      exact ⟨rz_t (by omega), rfl⟩
theorem m_in {d N S : Nat} {h : Nat → Option rr_E} {a b c : Int} (ha : b6 a) (hb : b6 b) (hc : b6 c) : rr_Calls (d + 1) j_Model_in [.long (jj a), .long (jj b), .long (jj c)] (N, S, h) (fun r R => r = some (.int (rb (b ≤ a ∧ a ≤ c))) ∧ R = (N, S, h)) := by
  refine rr_meth (C := K_Model_in) (hd := h_Model_in) (mx := 6) rfl rfl (fun K hK => ?_)
  refine hK _ _ _ _ ?_
  refine s_lload_n rfl (cn rfl) rfl ?_
  refine s_lload_n rfl (cn rfl) rfl ?_
  refine s_lcmp rfl (cn rfl) ?_
  refine s_ifl_lt rfl (cn rfl) (cn rfl) ⟨by omega, by omega⟩ ⟨by omega, by omega⟩ (fun q3 => ?_) (fun q3 => ?_)
  · refine s_iconst rfl (cn rfl) ?_
    refine s_zreturn rfl (Or.inl rfl) ?_
    exact ⟨rz_f (by omega), rfl⟩
  · refine s_lload_n rfl (cn rfl) rfl ?_
    refine s_lload rfl (cn rfl) rfl ?_
    refine s_lcmp rfl (cn rfl) ?_
    refine s_ifl_gt rfl (cn rfl) (cn rfl) ⟨by omega, by omega⟩ ⟨by omega, by omega⟩ (fun q7 => ?_) (fun q7 => ?_)
    · refine s_iconst rfl (cn rfl) ?_
      refine s_zreturn rfl (Or.inl rfl) ?_
      exact ⟨rz_f (by omega), rfl⟩
    · refine s_iconst rfl (cn rfl) ?_
      refine s_goto rfl (cn rfl) ?_
      refine s_zreturn rfl (Or.inr rfl) ?_
      exact ⟨rz_t (by omega), rfl⟩
theorem m_has {d N S : Nat} {h : Nat → Option rr_E} {g p : Nat} (hg : g < 2147483648) (hp : p < 32) : rr_Calls (d + 1) j_Model_has [.int (ii (g : Int)), .int (ii (p : Int))] (N, S, h) (fun r R => r = some (.int (rb (st_bt g p = 1))) ∧ R = (N, S, h)) := by
  refine rr_meth (C := K_Model_has) (hd := h_Model_has) (mx := 2) rfl rfl (fun K hK => ?_)
  refine hK _ _ _ _ ?_
  refine s_iload_n rfl (cn rfl) rfl ?_
  refine s_iload_n rfl (cn rfl) rfl ?_
  refine s_ishr rfl (cn rfl) ?_
  refine s_iconst rfl (cn rfl) ?_
  refine s_iand rfl (cn rfl) _ (bi_bit (by omega) (by omega)) ?_
  refine s_iconst rfl (cn rfl) ?_
  refine s_icmp_ne rfl (cn rfl) (cn rfl) (bt_b3 _ _) (by decide) (fun q6 => ?_) (fun q6 => ?_)
  · refine s_iconst rfl (cn rfl) ?_
    refine s_zreturn rfl (Or.inl rfl) ?_
    exact ⟨rz_f q6, rfl⟩
  · refine s_iconst rfl (cn rfl) ?_
    refine s_goto rfl (cn rfl) ?_
    refine s_zreturn rfl (Or.inr rfl) ?_
    exact ⟨rz_t q6, rfl⟩
theorem m_common {d N S : Nat} {h : Nat → Option rr_E} {a b : Int} (ha : b5 a) (hb : b5 b) (h0 : 0 ≤ b) : rr_Calls (d + 1) j_Model_common [.long (jj a), .long (jj b)] (N, S, h) (fun r R => r = some (.long (jj (Int.gcd a b : Int))) ∧ R = (N, S, h)) := by
  refine rr_meth (C := K_Model_common) (hd := h_Model_common) (mx := 10) rfl rfl (fun K hK => ?_)
  refine hK _ _ _ _ ?_
  refine s_lload_n rfl (cn rfl) rfl ?_
  refine s_lconst rfl (cn rfl) 0 (by decide) ?_
  refine s_lcmp rfl (cn rfl) ?_
  refine s_ifl_ge rfl (cn rfl) (cn rfl) ⟨by omega, by omega⟩ ⟨by omega, by omega⟩ (fun q3 => ?_) (fun q3 => ?_)
  · refine s_lload_n rfl (cn rfl) rfl ?_
    refine s_lstore rfl (cn rfl) ?_
    refine s_lload_n rfl (cn rfl) rfl ?_
    refine s_lstore rfl (ch rfl) ?_
    have lp11 : ∀ y : Nat, ∀ (x : Nat) (hx : x ≤ 9223372036854775807) (hy : y ≤ 9223372036854775807) (hg : Nat.gcd x y = Int.gcd a b) (l8 : Option Value), K 11 [some (.long (jj a)), none, some (.long (jj b)), none, some (.long (jj (x : Int))), none, some (.long (jj (y : Int))), none, l8, none] [] (N, S, h) := by
      refine wfn (fun y ih11 => ?_)
      intro x hx hy hg l8
      refine hK _ _ _ _ ?_
      refine s_lload rfl (cn rfl) rfl ?_
      refine s_lconst rfl (cn rfl) 0 (by decide) ?_
      refine s_lcmp rfl (cn rfl) ?_
      refine s_ifl_eq rfl (cn rfl) (cn rfl) ⟨by omega, by omega⟩ ⟨by omega, by omega⟩ (fun q14 => ?_) (fun q14 => ?_)
      · refine s_lload rfl (cn rfl) rfl ?_
        refine s_lreturn rfl ?_
        refine ⟨rl ?_, rfl⟩
        have hy0 : y = 0 := by omega
        rw [hy0, Nat.gcd_zero_right] at hg
        rw [hg]
      · refine s_lload rfl (cn rfl) rfl ?_
        refine s_lload rfl (cn rfl) rfl ?_
        refine s_lrem rfl (cn rfl) ⟨by omega, by omega⟩ ⟨by omega, by omega⟩ (td_nn hx) (by omega) ?_
        refine s_lstore rfl (cn rfl) ?_
        refine s_lload rfl (cn rfl) rfl ?_
        refine s_lstore rfl (cn rfl) ?_
        refine s_lload rfl (cn rfl) rfl ?_
        refine s_lstore rfl (cn rfl) ?_
        refine s_goto rfl (ch rfl) ?_
        exact ih11 (x % y) (Nat.mod_lt x (show y > 0 by omega)) y hy (by have := Nat.mod_lt x (show y > 0 by omega); omega) (by rw [← hg, Nat.gcd_comm y, ← Nat.gcd_rec, Nat.gcd_comm]) _
    have e1 := lp11 b.natAbs a.natAbs (by omega) (by omega) rfl none
    first
      | (rw [show (a.natAbs : Int) = a by omega, show (b.natAbs : Int) = b by omega] at e1; exact e1)
      | (rw [show (a.natAbs : Int) = -a by omega, show (b.natAbs : Int) = b by omega] at e1; exact e1)
  · refine s_lload_n rfl (cn rfl) rfl ?_
    refine s_lneg rfl (cn rfl) ?_
    refine s_goto rfl (cn rfl) ?_
    refine s_lstore rfl (cn rfl) ?_
    refine s_lload_n rfl (cn rfl) rfl ?_
    refine s_lstore rfl (ch rfl) ?_
    have lp11 : ∀ y : Nat, ∀ (x : Nat) (hx : x ≤ 9223372036854775807) (hy : y ≤ 9223372036854775807) (hg : Nat.gcd x y = Int.gcd a b) (l8 : Option Value), K 11 [some (.long (jj a)), none, some (.long (jj b)), none, some (.long (jj (x : Int))), none, some (.long (jj (y : Int))), none, l8, none] [] (N, S, h) := by
      refine wfn (fun y ih11 => ?_)
      intro x hx hy hg l8
      refine hK _ _ _ _ ?_
      refine s_lload rfl (cn rfl) rfl ?_
      refine s_lconst rfl (cn rfl) 0 (by decide) ?_
      refine s_lcmp rfl (cn rfl) ?_
      refine s_ifl_eq rfl (cn rfl) (cn rfl) ⟨by omega, by omega⟩ ⟨by omega, by omega⟩ (fun q14 => ?_) (fun q14 => ?_)
      · refine s_lload rfl (cn rfl) rfl ?_
        refine s_lreturn rfl ?_
        refine ⟨rl ?_, rfl⟩
        have hy0 : y = 0 := by omega
        rw [hy0, Nat.gcd_zero_right] at hg
        rw [hg]
      · refine s_lload rfl (cn rfl) rfl ?_
        refine s_lload rfl (cn rfl) rfl ?_
        refine s_lrem rfl (cn rfl) ⟨by omega, by omega⟩ ⟨by omega, by omega⟩ (td_nn hx) (by omega) ?_
        refine s_lstore rfl (cn rfl) ?_
        refine s_lload rfl (cn rfl) rfl ?_
        refine s_lstore rfl (cn rfl) ?_
        refine s_lload rfl (cn rfl) rfl ?_
        refine s_lstore rfl (cn rfl) ?_
        refine s_goto rfl (ch rfl) ?_
        exact ih11 (x % y) (Nat.mod_lt x (show y > 0 by omega)) y hy (by have := Nat.mod_lt x (show y > 0 by omega); omega) (by rw [← hg, Nat.gcd_comm y, ← Nat.gcd_rec, Nat.gcd_comm]) _
    have e1 := lp11 b.natAbs a.natAbs (by omega) (by omega) rfl none
    first
      | (rw [show (a.natAbs : Int) = a by omega, show (b.natAbs : Int) = b by omega] at e1; exact e1)
      | (rw [show (a.natAbs : Int) = -a by omega, show (b.natAbs : Int) = b by omega] at e1; exact e1)
theorem m_lowest {d N S : Nat} {h : Nat → Option rr_E} {a b z : Int} (ha : b5 a) (hb : b5 b) (h0 : 0 < b) (hz : b3 z) : rr_Calls (d + 2) j_Model_lowest [.long (jj a), .long (jj b), .int (ii z)] (N, S, h) (fun r R => r = some (.long (jj (lw a b z))) ∧ R = (N, S, h)) := by
  refine rr_meth (C := K_Model_lowest) (hd := h_Model_lowest) (mx := 7) rfl rfl (fun K hK => ?_)
  have hg := gcd_b (a := a) hb h0
  refine hK _ _ _ _ ?_
  refine s_lload_n rfl (cn rfl) rfl ?_
  refine s_lload_n rfl (cn rfl) rfl ?_
  refine s_stat rfl (cn rfl) rfl rfl rfl (m_common (by omega) (by omega) (by omega)) ?_
  rintro _ _ ⟨rfl, rfl⟩
  refine s_lstore rfl (cn rfl) ?_
  refine s_iload rfl (cn rfl) rfl ?_
  refine s_if_ne rfl (cn rfl) (cn rfl) ⟨by omega, by omega⟩ (fun q5 => ?_) (fun q5 => ?_)
  · refine s_lload_n rfl (cn rfl) rfl ?_
    refine s_lload rfl (cn rfl) rfl ?_
    refine s_ldiv rfl (cn rfl) ⟨by omega, by omega⟩ ⟨by omega, by omega⟩ (td_b (by assumption)) (by omega) ?_
    refine s_lreturn rfl ?_
    refine ⟨rl ?_, rfl⟩
    show _ = Int.tdiv (if z = 0 then a else b) _
    first
      | (rw [if_pos q5]; done)
      | (rw [if_neg q5]; done)
  · refine s_lload_n rfl (cn rfl) rfl ?_
    refine s_lload rfl (cn rfl) rfl ?_
    refine s_ldiv rfl (cn rfl) ⟨by omega, by omega⟩ ⟨by omega, by omega⟩ (td_b (by assumption)) (by omega) ?_
    refine s_goto rfl (cn rfl) ?_
    refine s_lreturn rfl ?_
    refine ⟨rl ?_, rfl⟩
    show _ = Int.tdiv (if z = 0 then a else b) _
    first
      | (rw [if_pos q5]; done)
      | (rw [if_neg q5]; done)
theorem m_all {d N S n : Nat} {kp tp pt wr fa dm ce di be od sm le sc ba bb ti rk ts tm pa wa : Int} {h : Nat → Option rr_E} (hn : 2 ≤ n ∧ n ≤ 4) (c58 : h 58 = some (MO (n : Int) kp tp pt wr fa dm ce di be od sm le sc ba bb ti rk ts tm pa wa)) : rr_Calls (d + 1) j_Model_all [.ref 58] (N, S, h) (fun r R => r = some (.int (ii ((al n : Nat) : Int))) ∧ R = (N, S, h)) := by
  refine rr_meth (C := K_Model_all) (hd := h_Model_all) (mx := 1) rfl rfl (fun K hK => ?_)
  refine hK _ _ _ _ ?_
  refine s_iconst rfl (cn rfl) ?_
  refine s_aload_n rfl (cn rfl) rfl ?_
  refine s_getfield rfl (cn rfl) c58 rfl ?_
  refine s_ishl rfl (cn rfl) _ (bi_shl1 (by omega)) ?_
  refine s_iconst rfl (cn rfl) ?_
  refine s_isub rfl (cn rfl) ?_
  refine s_ireturn rfl ?_
  exact ⟨ri al_p.symm, rfl⟩
theorem m_isGroup {d N S n : Nat} {kp tp pt wr fa dm ce di be od sm le sc ba bb ti rk ts tm pa wa : Int} {h : Nat → Option rr_E} (hn : 2 ≤ n ∧ n ≤ 4) (c58 : h 58 = some (MO (n : Int) kp tp pt wr fa dm ce di be od sm le sc ba bb ti rk ts tm pa wa)) {a : Int} (ha : b3 a) : rr_Calls (d + 2) j_Model_isGroup [.ref 58, .int (ii a)] (N, S, h) (fun r R => r = some (.int (rb (1 ≤ a ∧ a ≤ (al n : Int)))) ∧ R = (N, S, h)) := by
  refine rr_meth (C := K_Model_isGroup) (hd := h_Model_isGroup) (mx := 2) rfl rfl (fun K hK => ?_)
  have hA := al_b hn
  refine hK _ _ _ _ ?_
  refine s_iload_n rfl (cn rfl) rfl ?_
  refine s_i2l rfl (cn rfl) ⟨by omega, by omega⟩ ?_
  refine s_lconst rfl (cn rfl) 1 (by decide) ?_
  refine s_aload_n rfl (cn rfl) rfl ?_
  refine s_virt rfl (cn rfl) rfl rfl c58 rfl (m_all hn c58) ?_
  rintro _ _ ⟨rfl, rfl⟩
  refine s_i2l rfl (cn rfl) ⟨by omega, by omega⟩ ?_
  refine s_stat rfl (cn rfl) rfl rfl rfl (m_in (by omega) (by omega) (by omega)) ?_
  rintro _ _ ⟨rfl, rfl⟩
  refine s_zreturn rfl (rb_01 _) ?_
  exact ⟨rz_i (by omega), rfl⟩
theorem m_isPart {d N S n : Nat} {kp tp pt wr fa dm ce di be od sm le sc ba bb ti rk ts tm pa wa : Int} {h : Nat → Option rr_E} (hn : 2 ≤ n ∧ n ≤ 4) (c58 : h 58 = some (MO (n : Int) kp tp pt wr fa dm ce di be od sm le sc ba bb ti rk ts tm pa wa)) {a : Int} (ha : b3 a) : rr_Calls (d + 2) j_Model_isPart [.ref 58, .int (ii a)] (N, S, h) (fun r R => r = some (.int (rb (1 ≤ a ∧ a < (al n : Int)))) ∧ R = (N, S, h)) := by
  refine rr_meth (C := K_Model_isPart) (hd := h_Model_isPart) (mx := 2) rfl rfl (fun K hK => ?_)
  have hA := al_b hn
  refine hK _ _ _ _ ?_
  refine s_iload_n rfl (cn rfl) rfl ?_
  refine s_i2l rfl (cn rfl) ⟨by omega, by omega⟩ ?_
  refine s_lconst rfl (cn rfl) 1 (by decide) ?_
  refine s_aload_n rfl (cn rfl) rfl ?_
  refine s_virt rfl (cn rfl) rfl rfl c58 rfl (m_all hn c58) ?_
  rintro _ _ ⟨rfl, rfl⟩
  refine s_iconst rfl (cn rfl) ?_
  refine s_isub rfl (cn rfl) ?_
  refine s_i2l rfl (cn rfl) ⟨by omega, by omega⟩ ?_
  refine s_stat rfl (cn rfl) rfl rfl rfl (m_in (by omega) (by omega) (by omega)) ?_
  rintro _ _ ⟨rfl, rfl⟩
  refine s_zreturn rfl (rb_01 _) ?_
  exact ⟨rz_i (by omega), rfl⟩
theorem m_isOne {d N S n : Nat} {kp tp pt wr fa dm ce di be od sm le sc ba bb ti rk ts tm pa wa : Int} {h : Nat → Option rr_E} (hn : 2 ≤ n ∧ n ≤ 4) (c58 : h 58 = some (MO (n : Int) kp tp pt wr fa dm ce di be od sm le sc ba bb ti rk ts tm pa wa)) {a : Int} (ha : b3 a) : rr_Calls (d + 2) j_Model_isOne [.ref 58, .int (ii a)] (N, S, h) (fun r R => r = some (.int (rb (0 ≤ a ∧ a < (n : Int)))) ∧ R = (N, S, h)) := by
  refine rr_meth (C := K_Model_isOne) (hd := h_Model_isOne) (mx := 2) rfl rfl (fun K hK => ?_)
  have hA := al_b hn
  refine hK _ _ _ _ ?_
  refine s_iload_n rfl (cn rfl) rfl ?_
  refine s_i2l rfl (cn rfl) ⟨by omega, by omega⟩ ?_
  refine s_lconst rfl (cn rfl) 0 (by decide) ?_
  refine s_aload_n rfl (cn rfl) rfl ?_
  refine s_getfield rfl (cn rfl) c58 rfl ?_
  refine s_iconst rfl (cn rfl) ?_
  refine s_isub rfl (cn rfl) ?_
  refine s_i2l rfl (cn rfl) ⟨by omega, by omega⟩ ?_
  refine s_stat rfl (cn rfl) rfl rfl rfl (m_in (by omega) (by omega) (by omega)) ?_
  rintro _ _ ⟨rfl, rfl⟩
  refine s_zreturn rfl (rb_01 _) ?_
  exact ⟨rz_i (by omega), rfl⟩
theorem m_isList {d N S : Nat} {h : Nat → Option rr_E} {a : Int} (ha : b3 a) : rr_Calls (d + 2) j_Model_isList [.int (ii a)] (N, S, h) (fun r R => r = some (.int (rb (0 ≤ a ∧ a ≤ 3))) ∧ R = (N, S, h)) := by
  refine rr_meth (C := K_Model_isList) (hd := h_Model_isList) (mx := 1) rfl rfl (fun K hK => ?_)
  refine hK _ _ _ _ ?_
  refine s_iload_n rfl (cn rfl) rfl ?_
  refine s_i2l rfl (cn rfl) ⟨by omega, by omega⟩ ?_
  refine s_lconst rfl (cn rfl) 0 (by decide) ?_
  refine s_ldc2_w rfl (cn rfl) ?_
  refine s_stat rfl (cn rfl) rfl rfl rfl (m_in (by omega) (by omega) (by omega)) ?_
  rintro _ _ ⟨rfl, rfl⟩
  refine s_zreturn rfl (rb_01 _) ?_
  exact ⟨rz_i (by omega), rfl⟩
theorem u_hasList {d N S : Nat} {h : Nat → Option rr_E} {a : Int} (ha : b3 a) : rr_Calls (d + 1) j_Rows_hasList [.int (ii a)] (N, S, h) (fun r R => r = some (.int (rb (0 ≤ a ∧ a ≤ 3))) ∧ R = (N, S, h)) := by
  refine rr_meth (C := K_Rows_hasList) (hd := h_Rows_hasList) (mx := 1) rfl rfl (fun K hK => ?_)
  refine hK _ _ _ _ ?_
  refine s_iload_n rfl (cn rfl) rfl ?_
  refine s_if_lt rfl (cn rfl) (cn rfl) ⟨by omega, by omega⟩ (fun q1 => ?_) (fun q1 => ?_)
  · refine s_iconst rfl (cn rfl) ?_
    refine s_zreturn rfl (Or.inl rfl) ?_
    exact ⟨rz_f (by omega), rfl⟩
  · refine s_iload_n rfl (cn rfl) rfl ?_
    refine s_iconst rfl (cn rfl) ?_
    refine s_icmp_ge rfl (cn rfl) (cn rfl) ⟨by omega, by omega⟩ ⟨by omega, by omega⟩ (fun q4 => ?_) (fun q4 => ?_)
    · refine s_iconst rfl (cn rfl) ?_
      refine s_zreturn rfl (Or.inl rfl) ?_
      exact ⟨rz_f (by omega), rfl⟩
    · refine s_iconst rfl (cn rfl) ?_
      refine s_goto rfl (cn rfl) ?_
      refine s_zreturn rfl (Or.inr rfl) ?_
      exact ⟨rz_t (by omega), rfl⟩
theorem u_hasKind {d N S : Nat} {h : Nat → Option rr_E} {a : Int} (ha : b3 a) : rr_Calls (d + 1) j_Kinds_hasKind [.int (ii a)] (N, S, h) (fun r R => r = some (.int (rb (0 ≤ a ∧ a ≤ 2))) ∧ R = (N, S, h)) := by
  refine rr_meth (C := K_Kinds_hasKind) (hd := h_Kinds_hasKind) (mx := 1) rfl rfl (fun K hK => ?_)
  refine hK _ _ _ _ ?_
  refine s_iload_n rfl (cn rfl) rfl ?_
  refine s_if_lt rfl (cn rfl) (cn rfl) ⟨by omega, by omega⟩ (fun q1 => ?_) (fun q1 => ?_)
  · refine s_iconst rfl (cn rfl) ?_
    refine s_zreturn rfl (Or.inl rfl) ?_
    exact ⟨rz_f (by omega), rfl⟩
  · refine s_iload_n rfl (cn rfl) rfl ?_
    refine s_iconst rfl (cn rfl) ?_
    refine s_icmp_gt rfl (cn rfl) (cn rfl) ⟨by omega, by omega⟩ ⟨by omega, by omega⟩ (fun q4 => ?_) (fun q4 => ?_)
    · refine s_iconst rfl (cn rfl) ?_
      refine s_zreturn rfl (Or.inl rfl) ?_
      exact ⟨rz_f (by omega), rfl⟩
    · refine s_iconst rfl (cn rfl) ?_
      refine s_goto rfl (cn rfl) ?_
      refine s_zreturn rfl (Or.inr rfl) ?_
      exact ⟨rz_t (by omega), rfl⟩
