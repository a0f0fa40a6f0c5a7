/-! The model's reader. -/
theorem m_here {d N S n : Nat} {kp wr fa dm ce di be od sm le sc ba bb ti rk ts tm pa wa : Int} {h : Nat → Option rr_E}  {tl p : Nat} {ta : Nat → Int} (htl : tl ≤ 100) (hp : p ≤ tl) (ht : ∀ p, p < tl → 1 ≤ ta p ∧ ta p ≤ 127) (c58 : h 58 = some (MO (n : Int) kp (tl : Int) (p : Int) wr fa dm ce di be od sm le sc ba bb ti rk ts tm pa wa)) (c61 : h 61 = some (.inl (0, 100, .inl (fun k => ii (ta k))))) : rr_Calls (d + 1) j_Model_here [.ref 58] (N, S, h) (fun r R => r = some (.int (ii (hr ta tl p))) ∧ R = (N, S, h)) := by
  refine rr_meth (C := K_Model_here) (hd := h_Model_here) (mx := 1) rfl rfl (fun K hK => ?_)
  refine hK _ _ _ _ ?_
  refine s_aload_n rfl (cn rfl) rfl ?_
  refine s_getfield rfl (cn rfl) c58 rfl ?_
  refine s_aload_n rfl (cn rfl) rfl ?_
  refine s_getfield rfl (cn rfl) c58 rfl ?_
  refine s_icmp_ge rfl (cn rfl) (cn rfl) ⟨by omega, by omega⟩ ⟨by omega, by omega⟩ (fun q4 => ?_) (fun q4 => ?_)
  · refine s_iconst rfl (cn rfl) ?_
    refine s_ireturn rfl ?_
    first
      | exact ⟨ri (show ta p = if p < tl then ta p else -1 by rw [if_pos (by omega)]), rfl⟩
      | exact ⟨ri (show (-1 : Int) = if p < tl then ta p else -1 by rw [if_neg (by omega)]), rfl⟩
  · refine s_aload_n rfl (cn rfl) rfl ?_
    refine s_getfield rfl (cn rfl) c58 rfl ?_
    refine s_aload_n rfl (cn rfl) rfl ?_
    refine s_getfield rfl (cn rfl) c58 rfl ?_
    refine s_iaload rfl (cn rfl) _ rfl c61 rfl (by omega) (by decide) rfl ?_
    refine s_goto rfl (cn rfl) ?_
    refine s_ireturn rfl ?_
    first
      | exact ⟨ri (show ta p = if p < tl then ta p else -1 by rw [if_pos (by omega)]), rfl⟩
      | exact ⟨ri (show (-1 : Int) = if p < tl then ta p else -1 by rw [if_neg (by omega)]), rfl⟩
theorem m_wrong {d N S n : Nat} {kp tp pt fa dm ce di be od sm le sc ba bb ti rk ts tm pa wa : Int} {h : Nat → Option rr_E}  {x : Int} (c58 : h 58 = some (MO (n : Int) kp tp pt 0 fa dm ce di be od sm le sc ba bb ti rk ts tm pa wa)) : rr_Calls (d + 1) j_Model_wrong [.ref 58, .int (ii x)] (N, S, h) (fun r R => r = none ∧ ∃ h', R = (N, S, h') ∧ fr [58] h h' ∧ h' 58 = some (MO (n : Int) kp tp pt 1 x dm ce di be od sm le sc ba bb ti rk ts tm pa wa)) := by
  refine rr_meth (C := K_Model_wrong) (hd := h_Model_wrong) (mx := 2) rfl rfl (fun K hK => ?_)
  refine hK _ _ _ _ ?_
  refine s_aload_n rfl (cn rfl) rfl ?_
  refine s_getfield rfl (cn rfl) c58 rfl ?_
  refine s_if_eq rfl (cn rfl) (cn rfl) ⟨by omega, by omega⟩ (fun q2 => ?_) (fun q2 => ?_)
  · refine s_aload_n rfl (cn rfl) rfl ?_
    refine s_iconst rfl (cn rfl) ?_
    refine s_putz rfl (cn rfl) rfl (Or.inr rfl) c58 rfl ?_
    refine s_aload_n rfl (cn rfl) rfl ?_
    refine s_iload_n rfl (cn rfl) rfl ?_
    refine s_puti rfl (cn rfl) rfl rr_set_eq rfl ?_
    refine s_return rfl ?_
    exact ⟨rfl, _, rfl, fr_s (by decide) (fr_s (by decide) fr_r), rr_set_eq⟩
  · exact absurd rfl q2
theorem m_letters {d N S n : Nat} {kp wr fa dm ce di be od sm le sc ba bb ti rk ts tm pa wa : Int} {h : Nat → Option rr_E}  {tl p : Nat} {ta : Nat → Int} (htl : tl ≤ 100) (hp : p ≤ tl) (ht : ∀ p, p < tl → 1 ≤ ta p ∧ ta p ≤ 127) (c58 : h 58 = some (MO (n : Int) kp (tl : Int) (p : Int) wr fa dm ce di be od sm le sc ba bb ti rk ts tm pa wa)) (c61 : h 61 = some (.inl (0, 100, .inl (fun k => ii (ta k))))) : rr_Calls (d + 2) j_Model_letters [.ref 58] (N, S, h) (fun r R => r = some (.int (ii (p : Int))) ∧ ∃ h', R = (N, S, h') ∧ fr [58] h h' ∧ h' 58 = some (MO (n : Int) kp (tl : Int) ((plN ta tl p : Nat) : Int) wr fa dm ce di be od sm le sc ba bb ti rk ts tm pa wa)) := by
  refine rr_meth (C := K_Model_letters) (hd := h_Model_letters) (mx := 2) rfl rfl (fun K hK => ?_)
  refine hK _ _ _ _ ?_
  refine s_aload_n rfl (cn rfl) rfl ?_
  refine s_getfield rfl (cn rfl) c58 rfl ?_
  refine s_istore_n rfl (ch rfl) ?_
  have lp3 : ∀ u : Nat, u ≤ tl → ∀ (h' : Nat → Option rr_E) (c58 : h' 58 = some (MO (n : Int) kp (tl : Int) ((p + u : Nat) : Int) wr fa dm ce di be od sm le sc ba bb ti rk ts tm pa wa)) (hf : fr [58] h h') (hl : p + u ≤ tl) (ha : ∀ j, p ≤ j → j < p + u → isL ta tl j), K 3 [some (.ref 58), some (.int (ii (p : Int)))] [] (N, S, h') := by
    refine dn (fun u hu ih3 => ?_)
    intro h' c58 hf hl ha
    have c61 := (hf 61 (by decide)).trans c61
    have hb := hr_b ht (p + u)
    refine hK _ _ _ _ ?_
    refine s_aload_n rfl (cn rfl) rfl ?_
    refine s_virt rfl (cn rfl) rfl rfl c58 rfl (m_here htl hl ht c58 c61) ?_
    rintro _ _ ⟨rfl, rfl⟩
    refine s_i2l rfl (cn rfl) ⟨by omega, by omega⟩ ?_
    refine s_ldc2_w rfl (cn rfl) ?_
    refine s_ldc2_w rfl (cn rfl) ?_
    refine s_stat rfl (cn rfl) rfl rfl rfl (m_in (by omega) (by omega) (by omega)) ?_
    rintro _ _ ⟨rfl, rfl⟩
    refine s_ifb_eq rfl (cn rfl) (cn rfl) (fun q9 => ?_) (fun q9 => ?_)
    · refine s_iload_n rfl (cn rfl) rfl ?_
      refine s_ireturn rfl ?_
      have e : plN ta tl p = p + u := pl_e (by omega) hl ha q9
      rw [e]
      exact ⟨rfl, h', rfl, hf, c58⟩
    · refine s_aload_n rfl (cn rfl) rfl ?_
      refine s_dupr rfl (cn rfl) ?_
      refine s_getfield rfl (cn rfl) c58 rfl ?_
      refine s_iconst rfl (cn rfl) ?_
      refine s_iadd rfl (cn rfl) ?_
      refine s_puti rfl (cn rfl) rfl c58 rfl ?_
      refine s_goto rfl (ch rfl) ?_
      exact ih3 (by have := (isL_lt (tp := ta) q9).1; omega) _ rr_set_eq (fr_s (by decide) hf) ((isL_lt (tp := ta) q9).1) (fun j j1 j2 => by
          by_cases e : j = p + u
          · subst e; exact q9
          · exact ha j j1 (by omega))
  exact lp3 0 (by omega) _ c58 fr_r hp (fun j q1 q2 => absurd q2 (by omega))
def wdl (ta : Nat → Int) (p f i : Nat) (c : Int) : Prop := (c = 0 ∧ p ≤ f + i) ∨ (c ≠ 0 ∧ f + i < p ∧ ta (f + i) = c)
theorem m_isLetter {d N S n : Nat} {kp wr fa dm ce di be od sm le sc ba bb ti rk ts tm pa wa : Int} {h : Nat → Option rr_E}  {tl p : Nat} {ta : Nat → Int} (htl : tl ≤ 100) (hp : p ≤ tl) (ht : ∀ p, p < tl → 1 ≤ ta p ∧ ta p ≤ 127) (c58 : h 58 = some (MO (n : Int) kp (tl : Int) (p : Int) wr fa dm ce di be od sm le sc ba bb ti rk ts tm pa wa)) (c61 : h 61 = some (.inl (0, 100, .inl (fun k => ii (ta k))))) {f i : Nat} {c : Int} (hf : f ≤ p) (hi : i < 6) (hc : 0 ≤ c ∧ c ≤ 127) : rr_Calls (d + 1) j_Model_isLetter [.ref 58, .int (ii (f : Int)), .int (ii (i : Int)), .int (ii c)] (N, S, h) (fun r R => r = some (.int (rc (wdl ta p f i c))) ∧ R = (N, S, h)) := by
  refine rr_meth (C := K_Model_isLetter) (hd := h_Model_isLetter) (mx := 4) rfl rfl (fun K hK => ?_)
  refine hK _ _ _ _ ?_
  refine s_iload_n rfl (cn rfl) rfl ?_
  refine s_if_ne rfl (cn rfl) (cn rfl) ⟨by omega, by omega⟩ (fun q1 => ?_) (fun q1 => ?_)
  · refine s_iload_n rfl (cn rfl) rfl ?_
    refine s_iload_n rfl (cn rfl) rfl ?_
    refine s_iadd rfl (cn rfl) ?_
    refine s_aload_n rfl (cn rfl) rfl ?_
    refine s_getfield rfl (cn rfl) c58 rfl ?_
    refine s_icmp_ge rfl (cn rfl) (cn rfl) ⟨by omega, by omega⟩ ⟨by omega, by omega⟩ (fun q17 => ?_) (fun q17 => ?_)
    · refine s_iconst rfl (cn rfl) ?_
      refine s_zreturn rfl (Or.inl rfl) ?_
      refine ⟨rz_f (fun q => ?_), rfl⟩
      unfold wdl at q
      omega
    · have htk := ht (f + i) (by omega)
      refine s_aload_n rfl (cn rfl) rfl ?_
      refine s_getfield rfl (cn rfl) c58 rfl ?_
      refine s_iload_n rfl (cn rfl) rfl ?_
      refine s_iload_n rfl (cn rfl) rfl ?_
      refine s_iadd rfl (cn rfl) ?_
      refine s_iaload rfl (cn rfl) (f + i) (by omega) c61 rfl (by omega) (by decide) rfl ?_
      refine s_iload_n rfl (cn rfl) rfl ?_
      refine s_icmp_ne rfl (cn rfl) (cn rfl) ⟨by omega, by omega⟩ ⟨by omega, by omega⟩ (fun q25 => ?_) (fun q25 => ?_)
      · refine s_iconst rfl (cn rfl) ?_
        refine s_zreturn rfl (Or.inl rfl) ?_
        refine ⟨rz_f (fun q => ?_), rfl⟩
        unfold wdl at q
        omega
      · refine s_iconst rfl (cn rfl) ?_
        refine s_goto rfl (cn rfl) ?_
        refine s_zreturn rfl (Or.inr rfl) ?_
        refine ⟨rz_t ?_, rfl⟩
        unfold wdl
        omega
  · refine s_iload_n rfl (cn rfl) rfl ?_
    refine s_iload_n rfl (cn rfl) rfl ?_
    refine s_iadd rfl (cn rfl) ?_
    refine s_aload_n rfl (cn rfl) rfl ?_
    refine s_getfield rfl (cn rfl) c58 rfl ?_
    refine s_icmp_lt rfl (cn rfl) (cn rfl) ⟨by omega, by omega⟩ ⟨by omega, by omega⟩ (fun q7 => ?_) (fun q7 => ?_)
    · refine s_iconst rfl (cn rfl) ?_
      refine s_goto rfl (cn rfl) ?_
      refine s_zreturn rfl (Or.inl rfl) ?_
      refine ⟨rz_f (fun q => ?_), rfl⟩
      unfold wdl at q
      omega
    · refine s_iconst rfl (cn rfl) ?_
      refine s_goto rfl (cn rfl) ?_
      refine s_zreturn rfl (Or.inr rfl) ?_
      refine ⟨rz_t ?_, rfl⟩
      unfold wdl
      omega
theorem m_isWord {d N S n : Nat} {kp wr fa dm ce di be od sm le sc ba bb ti rk ts tm pa wa : Int} {h : Nat → Option rr_E}  {tl p : Nat} {ta : Nat → Int} (htl : tl ≤ 100) (hp : p ≤ tl) (ht : ∀ p, p < tl → 1 ≤ ta p ∧ ta p ≤ 127) (c58 : h 58 = some (MO (n : Int) kp (tl : Int) (p : Int) wr fa dm ce di be od sm le sc ba bb ti rk ts tm pa wa)) (c61 : h 61 = some (.inl (0, 100, .inl (fun k => ii (ta k))))) {f : Nat} {x0 x1 x2 x3 x4 x5 : Int} (hf : f ≤ p) (hx : (0 ≤ x0 ∧ x0 ≤ 127) ∧ (0 ≤ x1 ∧ x1 ≤ 127) ∧ (0 ≤ x2 ∧ x2 ≤ 127) ∧ (0 ≤ x3 ∧ x3 ≤ 127) ∧ (0 ≤ x4 ∧ x4 ≤ 127) ∧ (0 ≤ x5 ∧ x5 ≤ 127)) : rr_Calls (d + 2) j_Model_isWord [.ref 58, .int (ii (f : Int)), .int (ii x0), .int (ii x1), .int (ii x2), .int (ii x3), .int (ii x4), .int (ii x5)] (N, S, h) (fun r R => r = some (.int (rc (p ≤ f + 6 ∧ wdl ta p f 0 x0 ∧ wdl ta p f 1 x1 ∧ wdl ta p f 2 x2 ∧ wdl ta p f 3 x3 ∧ wdl ta p f 4 x4 ∧ wdl ta p f 5 x5))) ∧ R = (N, S, h)) := by
  refine rr_meth (C := K_Model_isWord) (hd := h_Model_isWord) (mx := 8) rfl rfl (fun K hK => ?_)
  refine hK _ _ _ _ ?_
  refine s_aload_n rfl (cn rfl) rfl ?_
  refine s_getfield rfl (cn rfl) c58 rfl ?_
  refine s_iload_n rfl (cn rfl) rfl ?_
  refine s_isub rfl (cn rfl) ?_
  refine s_bipush rfl (cn rfl) (by decide) ?_
  refine s_icmp_gt rfl (cn rfl) (cn rfl) ⟨by omega, by omega⟩ ⟨by omega, by omega⟩ (fun q5 => ?_) (fun q5 => ?_)
  · refine s_iconst rfl (cn rfl) ?_
    refine s_zreturn rfl (Or.inl rfl) ?_
    refine ⟨rz_f (fun q => ?_), rfl⟩
    first
      | exact q11 q.2.1
      | exact q17 q.2.2.1
      | exact q23 q.2.2.2.1
      | exact q29 q.2.2.2.2.1
      | exact q35 q.2.2.2.2.2.1
      | exact q41 q.2.2.2.2.2.2
      | (have := q.1; omega)
  · refine s_aload_n rfl (cn rfl) rfl ?_
    refine s_iload_n rfl (cn rfl) rfl ?_
    refine s_iconst rfl (cn rfl) ?_
    refine s_iload_n rfl (cn rfl) rfl ?_
    refine s_virt rfl (cn rfl) rfl rfl c58 rfl (m_isLetter (i := 0) htl hp ht c58 c61 hf (by decide) (by omega)) ?_
    rintro _ _ ⟨rfl, rfl⟩
    refine s_ifb_eq rfl (cn rfl) (cn rfl) (fun q11 => ?_) (fun q11 => ?_)
    · refine s_iconst rfl (cn rfl) ?_
      refine s_zreturn rfl (Or.inl rfl) ?_
      refine ⟨rz_f (fun q => ?_), rfl⟩
      first
        | exact q11 q.2.1
        | exact q17 q.2.2.1
        | exact q23 q.2.2.2.1
        | exact q29 q.2.2.2.2.1
        | exact q35 q.2.2.2.2.2.1
        | exact q41 q.2.2.2.2.2.2
        | (have := q.1; omega)
    · refine s_aload_n rfl (cn rfl) rfl ?_
      refine s_iload_n rfl (cn rfl) rfl ?_
      refine s_iconst rfl (cn rfl) ?_
      refine s_iload_n rfl (cn rfl) rfl ?_
      refine s_virt rfl (cn rfl) rfl rfl c58 rfl (m_isLetter (i := 1) htl hp ht c58 c61 hf (by decide) (by omega)) ?_
      rintro _ _ ⟨rfl, rfl⟩
      refine s_ifb_eq rfl (cn rfl) (cn rfl) (fun q17 => ?_) (fun q17 => ?_)
      · refine s_iconst rfl (cn rfl) ?_
        refine s_zreturn rfl (Or.inl rfl) ?_
        refine ⟨rz_f (fun q => ?_), rfl⟩
        first
          | exact q11 q.2.1
          | exact q17 q.2.2.1
          | exact q23 q.2.2.2.1
          | exact q29 q.2.2.2.2.1
          | exact q35 q.2.2.2.2.2.1
          | exact q41 q.2.2.2.2.2.2
          | (have := q.1; omega)
      · refine s_aload_n rfl (cn rfl) rfl ?_
        refine s_iload_n rfl (cn rfl) rfl ?_
        refine s_iconst rfl (cn rfl) ?_
        refine s_iload rfl (cn rfl) rfl ?_
        refine s_virt rfl (cn rfl) rfl rfl c58 rfl (m_isLetter (i := 2) htl hp ht c58 c61 hf (by decide) (by omega)) ?_
        rintro _ _ ⟨rfl, rfl⟩
        refine s_ifb_eq rfl (cn rfl) (cn rfl) (fun q23 => ?_) (fun q23 => ?_)
        · refine s_iconst rfl (cn rfl) ?_
          refine s_zreturn rfl (Or.inl rfl) ?_
          refine ⟨rz_f (fun q => ?_), rfl⟩
          first
            | exact q11 q.2.1
            | exact q17 q.2.2.1
            | exact q23 q.2.2.2.1
            | exact q29 q.2.2.2.2.1
            | exact q35 q.2.2.2.2.2.1
            | exact q41 q.2.2.2.2.2.2
            | (have := q.1; omega)
        · refine s_aload_n rfl (cn rfl) rfl ?_
          refine s_iload_n rfl (cn rfl) rfl ?_
          refine s_iconst rfl (cn rfl) ?_
          refine s_iload rfl (cn rfl) rfl ?_
          refine s_virt rfl (cn rfl) rfl rfl c58 rfl (m_isLetter (i := 3) htl hp ht c58 c61 hf (by decide) (by omega)) ?_
          rintro _ _ ⟨rfl, rfl⟩
          refine s_ifb_eq rfl (cn rfl) (cn rfl) (fun q29 => ?_) (fun q29 => ?_)
          · refine s_iconst rfl (cn rfl) ?_
            refine s_zreturn rfl (Or.inl rfl) ?_
            refine ⟨rz_f (fun q => ?_), rfl⟩
            first
              | exact q11 q.2.1
              | exact q17 q.2.2.1
              | exact q23 q.2.2.2.1
              | exact q29 q.2.2.2.2.1
              | exact q35 q.2.2.2.2.2.1
              | exact q41 q.2.2.2.2.2.2
              | (have := q.1; omega)
          · refine s_aload_n rfl (cn rfl) rfl ?_
            refine s_iload_n rfl (cn rfl) rfl ?_
            refine s_iconst rfl (cn rfl) ?_
            refine s_iload rfl (cn rfl) rfl ?_
            refine s_virt rfl (cn rfl) rfl rfl c58 rfl (m_isLetter (i := 4) htl hp ht c58 c61 hf (by decide) (by omega)) ?_
            rintro _ _ ⟨rfl, rfl⟩
            refine s_ifb_eq rfl (cn rfl) (cn rfl) (fun q35 => ?_) (fun q35 => ?_)
            · refine s_iconst rfl (cn rfl) ?_
              refine s_zreturn rfl (Or.inl rfl) ?_
              refine ⟨rz_f (fun q => ?_), rfl⟩
              first
                | exact q11 q.2.1
                | exact q17 q.2.2.1
                | exact q23 q.2.2.2.1
                | exact q29 q.2.2.2.2.1
                | exact q35 q.2.2.2.2.2.1
                | exact q41 q.2.2.2.2.2.2
                | (have := q.1; omega)
            · refine s_aload_n rfl (cn rfl) rfl ?_
              refine s_iload_n rfl (cn rfl) rfl ?_
              refine s_iconst rfl (cn rfl) ?_
              refine s_iload rfl (cn rfl) rfl ?_
              refine s_virt rfl (cn rfl) rfl rfl c58 rfl (m_isLetter (i := 5) htl hp ht c58 c61 hf (by decide) (by omega)) ?_
              rintro _ _ ⟨rfl, rfl⟩
              refine s_ifb_eq rfl (cn rfl) (cn rfl) (fun q41 => ?_) (fun q41 => ?_)
              · refine s_iconst rfl (cn rfl) ?_
                refine s_zreturn rfl (Or.inl rfl) ?_
                refine ⟨rz_f (fun q => ?_), rfl⟩
                first
                  | exact q11 q.2.1
                  | exact q17 q.2.2.1
                  | exact q23 q.2.2.2.1
                  | exact q29 q.2.2.2.2.1
                  | exact q35 q.2.2.2.2.2.1
                  | exact q41 q.2.2.2.2.2.2
                  | (have := q.1; omega)
              · refine s_iconst rfl (cn rfl) ?_
                refine s_goto rfl (cn rfl) ?_
                refine s_zreturn rfl (Or.inr rfl) ?_
                exact ⟨rz_t ⟨by omega, q11, q17, q23, q29, q35, q41⟩, rfl⟩
theorem wd_0 {ta : Nat → Int} {p f : Nat} : (p ≤ f + 6 ∧ wdl ta p f 0 112 ∧ wdl ta p f 1 101 ∧ wdl ta p f 2 111 ∧ wdl ta p f 3 112 ∧ wdl ta p f 4 108 ∧ wdl ta p f 5 101) ↔ spl WB0 6 ta f p := by
  unfold wdl spl
  constructor
  · rintro ⟨h, h0, h1, h2, h3, h4, h5⟩
    refine ⟨by omega, fun k hk => ?_⟩
    have : k = 0 ∨ k = 1 ∨ k = 2 ∨ k = 3 ∨ k = 4 ∨ k = 5 := by omega
    rcases this with rfl | rfl | rfl | rfl | rfl | rfl
    · show ta (f + 0) = 112; omega
    · show ta (f + 1) = 101; omega
    · show ta (f + 2) = 111; omega
    · show ta (f + 3) = 112; omega
    · show ta (f + 4) = 108; omega
    · show ta (f + 5) = 101; omega
  · rintro ⟨h, hk⟩
    have k0 : ta (f + 0) = 112 := hk 0 (by decide)
    have k1 : ta (f + 1) = 101 := hk 1 (by decide)
    have k2 : ta (f + 2) = 111 := hk 2 (by decide)
    have k3 : ta (f + 3) = 112 := hk 3 (by decide)
    have k4 : ta (f + 4) = 108 := hk 4 (by decide)
    have k5 : ta (f + 5) = 101 := hk 5 (by decide)
    omega
theorem wd_1 {ta : Nat → Int} {p f : Nat} : (p ≤ f + 6 ∧ wdl ta p f 0 119 ∧ wdl ta p f 1 111 ∧ wdl ta p f 2 114 ∧ wdl ta p f 3 116 ∧ wdl ta p f 4 104 ∧ wdl ta p f 5 0) ↔ spl WB1 5 ta f p := by
  unfold wdl spl
  constructor
  · rintro ⟨h, h0, h1, h2, h3, h4, h5⟩
    refine ⟨by omega, fun k hk => ?_⟩
    have : k = 0 ∨ k = 1 ∨ k = 2 ∨ k = 3 ∨ k = 4 := by omega
    rcases this with rfl | rfl | rfl | rfl | rfl
    · show ta (f + 0) = 119; omega
    · show ta (f + 1) = 111; omega
    · show ta (f + 2) = 114; omega
    · show ta (f + 3) = 116; omega
    · show ta (f + 4) = 104; omega
  · rintro ⟨h, hk⟩
    have k0 : ta (f + 0) = 119 := hk 0 (by decide)
    have k1 : ta (f + 1) = 111 := hk 1 (by decide)
    have k2 : ta (f + 2) = 114 := hk 2 (by decide)
    have k3 : ta (f + 3) = 116 := hk 3 (by decide)
    have k4 : ta (f + 4) = 104 := hk 4 (by decide)
    omega
theorem wd_2 {ta : Nat → Int} {p f : Nat} : (p ≤ f + 6 ∧ wdl ta p f 0 109 ∧ wdl ta p f 1 111 ∧ wdl ta p f 2 114 ∧ wdl ta p f 3 101 ∧ wdl ta p f 4 0 ∧ wdl ta p f 5 0) ↔ spl WB2 4 ta f p := by
  unfold wdl spl
  constructor
  · rintro ⟨h, h0, h1, h2, h3, h4, h5⟩
    refine ⟨by omega, fun k hk => ?_⟩
    have : k = 0 ∨ k = 1 ∨ k = 2 ∨ k = 3 := by omega
    rcases this with rfl | rfl | rfl | rfl
    · show ta (f + 0) = 109; omega
    · show ta (f + 1) = 111; omega
    · show ta (f + 2) = 114; omega
    · show ta (f + 3) = 101; omega
  · rintro ⟨h, hk⟩
    have k0 : ta (f + 0) = 109 := hk 0 (by decide)
    have k1 : ta (f + 1) = 111 := hk 1 (by decide)
    have k2 : ta (f + 2) = 114 := hk 2 (by decide)
    have k3 : ta (f + 3) = 101 := hk 3 (by decide)
    omega
theorem wd_3 {ta : Nat → Int} {p f : Nat} : (p ≤ f + 6 ∧ wdl ta p f 0 100 ∧ wdl ta p f 1 117 ∧ wdl ta p f 2 97 ∧ wdl ta p f 3 108 ∧ wdl ta p f 4 0 ∧ wdl ta p f 5 0) ↔ spl WB3 4 ta f p := by
  unfold wdl spl
  constructor
  · rintro ⟨h, h0, h1, h2, h3, h4, h5⟩
    refine ⟨by omega, fun k hk => ?_⟩
    have : k = 0 ∨ k = 1 ∨ k = 2 ∨ k = 3 := by omega
    rcases this with rfl | rfl | rfl | rfl
    · show ta (f + 0) = 100; omega
    · show ta (f + 1) = 117; omega
    · show ta (f + 2) = 97; omega
    · show ta (f + 3) = 108; omega
  · rintro ⟨h, hk⟩
    have k0 : ta (f + 0) = 100 := hk 0 (by decide)
    have k1 : ta (f + 1) = 117 := hk 1 (by decide)
    have k2 : ta (f + 2) = 97 := hk 2 (by decide)
    have k3 : ta (f + 3) = 108 := hk 3 (by decide)
    omega
theorem wd_4 {ta : Nat → Int} {p f : Nat} : (p ≤ f + 6 ∧ wdl ta p f 0 122 ∧ wdl ta p f 1 101 ∧ wdl ta p f 2 114 ∧ wdl ta p f 3 111 ∧ wdl ta p f 4 0 ∧ wdl ta p f 5 0) ↔ spl WB4 4 ta f p := by
  unfold wdl spl
  constructor
  · rintro ⟨h, h0, h1, h2, h3, h4, h5⟩
    refine ⟨by omega, fun k hk => ?_⟩
    have : k = 0 ∨ k = 1 ∨ k = 2 ∨ k = 3 := by omega
    rcases this with rfl | rfl | rfl | rfl
    · show ta (f + 0) = 122; omega
    · show ta (f + 1) = 101; omega
    · show ta (f + 2) = 114; omega
    · show ta (f + 3) = 111; omega
  · rintro ⟨h, hk⟩
    have k0 : ta (f + 0) = 122 := hk 0 (by decide)
    have k1 : ta (f + 1) = 101 := hk 1 (by decide)
    have k2 : ta (f + 2) = 114 := hk 2 (by decide)
    have k3 : ta (f + 3) = 111 := hk 3 (by decide)
    omega
theorem wd_5 {ta : Nat → Int} {p f : Nat} : (p ≤ f + 6 ∧ wdl ta p f 0 115 ∧ wdl ta p f 1 119 ∧ wdl ta p f 2 97 ∧ wdl ta p f 3 112 ∧ wdl ta p f 4 0 ∧ wdl ta p f 5 0) ↔ spl WB5 4 ta f p := by
  unfold wdl spl
  constructor
  · rintro ⟨h, h0, h1, h2, h3, h4, h5⟩
    refine ⟨by omega, fun k hk => ?_⟩
    have : k = 0 ∨ k = 1 ∨ k = 2 ∨ k = 3 := by omega
    rcases this with rfl | rfl | rfl | rfl
    · show ta (f + 0) = 115; omega
    · show ta (f + 1) = 119; omega
    · show ta (f + 2) = 97; omega
    · show ta (f + 3) = 112; omega
  · rintro ⟨h, hk⟩
    have k0 : ta (f + 0) = 115 := hk 0 (by decide)
    have k1 : ta (f + 1) = 119 := hk 1 (by decide)
    have k2 : ta (f + 2) = 97 := hk 2 (by decide)
    have k3 : ta (f + 3) = 112 := hk 3 (by decide)
    omega
theorem m_sort {d N S n : Nat} {kp fa dm ce di be od sm le sc ba bb ti rk ts tm pa wa : Int} {h : Nat → Option rr_E}  {tl p : Nat} {ta : Nat → Int} (htl : tl ≤ 100) (hp : p ≤ tl) (ht : ∀ p, p < tl → 1 ≤ ta p ∧ ta p ≤ 127) (c58 : h 58 = some (MO (n : Int) kp (tl : Int) (p : Int) 0 fa dm ce di be od sm le sc ba bb ti rk ts tm pa wa)) (c61 : h 61 = some (.inl (0, 100, .inl (fun k => ii (ta k))))) : rr_Calls (d + 3) j_Model_sort [.ref 58] (N, S, h) (fun r R => (kd ta p (plN ta tl p) ≠ -1 ∧ r = some (.int (ii (kd ta p (plN ta tl p)))) ∧ ∃ h', R = (N, S, h') ∧ fr [58] h h' ∧ h' 58 = some (MO (n : Int) kp (tl : Int) ((plN ta tl p : Nat) : Int) 0 fa dm ce di be od sm le sc ba bb ti rk ts tm pa wa)) ∨ (kd ta p (plN ta tl p) = -1 ∧ r = some (.int (ii 0)) ∧ ∃ h', R = (N, S, h') ∧ fr [58] h h' ∧ h' 58 = some (MO (n : Int) kp (tl : Int) ((plN ta tl p : Nat) : Int) 1 (p : Int) dm ce di be od sm le sc ba bb ti rk ts tm pa wa))) := by
  refine rr_meth (C := K_Model_sort) (hd := h_Model_sort) (mx := 2) rfl rfl (fun K hK => ?_)
  refine hK _ _ _ _ ?_
  refine s_aload_n rfl (cn rfl) rfl ?_
  refine s_virt rfl (cn rfl) rfl rfl c58 rfl (m_letters htl hp ht c58 c61) ?_
  rintro _ _ ⟨rfl, h1, rfl, hf1, c58⟩
  have c61 := (hf1 61 (by decide)).trans c61
  obtain ⟨pl1, pl2, pl3, pl4⟩ := pl_s (tp := ta) hp
  refine s_istore_n rfl (cn rfl) ?_
  refine s_aload_n rfl (cn rfl) rfl ?_
  refine s_iload_n rfl (cn rfl) rfl ?_
  refine s_bipush rfl (cn rfl) (by decide) ?_
  refine s_bipush rfl (cn rfl) (by decide) ?_
  refine s_bipush rfl (cn rfl) (by decide) ?_
  refine s_bipush rfl (cn rfl) (by decide) ?_
  refine s_bipush rfl (cn rfl) (by decide) ?_
  refine s_bipush rfl (cn rfl) (by decide) ?_
  refine s_virt rfl (cn rfl) rfl rfl c58 rfl (m_isWord htl pl2 ht c58 c61 pl1 (by decide)) ?_
  rintro _ _ ⟨rfl, rfl⟩
  refine s_ifb_eq rfl (cn rfl) (cn rfl) (fun q12 => ?_) (fun q12 => ?_)
  · refine s_aload_n rfl (cn rfl) rfl ?_
    refine s_iload_n rfl (cn rfl) rfl ?_
    refine s_bipush rfl (cn rfl) (by decide) ?_
    refine s_bipush rfl (cn rfl) (by decide) ?_
    refine s_bipush rfl (cn rfl) (by decide) ?_
    refine s_bipush rfl (cn rfl) (by decide) ?_
    refine s_bipush rfl (cn rfl) (by decide) ?_
    refine s_iconst rfl (cn rfl) ?_
    refine s_virt rfl (cn rfl) rfl rfl c58 rfl (m_isWord htl pl2 ht c58 c61 pl1 (by decide)) ?_
    rintro _ _ ⟨rfl, rfl⟩
    refine s_ifb_eq rfl (cn rfl) (cn rfl) (fun q24 => ?_) (fun q24 => ?_)
    · refine s_aload_n rfl (cn rfl) rfl ?_
      refine s_iload_n rfl (cn rfl) rfl ?_
      refine s_bipush rfl (cn rfl) (by decide) ?_
      refine s_bipush rfl (cn rfl) (by decide) ?_
      refine s_bipush rfl (cn rfl) (by decide) ?_
      refine s_bipush rfl (cn rfl) (by decide) ?_
      refine s_iconst rfl (cn rfl) ?_
      refine s_iconst rfl (cn rfl) ?_
      refine s_virt rfl (cn rfl) rfl rfl c58 rfl (m_isWord htl pl2 ht c58 c61 pl1 (by decide)) ?_
      rintro _ _ ⟨rfl, rfl⟩
      refine s_ifb_eq rfl (cn rfl) (cn rfl) (fun q36 => ?_) (fun q36 => ?_)
      · refine s_aload_n rfl (cn rfl) rfl ?_
        refine s_iload_n rfl (cn rfl) rfl ?_
        refine s_bipush rfl (cn rfl) (by decide) ?_
        refine s_bipush rfl (cn rfl) (by decide) ?_
        refine s_bipush rfl (cn rfl) (by decide) ?_
        refine s_bipush rfl (cn rfl) (by decide) ?_
        refine s_iconst rfl (cn rfl) ?_
        refine s_iconst rfl (cn rfl) ?_
        refine s_virt rfl (cn rfl) rfl rfl c58 rfl (m_isWord htl pl2 ht c58 c61 pl1 (by decide)) ?_
        rintro _ _ ⟨rfl, rfl⟩
        refine s_ifb_eq rfl (cn rfl) (cn rfl) (fun q48 => ?_) (fun q48 => ?_)
        · refine s_aload_n rfl (cn rfl) rfl ?_
          refine s_iload_n rfl (cn rfl) rfl ?_
          refine s_bipush rfl (cn rfl) (by decide) ?_
          refine s_bipush rfl (cn rfl) (by decide) ?_
          refine s_bipush rfl (cn rfl) (by decide) ?_
          refine s_bipush rfl (cn rfl) (by decide) ?_
          refine s_iconst rfl (cn rfl) ?_
          refine s_iconst rfl (cn rfl) ?_
          refine s_virt rfl (cn rfl) rfl rfl c58 rfl (m_isWord htl pl2 ht c58 c61 pl1 (by decide)) ?_
          rintro _ _ ⟨rfl, rfl⟩
          refine s_ifb_eq rfl (cn rfl) (cn rfl) (fun q60 => ?_) (fun q60 => ?_)
          · refine s_aload_n rfl (cn rfl) rfl ?_
            refine s_iload_n rfl (cn rfl) rfl ?_
            refine s_bipush rfl (cn rfl) (by decide) ?_
            refine s_bipush rfl (cn rfl) (by decide) ?_
            refine s_bipush rfl (cn rfl) (by decide) ?_
            refine s_bipush rfl (cn rfl) (by decide) ?_
            refine s_iconst rfl (cn rfl) ?_
            refine s_iconst rfl (cn rfl) ?_
            refine s_virt rfl (cn rfl) rfl rfl c58 rfl (m_isWord htl pl2 ht c58 c61 pl1 (by decide)) ?_
            rintro _ _ ⟨rfl, rfl⟩
            refine s_ifb_eq rfl (cn rfl) (cn rfl) (fun q72 => ?_) (fun q72 => ?_)
            · refine s_aload_n rfl (cn rfl) rfl ?_
              refine s_iload_n rfl (cn rfl) rfl ?_
              refine s_virt rfl (cn rfl) rfl rfl c58 rfl (m_wrong c58) ?_
              rintro _ _ ⟨rfl, h9, rfl, hf9, d58⟩
              refine s_iconst rfl (cn rfl) ?_
              refine s_ireturn rfl ?_
              have ek : kd ta p (plN ta tl p) = -1 := by unfold kd; rw [ci_n (fun q => q12 (wd_0.mpr q)), ci_n (fun q => q24 (wd_1.mpr q)), ci_n (fun q => q36 (wd_2.mpr q)), ci_n (fun q => q48 (wd_3.mpr q)), ci_n (fun q => q60 (wd_4.mpr q)), ci_n (fun q => q72 (wd_5.mpr q))]
              exact Or.inr ⟨ek, rfl, h9, rfl, fr_t hf1 hf9 (by decide), d58⟩
            · refine s_iconst rfl (cn rfl) ?_
              refine s_ireturn rfl ?_
              have ek : kd ta p (plN ta tl p) = 5 := by unfold kd; rw [ci_n (fun q => q12 (wd_0.mpr q)), ci_n (fun q => q24 (wd_1.mpr q)), ci_n (fun q => q36 (wd_2.mpr q)), ci_n (fun q => q48 (wd_3.mpr q)), ci_n (fun q => q60 (wd_4.mpr q)), ci_y (wd_5.mp q72)]
              exact Or.inl ⟨by omega, ri ek.symm, h1, rfl, hf1, c58⟩
          · refine s_iconst rfl (cn rfl) ?_
            refine s_ireturn rfl ?_
            have ek : kd ta p (plN ta tl p) = 4 := by unfold kd; rw [ci_n (fun q => q12 (wd_0.mpr q)), ci_n (fun q => q24 (wd_1.mpr q)), ci_n (fun q => q36 (wd_2.mpr q)), ci_n (fun q => q48 (wd_3.mpr q)), ci_y (wd_4.mp q60)]
            exact Or.inl ⟨by omega, ri ek.symm, h1, rfl, hf1, c58⟩
        · refine s_iconst rfl (cn rfl) ?_
          refine s_ireturn rfl ?_
          have ek : kd ta p (plN ta tl p) = 3 := by unfold kd; rw [ci_n (fun q => q12 (wd_0.mpr q)), ci_n (fun q => q24 (wd_1.mpr q)), ci_n (fun q => q36 (wd_2.mpr q)), ci_y (wd_3.mp q48)]
          exact Or.inl ⟨by omega, ri ek.symm, h1, rfl, hf1, c58⟩
      · refine s_iconst rfl (cn rfl) ?_
        refine s_ireturn rfl ?_
        have ek : kd ta p (plN ta tl p) = 2 := by unfold kd; rw [ci_n (fun q => q12 (wd_0.mpr q)), ci_n (fun q => q24 (wd_1.mpr q)), ci_y (wd_2.mp q36)]
        exact Or.inl ⟨by omega, ri ek.symm, h1, rfl, hf1, c58⟩
    · refine s_iconst rfl (cn rfl) ?_
      refine s_ireturn rfl ?_
      have ek : kd ta p (plN ta tl p) = 1 := by unfold kd; rw [ci_n (fun q => q12 (wd_0.mpr q)), ci_y (wd_1.mp q24)]
      exact Or.inl ⟨by omega, ri ek.symm, h1, rfl, hf1, c58⟩
  · refine s_iconst rfl (cn rfl) ?_
    refine s_ireturn rfl ?_
    have ek : kd ta p (plN ta tl p) = 0 := by unfold kd; rw [ci_y (wd_0.mp q12)]
    exact Or.inl ⟨by omega, ri ek.symm, h1, rfl, hf1, c58⟩
theorem m_blank0 {d N S n : Nat} {kp fa dm ce di be od sm le sc ba bb ti rk ts tm pa wa : Int} {h : Nat → Option rr_E}  {tl p : Nat} {ta : Nat → Int} (htl : tl ≤ 100) (hp : p ≤ tl) (ht : ∀ p, p < tl → 1 ≤ ta p ∧ ta p ≤ 127) (c58 : h 58 = some (MO (n : Int) kp (tl : Int) (p : Int) 0 fa dm ce di be od sm le sc ba bb ti rk ts tm pa wa)) (c61 : h 61 = some (.inl (0, 100, .inl (fun k => ii (ta k))))) : rr_Calls (d + 2) j_Model_blank [.ref 58] (N, S, h) (fun r R => r = none ∧ ((rB ta tl p = .inr (p + 1) ∧ p + 1 ≤ tl ∧ ∃ h', R = (N, S, h') ∧ fr [58] h h' ∧ h' 58 = some (MO (n : Int) kp (tl : Int) ((p + 1 : Nat) : Int) 0 fa dm ce di be od sm le sc ba bb ti rk ts tm pa wa)) ∨ (rB ta tl p = .inl p ∧ ∃ h', R = (N, S, h') ∧ fr [58] h h' ∧ h' 58 = some (MO (n : Int) kp (tl : Int) (p : Int) 1 (p : Int) dm ce di be od sm le sc ba bb ti rk ts tm pa wa)))) := by
  refine rr_meth (C := K_Model_blank) (hd := h_Model_blank) (mx := 1) rfl rfl (fun K hK => ?_)
  have hb := hr_b ht p
  refine hK _ _ _ _ ?_
  refine s_aload_n rfl (cn rfl) rfl ?_
  refine s_getfield rfl (cn rfl) c58 rfl ?_
  refine s_if_eq rfl (cn rfl) (cn rfl) ⟨by omega, by omega⟩ (fun q2 => ?_) (fun q2 => ?_)
  · refine s_aload_n rfl (cn rfl) rfl ?_
    refine s_virt rfl (cn rfl) rfl rfl c58 rfl (m_here htl hp ht c58 c61) ?_
    rintro _ _ ⟨rfl, rfl⟩
    refine s_bipush rfl (cn rfl) (by decide) ?_
    refine s_icmp_eq rfl (cn rfl) (cn rfl) ⟨by omega, by omega⟩ ⟨by omega, by omega⟩ (fun q7 => ?_) (fun q7 => ?_)
    · refine s_aload_n rfl (cn rfl) rfl ?_
      refine s_dupr rfl (cn rfl) ?_
      refine s_getfield rfl (cn rfl) c58 rfl ?_
      refine s_iconst rfl (cn rfl) ?_
      refine s_iadd rfl (cn rfl) ?_
      refine s_puti rfl (cn rfl) rfl c58 rfl ?_
      refine s_return rfl ?_
      exact ⟨rfl, Or.inl ⟨if_pos q7, (hr_in (tp := ta) (tl := tl) (p := p) (by omega)).1, _, rfl, fr_s (by decide) fr_r, rr_set_eq⟩⟩
    · refine s_aload_n rfl (cn rfl) rfl ?_
      refine s_aload_n rfl (cn rfl) rfl ?_
      refine s_getfield rfl (cn rfl) c58 rfl ?_
      refine s_virt rfl (cn rfl) rfl rfl c58 rfl (m_wrong c58) ?_
      rintro _ _ ⟨rfl, h9, rfl, hf9, d58⟩
      refine s_return rfl ?_
      exact ⟨rfl, Or.inr ⟨if_neg q7, h9, rfl, hf9, d58⟩⟩
  · exact absurd rfl q2
theorem m_blank1 {d N S n : Nat} {kp tp pt fa dm ce di be od sm le sc ba bb ti rk ts tm pa wa : Int} {h : Nat → Option rr_E} (c58 : h 58 = some (MO (n : Int) kp tp pt 1 fa dm ce di be od sm le sc ba bb ti rk ts tm pa wa)) : rr_Calls (d + 2) j_Model_blank [.ref 58] (N, S, h) (fun r R => r = none ∧ R = (N, S, h)) := by
  refine rr_meth (C := K_Model_blank) (hd := h_Model_blank) (mx := 1) rfl rfl (fun K hK => ?_)
  refine hK _ _ _ _ ?_
  refine s_aload_n rfl (cn rfl) rfl ?_
  refine s_getfield rfl (cn rfl) c58 rfl ?_
  refine s_if_eq rfl (cn rfl) (cn rfl) ⟨by omega, by omega⟩ (fun q2 => ?_) (fun q2 => ?_)
  · exact absurd q2 (by decide)
  · refine s_return rfl ?_
    exact ⟨rfl, rfl⟩
theorem m_number1 {d N S n : Nat} {kp tp pt fa dm ce di be od sm le sc ba bb ti rk ts tm pa wa : Int} {h : Nat → Option rr_E} (c58 : h 58 = some (MO (n : Int) kp tp pt 1 fa dm ce di be od sm le sc ba bb ti rk ts tm pa wa)) : rr_Calls (d + 3) j_Model_number [.ref 58] (N, S, h) (fun r R => r = some (.int (ii 0)) ∧ R = (N, S, h)) := by
  refine rr_meth (C := K_Model_number) (hd := h_Model_number) (mx := 4) rfl rfl (fun K hK => ?_)
  refine hK _ _ _ _ ?_
  refine s_aload_n rfl (cn rfl) rfl ?_
  refine s_virt rfl (cn rfl) rfl rfl c58 rfl (m_blank1 c58) ?_
  rintro _ _ ⟨rfl, rfl⟩
  refine s_aload_n rfl (cn rfl) rfl ?_
  refine s_getfield rfl (cn rfl) c58 rfl ?_
  refine s_if_eq rfl (cn rfl) (cn rfl) ⟨by omega, by omega⟩ (fun q4 => ?_) (fun q4 => ?_)
  · exact absurd q4 (by decide)
  · refine s_iconst rfl (cn rfl) ?_
    refine s_ireturn rfl ?_
    exact ⟨rfl, rfl⟩
theorem m_group1 {d N S n : Nat} {kp tp pt fa dm ce di be od sm le sc ba bb ti rk ts tm pa wa : Int} {h : Nat → Option rr_E} (c58 : h 58 = some (MO (n : Int) kp tp pt 1 fa dm ce di be od sm le sc ba bb ti rk ts tm pa wa)) : rr_Calls (d + 3) j_Model_group [.ref 58] (N, S, h) (fun r R => r = some (.int (ii 0)) ∧ R = (N, S, h)) := by
  refine rr_meth (C := K_Model_group) (hd := h_Model_group) (mx := 5) rfl rfl (fun K hK => ?_)
  refine hK _ _ _ _ ?_
  refine s_aload_n rfl (cn rfl) rfl ?_
  refine s_virt rfl (cn rfl) rfl rfl c58 rfl (m_blank1 c58) ?_
  rintro _ _ ⟨rfl, rfl⟩
  refine s_aload_n rfl (cn rfl) rfl ?_
  refine s_getfield rfl (cn rfl) c58 rfl ?_
  refine s_if_eq rfl (cn rfl) (cn rfl) ⟨by omega, by omega⟩ (fun q4 => ?_) (fun q4 => ?_)
  · exact absurd q4 (by decide)
  · refine s_iconst rfl (cn rfl) ?_
    refine s_ireturn rfl ?_
    exact ⟨rfl, rfl⟩
theorem m_person1 {d N S n : Nat} {kp tp pt fa dm ce di be od sm le sc ba bb ti rk ts tm pa wa : Int} {h : Nat → Option rr_E} (c58 : h 58 = some (MO (n : Int) kp tp pt 1 fa dm ce di be od sm le sc ba bb ti rk ts tm pa wa)) : rr_Calls (d + 3) j_Model_person [.ref 58] (N, S, h) (fun r R => r = some (.int (ii 0)) ∧ R = (N, S, h)) := by
  refine rr_meth (C := K_Model_person) (hd := h_Model_person) (mx := 2) rfl rfl (fun K hK => ?_)
  refine hK _ _ _ _ ?_
  refine s_aload_n rfl (cn rfl) rfl ?_
  refine s_virt rfl (cn rfl) rfl rfl c58 rfl (m_blank1 c58) ?_
  rintro _ _ ⟨rfl, rfl⟩
  refine s_aload_n rfl (cn rfl) rfl ?_
  refine s_getfield rfl (cn rfl) c58 rfl ?_
  refine s_if_eq rfl (cn rfl) (cn rfl) ⟨by omega, by omega⟩ (fun q4 => ?_) (fun q4 => ?_)
  · exact absurd q4 (by decide)
  · refine s_iconst rfl (cn rfl) ?_
    refine s_ireturn rfl ?_
    exact ⟨rfl, rfl⟩
