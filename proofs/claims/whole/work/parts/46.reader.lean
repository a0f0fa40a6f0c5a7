/-! The class's reader: its parts. -/
theorem u_pass {d N S : Nat} {h : Nat → Option rr_E} {tl : Nat} {sc sf sv : Int} {tp : Nat → Int} {p : Nat} (htl : tl ≤ 100) (hp : p ≤ tl) (ht : ∀ p, p < tl → 1 ≤ tp p ∧ tp p ≤ 127) (c7 : h 7 = some (SC (tl : Int) sc (p : Int) sf sv)) (c8 : h 8 = some (.inl (0, 100, .inl (fun k => ii (tp k))))) : rr_Calls (d + 2) j_Script_passLetters [.ref 7] (N, S, h) (fun r R => r = none ∧ ∃ h', R = (N, S, h') ∧ fr [7] h h' ∧ h' 7 = some (SC (tl : Int) sc ((plN tp tl p : Nat) : Int) sf sv)) := by
  refine rr_meth (C := K_Script_passLetters) (hd := h_Script_passLetters) (mx := 2) rfl rfl (fun K hK => ?_)
  refine hK _ _ _ _ ?_
  refine s_iconst rfl (cn rfl) ?_
  refine s_istore_n rfl (ch rfl) ?_
  have lp2 : ∀ u : Nat, u ≤ 100 → ∀ (h' : Nat → Option rr_E) (c7 : h' 7 = some (SC (tl : Int) sc ((p + u : Nat) : Int) sf sv)) (hf : fr [7] h h') (hl : p + u ≤ tl) (ha : ∀ j, p ≤ j → j < p + u → isL tp tl j), K 2 [some (.ref 7), some (.int (ii (u : Int)))] [] (N, S, h') := by
    refine dn (fun u hu ih2 => ?_)
    intro h' c7 hf hl ha
    have c8 := (hf 8 (by decide)).trans c8
    have hb := hr_b ht (p + u)
    refine hK _ _ _ _ ?_
    refine s_iload_n rfl (cn rfl) rfl ?_
    refine s_bipush rfl (cn rfl) (by decide) ?_
    refine s_icmp_ge rfl (cn rfl) (cn rfl) ⟨by omega, by omega⟩ ⟨by omega, by omega⟩ (fun q4 => ?_) (fun q4 => ?_)
    · refine s_return rfl ?_
      have e : plN tp tl p = p + u := pl_e (by omega) hl ha (fun q => by
        have q1 := q.1
        have q2 := q.2
        first
          | omega
          | (have := (isL_lt q).1; omega))
      rw [e]
      exact ⟨rfl, h', rfl, hf, c7⟩
    · refine s_aload_n rfl (cn rfl) rfl ?_
      refine s_virt rfl (cn rfl) rfl rfl c7 rfl (u_here htl hl ht c7 c8) ?_
      rintro _ _ ⟨rfl, rfl⟩
      refine s_bipush rfl (cn rfl) (by decide) ?_
      refine s_icmp_lt rfl (cn rfl) (cn rfl) ⟨by omega, by omega⟩ ⟨by omega, by omega⟩ (fun q8 => ?_) (fun q8 => ?_)
      · refine s_return rfl ?_
        have e : plN tp tl p = p + u := pl_e (by omega) hl ha (fun q => by
          have q1 := q.1
          have q2 := q.2
          first
            | omega
            | (have := (isL_lt q).1; omega))
        rw [e]
        exact ⟨rfl, h', rfl, hf, c7⟩
      · refine s_aload_n rfl (cn rfl) rfl ?_
        refine s_virt rfl (cn rfl) rfl rfl c7 rfl (u_here htl hl ht c7 c8) ?_
        rintro _ _ ⟨rfl, rfl⟩
        refine s_bipush rfl (cn rfl) (by decide) ?_
        refine s_icmp_gt rfl (cn rfl) (cn rfl) ⟨by omega, by omega⟩ ⟨by omega, by omega⟩ (fun q12 => ?_) (fun q12 => ?_)
        · refine s_return rfl ?_
          have e : plN tp tl p = p + u := pl_e (by omega) hl ha (fun q => by
            have q1 := q.1
            have q2 := q.2
            first
              | omega
              | (have := (isL_lt q).1; omega))
          rw [e]
          exact ⟨rfl, h', rfl, hf, c7⟩
        · refine s_aload_n rfl (cn rfl) rfl ?_
          refine s_dupr rfl (cn rfl) ?_
          refine s_getfield rfl (cn rfl) c7 rfl ?_
          refine s_iconst rfl (cn rfl) ?_
          refine s_iadd rfl (cn rfl) ?_
          refine s_puti rfl (cn rfl) rfl c7 rfl ?_
          refine s_iinc rfl (cn rfl) rfl ?_
          refine s_goto rfl (ch rfl) ?_
          exact ih2 (by omega) _ rr_set_eq (fr_s (by decide) hf) ((isL_lt (tp := tp) ⟨q8, q12⟩).1) (fun j j1 j2 => by
              by_cases e : j = p + u
              · subst e; exact ⟨q8, q12⟩
              · exact ha j j1 (by omega))
  exact lp2 0 (by omega) _ c7 fr_r hp (fun j q1 q2 => absurd q2 (by omega))
theorem u_bitOf {d N S : Nat} {h : Nat → Option rr_E} {c : Int} (hc : 1 ≤ c ∧ c ≤ 127) : rr_Calls (d + 1) j_Script_bitOf [.int (ii c)] (N, S, h) (fun r R => r = some (.int (ii ((bO c : Nat) : Int))) ∧ R = (N, S, h)) := by
  refine rr_meth (C := K_Script_bitOf) (hd := h_Script_bitOf) (mx := 1) rfl rfl (fun K hK => ?_)
  refine hK _ _ _ _ ?_
  refine s_iload_n rfl (cn rfl) rfl ?_
  refine s_bipush rfl (cn rfl) (by decide) ?_
  refine s_icmp_lt rfl (cn rfl) (cn rfl) ⟨by omega, by omega⟩ ⟨by omega, by omega⟩ (fun q2 => ?_) (fun q2 => ?_)
  · refine s_iconst rfl (cn rfl) ?_
    refine s_ireturn rfl ?_
    first
      | exact ⟨ri (by unfold bO; rw [if_neg (by omega)]; rfl), rfl⟩
      | exact ⟨ri (by unfold bO; rw [if_pos (by omega), ex]; rfl), rfl⟩
  · refine s_iload_n rfl (cn rfl) rfl ?_
    refine s_bipush rfl (cn rfl) (by decide) ?_
    refine s_icmp_gt rfl (cn rfl) (cn rfl) ⟨by omega, by omega⟩ ⟨by omega, by omega⟩ (fun q5 => ?_) (fun q5 => ?_)
    · refine s_iconst rfl (cn rfl) ?_
      refine s_ireturn rfl ?_
      first
        | exact ⟨ri (by unfold bO; rw [if_neg (by omega)]; rfl), rfl⟩
        | exact ⟨ri (by unfold bO; rw [if_pos (by omega), ex]; rfl), rfl⟩
    · obtain ⟨x, ex⟩ := Int.eq_ofNat_of_zero_le (show 0 ≤ c - 97 by omega)
      refine s_iconst rfl (cn rfl) ?_
      refine s_iload_n rfl (cn rfl) rfl ?_
      refine s_bipush rfl (cn rfl) (by decide) ?_
      refine s_isub rfl (cn rfl) ?_
      refine s_ishl rfl (cn rfl) _ (by rw [ex]; exact bi_shl1 (by omega)) ?_
      refine s_goto rfl (cn rfl) ?_
      refine s_ireturn rfl ?_
      first
        | exact ⟨ri (by unfold bO; rw [if_neg (by omega)]; rfl), rfl⟩
        | exact ⟨ri (by unfold bO; rw [if_pos (by omega), ex]; rfl), rfl⟩
theorem u_keep_10 {d N S : Nat} {h : Nat → Option rr_E} {tl sc : Nat} {sp sf sv : Int} {w : Nat → Int} (hsc : sc < 25) (c7 : h 7 = some (SC (tl : Int) (sc : Int) sp sf sv)) (c10 : h 10 = some (.inl (0, 25, .inl (fun k => ii (w k))))) : rr_Calls (d + 1) j_Script_keepIn [.ref 7, .ref 10] (N, S, h) (fun r R => r = some (.int (ii 1)) ∧ ∃ h', R = (N, S, h') ∧ fr [10] h h' ∧ h' 10 = some (.inl (0, 25, .inl (fun k => ii (fu w sc sv k))))) := by
  refine rr_meth (C := K_Script_keepIn) (hd := h_Script_keepIn) (mx := 2) rfl rfl (fun K hK => ?_)
  refine hK _ _ _ _ ?_
  refine s_aload_n rfl (cn rfl) rfl ?_
  refine s_aload_n rfl (cn rfl) rfl ?_
  refine s_getfield rfl (cn rfl) c7 rfl ?_
  refine s_aload_n rfl (cn rfl) rfl ?_
  refine s_getfield rfl (cn rfl) c7 rfl ?_
  refine s_iastore rfl (cn rfl) _ rfl c10 (by omega) (by decide) ?_
  refine s_iconst rfl (cn rfl) ?_
  refine s_zreturn rfl (Or.inr rfl) ?_
  exact ⟨rfl, _, rfl, fr_s (by decide) fr_r, rr_set_eq⟩
theorem u_keep_11 {d N S : Nat} {h : Nat → Option rr_E} {tl sc : Nat} {sp sf sv : Int} {w : Nat → Int} (hsc : sc < 25) (c7 : h 7 = some (SC (tl : Int) (sc : Int) sp sf sv)) (c11 : h 11 = some (.inl (0, 25, .inl (fun k => ii (w k))))) : rr_Calls (d + 1) j_Script_keepIn [.ref 7, .ref 11] (N, S, h) (fun r R => r = some (.int (ii 1)) ∧ ∃ h', R = (N, S, h') ∧ fr [11] h h' ∧ h' 11 = some (.inl (0, 25, .inl (fun k => ii (fu w sc sv k))))) := by
  refine rr_meth (C := K_Script_keepIn) (hd := h_Script_keepIn) (mx := 2) rfl rfl (fun K hK => ?_)
  refine hK _ _ _ _ ?_
  refine s_aload_n rfl (cn rfl) rfl ?_
  refine s_aload_n rfl (cn rfl) rfl ?_
  refine s_getfield rfl (cn rfl) c7 rfl ?_
  refine s_aload_n rfl (cn rfl) rfl ?_
  refine s_getfield rfl (cn rfl) c7 rfl ?_
  refine s_iastore rfl (cn rfl) _ rfl c11 (by omega) (by decide) ?_
  refine s_iconst rfl (cn rfl) ?_
  refine s_zreturn rfl (Or.inr rfl) ?_
  exact ⟨rfl, _, rfl, fr_s (by decide) fr_r, rr_set_eq⟩
theorem u_number {d N S : Nat} {h : Nat → Option rr_E} {tl : Nat} {sc sf sv : Int} {tp : Nat → Int} {p : Nat} (htl : tl ≤ 100) (hp : p ≤ tl) (ht : ∀ p, p < tl → 1 ≤ tp p ∧ tp p ≤ 127) (c7 : h 7 = some (SC (tl : Int) sc (p : Int) sf sv)) (c8 : h 8 = some (.inl (0, 100, .inl (fun k => ii (tp k))))) : rr_Calls (d + 3) j_Script_readNumber [.ref 7] (N, S, h) (fun r R => (∃ (q : Nat) (x : Int), rN tp tl p = .inr (q, x) ∧ r = some (.int (ii 1)) ∧ ∃ h', R = (N, S, h') ∧ fr [7] h h' ∧ h' 7 = some (SC (tl : Int) sc (q : Int) sf x)) ∨ (∃ (f : Nat) (sp : Int), rN tp tl p = .inl f ∧ r = some (.int (ii 0)) ∧ ∃ h', R = (N, S, h') ∧ fr [7] h h' ∧ h' 7 = some (SC (tl : Int) sc sp (f : Int) sv))) := by
  refine rr_meth (C := K_Script_readNumber) (hd := h_Script_readNumber) (mx := 4) rfl rfl (fun K hK => ?_)
  have hb := hr_b ht p
  refine hK _ _ _ _ ?_
  refine s_aload_n rfl (cn rfl) rfl ?_
  refine s_virt rfl (cn rfl) rfl rfl c7 rfl (u_here htl hp ht c7 c8) ?_
  rintro _ _ ⟨rfl, rfl⟩
  refine s_bipush rfl (cn rfl) (by decide) ?_
  refine s_icmp_ne rfl (cn rfl) (cn rfl) ⟨by omega, by omega⟩ ⟨by omega, by omega⟩ (fun q3 => ?_) (fun q3 => ?_)
  · refine s_iconst rfl (cn rfl) ?_
    refine s_istore_n rfl (cn rfl) ?_
    refine s_iload_n rfl (cn rfl) rfl ?_
    refine s_if_eq rfl (cn rfl) (cn rfl) (by decide) (fun q9 => ?_) (fun q9 => absurd q9 (by decide))
    have es : rNs tp tl p = p := if_neg q3
    refine s_aload_n rfl (cn rfl) rfl ?_
    refine s_virt rfl (cn rfl) rfl rfl c7 rfl (u_fig htl hp ht c7 c8) ?_
    rintro _ _ ⟨rfl, rfl⟩
    refine s_ifb_ne rfl (cn rfl) (cn rfl) (fun q18 => ?_) (fun q18 => ?_)
    · refine s_iconst rfl (cn rfl) ?_
      refine s_istore_n rfl (cn rfl) ?_
      refine s_iconst rfl (cn rfl) ?_
      refine s_istore_n rfl (ch rfl) ?_
      have lp28 : ∀ k : Nat, k ≤ 3 → ∀ (h' : Nat → Option rr_E) (q : Nat) (x : Int) (hq : q ≤ tl) (c7 : h' 7 = some (SC (tl : Int) sc (q : Int) sf sv)) (hf : fr [7] h h') (hx : rf tp tl 3 (rNs tp tl p) 0 = rf tp tl (3 - k) q x) (hb : 0 ≤ x ∧ x ≤ 999 ∧ (k = 0 → x = 0) ∧ (k = 1 → x ≤ 9) ∧ (k = 2 → x ≤ 99)), K 28 [some (.ref 7), some (.int (ii 0)), some (.int (ii x)), some (.int (ii (k : Int)))] [] (N, S, h') := by
        refine dn (fun k hk ih28 => ?_)
        intro h' q x hq c7 hf hx hb
        have c8 := (hf 8 (by decide)).trans c8
        have hb2 := hr_b ht q
        refine hK _ _ _ _ ?_
        refine s_iload_n rfl (cn rfl) rfl ?_
        refine s_iconst rfl (cn rfl) ?_
        refine s_icmp_ge rfl (cn rfl) (cn rfl) ⟨by omega, by omega⟩ ⟨by omega, by omega⟩ (fun q30 => ?_) (fun q30 => ?_)
        · refine s_aload_n rfl (cn rfl) rfl ?_
          refine s_iload_n rfl (cn rfl) rfl ?_
          refine s_if_eq rfl (cn rfl) (cn rfl) (by decide) (fun q53 => ?_) (fun q53 => absurd q53 (by decide))
          refine s_iload_n rfl (cn rfl) rfl ?_
          refine s_puti rfl (cn rfl) rfl c7 rfl ?_
          refine s_iconst rfl (cn rfl) ?_
          refine s_zreturn rfl (Or.inr rfl) ?_
          have e1 : rf tp tl 3 (rNs tp tl p) 0 = (q, x) := by
            rw [hx]
            first
              | (rw [show 3 - k = 0 by omega]; rfl)
              | (rw [show 3 - k = (2 - k) + 1 by omega]; exact if_neg q33)
          have e2 : rN tp tl p = .inr (q, if hr tp tl p = 45 then -x else x) := by
            unfold rN
            rw [if_pos (by rw [es]; exact q18), e1]
          first
            | (rw [if_pos q3] at e2; exact Or.inl ⟨q, -x, e2, rfl, _, rfl, fr_s (by decide) hf, rr_set_eq⟩)
            | (rw [if_neg q3] at e2; exact Or.inl ⟨q, x, e2, rfl, _, rfl, fr_s (by decide) hf, rr_set_eq⟩)
        · refine s_aload_n rfl (cn rfl) rfl ?_
          refine s_virt rfl (cn rfl) rfl rfl c7 rfl (u_fig htl hq ht c7 c8) ?_
          rintro _ _ ⟨rfl, rfl⟩
          refine s_ifb_eq rfl (cn rfl) (cn rfl) (fun q33 => ?_) (fun q33 => ?_)
          · refine s_aload_n rfl (cn rfl) rfl ?_
            refine s_iload_n rfl (cn rfl) rfl ?_
            refine s_if_eq rfl (cn rfl) (cn rfl) (by decide) (fun q53 => ?_) (fun q53 => absurd q53 (by decide))
            refine s_iload_n rfl (cn rfl) rfl ?_
            refine s_puti rfl (cn rfl) rfl c7 rfl ?_
            refine s_iconst rfl (cn rfl) ?_
            refine s_zreturn rfl (Or.inr rfl) ?_
            have e1 : rf tp tl 3 (rNs tp tl p) 0 = (q, x) := by
              rw [hx]
              first
                | (rw [show 3 - k = 0 by omega]; rfl)
                | (rw [show 3 - k = (2 - k) + 1 by omega]; exact if_neg q33)
            have e2 : rN tp tl p = .inr (q, if hr tp tl p = 45 then -x else x) := by
              unfold rN
              rw [if_pos (by rw [es]; exact q18), e1]
            first
              | (rw [if_pos q3] at e2; exact Or.inl ⟨q, -x, e2, rfl, _, rfl, fr_s (by decide) hf, rr_set_eq⟩)
              | (rw [if_neg q3] at e2; exact Or.inl ⟨q, x, e2, rfl, _, rfl, fr_s (by decide) hf, rr_set_eq⟩)
          · refine s_iload_n rfl (cn rfl) rfl ?_
            refine s_bipush rfl (cn rfl) (by decide) ?_
            refine s_imul rfl (cn rfl) ?_
            refine s_aload_n rfl (cn rfl) rfl ?_
            refine s_virt rfl (cn rfl) rfl rfl c7 rfl (u_here htl hq ht c7 c8) ?_
            rintro _ _ ⟨rfl, rfl⟩
            refine s_iadd rfl (cn rfl) ?_
            refine s_bipush rfl (cn rfl) (by decide) ?_
            refine s_isub rfl (cn rfl) ?_
            refine s_istore_n rfl (cn rfl) ?_
            refine s_aload_n rfl (cn rfl) rfl ?_
            refine s_dupr rfl (cn rfl) ?_
            refine s_getfield rfl (cn rfl) c7 rfl ?_
            refine s_iconst rfl (cn rfl) ?_
            refine s_iadd rfl (cn rfl) ?_
            refine s_puti rfl (cn rfl) rfl c7 rfl ?_
            refine s_iinc rfl (cn rfl) rfl ?_
            refine s_goto rfl (ch rfl) ?_
            exact ih28 (by omega) _ (q + 1) _ ((hr_in (tp := tp) (tl := tl) (p := q) (by omega)).1) rr_set_eq (fr_s (by decide) hf) (by rw [hx, show 3 - k = (2 - k) + 1 by omega]; show (if 48 ≤ hr tp tl q ∧ hr tp tl q ≤ 57 then _ else _) = _; rw [if_pos q33, show 2 - k = 3 - (k + 1) by omega]) (by omega)
      exact lp28 0 (by omega) _ p 0 hp c7 fr_r (by rw [es]) (by omega)
    · refine s_aload_n rfl (cn rfl) rfl ?_
      refine s_aload_n rfl (cn rfl) rfl ?_
      refine s_getfield rfl (cn rfl) c7 rfl ?_
      refine s_virt rfl (cn rfl) rfl rfl c7 rfl (u_fail c7) ?_
      rintro _ _ ⟨rfl, h9, rfl, hf9, d7⟩
      · refine s_zreturn rfl (Or.inl rfl) ?_
        refine Or.inr ⟨rNs tp tl p, ((rNs tp tl p : Nat) : Int), ?_, rfl, h9, rfl, ?_, ?_⟩
        · unfold rN; rw [es]; exact if_neg q18
        · exact fr_t (by first | exact fr_s (by decide) fr_r | exact fr_r) hf9 (by decide)
        · rw [es]; exact d7
  · refine s_iconst rfl (cn rfl) ?_
    refine s_goto rfl (cn rfl) ?_
    refine s_istore_n rfl (cn rfl) ?_
    refine s_iload_n rfl (cn rfl) rfl ?_
    refine s_if_eq rfl (cn rfl) (cn rfl) (by decide) (fun q9 => absurd q9 (by decide)) (fun q9 => ?_)
    have es : rNs tp tl p = p + 1 := if_pos q3
    have hp1 : p + 1 ≤ tl := (hr_in (tp := tp) (tl := tl) (p := p) (by omega)).1
    have hb1 := hr_b ht (p + 1)
    refine s_aload_n rfl (cn rfl) rfl ?_
    refine s_dupr rfl (cn rfl) ?_
    refine s_getfield rfl (cn rfl) c7 rfl ?_
    refine s_iconst rfl (cn rfl) ?_
    refine s_iadd rfl (cn rfl) ?_
    refine s_puti rfl (cn rfl) rfl c7 rfl ?_
    
    refine s_aload_n rfl (cn rfl) rfl ?_
    refine s_virt rfl (cn rfl) rfl rfl rr_set_eq rfl (u_fig (p := p + 1) htl hp1 ht rr_set_eq c8) ?_
    rintro _ _ ⟨rfl, rfl⟩
    refine s_ifb_ne rfl (cn rfl) (cn rfl) (fun q18 => ?_) (fun q18 => ?_)
    · refine s_iconst rfl (cn rfl) ?_
      refine s_istore_n rfl (cn rfl) ?_
      refine s_iconst rfl (cn rfl) ?_
      refine s_istore_n rfl (ch rfl) ?_
      have lp28 : ∀ k : Nat, k ≤ 3 → ∀ (h' : Nat → Option rr_E) (q : Nat) (x : Int) (hq : q ≤ tl) (c7 : h' 7 = some (SC (tl : Int) sc (q : Int) sf sv)) (hf : fr [7] h h') (hx : rf tp tl 3 (rNs tp tl p) 0 = rf tp tl (3 - k) q x) (hb : 0 ≤ x ∧ x ≤ 999 ∧ (k = 0 → x = 0) ∧ (k = 1 → x ≤ 9) ∧ (k = 2 → x ≤ 99)), K 28 [some (.ref 7), some (.int (ii 1)), some (.int (ii x)), some (.int (ii (k : Int)))] [] (N, S, h') := by
        refine dn (fun k hk ih28 => ?_)
        intro h' q x hq c7 hf hx hb
        have c8 := (hf 8 (by decide)).trans c8
        have hb2 := hr_b ht q
        refine hK _ _ _ _ ?_
        refine s_iload_n rfl (cn rfl) rfl ?_
        refine s_iconst rfl (cn rfl) ?_
        refine s_icmp_ge rfl (cn rfl) (cn rfl) ⟨by omega, by omega⟩ ⟨by omega, by omega⟩ (fun q30 => ?_) (fun q30 => ?_)
        · refine s_aload_n rfl (cn rfl) rfl ?_
          refine s_iload_n rfl (cn rfl) rfl ?_
          refine s_if_eq rfl (cn rfl) (cn rfl) (by decide) (fun q53 => absurd q53 (by decide)) (fun q53 => ?_)
          refine s_iload_n rfl (cn rfl) rfl ?_
          refine s_ineg rfl (cn rfl) ?_
          refine s_goto rfl (cn rfl) ?_
          refine s_puti rfl (cn rfl) rfl c7 rfl ?_
          refine s_iconst rfl (cn rfl) ?_
          refine s_zreturn rfl (Or.inr rfl) ?_
          have e1 : rf tp tl 3 (rNs tp tl p) 0 = (q, x) := by
            rw [hx]
            first
              | (rw [show 3 - k = 0 by omega]; rfl)
              | (rw [show 3 - k = (2 - k) + 1 by omega]; exact if_neg q33)
          have e2 : rN tp tl p = .inr (q, if hr tp tl p = 45 then -x else x) := by
            unfold rN
            rw [if_pos (by rw [es]; exact q18), e1]
          first
            | (rw [if_pos q3] at e2; exact Or.inl ⟨q, -x, e2, rfl, _, rfl, fr_s (by decide) hf, rr_set_eq⟩)
            | (rw [if_neg q3] at e2; exact Or.inl ⟨q, x, e2, rfl, _, rfl, fr_s (by decide) hf, rr_set_eq⟩)
        · refine s_aload_n rfl (cn rfl) rfl ?_
          refine s_virt rfl (cn rfl) rfl rfl c7 rfl (u_fig htl hq ht c7 c8) ?_
          rintro _ _ ⟨rfl, rfl⟩
          refine s_ifb_eq rfl (cn rfl) (cn rfl) (fun q33 => ?_) (fun q33 => ?_)
          · refine s_aload_n rfl (cn rfl) rfl ?_
            refine s_iload_n rfl (cn rfl) rfl ?_
            refine s_if_eq rfl (cn rfl) (cn rfl) (by decide) (fun q53 => absurd q53 (by decide)) (fun q53 => ?_)
            refine s_iload_n rfl (cn rfl) rfl ?_
            refine s_ineg rfl (cn rfl) ?_
            refine s_goto rfl (cn rfl) ?_
            refine s_puti rfl (cn rfl) rfl c7 rfl ?_
            refine s_iconst rfl (cn rfl) ?_
            refine s_zreturn rfl (Or.inr rfl) ?_
            have e1 : rf tp tl 3 (rNs tp tl p) 0 = (q, x) := by
              rw [hx]
              first
                | (rw [show 3 - k = 0 by omega]; rfl)
                | (rw [show 3 - k = (2 - k) + 1 by omega]; exact if_neg q33)
            have e2 : rN tp tl p = .inr (q, if hr tp tl p = 45 then -x else x) := by
              unfold rN
              rw [if_pos (by rw [es]; exact q18), e1]
            first
              | (rw [if_pos q3] at e2; exact Or.inl ⟨q, -x, e2, rfl, _, rfl, fr_s (by decide) hf, rr_set_eq⟩)
              | (rw [if_neg q3] at e2; exact Or.inl ⟨q, x, e2, rfl, _, rfl, fr_s (by decide) hf, rr_set_eq⟩)
          · refine s_iload_n rfl (cn rfl) rfl ?_
            refine s_bipush rfl (cn rfl) (by decide) ?_
            refine s_imul rfl (cn rfl) ?_
            refine s_aload_n rfl (cn rfl) rfl ?_
            refine s_virt rfl (cn rfl) rfl rfl c7 rfl (u_here htl hq ht c7 c8) ?_
            rintro _ _ ⟨rfl, rfl⟩
            refine s_iadd rfl (cn rfl) ?_
            refine s_bipush rfl (cn rfl) (by decide) ?_
            refine s_isub rfl (cn rfl) ?_
            refine s_istore_n rfl (cn rfl) ?_
            refine s_aload_n rfl (cn rfl) rfl ?_
            refine s_dupr rfl (cn rfl) ?_
            refine s_getfield rfl (cn rfl) c7 rfl ?_
            refine s_iconst rfl (cn rfl) ?_
            refine s_iadd rfl (cn rfl) ?_
            refine s_puti rfl (cn rfl) rfl c7 rfl ?_
            refine s_iinc rfl (cn rfl) rfl ?_
            refine s_goto rfl (ch rfl) ?_
            exact ih28 (by omega) _ (q + 1) _ ((hr_in (tp := tp) (tl := tl) (p := q) (by omega)).1) rr_set_eq (fr_s (by decide) hf) (by rw [hx, show 3 - k = (2 - k) + 1 by omega]; show (if 48 ≤ hr tp tl q ∧ hr tp tl q ≤ 57 then _ else _) = _; rw [if_pos q33, show 2 - k = 3 - (k + 1) by omega]) (by omega)
      exact lp28 0 (by omega) _ (p + 1) 0 hp1 rr_set_eq (fr_s (by decide) fr_r) (by rw [es]) (by omega)
    · refine s_aload_n rfl (cn rfl) rfl ?_
      refine s_aload_n rfl (cn rfl) rfl ?_
      refine s_getfield rfl (cn rfl) rr_set_eq rfl ?_
      refine s_virt rfl (cn rfl) rfl rfl rr_set_eq rfl (u_fail rr_set_eq) ?_
      rintro _ _ ⟨rfl, h9, rfl, hf9, d7⟩
      · refine s_zreturn rfl (Or.inl rfl) ?_
        refine Or.inr ⟨rNs tp tl p, ((rNs tp tl p : Nat) : Int), ?_, rfl, h9, rfl, ?_, ?_⟩
        · unfold rN; rw [es]; exact if_neg q18
        · exact fr_t (by first | exact fr_s (by decide) fr_r | exact fr_r) hf9 (by decide)
        · rw [es]; exact d7
theorem gr_16 {c : Int} {w : Nat} (h : c ≤ 100) (hw : w < 2 ^ ((c - 97).toNat + 1)) : w < 16 := by
  have : 2 ^ ((c - 97).toNat + 1) ≤ 2 ^ 4 := Nat.pow_le_pow_right (by decide) (by omega)
  omega
theorem bO_p {c : Int} (h : 97 ≤ c ∧ c ≤ 100) : bO c = 2 ^ (c - 97).toNat := if_pos h
theorem bO_0 {c : Int} (hc : 97 ≤ c) : 0 < bO c ↔ c ≤ 100 := by
  unfold bO
  have : 0 < 2 ^ (c - 97).toNat := Nat.two_pow_pos _
  split <;> omega
theorem bO_16 {c : Int} : bO c < 16 := by
  unfold bO
  split
  · have : 2 ^ (c - 97).toNat ≤ 2 ^ 3 := Nat.pow_le_pow_right (by decide) (by omega)
    omega
  · decide
theorem u_group {d N S : Nat} {h : Nat → Option rr_E} {tl : Nat} {sc sf sv : Int} {tp : Nat → Int} {p : Nat} (htl : tl ≤ 100) (hp : p ≤ tl) (ht : ∀ p, p < tl → 1 ≤ tp p ∧ tp p ≤ 127) (c7 : h 7 = some (SC (tl : Int) sc (p : Int) sf sv)) (c8 : h 8 = some (.inl (0, 100, .inl (fun k => ii (tp k))))) : rr_Calls (d + 3) j_Script_readGroup [.ref 7] (N, S, h) (fun r R => (∃ (q : Nat) (x : Int), rG tp tl p = .inr (q, x) ∧ r = some (.int (ii 1)) ∧ ∃ h', R = (N, S, h') ∧ fr [7] h h' ∧ h' 7 = some (SC (tl : Int) sc (q : Int) sf x)) ∨ (∃ (sp sv2 : Int), rG tp tl p = .inl p ∧ r = some (.int (ii 0)) ∧ ∃ h', R = (N, S, h') ∧ fr [7] h h' ∧ h' 7 = some (SC (tl : Int) sc sp (p : Int) sv2))) := by
  refine rr_meth (C := K_Script_readGroup) (hd := h_Script_readGroup) (mx := 5) rfl rfl (fun K hK => ?_)
  refine hK _ _ _ _ ?_
  refine s_aload_n rfl (cn rfl) rfl ?_
  refine s_getfield rfl (cn rfl) c7 rfl ?_
  refine s_istore_n rfl (cn rfl) ?_
  refine s_aload_n rfl (cn rfl) rfl ?_
  refine s_virt rfl (cn rfl) rfl rfl c7 rfl (u_pass htl hp ht c7 c8) ?_
  rintro _ _ ⟨rfl, h1, rfl, hf1, c7⟩
  have c8 := (hf1 8 (by decide)).trans c8
  obtain ⟨pl1, pl2, pl3, pl4⟩ := pl_s (tp := tp) hp
  refine s_iconst rfl (cn rfl) ?_
  refine s_istore_n rfl (cn rfl) ?_
  refine s_iload_n rfl (cn rfl) rfl ?_
  refine s_istore_n rfl (ch rfl) ?_
  have lp9 : ∀ a : Nat, a ≤ plN tp tl p → ∀ (w : Nat) (l4 : Option Value) (hpa : p ≤ a) (hw : w = gS tp p (a - p)) (hv : ∀ j, p ≤ j → j < a → tp j ≤ 100 ∧ (p < j → tp (j - 1) < tp j)) (hz : a = p → w = 0) (hc : p < a → 2 ^ (tp (a - 1) - 97).toNat ≤ w ∧ w < 2 ^ ((tp (a - 1) - 97).toNat + 1)), K 9 [some (.ref 7), some (.int (ii (p : Int))), some (.int (ii (w : Int))), some (.int (ii (a : Int))), l4] [] (N, S, h1) := by
    refine dn (fun a ha ih9 => ?_)
    intro w l4 hpa hw hv hz hc
    have hw16 : w < 16 := by
      by_cases e : a = p
      · rw [hz e]; decide
      · exact gr_16 (hv (a - 1) (by omega) (by omega)).1 (hc (by omega)).2
    refine hK _ _ _ _ ?_
    refine s_iload_n rfl (cn rfl) rfl ?_
    refine s_aload_n rfl (cn rfl) rfl ?_
    refine s_getfield rfl (cn rfl) c7 rfl ?_
    refine s_icmp_ge rfl (cn rfl) (cn rfl) ⟨by omega, by omega⟩ ⟨by omega, by omega⟩ (fun q12 => ?_) (fun q12 => ?_)
    · refine s_aload_n rfl (cn rfl) rfl ?_
      refine s_iload_n rfl (cn rfl) rfl ?_
      refine s_puti rfl (cn rfl) rfl c7 rfl ?_
      refine s_iload_n rfl (cn rfl) rfl ?_
      refine s_if_ne rfl (cn rfl) (cn rfl) ⟨by omega, by omega⟩ (fun q36 => ?_) (fun q36 => ?_)
      · refine s_iconst rfl (cn rfl) ?_
        refine s_goto rfl (cn rfl) ?_
        refine s_zreturn rfl (Or.inr rfl) ?_
        first
          | (have ea : plN tp tl p = a := by omega
             have hlt : p < a := by
               by_cases e : a = p
               · exact absurd (hz e) (by omega)
               · omega
             refine Or.inl ⟨plN tp tl p, (w : Int), ?_, rfl, _, rfl, fr_s (by decide) hf1, rr_set_eq⟩
             unfold rG
             rw [ea, ci_y ⟨hlt, fun j j1 j2 => hv j j1 (by omega)⟩, hw])
          | (refine Or.inr ⟨_, _, ci_n (fun q => ?_), rfl, h9, rfl, fr_t (fr_s (by decide) hf1) hf9 (by decide), d7⟩
             have h2 := hc (by have := q.1; omega)
             have h3 : 0 < 2 ^ (tp (a - 1) - 97).toNat := Nat.two_pow_pos _
             omega)
      · refine s_aload_n rfl (cn rfl) rfl ?_
        refine s_iload_n rfl (cn rfl) rfl ?_
        refine s_virt rfl (cn rfl) rfl rfl rr_set_eq rfl (u_fail rr_set_eq) ?_
        rintro _ _ ⟨rfl, h9, rfl, hf9, d7⟩
        · refine s_if_eq rfl (cn rfl) (cn rfl) (by decide) (fun q40 => ?_) (fun q40 => absurd q40 (by decide))
          refine s_iconst rfl (cn rfl) ?_
          refine s_zreturn rfl (Or.inl rfl) ?_
          first
            | (have ea : plN tp tl p = a := by omega
               have hlt : p < a := by
                 by_cases e : a = p
                 · exact absurd (hz e) (by omega)
                 · omega
               refine Or.inl ⟨plN tp tl p, (w : Int), ?_, rfl, _, rfl, fr_s (by decide) hf1, rr_set_eq⟩
               unfold rG
               rw [ea, ci_y ⟨hlt, fun j j1 j2 => hv j j1 (by omega)⟩, hw])
            | (refine Or.inr ⟨_, _, ci_n (fun q => ?_), rfl, h9, rfl, fr_t (fr_s (by decide) hf1) hf9 (by decide), d7⟩
               have h2 := hc (by have := q.1; omega)
               have h3 : 0 < 2 ^ (tp (a - 1) - 97).toNat := Nat.two_pow_pos _
               omega)
    · have la := isL_lt (pl3 a hpa (by omega))
      have hiff : w < bO (tp a) ↔ (tp a ≤ 100 ∧ (p < a → tp (a - 1) < tp a)) := by
        by_cases e : a = p
        · rw [hz e, bO_0 la.2.1]; exact ⟨fun q => ⟨q, fun q2 => absurd q2 (by omega)⟩, fun q => q.1⟩
        · have hc2 := hc (by omega)
          have l1 := isL_lt (pl3 (a - 1) (by omega) (by omega))
          rw [bO_c la.2.1 l1.2.1 hc2.1 hc2.2]
          exact ⟨fun q => ⟨q.1, fun _ => q.2⟩, fun q => ⟨q.1, q.2 (by omega)⟩⟩
      have hb16 := bO_16 (c := tp a)
      refine s_aload_n rfl (cn rfl) rfl ?_
      refine s_getfield rfl (cn rfl) c7 rfl ?_
      refine s_iload_n rfl (cn rfl) rfl ?_
      refine s_iaload rfl (cn rfl) _ rfl c8 rfl (by omega) (by decide) rfl ?_
      refine s_stat rfl (cn rfl) rfl rfl rfl (u_bitOf (by omega)) ?_
      rintro _ _ ⟨rfl, rfl⟩
      refine s_istore rfl (cn rfl) ?_
      refine s_iload rfl (cn rfl) rfl ?_
      refine s_iload_n rfl (cn rfl) rfl ?_
      refine s_icmp_gt rfl (cn rfl) (cn rfl) ⟨by omega, by omega⟩ ⟨by omega, by omega⟩ (fun q21 => ?_) (fun q21 => ?_)
      · have hok := hiff.mp (by omega)
        refine s_iload_n rfl (cn rfl) rfl ?_
        refine s_iload rfl (cn rfl) rfl ?_
        refine s_ior rfl (cn rfl) _ (bi_or _ _) ?_
        refine s_istore_n rfl (cn rfl) ?_
        refine s_iinc rfl (cn rfl) rfl ?_
        refine s_goto rfl (ch rfl) ?_
        exact ih9 (by omega) _ _ (by omega) (by rw [show a + 1 - p = (a - p) + 1 by omega]; show _ = gS tp p (a - p) ||| 2 ^ (tp (p + (a - p)) - 97).toNat; rw [show p + (a - p) = a by omega, ← hw, bO_p ⟨la.2.1, hok.1⟩]) (fun j j1 j2 => by
            by_cases e : j = a
            · subst e; exact hok
            · exact hv j j1 (by omega)) (fun e => absurd e (by omega)) (fun _ => by
            rw [show a + 1 - 1 = a by omega, bO_p ⟨la.2.1, hok.1⟩]
            have hwl : w < 2 ^ (tp a - 97).toNat := by rw [← bO_p ⟨la.2.1, hok.1⟩]; omega
            refine ⟨Nat.right_le_or, Nat.or_lt_two_pow ?_ ?_⟩
            · exact Nat.lt_of_lt_of_le hwl (Nat.pow_le_pow_right (by decide) (by omega))
            · exact Nat.pow_lt_pow_right (by decide) (by omega))
      · refine s_aload_n rfl (cn rfl) rfl ?_
        refine s_iload_n rfl (cn rfl) rfl ?_
        refine s_virt rfl (cn rfl) rfl rfl c7 rfl (u_fail c7) ?_
        rintro _ _ ⟨rfl, h9, rfl, hf9, d7⟩
        · refine s_zreturn rfl (Or.inl rfl) ?_
          refine Or.inr ⟨_, _, ci_n (fun q => ?_), rfl, h9, rfl, fr_t hf1 hf9 (by decide), d7⟩
          have := hiff.mpr (q.2 a hpa (by omega))
          omega
  exact lp9 p pl1 0 _ (Nat.le_refl p) (by rw [Nat.sub_self]; rfl) (fun j j1 j2 => absurd j2 (by omega)) (fun _ => rfl) (fun q => absurd q (by omega))
theorem u_person {d N S : Nat} {h : Nat → Option rr_E} {tl : Nat} {sc sf sv : Int} {tp : Nat → Int} {p : Nat} (htl : tl ≤ 100) (hp : p ≤ tl) (ht : ∀ p, p < tl → 1 ≤ tp p ∧ tp p ≤ 127) (c7 : h 7 = some (SC (tl : Int) sc (p : Int) sf sv)) (c8 : h 8 = some (.inl (0, 100, .inl (fun k => ii (tp k))))) : rr_Calls (d + 3) j_Script_readPerson [.ref 7] (N, S, h) (fun r R => (∃ (q : Nat) (x : Int), rP tp tl p = .inr (q, x) ∧ r = some (.int (ii 1)) ∧ ∃ h', R = (N, S, h') ∧ fr [7] h h' ∧ h' 7 = some (SC (tl : Int) sc (q : Int) sf x)) ∨ (∃ (sp sv2 : Int), rP tp tl p = .inl p ∧ r = some (.int (ii 0)) ∧ ∃ h', R = (N, S, h') ∧ fr [7] h h' ∧ h' 7 = some (SC (tl : Int) sc sp (p : Int) sv2))) := by
  refine rr_meth (C := K_Script_readPerson) (hd := h_Script_readPerson) (mx := 2) rfl rfl (fun K hK => ?_)
  refine hK _ _ _ _ ?_
  refine s_aload_n rfl (cn rfl) rfl ?_
  refine s_getfield rfl (cn rfl) c7 rfl ?_
  refine s_istore_n rfl (cn rfl) ?_
  refine s_aload_n rfl (cn rfl) rfl ?_
  refine s_virt rfl (cn rfl) rfl rfl c7 rfl (u_pass htl hp ht c7 c8) ?_
  rintro _ _ ⟨rfl, h1, rfl, hf1, c7⟩
  have c8 := (hf1 8 (by decide)).trans c8
  obtain ⟨pl1, pl2, pl3, pl4⟩ := pl_s (tp := tp) hp
  refine s_aload_n rfl (cn rfl) rfl ?_
  refine s_getfield rfl (cn rfl) c7 rfl ?_
  refine s_iload_n rfl (cn rfl) rfl ?_
  refine s_iconst rfl (cn rfl) ?_
  refine s_iadd rfl (cn rfl) ?_
  refine s_icmp_ne rfl (cn rfl) (cn rfl) ⟨by omega, by omega⟩ ⟨by omega, by omega⟩ (fun q10 => ?_) (fun q10 => ?_)
  · refine s_aload_n rfl (cn rfl) rfl ?_
    refine s_iload_n rfl (cn rfl) rfl ?_
    refine s_virt rfl (cn rfl) rfl rfl c7 rfl (u_fail c7) ?_
    rintro _ _ ⟨rfl, h9, rfl, hf9, d7⟩
    · refine s_zreturn rfl (Or.inl rfl) ?_
      refine Or.inr ⟨_, _, if_neg (fun q => ?_), rfl, h9, rfl, fr_t hf1 hf9 (by decide), d7⟩
      omega
  · have la := isL_lt (pl3 p (by omega) (by omega))
    have hb16 := bO_16 (c := tp p)
    have hb0 := bO_0 la.2.1
    refine s_aload_n rfl (cn rfl) rfl ?_
    refine s_getfield rfl (cn rfl) c7 rfl ?_
    refine s_iload_n rfl (cn rfl) rfl ?_
    refine s_iaload rfl (cn rfl) _ rfl c8 rfl (by omega) (by decide) rfl ?_
    refine s_stat rfl (cn rfl) rfl rfl rfl (u_bitOf (by omega)) ?_
    rintro _ _ ⟨rfl, rfl⟩
    refine s_if_ne rfl (cn rfl) (cn rfl) ⟨by omega, by omega⟩ (fun q16 => ?_) (fun q16 => ?_)
    · refine s_aload_n rfl (cn rfl) rfl ?_
      refine s_aload_n rfl (cn rfl) rfl ?_
      refine s_getfield rfl (cn rfl) c7 rfl ?_
      refine s_iload_n rfl (cn rfl) rfl ?_
      refine s_iaload rfl (cn rfl) _ rfl c8 rfl (by omega) (by decide) rfl ?_
      refine s_bipush rfl (cn rfl) (by decide) ?_
      refine s_isub rfl (cn rfl) ?_
      refine s_puti rfl (cn rfl) rfl c7 rfl ?_
      refine s_iconst rfl (cn rfl) ?_
      refine s_zreturn rfl (Or.inr rfl) ?_
      exact Or.inl ⟨plN tp tl p, _, if_pos ⟨by omega, by omega⟩, rfl, _, rfl, fr_s (by decide) hf1, rr_set_eq⟩
    · refine s_aload_n rfl (cn rfl) rfl ?_
      refine s_iload_n rfl (cn rfl) rfl ?_
      refine s_virt rfl (cn rfl) rfl rfl c7 rfl (u_fail c7) ?_
      rintro _ _ ⟨rfl, h9, rfl, hf9, d7⟩
      · refine s_zreturn rfl (Or.inl rfl) ?_
        refine Or.inr ⟨_, _, if_neg (fun q => ?_), rfl, h9, rfl, fr_t hf1 hf9 (by decide), d7⟩
        omega
