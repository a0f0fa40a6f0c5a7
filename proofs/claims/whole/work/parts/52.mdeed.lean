/-! The model's reader: deeds. -/
theorem sb_a {α β γ : Type} {m : Nat ⊕ α} {f : α → Nat ⊕ β} {g : β → Nat ⊕ γ} : sb (sb m f) g = sb m (fun a => sb (f a) g) := by cases m <;> rfl
theorem rA_0 {tp : Nat → Int} {tl p : Nat} : rA tp tl 0 p = sb (sb (rB tp tl p) (rN tp tl)) (fun x => .inr (x.1, x.2, 0)) := by
  unfold rA; rw [if_pos rfl, sb_a]
theorem rA_12 {tp : Nat → Int} {tl p : Nat} {k : Int} (h : k = 1 ∨ k = 2) : rA tp tl k p = sb (sb (rB tp tl p) (rG tp tl)) (fun x => sb (sb (rB tp tl x.1) (rN tp tl)) (fun y => .inr (y.1, x.2, y.2))) := by
  unfold rA; rw [if_neg (by omega), if_pos h, sb_a]
  congr 1; funext q; congr 1; funext x; rw [sb_a]
theorem rA_5 {tp : Nat → Int} {tl p : Nat} : rA tp tl 5 p = sb (sb (rB tp tl p) (rP tp tl)) (fun x => sb (sb (rB tp tl x.1) (rP tp tl)) (fun y => .inr (y.1, x.2, y.2))) := by
  unfold rA; rw [if_neg (by decide), if_neg (by decide), if_pos rfl, sb_a]
  congr 1; funext q; congr 1; funext x; rw [sb_a]
theorem rA_3 {tp : Nat → Int} {tl p : Nat} {k : Int} (h : k = 3 ∨ k = 4) : rA tp tl k p = .inr (p, 0, 0) := by
  unfold rA; rw [if_neg (by omega), if_neg (by omega), if_neg (by omega)]
theorem sb_r {α β : Type} {m : Nat ⊕ α} {g : α → Nat ⊕ β} {b : β} (h : sb m g = .inr b) : ∃ a, m = .inr a ∧ g a = .inr b := by
  cases m with
  | inl e => cases h
  | inr a => exact ⟨a, rfl, h⟩
theorem bN_b {tp : Nat → Int} {tl p q : Nat} {x : Int} (h : sb (rB tp tl p) (rN tp tl) = .inr (q, x)) : p ≤ q ∧ q ≤ tl ∧ -999 ≤ x ∧ x ≤ 999 := by
  obtain ⟨a, h1, h2⟩ := sb_r h
  have h3 := rB_r h1
  have h4 := rN_b (by omega) h2
  omega
theorem bG_b {tp : Nat → Int} {tl p q : Nat} {x : Int} (h : sb (rB tp tl p) (rG tp tl) = .inr (q, x)) : p ≤ q ∧ q ≤ tl ∧ -999 ≤ x ∧ x ≤ 999 := by
  obtain ⟨a, h1, h2⟩ := sb_r h
  have h3 := rB_r h1
  have h4 := rG_16 (by omega) h2
  omega
theorem bP_b {tp : Nat → Int} {tl p q : Nat} {x : Int} (h : sb (rB tp tl p) (rP tp tl) = .inr (q, x)) : p ≤ q ∧ q ≤ tl ∧ -999 ≤ x ∧ x ≤ 999 := by
  obtain ⟨a, h1, h2⟩ := sb_r h
  have h3 := rB_r h1
  have h4 := rP_b (by omega) h2
  omega
theorem m_number0 {d N S n : Nat} {kp fa dm ce di be od sm le sc ba bb ti rk ts tm pa wa : Int} {h : Nat → Option rr_E}  {tl p : Nat} {ta : Nat → Int} (htl : tl ≤ 100) (hp : p ≤ tl) (ht : ∀ p, p < tl → 1 ≤ ta p ∧ ta p ≤ 127) (c58 : h 58 = some (MO (n : Int) kp (tl : Int) (p : Int) 0 fa dm ce di be od sm le sc ba bb ti rk ts tm pa wa)) (c61 : h 61 = some (.inl (0, 100, .inl (fun k => ii (ta k))))) : rr_Calls (d + 3) j_Model_number [.ref 58] (N, S, h) (fun r R => (∃ (q : Nat) (x : Int), sb (rB ta tl p) (rN ta tl) = .inr (q, x) ∧ r = some (.int (ii x)) ∧ ∃ h', R = (N, S, h') ∧ fr [58] h h' ∧ h' 58 = some (MO (n : Int) kp (tl : Int) (q : Int) 0 fa dm ce di be od sm le sc ba bb ti rk ts tm pa wa)) ∨ (∃ (f : Nat) (r0 pt2 : Int), sb (rB ta tl p) (rN ta tl) = .inl f ∧ r = some (.int (ii r0)) ∧ ∃ h', R = (N, S, h') ∧ fr [58] h h' ∧ h' 58 = some (MO (n : Int) kp (tl : Int) pt2 1 (f : Int) dm ce di be od sm le sc ba bb ti rk ts tm pa wa))) := by
  refine rr_meth (C := K_Model_number) (hd := h_Model_number) (mx := 4) rfl rfl (fun K hK => ?_)
  have c61o := c61
  refine hK _ _ _ _ ?_
  refine s_aload_n rfl (cn rfl) rfl ?_
  refine s_virt rfl (cn rfl) rfl rfl c58 rfl (m_blank0 htl hp ht c58 c61) ?_
  rintro _ _ ⟨rfl, (⟨eb, lb, h1, rfl, hf1, c58⟩ | ⟨eb, h1, rfl, hf1, c58⟩)⟩
  · have c61 := (hf1 61 (by decide)).trans c61
    have hb1 := hr_b ht (p + 1)
    refine s_aload_n rfl (cn rfl) rfl ?_
    refine s_getfield rfl (cn rfl) c58 rfl ?_
    refine s_if_eq rfl (cn rfl) (cn rfl) ⟨by omega, by omega⟩ (fun q4 => ?_) (fun q4 => ?_)
    · first
      | (exact absurd q4 (by decide))
      | skip
        refine s_aload_n rfl (cn rfl) rfl ?_
        refine s_virt rfl (cn rfl) rfl rfl c58 rfl (m_here htl lb ht c58 c61) ?_
        rintro _ _ ⟨rfl, rfl⟩
        refine s_bipush rfl (cn rfl) (by decide) ?_
        refine s_icmp_ne rfl (cn rfl) (cn rfl) ⟨by omega, by omega⟩ ⟨by omega, by omega⟩ (fun q10 => ?_) (fun q10 => ?_)
        · refine s_iconst rfl (cn rfl) ?_
          refine s_istore_n rfl (cn rfl) ?_
          refine s_iload_n rfl (cn rfl) rfl ?_
          refine s_if_eq rfl (cn rfl) (cn rfl) (by decide) (fun q16 => ?_) (fun q16 => absurd q16 (by decide))
          have es : rNs ta tl (p + 1) = p + 1 := if_neg q10
          refine s_aload_n rfl (cn rfl) rfl ?_
          refine s_getfield rfl (cn rfl) c58 rfl ?_
          refine s_istore_n rfl (cn rfl) ?_
          refine s_iconst rfl (cn rfl) ?_
          refine s_istore_n rfl (ch rfl) ?_
          have lp28 : ∀ k : Nat, k ≤ 3 → ∀ (s : Nat) (hs0 : s = rNs ta tl (p + 1)) (h' : Nat → Option rr_E) (x : Int) (hq : rNs ta tl (p + 1) + k ≤ tl) (c58 : h' 58 = some (MO (n : Int) kp (tl : Int) ((rNs ta tl (p + 1) + k : Nat) : Int) 0 fa dm ce di be od sm le sc ba bb ti rk ts tm pa wa)) (hf : fr [58] h h') (hx : rf ta tl 3 (rNs ta tl (p + 1)) 0 = rf ta tl (3 - k) (rNs ta tl (p + 1) + k) x) (hs : 1 ≤ k → 48 ≤ hr ta tl (rNs ta tl (p + 1)) ∧ hr ta tl (rNs ta tl (p + 1)) ≤ 57) (hb : 0 ≤ x ∧ x ≤ 999 ∧ (k = 0 → x = 0) ∧ (k = 1 → x ≤ 9) ∧ (k = 2 → x ≤ 99)), K 28 [some (.ref 58), some (.int (ii 0)), some (.int (ii (s : Int))), some (.int (ii x))] [] (N, S, h') := by
            refine dn (fun k hk ih28 => ?_)
            intro s hs0 h' x hq c58 hf hx hs hb
            subst hs0
            have c61 := (hf 61 (by decide)).trans c61o
            have hb2 := hr_b ht (rNs ta tl (p + 1) + k)
            refine hK _ _ _ _ ?_
            refine s_aload_n rfl (cn rfl) rfl ?_
            refine s_getfield rfl (cn rfl) c58 rfl ?_
            refine s_iload_n rfl (cn rfl) rfl ?_
            refine s_iconst rfl (cn rfl) ?_
            refine s_iadd rfl (cn rfl) ?_
            refine s_icmp_ge rfl (cn rfl) (cn rfl) ⟨by omega, by omega⟩ ⟨by omega, by omega⟩ (fun q33 => ?_) (fun q33 => ?_)
            · have eN : 1 ≤ k → rN ta tl (p + 1) = .inr (rNs ta tl (p + 1) + k, if hr ta tl (p + 1) = 45 then -x else x) := fun q => by
                have e1 : rf ta tl 3 (rNs ta tl (p + 1)) 0 = (rNs ta tl (p + 1) + k, x) := by
                  rw [hx]
                  first
                    | (rw [show 3 - k = 0 by omega]; rfl)
                    | (rw [show 3 - k = (2 - k) + 1 by omega]; exact if_neg q40)
                unfold rN
                rw [if_pos (hs q), e1]
              refine s_aload_n rfl (cn rfl) rfl ?_
              refine s_getfield rfl (cn rfl) c58 rfl ?_
              refine s_iload_n rfl (cn rfl) rfl ?_
              refine s_icmp_ne rfl (cn rfl) (cn rfl) ⟨by omega, by omega⟩ ⟨by omega, by omega⟩ (fun q63 => ?_) (fun q63 => ?_)
              · refine s_iload_n rfl (cn rfl) rfl ?_
                refine s_if_eq rfl (cn rfl) (cn rfl) (by decide) (fun q69 => ?_) (fun q69 => absurd q69 (by decide))
                refine s_iload_n rfl (cn rfl) rfl ?_
                refine s_ireturn rfl ?_
                first
                  | (exfalso; omega)
                  | (have e0 : k = 0 := by omega
                     subst e0
                     refine Or.inr ⟨rNs ta tl (p + 1), _, _, ?_, rfl, h9, rfl, fr_t hf hf9 (by decide), d58⟩
                     rw [eb]
                     exact if_neg q40)
                  | (refine Or.inl ⟨_, _, ?_, rfl, h', rfl, hf, c58⟩
                     rw [eb]
                     show rN ta tl (p + 1) = _
                     rw [eN (by omega)]
                     first
                       | (rw [if_pos q10]; done)
                       | (rw [if_neg q10]; done))
              · refine s_aload_n rfl (cn rfl) rfl ?_
                refine s_aload_n rfl (cn rfl) rfl ?_
                refine s_getfield rfl (cn rfl) c58 rfl ?_
                refine s_virt rfl (cn rfl) rfl rfl c58 rfl (m_wrong c58) ?_
                rintro _ _ ⟨rfl, h9, rfl, hf9, d58⟩
                refine s_iload_n rfl (cn rfl) rfl ?_
                refine s_if_eq rfl (cn rfl) (cn rfl) (by decide) (fun q69 => ?_) (fun q69 => absurd q69 (by decide))
                refine s_iload_n rfl (cn rfl) rfl ?_
                refine s_ireturn rfl ?_
                first
                  | (exfalso; omega)
                  | (have e0 : k = 0 := by omega
                     subst e0
                     refine Or.inr ⟨rNs ta tl (p + 1), _, _, ?_, rfl, h9, rfl, fr_t hf hf9 (by decide), d58⟩
                     rw [eb]
                     exact if_neg q40)
                  | (refine Or.inl ⟨_, _, ?_, rfl, h', rfl, hf, c58⟩
                     rw [eb]
                     show rN ta tl (p + 1) = _
                     rw [eN (by omega)]
                     first
                       | (rw [if_pos q10]; done)
                       | (rw [if_neg q10]; done))
            · refine s_aload_n rfl (cn rfl) rfl ?_
              refine s_virt rfl (cn rfl) rfl rfl c58 rfl (m_here htl hq ht c58 c61) ?_
              rintro _ _ ⟨rfl, rfl⟩
              refine s_i2l rfl (cn rfl) ⟨by omega, by omega⟩ ?_
              refine s_ldc2_w rfl (cn rfl) ?_
              refine s_ldc2_w rfl (cn rfl) ?_
              refine s_stat rfl (cn rfl) rfl rfl rfl (m_in (by omega) (by omega) (by omega)) ?_
              rintro _ _ ⟨rfl, rfl⟩
              refine s_ifb_eq rfl (cn rfl) (cn rfl) (fun q40 => ?_) (fun q40 => ?_)
              · have eN : 1 ≤ k → rN ta tl (p + 1) = .inr (rNs ta tl (p + 1) + k, if hr ta tl (p + 1) = 45 then -x else x) := fun q => by
                  have e1 : rf ta tl 3 (rNs ta tl (p + 1)) 0 = (rNs ta tl (p + 1) + k, x) := by
                    rw [hx]
                    first
                      | (rw [show 3 - k = 0 by omega]; rfl)
                      | (rw [show 3 - k = (2 - k) + 1 by omega]; exact if_neg q40)
                  unfold rN
                  rw [if_pos (hs q), e1]
                refine s_aload_n rfl (cn rfl) rfl ?_
                refine s_getfield rfl (cn rfl) c58 rfl ?_
                refine s_iload_n rfl (cn rfl) rfl ?_
                refine s_icmp_ne rfl (cn rfl) (cn rfl) ⟨by omega, by omega⟩ ⟨by omega, by omega⟩ (fun q63 => ?_) (fun q63 => ?_)
                · refine s_iload_n rfl (cn rfl) rfl ?_
                  refine s_if_eq rfl (cn rfl) (cn rfl) (by decide) (fun q69 => ?_) (fun q69 => absurd q69 (by decide))
                  refine s_iload_n rfl (cn rfl) rfl ?_
                  refine s_ireturn rfl ?_
                  first
                    | (exfalso; omega)
                    | (have e0 : k = 0 := by omega
                       subst e0
                       refine Or.inr ⟨rNs ta tl (p + 1), _, _, ?_, rfl, h9, rfl, fr_t hf hf9 (by decide), d58⟩
                       rw [eb]
                       exact if_neg q40)
                    | (refine Or.inl ⟨_, _, ?_, rfl, h', rfl, hf, c58⟩
                       rw [eb]
                       show rN ta tl (p + 1) = _
                       rw [eN (by omega)]
                       first
                         | (rw [if_pos q10]; done)
                         | (rw [if_neg q10]; done))
                · refine s_aload_n rfl (cn rfl) rfl ?_
                  refine s_aload_n rfl (cn rfl) rfl ?_
                  refine s_getfield rfl (cn rfl) c58 rfl ?_
                  refine s_virt rfl (cn rfl) rfl rfl c58 rfl (m_wrong c58) ?_
                  rintro _ _ ⟨rfl, h9, rfl, hf9, d58⟩
                  refine s_iload_n rfl (cn rfl) rfl ?_
                  refine s_if_eq rfl (cn rfl) (cn rfl) (by decide) (fun q69 => ?_) (fun q69 => absurd q69 (by decide))
                  refine s_iload_n rfl (cn rfl) rfl ?_
                  refine s_ireturn rfl ?_
                  first
                    | (exfalso; omega)
                    | (have e0 : k = 0 := by omega
                       subst e0
                       refine Or.inr ⟨rNs ta tl (p + 1), _, _, ?_, rfl, h9, rfl, fr_t hf hf9 (by decide), d58⟩
                       rw [eb]
                       exact if_neg q40)
                    | (refine Or.inl ⟨_, _, ?_, rfl, h', rfl, hf, c58⟩
                       rw [eb]
                       show rN ta tl (p + 1) = _
                       rw [eN (by omega)]
                       first
                         | (rw [if_pos q10]; done)
                         | (rw [if_neg q10]; done))
              · have hin := hr_in (tp := ta) (tl := tl) (p := rNs ta tl (p + 1) + k) (by omega)
                have hht := hin.2
                refine s_bipush rfl (cn rfl) (by decide) ?_
                refine s_iload_n rfl (cn rfl) rfl ?_
                refine s_imul rfl (cn rfl) ?_
                refine s_aload_n rfl (cn rfl) rfl ?_
                refine s_getfield rfl (cn rfl) c58 rfl ?_
                refine s_aload_n rfl (cn rfl) rfl ?_
                refine s_getfield rfl (cn rfl) c58 rfl ?_
                refine s_iaload rfl (cn rfl) _ rfl c61 rfl (by omega) (by decide) rfl ?_
                refine s_iadd rfl (cn rfl) ?_
                refine s_bipush rfl (cn rfl) (by decide) ?_
                refine s_isub rfl (cn rfl) ?_
                refine s_istore_n rfl (cn rfl) ?_
                refine s_aload_n rfl (cn rfl) rfl ?_
                refine s_dupr rfl (cn rfl) ?_
                refine s_getfield rfl (cn rfl) c58 rfl ?_
                refine s_iconst rfl (cn rfl) ?_
                refine s_iadd rfl (cn rfl) ?_
                refine s_puti rfl (cn rfl) rfl c58 rfl ?_
                refine s_goto rfl (ch rfl) ?_
                exact ih28 (by omega) _ rfl _ _ (by have := (hr_in (tp := ta) (tl := tl) (p := rNs ta tl (p + 1) + k) (by omega)).1; omega) rr_set_eq (fr_s (by decide) hf) (by rw [hx, show 3 - k = (2 - k) + 1 by omega]; show (if 48 ≤ hr ta tl (rNs ta tl (p + 1) + k) ∧ hr ta tl (rNs ta tl (p + 1) + k) ≤ 57 then _ else _) = _; rw [if_pos q40, show 2 - k = 3 - (k + 1) by omega, hht, show 10 * x + ta (rNs ta tl (p + 1) + k) - 48 = x * 10 + ta (rNs ta tl (p + 1) + k) - 48 by omega]; rfl) (fun _ => by
                    by_cases e : k = 0
                    · subst e; exact q40
                    · exact hs (by omega)) (by omega)
          exact lp28 0 (by omega) (p + 1) es.symm _ 0 (by rw [es]; exact lb) (by rw [es]; exact c58) hf1 rfl (fun q => absurd q (by omega)) (by omega)
        · refine s_iconst rfl (cn rfl) ?_
          refine s_goto rfl (cn rfl) ?_
          refine s_istore_n rfl (cn rfl) ?_
          refine s_iload_n rfl (cn rfl) rfl ?_
          refine s_if_eq rfl (cn rfl) (cn rfl) (by decide) (fun q16 => absurd q16 (by decide)) (fun q16 => ?_)
          have es : rNs ta tl (p + 1) = p + 1 + 1 := if_pos q10
          have lb2 : p + 1 + 1 ≤ tl := (hr_in (tp := ta) (tl := tl) (p := p + 1) (by omega)).1
          refine s_aload_n rfl (cn rfl) rfl ?_
          refine s_dupr rfl (cn rfl) ?_
          refine s_getfield rfl (cn rfl) c58 rfl ?_
          refine s_iconst rfl (cn rfl) ?_
          refine s_iadd rfl (cn rfl) ?_
          refine s_puti rfl (cn rfl) rfl c58 rfl ?_
          
          refine s_aload_n rfl (cn rfl) rfl ?_
          refine s_getfield rfl (cn rfl) rr_set_eq rfl ?_
          refine s_istore_n rfl (cn rfl) ?_
          refine s_iconst rfl (cn rfl) ?_
          refine s_istore_n rfl (ch rfl) ?_
          have lp28 : ∀ k : Nat, k ≤ 3 → ∀ (s : Nat) (hs0 : s = rNs ta tl (p + 1)) (h' : Nat → Option rr_E) (x : Int) (hq : rNs ta tl (p + 1) + k ≤ tl) (c58 : h' 58 = some (MO (n : Int) kp (tl : Int) ((rNs ta tl (p + 1) + k : Nat) : Int) 0 fa dm ce di be od sm le sc ba bb ti rk ts tm pa wa)) (hf : fr [58] h h') (hx : rf ta tl 3 (rNs ta tl (p + 1)) 0 = rf ta tl (3 - k) (rNs ta tl (p + 1) + k) x) (hs : 1 ≤ k → 48 ≤ hr ta tl (rNs ta tl (p + 1)) ∧ hr ta tl (rNs ta tl (p + 1)) ≤ 57) (hb : 0 ≤ x ∧ x ≤ 999 ∧ (k = 0 → x = 0) ∧ (k = 1 → x ≤ 9) ∧ (k = 2 → x ≤ 99)), K 28 [some (.ref 58), some (.int (ii 1)), some (.int (ii (s : Int))), some (.int (ii x))] [] (N, S, h') := by
            refine dn (fun k hk ih28 => ?_)
            intro s hs0 h' x hq c58 hf hx hs hb
            subst hs0
            have c61 := (hf 61 (by decide)).trans c61o
            have hb2 := hr_b ht (rNs ta tl (p + 1) + k)
            refine hK _ _ _ _ ?_
            refine s_aload_n rfl (cn rfl) rfl ?_
            refine s_getfield rfl (cn rfl) c58 rfl ?_
            refine s_iload_n rfl (cn rfl) rfl ?_
            refine s_iconst rfl (cn rfl) ?_
            refine s_iadd rfl (cn rfl) ?_
            refine s_icmp_ge rfl (cn rfl) (cn rfl) ⟨by omega, by omega⟩ ⟨by omega, by omega⟩ (fun q33 => ?_) (fun q33 => ?_)
            · have eN : 1 ≤ k → rN ta tl (p + 1) = .inr (rNs ta tl (p + 1) + k, if hr ta tl (p + 1) = 45 then -x else x) := fun q => by
                have e1 : rf ta tl 3 (rNs ta tl (p + 1)) 0 = (rNs ta tl (p + 1) + k, x) := by
                  rw [hx]
                  first
                    | (rw [show 3 - k = 0 by omega]; rfl)
                    | (rw [show 3 - k = (2 - k) + 1 by omega]; exact if_neg q40)
                unfold rN
                rw [if_pos (hs q), e1]
              refine s_aload_n rfl (cn rfl) rfl ?_
              refine s_getfield rfl (cn rfl) c58 rfl ?_
              refine s_iload_n rfl (cn rfl) rfl ?_
              refine s_icmp_ne rfl (cn rfl) (cn rfl) ⟨by omega, by omega⟩ ⟨by omega, by omega⟩ (fun q63 => ?_) (fun q63 => ?_)
              · refine s_iload_n rfl (cn rfl) rfl ?_
                refine s_if_eq rfl (cn rfl) (cn rfl) (by decide) (fun q69 => absurd q69 (by decide)) (fun q69 => ?_)
                refine s_iload_n rfl (cn rfl) rfl ?_
                refine s_ineg rfl (cn rfl) ?_
                refine s_goto rfl (cn rfl) ?_
                refine s_ireturn rfl ?_
                first
                  | (exfalso; omega)
                  | (have e0 : k = 0 := by omega
                     subst e0
                     refine Or.inr ⟨rNs ta tl (p + 1), _, _, ?_, rfl, h9, rfl, fr_t hf hf9 (by decide), d58⟩
                     rw [eb]
                     exact if_neg q40)
                  | (refine Or.inl ⟨_, _, ?_, rfl, h', rfl, hf, c58⟩
                     rw [eb]
                     show rN ta tl (p + 1) = _
                     rw [eN (by omega)]
                     first
                       | (rw [if_pos q10]; done)
                       | (rw [if_neg q10]; done))
              · refine s_aload_n rfl (cn rfl) rfl ?_
                refine s_aload_n rfl (cn rfl) rfl ?_
                refine s_getfield rfl (cn rfl) c58 rfl ?_
                refine s_virt rfl (cn rfl) rfl rfl c58 rfl (m_wrong c58) ?_
                rintro _ _ ⟨rfl, h9, rfl, hf9, d58⟩
                refine s_iload_n rfl (cn rfl) rfl ?_
                refine s_if_eq rfl (cn rfl) (cn rfl) (by decide) (fun q69 => absurd q69 (by decide)) (fun q69 => ?_)
                refine s_iload_n rfl (cn rfl) rfl ?_
                refine s_ineg rfl (cn rfl) ?_
                refine s_goto rfl (cn rfl) ?_
                refine s_ireturn rfl ?_
                first
                  | (exfalso; omega)
                  | (have e0 : k = 0 := by omega
                     subst e0
                     refine Or.inr ⟨rNs ta tl (p + 1), _, _, ?_, rfl, h9, rfl, fr_t hf hf9 (by decide), d58⟩
                     rw [eb]
                     exact if_neg q40)
                  | (refine Or.inl ⟨_, _, ?_, rfl, h', rfl, hf, c58⟩
                     rw [eb]
                     show rN ta tl (p + 1) = _
                     rw [eN (by omega)]
                     first
                       | (rw [if_pos q10]; done)
                       | (rw [if_neg q10]; done))
            · refine s_aload_n rfl (cn rfl) rfl ?_
              refine s_virt rfl (cn rfl) rfl rfl c58 rfl (m_here htl hq ht c58 c61) ?_
              rintro _ _ ⟨rfl, rfl⟩
              refine s_i2l rfl (cn rfl) ⟨by omega, by omega⟩ ?_
              refine s_ldc2_w rfl (cn rfl) ?_
              refine s_ldc2_w rfl (cn rfl) ?_
              refine s_stat rfl (cn rfl) rfl rfl rfl (m_in (by omega) (by omega) (by omega)) ?_
              rintro _ _ ⟨rfl, rfl⟩
              refine s_ifb_eq rfl (cn rfl) (cn rfl) (fun q40 => ?_) (fun q40 => ?_)
              · have eN : 1 ≤ k → rN ta tl (p + 1) = .inr (rNs ta tl (p + 1) + k, if hr ta tl (p + 1) = 45 then -x else x) := fun q => by
                  have e1 : rf ta tl 3 (rNs ta tl (p + 1)) 0 = (rNs ta tl (p + 1) + k, x) := by
                    rw [hx]
                    first
                      | (rw [show 3 - k = 0 by omega]; rfl)
                      | (rw [show 3 - k = (2 - k) + 1 by omega]; exact if_neg q40)
                  unfold rN
                  rw [if_pos (hs q), e1]
                refine s_aload_n rfl (cn rfl) rfl ?_
                refine s_getfield rfl (cn rfl) c58 rfl ?_
                refine s_iload_n rfl (cn rfl) rfl ?_
                refine s_icmp_ne rfl (cn rfl) (cn rfl) ⟨by omega, by omega⟩ ⟨by omega, by omega⟩ (fun q63 => ?_) (fun q63 => ?_)
                · refine s_iload_n rfl (cn rfl) rfl ?_
                  refine s_if_eq rfl (cn rfl) (cn rfl) (by decide) (fun q69 => absurd q69 (by decide)) (fun q69 => ?_)
                  refine s_iload_n rfl (cn rfl) rfl ?_
                  refine s_ineg rfl (cn rfl) ?_
                  refine s_goto rfl (cn rfl) ?_
                  refine s_ireturn rfl ?_
                  first
                    | (exfalso; omega)
                    | (have e0 : k = 0 := by omega
                       subst e0
                       refine Or.inr ⟨rNs ta tl (p + 1), _, _, ?_, rfl, h9, rfl, fr_t hf hf9 (by decide), d58⟩
                       rw [eb]
                       exact if_neg q40)
                    | (refine Or.inl ⟨_, _, ?_, rfl, h', rfl, hf, c58⟩
                       rw [eb]
                       show rN ta tl (p + 1) = _
                       rw [eN (by omega)]
                       first
                         | (rw [if_pos q10]; done)
                         | (rw [if_neg q10]; done))
                · refine s_aload_n rfl (cn rfl) rfl ?_
                  refine s_aload_n rfl (cn rfl) rfl ?_
                  refine s_getfield rfl (cn rfl) c58 rfl ?_
                  refine s_virt rfl (cn rfl) rfl rfl c58 rfl (m_wrong c58) ?_
                  rintro _ _ ⟨rfl, h9, rfl, hf9, d58⟩
                  refine s_iload_n rfl (cn rfl) rfl ?_
                  refine s_if_eq rfl (cn rfl) (cn rfl) (by decide) (fun q69 => absurd q69 (by decide)) (fun q69 => ?_)
                  refine s_iload_n rfl (cn rfl) rfl ?_
                  refine s_ineg rfl (cn rfl) ?_
                  refine s_goto rfl (cn rfl) ?_
                  refine s_ireturn rfl ?_
                  first
                    | (exfalso; omega)
                    | (have e0 : k = 0 := by omega
                       subst e0
                       refine Or.inr ⟨rNs ta tl (p + 1), _, _, ?_, rfl, h9, rfl, fr_t hf hf9 (by decide), d58⟩
                       rw [eb]
                       exact if_neg q40)
                    | (refine Or.inl ⟨_, _, ?_, rfl, h', rfl, hf, c58⟩
                       rw [eb]
                       show rN ta tl (p + 1) = _
                       rw [eN (by omega)]
                       first
                         | (rw [if_pos q10]; done)
                         | (rw [if_neg q10]; done))
              · have hin := hr_in (tp := ta) (tl := tl) (p := rNs ta tl (p + 1) + k) (by omega)
                have hht := hin.2
                refine s_bipush rfl (cn rfl) (by decide) ?_
                refine s_iload_n rfl (cn rfl) rfl ?_
                refine s_imul rfl (cn rfl) ?_
                refine s_aload_n rfl (cn rfl) rfl ?_
                refine s_getfield rfl (cn rfl) c58 rfl ?_
                refine s_aload_n rfl (cn rfl) rfl ?_
                refine s_getfield rfl (cn rfl) c58 rfl ?_
                refine s_iaload rfl (cn rfl) _ rfl c61 rfl (by omega) (by decide) rfl ?_
                refine s_iadd rfl (cn rfl) ?_
                refine s_bipush rfl (cn rfl) (by decide) ?_
                refine s_isub rfl (cn rfl) ?_
                refine s_istore_n rfl (cn rfl) ?_
                refine s_aload_n rfl (cn rfl) rfl ?_
                refine s_dupr rfl (cn rfl) ?_
                refine s_getfield rfl (cn rfl) c58 rfl ?_
                refine s_iconst rfl (cn rfl) ?_
                refine s_iadd rfl (cn rfl) ?_
                refine s_puti rfl (cn rfl) rfl c58 rfl ?_
                refine s_goto rfl (ch rfl) ?_
                exact ih28 (by omega) _ rfl _ _ (by have := (hr_in (tp := ta) (tl := tl) (p := rNs ta tl (p + 1) + k) (by omega)).1; omega) rr_set_eq (fr_s (by decide) hf) (by rw [hx, show 3 - k = (2 - k) + 1 by omega]; show (if 48 ≤ hr ta tl (rNs ta tl (p + 1) + k) ∧ hr ta tl (rNs ta tl (p + 1) + k) ≤ 57 then _ else _) = _; rw [if_pos q40, show 2 - k = 3 - (k + 1) by omega, hht, show 10 * x + ta (rNs ta tl (p + 1) + k) - 48 = x * 10 + ta (rNs ta tl (p + 1) + k) - 48 by omega]; rfl) (fun _ => by
                    by_cases e : k = 0
                    · subst e; exact q40
                    · exact hs (by omega)) (by omega)
          exact lp28 0 (by omega) (p + 1 + 1) es.symm _ 0 (by rw [es]; omega) (by rw [es]; exact rr_set_eq) (fr_s (by decide) hf1) rfl (fun q => absurd q (by omega)) (by omega)
    · first
      | (exact absurd rfl q4)
      | skip
        refine s_iconst rfl (cn rfl) ?_
        refine s_ireturn rfl ?_
        exact Or.inr ⟨p, 0, _, by rw [eb]; rfl, rfl, h1, rfl, hf1, c58⟩
  · refine s_aload_n rfl (cn rfl) rfl ?_
    refine s_getfield rfl (cn rfl) c58 rfl ?_
    refine s_if_eq rfl (cn rfl) (cn rfl) ⟨by omega, by omega⟩ (fun q4 => ?_) (fun q4 => ?_)
    · first
      | (exact absurd q4 (by decide))
      | skip
        refine s_aload_n rfl (cn rfl) rfl ?_
        refine s_virt rfl (cn rfl) rfl rfl c58 rfl (m_here htl lb ht c58 c61) ?_
        rintro _ _ ⟨rfl, rfl⟩
        refine s_bipush rfl (cn rfl) (by decide) ?_
        refine s_icmp_ne rfl (cn rfl) (cn rfl) ⟨by omega, by omega⟩ ⟨by omega, by omega⟩ (fun q10 => ?_) (fun q10 => ?_)
        · refine s_iconst rfl (cn rfl) ?_
          refine s_istore_n rfl (cn rfl) ?_
          refine s_iload_n rfl (cn rfl) rfl ?_
          refine s_if_eq rfl (cn rfl) (cn rfl) (by decide) (fun q16 => ?_) (fun q16 => absurd q16 (by decide))
          have es : rNs ta tl (p + 1) = p + 1 := if_neg q10
          refine s_aload_n rfl (cn rfl) rfl ?_
          refine s_getfield rfl (cn rfl) c58 rfl ?_
          refine s_istore_n rfl (cn rfl) ?_
          refine s_iconst rfl (cn rfl) ?_
          refine s_istore_n rfl (ch rfl) ?_
          have lp28 : ∀ k : Nat, k ≤ 3 → ∀ (s : Nat) (hs0 : s = rNs ta tl (p + 1)) (h' : Nat → Option rr_E) (x : Int) (hq : rNs ta tl (p + 1) + k ≤ tl) (c58 : h' 58 = some (MO (n : Int) kp (tl : Int) ((rNs ta tl (p + 1) + k : Nat) : Int) 0 fa dm ce di be od sm le sc ba bb ti rk ts tm pa wa)) (hf : fr [58] h h') (hx : rf ta tl 3 (rNs ta tl (p + 1)) 0 = rf ta tl (3 - k) (rNs ta tl (p + 1) + k) x) (hs : 1 ≤ k → 48 ≤ hr ta tl (rNs ta tl (p + 1)) ∧ hr ta tl (rNs ta tl (p + 1)) ≤ 57) (hb : 0 ≤ x ∧ x ≤ 999 ∧ (k = 0 → x = 0) ∧ (k = 1 → x ≤ 9) ∧ (k = 2 → x ≤ 99)), K 28 [some (.ref 58), some (.int (ii 0)), some (.int (ii (s : Int))), some (.int (ii x))] [] (N, S, h') := by
            refine dn (fun k hk ih28 => ?_)
            intro s hs0 h' x hq c58 hf hx hs hb
            subst hs0
            have c61 := (hf 61 (by decide)).trans c61o
            have hb2 := hr_b ht (rNs ta tl (p + 1) + k)
            refine hK _ _ _ _ ?_
            refine s_aload_n rfl (cn rfl) rfl ?_
            refine s_getfield rfl (cn rfl) c58 rfl ?_
            refine s_iload_n rfl (cn rfl) rfl ?_
            refine s_iconst rfl (cn rfl) ?_
            refine s_iadd rfl (cn rfl) ?_
            refine s_icmp_ge rfl (cn rfl) (cn rfl) ⟨by omega, by omega⟩ ⟨by omega, by omega⟩ (fun q33 => ?_) (fun q33 => ?_)
            · have eN : 1 ≤ k → rN ta tl (p + 1) = .inr (rNs ta tl (p + 1) + k, if hr ta tl (p + 1) = 45 then -x else x) := fun q => by
                have e1 : rf ta tl 3 (rNs ta tl (p + 1)) 0 = (rNs ta tl (p + 1) + k, x) := by
                  rw [hx]
                  first
                    | (rw [show 3 - k = 0 by omega]; rfl)
                    | (rw [show 3 - k = (2 - k) + 1 by omega]; exact if_neg q40)
                unfold rN
                rw [if_pos (hs q), e1]
              refine s_aload_n rfl (cn rfl) rfl ?_
              refine s_getfield rfl (cn rfl) c58 rfl ?_
              refine s_iload_n rfl (cn rfl) rfl ?_
              refine s_icmp_ne rfl (cn rfl) (cn rfl) ⟨by omega, by omega⟩ ⟨by omega, by omega⟩ (fun q63 => ?_) (fun q63 => ?_)
              · refine s_iload_n rfl (cn rfl) rfl ?_
                refine s_if_eq rfl (cn rfl) (cn rfl) (by decide) (fun q69 => ?_) (fun q69 => absurd q69 (by decide))
                refine s_iload_n rfl (cn rfl) rfl ?_
                refine s_ireturn rfl ?_
                first
                  | (exfalso; omega)
                  | (have e0 : k = 0 := by omega
                     subst e0
                     refine Or.inr ⟨rNs ta tl (p + 1), _, _, ?_, rfl, h9, rfl, fr_t hf hf9 (by decide), d58⟩
                     rw [eb]
                     exact if_neg q40)
                  | (refine Or.inl ⟨_, _, ?_, rfl, h', rfl, hf, c58⟩
                     rw [eb]
                     show rN ta tl (p + 1) = _
                     rw [eN (by omega)]
                     first
                       | (rw [if_pos q10]; done)
                       | (rw [if_neg q10]; done))
              · refine s_aload_n rfl (cn rfl) rfl ?_
                refine s_aload_n rfl (cn rfl) rfl ?_
                refine s_getfield rfl (cn rfl) c58 rfl ?_
                refine s_virt rfl (cn rfl) rfl rfl c58 rfl (m_wrong c58) ?_
                rintro _ _ ⟨rfl, h9, rfl, hf9, d58⟩
                refine s_iload_n rfl (cn rfl) rfl ?_
                refine s_if_eq rfl (cn rfl) (cn rfl) (by decide) (fun q69 => ?_) (fun q69 => absurd q69 (by decide))
                refine s_iload_n rfl (cn rfl) rfl ?_
                refine s_ireturn rfl ?_
                first
                  | (exfalso; omega)
                  | (have e0 : k = 0 := by omega
                     subst e0
                     refine Or.inr ⟨rNs ta tl (p + 1), _, _, ?_, rfl, h9, rfl, fr_t hf hf9 (by decide), d58⟩
                     rw [eb]
                     exact if_neg q40)
                  | (refine Or.inl ⟨_, _, ?_, rfl, h', rfl, hf, c58⟩
                     rw [eb]
                     show rN ta tl (p + 1) = _
                     rw [eN (by omega)]
                     first
                       | (rw [if_pos q10]; done)
                       | (rw [if_neg q10]; done))
            · refine s_aload_n rfl (cn rfl) rfl ?_
              refine s_virt rfl (cn rfl) rfl rfl c58 rfl (m_here htl hq ht c58 c61) ?_
              rintro _ _ ⟨rfl, rfl⟩
              refine s_i2l rfl (cn rfl) ⟨by omega, by omega⟩ ?_
              refine s_ldc2_w rfl (cn rfl) ?_
              refine s_ldc2_w rfl (cn rfl) ?_
              refine s_stat rfl (cn rfl) rfl rfl rfl (m_in (by omega) (by omega) (by omega)) ?_
              rintro _ _ ⟨rfl, rfl⟩
              refine s_ifb_eq rfl (cn rfl) (cn rfl) (fun q40 => ?_) (fun q40 => ?_)
              · have eN : 1 ≤ k → rN ta tl (p + 1) = .inr (rNs ta tl (p + 1) + k, if hr ta tl (p + 1) = 45 then -x else x) := fun q => by
                  have e1 : rf ta tl 3 (rNs ta tl (p + 1)) 0 = (rNs ta tl (p + 1) + k, x) := by
                    rw [hx]
                    first
                      | (rw [show 3 - k = 0 by omega]; rfl)
                      | (rw [show 3 - k = (2 - k) + 1 by omega]; exact if_neg q40)
                  unfold rN
                  rw [if_pos (hs q), e1]
                refine s_aload_n rfl (cn rfl) rfl ?_
                refine s_getfield rfl (cn rfl) c58 rfl ?_
                refine s_iload_n rfl (cn rfl) rfl ?_
                refine s_icmp_ne rfl (cn rfl) (cn rfl) ⟨by omega, by omega⟩ ⟨by omega, by omega⟩ (fun q63 => ?_) (fun q63 => ?_)
                · refine s_iload_n rfl (cn rfl) rfl ?_
                  refine s_if_eq rfl (cn rfl) (cn rfl) (by decide) (fun q69 => ?_) (fun q69 => absurd q69 (by decide))
                  refine s_iload_n rfl (cn rfl) rfl ?_
                  refine s_ireturn rfl ?_
                  first
                    | (exfalso; omega)
                    | (have e0 : k = 0 := by omega
                       subst e0
                       refine Or.inr ⟨rNs ta tl (p + 1), _, _, ?_, rfl, h9, rfl, fr_t hf hf9 (by decide), d58⟩
                       rw [eb]
                       exact if_neg q40)
                    | (refine Or.inl ⟨_, _, ?_, rfl, h', rfl, hf, c58⟩
                       rw [eb]
                       show rN ta tl (p + 1) = _
                       rw [eN (by omega)]
                       first
                         | (rw [if_pos q10]; done)
                         | (rw [if_neg q10]; done))
                · refine s_aload_n rfl (cn rfl) rfl ?_
                  refine s_aload_n rfl (cn rfl) rfl ?_
                  refine s_getfield rfl (cn rfl) c58 rfl ?_
                  refine s_virt rfl (cn rfl) rfl rfl c58 rfl (m_wrong c58) ?_
                  rintro _ _ ⟨rfl, h9, rfl, hf9, d58⟩
                  refine s_iload_n rfl (cn rfl) rfl ?_
                  refine s_if_eq rfl (cn rfl) (cn rfl) (by decide) (fun q69 => ?_) (fun q69 => absurd q69 (by decide))
                  refine s_iload_n rfl (cn rfl) rfl ?_
                  refine s_ireturn rfl ?_
                  first
                    | (exfalso; omega)
                    | (have e0 : k = 0 := by omega
                       subst e0
                       refine Or.inr ⟨rNs ta tl (p + 1), _, _, ?_, rfl, h9, rfl, fr_t hf hf9 (by decide), d58⟩
                       rw [eb]
                       exact if_neg q40)
                    | (refine Or.inl ⟨_, _, ?_, rfl, h', rfl, hf, c58⟩
                       rw [eb]
                       show rN ta tl (p + 1) = _
                       rw [eN (by omega)]
                       first
                         | (rw [if_pos q10]; done)
                         | (rw [if_neg q10]; done))
              · have hin := hr_in (tp := ta) (tl := tl) (p := rNs ta tl (p + 1) + k) (by omega)
                have hht := hin.2
                refine s_bipush rfl (cn rfl) (by decide) ?_
                refine s_iload_n rfl (cn rfl) rfl ?_
                refine s_imul rfl (cn rfl) ?_
                refine s_aload_n rfl (cn rfl) rfl ?_
                refine s_getfield rfl (cn rfl) c58 rfl ?_
                refine s_aload_n rfl (cn rfl) rfl ?_
                refine s_getfield rfl (cn rfl) c58 rfl ?_
                refine s_iaload rfl (cn rfl) _ rfl c61 rfl (by omega) (by decide) rfl ?_
                refine s_iadd rfl (cn rfl) ?_
                refine s_bipush rfl (cn rfl) (by decide) ?_
                refine s_isub rfl (cn rfl) ?_
                refine s_istore_n rfl (cn rfl) ?_
                refine s_aload_n rfl (cn rfl) rfl ?_
                refine s_dupr rfl (cn rfl) ?_
                refine s_getfield rfl (cn rfl) c58 rfl ?_
                refine s_iconst rfl (cn rfl) ?_
                refine s_iadd rfl (cn rfl) ?_
                refine s_puti rfl (cn rfl) rfl c58 rfl ?_
                refine s_goto rfl (ch rfl) ?_
                exact ih28 (by omega) _ rfl _ _ (by have := (hr_in (tp := ta) (tl := tl) (p := rNs ta tl (p + 1) + k) (by omega)).1; omega) rr_set_eq (fr_s (by decide) hf) (by rw [hx, show 3 - k = (2 - k) + 1 by omega]; show (if 48 ≤ hr ta tl (rNs ta tl (p + 1) + k) ∧ hr ta tl (rNs ta tl (p + 1) + k) ≤ 57 then _ else _) = _; rw [if_pos q40, show 2 - k = 3 - (k + 1) by omega, hht, show 10 * x + ta (rNs ta tl (p + 1) + k) - 48 = x * 10 + ta (rNs ta tl (p + 1) + k) - 48 by omega]; rfl) (fun _ => by
                    by_cases e : k = 0
                    · subst e; exact q40
                    · exact hs (by omega)) (by omega)
          exact lp28 0 (by omega) (p + 1) es.symm _ 0 (by rw [es]; exact lb) (by rw [es]; exact c58) hf1 rfl (fun q => absurd q (by omega)) (by omega)
        · refine s_iconst rfl (cn rfl) ?_
          refine s_goto rfl (cn rfl) ?_
          refine s_istore_n rfl (cn rfl) ?_
          refine s_iload_n rfl (cn rfl) rfl ?_
          refine s_if_eq rfl (cn rfl) (cn rfl) (by decide) (fun q16 => absurd q16 (by decide)) (fun q16 => ?_)
          have es : rNs ta tl (p + 1) = p + 1 + 1 := if_pos q10
          have lb2 : p + 1 + 1 ≤ tl := (hr_in (tp := ta) (tl := tl) (p := p + 1) (by omega)).1
          refine s_aload_n rfl (cn rfl) rfl ?_
          refine s_dupr rfl (cn rfl) ?_
          refine s_getfield rfl (cn rfl) c58 rfl ?_
          refine s_iconst rfl (cn rfl) ?_
          refine s_iadd rfl (cn rfl) ?_
          refine s_puti rfl (cn rfl) rfl c58 rfl ?_
          
          refine s_aload_n rfl (cn rfl) rfl ?_
          refine s_getfield rfl (cn rfl) rr_set_eq rfl ?_
          refine s_istore_n rfl (cn rfl) ?_
          refine s_iconst rfl (cn rfl) ?_
          refine s_istore_n rfl (ch rfl) ?_
          have lp28 : ∀ k : Nat, k ≤ 3 → ∀ (s : Nat) (hs0 : s = rNs ta tl (p + 1)) (h' : Nat → Option rr_E) (x : Int) (hq : rNs ta tl (p + 1) + k ≤ tl) (c58 : h' 58 = some (MO (n : Int) kp (tl : Int) ((rNs ta tl (p + 1) + k : Nat) : Int) 0 fa dm ce di be od sm le sc ba bb ti rk ts tm pa wa)) (hf : fr [58] h h') (hx : rf ta tl 3 (rNs ta tl (p + 1)) 0 = rf ta tl (3 - k) (rNs ta tl (p + 1) + k) x) (hs : 1 ≤ k → 48 ≤ hr ta tl (rNs ta tl (p + 1)) ∧ hr ta tl (rNs ta tl (p + 1)) ≤ 57) (hb : 0 ≤ x ∧ x ≤ 999 ∧ (k = 0 → x = 0) ∧ (k = 1 → x ≤ 9) ∧ (k = 2 → x ≤ 99)), K 28 [some (.ref 58), some (.int (ii 1)), some (.int (ii (s : Int))), some (.int (ii x))] [] (N, S, h') := by
            refine dn (fun k hk ih28 => ?_)
            intro s hs0 h' x hq c58 hf hx hs hb
            subst hs0
            have c61 := (hf 61 (by decide)).trans c61o
            have hb2 := hr_b ht (rNs ta tl (p + 1) + k)
            refine hK _ _ _ _ ?_
            refine s_aload_n rfl (cn rfl) rfl ?_
            refine s_getfield rfl (cn rfl) c58 rfl ?_
            refine s_iload_n rfl (cn rfl) rfl ?_
            refine s_iconst rfl (cn rfl) ?_
            refine s_iadd rfl (cn rfl) ?_
            refine s_icmp_ge rfl (cn rfl) (cn rfl) ⟨by omega, by omega⟩ ⟨by omega, by omega⟩ (fun q33 => ?_) (fun q33 => ?_)
            · have eN : 1 ≤ k → rN ta tl (p + 1) = .inr (rNs ta tl (p + 1) + k, if hr ta tl (p + 1) = 45 then -x else x) := fun q => by
                have e1 : rf ta tl 3 (rNs ta tl (p + 1)) 0 = (rNs ta tl (p + 1) + k, x) := by
                  rw [hx]
                  first
                    | (rw [show 3 - k = 0 by omega]; rfl)
                    | (rw [show 3 - k = (2 - k) + 1 by omega]; exact if_neg q40)
                unfold rN
                rw [if_pos (hs q), e1]
              refine s_aload_n rfl (cn rfl) rfl ?_
              refine s_getfield rfl (cn rfl) c58 rfl ?_
              refine s_iload_n rfl (cn rfl) rfl ?_
              refine s_icmp_ne rfl (cn rfl) (cn rfl) ⟨by omega, by omega⟩ ⟨by omega, by omega⟩ (fun q63 => ?_) (fun q63 => ?_)
              · refine s_iload_n rfl (cn rfl) rfl ?_
                refine s_if_eq rfl (cn rfl) (cn rfl) (by decide) (fun q69 => absurd q69 (by decide)) (fun q69 => ?_)
                refine s_iload_n rfl (cn rfl) rfl ?_
                refine s_ineg rfl (cn rfl) ?_
                refine s_goto rfl (cn rfl) ?_
                refine s_ireturn rfl ?_
                first
                  | (exfalso; omega)
                  | (have e0 : k = 0 := by omega
                     subst e0
                     refine Or.inr ⟨rNs ta tl (p + 1), _, _, ?_, rfl, h9, rfl, fr_t hf hf9 (by decide), d58⟩
                     rw [eb]
                     exact if_neg q40)
                  | (refine Or.inl ⟨_, _, ?_, rfl, h', rfl, hf, c58⟩
                     rw [eb]
                     show rN ta tl (p + 1) = _
                     rw [eN (by omega)]
                     first
                       | (rw [if_pos q10]; done)
                       | (rw [if_neg q10]; done))
              · refine s_aload_n rfl (cn rfl) rfl ?_
                refine s_aload_n rfl (cn rfl) rfl ?_
                refine s_getfield rfl (cn rfl) c58 rfl ?_
                refine s_virt rfl (cn rfl) rfl rfl c58 rfl (m_wrong c58) ?_
                rintro _ _ ⟨rfl, h9, rfl, hf9, d58⟩
                refine s_iload_n rfl (cn rfl) rfl ?_
                refine s_if_eq rfl (cn rfl) (cn rfl) (by decide) (fun q69 => absurd q69 (by decide)) (fun q69 => ?_)
                refine s_iload_n rfl (cn rfl) rfl ?_
                refine s_ineg rfl (cn rfl) ?_
                refine s_goto rfl (cn rfl) ?_
                refine s_ireturn rfl ?_
                first
                  | (exfalso; omega)
                  | (have e0 : k = 0 := by omega
                     subst e0
                     refine Or.inr ⟨rNs ta tl (p + 1), _, _, ?_, rfl, h9, rfl, fr_t hf hf9 (by decide), d58⟩
                     rw [eb]
                     exact if_neg q40)
                  | (refine Or.inl ⟨_, _, ?_, rfl, h', rfl, hf, c58⟩
                     rw [eb]
                     show rN ta tl (p + 1) = _
                     rw [eN (by omega)]
                     first
                       | (rw [if_pos q10]; done)
                       | (rw [if_neg q10]; done))
            · refine s_aload_n rfl (cn rfl) rfl ?_
              refine s_virt rfl (cn rfl) rfl rfl c58 rfl (m_here htl hq ht c58 c61) ?_
              rintro _ _ ⟨rfl, rfl⟩
              refine s_i2l rfl (cn rfl) ⟨by omega, by omega⟩ ?_
              refine s_ldc2_w rfl (cn rfl) ?_
              refine s_ldc2_w rfl (cn rfl) ?_
              refine s_stat rfl (cn rfl) rfl rfl rfl (m_in (by omega) (by omega) (by omega)) ?_
              rintro _ _ ⟨rfl, rfl⟩
              refine s_ifb_eq rfl (cn rfl) (cn rfl) (fun q40 => ?_) (fun q40 => ?_)
              · have eN : 1 ≤ k → rN ta tl (p + 1) = .inr (rNs ta tl (p + 1) + k, if hr ta tl (p + 1) = 45 then -x else x) := fun q => by
                  have e1 : rf ta tl 3 (rNs ta tl (p + 1)) 0 = (rNs ta tl (p + 1) + k, x) := by
                    rw [hx]
                    first
                      | (rw [show 3 - k = 0 by omega]; rfl)
                      | (rw [show 3 - k = (2 - k) + 1 by omega]; exact if_neg q40)
                  unfold rN
                  rw [if_pos (hs q), e1]
                refine s_aload_n rfl (cn rfl) rfl ?_
                refine s_getfield rfl (cn rfl) c58 rfl ?_
                refine s_iload_n rfl (cn rfl) rfl ?_
                refine s_icmp_ne rfl (cn rfl) (cn rfl) ⟨by omega, by omega⟩ ⟨by omega, by omega⟩ (fun q63 => ?_) (fun q63 => ?_)
                · refine s_iload_n rfl (cn rfl) rfl ?_
                  refine s_if_eq rfl (cn rfl) (cn rfl) (by decide) (fun q69 => absurd q69 (by decide)) (fun q69 => ?_)
                  refine s_iload_n rfl (cn rfl) rfl ?_
                  refine s_ineg rfl (cn rfl) ?_
                  refine s_goto rfl (cn rfl) ?_
                  refine s_ireturn rfl ?_
                  first
                    | (exfalso; omega)
                    | (have e0 : k = 0 := by omega
                       subst e0
                       refine Or.inr ⟨rNs ta tl (p + 1), _, _, ?_, rfl, h9, rfl, fr_t hf hf9 (by decide), d58⟩
                       rw [eb]
                       exact if_neg q40)
                    | (refine Or.inl ⟨_, _, ?_, rfl, h', rfl, hf, c58⟩
                       rw [eb]
                       show rN ta tl (p + 1) = _
                       rw [eN (by omega)]
                       first
                         | (rw [if_pos q10]; done)
                         | (rw [if_neg q10]; done))
                · refine s_aload_n rfl (cn rfl) rfl ?_
                  refine s_aload_n rfl (cn rfl) rfl ?_
                  refine s_getfield rfl (cn rfl) c58 rfl ?_
                  refine s_virt rfl (cn rfl) rfl rfl c58 rfl (m_wrong c58) ?_
                  rintro _ _ ⟨rfl, h9, rfl, hf9, d58⟩
                  refine s_iload_n rfl (cn rfl) rfl ?_
                  refine s_if_eq rfl (cn rfl) (cn rfl) (by decide) (fun q69 => absurd q69 (by decide)) (fun q69 => ?_)
                  refine s_iload_n rfl (cn rfl) rfl ?_
                  refine s_ineg rfl (cn rfl) ?_
                  refine s_goto rfl (cn rfl) ?_
                  refine s_ireturn rfl ?_
                  first
                    | (exfalso; omega)
                    | (have e0 : k = 0 := by omega
                       subst e0
                       refine Or.inr ⟨rNs ta tl (p + 1), _, _, ?_, rfl, h9, rfl, fr_t hf hf9 (by decide), d58⟩
                       rw [eb]
                       exact if_neg q40)
                    | (refine Or.inl ⟨_, _, ?_, rfl, h', rfl, hf, c58⟩
                       rw [eb]
                       show rN ta tl (p + 1) = _
                       rw [eN (by omega)]
                       first
                         | (rw [if_pos q10]; done)
                         | (rw [if_neg q10]; done))
              · have hin := hr_in (tp := ta) (tl := tl) (p := rNs ta tl (p + 1) + k) (by omega)
                have hht := hin.2
                refine s_bipush rfl (cn rfl) (by decide) ?_
                refine s_iload_n rfl (cn rfl) rfl ?_
                refine s_imul rfl (cn rfl) ?_
                refine s_aload_n rfl (cn rfl) rfl ?_
                refine s_getfield rfl (cn rfl) c58 rfl ?_
                refine s_aload_n rfl (cn rfl) rfl ?_
                refine s_getfield rfl (cn rfl) c58 rfl ?_
                refine s_iaload rfl (cn rfl) _ rfl c61 rfl (by omega) (by decide) rfl ?_
                refine s_iadd rfl (cn rfl) ?_
                refine s_bipush rfl (cn rfl) (by decide) ?_
                refine s_isub rfl (cn rfl) ?_
                refine s_istore_n rfl (cn rfl) ?_
                refine s_aload_n rfl (cn rfl) rfl ?_
                refine s_dupr rfl (cn rfl) ?_
                refine s_getfield rfl (cn rfl) c58 rfl ?_
                refine s_iconst rfl (cn rfl) ?_
                refine s_iadd rfl (cn rfl) ?_
                refine s_puti rfl (cn rfl) rfl c58 rfl ?_
                refine s_goto rfl (ch rfl) ?_
                exact ih28 (by omega) _ rfl _ _ (by have := (hr_in (tp := ta) (tl := tl) (p := rNs ta tl (p + 1) + k) (by omega)).1; omega) rr_set_eq (fr_s (by decide) hf) (by rw [hx, show 3 - k = (2 - k) + 1 by omega]; show (if 48 ≤ hr ta tl (rNs ta tl (p + 1) + k) ∧ hr ta tl (rNs ta tl (p + 1) + k) ≤ 57 then _ else _) = _; rw [if_pos q40, show 2 - k = 3 - (k + 1) by omega, hht, show 10 * x + ta (rNs ta tl (p + 1) + k) - 48 = x * 10 + ta (rNs ta tl (p + 1) + k) - 48 by omega]; rfl) (fun _ => by
                    by_cases e : k = 0
                    · subst e; exact q40
                    · exact hs (by omega)) (by omega)
          exact lp28 0 (by omega) (p + 1 + 1) es.symm _ 0 (by rw [es]; omega) (by rw [es]; exact rr_set_eq) (fr_s (by decide) hf1) rfl (fun q => absurd q (by omega)) (by omega)
    · first
      | (exact absurd rfl q4)
      | skip
        refine s_iconst rfl (cn rfl) ?_
        refine s_ireturn rfl ?_
        exact Or.inr ⟨p, 0, _, by rw [eb]; rfl, rfl, h1, rfl, hf1, c58⟩
theorem m_group0 {d N S n : Nat} {kp fa dm ce di be od sm le sc ba bb ti rk ts tm pa wa : Int} {h : Nat → Option rr_E}  {tl p : Nat} {ta : Nat → Int} (htl : tl ≤ 100) (hp : p ≤ tl) (ht : ∀ p, p < tl → 1 ≤ ta p ∧ ta p ≤ 127) (c58 : h 58 = some (MO (n : Int) kp (tl : Int) (p : Int) 0 fa dm ce di be od sm le sc ba bb ti rk ts tm pa wa)) (c61 : h 61 = some (.inl (0, 100, .inl (fun k => ii (ta k))))) : rr_Calls (d + 3) j_Model_group [.ref 58] (N, S, h) (fun r R => (∃ (q : Nat) (x : Int), sb (rB ta tl p) (rG ta tl) = .inr (q, x) ∧ r = some (.int (ii x)) ∧ ∃ h', R = (N, S, h') ∧ fr [58] h h' ∧ h' 58 = some (MO (n : Int) kp (tl : Int) (q : Int) 0 fa dm ce di be od sm le sc ba bb ti rk ts tm pa wa)) ∨ (∃ (f : Nat) (r0 pt2 : Int), sb (rB ta tl p) (rG ta tl) = .inl f ∧ r = some (.int (ii r0)) ∧ ∃ h', R = (N, S, h') ∧ fr [58] h h' ∧ h' 58 = some (MO (n : Int) kp (tl : Int) pt2 1 (f : Int) dm ce di be od sm le sc ba bb ti rk ts tm pa wa))) := by
  refine rr_meth (C := K_Model_group) (hd := h_Model_group) (mx := 5) rfl rfl (fun K hK => ?_)
  refine hK _ _ _ _ ?_
  refine s_aload_n rfl (cn rfl) rfl ?_
  refine s_virt rfl (cn rfl) rfl rfl c58 rfl (m_blank0 htl hp ht c58 c61) ?_
  rintro _ _ ⟨rfl, (⟨eb, lb, h1, rfl, hf1, c58⟩ | ⟨eb, h1, rfl, hf1, c58⟩)⟩
  · have c61 := (hf1 61 (by decide)).trans c61
    obtain ⟨pl1, pl2, pl3, pl4⟩ := pl_s (tp := ta) lb
    refine s_aload_n rfl (cn rfl) rfl ?_
    refine s_getfield rfl (cn rfl) c58 rfl ?_
    refine s_if_eq rfl (cn rfl) (cn rfl) ⟨by omega, by omega⟩ (fun q4 => ?_) (fun q4 => ?_)
    · first
      | (exact absurd q4 (by decide))
      | skip
        refine s_aload_n rfl (cn rfl) rfl ?_
        refine s_virt rfl (cn rfl) rfl rfl c58 rfl (m_letters htl lb ht c58 c61) ?_
        rintro _ _ ⟨rfl, h2, rfl, hf2, c58⟩
        have c61 := (hf2 61 (by decide)).trans c61
        have hF := fr_t hf1 hf2 (by decide)
        refine s_istore_n rfl (cn rfl) ?_
        refine s_iconst rfl (cn rfl) ?_
        refine s_istore_n rfl (cn rfl) ?_
        refine s_aload_n rfl (cn rfl) rfl ?_
        refine s_getfield rfl (cn rfl) c58 rfl ?_
        refine s_iload_n rfl (cn rfl) rfl ?_
        refine s_icmp_le rfl (cn rfl) (cn rfl) ⟨by omega, by omega⟩ ⟨by omega, by omega⟩ (fun q15 => ?_) (fun q15 => ?_)
        · refine s_iconst rfl (cn rfl) ?_
          refine s_istore_n rfl (cn rfl) ?_
          refine s_iload_n rfl (cn rfl) rfl ?_
          refine s_istore rfl (ch rfl) ?_
          have lp22 : ∀ i : Nat, i ≤ plN ta tl (p + 1) → ∀ (x : Int) (w : Nat) (hpi : p + 1 ≤ i) (hx : x = 0 ∨ x = 1) (e1 : x = 1 ↔ (p + 1 < plN ta tl (p + 1) ∧ ∀ j, p + 1 ≤ j → j < i → ta j ≤ 100 ∧ (p + 1 < j → ta (j - 1) < ta j))) (e2 : x = 1 → w = gS ta (p + 1) (i - (p + 1))) (hw : w < 16), K 22 [some (.ref 58), some (.int (ii ((p + 1 : Nat) : Int))), some (.int (ii (w : Int))), some (.int (ii x)), some (.int (ii (i : Int)))] [] (N, S, h2) := by
            refine dn (fun i hi ih22 => ?_)
            intro x w hpi hx e1 e2 hw
            refine hK _ _ _ _ ?_
            refine s_iload rfl (cn rfl) rfl ?_
            refine s_aload_n rfl (cn rfl) rfl ?_
            refine s_getfield rfl (cn rfl) c58 rfl ?_
            refine s_icmp_ge rfl (cn rfl) (cn rfl) ⟨by omega, by omega⟩ ⟨by omega, by omega⟩ (fun q25 => ?_) (fun q25 => ?_)
            · refine s_iload_n rfl (cn rfl) rfl ?_
              refine s_if_ne rfl (cn rfl) (cn rfl) ⟨by omega, by omega⟩ (fun q70 => ?_) (fun q70 => ?_)
              · refine s_iload_n rfl (cn rfl) rfl ?_
                refine s_ireturn rfl ?_
                first
                  | (refine Or.inl ⟨plN ta tl (p + 1), _, ?_, rfl, h2, rfl, hF, c58⟩
                     have ei : i = plN ta tl (p + 1) := by omega
                     have e3 := e1.mp (by omega)
                     rw [eb]
                     show rG ta tl (p + 1) = _
                     unfold rG
                     rw [ci_y ⟨e3.1, fun j j1 j2 => e3.2 j j1 (by omega)⟩, e2 (by omega), ei]
                     done)
                  | (refine Or.inr ⟨p + 1, _, _, ?_, rfl, h9, rfl, fr_t hF hf9 (by decide), d58⟩
                     rw [eb]
                     show rG ta tl (p + 1) = _
                     unfold rG
                     exact ci_n (fun q => by
                       have := e1.mpr ⟨q.1, fun j j1 j2 => q.2 j j1 (by omega)⟩
                       omega))
              · refine s_aload_n rfl (cn rfl) rfl ?_
                refine s_iload_n rfl (cn rfl) rfl ?_
                refine s_virt rfl (cn rfl) rfl rfl c58 rfl (m_wrong c58) ?_
                rintro _ _ ⟨rfl, h9, rfl, hf9, d58⟩
                refine s_iload_n rfl (cn rfl) rfl ?_
                refine s_ireturn rfl ?_
                first
                  | (refine Or.inl ⟨plN ta tl (p + 1), _, ?_, rfl, h2, rfl, hF, c58⟩
                     have ei : i = plN ta tl (p + 1) := by omega
                     have e3 := e1.mp (by omega)
                     rw [eb]
                     show rG ta tl (p + 1) = _
                     unfold rG
                     rw [ci_y ⟨e3.1, fun j j1 j2 => e3.2 j j1 (by omega)⟩, e2 (by omega), ei]
                     done)
                  | (refine Or.inr ⟨p + 1, _, _, ?_, rfl, h9, rfl, fr_t hF hf9 (by decide), d58⟩
                     rw [eb]
                     show rG ta tl (p + 1) = _
                     unfold rG
                     exact ci_n (fun q => by
                       have := e1.mpr ⟨q.1, fun j j1 j2 => q.2 j j1 (by omega)⟩
                       omega))
            · have la := isL_lt (pl3 i hpi (by omega))
              refine s_iload_n rfl (cn rfl) rfl ?_
              refine s_if_eq rfl (cn rfl) (cn rfl) ⟨by omega, by omega⟩ (fun q27 => ?_) (fun q27 => ?_)
              · refine s_iconst rfl (cn rfl) ?_
                refine s_istore_n rfl (cn rfl) ?_
                refine s_iload_n rfl (cn rfl) rfl ?_
                refine s_iload_n rfl (cn rfl) rfl ?_
                refine s_if_eq rfl (cn rfl) (cn rfl) (by decide) (fun q54 => ?_) (fun q54 => absurd q54 (by decide))
                refine s_iconst rfl (cn rfl) ?_
                refine s_ior rfl (cn rfl) _ (bi_or _ 0) ?_
                refine s_istore_n rfl (cn rfl) ?_
                refine s_iinc rfl (cn rfl) rfl ?_
                refine s_goto rfl (ch rfl) ?_
                exact ih22 (by omega) 0 _ (by omega) (Or.inl rfl) ⟨fun q => absurd q (by decide), fun q => by
                    have := e1.mpr ⟨q.1, fun j j1 j2 => q.2 j j1 (by omega)⟩
                    omega⟩ (fun q => absurd q (by decide)) (by rw [Nat.or_zero]; exact hw)
              · refine s_aload_n rfl (cn rfl) rfl ?_
                refine s_getfield rfl (cn rfl) c58 rfl ?_
                refine s_iload rfl (cn rfl) rfl ?_
                refine s_iaload rfl (cn rfl) _ rfl c61 rfl (by omega) (by decide) rfl ?_
                refine s_bipush rfl (cn rfl) (by decide) ?_
                refine s_icmp_gt rfl (cn rfl) (cn rfl) ⟨by omega, by omega⟩ ⟨by omega, by omega⟩ (fun q33 => ?_) (fun q33 => ?_)
                · refine s_iconst rfl (cn rfl) ?_
                  refine s_istore_n rfl (cn rfl) ?_
                  refine s_iload_n rfl (cn rfl) rfl ?_
                  refine s_iload_n rfl (cn rfl) rfl ?_
                  refine s_if_eq rfl (cn rfl) (cn rfl) (by decide) (fun q54 => ?_) (fun q54 => absurd q54 (by decide))
                  refine s_iconst rfl (cn rfl) ?_
                  refine s_ior rfl (cn rfl) _ (bi_or _ 0) ?_
                  refine s_istore_n rfl (cn rfl) ?_
                  refine s_iinc rfl (cn rfl) rfl ?_
                  refine s_goto rfl (ch rfl) ?_
                  exact ih22 (by omega) 0 _ (by omega) (Or.inl rfl) ⟨fun q => absurd q (by decide), fun q => by
                      have := (q.2 i hpi (by omega)).1
                      omega⟩ (fun q => absurd q (by decide)) (by rw [Nat.or_zero]; exact hw)
                · refine s_iload rfl (cn rfl) rfl ?_
                  refine s_iload_n rfl (cn rfl) rfl ?_
                  refine s_icmp_eq rfl (cn rfl) (cn rfl) ⟨by omega, by omega⟩ ⟨by omega, by omega⟩ (fun q36 => ?_) (fun q36 => ?_)
                  · refine s_iconst rfl (cn rfl) ?_
                    refine s_goto rfl (cn rfl) ?_
                    refine s_istore_n rfl (cn rfl) ?_
                    refine s_iload_n rfl (cn rfl) rfl ?_
                    refine s_iload_n rfl (cn rfl) rfl ?_
                    refine s_if_eq rfl (cn rfl) (cn rfl) (by decide) (fun q54 => absurd q54 (by decide)) (fun q54 => ?_)
                    obtain ⟨y, ex⟩ := Int.eq_ofNat_of_zero_le (show 0 ≤ ta i - 97 by omega)
                    have hx16 : 2 ^ y < 16 := by
                      have : 2 ^ y ≤ 2 ^ 3 := Nat.pow_le_pow_right (by decide) (by omega)
                      omega
                    refine s_iconst rfl (cn rfl) ?_
                    refine s_aload_n rfl (cn rfl) rfl ?_
                    refine s_getfield rfl (cn rfl) c58 rfl ?_
                    refine s_iload rfl (cn rfl) rfl ?_
                    refine s_iaload rfl (cn rfl) _ rfl c61 rfl (by omega) (by decide) rfl ?_
                    refine s_bipush rfl (cn rfl) (by decide) ?_
                    refine s_isub rfl (cn rfl) ?_
                    refine s_ishl rfl (cn rfl) _ (by rw [ex]; exact bi_shl1 (by omega)) ?_
                    refine s_goto rfl (cn rfl) ?_
                    refine s_ior rfl (cn rfl) _ (bi_or _ _) ?_
                    refine s_istore_n rfl (cn rfl) ?_
                    refine s_iinc rfl (cn rfl) rfl ?_
                    refine s_goto rfl (ch rfl) ?_
                    exact ih22 (by omega) 1 _ (by omega) (Or.inr rfl) ⟨fun _ => ⟨(e1.mp (by omega)).1, fun j j1 j2 => by
                        by_cases e : j = i
                        · subst e; exact ⟨by omega, fun _ => by omega⟩
                        · exact (e1.mp (by omega)).2 j j1 (by omega)⟩, fun _ => rfl⟩ (fun _ => by
                        rw [show i + 1 - (p + 1) = (i - (p + 1)) + 1 by omega]
                        show _ = gS ta (p + 1) (i - (p + 1)) ||| 2 ^ (ta (p + 1 + (i - (p + 1))) - 97).toNat
                        rw [show p + 1 + (i - (p + 1)) = i by omega, ← e2 (by omega), ex]; rfl) (or_16 hw hx16)
                  · refine s_aload_n rfl (cn rfl) rfl ?_
                    refine s_getfield rfl (cn rfl) c58 rfl ?_
                    refine s_iload rfl (cn rfl) rfl ?_
                    refine s_iaload rfl (cn rfl) _ rfl c61 rfl (by omega) (by decide) rfl ?_
                    have lb4 := isL_lt (pl3 (i - 1) (by omega) (by omega))
                    refine s_aload_n rfl (cn rfl) rfl ?_
                    refine s_getfield rfl (cn rfl) c58 rfl ?_
                    refine s_iload rfl (cn rfl) rfl ?_
                    refine s_iconst rfl (cn rfl) ?_
                    refine s_isub rfl (cn rfl) ?_
                    refine s_iaload rfl (cn rfl) (i - 1) (by omega) c61 rfl (by omega) (by decide) rfl ?_
                    refine s_icmp_le rfl (cn rfl) (cn rfl) ⟨by omega, by omega⟩ ⟨by omega, by omega⟩ (fun q47 => ?_) (fun q47 => ?_)
                    · refine s_iconst rfl (cn rfl) ?_
                      refine s_istore_n rfl (cn rfl) ?_
                      refine s_iload_n rfl (cn rfl) rfl ?_
                      refine s_iload_n rfl (cn rfl) rfl ?_
                      refine s_if_eq rfl (cn rfl) (cn rfl) (by decide) (fun q54 => ?_) (fun q54 => absurd q54 (by decide))
                      refine s_iconst rfl (cn rfl) ?_
                      refine s_ior rfl (cn rfl) _ (bi_or _ 0) ?_
                      refine s_istore_n rfl (cn rfl) ?_
                      refine s_iinc rfl (cn rfl) rfl ?_
                      refine s_goto rfl (ch rfl) ?_
                      exact ih22 (by omega) 0 _ (by omega) (Or.inl rfl) ⟨fun q => absurd q (by decide), fun q => by
                          have := (q.2 i hpi (by omega)).2 (by omega)
                          omega⟩ (fun q => absurd q (by decide)) (by rw [Nat.or_zero]; exact hw)
                    · refine s_iconst rfl (cn rfl) ?_
                      refine s_goto rfl (cn rfl) ?_
                      refine s_istore_n rfl (cn rfl) ?_
                      refine s_iload_n rfl (cn rfl) rfl ?_
                      refine s_iload_n rfl (cn rfl) rfl ?_
                      refine s_if_eq rfl (cn rfl) (cn rfl) (by decide) (fun q54 => absurd q54 (by decide)) (fun q54 => ?_)
                      obtain ⟨y, ex⟩ := Int.eq_ofNat_of_zero_le (show 0 ≤ ta i - 97 by omega)
                      have hx16 : 2 ^ y < 16 := by
                        have : 2 ^ y ≤ 2 ^ 3 := Nat.pow_le_pow_right (by decide) (by omega)
                        omega
                      refine s_iconst rfl (cn rfl) ?_
                      refine s_aload_n rfl (cn rfl) rfl ?_
                      refine s_getfield rfl (cn rfl) c58 rfl ?_
                      refine s_iload rfl (cn rfl) rfl ?_
                      refine s_iaload rfl (cn rfl) _ rfl c61 rfl (by omega) (by decide) rfl ?_
                      refine s_bipush rfl (cn rfl) (by decide) ?_
                      refine s_isub rfl (cn rfl) ?_
                      refine s_ishl rfl (cn rfl) _ (by rw [ex]; exact bi_shl1 (by omega)) ?_
                      refine s_goto rfl (cn rfl) ?_
                      refine s_ior rfl (cn rfl) _ (bi_or _ _) ?_
                      refine s_istore_n rfl (cn rfl) ?_
                      refine s_iinc rfl (cn rfl) rfl ?_
                      refine s_goto rfl (ch rfl) ?_
                      exact ih22 (by omega) 1 _ (by omega) (Or.inr rfl) ⟨fun _ => ⟨(e1.mp (by omega)).1, fun j j1 j2 => by
                          by_cases e : j = i
                          · subst e; exact ⟨by omega, fun _ => by omega⟩
                          · exact (e1.mp (by omega)).2 j j1 (by omega)⟩, fun _ => rfl⟩ (fun _ => by
                          rw [show i + 1 - (p + 1) = (i - (p + 1)) + 1 by omega]
                          show _ = gS ta (p + 1) (i - (p + 1)) ||| 2 ^ (ta (p + 1 + (i - (p + 1))) - 97).toNat
                          rw [show p + 1 + (i - (p + 1)) = i by omega, ← e2 (by omega), ex]; rfl) (or_16 hw hx16)
          exact lp22 (p + 1) pl1 _ 0 (Nat.le_refl _) (by decide) ⟨fun q => by first | exact absurd q (by decide) | exact ⟨by omega, fun j j1 j2 => absurd j2 (by omega)⟩, fun q => by first | rfl | (exfalso; omega)⟩ (fun _ => by rw [Nat.sub_self]; rfl) (by decide)
        · refine s_iconst rfl (cn rfl) ?_
          refine s_goto rfl (cn rfl) ?_
          refine s_istore_n rfl (cn rfl) ?_
          refine s_iload_n rfl (cn rfl) rfl ?_
          refine s_istore rfl (ch rfl) ?_
          have lp22 : ∀ i : Nat, i ≤ plN ta tl (p + 1) → ∀ (x : Int) (w : Nat) (hpi : p + 1 ≤ i) (hx : x = 0 ∨ x = 1) (e1 : x = 1 ↔ (p + 1 < plN ta tl (p + 1) ∧ ∀ j, p + 1 ≤ j → j < i → ta j ≤ 100 ∧ (p + 1 < j → ta (j - 1) < ta j))) (e2 : x = 1 → w = gS ta (p + 1) (i - (p + 1))) (hw : w < 16), K 22 [some (.ref 58), some (.int (ii ((p + 1 : Nat) : Int))), some (.int (ii (w : Int))), some (.int (ii x)), some (.int (ii (i : Int)))] [] (N, S, h2) := by
            refine dn (fun i hi ih22 => ?_)
            intro x w hpi hx e1 e2 hw
            refine hK _ _ _ _ ?_
            refine s_iload rfl (cn rfl) rfl ?_
            refine s_aload_n rfl (cn rfl) rfl ?_
            refine s_getfield rfl (cn rfl) c58 rfl ?_
            refine s_icmp_ge rfl (cn rfl) (cn rfl) ⟨by omega, by omega⟩ ⟨by omega, by omega⟩ (fun q25 => ?_) (fun q25 => ?_)
            · refine s_iload_n rfl (cn rfl) rfl ?_
              refine s_if_ne rfl (cn rfl) (cn rfl) ⟨by omega, by omega⟩ (fun q70 => ?_) (fun q70 => ?_)
              · refine s_iload_n rfl (cn rfl) rfl ?_
                refine s_ireturn rfl ?_
                first
                  | (refine Or.inl ⟨plN ta tl (p + 1), _, ?_, rfl, h2, rfl, hF, c58⟩
                     have ei : i = plN ta tl (p + 1) := by omega
                     have e3 := e1.mp (by omega)
                     rw [eb]
                     show rG ta tl (p + 1) = _
                     unfold rG
                     rw [ci_y ⟨e3.1, fun j j1 j2 => e3.2 j j1 (by omega)⟩, e2 (by omega), ei]
                     done)
                  | (refine Or.inr ⟨p + 1, _, _, ?_, rfl, h9, rfl, fr_t hF hf9 (by decide), d58⟩
                     rw [eb]
                     show rG ta tl (p + 1) = _
                     unfold rG
                     exact ci_n (fun q => by
                       have := e1.mpr ⟨q.1, fun j j1 j2 => q.2 j j1 (by omega)⟩
                       omega))
              · refine s_aload_n rfl (cn rfl) rfl ?_
                refine s_iload_n rfl (cn rfl) rfl ?_
                refine s_virt rfl (cn rfl) rfl rfl c58 rfl (m_wrong c58) ?_
                rintro _ _ ⟨rfl, h9, rfl, hf9, d58⟩
                refine s_iload_n rfl (cn rfl) rfl ?_
                refine s_ireturn rfl ?_
                first
                  | (refine Or.inl ⟨plN ta tl (p + 1), _, ?_, rfl, h2, rfl, hF, c58⟩
                     have ei : i = plN ta tl (p + 1) := by omega
                     have e3 := e1.mp (by omega)
                     rw [eb]
                     show rG ta tl (p + 1) = _
                     unfold rG
                     rw [ci_y ⟨e3.1, fun j j1 j2 => e3.2 j j1 (by omega)⟩, e2 (by omega), ei]
                     done)
                  | (refine Or.inr ⟨p + 1, _, _, ?_, rfl, h9, rfl, fr_t hF hf9 (by decide), d58⟩
                     rw [eb]
                     show rG ta tl (p + 1) = _
                     unfold rG
                     exact ci_n (fun q => by
                       have := e1.mpr ⟨q.1, fun j j1 j2 => q.2 j j1 (by omega)⟩
                       omega))
            · have la := isL_lt (pl3 i hpi (by omega))
              refine s_iload_n rfl (cn rfl) rfl ?_
              refine s_if_eq rfl (cn rfl) (cn rfl) ⟨by omega, by omega⟩ (fun q27 => ?_) (fun q27 => ?_)
              · refine s_iconst rfl (cn rfl) ?_
                refine s_istore_n rfl (cn rfl) ?_
                refine s_iload_n rfl (cn rfl) rfl ?_
                refine s_iload_n rfl (cn rfl) rfl ?_
                refine s_if_eq rfl (cn rfl) (cn rfl) (by decide) (fun q54 => ?_) (fun q54 => absurd q54 (by decide))
                refine s_iconst rfl (cn rfl) ?_
                refine s_ior rfl (cn rfl) _ (bi_or _ 0) ?_
                refine s_istore_n rfl (cn rfl) ?_
                refine s_iinc rfl (cn rfl) rfl ?_
                refine s_goto rfl (ch rfl) ?_
                exact ih22 (by omega) 0 _ (by omega) (Or.inl rfl) ⟨fun q => absurd q (by decide), fun q => by
                    have := e1.mpr ⟨q.1, fun j j1 j2 => q.2 j j1 (by omega)⟩
                    omega⟩ (fun q => absurd q (by decide)) (by rw [Nat.or_zero]; exact hw)
              · refine s_aload_n rfl (cn rfl) rfl ?_
                refine s_getfield rfl (cn rfl) c58 rfl ?_
                refine s_iload rfl (cn rfl) rfl ?_
                refine s_iaload rfl (cn rfl) _ rfl c61 rfl (by omega) (by decide) rfl ?_
                refine s_bipush rfl (cn rfl) (by decide) ?_
                refine s_icmp_gt rfl (cn rfl) (cn rfl) ⟨by omega, by omega⟩ ⟨by omega, by omega⟩ (fun q33 => ?_) (fun q33 => ?_)
                · refine s_iconst rfl (cn rfl) ?_
                  refine s_istore_n rfl (cn rfl) ?_
                  refine s_iload_n rfl (cn rfl) rfl ?_
                  refine s_iload_n rfl (cn rfl) rfl ?_
                  refine s_if_eq rfl (cn rfl) (cn rfl) (by decide) (fun q54 => ?_) (fun q54 => absurd q54 (by decide))
                  refine s_iconst rfl (cn rfl) ?_
                  refine s_ior rfl (cn rfl) _ (bi_or _ 0) ?_
                  refine s_istore_n rfl (cn rfl) ?_
                  refine s_iinc rfl (cn rfl) rfl ?_
                  refine s_goto rfl (ch rfl) ?_
                  exact ih22 (by omega) 0 _ (by omega) (Or.inl rfl) ⟨fun q => absurd q (by decide), fun q => by
                      have := (q.2 i hpi (by omega)).1
                      omega⟩ (fun q => absurd q (by decide)) (by rw [Nat.or_zero]; exact hw)
                · refine s_iload rfl (cn rfl) rfl ?_
                  refine s_iload_n rfl (cn rfl) rfl ?_
                  refine s_icmp_eq rfl (cn rfl) (cn rfl) ⟨by omega, by omega⟩ ⟨by omega, by omega⟩ (fun q36 => ?_) (fun q36 => ?_)
                  · refine s_iconst rfl (cn rfl) ?_
                    refine s_goto rfl (cn rfl) ?_
                    refine s_istore_n rfl (cn rfl) ?_
                    refine s_iload_n rfl (cn rfl) rfl ?_
                    refine s_iload_n rfl (cn rfl) rfl ?_
                    refine s_if_eq rfl (cn rfl) (cn rfl) (by decide) (fun q54 => absurd q54 (by decide)) (fun q54 => ?_)
                    obtain ⟨y, ex⟩ := Int.eq_ofNat_of_zero_le (show 0 ≤ ta i - 97 by omega)
                    have hx16 : 2 ^ y < 16 := by
                      have : 2 ^ y ≤ 2 ^ 3 := Nat.pow_le_pow_right (by decide) (by omega)
                      omega
                    refine s_iconst rfl (cn rfl) ?_
                    refine s_aload_n rfl (cn rfl) rfl ?_
                    refine s_getfield rfl (cn rfl) c58 rfl ?_
                    refine s_iload rfl (cn rfl) rfl ?_
                    refine s_iaload rfl (cn rfl) _ rfl c61 rfl (by omega) (by decide) rfl ?_
                    refine s_bipush rfl (cn rfl) (by decide) ?_
                    refine s_isub rfl (cn rfl) ?_
                    refine s_ishl rfl (cn rfl) _ (by rw [ex]; exact bi_shl1 (by omega)) ?_
                    refine s_goto rfl (cn rfl) ?_
                    refine s_ior rfl (cn rfl) _ (bi_or _ _) ?_
                    refine s_istore_n rfl (cn rfl) ?_
                    refine s_iinc rfl (cn rfl) rfl ?_
                    refine s_goto rfl (ch rfl) ?_
                    exact ih22 (by omega) 1 _ (by omega) (Or.inr rfl) ⟨fun _ => ⟨(e1.mp (by omega)).1, fun j j1 j2 => by
                        by_cases e : j = i
                        · subst e; exact ⟨by omega, fun _ => by omega⟩
                        · exact (e1.mp (by omega)).2 j j1 (by omega)⟩, fun _ => rfl⟩ (fun _ => by
                        rw [show i + 1 - (p + 1) = (i - (p + 1)) + 1 by omega]
                        show _ = gS ta (p + 1) (i - (p + 1)) ||| 2 ^ (ta (p + 1 + (i - (p + 1))) - 97).toNat
                        rw [show p + 1 + (i - (p + 1)) = i by omega, ← e2 (by omega), ex]; rfl) (or_16 hw hx16)
                  · refine s_aload_n rfl (cn rfl) rfl ?_
                    refine s_getfield rfl (cn rfl) c58 rfl ?_
                    refine s_iload rfl (cn rfl) rfl ?_
                    refine s_iaload rfl (cn rfl) _ rfl c61 rfl (by omega) (by decide) rfl ?_
                    have lb4 := isL_lt (pl3 (i - 1) (by omega) (by omega))
                    refine s_aload_n rfl (cn rfl) rfl ?_
                    refine s_getfield rfl (cn rfl) c58 rfl ?_
                    refine s_iload rfl (cn rfl) rfl ?_
                    refine s_iconst rfl (cn rfl) ?_
                    refine s_isub rfl (cn rfl) ?_
                    refine s_iaload rfl (cn rfl) (i - 1) (by omega) c61 rfl (by omega) (by decide) rfl ?_
                    refine s_icmp_le rfl (cn rfl) (cn rfl) ⟨by omega, by omega⟩ ⟨by omega, by omega⟩ (fun q47 => ?_) (fun q47 => ?_)
                    · refine s_iconst rfl (cn rfl) ?_
                      refine s_istore_n rfl (cn rfl) ?_
                      refine s_iload_n rfl (cn rfl) rfl ?_
                      refine s_iload_n rfl (cn rfl) rfl ?_
                      refine s_if_eq rfl (cn rfl) (cn rfl) (by decide) (fun q54 => ?_) (fun q54 => absurd q54 (by decide))
                      refine s_iconst rfl (cn rfl) ?_
                      refine s_ior rfl (cn rfl) _ (bi_or _ 0) ?_
                      refine s_istore_n rfl (cn rfl) ?_
                      refine s_iinc rfl (cn rfl) rfl ?_
                      refine s_goto rfl (ch rfl) ?_
                      exact ih22 (by omega) 0 _ (by omega) (Or.inl rfl) ⟨fun q => absurd q (by decide), fun q => by
                          have := (q.2 i hpi (by omega)).2 (by omega)
                          omega⟩ (fun q => absurd q (by decide)) (by rw [Nat.or_zero]; exact hw)
                    · refine s_iconst rfl (cn rfl) ?_
                      refine s_goto rfl (cn rfl) ?_
                      refine s_istore_n rfl (cn rfl) ?_
                      refine s_iload_n rfl (cn rfl) rfl ?_
                      refine s_iload_n rfl (cn rfl) rfl ?_
                      refine s_if_eq rfl (cn rfl) (cn rfl) (by decide) (fun q54 => absurd q54 (by decide)) (fun q54 => ?_)
                      obtain ⟨y, ex⟩ := Int.eq_ofNat_of_zero_le (show 0 ≤ ta i - 97 by omega)
                      have hx16 : 2 ^ y < 16 := by
                        have : 2 ^ y ≤ 2 ^ 3 := Nat.pow_le_pow_right (by decide) (by omega)
                        omega
                      refine s_iconst rfl (cn rfl) ?_
                      refine s_aload_n rfl (cn rfl) rfl ?_
                      refine s_getfield rfl (cn rfl) c58 rfl ?_
                      refine s_iload rfl (cn rfl) rfl ?_
                      refine s_iaload rfl (cn rfl) _ rfl c61 rfl (by omega) (by decide) rfl ?_
                      refine s_bipush rfl (cn rfl) (by decide) ?_
                      refine s_isub rfl (cn rfl) ?_
                      refine s_ishl rfl (cn rfl) _ (by rw [ex]; exact bi_shl1 (by omega)) ?_
                      refine s_goto rfl (cn rfl) ?_
                      refine s_ior rfl (cn rfl) _ (bi_or _ _) ?_
                      refine s_istore_n rfl (cn rfl) ?_
                      refine s_iinc rfl (cn rfl) rfl ?_
                      refine s_goto rfl (ch rfl) ?_
                      exact ih22 (by omega) 1 _ (by omega) (Or.inr rfl) ⟨fun _ => ⟨(e1.mp (by omega)).1, fun j j1 j2 => by
                          by_cases e : j = i
                          · subst e; exact ⟨by omega, fun _ => by omega⟩
                          · exact (e1.mp (by omega)).2 j j1 (by omega)⟩, fun _ => rfl⟩ (fun _ => by
                          rw [show i + 1 - (p + 1) = (i - (p + 1)) + 1 by omega]
                          show _ = gS ta (p + 1) (i - (p + 1)) ||| 2 ^ (ta (p + 1 + (i - (p + 1))) - 97).toNat
                          rw [show p + 1 + (i - (p + 1)) = i by omega, ← e2 (by omega), ex]; rfl) (or_16 hw hx16)
          exact lp22 (p + 1) pl1 _ 0 (Nat.le_refl _) (by decide) ⟨fun q => by first | exact absurd q (by decide) | exact ⟨by omega, fun j j1 j2 => absurd j2 (by omega)⟩, fun q => by first | rfl | (exfalso; omega)⟩ (fun _ => by rw [Nat.sub_self]; rfl) (by decide)
    · first
      | (exact absurd rfl q4)
      | skip
        refine s_iconst rfl (cn rfl) ?_
        refine s_ireturn rfl ?_
        exact Or.inr ⟨p, 0, _, by rw [eb]; rfl, rfl, h1, rfl, hf1, c58⟩
  · refine s_aload_n rfl (cn rfl) rfl ?_
    refine s_getfield rfl (cn rfl) c58 rfl ?_
    refine s_if_eq rfl (cn rfl) (cn rfl) ⟨by omega, by omega⟩ (fun q4 => ?_) (fun q4 => ?_)
    · first
      | (exact absurd q4 (by decide))
      | skip
        refine s_aload_n rfl (cn rfl) rfl ?_
        refine s_virt rfl (cn rfl) rfl rfl c58 rfl (m_letters htl lb ht c58 c61) ?_
        rintro _ _ ⟨rfl, h2, rfl, hf2, c58⟩
        have c61 := (hf2 61 (by decide)).trans c61
        have hF := fr_t hf1 hf2 (by decide)
        refine s_istore_n rfl (cn rfl) ?_
        refine s_iconst rfl (cn rfl) ?_
        refine s_istore_n rfl (cn rfl) ?_
        refine s_aload_n rfl (cn rfl) rfl ?_
        refine s_getfield rfl (cn rfl) c58 rfl ?_
        refine s_iload_n rfl (cn rfl) rfl ?_
        refine s_icmp_le rfl (cn rfl) (cn rfl) ⟨by omega, by omega⟩ ⟨by omega, by omega⟩ (fun q15 => ?_) (fun q15 => ?_)
        · refine s_iconst rfl (cn rfl) ?_
          refine s_istore_n rfl (cn rfl) ?_
          refine s_iload_n rfl (cn rfl) rfl ?_
          refine s_istore rfl (ch rfl) ?_
          have lp22 : ∀ i : Nat, i ≤ plN ta tl (p + 1) → ∀ (x : Int) (w : Nat) (hpi : p + 1 ≤ i) (hx : x = 0 ∨ x = 1) (e1 : x = 1 ↔ (p + 1 < plN ta tl (p + 1) ∧ ∀ j, p + 1 ≤ j → j < i → ta j ≤ 100 ∧ (p + 1 < j → ta (j - 1) < ta j))) (e2 : x = 1 → w = gS ta (p + 1) (i - (p + 1))) (hw : w < 16), K 22 [some (.ref 58), some (.int (ii ((p + 1 : Nat) : Int))), some (.int (ii (w : Int))), some (.int (ii x)), some (.int (ii (i : Int)))] [] (N, S, h2) := by
            refine dn (fun i hi ih22 => ?_)
            intro x w hpi hx e1 e2 hw
            refine hK _ _ _ _ ?_
            refine s_iload rfl (cn rfl) rfl ?_
            refine s_aload_n rfl (cn rfl) rfl ?_
            refine s_getfield rfl (cn rfl) c58 rfl ?_
            refine s_icmp_ge rfl (cn rfl) (cn rfl) ⟨by omega, by omega⟩ ⟨by omega, by omega⟩ (fun q25 => ?_) (fun q25 => ?_)
            · refine s_iload_n rfl (cn rfl) rfl ?_
              refine s_if_ne rfl (cn rfl) (cn rfl) ⟨by omega, by omega⟩ (fun q70 => ?_) (fun q70 => ?_)
              · refine s_iload_n rfl (cn rfl) rfl ?_
                refine s_ireturn rfl ?_
                first
                  | (refine Or.inl ⟨plN ta tl (p + 1), _, ?_, rfl, h2, rfl, hF, c58⟩
                     have ei : i = plN ta tl (p + 1) := by omega
                     have e3 := e1.mp (by omega)
                     rw [eb]
                     show rG ta tl (p + 1) = _
                     unfold rG
                     rw [ci_y ⟨e3.1, fun j j1 j2 => e3.2 j j1 (by omega)⟩, e2 (by omega), ei]
                     done)
                  | (refine Or.inr ⟨p + 1, _, _, ?_, rfl, h9, rfl, fr_t hF hf9 (by decide), d58⟩
                     rw [eb]
                     show rG ta tl (p + 1) = _
                     unfold rG
                     exact ci_n (fun q => by
                       have := e1.mpr ⟨q.1, fun j j1 j2 => q.2 j j1 (by omega)⟩
                       omega))
              · refine s_aload_n rfl (cn rfl) rfl ?_
                refine s_iload_n rfl (cn rfl) rfl ?_
                refine s_virt rfl (cn rfl) rfl rfl c58 rfl (m_wrong c58) ?_
                rintro _ _ ⟨rfl, h9, rfl, hf9, d58⟩
                refine s_iload_n rfl (cn rfl) rfl ?_
                refine s_ireturn rfl ?_
                first
                  | (refine Or.inl ⟨plN ta tl (p + 1), _, ?_, rfl, h2, rfl, hF, c58⟩
                     have ei : i = plN ta tl (p + 1) := by omega
                     have e3 := e1.mp (by omega)
                     rw [eb]
                     show rG ta tl (p + 1) = _
                     unfold rG
                     rw [ci_y ⟨e3.1, fun j j1 j2 => e3.2 j j1 (by omega)⟩, e2 (by omega), ei]
                     done)
                  | (refine Or.inr ⟨p + 1, _, _, ?_, rfl, h9, rfl, fr_t hF hf9 (by decide), d58⟩
                     rw [eb]
                     show rG ta tl (p + 1) = _
                     unfold rG
                     exact ci_n (fun q => by
                       have := e1.mpr ⟨q.1, fun j j1 j2 => q.2 j j1 (by omega)⟩
                       omega))
            · have la := isL_lt (pl3 i hpi (by omega))
              refine s_iload_n rfl (cn rfl) rfl ?_
              refine s_if_eq rfl (cn rfl) (cn rfl) ⟨by omega, by omega⟩ (fun q27 => ?_) (fun q27 => ?_)
              · refine s_iconst rfl (cn rfl) ?_
                refine s_istore_n rfl (cn rfl) ?_
                refine s_iload_n rfl (cn rfl) rfl ?_
                refine s_iload_n rfl (cn rfl) rfl ?_
                refine s_if_eq rfl (cn rfl) (cn rfl) (by decide) (fun q54 => ?_) (fun q54 => absurd q54 (by decide))
                refine s_iconst rfl (cn rfl) ?_
                refine s_ior rfl (cn rfl) _ (bi_or _ 0) ?_
                refine s_istore_n rfl (cn rfl) ?_
                refine s_iinc rfl (cn rfl) rfl ?_
                refine s_goto rfl (ch rfl) ?_
                exact ih22 (by omega) 0 _ (by omega) (Or.inl rfl) ⟨fun q => absurd q (by decide), fun q => by
                    have := e1.mpr ⟨q.1, fun j j1 j2 => q.2 j j1 (by omega)⟩
                    omega⟩ (fun q => absurd q (by decide)) (by rw [Nat.or_zero]; exact hw)
              · refine s_aload_n rfl (cn rfl) rfl ?_
                refine s_getfield rfl (cn rfl) c58 rfl ?_
                refine s_iload rfl (cn rfl) rfl ?_
                refine s_iaload rfl (cn rfl) _ rfl c61 rfl (by omega) (by decide) rfl ?_
                refine s_bipush rfl (cn rfl) (by decide) ?_
                refine s_icmp_gt rfl (cn rfl) (cn rfl) ⟨by omega, by omega⟩ ⟨by omega, by omega⟩ (fun q33 => ?_) (fun q33 => ?_)
                · refine s_iconst rfl (cn rfl) ?_
                  refine s_istore_n rfl (cn rfl) ?_
                  refine s_iload_n rfl (cn rfl) rfl ?_
                  refine s_iload_n rfl (cn rfl) rfl ?_
                  refine s_if_eq rfl (cn rfl) (cn rfl) (by decide) (fun q54 => ?_) (fun q54 => absurd q54 (by decide))
                  refine s_iconst rfl (cn rfl) ?_
                  refine s_ior rfl (cn rfl) _ (bi_or _ 0) ?_
                  refine s_istore_n rfl (cn rfl) ?_
                  refine s_iinc rfl (cn rfl) rfl ?_
                  refine s_goto rfl (ch rfl) ?_
                  exact ih22 (by omega) 0 _ (by omega) (Or.inl rfl) ⟨fun q => absurd q (by decide), fun q => by
                      have := (q.2 i hpi (by omega)).1
                      omega⟩ (fun q => absurd q (by decide)) (by rw [Nat.or_zero]; exact hw)
                · refine s_iload rfl (cn rfl) rfl ?_
                  refine s_iload_n rfl (cn rfl) rfl ?_
                  refine s_icmp_eq rfl (cn rfl) (cn rfl) ⟨by omega, by omega⟩ ⟨by omega, by omega⟩ (fun q36 => ?_) (fun q36 => ?_)
                  · refine s_iconst rfl (cn rfl) ?_
                    refine s_goto rfl (cn rfl) ?_
                    refine s_istore_n rfl (cn rfl) ?_
                    refine s_iload_n rfl (cn rfl) rfl ?_
                    refine s_iload_n rfl (cn rfl) rfl ?_
                    refine s_if_eq rfl (cn rfl) (cn rfl) (by decide) (fun q54 => absurd q54 (by decide)) (fun q54 => ?_)
                    obtain ⟨y, ex⟩ := Int.eq_ofNat_of_zero_le (show 0 ≤ ta i - 97 by omega)
                    have hx16 : 2 ^ y < 16 := by
                      have : 2 ^ y ≤ 2 ^ 3 := Nat.pow_le_pow_right (by decide) (by omega)
                      omega
                    refine s_iconst rfl (cn rfl) ?_
                    refine s_aload_n rfl (cn rfl) rfl ?_
                    refine s_getfield rfl (cn rfl) c58 rfl ?_
                    refine s_iload rfl (cn rfl) rfl ?_
                    refine s_iaload rfl (cn rfl) _ rfl c61 rfl (by omega) (by decide) rfl ?_
                    refine s_bipush rfl (cn rfl) (by decide) ?_
                    refine s_isub rfl (cn rfl) ?_
                    refine s_ishl rfl (cn rfl) _ (by rw [ex]; exact bi_shl1 (by omega)) ?_
                    refine s_goto rfl (cn rfl) ?_
                    refine s_ior rfl (cn rfl) _ (bi_or _ _) ?_
                    refine s_istore_n rfl (cn rfl) ?_
                    refine s_iinc rfl (cn rfl) rfl ?_
                    refine s_goto rfl (ch rfl) ?_
                    exact ih22 (by omega) 1 _ (by omega) (Or.inr rfl) ⟨fun _ => ⟨(e1.mp (by omega)).1, fun j j1 j2 => by
                        by_cases e : j = i
                        · subst e; exact ⟨by omega, fun _ => by omega⟩
                        · exact (e1.mp (by omega)).2 j j1 (by omega)⟩, fun _ => rfl⟩ (fun _ => by
                        rw [show i + 1 - (p + 1) = (i - (p + 1)) + 1 by omega]
                        show _ = gS ta (p + 1) (i - (p + 1)) ||| 2 ^ (ta (p + 1 + (i - (p + 1))) - 97).toNat
                        rw [show p + 1 + (i - (p + 1)) = i by omega, ← e2 (by omega), ex]; rfl) (or_16 hw hx16)
                  · refine s_aload_n rfl (cn rfl) rfl ?_
                    refine s_getfield rfl (cn rfl) c58 rfl ?_
                    refine s_iload rfl (cn rfl) rfl ?_
                    refine s_iaload rfl (cn rfl) _ rfl c61 rfl (by omega) (by decide) rfl ?_
                    have lb4 := isL_lt (pl3 (i - 1) (by omega) (by omega))
                    refine s_aload_n rfl (cn rfl) rfl ?_
                    refine s_getfield rfl (cn rfl) c58 rfl ?_
                    refine s_iload rfl (cn rfl) rfl ?_
                    refine s_iconst rfl (cn rfl) ?_
                    refine s_isub rfl (cn rfl) ?_
                    refine s_iaload rfl (cn rfl) (i - 1) (by omega) c61 rfl (by omega) (by decide) rfl ?_
                    refine s_icmp_le rfl (cn rfl) (cn rfl) ⟨by omega, by omega⟩ ⟨by omega, by omega⟩ (fun q47 => ?_) (fun q47 => ?_)
                    · refine s_iconst rfl (cn rfl) ?_
                      refine s_istore_n rfl (cn rfl) ?_
                      refine s_iload_n rfl (cn rfl) rfl ?_
                      refine s_iload_n rfl (cn rfl) rfl ?_
                      refine s_if_eq rfl (cn rfl) (cn rfl) (by decide) (fun q54 => ?_) (fun q54 => absurd q54 (by decide))
                      refine s_iconst rfl (cn rfl) ?_
                      refine s_ior rfl (cn rfl) _ (bi_or _ 0) ?_
                      refine s_istore_n rfl (cn rfl) ?_
                      refine s_iinc rfl (cn rfl) rfl ?_
                      refine s_goto rfl (ch rfl) ?_
                      exact ih22 (by omega) 0 _ (by omega) (Or.inl rfl) ⟨fun q => absurd q (by decide), fun q => by
                          have := (q.2 i hpi (by omega)).2 (by omega)
                          omega⟩ (fun q => absurd q (by decide)) (by rw [Nat.or_zero]; exact hw)
                    · refine s_iconst rfl (cn rfl) ?_
                      refine s_goto rfl (cn rfl) ?_
                      refine s_istore_n rfl (cn rfl) ?_
                      refine s_iload_n rfl (cn rfl) rfl ?_
                      refine s_iload_n rfl (cn rfl) rfl ?_
                      refine s_if_eq rfl (cn rfl) (cn rfl) (by decide) (fun q54 => absurd q54 (by decide)) (fun q54 => ?_)
                      obtain ⟨y, ex⟩ := Int.eq_ofNat_of_zero_le (show 0 ≤ ta i - 97 by omega)
                      have hx16 : 2 ^ y < 16 := by
                        have : 2 ^ y ≤ 2 ^ 3 := Nat.pow_le_pow_right (by decide) (by omega)
                        omega
                      refine s_iconst rfl (cn rfl) ?_
                      refine s_aload_n rfl (cn rfl) rfl ?_
                      refine s_getfield rfl (cn rfl) c58 rfl ?_
                      refine s_iload rfl (cn rfl) rfl ?_
                      refine s_iaload rfl (cn rfl) _ rfl c61 rfl (by omega) (by decide) rfl ?_
                      refine s_bipush rfl (cn rfl) (by decide) ?_
                      refine s_isub rfl (cn rfl) ?_
                      refine s_ishl rfl (cn rfl) _ (by rw [ex]; exact bi_shl1 (by omega)) ?_
                      refine s_goto rfl (cn rfl) ?_
                      refine s_ior rfl (cn rfl) _ (bi_or _ _) ?_
                      refine s_istore_n rfl (cn rfl) ?_
                      refine s_iinc rfl (cn rfl) rfl ?_
                      refine s_goto rfl (ch rfl) ?_
                      exact ih22 (by omega) 1 _ (by omega) (Or.inr rfl) ⟨fun _ => ⟨(e1.mp (by omega)).1, fun j j1 j2 => by
                          by_cases e : j = i
                          · subst e; exact ⟨by omega, fun _ => by omega⟩
                          · exact (e1.mp (by omega)).2 j j1 (by omega)⟩, fun _ => rfl⟩ (fun _ => by
                          rw [show i + 1 - (p + 1) = (i - (p + 1)) + 1 by omega]
                          show _ = gS ta (p + 1) (i - (p + 1)) ||| 2 ^ (ta (p + 1 + (i - (p + 1))) - 97).toNat
                          rw [show p + 1 + (i - (p + 1)) = i by omega, ← e2 (by omega), ex]; rfl) (or_16 hw hx16)
          exact lp22 (p + 1) pl1 _ 0 (Nat.le_refl _) (by decide) ⟨fun q => by first | exact absurd q (by decide) | exact ⟨by omega, fun j j1 j2 => absurd j2 (by omega)⟩, fun q => by first | rfl | (exfalso; omega)⟩ (fun _ => by rw [Nat.sub_self]; rfl) (by decide)
        · refine s_iconst rfl (cn rfl) ?_
          refine s_goto rfl (cn rfl) ?_
          refine s_istore_n rfl (cn rfl) ?_
          refine s_iload_n rfl (cn rfl) rfl ?_
          refine s_istore rfl (ch rfl) ?_
          have lp22 : ∀ i : Nat, i ≤ plN ta tl (p + 1) → ∀ (x : Int) (w : Nat) (hpi : p + 1 ≤ i) (hx : x = 0 ∨ x = 1) (e1 : x = 1 ↔ (p + 1 < plN ta tl (p + 1) ∧ ∀ j, p + 1 ≤ j → j < i → ta j ≤ 100 ∧ (p + 1 < j → ta (j - 1) < ta j))) (e2 : x = 1 → w = gS ta (p + 1) (i - (p + 1))) (hw : w < 16), K 22 [some (.ref 58), some (.int (ii ((p + 1 : Nat) : Int))), some (.int (ii (w : Int))), some (.int (ii x)), some (.int (ii (i : Int)))] [] (N, S, h2) := by
            refine dn (fun i hi ih22 => ?_)
            intro x w hpi hx e1 e2 hw
            refine hK _ _ _ _ ?_
            refine s_iload rfl (cn rfl) rfl ?_
            refine s_aload_n rfl (cn rfl) rfl ?_
            refine s_getfield rfl (cn rfl) c58 rfl ?_
            refine s_icmp_ge rfl (cn rfl) (cn rfl) ⟨by omega, by omega⟩ ⟨by omega, by omega⟩ (fun q25 => ?_) (fun q25 => ?_)
            · refine s_iload_n rfl (cn rfl) rfl ?_
              refine s_if_ne rfl (cn rfl) (cn rfl) ⟨by omega, by omega⟩ (fun q70 => ?_) (fun q70 => ?_)
              · refine s_iload_n rfl (cn rfl) rfl ?_
                refine s_ireturn rfl ?_
                first
                  | (refine Or.inl ⟨plN ta tl (p + 1), _, ?_, rfl, h2, rfl, hF, c58⟩
                     have ei : i = plN ta tl (p + 1) := by omega
                     have e3 := e1.mp (by omega)
                     rw [eb]
                     show rG ta tl (p + 1) = _
                     unfold rG
                     rw [ci_y ⟨e3.1, fun j j1 j2 => e3.2 j j1 (by omega)⟩, e2 (by omega), ei]
                     done)
                  | (refine Or.inr ⟨p + 1, _, _, ?_, rfl, h9, rfl, fr_t hF hf9 (by decide), d58⟩
                     rw [eb]
                     show rG ta tl (p + 1) = _
                     unfold rG
                     exact ci_n (fun q => by
                       have := e1.mpr ⟨q.1, fun j j1 j2 => q.2 j j1 (by omega)⟩
                       omega))
              · refine s_aload_n rfl (cn rfl) rfl ?_
                refine s_iload_n rfl (cn rfl) rfl ?_
                refine s_virt rfl (cn rfl) rfl rfl c58 rfl (m_wrong c58) ?_
                rintro _ _ ⟨rfl, h9, rfl, hf9, d58⟩
                refine s_iload_n rfl (cn rfl) rfl ?_
                refine s_ireturn rfl ?_
                first
                  | (refine Or.inl ⟨plN ta tl (p + 1), _, ?_, rfl, h2, rfl, hF, c58⟩
                     have ei : i = plN ta tl (p + 1) := by omega
                     have e3 := e1.mp (by omega)
                     rw [eb]
                     show rG ta tl (p + 1) = _
                     unfold rG
                     rw [ci_y ⟨e3.1, fun j j1 j2 => e3.2 j j1 (by omega)⟩, e2 (by omega), ei]
                     done)
                  | (refine Or.inr ⟨p + 1, _, _, ?_, rfl, h9, rfl, fr_t hF hf9 (by decide), d58⟩
                     rw [eb]
                     show rG ta tl (p + 1) = _
                     unfold rG
                     exact ci_n (fun q => by
                       have := e1.mpr ⟨q.1, fun j j1 j2 => q.2 j j1 (by omega)⟩
                       omega))
            · have la := isL_lt (pl3 i hpi (by omega))
              refine s_iload_n rfl (cn rfl) rfl ?_
              refine s_if_eq rfl (cn rfl) (cn rfl) ⟨by omega, by omega⟩ (fun q27 => ?_) (fun q27 => ?_)
              · refine s_iconst rfl (cn rfl) ?_
                refine s_istore_n rfl (cn rfl) ?_
                refine s_iload_n rfl (cn rfl) rfl ?_
                refine s_iload_n rfl (cn rfl) rfl ?_
                refine s_if_eq rfl (cn rfl) (cn rfl) (by decide) (fun q54 => ?_) (fun q54 => absurd q54 (by decide))
                refine s_iconst rfl (cn rfl) ?_
                refine s_ior rfl (cn rfl) _ (bi_or _ 0) ?_
                refine s_istore_n rfl (cn rfl) ?_
                refine s_iinc rfl (cn rfl) rfl ?_
                refine s_goto rfl (ch rfl) ?_
                exact ih22 (by omega) 0 _ (by omega) (Or.inl rfl) ⟨fun q => absurd q (by decide), fun q => by
                    have := e1.mpr ⟨q.1, fun j j1 j2 => q.2 j j1 (by omega)⟩
                    omega⟩ (fun q => absurd q (by decide)) (by rw [Nat.or_zero]; exact hw)
              · refine s_aload_n rfl (cn rfl) rfl ?_
                refine s_getfield rfl (cn rfl) c58 rfl ?_
                refine s_iload rfl (cn rfl) rfl ?_
                refine s_iaload rfl (cn rfl) _ rfl c61 rfl (by omega) (by decide) rfl ?_
                refine s_bipush rfl (cn rfl) (by decide) ?_
                refine s_icmp_gt rfl (cn rfl) (cn rfl) ⟨by omega, by omega⟩ ⟨by omega, by omega⟩ (fun q33 => ?_) (fun q33 => ?_)
                · refine s_iconst rfl (cn rfl) ?_
                  refine s_istore_n rfl (cn rfl) ?_
                  refine s_iload_n rfl (cn rfl) rfl ?_
                  refine s_iload_n rfl (cn rfl) rfl ?_
                  refine s_if_eq rfl (cn rfl) (cn rfl) (by decide) (fun q54 => ?_) (fun q54 => absurd q54 (by decide))
                  refine s_iconst rfl (cn rfl) ?_
                  refine s_ior rfl (cn rfl) _ (bi_or _ 0) ?_
                  refine s_istore_n rfl (cn rfl) ?_
                  refine s_iinc rfl (cn rfl) rfl ?_
                  refine s_goto rfl (ch rfl) ?_
                  exact ih22 (by omega) 0 _ (by omega) (Or.inl rfl) ⟨fun q => absurd q (by decide), fun q => by
                      have := (q.2 i hpi (by omega)).1
                      omega⟩ (fun q => absurd q (by decide)) (by rw [Nat.or_zero]; exact hw)
                · refine s_iload rfl (cn rfl) rfl ?_
                  refine s_iload_n rfl (cn rfl) rfl ?_
                  refine s_icmp_eq rfl (cn rfl) (cn rfl) ⟨by omega, by omega⟩ ⟨by omega, by omega⟩ (fun q36 => ?_) (fun q36 => ?_)
                  · refine s_iconst rfl (cn rfl) ?_
                    refine s_goto rfl (cn rfl) ?_
                    refine s_istore_n rfl (cn rfl) ?_
                    refine s_iload_n rfl (cn rfl) rfl ?_
                    refine s_iload_n rfl (cn rfl) rfl ?_
                    refine s_if_eq rfl (cn rfl) (cn rfl) (by decide) (fun q54 => absurd q54 (by decide)) (fun q54 => ?_)
                    obtain ⟨y, ex⟩ := Int.eq_ofNat_of_zero_le (show 0 ≤ ta i - 97 by omega)
                    have hx16 : 2 ^ y < 16 := by
                      have : 2 ^ y ≤ 2 ^ 3 := Nat.pow_le_pow_right (by decide) (by omega)
                      omega
                    refine s_iconst rfl (cn rfl) ?_
                    refine s_aload_n rfl (cn rfl) rfl ?_
                    refine s_getfield rfl (cn rfl) c58 rfl ?_
                    refine s_iload rfl (cn rfl) rfl ?_
                    refine s_iaload rfl (cn rfl) _ rfl c61 rfl (by omega) (by decide) rfl ?_
                    refine s_bipush rfl (cn rfl) (by decide) ?_
                    refine s_isub rfl (cn rfl) ?_
                    refine s_ishl rfl (cn rfl) _ (by rw [ex]; exact bi_shl1 (by omega)) ?_
                    refine s_goto rfl (cn rfl) ?_
                    refine s_ior rfl (cn rfl) _ (bi_or _ _) ?_
                    refine s_istore_n rfl (cn rfl) ?_
                    refine s_iinc rfl (cn rfl) rfl ?_
                    refine s_goto rfl (ch rfl) ?_
                    exact ih22 (by omega) 1 _ (by omega) (Or.inr rfl) ⟨fun _ => ⟨(e1.mp (by omega)).1, fun j j1 j2 => by
                        by_cases e : j = i
                        · subst e; exact ⟨by omega, fun _ => by omega⟩
                        · exact (e1.mp (by omega)).2 j j1 (by omega)⟩, fun _ => rfl⟩ (fun _ => by
                        rw [show i + 1 - (p + 1) = (i - (p + 1)) + 1 by omega]
                        show _ = gS ta (p + 1) (i - (p + 1)) ||| 2 ^ (ta (p + 1 + (i - (p + 1))) - 97).toNat
                        rw [show p + 1 + (i - (p + 1)) = i by omega, ← e2 (by omega), ex]; rfl) (or_16 hw hx16)
                  · refine s_aload_n rfl (cn rfl) rfl ?_
                    refine s_getfield rfl (cn rfl) c58 rfl ?_
                    refine s_iload rfl (cn rfl) rfl ?_
                    refine s_iaload rfl (cn rfl) _ rfl c61 rfl (by omega) (by decide) rfl ?_
                    have lb4 := isL_lt (pl3 (i - 1) (by omega) (by omega))
                    refine s_aload_n rfl (cn rfl) rfl ?_
                    refine s_getfield rfl (cn rfl) c58 rfl ?_
                    refine s_iload rfl (cn rfl) rfl ?_
                    refine s_iconst rfl (cn rfl) ?_
                    refine s_isub rfl (cn rfl) ?_
                    refine s_iaload rfl (cn rfl) (i - 1) (by omega) c61 rfl (by omega) (by decide) rfl ?_
                    refine s_icmp_le rfl (cn rfl) (cn rfl) ⟨by omega, by omega⟩ ⟨by omega, by omega⟩ (fun q47 => ?_) (fun q47 => ?_)
                    · refine s_iconst rfl (cn rfl) ?_
                      refine s_istore_n rfl (cn rfl) ?_
                      refine s_iload_n rfl (cn rfl) rfl ?_
                      refine s_iload_n rfl (cn rfl) rfl ?_
                      refine s_if_eq rfl (cn rfl) (cn rfl) (by decide) (fun q54 => ?_) (fun q54 => absurd q54 (by decide))
                      refine s_iconst rfl (cn rfl) ?_
                      refine s_ior rfl (cn rfl) _ (bi_or _ 0) ?_
                      refine s_istore_n rfl (cn rfl) ?_
                      refine s_iinc rfl (cn rfl) rfl ?_
                      refine s_goto rfl (ch rfl) ?_
                      exact ih22 (by omega) 0 _ (by omega) (Or.inl rfl) ⟨fun q => absurd q (by decide), fun q => by
                          have := (q.2 i hpi (by omega)).2 (by omega)
                          omega⟩ (fun q => absurd q (by decide)) (by rw [Nat.or_zero]; exact hw)
                    · refine s_iconst rfl (cn rfl) ?_
                      refine s_goto rfl (cn rfl) ?_
                      refine s_istore_n rfl (cn rfl) ?_
                      refine s_iload_n rfl (cn rfl) rfl ?_
                      refine s_iload_n rfl (cn rfl) rfl ?_
                      refine s_if_eq rfl (cn rfl) (cn rfl) (by decide) (fun q54 => absurd q54 (by decide)) (fun q54 => ?_)
                      obtain ⟨y, ex⟩ := Int.eq_ofNat_of_zero_le (show 0 ≤ ta i - 97 by omega)
                      have hx16 : 2 ^ y < 16 := by
                        have : 2 ^ y ≤ 2 ^ 3 := Nat.pow_le_pow_right (by decide) (by omega)
                        omega
                      refine s_iconst rfl (cn rfl) ?_
                      refine s_aload_n rfl (cn rfl) rfl ?_
                      refine s_getfield rfl (cn rfl) c58 rfl ?_
                      refine s_iload rfl (cn rfl) rfl ?_
                      refine s_iaload rfl (cn rfl) _ rfl c61 rfl (by omega) (by decide) rfl ?_
                      refine s_bipush rfl (cn rfl) (by decide) ?_
                      refine s_isub rfl (cn rfl) ?_
                      refine s_ishl rfl (cn rfl) _ (by rw [ex]; exact bi_shl1 (by omega)) ?_
                      refine s_goto rfl (cn rfl) ?_
                      refine s_ior rfl (cn rfl) _ (bi_or _ _) ?_
                      refine s_istore_n rfl (cn rfl) ?_
                      refine s_iinc rfl (cn rfl) rfl ?_
                      refine s_goto rfl (ch rfl) ?_
                      exact ih22 (by omega) 1 _ (by omega) (Or.inr rfl) ⟨fun _ => ⟨(e1.mp (by omega)).1, fun j j1 j2 => by
                          by_cases e : j = i
                          · subst e; exact ⟨by omega, fun _ => by omega⟩
                          · exact (e1.mp (by omega)).2 j j1 (by omega)⟩, fun _ => rfl⟩ (fun _ => by
                          rw [show i + 1 - (p + 1) = (i - (p + 1)) + 1 by omega]
                          show _ = gS ta (p + 1) (i - (p + 1)) ||| 2 ^ (ta (p + 1 + (i - (p + 1))) - 97).toNat
                          rw [show p + 1 + (i - (p + 1)) = i by omega, ← e2 (by omega), ex]; rfl) (or_16 hw hx16)
          exact lp22 (p + 1) pl1 _ 0 (Nat.le_refl _) (by decide) ⟨fun q => by first | exact absurd q (by decide) | exact ⟨by omega, fun j j1 j2 => absurd j2 (by omega)⟩, fun q => by first | rfl | (exfalso; omega)⟩ (fun _ => by rw [Nat.sub_self]; rfl) (by decide)
    · first
      | (exact absurd rfl q4)
      | skip
        refine s_iconst rfl (cn rfl) ?_
        refine s_ireturn rfl ?_
        exact Or.inr ⟨p, 0, _, by rw [eb]; rfl, rfl, h1, rfl, hf1, c58⟩
theorem m_person0 {d N S n : Nat} {kp fa dm ce di be od sm le sc ba bb ti rk ts tm pa wa : Int} {h : Nat → Option rr_E}  {tl p : Nat} {ta : Nat → Int} (htl : tl ≤ 100) (hp : p ≤ tl) (ht : ∀ p, p < tl → 1 ≤ ta p ∧ ta p ≤ 127) (c58 : h 58 = some (MO (n : Int) kp (tl : Int) (p : Int) 0 fa dm ce di be od sm le sc ba bb ti rk ts tm pa wa)) (c61 : h 61 = some (.inl (0, 100, .inl (fun k => ii (ta k))))) : rr_Calls (d + 3) j_Model_person [.ref 58] (N, S, h) (fun r R => (∃ (q : Nat) (x : Int), sb (rB ta tl p) (rP ta tl) = .inr (q, x) ∧ r = some (.int (ii x)) ∧ ∃ h', R = (N, S, h') ∧ fr [58] h h' ∧ h' 58 = some (MO (n : Int) kp (tl : Int) (q : Int) 0 fa dm ce di be od sm le sc ba bb ti rk ts tm pa wa)) ∨ (∃ (f : Nat) (r0 pt2 : Int), sb (rB ta tl p) (rP ta tl) = .inl f ∧ r = some (.int (ii r0)) ∧ ∃ h', R = (N, S, h') ∧ fr [58] h h' ∧ h' 58 = some (MO (n : Int) kp (tl : Int) pt2 1 (f : Int) dm ce di be od sm le sc ba bb ti rk ts tm pa wa))) := by
  refine rr_meth (C := K_Model_person) (hd := h_Model_person) (mx := 2) rfl rfl (fun K hK => ?_)
  refine hK _ _ _ _ ?_
  refine s_aload_n rfl (cn rfl) rfl ?_
  refine s_virt rfl (cn rfl) rfl rfl c58 rfl (m_blank0 htl hp ht c58 c61) ?_
  rintro _ _ ⟨rfl, (⟨eb, lb, h1, rfl, hf1, c58⟩ | ⟨eb, h1, rfl, hf1, c58⟩)⟩
  · have c61 := (hf1 61 (by decide)).trans c61
    obtain ⟨pl1, pl2, pl3, pl4⟩ := pl_s (tp := ta) lb
    refine s_aload_n rfl (cn rfl) rfl ?_
    refine s_getfield rfl (cn rfl) c58 rfl ?_
    refine s_if_eq rfl (cn rfl) (cn rfl) ⟨by omega, by omega⟩ (fun q4 => ?_) (fun q4 => ?_)
    · first
      | (exact absurd q4 (by decide))
      | skip
        refine s_aload_n rfl (cn rfl) rfl ?_
        refine s_virt rfl (cn rfl) rfl rfl c58 rfl (m_letters htl lb ht c58 c61) ?_
        rintro _ _ ⟨rfl, h2, rfl, hf2, c58⟩
        have c61 := (hf2 61 (by decide)).trans c61
        have hF := fr_t hf1 hf2 (by decide)
        refine s_istore_n rfl (cn rfl) ?_
        refine s_aload_n rfl (cn rfl) rfl ?_
        refine s_getfield rfl (cn rfl) c58 rfl ?_
        refine s_iload_n rfl (cn rfl) rfl ?_
        refine s_iconst rfl (cn rfl) ?_
        refine s_iadd rfl (cn rfl) ?_
        refine s_icmp_ne rfl (cn rfl) (cn rfl) ⟨by omega, by omega⟩ ⟨by omega, by omega⟩ (fun q15 => ?_) (fun q15 => ?_)
        · refine s_aload_n rfl (cn rfl) rfl ?_
          refine s_iload_n rfl (cn rfl) rfl ?_
          refine s_virt rfl (cn rfl) rfl rfl c58 rfl (m_wrong c58) ?_
          rintro _ _ ⟨rfl, h9, rfl, hf9, d58⟩
          refine s_iconst rfl (cn rfl) ?_
          refine s_ireturn rfl ?_
          refine Or.inr ⟨p + 1, _, _, ?_, rfl, h9, rfl, fr_t hF hf9 (by decide), d58⟩
          rw [eb]
          show rP ta tl (p + 1) = _
          exact if_neg (fun q => by omega)
        · have la := isL_lt (pl3 (p + 1) (by omega) (by omega))
          refine s_aload_n rfl (cn rfl) rfl ?_
          refine s_getfield rfl (cn rfl) c58 rfl ?_
          refine s_iload_n rfl (cn rfl) rfl ?_
          refine s_iaload rfl (cn rfl) _ rfl c61 rfl (by omega) (by decide) rfl ?_
          refine s_bipush rfl (cn rfl) (by decide) ?_
          refine s_icmp_le rfl (cn rfl) (cn rfl) ⟨by omega, by omega⟩ ⟨by omega, by omega⟩ (fun q21 => ?_) (fun q21 => ?_)
          · refine s_aload_n rfl (cn rfl) rfl ?_
            refine s_getfield rfl (cn rfl) c58 rfl ?_
            refine s_iload_n rfl (cn rfl) rfl ?_
            refine s_iaload rfl (cn rfl) _ rfl c61 rfl (by omega) (by decide) rfl ?_
            refine s_bipush rfl (cn rfl) (by decide) ?_
            refine s_isub rfl (cn rfl) ?_
            refine s_ireturn rfl ?_
            refine Or.inl ⟨plN ta tl (p + 1), _, ?_, rfl, h2, rfl, hF, c58⟩
            rw [eb]
            show rP ta tl (p + 1) = _
            exact if_pos ⟨by omega, by omega⟩
          · refine s_aload_n rfl (cn rfl) rfl ?_
            refine s_iload_n rfl (cn rfl) rfl ?_
            refine s_virt rfl (cn rfl) rfl rfl c58 rfl (m_wrong c58) ?_
            rintro _ _ ⟨rfl, h9, rfl, hf9, d58⟩
            refine s_iconst rfl (cn rfl) ?_
            refine s_ireturn rfl ?_
            refine Or.inr ⟨p + 1, _, _, ?_, rfl, h9, rfl, fr_t hF hf9 (by decide), d58⟩
            rw [eb]
            show rP ta tl (p + 1) = _
            exact if_neg (fun q => by omega)
    · first
      | (exact absurd rfl q4)
      | skip
        refine s_iconst rfl (cn rfl) ?_
        refine s_ireturn rfl ?_
        exact Or.inr ⟨p, 0, _, by rw [eb]; rfl, rfl, h1, rfl, hf1, c58⟩
  · refine s_aload_n rfl (cn rfl) rfl ?_
    refine s_getfield rfl (cn rfl) c58 rfl ?_
    refine s_if_eq rfl (cn rfl) (cn rfl) ⟨by omega, by omega⟩ (fun q4 => ?_) (fun q4 => ?_)
    · first
      | (exact absurd q4 (by decide))
      | skip
        refine s_aload_n rfl (cn rfl) rfl ?_
        refine s_virt rfl (cn rfl) rfl rfl c58 rfl (m_letters htl lb ht c58 c61) ?_
        rintro _ _ ⟨rfl, h2, rfl, hf2, c58⟩
        have c61 := (hf2 61 (by decide)).trans c61
        have hF := fr_t hf1 hf2 (by decide)
        refine s_istore_n rfl (cn rfl) ?_
        refine s_aload_n rfl (cn rfl) rfl ?_
        refine s_getfield rfl (cn rfl) c58 rfl ?_
        refine s_iload_n rfl (cn rfl) rfl ?_
        refine s_iconst rfl (cn rfl) ?_
        refine s_iadd rfl (cn rfl) ?_
        refine s_icmp_ne rfl (cn rfl) (cn rfl) ⟨by omega, by omega⟩ ⟨by omega, by omega⟩ (fun q15 => ?_) (fun q15 => ?_)
        · refine s_aload_n rfl (cn rfl) rfl ?_
          refine s_iload_n rfl (cn rfl) rfl ?_
          refine s_virt rfl (cn rfl) rfl rfl c58 rfl (m_wrong c58) ?_
          rintro _ _ ⟨rfl, h9, rfl, hf9, d58⟩
          refine s_iconst rfl (cn rfl) ?_
          refine s_ireturn rfl ?_
          refine Or.inr ⟨p + 1, _, _, ?_, rfl, h9, rfl, fr_t hF hf9 (by decide), d58⟩
          rw [eb]
          show rP ta tl (p + 1) = _
          exact if_neg (fun q => by omega)
        · have la := isL_lt (pl3 (p + 1) (by omega) (by omega))
          refine s_aload_n rfl (cn rfl) rfl ?_
          refine s_getfield rfl (cn rfl) c58 rfl ?_
          refine s_iload_n rfl (cn rfl) rfl ?_
          refine s_iaload rfl (cn rfl) _ rfl c61 rfl (by omega) (by decide) rfl ?_
          refine s_bipush rfl (cn rfl) (by decide) ?_
          refine s_icmp_le rfl (cn rfl) (cn rfl) ⟨by omega, by omega⟩ ⟨by omega, by omega⟩ (fun q21 => ?_) (fun q21 => ?_)
          · refine s_aload_n rfl (cn rfl) rfl ?_
            refine s_getfield rfl (cn rfl) c58 rfl ?_
            refine s_iload_n rfl (cn rfl) rfl ?_
            refine s_iaload rfl (cn rfl) _ rfl c61 rfl (by omega) (by decide) rfl ?_
            refine s_bipush rfl (cn rfl) (by decide) ?_
            refine s_isub rfl (cn rfl) ?_
            refine s_ireturn rfl ?_
            refine Or.inl ⟨plN ta tl (p + 1), _, ?_, rfl, h2, rfl, hF, c58⟩
            rw [eb]
            show rP ta tl (p + 1) = _
            exact if_pos ⟨by omega, by omega⟩
          · refine s_aload_n rfl (cn rfl) rfl ?_
            refine s_iload_n rfl (cn rfl) rfl ?_
            refine s_virt rfl (cn rfl) rfl rfl c58 rfl (m_wrong c58) ?_
            rintro _ _ ⟨rfl, h9, rfl, hf9, d58⟩
            refine s_iconst rfl (cn rfl) ?_
            refine s_ireturn rfl ?_
            refine Or.inr ⟨p + 1, _, _, ?_, rfl, h9, rfl, fr_t hF hf9 (by decide), d58⟩
            rw [eb]
            show rP ta tl (p + 1) = _
            exact if_neg (fun q => by omega)
    · first
      | (exact absurd rfl q4)
      | skip
        refine s_iconst rfl (cn rfl) ?_
        refine s_ireturn rfl ?_
        exact Or.inr ⟨p, 0, _, by rw [eb]; rfl, rfl, h1, rfl, hf1, c58⟩
