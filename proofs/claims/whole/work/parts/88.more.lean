/-! The model's rank: lead, lowers, isMore. -/
theorem gcb_4 : ∀ k, k < 5 → gcb k ≤ 128 ∧ 0 ≤ gcb k := by decide
theorem m_lead {d N S n : Nat} {kp tp pt wr fa dm ce di be od sm le sc ba bb ti rk ts tm pa wa : Int} {h : Nat → Option rr_E} (hn : 2 ≤ n ∧ n ≤ 4) (c58 : h 58 = some (MO (n : Int) kp tp pt wr fa dm ce di be od sm le sc ba bb ti rk ts tm pa wa)) {x : Nat → Int} (c74 : h 74 = some (.inl (0, 25, .inl (fun k => ii (x k))))) {r : Nat} (hr : r < 5) (hx : ∀ k, k < n → -128 ≤ x (5 * r + k) ∧ x (5 * r + k) ≤ 128) : rr_Calls (d + 1) j_Model_lead [.ref 58, .int (ii (r : Int))] (N, S, h) (fun y R => (∃ p : Nat, y = some (.int (ii (p : Int))) ∧ p ≤ n ∧ (∀ k, k < p → x (5 * r + k) = 0) ∧ (p < n → x (5 * r + p) ≠ 0)) ∧ R = (N, S, h)) := by
  refine rr_meth (C := K_Model_lead) (hd := h_Model_lead) (mx := 3) rfl rfl (fun K hK => ?_)
  refine hK _ _ _ _ ?_
  refine s_iconst rfl (cn rfl) ?_
  refine s_istore_n rfl (ch rfl) ?_
  have lp2 : ∀ p : Nat, p ≤ n → ∀ (hp0 : ∀ k, k < p → x (5 * r + k) = 0), K 2 [some (.ref 58), some (.int (ii (r : Int))), some (.int (ii (p : Int)))] [] (N, S, h) := by
    refine dn (fun p hp ih2 => ?_)
    intro hp0
    refine hK _ _ _ _ ?_
    refine s_iload_n rfl (cn rfl) rfl ?_
    refine s_aload_n rfl (cn rfl) rfl ?_
    refine s_getfield rfl (cn rfl) c58 rfl ?_
    refine s_icmp_ge rfl (cn rfl) (cn rfl) ⟨by omega, by omega⟩ ⟨by omega, by omega⟩ (fun q5 => ?_) (fun q5 => ?_)
    · refine s_iload_n rfl (cn rfl) rfl ?_
      refine s_ireturn rfl ?_
      first
        | exact ⟨⟨p, rfl, by omega, hp0, fun _ => q14⟩, rfl⟩
        | exact ⟨⟨p, rfl, by omega, hp0, fun q => by omega⟩, rfl⟩
    · refine s_aload_n rfl (cn rfl) rfl ?_
      refine s_getfield rfl (cn rfl) c58 rfl ?_
      refine s_iconst rfl (cn rfl) ?_
      refine s_iload_n rfl (cn rfl) rfl ?_
      refine s_imul rfl (cn rfl) ?_
      refine s_iload_n rfl (cn rfl) rfl ?_
      refine s_iadd rfl (cn rfl) ?_
      have hb := hx p (by omega)
      refine s_iaload rfl (cn rfl) (5 * r + p) (by omega) c74 rfl (by omega) (by decide) rfl ?_
      refine s_if_ne rfl (cn rfl) (cn rfl) ⟨by omega, by omega⟩ (fun q14 => ?_) (fun q14 => ?_)
      · refine s_iload_n rfl (cn rfl) rfl ?_
        refine s_ireturn rfl ?_
        first
          | exact ⟨⟨p, rfl, by omega, hp0, fun _ => q14⟩, rfl⟩
          | exact ⟨⟨p, rfl, by omega, hp0, fun q => by omega⟩, rfl⟩
      · refine s_iinc rfl (cn rfl) rfl ?_
        refine s_goto rfl (ch rfl) ?_
        exact ih2 (by omega) (fun k hk => by
            by_cases e : k = p
            · subst e; exact q14
            · exact hp0 k (by omega))
  exact lp2 0 (by omega) (fun k hk => absurd hk (by omega))
theorem m_lowers {d N S n : Nat} {kp tp pt wr fa dm ce di be od sm le sc ba bb ti ts tm pa wa : Int} {h : Nat → Option rr_E} (hn : 2 ≤ n ∧ n ≤ 4)  {rk : Nat} (c58 : h 58 = some (MO (n : Int) kp tp pt wr fa dm ce di be od sm le sc ba bb ti (rk : Int) ts tm pa wa)) {x : Nat → Int} (c74 : h 74 = some (.inl (0, 25, .inl (fun k => ii (x k))))) {pl : Nat → Nat} (hrk : rk ≤ 4) (hE : ECH n rk pl x) (h0 : ∀ c, c < n → x (5 * rk + c) = 0 ∨ x (5 * rk + c) = 1) : rr_Calls (d + 2) j_Model_lowers [.ref 58] (N, S, h) (fun r R => (r = some (.int (ii 1)) ∧ ∃ (h' : Nat → Option rr_E) (y : Nat → Int) (p : Nat), R = (N, S, h') ∧ fr [58, 74] h h' ∧ h' 58 = some (MO (n : Int) kp tp pt wr fa dm ce di be od sm le sc ba bb ti ((rk + 1 : Nat) : Int) ts tm pa wa) ∧ h' 74 = some (.inl (0, 25, .inl (fun k => ii (y k)))) ∧ (∀ j, j < rk → ∀ c, c < n → y (5 * j + c) = x (5 * j + c)) ∧ wk n rk rk x y pl ∧ p < n ∧ (∀ k, k < p → y (5 * rk + k) = 0) ∧ y (5 * rk + p) ≠ 0) ∨ (r = some (.int (ii 0)) ∧ ∃ (h' : Nat → Option rr_E) (y : Nat → Int), R = (N, S, h') ∧ fr [58, 74] h h' ∧ h' 58 = some (MO (n : Int) kp tp pt wr fa dm ce di be od sm le sc ba bb ti (rk : Int) ts tm pa wa) ∧ h' 74 = some (.inl (0, 25, .inl (fun k => ii (y k)))) ∧ (∀ j, j < rk → ∀ c, c < n → y (5 * j + c) = x (5 * j + c)) ∧ wk n rk rk x y pl ∧ ∀ c, c < n → y (5 * rk + c) = 0)) := by
  refine rr_meth (C := K_Model_lowers) (hd := h_Model_lowers) (mx := 6) rfl rfl (fun K hK => ?_)
  refine hK _ _ _ _ ?_
  refine s_iconst rfl (cn rfl) ?_
  refine s_istore_n rfl (ch rfl) ?_
  have lp2 : ∀ r : Nat, r ≤ rk → ∀ (h' : Nat → Option rr_E) (y : Nat → Int) (l2 l3 l4 l5 : Option Value) (c74 : h' 74 = some (.inl (0, 25, .inl (fun k => ii (y k))))) (hf : fr [58, 74] h h') (c58 : h' 58 = some (MO (n : Int) kp tp pt wr fa dm ce di be od sm le sc ba bb ti (rk : Int) ts tm pa wa)) (ey : ∀ j, j < rk → ∀ c, c < n → y (5 * j + c) = x (5 * j + c)) (hw : wk n rk r x y pl), K 2 [some (.ref 58), some (.int (ii (r : Int))), l2, l3, l4, l5] [] (N, S, h') := by
    refine dn (fun r hr ih2 => ?_)
    intro h' y l2 l3 l4 l5 c74 hf c58 ey hw
    refine hK _ _ _ _ ?_
    refine s_iload_n rfl (cn rfl) rfl ?_
    refine s_aload_n rfl (cn rfl) rfl ?_
    refine s_getfield rfl (cn rfl) c58 rfl ?_
    refine s_icmp_ge rfl (cn rfl) (cn rfl) ⟨by omega, by omega⟩ ⟨by omega, by omega⟩ (fun q5 => ?_) (fun q5 => ?_)
    · have hg1 := gcb_4 rk (by omega)
      have erk : r = rk := by omega
      rw [erk] at hw
      have hbr : ∀ k, k < n → -128 ≤ y (5 * rk + k) ∧ y (5 * rk + k) ≤ 128 := fun k hk => by have := hw.1 k hk; omega
      refine s_aload_n rfl (cn rfl) rfl ?_
      refine s_aload_n rfl (cn rfl) rfl ?_
      refine s_getfield rfl (cn rfl) c58 rfl ?_
      refine s_virt rfl (cn rfl) rfl rfl c58 rfl (m_lead hn c58 c74 (r := rk) (by omega) hbr) ?_
      rintro _ _ ⟨⟨p, rfl, p1, p2, p3⟩, rfl⟩
      refine s_aload_n rfl (cn rfl) rfl ?_
      refine s_getfield rfl (cn rfl) c58 rfl ?_
      refine s_icmp_ge rfl (cn rfl) (cn rfl) ⟨by omega, by omega⟩ ⟨by omega, by omega⟩ (fun q78 => ?_) (fun q78 => ?_)
      · refine s_iconst rfl (cn rfl) ?_
        refine s_istore_n rfl (cn rfl) ?_
        refine s_aload_n rfl (cn rfl) rfl ?_
        refine s_dupr rfl (cn rfl) ?_
        refine s_getfield rfl (cn rfl) c58 rfl ?_
        refine s_iload_n rfl (cn rfl) rfl ?_
        refine s_if_eq rfl (cn rfl) (cn rfl) (by decide) (fun q87 => ?_) (fun q87 => absurd q87 (by decide))
        refine s_iconst rfl (cn rfl) ?_
        refine s_iadd rfl (cn rfl) ?_
        refine s_puti rfl (cn rfl) rfl c58 rfl ?_
        try rw [Int.add_zero]
        refine s_iload_n rfl (cn rfl) rfl ?_
        refine s_zreturn rfl (Or.inl rfl) ?_
        exact Or.inr ⟨rfl, _, y, rfl, fr_s (by decide) hf, rr_set_eq, c74, ey, hw, fun c hc => p2 c (by omega)⟩
      · refine s_iconst rfl (cn rfl) ?_
        refine s_goto rfl (cn rfl) ?_
        refine s_istore_n rfl (cn rfl) ?_
        refine s_aload_n rfl (cn rfl) rfl ?_
        refine s_dupr rfl (cn rfl) ?_
        refine s_getfield rfl (cn rfl) c58 rfl ?_
        refine s_iload_n rfl (cn rfl) rfl ?_
        refine s_if_eq rfl (cn rfl) (cn rfl) (by decide) (fun q87 => absurd q87 (by decide)) (fun q87 => ?_)
        refine s_iconst rfl (cn rfl) ?_
        refine s_goto rfl (cn rfl) ?_
        refine s_iadd rfl (cn rfl) ?_
        refine s_puti rfl (cn rfl) rfl c58 rfl ?_
        try rw [Int.add_zero]
        refine s_iload_n rfl (cn rfl) rfl ?_
        refine s_zreturn rfl (Or.inr rfl) ?_
        exact Or.inl ⟨rfl, _, y, p, rfl, fr_s (by decide) hf, rr_set_eq, c74, ey, hw, by omega, p2, p3 (by omega)⟩
    · have hEr := hE.1 r (by omega)
      have hg1 := gcb_4 r (by omega)
      have hbr : ∀ k, k < n → -128 ≤ y (5 * r + k) ∧ y (5 * r + k) ≤ 128 := fun k hk => by have := hE.2.2.1 r (by omega) k hk; rw [ey r (by omega) k hk]; omega
      refine s_aload_n rfl (cn rfl) rfl ?_
      refine s_iload_n rfl (cn rfl) rfl ?_
      refine s_virt rfl (cn rfl) rfl rfl c58 rfl (m_lead hn c58 c74 (by omega) hbr) ?_
      rintro _ _ ⟨⟨p, rfl, p1, p2, p3⟩, rfl⟩
      obtain rfl : p = pl r := by
        have e1 := ey r (by omega)
        rcases Nat.lt_trichotomy p (pl r) with e | e | e
        · exact absurd (p3 (by omega)) (fun z => z ((e1 p (by omega)).trans (hEr.2.1 p e)))
        · exact e
        · exact absurd ((e1 _ hEr.1).symm.trans (p2 (pl r) e)) hEr.2.2
      refine s_istore_n rfl (cn rfl) ?_
      refine s_aload_n rfl (cn rfl) rfl ?_
      refine s_getfield rfl (cn rfl) c58 rfl ?_
      refine s_iconst rfl (cn rfl) ?_
      refine s_iload_n rfl (cn rfl) rfl ?_
      refine s_imul rfl (cn rfl) ?_
      refine s_iload_n rfl (cn rfl) rfl ?_
      refine s_iadd rfl (cn rfl) ?_
      refine s_iaload rfl (cn rfl) (5 * r + pl r) (by omega) c74 rfl (by omega) (by decide) rfl ?_
      refine s_istore_n rfl (cn rfl) ?_
      refine s_aload_n rfl (cn rfl) rfl ?_
      refine s_getfield rfl (cn rfl) c58 rfl ?_
      refine s_iconst rfl (cn rfl) ?_
      refine s_aload_n rfl (cn rfl) rfl ?_
      refine s_getfield rfl (cn rfl) c58 rfl ?_
      refine s_imul rfl (cn rfl) ?_
      refine s_iload_n rfl (cn rfl) rfl ?_
      refine s_iadd rfl (cn rfl) ?_
      refine s_iaload rfl (cn rfl) (5 * rk + pl r) (by omega) c74 rfl (by omega) (by decide) rfl ?_
      refine s_istore rfl (cn rfl) ?_
      have hbo : -128 ≤ y (5 * rk + pl r) ∧ y (5 * rk + pl r) ≤ 128 := by have := hw.1 (pl r) hEr.1; omega
      refine s_iconst rfl (cn rfl) ?_
      refine s_istore rfl (ch rfl) ?_
      have lp31 : ∀ q : Nat, q ≤ n → ∀ (h2 : Nat → Option rr_E) (u : Nat → Int) (c74 : h2 74 = some (.inl (0, 25, .inl (fun k => ii (u k))))) (hf2 : fr [58, 74] h h2) (c58 : h2 58 = some (MO (n : Int) kp tp pt wr fa dm ce di be od sm le sc ba bb ti (rk : Int) ts tm pa wa)) (eu : ∀ j, j < rk → ∀ c, c < n → u (5 * j + c) = x (5 * j + c)) (hq0 : y (5 * rk + pl r) = 0 → q = 0) (hu : ∀ c, c < n → u (5 * rk + c) = if c < q then y (5 * r + pl r) * y (5 * rk + c) - y (5 * rk + pl r) * y (5 * r + c) else y (5 * rk + c)), K 31 [some (.ref 58), some (.int (ii (r : Int))), some (.int (ii ((pl r : Nat) : Int))), some (.int (ii (y (5 * r + pl r)))), some (.int (ii (y (5 * rk + pl r)))), some (.int (ii (q : Int)))] [] (N, S, h2) := by
        refine dn (fun q hq ih31 => ?_)
        intro h2 u c74 hf2 c58 eu hq0 hu
        refine hK _ _ _ _ ?_
        refine s_iload rfl (cn rfl) rfl ?_
        refine s_aload_n rfl (cn rfl) rfl ?_
        refine s_getfield rfl (cn rfl) c58 rfl ?_
        refine s_icmp_ge rfl (cn rfl) (cn rfl) ⟨by omega, by omega⟩ ⟨by omega, by omega⟩ (fun q34 => ?_) (fun q34 => ?_)
        · refine s_iinc rfl (cn rfl) rfl ?_
          refine s_goto rfl (ch rfl) ?_
          first
            | exact ih2 (by omega) _ _ _ _ _ _ c74 hf2 c58 eu (wk_down (by omega) hrk hE ey hw (fun c hc => (hu c hc).trans (if_pos (by omega))))
            | exact ih2 (by omega) _ _ _ _ _ _ c74 hf2 c58 eu (wk_same (by omega) hw hEr.1 (fun c hc => (hu c hc).trans (if_neg (by have := hq0 q36; omega))) q36 (fun j hj => (hE.1 j (by omega)).1))
        · refine s_iload rfl (cn rfl) rfl ?_
          refine s_if_eq rfl (cn rfl) (cn rfl) ⟨by omega, by omega⟩ (fun q36 => ?_) (fun q36 => ?_)
          · refine s_iinc rfl (cn rfl) rfl ?_
            refine s_goto rfl (ch rfl) ?_
            first
              | exact ih2 (by omega) _ _ _ _ _ _ c74 hf2 c58 eu (wk_down (by omega) hrk hE ey hw (fun c hc => (hu c hc).trans (if_pos (by omega))))
              | exact ih2 (by omega) _ _ _ _ _ _ c74 hf2 c58 eu (wk_same (by omega) hw hEr.1 (fun c hc => (hu c hc).trans (if_neg (by have := hq0 q36; omega))) q36 (fun j hj => (hE.1 j (by omega)).1))
          · refine s_aload_n rfl (cn rfl) rfl ?_
            refine s_getfield rfl (cn rfl) c58 rfl ?_
            refine s_iconst rfl (cn rfl) ?_
            refine s_aload_n rfl (cn rfl) rfl ?_
            refine s_getfield rfl (cn rfl) c58 rfl ?_
            refine s_imul rfl (cn rfl) ?_
            refine s_iload rfl (cn rfl) rfl ?_
            refine s_iadd rfl (cn rfl) ?_
            refine s_iload_n rfl (cn rfl) rfl ?_
            refine s_aload_n rfl (cn rfl) rfl ?_
            refine s_getfield rfl (cn rfl) c58 rfl ?_
            refine s_iconst rfl (cn rfl) ?_
            refine s_aload_n rfl (cn rfl) rfl ?_
            refine s_getfield rfl (cn rfl) c58 rfl ?_
            refine s_imul rfl (cn rfl) ?_
            refine s_iload rfl (cn rfl) rfl ?_
            refine s_iadd rfl (cn rfl) ?_
            have hw1 : u (5 * rk + q) = y (5 * rk + q) := (hu q (by omega)).trans (if_neg (by omega))
            refine s_iaload rfl (cn rfl) (5 * rk + q) (by omega) c74 rfl (by omega) (by decide) (congrArg ii hw1) ?_
            refine s_imul rfl (cn rfl) ?_
            refine s_iload rfl (cn rfl) rfl ?_
            refine s_aload_n rfl (cn rfl) rfl ?_
            refine s_getfield rfl (cn rfl) c58 rfl ?_
            refine s_iconst rfl (cn rfl) ?_
            refine s_iload_n rfl (cn rfl) rfl ?_
            refine s_imul rfl (cn rfl) ?_
            refine s_iload rfl (cn rfl) rfl ?_
            refine s_iadd rfl (cn rfl) ?_
            have hw2 : u (5 * r + q) = y (5 * r + q) := (eu r (by omega) q (by omega)).trans (ey r (by omega) q (by omega)).symm
            refine s_iaload rfl (cn rfl) (5 * r + q) (by omega) c74 rfl (by omega) (by decide) (congrArg ii hw2) ?_
            refine s_imul rfl (cn rfl) ?_
            refine s_isub rfl (cn rfl) ?_
            refine s_iastore rfl (cn rfl) (5 * rk + q) (by omega) c74 (by omega) (by decide) ?_
            refine s_iinc rfl (cn rfl) rfl ?_
            refine s_goto rfl (ch rfl) ?_
            exact ih31 (by omega) _ _ rr_set_eq (fr_s (by decide) hf2) c58 (fun j hj c hc => (fu_n (by omega)).trans (eu j hj c hc)) (fun e => absurd e q36) (fun c hc => by
              by_cases e : c = q
              · subst e; rw [fu_s, if_pos (by omega)]
              · rw [fu_n (by omega), hu c hc]
                by_cases e2 : c < q
                · rw [if_pos e2, if_pos (by omega)]
                · rw [if_neg e2, if_neg (by omega)])
      exact lp31 0 (by omega) _ y c74 hf c58 ey (fun _ => rfl) (fun c hc => (if_neg (by omega)).symm)
  exact lp2 0 (by omega) _ x _ _ _ _ c74 fr_r c58 (fun j _ c _ => rfl) (wk_0 h0)
theorem m_isMore {d N S n : Nat} {kp tp pt wr fa dm di be od sm le sc ba bb ti ts tm pa wa : Int} {h : Nat → Option rr_E} (hn : 2 ≤ n ∧ n ≤ 4)  {ce g : Nat} {rk : Int} (c58 : h 58 = some (MO (n : Int) kp tp pt wr fa dm (ce : Int) di be od sm le sc ba bb ti rk ts tm pa wa)) {Rw : Nat → Nat} (c66 : h 66 = some (.inl (0, 5, .inl (fun k => ii ((Rw k : Nat) : Int))))) {x : Nat → Int} (c74 : h 74 = some (.inl (0, 25, .inl (fun k => ii (x k))))) (hR : ∀ k, Rw k < 16) (hce : 1 ≤ ce ∧ ce ≤ n) (hg : g < 16) (hind : ∀ i, i < ce → ∃ dl : Nat → Int, (∀ r, r < i → st_sh n (Rw r) dl = 0) ∧ st_sh n (Rw i) dl ≠ 0) : rr_Calls (d + 3) j_Model_isMore [.ref 58, .int (ii (g : Int))] (N, S, h) (fun r R => ∃ (h' : Nat → Option rr_E) (y : Nat → Int) (rk' : Int), R = (N, S, h') ∧ fr [58, 74] h h' ∧ h' 58 = some (MO (n : Int) kp tp pt wr fa dm (ce : Int) di be od sm le sc ba bb ti rk' ts tm pa wa) ∧ h' 74 = some (.inl (0, 25, .inl (fun k => ii (y k)))) ∧ ((r = some (.int (ii 1)) ∧ ∃ dl : Nat → Int, (∀ r, r < ce → st_sh n (Rw r) dl = 0) ∧ st_sh n g dl ≠ 0) ∨ (r = some (.int (ii 0)) ∧ ∀ dl : Nat → Int, (∀ r, r < ce → st_sh n (Rw r) dl = 0) → st_sh n g dl = 0))) := by
  refine rr_meth (C := K_Model_isMore) (hd := h_Model_isMore) (mx := 6) rfl rfl (fun K hK => ?_)
  refine hK _ _ _ _ ?_
  refine s_aload_n rfl (cn rfl) rfl ?_
  refine s_iconst rfl (cn rfl) ?_
  refine s_puti rfl (cn rfl) rfl c58 rfl ?_
  refine s_iconst rfl (cn rfl) ?_
  refine s_istore_n rfl (cn rfl) ?_
  refine s_iconst rfl (cn rfl) ?_
  refine s_istore_n rfl (ch rfl) ?_
  have lp7 : ∀ r : Nat, r ≤ ce + 2 → ∀ (h' : Nat → Option rr_E) (y : Nat → Int) (isv : Int32) (his : isv = 0 ∨ isv = 1) (l4 l5 : Option Value) (rkv : Int) (c58 : h' 58 = some (MO (n : Int) kp tp pt wr fa dm (ce : Int) di be od sm le sc ba bb ti rkv ts tm pa wa)) (c74 : h' 74 = some (.inl (0, 25, .inl (fun k => ii (y k))))) (hf : fr [58, 74] h h') (hr2 : r ≤ ce + 1) (hI1 : r ≤ ce → rkv = (r : Int) ∧ ∃ pl, ECH n r pl y ∧ SE n r y Rw) (hI2 : r = ce + 1 → (isv = ii 1 ∧ ∃ dl : Nat → Int, (∀ r, r < ce → st_sh n (Rw r) dl = 0) ∧ st_sh n g dl ≠ 0) ∨ (isv = ii 0 ∧ ∀ dl : Nat → Int, (∀ r, r < ce → st_sh n (Rw r) dl = 0) → st_sh n g dl = 0)), K 7 [some (.ref 58), some (.int (ii (g : Int))), some (.int isv), some (.int (ii (r : Int))), l4, l5] [] (N, S, h') := by
    refine dn (fun r hr ih7 => ?_)
    intro h' y isv his l4 l5 rkv c58 c74 hf hr2 hI1 hI2
    have c66 := (hf 66 (by decide)).trans c66
    have hRr := hR r
    refine hK _ _ _ _ ?_
    refine s_iload_n rfl (cn rfl) rfl ?_
    refine s_aload_n rfl (cn rfl) rfl ?_
    refine s_getfield rfl (cn rfl) c58 rfl ?_
    refine s_icmp_gt rfl (cn rfl) (cn rfl) ⟨by omega, by omega⟩ ⟨by omega, by omega⟩ (fun q10 => ?_) (fun q10 => ?_)
    · refine s_iload_n rfl (cn rfl) rfl ?_
      refine s_zreturn rfl his ?_
      rcases hI2 (by omega) with ⟨rfl, k⟩ | ⟨rfl, k⟩
      · exact ⟨h', y, _, rfl, hf, c58, c74, Or.inl ⟨rfl, k⟩⟩
      · exact ⟨h', y, _, rfl, hf, c58, c74, Or.inr ⟨rfl, k⟩⟩
    · obtain ⟨hrk, pl, hE, hS⟩ := hI1 (by omega)
      subst hrk
      refine s_iload_n rfl (cn rfl) rfl ?_
      refine s_aload_n rfl (cn rfl) rfl ?_
      refine s_getfield rfl (cn rfl) c58 rfl ?_
      refine s_icmp_ge rfl (cn rfl) (cn rfl) ⟨by omega, by omega⟩ ⟨by omega, by omega⟩ (fun q14 => ?_) (fun q14 => ?_)
      · skip
        refine s_iload_n rfl (cn rfl) rfl ?_
        refine s_istore rfl (cn rfl) ?_
        refine s_iconst rfl (cn rfl) ?_
        refine s_istore rfl (ch rfl) ?_
        have lp24 : ∀ p : Nat, p ≤ n → ∀ (h2 : Nat → Option rr_E) (u : Nat → Int) (c58 : h2 58 = some (MO (n : Int) kp tp pt wr fa dm (ce : Int) di be od sm le sc ba bb ti (r : Int) ts tm pa wa)) (c74 : h2 74 = some (.inl (0, 25, .inl (fun k => ii (u k))))) (hf2 : fr [58, 74] h h2) (hu1 : ∀ j, j < r → ∀ c, c < n → u (5 * j + c) = y (5 * j + c)) (hu2 : ∀ c, c < p → u (5 * r + c) = st_bt (g) c), K 24 [some (.ref 58), some (.int (ii (g : Int))), some (.int isv), some (.int (ii (r : Int))), some (.int (ii ((g : Nat) : Int))), some (.int (ii (p : Int)))] [] (N, S, h2) := by
          refine dn (fun p hp ih24 => ?_)
          intro h2 u c58 c74 hf2 hu1 hu2
          have hb1 := bt_01 (g) p
          refine hK _ _ _ _ ?_
          refine s_iload rfl (cn rfl) rfl ?_
          refine s_aload_n rfl (cn rfl) rfl ?_
          refine s_getfield rfl (cn rfl) c58 rfl ?_
          refine s_icmp_ge rfl (cn rfl) (cn rfl) ⟨by omega, by omega⟩ ⟨by omega, by omega⟩ (fun q27 => ?_) (fun q27 => ?_)
          · refine s_aload_n rfl (cn rfl) rfl ?_
            refine s_virt rfl (cn rfl) rfl rfl c58 rfl (m_lowers (rk := r) (pl := pl) hn c58 c74 (by omega) (ECH_cg hE hu1) (fun c hc => by rw [hu2 c (by omega)]; exact bt_01 _ c)) ?_
            rintro _ _ (⟨rfl, h3, y3, p3, rfl, hf3, c58, c74, ey3, hw3, e1, e2, e3⟩ | ⟨rfl, h3, y3, rfl, hf3, c58, c74, ey3, hw3, e1⟩)
            · refine s_istore_n rfl (cn rfl) ?_
              refine s_iinc rfl (cn rfl) rfl ?_
              refine s_goto rfl (ch rfl) ?_
              first
                | exact ih7 (by omega) _ _ _ (Or.inr rfl) _ _ _ c58 c74 (fr_t hf2 hf3 (by simp)) (by omega) (fun q => ⟨rfl, _, im_1 hE hS hu1 (fun c hc => hu2 c (by omega)) ey3 hw3 e1 e2 e3⟩) (fun q => absurd q (by omega))
                | exact ih7 (by omega) _ _ _ (Or.inr rfl) _ _ _ c58 c74 (fr_t hf2 hf3 (by simp)) (by omega) (fun q => absurd q (by omega)) (fun q => Or.inl ⟨rfl, by
                    have erc : r = ce := by omega
                    have k := im_t hE hS hu1 (fun c hc => hu2 c (by omega)) hw3 e1 e3
                    rw [erc] at k; exact k⟩)
                | (exfalso
                   obtain ⟨dl, k1, k2⟩ := hind r (by omega)
                   exact k2 (im_0 hS hu1 (fun c hc => hu2 c (by omega)) hw3 e1 dl k1))
                | exact ih7 (by omega) _ _ _ (Or.inl rfl) _ _ _ c58 c74 (fr_t hf2 hf3 (by simp)) (by omega) (fun q => absurd q (by omega)) (fun q => Or.inr ⟨rfl, by
                    have erc : r = ce := by omega
                    have k := im_0 hS hu1 (fun c hc => hu2 c (by omega)) hw3 e1
                    rw [erc] at k; exact k⟩)
            · refine s_istore_n rfl (cn rfl) ?_
              refine s_iinc rfl (cn rfl) rfl ?_
              refine s_goto rfl (ch rfl) ?_
              first
                | exact ih7 (by omega) _ _ _ (Or.inr rfl) _ _ _ c58 c74 (fr_t hf2 hf3 (by simp)) (by omega) (fun q => ⟨rfl, _, im_1 hE hS hu1 (fun c hc => hu2 c (by omega)) ey3 hw3 e1 e2 e3⟩) (fun q => absurd q (by omega))
                | exact ih7 (by omega) _ _ _ (Or.inr rfl) _ _ _ c58 c74 (fr_t hf2 hf3 (by simp)) (by omega) (fun q => absurd q (by omega)) (fun q => Or.inl ⟨rfl, by
                    have erc : r = ce := by omega
                    have k := im_t hE hS hu1 (fun c hc => hu2 c (by omega)) hw3 e1 e3
                    rw [erc] at k; exact k⟩)
                | (exfalso
                   obtain ⟨dl, k1, k2⟩ := hind r (by omega)
                   exact k2 (im_0 hS hu1 (fun c hc => hu2 c (by omega)) hw3 e1 dl k1))
                | exact ih7 (by omega) _ _ _ (Or.inl rfl) _ _ _ c58 c74 (fr_t hf2 hf3 (by simp)) (by omega) (fun q => absurd q (by omega)) (fun q => Or.inr ⟨rfl, by
                    have erc : r = ce := by omega
                    have k := im_0 hS hu1 (fun c hc => hu2 c (by omega)) hw3 e1
                    rw [erc] at k; exact k⟩)
          · refine s_aload_n rfl (cn rfl) rfl ?_
            refine s_getfield rfl (cn rfl) c58 rfl ?_
            refine s_iconst rfl (cn rfl) ?_
            refine s_aload_n rfl (cn rfl) rfl ?_
            refine s_getfield rfl (cn rfl) c58 rfl ?_
            refine s_imul rfl (cn rfl) ?_
            refine s_iload rfl (cn rfl) rfl ?_
            refine s_iadd rfl (cn rfl) ?_
            refine s_iload rfl (cn rfl) rfl ?_
            refine s_iload rfl (cn rfl) rfl ?_
            refine s_stat rfl (cn rfl) rfl rfl rfl (m_has (by omega) (by omega)) ?_
            rintro _ _ ⟨rfl, rfl⟩
            refine s_ifb_eq rfl (cn rfl) (cn rfl) (fun q39 => ?_) (fun q39 => ?_)
            · refine s_iconst rfl (cn rfl) ?_
              refine s_iastore rfl (cn rfl) (5 * r + p) (by omega) c74 (by omega) (by decide) ?_
              refine s_iinc rfl (cn rfl) rfl ?_
              refine s_goto rfl (ch rfl) ?_
              exact ih24 (by omega) _ _ c58 rr_set_eq (fr_s (by decide) hf2) (fun j hj c hc => (fu_n (by omega)).trans (hu1 j hj c hc)) (fun c hc => by
                by_cases e : c = p
                · subst e; rw [fu_s]; omega
                · rw [fu_n (by omega)]; exact hu2 c (by omega))
            · refine s_iconst rfl (cn rfl) ?_
              refine s_goto rfl (cn rfl) ?_
              refine s_iastore rfl (cn rfl) (5 * r + p) (by omega) c74 (by omega) (by decide) ?_
              refine s_iinc rfl (cn rfl) rfl ?_
              refine s_goto rfl (ch rfl) ?_
              exact ih24 (by omega) _ _ c58 rr_set_eq (fr_s (by decide) hf2) (fun j hj c hc => (fu_n (by omega)).trans (hu1 j hj c hc)) (fun c hc => by
                by_cases e : c = p
                · subst e; rw [fu_s]; omega
                · rw [fu_n (by omega)]; exact hu2 c (by omega))
        exact lp24 0 (by omega) _ y c58 c74 hf (fun j _ c _ => rfl) (fun c hc => absurd hc (by omega))
      · refine s_aload_n rfl (cn rfl) rfl ?_
        skip
        refine s_getfield rfl (cn rfl) c58 rfl ?_
        refine s_iload_n rfl (cn rfl) rfl ?_
        refine s_iaload rfl (cn rfl) _ rfl c66 rfl (by omega) (by decide) rfl ?_
        refine s_goto rfl (cn rfl) ?_
        refine s_istore rfl (cn rfl) ?_
        refine s_iconst rfl (cn rfl) ?_
        refine s_istore rfl (ch rfl) ?_
        have lp24 : ∀ p : Nat, p ≤ n → ∀ (h2 : Nat → Option rr_E) (u : Nat → Int) (c58 : h2 58 = some (MO (n : Int) kp tp pt wr fa dm (ce : Int) di be od sm le sc ba bb ti (r : Int) ts tm pa wa)) (c74 : h2 74 = some (.inl (0, 25, .inl (fun k => ii (u k))))) (hf2 : fr [58, 74] h h2) (hu1 : ∀ j, j < r → ∀ c, c < n → u (5 * j + c) = y (5 * j + c)) (hu2 : ∀ c, c < p → u (5 * r + c) = st_bt (Rw r) c), K 24 [some (.ref 58), some (.int (ii (g : Int))), some (.int isv), some (.int (ii (r : Int))), some (.int (ii ((Rw r : Nat) : Int))), some (.int (ii (p : Int)))] [] (N, S, h2) := by
          refine dn (fun p hp ih24 => ?_)
          intro h2 u c58 c74 hf2 hu1 hu2
          have hb1 := bt_01 (Rw r) p
          refine hK _ _ _ _ ?_
          refine s_iload rfl (cn rfl) rfl ?_
          refine s_aload_n rfl (cn rfl) rfl ?_
          refine s_getfield rfl (cn rfl) c58 rfl ?_
          refine s_icmp_ge rfl (cn rfl) (cn rfl) ⟨by omega, by omega⟩ ⟨by omega, by omega⟩ (fun q27 => ?_) (fun q27 => ?_)
          · refine s_aload_n rfl (cn rfl) rfl ?_
            refine s_virt rfl (cn rfl) rfl rfl c58 rfl (m_lowers (rk := r) (pl := pl) hn c58 c74 (by omega) (ECH_cg hE hu1) (fun c hc => by rw [hu2 c (by omega)]; exact bt_01 _ c)) ?_
            rintro _ _ (⟨rfl, h3, y3, p3, rfl, hf3, c58, c74, ey3, hw3, e1, e2, e3⟩ | ⟨rfl, h3, y3, rfl, hf3, c58, c74, ey3, hw3, e1⟩)
            · refine s_istore_n rfl (cn rfl) ?_
              refine s_iinc rfl (cn rfl) rfl ?_
              refine s_goto rfl (ch rfl) ?_
              first
                | exact ih7 (by omega) _ _ _ (Or.inr rfl) _ _ _ c58 c74 (fr_t hf2 hf3 (by simp)) (by omega) (fun q => ⟨rfl, _, im_1 hE hS hu1 (fun c hc => hu2 c (by omega)) ey3 hw3 e1 e2 e3⟩) (fun q => absurd q (by omega))
                | exact ih7 (by omega) _ _ _ (Or.inr rfl) _ _ _ c58 c74 (fr_t hf2 hf3 (by simp)) (by omega) (fun q => absurd q (by omega)) (fun q => Or.inl ⟨rfl, by
                    have erc : r = ce := by omega
                    have k := im_t hE hS hu1 (fun c hc => hu2 c (by omega)) hw3 e1 e3
                    rw [erc] at k; exact k⟩)
                | (exfalso
                   obtain ⟨dl, k1, k2⟩ := hind r (by omega)
                   exact k2 (im_0 hS hu1 (fun c hc => hu2 c (by omega)) hw3 e1 dl k1))
                | exact ih7 (by omega) _ _ _ (Or.inl rfl) _ _ _ c58 c74 (fr_t hf2 hf3 (by simp)) (by omega) (fun q => absurd q (by omega)) (fun q => Or.inr ⟨rfl, by
                    have erc : r = ce := by omega
                    have k := im_0 hS hu1 (fun c hc => hu2 c (by omega)) hw3 e1
                    rw [erc] at k; exact k⟩)
            · refine s_istore_n rfl (cn rfl) ?_
              refine s_iinc rfl (cn rfl) rfl ?_
              refine s_goto rfl (ch rfl) ?_
              first
                | exact ih7 (by omega) _ _ _ (Or.inr rfl) _ _ _ c58 c74 (fr_t hf2 hf3 (by simp)) (by omega) (fun q => ⟨rfl, _, im_1 hE hS hu1 (fun c hc => hu2 c (by omega)) ey3 hw3 e1 e2 e3⟩) (fun q => absurd q (by omega))
                | exact ih7 (by omega) _ _ _ (Or.inr rfl) _ _ _ c58 c74 (fr_t hf2 hf3 (by simp)) (by omega) (fun q => absurd q (by omega)) (fun q => Or.inl ⟨rfl, by
                    have erc : r = ce := by omega
                    have k := im_t hE hS hu1 (fun c hc => hu2 c (by omega)) hw3 e1 e3
                    rw [erc] at k; exact k⟩)
                | (exfalso
                   obtain ⟨dl, k1, k2⟩ := hind r (by omega)
                   exact k2 (im_0 hS hu1 (fun c hc => hu2 c (by omega)) hw3 e1 dl k1))
                | exact ih7 (by omega) _ _ _ (Or.inl rfl) _ _ _ c58 c74 (fr_t hf2 hf3 (by simp)) (by omega) (fun q => absurd q (by omega)) (fun q => Or.inr ⟨rfl, by
                    have erc : r = ce := by omega
                    have k := im_0 hS hu1 (fun c hc => hu2 c (by omega)) hw3 e1
                    rw [erc] at k; exact k⟩)
          · refine s_aload_n rfl (cn rfl) rfl ?_
            refine s_getfield rfl (cn rfl) c58 rfl ?_
            refine s_iconst rfl (cn rfl) ?_
            refine s_aload_n rfl (cn rfl) rfl ?_
            refine s_getfield rfl (cn rfl) c58 rfl ?_
            refine s_imul rfl (cn rfl) ?_
            refine s_iload rfl (cn rfl) rfl ?_
            refine s_iadd rfl (cn rfl) ?_
            refine s_iload rfl (cn rfl) rfl ?_
            refine s_iload rfl (cn rfl) rfl ?_
            refine s_stat rfl (cn rfl) rfl rfl rfl (m_has (by omega) (by omega)) ?_
            rintro _ _ ⟨rfl, rfl⟩
            refine s_ifb_eq rfl (cn rfl) (cn rfl) (fun q39 => ?_) (fun q39 => ?_)
            · refine s_iconst rfl (cn rfl) ?_
              refine s_iastore rfl (cn rfl) (5 * r + p) (by omega) c74 (by omega) (by decide) ?_
              refine s_iinc rfl (cn rfl) rfl ?_
              refine s_goto rfl (ch rfl) ?_
              exact ih24 (by omega) _ _ c58 rr_set_eq (fr_s (by decide) hf2) (fun j hj c hc => (fu_n (by omega)).trans (hu1 j hj c hc)) (fun c hc => by
                by_cases e : c = p
                · subst e; rw [fu_s]; omega
                · rw [fu_n (by omega)]; exact hu2 c (by omega))
            · refine s_iconst rfl (cn rfl) ?_
              refine s_goto rfl (cn rfl) ?_
              refine s_iastore rfl (cn rfl) (5 * r + p) (by omega) c74 (by omega) (by decide) ?_
              refine s_iinc rfl (cn rfl) rfl ?_
              refine s_goto rfl (ch rfl) ?_
              exact ih24 (by omega) _ _ c58 rr_set_eq (fr_s (by decide) hf2) (fun j hj c hc => (fu_n (by omega)).trans (hu1 j hj c hc)) (fun c hc => by
                by_cases e : c = p
                · subst e; rw [fu_s]; omega
                · rw [fu_n (by omega)]; exact hu2 c (by omega))
        exact lp24 0 (by omega) _ y c58 c74 hf (fun j _ c _ => rfl) (fun c hc => absurd hc (by omega))
  exact lp7 0 (by omega) _ x _ (Or.inr rfl) _ _ _ rr_set_eq c74 (fr_s (by decide) fr_r) (by omega) (fun _ => ⟨rfl, fun _ => 0, ⟨fun j hj => absurd hj (by omega), fun j j' a b => absurd b (by omega), fun j hj => absurd hj (by omega), fun q => absurd q (by omega)⟩, fun dl => ⟨fun _ j hj => absurd hj (by omega), fun _ j hj => absurd hj (by omega)⟩⟩) (fun q => absurd q (by omega))
