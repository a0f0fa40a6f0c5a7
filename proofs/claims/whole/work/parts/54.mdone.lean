/-! The model's deeds carried out. -/
theorem sw_eq : ∀ g, g < 16 → ∀ a, a < 4 → ∀ b, b < 4 → ((bdif (bdif g (2 ^ a)) (2 ^ b) ||| (if st_bt g a = 1 then 2 ^ b else 0)) ||| (if st_bt g b = 1 then 2 ^ a else 0)) = swp g a b := by decide +kernel
theorem al_x : ∀ n, n < 5 → ∀ g, g < 16 → g ≤ al n → bdif (al n) g = al n ^^^ g := by decide +kernel
def pn (n : Nat) (v w : Nat → Int) (m : Nat) : Nat → Int := fun j => if 1 ≤ j ∧ j < m then w j else v j
theorem pn_1 {n : Nat} {v w : Nat → Int} : pn n v w 1 = v := by
  funext j
  exact if_neg (by omega)
theorem pn_s {n : Nat} {v w : Nat → Int} {m : Nat} (h : 1 ≤ m) : fu (pn n v w m) m (w m) = pn n v w (m + 1) := by
  funext j
  show (if j = m then w m else if 1 ≤ j ∧ j < m then w j else v j) = if 1 ≤ j ∧ j < m + 1 then w j else v j
  by_cases e : j = m
  · rw [if_pos e, if_pos (by omega), e]
  · rw [if_neg e]
    by_cases e2 : 1 ≤ j ∧ j < m
    · rw [if_pos e2, if_pos (by omega)]
    · rw [if_neg e2, if_neg (by omega)]
theorem pn_e {n : Nat} {v w : Nat → Int} : pn n v w (al n + 1) = nxt n v w := by
  funext j
  show (if 1 ≤ j ∧ j < al n + 1 then w j else v j) = if 1 ≤ j ∧ j ≤ al n then w j else v j
  by_cases e2 : 1 ≤ j ∧ j ≤ al n
  · rw [if_pos (by omega), if_pos e2]
  · rw [if_neg (by omega), if_neg e2]
theorem nxt_g {n : Nat} {v w w' : Nat → Int} (h : ∀ j, 1 ≤ j → j ≤ al n → w j = w' j) : nxt n v w = nxt n v w' := by
  funext j
  show (if 1 ≤ j ∧ j ≤ al n then w j else v j) = if 1 ≤ j ∧ j ≤ al n then w' j else v j
  by_cases q : 1 ≤ j ∧ j ≤ al n
  · rw [if_pos q, if_pos q, h j q.1 q.2]
  · rw [if_neg q, if_neg q]
theorem m_alone {d N S n : Nat} {kp tp pt wr fa dm ce di be od sm le sc ba bb ti rk ts tm pa wa : Int} {h : Nat → Option rr_E} (hn : 2 ≤ n ∧ n ≤ 4)  {v : Nat → Int} (c58 : h 58 = some (MO (n : Int) kp tp pt wr fa dm ce di be od sm le sc ba bb ti rk ts tm pa wa)) (c59 : h 59 = some (.inl (0, 16, .inl (fun k => ii (v k))))) (hv : ∀ k, -999 ≤ v k ∧ v k ≤ 999) {g : Nat} (hg : g < 16) : rr_Calls (d + 2) j_Model_alone [.ref 58, .int (ii (g : Int))] (N, S, h) (fun r R => r = some (.int (ii (alo n v g))) ∧ R = (N, S, h)) := by
  refine rr_meth (C := K_Model_alone) (hd := h_Model_alone) (mx := 4) rfl rfl (fun K hK => ?_)
  have hA := al_b hn
  refine hK _ _ _ _ ?_
  refine s_iconst rfl (cn rfl) ?_
  refine s_istore_n rfl (cn rfl) ?_
  refine s_iconst rfl (cn rfl) ?_
  refine s_istore_n rfl (ch rfl) ?_
  have lp4 : ∀ p : Nat, p ≤ n → ∀ (x : Int) (hx : x = ms_sm p (fun p => st_bt g p * v (2 ^ p))), K 4 [some (.ref 58), some (.int (ii (g : Int))), some (.int (ii x)), some (.int (ii (p : Int)))] [] (N, S, h) := by
    refine dn (fun p hp ih4 => ?_)
    intro x hx
    refine hK _ _ _ _ ?_
    refine s_iload_n rfl (cn rfl) rfl ?_
    refine s_aload_n rfl (cn rfl) rfl ?_
    refine s_getfield rfl (cn rfl) c58 rfl ?_
    refine s_icmp_ge rfl (cn rfl) (cn rfl) ⟨by omega, by omega⟩ ⟨by omega, by omega⟩ (fun q7 => ?_) (fun q7 => ?_)
    · refine s_iload_n rfl (cn rfl) rfl ?_
      refine s_ireturn rfl ?_
      exact ⟨ri (by rw [hx, show p = n by omega]; rfl), rfl⟩
    · refine s_iload_n rfl (cn rfl) rfl ?_
      refine s_iload_n rfl (cn rfl) rfl ?_
      refine s_iload_n rfl (cn rfl) rfl ?_
      refine s_stat rfl (cn rfl) rfl rfl rfl (m_has (by omega) (by omega)) ?_
      rintro _ _ ⟨rfl, rfl⟩
      refine s_ifb_eq rfl (cn rfl) (cn rfl) (fun q12 => ?_) (fun q12 => ?_)
      · refine s_iconst rfl (cn rfl) ?_
        refine s_iadd rfl (cn rfl) ?_
        refine s_istore_n rfl (cn rfl) ?_
        refine s_iinc rfl (cn rfl) rfl ?_
        refine s_goto rfl (ch rfl) ?_
        exact ih4 (by omega) _ (by show _ = ms_sm p _ + st_bt g p * v (2 ^ p); rw [hx, show st_bt g p = 0 by have := bt_01 g p; omega]; omega)
      · have h2 := one_lt hn (show p < n by omega)
        refine s_aload_n rfl (cn rfl) rfl ?_
        refine s_getfield rfl (cn rfl) c58 rfl ?_
        refine s_iconst rfl (cn rfl) ?_
        refine s_iload_n rfl (cn rfl) rfl ?_
        refine s_ishl rfl (cn rfl) _ (bi_shl1 (by omega)) ?_
        refine s_iaload rfl (cn rfl) _ rfl c59 rfl (by omega) (by decide) rfl ?_
        refine s_goto rfl (cn rfl) ?_
        refine s_iadd rfl (cn rfl) ?_
        refine s_istore_n rfl (cn rfl) ?_
        refine s_iinc rfl (cn rfl) rfl ?_
        refine s_goto rfl (ch rfl) ?_
        exact ih4 (by omega) _ (by show _ = ms_sm p _ + st_bt g p * v (2 ^ p); rw [hx, q12]; omega)
  exact lp4 0 (by omega) _ rfl
theorem m_swapped {d N S : Nat} {h : Nat → Option rr_E} {g a b : Nat} {x y : Int} (hg : g < 16) (ha : a < 4) (hb : b < 4) (hx : x = a) (hy : y = b) : rr_Calls (d + 2) j_Model_swapped [.int (ii (g : Int)), .int (ii x), .int (ii y)] (N, S, h) (fun r R => r = some (.int (ii ((swp g a b : Nat) : Int))) ∧ R = (N, S, h)) := by
  refine rr_meth (C := K_Model_swapped) (hd := h_Model_swapped) (mx := 4) rfl rfl (fun K hK => ?_)
  subst hx
  subst hy
  have e9 := sw_eq g hg a ha b hb
  refine hK _ _ _ _ ?_
  refine s_iload_n rfl (cn rfl) rfl ?_
  refine s_iconst rfl (cn rfl) ?_
  refine s_iload_n rfl (cn rfl) rfl ?_
  refine s_ishl rfl (cn rfl) _ (bi_shl1 (by omega)) ?_
  refine s_iconst rfl (cn rfl) ?_
  refine s_ixor rfl (cn rfl) _ (bi_not _) ?_
  refine s_iand rfl (cn rfl) _ (bi_andn _ _) ?_
  refine s_iconst rfl (cn rfl) ?_
  refine s_iload_n rfl (cn rfl) rfl ?_
  refine s_ishl rfl (cn rfl) _ (bi_shl1 (by omega)) ?_
  refine s_iconst rfl (cn rfl) ?_
  refine s_ixor rfl (cn rfl) _ (bi_not _) ?_
  refine s_iand rfl (cn rfl) _ (bi_andn _ _) ?_
  refine s_istore_n rfl (cn rfl) ?_
  refine s_iload_n rfl (cn rfl) rfl ?_
  refine s_iload_n rfl (cn rfl) rfl ?_
  refine s_iload_n rfl (cn rfl) rfl ?_
  refine s_stat rfl (cn rfl) rfl rfl rfl (m_has (by omega) (by omega)) ?_
  rintro _ _ ⟨rfl, rfl⟩
  refine s_ifb_eq rfl (cn rfl) (cn rfl) (fun q18 => ?_) (fun q18 => ?_)
  · refine s_iconst rfl (cn rfl) ?_
    refine s_ior rfl (cn rfl) _ (bi_or _ 0) ?_
    refine s_iload_n rfl (cn rfl) rfl ?_
    refine s_iload_n rfl (cn rfl) rfl ?_
    refine s_stat rfl (cn rfl) rfl rfl rfl (m_has (by omega) (by omega)) ?_
    rintro _ _ ⟨rfl, rfl⟩
    refine s_ifb_eq rfl (cn rfl) (cn rfl) (fun q28 => ?_) (fun q28 => ?_)
    · refine s_iconst rfl (cn rfl) ?_
      refine s_ior rfl (cn rfl) _ (bi_or _ 0) ?_
      refine s_ireturn rfl ?_
      first
        | (rw [if_pos q18, if_pos q28] at e9; rw [← e9]; exact ⟨rfl, rfl⟩)
        | (rw [if_pos q18, if_neg q28] at e9; rw [← e9]; exact ⟨rfl, rfl⟩)
        | (rw [if_neg q18, if_pos q28] at e9; rw [← e9]; exact ⟨rfl, rfl⟩)
        | (rw [if_neg q18, if_neg q28] at e9; rw [← e9]; exact ⟨rfl, rfl⟩)
    · refine s_iconst rfl (cn rfl) ?_
      refine s_iload_n rfl (cn rfl) rfl ?_
      refine s_ishl rfl (cn rfl) _ (bi_shl1 (by omega)) ?_
      refine s_goto rfl (cn rfl) ?_
      refine s_ior rfl (cn rfl) _ (bi_or _ _) ?_
      refine s_ireturn rfl ?_
      first
        | (rw [if_pos q18, if_pos q28] at e9; rw [← e9]; exact ⟨rfl, rfl⟩)
        | (rw [if_pos q18, if_neg q28] at e9; rw [← e9]; exact ⟨rfl, rfl⟩)
        | (rw [if_neg q18, if_pos q28] at e9; rw [← e9]; exact ⟨rfl, rfl⟩)
        | (rw [if_neg q18, if_neg q28] at e9; rw [← e9]; exact ⟨rfl, rfl⟩)
  · refine s_iconst rfl (cn rfl) ?_
    refine s_iload_n rfl (cn rfl) rfl ?_
    refine s_ishl rfl (cn rfl) _ (bi_shl1 (by omega)) ?_
    refine s_goto rfl (cn rfl) ?_
    refine s_ior rfl (cn rfl) _ (bi_or _ _) ?_
    refine s_iload_n rfl (cn rfl) rfl ?_
    refine s_iload_n rfl (cn rfl) rfl ?_
    refine s_stat rfl (cn rfl) rfl rfl rfl (m_has (by omega) (by omega)) ?_
    rintro _ _ ⟨rfl, rfl⟩
    refine s_ifb_eq rfl (cn rfl) (cn rfl) (fun q28 => ?_) (fun q28 => ?_)
    · refine s_iconst rfl (cn rfl) ?_
      refine s_ior rfl (cn rfl) _ (bi_or _ 0) ?_
      refine s_ireturn rfl ?_
      first
        | (rw [if_pos q18, if_pos q28] at e9; rw [← e9]; exact ⟨rfl, rfl⟩)
        | (rw [if_pos q18, if_neg q28] at e9; rw [← e9]; exact ⟨rfl, rfl⟩)
        | (rw [if_neg q18, if_pos q28] at e9; rw [← e9]; exact ⟨rfl, rfl⟩)
        | (rw [if_neg q18, if_neg q28] at e9; rw [← e9]; exact ⟨rfl, rfl⟩)
    · refine s_iconst rfl (cn rfl) ?_
      refine s_iload_n rfl (cn rfl) rfl ?_
      refine s_ishl rfl (cn rfl) _ (bi_shl1 (by omega)) ?_
      refine s_goto rfl (cn rfl) ?_
      refine s_ior rfl (cn rfl) _ (bi_or _ _) ?_
      refine s_ireturn rfl ?_
      first
        | (rw [if_pos q18, if_pos q28] at e9; rw [← e9]; exact ⟨rfl, rfl⟩)
        | (rw [if_pos q18, if_neg q28] at e9; rw [← e9]; exact ⟨rfl, rfl⟩)
        | (rw [if_neg q18, if_pos q28] at e9; rw [← e9]; exact ⟨rfl, rfl⟩)
        | (rw [if_neg q18, if_neg q28] at e9; rw [← e9]; exact ⟨rfl, rfl⟩)
theorem m_becomes {d N S n : Nat} {kp tp pt wr fa dm ce di be od sm le sc ba bb ti rk ts tm pa wa : Int} {h : Nat → Option rr_E} (hn : 2 ≤ n ∧ n ≤ 4)  {v w : Nat → Int} (c58 : h 58 = some (MO (n : Int) kp tp pt wr fa dm ce di be od sm le sc ba bb ti rk ts tm pa wa)) (c59 : h 59 = some (.inl (0, 16, .inl (fun k => ii (v k))))) (c65 : h 65 = some (.inl (0, 16, .inl (fun k => ii (w k))))) (hw : ∀ j, 1 ≤ j → j ≤ al n → b3 (w j)) : rr_Calls (d + 2) j_Model_becomes [.ref 58] (N, S, h) (fun r R => (¬ okN n w ∧ r = some (.int (ii 0)) ∧ R = (N, S, h)) ∨ (okN n w ∧ r = some (.int (ii 1)) ∧ ∃ h', R = (N, S, h') ∧ fr [58, 59] h h' ∧ h' 58 = some (MO (n : Int) kp tp pt wr fa dm ce di be 1 sm le sc ba bb ti rk ts tm pa wa) ∧ h' 59 = some (.inl (0, 16, .inl (fun k => ii (nxt n v w k)))))) := by
  refine rr_meth (C := K_Model_becomes) (hd := h_Model_becomes) (mx := 2) rfl rfl (fun K hK => ?_)
  have hA := al_b hn
  refine hK _ _ _ _ ?_
  refine s_iconst rfl (cn rfl) ?_
  refine s_istore_n rfl (ch rfl) ?_
  have lp2 : ∀ g : Nat, g ≤ al n + 1 → ∀ (h1 : 1 ≤ g) (no : ∀ j, 1 ≤ j → j < g → -999 ≤ w j ∧ w j ≤ 999), K 2 [some (.ref 58), some (.int (ii (g : Int)))] [] (N, S, h) := by
    refine dn (fun g hg ih2 => ?_)
    intro h1 no
    refine hK _ _ _ _ ?_
    refine s_iload_n rfl (cn rfl) rfl ?_
    refine s_aload_n rfl (cn rfl) rfl ?_
    refine s_virt rfl (cn rfl) rfl rfl c58 rfl (m_all hn c58) ?_
    rintro _ _ ⟨rfl, rfl⟩
    refine s_icmp_gt rfl (cn rfl) (cn rfl) ⟨by omega, by omega⟩ ⟨by omega, by omega⟩ (fun q5 => ?_) (fun q5 => ?_)
    · refine s_iconst rfl (cn rfl) ?_
      refine s_istore_n rfl (ch rfl) ?_
      have lp21 : ∀ f : Nat, f ≤ al n + 1 → ∀ (h' : Nat → Option rr_E) (h2 : 1 ≤ f) (c59 : h' 59 = some (.inl (0, 16, .inl (fun k => ii (pn n v w f k))))) (hf : fr [59] h h'), K 21 [some (.ref 58), some (.int (ii (f : Int)))] [] (N, S, h') := by
        refine dn (fun f hf ih21 => ?_)
        intro h' h2 c59 hf
        refine hK _ _ _ _ ?_
        refine s_iload_n rfl (cn rfl) rfl ?_
        refine s_aload_n rfl (cn rfl) rfl ?_
        refine s_virt rfl (cn rfl) rfl rfl ((hf 58 (by decide)).trans c58) rfl (m_all hn ((hf 58 (by decide)).trans c58)) ?_
        rintro _ _ ⟨rfl, rfl⟩
        refine s_icmp_gt rfl (cn rfl) (cn rfl) ⟨by omega, by omega⟩ ⟨by omega, by omega⟩ (fun q24 => ?_) (fun q24 => ?_)
        · refine s_aload_n rfl (cn rfl) rfl ?_
          refine s_iconst rfl (cn rfl) ?_
          refine s_putz rfl (cn rfl) rfl (Or.inr rfl) ((hf 58 (by decide)).trans c58) rfl ?_
          refine s_iconst rfl (cn rfl) ?_
          refine s_zreturn rfl (Or.inr rfl) ?_
          exact Or.inr ⟨fun j q1 q2 => no j q1 (by omega), rfl, _, rfl, fr_s (by decide) (fr_w hf (by decide)), rr_set_eq, ar_f c59 (by rw [show f = al n + 1 by omega]; exact pn_e)⟩
        · refine s_aload_n rfl (cn rfl) rfl ?_
          refine s_getfield rfl (cn rfl) ((hf 58 (by decide)).trans c58) rfl ?_
          refine s_iload_n rfl (cn rfl) rfl ?_
          refine s_aload_n rfl (cn rfl) rfl ?_
          refine s_getfield rfl (cn rfl) ((hf 58 (by decide)).trans c58) rfl ?_
          refine s_iload_n rfl (cn rfl) rfl ?_
          refine s_iaload rfl (cn rfl) _ rfl ((hf 65 (by decide)).trans c65) rfl (by omega) (by decide) rfl ?_
          refine s_iastore rfl (cn rfl) _ rfl c59 (by omega) (by decide) ?_
          refine s_iinc rfl (cn rfl) rfl ?_
          refine s_goto rfl (ch rfl) ?_
          exact ih21 (by omega) _ (by omega) (ar_f rr_set_eq (pn_s h2)) (fr_s (by decide) hf)
      exact lp21 1 (by omega) _ (by omega) (ar_f c59 pn_1.symm) fr_r
    · have hwg := hw g h1 (by omega)
      refine s_aload_n rfl (cn rfl) rfl ?_
      refine s_getfield rfl (cn rfl) c58 rfl ?_
      refine s_iload_n rfl (cn rfl) rfl ?_
      refine s_iaload rfl (cn rfl) _ rfl c65 rfl (by omega) (by decide) rfl ?_
      refine s_i2l rfl (cn rfl) ⟨by omega, by omega⟩ ?_
      refine s_ldc2_w rfl (cn rfl) ?_
      refine s_ldc2_w rfl (cn rfl) ?_
      refine s_stat rfl (cn rfl) rfl rfl rfl (m_in (by omega) (by omega) (by omega)) ?_
      rintro _ _ ⟨rfl, rfl⟩
      refine s_ifb_ne rfl (cn rfl) (cn rfl) (fun q14 => ?_) (fun q14 => ?_)
      · refine s_iinc rfl (cn rfl) rfl ?_
        refine s_goto rfl (ch rfl) ?_
        exact ih2 (by omega) (by omega) (fun j q1 q2 => by
            by_cases e : j = g
            · subst e; exact q14
            · exact no j q1 (by omega))
      · refine s_iconst rfl (cn rfl) ?_
        refine s_zreturn rfl (Or.inl rfl) ?_
        exact Or.inl ⟨fun q => q14 (q g h1 (by omega)), rfl, rfl⟩
  exact lp2 1 (by omega) (by omega) (fun j q1 q2 => absurd q2 (by omega))
theorem m_isDone {d N S n : Nat} {kp tp pt wr fa dm ce di be od sm le sc ba bb ti rk ts tm pa wa : Int} {h : Nat → Option rr_E} (hn : 2 ≤ n ∧ n ≤ 4)  {v : Nat → Int} (c58 : h 58 = some (MO (n : Int) kp tp pt wr fa dm ce di be od sm le sc ba bb ti rk ts tm pa wa)) (c59 : h 59 = some (.inl (0, 16, .inl (fun k => ii (v k))))) (hv : ∀ k, -999 ≤ v k ∧ v k ≤ 999) {so on tw w : Nat → Int} (c62 : h 62 = some (.inl (0, 26, .inl (fun k => ii (so k))))) (c63 : h 63 = some (.inl (0, 26, .inl (fun k => ii (on k))))) (c64 : h 64 = some (.inl (0, 26, .inl (fun k => ii (tw k))))) (c65 : h 65 = some (.inl (0, 16, .inl (fun k => ii (w k))))) {D : Dd} {j : Nat} (hj : j < 26) (hD : dw D) (hd : dk D (so j) (on j) (tw j)) : rr_Calls (d + 4) j_Model_isDone [.ref 58, .int (ii (j : Int))] (N, S, h) (fun r R => (dst n v D = none ∧ r = some (.int (ii 0)) ∧ ∃ h', R = (N, S, h') ∧ fr [65] h h' ∧ ∃ w2 : Nat → Int, h' 65 = some (.inl (0, 16, .inl (fun k => ii (w2 k))))) ∨ (∃ (n' : Nat) (v' : Nat → Int), dst n v D = some (n', v') ∧ r = some (.int (ii 1)) ∧ ∃ h', R = (N, S, h') ∧ fr [58, 59, 65] h h' ∧ h' 58 = some (MO (n' : Int) kp tp pt wr fa dm ce di be 1 sm le sc ba bb ti rk ts tm pa wa) ∧ h' 59 = some (.inl (0, 16, .inl (fun k => ii (v' k)))) ∧ ∃ w2 : Nat → Int, h' 65 = some (.inl (0, 16, .inl (fun k => ii (w2 k)))))) := by
  refine rr_meth (C := K_Model_isDone) (hd := h_Model_isDone) (mx := 6) rfl rfl (fun K hK => ?_)
  have hA := al_b hn
  obtain ⟨KD, a, b⟩ := D
  obtain ⟨ek, k0, k1⟩ := hd
  obtain ⟨w1, w2, w3⟩ := hD
  change so j = KD at ek
  change 0 ≤ KD ∧ KD ≤ 5 at w1
  change -999 ≤ a ∧ a ≤ 999 at w2
  change -999 ≤ b ∧ b ≤ 999 at w3
  change KD = 0 → on j = a at k0
  change KD = 1 ∨ KD = 2 ∨ KD = 5 → on j = a ∧ tw j = b at k1
  rw [← ek] at k0 k1 w1
  have bo1 : so j = 0 ∨ so j = 1 ∨ so j = 2 ∨ so j = 5 → b3 (on j) := fun q => by omega
  have bo2 : so j = 1 ∨ so j = 2 ∨ so j = 5 → b3 (tw j) := fun q => by omega
  subst ek
  refine hK _ _ _ _ ?_
  refine s_aload_n rfl (cn rfl) rfl ?_
  refine s_getfield rfl (cn rfl) c58 rfl ?_
  refine s_iload_n rfl (cn rfl) rfl ?_
  refine s_iaload rfl (cn rfl) _ rfl c63 rfl (by omega) (by decide) rfl ?_
  refine s_istore_n rfl (cn rfl) ?_
  refine s_aload_n rfl (cn rfl) rfl ?_
  refine s_getfield rfl (cn rfl) c58 rfl ?_
  refine s_iload_n rfl (cn rfl) rfl ?_
  refine s_iaload rfl (cn rfl) _ rfl c64 rfl (by omega) (by decide) rfl ?_
  refine s_istore_n rfl (cn rfl) ?_
  refine s_aload_n rfl (cn rfl) rfl ?_
  refine s_getfield rfl (cn rfl) c58 rfl ?_
  refine s_iload_n rfl (cn rfl) rfl ?_
  refine s_iaload rfl (cn rfl) _ rfl c62 rfl (by omega) (by decide) rfl ?_
  refine s_if_ne rfl (cn rfl) (cn rfl) ⟨by omega, by omega⟩ (fun q14 => ?_) (fun q14 => ?_)
  · refine s_aload_n rfl (cn rfl) rfl ?_
    refine s_getfield rfl (cn rfl) c58 rfl ?_
    refine s_iload_n rfl (cn rfl) rfl ?_
    refine s_iaload rfl (cn rfl) _ rfl c62 rfl (by omega) (by decide) rfl ?_
    refine s_iconst rfl (cn rfl) ?_
    refine s_icmp_eq rfl (cn rfl) (cn rfl) ⟨by omega, by omega⟩ ⟨by omega, by omega⟩ (fun q28 => ?_) (fun q28 => ?_)
    · refine s_aload_n rfl (cn rfl) rfl ?_
      refine s_iload_n rfl (cn rfl) rfl ?_
      refine s_virt rfl (cn rfl) rfl rfl c58 rfl (m_isGroup hn c58 (bo1 (by omega))) ?_
      rintro _ _ ⟨rfl, rfl⟩
      refine s_ifb_eq rfl (cn rfl) (cn rfl) (fun q38 => ?_) (fun q38 => ?_)
      · refine s_iconst rfl (cn rfl) ?_
        refine s_zreturn rfl (Or.inl rfl) ?_
        first
          | (rw [show a = on j by omega, show b = tw j by omega]
             rcases (show so j = 1 ∨ so j = 2 by omega) with e | e
             · rw [e]; exact Or.inl ⟨by rw [dst_1, if_neg (fun q => q38 q.1)], rfl, h, rfl, fr_r, w, c65⟩
             · rw [e]; exact Or.inl ⟨by rw [dst_2, if_neg (fun q => q38 q.1)], rfl, h, rfl, fr_r, w, c65⟩)
          | (rw [show a = on j by omega, show b = tw j by omega, show so j = 1 by omega]
             exact Or.inl ⟨by rw [dst_1, if_neg e9], rfl, h, rfl, fr_r, w, c65⟩)
          | (rw [show a = on j by omega, show b = tw j by omega, show so j = 2 by omega]
             exact Or.inl ⟨by rw [dst_2, if_neg (fun q => e9 ⟨q.1, by rw [eg] at q; exact q.2⟩)], rfl, h, rfl, fr_r, w, c65⟩)
      · refine s_aload_n rfl (cn rfl) rfl ?_
        refine s_iload_n rfl (cn rfl) rfl ?_
        refine s_aload_n rfl (cn rfl) rfl ?_
        refine s_getfield rfl (cn rfl) c58 rfl ?_
        refine s_iload_n rfl (cn rfl) rfl ?_
        refine s_iaload rfl (cn rfl) _ rfl c62 rfl (by omega) (by decide) rfl ?_
        refine s_iconst rfl (cn rfl) ?_
        refine s_icmp_ne rfl (cn rfl) (cn rfl) ⟨by omega, by omega⟩ ⟨by omega, by omega⟩ (fun q46 => ?_) (fun q46 => ?_)
        · first
          | (exfalso; omega)
          | skip
            refine s_iload_n rfl (cn rfl) rfl ?_
            refine s_virt rfl (cn rfl) rfl rfl c58 rfl (m_worth hn c58 c59 hv (bo1 (by omega)) (by first | exact bo2 (by omega) | (have := bo2 (by omega); omega))) ?_
            rintro _ _ (⟨e9, rfl, rfl⟩ | ⟨e9, rfl, h2, rfl, d58, d59, hf2⟩)
            · refine s_ldc2_w rfl (cn rfl) ?_
              refine s_lcmp rfl (cn rfl) ?_
              refine s_ifl_eq rfl (cn rfl) (cn rfl) ⟨by omega, by omega⟩ ⟨by omega, by omega⟩ (fun q58 => ?_) (fun q58 => ?_)
              · first
                | (exfalso; omega)
                | skip
                  refine s_iconst rfl (cn rfl) ?_
                  refine s_zreturn rfl (Or.inl rfl) ?_
                  first
                    | (rw [show a = on j by omega, show b = tw j by omega]
                       rcases (show so j = 1 ∨ so j = 2 by omega) with e | e
                       · rw [e]; exact Or.inl ⟨by rw [dst_1, if_neg (fun q => q38 q.1)], rfl, h, rfl, fr_r, w, c65⟩
                       · rw [e]; exact Or.inl ⟨by rw [dst_2, if_neg (fun q => q38 q.1)], rfl, h, rfl, fr_r, w, c65⟩)
                    | (rw [show a = on j by omega, show b = tw j by omega, show so j = 1 by omega]
                       exact Or.inl ⟨by rw [dst_1, if_neg e9], rfl, h, rfl, fr_r, w, c65⟩)
                    | (rw [show a = on j by omega, show b = tw j by omega, show so j = 2 by omega]
                       exact Or.inl ⟨by rw [dst_2, if_neg (fun q => e9 ⟨q.1, by rw [eg] at q; exact q.2⟩)], rfl, h, rfl, fr_r, w, c65⟩)
              · first
                | (exfalso; omega)
                | skip
                  refine s_iconst rfl (cn rfl) ?_
                  refine s_goto rfl (cn rfl) ?_
                  refine s_zreturn rfl (Or.inr rfl) ?_
                  first
                    | (rw [show a = on j by omega, show b = tw j by omega, show so j = 1 by omega]
                       exact Or.inr ⟨n, _, by rw [dst_1, if_pos e9], rfl, h2, rfl, fr_w hf2 (by decide), d58, d59, w, (hf2 65 (by decide)).trans c65⟩)
                    | (rw [show a = on j by omega, show b = tw j by omega, show so j = 2 by omega]
                       exact Or.inr ⟨n, _, by rw [dst_2, if_pos ⟨e9.1, by rw [eg]; exact e9.2⟩, show v (on j).toNat = v gg by rw [eg]; rfl], rfl, h2, rfl, fr_w hf2 (by decide), d58, d59, w, (hf2 65 (by decide)).trans c65⟩)
            · have hvr := hv (on j).toNat
              refine s_ldc2_w rfl (cn rfl) ?_
              refine s_lcmp rfl (cn rfl) ?_
              refine s_ifl_eq rfl (cn rfl) (cn rfl) ⟨by omega, by omega⟩ ⟨by omega, by omega⟩ (fun q58 => ?_) (fun q58 => ?_)
              · first
                | (exfalso; omega)
                | skip
                  refine s_iconst rfl (cn rfl) ?_
                  refine s_zreturn rfl (Or.inl rfl) ?_
                  first
                    | (rw [show a = on j by omega, show b = tw j by omega]
                       rcases (show so j = 1 ∨ so j = 2 by omega) with e | e
                       · rw [e]; exact Or.inl ⟨by rw [dst_1, if_neg (fun q => q38 q.1)], rfl, h, rfl, fr_r, w, c65⟩
                       · rw [e]; exact Or.inl ⟨by rw [dst_2, if_neg (fun q => q38 q.1)], rfl, h, rfl, fr_r, w, c65⟩)
                    | (rw [show a = on j by omega, show b = tw j by omega, show so j = 1 by omega]
                       exact Or.inl ⟨by rw [dst_1, if_neg e9], rfl, h, rfl, fr_r, w, c65⟩)
                    | (rw [show a = on j by omega, show b = tw j by omega, show so j = 2 by omega]
                       exact Or.inl ⟨by rw [dst_2, if_neg (fun q => e9 ⟨q.1, by rw [eg] at q; exact q.2⟩)], rfl, h, rfl, fr_r, w, c65⟩)
              · first
                | (exfalso; omega)
                | skip
                  refine s_iconst rfl (cn rfl) ?_
                  refine s_goto rfl (cn rfl) ?_
                  refine s_zreturn rfl (Or.inr rfl) ?_
                  first
                    | (rw [show a = on j by omega, show b = tw j by omega, show so j = 1 by omega]
                       exact Or.inr ⟨n, _, by rw [dst_1, if_pos e9], rfl, h2, rfl, fr_w hf2 (by decide), d58, d59, w, (hf2 65 (by decide)).trans c65⟩)
                    | (rw [show a = on j by omega, show b = tw j by omega, show so j = 2 by omega]
                       exact Or.inr ⟨n, _, by rw [dst_2, if_pos ⟨e9.1, by rw [eg]; exact e9.2⟩, show v (on j).toNat = v gg by rw [eg]; rfl], rfl, h2, rfl, fr_w hf2 (by decide), d58, d59, w, (hf2 65 (by decide)).trans c65⟩)
        · first
          | (exfalso; omega)
          | skip
            obtain ⟨gg, eg⟩ := Int.eq_ofNat_of_zero_le (show 0 ≤ on j by omega)
            have hvg := hv gg
            refine s_aload_n rfl (cn rfl) rfl ?_
            refine s_getfield rfl (cn rfl) c58 rfl ?_
            refine s_iload_n rfl (cn rfl) rfl ?_
            refine s_iaload rfl (cn rfl) gg eg c59 rfl (by omega) (by decide) rfl ?_
            refine s_iload_n rfl (cn rfl) rfl ?_
            refine s_iadd rfl (cn rfl) ?_
            refine s_goto rfl (cn rfl) ?_
            refine s_virt rfl (cn rfl) rfl rfl c58 rfl (m_worth hn c58 c59 hv (bo1 (by omega)) (by first | exact bo2 (by omega) | (have := bo2 (by omega); omega))) ?_
            rintro _ _ (⟨e9, rfl, rfl⟩ | ⟨e9, rfl, h2, rfl, d58, d59, hf2⟩)
            · refine s_ldc2_w rfl (cn rfl) ?_
              refine s_lcmp rfl (cn rfl) ?_
              refine s_ifl_eq rfl (cn rfl) (cn rfl) ⟨by omega, by omega⟩ ⟨by omega, by omega⟩ (fun q58 => ?_) (fun q58 => ?_)
              · first
                | (exfalso; omega)
                | skip
                  refine s_iconst rfl (cn rfl) ?_
                  refine s_zreturn rfl (Or.inl rfl) ?_
                  first
                    | (rw [show a = on j by omega, show b = tw j by omega]
                       rcases (show so j = 1 ∨ so j = 2 by omega) with e | e
                       · rw [e]; exact Or.inl ⟨by rw [dst_1, if_neg (fun q => q38 q.1)], rfl, h, rfl, fr_r, w, c65⟩
                       · rw [e]; exact Or.inl ⟨by rw [dst_2, if_neg (fun q => q38 q.1)], rfl, h, rfl, fr_r, w, c65⟩)
                    | (rw [show a = on j by omega, show b = tw j by omega, show so j = 1 by omega]
                       exact Or.inl ⟨by rw [dst_1, if_neg e9], rfl, h, rfl, fr_r, w, c65⟩)
                    | (rw [show a = on j by omega, show b = tw j by omega, show so j = 2 by omega]
                       exact Or.inl ⟨by rw [dst_2, if_neg (fun q => e9 ⟨q.1, by rw [eg] at q; exact q.2⟩)], rfl, h, rfl, fr_r, w, c65⟩)
              · first
                | (exfalso; omega)
                | skip
                  refine s_iconst rfl (cn rfl) ?_
                  refine s_goto rfl (cn rfl) ?_
                  refine s_zreturn rfl (Or.inr rfl) ?_
                  first
                    | (rw [show a = on j by omega, show b = tw j by omega, show so j = 1 by omega]
                       exact Or.inr ⟨n, _, by rw [dst_1, if_pos e9], rfl, h2, rfl, fr_w hf2 (by decide), d58, d59, w, (hf2 65 (by decide)).trans c65⟩)
                    | (rw [show a = on j by omega, show b = tw j by omega, show so j = 2 by omega]
                       exact Or.inr ⟨n, _, by rw [dst_2, if_pos ⟨e9.1, by rw [eg]; exact e9.2⟩, show v (on j).toNat = v gg by rw [eg]; rfl], rfl, h2, rfl, fr_w hf2 (by decide), d58, d59, w, (hf2 65 (by decide)).trans c65⟩)
            · have hvr := hv (on j).toNat
              refine s_ldc2_w rfl (cn rfl) ?_
              refine s_lcmp rfl (cn rfl) ?_
              refine s_ifl_eq rfl (cn rfl) (cn rfl) ⟨by omega, by omega⟩ ⟨by omega, by omega⟩ (fun q58 => ?_) (fun q58 => ?_)
              · first
                | (exfalso; omega)
                | skip
                  refine s_iconst rfl (cn rfl) ?_
                  refine s_zreturn rfl (Or.inl rfl) ?_
                  first
                    | (rw [show a = on j by omega, show b = tw j by omega]
                       rcases (show so j = 1 ∨ so j = 2 by omega) with e | e
                       · rw [e]; exact Or.inl ⟨by rw [dst_1, if_neg (fun q => q38 q.1)], rfl, h, rfl, fr_r, w, c65⟩
                       · rw [e]; exact Or.inl ⟨by rw [dst_2, if_neg (fun q => q38 q.1)], rfl, h, rfl, fr_r, w, c65⟩)
                    | (rw [show a = on j by omega, show b = tw j by omega, show so j = 1 by omega]
                       exact Or.inl ⟨by rw [dst_1, if_neg e9], rfl, h, rfl, fr_r, w, c65⟩)
                    | (rw [show a = on j by omega, show b = tw j by omega, show so j = 2 by omega]
                       exact Or.inl ⟨by rw [dst_2, if_neg (fun q => e9 ⟨q.1, by rw [eg] at q; exact q.2⟩)], rfl, h, rfl, fr_r, w, c65⟩)
              · first
                | (exfalso; omega)
                | skip
                  refine s_iconst rfl (cn rfl) ?_
                  refine s_goto rfl (cn rfl) ?_
                  refine s_zreturn rfl (Or.inr rfl) ?_
                  first
                    | (rw [show a = on j by omega, show b = tw j by omega, show so j = 1 by omega]
                       exact Or.inr ⟨n, _, by rw [dst_1, if_pos e9], rfl, h2, rfl, fr_w hf2 (by decide), d58, d59, w, (hf2 65 (by decide)).trans c65⟩)
                    | (rw [show a = on j by omega, show b = tw j by omega, show so j = 2 by omega]
                       exact Or.inr ⟨n, _, by rw [dst_2, if_pos ⟨e9.1, by rw [eg]; exact e9.2⟩, show v (on j).toNat = v gg by rw [eg]; rfl], rfl, h2, rfl, fr_w hf2 (by decide), d58, d59, w, (hf2 65 (by decide)).trans c65⟩)
    · refine s_aload_n rfl (cn rfl) rfl ?_
      refine s_getfield rfl (cn rfl) c58 rfl ?_
      refine s_iload_n rfl (cn rfl) rfl ?_
      refine s_iaload rfl (cn rfl) _ rfl c62 rfl (by omega) (by decide) rfl ?_
      refine s_iconst rfl (cn rfl) ?_
      refine s_icmp_ne rfl (cn rfl) (cn rfl) ⟨by omega, by omega⟩ ⟨by omega, by omega⟩ (fun q34 => ?_) (fun q34 => ?_)
      · refine s_aload_n rfl (cn rfl) rfl ?_
        refine s_getfield rfl (cn rfl) c58 rfl ?_
        refine s_iload_n rfl (cn rfl) rfl ?_
        refine s_iaload rfl (cn rfl) _ rfl c62 rfl (by omega) (by decide) rfl ?_
        refine s_iconst rfl (cn rfl) ?_
        refine s_icmp_ne rfl (cn rfl) (cn rfl) ⟨by omega, by omega⟩ ⟨by omega, by omega⟩ (fun q68 => ?_) (fun q68 => ?_)
        · first
          | (exfalso; omega)
          | skip
            have hk5 : so j = 3 ∨ so j = 4 ∨ (so j = 5 ∧ (0 ≤ on j ∧ on j < n) ∧ (0 ≤ tw j ∧ tw j < n)) := by omega
            have hva := hv (al n)
            refine s_iconst rfl (cn rfl) ?_
            refine s_istore rfl (ch rfl) ?_
            have lp81 : ∀ g : Nat, g ≤ al n + 1 → ∀ (h' : Nat → Option rr_E) (w : Nat → Int) (l5 : Option Value) (h1 : 1 ≤ g) (c65 : h' 65 = some (.inl (0, 16, .inl (fun k => ii (w k))))) (hf : fr [65] h h') (hw : ∀ i, 1 ≤ i → i < g → w i = NX n v (so j, a, b) i), K 81 [some (.ref 58), some (.int (ii (j : Int))), some (.int (ii (on j))), some (.int (ii (tw j))), some (.int (ii (g : Int))), l5] [] (N, S, h') := by
              refine dn (fun g hg ih81 => ?_)
              intro h' w l5 h1 c65 hf hw
              have c58 := (hf 58 (by decide)).trans c58
              have c59 := (hf 59 (by decide)).trans c59
              have c62 := (hf 62 (by decide)).trans c62
              have c63 := (hf 63 (by decide)).trans c63
              have c64 := (hf 64 (by decide)).trans c64
              have hvg := hv g
              refine hK _ _ _ _ ?_
              refine s_iload rfl (cn rfl) rfl ?_
              refine s_aload_n rfl (cn rfl) rfl ?_
              refine s_virt rfl (cn rfl) rfl rfl c58 rfl (m_all hn c58) ?_
              rintro _ _ ⟨rfl, rfl⟩
              refine s_icmp_gt rfl (cn rfl) (cn rfl) ⟨by omega, by omega⟩ ⟨by omega, by omega⟩ (fun q84 => ?_) (fun q84 => ?_)
              · refine s_aload_n rfl (cn rfl) rfl ?_
                refine s_virt rfl (cn rfl) rfl rfl c58 rfl (m_becomes hn c58 c59 c65 (fun i i1 i2 => by rw [hw i i1 (by omega)]; have := NX_b (D := (so j, a, b)) hn hv i; exact ⟨by omega, by omega⟩)) ?_
                rintro _ _ (⟨e8, rfl, rfl⟩ | ⟨e8, rfl, h2, rfl, hf2, d58, d59⟩)
                · refine s_zreturn rfl (Or.inl rfl) ?_
                  refine Or.inl ⟨?_, rfl, h', rfl, hf, w, c65⟩
                  rw [dst_3 (show so j ≠ 0 by omega) (show so j ≠ 1 by omega) (show so j ≠ 2 by omega)]
                  exact ci_n (fun q => e8 (fun i i1 i2 => by rw [hw i i1 (by omega)]; exact q.2 i i1 i2))
                · refine s_zreturn rfl (Or.inr rfl) ?_
                  refine Or.inr ⟨n, _, ?_, rfl, h2, rfl, fr_t (fr_w hf (by decide)) hf2 (by decide), d58, ar_f d59 (nxt_g (fun i i1 i2 => hw i i1 (by omega))), w, (hf2 65 (by decide)).trans c65⟩
                  rw [dst_3 (show so j ≠ 0 by omega) (show so j ≠ 1 by omega) (show so j ≠ 2 by omega)]
                  exact ci_y ⟨fun q => (show (0 ≤ a ∧ a < (n : Int)) ∧ (0 ≤ b ∧ b < (n : Int)) by change so j = 5 at q; omega), fun i i1 i2 => by rw [← hw i i1 (by omega)]; exact e8 i i1 i2⟩
              · refine s_aload_n rfl (cn rfl) rfl ?_
                refine s_getfield rfl (cn rfl) c58 rfl ?_
                refine s_iload rfl (cn rfl) rfl ?_
                refine s_iaload rfl (cn rfl) _ rfl c59 rfl (by omega) (by decide) rfl ?_
                refine s_istore rfl (cn rfl) ?_
                refine s_aload_n rfl (cn rfl) rfl ?_
                refine s_getfield rfl (cn rfl) c58 rfl ?_
                refine s_iload_n rfl (cn rfl) rfl ?_
                refine s_iaload rfl (cn rfl) _ rfl c62 rfl (by omega) (by decide) rfl ?_
                refine s_iconst rfl (cn rfl) ?_
                refine s_icmp_ne rfl (cn rfl) (cn rfl) ⟨by omega, by omega⟩ ⟨by omega, by omega⟩ (fun q95 => ?_) (fun q95 => ?_)
                · first
                  | (exfalso; omega)
                  | skip
                    refine s_aload_n rfl (cn rfl) rfl ?_
                    refine s_getfield rfl (cn rfl) c58 rfl ?_
                    refine s_iload_n rfl (cn rfl) rfl ?_
                    refine s_iaload rfl (cn rfl) _ rfl c62 rfl (by omega) (by decide) rfl ?_
                    refine s_iconst rfl (cn rfl) ?_
                    refine s_icmp_ne rfl (cn rfl) (cn rfl) ⟨by omega, by omega⟩ ⟨by omega, by omega⟩ (fun q123 => ?_) (fun q123 => ?_)
                    · first
                      | (exfalso; omega)
                      | skip
                        refine s_aload_n rfl (cn rfl) rfl ?_
                        refine s_getfield rfl (cn rfl) c58 rfl ?_
                        refine s_iload_n rfl (cn rfl) rfl ?_
                        refine s_iaload rfl (cn rfl) _ rfl c62 rfl (by omega) (by decide) rfl ?_
                        refine s_iconst rfl (cn rfl) ?_
                        refine s_icmp_ne rfl (cn rfl) (cn rfl) ⟨by omega, by omega⟩ ⟨by omega, by omega⟩ (fun q135 => ?_) (fun q135 => ?_)
                        · first
                          | (exfalso; omega)
                          | skip
                            refine s_aload_n rfl (cn rfl) rfl ?_
                            refine s_getfield rfl (cn rfl) c58 rfl ?_
                            refine s_iload rfl (cn rfl) rfl ?_
                            refine s_iload rfl (cn rfl) rfl ?_
                            refine s_iastore rfl (cn rfl) _ rfl c65 (by omega) (by decide) ?_
                            refine s_iinc rfl (cn rfl) rfl ?_
                            refine s_goto rfl (ch rfl) ?_
                            exact ih81 (by omega) _ _ _ (by omega) rr_set_eq (fr_s (by decide) hf) (fun i q1 q2 => by
                                by_cases e : i = g
                                · subst e; rw [fu_s]; show _ = (if so j = 3 then (if i = al n then v i else v (al n) - v (al n ^^^ i)) else if so j = 4 then v i - alo n v i else v (swp i a.toNat b.toNat)); first
                                  | (rw [if_pos q95, if_pos (by omega)]; done)
                                  | (rw [if_pos q95, if_neg (by omega), al_x n (by omega) i (by omega) (by omega)]; done)
                                  | (rw [if_neg (by omega), if_pos q123]; done)
                                  | (rw [if_neg (by omega), if_neg (by omega)]; done)
                                · rw [fu_n e]; exact hw i q1 (by omega))
                        · first
                          | (exfalso; omega)
                          | skip
                            refine s_aload_n rfl (cn rfl) rfl ?_
                            refine s_getfield rfl (cn rfl) c58 rfl ?_
                            refine s_iload rfl (cn rfl) rfl ?_
                            refine s_iload_n rfl (cn rfl) rfl ?_
                            refine s_iload_n rfl (cn rfl) rfl ?_
                            refine s_stat rfl (cn rfl) rfl rfl rfl (m_swapped (a := a.toNat) (b := b.toNat) (by omega) (by omega) (by omega) (by omega) (by omega)) ?_
                            rintro _ _ ⟨rfl, rfl⟩
                            refine s_iaload rfl (cn rfl) _ rfl c59 rfl (swp_b g (by omega) _ (by omega) _ (by omega)) (by decide) rfl ?_
                            refine s_istore rfl (cn rfl) ?_
                            refine s_aload_n rfl (cn rfl) rfl ?_
                            refine s_getfield rfl (cn rfl) c58 rfl ?_
                            refine s_iload rfl (cn rfl) rfl ?_
                            refine s_iload rfl (cn rfl) rfl ?_
                            refine s_iastore rfl (cn rfl) _ rfl c65 (by omega) (by decide) ?_
                            refine s_iinc rfl (cn rfl) rfl ?_
                            refine s_goto rfl (ch rfl) ?_
                            exact ih81 (by omega) _ _ _ (by omega) rr_set_eq (fr_s (by decide) hf) (fun i q1 q2 => by
                                by_cases e : i = g
                                · subst e; rw [fu_s]; show _ = (if so j = 3 then (if i = al n then v i else v (al n) - v (al n ^^^ i)) else if so j = 4 then v i - alo n v i else v (swp i a.toNat b.toNat)); first
                                  | (rw [if_pos q95, if_pos (by omega)]; done)
                                  | (rw [if_pos q95, if_neg (by omega), al_x n (by omega) i (by omega) (by omega)]; done)
                                  | (rw [if_neg (by omega), if_pos q123]; done)
                                  | (rw [if_neg (by omega), if_neg (by omega)]; done)
                                · rw [fu_n e]; exact hw i q1 (by omega))
                    · first
                      | (exfalso; omega)
                      | skip
                        refine s_iload rfl (cn rfl) rfl ?_
                        refine s_aload_n rfl (cn rfl) rfl ?_
                        refine s_iload rfl (cn rfl) rfl ?_
                        refine s_virt rfl (cn rfl) rfl rfl c58 rfl (m_alone hn c58 c59 hv (by omega)) ?_
                        rintro _ _ ⟨rfl, rfl⟩
                        refine s_isub rfl (cn rfl) ?_
                        refine s_istore rfl (cn rfl) ?_
                        refine s_aload_n rfl (cn rfl) rfl ?_
                        refine s_getfield rfl (cn rfl) c58 rfl ?_
                        refine s_iload_n rfl (cn rfl) rfl ?_
                        refine s_iaload rfl (cn rfl) _ rfl c62 rfl (by omega) (by decide) rfl ?_
                        refine s_iconst rfl (cn rfl) ?_
                        refine s_icmp_ne rfl (cn rfl) (cn rfl) ⟨by omega, by omega⟩ ⟨by omega, by omega⟩ (fun q135 => ?_) (fun q135 => ?_)
                        · first
                          | (exfalso; omega)
                          | skip
                            refine s_aload_n rfl (cn rfl) rfl ?_
                            refine s_getfield rfl (cn rfl) c58 rfl ?_
                            refine s_iload rfl (cn rfl) rfl ?_
                            refine s_iload rfl (cn rfl) rfl ?_
                            refine s_iastore rfl (cn rfl) _ rfl c65 (by omega) (by decide) ?_
                            refine s_iinc rfl (cn rfl) rfl ?_
                            refine s_goto rfl (ch rfl) ?_
                            exact ih81 (by omega) _ _ _ (by omega) rr_set_eq (fr_s (by decide) hf) (fun i q1 q2 => by
                                by_cases e : i = g
                                · subst e; rw [fu_s]; show _ = (if so j = 3 then (if i = al n then v i else v (al n) - v (al n ^^^ i)) else if so j = 4 then v i - alo n v i else v (swp i a.toNat b.toNat)); first
                                  | (rw [if_pos q95, if_pos (by omega)]; done)
                                  | (rw [if_pos q95, if_neg (by omega), al_x n (by omega) i (by omega) (by omega)]; done)
                                  | (rw [if_neg (by omega), if_pos q123]; done)
                                  | (rw [if_neg (by omega), if_neg (by omega)]; done)
                                · rw [fu_n e]; exact hw i q1 (by omega))
                        · first
                          | (exfalso; omega)
                          | skip
                            refine s_aload_n rfl (cn rfl) rfl ?_
                            refine s_getfield rfl (cn rfl) c58 rfl ?_
                            refine s_iload rfl (cn rfl) rfl ?_
                            refine s_iload_n rfl (cn rfl) rfl ?_
                            refine s_iload_n rfl (cn rfl) rfl ?_
                            refine s_stat rfl (cn rfl) rfl rfl rfl (m_swapped (a := a.toNat) (b := b.toNat) (by omega) (by omega) (by omega) (by omega) (by omega)) ?_
                            rintro _ _ ⟨rfl, rfl⟩
                            refine s_iaload rfl (cn rfl) _ rfl c59 rfl (swp_b g (by omega) _ (by omega) _ (by omega)) (by decide) rfl ?_
                            refine s_istore rfl (cn rfl) ?_
                            refine s_aload_n rfl (cn rfl) rfl ?_
                            refine s_getfield rfl (cn rfl) c58 rfl ?_
                            refine s_iload rfl (cn rfl) rfl ?_
                            refine s_iload rfl (cn rfl) rfl ?_
                            refine s_iastore rfl (cn rfl) _ rfl c65 (by omega) (by decide) ?_
                            refine s_iinc rfl (cn rfl) rfl ?_
                            refine s_goto rfl (ch rfl) ?_
                            exact ih81 (by omega) _ _ _ (by omega) rr_set_eq (fr_s (by decide) hf) (fun i q1 q2 => by
                                by_cases e : i = g
                                · subst e; rw [fu_s]; show _ = (if so j = 3 then (if i = al n then v i else v (al n) - v (al n ^^^ i)) else if so j = 4 then v i - alo n v i else v (swp i a.toNat b.toNat)); first
                                  | (rw [if_pos q95, if_pos (by omega)]; done)
                                  | (rw [if_pos q95, if_neg (by omega), al_x n (by omega) i (by omega) (by omega)]; done)
                                  | (rw [if_neg (by omega), if_pos q123]; done)
                                  | (rw [if_neg (by omega), if_neg (by omega)]; done)
                                · rw [fu_n e]; exact hw i q1 (by omega))
                · first
                  | (exfalso; omega)
                  | skip
                    refine s_iload rfl (cn rfl) rfl ?_
                    refine s_aload_n rfl (cn rfl) rfl ?_
                    refine s_virt rfl (cn rfl) rfl rfl c58 rfl (m_all hn c58) ?_
                    rintro _ _ ⟨rfl, rfl⟩
                    refine s_icmp_ne rfl (cn rfl) (cn rfl) ⟨by omega, by omega⟩ ⟨by omega, by omega⟩ (fun q99 => ?_) (fun q99 => ?_)
                    · refine s_aload_n rfl (cn rfl) rfl ?_
                      refine s_getfield rfl (cn rfl) c58 rfl ?_
                      refine s_aload_n rfl (cn rfl) rfl ?_
                      refine s_virt rfl (cn rfl) rfl rfl c58 rfl (m_all hn c58) ?_
                      rintro _ _ ⟨rfl, rfl⟩
                      refine s_iaload rfl (cn rfl) _ rfl c59 rfl (by omega) (by decide) rfl ?_
                      refine s_aload_n rfl (cn rfl) rfl ?_
                      refine s_getfield rfl (cn rfl) c58 rfl ?_
                      refine s_aload_n rfl (cn rfl) rfl ?_
                      refine s_virt rfl (cn rfl) rfl rfl c58 rfl (m_all hn c58) ?_
                      rintro _ _ ⟨rfl, rfl⟩
                      refine s_iload rfl (cn rfl) rfl ?_
                      refine s_iconst rfl (cn rfl) ?_
                      refine s_ixor rfl (cn rfl) _ (bi_not _) ?_
                      refine s_iand rfl (cn rfl) _ (bi_andn _ _) ?_
                      refine s_iaload rfl (cn rfl) _ rfl c59 rfl (by rw [al_x n (by omega) g (by omega) (by omega)]; exact xor_16 (by omega) (by omega)) (by decide) rfl ?_
                      refine s_isub rfl (cn rfl) ?_
                      refine s_istore rfl (cn rfl) ?_
                      refine s_aload_n rfl (cn rfl) rfl ?_
                      refine s_getfield rfl (cn rfl) c58 rfl ?_
                      refine s_iload_n rfl (cn rfl) rfl ?_
                      refine s_iaload rfl (cn rfl) _ rfl c62 rfl (by omega) (by decide) rfl ?_
                      refine s_iconst rfl (cn rfl) ?_
                      refine s_icmp_ne rfl (cn rfl) (cn rfl) ⟨by omega, by omega⟩ ⟨by omega, by omega⟩ (fun q123 => ?_) (fun q123 => ?_)
                      · first
                        | (exfalso; omega)
                        | skip
                          refine s_aload_n rfl (cn rfl) rfl ?_
                          refine s_getfield rfl (cn rfl) c58 rfl ?_
                          refine s_iload_n rfl (cn rfl) rfl ?_
                          refine s_iaload rfl (cn rfl) _ rfl c62 rfl (by omega) (by decide) rfl ?_
                          refine s_iconst rfl (cn rfl) ?_
                          refine s_icmp_ne rfl (cn rfl) (cn rfl) ⟨by omega, by omega⟩ ⟨by omega, by omega⟩ (fun q135 => ?_) (fun q135 => ?_)
                          · first
                            | (exfalso; omega)
                            | skip
                              refine s_aload_n rfl (cn rfl) rfl ?_
                              refine s_getfield rfl (cn rfl) c58 rfl ?_
                              refine s_iload rfl (cn rfl) rfl ?_
                              refine s_iload rfl (cn rfl) rfl ?_
                              refine s_iastore rfl (cn rfl) _ rfl c65 (by omega) (by decide) ?_
                              refine s_iinc rfl (cn rfl) rfl ?_
                              refine s_goto rfl (ch rfl) ?_
                              exact ih81 (by omega) _ _ _ (by omega) rr_set_eq (fr_s (by decide) hf) (fun i q1 q2 => by
                                  by_cases e : i = g
                                  · subst e; rw [fu_s]; show _ = (if so j = 3 then (if i = al n then v i else v (al n) - v (al n ^^^ i)) else if so j = 4 then v i - alo n v i else v (swp i a.toNat b.toNat)); first
                                    | (rw [if_pos q95, if_pos (by omega)]; done)
                                    | (rw [if_pos q95, if_neg (by omega), al_x n (by omega) i (by omega) (by omega)]; done)
                                    | (rw [if_neg (by omega), if_pos q123]; done)
                                    | (rw [if_neg (by omega), if_neg (by omega)]; done)
                                  · rw [fu_n e]; exact hw i q1 (by omega))
                          · first
                            | (exfalso; omega)
                            | skip
                              refine s_aload_n rfl (cn rfl) rfl ?_
                              refine s_getfield rfl (cn rfl) c58 rfl ?_
                              refine s_iload rfl (cn rfl) rfl ?_
                              refine s_iload_n rfl (cn rfl) rfl ?_
                              refine s_iload_n rfl (cn rfl) rfl ?_
                              refine s_stat rfl (cn rfl) rfl rfl rfl (m_swapped (a := a.toNat) (b := b.toNat) (by omega) (by omega) (by omega) (by omega) (by omega)) ?_
                              rintro _ _ ⟨rfl, rfl⟩
                              refine s_iaload rfl (cn rfl) _ rfl c59 rfl (swp_b g (by omega) _ (by omega) _ (by omega)) (by decide) rfl ?_
                              refine s_istore rfl (cn rfl) ?_
                              refine s_aload_n rfl (cn rfl) rfl ?_
                              refine s_getfield rfl (cn rfl) c58 rfl ?_
                              refine s_iload rfl (cn rfl) rfl ?_
                              refine s_iload rfl (cn rfl) rfl ?_
                              refine s_iastore rfl (cn rfl) _ rfl c65 (by omega) (by decide) ?_
                              refine s_iinc rfl (cn rfl) rfl ?_
                              refine s_goto rfl (ch rfl) ?_
                              exact ih81 (by omega) _ _ _ (by omega) rr_set_eq (fr_s (by decide) hf) (fun i q1 q2 => by
                                  by_cases e : i = g
                                  · subst e; rw [fu_s]; show _ = (if so j = 3 then (if i = al n then v i else v (al n) - v (al n ^^^ i)) else if so j = 4 then v i - alo n v i else v (swp i a.toNat b.toNat)); first
                                    | (rw [if_pos q95, if_pos (by omega)]; done)
                                    | (rw [if_pos q95, if_neg (by omega), al_x n (by omega) i (by omega) (by omega)]; done)
                                    | (rw [if_neg (by omega), if_pos q123]; done)
                                    | (rw [if_neg (by omega), if_neg (by omega)]; done)
                                  · rw [fu_n e]; exact hw i q1 (by omega))
                      · first
                        | (exfalso; omega)
                        | skip
                          refine s_iload rfl (cn rfl) rfl ?_
                          refine s_aload_n rfl (cn rfl) rfl ?_
                          refine s_iload rfl (cn rfl) rfl ?_
                          refine s_virt rfl (cn rfl) rfl rfl c58 rfl (m_alone hn c58 c59 hv (by omega)) ?_
                          rintro _ _ ⟨rfl, rfl⟩
                          refine s_isub rfl (cn rfl) ?_
                          refine s_istore rfl (cn rfl) ?_
                          refine s_aload_n rfl (cn rfl) rfl ?_
                          refine s_getfield rfl (cn rfl) c58 rfl ?_
                          refine s_iload_n rfl (cn rfl) rfl ?_
                          refine s_iaload rfl (cn rfl) _ rfl c62 rfl (by omega) (by decide) rfl ?_
                          refine s_iconst rfl (cn rfl) ?_
                          refine s_icmp_ne rfl (cn rfl) (cn rfl) ⟨by omega, by omega⟩ ⟨by omega, by omega⟩ (fun q135 => ?_) (fun q135 => ?_)
                          · first
                            | (exfalso; omega)
                            | skip
                              refine s_aload_n rfl (cn rfl) rfl ?_
                              refine s_getfield rfl (cn rfl) c58 rfl ?_
                              refine s_iload rfl (cn rfl) rfl ?_
                              refine s_iload rfl (cn rfl) rfl ?_
                              refine s_iastore rfl (cn rfl) _ rfl c65 (by omega) (by decide) ?_
                              refine s_iinc rfl (cn rfl) rfl ?_
                              refine s_goto rfl (ch rfl) ?_
                              exact ih81 (by omega) _ _ _ (by omega) rr_set_eq (fr_s (by decide) hf) (fun i q1 q2 => by
                                  by_cases e : i = g
                                  · subst e; rw [fu_s]; show _ = (if so j = 3 then (if i = al n then v i else v (al n) - v (al n ^^^ i)) else if so j = 4 then v i - alo n v i else v (swp i a.toNat b.toNat)); first
                                    | (rw [if_pos q95, if_pos (by omega)]; done)
                                    | (rw [if_pos q95, if_neg (by omega), al_x n (by omega) i (by omega) (by omega)]; done)
                                    | (rw [if_neg (by omega), if_pos q123]; done)
                                    | (rw [if_neg (by omega), if_neg (by omega)]; done)
                                  · rw [fu_n e]; exact hw i q1 (by omega))
                          · first
                            | (exfalso; omega)
                            | skip
                              refine s_aload_n rfl (cn rfl) rfl ?_
                              refine s_getfield rfl (cn rfl) c58 rfl ?_
                              refine s_iload rfl (cn rfl) rfl ?_
                              refine s_iload_n rfl (cn rfl) rfl ?_
                              refine s_iload_n rfl (cn rfl) rfl ?_
                              refine s_stat rfl (cn rfl) rfl rfl rfl (m_swapped (a := a.toNat) (b := b.toNat) (by omega) (by omega) (by omega) (by omega) (by omega)) ?_
                              rintro _ _ ⟨rfl, rfl⟩
                              refine s_iaload rfl (cn rfl) _ rfl c59 rfl (swp_b g (by omega) _ (by omega) _ (by omega)) (by decide) rfl ?_
                              refine s_istore rfl (cn rfl) ?_
                              refine s_aload_n rfl (cn rfl) rfl ?_
                              refine s_getfield rfl (cn rfl) c58 rfl ?_
                              refine s_iload rfl (cn rfl) rfl ?_
                              refine s_iload rfl (cn rfl) rfl ?_
                              refine s_iastore rfl (cn rfl) _ rfl c65 (by omega) (by decide) ?_
                              refine s_iinc rfl (cn rfl) rfl ?_
                              refine s_goto rfl (ch rfl) ?_
                              exact ih81 (by omega) _ _ _ (by omega) rr_set_eq (fr_s (by decide) hf) (fun i q1 q2 => by
                                  by_cases e : i = g
                                  · subst e; rw [fu_s]; show _ = (if so j = 3 then (if i = al n then v i else v (al n) - v (al n ^^^ i)) else if so j = 4 then v i - alo n v i else v (swp i a.toNat b.toNat)); first
                                    | (rw [if_pos q95, if_pos (by omega)]; done)
                                    | (rw [if_pos q95, if_neg (by omega), al_x n (by omega) i (by omega) (by omega)]; done)
                                    | (rw [if_neg (by omega), if_pos q123]; done)
                                    | (rw [if_neg (by omega), if_neg (by omega)]; done)
                                  · rw [fu_n e]; exact hw i q1 (by omega))
                    · refine s_iload rfl (cn rfl) rfl ?_
                      refine s_goto rfl (cn rfl) ?_
                      refine s_istore rfl (cn rfl) ?_
                      refine s_aload_n rfl (cn rfl) rfl ?_
                      refine s_getfield rfl (cn rfl) c58 rfl ?_
                      refine s_iload_n rfl (cn rfl) rfl ?_
                      refine s_iaload rfl (cn rfl) _ rfl c62 rfl (by omega) (by decide) rfl ?_
                      refine s_iconst rfl (cn rfl) ?_
                      refine s_icmp_ne rfl (cn rfl) (cn rfl) ⟨by omega, by omega⟩ ⟨by omega, by omega⟩ (fun q123 => ?_) (fun q123 => ?_)
                      · first
                        | (exfalso; omega)
                        | skip
                          refine s_aload_n rfl (cn rfl) rfl ?_
                          refine s_getfield rfl (cn rfl) c58 rfl ?_
                          refine s_iload_n rfl (cn rfl) rfl ?_
                          refine s_iaload rfl (cn rfl) _ rfl c62 rfl (by omega) (by decide) rfl ?_
                          refine s_iconst rfl (cn rfl) ?_
                          refine s_icmp_ne rfl (cn rfl) (cn rfl) ⟨by omega, by omega⟩ ⟨by omega, by omega⟩ (fun q135 => ?_) (fun q135 => ?_)
                          · first
                            | (exfalso; omega)
                            | skip
                              refine s_aload_n rfl (cn rfl) rfl ?_
                              refine s_getfield rfl (cn rfl) c58 rfl ?_
                              refine s_iload rfl (cn rfl) rfl ?_
                              refine s_iload rfl (cn rfl) rfl ?_
                              refine s_iastore rfl (cn rfl) _ rfl c65 (by omega) (by decide) ?_
                              refine s_iinc rfl (cn rfl) rfl ?_
                              refine s_goto rfl (ch rfl) ?_
                              exact ih81 (by omega) _ _ _ (by omega) rr_set_eq (fr_s (by decide) hf) (fun i q1 q2 => by
                                  by_cases e : i = g
                                  · subst e; rw [fu_s]; show _ = (if so j = 3 then (if i = al n then v i else v (al n) - v (al n ^^^ i)) else if so j = 4 then v i - alo n v i else v (swp i a.toNat b.toNat)); first
                                    | (rw [if_pos q95, if_pos (by omega)]; done)
                                    | (rw [if_pos q95, if_neg (by omega), al_x n (by omega) i (by omega) (by omega)]; done)
                                    | (rw [if_neg (by omega), if_pos q123]; done)
                                    | (rw [if_neg (by omega), if_neg (by omega)]; done)
                                  · rw [fu_n e]; exact hw i q1 (by omega))
                          · first
                            | (exfalso; omega)
                            | skip
                              refine s_aload_n rfl (cn rfl) rfl ?_
                              refine s_getfield rfl (cn rfl) c58 rfl ?_
                              refine s_iload rfl (cn rfl) rfl ?_
                              refine s_iload_n rfl (cn rfl) rfl ?_
                              refine s_iload_n rfl (cn rfl) rfl ?_
                              refine s_stat rfl (cn rfl) rfl rfl rfl (m_swapped (a := a.toNat) (b := b.toNat) (by omega) (by omega) (by omega) (by omega) (by omega)) ?_
                              rintro _ _ ⟨rfl, rfl⟩
                              refine s_iaload rfl (cn rfl) _ rfl c59 rfl (swp_b g (by omega) _ (by omega) _ (by omega)) (by decide) rfl ?_
                              refine s_istore rfl (cn rfl) ?_
                              refine s_aload_n rfl (cn rfl) rfl ?_
                              refine s_getfield rfl (cn rfl) c58 rfl ?_
                              refine s_iload rfl (cn rfl) rfl ?_
                              refine s_iload rfl (cn rfl) rfl ?_
                              refine s_iastore rfl (cn rfl) _ rfl c65 (by omega) (by decide) ?_
                              refine s_iinc rfl (cn rfl) rfl ?_
                              refine s_goto rfl (ch rfl) ?_
                              exact ih81 (by omega) _ _ _ (by omega) rr_set_eq (fr_s (by decide) hf) (fun i q1 q2 => by
                                  by_cases e : i = g
                                  · subst e; rw [fu_s]; show _ = (if so j = 3 then (if i = al n then v i else v (al n) - v (al n ^^^ i)) else if so j = 4 then v i - alo n v i else v (swp i a.toNat b.toNat)); first
                                    | (rw [if_pos q95, if_pos (by omega)]; done)
                                    | (rw [if_pos q95, if_neg (by omega), al_x n (by omega) i (by omega) (by omega)]; done)
                                    | (rw [if_neg (by omega), if_pos q123]; done)
                                    | (rw [if_neg (by omega), if_neg (by omega)]; done)
                                  · rw [fu_n e]; exact hw i q1 (by omega))
                      · first
                        | (exfalso; omega)
                        | skip
                          refine s_iload rfl (cn rfl) rfl ?_
                          refine s_aload_n rfl (cn rfl) rfl ?_
                          refine s_iload rfl (cn rfl) rfl ?_
                          refine s_virt rfl (cn rfl) rfl rfl c58 rfl (m_alone hn c58 c59 hv (by omega)) ?_
                          rintro _ _ ⟨rfl, rfl⟩
                          refine s_isub rfl (cn rfl) ?_
                          refine s_istore rfl (cn rfl) ?_
                          refine s_aload_n rfl (cn rfl) rfl ?_
                          refine s_getfield rfl (cn rfl) c58 rfl ?_
                          refine s_iload_n rfl (cn rfl) rfl ?_
                          refine s_iaload rfl (cn rfl) _ rfl c62 rfl (by omega) (by decide) rfl ?_
                          refine s_iconst rfl (cn rfl) ?_
                          refine s_icmp_ne rfl (cn rfl) (cn rfl) ⟨by omega, by omega⟩ ⟨by omega, by omega⟩ (fun q135 => ?_) (fun q135 => ?_)
                          · first
                            | (exfalso; omega)
                            | skip
                              refine s_aload_n rfl (cn rfl) rfl ?_
                              refine s_getfield rfl (cn rfl) c58 rfl ?_
                              refine s_iload rfl (cn rfl) rfl ?_
                              refine s_iload rfl (cn rfl) rfl ?_
                              refine s_iastore rfl (cn rfl) _ rfl c65 (by omega) (by decide) ?_
                              refine s_iinc rfl (cn rfl) rfl ?_
                              refine s_goto rfl (ch rfl) ?_
                              exact ih81 (by omega) _ _ _ (by omega) rr_set_eq (fr_s (by decide) hf) (fun i q1 q2 => by
                                  by_cases e : i = g
                                  · subst e; rw [fu_s]; show _ = (if so j = 3 then (if i = al n then v i else v (al n) - v (al n ^^^ i)) else if so j = 4 then v i - alo n v i else v (swp i a.toNat b.toNat)); first
                                    | (rw [if_pos q95, if_pos (by omega)]; done)
                                    | (rw [if_pos q95, if_neg (by omega), al_x n (by omega) i (by omega) (by omega)]; done)
                                    | (rw [if_neg (by omega), if_pos q123]; done)
                                    | (rw [if_neg (by omega), if_neg (by omega)]; done)
                                  · rw [fu_n e]; exact hw i q1 (by omega))
                          · first
                            | (exfalso; omega)
                            | skip
                              refine s_aload_n rfl (cn rfl) rfl ?_
                              refine s_getfield rfl (cn rfl) c58 rfl ?_
                              refine s_iload rfl (cn rfl) rfl ?_
                              refine s_iload_n rfl (cn rfl) rfl ?_
                              refine s_iload_n rfl (cn rfl) rfl ?_
                              refine s_stat rfl (cn rfl) rfl rfl rfl (m_swapped (a := a.toNat) (b := b.toNat) (by omega) (by omega) (by omega) (by omega) (by omega)) ?_
                              rintro _ _ ⟨rfl, rfl⟩
                              refine s_iaload rfl (cn rfl) _ rfl c59 rfl (swp_b g (by omega) _ (by omega) _ (by omega)) (by decide) rfl ?_
                              refine s_istore rfl (cn rfl) ?_
                              refine s_aload_n rfl (cn rfl) rfl ?_
                              refine s_getfield rfl (cn rfl) c58 rfl ?_
                              refine s_iload rfl (cn rfl) rfl ?_
                              refine s_iload rfl (cn rfl) rfl ?_
                              refine s_iastore rfl (cn rfl) _ rfl c65 (by omega) (by decide) ?_
                              refine s_iinc rfl (cn rfl) rfl ?_
                              refine s_goto rfl (ch rfl) ?_
                              exact ih81 (by omega) _ _ _ (by omega) rr_set_eq (fr_s (by decide) hf) (fun i q1 q2 => by
                                  by_cases e : i = g
                                  · subst e; rw [fu_s]; show _ = (if so j = 3 then (if i = al n then v i else v (al n) - v (al n ^^^ i)) else if so j = 4 then v i - alo n v i else v (swp i a.toNat b.toNat)); first
                                    | (rw [if_pos q95, if_pos (by omega)]; done)
                                    | (rw [if_pos q95, if_neg (by omega), al_x n (by omega) i (by omega) (by omega)]; done)
                                    | (rw [if_neg (by omega), if_pos q123]; done)
                                    | (rw [if_neg (by omega), if_neg (by omega)]; done)
                                  · rw [fu_n e]; exact hw i q1 (by omega))
            exact lp81 1 (by omega) _ _ _ (by omega) c65 fr_r (fun i q1 q2 => absurd q2 (by omega))
        · first
          | (exfalso; omega)
          | skip
            refine s_aload_n rfl (cn rfl) rfl ?_
            refine s_iload_n rfl (cn rfl) rfl ?_
            refine s_virt rfl (cn rfl) rfl rfl c58 rfl (m_isOne hn c58 (bo1 (by omega))) ?_
            rintro _ _ ⟨rfl, rfl⟩
            refine s_ifb_eq rfl (cn rfl) (cn rfl) (fun q72 => ?_) (fun q72 => ?_)
            · refine s_iconst rfl (cn rfl) ?_
              refine s_zreturn rfl (Or.inl rfl) ?_
              refine Or.inl ⟨?_, rfl, h, rfl, fr_r, w, c65⟩
              rw [dst_3 (show so j ≠ 0 by omega) (show so j ≠ 1 by omega) (show so j ≠ 2 by omega)]
              refine ci_n (fun q => ?_)
              have q2 : (0 ≤ a ∧ a < (n : Int)) ∧ (0 ≤ b ∧ b < (n : Int)) := q.1 q68
              omega
            · refine s_aload_n rfl (cn rfl) rfl ?_
              refine s_iload_n rfl (cn rfl) rfl ?_
              refine s_virt rfl (cn rfl) rfl rfl c58 rfl (m_isOne hn c58 (bo2 (by omega))) ?_
              rintro _ _ ⟨rfl, rfl⟩
              refine s_ifb_ne rfl (cn rfl) (cn rfl) (fun q76 => ?_) (fun q76 => ?_)
              · have hk5 : so j = 3 ∨ so j = 4 ∨ (so j = 5 ∧ (0 ≤ on j ∧ on j < n) ∧ (0 ≤ tw j ∧ tw j < n)) := by omega
                have hva := hv (al n)
                refine s_iconst rfl (cn rfl) ?_
                refine s_istore rfl (ch rfl) ?_
                have lp81 : ∀ g : Nat, g ≤ al n + 1 → ∀ (h' : Nat → Option rr_E) (w : Nat → Int) (l5 : Option Value) (h1 : 1 ≤ g) (c65 : h' 65 = some (.inl (0, 16, .inl (fun k => ii (w k))))) (hf : fr [65] h h') (hw : ∀ i, 1 ≤ i → i < g → w i = NX n v (so j, a, b) i), K 81 [some (.ref 58), some (.int (ii (j : Int))), some (.int (ii (on j))), some (.int (ii (tw j))), some (.int (ii (g : Int))), l5] [] (N, S, h') := by
                  refine dn (fun g hg ih81 => ?_)
                  intro h' w l5 h1 c65 hf hw
                  have c58 := (hf 58 (by decide)).trans c58
                  have c59 := (hf 59 (by decide)).trans c59
                  have c62 := (hf 62 (by decide)).trans c62
                  have c63 := (hf 63 (by decide)).trans c63
                  have c64 := (hf 64 (by decide)).trans c64
                  have hvg := hv g
                  refine hK _ _ _ _ ?_
                  refine s_iload rfl (cn rfl) rfl ?_
                  refine s_aload_n rfl (cn rfl) rfl ?_
                  refine s_virt rfl (cn rfl) rfl rfl c58 rfl (m_all hn c58) ?_
                  rintro _ _ ⟨rfl, rfl⟩
                  refine s_icmp_gt rfl (cn rfl) (cn rfl) ⟨by omega, by omega⟩ ⟨by omega, by omega⟩ (fun q84 => ?_) (fun q84 => ?_)
                  · refine s_aload_n rfl (cn rfl) rfl ?_
                    refine s_virt rfl (cn rfl) rfl rfl c58 rfl (m_becomes hn c58 c59 c65 (fun i i1 i2 => by rw [hw i i1 (by omega)]; have := NX_b (D := (so j, a, b)) hn hv i; exact ⟨by omega, by omega⟩)) ?_
                    rintro _ _ (⟨e8, rfl, rfl⟩ | ⟨e8, rfl, h2, rfl, hf2, d58, d59⟩)
                    · refine s_zreturn rfl (Or.inl rfl) ?_
                      refine Or.inl ⟨?_, rfl, h', rfl, hf, w, c65⟩
                      rw [dst_3 (show so j ≠ 0 by omega) (show so j ≠ 1 by omega) (show so j ≠ 2 by omega)]
                      exact ci_n (fun q => e8 (fun i i1 i2 => by rw [hw i i1 (by omega)]; exact q.2 i i1 i2))
                    · refine s_zreturn rfl (Or.inr rfl) ?_
                      refine Or.inr ⟨n, _, ?_, rfl, h2, rfl, fr_t (fr_w hf (by decide)) hf2 (by decide), d58, ar_f d59 (nxt_g (fun i i1 i2 => hw i i1 (by omega))), w, (hf2 65 (by decide)).trans c65⟩
                      rw [dst_3 (show so j ≠ 0 by omega) (show so j ≠ 1 by omega) (show so j ≠ 2 by omega)]
                      exact ci_y ⟨fun q => (show (0 ≤ a ∧ a < (n : Int)) ∧ (0 ≤ b ∧ b < (n : Int)) by change so j = 5 at q; omega), fun i i1 i2 => by rw [← hw i i1 (by omega)]; exact e8 i i1 i2⟩
                  · refine s_aload_n rfl (cn rfl) rfl ?_
                    refine s_getfield rfl (cn rfl) c58 rfl ?_
                    refine s_iload rfl (cn rfl) rfl ?_
                    refine s_iaload rfl (cn rfl) _ rfl c59 rfl (by omega) (by decide) rfl ?_
                    refine s_istore rfl (cn rfl) ?_
                    refine s_aload_n rfl (cn rfl) rfl ?_
                    refine s_getfield rfl (cn rfl) c58 rfl ?_
                    refine s_iload_n rfl (cn rfl) rfl ?_
                    refine s_iaload rfl (cn rfl) _ rfl c62 rfl (by omega) (by decide) rfl ?_
                    refine s_iconst rfl (cn rfl) ?_
                    refine s_icmp_ne rfl (cn rfl) (cn rfl) ⟨by omega, by omega⟩ ⟨by omega, by omega⟩ (fun q95 => ?_) (fun q95 => ?_)
                    · first
                      | (exfalso; omega)
                      | skip
                        refine s_aload_n rfl (cn rfl) rfl ?_
                        refine s_getfield rfl (cn rfl) c58 rfl ?_
                        refine s_iload_n rfl (cn rfl) rfl ?_
                        refine s_iaload rfl (cn rfl) _ rfl c62 rfl (by omega) (by decide) rfl ?_
                        refine s_iconst rfl (cn rfl) ?_
                        refine s_icmp_ne rfl (cn rfl) (cn rfl) ⟨by omega, by omega⟩ ⟨by omega, by omega⟩ (fun q123 => ?_) (fun q123 => ?_)
                        · first
                          | (exfalso; omega)
                          | skip
                            refine s_aload_n rfl (cn rfl) rfl ?_
                            refine s_getfield rfl (cn rfl) c58 rfl ?_
                            refine s_iload_n rfl (cn rfl) rfl ?_
                            refine s_iaload rfl (cn rfl) _ rfl c62 rfl (by omega) (by decide) rfl ?_
                            refine s_iconst rfl (cn rfl) ?_
                            refine s_icmp_ne rfl (cn rfl) (cn rfl) ⟨by omega, by omega⟩ ⟨by omega, by omega⟩ (fun q135 => ?_) (fun q135 => ?_)
                            · first
                              | (exfalso; omega)
                              | skip
                                refine s_aload_n rfl (cn rfl) rfl ?_
                                refine s_getfield rfl (cn rfl) c58 rfl ?_
                                refine s_iload rfl (cn rfl) rfl ?_
                                refine s_iload rfl (cn rfl) rfl ?_
                                refine s_iastore rfl (cn rfl) _ rfl c65 (by omega) (by decide) ?_
                                refine s_iinc rfl (cn rfl) rfl ?_
                                refine s_goto rfl (ch rfl) ?_
                                exact ih81 (by omega) _ _ _ (by omega) rr_set_eq (fr_s (by decide) hf) (fun i q1 q2 => by
                                    by_cases e : i = g
                                    · subst e; rw [fu_s]; show _ = (if so j = 3 then (if i = al n then v i else v (al n) - v (al n ^^^ i)) else if so j = 4 then v i - alo n v i else v (swp i a.toNat b.toNat)); first
                                      | (rw [if_pos q95, if_pos (by omega)]; done)
                                      | (rw [if_pos q95, if_neg (by omega), al_x n (by omega) i (by omega) (by omega)]; done)
                                      | (rw [if_neg (by omega), if_pos q123]; done)
                                      | (rw [if_neg (by omega), if_neg (by omega)]; done)
                                    · rw [fu_n e]; exact hw i q1 (by omega))
                            · first
                              | (exfalso; omega)
                              | skip
                                refine s_aload_n rfl (cn rfl) rfl ?_
                                refine s_getfield rfl (cn rfl) c58 rfl ?_
                                refine s_iload rfl (cn rfl) rfl ?_
                                refine s_iload_n rfl (cn rfl) rfl ?_
                                refine s_iload_n rfl (cn rfl) rfl ?_
                                refine s_stat rfl (cn rfl) rfl rfl rfl (m_swapped (a := a.toNat) (b := b.toNat) (by omega) (by omega) (by omega) (by omega) (by omega)) ?_
                                rintro _ _ ⟨rfl, rfl⟩
                                refine s_iaload rfl (cn rfl) _ rfl c59 rfl (swp_b g (by omega) _ (by omega) _ (by omega)) (by decide) rfl ?_
                                refine s_istore rfl (cn rfl) ?_
                                refine s_aload_n rfl (cn rfl) rfl ?_
                                refine s_getfield rfl (cn rfl) c58 rfl ?_
                                refine s_iload rfl (cn rfl) rfl ?_
                                refine s_iload rfl (cn rfl) rfl ?_
                                refine s_iastore rfl (cn rfl) _ rfl c65 (by omega) (by decide) ?_
                                refine s_iinc rfl (cn rfl) rfl ?_
                                refine s_goto rfl (ch rfl) ?_
                                exact ih81 (by omega) _ _ _ (by omega) rr_set_eq (fr_s (by decide) hf) (fun i q1 q2 => by
                                    by_cases e : i = g
                                    · subst e; rw [fu_s]; show _ = (if so j = 3 then (if i = al n then v i else v (al n) - v (al n ^^^ i)) else if so j = 4 then v i - alo n v i else v (swp i a.toNat b.toNat)); first
                                      | (rw [if_pos q95, if_pos (by omega)]; done)
                                      | (rw [if_pos q95, if_neg (by omega), al_x n (by omega) i (by omega) (by omega)]; done)
                                      | (rw [if_neg (by omega), if_pos q123]; done)
                                      | (rw [if_neg (by omega), if_neg (by omega)]; done)
                                    · rw [fu_n e]; exact hw i q1 (by omega))
                        · first
                          | (exfalso; omega)
                          | skip
                            refine s_iload rfl (cn rfl) rfl ?_
                            refine s_aload_n rfl (cn rfl) rfl ?_
                            refine s_iload rfl (cn rfl) rfl ?_
                            refine s_virt rfl (cn rfl) rfl rfl c58 rfl (m_alone hn c58 c59 hv (by omega)) ?_
                            rintro _ _ ⟨rfl, rfl⟩
                            refine s_isub rfl (cn rfl) ?_
                            refine s_istore rfl (cn rfl) ?_
                            refine s_aload_n rfl (cn rfl) rfl ?_
                            refine s_getfield rfl (cn rfl) c58 rfl ?_
                            refine s_iload_n rfl (cn rfl) rfl ?_
                            refine s_iaload rfl (cn rfl) _ rfl c62 rfl (by omega) (by decide) rfl ?_
                            refine s_iconst rfl (cn rfl) ?_
                            refine s_icmp_ne rfl (cn rfl) (cn rfl) ⟨by omega, by omega⟩ ⟨by omega, by omega⟩ (fun q135 => ?_) (fun q135 => ?_)
                            · first
                              | (exfalso; omega)
                              | skip
                                refine s_aload_n rfl (cn rfl) rfl ?_
                                refine s_getfield rfl (cn rfl) c58 rfl ?_
                                refine s_iload rfl (cn rfl) rfl ?_
                                refine s_iload rfl (cn rfl) rfl ?_
                                refine s_iastore rfl (cn rfl) _ rfl c65 (by omega) (by decide) ?_
                                refine s_iinc rfl (cn rfl) rfl ?_
                                refine s_goto rfl (ch rfl) ?_
                                exact ih81 (by omega) _ _ _ (by omega) rr_set_eq (fr_s (by decide) hf) (fun i q1 q2 => by
                                    by_cases e : i = g
                                    · subst e; rw [fu_s]; show _ = (if so j = 3 then (if i = al n then v i else v (al n) - v (al n ^^^ i)) else if so j = 4 then v i - alo n v i else v (swp i a.toNat b.toNat)); first
                                      | (rw [if_pos q95, if_pos (by omega)]; done)
                                      | (rw [if_pos q95, if_neg (by omega), al_x n (by omega) i (by omega) (by omega)]; done)
                                      | (rw [if_neg (by omega), if_pos q123]; done)
                                      | (rw [if_neg (by omega), if_neg (by omega)]; done)
                                    · rw [fu_n e]; exact hw i q1 (by omega))
                            · first
                              | (exfalso; omega)
                              | skip
                                refine s_aload_n rfl (cn rfl) rfl ?_
                                refine s_getfield rfl (cn rfl) c58 rfl ?_
                                refine s_iload rfl (cn rfl) rfl ?_
                                refine s_iload_n rfl (cn rfl) rfl ?_
                                refine s_iload_n rfl (cn rfl) rfl ?_
                                refine s_stat rfl (cn rfl) rfl rfl rfl (m_swapped (a := a.toNat) (b := b.toNat) (by omega) (by omega) (by omega) (by omega) (by omega)) ?_
                                rintro _ _ ⟨rfl, rfl⟩
                                refine s_iaload rfl (cn rfl) _ rfl c59 rfl (swp_b g (by omega) _ (by omega) _ (by omega)) (by decide) rfl ?_
                                refine s_istore rfl (cn rfl) ?_
                                refine s_aload_n rfl (cn rfl) rfl ?_
                                refine s_getfield rfl (cn rfl) c58 rfl ?_
                                refine s_iload rfl (cn rfl) rfl ?_
                                refine s_iload rfl (cn rfl) rfl ?_
                                refine s_iastore rfl (cn rfl) _ rfl c65 (by omega) (by decide) ?_
                                refine s_iinc rfl (cn rfl) rfl ?_
                                refine s_goto rfl (ch rfl) ?_
                                exact ih81 (by omega) _ _ _ (by omega) rr_set_eq (fr_s (by decide) hf) (fun i q1 q2 => by
                                    by_cases e : i = g
                                    · subst e; rw [fu_s]; show _ = (if so j = 3 then (if i = al n then v i else v (al n) - v (al n ^^^ i)) else if so j = 4 then v i - alo n v i else v (swp i a.toNat b.toNat)); first
                                      | (rw [if_pos q95, if_pos (by omega)]; done)
                                      | (rw [if_pos q95, if_neg (by omega), al_x n (by omega) i (by omega) (by omega)]; done)
                                      | (rw [if_neg (by omega), if_pos q123]; done)
                                      | (rw [if_neg (by omega), if_neg (by omega)]; done)
                                    · rw [fu_n e]; exact hw i q1 (by omega))
                    · first
                      | (exfalso; omega)
                      | skip
                        refine s_iload rfl (cn rfl) rfl ?_
                        refine s_aload_n rfl (cn rfl) rfl ?_
                        refine s_virt rfl (cn rfl) rfl rfl c58 rfl (m_all hn c58) ?_
                        rintro _ _ ⟨rfl, rfl⟩
                        refine s_icmp_ne rfl (cn rfl) (cn rfl) ⟨by omega, by omega⟩ ⟨by omega, by omega⟩ (fun q99 => ?_) (fun q99 => ?_)
                        · refine s_aload_n rfl (cn rfl) rfl ?_
                          refine s_getfield rfl (cn rfl) c58 rfl ?_
                          refine s_aload_n rfl (cn rfl) rfl ?_
                          refine s_virt rfl (cn rfl) rfl rfl c58 rfl (m_all hn c58) ?_
                          rintro _ _ ⟨rfl, rfl⟩
                          refine s_iaload rfl (cn rfl) _ rfl c59 rfl (by omega) (by decide) rfl ?_
                          refine s_aload_n rfl (cn rfl) rfl ?_
                          refine s_getfield rfl (cn rfl) c58 rfl ?_
                          refine s_aload_n rfl (cn rfl) rfl ?_
                          refine s_virt rfl (cn rfl) rfl rfl c58 rfl (m_all hn c58) ?_
                          rintro _ _ ⟨rfl, rfl⟩
                          refine s_iload rfl (cn rfl) rfl ?_
                          refine s_iconst rfl (cn rfl) ?_
                          refine s_ixor rfl (cn rfl) _ (bi_not _) ?_
                          refine s_iand rfl (cn rfl) _ (bi_andn _ _) ?_
                          refine s_iaload rfl (cn rfl) _ rfl c59 rfl (by rw [al_x n (by omega) g (by omega) (by omega)]; exact xor_16 (by omega) (by omega)) (by decide) rfl ?_
                          refine s_isub rfl (cn rfl) ?_
                          refine s_istore rfl (cn rfl) ?_
                          refine s_aload_n rfl (cn rfl) rfl ?_
                          refine s_getfield rfl (cn rfl) c58 rfl ?_
                          refine s_iload_n rfl (cn rfl) rfl ?_
                          refine s_iaload rfl (cn rfl) _ rfl c62 rfl (by omega) (by decide) rfl ?_
                          refine s_iconst rfl (cn rfl) ?_
                          refine s_icmp_ne rfl (cn rfl) (cn rfl) ⟨by omega, by omega⟩ ⟨by omega, by omega⟩ (fun q123 => ?_) (fun q123 => ?_)
                          · first
                            | (exfalso; omega)
                            | skip
                              refine s_aload_n rfl (cn rfl) rfl ?_
                              refine s_getfield rfl (cn rfl) c58 rfl ?_
                              refine s_iload_n rfl (cn rfl) rfl ?_
                              refine s_iaload rfl (cn rfl) _ rfl c62 rfl (by omega) (by decide) rfl ?_
                              refine s_iconst rfl (cn rfl) ?_
                              refine s_icmp_ne rfl (cn rfl) (cn rfl) ⟨by omega, by omega⟩ ⟨by omega, by omega⟩ (fun q135 => ?_) (fun q135 => ?_)
                              · first
                                | (exfalso; omega)
                                | skip
                                  refine s_aload_n rfl (cn rfl) rfl ?_
                                  refine s_getfield rfl (cn rfl) c58 rfl ?_
                                  refine s_iload rfl (cn rfl) rfl ?_
                                  refine s_iload rfl (cn rfl) rfl ?_
                                  refine s_iastore rfl (cn rfl) _ rfl c65 (by omega) (by decide) ?_
                                  refine s_iinc rfl (cn rfl) rfl ?_
                                  refine s_goto rfl (ch rfl) ?_
                                  exact ih81 (by omega) _ _ _ (by omega) rr_set_eq (fr_s (by decide) hf) (fun i q1 q2 => by
                                      by_cases e : i = g
                                      · subst e; rw [fu_s]; show _ = (if so j = 3 then (if i = al n then v i else v (al n) - v (al n ^^^ i)) else if so j = 4 then v i - alo n v i else v (swp i a.toNat b.toNat)); first
                                        | (rw [if_pos q95, if_pos (by omega)]; done)
                                        | (rw [if_pos q95, if_neg (by omega), al_x n (by omega) i (by omega) (by omega)]; done)
                                        | (rw [if_neg (by omega), if_pos q123]; done)
                                        | (rw [if_neg (by omega), if_neg (by omega)]; done)
                                      · rw [fu_n e]; exact hw i q1 (by omega))
                              · first
                                | (exfalso; omega)
                                | skip
                                  refine s_aload_n rfl (cn rfl) rfl ?_
                                  refine s_getfield rfl (cn rfl) c58 rfl ?_
                                  refine s_iload rfl (cn rfl) rfl ?_
                                  refine s_iload_n rfl (cn rfl) rfl ?_
                                  refine s_iload_n rfl (cn rfl) rfl ?_
                                  refine s_stat rfl (cn rfl) rfl rfl rfl (m_swapped (a := a.toNat) (b := b.toNat) (by omega) (by omega) (by omega) (by omega) (by omega)) ?_
                                  rintro _ _ ⟨rfl, rfl⟩
                                  refine s_iaload rfl (cn rfl) _ rfl c59 rfl (swp_b g (by omega) _ (by omega) _ (by omega)) (by decide) rfl ?_
                                  refine s_istore rfl (cn rfl) ?_
                                  refine s_aload_n rfl (cn rfl) rfl ?_
                                  refine s_getfield rfl (cn rfl) c58 rfl ?_
                                  refine s_iload rfl (cn rfl) rfl ?_
                                  refine s_iload rfl (cn rfl) rfl ?_
                                  refine s_iastore rfl (cn rfl) _ rfl c65 (by omega) (by decide) ?_
                                  refine s_iinc rfl (cn rfl) rfl ?_
                                  refine s_goto rfl (ch rfl) ?_
                                  exact ih81 (by omega) _ _ _ (by omega) rr_set_eq (fr_s (by decide) hf) (fun i q1 q2 => by
                                      by_cases e : i = g
                                      · subst e; rw [fu_s]; show _ = (if so j = 3 then (if i = al n then v i else v (al n) - v (al n ^^^ i)) else if so j = 4 then v i - alo n v i else v (swp i a.toNat b.toNat)); first
                                        | (rw [if_pos q95, if_pos (by omega)]; done)
                                        | (rw [if_pos q95, if_neg (by omega), al_x n (by omega) i (by omega) (by omega)]; done)
                                        | (rw [if_neg (by omega), if_pos q123]; done)
                                        | (rw [if_neg (by omega), if_neg (by omega)]; done)
                                      · rw [fu_n e]; exact hw i q1 (by omega))
                          · first
                            | (exfalso; omega)
                            | skip
                              refine s_iload rfl (cn rfl) rfl ?_
                              refine s_aload_n rfl (cn rfl) rfl ?_
                              refine s_iload rfl (cn rfl) rfl ?_
                              refine s_virt rfl (cn rfl) rfl rfl c58 rfl (m_alone hn c58 c59 hv (by omega)) ?_
                              rintro _ _ ⟨rfl, rfl⟩
                              refine s_isub rfl (cn rfl) ?_
                              refine s_istore rfl (cn rfl) ?_
                              refine s_aload_n rfl (cn rfl) rfl ?_
                              refine s_getfield rfl (cn rfl) c58 rfl ?_
                              refine s_iload_n rfl (cn rfl) rfl ?_
                              refine s_iaload rfl (cn rfl) _ rfl c62 rfl (by omega) (by decide) rfl ?_
                              refine s_iconst rfl (cn rfl) ?_
                              refine s_icmp_ne rfl (cn rfl) (cn rfl) ⟨by omega, by omega⟩ ⟨by omega, by omega⟩ (fun q135 => ?_) (fun q135 => ?_)
                              · first
                                | (exfalso; omega)
                                | skip
                                  refine s_aload_n rfl (cn rfl) rfl ?_
                                  refine s_getfield rfl (cn rfl) c58 rfl ?_
                                  refine s_iload rfl (cn rfl) rfl ?_
                                  refine s_iload rfl (cn rfl) rfl ?_
                                  refine s_iastore rfl (cn rfl) _ rfl c65 (by omega) (by decide) ?_
                                  refine s_iinc rfl (cn rfl) rfl ?_
                                  refine s_goto rfl (ch rfl) ?_
                                  exact ih81 (by omega) _ _ _ (by omega) rr_set_eq (fr_s (by decide) hf) (fun i q1 q2 => by
                                      by_cases e : i = g
                                      · subst e; rw [fu_s]; show _ = (if so j = 3 then (if i = al n then v i else v (al n) - v (al n ^^^ i)) else if so j = 4 then v i - alo n v i else v (swp i a.toNat b.toNat)); first
                                        | (rw [if_pos q95, if_pos (by omega)]; done)
                                        | (rw [if_pos q95, if_neg (by omega), al_x n (by omega) i (by omega) (by omega)]; done)
                                        | (rw [if_neg (by omega), if_pos q123]; done)
                                        | (rw [if_neg (by omega), if_neg (by omega)]; done)
                                      · rw [fu_n e]; exact hw i q1 (by omega))
                              · first
                                | (exfalso; omega)
                                | skip
                                  refine s_aload_n rfl (cn rfl) rfl ?_
                                  refine s_getfield rfl (cn rfl) c58 rfl ?_
                                  refine s_iload rfl (cn rfl) rfl ?_
                                  refine s_iload_n rfl (cn rfl) rfl ?_
                                  refine s_iload_n rfl (cn rfl) rfl ?_
                                  refine s_stat rfl (cn rfl) rfl rfl rfl (m_swapped (a := a.toNat) (b := b.toNat) (by omega) (by omega) (by omega) (by omega) (by omega)) ?_
                                  rintro _ _ ⟨rfl, rfl⟩
                                  refine s_iaload rfl (cn rfl) _ rfl c59 rfl (swp_b g (by omega) _ (by omega) _ (by omega)) (by decide) rfl ?_
                                  refine s_istore rfl (cn rfl) ?_
                                  refine s_aload_n rfl (cn rfl) rfl ?_
                                  refine s_getfield rfl (cn rfl) c58 rfl ?_
                                  refine s_iload rfl (cn rfl) rfl ?_
                                  refine s_iload rfl (cn rfl) rfl ?_
                                  refine s_iastore rfl (cn rfl) _ rfl c65 (by omega) (by decide) ?_
                                  refine s_iinc rfl (cn rfl) rfl ?_
                                  refine s_goto rfl (ch rfl) ?_
                                  exact ih81 (by omega) _ _ _ (by omega) rr_set_eq (fr_s (by decide) hf) (fun i q1 q2 => by
                                      by_cases e : i = g
                                      · subst e; rw [fu_s]; show _ = (if so j = 3 then (if i = al n then v i else v (al n) - v (al n ^^^ i)) else if so j = 4 then v i - alo n v i else v (swp i a.toNat b.toNat)); first
                                        | (rw [if_pos q95, if_pos (by omega)]; done)
                                        | (rw [if_pos q95, if_neg (by omega), al_x n (by omega) i (by omega) (by omega)]; done)
                                        | (rw [if_neg (by omega), if_pos q123]; done)
                                        | (rw [if_neg (by omega), if_neg (by omega)]; done)
                                      · rw [fu_n e]; exact hw i q1 (by omega))
                        · refine s_iload rfl (cn rfl) rfl ?_
                          refine s_goto rfl (cn rfl) ?_
                          refine s_istore rfl (cn rfl) ?_
                          refine s_aload_n rfl (cn rfl) rfl ?_
                          refine s_getfield rfl (cn rfl) c58 rfl ?_
                          refine s_iload_n rfl (cn rfl) rfl ?_
                          refine s_iaload rfl (cn rfl) _ rfl c62 rfl (by omega) (by decide) rfl ?_
                          refine s_iconst rfl (cn rfl) ?_
                          refine s_icmp_ne rfl (cn rfl) (cn rfl) ⟨by omega, by omega⟩ ⟨by omega, by omega⟩ (fun q123 => ?_) (fun q123 => ?_)
                          · first
                            | (exfalso; omega)
                            | skip
                              refine s_aload_n rfl (cn rfl) rfl ?_
                              refine s_getfield rfl (cn rfl) c58 rfl ?_
                              refine s_iload_n rfl (cn rfl) rfl ?_
                              refine s_iaload rfl (cn rfl) _ rfl c62 rfl (by omega) (by decide) rfl ?_
                              refine s_iconst rfl (cn rfl) ?_
                              refine s_icmp_ne rfl (cn rfl) (cn rfl) ⟨by omega, by omega⟩ ⟨by omega, by omega⟩ (fun q135 => ?_) (fun q135 => ?_)
                              · first
                                | (exfalso; omega)
                                | skip
                                  refine s_aload_n rfl (cn rfl) rfl ?_
                                  refine s_getfield rfl (cn rfl) c58 rfl ?_
                                  refine s_iload rfl (cn rfl) rfl ?_
                                  refine s_iload rfl (cn rfl) rfl ?_
                                  refine s_iastore rfl (cn rfl) _ rfl c65 (by omega) (by decide) ?_
                                  refine s_iinc rfl (cn rfl) rfl ?_
                                  refine s_goto rfl (ch rfl) ?_
                                  exact ih81 (by omega) _ _ _ (by omega) rr_set_eq (fr_s (by decide) hf) (fun i q1 q2 => by
                                      by_cases e : i = g
                                      · subst e; rw [fu_s]; show _ = (if so j = 3 then (if i = al n then v i else v (al n) - v (al n ^^^ i)) else if so j = 4 then v i - alo n v i else v (swp i a.toNat b.toNat)); first
                                        | (rw [if_pos q95, if_pos (by omega)]; done)
                                        | (rw [if_pos q95, if_neg (by omega), al_x n (by omega) i (by omega) (by omega)]; done)
                                        | (rw [if_neg (by omega), if_pos q123]; done)
                                        | (rw [if_neg (by omega), if_neg (by omega)]; done)
                                      · rw [fu_n e]; exact hw i q1 (by omega))
                              · first
                                | (exfalso; omega)
                                | skip
                                  refine s_aload_n rfl (cn rfl) rfl ?_
                                  refine s_getfield rfl (cn rfl) c58 rfl ?_
                                  refine s_iload rfl (cn rfl) rfl ?_
                                  refine s_iload_n rfl (cn rfl) rfl ?_
                                  refine s_iload_n rfl (cn rfl) rfl ?_
                                  refine s_stat rfl (cn rfl) rfl rfl rfl (m_swapped (a := a.toNat) (b := b.toNat) (by omega) (by omega) (by omega) (by omega) (by omega)) ?_
                                  rintro _ _ ⟨rfl, rfl⟩
                                  refine s_iaload rfl (cn rfl) _ rfl c59 rfl (swp_b g (by omega) _ (by omega) _ (by omega)) (by decide) rfl ?_
                                  refine s_istore rfl (cn rfl) ?_
                                  refine s_aload_n rfl (cn rfl) rfl ?_
                                  refine s_getfield rfl (cn rfl) c58 rfl ?_
                                  refine s_iload rfl (cn rfl) rfl ?_
                                  refine s_iload rfl (cn rfl) rfl ?_
                                  refine s_iastore rfl (cn rfl) _ rfl c65 (by omega) (by decide) ?_
                                  refine s_iinc rfl (cn rfl) rfl ?_
                                  refine s_goto rfl (ch rfl) ?_
                                  exact ih81 (by omega) _ _ _ (by omega) rr_set_eq (fr_s (by decide) hf) (fun i q1 q2 => by
                                      by_cases e : i = g
                                      · subst e; rw [fu_s]; show _ = (if so j = 3 then (if i = al n then v i else v (al n) - v (al n ^^^ i)) else if so j = 4 then v i - alo n v i else v (swp i a.toNat b.toNat)); first
                                        | (rw [if_pos q95, if_pos (by omega)]; done)
                                        | (rw [if_pos q95, if_neg (by omega), al_x n (by omega) i (by omega) (by omega)]; done)
                                        | (rw [if_neg (by omega), if_pos q123]; done)
                                        | (rw [if_neg (by omega), if_neg (by omega)]; done)
                                      · rw [fu_n e]; exact hw i q1 (by omega))
                          · first
                            | (exfalso; omega)
                            | skip
                              refine s_iload rfl (cn rfl) rfl ?_
                              refine s_aload_n rfl (cn rfl) rfl ?_
                              refine s_iload rfl (cn rfl) rfl ?_
                              refine s_virt rfl (cn rfl) rfl rfl c58 rfl (m_alone hn c58 c59 hv (by omega)) ?_
                              rintro _ _ ⟨rfl, rfl⟩
                              refine s_isub rfl (cn rfl) ?_
                              refine s_istore rfl (cn rfl) ?_
                              refine s_aload_n rfl (cn rfl) rfl ?_
                              refine s_getfield rfl (cn rfl) c58 rfl ?_
                              refine s_iload_n rfl (cn rfl) rfl ?_
                              refine s_iaload rfl (cn rfl) _ rfl c62 rfl (by omega) (by decide) rfl ?_
                              refine s_iconst rfl (cn rfl) ?_
                              refine s_icmp_ne rfl (cn rfl) (cn rfl) ⟨by omega, by omega⟩ ⟨by omega, by omega⟩ (fun q135 => ?_) (fun q135 => ?_)
                              · first
                                | (exfalso; omega)
                                | skip
                                  refine s_aload_n rfl (cn rfl) rfl ?_
                                  refine s_getfield rfl (cn rfl) c58 rfl ?_
                                  refine s_iload rfl (cn rfl) rfl ?_
                                  refine s_iload rfl (cn rfl) rfl ?_
                                  refine s_iastore rfl (cn rfl) _ rfl c65 (by omega) (by decide) ?_
                                  refine s_iinc rfl (cn rfl) rfl ?_
                                  refine s_goto rfl (ch rfl) ?_
                                  exact ih81 (by omega) _ _ _ (by omega) rr_set_eq (fr_s (by decide) hf) (fun i q1 q2 => by
                                      by_cases e : i = g
                                      · subst e; rw [fu_s]; show _ = (if so j = 3 then (if i = al n then v i else v (al n) - v (al n ^^^ i)) else if so j = 4 then v i - alo n v i else v (swp i a.toNat b.toNat)); first
                                        | (rw [if_pos q95, if_pos (by omega)]; done)
                                        | (rw [if_pos q95, if_neg (by omega), al_x n (by omega) i (by omega) (by omega)]; done)
                                        | (rw [if_neg (by omega), if_pos q123]; done)
                                        | (rw [if_neg (by omega), if_neg (by omega)]; done)
                                      · rw [fu_n e]; exact hw i q1 (by omega))
                              · first
                                | (exfalso; omega)
                                | skip
                                  refine s_aload_n rfl (cn rfl) rfl ?_
                                  refine s_getfield rfl (cn rfl) c58 rfl ?_
                                  refine s_iload rfl (cn rfl) rfl ?_
                                  refine s_iload_n rfl (cn rfl) rfl ?_
                                  refine s_iload_n rfl (cn rfl) rfl ?_
                                  refine s_stat rfl (cn rfl) rfl rfl rfl (m_swapped (a := a.toNat) (b := b.toNat) (by omega) (by omega) (by omega) (by omega) (by omega)) ?_
                                  rintro _ _ ⟨rfl, rfl⟩
                                  refine s_iaload rfl (cn rfl) _ rfl c59 rfl (swp_b g (by omega) _ (by omega) _ (by omega)) (by decide) rfl ?_
                                  refine s_istore rfl (cn rfl) ?_
                                  refine s_aload_n rfl (cn rfl) rfl ?_
                                  refine s_getfield rfl (cn rfl) c58 rfl ?_
                                  refine s_iload rfl (cn rfl) rfl ?_
                                  refine s_iload rfl (cn rfl) rfl ?_
                                  refine s_iastore rfl (cn rfl) _ rfl c65 (by omega) (by decide) ?_
                                  refine s_iinc rfl (cn rfl) rfl ?_
                                  refine s_goto rfl (ch rfl) ?_
                                  exact ih81 (by omega) _ _ _ (by omega) rr_set_eq (fr_s (by decide) hf) (fun i q1 q2 => by
                                      by_cases e : i = g
                                      · subst e; rw [fu_s]; show _ = (if so j = 3 then (if i = al n then v i else v (al n) - v (al n ^^^ i)) else if so j = 4 then v i - alo n v i else v (swp i a.toNat b.toNat)); first
                                        | (rw [if_pos q95, if_pos (by omega)]; done)
                                        | (rw [if_pos q95, if_neg (by omega), al_x n (by omega) i (by omega) (by omega)]; done)
                                        | (rw [if_neg (by omega), if_pos q123]; done)
                                        | (rw [if_neg (by omega), if_neg (by omega)]; done)
                                      · rw [fu_n e]; exact hw i q1 (by omega))
                exact lp81 1 (by omega) _ _ _ (by omega) c65 fr_r (fun i q1 q2 => absurd q2 (by omega))
              · refine s_iconst rfl (cn rfl) ?_
                refine s_zreturn rfl (Or.inl rfl) ?_
                refine Or.inl ⟨?_, rfl, h, rfl, fr_r, w, c65⟩
                rw [dst_3 (show so j ≠ 0 by omega) (show so j ≠ 1 by omega) (show so j ≠ 2 by omega)]
                refine ci_n (fun q => ?_)
                have q2 : (0 ≤ a ∧ a < (n : Int)) ∧ (0 ≤ b ∧ b < (n : Int)) := q.1 q68
                omega
      · refine s_aload_n rfl (cn rfl) rfl ?_
        refine s_iload_n rfl (cn rfl) rfl ?_
        refine s_virt rfl (cn rfl) rfl rfl c58 rfl (m_isGroup hn c58 (bo1 (by omega))) ?_
        rintro _ _ ⟨rfl, rfl⟩
        refine s_ifb_eq rfl (cn rfl) (cn rfl) (fun q38 => ?_) (fun q38 => ?_)
        · refine s_iconst rfl (cn rfl) ?_
          refine s_zreturn rfl (Or.inl rfl) ?_
          first
            | (rw [show a = on j by omega, show b = tw j by omega]
               rcases (show so j = 1 ∨ so j = 2 by omega) with e | e
               · rw [e]; exact Or.inl ⟨by rw [dst_1, if_neg (fun q => q38 q.1)], rfl, h, rfl, fr_r, w, c65⟩
               · rw [e]; exact Or.inl ⟨by rw [dst_2, if_neg (fun q => q38 q.1)], rfl, h, rfl, fr_r, w, c65⟩)
            | (rw [show a = on j by omega, show b = tw j by omega, show so j = 1 by omega]
               exact Or.inl ⟨by rw [dst_1, if_neg e9], rfl, h, rfl, fr_r, w, c65⟩)
            | (rw [show a = on j by omega, show b = tw j by omega, show so j = 2 by omega]
               exact Or.inl ⟨by rw [dst_2, if_neg (fun q => e9 ⟨q.1, by rw [eg] at q; exact q.2⟩)], rfl, h, rfl, fr_r, w, c65⟩)
        · refine s_aload_n rfl (cn rfl) rfl ?_
          refine s_iload_n rfl (cn rfl) rfl ?_
          refine s_aload_n rfl (cn rfl) rfl ?_
          refine s_getfield rfl (cn rfl) c58 rfl ?_
          refine s_iload_n rfl (cn rfl) rfl ?_
          refine s_iaload rfl (cn rfl) _ rfl c62 rfl (by omega) (by decide) rfl ?_
          refine s_iconst rfl (cn rfl) ?_
          refine s_icmp_ne rfl (cn rfl) (cn rfl) ⟨by omega, by omega⟩ ⟨by omega, by omega⟩ (fun q46 => ?_) (fun q46 => ?_)
          · first
            | (exfalso; omega)
            | skip
              refine s_iload_n rfl (cn rfl) rfl ?_
              refine s_virt rfl (cn rfl) rfl rfl c58 rfl (m_worth hn c58 c59 hv (bo1 (by omega)) (by first | exact bo2 (by omega) | (have := bo2 (by omega); omega))) ?_
              rintro _ _ (⟨e9, rfl, rfl⟩ | ⟨e9, rfl, h2, rfl, d58, d59, hf2⟩)
              · refine s_ldc2_w rfl (cn rfl) ?_
                refine s_lcmp rfl (cn rfl) ?_
                refine s_ifl_eq rfl (cn rfl) (cn rfl) ⟨by omega, by omega⟩ ⟨by omega, by omega⟩ (fun q58 => ?_) (fun q58 => ?_)
                · first
                  | (exfalso; omega)
                  | skip
                    refine s_iconst rfl (cn rfl) ?_
                    refine s_zreturn rfl (Or.inl rfl) ?_
                    first
                      | (rw [show a = on j by omega, show b = tw j by omega]
                         rcases (show so j = 1 ∨ so j = 2 by omega) with e | e
                         · rw [e]; exact Or.inl ⟨by rw [dst_1, if_neg (fun q => q38 q.1)], rfl, h, rfl, fr_r, w, c65⟩
                         · rw [e]; exact Or.inl ⟨by rw [dst_2, if_neg (fun q => q38 q.1)], rfl, h, rfl, fr_r, w, c65⟩)
                      | (rw [show a = on j by omega, show b = tw j by omega, show so j = 1 by omega]
                         exact Or.inl ⟨by rw [dst_1, if_neg e9], rfl, h, rfl, fr_r, w, c65⟩)
                      | (rw [show a = on j by omega, show b = tw j by omega, show so j = 2 by omega]
                         exact Or.inl ⟨by rw [dst_2, if_neg (fun q => e9 ⟨q.1, by rw [eg] at q; exact q.2⟩)], rfl, h, rfl, fr_r, w, c65⟩)
                · first
                  | (exfalso; omega)
                  | skip
                    refine s_iconst rfl (cn rfl) ?_
                    refine s_goto rfl (cn rfl) ?_
                    refine s_zreturn rfl (Or.inr rfl) ?_
                    first
                      | (rw [show a = on j by omega, show b = tw j by omega, show so j = 1 by omega]
                         exact Or.inr ⟨n, _, by rw [dst_1, if_pos e9], rfl, h2, rfl, fr_w hf2 (by decide), d58, d59, w, (hf2 65 (by decide)).trans c65⟩)
                      | (rw [show a = on j by omega, show b = tw j by omega, show so j = 2 by omega]
                         exact Or.inr ⟨n, _, by rw [dst_2, if_pos ⟨e9.1, by rw [eg]; exact e9.2⟩, show v (on j).toNat = v gg by rw [eg]; rfl], rfl, h2, rfl, fr_w hf2 (by decide), d58, d59, w, (hf2 65 (by decide)).trans c65⟩)
              · have hvr := hv (on j).toNat
                refine s_ldc2_w rfl (cn rfl) ?_
                refine s_lcmp rfl (cn rfl) ?_
                refine s_ifl_eq rfl (cn rfl) (cn rfl) ⟨by omega, by omega⟩ ⟨by omega, by omega⟩ (fun q58 => ?_) (fun q58 => ?_)
                · first
                  | (exfalso; omega)
                  | skip
                    refine s_iconst rfl (cn rfl) ?_
                    refine s_zreturn rfl (Or.inl rfl) ?_
                    first
                      | (rw [show a = on j by omega, show b = tw j by omega]
                         rcases (show so j = 1 ∨ so j = 2 by omega) with e | e
                         · rw [e]; exact Or.inl ⟨by rw [dst_1, if_neg (fun q => q38 q.1)], rfl, h, rfl, fr_r, w, c65⟩
                         · rw [e]; exact Or.inl ⟨by rw [dst_2, if_neg (fun q => q38 q.1)], rfl, h, rfl, fr_r, w, c65⟩)
                      | (rw [show a = on j by omega, show b = tw j by omega, show so j = 1 by omega]
                         exact Or.inl ⟨by rw [dst_1, if_neg e9], rfl, h, rfl, fr_r, w, c65⟩)
                      | (rw [show a = on j by omega, show b = tw j by omega, show so j = 2 by omega]
                         exact Or.inl ⟨by rw [dst_2, if_neg (fun q => e9 ⟨q.1, by rw [eg] at q; exact q.2⟩)], rfl, h, rfl, fr_r, w, c65⟩)
                · first
                  | (exfalso; omega)
                  | skip
                    refine s_iconst rfl (cn rfl) ?_
                    refine s_goto rfl (cn rfl) ?_
                    refine s_zreturn rfl (Or.inr rfl) ?_
                    first
                      | (rw [show a = on j by omega, show b = tw j by omega, show so j = 1 by omega]
                         exact Or.inr ⟨n, _, by rw [dst_1, if_pos e9], rfl, h2, rfl, fr_w hf2 (by decide), d58, d59, w, (hf2 65 (by decide)).trans c65⟩)
                      | (rw [show a = on j by omega, show b = tw j by omega, show so j = 2 by omega]
                         exact Or.inr ⟨n, _, by rw [dst_2, if_pos ⟨e9.1, by rw [eg]; exact e9.2⟩, show v (on j).toNat = v gg by rw [eg]; rfl], rfl, h2, rfl, fr_w hf2 (by decide), d58, d59, w, (hf2 65 (by decide)).trans c65⟩)
          · first
            | (exfalso; omega)
            | skip
              obtain ⟨gg, eg⟩ := Int.eq_ofNat_of_zero_le (show 0 ≤ on j by omega)
              have hvg := hv gg
              refine s_aload_n rfl (cn rfl) rfl ?_
              refine s_getfield rfl (cn rfl) c58 rfl ?_
              refine s_iload_n rfl (cn rfl) rfl ?_
              refine s_iaload rfl (cn rfl) gg eg c59 rfl (by omega) (by decide) rfl ?_
              refine s_iload_n rfl (cn rfl) rfl ?_
              refine s_iadd rfl (cn rfl) ?_
              refine s_goto rfl (cn rfl) ?_
              refine s_virt rfl (cn rfl) rfl rfl c58 rfl (m_worth hn c58 c59 hv (bo1 (by omega)) (by first | exact bo2 (by omega) | (have := bo2 (by omega); omega))) ?_
              rintro _ _ (⟨e9, rfl, rfl⟩ | ⟨e9, rfl, h2, rfl, d58, d59, hf2⟩)
              · refine s_ldc2_w rfl (cn rfl) ?_
                refine s_lcmp rfl (cn rfl) ?_
                refine s_ifl_eq rfl (cn rfl) (cn rfl) ⟨by omega, by omega⟩ ⟨by omega, by omega⟩ (fun q58 => ?_) (fun q58 => ?_)
                · first
                  | (exfalso; omega)
                  | skip
                    refine s_iconst rfl (cn rfl) ?_
                    refine s_zreturn rfl (Or.inl rfl) ?_
                    first
                      | (rw [show a = on j by omega, show b = tw j by omega]
                         rcases (show so j = 1 ∨ so j = 2 by omega) with e | e
                         · rw [e]; exact Or.inl ⟨by rw [dst_1, if_neg (fun q => q38 q.1)], rfl, h, rfl, fr_r, w, c65⟩
                         · rw [e]; exact Or.inl ⟨by rw [dst_2, if_neg (fun q => q38 q.1)], rfl, h, rfl, fr_r, w, c65⟩)
                      | (rw [show a = on j by omega, show b = tw j by omega, show so j = 1 by omega]
                         exact Or.inl ⟨by rw [dst_1, if_neg e9], rfl, h, rfl, fr_r, w, c65⟩)
                      | (rw [show a = on j by omega, show b = tw j by omega, show so j = 2 by omega]
                         exact Or.inl ⟨by rw [dst_2, if_neg (fun q => e9 ⟨q.1, by rw [eg] at q; exact q.2⟩)], rfl, h, rfl, fr_r, w, c65⟩)
                · first
                  | (exfalso; omega)
                  | skip
                    refine s_iconst rfl (cn rfl) ?_
                    refine s_goto rfl (cn rfl) ?_
                    refine s_zreturn rfl (Or.inr rfl) ?_
                    first
                      | (rw [show a = on j by omega, show b = tw j by omega, show so j = 1 by omega]
                         exact Or.inr ⟨n, _, by rw [dst_1, if_pos e9], rfl, h2, rfl, fr_w hf2 (by decide), d58, d59, w, (hf2 65 (by decide)).trans c65⟩)
                      | (rw [show a = on j by omega, show b = tw j by omega, show so j = 2 by omega]
                         exact Or.inr ⟨n, _, by rw [dst_2, if_pos ⟨e9.1, by rw [eg]; exact e9.2⟩, show v (on j).toNat = v gg by rw [eg]; rfl], rfl, h2, rfl, fr_w hf2 (by decide), d58, d59, w, (hf2 65 (by decide)).trans c65⟩)
              · have hvr := hv (on j).toNat
                refine s_ldc2_w rfl (cn rfl) ?_
                refine s_lcmp rfl (cn rfl) ?_
                refine s_ifl_eq rfl (cn rfl) (cn rfl) ⟨by omega, by omega⟩ ⟨by omega, by omega⟩ (fun q58 => ?_) (fun q58 => ?_)
                · first
                  | (exfalso; omega)
                  | skip
                    refine s_iconst rfl (cn rfl) ?_
                    refine s_zreturn rfl (Or.inl rfl) ?_
                    first
                      | (rw [show a = on j by omega, show b = tw j by omega]
                         rcases (show so j = 1 ∨ so j = 2 by omega) with e | e
                         · rw [e]; exact Or.inl ⟨by rw [dst_1, if_neg (fun q => q38 q.1)], rfl, h, rfl, fr_r, w, c65⟩
                         · rw [e]; exact Or.inl ⟨by rw [dst_2, if_neg (fun q => q38 q.1)], rfl, h, rfl, fr_r, w, c65⟩)
                      | (rw [show a = on j by omega, show b = tw j by omega, show so j = 1 by omega]
                         exact Or.inl ⟨by rw [dst_1, if_neg e9], rfl, h, rfl, fr_r, w, c65⟩)
                      | (rw [show a = on j by omega, show b = tw j by omega, show so j = 2 by omega]
                         exact Or.inl ⟨by rw [dst_2, if_neg (fun q => e9 ⟨q.1, by rw [eg] at q; exact q.2⟩)], rfl, h, rfl, fr_r, w, c65⟩)
                · first
                  | (exfalso; omega)
                  | skip
                    refine s_iconst rfl (cn rfl) ?_
                    refine s_goto rfl (cn rfl) ?_
                    refine s_zreturn rfl (Or.inr rfl) ?_
                    first
                      | (rw [show a = on j by omega, show b = tw j by omega, show so j = 1 by omega]
                         exact Or.inr ⟨n, _, by rw [dst_1, if_pos e9], rfl, h2, rfl, fr_w hf2 (by decide), d58, d59, w, (hf2 65 (by decide)).trans c65⟩)
                      | (rw [show a = on j by omega, show b = tw j by omega, show so j = 2 by omega]
                         exact Or.inr ⟨n, _, by rw [dst_2, if_pos ⟨e9.1, by rw [eg]; exact e9.2⟩, show v (on j).toNat = v gg by rw [eg]; rfl], rfl, h2, rfl, fr_w hf2 (by decide), d58, d59, w, (hf2 65 (by decide)).trans c65⟩)
  · refine s_aload_n rfl (cn rfl) rfl ?_
    refine s_iload_n rfl (cn rfl) rfl ?_
    refine s_virt rfl (cn rfl) rfl rfl c58 rfl (m_people c58 c59 (bo1 (by omega))) ?_
    rintro _ _ (⟨e9, rfl, rfl⟩ | ⟨e9, rfl, h2, rfl, d58, d59, hf2⟩)
    · refine s_if_lt rfl (cn rfl) (cn rfl) (by decide) (fun q18 => ?_) (fun q18 => absurd q18 (by decide))
      refine s_iconst rfl (cn rfl) ?_
      refine s_zreturn rfl (Or.inl rfl) ?_
      exact Or.inl ⟨by rw [show so j = 0 by omega, dst_0, if_neg (by omega)], rfl, h, rfl, fr_r, w, c65⟩
    · refine s_if_lt rfl (cn rfl) (cn rfl) ⟨by omega, by omega⟩ (fun q18 => ?_) (fun q18 => ?_)
      · first
        | (exfalso; omega)
        | skip
          refine s_iconst rfl (cn rfl) ?_
          refine s_zreturn rfl (Or.inl rfl) ?_
          exact Or.inl ⟨by rw [show so j = 0 by omega, dst_0, if_neg (by omega)], rfl, h, rfl, fr_r, w, c65⟩
      · refine s_iconst rfl (cn rfl) ?_
        refine s_goto rfl (cn rfl) ?_
        refine s_zreturn rfl (Or.inr rfl) ?_
        exact Or.inr ⟨(on j).toNat, _, by rw [show so j = 0 by omega, dst_0, if_pos (by omega), show a = on j by omega], rfl, h2, rfl, fr_w hf2 (by decide), by rw [show (((on j).toNat : Nat) : Int) = on j by omega]; exact d58, d59, w, (hf2 65 (by decide)).trans c65⟩
theorem m_deeds {d N S n : Nat} {kp pt wr fa dm ce di be od sm le sc ba bb ti rk ts tm pa wa : Int} {h : Nat → Option rr_E}  {v : Nat → Int} (hV : okV n v) {tl : Nat} {ta : Nat → Int} (htl : tl ≤ 100) (ht : ∀ p, p < tl → 1 ≤ ta p ∧ ta p ≤ 127) (c58 : h 58 = some (MO (n : Int) kp (tl : Int) pt wr fa dm ce di be od sm le sc ba bb ti rk ts tm pa wa)) (c61 : h 61 = some (.inl (0, 100, .inl (fun k => ii (ta k))))) (c59 : h 59 = some (.inl (0, 16, .inl (fun k => ii (v k))))) {so on tw w : Nat → Int} (c62 : h 62 = some (.inl (0, 26, .inl (fun k => ii (so k))))) (c63 : h 63 = some (.inl (0, 26, .inl (fun k => ii (on k))))) (c64 : h 64 = some (.inl (0, 26, .inl (fun k => ii (tw k))))) (c65 : h 65 = some (.inl (0, 16, .inl (fun k => ii (w k))))) : rr_Calls (d + 5) j_Model_deeds [.ref 58] (N, S, h) (fun r R => (∃ f : Nat, outD ta tl 101 0 = .inl f ∧ r = some (.int (ii (-100 - (f : Int)))) ∧ ∃ h', R = (N, S, h') ∧ fr [58, 62, 63, 64] h h' ∧ (∃ pt2 wr2 fa2 dm2 : Int, h' 58 = some (MO (n : Int) kp ((0 : Nat) : Int) pt2 wr2 fa2 dm2 ce di be od sm le sc ba bb ti rk ts tm pa wa)) ∧ (∃ so2 on2 tw2 : Nat → Int, h' 62 = some (.inl (0, 26, .inl (fun k => ii (so2 k)))) ∧ h' 63 = some (.inl (0, 26, .inl (fun k => ii (on2 k)))) ∧ h' 64 = some (.inl (0, 26, .inl (fun k => ii (tw2 k)))))) ∨ (∃ L, outD ta tl 101 0 = .inr L ∧ r = some (.int (ii (crun L n v).1)) ∧ ∃ h', R = (N, S, h') ∧ fr [58, 59, 62, 63, 64, 65] h h' ∧ (∃ pt2 wr2 fa2 dm2 od2 : Int, h' 58 = some (MO ((crun L n v).2.1 : Int) kp ((0 : Nat) : Int) pt2 wr2 fa2 dm2 ce di be od2 sm le sc ba bb ti rk ts tm pa wa) ∧ (od2 = 1 ∨ (od2 = od ∧ (crun L n v).2.1 = n ∧ (crun L n v).2.2 = v))) ∧ h' 59 = some (.inl (0, 16, .inl (fun k => ii ((crun L n v).2.2 k)))) ∧ (∃ so2 on2 tw2 : Nat → Int, h' 62 = some (.inl (0, 26, .inl (fun k => ii (so2 k)))) ∧ h' 63 = some (.inl (0, 26, .inl (fun k => ii (on2 k)))) ∧ h' 64 = some (.inl (0, 26, .inl (fun k => ii (tw2 k))))) ∧ (∃ w2 : Nat → Int, h' 65 = some (.inl (0, 16, .inl (fun k => ii (w2 k))))) ∧ okV (crun L n v).2.1 (crun L n v).2.2)) := by
  refine rr_meth (C := K_Model_deeds) (hd := h_Model_deeds) (mx := 3) rfl rfl (fun K hK => ?_)
  have hA := al_b hV.1
  have c61o := c61
  refine hK _ _ _ _ ?_
  refine s_aload_n rfl (cn rfl) rfl ?_
  refine s_iconst rfl (cn rfl) ?_
  refine s_puti rfl (cn rfl) rfl c58 rfl ?_
  refine s_aload_n rfl (cn rfl) rfl ?_
  refine s_iconst rfl (cn rfl) ?_
  refine s_putz rfl (cn rfl) rfl (Or.inl rfl) rr_set_eq rfl ?_
  refine s_aload_n rfl (cn rfl) rfl ?_
  refine s_iconst rfl (cn rfl) ?_
  refine s_puti rfl (cn rfl) rfl rr_set_eq rfl ?_
  refine s_aload_n rfl (cn rfl) rfl ?_
  refine s_virt rfl (ch rfl) rfl rfl rr_set_eq rfl (m_deed (h := (rr_set (rr_set (rr_set h 58 (MO (n : Int) kp (tl : Int) 0 wr fa dm ce di be od sm le sc ba bb ti rk ts tm pa wa)) 58 (MO (n : Int) kp (tl : Int) 0 0 fa dm ce di be od sm le sc ba bb ti rk ts tm pa wa)) 58 (MO (n : Int) kp (tl : Int) 0 0 fa 0 ce di be od sm le sc ba bb ti rk ts tm pa wa))) (m := 0) (p := 0) (by decide) htl (by omega) ht rr_set_eq c61 c62 c63 c64) ?_
  rintro _ _ ⟨rfl, (⟨q, D, eD, ld1, ld2, ld3, h2, rfl, hf2, c58, c62, c63, c64⟩ | ⟨f, eD, lf, pt2, dm2, so2, on2, tw2, h2, rfl, hf2, c58, c62, c63, c64⟩)⟩
  · have c61 := (hf2 61 (by decide)).trans c61
    have hF : fr [58, 62, 63, 64] h h2 := fr_t (fr_s (k := 58) (by decide) (fr_s (k := 58) (by decide) (fr_s (k := 58) (by decide) fr_r))) hf2 (by decide)
    have lp11 : ∀ u : Nat, u ≤ 25 → ∀ (h' : Nat → Option rr_E) (L : List Dd) (q : Nat) (fa : Int) (so on tw : Nat → Int) (hL : L.length = u) (h1 : 1 ≤ u) (h5 : 5 * u ≤ q + 1) (hq : q ≤ tl) (c58 : h' 58 = some (MO (n : Int) kp (tl : Int) (q : Int) 0 fa (u : Int) ce di be od sm le sc ba bb ti rk ts tm pa wa)) (c62 : h' 62 = some (.inl (0, 26, .inl (fun k => ii (so k))))) (c63 : h' 63 = some (.inl (0, 26, .inl (fun k => ii (on k))))) (c64 : h' 64 = some (.inl (0, 26, .inl (fun k => ii (tw k))))) (hf : fr [58, 62, 63, 64] h h') (ho : outD ta tl 101 0 = cont L (aft ta tl (101 - u) q)) (hh : hold L so on tw), K 11 [some (.ref 58), none, none] [] (N, S, h') := by
      refine dn (fun u hu ih11 => ?_)
      intro h' L q fa so on tw hL h1 h5 hq c58 c62 c63 c64 hf ho hh
      have c61 := (hf 61 (by decide)).trans c61o
      have hbq := hr_b ht q
      refine hK _ _ _ _ ?_
      refine s_aload_n rfl (cn rfl) rfl ?_
      refine s_getfield rfl (cn rfl) c58 rfl ?_
      refine s_if_ne rfl (cn rfl) (cn rfl) (by decide) (fun q13 => absurd q13 (by decide)) (fun q13 => ?_)
      refine s_aload_n rfl (cn rfl) rfl ?_
      refine s_virt rfl (cn rfl) rfl rfl c58 rfl (m_here htl hq ht c58 c61) ?_
      rintro _ _ ⟨rfl, rfl⟩
      refine s_bipush rfl (cn rfl) (by decide) ?_
      refine s_icmp_ne rfl (cn rfl) (cn rfl) ⟨by omega, by omega⟩ ⟨by omega, by omega⟩ (fun q17 => ?_) (fun q17 => ?_)
      · refine s_aload_n rfl (cn rfl) rfl ?_
        refine s_getfield rfl (cn rfl) c58 rfl ?_
        refine s_if_ne rfl (cn rfl) (cn rfl) (by decide) (fun q29 => absurd q29 (by decide)) (fun q29 => ?_)
        refine s_aload_n rfl (cn rfl) rfl ?_
        refine s_getfield rfl (cn rfl) c58 rfl ?_
        refine s_aload_n rfl (cn rfl) rfl ?_
        refine s_getfield rfl (cn rfl) c58 rfl ?_
        refine s_icmp_ge rfl (cn rfl) (cn rfl) ⟨by omega, by omega⟩ ⟨by omega, by omega⟩ (fun q34 => ?_) (fun q34 => ?_)
        · refine s_aload_n rfl (cn rfl) rfl ?_
          refine s_iconst rfl (cn rfl) ?_
          refine s_puti rfl (cn rfl) rfl c58 rfl ?_
          refine s_aload_n rfl (cn rfl) rfl ?_
          refine s_getfield rfl (cn rfl) rr_set_eq rfl ?_
          refine s_if_eq rfl (cn rfl) (cn rfl) (by decide) (fun q44 => ?_) (fun q44 => absurd q44 (by decide))
          refine s_iconst rfl (cn rfl) ?_
          refine s_istore_n rfl (cn rfl) ?_
          refine s_iconst rfl (cn rfl) ?_
          refine s_istore_n rfl (ch rfl) ?_
          have lp54 : ∀ j : Nat, j ≤ u → ∀ (h' : Nat → Option rr_E) (x : Int) (m : Nat) (z w : Nat → Int) (od2 : Int) (hz : okV m z) (c58 : h' 58 = some (MO (m : Int) kp ((0 : Nat) : Int) (q : Int) 0 fa (u : Int) ce di be od2 sm le sc ba bb ti rk ts tm pa wa)) (c59 : h' 59 = some (.inl (0, 16, .inl (fun k => ii (z k))))) (c65 : h' 65 = some (.inl (0, 16, .inl (fun k => ii (w k))))) (hf3 : fr [58, 59, 62, 63, 64, 65] h h') (c62 : h' 62 = some (.inl (0, 26, .inl (fun k => ii (so k))))) (c63 : h' 63 = some (.inl (0, 26, .inl (fun k => ii (on k))))) (c64 : h' 64 = some (.inl (0, 26, .inl (fun k => ii (tw k))))) (hc : crun L n v = (x + (crun (L.drop j) m z).1, (crun (L.drop j) m z).2)) (hod : od2 = 1 ∨ (od2 = od ∧ m = n ∧ z = v)), K 54 [some (.ref 58), some (.int (ii x)), some (.int (ii (j : Int)))] [] (N, S, h') := by
            refine dn (fun j hj ih54 => ?_)
            intro h' x m z w od2 hz c58 c59 c65 hf3 c62 c63 c64 hc hod
            refine hK _ _ _ _ ?_
            refine s_iload_n rfl (cn rfl) rfl ?_
            refine s_aload_n rfl (cn rfl) rfl ?_
            refine s_getfield rfl (cn rfl) c58 rfl ?_
            refine s_icmp_ge rfl (cn rfl) (cn rfl) ⟨by omega, by omega⟩ ⟨by omega, by omega⟩ (fun q57 => ?_) (fun q57 => ?_)
            · refine s_iload_n rfl (cn rfl) rfl ?_
              refine s_ireturn rfl ?_
              have ed : L.drop j = [] := List.drop_eq_nil_of_le (by omega)
              rw [ed] at hc
              have e1 : (crun L n v).1 = x := by rw [hc]; show x + 0 = x; omega
              have e2 : (crun L n v).2.1 = m := by rw [hc]; rfl
              have e3 : (crun L n v).2.2 = z := by rw [hc]; rfl
              have eo : outD ta tl 101 0 = .inr L := by
                rw [ho]
                unfold aft
                rw [if_pos (by omega)]
                show Sum.inr (L ++ []) = _
                rw [List.append_nil]
              exact Or.inr ⟨L, eo, ri e1.symm, h', rfl, hf3, ⟨_, _, _, _, od2, by rw [e2]; exact c58, by rw [e2, e3]; exact hod⟩, by rw [e3]; exact c59, ⟨_, _, _, c62, c63, c64⟩, ⟨w, c65⟩, by rw [e2, e3]; exact hz⟩
            · refine s_iload_n rfl (cn rfl) rfl ?_
              refine s_aload_n rfl (cn rfl) rfl ?_
              refine s_iload_n rfl (cn rfl) rfl ?_
              refine s_virt rfl (cn rfl) rfl rfl c58 rfl (m_isDone hz.1 c58 c59 hz.2.1 c62 c63 c64 c65 (by omega) (hh j (by omega)).2 (hh j (by omega)).1) ?_
              rintro _ _ (⟨eD, rfl, h4, rfl, hf4, w4, c65⟩ | ⟨n2, v2, eD, rfl, h4, rfl, hf4, c58, c59, w4, c65⟩)
              · have c58 := (hf4 58 (by decide)).trans c58
                have c59 := (hf4 59 (by decide)).trans c59
                have c62 := (hf4 62 (by decide)).trans c62
                have c63 := (hf4 63 (by decide)).trans c63
                have c64 := (hf4 64 (by decide)).trans c64
                refine s_if_eq rfl (cn rfl) (cn rfl) (by decide) (fun q62 => ?_) (fun q62 => absurd q62 (by decide))
                refine s_iconst rfl (cn rfl) ?_
                refine s_iadd rfl (cn rfl) ?_
                refine s_istore_n rfl (cn rfl) ?_
                refine s_iinc rfl (cn rfl) rfl ?_
                refine s_goto rfl (ch rfl) ?_
                exact ih54 (by omega) _ (x + 0) m z w4 od2 hz c58 c59 c65 (fr_t hf3 (fr_w (l := [65]) hf4 (by decide)) (by decide)) c62 c63 c64 (by rw [Int.add_zero, hc, List.drop_eq_getElem_cons (show j < L.length by omega), crun_n eD]) hod
              · have c62 := (hf4 62 (by decide)).trans c62
                have c63 := (hf4 63 (by decide)).trans c63
                have c64 := (hf4 64 (by decide)).trans c64
                refine s_if_eq rfl (cn rfl) (cn rfl) (by decide) (fun q62 => absurd q62 (by decide)) (fun q62 => ?_)
                refine s_iconst rfl (cn rfl) ?_
                refine s_goto rfl (cn rfl) ?_
                refine s_iadd rfl (cn rfl) ?_
                refine s_istore_n rfl (cn rfl) ?_
                refine s_iinc rfl (cn rfl) rfl ?_
                refine s_goto rfl (ch rfl) ?_
                exact ih54 (by omega) _ _ n2 v2 w4 1 (dst_ok hz eD) c58 c59 c65 (fr_t hf3 hf4 (by decide)) c62 c63 c64 (by rw [hc, List.drop_eq_getElem_cons (show j < L.length by omega), crun_y eD]; show (x + (_ + 1), _) = (x + 1 + _, _); congr 1; omega) (Or.inl rfl)
          exact lp54 0 (by omega) _ 0 n v w od hV rr_set_eq ((hf 59 (by decide)).trans c59) ((hf 65 (by decide)).trans c65) (fr_s (by decide) (fr_w hf (by decide))) c62 c63 c64 (by rw [List.drop_zero, Int.zero_add]) (Or.inr ⟨rfl, rfl, rfl⟩)
        · refine s_aload_n rfl (cn rfl) rfl ?_
          refine s_aload_n rfl (cn rfl) rfl ?_
          refine s_getfield rfl (cn rfl) c58 rfl ?_
          refine s_virt rfl (cn rfl) rfl rfl c58 rfl (m_wrong c58) ?_
          rintro _ _ ⟨rfl, h9, rfl, hf9, d58⟩
          refine s_aload_n rfl (cn rfl) rfl ?_
          refine s_iconst rfl (cn rfl) ?_
          refine s_puti rfl (cn rfl) rfl d58 rfl ?_
          refine s_aload_n rfl (cn rfl) rfl ?_
          refine s_getfield rfl (cn rfl) rr_set_eq rfl ?_
          refine s_if_eq rfl (cn rfl) (cn rfl) (by decide) (fun q44 => absurd q44 (by decide)) (fun q44 => ?_)
          refine s_bipush rfl (cn rfl) (by decide) ?_
          refine s_aload_n rfl (cn rfl) rfl ?_
          refine s_getfield rfl (cn rfl) rr_set_eq rfl ?_
          refine s_isub rfl (cn rfl) ?_
          refine s_ireturn rfl ?_
          first
            | (have eo : outD ta tl 101 0 = .inl f := out_f eD
               exact Or.inl ⟨f, eo, rfl, _, rfl, fr_s (by decide) (hF), ⟨_, _, _, _, rr_set_eq⟩, _, _, _, c62, c63, c64⟩)
            | (have eo : outD ta tl 101 0 = .inl f := by
                 rw [ho]
                 unfold aft
                 rw [if_neg (by omega), if_pos q17, show 101 - u = (100 - u) + 1 by omega, out_f eD]; rfl
               exact Or.inl ⟨f, eo, rfl, _, rfl, fr_s (by decide) (hF), ⟨_, _, _, _, rr_set_eq⟩, _, _, _, c62, c63, c64⟩)
            | (have eo : outD ta tl 101 0 = .inl q := by
                 rw [ho]
                 unfold aft
                 rw [if_neg (by omega), if_neg q17]; rfl
               exact Or.inl ⟨q, eo, rfl, _, rfl, fr_s (by decide) (fr_t hf hf9 (by decide)), ⟨_, _, _, _, rr_set_eq⟩, _, _, _, (hf9 62 (by decide)).trans c62, (hf9 63 (by decide)).trans c63, (hf9 64 (by decide)).trans c64⟩)
      · have hq1 : q + 1 ≤ tl := (hr_in (tp := ta) (tl := tl) (p := q) (by omega)).1
        refine s_aload_n rfl (cn rfl) rfl ?_
        refine s_dupr rfl (cn rfl) ?_
        refine s_getfield rfl (cn rfl) c58 rfl ?_
        refine s_iconst rfl (cn rfl) ?_
        refine s_iadd rfl (cn rfl) ?_
        refine s_puti rfl (cn rfl) rfl c58 rfl ?_
        refine s_aload_n rfl (cn rfl) rfl ?_
        refine s_virt rfl (cn rfl) rfl rfl rr_set_eq rfl (m_deed (h := (rr_set h' 58 (MO (n : Int) kp (tl : Int) ((q + 1 : Nat) : Int) 0 fa (u : Int) ce di be od sm le sc ba bb ti rk ts tm pa wa))) (m := u) (p := q + 1) (by omega) htl hq1 ht rr_set_eq c61 c62 c63 c64) ?_
        rintro _ _ ⟨rfl, (⟨q2, D, eD, ld1, ld2, ld3, h2, rfl, hf2, c58, c62, c63, c64⟩ | ⟨f, eD, lf, pt2, dm2, so2, on2, tw2, h2, rfl, hf2, c58, c62, c63, c64⟩)⟩
        · have hF : fr [58, 62, 63, 64] h h2 := fr_t (fr_s (k := 58) (by decide) hf) hf2 (by decide)
          refine s_goto rfl (ch rfl) ?_
          exact ih11 (by omega) _ (L ++ [D]) q2 _ _ _ _ (by rw [List.length_append]; show L.length + 1 = _; omega) (by omega) (by omega) ld2 c58 c62 c63 c64 hF (by rw [ho, ← cont_c, show 101 - (u + 1) = 100 - u by omega, ← out_g (k := 100 - u) eD, show 100 - u + 1 = 101 - u by omega]; unfold aft; rw [if_neg (by omega), if_pos q17]) (by rw [← hL]; exact hold_s hh (fun j hj => ⟨fu_n hj, fu_n hj, fu_n hj⟩) ⟨fu_s, fun _ => fu_s, fun _ => ⟨fu_s, fu_s⟩⟩ ld3)
        · have hF : fr [58, 62, 63, 64] h h2 := fr_t (fr_s (k := 58) (by decide) hf) hf2 (by decide)
          refine s_goto rfl (ch rfl) ?_
          refine hK _ _ _ _ ?_
          refine s_aload_n rfl (cn rfl) rfl ?_
          refine s_getfield rfl (cn rfl) c58 rfl ?_
          refine s_if_ne rfl (cn rfl) (cn rfl) (by decide) (fun q13 => ?_) (fun q13 => absurd q13 (by decide))
          refine s_aload_n rfl (cn rfl) rfl ?_
          refine s_getfield rfl (cn rfl) c58 rfl ?_
          refine s_if_ne rfl (cn rfl) (cn rfl) (by decide) (fun q29 => ?_) (fun q29 => absurd q29 (by decide))
          refine s_aload_n rfl (cn rfl) rfl ?_
          refine s_iconst rfl (cn rfl) ?_
          refine s_puti rfl (cn rfl) rfl c58 rfl ?_
          refine s_aload_n rfl (cn rfl) rfl ?_
          refine s_getfield rfl (cn rfl) rr_set_eq rfl ?_
          refine s_if_eq rfl (cn rfl) (cn rfl) (by decide) (fun q44 => absurd q44 (by decide)) (fun q44 => ?_)
          refine s_bipush rfl (cn rfl) (by decide) ?_
          refine s_aload_n rfl (cn rfl) rfl ?_
          refine s_getfield rfl (cn rfl) rr_set_eq rfl ?_
          refine s_isub rfl (cn rfl) ?_
          refine s_ireturn rfl ?_
          first
            | (have eo : outD ta tl 101 0 = .inl f := out_f eD
               exact Or.inl ⟨f, eo, rfl, _, rfl, fr_s (by decide) (hF), ⟨_, _, _, _, rr_set_eq⟩, _, _, _, c62, c63, c64⟩)
            | (have eo : outD ta tl 101 0 = .inl f := by
                 rw [ho]
                 unfold aft
                 rw [if_neg (by omega), if_pos q17, show 101 - u = (100 - u) + 1 by omega, out_f eD]; rfl
               exact Or.inl ⟨f, eo, rfl, _, rfl, fr_s (by decide) (hF), ⟨_, _, _, _, rr_set_eq⟩, _, _, _, c62, c63, c64⟩)
            | (have eo : outD ta tl 101 0 = .inl q := by
                 rw [ho]
                 unfold aft
                 rw [if_neg (by omega), if_neg q17]; rfl
               exact Or.inl ⟨q, eo, rfl, _, rfl, fr_s (by decide) (fr_t hf hf9 (by decide)), ⟨_, _, _, _, rr_set_eq⟩, _, _, _, (hf9 62 (by decide)).trans c62, (hf9 63 (by decide)).trans c63, (hf9 64 (by decide)).trans c64⟩)
    exact lp11 1 (by omega) _ [D] q _ _ _ _ rfl (by omega) (by omega) ld2 c58 c62 c63 c64 hF (out_g eD) (hold_s (L := []) (kn := so) (fi := on) (se := tw) hold_0 (fun j hj => ⟨fu_n hj, fu_n hj, fu_n hj⟩) ⟨fu_s, fun _ => fu_s, fun _ => ⟨fu_s, fu_s⟩⟩ ld3)
  · have c61 := (hf2 61 (by decide)).trans c61
    have hF : fr [58, 62, 63, 64] h h2 := fr_t (fr_s (k := 58) (by decide) (fr_s (k := 58) (by decide) (fr_s (k := 58) (by decide) fr_r))) hf2 (by decide)
    refine hK _ _ _ _ ?_
    refine s_aload_n rfl (cn rfl) rfl ?_
    refine s_getfield rfl (cn rfl) c58 rfl ?_
    refine s_if_ne rfl (cn rfl) (cn rfl) (by decide) (fun q13 => ?_) (fun q13 => absurd q13 (by decide))
    refine s_aload_n rfl (cn rfl) rfl ?_
    refine s_getfield rfl (cn rfl) c58 rfl ?_
    refine s_if_ne rfl (cn rfl) (cn rfl) (by decide) (fun q29 => ?_) (fun q29 => absurd q29 (by decide))
    refine s_aload_n rfl (cn rfl) rfl ?_
    refine s_iconst rfl (cn rfl) ?_
    refine s_puti rfl (cn rfl) rfl c58 rfl ?_
    refine s_aload_n rfl (cn rfl) rfl ?_
    refine s_getfield rfl (cn rfl) rr_set_eq rfl ?_
    refine s_if_eq rfl (cn rfl) (cn rfl) (by decide) (fun q44 => absurd q44 (by decide)) (fun q44 => ?_)
    refine s_bipush rfl (cn rfl) (by decide) ?_
    refine s_aload_n rfl (cn rfl) rfl ?_
    refine s_getfield rfl (cn rfl) rr_set_eq rfl ?_
    refine s_isub rfl (cn rfl) ?_
    refine s_ireturn rfl ?_
    first
      | (have eo : outD ta tl 101 0 = .inl f := out_f eD
         exact Or.inl ⟨f, eo, rfl, _, rfl, fr_s (by decide) (hF), ⟨_, _, _, _, rr_set_eq⟩, _, _, _, c62, c63, c64⟩)
      | (have eo : outD ta tl 101 0 = .inl f := by
           rw [ho]
           unfold aft
           rw [if_neg (by omega), if_pos q17, show 101 - u = (100 - u) + 1 by omega, out_f eD]; rfl
         exact Or.inl ⟨f, eo, rfl, _, rfl, fr_s (by decide) (hF), ⟨_, _, _, _, rr_set_eq⟩, _, _, _, c62, c63, c64⟩)
      | (have eo : outD ta tl 101 0 = .inl q := by
           rw [ho]
           unfold aft
           rw [if_neg (by omega), if_neg q17]; rfl
         exact Or.inl ⟨q, eo, rfl, _, rfl, fr_s (by decide) (fr_t hf hf9 (by decide)), ⟨_, _, _, _, rr_set_eq⟩, _, _, _, (hf9 62 (by decide)).trans c62, (hf9 63 (by decide)).trans c63, (hf9 64 (by decide)).trans c64⟩)
