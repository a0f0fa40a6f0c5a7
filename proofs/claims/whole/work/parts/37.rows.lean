/-! Lists and weights. -/
theorem gs_bd {m : Nat} {f : Nat → Int} {c : Int} (hc : 0 ≤ c) (h : ∀ g, 1 ≤ g → g < m → -c ≤ f g ∧ f g ≤ c) : -((m : Int) * c) ≤ gs m f ∧ gs m f ≤ (m : Int) * c := by
  induction m with
  | zero => exact ⟨by show -((0 : Int) * c) ≤ 0; omega, by show (0 : Int) ≤ 0 * c; omega⟩
  | succ m ih =>
    have i1 := ih (fun g h1 h2 => h g h1 (by omega))
    have e : (((m + 1 : Nat) : Int)) * c = (m : Int) * c + c := by rw [Int.natCast_add, Int.add_mul]; omega
    rw [e]
    by_cases h0 : 1 ≤ m
    · rw [gs_s h0]
      have := h m h0 (by omega)
      omega
    · have : m = 0 := by omega
      subst this
      have e1 : gs (0 + 1) f = 0 := rfl
      have e2 : gs 0 f = 0 := rfl
      rw [e1]; rw [e2] at i1; omega
/-- the answer of a list that has no such places -/
def cpl (sz : Nat → Int) (a i m : Int) : Int := if 0 ≤ a ∧ a ≤ 3 then (if sz a.toNat = -1 then -11 else if i < 0 ∨ sz a.toNat - m < i then -13 else 0) else -1
theorem cpl_b (sz : Nat → Int) (a i m : Int) : cpl sz a i m = -1 ∨ cpl sz a i m = -11 ∨ cpl sz a i m = -13 ∨ cpl sz a i m = 0 := by
  unfold cpl
  split
  · split
    · omega
    · split <;> omega
  · omega
theorem cpl_0 {sz : Nat → Int} {a i m : Int} (h : cpl sz a i m = 0) : (0 ≤ a ∧ a ≤ 3) ∧ sz a.toNat ≠ -1 ∧ 0 ≤ i ∧ i ≤ sz a.toNat - m := by
  unfold cpl at h
  split at h
  · split at h
    · omega
    · split at h <;> omega
  · omega
abbrev AA : rr_E := .inl (3, 4, .inr (.inr (.inr (.inr (fun i => if i < 4 then some (52 + 1 + i) else none)))))
/-- weights of parts, as they stand in a list -/
def wt (it : Nat → Nat → Int) (a i : Int) : Nat → Int := fun g => it a.toNat (i.toNat + g - 1)
def swt (n : Nat) (W : Nat → Int) (p : Nat) : Int := gs (al n) (fun g => st_bt g p * W g)
noncomputable def ftl (n : Nat) (W : Nat → Int) : Int := if gs (al n) W = 0 then 9 else ff 1 n (fun p => swt n W p ≠ swt n W 0) (-5)
theorem ftl_b (n : Nat) (hn : 2 ≤ n ∧ n ≤ 4) (W : Nat → Int) : -5 ≤ ftl n W ∧ ftl n W ≤ 9 := by
  unfold ftl
  split
  · omega
  · rcases ff_b 1 n (fun p => swt n W p ≠ swt n W 0) (-5) with h | h <;> omega
def ptp (n : Nat) (v W : Nat → Int) : Int := gs (al n) (fun g => W g * v g) - swt n W 0 * v (al n)
/-- the answer of weights that are not to be had -/
noncomputable def rws (n : Nat) (sz : Nat → Int) (it : Nat → Nat → Int) (a i : Int) : Int := if cpl sz a i ((al n : Int) - 1) ≠ 0 then cpl sz a i ((al n : Int) - 1) else @ite _ (∃ g, 1 ≤ g ∧ g < al n ∧ ¬ (0 ≤ wt it a i g ∧ wt it a i g ≤ 1000)) (Classical.propDecidable _) (-2) 0
theorem rws_n {n : Nat} {sz : Nat → Int} {it : Nat → Nat → Int} {a i : Int} (h : cpl sz a i ((al n : Int) - 1) ≠ 0) : rws n sz it a i = cpl sz a i ((al n : Int) - 1) := if_pos h
theorem rws_b {n : Nat} {sz : Nat → Int} {it : Nat → Nat → Int} {a i : Int} (h : cpl sz a i ((al n : Int) - 1) = 0) {g : Nat} (h1 : 1 ≤ g) (h2 : g < al n) (h3 : ¬ (0 ≤ wt it a i g ∧ wt it a i g ≤ 1000)) : rws n sz it a i = -2 := by
  unfold rws
  rw [if_neg (fun q => q h), if_pos ⟨g, h1, h2, h3⟩]
theorem rws_0 {n : Nat} {sz : Nat → Int} {it : Nat → Nat → Int} {a i : Int} (h : cpl sz a i ((al n : Int) - 1) = 0) (h1 : ∀ g, 1 ≤ g → g < al n → 0 ≤ wt it a i g ∧ wt it a i g ≤ 1000) : rws n sz it a i = 0 := by
  unfold rws
  rw [if_neg (fun q => q h), if_neg (fun ⟨g, q1, q2, q3⟩ => q3 (h1 g q1 q2))]
theorem rws_z {n : Nat} {sz : Nat → Int} {it : Nat → Nat → Int} {a i : Int} (h : rws n sz it a i = 0) : cpl sz a i ((al n : Int) - 1) = 0 ∧ ∀ g, 1 ≤ g → g < al n → 0 ≤ wt it a i g ∧ wt it a i g ≤ 1000 := by
  by_cases h1 : cpl sz a i ((al n : Int) - 1) = 0
  · refine ⟨h1, fun g q1 q2 => ?_⟩
    by_cases h2 : 0 ≤ wt it a i g ∧ wt it a i g ≤ 1000
    · exact h2
    · rw [rws_b h1 q1 q2 h2] at h; omega
  · rw [rws_n h1] at h; exact absurd h h1
theorem rws_r (n : Nat) (sz : Nat → Int) (it : Nat → Nat → Int) (a i : Int) : -13 ≤ rws n sz it a i ∧ rws n sz it a i ≤ 0 := by
  have := cpl_b sz a i ((al n : Int) - 1)
  unfold rws
  split
  · omega
  · split <;> omega
theorem u_compl {d N S : Nat} {h : Nat → Option rr_E} {sz : Nat → Int} (hsz : ∀ l, l < 4 → -1 ≤ sz l ∧ sz l ≤ 30) (c51 : h 51 = some (.inr (1, [.ref 52, .ref 57]))) (c57 : h 57 = some (.inl (0, 4, .inl (fun k => ii (sz k))))) {a i : Int} (ha : b3 a) (hi : b3 i) {m : Int} (hm : 0 ≤ m ∧ m ≤ 100) : rr_Calls (d + 2) j_Rows_complaint [.ref 51, .int (ii a), .int (ii i), .int (ii m)] (N, S, h) (fun r R => r = some (.int (ii (cpl sz a i m))) ∧ R = (N, S, h)) := by
  refine rr_meth (C := K_Rows_complaint) (hd := h_Rows_complaint) (mx := 4) rfl rfl (fun K hK => ?_)
  refine hK _ _ _ _ ?_
  refine s_iload_n rfl (cn rfl) rfl ?_
  refine s_stat rfl (cn rfl) rfl rfl rfl (u_hasList (by omega)) ?_
  rintro _ _ ⟨rfl, rfl⟩
  refine s_ifb_ne rfl (cn rfl) (cn rfl) (fun q2 => ?_) (fun q2 => ?_)
  · obtain ⟨l, rfl⟩ := Int.eq_ofNat_of_zero_le (show 0 ≤ a by omega)
    have hl : l < 4 := by omega
    have hs := hsz l hl
    refine s_aload_n rfl (cn rfl) rfl ?_
    refine s_getfield rfl (cn rfl) c51 rfl ?_
    refine s_iload_n rfl (cn rfl) rfl ?_
    refine s_iaload rfl (cn rfl) _ rfl c57 rfl (by omega) (by decide) rfl ?_
    refine s_iconst rfl (cn rfl) ?_
    refine s_icmp_ne rfl (cn rfl) (cn rfl) ⟨by omega, by omega⟩ ⟨by omega, by omega⟩ (fun q10 => ?_) (fun q10 => ?_)
    · refine s_iload_n rfl (cn rfl) rfl ?_
      refine s_if_lt rfl (cn rfl) (cn rfl) ⟨by omega, by omega⟩ (fun q14 => ?_) (fun q14 => ?_)
      · refine s_bipush rfl (cn rfl) (by decide) ?_
        refine s_goto rfl (cn rfl) ?_
        refine s_ireturn rfl ?_
        refine ⟨ri ?_, rfl⟩
        unfold cpl
        rw [if_pos q2]
        show _ = if sz l = -1 then _ else if i < 0 ∨ sz l - m < i then _ else _
        first
          | (rw [if_pos q10]; done)
          | (rw [if_neg q10, if_pos (by omega)]; done)
          | (rw [if_neg q10, if_neg (by omega)])
      · refine s_iload_n rfl (cn rfl) rfl ?_
        refine s_aload_n rfl (cn rfl) rfl ?_
        refine s_getfield rfl (cn rfl) c51 rfl ?_
        refine s_iload_n rfl (cn rfl) rfl ?_
        refine s_iaload rfl (cn rfl) _ rfl c57 rfl (by omega) (by decide) rfl ?_
        refine s_iload_n rfl (cn rfl) rfl ?_
        refine s_isub rfl (cn rfl) ?_
        refine s_icmp_le rfl (cn rfl) (cn rfl) ⟨by omega, by omega⟩ ⟨by omega, by omega⟩ (fun q22 => ?_) (fun q22 => ?_)
        · refine s_iconst rfl (cn rfl) ?_
          refine s_ireturn rfl ?_
          refine ⟨ri ?_, rfl⟩
          unfold cpl
          rw [if_pos q2]
          show _ = if sz l = -1 then _ else if i < 0 ∨ sz l - m < i then _ else _
          first
            | (rw [if_pos q10]; done)
            | (rw [if_neg q10, if_pos (by omega)]; done)
            | (rw [if_neg q10, if_neg (by omega)])
        · refine s_bipush rfl (cn rfl) (by decide) ?_
          refine s_goto rfl (cn rfl) ?_
          refine s_ireturn rfl ?_
          refine ⟨ri ?_, rfl⟩
          unfold cpl
          rw [if_pos q2]
          show _ = if sz l = -1 then _ else if i < 0 ∨ sz l - m < i then _ else _
          first
            | (rw [if_pos q10]; done)
            | (rw [if_neg q10, if_pos (by omega)]; done)
            | (rw [if_neg q10, if_neg (by omega)])
    · refine s_bipush rfl (cn rfl) (by decide) ?_
      refine s_ireturn rfl ?_
      refine ⟨ri ?_, rfl⟩
      unfold cpl
      rw [if_pos q2]
      show _ = if sz l = -1 then _ else if i < 0 ∨ sz l - m < i then _ else _
      first
        | (rw [if_pos q10]; done)
        | (rw [if_neg q10, if_pos (by omega)]; done)
        | (rw [if_neg q10, if_neg (by omega)])
  · refine s_iconst rfl (cn rfl) ?_
    refine s_ireturn rfl ?_
    exact ⟨ri (by unfold cpl; rw [if_neg q2]), rfl⟩
def fz (sz : Nat → Int) (l : Nat) (x : Int) : Nat → Int := fu sz l x
def fi (it : Nat → Nat → Int) (l : Nat) (f : Nat → Int) : Nat → Nat → Int := fun k => if k = l then f else it k
theorem nm_1 {k l : Nat} (hk : k < 53 ∨ 57 ≤ k) (hl : l < 4) : k ∉ [53 + l] := by
  intro q
  have := List.mem_singleton.mp q
  omega
theorem u_make {d N S : Nat} {h : Nat → Option rr_E} {sz : Nat → Int} {it : Nat → Nat → Int} (hsz : ∀ l, l < 4 → -1 ≤ sz l ∧ sz l ≤ 30) (hit : ∀ l i, b6 (it l i)) (c51 : h 51 = some (.inr (1, [.ref 52, .ref 57]))) (c52 : h 52 = some AA) (c53 : ∀ l, l < 4 → h (53 + l) = some (.inl (1, 30, .inr (.inl (fun k => jj (it l k)))))) (c57 : h 57 = some (.inl (0, 4, .inl (fun k => ii (sz k))))) {l : Nat} (hl : l < 4) {m : Int} : rr_Calls (d + 1) j_Rows_make [.ref 51, .int (ii (l : Int)), .int (ii m)] (N, S, h) (fun r R => r = none ∧ ∃ h', R = (N, S, h') ∧ h' 57 = some (.inl (0, 4, .inl (fun k => ii (fu sz l m k)))) ∧ h' (53 + l) = some (.inl (1, 30, .inr (.inl (fun k => jj (zr (it l) 30 k))))) ∧ fr [57, 53 + l] h h') := by
  refine rr_meth (C := K_Rows_make) (hd := h_Rows_make) (mx := 4) rfl rfl (fun K hK => ?_)
  refine hK _ _ _ _ ?_
  refine s_aload_n rfl (cn rfl) rfl ?_
  refine s_getfield rfl (cn rfl) c51 rfl ?_
  refine s_iload_n rfl (cn rfl) rfl ?_
  refine s_iload_n rfl (cn rfl) rfl ?_
  refine s_iastore rfl (cn rfl) _ rfl c57 (by omega) (by decide) ?_
  refine s_iconst rfl (cn rfl) ?_
  refine s_istore_n rfl (ch rfl) ?_
  have lp7 : ∀ g : Nat, g ≤ 30 → ∀ (h' : Nat → Option rr_E) (c57 : h' 57 = some (.inl (0, 4, .inl (fun k => ii (fu sz l m k))))) (cl : h' (53 + l) = some (.inl (1, 30, .inr (.inl (fun k => jj (zr (it l) g k)))))) (hf : fr [57, 53 + l] h h'), K 7 [some (.ref 51), some (.int (ii (l : Int))), some (.int (ii m)), some (.int (ii (g : Int)))] [] (N, S, h') := by
    refine dn (fun g hg ih7 => ?_)
    intro h' c57 cl hf
    refine hK _ _ _ _ ?_
    refine s_iload_n rfl (cn rfl) rfl ?_
    refine s_bipush rfl (cn rfl) (by decide) ?_
    refine s_icmp_ge rfl (cn rfl) (cn rfl) ⟨by omega, by omega⟩ ⟨by omega, by omega⟩ (fun q9 => ?_) (fun q9 => ?_)
    · refine s_return rfl ?_
      exact ⟨rfl, h', rfl, c57, ar_l cl (by rw [show g = 30 by omega]), hf⟩
    · refine s_aload_n rfl (cn rfl) rfl ?_
      refine s_getfield rfl (cn rfl) ((hf 51 (by simp; omega)).trans c51) rfl ?_
      refine s_iload_n rfl (cn rfl) rfl ?_
      refine s_aaload rfl (cn rfl) _ rfl ((hf 52 (by simp; omega)).trans c52) (by omega) (by decide) ((if_pos hl).trans rfl) ?_
      refine s_iload_n rfl (cn rfl) rfl ?_
      refine s_lconst rfl (cn rfl) 0 (by decide) ?_
      refine s_lastore rfl (cn rfl) _ rfl cl (by omega) (by decide) ?_
      refine s_iinc rfl (cn rfl) rfl ?_
      refine s_goto rfl (ch rfl) ?_
      exact ih7 (by omega) _ ((rr_set_ne (by omega)).trans c57) (ar_l rr_set_eq zr_s) (fr_s (by simp) hf)
  exact lp7 0 (by omega) _ rr_set_eq (ar_l ((rr_set_ne (by omega)).trans (c53 l hl)) zr_0.symm) (fr_s (by simp) fr_r)
theorem d_list {d N S : Nat} {h : Nat → Option rr_E} {sz : Nat → Int} {it : Nat → Nat → Int} (hsz : ∀ l, l < 4 → -1 ≤ sz l ∧ sz l ≤ 30) (hit : ∀ l i, b6 (it l i)) (c51 : h 51 = some (.inr (1, [.ref 52, .ref 57]))) (c52 : h 52 = some AA) (c53 : ∀ l, l < 4 → h (53 + l) = some (.inl (1, 30, .inr (.inl (fun k => jj (it l k)))))) (c57 : h 57 = some (.inl (0, 4, .inl (fun k => ii (sz k))))) {sl im : Int} (c0 : h 0 = some (DO sl im)) {a i : Int} (ha : b3 a) (hi : b3 i) : rr_Calls (d + 2) j_Desk_list [.ref 0, .int (ii a), .int (ii i)] (N, S, h) (fun r R => (¬ (0 ≤ a ∧ a ≤ 3) ∧ r = some (.int (ii (-1))) ∧ R = (N, S, h)) ∨ ((0 ≤ a ∧ a ≤ 3) ∧ 30 < i ∧ r = some (.int (ii (-2))) ∧ R = (N, S, h)) ∨ ((0 ≤ a ∧ a ≤ 3) ∧ i < 0 ∧ r = some (.int (ii (-14))) ∧ R = (N, S, h)) ∨ ((0 ≤ a ∧ a ≤ 3) ∧ 0 ≤ i ∧ i ≤ 30 ∧ r = some (.int (ii 1)) ∧ ∃ h', R = (N, S, h') ∧ h' 57 = some (.inl (0, 4, .inl (fun k => ii (fu sz a.toNat i k)))) ∧ h' (53 + a.toNat) = some (.inl (1, 30, .inr (.inl (fun k => jj (zr (it a.toNat) 30 k))))) ∧ fr [57, 53 + a.toNat] h h')) := by
  refine rr_meth (C := K_Desk_list) (hd := h_Desk_list) (mx := 3) rfl rfl (fun K hK => ?_)
  refine hK _ _ _ _ ?_
  refine s_iload_n rfl (cn rfl) rfl ?_
  refine s_stat rfl (cn rfl) rfl rfl rfl (u_hasList (by omega)) ?_
  rintro _ _ ⟨rfl, rfl⟩
  refine s_ifb_ne rfl (cn rfl) (cn rfl) (fun q2 => ?_) (fun q2 => ?_)
  · refine s_iload_n rfl (cn rfl) rfl ?_
    refine s_bipush rfl (cn rfl) (by decide) ?_
    refine s_icmp_le rfl (cn rfl) (cn rfl) ⟨by omega, by omega⟩ ⟨by omega, by omega⟩ (fun q7 => ?_) (fun q7 => ?_)
    · refine s_iload_n rfl (cn rfl) rfl ?_
      refine s_if_ge rfl (cn rfl) (cn rfl) ⟨by omega, by omega⟩ (fun q11 => ?_) (fun q11 => ?_)
      · obtain ⟨l, rfl⟩ := Int.eq_ofNat_of_zero_le (show 0 ≤ a by omega)
        have hl : l < 4 := by omega
        have hs := hsz l hl
        refine s_aload_n rfl (cn rfl) rfl ?_
        refine s_getfield rfl (cn rfl) c0 rfl ?_
        refine s_iload_n rfl (cn rfl) rfl ?_
        refine s_iload_n rfl (cn rfl) rfl ?_
        refine s_virt rfl (cn rfl) rfl rfl c51 rfl (u_make hsz hit c51 c52 c53 c57 hl) ?_
        rintro _ _ ⟨rfl, h', rfl, d57, dl, hf⟩
        refine s_iconst rfl (cn rfl) ?_
        refine s_ireturn rfl ?_
        exact Or.inr (Or.inr (Or.inr ⟨q2, by omega, by omega, rfl, h', rfl, d57, dl, hf⟩))
      · refine s_bipush rfl (cn rfl) (by decide) ?_
        refine s_ireturn rfl ?_
        exact Or.inr (Or.inr (Or.inl ⟨q2, by omega, rfl, rfl⟩))
    · refine s_bipush rfl (cn rfl) (by decide) ?_
      refine s_ireturn rfl ?_
      exact Or.inr (Or.inl ⟨q2, by omega, rfl, rfl⟩)
  · refine s_iconst rfl (cn rfl) ?_
    refine s_ireturn rfl ?_
    exact Or.inl ⟨q2, rfl, rfl⟩
def zl (w : Nat → Int) (l g : Nat) : Nat → Int := fun k => if 30 * l ≤ k ∧ k < 30 * l + g then 0 else w k
theorem zl_0 {w : Nat → Int} {l : Nat} : zl w l 0 = w := by
  funext k
  exact if_neg (by omega)
theorem zl_s {w : Nat → Int} {l g : Nat} : fu (zl w l g) (30 * l + g) 0 = zl w l (g + 1) := by
  funext k
  show (if k = 30 * l + g then 0 else if 30 * l ≤ k ∧ k < 30 * l + g then 0 else w k) = if 30 * l ≤ k ∧ k < 30 * l + (g + 1) then 0 else w k
  by_cases h : k = 30 * l + g
  · rw [if_pos h, if_pos (by omega)]
  · rw [if_neg h]
    by_cases h2 : 30 * l ≤ k ∧ k < 30 * l + g
    · rw [if_pos h2, if_pos (by omega)]
    · rw [if_neg h2, if_neg (by omega)]
theorem m_list {d N S n : Nat} {kp tp pt wr fa dm ce di be od sm le sc ba bb ti rk ts tm pa wa : Int} {h : Nat → Option rr_E} (c58 : h 58 = some (MO (n : Int) kp tp pt wr fa dm ce di be od sm le sc ba bb ti rk ts tm pa wa)) {sz th ms w : Nat → Int} {it : Nat → Nat → Int} (hth : ∀ l, l < 4 → (th l = 0 ∧ sz l = -1) ∨ (th l = 1 ∧ sz l = ms l ∧ 0 ≤ sz l ∧ sz l ≤ 30)) (hit : ∀ l i, l < 4 → i < 30 → w (30 * l + i) = it l i) (c77 : h 77 = some (.inl (2, 4, .inl (fun k => ii (th k))))) (c78 : h 78 = some (.inl (0, 4, .inl (fun k => ii (ms k))))) (c79 : h 79 = some (.inl (1, 120, .inr (.inl (fun k => jj (w k)))))) {a i : Int} (ha : b3 a) (hi : b3 i) : rr_Calls (d + 3) j_Model_list [.ref 58, .int (ii a), .int (ii i)] (N, S, h) (fun r R => (¬ (0 ≤ a ∧ a ≤ 3) ∧ r = some (.int (ii (-1))) ∧ R = (N, S, h)) ∨ ((0 ≤ a ∧ a ≤ 3) ∧ 30 < i ∧ r = some (.int (ii (-2))) ∧ R = (N, S, h)) ∨ ((0 ≤ a ∧ a ≤ 3) ∧ i < 0 ∧ r = some (.int (ii (-14))) ∧ R = (N, S, h)) ∨ ((0 ≤ a ∧ a ≤ 3) ∧ 0 ≤ i ∧ i ≤ 30 ∧ r = some (.int (ii 1)) ∧ ∃ h', R = (N, S, h') ∧ h' 77 = some (.inl (2, 4, .inl (fun k => ii (fu th a.toNat 1 k)))) ∧ h' 78 = some (.inl (0, 4, .inl (fun k => ii (fu ms a.toNat i k)))) ∧ h' 79 = some (.inl (1, 120, .inr (.inl (fun k => jj (zl w a.toNat 30 k))))) ∧ fr [77, 78, 79] h h')) := by
  refine rr_meth (C := K_Model_list) (hd := h_Model_list) (mx := 4) rfl rfl (fun K hK => ?_)
  refine hK _ _ _ _ ?_
  refine s_iload_n rfl (cn rfl) rfl ?_
  refine s_stat rfl (cn rfl) rfl rfl rfl (m_isList (by omega)) ?_
  rintro _ _ ⟨rfl, rfl⟩
  refine s_ifb_ne rfl (cn rfl) (cn rfl) (fun q2 => ?_) (fun q2 => ?_)
  · refine s_iload_n rfl (cn rfl) rfl ?_
    refine s_bipush rfl (cn rfl) (by decide) ?_
    refine s_icmp_le rfl (cn rfl) (cn rfl) ⟨by omega, by omega⟩ ⟨by omega, by omega⟩ (fun q7 => ?_) (fun q7 => ?_)
    · refine s_iload_n rfl (cn rfl) rfl ?_
      refine s_if_ge rfl (cn rfl) (cn rfl) ⟨by omega, by omega⟩ (fun q11 => ?_) (fun q11 => ?_)
      · obtain ⟨l, rfl⟩ := Int.eq_ofNat_of_zero_le (show 0 ≤ a by omega)
        have hl : l < 4 := by omega
        have hs := hth l hl
        refine s_aload_n rfl (cn rfl) rfl ?_
        refine s_getfield rfl (cn rfl) c58 rfl ?_
        refine s_iload_n rfl (cn rfl) rfl ?_
        refine s_iconst rfl (cn rfl) ?_
        refine s_bastore rfl (cn rfl) _ rfl (Or.inr rfl) c77 (by omega) (by decide) ?_
        refine s_aload_n rfl (cn rfl) rfl ?_
        refine s_getfield rfl (cn rfl) c58 rfl ?_
        refine s_iload_n rfl (cn rfl) rfl ?_
        refine s_iload_n rfl (cn rfl) rfl ?_
        refine s_iastore rfl (cn rfl) _ rfl c78 (by omega) (by decide) ?_
        refine s_iconst rfl (cn rfl) ?_
        refine s_istore_n rfl (ch rfl) ?_
        have lp26 : ∀ g : Nat, g ≤ 30 → ∀ (h' : Nat → Option rr_E) (c77 : h' 77 = some (.inl (2, 4, .inl (fun k => ii (fu th l 1 k))))) (c78 : h' 78 = some (.inl (0, 4, .inl (fun k => ii (fu ms l i k))))) (c79 : h' 79 = some (.inl (1, 120, .inr (.inl (fun k => jj (zl w l g k)))))) (hf : fr [77, 78, 79] h h'), K 26 [some (.ref 58), some (.int (ii (l : Int))), some (.int (ii i)), some (.int (ii (g : Int)))] [] (N, S, h') := by
          refine dn (fun g hg ih26 => ?_)
          intro h' c77 c78 c79 hf
          refine hK _ _ _ _ ?_
          refine s_iload_n rfl (cn rfl) rfl ?_
          refine s_bipush rfl (cn rfl) (by decide) ?_
          refine s_icmp_ge rfl (cn rfl) (cn rfl) ⟨by omega, by omega⟩ ⟨by omega, by omega⟩ (fun q28 => ?_) (fun q28 => ?_)
          · refine s_iconst rfl (cn rfl) ?_
            refine s_ireturn rfl ?_
            exact Or.inr (Or.inr (Or.inr ⟨q2, by omega, by omega, rfl, h', rfl, c77, c78, ar_l c79 (by rw [show g = 30 by omega]; rfl), hf⟩))
          · refine s_aload_n rfl (cn rfl) rfl ?_
            refine s_getfield rfl (cn rfl) ((hf 58 (by decide)).trans c58) rfl ?_
            refine s_bipush rfl (cn rfl) (by decide) ?_
            refine s_iload_n rfl (cn rfl) rfl ?_
            refine s_imul rfl (cn rfl) ?_
            refine s_iload_n rfl (cn rfl) rfl ?_
            refine s_iadd rfl (cn rfl) ?_
            refine s_lconst rfl (cn rfl) 0 (by decide) ?_
            refine s_lastore rfl (cn rfl) (30 * l + g) (by omega) c79 (by omega) (by decide) ?_
            refine s_iinc rfl (cn rfl) rfl ?_
            refine s_goto rfl (ch rfl) ?_
            exact ih26 (by omega) _ c77 c78 (ar_l rr_set_eq zl_s) (fr_s (by decide) hf)
        exact lp26 0 (by omega) _ (by show some (Sum.inl (2, 4, Sum.inl (upd (fun k => ii (th k)) l (ii 1)))) = _; rw [fu_u]) rr_set_eq (ar_l c79 zl_0.symm) (fr_s (by decide) (fr_s (by decide) fr_r))
      · refine s_bipush rfl (cn rfl) (by decide) ?_
        refine s_ireturn rfl ?_
        exact Or.inr (Or.inr (Or.inl ⟨q2, by omega, rfl, rfl⟩))
    · refine s_bipush rfl (cn rfl) (by decide) ?_
      refine s_ireturn rfl ?_
      exact Or.inr (Or.inl ⟨q2, by omega, rfl, rfl⟩)
  · refine s_iconst rfl (cn rfl) ?_
    refine s_ireturn rfl ?_
    exact Or.inl ⟨q2, rfl, rfl⟩
theorem d_set {d N S : Nat} {h : Nat → Option rr_E} {sz : Nat → Int} {it : Nat → Nat → Int} (hsz : ∀ l, l < 4 → -1 ≤ sz l ∧ sz l ≤ 30) (hit : ∀ l i, b6 (it l i)) (c51 : h 51 = some (.inr (1, [.ref 52, .ref 57]))) (c52 : h 52 = some AA) (c53 : ∀ l, l < 4 → h (53 + l) = some (.inl (1, 30, .inr (.inl (fun k => jj (it l k)))))) (c57 : h 57 = some (.inl (0, 4, .inl (fun k => ii (sz k))))) {sl im : Int} (c0 : h 0 = some (DO sl im)) {a i : Int} (ha : b3 a) (hi : b3 i) {x : Int} (hx : b6 x) : rr_Calls (d + 3) j_Desk_set [.ref 0, .int (ii a), .int (ii i), .long (jj x)] (N, S, h) (fun r R => r = some (.int (ii (if cpl sz a i 1 = 0 then 1 else cpl sz a i 1))) ∧ ((cpl sz a i 1 ≠ 0 ∧ R = (N, S, h)) ∨ (cpl sz a i 1 = 0 ∧ ∃ h', R = (N, S, h') ∧ h' (53 + a.toNat) = some (.inl (1, 30, .inr (.inl (fun k => jj (fu (it a.toNat) i.toNat x k))))) ∧ fr [53 + a.toNat] h h'))) := by
  refine rr_meth (C := K_Desk_set) (hd := h_Desk_set) (mx := 6) rfl rfl (fun K hK => ?_)
  have hc := cpl_b sz a i 1
  refine hK _ _ _ _ ?_
  refine s_aload_n rfl (cn rfl) rfl ?_
  refine s_getfield rfl (cn rfl) c0 rfl ?_
  refine s_iload_n rfl (cn rfl) rfl ?_
  refine s_iload_n rfl (cn rfl) rfl ?_
  refine s_iconst rfl (cn rfl) ?_
  refine s_virt rfl (cn rfl) rfl rfl c51 rfl (u_compl hsz c51 c57 (by omega) (by omega) (by omega)) ?_
  rintro _ _ ⟨rfl, rfl⟩
  refine s_istore rfl (cn rfl) ?_
  refine s_iload rfl (cn rfl) rfl ?_
  refine s_if_eq rfl (cn rfl) (cn rfl) ⟨by omega, by omega⟩ (fun q8 => ?_) (fun q8 => ?_)
  · obtain ⟨z1, z2, z3, z4⟩ := cpl_0 q8
    obtain ⟨l, rfl⟩ := Int.eq_ofNat_of_zero_le (show 0 ≤ a by omega)
    have hl : l < 4 := by omega
    have hs := hsz l hl
    obtain ⟨j, rfl⟩ := Int.eq_ofNat_of_zero_le z3
    have hsl : sz l ≤ 30 := (hsz l hl).2
    have z5 : (j : Int) ≤ sz l - 1 := z4
    refine s_aload_n rfl (cn rfl) rfl ?_
    refine s_getfield rfl (cn rfl) c0 rfl ?_
    refine s_getfield rfl (cn rfl) c51 rfl ?_
    refine s_iload_n rfl (cn rfl) rfl ?_
    refine s_aaload rfl (cn rfl) _ rfl c52 (by omega) (by decide) ((if_pos hl).trans rfl) ?_
    refine s_iload_n rfl (cn rfl) rfl ?_
    refine s_lload_n rfl (cn rfl) rfl ?_
    refine s_lastore rfl (cn rfl) _ rfl (c53 l hl) (by omega) (by decide) ?_
    refine s_iconst rfl (cn rfl) ?_
    refine s_ireturn rfl ?_
    exact ⟨ri (if_pos q8).symm, Or.inr ⟨q8, _, rfl, rr_set_eq, fr_s (by simp) fr_r⟩⟩
  · refine s_iload rfl (cn rfl) rfl ?_
    refine s_ireturn rfl ?_
    exact ⟨ri (if_neg q8).symm, Or.inl ⟨q8, rfl⟩⟩
theorem d_get {d N S : Nat} {h : Nat → Option rr_E} {sz : Nat → Int} {it : Nat → Nat → Int} (hsz : ∀ l, l < 4 → -1 ≤ sz l ∧ sz l ≤ 30) (hit : ∀ l i, b6 (it l i)) (c51 : h 51 = some (.inr (1, [.ref 52, .ref 57]))) (c52 : h 52 = some AA) (c53 : ∀ l, l < 4 → h (53 + l) = some (.inl (1, 30, .inr (.inl (fun k => jj (it l k)))))) (c57 : h 57 = some (.inl (0, 4, .inl (fun k => ii (sz k))))) {sl im : Int} (c0 : h 0 = some (DO sl im)) {a i : Int} (ha : b3 a) (hi : b3 i) : rr_Calls (d + 3) j_Desk_get [.ref 0, .int (ii a), .int (ii i)] (N, S, h) (fun r R => r = some (.long (jj (if cpl sz a i 1 = 0 then it a.toNat i.toNat else (-9223372036854775808)))) ∧ R = (N, S, h)) := by
  refine rr_meth (C := K_Desk_get) (hd := h_Desk_get) (mx := 3) rfl rfl (fun K hK => ?_)
  have hc := cpl_b sz a i 1
  refine hK _ _ _ _ ?_
  refine s_aload_n rfl (cn rfl) rfl ?_
  refine s_getfield rfl (cn rfl) c0 rfl ?_
  refine s_iload_n rfl (cn rfl) rfl ?_
  refine s_iload_n rfl (cn rfl) rfl ?_
  refine s_iconst rfl (cn rfl) ?_
  refine s_virt rfl (cn rfl) rfl rfl c51 rfl (u_compl hsz c51 c57 (by omega) (by omega) (by omega)) ?_
  rintro _ _ ⟨rfl, rfl⟩
  refine s_if_ne rfl (cn rfl) (cn rfl) ⟨by omega, by omega⟩ (fun q6 => ?_) (fun q6 => ?_)
  · refine s_ldc2_w rfl (cn rfl) ?_
    refine s_lreturn rfl ?_
    first
      | exact ⟨rl (if_pos q6).symm, rfl⟩
      | exact ⟨rl (if_neg q6).symm, rfl⟩
  · obtain ⟨z1, z2, z3, z4⟩ := cpl_0 q6
    obtain ⟨l, rfl⟩ := Int.eq_ofNat_of_zero_le (show 0 ≤ a by omega)
    have hl : l < 4 := by omega
    have hs := hsz l hl
    obtain ⟨j, rfl⟩ := Int.eq_ofNat_of_zero_le z3
    have hsl : sz l ≤ 30 := (hsz l hl).2
    have z5 : (j : Int) ≤ sz l - 1 := z4
    refine s_aload_n rfl (cn rfl) rfl ?_
    refine s_getfield rfl (cn rfl) c0 rfl ?_
    refine s_getfield rfl (cn rfl) c51 rfl ?_
    refine s_iload_n rfl (cn rfl) rfl ?_
    refine s_aaload rfl (cn rfl) _ rfl c52 (by omega) (by decide) ((if_pos hl).trans rfl) ?_
    refine s_iload_n rfl (cn rfl) rfl ?_
    refine s_laload rfl (cn rfl) _ rfl (c53 l hl) (by omega) (by decide) rfl ?_
    refine s_goto rfl (cn rfl) ?_
    refine s_lreturn rfl ?_
    first
      | exact ⟨rl (if_pos q6).symm, rfl⟩
      | exact ⟨rl (if_neg q6).symm, rfl⟩
theorem m_set {d N S n : Nat} {kp tp pt wr fa dm ce di be od sm le sc ba bb ti rk ts tm pa wa : Int} {h : Nat → Option rr_E} (c58 : h 58 = some (MO (n : Int) kp tp pt wr fa dm ce di be od sm le sc ba bb ti rk ts tm pa wa)) {sz th ms w : Nat → Int} {it : Nat → Nat → Int} (hth : ∀ l, l < 4 → (th l = 0 ∧ sz l = -1) ∨ (th l = 1 ∧ sz l = ms l ∧ 0 ≤ sz l ∧ sz l ≤ 30)) (hit : ∀ l i, l < 4 → i < 30 → w (30 * l + i) = it l i) (c77 : h 77 = some (.inl (2, 4, .inl (fun k => ii (th k))))) (c78 : h 78 = some (.inl (0, 4, .inl (fun k => ii (ms k))))) (c79 : h 79 = some (.inl (1, 120, .inr (.inl (fun k => jj (w k)))))) {a i : Int} (ha : b3 a) (hi : b3 i) {x : Int} (hx : b6 x) : rr_Calls (d + 3) j_Model_set [.ref 58, .int (ii a), .int (ii i), .long (jj x)] (N, S, h) (fun r R => r = some (.int (ii (if cpl sz a i 1 = 0 then 1 else cpl sz a i 1))) ∧ ((cpl sz a i 1 ≠ 0 ∧ R = (N, S, h)) ∨ (cpl sz a i 1 = 0 ∧ ∃ h', R = (N, S, h') ∧ h' 79 = some (.inl (1, 120, .inr (.inl (fun k => jj (fu w (30 * a.toNat + i.toNat) x k))))) ∧ fr [79] h h'))) := by
  refine rr_meth (C := K_Model_set) (hd := h_Model_set) (mx := 5) rfl rfl (fun K hK => ?_)
  refine hK _ _ _ _ ?_
  refine s_iload_n rfl (cn rfl) rfl ?_
  refine s_stat rfl (cn rfl) rfl rfl rfl (m_isList (by omega)) ?_
  rintro _ _ ⟨rfl, rfl⟩
  refine s_ifb_ne rfl (cn rfl) (cn rfl) (fun q2 => ?_) (fun q2 => ?_)
  · obtain ⟨l, rfl⟩ := Int.eq_ofNat_of_zero_le (show 0 ≤ a by omega)
    have hl : l < 4 := by omega
    have hs := hth l hl
    refine s_aload_n rfl (cn rfl) rfl ?_
    refine s_getfield rfl (cn rfl) c58 rfl ?_
    refine s_iload_n rfl (cn rfl) rfl ?_
    refine s_baload rfl (cn rfl) _ rfl c77 rfl (by omega) (by decide) rfl ?_
    refine s_if_ne rfl (cn rfl) (cn rfl) ⟨by omega, by omega⟩ (fun q9 => ?_) (fun q9 => ?_)
    · refine s_iload_n rfl (cn rfl) rfl ?_
      refine s_i2l rfl (cn rfl) ⟨by omega, by omega⟩ ?_
      refine s_lconst rfl (cn rfl) 0 (by decide) ?_
      refine s_aload_n rfl (cn rfl) rfl ?_
      refine s_getfield rfl (cn rfl) c58 rfl ?_
      refine s_iload_n rfl (cn rfl) rfl ?_
      refine s_iaload rfl (cn rfl) _ rfl c78 rfl (by omega) (by decide) rfl ?_
      refine s_iconst rfl (cn rfl) ?_
      refine s_isub rfl (cn rfl) ?_
      refine s_i2l rfl (cn rfl) ⟨by omega, by omega⟩ ?_
      refine s_stat rfl (cn rfl) rfl rfl rfl (m_in (by omega) (by omega) (by omega)) ?_
      rintro _ _ ⟨rfl, rfl⟩
      refine s_ifb_ne rfl (cn rfl) (cn rfl) (fun q23 => ?_) (fun q23 => ?_)
      · have e1 : cpl sz (l : Int) i 1 = 0 := by
          unfold cpl; rw [if_pos q2]
          show (if sz l = -1 then _ else if i < 0 ∨ sz l - 1 < i then _ else _) = _
          rw [if_neg (by omega), if_neg (by omega)]
        obtain ⟨j, rfl⟩ := Int.eq_ofNat_of_zero_le (show 0 ≤ i by omega)
        have hj : j < 30 := by omega
        refine s_aload_n rfl (cn rfl) rfl ?_
        refine s_getfield rfl (cn rfl) c58 rfl ?_
        refine s_bipush rfl (cn rfl) (by decide) ?_
        refine s_iload_n rfl (cn rfl) rfl ?_
        refine s_imul rfl (cn rfl) ?_
        refine s_iload_n rfl (cn rfl) rfl ?_
        refine s_iadd rfl (cn rfl) ?_
        refine s_lload_n rfl (cn rfl) rfl ?_
        refine s_lastore rfl (cn rfl) (30 * l + j) (by omega) c79 (by omega) (by decide) ?_
        refine s_iconst rfl (cn rfl) ?_
        refine s_ireturn rfl ?_
        exact ⟨ri (by rw [e1]; rfl), Or.inr ⟨e1, _, rfl, rr_set_eq, fr_s (by simp) fr_r⟩⟩
      · refine s_bipush rfl (cn rfl) (by decide) ?_
        refine s_ireturn rfl ?_
        have e1 : cpl sz (l : Int) i 1 = -13 := by
          unfold cpl; rw [if_pos q2]
          show (if sz l = -1 then _ else if i < 0 ∨ sz l - 1 < i then _ else _) = _
          rw [if_neg (by omega), if_pos (by omega)]
        exact ⟨ri (by rw [e1]; rfl), Or.inl ⟨by omega, rfl⟩⟩
    · refine s_bipush rfl (cn rfl) (by decide) ?_
      refine s_ireturn rfl ?_
      have e1 : cpl sz (l : Int) i 1 = -11 := by
        unfold cpl; rw [if_pos q2]
        show (if sz l = -1 then _ else _) = _
        rw [if_pos (by omega)]
      exact ⟨ri (by rw [e1]; rfl), Or.inl ⟨by omega, rfl⟩⟩
  · refine s_iconst rfl (cn rfl) ?_
    refine s_ireturn rfl ?_
    have e1 : cpl sz a i 1 = -1 := by unfold cpl; rw [if_neg q2]
    exact ⟨ri (by rw [e1]; rfl), Or.inl ⟨by omega, rfl⟩⟩
