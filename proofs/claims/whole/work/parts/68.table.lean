/-! The tables: the offers of the first stage, the cost. -/
def TE (n k : Nat) : Nat := (if n = 2 then [1, 2, 0, 0, 0] else if n = 3 then [1, 6, 0, 0, 0, 2, 5, 0, 0, 0, 3, 4, 0, 0, 0, 1, 2, 4, 0, 0, 3, 5, 6, 0, 0] else [1, 14, 0, 0, 0, 2, 13, 0, 0, 0, 4, 11, 0, 0, 0, 7, 8, 0, 0, 0, 3, 12, 0, 0, 0, 5, 10, 0, 0, 0, 6, 9, 0, 0, 0, 1, 2, 12, 0, 0, 1, 4, 10, 0, 0, 1, 6, 8, 0, 0, 2, 4, 9, 0, 0, 2, 5, 8, 0, 0, 3, 4, 8, 0, 0, 3, 13, 14, 0, 0, 5, 11, 14, 0, 0, 6, 11, 13, 0, 0, 7, 9, 14, 0, 0, 7, 10, 13, 0, 0, 7, 11, 12, 0, 0, 1, 2, 4, 8, 0, 7, 11, 13, 14, 0, 1, 6, 10, 13, 0, 1, 6, 11, 12, 0, 1, 7, 10, 12, 0, 2, 5, 9, 14, 0, 2, 5, 11, 12, 0, 2, 7, 9, 12, 0, 3, 4, 9, 14, 0, 3, 4, 10, 13, 0, 4, 7, 9, 10, 0, 3, 5, 8, 14, 0, 3, 6, 8, 13, 0, 5, 6, 8, 11, 0, 1, 1, 6, 10, 12, 2, 2, 5, 9, 12, 3, 4, 4, 9, 10, 3, 5, 6, 8, 8, 3, 5, 9, 14, 14, 3, 6, 10, 13, 13, 5, 6, 11, 11, 12, 7, 7, 9, 10, 12] : List Nat).getD k 0
theorem TE_2 : ∀ k, k < 5 → rr_two.getD k 0 = ii ((TE 2 k : Nat) : Int) := by decide +kernel
theorem TE_3 : ∀ k, k < 25 → rr_three.getD k 0 = ii ((TE 3 k : Nat) : Int) := by decide +kernel
theorem TE_4 : ∀ k, k < 205 → rr_four.getD k 0 = ii ((TE 4 k : Nat) : Int) := by decide +kernel
def TR (n : Nat) : Nat := if n = 2 then 1 else if n = 3 then 5 else 41
theorem TE_16 : ∀ n, n < 5 → 2 ≤ n → ∀ k, k < 5 * TR n → TE n k < 16 := by decide +kernel
theorem TE_row : ∀ n, n < 5 → 2 ≤ n → ∀ r, r < TR n → (tb_rows n).getD r [] = [TE n (5 * r), TE n (5 * r + 1), TE n (5 * r + 2), TE n (5 * r + 3), TE n (5 * r + 4)] := by decide +kernel
theorem TR_len : ∀ n, n < 5 → 2 ≤ n → (tb_rows n).length = TR n := by decide +kernel
theorem and1_bt : ∀ a, a < 16 → (((a &&& 1 : Nat)) : Int) = if a = 0 then 0 else st_bt a 0 := by decide +kernel
theorem and1_b (a : Nat) : ((a &&& 1 : Nat) : Int) ≤ 1 := by
  have : a &&& 1 ≤ 1 := Nat.and_le_right
  omega
def row (n r : Nat) : List Nat := (tb_rows n).getD r []
theorem row_mem {n r : Nat} (h1 : n < 5) (h2 : 2 ≤ n) (h : r < TR n) : row n r ∈ tb_rows n := by
  rw [← TR_len n h1 h2] at h
  unfold row
  rw [List.getD_eq_getElem?_getD, List.getElem?_eq_getElem h]
  exact List.getElem_mem h
theorem mem_row {n : Nat} (h1 : n < 5) (h2 : 2 ≤ n) {l : List Nat} (h : l ∈ tb_rows n) : ∃ r, r < TR n ∧ l = row n r := by
  obtain ⟨r, hr, e⟩ := List.mem_iff_getElem.mp h
  refine ⟨r, by rw [← TR_len n h1 h2]; exact hr, ?_⟩
  unfold row
  rw [List.getD_eq_getElem?_getD, List.getElem?_eq_getElem hr, e]
  rfl
def sTm (E : Nat → Nat) : Nat → Nat
  | 0 => 0
  | m + 1 => if E m = 0 then sTm E m else sTm E m ||| 2 ^ E m
theorem sTm_5 {n r : Nat} (h1 : n < 5) (h2 : 2 ≤ n) (h : r < TR n) : sTm (fun j => TE n (5 * r + j)) 5 = tb_sup (row n r) := by
  unfold row
  rw [TE_row n h1 h2 r h]; rfl
theorem one_5 {n r : Nat} (h1 : n < 5) (h2 : 2 ≤ n) (h : r < TR n) : ms_sm 5 (fun j => ((TE n (5 * r + j) &&& 1 : Nat) : Int)) = rone (row n r) := by
  unfold row
  rw [TE_row n h1 h2 r h]
  rw [ms_cg (g := fun j => if TE n (5 * r + j) = 0 then 0 else st_bt (TE n (5 * r + j)) 0) (fun j hj => and1_bt _ (TE_16 n h1 h2 _ (by omega)))]
  show 0 + _ + _ + _ + _ + _ = 0 + _ + _ + _ + _ + _
  show 0 + (if TE n (5 * r + 0) = 0 then 0 else st_bt (TE n (5 * r + 0)) 0) + (if TE n (5 * r + 1) = 0 then 0 else st_bt (TE n (5 * r + 1)) 0) + (if TE n (5 * r + 2) = 0 then 0 else st_bt (TE n (5 * r + 2)) 0) + (if TE n (5 * r + 3) = 0 then 0 else st_bt (TE n (5 * r + 3)) 0) + (if TE n (5 * r + 4) = 0 then 0 else st_bt (TE n (5 * r + 4)) 0) = 0 + (if TE n (5 * r + 4) = 0 then 0 else st_bt (TE n (5 * r + 4)) 0) + (if TE n (5 * r + 3) = 0 then 0 else st_bt (TE n (5 * r + 3)) 0) + (if TE n (5 * r + 2) = 0 then 0 else st_bt (TE n (5 * r + 2)) 0) + (if TE n (5 * r + 1) = 0 then 0 else st_bt (TE n (5 * r + 1)) 0) + (if TE n (5 * r) = 0 then 0 else st_bt (TE n (5 * r)) 0)
  rw [show 5 * r + 0 = 5 * r from rfl]
  generalize (if TE n (5 * r) = 0 then (0 : Int) else st_bt (TE n (5 * r)) 0) = a
  generalize (if TE n (5 * r + 1) = 0 then (0 : Int) else st_bt (TE n (5 * r + 1)) 0) = b
  generalize (if TE n (5 * r + 2) = 0 then (0 : Int) else st_bt (TE n (5 * r + 2)) 0) = c
  generalize (if TE n (5 * r + 3) = 0 then (0 : Int) else st_bt (TE n (5 * r + 3)) 0) = d
  generalize (if TE n (5 * r + 4) = 0 then (0 : Int) else st_bt (TE n (5 * r + 4)) 0) = e
  omega
theorem rs_5 {n r : Nat} {f : Nat → Int} (h1 : n < 5) (h2 : 2 ≤ n) (h : r < TR n) : ms_sm 5 (fun j => if TE n (5 * r + j) = 0 then 0 else f (TE n (5 * r + j))) = rsm (row n r) f := by
  unfold row
  rw [TE_row n h1 h2 r h]
  show 0 + (if TE n (5 * r + 0) = 0 then 0 else f (TE n (5 * r + 0))) + (if TE n (5 * r + 1) = 0 then 0 else f (TE n (5 * r + 1))) + (if TE n (5 * r + 2) = 0 then 0 else f (TE n (5 * r + 2))) + (if TE n (5 * r + 3) = 0 then 0 else f (TE n (5 * r + 3))) + (if TE n (5 * r + 4) = 0 then 0 else f (TE n (5 * r + 4))) = 0 + (if TE n (5 * r + 4) = 0 then 0 else f (TE n (5 * r + 4))) + (if TE n (5 * r + 3) = 0 then 0 else f (TE n (5 * r + 3))) + (if TE n (5 * r + 2) = 0 then 0 else f (TE n (5 * r + 2))) + (if TE n (5 * r + 1) = 0 then 0 else f (TE n (5 * r + 1))) + (if TE n (5 * r) = 0 then 0 else f (TE n (5 * r)))
  rw [show 5 * r + 0 = 5 * r from rfl]
  generalize (if TE n (5 * r) = 0 then (0 : Int) else f (TE n (5 * r))) = a
  generalize (if TE n (5 * r + 1) = 0 then (0 : Int) else f (TE n (5 * r + 1))) = b
  generalize (if TE n (5 * r + 2) = 0 then (0 : Int) else f (TE n (5 * r + 2))) = c
  generalize (if TE n (5 * r + 3) = 0 then (0 : Int) else f (TE n (5 * r + 3))) = d
  generalize (if TE n (5 * r + 4) = 0 then (0 : Int) else f (TE n (5 * r + 4))) = e
  omega
theorem rs_v {n r : Nat} {v : Nat → Int} (h1 : n < 5) (h2 : 2 ≤ n) (h : r < TR n) (h0 : v 0 = 0) : ms_sm 5 (fun j => v (TE n (5 * r + j))) = rsm (row n r) v := by
  rw [← rs_5 h1 h2 h]
  exact ms_cg (fun j _ => by
    by_cases e : TE n (5 * r + j) = 0
    · rw [if_pos e, e, h0]
    · rw [if_neg e])
theorem u_table_2 {d N S : Nat} {h : Nat → Option rr_E} : rr_Calls (d + 1) j_Balanced_tableOf [.int (ii ((2 : Nat) : Int))] (N, S, h) (fun r R => r = some (.ref 1000000) ∧ R = (N, S, h)) := by
  refine rr_meth (C := K_Balanced_tableOf) (hd := h_Balanced_tableOf) (mx := 1) rfl rfl (fun K hK => ?_)
  refine hK _ _ _ _ ?_
  refine s_iload_n rfl (cn rfl) rfl ?_
  refine s_iconst rfl (cn rfl) ?_
  refine s_icmp_ne rfl (cn rfl) (cn rfl) (by decide) (by decide) (fun q2 => ?_) (fun q2 => ?_)
  · exact absurd rfl q2
  · refine s_getstatic rfl (cn rfl) rfl ?_
    refine s_areturn rfl ?_
    exact ⟨rfl, rfl⟩
theorem u_sumW_2_1 {d N S : Nat} {v : Nat → Int} {h : Nat → Option rr_E} (c1 : h 1 = some (.inr (0, [.int (ii ((2 : Nat) : Int)), .ref 2]))) (c2 : h 2 = some (.inl (0, 16, .inl (fun k => ii (v k))))) (hv : ∀ k, -999 ≤ v k ∧ v k ≤ 999) (h0 : v 0 = 0) (c1000000 : h 1000000 = some (.inl (8, 5, .inl (fun j => rr_two.getD j 0)))) {u : Nat} (hr : u < TR 2) : rr_Calls (d + 1) j_Balanced_sumOfWorths [.ref 1, .ref 1000000, .int (ii ((5 * u : Nat) : Int))] (N, S, h) (fun r R => r = some (.int (ii (rsm (row 2 u) v))) ∧ R = (N, S, h)) := by
  refine rr_meth (C := K_Balanced_sumOfWorths) (hd := h_Balanced_sumOfWorths) (mx := 5) rfl rfl (fun K hK => ?_)
  have htr : TR 2 = 1 := rfl
  refine hK _ _ _ _ ?_
  refine s_iconst rfl (cn rfl) ?_
  refine s_istore_n rfl (cn rfl) ?_
  refine s_iload_n rfl (cn rfl) rfl ?_
  refine s_istore rfl (ch rfl) ?_
  have lp4 : ∀ m : Nat, m ≤ 5 → ∀ (x : Int) (hx : x = ms_sm m (fun j => v (TE 2 (5 * u + j)))), K 4 [some (.ref 1), some (.ref 1000000), some (.int (ii ((5 * u : Nat) : Int))), some (.int (ii x)), some (.int (ii ((5 * u + m : Nat) : Int)))] [] (N, S, h) := by
    refine dn (fun m hm ih4 => ?_)
    intro x hx
    refine hK _ _ _ _ ?_
    refine s_iload rfl (cn rfl) rfl ?_
    refine s_iload_n rfl (cn rfl) rfl ?_
    refine s_iconst rfl (cn rfl) ?_
    refine s_iadd rfl (cn rfl) ?_
    refine s_icmp_ge rfl (cn rfl) (cn rfl) ⟨by omega, by omega⟩ ⟨by omega, by omega⟩ (fun q8 => ?_) (fun q8 => ?_)
    · refine s_iload_n rfl (cn rfl) rfl ?_
      refine s_ireturn rfl ?_
      exact ⟨ri (by rw [hx, show m = 5 by omega]; exact rs_v (by decide) (by decide) hr h0), rfl⟩
    · have t16 := TE_16 2 (by decide) (by decide) (5 * u + m) (by omega)
      refine s_iload_n rfl (cn rfl) rfl ?_
      refine s_aload_n rfl (cn rfl) rfl ?_
      refine s_getfield rfl (cn rfl) c1 rfl ?_
      refine s_aload_n rfl (cn rfl) rfl ?_
      refine s_iload rfl (cn rfl) rfl ?_
      refine s_iaload rfl (cn rfl) _ rfl c1000000 rfl (by omega) (by decide) (TE_2 _ (by omega)) ?_
      refine s_iaload rfl (cn rfl) _ rfl c2 rfl (by omega) (by decide) rfl ?_
      refine s_iadd rfl (cn rfl) ?_
      refine s_istore_n rfl (cn rfl) ?_
      refine s_iinc rfl (cn rfl) rfl ?_
      refine s_goto rfl (ch rfl) ?_
      exact ih4 (by omega) _ (by rw [hx]; rfl)
  exact lp4 0 (by omega) _ rfl
theorem u_sumW_2_5 {d N S : Nat} {v : Nat → Int} {h : Nat → Option rr_E} (c5 : h 5 = some (.inr (0, [.int (ii ((2 : Nat) : Int)), .ref 6]))) (c6 : h 6 = some (.inl (0, 16, .inl (fun k => ii (v k))))) (hv : ∀ k, -999 ≤ v k ∧ v k ≤ 999) (h0 : v 0 = 0) (c1000000 : h 1000000 = some (.inl (8, 5, .inl (fun j => rr_two.getD j 0)))) {u : Nat} (hr : u < TR 2) : rr_Calls (d + 1) j_Balanced_sumOfWorths [.ref 5, .ref 1000000, .int (ii ((5 * u : Nat) : Int))] (N, S, h) (fun r R => r = some (.int (ii (rsm (row 2 u) v))) ∧ R = (N, S, h)) := by
  refine rr_meth (C := K_Balanced_sumOfWorths) (hd := h_Balanced_sumOfWorths) (mx := 5) rfl rfl (fun K hK => ?_)
  have htr : TR 2 = 1 := rfl
  refine hK _ _ _ _ ?_
  refine s_iconst rfl (cn rfl) ?_
  refine s_istore_n rfl (cn rfl) ?_
  refine s_iload_n rfl (cn rfl) rfl ?_
  refine s_istore rfl (ch rfl) ?_
  have lp4 : ∀ m : Nat, m ≤ 5 → ∀ (x : Int) (hx : x = ms_sm m (fun j => v (TE 2 (5 * u + j)))), K 4 [some (.ref 5), some (.ref 1000000), some (.int (ii ((5 * u : Nat) : Int))), some (.int (ii x)), some (.int (ii ((5 * u + m : Nat) : Int)))] [] (N, S, h) := by
    refine dn (fun m hm ih4 => ?_)
    intro x hx
    refine hK _ _ _ _ ?_
    refine s_iload rfl (cn rfl) rfl ?_
    refine s_iload_n rfl (cn rfl) rfl ?_
    refine s_iconst rfl (cn rfl) ?_
    refine s_iadd rfl (cn rfl) ?_
    refine s_icmp_ge rfl (cn rfl) (cn rfl) ⟨by omega, by omega⟩ ⟨by omega, by omega⟩ (fun q8 => ?_) (fun q8 => ?_)
    · refine s_iload_n rfl (cn rfl) rfl ?_
      refine s_ireturn rfl ?_
      exact ⟨ri (by rw [hx, show m = 5 by omega]; exact rs_v (by decide) (by decide) hr h0), rfl⟩
    · have t16 := TE_16 2 (by decide) (by decide) (5 * u + m) (by omega)
      refine s_iload_n rfl (cn rfl) rfl ?_
      refine s_aload_n rfl (cn rfl) rfl ?_
      refine s_getfield rfl (cn rfl) c5 rfl ?_
      refine s_aload_n rfl (cn rfl) rfl ?_
      refine s_iload rfl (cn rfl) rfl ?_
      refine s_iaload rfl (cn rfl) _ rfl c1000000 rfl (by omega) (by decide) (TE_2 _ (by omega)) ?_
      refine s_iaload rfl (cn rfl) _ rfl c6 rfl (by omega) (by decide) rfl ?_
      refine s_iadd rfl (cn rfl) ?_
      refine s_istore_n rfl (cn rfl) ?_
      refine s_iinc rfl (cn rfl) rfl ?_
      refine s_goto rfl (ch rfl) ?_
      exact ih4 (by omega) _ (by rw [hx]; rfl)
  exact lp4 0 (by omega) _ rfl
theorem u_table_3 {d N S : Nat} {h : Nat → Option rr_E} : rr_Calls (d + 1) j_Balanced_tableOf [.int (ii ((3 : Nat) : Int))] (N, S, h) (fun r R => r = some (.ref 1000001) ∧ R = (N, S, h)) := by
  refine rr_meth (C := K_Balanced_tableOf) (hd := h_Balanced_tableOf) (mx := 1) rfl rfl (fun K hK => ?_)
  refine hK _ _ _ _ ?_
  refine s_iload_n rfl (cn rfl) rfl ?_
  refine s_iconst rfl (cn rfl) ?_
  refine s_icmp_ne rfl (cn rfl) (cn rfl) (by decide) (by decide) (fun q2 => ?_) (fun q2 => ?_)
  · refine s_iload_n rfl (cn rfl) rfl ?_
    refine s_iconst rfl (cn rfl) ?_
    refine s_icmp_ne rfl (cn rfl) (cn rfl) (by decide) (by decide) (fun q7 => ?_) (fun q7 => ?_)
    · exact absurd rfl q7
    · refine s_getstatic rfl (cn rfl) rfl ?_
      refine s_goto rfl (cn rfl) ?_
      refine s_areturn rfl ?_
      exact ⟨rfl, rfl⟩
  · exact absurd q2 (by decide)
theorem u_sumW_3_1 {d N S : Nat} {v : Nat → Int} {h : Nat → Option rr_E} (c1 : h 1 = some (.inr (0, [.int (ii ((3 : Nat) : Int)), .ref 2]))) (c2 : h 2 = some (.inl (0, 16, .inl (fun k => ii (v k))))) (hv : ∀ k, -999 ≤ v k ∧ v k ≤ 999) (h0 : v 0 = 0) (c1000001 : h 1000001 = some (.inl (8, 25, .inl (fun j => rr_three.getD j 0)))) {u : Nat} (hr : u < TR 3) : rr_Calls (d + 1) j_Balanced_sumOfWorths [.ref 1, .ref 1000001, .int (ii ((5 * u : Nat) : Int))] (N, S, h) (fun r R => r = some (.int (ii (rsm (row 3 u) v))) ∧ R = (N, S, h)) := by
  refine rr_meth (C := K_Balanced_sumOfWorths) (hd := h_Balanced_sumOfWorths) (mx := 5) rfl rfl (fun K hK => ?_)
  have htr : TR 3 = 5 := rfl
  refine hK _ _ _ _ ?_
  refine s_iconst rfl (cn rfl) ?_
  refine s_istore_n rfl (cn rfl) ?_
  refine s_iload_n rfl (cn rfl) rfl ?_
  refine s_istore rfl (ch rfl) ?_
  have lp4 : ∀ m : Nat, m ≤ 5 → ∀ (x : Int) (hx : x = ms_sm m (fun j => v (TE 3 (5 * u + j)))), K 4 [some (.ref 1), some (.ref 1000001), some (.int (ii ((5 * u : Nat) : Int))), some (.int (ii x)), some (.int (ii ((5 * u + m : Nat) : Int)))] [] (N, S, h) := by
    refine dn (fun m hm ih4 => ?_)
    intro x hx
    refine hK _ _ _ _ ?_
    refine s_iload rfl (cn rfl) rfl ?_
    refine s_iload_n rfl (cn rfl) rfl ?_
    refine s_iconst rfl (cn rfl) ?_
    refine s_iadd rfl (cn rfl) ?_
    refine s_icmp_ge rfl (cn rfl) (cn rfl) ⟨by omega, by omega⟩ ⟨by omega, by omega⟩ (fun q8 => ?_) (fun q8 => ?_)
    · refine s_iload_n rfl (cn rfl) rfl ?_
      refine s_ireturn rfl ?_
      exact ⟨ri (by rw [hx, show m = 5 by omega]; exact rs_v (by decide) (by decide) hr h0), rfl⟩
    · have t16 := TE_16 3 (by decide) (by decide) (5 * u + m) (by omega)
      refine s_iload_n rfl (cn rfl) rfl ?_
      refine s_aload_n rfl (cn rfl) rfl ?_
      refine s_getfield rfl (cn rfl) c1 rfl ?_
      refine s_aload_n rfl (cn rfl) rfl ?_
      refine s_iload rfl (cn rfl) rfl ?_
      refine s_iaload rfl (cn rfl) _ rfl c1000001 rfl (by omega) (by decide) (TE_3 _ (by omega)) ?_
      refine s_iaload rfl (cn rfl) _ rfl c2 rfl (by omega) (by decide) rfl ?_
      refine s_iadd rfl (cn rfl) ?_
      refine s_istore_n rfl (cn rfl) ?_
      refine s_iinc rfl (cn rfl) rfl ?_
      refine s_goto rfl (ch rfl) ?_
      exact ih4 (by omega) _ (by rw [hx]; rfl)
  exact lp4 0 (by omega) _ rfl
theorem u_sumW_3_5 {d N S : Nat} {v : Nat → Int} {h : Nat → Option rr_E} (c5 : h 5 = some (.inr (0, [.int (ii ((3 : Nat) : Int)), .ref 6]))) (c6 : h 6 = some (.inl (0, 16, .inl (fun k => ii (v k))))) (hv : ∀ k, -999 ≤ v k ∧ v k ≤ 999) (h0 : v 0 = 0) (c1000001 : h 1000001 = some (.inl (8, 25, .inl (fun j => rr_three.getD j 0)))) {u : Nat} (hr : u < TR 3) : rr_Calls (d + 1) j_Balanced_sumOfWorths [.ref 5, .ref 1000001, .int (ii ((5 * u : Nat) : Int))] (N, S, h) (fun r R => r = some (.int (ii (rsm (row 3 u) v))) ∧ R = (N, S, h)) := by
  refine rr_meth (C := K_Balanced_sumOfWorths) (hd := h_Balanced_sumOfWorths) (mx := 5) rfl rfl (fun K hK => ?_)
  have htr : TR 3 = 5 := rfl
  refine hK _ _ _ _ ?_
  refine s_iconst rfl (cn rfl) ?_
  refine s_istore_n rfl (cn rfl) ?_
  refine s_iload_n rfl (cn rfl) rfl ?_
  refine s_istore rfl (ch rfl) ?_
  have lp4 : ∀ m : Nat, m ≤ 5 → ∀ (x : Int) (hx : x = ms_sm m (fun j => v (TE 3 (5 * u + j)))), K 4 [some (.ref 5), some (.ref 1000001), some (.int (ii ((5 * u : Nat) : Int))), some (.int (ii x)), some (.int (ii ((5 * u + m : Nat) : Int)))] [] (N, S, h) := by
    refine dn (fun m hm ih4 => ?_)
    intro x hx
    refine hK _ _ _ _ ?_
    refine s_iload rfl (cn rfl) rfl ?_
    refine s_iload_n rfl (cn rfl) rfl ?_
    refine s_iconst rfl (cn rfl) ?_
    refine s_iadd rfl (cn rfl) ?_
    refine s_icmp_ge rfl (cn rfl) (cn rfl) ⟨by omega, by omega⟩ ⟨by omega, by omega⟩ (fun q8 => ?_) (fun q8 => ?_)
    · refine s_iload_n rfl (cn rfl) rfl ?_
      refine s_ireturn rfl ?_
      exact ⟨ri (by rw [hx, show m = 5 by omega]; exact rs_v (by decide) (by decide) hr h0), rfl⟩
    · have t16 := TE_16 3 (by decide) (by decide) (5 * u + m) (by omega)
      refine s_iload_n rfl (cn rfl) rfl ?_
      refine s_aload_n rfl (cn rfl) rfl ?_
      refine s_getfield rfl (cn rfl) c5 rfl ?_
      refine s_aload_n rfl (cn rfl) rfl ?_
      refine s_iload rfl (cn rfl) rfl ?_
      refine s_iaload rfl (cn rfl) _ rfl c1000001 rfl (by omega) (by decide) (TE_3 _ (by omega)) ?_
      refine s_iaload rfl (cn rfl) _ rfl c6 rfl (by omega) (by decide) rfl ?_
      refine s_iadd rfl (cn rfl) ?_
      refine s_istore_n rfl (cn rfl) ?_
      refine s_iinc rfl (cn rfl) rfl ?_
      refine s_goto rfl (ch rfl) ?_
      exact ih4 (by omega) _ (by rw [hx]; rfl)
  exact lp4 0 (by omega) _ rfl
theorem u_table_4 {d N S : Nat} {h : Nat → Option rr_E} : rr_Calls (d + 1) j_Balanced_tableOf [.int (ii ((4 : Nat) : Int))] (N, S, h) (fun r R => r = some (.ref 1000002) ∧ R = (N, S, h)) := by
  refine rr_meth (C := K_Balanced_tableOf) (hd := h_Balanced_tableOf) (mx := 1) rfl rfl (fun K hK => ?_)
  refine hK _ _ _ _ ?_
  refine s_iload_n rfl (cn rfl) rfl ?_
  refine s_iconst rfl (cn rfl) ?_
  refine s_icmp_ne rfl (cn rfl) (cn rfl) (by decide) (by decide) (fun q2 => ?_) (fun q2 => ?_)
  · refine s_iload_n rfl (cn rfl) rfl ?_
    refine s_iconst rfl (cn rfl) ?_
    refine s_icmp_ne rfl (cn rfl) (cn rfl) (by decide) (by decide) (fun q7 => ?_) (fun q7 => ?_)
    · refine s_getstatic rfl (cn rfl) rfl ?_
      refine s_areturn rfl ?_
      exact ⟨rfl, rfl⟩
    · exact absurd q7 (by decide)
  · exact absurd q2 (by decide)
theorem u_sumW_4_1 {d N S : Nat} {v : Nat → Int} {h : Nat → Option rr_E} (c1 : h 1 = some (.inr (0, [.int (ii ((4 : Nat) : Int)), .ref 2]))) (c2 : h 2 = some (.inl (0, 16, .inl (fun k => ii (v k))))) (hv : ∀ k, -999 ≤ v k ∧ v k ≤ 999) (h0 : v 0 = 0) (c1000002 : h 1000002 = some (.inl (8, 205, .inl (fun j => rr_four.getD j 0)))) {u : Nat} (hr : u < TR 4) : rr_Calls (d + 1) j_Balanced_sumOfWorths [.ref 1, .ref 1000002, .int (ii ((5 * u : Nat) : Int))] (N, S, h) (fun r R => r = some (.int (ii (rsm (row 4 u) v))) ∧ R = (N, S, h)) := by
  refine rr_meth (C := K_Balanced_sumOfWorths) (hd := h_Balanced_sumOfWorths) (mx := 5) rfl rfl (fun K hK => ?_)
  have htr : TR 4 = 41 := rfl
  refine hK _ _ _ _ ?_
  refine s_iconst rfl (cn rfl) ?_
  refine s_istore_n rfl (cn rfl) ?_
  refine s_iload_n rfl (cn rfl) rfl ?_
  refine s_istore rfl (ch rfl) ?_
  have lp4 : ∀ m : Nat, m ≤ 5 → ∀ (x : Int) (hx : x = ms_sm m (fun j => v (TE 4 (5 * u + j)))), K 4 [some (.ref 1), some (.ref 1000002), some (.int (ii ((5 * u : Nat) : Int))), some (.int (ii x)), some (.int (ii ((5 * u + m : Nat) : Int)))] [] (N, S, h) := by
    refine dn (fun m hm ih4 => ?_)
    intro x hx
    refine hK _ _ _ _ ?_
    refine s_iload rfl (cn rfl) rfl ?_
    refine s_iload_n rfl (cn rfl) rfl ?_
    refine s_iconst rfl (cn rfl) ?_
    refine s_iadd rfl (cn rfl) ?_
    refine s_icmp_ge rfl (cn rfl) (cn rfl) ⟨by omega, by omega⟩ ⟨by omega, by omega⟩ (fun q8 => ?_) (fun q8 => ?_)
    · refine s_iload_n rfl (cn rfl) rfl ?_
      refine s_ireturn rfl ?_
      exact ⟨ri (by rw [hx, show m = 5 by omega]; exact rs_v (by decide) (by decide) hr h0), rfl⟩
    · have t16 := TE_16 4 (by decide) (by decide) (5 * u + m) (by omega)
      refine s_iload_n rfl (cn rfl) rfl ?_
      refine s_aload_n rfl (cn rfl) rfl ?_
      refine s_getfield rfl (cn rfl) c1 rfl ?_
      refine s_aload_n rfl (cn rfl) rfl ?_
      refine s_iload rfl (cn rfl) rfl ?_
      refine s_iaload rfl (cn rfl) _ rfl c1000002 rfl (by omega) (by decide) (TE_4 _ (by omega)) ?_
      refine s_iaload rfl (cn rfl) _ rfl c2 rfl (by omega) (by decide) rfl ?_
      refine s_iadd rfl (cn rfl) ?_
      refine s_istore_n rfl (cn rfl) ?_
      refine s_iinc rfl (cn rfl) rfl ?_
      refine s_goto rfl (ch rfl) ?_
      exact ih4 (by omega) _ (by rw [hx]; rfl)
  exact lp4 0 (by omega) _ rfl
theorem u_sumW_4_5 {d N S : Nat} {v : Nat → Int} {h : Nat → Option rr_E} (c5 : h 5 = some (.inr (0, [.int (ii ((4 : Nat) : Int)), .ref 6]))) (c6 : h 6 = some (.inl (0, 16, .inl (fun k => ii (v k))))) (hv : ∀ k, -999 ≤ v k ∧ v k ≤ 999) (h0 : v 0 = 0) (c1000002 : h 1000002 = some (.inl (8, 205, .inl (fun j => rr_four.getD j 0)))) {u : Nat} (hr : u < TR 4) : rr_Calls (d + 1) j_Balanced_sumOfWorths [.ref 5, .ref 1000002, .int (ii ((5 * u : Nat) : Int))] (N, S, h) (fun r R => r = some (.int (ii (rsm (row 4 u) v))) ∧ R = (N, S, h)) := by
  refine rr_meth (C := K_Balanced_sumOfWorths) (hd := h_Balanced_sumOfWorths) (mx := 5) rfl rfl (fun K hK => ?_)
  have htr : TR 4 = 41 := rfl
  refine hK _ _ _ _ ?_
  refine s_iconst rfl (cn rfl) ?_
  refine s_istore_n rfl (cn rfl) ?_
  refine s_iload_n rfl (cn rfl) rfl ?_
  refine s_istore rfl (ch rfl) ?_
  have lp4 : ∀ m : Nat, m ≤ 5 → ∀ (x : Int) (hx : x = ms_sm m (fun j => v (TE 4 (5 * u + j)))), K 4 [some (.ref 5), some (.ref 1000002), some (.int (ii ((5 * u : Nat) : Int))), some (.int (ii x)), some (.int (ii ((5 * u + m : Nat) : Int)))] [] (N, S, h) := by
    refine dn (fun m hm ih4 => ?_)
    intro x hx
    refine hK _ _ _ _ ?_
    refine s_iload rfl (cn rfl) rfl ?_
    refine s_iload_n rfl (cn rfl) rfl ?_
    refine s_iconst rfl (cn rfl) ?_
    refine s_iadd rfl (cn rfl) ?_
    refine s_icmp_ge rfl (cn rfl) (cn rfl) ⟨by omega, by omega⟩ ⟨by omega, by omega⟩ (fun q8 => ?_) (fun q8 => ?_)
    · refine s_iload_n rfl (cn rfl) rfl ?_
      refine s_ireturn rfl ?_
      exact ⟨ri (by rw [hx, show m = 5 by omega]; exact rs_v (by decide) (by decide) hr h0), rfl⟩
    · have t16 := TE_16 4 (by decide) (by decide) (5 * u + m) (by omega)
      refine s_iload_n rfl (cn rfl) rfl ?_
      refine s_aload_n rfl (cn rfl) rfl ?_
      refine s_getfield rfl (cn rfl) c5 rfl ?_
      refine s_aload_n rfl (cn rfl) rfl ?_
      refine s_iload rfl (cn rfl) rfl ?_
      refine s_iaload rfl (cn rfl) _ rfl c1000002 rfl (by omega) (by decide) (TE_4 _ (by omega)) ?_
      refine s_iaload rfl (cn rfl) _ rfl c6 rfl (by omega) (by decide) rfl ?_
      refine s_iadd rfl (cn rfl) ?_
      refine s_istore_n rfl (cn rfl) ?_
      refine s_iinc rfl (cn rfl) rfl ?_
      refine s_goto rfl (ch rfl) ?_
      exact ih4 (by omega) _ (by rw [hx]; rfl)
  exact lp4 0 (by omega) _ rfl
