/-! The cost: class and model. -/
theorem u_cost_2 {d N S : Nat} {v : Nat → Int} {h : Nat → Option rr_E} (c1 : h 1 = some (.inr (0, [.int (ii ((2 : Nat) : Int)), .ref 2]))) (c2 : h 2 = some (.inl (0, 16, .inl (fun k => ii (v k))))) (hv : ∀ k, -999 ≤ v k ∧ v k ≤ 999) (h0 : v 0 = 0) (c1000000 : h 1000000 = some (.inl (8, 5, .inl (fun j => rr_two.getD j 0)))) {z : Int} (hz : b3 z) : rr_Calls (d + 3) j_Balanced_costOf [.ref 1, .int (ii z)] (N, S, h) (fun r R => (∃ P Q, CX 2 v P Q ∧ r = some (.long (jj (lw P Q z)))) ∧ R = (N, S, h)) := by
  refine rr_meth (C := K_Balanced_costOf) (hd := h_Balanced_costOf) (mx := 10) rfl rfl (fun K hK => ?_)
  have htr : TR 2 = 1 := rfl
  refine hK _ _ _ _ ?_
  refine s_aload_n rfl (cn rfl) rfl ?_
  refine s_getfield rfl (cn rfl) c1 rfl ?_
  refine s_stat rfl (cn rfl) rfl rfl rfl u_table_2 ?_
  rintro _ _ ⟨rfl, rfl⟩
  refine s_astore_n rfl (cn rfl) ?_
  refine s_lconst rfl (cn rfl) 0 (by decide) ?_
  refine s_lstore_n rfl (cn rfl) ?_
  refine s_lconst rfl (cn rfl) 0 (by decide) ?_
  refine s_lstore rfl (cn rfl) ?_
  refine s_iconst rfl (cn rfl) ?_
  refine s_istore rfl (ch rfl) ?_
  have lp10 : ∀ u : Nat, u ≤ TR 2 → ∀ (t2 b2 : Int) (l8 l9 : Option Value) (hI : ((u = 0 ∧ t2 = 0 ∧ b2 = 0) ∨ ((1 ≤ b2 ∧ b2 ≤ 5) ∧ (-4995 ≤ t2 ∧ t2 ≤ 4995) ∧ (∀ j, j < u → rsm (row 2 j) v * b2 ≤ t2 * rone (row 2 j)) ∧ ∃ j, j < u ∧ t2 = rsm (row 2 j) v ∧ b2 = rone (row 2 j)))), K 10 [some (.ref 1), some (.int (ii z)), some (.ref 1000000), some (.long (jj t2)), none, some (.long (jj b2)), none, some (.int (ii ((5 * u : Nat) : Int))), l8, l9] [] (N, S, h) := by
    refine dn (fun u hu ih10 => ?_)
    intro t2 b2 l8 l9 hI
    refine hK _ _ _ _ ?_
    refine s_iload rfl (cn rfl) rfl ?_
    refine s_iconst rfl (cn rfl) ?_
    refine s_iadd rfl (cn rfl) ?_
    refine s_aload_n rfl (cn rfl) rfl ?_
    refine s_arraylength rfl (cn rfl) c1000000 (by decide) ?_
    refine s_icmp_gt rfl (cn rfl) (cn rfl) ⟨by omega, by omega⟩ ⟨by omega, by omega⟩ (fun q15 => ?_) (fun q15 => ?_)
    · obtain ⟨y1, y2, y3, j0, j1, j2, j3⟩ := hI.resolve_left (by omega)
      refine s_lload_n rfl (cn rfl) rfl ?_
      refine s_lload rfl (cn rfl) rfl ?_
      refine s_iload_n rfl (cn rfl) rfl ?_
      refine s_stat rfl (cn rfl) rfl rfl rfl (u_lowest ⟨by omega, by omega⟩ ⟨by omega, by omega⟩ (by omega) hz) ?_
      rintro _ _ ⟨rfl, rfl⟩
      refine s_lreturn rfl ?_
      exact ⟨⟨t2, b2, ⟨by omega, fun r hr => by
          obtain ⟨j, jj1, rfl⟩ := mem_row (by decide) (by decide) hr
          exact y3 j (by omega), row 2 j0, row_mem (by decide) (by decide) (by omega), by rw [j2, j3]⟩, rfl⟩, rfl⟩
    · refine s_iconst rfl (cn rfl) ?_
      refine s_istore rfl (cn rfl) ?_
      refine s_iload rfl (cn rfl) rfl ?_
      refine s_istore rfl (ch rfl) ?_
      have lp20 : ∀ m : Nat, m ≤ 5 → ∀ (x : Int) (hx : x = ms_sm m (fun j => ((TE 2 (5 * u + j) &&& 1 : Nat) : Int))) (hxb : 0 ≤ x ∧ x ≤ m), K 20 [some (.ref 1), some (.int (ii z)), some (.ref 1000000), some (.long (jj t2)), none, some (.long (jj b2)), none, some (.int (ii ((5 * u : Nat) : Int))), some (.int (ii x)), some (.int (ii ((5 * u + m : Nat) : Int)))] [] (N, S, h) := by
        refine dn (fun m hm ih20 => ?_)
        intro x hx hxb
        refine hK _ _ _ _ ?_
        refine s_iload rfl (cn rfl) rfl ?_
        refine s_iload rfl (cn rfl) rfl ?_
        refine s_iconst rfl (cn rfl) ?_
        refine s_iadd rfl (cn rfl) ?_
        refine s_icmp_ge rfl (cn rfl) (cn rfl) ⟨by omega, by omega⟩ ⟨by omega, by omega⟩ (fun q24 => ?_) (fun q24 => ?_)
        · have hc : x = rone (row 2 u) := by rw [hx, show m = 5 by omega]; exact one_5 (by decide) (by decide) (by omega)
          have rt := row_tot 2 (by decide) (by decide) (row 2 u) (row_mem (by decide) (by decide) (by omega))
          have hsb := rsv_b (n := 2) (r := u) hv h0 (by decide) (by decide) (by omega)
          refine s_aload_n rfl (cn rfl) rfl ?_
          refine s_aload_n rfl (cn rfl) rfl ?_
          refine s_iload rfl (cn rfl) rfl ?_
          refine s_stat rfl (cn rfl) rfl rfl rfl (u_sumW_2_1 (by exact c1) (by exact c2) hv h0 (by exact c1000000) (show u < TR 2 by omega)) ?_
          rintro _ _ ⟨rfl, rfl⟩
          refine s_istore rfl (cn rfl) ?_
          have hib : (0 ≤ b2 ∧ b2 ≤ 5) ∧ (-4995 ≤ t2 ∧ t2 ≤ 4995) := by
            rcases hI with q | q
            · omega
            · exact ⟨⟨by omega, q.1.2⟩, q.2.1⟩
          have o1 := ab_mul (x := rsm (row 2 u) v) (y := b2) (a := 4995) (b := 5) hsb (by omega) (by decide) (by decide)
          have o2 := ab_mul (x := t2) (y := x) (a := 4995) (b := 5) hib.2 (by omega) (by decide) (by decide)
          refine s_lload rfl (cn rfl) rfl ?_
          refine s_lconst rfl (cn rfl) 0 (by decide) ?_
          refine s_lcmp rfl (cn rfl) ?_
          refine s_ifl_eq rfl (cn rfl) (cn rfl) ⟨by omega, by omega⟩ ⟨by omega, by omega⟩ (fun q43 => ?_) (fun q43 => ?_)
          · refine s_iload rfl (cn rfl) rfl ?_
            refine s_i2l rfl (cn rfl) ⟨by omega, by omega⟩ ?_
            refine s_lstore_n rfl (cn rfl) ?_
            refine s_iload rfl (cn rfl) rfl ?_
            refine s_i2l rfl (cn rfl) ⟨by omega, by omega⟩ ?_
            refine s_lstore rfl (cn rfl) ?_
            refine s_iinc rfl (cn rfl) rfl ?_
            refine s_goto rfl (ch rfl) ?_
            first
              | exact ih10 (by omega) _ _ _ _ (Or.inr ⟨by omega, hsb, fun j hj => by
                by_cases e : j = u
                · subst e; rw [hc]; exact Int.le_refl _
                · rcases hI with q | q
                  · omega
                  · have q3 := q.2.2.1 j (by omega)
                    have rj := row_tot 2 (by decide) (by decide) (row 2 j) (row_mem (by decide) (by decide) (by omega))
                    have q5 : b2 ≠ 0 → t2 * x < rsm (row 2 u) v * b2 := fun _ => by first | exact q53 | exact absurd q43 (by omega)
                    have q6 := q5 (by omega)
                    have e1 := Int.mul_le_mul_of_nonneg_right q3 (show 0 ≤ x by omega)
                    have e2 := Int.mul_le_mul_of_nonneg_right (Int.le_of_lt q6) (show 0 ≤ rone (row 2 j) by omega)
                    refine Int.le_of_mul_le_mul_right (a := b2) ?_ (by omega)
                    have i1 : rsm (row 2 j) v * x * b2 = rsm (row 2 j) v * b2 * x := by grind
                    have i2 : t2 * rone (row 2 j) * x = t2 * x * rone (row 2 j) := by grind
                    have i3 : rsm (row 2 u) v * rone (row 2 j) * b2 = rsm (row 2 u) v * b2 * rone (row 2 j) := by grind
                    omega, u, by omega, rfl, hc⟩)
              | exact ih10 (by omega) _ _ _ _ (Or.inr (by
                rcases hI with q | q
                · omega
                · refine ⟨q.1, q.2.1, fun j hj => ?_, ?_⟩
                  · by_cases e : j = u
                    · subst e; rw [← hc]; exact q53
                    · exact q.2.2.1 j (by omega)
                  · obtain ⟨j, j1, j2⟩ := q.2.2.2
                    exact ⟨j, by omega, j2⟩))
          · refine s_iload rfl (cn rfl) rfl ?_
            refine s_i2l rfl (cn rfl) ⟨by omega, by omega⟩ ?_
            refine s_lload rfl (cn rfl) rfl ?_
            refine s_lmul rfl (cn rfl) ?_
            refine s_lload_n rfl (cn rfl) rfl ?_
            refine s_iload rfl (cn rfl) rfl ?_
            refine s_i2l rfl (cn rfl) ⟨by omega, by omega⟩ ?_
            refine s_lmul rfl (cn rfl) ?_
            refine s_lcmp rfl (cn rfl) ?_
            refine s_ifl_le rfl (cn rfl) (cn rfl) ⟨by omega, by omega⟩ ⟨by omega, by omega⟩ (fun q53 => ?_) (fun q53 => ?_)
            · refine s_iinc rfl (cn rfl) rfl ?_
              refine s_goto rfl (ch rfl) ?_
              first
                | exact ih10 (by omega) _ _ _ _ (Or.inr ⟨by omega, hsb, fun j hj => by
                  by_cases e : j = u
                  · subst e; rw [hc]; exact Int.le_refl _
                  · rcases hI with q | q
                    · omega
                    · have q3 := q.2.2.1 j (by omega)
                      have rj := row_tot 2 (by decide) (by decide) (row 2 j) (row_mem (by decide) (by decide) (by omega))
                      have q5 : b2 ≠ 0 → t2 * x < rsm (row 2 u) v * b2 := fun _ => by first | exact q53 | exact absurd q43 (by omega)
                      have q6 := q5 (by omega)
                      have e1 := Int.mul_le_mul_of_nonneg_right q3 (show 0 ≤ x by omega)
                      have e2 := Int.mul_le_mul_of_nonneg_right (Int.le_of_lt q6) (show 0 ≤ rone (row 2 j) by omega)
                      refine Int.le_of_mul_le_mul_right (a := b2) ?_ (by omega)
                      have i1 : rsm (row 2 j) v * x * b2 = rsm (row 2 j) v * b2 * x := by grind
                      have i2 : t2 * rone (row 2 j) * x = t2 * x * rone (row 2 j) := by grind
                      have i3 : rsm (row 2 u) v * rone (row 2 j) * b2 = rsm (row 2 u) v * b2 * rone (row 2 j) := by grind
                      omega, u, by omega, rfl, hc⟩)
                | exact ih10 (by omega) _ _ _ _ (Or.inr (by
                  rcases hI with q | q
                  · omega
                  · refine ⟨q.1, q.2.1, fun j hj => ?_, ?_⟩
                    · by_cases e : j = u
                      · subst e; rw [← hc]; exact q53
                      · exact q.2.2.1 j (by omega)
                    · obtain ⟨j, j1, j2⟩ := q.2.2.2
                      exact ⟨j, by omega, j2⟩))
            · refine s_iload rfl (cn rfl) rfl ?_
              refine s_i2l rfl (cn rfl) ⟨by omega, by omega⟩ ?_
              refine s_lstore_n rfl (cn rfl) ?_
              refine s_iload rfl (cn rfl) rfl ?_
              refine s_i2l rfl (cn rfl) ⟨by omega, by omega⟩ ?_
              refine s_lstore rfl (cn rfl) ?_
              refine s_iinc rfl (cn rfl) rfl ?_
              refine s_goto rfl (ch rfl) ?_
              first
                | exact ih10 (by omega) _ _ _ _ (Or.inr ⟨by omega, hsb, fun j hj => by
                  by_cases e : j = u
                  · subst e; rw [hc]; exact Int.le_refl _
                  · rcases hI with q | q
                    · omega
                    · have q3 := q.2.2.1 j (by omega)
                      have rj := row_tot 2 (by decide) (by decide) (row 2 j) (row_mem (by decide) (by decide) (by omega))
                      have q5 : b2 ≠ 0 → t2 * x < rsm (row 2 u) v * b2 := fun _ => by first | exact q53 | exact absurd q43 (by omega)
                      have q6 := q5 (by omega)
                      have e1 := Int.mul_le_mul_of_nonneg_right q3 (show 0 ≤ x by omega)
                      have e2 := Int.mul_le_mul_of_nonneg_right (Int.le_of_lt q6) (show 0 ≤ rone (row 2 j) by omega)
                      refine Int.le_of_mul_le_mul_right (a := b2) ?_ (by omega)
                      have i1 : rsm (row 2 j) v * x * b2 = rsm (row 2 j) v * b2 * x := by grind
                      have i2 : t2 * rone (row 2 j) * x = t2 * x * rone (row 2 j) := by grind
                      have i3 : rsm (row 2 u) v * rone (row 2 j) * b2 = rsm (row 2 u) v * b2 * rone (row 2 j) := by grind
                      omega, u, by omega, rfl, hc⟩)
                | exact ih10 (by omega) _ _ _ _ (Or.inr (by
                  rcases hI with q | q
                  · omega
                  · refine ⟨q.1, q.2.1, fun j hj => ?_, ?_⟩
                    · by_cases e : j = u
                      · subst e; rw [← hc]; exact q53
                      · exact q.2.2.1 j (by omega)
                    · obtain ⟨j, j1, j2⟩ := q.2.2.2
                      exact ⟨j, by omega, j2⟩))
        · have t16 := TE_16 2 (by decide) (by decide) (5 * u + m) (by omega)
          have a1 := and1_b (TE 2 (5 * u + m))
          refine s_iload rfl (cn rfl) rfl ?_
          refine s_aload_n rfl (cn rfl) rfl ?_
          refine s_iload rfl (cn rfl) rfl ?_
          refine s_iaload rfl (cn rfl) _ rfl c1000000 rfl (by omega) (by decide) (TE_2 _ (by omega)) ?_
          refine s_iconst rfl (cn rfl) ?_
          refine s_iand rfl (cn rfl) _ (bi_and _ 1) ?_
          refine s_iadd rfl (cn rfl) ?_
          refine s_istore rfl (cn rfl) ?_
          refine s_iinc rfl (cn rfl) rfl ?_
          refine s_goto rfl (ch rfl) ?_
          exact ih20 (by omega) _ (by rw [hx]; rfl) (by omega)
      exact lp20 0 (by omega) _ rfl (by omega)
  exact lp10 0 (by omega) 0 0 _ _ (Or.inl ⟨rfl, rfl, rfl⟩)
theorem u_cost_3 {d N S : Nat} {v : Nat → Int} {h : Nat → Option rr_E} (c1 : h 1 = some (.inr (0, [.int (ii ((3 : Nat) : Int)), .ref 2]))) (c2 : h 2 = some (.inl (0, 16, .inl (fun k => ii (v k))))) (hv : ∀ k, -999 ≤ v k ∧ v k ≤ 999) (h0 : v 0 = 0) (c1000001 : h 1000001 = some (.inl (8, 25, .inl (fun j => rr_three.getD j 0)))) {z : Int} (hz : b3 z) : rr_Calls (d + 3) j_Balanced_costOf [.ref 1, .int (ii z)] (N, S, h) (fun r R => (∃ P Q, CX 3 v P Q ∧ r = some (.long (jj (lw P Q z)))) ∧ R = (N, S, h)) := by
  refine rr_meth (C := K_Balanced_costOf) (hd := h_Balanced_costOf) (mx := 10) rfl rfl (fun K hK => ?_)
  have htr : TR 3 = 5 := rfl
  refine hK _ _ _ _ ?_
  refine s_aload_n rfl (cn rfl) rfl ?_
  refine s_getfield rfl (cn rfl) c1 rfl ?_
  refine s_stat rfl (cn rfl) rfl rfl rfl u_table_3 ?_
  rintro _ _ ⟨rfl, rfl⟩
  refine s_astore_n rfl (cn rfl) ?_
  refine s_lconst rfl (cn rfl) 0 (by decide) ?_
  refine s_lstore_n rfl (cn rfl) ?_
  refine s_lconst rfl (cn rfl) 0 (by decide) ?_
  refine s_lstore rfl (cn rfl) ?_
  refine s_iconst rfl (cn rfl) ?_
  refine s_istore rfl (ch rfl) ?_
  have lp10 : ∀ u : Nat, u ≤ TR 3 → ∀ (t2 b2 : Int) (l8 l9 : Option Value) (hI : ((u = 0 ∧ t2 = 0 ∧ b2 = 0) ∨ ((1 ≤ b2 ∧ b2 ≤ 5) ∧ (-4995 ≤ t2 ∧ t2 ≤ 4995) ∧ (∀ j, j < u → rsm (row 3 j) v * b2 ≤ t2 * rone (row 3 j)) ∧ ∃ j, j < u ∧ t2 = rsm (row 3 j) v ∧ b2 = rone (row 3 j)))), K 10 [some (.ref 1), some (.int (ii z)), some (.ref 1000001), some (.long (jj t2)), none, some (.long (jj b2)), none, some (.int (ii ((5 * u : Nat) : Int))), l8, l9] [] (N, S, h) := by
    refine dn (fun u hu ih10 => ?_)
    intro t2 b2 l8 l9 hI
    refine hK _ _ _ _ ?_
    refine s_iload rfl (cn rfl) rfl ?_
    refine s_iconst rfl (cn rfl) ?_
    refine s_iadd rfl (cn rfl) ?_
    refine s_aload_n rfl (cn rfl) rfl ?_
    refine s_arraylength rfl (cn rfl) c1000001 (by decide) ?_
    refine s_icmp_gt rfl (cn rfl) (cn rfl) ⟨by omega, by omega⟩ ⟨by omega, by omega⟩ (fun q15 => ?_) (fun q15 => ?_)
    · obtain ⟨y1, y2, y3, j0, j1, j2, j3⟩ := hI.resolve_left (by omega)
      refine s_lload_n rfl (cn rfl) rfl ?_
      refine s_lload rfl (cn rfl) rfl ?_
      refine s_iload_n rfl (cn rfl) rfl ?_
      refine s_stat rfl (cn rfl) rfl rfl rfl (u_lowest ⟨by omega, by omega⟩ ⟨by omega, by omega⟩ (by omega) hz) ?_
      rintro _ _ ⟨rfl, rfl⟩
      refine s_lreturn rfl ?_
      exact ⟨⟨t2, b2, ⟨by omega, fun r hr => by
          obtain ⟨j, jj1, rfl⟩ := mem_row (by decide) (by decide) hr
          exact y3 j (by omega), row 3 j0, row_mem (by decide) (by decide) (by omega), by rw [j2, j3]⟩, rfl⟩, rfl⟩
    · refine s_iconst rfl (cn rfl) ?_
      refine s_istore rfl (cn rfl) ?_
      refine s_iload rfl (cn rfl) rfl ?_
      refine s_istore rfl (ch rfl) ?_
      have lp20 : ∀ m : Nat, m ≤ 5 → ∀ (x : Int) (hx : x = ms_sm m (fun j => ((TE 3 (5 * u + j) &&& 1 : Nat) : Int))) (hxb : 0 ≤ x ∧ x ≤ m), K 20 [some (.ref 1), some (.int (ii z)), some (.ref 1000001), some (.long (jj t2)), none, some (.long (jj b2)), none, some (.int (ii ((5 * u : Nat) : Int))), some (.int (ii x)), some (.int (ii ((5 * u + m : Nat) : Int)))] [] (N, S, h) := by
        refine dn (fun m hm ih20 => ?_)
        intro x hx hxb
        refine hK _ _ _ _ ?_
        refine s_iload rfl (cn rfl) rfl ?_
        refine s_iload rfl (cn rfl) rfl ?_
        refine s_iconst rfl (cn rfl) ?_
        refine s_iadd rfl (cn rfl) ?_
        refine s_icmp_ge rfl (cn rfl) (cn rfl) ⟨by omega, by omega⟩ ⟨by omega, by omega⟩ (fun q24 => ?_) (fun q24 => ?_)
        · have hc : x = rone (row 3 u) := by rw [hx, show m = 5 by omega]; exact one_5 (by decide) (by decide) (by omega)
          have rt := row_tot 3 (by decide) (by decide) (row 3 u) (row_mem (by decide) (by decide) (by omega))
          have hsb := rsv_b (n := 3) (r := u) hv h0 (by decide) (by decide) (by omega)
          refine s_aload_n rfl (cn rfl) rfl ?_
          refine s_aload_n rfl (cn rfl) rfl ?_
          refine s_iload rfl (cn rfl) rfl ?_
          refine s_stat rfl (cn rfl) rfl rfl rfl (u_sumW_3_1 (by exact c1) (by exact c2) hv h0 (by exact c1000001) (show u < TR 3 by omega)) ?_
          rintro _ _ ⟨rfl, rfl⟩
          refine s_istore rfl (cn rfl) ?_
          have hib : (0 ≤ b2 ∧ b2 ≤ 5) ∧ (-4995 ≤ t2 ∧ t2 ≤ 4995) := by
            rcases hI with q | q
            · omega
            · exact ⟨⟨by omega, q.1.2⟩, q.2.1⟩
          have o1 := ab_mul (x := rsm (row 3 u) v) (y := b2) (a := 4995) (b := 5) hsb (by omega) (by decide) (by decide)
          have o2 := ab_mul (x := t2) (y := x) (a := 4995) (b := 5) hib.2 (by omega) (by decide) (by decide)
          refine s_lload rfl (cn rfl) rfl ?_
          refine s_lconst rfl (cn rfl) 0 (by decide) ?_
          refine s_lcmp rfl (cn rfl) ?_
          refine s_ifl_eq rfl (cn rfl) (cn rfl) ⟨by omega, by omega⟩ ⟨by omega, by omega⟩ (fun q43 => ?_) (fun q43 => ?_)
          · refine s_iload rfl (cn rfl) rfl ?_
            refine s_i2l rfl (cn rfl) ⟨by omega, by omega⟩ ?_
            refine s_lstore_n rfl (cn rfl) ?_
            refine s_iload rfl (cn rfl) rfl ?_
            refine s_i2l rfl (cn rfl) ⟨by omega, by omega⟩ ?_
            refine s_lstore rfl (cn rfl) ?_
            refine s_iinc rfl (cn rfl) rfl ?_
            refine s_goto rfl (ch rfl) ?_
            first
              | exact ih10 (by omega) _ _ _ _ (Or.inr ⟨by omega, hsb, fun j hj => by
                by_cases e : j = u
                · subst e; rw [hc]; exact Int.le_refl _
                · rcases hI with q | q
                  · omega
                  · have q3 := q.2.2.1 j (by omega)
                    have rj := row_tot 3 (by decide) (by decide) (row 3 j) (row_mem (by decide) (by decide) (by omega))
                    have q5 : b2 ≠ 0 → t2 * x < rsm (row 3 u) v * b2 := fun _ => by first | exact q53 | exact absurd q43 (by omega)
                    have q6 := q5 (by omega)
                    have e1 := Int.mul_le_mul_of_nonneg_right q3 (show 0 ≤ x by omega)
                    have e2 := Int.mul_le_mul_of_nonneg_right (Int.le_of_lt q6) (show 0 ≤ rone (row 3 j) by omega)
                    refine Int.le_of_mul_le_mul_right (a := b2) ?_ (by omega)
                    have i1 : rsm (row 3 j) v * x * b2 = rsm (row 3 j) v * b2 * x := by grind
                    have i2 : t2 * rone (row 3 j) * x = t2 * x * rone (row 3 j) := by grind
                    have i3 : rsm (row 3 u) v * rone (row 3 j) * b2 = rsm (row 3 u) v * b2 * rone (row 3 j) := by grind
                    omega, u, by omega, rfl, hc⟩)
              | exact ih10 (by omega) _ _ _ _ (Or.inr (by
                rcases hI with q | q
                · omega
                · refine ⟨q.1, q.2.1, fun j hj => ?_, ?_⟩
                  · by_cases e : j = u
                    · subst e; rw [← hc]; exact q53
                    · exact q.2.2.1 j (by omega)
                  · obtain ⟨j, j1, j2⟩ := q.2.2.2
                    exact ⟨j, by omega, j2⟩))
          · refine s_iload rfl (cn rfl) rfl ?_
            refine s_i2l rfl (cn rfl) ⟨by omega, by omega⟩ ?_
            refine s_lload rfl (cn rfl) rfl ?_
            refine s_lmul rfl (cn rfl) ?_
            refine s_lload_n rfl (cn rfl) rfl ?_
            refine s_iload rfl (cn rfl) rfl ?_
            refine s_i2l rfl (cn rfl) ⟨by omega, by omega⟩ ?_
            refine s_lmul rfl (cn rfl) ?_
            refine s_lcmp rfl (cn rfl) ?_
            refine s_ifl_le rfl (cn rfl) (cn rfl) ⟨by omega, by omega⟩ ⟨by omega, by omega⟩ (fun q53 => ?_) (fun q53 => ?_)
            · refine s_iinc rfl (cn rfl) rfl ?_
              refine s_goto rfl (ch rfl) ?_
              first
                | exact ih10 (by omega) _ _ _ _ (Or.inr ⟨by omega, hsb, fun j hj => by
                  by_cases e : j = u
                  · subst e; rw [hc]; exact Int.le_refl _
                  · rcases hI with q | q
                    · omega
                    · have q3 := q.2.2.1 j (by omega)
                      have rj := row_tot 3 (by decide) (by decide) (row 3 j) (row_mem (by decide) (by decide) (by omega))
                      have q5 : b2 ≠ 0 → t2 * x < rsm (row 3 u) v * b2 := fun _ => by first | exact q53 | exact absurd q43 (by omega)
                      have q6 := q5 (by omega)
                      have e1 := Int.mul_le_mul_of_nonneg_right q3 (show 0 ≤ x by omega)
                      have e2 := Int.mul_le_mul_of_nonneg_right (Int.le_of_lt q6) (show 0 ≤ rone (row 3 j) by omega)
                      refine Int.le_of_mul_le_mul_right (a := b2) ?_ (by omega)
                      have i1 : rsm (row 3 j) v * x * b2 = rsm (row 3 j) v * b2 * x := by grind
                      have i2 : t2 * rone (row 3 j) * x = t2 * x * rone (row 3 j) := by grind
                      have i3 : rsm (row 3 u) v * rone (row 3 j) * b2 = rsm (row 3 u) v * b2 * rone (row 3 j) := by grind
                      omega, u, by omega, rfl, hc⟩)
                | exact ih10 (by omega) _ _ _ _ (Or.inr (by
                  rcases hI with q | q
                  · omega
                  · refine ⟨q.1, q.2.1, fun j hj => ?_, ?_⟩
                    · by_cases e : j = u
                      · subst e; rw [← hc]; exact q53
                      · exact q.2.2.1 j (by omega)
                    · obtain ⟨j, j1, j2⟩ := q.2.2.2
                      exact ⟨j, by omega, j2⟩))
            · refine s_iload rfl (cn rfl) rfl ?_
              refine s_i2l rfl (cn rfl) ⟨by omega, by omega⟩ ?_
              refine s_lstore_n rfl (cn rfl) ?_
              refine s_iload rfl (cn rfl) rfl ?_
              refine s_i2l rfl (cn rfl) ⟨by omega, by omega⟩ ?_
              refine s_lstore rfl (cn rfl) ?_
              refine s_iinc rfl (cn rfl) rfl ?_
              refine s_goto rfl (ch rfl) ?_
              first
                | exact ih10 (by omega) _ _ _ _ (Or.inr ⟨by omega, hsb, fun j hj => by
                  by_cases e : j = u
                  · subst e; rw [hc]; exact Int.le_refl _
                  · rcases hI with q | q
                    · omega
                    · have q3 := q.2.2.1 j (by omega)
                      have rj := row_tot 3 (by decide) (by decide) (row 3 j) (row_mem (by decide) (by decide) (by omega))
                      have q5 : b2 ≠ 0 → t2 * x < rsm (row 3 u) v * b2 := fun _ => by first | exact q53 | exact absurd q43 (by omega)
                      have q6 := q5 (by omega)
                      have e1 := Int.mul_le_mul_of_nonneg_right q3 (show 0 ≤ x by omega)
                      have e2 := Int.mul_le_mul_of_nonneg_right (Int.le_of_lt q6) (show 0 ≤ rone (row 3 j) by omega)
                      refine Int.le_of_mul_le_mul_right (a := b2) ?_ (by omega)
                      have i1 : rsm (row 3 j) v * x * b2 = rsm (row 3 j) v * b2 * x := by grind
                      have i2 : t2 * rone (row 3 j) * x = t2 * x * rone (row 3 j) := by grind
                      have i3 : rsm (row 3 u) v * rone (row 3 j) * b2 = rsm (row 3 u) v * b2 * rone (row 3 j) := by grind
                      omega, u, by omega, rfl, hc⟩)
                | exact ih10 (by omega) _ _ _ _ (Or.inr (by
                  rcases hI with q | q
                  · omega
                  · refine ⟨q.1, q.2.1, fun j hj => ?_, ?_⟩
                    · by_cases e : j = u
                      · subst e; rw [← hc]; exact q53
                      · exact q.2.2.1 j (by omega)
                    · obtain ⟨j, j1, j2⟩ := q.2.2.2
                      exact ⟨j, by omega, j2⟩))
        · have t16 := TE_16 3 (by decide) (by decide) (5 * u + m) (by omega)
          have a1 := and1_b (TE 3 (5 * u + m))
          refine s_iload rfl (cn rfl) rfl ?_
          refine s_aload_n rfl (cn rfl) rfl ?_
          refine s_iload rfl (cn rfl) rfl ?_
          refine s_iaload rfl (cn rfl) _ rfl c1000001 rfl (by omega) (by decide) (TE_3 _ (by omega)) ?_
          refine s_iconst rfl (cn rfl) ?_
          refine s_iand rfl (cn rfl) _ (bi_and _ 1) ?_
          refine s_iadd rfl (cn rfl) ?_
          refine s_istore rfl (cn rfl) ?_
          refine s_iinc rfl (cn rfl) rfl ?_
          refine s_goto rfl (ch rfl) ?_
          exact ih20 (by omega) _ (by rw [hx]; rfl) (by omega)
      exact lp20 0 (by omega) _ rfl (by omega)
  exact lp10 0 (by omega) 0 0 _ _ (Or.inl ⟨rfl, rfl, rfl⟩)
theorem u_cost_4 {d N S : Nat} {v : Nat → Int} {h : Nat → Option rr_E} (c1 : h 1 = some (.inr (0, [.int (ii ((4 : Nat) : Int)), .ref 2]))) (c2 : h 2 = some (.inl (0, 16, .inl (fun k => ii (v k))))) (hv : ∀ k, -999 ≤ v k ∧ v k ≤ 999) (h0 : v 0 = 0) (c1000002 : h 1000002 = some (.inl (8, 205, .inl (fun j => rr_four.getD j 0)))) {z : Int} (hz : b3 z) : rr_Calls (d + 3) j_Balanced_costOf [.ref 1, .int (ii z)] (N, S, h) (fun r R => (∃ P Q, CX 4 v P Q ∧ r = some (.long (jj (lw P Q z)))) ∧ R = (N, S, h)) := by
  refine rr_meth (C := K_Balanced_costOf) (hd := h_Balanced_costOf) (mx := 10) rfl rfl (fun K hK => ?_)
  have htr : TR 4 = 41 := rfl
  refine hK _ _ _ _ ?_
  refine s_aload_n rfl (cn rfl) rfl ?_
  refine s_getfield rfl (cn rfl) c1 rfl ?_
  refine s_stat rfl (cn rfl) rfl rfl rfl u_table_4 ?_
  rintro _ _ ⟨rfl, rfl⟩
  refine s_astore_n rfl (cn rfl) ?_
  refine s_lconst rfl (cn rfl) 0 (by decide) ?_
  refine s_lstore_n rfl (cn rfl) ?_
  refine s_lconst rfl (cn rfl) 0 (by decide) ?_
  refine s_lstore rfl (cn rfl) ?_
  refine s_iconst rfl (cn rfl) ?_
  refine s_istore rfl (ch rfl) ?_
  have lp10 : ∀ u : Nat, u ≤ TR 4 → ∀ (t2 b2 : Int) (l8 l9 : Option Value) (hI : ((u = 0 ∧ t2 = 0 ∧ b2 = 0) ∨ ((1 ≤ b2 ∧ b2 ≤ 5) ∧ (-4995 ≤ t2 ∧ t2 ≤ 4995) ∧ (∀ j, j < u → rsm (row 4 j) v * b2 ≤ t2 * rone (row 4 j)) ∧ ∃ j, j < u ∧ t2 = rsm (row 4 j) v ∧ b2 = rone (row 4 j)))), K 10 [some (.ref 1), some (.int (ii z)), some (.ref 1000002), some (.long (jj t2)), none, some (.long (jj b2)), none, some (.int (ii ((5 * u : Nat) : Int))), l8, l9] [] (N, S, h) := by
    refine dn (fun u hu ih10 => ?_)
    intro t2 b2 l8 l9 hI
    refine hK _ _ _ _ ?_
    refine s_iload rfl (cn rfl) rfl ?_
    refine s_iconst rfl (cn rfl) ?_
    refine s_iadd rfl (cn rfl) ?_
    refine s_aload_n rfl (cn rfl) rfl ?_
    refine s_arraylength rfl (cn rfl) c1000002 (by decide) ?_
    refine s_icmp_gt rfl (cn rfl) (cn rfl) ⟨by omega, by omega⟩ ⟨by omega, by omega⟩ (fun q15 => ?_) (fun q15 => ?_)
    · obtain ⟨y1, y2, y3, j0, j1, j2, j3⟩ := hI.resolve_left (by omega)
      refine s_lload_n rfl (cn rfl) rfl ?_
      refine s_lload rfl (cn rfl) rfl ?_
      refine s_iload_n rfl (cn rfl) rfl ?_
      refine s_stat rfl (cn rfl) rfl rfl rfl (u_lowest ⟨by omega, by omega⟩ ⟨by omega, by omega⟩ (by omega) hz) ?_
      rintro _ _ ⟨rfl, rfl⟩
      refine s_lreturn rfl ?_
      exact ⟨⟨t2, b2, ⟨by omega, fun r hr => by
          obtain ⟨j, jj1, rfl⟩ := mem_row (by decide) (by decide) hr
          exact y3 j (by omega), row 4 j0, row_mem (by decide) (by decide) (by omega), by rw [j2, j3]⟩, rfl⟩, rfl⟩
    · refine s_iconst rfl (cn rfl) ?_
      refine s_istore rfl (cn rfl) ?_
      refine s_iload rfl (cn rfl) rfl ?_
      refine s_istore rfl (ch rfl) ?_
      have lp20 : ∀ m : Nat, m ≤ 5 → ∀ (x : Int) (hx : x = ms_sm m (fun j => ((TE 4 (5 * u + j) &&& 1 : Nat) : Int))) (hxb : 0 ≤ x ∧ x ≤ m), K 20 [some (.ref 1), some (.int (ii z)), some (.ref 1000002), some (.long (jj t2)), none, some (.long (jj b2)), none, some (.int (ii ((5 * u : Nat) : Int))), some (.int (ii x)), some (.int (ii ((5 * u + m : Nat) : Int)))] [] (N, S, h) := by
        refine dn (fun m hm ih20 => ?_)
        intro x hx hxb
        refine hK _ _ _ _ ?_
        refine s_iload rfl (cn rfl) rfl ?_
        refine s_iload rfl (cn rfl) rfl ?_
        refine s_iconst rfl (cn rfl) ?_
        refine s_iadd rfl (cn rfl) ?_
        refine s_icmp_ge rfl (cn rfl) (cn rfl) ⟨by omega, by omega⟩ ⟨by omega, by omega⟩ (fun q24 => ?_) (fun q24 => ?_)
        · have hc : x = rone (row 4 u) := by rw [hx, show m = 5 by omega]; exact one_5 (by decide) (by decide) (by omega)
          have rt := row_tot 4 (by decide) (by decide) (row 4 u) (row_mem (by decide) (by decide) (by omega))
          have hsb := rsv_b (n := 4) (r := u) hv h0 (by decide) (by decide) (by omega)
          refine s_aload_n rfl (cn rfl) rfl ?_
          refine s_aload_n rfl (cn rfl) rfl ?_
          refine s_iload rfl (cn rfl) rfl ?_
          refine s_stat rfl (cn rfl) rfl rfl rfl (u_sumW_4_1 (by exact c1) (by exact c2) hv h0 (by exact c1000002) (show u < TR 4 by omega)) ?_
          rintro _ _ ⟨rfl, rfl⟩
          refine s_istore rfl (cn rfl) ?_
          have hib : (0 ≤ b2 ∧ b2 ≤ 5) ∧ (-4995 ≤ t2 ∧ t2 ≤ 4995) := by
            rcases hI with q | q
            · omega
            · exact ⟨⟨by omega, q.1.2⟩, q.2.1⟩
          have o1 := ab_mul (x := rsm (row 4 u) v) (y := b2) (a := 4995) (b := 5) hsb (by omega) (by decide) (by decide)
          have o2 := ab_mul (x := t2) (y := x) (a := 4995) (b := 5) hib.2 (by omega) (by decide) (by decide)
          refine s_lload rfl (cn rfl) rfl ?_
          refine s_lconst rfl (cn rfl) 0 (by decide) ?_
          refine s_lcmp rfl (cn rfl) ?_
          refine s_ifl_eq rfl (cn rfl) (cn rfl) ⟨by omega, by omega⟩ ⟨by omega, by omega⟩ (fun q43 => ?_) (fun q43 => ?_)
          · refine s_iload rfl (cn rfl) rfl ?_
            refine s_i2l rfl (cn rfl) ⟨by omega, by omega⟩ ?_
            refine s_lstore_n rfl (cn rfl) ?_
            refine s_iload rfl (cn rfl) rfl ?_
            refine s_i2l rfl (cn rfl) ⟨by omega, by omega⟩ ?_
            refine s_lstore rfl (cn rfl) ?_
            refine s_iinc rfl (cn rfl) rfl ?_
            refine s_goto rfl (ch rfl) ?_
            first
              | exact ih10 (by omega) _ _ _ _ (Or.inr ⟨by omega, hsb, fun j hj => by
                by_cases e : j = u
                · subst e; rw [hc]; exact Int.le_refl _
                · rcases hI with q | q
                  · omega
                  · have q3 := q.2.2.1 j (by omega)
                    have rj := row_tot 4 (by decide) (by decide) (row 4 j) (row_mem (by decide) (by decide) (by omega))
                    have q5 : b2 ≠ 0 → t2 * x < rsm (row 4 u) v * b2 := fun _ => by first | exact q53 | exact absurd q43 (by omega)
                    have q6 := q5 (by omega)
                    have e1 := Int.mul_le_mul_of_nonneg_right q3 (show 0 ≤ x by omega)
                    have e2 := Int.mul_le_mul_of_nonneg_right (Int.le_of_lt q6) (show 0 ≤ rone (row 4 j) by omega)
                    refine Int.le_of_mul_le_mul_right (a := b2) ?_ (by omega)
                    have i1 : rsm (row 4 j) v * x * b2 = rsm (row 4 j) v * b2 * x := by grind
                    have i2 : t2 * rone (row 4 j) * x = t2 * x * rone (row 4 j) := by grind
                    have i3 : rsm (row 4 u) v * rone (row 4 j) * b2 = rsm (row 4 u) v * b2 * rone (row 4 j) := by grind
                    omega, u, by omega, rfl, hc⟩)
              | exact ih10 (by omega) _ _ _ _ (Or.inr (by
                rcases hI with q | q
                · omega
                · refine ⟨q.1, q.2.1, fun j hj => ?_, ?_⟩
                  · by_cases e : j = u
                    · subst e; rw [← hc]; exact q53
                    · exact q.2.2.1 j (by omega)
                  · obtain ⟨j, j1, j2⟩ := q.2.2.2
                    exact ⟨j, by omega, j2⟩))
          · refine s_iload rfl (cn rfl) rfl ?_
            refine s_i2l rfl (cn rfl) ⟨by omega, by omega⟩ ?_
            refine s_lload rfl (cn rfl) rfl ?_
            refine s_lmul rfl (cn rfl) ?_
            refine s_lload_n rfl (cn rfl) rfl ?_
            refine s_iload rfl (cn rfl) rfl ?_
            refine s_i2l rfl (cn rfl) ⟨by omega, by omega⟩ ?_
            refine s_lmul rfl (cn rfl) ?_
            refine s_lcmp rfl (cn rfl) ?_
            refine s_ifl_le rfl (cn rfl) (cn rfl) ⟨by omega, by omega⟩ ⟨by omega, by omega⟩ (fun q53 => ?_) (fun q53 => ?_)
            · refine s_iinc rfl (cn rfl) rfl ?_
              refine s_goto rfl (ch rfl) ?_
              first
                | exact ih10 (by omega) _ _ _ _ (Or.inr ⟨by omega, hsb, fun j hj => by
                  by_cases e : j = u
                  · subst e; rw [hc]; exact Int.le_refl _
                  · rcases hI with q | q
                    · omega
                    · have q3 := q.2.2.1 j (by omega)
                      have rj := row_tot 4 (by decide) (by decide) (row 4 j) (row_mem (by decide) (by decide) (by omega))
                      have q5 : b2 ≠ 0 → t2 * x < rsm (row 4 u) v * b2 := fun _ => by first | exact q53 | exact absurd q43 (by omega)
                      have q6 := q5 (by omega)
                      have e1 := Int.mul_le_mul_of_nonneg_right q3 (show 0 ≤ x by omega)
                      have e2 := Int.mul_le_mul_of_nonneg_right (Int.le_of_lt q6) (show 0 ≤ rone (row 4 j) by omega)
                      refine Int.le_of_mul_le_mul_right (a := b2) ?_ (by omega)
                      have i1 : rsm (row 4 j) v * x * b2 = rsm (row 4 j) v * b2 * x := by grind
                      have i2 : t2 * rone (row 4 j) * x = t2 * x * rone (row 4 j) := by grind
                      have i3 : rsm (row 4 u) v * rone (row 4 j) * b2 = rsm (row 4 u) v * b2 * rone (row 4 j) := by grind
                      omega, u, by omega, rfl, hc⟩)
                | exact ih10 (by omega) _ _ _ _ (Or.inr (by
                  rcases hI with q | q
                  · omega
                  · refine ⟨q.1, q.2.1, fun j hj => ?_, ?_⟩
                    · by_cases e : j = u
                      · subst e; rw [← hc]; exact q53
                      · exact q.2.2.1 j (by omega)
                    · obtain ⟨j, j1, j2⟩ := q.2.2.2
                      exact ⟨j, by omega, j2⟩))
            · refine s_iload rfl (cn rfl) rfl ?_
              refine s_i2l rfl (cn rfl) ⟨by omega, by omega⟩ ?_
              refine s_lstore_n rfl (cn rfl) ?_
              refine s_iload rfl (cn rfl) rfl ?_
              refine s_i2l rfl (cn rfl) ⟨by omega, by omega⟩ ?_
              refine s_lstore rfl (cn rfl) ?_
              refine s_iinc rfl (cn rfl) rfl ?_
              refine s_goto rfl (ch rfl) ?_
              first
                | exact ih10 (by omega) _ _ _ _ (Or.inr ⟨by omega, hsb, fun j hj => by
                  by_cases e : j = u
                  · subst e; rw [hc]; exact Int.le_refl _
                  · rcases hI with q | q
                    · omega
                    · have q3 := q.2.2.1 j (by omega)
                      have rj := row_tot 4 (by decide) (by decide) (row 4 j) (row_mem (by decide) (by decide) (by omega))
                      have q5 : b2 ≠ 0 → t2 * x < rsm (row 4 u) v * b2 := fun _ => by first | exact q53 | exact absurd q43 (by omega)
                      have q6 := q5 (by omega)
                      have e1 := Int.mul_le_mul_of_nonneg_right q3 (show 0 ≤ x by omega)
                      have e2 := Int.mul_le_mul_of_nonneg_right (Int.le_of_lt q6) (show 0 ≤ rone (row 4 j) by omega)
                      refine Int.le_of_mul_le_mul_right (a := b2) ?_ (by omega)
                      have i1 : rsm (row 4 j) v * x * b2 = rsm (row 4 j) v * b2 * x := by grind
                      have i2 : t2 * rone (row 4 j) * x = t2 * x * rone (row 4 j) := by grind
                      have i3 : rsm (row 4 u) v * rone (row 4 j) * b2 = rsm (row 4 u) v * b2 * rone (row 4 j) := by grind
                      omega, u, by omega, rfl, hc⟩)
                | exact ih10 (by omega) _ _ _ _ (Or.inr (by
                  rcases hI with q | q
                  · omega
                  · refine ⟨q.1, q.2.1, fun j hj => ?_, ?_⟩
                    · by_cases e : j = u
                      · subst e; rw [← hc]; exact q53
                      · exact q.2.2.1 j (by omega)
                    · obtain ⟨j, j1, j2⟩ := q.2.2.2
                      exact ⟨j, by omega, j2⟩))
        · have t16 := TE_16 4 (by decide) (by decide) (5 * u + m) (by omega)
          have a1 := and1_b (TE 4 (5 * u + m))
          refine s_iload rfl (cn rfl) rfl ?_
          refine s_aload_n rfl (cn rfl) rfl ?_
          refine s_iload rfl (cn rfl) rfl ?_
          refine s_iaload rfl (cn rfl) _ rfl c1000002 rfl (by omega) (by decide) (TE_4 _ (by omega)) ?_
          refine s_iconst rfl (cn rfl) ?_
          refine s_iand rfl (cn rfl) _ (bi_and _ 1) ?_
          refine s_iadd rfl (cn rfl) ?_
          refine s_istore rfl (cn rfl) ?_
          refine s_iinc rfl (cn rfl) rfl ?_
          refine s_goto rfl (ch rfl) ?_
          exact ih20 (by omega) _ (by rw [hx]; rfl) (by omega)
      exact lp20 0 (by omega) _ rfl (by omega)
  exact lp10 0 (by omega) 0 0 _ _ (Or.inl ⟨rfl, rfl, rfl⟩)
theorem CX_ex {n : Nat} {v : Nat → Int} (hn : 2 ≤ n ∧ n ≤ 4) (hv : ∀ k, -999 ≤ v k ∧ v k ≤ 999) (h0 : v 0 = 0) : ∃ P Q, CX n v P Q := by
  have hk : n = 2 ∨ n = 3 ∨ n = 4 := by omega
  rcases hk with rfl | rfl | rfl
  · obtain ⟨_, _, _, _, ⟨P, Q, h, _⟩, _⟩ := u_cost_2 (d := 0) (N := 0) (S := 0) (h := nuH 2 v) rfl rfl hv h0 rfl (z := 0) (by decide)
    exact ⟨P, Q, h⟩
  · obtain ⟨_, _, _, _, ⟨P, Q, h, _⟩, _⟩ := u_cost_3 (d := 0) (N := 0) (S := 0) (h := nuH 3 v) rfl rfl hv h0 rfl (z := 0) (by decide)
    exact ⟨P, Q, h⟩
  · obtain ⟨_, _, _, _, ⟨P, Q, h, _⟩, _⟩ := u_cost_4 (d := 0) (N := 0) (S := 0) (h := nuH 4 v) rfl rfl hv h0 rfl (z := 0) (by decide)
    exact ⟨P, Q, h⟩
noncomputable def cPQ (n : Nat) (v : Nat → Int) : Int × Int := Classical.epsilon (fun t => CX n v t.1 t.2)
noncomputable def sp_cost (n : Nat) (v : Nat → Int) (z : Int) : Int := if z = 0 ∨ z = 1 then lw (cPQ n v).1 (cPQ n v).2 z else -9223372036854775808
theorem cPQ_s {n : Nat} {v : Nat → Int} (hn : 2 ≤ n ∧ n ≤ 4) (hv : ∀ k, -999 ≤ v k ∧ v k ≤ 999) (h0 : v 0 = 0) : CX n v (cPQ n v).1 (cPQ n v).2 := by
  obtain ⟨P, Q, h⟩ := CX_ex hn hv h0
  exact Classical.epsilon_spec (p := fun t : Int × Int => CX n v t.1 t.2) ⟨(P, Q), h⟩
theorem cost_e {n : Nat} {v : Nat → Int} (hn : 2 ≤ n ∧ n ≤ 4) (hv : ∀ k, -999 ≤ v k ∧ v k ≤ 999) (h0 : v 0 = 0) {P Q z : Int} (h : CX n v P Q) (hz : z = 0 ∨ z = 1) : lw P Q z = sp_cost n v z := by
  have s := cPQ_s hn hv h0
  have e : sp_cost n v z = _ := if_pos hz
  rw [e]
  exact lw_eq h.1 s.1 (CX_u hn h s)
theorem u_cost {d N S n : Nat} {v : Nat → Int} {h : Nat → Option rr_E} (hn : 2 ≤ n ∧ n ≤ 4) (c1 : h 1 = some (.inr (0, [.int (ii (n : Int)), .ref 2]))) (c2 : h 2 = some (.inl (0, 16, .inl (fun k => ii (v k))))) (hv : ∀ k, -999 ≤ v k ∧ v k ≤ 999) (h0 : v 0 = 0) (c1000000 : h 1000000 = some (.inl (8, 5, .inl (fun j => rr_two.getD j 0)))) (c1000001 : h 1000001 = some (.inl (8, 25, .inl (fun j => rr_three.getD j 0)))) (c1000002 : h 1000002 = some (.inl (8, 205, .inl (fun j => rr_four.getD j 0)))) {z : Int} (hz : z = 0 ∨ z = 1) : rr_Calls (d + 3) j_Balanced_costOf [.ref 1, .int (ii z)] (N, S, h) (fun r R => r = some (.long (jj (sp_cost n v z))) ∧ R = (N, S, h)) := by
  have hk : n = 2 ∨ n = 3 ∨ n = 4 := by omega
  rcases hk with rfl | rfl | rfl
  · refine calls_w (u_cost_2 c1 c2 hv h0 c1000000 (by omega)) ?_
    rintro _ _ ⟨⟨P, Q, k, rfl⟩, rfl⟩
    exact ⟨rl (cost_e hn hv h0 k hz), rfl⟩
  · refine calls_w (u_cost_3 c1 c2 hv h0 c1000001 (by omega)) ?_
    rintro _ _ ⟨⟨P, Q, k, rfl⟩, rfl⟩
    exact ⟨rl (cost_e hn hv h0 k hz), rfl⟩
  · refine calls_w (u_cost_4 c1 c2 hv h0 c1000002 (by omega)) ?_
    rintro _ _ ⟨⟨P, Q, k, rfl⟩, rfl⟩
    exact ⟨rl (cost_e hn hv h0 k hz), rfl⟩
theorem d_cost {d N S n : Nat} {v : Nat → Int} {h : Nat → Option rr_E} (hn : 2 ≤ n ∧ n ≤ 4) (c1 : h 1 = some (.inr (0, [.int (ii (n : Int)), .ref 2]))) (c2 : h 2 = some (.inl (0, 16, .inl (fun k => ii (v k))))) (hv : ∀ k, -999 ≤ v k ∧ v k ≤ 999) (h0 : v 0 = 0) (c1000000 : h 1000000 = some (.inl (8, 5, .inl (fun j => rr_two.getD j 0)))) (c1000001 : h 1000001 = some (.inl (8, 25, .inl (fun j => rr_three.getD j 0)))) (c1000002 : h 1000002 = some (.inl (8, 205, .inl (fun j => rr_four.getD j 0)))) {sl im : Int} (c0 : h 0 = some (DO sl im)) {z : Int} (hz : b3 z) : rr_Calls (d + 4) j_Desk_cost [.ref 0, .int (ii z)] (N, S, h) (fun r R => r = some (.long (jj (sp_cost n v z))) ∧ R = (N, S, h)) := by
  refine rr_meth (C := K_Desk_cost) (hd := h_Desk_cost) (mx := 2) rfl rfl (fun K hK => ?_)
  refine hK _ _ _ _ ?_
  refine s_iload_n rfl (cn rfl) rfl ?_
  refine s_stat rfl (cn rfl) rfl rfl rfl (u_fpart (by omega)) ?_
  rintro _ _ ⟨rfl, rfl⟩
  refine s_ifb_eq rfl (cn rfl) (cn rfl) (fun q2 => ?_) (fun q2 => ?_)
  · refine s_ldc2_w rfl (cn rfl) ?_
    refine s_lreturn rfl ?_
    first
      | exact ⟨rl (if_neg q2).symm, rfl⟩
      | exact ⟨rfl, rfl⟩
  · refine s_aload_n rfl (cn rfl) rfl ?_
    refine s_getfield rfl (cn rfl) c0 rfl ?_
    refine s_iload_n rfl (cn rfl) rfl ?_
    refine s_stat rfl (cn rfl) rfl rfl rfl (u_cost hn c1 c2 hv h0 c1000000 c1000001 c1000002 q2) ?_
    rintro _ _ ⟨rfl, rfl⟩
    refine s_goto rfl (cn rfl) ?_
    refine s_lreturn rfl ?_
    first
      | exact ⟨rl (if_neg q2).symm, rfl⟩
      | exact ⟨rfl, rfl⟩
theorem m_setsUp0 {d N S n : Nat} {kp tp pt wr fa dm be od sm le sc ba bb ti rk ts tm pa wa : Int} {h : Nat → Option rr_E} (hn : 2 ≤ n ∧ n ≤ 4)  {D : Nat} {ce di z : Int} (c58 : h 58 = some (MO (n : Int) kp tp pt wr fa dm ce di be od sm le sc ba bb ti rk ts tm pa wa)) {Rw : Nat → Nat} {rs x : Nat → Int} (c66 : h 66 = some (.inl (0, 5, .inl (fun k => ii ((Rw k : Nat) : Int))))) (c67 : h 67 = some (.inl (1, 5, .inr (.inl (fun k => jj (rs k)))))) (c68 : h 68 = some (.inl (1, 30, .inr (.inl (fun k => jj (x k)))))) (hR : ∀ k, Rw k < 16) (hz : z = 0 ∧ D = n) : rr_Calls (d + 2) j_Model_setsUp [.ref 58, .int (ii z)] (N, S, h) (fun r R => r = none ∧ ∃ (h' : Nat → Option rr_E) (x' : Nat → Int), R = (N, S, h') ∧ fr [58, 68] h h' ∧ h' 58 = some (MO (n : Int) kp tp pt wr fa dm ce (D : Int) be od sm le sc ba bb ti rk ts tm pa wa) ∧ h' 68 = some (.inl (1, 30, .inr (.inl (fun k => jj (x' k))))) ∧ ∀ q, q < D → ∀ c, c ≤ D → x' (6 * q + c) = gm n D 0 Rw rs q c) := by
  refine rr_meth (C := K_Model_setsUp) (hd := h_Model_setsUp) (mx := 4) rfl rfl (fun K hK => ?_)
  have hD5 : D ≤ 5 := by omega
  have o66 := c66
  have o67 := c67
  refine hK _ _ _ _ ?_
  refine s_aload_n rfl (cn rfl) rfl ?_
  refine s_iload_n rfl (cn rfl) rfl ?_
  refine s_if_eq rfl (cn rfl) (cn rfl) ⟨by omega, by omega⟩ (fun q2 => ?_) (fun q2 => ?_)
  · refine s_aload_n rfl (cn rfl) rfl ?_
    refine s_getfield rfl (cn rfl) c58 rfl ?_
    refine s_puti rfl (cn rfl) rfl c58 rfl ?_
    refine s_iconst rfl (cn rfl) ?_
    refine s_istore_n rfl (ch rfl) ?_
    have lp13 : ∀ r : Nat, r ≤ D → ∀ (h' : Nat → Option rr_E) (x' : Nat → Int) (l3 : Option Value) (c58 : h' 58 = some (MO (n : Int) kp tp pt wr fa dm ce (D : Int) be od sm le sc ba bb ti rk ts tm pa wa)) (c68 : h' 68 = some (.inl (1, 30, .inr (.inl (fun k => jj (x' k)))))) (hf : fr [58, 68] h h') (hx : ∀ q, q < r → ∀ c, c ≤ D → x' (6 * q + c) = gm n D 0 Rw rs q c), K 13 [some (.ref 58), some (.int (ii z)), some (.int (ii (r : Int))), l3] [] (N, S, h') := by
      refine dn (fun r hr ih13 => ?_)
      intro h' x' l3 c58 c68 hf hx
      have c66 := (hf 66 (by decide)).trans c66
      have c67 := (hf 67 (by decide)).trans c67
      refine hK _ _ _ _ ?_
      refine s_iload_n rfl (cn rfl) rfl ?_
      refine s_aload_n rfl (cn rfl) rfl ?_
      refine s_getfield rfl (cn rfl) c58 rfl ?_
      refine s_icmp_ge rfl (cn rfl) (cn rfl) ⟨by omega, by omega⟩ ⟨by omega, by omega⟩ (fun q16 => ?_) (fun q16 => ?_)
      · refine s_return rfl ?_
        exact ⟨rfl, h', x', rfl, hf, c58, c68, fun q hq c hc => hx q (by omega) c hc⟩
      · refine s_iconst rfl (cn rfl) ?_
        refine s_istore_n rfl (ch rfl) ?_
        have lp19 : ∀ p : Nat, p ≤ n → ∀ (h2 : Nat → Option rr_E) (y : Nat → Int) (c58 : h2 58 = some (MO (n : Int) kp tp pt wr fa dm ce (D : Int) be od sm le sc ba bb ti rk ts tm pa wa)) (c68 : h2 68 = some (.inl (1, 30, .inr (.inl (fun k => jj (y k)))))) (hf2 : fr [58, 68] h h2) (hy1 : ∀ q, q < r → ∀ c, c ≤ D → y (6 * q + c) = gm n D 0 Rw rs q c) (hy2 : ∀ c, c < p → y (6 * r + c) = st_bt (Rw r) c), K 19 [some (.ref 58), some (.int (ii z)), some (.int (ii (r : Int))), some (.int (ii (p : Int)))] [] (N, S, h2) := by
          refine dn (fun p hp ih19 => ?_)
          intro h2 y c58 c68 hf2 hy1 hy2
          have c66 := (hf2 66 (by decide)).trans o66
          have c67 := (hf2 67 (by decide)).trans o67
          have hRr := hR r
          have hb1 := bt_01 (Rw r) p
          refine hK _ _ _ _ ?_
          refine s_iload_n rfl (cn rfl) rfl ?_
          refine s_aload_n rfl (cn rfl) rfl ?_
          refine s_getfield rfl (cn rfl) c58 rfl ?_
          refine s_icmp_ge rfl (cn rfl) (cn rfl) ⟨by omega, by omega⟩ ⟨by omega, by omega⟩ (fun q22 => ?_) (fun q22 => ?_)
          · refine s_iload_n rfl (cn rfl) rfl ?_
            refine s_if_eq rfl (cn rfl) (cn rfl) ⟨by omega, by omega⟩ (fun q44 => ?_) (fun q44 => ?_)
            · first
              | (exfalso; omega)
              | skip
                refine s_aload_n rfl (cn rfl) rfl ?_
                refine s_getfield rfl (cn rfl) c58 rfl ?_
                refine s_bipush rfl (cn rfl) (by decide) ?_
                refine s_iload_n rfl (cn rfl) rfl ?_
                refine s_imul rfl (cn rfl) ?_
                refine s_aload_n rfl (cn rfl) rfl ?_
                refine s_getfield rfl (cn rfl) c58 rfl ?_
                refine s_iadd rfl (cn rfl) ?_
                refine s_aload_n rfl (cn rfl) rfl ?_
                refine s_getfield rfl (cn rfl) c58 rfl ?_
                refine s_iload_n rfl (cn rfl) rfl ?_
                refine s_laload rfl (cn rfl) _ rfl c67 (by omega) (by decide) rfl ?_
                refine s_lastore rfl (cn rfl) (6 * r + D) (by omega) c68 (by omega) (by decide) ?_
                refine s_iinc rfl (cn rfl) rfl ?_
                refine s_goto rfl (ch rfl) ?_
                first
                  | exact ih13 (by omega) _ _ _ c58 rr_set_eq (fr_s (by decide) hf2) (su_0 (by omega) (by omega) hy1 (fun c hc => hy2 c (by omega)))
                  | exact ih13 (by omega) _ _ _ c58 rr_set_eq (fr_s (by decide) (fr_s (by decide) hf2)) (su_1 (by omega) (by omega) (by first | rw [if_pos (by omega)] | rw [if_neg (by omega)]) hy1 (fun c hc => hy2 c (by omega)))
            · first
              | (exfalso; omega)
              | skip
                refine s_aload_n rfl (cn rfl) rfl ?_
                refine s_getfield rfl (cn rfl) c58 rfl ?_
                refine s_bipush rfl (cn rfl) (by decide) ?_
                refine s_iload_n rfl (cn rfl) rfl ?_
                refine s_imul rfl (cn rfl) ?_
                refine s_aload_n rfl (cn rfl) rfl ?_
                refine s_getfield rfl (cn rfl) c58 rfl ?_
                refine s_iadd rfl (cn rfl) ?_
                refine s_iload_n rfl (cn rfl) rfl ?_
                refine s_aload_n rfl (cn rfl) rfl ?_
                refine s_getfield rfl (cn rfl) c58 rfl ?_
                refine s_icmp_ge rfl (cn rfl) (cn rfl) ⟨by omega, by omega⟩ ⟨by omega, by omega⟩ (fun q56 => ?_) (fun q56 => ?_)
                · refine s_lconst rfl (cn rfl) 1 (by decide) ?_
                  refine s_lastore rfl (cn rfl) (6 * r + n) (by omega) c68 (by omega) (by decide) ?_
                  refine s_aload_n rfl (cn rfl) rfl ?_
                  refine s_getfield rfl (cn rfl) c58 rfl ?_
                  refine s_bipush rfl (cn rfl) (by decide) ?_
                  refine s_iload_n rfl (cn rfl) rfl ?_
                  refine s_imul rfl (cn rfl) ?_
                  refine s_aload_n rfl (cn rfl) rfl ?_
                  refine s_getfield rfl (cn rfl) c58 rfl ?_
                  refine s_iadd rfl (cn rfl) ?_
                  refine s_aload_n rfl (cn rfl) rfl ?_
                  refine s_getfield rfl (cn rfl) c58 rfl ?_
                  refine s_iload_n rfl (cn rfl) rfl ?_
                  refine s_laload rfl (cn rfl) _ rfl c67 (by omega) (by decide) rfl ?_
                  refine s_lastore rfl (cn rfl) (6 * r + D) (by omega) rr_set_eq (by omega) (by decide) ?_
                  refine s_iinc rfl (cn rfl) rfl ?_
                  refine s_goto rfl (ch rfl) ?_
                  first
                    | exact ih13 (by omega) _ _ _ c58 rr_set_eq (fr_s (by decide) hf2) (su_0 (by omega) (by omega) hy1 (fun c hc => hy2 c (by omega)))
                    | exact ih13 (by omega) _ _ _ c58 rr_set_eq (fr_s (by decide) (fr_s (by decide) hf2)) (su_1 (by omega) (by omega) (by first | rw [if_pos (by omega)] | rw [if_neg (by omega)]) hy1 (fun c hc => hy2 c (by omega)))
                · refine s_lconst rfl (cn rfl) 0 (by decide) ?_
                  refine s_goto rfl (cn rfl) ?_
                  refine s_lastore rfl (cn rfl) (6 * r + n) (by omega) c68 (by omega) (by decide) ?_
                  refine s_aload_n rfl (cn rfl) rfl ?_
                  refine s_getfield rfl (cn rfl) c58 rfl ?_
                  refine s_bipush rfl (cn rfl) (by decide) ?_
                  refine s_iload_n rfl (cn rfl) rfl ?_
                  refine s_imul rfl (cn rfl) ?_
                  refine s_aload_n rfl (cn rfl) rfl ?_
                  refine s_getfield rfl (cn rfl) c58 rfl ?_
                  refine s_iadd rfl (cn rfl) ?_
                  refine s_aload_n rfl (cn rfl) rfl ?_
                  refine s_getfield rfl (cn rfl) c58 rfl ?_
                  refine s_iload_n rfl (cn rfl) rfl ?_
                  refine s_laload rfl (cn rfl) _ rfl c67 (by omega) (by decide) rfl ?_
                  refine s_lastore rfl (cn rfl) (6 * r + D) (by omega) rr_set_eq (by omega) (by decide) ?_
                  refine s_iinc rfl (cn rfl) rfl ?_
                  refine s_goto rfl (ch rfl) ?_
                  first
                    | exact ih13 (by omega) _ _ _ c58 rr_set_eq (fr_s (by decide) hf2) (su_0 (by omega) (by omega) hy1 (fun c hc => hy2 c (by omega)))
                    | exact ih13 (by omega) _ _ _ c58 rr_set_eq (fr_s (by decide) (fr_s (by decide) hf2)) (su_1 (by omega) (by omega) (by first | rw [if_pos (by omega)] | rw [if_neg (by omega)]) hy1 (fun c hc => hy2 c (by omega)))
          · refine s_aload_n rfl (cn rfl) rfl ?_
            refine s_getfield rfl (cn rfl) c58 rfl ?_
            refine s_bipush rfl (cn rfl) (by decide) ?_
            refine s_iload_n rfl (cn rfl) rfl ?_
            refine s_imul rfl (cn rfl) ?_
            refine s_iload_n rfl (cn rfl) rfl ?_
            refine s_iadd rfl (cn rfl) ?_
            refine s_aload_n rfl (cn rfl) rfl ?_
            refine s_getfield rfl (cn rfl) c58 rfl ?_
            refine s_iload_n rfl (cn rfl) rfl ?_
            refine s_iaload rfl (cn rfl) _ rfl c66 rfl (by omega) (by decide) rfl ?_
            refine s_iload_n rfl (cn rfl) rfl ?_
            refine s_stat rfl (cn rfl) rfl rfl rfl (m_has (by omega) (by omega)) ?_
            rintro _ _ ⟨rfl, rfl⟩
            refine s_ifb_eq rfl (cn rfl) (cn rfl) (fun q36 => ?_) (fun q36 => ?_)
            · refine s_lconst rfl (cn rfl) 0 (by decide) ?_
              refine s_lastore rfl (cn rfl) (6 * r + p) (by omega) c68 (by omega) (by decide) ?_
              refine s_iinc rfl (cn rfl) rfl ?_
              refine s_goto rfl (ch rfl) ?_
              exact ih19 (by omega) _ _ c58 rr_set_eq (fr_s (by decide) hf2) (fun q hq c hc => (fu_n (by omega)).trans (hy1 q hq c hc)) (su_r (by omega) hy2)
            · refine s_lconst rfl (cn rfl) 1 (by decide) ?_
              refine s_goto rfl (cn rfl) ?_
              refine s_lastore rfl (cn rfl) (6 * r + p) (by omega) c68 (by omega) (by decide) ?_
              refine s_iinc rfl (cn rfl) rfl ?_
              refine s_goto rfl (ch rfl) ?_
              exact ih19 (by omega) _ _ c58 rr_set_eq (fr_s (by decide) hf2) (fun q hq c hc => (fu_n (by omega)).trans (hy1 q hq c hc)) (su_r (by omega) hy2)
        exact lp19 0 (by omega) _ x' c58 c68 hf hx (fun c hc => absurd hc (by omega))
    exact lp13 0 (by omega) _ x _ (by first | (rw [← show (n : Int) + 1 = (D : Int) by omega]; exact rr_set_eq) | (rw [← show (n : Int) = (D : Int) by omega]; exact rr_set_eq)) c68 (fr_s (by decide) fr_r) (fun q hq => absurd hq (by omega))
  · refine s_aload_n rfl (cn rfl) rfl ?_
    refine s_getfield rfl (cn rfl) c58 rfl ?_
    refine s_iconst rfl (cn rfl) ?_
    refine s_iadd rfl (cn rfl) ?_
    refine s_goto rfl (cn rfl) ?_
    refine s_puti rfl (cn rfl) rfl c58 rfl ?_
    refine s_iconst rfl (cn rfl) ?_
    refine s_istore_n rfl (ch rfl) ?_
    have lp13 : ∀ r : Nat, r ≤ D → ∀ (h' : Nat → Option rr_E) (x' : Nat → Int) (l3 : Option Value) (c58 : h' 58 = some (MO (n : Int) kp tp pt wr fa dm ce (D : Int) be od sm le sc ba bb ti rk ts tm pa wa)) (c68 : h' 68 = some (.inl (1, 30, .inr (.inl (fun k => jj (x' k)))))) (hf : fr [58, 68] h h') (hx : ∀ q, q < r → ∀ c, c ≤ D → x' (6 * q + c) = gm n D 0 Rw rs q c), K 13 [some (.ref 58), some (.int (ii z)), some (.int (ii (r : Int))), l3] [] (N, S, h') := by
      refine dn (fun r hr ih13 => ?_)
      intro h' x' l3 c58 c68 hf hx
      have c66 := (hf 66 (by decide)).trans c66
      have c67 := (hf 67 (by decide)).trans c67
      refine hK _ _ _ _ ?_
      refine s_iload_n rfl (cn rfl) rfl ?_
      refine s_aload_n rfl (cn rfl) rfl ?_
      refine s_getfield rfl (cn rfl) c58 rfl ?_
      refine s_icmp_ge rfl (cn rfl) (cn rfl) ⟨by omega, by omega⟩ ⟨by omega, by omega⟩ (fun q16 => ?_) (fun q16 => ?_)
      · refine s_return rfl ?_
        exact ⟨rfl, h', x', rfl, hf, c58, c68, fun q hq c hc => hx q (by omega) c hc⟩
      · refine s_iconst rfl (cn rfl) ?_
        refine s_istore_n rfl (ch rfl) ?_
        have lp19 : ∀ p : Nat, p ≤ n → ∀ (h2 : Nat → Option rr_E) (y : Nat → Int) (c58 : h2 58 = some (MO (n : Int) kp tp pt wr fa dm ce (D : Int) be od sm le sc ba bb ti rk ts tm pa wa)) (c68 : h2 68 = some (.inl (1, 30, .inr (.inl (fun k => jj (y k)))))) (hf2 : fr [58, 68] h h2) (hy1 : ∀ q, q < r → ∀ c, c ≤ D → y (6 * q + c) = gm n D 0 Rw rs q c) (hy2 : ∀ c, c < p → y (6 * r + c) = st_bt (Rw r) c), K 19 [some (.ref 58), some (.int (ii z)), some (.int (ii (r : Int))), some (.int (ii (p : Int)))] [] (N, S, h2) := by
          refine dn (fun p hp ih19 => ?_)
          intro h2 y c58 c68 hf2 hy1 hy2
          have c66 := (hf2 66 (by decide)).trans o66
          have c67 := (hf2 67 (by decide)).trans o67
          have hRr := hR r
          have hb1 := bt_01 (Rw r) p
          refine hK _ _ _ _ ?_
          refine s_iload_n rfl (cn rfl) rfl ?_
          refine s_aload_n rfl (cn rfl) rfl ?_
          refine s_getfield rfl (cn rfl) c58 rfl ?_
          refine s_icmp_ge rfl (cn rfl) (cn rfl) ⟨by omega, by omega⟩ ⟨by omega, by omega⟩ (fun q22 => ?_) (fun q22 => ?_)
          · refine s_iload_n rfl (cn rfl) rfl ?_
            refine s_if_eq rfl (cn rfl) (cn rfl) ⟨by omega, by omega⟩ (fun q44 => ?_) (fun q44 => ?_)
            · first
              | (exfalso; omega)
              | skip
                refine s_aload_n rfl (cn rfl) rfl ?_
                refine s_getfield rfl (cn rfl) c58 rfl ?_
                refine s_bipush rfl (cn rfl) (by decide) ?_
                refine s_iload_n rfl (cn rfl) rfl ?_
                refine s_imul rfl (cn rfl) ?_
                refine s_aload_n rfl (cn rfl) rfl ?_
                refine s_getfield rfl (cn rfl) c58 rfl ?_
                refine s_iadd rfl (cn rfl) ?_
                refine s_aload_n rfl (cn rfl) rfl ?_
                refine s_getfield rfl (cn rfl) c58 rfl ?_
                refine s_iload_n rfl (cn rfl) rfl ?_
                refine s_laload rfl (cn rfl) _ rfl c67 (by omega) (by decide) rfl ?_
                refine s_lastore rfl (cn rfl) (6 * r + D) (by omega) c68 (by omega) (by decide) ?_
                refine s_iinc rfl (cn rfl) rfl ?_
                refine s_goto rfl (ch rfl) ?_
                first
                  | exact ih13 (by omega) _ _ _ c58 rr_set_eq (fr_s (by decide) hf2) (su_0 (by omega) (by omega) hy1 (fun c hc => hy2 c (by omega)))
                  | exact ih13 (by omega) _ _ _ c58 rr_set_eq (fr_s (by decide) (fr_s (by decide) hf2)) (su_1 (by omega) (by omega) (by first | rw [if_pos (by omega)] | rw [if_neg (by omega)]) hy1 (fun c hc => hy2 c (by omega)))
            · first
              | (exfalso; omega)
              | skip
                refine s_aload_n rfl (cn rfl) rfl ?_
                refine s_getfield rfl (cn rfl) c58 rfl ?_
                refine s_bipush rfl (cn rfl) (by decide) ?_
                refine s_iload_n rfl (cn rfl) rfl ?_
                refine s_imul rfl (cn rfl) ?_
                refine s_aload_n rfl (cn rfl) rfl ?_
                refine s_getfield rfl (cn rfl) c58 rfl ?_
                refine s_iadd rfl (cn rfl) ?_
                refine s_iload_n rfl (cn rfl) rfl ?_
                refine s_aload_n rfl (cn rfl) rfl ?_
                refine s_getfield rfl (cn rfl) c58 rfl ?_
                refine s_icmp_ge rfl (cn rfl) (cn rfl) ⟨by omega, by omega⟩ ⟨by omega, by omega⟩ (fun q56 => ?_) (fun q56 => ?_)
                · refine s_lconst rfl (cn rfl) 1 (by decide) ?_
                  refine s_lastore rfl (cn rfl) (6 * r + n) (by omega) c68 (by omega) (by decide) ?_
                  refine s_aload_n rfl (cn rfl) rfl ?_
                  refine s_getfield rfl (cn rfl) c58 rfl ?_
                  refine s_bipush rfl (cn rfl) (by decide) ?_
                  refine s_iload_n rfl (cn rfl) rfl ?_
                  refine s_imul rfl (cn rfl) ?_
                  refine s_aload_n rfl (cn rfl) rfl ?_
                  refine s_getfield rfl (cn rfl) c58 rfl ?_
                  refine s_iadd rfl (cn rfl) ?_
                  refine s_aload_n rfl (cn rfl) rfl ?_
                  refine s_getfield rfl (cn rfl) c58 rfl ?_
                  refine s_iload_n rfl (cn rfl) rfl ?_
                  refine s_laload rfl (cn rfl) _ rfl c67 (by omega) (by decide) rfl ?_
                  refine s_lastore rfl (cn rfl) (6 * r + D) (by omega) rr_set_eq (by omega) (by decide) ?_
                  refine s_iinc rfl (cn rfl) rfl ?_
                  refine s_goto rfl (ch rfl) ?_
                  first
                    | exact ih13 (by omega) _ _ _ c58 rr_set_eq (fr_s (by decide) hf2) (su_0 (by omega) (by omega) hy1 (fun c hc => hy2 c (by omega)))
                    | exact ih13 (by omega) _ _ _ c58 rr_set_eq (fr_s (by decide) (fr_s (by decide) hf2)) (su_1 (by omega) (by omega) (by first | rw [if_pos (by omega)] | rw [if_neg (by omega)]) hy1 (fun c hc => hy2 c (by omega)))
                · refine s_lconst rfl (cn rfl) 0 (by decide) ?_
                  refine s_goto rfl (cn rfl) ?_
                  refine s_lastore rfl (cn rfl) (6 * r + n) (by omega) c68 (by omega) (by decide) ?_
                  refine s_aload_n rfl (cn rfl) rfl ?_
                  refine s_getfield rfl (cn rfl) c58 rfl ?_
                  refine s_bipush rfl (cn rfl) (by decide) ?_
                  refine s_iload_n rfl (cn rfl) rfl ?_
                  refine s_imul rfl (cn rfl) ?_
                  refine s_aload_n rfl (cn rfl) rfl ?_
                  refine s_getfield rfl (cn rfl) c58 rfl ?_
                  refine s_iadd rfl (cn rfl) ?_
                  refine s_aload_n rfl (cn rfl) rfl ?_
                  refine s_getfield rfl (cn rfl) c58 rfl ?_
                  refine s_iload_n rfl (cn rfl) rfl ?_
                  refine s_laload rfl (cn rfl) _ rfl c67 (by omega) (by decide) rfl ?_
                  refine s_lastore rfl (cn rfl) (6 * r + D) (by omega) rr_set_eq (by omega) (by decide) ?_
                  refine s_iinc rfl (cn rfl) rfl ?_
                  refine s_goto rfl (ch rfl) ?_
                  first
                    | exact ih13 (by omega) _ _ _ c58 rr_set_eq (fr_s (by decide) hf2) (su_0 (by omega) (by omega) hy1 (fun c hc => hy2 c (by omega)))
                    | exact ih13 (by omega) _ _ _ c58 rr_set_eq (fr_s (by decide) (fr_s (by decide) hf2)) (su_1 (by omega) (by omega) (by first | rw [if_pos (by omega)] | rw [if_neg (by omega)]) hy1 (fun c hc => hy2 c (by omega)))
          · refine s_aload_n rfl (cn rfl) rfl ?_
            refine s_getfield rfl (cn rfl) c58 rfl ?_
            refine s_bipush rfl (cn rfl) (by decide) ?_
            refine s_iload_n rfl (cn rfl) rfl ?_
            refine s_imul rfl (cn rfl) ?_
            refine s_iload_n rfl (cn rfl) rfl ?_
            refine s_iadd rfl (cn rfl) ?_
            refine s_aload_n rfl (cn rfl) rfl ?_
            refine s_getfield rfl (cn rfl) c58 rfl ?_
            refine s_iload_n rfl (cn rfl) rfl ?_
            refine s_iaload rfl (cn rfl) _ rfl c66 rfl (by omega) (by decide) rfl ?_
            refine s_iload_n rfl (cn rfl) rfl ?_
            refine s_stat rfl (cn rfl) rfl rfl rfl (m_has (by omega) (by omega)) ?_
            rintro _ _ ⟨rfl, rfl⟩
            refine s_ifb_eq rfl (cn rfl) (cn rfl) (fun q36 => ?_) (fun q36 => ?_)
            · refine s_lconst rfl (cn rfl) 0 (by decide) ?_
              refine s_lastore rfl (cn rfl) (6 * r + p) (by omega) c68 (by omega) (by decide) ?_
              refine s_iinc rfl (cn rfl) rfl ?_
              refine s_goto rfl (ch rfl) ?_
              exact ih19 (by omega) _ _ c58 rr_set_eq (fr_s (by decide) hf2) (fun q hq c hc => (fu_n (by omega)).trans (hy1 q hq c hc)) (su_r (by omega) hy2)
            · refine s_lconst rfl (cn rfl) 1 (by decide) ?_
              refine s_goto rfl (cn rfl) ?_
              refine s_lastore rfl (cn rfl) (6 * r + p) (by omega) c68 (by omega) (by decide) ?_
              refine s_iinc rfl (cn rfl) rfl ?_
              refine s_goto rfl (ch rfl) ?_
              exact ih19 (by omega) _ _ c58 rr_set_eq (fr_s (by decide) hf2) (fun q hq c hc => (fu_n (by omega)).trans (hy1 q hq c hc)) (su_r (by omega) hy2)
        exact lp19 0 (by omega) _ x' c58 c68 hf hx (fun c hc => absurd hc (by omega))
    exact lp13 0 (by omega) _ x _ (by first | (rw [← show (n : Int) + 1 = (D : Int) by omega]; exact rr_set_eq) | (rw [← show (n : Int) = (D : Int) by omega]; exact rr_set_eq)) c68 (fr_s (by decide) fr_r) (fun q hq => absurd hq (by omega))
theorem m_isSolved0 {d N S n : Nat} {kp tp pt wr fa dm be od sm le sc ba bb ti rk ts tm pa wa : Int} {h : Nat → Option rr_E} (hn : 2 ≤ n ∧ n ≤ 4)  {D : Nat} {ce di z : Int} (c58 : h 58 = some (MO (n : Int) kp tp pt wr fa dm ce di be od sm le sc ba bb ti rk ts tm pa wa)) {Rw : Nat → Nat} {rs x : Nat → Int} (c66 : h 66 = some (.inl (0, 5, .inl (fun k => ii ((Rw k : Nat) : Int))))) (c67 : h 67 = some (.inl (1, 5, .inr (.inl (fun k => jj (rs k)))))) (c68 : h 68 = some (.inl (1, 30, .inr (.inl (fun k => jj (x k)))))) (hR : ∀ k, Rw k < 16) (hz : z = 0 ∧ D = n) {ab : Nat → Int} (c69 : h 69 = some (.inl (1, 5, .inr (.inl (fun k => jj (ab k)))))) {B : Int} (hB : 0 ≤ B ∧ B ≤ 5000000000000) (hrs : ∀ q, q < D → -B ≤ rs q ∧ rs q ≤ B) : rr_Calls (d + 3) j_Model_isSolved [.ref 58, .int (ii z)] (N, S, h) (fun r R => (r = some (.int (ii 1)) ∧ ∃ (h' : Nat → Option rr_E) (x' a' : Nat → Int) (b' : Int), R = (N, S, h') ∧ fr [58, 68, 69] h h' ∧ h' 58 = some (MO (n : Int) kp tp pt wr fa dm ce (D : Int) b' od sm le sc ba bb ti rk ts tm pa wa) ∧ h' 68 = some (.inl (1, 30, .inr (.inl (fun k => jj (x' k))))) ∧ h' 69 = some (.inl (1, 5, .inr (.inl (fun k => jj (a' k))))) ∧ 0 < b' ∧ b' ≤ 128 ∧ gj_sol D (gm n D 0 Rw rs) a' b' ∧ (∀ z w, gj_sol D (gm n D 0 Rw rs) z w → ∀ q, q < D → b' * z q = w * a' q) ∧ (∀ q, q < D → -(65536 * B) ≤ a' q ∧ a' q ≤ 65536 * B) ∧ (-(256 * B) ≤ a' (D - 1) ∧ a' (D - 1) ≤ 256 * B)) ∨ (r = some (.int (ii 0)) ∧ ∃ (h' : Nat → Option rr_E) (x' : Nat → Int), R = (N, S, h') ∧ fr [58, 68, 69] h h' ∧ h' 58 = some (MO (n : Int) kp tp pt wr fa dm ce (D : Int) be od sm le sc ba bb ti rk ts tm pa wa) ∧ h' 68 = some (.inl (1, 30, .inr (.inl (fun k => jj (x' k))))) ∧ h' 69 = some (.inl (1, 5, .inr (.inl (fun k => jj (ab k))))) ∧ ∃ z : Nat → Int, (∃ j, j < D ∧ z j ≠ 0) ∧ ∀ q, q < D → ms_sm D (fun c => (gm n D 0 Rw rs) q c * z c) = 0)) := by
  refine rr_meth (C := K_Model_isSolved) (hd := h_Model_isSolved) (mx := 12) rfl rfl (fun K hK => ?_)
  have hD5 : D ≤ 5 := by omega
  have o69 := c69
  have o66 := c66
  have o67 := c67
  refine hK _ _ _ _ ?_
  refine s_aload_n rfl (cn rfl) rfl ?_
  refine s_iload_n rfl (cn rfl) rfl ?_
  refine s_virt rfl (cn rfl) rfl rfl c58 rfl (m_setsUp0 hn c58 c66 c67 c68 hR hz) ?_
  rintro _ _ ⟨rfl, h1, x1, rfl, hf1, c58, c68, hx1⟩
  have c69 := (hf1 69 (by decide)).trans c69
  refine s_lconst rfl (cn rfl) 1 (by decide) ?_
  refine s_lstore_n rfl (cn rfl) ?_
  refine s_iconst rfl (cn rfl) ?_
  refine s_istore rfl (ch rfl) ?_
  have lp7 : ∀ k : Nat, k ≤ D → ∀ (h' : Nat → Option rr_E) (x' : Nat → Int) (last : Int) (l5 l6 l7 l8 l9 l10 l11 : Option Value) (c58 : h' 58 = some (MO (n : Int) kp tp pt wr fa dm ce (D : Int) be od sm le sc ba bb ti rk ts tm pa wa)) (c68 : h' 68 = some (.inl (1, 30, .inr (.inl (fun k => jj (x' k)))))) (c69 : h' 69 = some (.inl (1, 5, .inr (.inl (fun k => jj (ab k)))))) (hf : fr [58, 68] h h') (hG : GS D k last B (fun q c => x' (6 * q + c)) (gm n D 0 Rw rs)), K 7 [some (.ref 58), some (.int (ii z)), some (.long (jj last)), none, some (.int (ii (k : Int))), l5, l6, l7, l8, l9, l10, l11] [] (N, S, h') := by
    refine dn (fun k hk ih7 => ?_)
    intro h' x' last l5 l6 l7 l8 l9 l10 l11 c58 c68 c69 hf hG
    have hlb := GS_l hD5 hk hG
    refine hK _ _ _ _ ?_
    refine s_iload rfl (cn rfl) rfl ?_
    refine s_aload_n rfl (cn rfl) rfl ?_
    refine s_getfield rfl (cn rfl) c58 rfl ?_
    refine s_icmp_ge rfl (cn rfl) (cn rfl) ⟨by omega, by omega⟩ ⟨by omega, by omega⟩ (fun q10 => ?_) (fun q10 => ?_)
    · refine s_aload_n rfl (cn rfl) rfl ?_
      refine s_lload_n rfl (cn rfl) rfl ?_
      refine s_lconst rfl (cn rfl) 0 (by decide) ?_
      refine s_lcmp rfl (cn rfl) ?_
      refine s_ifl_ge rfl (cn rfl) (cn rfl) ⟨by omega, by omega⟩ ⟨by omega, by omega⟩ (fun q119 => ?_) (fun q119 => ?_)
      · refine s_lload_n rfl (cn rfl) rfl ?_
        refine s_putl rfl (cn rfl) rfl c58 rfl ?_
        refine s_iconst rfl (cn rfl) ?_
        refine s_istore rfl (ch rfl) ?_
        have lp127 : ∀ j : Nat, j ≤ D → ∀ (h5 : Nat → Option rr_E) (a5 : Nat → Int) (b5v : Int) (hb5 : b5v = if last < 0 then -last else last) (c58 : h5 58 = some (MO (n : Int) kp tp pt wr fa dm ce (D : Int) b5v od sm le sc ba bb ti rk ts tm pa wa)) (c68 : h5 68 = some (.inl (1, 30, .inr (.inl (fun k => jj (x' k)))))) (c69 : h5 69 = some (.inl (1, 5, .inr (.inl (fun k => jj (a5 k)))))) (hf5 : fr [58, 68, 69] h h5) (ha5 : ∀ q, q < j → a5 q = if last < 0 then -x' (6 * q + D) else x' (6 * q + D)), K 127 [some (.ref 58), some (.int (ii z)), some (.long (jj last)), none, some (.int (ii (j : Int))), l5, l6, l7, l8, l9, l10, l11] [] (N, S, h5) := by
          refine dn (fun j hj ih127 => ?_)
          intro h5 a5 b5v hb5 c58 c68 c69 hf5 ha5
          refine hK _ _ _ _ ?_
          refine s_iload rfl (cn rfl) rfl ?_
          refine s_aload_n rfl (cn rfl) rfl ?_
          refine s_getfield rfl (cn rfl) c58 rfl ?_
          refine s_icmp_ge rfl (cn rfl) (cn rfl) ⟨by omega, by omega⟩ ⟨by omega, by omega⟩ (fun q130 => ?_) (fun q130 => ?_)
          · refine s_iconst rfl (cn rfl) ?_
            refine s_zreturn rfl (Or.inr rfl) ?_
            refine Or.inl ⟨rfl, h5, x', a5, b5v, rfl, hf5, c58, c68, c69, ?_⟩
            obtain rfl : k = D := by omega
            exact GS_end hD5 (by omega) hB.1 hG (fun q hq => ha5 q (by omega)) hb5
          · refine s_aload_n rfl (cn rfl) rfl ?_
            refine s_getfield rfl (cn rfl) c58 rfl ?_
            refine s_iload rfl (cn rfl) rfl ?_
            refine s_lload_n rfl (cn rfl) rfl ?_
            refine s_lconst rfl (cn rfl) 0 (by decide) ?_
            refine s_lcmp rfl (cn rfl) ?_
            refine s_ifl_ge rfl (cn rfl) (cn rfl) ⟨by omega, by omega⟩ ⟨by omega, by omega⟩ (fun q137 => ?_) (fun q137 => ?_)
            · first
              | (exfalso; omega)
              | skip
                refine s_aload_n rfl (cn rfl) rfl ?_
                refine s_getfield rfl (cn rfl) c58 rfl ?_
                refine s_bipush rfl (cn rfl) (by decide) ?_
                refine s_iload rfl (cn rfl) rfl ?_
                refine s_imul rfl (cn rfl) ?_
                refine s_aload_n rfl (cn rfl) rfl ?_
                refine s_getfield rfl (cn rfl) c58 rfl ?_
                refine s_iadd rfl (cn rfl) ?_
                refine s_laload rfl (cn rfl) (6 * j + D) (by omega) c68 (by omega) (by decide) rfl ?_
                refine s_lastore rfl (cn rfl) _ rfl c69 (by omega) (by decide) ?_
                refine s_iinc rfl (cn rfl) rfl ?_
                refine s_goto rfl (ch rfl) ?_
                exact ih127 (by omega) _ _ _ hb5 c58 c68 rr_set_eq (fr_s (by decide) hf5) (fun q hq => by
                  by_cases e : q = j
                  · subst e
                    rw [fu_s]
                    first
                      | rw [if_neg (show ¬ last < 0 by omega)]
                      | rw [if_pos (show last < 0 by omega)]
                  · rw [fu_n e]; exact ha5 q (by omega))
            · first
              | (exfalso; omega)
              | skip
                refine s_aload_n rfl (cn rfl) rfl ?_
                refine s_getfield rfl (cn rfl) c58 rfl ?_
                refine s_bipush rfl (cn rfl) (by decide) ?_
                refine s_iload rfl (cn rfl) rfl ?_
                refine s_imul rfl (cn rfl) ?_
                refine s_aload_n rfl (cn rfl) rfl ?_
                refine s_getfield rfl (cn rfl) c58 rfl ?_
                refine s_iadd rfl (cn rfl) ?_
                refine s_laload rfl (cn rfl) (6 * j + D) (by omega) c68 (by omega) (by decide) rfl ?_
                refine s_lneg rfl (cn rfl) ?_
                refine s_goto rfl (cn rfl) ?_
                refine s_lastore rfl (cn rfl) _ rfl c69 (by omega) (by decide) ?_
                refine s_iinc rfl (cn rfl) rfl ?_
                refine s_goto rfl (ch rfl) ?_
                exact ih127 (by omega) _ _ _ hb5 c58 c68 rr_set_eq (fr_s (by decide) hf5) (fun q hq => by
                  by_cases e : q = j
                  · subst e
                    rw [fu_s]
                    first
                      | rw [if_neg (show ¬ last < 0 by omega)]
                      | rw [if_pos (show last < 0 by omega)]
                  · rw [fu_n e]; exact ha5 q (by omega))
        exact lp127 0 (by omega) _ ab _ (by first | rw [if_neg (show ¬ last < 0 by omega)] | rw [if_pos (show last < 0 by omega)]) rr_set_eq c68 c69 (fr_s (by decide) (fr_w hf (by simp))) (fun q hq => absurd hq (by omega))
      · refine s_lload_n rfl (cn rfl) rfl ?_
        refine s_lneg rfl (cn rfl) ?_
        refine s_goto rfl (cn rfl) ?_
        refine s_putl rfl (cn rfl) rfl c58 rfl ?_
        refine s_iconst rfl (cn rfl) ?_
        refine s_istore rfl (ch rfl) ?_
        have lp127 : ∀ j : Nat, j ≤ D → ∀ (h5 : Nat → Option rr_E) (a5 : Nat → Int) (b5v : Int) (hb5 : b5v = if last < 0 then -last else last) (c58 : h5 58 = some (MO (n : Int) kp tp pt wr fa dm ce (D : Int) b5v od sm le sc ba bb ti rk ts tm pa wa)) (c68 : h5 68 = some (.inl (1, 30, .inr (.inl (fun k => jj (x' k)))))) (c69 : h5 69 = some (.inl (1, 5, .inr (.inl (fun k => jj (a5 k)))))) (hf5 : fr [58, 68, 69] h h5) (ha5 : ∀ q, q < j → a5 q = if last < 0 then -x' (6 * q + D) else x' (6 * q + D)), K 127 [some (.ref 58), some (.int (ii z)), some (.long (jj last)), none, some (.int (ii (j : Int))), l5, l6, l7, l8, l9, l10, l11] [] (N, S, h5) := by
          refine dn (fun j hj ih127 => ?_)
          intro h5 a5 b5v hb5 c58 c68 c69 hf5 ha5
          refine hK _ _ _ _ ?_
          refine s_iload rfl (cn rfl) rfl ?_
          refine s_aload_n rfl (cn rfl) rfl ?_
          refine s_getfield rfl (cn rfl) c58 rfl ?_
          refine s_icmp_ge rfl (cn rfl) (cn rfl) ⟨by omega, by omega⟩ ⟨by omega, by omega⟩ (fun q130 => ?_) (fun q130 => ?_)
          · refine s_iconst rfl (cn rfl) ?_
            refine s_zreturn rfl (Or.inr rfl) ?_
            refine Or.inl ⟨rfl, h5, x', a5, b5v, rfl, hf5, c58, c68, c69, ?_⟩
            obtain rfl : k = D := by omega
            exact GS_end hD5 (by omega) hB.1 hG (fun q hq => ha5 q (by omega)) hb5
          · refine s_aload_n rfl (cn rfl) rfl ?_
            refine s_getfield rfl (cn rfl) c58 rfl ?_
            refine s_iload rfl (cn rfl) rfl ?_
            refine s_lload_n rfl (cn rfl) rfl ?_
            refine s_lconst rfl (cn rfl) 0 (by decide) ?_
            refine s_lcmp rfl (cn rfl) ?_
            refine s_ifl_ge rfl (cn rfl) (cn rfl) ⟨by omega, by omega⟩ ⟨by omega, by omega⟩ (fun q137 => ?_) (fun q137 => ?_)
            · first
              | (exfalso; omega)
              | skip
                refine s_aload_n rfl (cn rfl) rfl ?_
                refine s_getfield rfl (cn rfl) c58 rfl ?_
                refine s_bipush rfl (cn rfl) (by decide) ?_
                refine s_iload rfl (cn rfl) rfl ?_
                refine s_imul rfl (cn rfl) ?_
                refine s_aload_n rfl (cn rfl) rfl ?_
                refine s_getfield rfl (cn rfl) c58 rfl ?_
                refine s_iadd rfl (cn rfl) ?_
                refine s_laload rfl (cn rfl) (6 * j + D) (by omega) c68 (by omega) (by decide) rfl ?_
                refine s_lastore rfl (cn rfl) _ rfl c69 (by omega) (by decide) ?_
                refine s_iinc rfl (cn rfl) rfl ?_
                refine s_goto rfl (ch rfl) ?_
                exact ih127 (by omega) _ _ _ hb5 c58 c68 rr_set_eq (fr_s (by decide) hf5) (fun q hq => by
                  by_cases e : q = j
                  · subst e
                    rw [fu_s]
                    first
                      | rw [if_neg (show ¬ last < 0 by omega)]
                      | rw [if_pos (show last < 0 by omega)]
                  · rw [fu_n e]; exact ha5 q (by omega))
            · first
              | (exfalso; omega)
              | skip
                refine s_aload_n rfl (cn rfl) rfl ?_
                refine s_getfield rfl (cn rfl) c58 rfl ?_
                refine s_bipush rfl (cn rfl) (by decide) ?_
                refine s_iload rfl (cn rfl) rfl ?_
                refine s_imul rfl (cn rfl) ?_
                refine s_aload_n rfl (cn rfl) rfl ?_
                refine s_getfield rfl (cn rfl) c58 rfl ?_
                refine s_iadd rfl (cn rfl) ?_
                refine s_laload rfl (cn rfl) (6 * j + D) (by omega) c68 (by omega) (by decide) rfl ?_
                refine s_lneg rfl (cn rfl) ?_
                refine s_goto rfl (cn rfl) ?_
                refine s_lastore rfl (cn rfl) _ rfl c69 (by omega) (by decide) ?_
                refine s_iinc rfl (cn rfl) rfl ?_
                refine s_goto rfl (ch rfl) ?_
                exact ih127 (by omega) _ _ _ hb5 c58 c68 rr_set_eq (fr_s (by decide) hf5) (fun q hq => by
                  by_cases e : q = j
                  · subst e
                    rw [fu_s]
                    first
                      | rw [if_neg (show ¬ last < 0 by omega)]
                      | rw [if_pos (show last < 0 by omega)]
                  · rw [fu_n e]; exact ha5 q (by omega))
        exact lp127 0 (by omega) _ ab _ (by first | rw [if_neg (show ¬ last < 0 by omega)] | rw [if_pos (show last < 0 by omega)]) rr_set_eq c68 c69 (fr_s (by decide) (fr_w hf (by simp))) (fun q hq => absurd hq (by omega))
    · refine s_iload rfl (cn rfl) rfl ?_
      refine s_istore rfl (ch rfl) ?_
      have lp13 : ∀ r : Nat, r ≤ D → ∀ (hr1 : k ≤ r) (hz0 : ∀ j, k ≤ j → j < r → x' (6 * j + k) = 0), K 13 [some (.ref 58), some (.int (ii z)), some (.long (jj last)), none, some (.int (ii (k : Int))), some (.int (ii (r : Int))), l6, l7, l8, l9, l10, l11] [] (N, S, h') := by
        refine dn (fun r hr ih13 => ?_)
        intro hr1 hz0
        refine hK _ _ _ _ ?_
        refine s_iload rfl (cn rfl) rfl ?_
        refine s_aload_n rfl (cn rfl) rfl ?_
        refine s_getfield rfl (cn rfl) c58 rfl ?_
        refine s_icmp_ge rfl (cn rfl) (cn rfl) ⟨by omega, by omega⟩ ⟨by omega, by omega⟩ (fun q16 => ?_) (fun q16 => ?_)
        · refine s_iload rfl (cn rfl) rfl ?_
          refine s_aload_n rfl (cn rfl) rfl ?_
          refine s_getfield rfl (cn rfl) c58 rfl ?_
          refine s_icmp_ne rfl (cn rfl) (cn rfl) ⟨by omega, by omega⟩ ⟨by omega, by omega⟩ (fun q33 => ?_) (fun q33 => ?_)
          · first
            | (exfalso; omega)
            | skip
              refine s_iload rfl (cn rfl) rfl ?_
              refine s_iload rfl (cn rfl) rfl ?_
              refine s_icmp_eq rfl (cn rfl) (cn rfl) ⟨by omega, by omega⟩ ⟨by omega, by omega⟩ (fun q38 => ?_) (fun q38 => ?_)
              · obtain ⟨y, c68, hG2, hp, hfy⟩ : ∃ y : Nat → Int, h' 68 = some (.inl (1, 30, .inr (.inl (fun k => jj (y k))))) ∧ GS D k last B (fun q c => y (6 * q + c)) (gm n D 0 Rw rs) ∧ y (6 * k + k) ≠ 0 ∧ fr [58, 68] h h' := ⟨x', c68, hG, by rw [show r = k by omega] at q27; exact q27, hf⟩
                refine s_aload_n rfl (cn rfl) rfl ?_
                refine s_getfield rfl (cn rfl) c58 rfl ?_
                refine s_bipush rfl (cn rfl) (by decide) ?_
                refine s_iload rfl (cn rfl) rfl ?_
                refine s_imul rfl (cn rfl) ?_
                refine s_iload rfl (cn rfl) rfl ?_
                refine s_iadd rfl (cn rfl) ?_
                refine s_laload rfl (cn rfl) (6 * k + k) (by omega) c68 (by omega) (by decide) rfl ?_
                refine s_lstore rfl (cn rfl) ?_
                refine s_iconst rfl (cn rfl) ?_
                refine s_istore rfl (ch rfl) ?_
                have lp54 : ∀ q : Nat, q ≤ D → ∀ (h3 : Nat → Option rr_E) (w : Nat → Int) (m9 m10 m11 : Option Value) (c58 : h3 58 = some (MO (n : Int) kp tp pt wr fa dm ce (D : Int) be od sm le sc ba bb ti rk ts tm pa wa)) (c68 : h3 68 = some (.inl (1, 30, .inr (.inl (fun k => jj (w k)))))) (hf3 : fr [58, 68] h h3) (hw : ∀ q', q' < D → ∀ c, c ≤ D → w (6 * q' + c) = if q' < q then gjn k last (fun q c => y (6 * q + c)) q' c else y (6 * q' + c)), K 54 [some (.ref 58), some (.int (ii z)), some (.long (jj last)), none, some (.int (ii (k : Int))), some (.int (ii (r : Int))), some (.long (jj (y (6 * k + k)))), none, some (.int (ii (q : Int))), m9, m10, m11] [] (N, S, h3) := by
                  refine dn (fun q hq ih54 => ?_)
                  intro h3 w m9 m10 m11 c58 c68 hf3 hw
                  refine hK _ _ _ _ ?_
                  refine s_iload rfl (cn rfl) rfl ?_
                  refine s_aload_n rfl (cn rfl) rfl ?_
                  refine s_getfield rfl (cn rfl) c58 rfl ?_
                  refine s_icmp_ge rfl (cn rfl) (cn rfl) ⟨by omega, by omega⟩ ⟨by omega, by omega⟩ (fun q57 => ?_) (fun q57 => ?_)
                  · refine s_lload rfl (cn rfl) rfl ?_
                    refine s_lstore_n rfl (cn rfl) ?_
                    refine s_iinc rfl (cn rfl) rfl ?_
                    refine s_goto rfl (ch rfl) ?_
                    exact ih7 (by omega) _ _ (y (6 * k + k)) _ _ _ _ _ _ _ c58 c68 ((hf3 69 (by decide)).trans o69) hf3 (GS_cg hD5 (by omega) (GS_step hD5 (by omega) hB.1 hG2 hp) (fun q' hq' c hc => (hw q' hq' c hc).trans (if_pos (by omega))))
                  · have hwq : ∀ c, c ≤ D → w (6 * q + c) = y (6 * q + c) := fun c hc => (hw q (by omega) c hc).trans (if_neg (by omega))
                    refine s_aload_n rfl (cn rfl) rfl ?_
                    refine s_getfield rfl (cn rfl) c58 rfl ?_
                    refine s_bipush rfl (cn rfl) (by decide) ?_
                    refine s_iload rfl (cn rfl) rfl ?_
                    refine s_imul rfl (cn rfl) ?_
                    refine s_iload rfl (cn rfl) rfl ?_
                    refine s_iadd rfl (cn rfl) ?_
                    refine s_laload rfl (cn rfl) (6 * q + k) (by omega) c68 (by omega) (by decide) (congrArg jj (hwq k (by omega))) ?_
                    refine s_lstore rfl (cn rfl) ?_
                    refine s_iconst rfl (cn rfl) ?_
                    refine s_istore rfl (ch rfl) ?_
                    have lp69 : ∀ c : Nat, c ≤ D + 1 → ∀ (h4 : Nat → Option rr_E) (u : Nat → Int) (c58 : h4 58 = some (MO (n : Int) kp tp pt wr fa dm ce (D : Int) be od sm le sc ba bb ti rk ts tm pa wa)) (c68 : h4 68 = some (.inl (1, 30, .inr (.inl (fun k => jj (u k)))))) (hf4 : fr [58, 68] h h4) (hu : ∀ q', q' < D → ∀ c', c' ≤ D → u (6 * q' + c') = if q' < q ∨ (q' = q ∧ c' < c) then gjn k last (fun q c => y (6 * q + c)) q' c' else y (6 * q' + c')), K 69 [some (.ref 58), some (.int (ii z)), some (.long (jj last)), none, some (.int (ii (k : Int))), some (.int (ii (r : Int))), some (.long (jj (y (6 * k + k)))), none, some (.int (ii (q : Int))), some (.long (jj (y (6 * q + k)))), none, some (.int (ii (c : Int)))] [] (N, S, h4) := by
                      refine dn (fun c hc ih69 => ?_)
                      intro h4 u c58 c68 hf4 hu
                      refine hK _ _ _ _ ?_
                      refine s_iload rfl (cn rfl) rfl ?_
                      refine s_aload_n rfl (cn rfl) rfl ?_
                      refine s_getfield rfl (cn rfl) c58 rfl ?_
                      refine s_icmp_gt rfl (cn rfl) (cn rfl) ⟨by omega, by omega⟩ ⟨by omega, by omega⟩ (fun q72 => ?_) (fun q72 => ?_)
                      · refine s_iinc rfl (cn rfl) rfl ?_
                        refine s_goto rfl (ch rfl) ?_
                        exact ih54 (by omega) _ _ _ _ _ c58 c68 hf4 (gq_e (by omega) hu)
                      · refine s_iload rfl (cn rfl) rfl ?_
                        refine s_iload rfl (cn rfl) rfl ?_
                        refine s_icmp_eq rfl (cn rfl) (cn rfl) ⟨by omega, by omega⟩ ⟨by omega, by omega⟩ (fun q75 => ?_) (fun q75 => ?_)
                        · refine s_iinc rfl (cn rfl) rfl ?_
                          refine s_goto rfl (ch rfl) ?_
                          exact ih54 (by omega) _ _ _ _ _ c58 c68 hf4 (gq_e (by omega) hu)
                        · have hX := GS_b hD5 (show k < D by omega) hB hG2 hp (show q < D by omega) (show c ≤ D by omega)
                          have huq : u (6 * q + c) = y (6 * q + c) := (hu q (by omega) c (by omega)).trans (if_neg (by omega))
                          have huk : u (6 * k + c) = y (6 * k + c) := gq_k (by omega) (by omega) hu
                          refine s_aload_n rfl (cn rfl) rfl ?_
                          refine s_getfield rfl (cn rfl) c58 rfl ?_
                          refine s_bipush rfl (cn rfl) (by decide) ?_
                          refine s_iload rfl (cn rfl) rfl ?_
                          refine s_imul rfl (cn rfl) ?_
                          refine s_iload rfl (cn rfl) rfl ?_
                          refine s_iadd rfl (cn rfl) ?_
                          refine s_lload rfl (cn rfl) rfl ?_
                          refine s_aload_n rfl (cn rfl) rfl ?_
                          refine s_getfield rfl (cn rfl) c58 rfl ?_
                          refine s_bipush rfl (cn rfl) (by decide) ?_
                          refine s_iload rfl (cn rfl) rfl ?_
                          refine s_imul rfl (cn rfl) ?_
                          refine s_iload rfl (cn rfl) rfl ?_
                          refine s_iadd rfl (cn rfl) ?_
                          refine s_laload rfl (cn rfl) (6 * q + c) (by omega) c68 (by omega) (by decide) (congrArg jj huq) ?_
                          refine s_lmul rfl (cn rfl) ?_
                          refine s_lload rfl (cn rfl) rfl ?_
                          refine s_aload_n rfl (cn rfl) rfl ?_
                          refine s_getfield rfl (cn rfl) c58 rfl ?_
                          refine s_bipush rfl (cn rfl) (by decide) ?_
                          refine s_iload rfl (cn rfl) rfl ?_
                          refine s_imul rfl (cn rfl) ?_
                          refine s_iload rfl (cn rfl) rfl ?_
                          refine s_iadd rfl (cn rfl) ?_
                          refine s_laload rfl (cn rfl) (6 * k + c) (by omega) c68 (by omega) (by decide) (congrArg jj huk) ?_
                          refine s_lmul rfl (cn rfl) ?_
                          refine s_lsub rfl (cn rfl) ?_
                          refine s_lload_n rfl (cn rfl) rfl ?_
                          refine s_ldiv rfl (cn rfl) ⟨by omega, by omega⟩ ⟨by omega, by omega⟩ (td_b ⟨by omega, by omega⟩) hlb.2 ?_
                          refine s_lastore rfl (cn rfl) (6 * q + c) (by omega) c68 (by omega) (by decide) ?_
                          refine s_iinc rfl (cn rfl) rfl ?_
                          refine s_goto rfl (ch rfl) ?_
                          exact ih69 (by omega) _ _ c58 rr_set_eq (fr_s (by decide) hf4) (gq_s hD5 (by omega) (by omega) (by omega) hu)
                    exact lp69 0 (by omega) _ w c58 c68 hf3 (fun q' hq' c' hc' => (hw q' hq' c' hc').trans (by
                        by_cases e : q' < q
                        · rw [if_pos e, if_pos (Or.inl e)]
                        · rw [if_neg e, if_neg (by omega)]))
                exact lp54 0 (by omega) _ y _ _ _ c58 c68 hfy (fun q' hq' c hc => (if_neg (by omega)).symm)
              · refine s_aload_n rfl (cn rfl) rfl ?_
                refine s_iload rfl (cn rfl) rfl ?_
                refine s_iload rfl (cn rfl) rfl ?_
                refine s_virt rfl (cn rfl) rfl rfl c58 rfl (m_swaps (a := r) (b := k) c58 c68 hD5 (by omega) (by omega)) ?_
                rintro _ _ ⟨rfl, h2, x2, rfl, hf2, c68, hx2⟩
                have c58 := (hf2 58 (by decide)).trans c58
                obtain ⟨y, c68, hG2, hp, hfy⟩ : ∃ y : Nat → Int, h2 68 = some (.inl (1, 30, .inr (.inl (fun k => jj (y k))))) ∧ GS D k last B (fun q c => y (6 * q + c)) (gm n D 0 Rw rs) ∧ y (6 * k + k) ≠ 0 ∧ fr [58, 68] h h2 := ⟨x2, c68, GS_swap hD5 hG (by omega) (by omega) hr1 hx2, by
                    have e1 := hx2 k (by omega) k (by omega)
                    rw [show swq r k k = r from if_pos rfl] at e1
                    rw [e1]; exact q27, fr_t hf (fr_w (l := [58, 68]) hf2 (by simp)) (by simp)⟩
                refine s_aload_n rfl (cn rfl) rfl ?_
                refine s_getfield rfl (cn rfl) c58 rfl ?_
                refine s_bipush rfl (cn rfl) (by decide) ?_
                refine s_iload rfl (cn rfl) rfl ?_
                refine s_imul rfl (cn rfl) ?_
                refine s_iload rfl (cn rfl) rfl ?_
                refine s_iadd rfl (cn rfl) ?_
                refine s_laload rfl (cn rfl) (6 * k + k) (by omega) c68 (by omega) (by decide) rfl ?_
                refine s_lstore rfl (cn rfl) ?_
                refine s_iconst rfl (cn rfl) ?_
                refine s_istore rfl (ch rfl) ?_
                have lp54 : ∀ q : Nat, q ≤ D → ∀ (h3 : Nat → Option rr_E) (w : Nat → Int) (m9 m10 m11 : Option Value) (c58 : h3 58 = some (MO (n : Int) kp tp pt wr fa dm ce (D : Int) be od sm le sc ba bb ti rk ts tm pa wa)) (c68 : h3 68 = some (.inl (1, 30, .inr (.inl (fun k => jj (w k)))))) (hf3 : fr [58, 68] h h3) (hw : ∀ q', q' < D → ∀ c, c ≤ D → w (6 * q' + c) = if q' < q then gjn k last (fun q c => y (6 * q + c)) q' c else y (6 * q' + c)), K 54 [some (.ref 58), some (.int (ii z)), some (.long (jj last)), none, some (.int (ii (k : Int))), some (.int (ii (r : Int))), some (.long (jj (y (6 * k + k)))), none, some (.int (ii (q : Int))), m9, m10, m11] [] (N, S, h3) := by
                  refine dn (fun q hq ih54 => ?_)
                  intro h3 w m9 m10 m11 c58 c68 hf3 hw
                  refine hK _ _ _ _ ?_
                  refine s_iload rfl (cn rfl) rfl ?_
                  refine s_aload_n rfl (cn rfl) rfl ?_
                  refine s_getfield rfl (cn rfl) c58 rfl ?_
                  refine s_icmp_ge rfl (cn rfl) (cn rfl) ⟨by omega, by omega⟩ ⟨by omega, by omega⟩ (fun q57 => ?_) (fun q57 => ?_)
                  · refine s_lload rfl (cn rfl) rfl ?_
                    refine s_lstore_n rfl (cn rfl) ?_
                    refine s_iinc rfl (cn rfl) rfl ?_
                    refine s_goto rfl (ch rfl) ?_
                    exact ih7 (by omega) _ _ (y (6 * k + k)) _ _ _ _ _ _ _ c58 c68 ((hf3 69 (by decide)).trans o69) hf3 (GS_cg hD5 (by omega) (GS_step hD5 (by omega) hB.1 hG2 hp) (fun q' hq' c hc => (hw q' hq' c hc).trans (if_pos (by omega))))
                  · have hwq : ∀ c, c ≤ D → w (6 * q + c) = y (6 * q + c) := fun c hc => (hw q (by omega) c hc).trans (if_neg (by omega))
                    refine s_aload_n rfl (cn rfl) rfl ?_
                    refine s_getfield rfl (cn rfl) c58 rfl ?_
                    refine s_bipush rfl (cn rfl) (by decide) ?_
                    refine s_iload rfl (cn rfl) rfl ?_
                    refine s_imul rfl (cn rfl) ?_
                    refine s_iload rfl (cn rfl) rfl ?_
                    refine s_iadd rfl (cn rfl) ?_
                    refine s_laload rfl (cn rfl) (6 * q + k) (by omega) c68 (by omega) (by decide) (congrArg jj (hwq k (by omega))) ?_
                    refine s_lstore rfl (cn rfl) ?_
                    refine s_iconst rfl (cn rfl) ?_
                    refine s_istore rfl (ch rfl) ?_
                    have lp69 : ∀ c : Nat, c ≤ D + 1 → ∀ (h4 : Nat → Option rr_E) (u : Nat → Int) (c58 : h4 58 = some (MO (n : Int) kp tp pt wr fa dm ce (D : Int) be od sm le sc ba bb ti rk ts tm pa wa)) (c68 : h4 68 = some (.inl (1, 30, .inr (.inl (fun k => jj (u k)))))) (hf4 : fr [58, 68] h h4) (hu : ∀ q', q' < D → ∀ c', c' ≤ D → u (6 * q' + c') = if q' < q ∨ (q' = q ∧ c' < c) then gjn k last (fun q c => y (6 * q + c)) q' c' else y (6 * q' + c')), K 69 [some (.ref 58), some (.int (ii z)), some (.long (jj last)), none, some (.int (ii (k : Int))), some (.int (ii (r : Int))), some (.long (jj (y (6 * k + k)))), none, some (.int (ii (q : Int))), some (.long (jj (y (6 * q + k)))), none, some (.int (ii (c : Int)))] [] (N, S, h4) := by
                      refine dn (fun c hc ih69 => ?_)
                      intro h4 u c58 c68 hf4 hu
                      refine hK _ _ _ _ ?_
                      refine s_iload rfl (cn rfl) rfl ?_
                      refine s_aload_n rfl (cn rfl) rfl ?_
                      refine s_getfield rfl (cn rfl) c58 rfl ?_
                      refine s_icmp_gt rfl (cn rfl) (cn rfl) ⟨by omega, by omega⟩ ⟨by omega, by omega⟩ (fun q72 => ?_) (fun q72 => ?_)
                      · refine s_iinc rfl (cn rfl) rfl ?_
                        refine s_goto rfl (ch rfl) ?_
                        exact ih54 (by omega) _ _ _ _ _ c58 c68 hf4 (gq_e (by omega) hu)
                      · refine s_iload rfl (cn rfl) rfl ?_
                        refine s_iload rfl (cn rfl) rfl ?_
                        refine s_icmp_eq rfl (cn rfl) (cn rfl) ⟨by omega, by omega⟩ ⟨by omega, by omega⟩ (fun q75 => ?_) (fun q75 => ?_)
                        · refine s_iinc rfl (cn rfl) rfl ?_
                          refine s_goto rfl (ch rfl) ?_
                          exact ih54 (by omega) _ _ _ _ _ c58 c68 hf4 (gq_e (by omega) hu)
                        · have hX := GS_b hD5 (show k < D by omega) hB hG2 hp (show q < D by omega) (show c ≤ D by omega)
                          have huq : u (6 * q + c) = y (6 * q + c) := (hu q (by omega) c (by omega)).trans (if_neg (by omega))
                          have huk : u (6 * k + c) = y (6 * k + c) := gq_k (by omega) (by omega) hu
                          refine s_aload_n rfl (cn rfl) rfl ?_
                          refine s_getfield rfl (cn rfl) c58 rfl ?_
                          refine s_bipush rfl (cn rfl) (by decide) ?_
                          refine s_iload rfl (cn rfl) rfl ?_
                          refine s_imul rfl (cn rfl) ?_
                          refine s_iload rfl (cn rfl) rfl ?_
                          refine s_iadd rfl (cn rfl) ?_
                          refine s_lload rfl (cn rfl) rfl ?_
                          refine s_aload_n rfl (cn rfl) rfl ?_
                          refine s_getfield rfl (cn rfl) c58 rfl ?_
                          refine s_bipush rfl (cn rfl) (by decide) ?_
                          refine s_iload rfl (cn rfl) rfl ?_
                          refine s_imul rfl (cn rfl) ?_
                          refine s_iload rfl (cn rfl) rfl ?_
                          refine s_iadd rfl (cn rfl) ?_
                          refine s_laload rfl (cn rfl) (6 * q + c) (by omega) c68 (by omega) (by decide) (congrArg jj huq) ?_
                          refine s_lmul rfl (cn rfl) ?_
                          refine s_lload rfl (cn rfl) rfl ?_
                          refine s_aload_n rfl (cn rfl) rfl ?_
                          refine s_getfield rfl (cn rfl) c58 rfl ?_
                          refine s_bipush rfl (cn rfl) (by decide) ?_
                          refine s_iload rfl (cn rfl) rfl ?_
                          refine s_imul rfl (cn rfl) ?_
                          refine s_iload rfl (cn rfl) rfl ?_
                          refine s_iadd rfl (cn rfl) ?_
                          refine s_laload rfl (cn rfl) (6 * k + c) (by omega) c68 (by omega) (by decide) (congrArg jj huk) ?_
                          refine s_lmul rfl (cn rfl) ?_
                          refine s_lsub rfl (cn rfl) ?_
                          refine s_lload_n rfl (cn rfl) rfl ?_
                          refine s_ldiv rfl (cn rfl) ⟨by omega, by omega⟩ ⟨by omega, by omega⟩ (td_b ⟨by omega, by omega⟩) hlb.2 ?_
                          refine s_lastore rfl (cn rfl) (6 * q + c) (by omega) c68 (by omega) (by decide) ?_
                          refine s_iinc rfl (cn rfl) rfl ?_
                          refine s_goto rfl (ch rfl) ?_
                          exact ih69 (by omega) _ _ c58 rr_set_eq (fr_s (by decide) hf4) (gq_s hD5 (by omega) (by omega) (by omega) hu)
                    exact lp69 0 (by omega) _ w c58 c68 hf3 (fun q' hq' c' hc' => (hw q' hq' c' hc').trans (by
                        by_cases e : q' < q
                        · rw [if_pos e, if_pos (Or.inl e)]
                        · rw [if_neg e, if_neg (by omega)]))
                exact lp54 0 (by omega) _ y _ _ _ c58 c68 hfy (fun q' hq' c hc => (if_neg (by omega)).symm)
          · first
            | (exfalso; omega)
            | skip
              refine s_iconst rfl (cn rfl) ?_
              refine s_zreturn rfl (Or.inl rfl) ?_
              refine Or.inr ⟨rfl, h', x', rfl, fr_w hf (by simp), c58, c68, c69, ?_⟩
              obtain ⟨z, hz1, hz2⟩ := gj_fail hG.1 (show k < D by omega) (fun j j1 j2 => hz0 j j1 (by omega))
              exact ⟨z, ⟨k, by omega, hz1⟩, hz2⟩
        · refine s_aload_n rfl (cn rfl) rfl ?_
          refine s_getfield rfl (cn rfl) c58 rfl ?_
          refine s_bipush rfl (cn rfl) (by decide) ?_
          refine s_iload rfl (cn rfl) rfl ?_
          refine s_imul rfl (cn rfl) ?_
          refine s_iload rfl (cn rfl) rfl ?_
          refine s_iadd rfl (cn rfl) ?_
          have hb1 : -32768 ≤ x' (6 * r + k) ∧ x' (6 * r + k) ≤ 32768 := GS_c hD5 (show k < D by omega) hG (show r < D by omega) (show k < D by omega)
          refine s_laload rfl (cn rfl) (6 * r + k) (by omega) c68 (by omega) (by decide) rfl ?_
          refine s_lconst rfl (cn rfl) 0 (by decide) ?_
          refine s_lcmp rfl (cn rfl) ?_
          refine s_ifl_ne rfl (cn rfl) (cn rfl) ⟨by omega, by omega⟩ ⟨by omega, by omega⟩ (fun q27 => ?_) (fun q27 => ?_)
          · refine s_iload rfl (cn rfl) rfl ?_
            refine s_aload_n rfl (cn rfl) rfl ?_
            refine s_getfield rfl (cn rfl) c58 rfl ?_
            refine s_icmp_ne rfl (cn rfl) (cn rfl) ⟨by omega, by omega⟩ ⟨by omega, by omega⟩ (fun q33 => ?_) (fun q33 => ?_)
            · first
              | (exfalso; omega)
              | skip
                refine s_iload rfl (cn rfl) rfl ?_
                refine s_iload rfl (cn rfl) rfl ?_
                refine s_icmp_eq rfl (cn rfl) (cn rfl) ⟨by omega, by omega⟩ ⟨by omega, by omega⟩ (fun q38 => ?_) (fun q38 => ?_)
                · obtain ⟨y, c68, hG2, hp, hfy⟩ : ∃ y : Nat → Int, h' 68 = some (.inl (1, 30, .inr (.inl (fun k => jj (y k))))) ∧ GS D k last B (fun q c => y (6 * q + c)) (gm n D 0 Rw rs) ∧ y (6 * k + k) ≠ 0 ∧ fr [58, 68] h h' := ⟨x', c68, hG, by rw [show r = k by omega] at q27; exact q27, hf⟩
                  refine s_aload_n rfl (cn rfl) rfl ?_
                  refine s_getfield rfl (cn rfl) c58 rfl ?_
                  refine s_bipush rfl (cn rfl) (by decide) ?_
                  refine s_iload rfl (cn rfl) rfl ?_
                  refine s_imul rfl (cn rfl) ?_
                  refine s_iload rfl (cn rfl) rfl ?_
                  refine s_iadd rfl (cn rfl) ?_
                  refine s_laload rfl (cn rfl) (6 * k + k) (by omega) c68 (by omega) (by decide) rfl ?_
                  refine s_lstore rfl (cn rfl) ?_
                  refine s_iconst rfl (cn rfl) ?_
                  refine s_istore rfl (ch rfl) ?_
                  have lp54 : ∀ q : Nat, q ≤ D → ∀ (h3 : Nat → Option rr_E) (w : Nat → Int) (m9 m10 m11 : Option Value) (c58 : h3 58 = some (MO (n : Int) kp tp pt wr fa dm ce (D : Int) be od sm le sc ba bb ti rk ts tm pa wa)) (c68 : h3 68 = some (.inl (1, 30, .inr (.inl (fun k => jj (w k)))))) (hf3 : fr [58, 68] h h3) (hw : ∀ q', q' < D → ∀ c, c ≤ D → w (6 * q' + c) = if q' < q then gjn k last (fun q c => y (6 * q + c)) q' c else y (6 * q' + c)), K 54 [some (.ref 58), some (.int (ii z)), some (.long (jj last)), none, some (.int (ii (k : Int))), some (.int (ii (r : Int))), some (.long (jj (y (6 * k + k)))), none, some (.int (ii (q : Int))), m9, m10, m11] [] (N, S, h3) := by
                    refine dn (fun q hq ih54 => ?_)
                    intro h3 w m9 m10 m11 c58 c68 hf3 hw
                    refine hK _ _ _ _ ?_
                    refine s_iload rfl (cn rfl) rfl ?_
                    refine s_aload_n rfl (cn rfl) rfl ?_
                    refine s_getfield rfl (cn rfl) c58 rfl ?_
                    refine s_icmp_ge rfl (cn rfl) (cn rfl) ⟨by omega, by omega⟩ ⟨by omega, by omega⟩ (fun q57 => ?_) (fun q57 => ?_)
                    · refine s_lload rfl (cn rfl) rfl ?_
                      refine s_lstore_n rfl (cn rfl) ?_
                      refine s_iinc rfl (cn rfl) rfl ?_
                      refine s_goto rfl (ch rfl) ?_
                      exact ih7 (by omega) _ _ (y (6 * k + k)) _ _ _ _ _ _ _ c58 c68 ((hf3 69 (by decide)).trans o69) hf3 (GS_cg hD5 (by omega) (GS_step hD5 (by omega) hB.1 hG2 hp) (fun q' hq' c hc => (hw q' hq' c hc).trans (if_pos (by omega))))
                    · have hwq : ∀ c, c ≤ D → w (6 * q + c) = y (6 * q + c) := fun c hc => (hw q (by omega) c hc).trans (if_neg (by omega))
                      refine s_aload_n rfl (cn rfl) rfl ?_
                      refine s_getfield rfl (cn rfl) c58 rfl ?_
                      refine s_bipush rfl (cn rfl) (by decide) ?_
                      refine s_iload rfl (cn rfl) rfl ?_
                      refine s_imul rfl (cn rfl) ?_
                      refine s_iload rfl (cn rfl) rfl ?_
                      refine s_iadd rfl (cn rfl) ?_
                      refine s_laload rfl (cn rfl) (6 * q + k) (by omega) c68 (by omega) (by decide) (congrArg jj (hwq k (by omega))) ?_
                      refine s_lstore rfl (cn rfl) ?_
                      refine s_iconst rfl (cn rfl) ?_
                      refine s_istore rfl (ch rfl) ?_
                      have lp69 : ∀ c : Nat, c ≤ D + 1 → ∀ (h4 : Nat → Option rr_E) (u : Nat → Int) (c58 : h4 58 = some (MO (n : Int) kp tp pt wr fa dm ce (D : Int) be od sm le sc ba bb ti rk ts tm pa wa)) (c68 : h4 68 = some (.inl (1, 30, .inr (.inl (fun k => jj (u k)))))) (hf4 : fr [58, 68] h h4) (hu : ∀ q', q' < D → ∀ c', c' ≤ D → u (6 * q' + c') = if q' < q ∨ (q' = q ∧ c' < c) then gjn k last (fun q c => y (6 * q + c)) q' c' else y (6 * q' + c')), K 69 [some (.ref 58), some (.int (ii z)), some (.long (jj last)), none, some (.int (ii (k : Int))), some (.int (ii (r : Int))), some (.long (jj (y (6 * k + k)))), none, some (.int (ii (q : Int))), some (.long (jj (y (6 * q + k)))), none, some (.int (ii (c : Int)))] [] (N, S, h4) := by
                        refine dn (fun c hc ih69 => ?_)
                        intro h4 u c58 c68 hf4 hu
                        refine hK _ _ _ _ ?_
                        refine s_iload rfl (cn rfl) rfl ?_
                        refine s_aload_n rfl (cn rfl) rfl ?_
                        refine s_getfield rfl (cn rfl) c58 rfl ?_
                        refine s_icmp_gt rfl (cn rfl) (cn rfl) ⟨by omega, by omega⟩ ⟨by omega, by omega⟩ (fun q72 => ?_) (fun q72 => ?_)
                        · refine s_iinc rfl (cn rfl) rfl ?_
                          refine s_goto rfl (ch rfl) ?_
                          exact ih54 (by omega) _ _ _ _ _ c58 c68 hf4 (gq_e (by omega) hu)
                        · refine s_iload rfl (cn rfl) rfl ?_
                          refine s_iload rfl (cn rfl) rfl ?_
                          refine s_icmp_eq rfl (cn rfl) (cn rfl) ⟨by omega, by omega⟩ ⟨by omega, by omega⟩ (fun q75 => ?_) (fun q75 => ?_)
                          · refine s_iinc rfl (cn rfl) rfl ?_
                            refine s_goto rfl (ch rfl) ?_
                            exact ih54 (by omega) _ _ _ _ _ c58 c68 hf4 (gq_e (by omega) hu)
                          · have hX := GS_b hD5 (show k < D by omega) hB hG2 hp (show q < D by omega) (show c ≤ D by omega)
                            have huq : u (6 * q + c) = y (6 * q + c) := (hu q (by omega) c (by omega)).trans (if_neg (by omega))
                            have huk : u (6 * k + c) = y (6 * k + c) := gq_k (by omega) (by omega) hu
                            refine s_aload_n rfl (cn rfl) rfl ?_
                            refine s_getfield rfl (cn rfl) c58 rfl ?_
                            refine s_bipush rfl (cn rfl) (by decide) ?_
                            refine s_iload rfl (cn rfl) rfl ?_
                            refine s_imul rfl (cn rfl) ?_
                            refine s_iload rfl (cn rfl) rfl ?_
                            refine s_iadd rfl (cn rfl) ?_
                            refine s_lload rfl (cn rfl) rfl ?_
                            refine s_aload_n rfl (cn rfl) rfl ?_
                            refine s_getfield rfl (cn rfl) c58 rfl ?_
                            refine s_bipush rfl (cn rfl) (by decide) ?_
                            refine s_iload rfl (cn rfl) rfl ?_
                            refine s_imul rfl (cn rfl) ?_
                            refine s_iload rfl (cn rfl) rfl ?_
                            refine s_iadd rfl (cn rfl) ?_
                            refine s_laload rfl (cn rfl) (6 * q + c) (by omega) c68 (by omega) (by decide) (congrArg jj huq) ?_
                            refine s_lmul rfl (cn rfl) ?_
                            refine s_lload rfl (cn rfl) rfl ?_
                            refine s_aload_n rfl (cn rfl) rfl ?_
                            refine s_getfield rfl (cn rfl) c58 rfl ?_
                            refine s_bipush rfl (cn rfl) (by decide) ?_
                            refine s_iload rfl (cn rfl) rfl ?_
                            refine s_imul rfl (cn rfl) ?_
                            refine s_iload rfl (cn rfl) rfl ?_
                            refine s_iadd rfl (cn rfl) ?_
                            refine s_laload rfl (cn rfl) (6 * k + c) (by omega) c68 (by omega) (by decide) (congrArg jj huk) ?_
                            refine s_lmul rfl (cn rfl) ?_
                            refine s_lsub rfl (cn rfl) ?_
                            refine s_lload_n rfl (cn rfl) rfl ?_
                            refine s_ldiv rfl (cn rfl) ⟨by omega, by omega⟩ ⟨by omega, by omega⟩ (td_b ⟨by omega, by omega⟩) hlb.2 ?_
                            refine s_lastore rfl (cn rfl) (6 * q + c) (by omega) c68 (by omega) (by decide) ?_
                            refine s_iinc rfl (cn rfl) rfl ?_
                            refine s_goto rfl (ch rfl) ?_
                            exact ih69 (by omega) _ _ c58 rr_set_eq (fr_s (by decide) hf4) (gq_s hD5 (by omega) (by omega) (by omega) hu)
                      exact lp69 0 (by omega) _ w c58 c68 hf3 (fun q' hq' c' hc' => (hw q' hq' c' hc').trans (by
                          by_cases e : q' < q
                          · rw [if_pos e, if_pos (Or.inl e)]
                          · rw [if_neg e, if_neg (by omega)]))
                  exact lp54 0 (by omega) _ y _ _ _ c58 c68 hfy (fun q' hq' c hc => (if_neg (by omega)).symm)
                · refine s_aload_n rfl (cn rfl) rfl ?_
                  refine s_iload rfl (cn rfl) rfl ?_
                  refine s_iload rfl (cn rfl) rfl ?_
                  refine s_virt rfl (cn rfl) rfl rfl c58 rfl (m_swaps (a := r) (b := k) c58 c68 hD5 (by omega) (by omega)) ?_
                  rintro _ _ ⟨rfl, h2, x2, rfl, hf2, c68, hx2⟩
                  have c58 := (hf2 58 (by decide)).trans c58
                  obtain ⟨y, c68, hG2, hp, hfy⟩ : ∃ y : Nat → Int, h2 68 = some (.inl (1, 30, .inr (.inl (fun k => jj (y k))))) ∧ GS D k last B (fun q c => y (6 * q + c)) (gm n D 0 Rw rs) ∧ y (6 * k + k) ≠ 0 ∧ fr [58, 68] h h2 := ⟨x2, c68, GS_swap hD5 hG (by omega) (by omega) hr1 hx2, by
                      have e1 := hx2 k (by omega) k (by omega)
                      rw [show swq r k k = r from if_pos rfl] at e1
                      rw [e1]; exact q27, fr_t hf (fr_w (l := [58, 68]) hf2 (by simp)) (by simp)⟩
                  refine s_aload_n rfl (cn rfl) rfl ?_
                  refine s_getfield rfl (cn rfl) c58 rfl ?_
                  refine s_bipush rfl (cn rfl) (by decide) ?_
                  refine s_iload rfl (cn rfl) rfl ?_
                  refine s_imul rfl (cn rfl) ?_
                  refine s_iload rfl (cn rfl) rfl ?_
                  refine s_iadd rfl (cn rfl) ?_
                  refine s_laload rfl (cn rfl) (6 * k + k) (by omega) c68 (by omega) (by decide) rfl ?_
                  refine s_lstore rfl (cn rfl) ?_
                  refine s_iconst rfl (cn rfl) ?_
                  refine s_istore rfl (ch rfl) ?_
                  have lp54 : ∀ q : Nat, q ≤ D → ∀ (h3 : Nat → Option rr_E) (w : Nat → Int) (m9 m10 m11 : Option Value) (c58 : h3 58 = some (MO (n : Int) kp tp pt wr fa dm ce (D : Int) be od sm le sc ba bb ti rk ts tm pa wa)) (c68 : h3 68 = some (.inl (1, 30, .inr (.inl (fun k => jj (w k)))))) (hf3 : fr [58, 68] h h3) (hw : ∀ q', q' < D → ∀ c, c ≤ D → w (6 * q' + c) = if q' < q then gjn k last (fun q c => y (6 * q + c)) q' c else y (6 * q' + c)), K 54 [some (.ref 58), some (.int (ii z)), some (.long (jj last)), none, some (.int (ii (k : Int))), some (.int (ii (r : Int))), some (.long (jj (y (6 * k + k)))), none, some (.int (ii (q : Int))), m9, m10, m11] [] (N, S, h3) := by
                    refine dn (fun q hq ih54 => ?_)
                    intro h3 w m9 m10 m11 c58 c68 hf3 hw
                    refine hK _ _ _ _ ?_
                    refine s_iload rfl (cn rfl) rfl ?_
                    refine s_aload_n rfl (cn rfl) rfl ?_
                    refine s_getfield rfl (cn rfl) c58 rfl ?_
                    refine s_icmp_ge rfl (cn rfl) (cn rfl) ⟨by omega, by omega⟩ ⟨by omega, by omega⟩ (fun q57 => ?_) (fun q57 => ?_)
                    · refine s_lload rfl (cn rfl) rfl ?_
                      refine s_lstore_n rfl (cn rfl) ?_
                      refine s_iinc rfl (cn rfl) rfl ?_
                      refine s_goto rfl (ch rfl) ?_
                      exact ih7 (by omega) _ _ (y (6 * k + k)) _ _ _ _ _ _ _ c58 c68 ((hf3 69 (by decide)).trans o69) hf3 (GS_cg hD5 (by omega) (GS_step hD5 (by omega) hB.1 hG2 hp) (fun q' hq' c hc => (hw q' hq' c hc).trans (if_pos (by omega))))
                    · have hwq : ∀ c, c ≤ D → w (6 * q + c) = y (6 * q + c) := fun c hc => (hw q (by omega) c hc).trans (if_neg (by omega))
                      refine s_aload_n rfl (cn rfl) rfl ?_
                      refine s_getfield rfl (cn rfl) c58 rfl ?_
                      refine s_bipush rfl (cn rfl) (by decide) ?_
                      refine s_iload rfl (cn rfl) rfl ?_
                      refine s_imul rfl (cn rfl) ?_
                      refine s_iload rfl (cn rfl) rfl ?_
                      refine s_iadd rfl (cn rfl) ?_
                      refine s_laload rfl (cn rfl) (6 * q + k) (by omega) c68 (by omega) (by decide) (congrArg jj (hwq k (by omega))) ?_
                      refine s_lstore rfl (cn rfl) ?_
                      refine s_iconst rfl (cn rfl) ?_
                      refine s_istore rfl (ch rfl) ?_
                      have lp69 : ∀ c : Nat, c ≤ D + 1 → ∀ (h4 : Nat → Option rr_E) (u : Nat → Int) (c58 : h4 58 = some (MO (n : Int) kp tp pt wr fa dm ce (D : Int) be od sm le sc ba bb ti rk ts tm pa wa)) (c68 : h4 68 = some (.inl (1, 30, .inr (.inl (fun k => jj (u k)))))) (hf4 : fr [58, 68] h h4) (hu : ∀ q', q' < D → ∀ c', c' ≤ D → u (6 * q' + c') = if q' < q ∨ (q' = q ∧ c' < c) then gjn k last (fun q c => y (6 * q + c)) q' c' else y (6 * q' + c')), K 69 [some (.ref 58), some (.int (ii z)), some (.long (jj last)), none, some (.int (ii (k : Int))), some (.int (ii (r : Int))), some (.long (jj (y (6 * k + k)))), none, some (.int (ii (q : Int))), some (.long (jj (y (6 * q + k)))), none, some (.int (ii (c : Int)))] [] (N, S, h4) := by
                        refine dn (fun c hc ih69 => ?_)
                        intro h4 u c58 c68 hf4 hu
                        refine hK _ _ _ _ ?_
                        refine s_iload rfl (cn rfl) rfl ?_
                        refine s_aload_n rfl (cn rfl) rfl ?_
                        refine s_getfield rfl (cn rfl) c58 rfl ?_
                        refine s_icmp_gt rfl (cn rfl) (cn rfl) ⟨by omega, by omega⟩ ⟨by omega, by omega⟩ (fun q72 => ?_) (fun q72 => ?_)
                        · refine s_iinc rfl (cn rfl) rfl ?_
                          refine s_goto rfl (ch rfl) ?_
                          exact ih54 (by omega) _ _ _ _ _ c58 c68 hf4 (gq_e (by omega) hu)
                        · refine s_iload rfl (cn rfl) rfl ?_
                          refine s_iload rfl (cn rfl) rfl ?_
                          refine s_icmp_eq rfl (cn rfl) (cn rfl) ⟨by omega, by omega⟩ ⟨by omega, by omega⟩ (fun q75 => ?_) (fun q75 => ?_)
                          · refine s_iinc rfl (cn rfl) rfl ?_
                            refine s_goto rfl (ch rfl) ?_
                            exact ih54 (by omega) _ _ _ _ _ c58 c68 hf4 (gq_e (by omega) hu)
                          · have hX := GS_b hD5 (show k < D by omega) hB hG2 hp (show q < D by omega) (show c ≤ D by omega)
                            have huq : u (6 * q + c) = y (6 * q + c) := (hu q (by omega) c (by omega)).trans (if_neg (by omega))
                            have huk : u (6 * k + c) = y (6 * k + c) := gq_k (by omega) (by omega) hu
                            refine s_aload_n rfl (cn rfl) rfl ?_
                            refine s_getfield rfl (cn rfl) c58 rfl ?_
                            refine s_bipush rfl (cn rfl) (by decide) ?_
                            refine s_iload rfl (cn rfl) rfl ?_
                            refine s_imul rfl (cn rfl) ?_
                            refine s_iload rfl (cn rfl) rfl ?_
                            refine s_iadd rfl (cn rfl) ?_
                            refine s_lload rfl (cn rfl) rfl ?_
                            refine s_aload_n rfl (cn rfl) rfl ?_
                            refine s_getfield rfl (cn rfl) c58 rfl ?_
                            refine s_bipush rfl (cn rfl) (by decide) ?_
                            refine s_iload rfl (cn rfl) rfl ?_
                            refine s_imul rfl (cn rfl) ?_
                            refine s_iload rfl (cn rfl) rfl ?_
                            refine s_iadd rfl (cn rfl) ?_
                            refine s_laload rfl (cn rfl) (6 * q + c) (by omega) c68 (by omega) (by decide) (congrArg jj huq) ?_
                            refine s_lmul rfl (cn rfl) ?_
                            refine s_lload rfl (cn rfl) rfl ?_
                            refine s_aload_n rfl (cn rfl) rfl ?_
                            refine s_getfield rfl (cn rfl) c58 rfl ?_
                            refine s_bipush rfl (cn rfl) (by decide) ?_
                            refine s_iload rfl (cn rfl) rfl ?_
                            refine s_imul rfl (cn rfl) ?_
                            refine s_iload rfl (cn rfl) rfl ?_
                            refine s_iadd rfl (cn rfl) ?_
                            refine s_laload rfl (cn rfl) (6 * k + c) (by omega) c68 (by omega) (by decide) (congrArg jj huk) ?_
                            refine s_lmul rfl (cn rfl) ?_
                            refine s_lsub rfl (cn rfl) ?_
                            refine s_lload_n rfl (cn rfl) rfl ?_
                            refine s_ldiv rfl (cn rfl) ⟨by omega, by omega⟩ ⟨by omega, by omega⟩ (td_b ⟨by omega, by omega⟩) hlb.2 ?_
                            refine s_lastore rfl (cn rfl) (6 * q + c) (by omega) c68 (by omega) (by decide) ?_
                            refine s_iinc rfl (cn rfl) rfl ?_
                            refine s_goto rfl (ch rfl) ?_
                            exact ih69 (by omega) _ _ c58 rr_set_eq (fr_s (by decide) hf4) (gq_s hD5 (by omega) (by omega) (by omega) hu)
                      exact lp69 0 (by omega) _ w c58 c68 hf3 (fun q' hq' c' hc' => (hw q' hq' c' hc').trans (by
                          by_cases e : q' < q
                          · rw [if_pos e, if_pos (Or.inl e)]
                          · rw [if_neg e, if_neg (by omega)]))
                  exact lp54 0 (by omega) _ y _ _ _ c58 c68 hfy (fun q' hq' c hc => (if_neg (by omega)).symm)
            · first
              | (exfalso; omega)
              | skip
                refine s_iconst rfl (cn rfl) ?_
                refine s_zreturn rfl (Or.inl rfl) ?_
                refine Or.inr ⟨rfl, h', x', rfl, fr_w hf (by simp), c58, c68, c69, ?_⟩
                obtain ⟨z, hz1, hz2⟩ := gj_fail hG.1 (show k < D by omega) (fun j j1 j2 => hz0 j j1 (by omega))
                exact ⟨z, ⟨k, by omega, hz1⟩, hz2⟩
          · refine s_iinc rfl (cn rfl) rfl ?_
            refine s_goto rfl (ch rfl) ?_
            exact ih13 (by omega) (by omega) (fun j j1 j2 => by
                by_cases e : j = r
                · subst e; exact q27
                · exact hz0 j j1 (by omega))
      exact lp13 k (by omega) (by omega) (fun j j1 j2 => absurd j2 (by omega))
  exact lp7 0 (by omega) _ x1 1 _ _ _ _ _ _ _ c58 c68 c69 hf1 (GS_cg hD5 (by omega) (GS_0 (B := B) gm_01 (fun q hq => by rw [gm_D (by omega)]; exact hrs q hq)) hx1)
theorem m_cheaper_0 {d N S n : Nat} {kp tp pt wr fa dm ce od sm le sc ti rk ts tm pa wa : Int} {v : Nat → Int} (hn : 2 ≤ n ∧ n ≤ 4) (hv : ∀ k, -999 ≤ v k ∧ v k ≤ 999) {m f : Nat} (hm : m = n) {P0 : Int → Int → Prop} {h : Nat → Option rr_E} {di be ba bb : Int} {Rw : Nat → Nat} {rs x ab : Nat → Int} (c58 : h 58 = some (MO (n : Int) kp tp pt wr fa dm ce di be od sm le sc ba bb ti rk ts tm pa wa)) (c66 : h 66 = some (.inl (0, 5, .inl (fun k => ii ((Rw k : Nat) : Int))))) (c67 : h 67 = some (.inl (1, 5, .inr (.inl (fun k => jj (rs k)))))) (c68 : h 68 = some (.inl (1, 30, .inr (.inl (fun k => jj (x k)))))) (c69 : h 69 = some (.inl (1, 5, .inr (.inl (fun k => jj (ab k)))))) (c59 : h 59 = some (.inl (0, 16, .inl (fun k => ii (v k))))) (hR : ∀ k, Rw k < 16) (hba : bb ≠ 0 → -1500000000000000 ≤ ba ∧ ba ≤ 1500000000000000) (hbb : 0 ≤ bb ∧ bb ≤ 128) (hrs : ∀ k, k < m → -999 ≤ rs k ∧ rs k ≤ 999) (hP : ∀ a b, P0 a b → 0 < b) (hB : BD P0 ba bb) : rr_Calls (d + 5) j_Model_cheaper [.ref 58, .int (ii (m : Int)), .int (ii (f : Int))] (N, S, h) (fun r R => r = none ∧ ∃ (h' : Nat → Option rr_E) (di' be' ba' bb' : Int) (Rw' : Nat → Nat) (rs' x' ab' : Nat → Int), R = (N, S, h') ∧ fr [58, 66, 67, 68, 69] h h' ∧ h' 58 = some (MO (n : Int) kp tp pt wr fa dm ce di' be' od sm le sc ba' bb' ti rk ts tm pa wa) ∧ h' 66 = some (.inl (0, 5, .inl (fun k => ii ((Rw' k : Nat) : Int)))) ∧ h' 67 = some (.inl (1, 5, .inr (.inl (fun k => jj (rs' k))))) ∧ h' 68 = some (.inl (1, 30, .inr (.inl (fun k => jj (x' k))))) ∧ h' 69 = some (.inl (1, 5, .inr (.inl (fun k => jj (ab' k))))) ∧ (∀ k, k < m → Rw' k = Rw k ∧ rs' k = rs k) ∧ (∀ k, Rw' k < 16) ∧ (bb' ≠ 0 → -1500000000000000 ≤ ba' ∧ ba' ≤ 1500000000000000) ∧ (0 ≤ bb' ∧ bb' ≤ 128) ∧ BD (fun a b => P0 a b ∨ cPm n v m f Rw rs a b) ba' bb') := by
  refine rr_meth (C := K_Model_cheaper) (hd := h_Model_cheaper) (mx := 5) rfl rfl (fun K hK => ?_)
  have hA := al_b hn
  refine hK _ _ _ _ ?_
  refine s_iload_n rfl (cn rfl) rfl ?_
  refine s_aload_n rfl (cn rfl) rfl ?_
  refine s_getfield rfl (cn rfl) c58 rfl ?_
  refine s_icmp_ge rfl (cn rfl) (cn rfl) ⟨by omega, by omega⟩ ⟨by omega, by omega⟩ (fun q3 => ?_) (fun q3 => ?_)
  · refine s_aload_n rfl (cn rfl) rfl ?_
    refine s_iconst rfl (cn rfl) ?_
    refine s_virt rfl (cn rfl) rfl rfl c58 rfl (m_isSolved0 (D := n) (B := 999) hn c58 c66 c67 c68 hR ⟨rfl, rfl⟩ c69 (by decide) (fun q hq => hrs q (by omega))) ?_
    rintro _ _ (⟨rfl, h1, x1, a1, b1, rfl, hf1, c58, c68, c69, s1, s2, s3, s4, s5, s6⟩ | ⟨rfl, h1, x1, rfl, hf1, c58, c68, c69, z, ⟨j, j1, j2⟩, z2⟩)
    · have c59 := (hf1 59 (by decide)).trans c59
      have c66 := (hf1 66 (by decide)).trans c66
      have c67 := (hf1 67 (by decide)).trans c67
      have hab : ∀ q, q < n → -65470464 ≤ a1 q ∧ a1 q ≤ 65470464 := fun q hq => by have := s5 q hq; omega
      have hsh : ∀ g, -261881856 ≤ st_sh n g a1 ∧ st_sh n g a1 ≤ 261881856 := fun g => by
        have := sh_b (g := g) (x := a1) (c := 65470464) (by decide) n hab
        have : (n : Int) * 65470464 ≤ 4 * 65470464 := by omega
        omega
      refine s_if_ne rfl (cn rfl) (cn rfl) (by decide) (fun q38 => ?_) (fun q38 => absurd q38 (by decide))
      refine s_iconst rfl (cn rfl) ?_
      refine s_istore_n rfl (ch rfl) ?_
      have lp42 : ∀ g : Nat, g ≤ al n → ∀ (g1 : 1 ≤ g) (hfe : ∀ k, 1 ≤ k → k < g → b1 * v k ≤ st_sh n k a1), K 42 [some (.ref 58), some (.int (ii (m : Int))), some (.int (ii (f : Int))), some (.int (ii (g : Int))), none] [] (N, S, h1) := by
        refine dn (fun g hg ih42 => ?_)
        intro g1 hfe
        have hvg := hv g
        have hsg := hsh g
        have hbv := ku_mul (x := b1) (y := v g) (a := 128) (b := 999) (by omega) hvg
        refine hK _ _ _ _ ?_
        refine s_iload_n rfl (cn rfl) rfl ?_
        refine s_aload_n rfl (cn rfl) rfl ?_
        refine s_virt rfl (cn rfl) rfl rfl c58 rfl (m_all hn c58) ?_
        rintro _ _ ⟨rfl, rfl⟩
        refine s_icmp_ge rfl (cn rfl) (cn rfl) ⟨by omega, by omega⟩ ⟨by omega, by omega⟩ (fun q45 => ?_) (fun q45 => ?_)
        · have hfe2 : ∀ k, 1 ≤ k → k < al n → b1 * v k ≤ st_sh n k a1 := fun k k1 k2 => hfe k k1 (by omega)
          have hsa := hsh (al n)
          have hm1 := ku_mul (x := st_sh n (al n) a1) (y := bb) (a := 261881856) (b := 128) hsa (by omega)
          have hm2 : bb ≠ 0 → -(1500000000000000 * 128) ≤ ba * b1 ∧ ba * b1 ≤ 1500000000000000 * 128 := fun e => ku_mul (x := ba) (y := b1) (a := 1500000000000000) (b := 128) (hba e) (by omega)
          refine s_aload_n rfl (cn rfl) rfl ?_
          refine s_aload_n rfl (cn rfl) rfl ?_
          refine s_virt rfl (cn rfl) rfl rfl c58 rfl (m_all hn c58) ?_
          rintro _ _ ⟨rfl, rfl⟩
          refine s_virt rfl (cn rfl) rfl rfl c58 rfl (m_sumOf hn c58 c69 (by omega)) ?_
          rintro _ _ ⟨rfl, rfl⟩
          refine s_lstore_n rfl (cn rfl) ?_
          refine s_aload_n rfl (cn rfl) rfl ?_
          refine s_getfield rfl (cn rfl) c58 rfl ?_
          refine s_lconst rfl (cn rfl) 0 (by decide) ?_
          refine s_lcmp rfl (cn rfl) ?_
          refine s_ifl_eq rfl (cn rfl) (cn rfl) ⟨by omega, by omega⟩ ⟨by omega, by omega⟩ (fun q71 => ?_) (fun q71 => ?_)
          · refine s_aload_n rfl (cn rfl) rfl ?_
            refine s_lload_n rfl (cn rfl) rfl ?_
            refine s_putl rfl (cn rfl) rfl c58 rfl ?_
            refine s_aload_n rfl (cn rfl) rfl ?_
            refine s_aload_n rfl (cn rfl) rfl ?_
            refine s_getfield rfl (cn rfl) rr_set_eq rfl ?_
            refine s_putl rfl (cn rfl) rfl rr_set_eq rfl ?_
            refine s_return rfl ?_
            subst hm
            exact ⟨rfl, _, _, _, st_sh m (al m) a1, b1, _, _, _, _, rfl, fr_s (by decide) (fr_s (by decide) (fr_w hf1 (by simp))), rr_set_eq, c66, c67, c68, c69, fun k _ => ⟨rfl, rfl⟩, hR, fun _ => by omega, by omega, ccor_go hP hB s1 s3 s4 (Or.inr ⟨hfe2, fun _ => ⟨rfl, rfl⟩, fun q1 q2 => by first | omega | exact absurd q71 q1⟩)⟩
          · have hm3 := hm2 q71
            refine s_lload_n rfl (cn rfl) rfl ?_
            refine s_aload_n rfl (cn rfl) rfl ?_
            refine s_getfield rfl (cn rfl) c58 rfl ?_
            refine s_lmul rfl (cn rfl) ?_
            refine s_aload_n rfl (cn rfl) rfl ?_
            refine s_getfield rfl (cn rfl) c58 rfl ?_
            refine s_aload_n rfl (cn rfl) rfl ?_
            refine s_getfield rfl (cn rfl) c58 rfl ?_
            refine s_lmul rfl (cn rfl) ?_
            refine s_lcmp rfl (cn rfl) ?_
            refine s_ifl_lt rfl (cn rfl) (cn rfl) ⟨by omega, by omega⟩ ⟨by omega, by omega⟩ (fun q82 => ?_) (fun q82 => ?_)
            · refine s_aload_n rfl (cn rfl) rfl ?_
              refine s_lload_n rfl (cn rfl) rfl ?_
              refine s_putl rfl (cn rfl) rfl c58 rfl ?_
              refine s_aload_n rfl (cn rfl) rfl ?_
              refine s_aload_n rfl (cn rfl) rfl ?_
              refine s_getfield rfl (cn rfl) rr_set_eq rfl ?_
              refine s_putl rfl (cn rfl) rfl rr_set_eq rfl ?_
              refine s_return rfl ?_
              subst hm
              exact ⟨rfl, _, _, _, st_sh m (al m) a1, b1, _, _, _, _, rfl, fr_s (by decide) (fr_s (by decide) (fr_w hf1 (by simp))), rr_set_eq, c66, c67, c68, c69, fun k _ => ⟨rfl, rfl⟩, hR, fun _ => by omega, by omega, ccor_go hP hB s1 s3 s4 (Or.inr ⟨hfe2, fun _ => ⟨rfl, rfl⟩, fun q1 q2 => by first | omega | exact absurd q71 q1⟩)⟩
            · refine s_return rfl ?_
              subst hm
              exact ⟨rfl, h1, _, _, _, _, _, _, _, _, rfl, fr_w hf1 (by simp), c58, c66, c67, c68, c69, fun k _ => ⟨rfl, rfl⟩, hR, hba, hbb, ccor_go hP hB s1 s3 s4 (Or.inr ⟨hfe2, fun q => by omega, fun _ _ => ⟨rfl, rfl⟩⟩)⟩
        · refine s_aload_n rfl (cn rfl) rfl ?_
          refine s_iload_n rfl (cn rfl) rfl ?_
          refine s_virt rfl (cn rfl) rfl rfl c58 rfl (m_sumOf hn c58 c69 (by omega)) ?_
          rintro _ _ ⟨rfl, rfl⟩
          refine s_aload_n rfl (cn rfl) rfl ?_
          refine s_getfield rfl (cn rfl) c58 rfl ?_
          refine s_aload_n rfl (cn rfl) rfl ?_
          refine s_getfield rfl (cn rfl) c58 rfl ?_
          refine s_iload_n rfl (cn rfl) rfl ?_
          refine s_iaload rfl (cn rfl) _ rfl c59 rfl (by omega) (by decide) rfl ?_
          refine s_i2l rfl (cn rfl) ⟨by omega, by omega⟩ ?_
          refine s_lmul rfl (cn rfl) ?_
          refine s_lcmp rfl (cn rfl) ?_
          refine s_ifl_ge rfl (cn rfl) (cn rfl) ⟨by omega, by omega⟩ ⟨by omega, by omega⟩ (fun q58 => ?_) (fun q58 => ?_)
          · refine s_iinc rfl (cn rfl) rfl ?_
            refine s_goto rfl (ch rfl) ?_
            exact ih42 (by omega) (by omega) (fun k k1 k2 => by
                by_cases e : k = g
                · subst e; exact q58
                · exact hfe k k1 (by omega))
          · refine s_return rfl ?_
            subst hm
            exact ⟨rfl, h1, _, _, _, _, _, _, _, _, rfl, fr_w hf1 (by simp), c58, c66, c67, c68, c69, fun k _ => ⟨rfl, rfl⟩, hR, hba, hbb, ccor_go hP hB s1 s3 s4 (Or.inl ⟨fun q => by have := q g g1 (by omega); omega, rfl, rfl⟩)⟩
      exact lp42 1 (by omega) (by omega) (fun k k1 k2 => absurd k2 (by omega))
    · have c59 := (hf1 59 (by decide)).trans c59
      have c66 := (hf1 66 (by decide)).trans c66
      have c67 := (hf1 67 (by decide)).trans c67
      refine s_if_ne rfl (cn rfl) (cn rfl) (by decide) (fun q38 => absurd q38 (by decide)) (fun q38 => ?_)
      refine s_return rfl ?_
      subst hm
      exact ⟨rfl, h1, _, _, _, _, _, _, _, _, rfl, fr_w hf1 (by simp), c58, c66, c67, c68, c69, fun k _ => ⟨rfl, rfl⟩, hR, hba, hbb, BD_cg hB (fun a b => ⟨fun q => by
        rcases q with q | q
        · exact q
        · exact absurd ((cPm_end.mp q).1 z z2 j j1) j2, Or.inl⟩)⟩
  · exfalso; omega
theorem m_cheaper_s {d N S n : Nat} {kp tp pt wr fa dm ce od sm le sc ti rk ts tm pa wa : Int} {v : Nat → Int} (hn : 2 ≤ n ∧ n ≤ 4) (hv : ∀ k, -999 ≤ v k ∧ v k ≤ 999) {m f k : Nat} (hk : m + (k + 1) = n) (hfa : f ≤ al n) {P0 : Int → Int → Prop} {h : Nat → Option rr_E} {di be ba bb : Int} {Rw : Nat → Nat} {rs x ab : Nat → Int} (c58 : h 58 = some (MO (n : Int) kp tp pt wr fa dm ce di be od sm le sc ba bb ti rk ts tm pa wa)) (c66 : h 66 = some (.inl (0, 5, .inl (fun k => ii ((Rw k : Nat) : Int))))) (c67 : h 67 = some (.inl (1, 5, .inr (.inl (fun k => jj (rs k)))))) (c68 : h 68 = some (.inl (1, 30, .inr (.inl (fun k => jj (x k)))))) (c69 : h 69 = some (.inl (1, 5, .inr (.inl (fun k => jj (ab k)))))) (c59 : h 59 = some (.inl (0, 16, .inl (fun k => ii (v k))))) (hR : ∀ k, Rw k < 16) (hba : bb ≠ 0 → -1500000000000000 ≤ ba ∧ ba ≤ 1500000000000000) (hbb : 0 ≤ bb ∧ bb ≤ 128) (hrs : ∀ k, k < m → -999 ≤ rs k ∧ rs k ≤ 999) (hP : ∀ a b, P0 a b → 0 < b) (hB : BD P0 ba bb) (ih : ∀ (m f : Nat), m + k = n → f ≤ al n → ∀ {P0 : Int → Int → Prop} {h : Nat → Option rr_E} {di be ba bb : Int} {Rw : Nat → Nat} {rs x ab : Nat → Int}, (h 58 = some (MO (n : Int) kp tp pt wr fa dm ce di be od sm le sc ba bb ti rk ts tm pa wa)) → (h 66 = some (.inl (0, 5, .inl (fun k => ii ((Rw k : Nat) : Int))))) → (h 67 = some (.inl (1, 5, .inr (.inl (fun k => jj (rs k)))))) → (h 68 = some (.inl (1, 30, .inr (.inl (fun k => jj (x k)))))) → (h 69 = some (.inl (1, 5, .inr (.inl (fun k => jj (ab k)))))) → (h 59 = some (.inl (0, 16, .inl (fun k => ii (v k))))) → (∀ k, Rw k < 16) → (bb ≠ 0 → -1500000000000000 ≤ ba ∧ ba ≤ 1500000000000000) → (0 ≤ bb ∧ bb ≤ 128) → (∀ k, k < m → -999 ≤ rs k ∧ rs k ≤ 999) → (∀ a b, P0 a b → 0 < b) → BD P0 ba bb → rr_Calls (d + (k + 5)) j_Model_cheaper [.ref 58, .int (ii (m : Int)), .int (ii (f : Int))] (N, S, h) (fun r R => r = none ∧ ∃ (h' : Nat → Option rr_E) (di' be' ba' bb' : Int) (Rw' : Nat → Nat) (rs' x' ab' : Nat → Int), R = (N, S, h') ∧ fr [58, 66, 67, 68, 69] h h' ∧ h' 58 = some (MO (n : Int) kp tp pt wr fa dm ce di' be' od sm le sc ba' bb' ti rk ts tm pa wa) ∧ h' 66 = some (.inl (0, 5, .inl (fun k => ii ((Rw' k : Nat) : Int)))) ∧ h' 67 = some (.inl (1, 5, .inr (.inl (fun k => jj (rs' k))))) ∧ h' 68 = some (.inl (1, 30, .inr (.inl (fun k => jj (x' k))))) ∧ h' 69 = some (.inl (1, 5, .inr (.inl (fun k => jj (ab' k))))) ∧ (∀ k, k < m → Rw' k = Rw k ∧ rs' k = rs k) ∧ (∀ k, Rw' k < 16) ∧ (bb' ≠ 0 → -1500000000000000 ≤ ba' ∧ ba' ≤ 1500000000000000) ∧ (0 ≤ bb' ∧ bb' ≤ 128) ∧ BD (fun a b => P0 a b ∨ cPm n v m f Rw rs a b) ba' bb')) : rr_Calls (d + (k + 1 + 5)) j_Model_cheaper [.ref 58, .int (ii (m : Int)), .int (ii (f : Int))] (N, S, h) (fun r R => r = none ∧ ∃ (h' : Nat → Option rr_E) (di' be' ba' bb' : Int) (Rw' : Nat → Nat) (rs' x' ab' : Nat → Int), R = (N, S, h') ∧ fr [58, 66, 67, 68, 69] h h' ∧ h' 58 = some (MO (n : Int) kp tp pt wr fa dm ce di' be' od sm le sc ba' bb' ti rk ts tm pa wa) ∧ h' 66 = some (.inl (0, 5, .inl (fun k => ii ((Rw' k : Nat) : Int)))) ∧ h' 67 = some (.inl (1, 5, .inr (.inl (fun k => jj (rs' k))))) ∧ h' 68 = some (.inl (1, 30, .inr (.inl (fun k => jj (x' k))))) ∧ h' 69 = some (.inl (1, 5, .inr (.inl (fun k => jj (ab' k))))) ∧ (∀ k, k < m → Rw' k = Rw k ∧ rs' k = rs k) ∧ (∀ k, Rw' k < 16) ∧ (bb' ≠ 0 → -1500000000000000 ≤ ba' ∧ ba' ≤ 1500000000000000) ∧ (0 ≤ bb' ∧ bb' ≤ 128) ∧ BD (fun a b => P0 a b ∨ cPm n v m f Rw rs a b) ba' bb') := by
  refine rr_meth (C := K_Model_cheaper) (hd := h_Model_cheaper) (mx := 5) rfl rfl (fun K hK => ?_)
  have hA := al_b hn
  refine hK _ _ _ _ ?_
  refine s_iload_n rfl (cn rfl) rfl ?_
  refine s_aload_n rfl (cn rfl) rfl ?_
  refine s_getfield rfl (cn rfl) c58 rfl ?_
  refine s_icmp_ge rfl (cn rfl) (cn rfl) ⟨by omega, by omega⟩ ⟨by omega, by omega⟩ (fun q3 => ?_) (fun q3 => ?_)
  · exfalso; omega
  · refine s_iload_n rfl (cn rfl) rfl ?_
    refine s_istore_n rfl (ch rfl) ?_
    have lp6 : ∀ g : Nat, g ≤ al n → ∀ (h' : Nat → Option rr_E) (di' be' ba' bb' : Int) (Rw' : Nat → Nat) (rs' x' ab' : Nat → Int) (c58 : h' 58 = some (MO (n : Int) kp tp pt wr fa dm ce di' be' od sm le sc ba' bb' ti rk ts tm pa wa)) (c66 : h' 66 = some (.inl (0, 5, .inl (fun k => ii ((Rw' k : Nat) : Int))))) (c67 : h' 67 = some (.inl (1, 5, .inr (.inl (fun k => jj (rs' k)))))) (c68 : h' 68 = some (.inl (1, 30, .inr (.inl (fun k => jj (x' k)))))) (c69 : h' 69 = some (.inl (1, 5, .inr (.inl (fun k => jj (ab' k)))))) (hR : ∀ k, Rw' k < 16) (hba : bb' ≠ 0 → -1500000000000000 ≤ ba' ∧ ba' ≤ 1500000000000000) (hbb : 0 ≤ bb' ∧ bb' ≤ 128) (hf : fr [58, 66, 67, 68, 69] h h') (hag : ∀ k, k < m → Rw' k = Rw k ∧ rs' k = rs k) (g1 : f ≤ g) (hB' : BD (fun a b => P0 a b ∨ cPk n v m f g Rw rs a b) ba' bb'), K 6 [some (.ref 58), some (.int (ii (m : Int))), some (.int (ii (f : Int))), some (.int (ii (g : Int))), none] [] (N, S, h') := by
      refine dn (fun g hg ih6 => ?_)
      intro h' di' be' ba' bb' Rw' rs' x' ab' c58 c66 c67 c68 c69 hR' hba' hbb' hf hag g1 hB'
      have c59 := (hf 59 (by decide)).trans c59
      refine hK _ _ _ _ ?_
      refine s_iload_n rfl (cn rfl) rfl ?_
      refine s_aload_n rfl (cn rfl) rfl ?_
      refine s_virt rfl (cn rfl) rfl rfl c58 rfl (m_all hn c58) ?_
      rintro _ _ ⟨rfl, rfl⟩
      refine s_icmp_ge rfl (cn rfl) (cn rfl) ⟨by omega, by omega⟩ ⟨by omega, by omega⟩ (fun q9 => ?_) (fun q9 => ?_)
      · refine s_return rfl ?_
        obtain rfl : g = al n := by omega
        exact ⟨rfl, h', _, _, _, _, _, _, _, _, rfl, hf, c58, c66, c67, c68, c69, hag, hR', hba', hbb', cI_e (by omega) hB'⟩
      · have hvg := hv g
        have hPP : ∀ a b, (P0 a b ∨ cPk n v m f g Rw rs a b) → 0 < b := fun a b q => by
          rcases q with q | ⟨_, _, _, q⟩
          · exact hP a b q
          · exact cPm_pos q
        refine s_aload_n rfl (cn rfl) rfl ?_
        refine s_getfield rfl (cn rfl) c58 rfl ?_
        refine s_iload_n rfl (cn rfl) rfl ?_
        refine s_iload_n rfl (cn rfl) rfl ?_
        refine s_iastore rfl (cn rfl) _ rfl c66 (by omega) (by decide) ?_
        refine s_aload_n rfl (cn rfl) rfl ?_
        refine s_getfield rfl (cn rfl) c58 rfl ?_
        refine s_iload_n rfl (cn rfl) rfl ?_
        refine s_aload_n rfl (cn rfl) rfl ?_
        refine s_getfield rfl (cn rfl) c58 rfl ?_
        refine s_iload_n rfl (cn rfl) rfl ?_
        refine s_iaload rfl (cn rfl) _ rfl c59 rfl (by omega) (by decide) rfl ?_
        refine s_i2l rfl (cn rfl) ⟨by omega, by omega⟩ ?_
        refine s_lastore rfl (cn rfl) _ rfl c67 (by omega) (by decide) ?_
        refine s_aload_n rfl (cn rfl) rfl ?_
        refine s_iload_n rfl (cn rfl) rfl ?_
        refine s_iconst rfl (cn rfl) ?_
        refine s_iadd rfl (cn rfl) ?_
        refine s_iload_n rfl (cn rfl) rfl ?_
        refine s_iconst rfl (cn rfl) ?_
        refine s_iadd rfl (cn rfl) ?_
        refine s_virt rfl (cn rfl) rfl rfl c58 rfl (ih (m + 1) (g + 1) (by omega) (by omega) (P0 := fun a b => P0 a b ∨ cPk n v m f g Rw rs a b) (Rw := pu Rw' m g) (rs := fu rs' m (v g)) c58 (ar_f (v := fu (fun k => ((Rw' k : Nat) : Int)) m (g : Int)) rfl pu_e) rr_set_eq c68 c69 c59 (fun k => by unfold pu; split; omega; exact hR' k) hba' hbb' (fun k hk => by
          by_cases e : k = m
          · subst e; rw [fu_s]; exact hvg
          · rw [fu_n e, (hag k (by omega)).2]; exact hrs k (by omega)) hPP hB') ?_
        rintro _ _ ⟨rfl, h2, di2, be2, ba2, bb2, Rw2, rs2, x2, ab2, rfl, hf2, c58, c66, c67, c68, c69, hag2, hR2, hba2, hbb2, hB2⟩
        refine s_iinc rfl (cn rfl) rfl ?_
        refine s_goto rfl (ch rfl) ?_
        exact ih6 (by omega) h2 _ _ _ _ _ _ _ _ c58 c66 c67 c68 c69 hR2 hba2 hbb2 (fr_t (fr_s (by decide) (fr_s (by decide) hf)) hf2 (by simp)) (fun k hk => ⟨((hag2 k (by omega)).1.trans (pu_n (by omega))).trans (hag k hk).1, ((hag2 k (by omega)).2.trans (fu_n (by omega))).trans (hag k hk).2⟩) (by omega) (cI_s hag g1 hB2)
    exact lp6 f hfa _ _ _ _ _ _ _ _ _ c58 c66 c67 c68 c69 hR hba hbb fr_r (fun k _ => ⟨rfl, rfl⟩) (by omega) (cI_0 hB)
theorem m_cheaper {d N S n : Nat} {kp tp pt wr fa dm ce od sm le sc ti rk ts tm pa wa : Int} {v : Nat → Int} (hn : 2 ≤ n ∧ n ≤ 4) (hv : ∀ k, -999 ≤ v k ∧ v k ≤ 999) : ∀ (k m f : Nat), m + k = n → f ≤ al n → ∀ {P0 : Int → Int → Prop} {h : Nat → Option rr_E} {di be ba bb : Int} {Rw : Nat → Nat} {rs x ab : Nat → Int}, (h 58 = some (MO (n : Int) kp tp pt wr fa dm ce di be od sm le sc ba bb ti rk ts tm pa wa)) → (h 66 = some (.inl (0, 5, .inl (fun k => ii ((Rw k : Nat) : Int))))) → (h 67 = some (.inl (1, 5, .inr (.inl (fun k => jj (rs k)))))) → (h 68 = some (.inl (1, 30, .inr (.inl (fun k => jj (x k)))))) → (h 69 = some (.inl (1, 5, .inr (.inl (fun k => jj (ab k)))))) → (h 59 = some (.inl (0, 16, .inl (fun k => ii (v k))))) → (∀ k, Rw k < 16) → (bb ≠ 0 → -1500000000000000 ≤ ba ∧ ba ≤ 1500000000000000) → (0 ≤ bb ∧ bb ≤ 128) → (∀ k, k < m → -999 ≤ rs k ∧ rs k ≤ 999) → (∀ a b, P0 a b → 0 < b) → BD P0 ba bb → rr_Calls (d + (k + 5)) j_Model_cheaper [.ref 58, .int (ii (m : Int)), .int (ii (f : Int))] (N, S, h) (fun r R => r = none ∧ ∃ (h' : Nat → Option rr_E) (di' be' ba' bb' : Int) (Rw' : Nat → Nat) (rs' x' ab' : Nat → Int), R = (N, S, h') ∧ fr [58, 66, 67, 68, 69] h h' ∧ h' 58 = some (MO (n : Int) kp tp pt wr fa dm ce di' be' od sm le sc ba' bb' ti rk ts tm pa wa) ∧ h' 66 = some (.inl (0, 5, .inl (fun k => ii ((Rw' k : Nat) : Int)))) ∧ h' 67 = some (.inl (1, 5, .inr (.inl (fun k => jj (rs' k))))) ∧ h' 68 = some (.inl (1, 30, .inr (.inl (fun k => jj (x' k))))) ∧ h' 69 = some (.inl (1, 5, .inr (.inl (fun k => jj (ab' k))))) ∧ (∀ k, k < m → Rw' k = Rw k ∧ rs' k = rs k) ∧ (∀ k, Rw' k < 16) ∧ (bb' ≠ 0 → -1500000000000000 ≤ ba' ∧ ba' ≤ 1500000000000000) ∧ (0 ≤ bb' ∧ bb' ≤ 128) ∧ BD (fun a b => P0 a b ∨ cPm n v m f Rw rs a b) ba' bb') := by
  intro k
  induction k with
  | zero =>
    intro m f hk hfa P0 h di be ba bb Rw rs x ab c58 c66 c67 c68 c69 c59 hR hba hbb hrs hP hB
    exact m_cheaper_0 hn hv (by omega) c58 c66 c67 c68 c69 c59 hR hba hbb hrs hP hB
  | succ k ih =>
    intro m f hk hfa P0 h di be ba bb Rw rs x ab c58 c66 c67 c68 c69 c59 hR hba hbb hrs hP hB
    exact m_cheaper_s hn hv hk hfa c58 c66 c67 c68 c69 c59 hR hba hbb hrs hP hB ih
theorem m_cost {d N S n : Nat} {kp tp pt wr fa dm ce di be od sm le sc ba bb rk ts tm pa wa : Int} {ti : Nat} {v : Nat → Int} {h : Nat → Option rr_E} (hn : 2 ≤ n ∧ n ≤ 4) (hv : ∀ k, -999 ≤ v k ∧ v k ≤ 999) (h0 : v 0 = 0) (c58 : h 58 = some (MO (n : Int) kp tp pt wr fa dm ce di be od sm le sc ba bb (ti : Int) rk ts tm pa wa)) (c59 : h 59 = some (.inl (0, 16, .inl (fun k => ii (v k))))) (hti : ti < 32768) (hba : -1500000000000000 ≤ ba ∧ ba ≤ 1500000000000000) (hod : od = 0 ∨ od = 1) (hW : MW h) (hL : ML h) (hs : od = 0 → MS h n v sm) {z : Int} (hz : b3 z) : rr_Calls (d + (n + 6)) j_Model_cost [.ref 58, .int (ii z)] (N, S, h) (fun r R => r = some (.long (jj (sp_cost n v z))) ∧ ∃ (h' : Nat → Option rr_E) (ce' di' be' sm' le' sc' ba' bb' rk' od' : Int) (ti' : Nat), R = (N, S, h') ∧ fr [58, 66, 67, 68, 69, 70, 71, 72, 73, 74] h h' ∧ h' 58 = some (MO (n : Int) kp tp pt wr fa dm ce' di' be' od' sm' le' sc' ba' bb' (ti' : Int) rk' ts tm pa wa) ∧ ti' < 32768 ∧ (-1500000000000000 ≤ ba' ∧ ba' ≤ 1500000000000000) ∧ (od' = 0 ∨ od' = 1) ∧ MW h' ∧ ML h' ∧ (od' = 0 → MS h' n v sm')) := by
  refine rr_meth (C := K_Model_cost) (hd := h_Model_cost) (mx := 2) rfl rfl (fun K hK => ?_)
  have hA := al_b hn
  have hW0 := hW
  obtain ⟨Rw, rs, x, ab, xr, c66, c67, c68, c69, c74, hR⟩ := hW
  refine hK _ _ _ _ ?_
  refine s_iload_n rfl (cn rfl) rfl ?_
  refine s_i2l rfl (cn rfl) ⟨by omega, by omega⟩ ?_
  refine s_lconst rfl (cn rfl) 0 (by decide) ?_
  refine s_lconst rfl (cn rfl) 1 (by decide) ?_
  refine s_stat rfl (cn rfl) rfl rfl rfl (calls_d (m_in (d := d + (n + 4)) ⟨by omega, by omega⟩ (by decide) (by decide)) (show d + (n + 4) + 1 = d + (n + 5) by omega)) ?_
  rintro _ _ ⟨rfl, rfl⟩
  refine s_ifb_ne rfl (cn rfl) (cn rfl) (fun q5 => ?_) (fun q5 => ?_)
  · refine s_aload_n rfl (cn rfl) rfl ?_
    refine s_lconst rfl (cn rfl) 0 (by decide) ?_
    refine s_putl rfl (cn rfl) rfl c58 rfl ?_
    refine s_aload_n rfl (cn rfl) rfl ?_
    refine s_iconst rfl (cn rfl) ?_
    refine s_iconst rfl (cn rfl) ?_
    refine s_virt rfl (cn rfl) rfl rfl rr_set_eq rfl (calls_d (m_cheaper (d := d) (P0 := fun _ _ => False) hn hv n 0 1 (by omega) (by omega) rr_set_eq c66 c67 c68 c69 c59 hR (fun e => absurd rfl e) (by decide) (fun k hk => absurd hk (by omega)) (fun _ _ z => z.elim) (Or.inl ⟨rfl, fun _ _ z => z⟩)) (show d + (n + 5) = d + (n + 5) from rfl)) ?_
    rintro _ _ ⟨rfl, h2, di2, be2, ba2, bb2, Rw2, rs2, x2, ab2, rfl, hf2, c58, c66, c67, c68, c69, hag2, hR2, hba2, hbb2, hB2⟩
    have hx := cPQ_s hn hv h0
    obtain ⟨hb0, hbe⟩ := cost_all hn hx (BD_cg hB2 (fun a b => ⟨Or.inr, fun z => by
      rcases z with z | z
      · exact z.elim
      · exact z⟩))
    have hba3 := hba2 (by omega)
    refine s_aload_n rfl (cn rfl) rfl ?_
    refine s_getfield rfl (cn rfl) c58 rfl ?_
    refine s_aload_n rfl (cn rfl) rfl ?_
    refine s_getfield rfl (cn rfl) c58 rfl ?_
    refine s_iload_n rfl (cn rfl) rfl ?_
    refine s_stat rfl (cn rfl) rfl rfl rfl (calls_d (m_lowest (d := d + (n + 3)) ⟨by omega, by omega⟩ ⟨by omega, by omega⟩ (by omega) hz) (show d + (n + 3) + 2 = d + (n + 5) by omega)) ?_
    rintro _ _ ⟨rfl, rfl⟩
    refine s_lreturn rfl ?_
    exact ⟨rl (by rw [show sp_cost n v z = _ from if_pos (show z = 0 ∨ z = 1 by omega)]; exact lw_eq hb0 hx.1 hbe), h2, _, _, _, _, _, _, _, _, _, od, ti, rfl, fr_w (fr_t (l := [58, 66, 67, 68, 69]) (fr_s (by decide) fr_r) hf2 (by simp)) (by simp), c58, hti, hba3, hod, ⟨Rw2, rs2, x2, ab2, xr, c66, c67, c68, c69, (hf2 74 (by decide)).trans c74, hR2⟩, fr_ML (fr_t (l := [58, 66, 67, 68, 69]) (fr_s (by decide) fr_r) hf2 (by simp)) (by decide) hL, fun e => fr_MS (fr_t (l := [58, 66, 67, 68, 69]) (fr_s (by decide) fr_r) hf2 (by simp)) (by decide) (hs e)⟩
  · refine s_ldc2_w rfl (cn rfl) ?_
    refine s_lreturn rfl ?_
    exact ⟨rl (if_neg (fun q => q5 (by omega))).symm, h, _, _, _, _, _, _, _, _, _, od, ti, rfl, fr_r, c58, hti, hba, hod, hW0, hL, hs⟩
