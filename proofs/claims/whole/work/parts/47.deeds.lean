/-! The class's reader: deeds. -/
theorem WB0_b : ∀ k, k < 6 → WB0 k ≤ 127 := by decide
theorem WB1_b : ∀ k, k < 5 → WB1 k ≤ 127 := by decide
theorem WB2_b : ∀ k, k < 4 → WB2 k ≤ 127 := by decide
theorem WB3_b : ∀ k, k < 4 → WB3 k ≤ 127 := by decide
theorem WB4_b : ∀ k, k < 4 → WB4 k ≤ 127 := by decide
theorem WB5_b : ∀ k, k < 4 → WB5 k ≤ 127 := by decide
theorem u_spells_0 {d N S : Nat} {h : Nat → Option rr_E} {tl : Nat} {sc sf sv : Int} {tp : Nat → Int} {p : Nat} (htl : tl ≤ 100) (hp : p ≤ tl) (ht : ∀ p, p < tl → 1 ≤ tp p ∧ tp p ≤ 127) (c7 : h 7 = some (SC (tl : Int) sc (p : Int) sf sv)) (c8 : h 8 = some (.inl (0, 100, .inl (fun k => ii (tp k))))) (c1000010 : h 1000010 = some (.inr (20, [.ref 1000020, .int (ii 0)]))) (c1000020 : h 1000020 = some (.inl (9, 6, .inl (fun j => (rr_sby.getD 0 []).getD j 0)))) {f : Nat} (hfp : f ≤ p) : rr_Calls (d + 5) j_Script_spells [.ref 7, .int (ii (f : Int)), .ref 1000010] (N, S, h) (fun r R => r = some (.int (rc (spl WB0 6 tp f p))) ∧ R = (N, S, h)) := by
  refine rr_meth (C := K_Script_spells) (hd := h_Script_spells) (mx := 4) rfl rfl (fun K hK => ?_)
  refine hK _ _ _ _ ?_
  refine s_aload_n rfl (cn rfl) rfl ?_
  refine s_getfield rfl (cn rfl) c7 rfl ?_
  refine s_iload_n rfl (cn rfl) rfl ?_
  refine s_isub rfl (cn rfl) ?_
  refine s_aload_n rfl (cn rfl) rfl ?_
  refine s_virt rfl (cn rfl) rfl rfl c1000010 rfl (u_len_0 c1000010 c1000020) ?_
  rintro _ _ ⟨rfl, rfl⟩
  refine s_icmp_eq rfl (cn rfl) (cn rfl) ⟨by omega, by omega⟩ ⟨by omega, by omega⟩ (fun q6 => ?_) (fun q6 => ?_)
  · refine s_iconst rfl (cn rfl) ?_
    refine s_istore_n rfl (ch rfl) ?_
    have lp11 : ∀ k : Nat, k ≤ 6 → ∀ (no : ∀ j, j < k → tp (f + j) = (WB0 j : Int)), K 11 [some (.ref 7), some (.int (ii (f : Int))), some (.ref 1000010), some (.int (ii (k : Int)))] [] (N, S, h) := by
      refine dn (fun k hk ih11 => ?_)
      intro no
      refine hK _ _ _ _ ?_
      refine s_iload_n rfl (cn rfl) rfl ?_
      refine s_aload_n rfl (cn rfl) rfl ?_
      refine s_virt rfl (cn rfl) rfl rfl c1000010 rfl (u_len_0 c1000010 c1000020) ?_
      rintro _ _ ⟨rfl, rfl⟩
      refine s_icmp_ge rfl (cn rfl) (cn rfl) ⟨by omega, by omega⟩ ⟨by omega, by omega⟩ (fun q14 => ?_) (fun q14 => ?_)
      · refine s_iconst rfl (cn rfl) ?_
        refine s_zreturn rfl (Or.inr rfl) ?_
        exact ⟨rz_t ⟨by omega, fun j q => no j (by omega)⟩, rfl⟩
      · have hw := WB0_b k (by omega)
        have htk := ht (f + k) (by omega)
        refine s_aload_n rfl (cn rfl) rfl ?_
        refine s_getfield rfl (cn rfl) c7 rfl ?_
        refine s_iload_n rfl (cn rfl) rfl ?_
        refine s_iload_n rfl (cn rfl) rfl ?_
        refine s_iadd rfl (cn rfl) ?_
        refine s_iaload rfl (cn rfl) (f + k) (by omega) c8 rfl (by omega) (by decide) rfl ?_
        refine s_aload_n rfl (cn rfl) rfl ?_
        refine s_iload_n rfl (cn rfl) rfl ?_
        refine s_virt rfl (cn rfl) rfl rfl c1000010 rfl (u_char_0 c1000010 c1000020 (show k < 6 by omega)) ?_
        rintro _ _ ⟨rfl, rfl⟩
        refine s_icmp_eq rfl (cn rfl) (cn rfl) ⟨by omega, by omega⟩ ⟨by omega, by omega⟩ (fun q24 => ?_) (fun q24 => ?_)
        · refine s_iinc rfl (cn rfl) rfl ?_
          refine s_goto rfl (ch rfl) ?_
          exact ih11 (by omega) (fun j q => by
              by_cases e : j = k
              · subst e; exact q24
              · exact no j (by omega))
        · refine s_iconst rfl (cn rfl) ?_
          refine s_zreturn rfl (Or.inl rfl) ?_
          exact ⟨rz_f (fun q => q24 (q.2 k (by omega))), rfl⟩
    exact lp11 0 (by omega) (fun j q => absurd q (by omega))
  · refine s_iconst rfl (cn rfl) ?_
    refine s_zreturn rfl (Or.inl rfl) ?_
    exact ⟨rz_f (fun q => q6 (by have := q.1; omega)), rfl⟩
theorem u_spells_1 {d N S : Nat} {h : Nat → Option rr_E} {tl : Nat} {sc sf sv : Int} {tp : Nat → Int} {p : Nat} (htl : tl ≤ 100) (hp : p ≤ tl) (ht : ∀ p, p < tl → 1 ≤ tp p ∧ tp p ≤ 127) (c7 : h 7 = some (SC (tl : Int) sc (p : Int) sf sv)) (c8 : h 8 = some (.inl (0, 100, .inl (fun k => ii (tp k))))) (c1000011 : h 1000011 = some (.inr (20, [.ref 1000021, .int (ii 0)]))) (c1000021 : h 1000021 = some (.inl (9, 5, .inl (fun j => (rr_sby.getD 1 []).getD j 0)))) {f : Nat} (hfp : f ≤ p) : rr_Calls (d + 5) j_Script_spells [.ref 7, .int (ii (f : Int)), .ref 1000011] (N, S, h) (fun r R => r = some (.int (rc (spl WB1 5 tp f p))) ∧ R = (N, S, h)) := by
  refine rr_meth (C := K_Script_spells) (hd := h_Script_spells) (mx := 4) rfl rfl (fun K hK => ?_)
  refine hK _ _ _ _ ?_
  refine s_aload_n rfl (cn rfl) rfl ?_
  refine s_getfield rfl (cn rfl) c7 rfl ?_
  refine s_iload_n rfl (cn rfl) rfl ?_
  refine s_isub rfl (cn rfl) ?_
  refine s_aload_n rfl (cn rfl) rfl ?_
  refine s_virt rfl (cn rfl) rfl rfl c1000011 rfl (u_len_1 c1000011 c1000021) ?_
  rintro _ _ ⟨rfl, rfl⟩
  refine s_icmp_eq rfl (cn rfl) (cn rfl) ⟨by omega, by omega⟩ ⟨by omega, by omega⟩ (fun q6 => ?_) (fun q6 => ?_)
  · refine s_iconst rfl (cn rfl) ?_
    refine s_istore_n rfl (ch rfl) ?_
    have lp11 : ∀ k : Nat, k ≤ 5 → ∀ (no : ∀ j, j < k → tp (f + j) = (WB1 j : Int)), K 11 [some (.ref 7), some (.int (ii (f : Int))), some (.ref 1000011), some (.int (ii (k : Int)))] [] (N, S, h) := by
      refine dn (fun k hk ih11 => ?_)
      intro no
      refine hK _ _ _ _ ?_
      refine s_iload_n rfl (cn rfl) rfl ?_
      refine s_aload_n rfl (cn rfl) rfl ?_
      refine s_virt rfl (cn rfl) rfl rfl c1000011 rfl (u_len_1 c1000011 c1000021) ?_
      rintro _ _ ⟨rfl, rfl⟩
      refine s_icmp_ge rfl (cn rfl) (cn rfl) ⟨by omega, by omega⟩ ⟨by omega, by omega⟩ (fun q14 => ?_) (fun q14 => ?_)
      · refine s_iconst rfl (cn rfl) ?_
        refine s_zreturn rfl (Or.inr rfl) ?_
        exact ⟨rz_t ⟨by omega, fun j q => no j (by omega)⟩, rfl⟩
      · have hw := WB1_b k (by omega)
        have htk := ht (f + k) (by omega)
        refine s_aload_n rfl (cn rfl) rfl ?_
        refine s_getfield rfl (cn rfl) c7 rfl ?_
        refine s_iload_n rfl (cn rfl) rfl ?_
        refine s_iload_n rfl (cn rfl) rfl ?_
        refine s_iadd rfl (cn rfl) ?_
        refine s_iaload rfl (cn rfl) (f + k) (by omega) c8 rfl (by omega) (by decide) rfl ?_
        refine s_aload_n rfl (cn rfl) rfl ?_
        refine s_iload_n rfl (cn rfl) rfl ?_
        refine s_virt rfl (cn rfl) rfl rfl c1000011 rfl (u_char_1 c1000011 c1000021 (show k < 5 by omega)) ?_
        rintro _ _ ⟨rfl, rfl⟩
        refine s_icmp_eq rfl (cn rfl) (cn rfl) ⟨by omega, by omega⟩ ⟨by omega, by omega⟩ (fun q24 => ?_) (fun q24 => ?_)
        · refine s_iinc rfl (cn rfl) rfl ?_
          refine s_goto rfl (ch rfl) ?_
          exact ih11 (by omega) (fun j q => by
              by_cases e : j = k
              · subst e; exact q24
              · exact no j (by omega))
        · refine s_iconst rfl (cn rfl) ?_
          refine s_zreturn rfl (Or.inl rfl) ?_
          exact ⟨rz_f (fun q => q24 (q.2 k (by omega))), rfl⟩
    exact lp11 0 (by omega) (fun j q => absurd q (by omega))
  · refine s_iconst rfl (cn rfl) ?_
    refine s_zreturn rfl (Or.inl rfl) ?_
    exact ⟨rz_f (fun q => q6 (by have := q.1; omega)), rfl⟩
theorem u_spells_2 {d N S : Nat} {h : Nat → Option rr_E} {tl : Nat} {sc sf sv : Int} {tp : Nat → Int} {p : Nat} (htl : tl ≤ 100) (hp : p ≤ tl) (ht : ∀ p, p < tl → 1 ≤ tp p ∧ tp p ≤ 127) (c7 : h 7 = some (SC (tl : Int) sc (p : Int) sf sv)) (c8 : h 8 = some (.inl (0, 100, .inl (fun k => ii (tp k))))) (c1000012 : h 1000012 = some (.inr (20, [.ref 1000022, .int (ii 0)]))) (c1000022 : h 1000022 = some (.inl (9, 4, .inl (fun j => (rr_sby.getD 2 []).getD j 0)))) {f : Nat} (hfp : f ≤ p) : rr_Calls (d + 5) j_Script_spells [.ref 7, .int (ii (f : Int)), .ref 1000012] (N, S, h) (fun r R => r = some (.int (rc (spl WB2 4 tp f p))) ∧ R = (N, S, h)) := by
  refine rr_meth (C := K_Script_spells) (hd := h_Script_spells) (mx := 4) rfl rfl (fun K hK => ?_)
  refine hK _ _ _ _ ?_
  refine s_aload_n rfl (cn rfl) rfl ?_
  refine s_getfield rfl (cn rfl) c7 rfl ?_
  refine s_iload_n rfl (cn rfl) rfl ?_
  refine s_isub rfl (cn rfl) ?_
  refine s_aload_n rfl (cn rfl) rfl ?_
  refine s_virt rfl (cn rfl) rfl rfl c1000012 rfl (u_len_2 c1000012 c1000022) ?_
  rintro _ _ ⟨rfl, rfl⟩
  refine s_icmp_eq rfl (cn rfl) (cn rfl) ⟨by omega, by omega⟩ ⟨by omega, by omega⟩ (fun q6 => ?_) (fun q6 => ?_)
  · refine s_iconst rfl (cn rfl) ?_
    refine s_istore_n rfl (ch rfl) ?_
    have lp11 : ∀ k : Nat, k ≤ 4 → ∀ (no : ∀ j, j < k → tp (f + j) = (WB2 j : Int)), K 11 [some (.ref 7), some (.int (ii (f : Int))), some (.ref 1000012), some (.int (ii (k : Int)))] [] (N, S, h) := by
      refine dn (fun k hk ih11 => ?_)
      intro no
      refine hK _ _ _ _ ?_
      refine s_iload_n rfl (cn rfl) rfl ?_
      refine s_aload_n rfl (cn rfl) rfl ?_
      refine s_virt rfl (cn rfl) rfl rfl c1000012 rfl (u_len_2 c1000012 c1000022) ?_
      rintro _ _ ⟨rfl, rfl⟩
      refine s_icmp_ge rfl (cn rfl) (cn rfl) ⟨by omega, by omega⟩ ⟨by omega, by omega⟩ (fun q14 => ?_) (fun q14 => ?_)
      · refine s_iconst rfl (cn rfl) ?_
        refine s_zreturn rfl (Or.inr rfl) ?_
        exact ⟨rz_t ⟨by omega, fun j q => no j (by omega)⟩, rfl⟩
      · have hw := WB2_b k (by omega)
        have htk := ht (f + k) (by omega)
        refine s_aload_n rfl (cn rfl) rfl ?_
        refine s_getfield rfl (cn rfl) c7 rfl ?_
        refine s_iload_n rfl (cn rfl) rfl ?_
        refine s_iload_n rfl (cn rfl) rfl ?_
        refine s_iadd rfl (cn rfl) ?_
        refine s_iaload rfl (cn rfl) (f + k) (by omega) c8 rfl (by omega) (by decide) rfl ?_
        refine s_aload_n rfl (cn rfl) rfl ?_
        refine s_iload_n rfl (cn rfl) rfl ?_
        refine s_virt rfl (cn rfl) rfl rfl c1000012 rfl (u_char_2 c1000012 c1000022 (show k < 4 by omega)) ?_
        rintro _ _ ⟨rfl, rfl⟩
        refine s_icmp_eq rfl (cn rfl) (cn rfl) ⟨by omega, by omega⟩ ⟨by omega, by omega⟩ (fun q24 => ?_) (fun q24 => ?_)
        · refine s_iinc rfl (cn rfl) rfl ?_
          refine s_goto rfl (ch rfl) ?_
          exact ih11 (by omega) (fun j q => by
              by_cases e : j = k
              · subst e; exact q24
              · exact no j (by omega))
        · refine s_iconst rfl (cn rfl) ?_
          refine s_zreturn rfl (Or.inl rfl) ?_
          exact ⟨rz_f (fun q => q24 (q.2 k (by omega))), rfl⟩
    exact lp11 0 (by omega) (fun j q => absurd q (by omega))
  · refine s_iconst rfl (cn rfl) ?_
    refine s_zreturn rfl (Or.inl rfl) ?_
    exact ⟨rz_f (fun q => q6 (by have := q.1; omega)), rfl⟩
theorem u_spells_3 {d N S : Nat} {h : Nat → Option rr_E} {tl : Nat} {sc sf sv : Int} {tp : Nat → Int} {p : Nat} (htl : tl ≤ 100) (hp : p ≤ tl) (ht : ∀ p, p < tl → 1 ≤ tp p ∧ tp p ≤ 127) (c7 : h 7 = some (SC (tl : Int) sc (p : Int) sf sv)) (c8 : h 8 = some (.inl (0, 100, .inl (fun k => ii (tp k))))) (c1000013 : h 1000013 = some (.inr (20, [.ref 1000023, .int (ii 0)]))) (c1000023 : h 1000023 = some (.inl (9, 4, .inl (fun j => (rr_sby.getD 3 []).getD j 0)))) {f : Nat} (hfp : f ≤ p) : rr_Calls (d + 5) j_Script_spells [.ref 7, .int (ii (f : Int)), .ref 1000013] (N, S, h) (fun r R => r = some (.int (rc (spl WB3 4 tp f p))) ∧ R = (N, S, h)) := by
  refine rr_meth (C := K_Script_spells) (hd := h_Script_spells) (mx := 4) rfl rfl (fun K hK => ?_)
  refine hK _ _ _ _ ?_
  refine s_aload_n rfl (cn rfl) rfl ?_
  refine s_getfield rfl (cn rfl) c7 rfl ?_
  refine s_iload_n rfl (cn rfl) rfl ?_
  refine s_isub rfl (cn rfl) ?_
  refine s_aload_n rfl (cn rfl) rfl ?_
  refine s_virt rfl (cn rfl) rfl rfl c1000013 rfl (u_len_3 c1000013 c1000023) ?_
  rintro _ _ ⟨rfl, rfl⟩
  refine s_icmp_eq rfl (cn rfl) (cn rfl) ⟨by omega, by omega⟩ ⟨by omega, by omega⟩ (fun q6 => ?_) (fun q6 => ?_)
  · refine s_iconst rfl (cn rfl) ?_
    refine s_istore_n rfl (ch rfl) ?_
    have lp11 : ∀ k : Nat, k ≤ 4 → ∀ (no : ∀ j, j < k → tp (f + j) = (WB3 j : Int)), K 11 [some (.ref 7), some (.int (ii (f : Int))), some (.ref 1000013), some (.int (ii (k : Int)))] [] (N, S, h) := by
      refine dn (fun k hk ih11 => ?_)
      intro no
      refine hK _ _ _ _ ?_
      refine s_iload_n rfl (cn rfl) rfl ?_
      refine s_aload_n rfl (cn rfl) rfl ?_
      refine s_virt rfl (cn rfl) rfl rfl c1000013 rfl (u_len_3 c1000013 c1000023) ?_
      rintro _ _ ⟨rfl, rfl⟩
      refine s_icmp_ge rfl (cn rfl) (cn rfl) ⟨by omega, by omega⟩ ⟨by omega, by omega⟩ (fun q14 => ?_) (fun q14 => ?_)
      · refine s_iconst rfl (cn rfl) ?_
        refine s_zreturn rfl (Or.inr rfl) ?_
        exact ⟨rz_t ⟨by omega, fun j q => no j (by omega)⟩, rfl⟩
      · have hw := WB3_b k (by omega)
        have htk := ht (f + k) (by omega)
        refine s_aload_n rfl (cn rfl) rfl ?_
        refine s_getfield rfl (cn rfl) c7 rfl ?_
        refine s_iload_n rfl (cn rfl) rfl ?_
        refine s_iload_n rfl (cn rfl) rfl ?_
        refine s_iadd rfl (cn rfl) ?_
        refine s_iaload rfl (cn rfl) (f + k) (by omega) c8 rfl (by omega) (by decide) rfl ?_
        refine s_aload_n rfl (cn rfl) rfl ?_
        refine s_iload_n rfl (cn rfl) rfl ?_
        refine s_virt rfl (cn rfl) rfl rfl c1000013 rfl (u_char_3 c1000013 c1000023 (show k < 4 by omega)) ?_
        rintro _ _ ⟨rfl, rfl⟩
        refine s_icmp_eq rfl (cn rfl) (cn rfl) ⟨by omega, by omega⟩ ⟨by omega, by omega⟩ (fun q24 => ?_) (fun q24 => ?_)
        · refine s_iinc rfl (cn rfl) rfl ?_
          refine s_goto rfl (ch rfl) ?_
          exact ih11 (by omega) (fun j q => by
              by_cases e : j = k
              · subst e; exact q24
              · exact no j (by omega))
        · refine s_iconst rfl (cn rfl) ?_
          refine s_zreturn rfl (Or.inl rfl) ?_
          exact ⟨rz_f (fun q => q24 (q.2 k (by omega))), rfl⟩
    exact lp11 0 (by omega) (fun j q => absurd q (by omega))
  · refine s_iconst rfl (cn rfl) ?_
    refine s_zreturn rfl (Or.inl rfl) ?_
    exact ⟨rz_f (fun q => q6 (by have := q.1; omega)), rfl⟩
theorem u_spells_4 {d N S : Nat} {h : Nat → Option rr_E} {tl : Nat} {sc sf sv : Int} {tp : Nat → Int} {p : Nat} (htl : tl ≤ 100) (hp : p ≤ tl) (ht : ∀ p, p < tl → 1 ≤ tp p ∧ tp p ≤ 127) (c7 : h 7 = some (SC (tl : Int) sc (p : Int) sf sv)) (c8 : h 8 = some (.inl (0, 100, .inl (fun k => ii (tp k))))) (c1000014 : h 1000014 = some (.inr (20, [.ref 1000024, .int (ii 0)]))) (c1000024 : h 1000024 = some (.inl (9, 4, .inl (fun j => (rr_sby.getD 4 []).getD j 0)))) {f : Nat} (hfp : f ≤ p) : rr_Calls (d + 5) j_Script_spells [.ref 7, .int (ii (f : Int)), .ref 1000014] (N, S, h) (fun r R => r = some (.int (rc (spl WB4 4 tp f p))) ∧ R = (N, S, h)) := by
  refine rr_meth (C := K_Script_spells) (hd := h_Script_spells) (mx := 4) rfl rfl (fun K hK => ?_)
  refine hK _ _ _ _ ?_
  refine s_aload_n rfl (cn rfl) rfl ?_
  refine s_getfield rfl (cn rfl) c7 rfl ?_
  refine s_iload_n rfl (cn rfl) rfl ?_
  refine s_isub rfl (cn rfl) ?_
  refine s_aload_n rfl (cn rfl) rfl ?_
  refine s_virt rfl (cn rfl) rfl rfl c1000014 rfl (u_len_4 c1000014 c1000024) ?_
  rintro _ _ ⟨rfl, rfl⟩
  refine s_icmp_eq rfl (cn rfl) (cn rfl) ⟨by omega, by omega⟩ ⟨by omega, by omega⟩ (fun q6 => ?_) (fun q6 => ?_)
  · refine s_iconst rfl (cn rfl) ?_
    refine s_istore_n rfl (ch rfl) ?_
    have lp11 : ∀ k : Nat, k ≤ 4 → ∀ (no : ∀ j, j < k → tp (f + j) = (WB4 j : Int)), K 11 [some (.ref 7), some (.int (ii (f : Int))), some (.ref 1000014), some (.int (ii (k : Int)))] [] (N, S, h) := by
      refine dn (fun k hk ih11 => ?_)
      intro no
      refine hK _ _ _ _ ?_
      refine s_iload_n rfl (cn rfl) rfl ?_
      refine s_aload_n rfl (cn rfl) rfl ?_
      refine s_virt rfl (cn rfl) rfl rfl c1000014 rfl (u_len_4 c1000014 c1000024) ?_
      rintro _ _ ⟨rfl, rfl⟩
      refine s_icmp_ge rfl (cn rfl) (cn rfl) ⟨by omega, by omega⟩ ⟨by omega, by omega⟩ (fun q14 => ?_) (fun q14 => ?_)
      · refine s_iconst rfl (cn rfl) ?_
        refine s_zreturn rfl (Or.inr rfl) ?_
        exact ⟨rz_t ⟨by omega, fun j q => no j (by omega)⟩, rfl⟩
      · have hw := WB4_b k (by omega)
        have htk := ht (f + k) (by omega)
        refine s_aload_n rfl (cn rfl) rfl ?_
        refine s_getfield rfl (cn rfl) c7 rfl ?_
        refine s_iload_n rfl (cn rfl) rfl ?_
        refine s_iload_n rfl (cn rfl) rfl ?_
        refine s_iadd rfl (cn rfl) ?_
        refine s_iaload rfl (cn rfl) (f + k) (by omega) c8 rfl (by omega) (by decide) rfl ?_
        refine s_aload_n rfl (cn rfl) rfl ?_
        refine s_iload_n rfl (cn rfl) rfl ?_
        refine s_virt rfl (cn rfl) rfl rfl c1000014 rfl (u_char_4 c1000014 c1000024 (show k < 4 by omega)) ?_
        rintro _ _ ⟨rfl, rfl⟩
        refine s_icmp_eq rfl (cn rfl) (cn rfl) ⟨by omega, by omega⟩ ⟨by omega, by omega⟩ (fun q24 => ?_) (fun q24 => ?_)
        · refine s_iinc rfl (cn rfl) rfl ?_
          refine s_goto rfl (ch rfl) ?_
          exact ih11 (by omega) (fun j q => by
              by_cases e : j = k
              · subst e; exact q24
              · exact no j (by omega))
        · refine s_iconst rfl (cn rfl) ?_
          refine s_zreturn rfl (Or.inl rfl) ?_
          exact ⟨rz_f (fun q => q24 (q.2 k (by omega))), rfl⟩
    exact lp11 0 (by omega) (fun j q => absurd q (by omega))
  · refine s_iconst rfl (cn rfl) ?_
    refine s_zreturn rfl (Or.inl rfl) ?_
    exact ⟨rz_f (fun q => q6 (by have := q.1; omega)), rfl⟩
theorem u_spells_5 {d N S : Nat} {h : Nat → Option rr_E} {tl : Nat} {sc sf sv : Int} {tp : Nat → Int} {p : Nat} (htl : tl ≤ 100) (hp : p ≤ tl) (ht : ∀ p, p < tl → 1 ≤ tp p ∧ tp p ≤ 127) (c7 : h 7 = some (SC (tl : Int) sc (p : Int) sf sv)) (c8 : h 8 = some (.inl (0, 100, .inl (fun k => ii (tp k))))) (c1000015 : h 1000015 = some (.inr (20, [.ref 1000025, .int (ii 0)]))) (c1000025 : h 1000025 = some (.inl (9, 4, .inl (fun j => (rr_sby.getD 5 []).getD j 0)))) {f : Nat} (hfp : f ≤ p) : rr_Calls (d + 5) j_Script_spells [.ref 7, .int (ii (f : Int)), .ref 1000015] (N, S, h) (fun r R => r = some (.int (rc (spl WB5 4 tp f p))) ∧ R = (N, S, h)) := by
  refine rr_meth (C := K_Script_spells) (hd := h_Script_spells) (mx := 4) rfl rfl (fun K hK => ?_)
  refine hK _ _ _ _ ?_
  refine s_aload_n rfl (cn rfl) rfl ?_
  refine s_getfield rfl (cn rfl) c7 rfl ?_
  refine s_iload_n rfl (cn rfl) rfl ?_
  refine s_isub rfl (cn rfl) ?_
  refine s_aload_n rfl (cn rfl) rfl ?_
  refine s_virt rfl (cn rfl) rfl rfl c1000015 rfl (u_len_5 c1000015 c1000025) ?_
  rintro _ _ ⟨rfl, rfl⟩
  refine s_icmp_eq rfl (cn rfl) (cn rfl) ⟨by omega, by omega⟩ ⟨by omega, by omega⟩ (fun q6 => ?_) (fun q6 => ?_)
  · refine s_iconst rfl (cn rfl) ?_
    refine s_istore_n rfl (ch rfl) ?_
    have lp11 : ∀ k : Nat, k ≤ 4 → ∀ (no : ∀ j, j < k → tp (f + j) = (WB5 j : Int)), K 11 [some (.ref 7), some (.int (ii (f : Int))), some (.ref 1000015), some (.int (ii (k : Int)))] [] (N, S, h) := by
      refine dn (fun k hk ih11 => ?_)
      intro no
      refine hK _ _ _ _ ?_
      refine s_iload_n rfl (cn rfl) rfl ?_
      refine s_aload_n rfl (cn rfl) rfl ?_
      refine s_virt rfl (cn rfl) rfl rfl c1000015 rfl (u_len_5 c1000015 c1000025) ?_
      rintro _ _ ⟨rfl, rfl⟩
      refine s_icmp_ge rfl (cn rfl) (cn rfl) ⟨by omega, by omega⟩ ⟨by omega, by omega⟩ (fun q14 => ?_) (fun q14 => ?_)
      · refine s_iconst rfl (cn rfl) ?_
        refine s_zreturn rfl (Or.inr rfl) ?_
        exact ⟨rz_t ⟨by omega, fun j q => no j (by omega)⟩, rfl⟩
      · have hw := WB5_b k (by omega)
        have htk := ht (f + k) (by omega)
        refine s_aload_n rfl (cn rfl) rfl ?_
        refine s_getfield rfl (cn rfl) c7 rfl ?_
        refine s_iload_n rfl (cn rfl) rfl ?_
        refine s_iload_n rfl (cn rfl) rfl ?_
        refine s_iadd rfl (cn rfl) ?_
        refine s_iaload rfl (cn rfl) (f + k) (by omega) c8 rfl (by omega) (by decide) rfl ?_
        refine s_aload_n rfl (cn rfl) rfl ?_
        refine s_iload_n rfl (cn rfl) rfl ?_
        refine s_virt rfl (cn rfl) rfl rfl c1000015 rfl (u_char_5 c1000015 c1000025 (show k < 4 by omega)) ?_
        rintro _ _ ⟨rfl, rfl⟩
        refine s_icmp_eq rfl (cn rfl) (cn rfl) ⟨by omega, by omega⟩ ⟨by omega, by omega⟩ (fun q24 => ?_) (fun q24 => ?_)
        · refine s_iinc rfl (cn rfl) rfl ?_
          refine s_goto rfl (ch rfl) ?_
          exact ih11 (by omega) (fun j q => by
              by_cases e : j = k
              · subst e; exact q24
              · exact no j (by omega))
        · refine s_iconst rfl (cn rfl) ?_
          refine s_zreturn rfl (Or.inl rfl) ?_
          exact ⟨rz_f (fun q => q24 (q.2 k (by omega))), rfl⟩
    exact lp11 0 (by omega) (fun j q => absurd q (by omega))
  · refine s_iconst rfl (cn rfl) ?_
    refine s_zreturn rfl (Or.inl rfl) ?_
    exact ⟨rz_f (fun q => q6 (by have := q.1; omega)), rfl⟩
theorem u_kindOf {d N S : Nat} {h : Nat → Option rr_E} {tl : Nat} {sc sf sv : Int} {tp : Nat → Int} {p : Nat} (htl : tl ≤ 100) (hp : p ≤ tl) (ht : ∀ p, p < tl → 1 ≤ tp p ∧ tp p ≤ 127) (c7 : h 7 = some (SC (tl : Int) sc (p : Int) sf sv)) (c8 : h 8 = some (.inl (0, 100, .inl (fun k => ii (tp k))))) (c1000010 : h 1000010 = some (.inr (20, [.ref 1000020, .int (ii 0)]))) (c1000020 : h 1000020 = some (.inl (9, 6, .inl (fun j => (rr_sby.getD 0 []).getD j 0)))) (c1000011 : h 1000011 = some (.inr (20, [.ref 1000021, .int (ii 0)]))) (c1000021 : h 1000021 = some (.inl (9, 5, .inl (fun j => (rr_sby.getD 1 []).getD j 0)))) (c1000012 : h 1000012 = some (.inr (20, [.ref 1000022, .int (ii 0)]))) (c1000022 : h 1000022 = some (.inl (9, 4, .inl (fun j => (rr_sby.getD 2 []).getD j 0)))) (c1000013 : h 1000013 = some (.inr (20, [.ref 1000023, .int (ii 0)]))) (c1000023 : h 1000023 = some (.inl (9, 4, .inl (fun j => (rr_sby.getD 3 []).getD j 0)))) (c1000014 : h 1000014 = some (.inr (20, [.ref 1000024, .int (ii 0)]))) (c1000024 : h 1000024 = some (.inl (9, 4, .inl (fun j => (rr_sby.getD 4 []).getD j 0)))) (c1000015 : h 1000015 = some (.inr (20, [.ref 1000025, .int (ii 0)]))) (c1000025 : h 1000025 = some (.inl (9, 4, .inl (fun j => (rr_sby.getD 5 []).getD j 0)))) {f : Nat} (hfp : f ≤ p) : rr_Calls (d + 6) j_Script_kindOf [.ref 7, .int (ii (f : Int))] (N, S, h) (fun r R => r = some (.int (ii (kd tp f p))) ∧ R = (N, S, h)) := by
  refine rr_meth (C := K_Script_kindOf) (hd := h_Script_kindOf) (mx := 2) rfl rfl (fun K hK => ?_)
  refine hK _ _ _ _ ?_
  refine s_aload_n rfl (cn rfl) rfl ?_
  refine s_iload_n rfl (cn rfl) rfl ?_
  refine s_ldc rfl (cn rfl) ?_
  refine s_virt rfl (cn rfl) rfl rfl c7 rfl (u_spells_0 htl hp ht c7 c8 c1000010 c1000020 hfp) ?_
  rintro _ _ ⟨rfl, rfl⟩
  refine s_ifb_eq rfl (cn rfl) (cn rfl) (fun q4 => ?_) (fun q4 => ?_)
  · refine s_aload_n rfl (cn rfl) rfl ?_
    refine s_iload_n rfl (cn rfl) rfl ?_
    refine s_ldc rfl (cn rfl) ?_
    refine s_virt rfl (cn rfl) rfl rfl c7 rfl (u_spells_1 htl hp ht c7 c8 c1000011 c1000021 hfp) ?_
    rintro _ _ ⟨rfl, rfl⟩
    refine s_ifb_eq rfl (cn rfl) (cn rfl) (fun q11 => ?_) (fun q11 => ?_)
    · refine s_aload_n rfl (cn rfl) rfl ?_
      refine s_iload_n rfl (cn rfl) rfl ?_
      refine s_ldc rfl (cn rfl) ?_
      refine s_virt rfl (cn rfl) rfl rfl c7 rfl (u_spells_2 htl hp ht c7 c8 c1000012 c1000022 hfp) ?_
      rintro _ _ ⟨rfl, rfl⟩
      refine s_ifb_eq rfl (cn rfl) (cn rfl) (fun q18 => ?_) (fun q18 => ?_)
      · refine s_aload_n rfl (cn rfl) rfl ?_
        refine s_iload_n rfl (cn rfl) rfl ?_
        refine s_ldc rfl (cn rfl) ?_
        refine s_virt rfl (cn rfl) rfl rfl c7 rfl (u_spells_3 htl hp ht c7 c8 c1000013 c1000023 hfp) ?_
        rintro _ _ ⟨rfl, rfl⟩
        refine s_ifb_eq rfl (cn rfl) (cn rfl) (fun q25 => ?_) (fun q25 => ?_)
        · refine s_aload_n rfl (cn rfl) rfl ?_
          refine s_iload_n rfl (cn rfl) rfl ?_
          refine s_ldc rfl (cn rfl) ?_
          refine s_virt rfl (cn rfl) rfl rfl c7 rfl (u_spells_4 htl hp ht c7 c8 c1000014 c1000024 hfp) ?_
          rintro _ _ ⟨rfl, rfl⟩
          refine s_ifb_eq rfl (cn rfl) (cn rfl) (fun q32 => ?_) (fun q32 => ?_)
          · refine s_aload_n rfl (cn rfl) rfl ?_
            refine s_iload_n rfl (cn rfl) rfl ?_
            refine s_ldc rfl (cn rfl) ?_
            refine s_virt rfl (cn rfl) rfl rfl c7 rfl (u_spells_5 htl hp ht c7 c8 c1000015 c1000025 hfp) ?_
            rintro _ _ ⟨rfl, rfl⟩
            refine s_ifb_eq rfl (cn rfl) (cn rfl) (fun q39 => ?_) (fun q39 => ?_)
            · refine s_iconst rfl (cn rfl) ?_
              refine s_ireturn rfl ?_
              first
                | exact ⟨ri (by unfold kd; rw [ci_n q4, ci_n q11, ci_n q18, ci_n q25, ci_n q32, ci_y q39]), rfl⟩
                | exact ⟨ri (by unfold kd; rw [ci_n q4, ci_n q11, ci_n q18, ci_n q25, ci_n q32, ci_n q39]), rfl⟩
            · refine s_iconst rfl (cn rfl) ?_
              refine s_goto rfl (cn rfl) ?_
              refine s_ireturn rfl ?_
              first
                | exact ⟨ri (by unfold kd; rw [ci_n q4, ci_n q11, ci_n q18, ci_n q25, ci_n q32, ci_y q39]), rfl⟩
                | exact ⟨ri (by unfold kd; rw [ci_n q4, ci_n q11, ci_n q18, ci_n q25, ci_n q32, ci_n q39]), rfl⟩
          · refine s_iconst rfl (cn rfl) ?_
            refine s_ireturn rfl ?_
            exact ⟨ri (by unfold kd; rw [ci_n q4, ci_n q11, ci_n q18, ci_n q25, ci_y q32]), rfl⟩
        · refine s_iconst rfl (cn rfl) ?_
          refine s_ireturn rfl ?_
          exact ⟨ri (by unfold kd; rw [ci_n q4, ci_n q11, ci_n q18, ci_y q25]), rfl⟩
      · refine s_iconst rfl (cn rfl) ?_
        refine s_ireturn rfl ?_
        exact ⟨ri (by unfold kd; rw [ci_n q4, ci_n q11, ci_y q18]), rfl⟩
    · refine s_iconst rfl (cn rfl) ?_
      refine s_ireturn rfl ?_
      exact ⟨ri (by unfold kd; rw [ci_n q4, ci_y q11]), rfl⟩
  · refine s_iconst rfl (cn rfl) ?_
    refine s_ireturn rfl ?_
    exact ⟨ri (ci_y q4).symm, rfl⟩
theorem gS_16 {tp : Nat → Int} {p : Nat} : ∀ k, (∀ j, j < k → 97 ≤ tp (p + j) ∧ tp (p + j) ≤ 100) → gS tp p k < 16
  | 0, _ => by show 0 < 16; decide
  | k + 1, h => by
    have h1 := gS_16 k (fun j hj => h j (by omega))
    have h2 := h k (by omega)
    have h3 : 2 ^ (tp (p + k) - 97).toNat ≤ 2 ^ 3 := Nat.pow_le_pow_right (by decide) (by omega)
    exact or_16 h1 (by omega)
theorem rG_16 {tp : Nat → Int} {tl p q : Nat} {x : Int} (hp : p ≤ tl) (h : rG tp tl p = .inr (q, x)) : 0 ≤ x ∧ x < 16 ∧ p ≤ q ∧ q ≤ tl := by
  obtain ⟨h1, h2, h3, h4, h5⟩ := rG_b hp h
  have hs := pl_s (tp := tp) hp
  have := gS_16 (tp := tp) (p := p) (plN tp tl p - p) (fun j hj => ⟨(isL_lt (hs.2.2.1 (p + j) (by omega) (by omega))).2.1, (h4.2 (p + j) (by omega) (by omega)).1⟩)
  omega
theorem u_args {d N S : Nat} {h : Nat → Option rr_E} {tl : Nat} {sc : Nat} {sf sv : Int} {tp : Nat → Int} {p : Nat} (htl : tl ≤ 100) (hp : p ≤ tl) (ht : ∀ p, p < tl → 1 ≤ tp p ∧ tp p ≤ 127) (c7 : h 7 = some (SC (tl : Int) (sc : Int) (p : Int) sf sv)) (c8 : h 8 = some (.inl (0, 100, .inl (fun k => ii (tp k))))) (hsc : sc < 25) {fi se : Nat → Int} (c10 : h 10 = some (.inl (0, 25, .inl (fun k => ii (fi k))))) (c11 : h 11 = some (.inl (0, 25, .inl (fun k => ii (se k))))) {kk : Int} (hk : 0 ≤ kk ∧ kk ≤ 5) : rr_Calls (d + 4) j_Script_readArguments [.ref 7, .int (ii kk)] (N, S, h) (fun r R => (∃ (q : Nat) (a b : Int), rA tp tl kk p = .inr (q, a, b) ∧ p ≤ q ∧ q ≤ tl ∧ (-999 ≤ a ∧ a ≤ 999) ∧ (-999 ≤ b ∧ b ≤ 999) ∧ r = some (.int (ii 1)) ∧ ∃ h', R = (N, S, h') ∧ fr [7, 10, 11] h h' ∧ ∃ (sv' : Int) (fi' se' : Nat → Int), h' 7 = some (SC (tl : Int) (sc : Int) (q : Int) sf sv') ∧ h' 10 = some (.inl (0, 25, .inl (fun k => ii (fi' k)))) ∧ h' 11 = some (.inl (0, 25, .inl (fun k => ii (se' k)))) ∧ (∀ j, j ≠ sc → fi' j = fi j ∧ se' j = se j) ∧ (kk = 0 → fi' sc = a) ∧ (kk = 1 ∨ kk = 2 ∨ kk = 5 → fi' sc = a ∧ se' sc = b)) ∨ (∃ (f : Nat), rA tp tl kk p = .inl f ∧ r = some (.int (ii 0)) ∧ ∃ h', R = (N, S, h') ∧ fr [7, 10, 11] h h' ∧ ∃ (sp' sv' : Int) (fi' se' : Nat → Int), h' 7 = some (SC (tl : Int) (sc : Int) sp' (f : Int) sv') ∧ h' 10 = some (.inl (0, 25, .inl (fun k => ii (fi' k)))) ∧ h' 11 = some (.inl (0, 25, .inl (fun k => ii (se' k)))))) := by
  refine rr_meth (C := K_Script_readArguments) (hd := h_Script_readArguments) (mx := 2) rfl rfl (fun K hK => ?_)
  have hF : fr [7, 10, 11] h h := fr_r
  refine hK _ _ _ _ ?_
  refine s_iload_n rfl (cn rfl) rfl ?_
  refine s_tsw rfl rfl ⟨by omega, by omega⟩ ?_
  refine And.intro (fun e1 => (cn rfl) _ _ _ ?_) (fun n1_0 => ?_)
  · subst e1
    refine s_aload_n rfl (cn rfl) rfl ?_
    refine s_virt rfl (cn rfl) rfl rfl c7 rfl (u_blank htl (by omega) ht c7 c8) ?_
    rintro _ _ (⟨s1, l3, rfl, h3, rfl, hf3, c7⟩ | ⟨ef, rfl, h3, rfl, hf3, c7⟩)
    · have c8 := (hf3 8 (by decide)).trans c8
      have c10 := (hf3 10 (by decide)).trans c10
      have c11 := (hf3 11 (by decide)).trans c11
      have hF := fr_t hF hf3 (by decide)
      refine s_if_eq rfl (cn rfl) (cn rfl) (by decide) (fun q4 => absurd q4 (by decide)) (fun q4 => ?_)
      refine s_aload_n rfl (cn rfl) rfl ?_
      refine s_virt rfl (cn rfl) rfl rfl c7 rfl (u_number htl (by omega) ht c7 c8) ?_
      rintro _ _ (⟨q6, x6, s2, rfl, h6, rfl, hf6, c7⟩ | ⟨f6, sp6, ef, rfl, h6, rfl, hf6, c7⟩)
      · have c8 := (hf6 8 (by decide)).trans c8
        have c10 := (hf6 10 (by decide)).trans c10
        have c11 := (hf6 11 (by decide)).trans c11
        have hF := fr_t hF hf6 (by decide)
        have b6 := rN_b (by omega) s2
        refine s_if_eq rfl (cn rfl) (cn rfl) (by decide) (fun q7 => absurd q7 (by decide)) (fun q7 => ?_)
        refine s_aload_n rfl (cn rfl) rfl ?_
        refine s_aload_n rfl (cn rfl) rfl ?_
        refine s_getfield rfl (cn rfl) c7 rfl ?_
        refine s_virt rfl (cn rfl) rfl rfl c7 rfl (u_keep_10 hsc c7 c10) ?_
        rintro _ _ ⟨rfl, h11, rfl, hf11, c10⟩
        have c7 := (hf11 7 (by decide)).trans c7
        have c8 := (hf11 8 (by decide)).trans c8
        have c11 := (hf11 11 (by decide)).trans c11
        have hF := fr_t hF hf11 (by decide)
        · refine s_if_eq rfl (cn rfl) (cn rfl) (by decide) (fun q12 => absurd q12 (by decide)) (fun q12 => ?_)
          refine s_iconst rfl (cn rfl) ?_
          refine s_goto rfl (cn rfl) ?_
          refine s_zreturn rfl (Or.inr rfl) ?_
          refine Or.inl ⟨q6, x6, 0, ?_, by omega, by omega, by omega, by omega, rfl, _, rfl, hF, _, _, _, c7, c10, c11, fun j hj => ⟨fu_n hj, rfl⟩, fun _ => fu_s, fun q => absurd q (by decide)⟩
          show (if (0 : Int) = 0 then _ else _) = _; rw [if_pos rfl]
          simp only [sb, s1, s2]
      · have c8 := (hf6 8 (by decide)).trans c8
        have c10 := (hf6 10 (by decide)).trans c10
        have c11 := (hf6 11 (by decide)).trans c11
        have hF := fr_t hF hf6 (by decide)
        refine s_if_eq rfl (cn rfl) (cn rfl) (by decide) (fun q7 => ?_) (fun q7 => absurd q7 (by decide))
        refine s_iconst rfl (cn rfl) ?_
        refine s_zreturn rfl (Or.inl rfl) ?_
        first
          | (refine Or.inr ⟨_, ?_, rfl, _, rfl, hF, _, _, _, _, c7, c10, c11⟩
             show (if (0 : Int) = 0 then _ else _) = _; rw [if_pos rfl]
             simp only [sb, s1, s2, s3, ef]
             done)
          | (refine Or.inr ⟨_, ?_, rfl, _, rfl, hF, _, _, _, _, c7, c10, c11⟩
             show (if (0 : Int) = 0 then _ else _) = _; rw [if_pos rfl]
             simp only [sb, s1, s2, ef]
             done)
          | (refine Or.inr ⟨_, ?_, rfl, _, rfl, hF, _, _, _, _, c7, c10, c11⟩
             show (if (0 : Int) = 0 then _ else _) = _; rw [if_pos rfl]
             simp only [sb, s1, ef]
             done)
          | (refine Or.inr ⟨_, ?_, rfl, _, rfl, hF, _, _, _, _, c7, c10, c11⟩
             show (if (0 : Int) = 0 then _ else _) = _; rw [if_pos rfl]
             simp only [sb, ef]
             done)
    · have c8 := (hf3 8 (by decide)).trans c8
      have c10 := (hf3 10 (by decide)).trans c10
      have c11 := (hf3 11 (by decide)).trans c11
      have hF := fr_t hF hf3 (by decide)
      refine s_if_eq rfl (cn rfl) (cn rfl) (by decide) (fun q4 => ?_) (fun q4 => absurd q4 (by decide))
      refine s_iconst rfl (cn rfl) ?_
      refine s_zreturn rfl (Or.inl rfl) ?_
      first
        | (refine Or.inr ⟨_, ?_, rfl, _, rfl, hF, _, _, _, _, c7, c10, c11⟩
           show (if (0 : Int) = 0 then _ else _) = _; rw [if_pos rfl]
           simp only [sb, s1, s2, s3, ef]
           done)
        | (refine Or.inr ⟨_, ?_, rfl, _, rfl, hF, _, _, _, _, c7, c10, c11⟩
           show (if (0 : Int) = 0 then _ else _) = _; rw [if_pos rfl]
           simp only [sb, s1, s2, ef]
           done)
        | (refine Or.inr ⟨_, ?_, rfl, _, rfl, hF, _, _, _, _, c7, c10, c11⟩
           show (if (0 : Int) = 0 then _ else _) = _; rw [if_pos rfl]
           simp only [sb, s1, ef]
           done)
        | (refine Or.inr ⟨_, ?_, rfl, _, rfl, hF, _, _, _, _, c7, c10, c11⟩
           show (if (0 : Int) = 0 then _ else _) = _; rw [if_pos rfl]
           simp only [sb, ef]
           done)
  refine And.intro (fun e1 => (cn rfl) _ _ _ ?_) (fun n1_1 => ?_)
  · subst e1
    refine s_aload_n rfl (cn rfl) rfl ?_
    refine s_virt rfl (cn rfl) rfl rfl c7 rfl (u_blank htl (by omega) ht c7 c8) ?_
    rintro _ _ (⟨s1, l18, rfl, h18, rfl, hf18, c7⟩ | ⟨ef, rfl, h18, rfl, hf18, c7⟩)
    · have c8 := (hf18 8 (by decide)).trans c8
      have c10 := (hf18 10 (by decide)).trans c10
      have c11 := (hf18 11 (by decide)).trans c11
      have hF := fr_t hF hf18 (by decide)
      refine s_if_eq rfl (cn rfl) (cn rfl) (by decide) (fun q19 => absurd q19 (by decide)) (fun q19 => ?_)
      refine s_aload_n rfl (cn rfl) rfl ?_
      refine s_virt rfl (cn rfl) rfl rfl c7 rfl (u_group htl (by omega) ht c7 c8) ?_
      rintro _ _ (⟨q21, x21, s2, rfl, h21, rfl, hf21, c7⟩ | ⟨sp21, sv21, ef, rfl, h21, rfl, hf21, c7⟩)
      · have c8 := (hf21 8 (by decide)).trans c8
        have c10 := (hf21 10 (by decide)).trans c10
        have c11 := (hf21 11 (by decide)).trans c11
        have hF := fr_t hF hf21 (by decide)
        have b21 := rG_16 (by omega) s2
        refine s_if_eq rfl (cn rfl) (cn rfl) (by decide) (fun q22 => absurd q22 (by decide)) (fun q22 => ?_)
        refine s_aload_n rfl (cn rfl) rfl ?_
        refine s_aload_n rfl (cn rfl) rfl ?_
        refine s_getfield rfl (cn rfl) c7 rfl ?_
        refine s_virt rfl (cn rfl) rfl rfl c7 rfl (u_keep_10 hsc c7 c10) ?_
        rintro _ _ ⟨rfl, h26, rfl, hf26, c10⟩
        have c7 := (hf26 7 (by decide)).trans c7
        have c8 := (hf26 8 (by decide)).trans c8
        have c11 := (hf26 11 (by decide)).trans c11
        have hF := fr_t hF hf26 (by decide)
        · refine s_if_eq rfl (cn rfl) (cn rfl) (by decide) (fun q27 => absurd q27 (by decide)) (fun q27 => ?_)
          refine s_aload_n rfl (cn rfl) rfl ?_
          refine s_virt rfl (cn rfl) rfl rfl c7 rfl (u_blank htl (by omega) ht c7 c8) ?_
          rintro _ _ (⟨s3, l29, rfl, h29, rfl, hf29, c7⟩ | ⟨ef, rfl, h29, rfl, hf29, c7⟩)
          · have c8 := (hf29 8 (by decide)).trans c8
            have c10 := (hf29 10 (by decide)).trans c10
            have c11 := (hf29 11 (by decide)).trans c11
            have hF := fr_t hF hf29 (by decide)
            refine s_if_eq rfl (cn rfl) (cn rfl) (by decide) (fun q30 => absurd q30 (by decide)) (fun q30 => ?_)
            refine s_aload_n rfl (cn rfl) rfl ?_
            refine s_virt rfl (cn rfl) rfl rfl c7 rfl (u_number htl (by omega) ht c7 c8) ?_
            rintro _ _ (⟨q32, x32, s4, rfl, h32, rfl, hf32, c7⟩ | ⟨f32, sp32, ef, rfl, h32, rfl, hf32, c7⟩)
            · have c8 := (hf32 8 (by decide)).trans c8
              have c10 := (hf32 10 (by decide)).trans c10
              have c11 := (hf32 11 (by decide)).trans c11
              have hF := fr_t hF hf32 (by decide)
              have b32 := rN_b (by omega) s4
              refine s_if_eq rfl (cn rfl) (cn rfl) (by decide) (fun q33 => absurd q33 (by decide)) (fun q33 => ?_)
              refine s_aload_n rfl (cn rfl) rfl ?_
              refine s_aload_n rfl (cn rfl) rfl ?_
              refine s_getfield rfl (cn rfl) c7 rfl ?_
              refine s_virt rfl (cn rfl) rfl rfl c7 rfl (u_keep_11 hsc c7 c11) ?_
              rintro _ _ ⟨rfl, h37, rfl, hf37, c11⟩
              have c7 := (hf37 7 (by decide)).trans c7
              have c8 := (hf37 8 (by decide)).trans c8
              have c10 := (hf37 10 (by decide)).trans c10
              have hF := fr_t hF hf37 (by decide)
              · refine s_if_eq rfl (cn rfl) (cn rfl) (by decide) (fun q38 => absurd q38 (by decide)) (fun q38 => ?_)
                refine s_iconst rfl (cn rfl) ?_
                refine s_goto rfl (cn rfl) ?_
                refine s_zreturn rfl (Or.inr rfl) ?_
                refine Or.inl ⟨q32, x21, x32, ?_, by omega, by omega, by omega, by omega, rfl, _, rfl, hF, _, _, _, c7, c10, c11, fun j hj => ⟨fu_n hj, fu_n hj⟩, fun q => absurd q (by decide), fun _ => ⟨fu_s, fu_s⟩⟩
                first | (show (if (1 : Int) = 0 then _ else if (1 : Int) = 1 ∨ (1 : Int) = 2 then _ else _) = _; rw [if_neg (by decide), if_pos (by decide)]) | (show (if (2 : Int) = 0 then _ else if (2 : Int) = 1 ∨ (2 : Int) = 2 then _ else _) = _; rw [if_neg (by decide), if_pos (by decide)])
                all_goals simp only [sb, s1, s2, s3, s4]
            · have c8 := (hf32 8 (by decide)).trans c8
              have c10 := (hf32 10 (by decide)).trans c10
              have c11 := (hf32 11 (by decide)).trans c11
              have hF := fr_t hF hf32 (by decide)
              refine s_if_eq rfl (cn rfl) (cn rfl) (by decide) (fun q33 => ?_) (fun q33 => absurd q33 (by decide))
              refine s_iconst rfl (cn rfl) ?_
              refine s_zreturn rfl (Or.inl rfl) ?_
              first
                | (refine Or.inr ⟨_, ?_, rfl, _, rfl, hF, _, _, _, _, c7, c10, c11⟩
                   first | (show (if (1 : Int) = 0 then _ else if (1 : Int) = 1 ∨ (1 : Int) = 2 then _ else _) = _; rw [if_neg (by decide), if_pos (by decide)]) | (show (if (2 : Int) = 0 then _ else if (2 : Int) = 1 ∨ (2 : Int) = 2 then _ else _) = _; rw [if_neg (by decide), if_pos (by decide)])
                   simp only [sb, s1, s2, s3, ef]
                   done)
                | (refine Or.inr ⟨_, ?_, rfl, _, rfl, hF, _, _, _, _, c7, c10, c11⟩
                   first | (show (if (1 : Int) = 0 then _ else if (1 : Int) = 1 ∨ (1 : Int) = 2 then _ else _) = _; rw [if_neg (by decide), if_pos (by decide)]) | (show (if (2 : Int) = 0 then _ else if (2 : Int) = 1 ∨ (2 : Int) = 2 then _ else _) = _; rw [if_neg (by decide), if_pos (by decide)])
                   simp only [sb, s1, s2, ef]
                   done)
                | (refine Or.inr ⟨_, ?_, rfl, _, rfl, hF, _, _, _, _, c7, c10, c11⟩
                   first | (show (if (1 : Int) = 0 then _ else if (1 : Int) = 1 ∨ (1 : Int) = 2 then _ else _) = _; rw [if_neg (by decide), if_pos (by decide)]) | (show (if (2 : Int) = 0 then _ else if (2 : Int) = 1 ∨ (2 : Int) = 2 then _ else _) = _; rw [if_neg (by decide), if_pos (by decide)])
                   simp only [sb, s1, ef]
                   done)
                | (refine Or.inr ⟨_, ?_, rfl, _, rfl, hF, _, _, _, _, c7, c10, c11⟩
                   first | (show (if (1 : Int) = 0 then _ else if (1 : Int) = 1 ∨ (1 : Int) = 2 then _ else _) = _; rw [if_neg (by decide), if_pos (by decide)]) | (show (if (2 : Int) = 0 then _ else if (2 : Int) = 1 ∨ (2 : Int) = 2 then _ else _) = _; rw [if_neg (by decide), if_pos (by decide)])
                   simp only [sb, ef]
                   done)
          · have c8 := (hf29 8 (by decide)).trans c8
            have c10 := (hf29 10 (by decide)).trans c10
            have c11 := (hf29 11 (by decide)).trans c11
            have hF := fr_t hF hf29 (by decide)
            refine s_if_eq rfl (cn rfl) (cn rfl) (by decide) (fun q30 => ?_) (fun q30 => absurd q30 (by decide))
            refine s_iconst rfl (cn rfl) ?_
            refine s_zreturn rfl (Or.inl rfl) ?_
            first
              | (refine Or.inr ⟨_, ?_, rfl, _, rfl, hF, _, _, _, _, c7, c10, c11⟩
                 first | (show (if (1 : Int) = 0 then _ else if (1 : Int) = 1 ∨ (1 : Int) = 2 then _ else _) = _; rw [if_neg (by decide), if_pos (by decide)]) | (show (if (2 : Int) = 0 then _ else if (2 : Int) = 1 ∨ (2 : Int) = 2 then _ else _) = _; rw [if_neg (by decide), if_pos (by decide)])
                 simp only [sb, s1, s2, s3, ef]
                 done)
              | (refine Or.inr ⟨_, ?_, rfl, _, rfl, hF, _, _, _, _, c7, c10, c11⟩
                 first | (show (if (1 : Int) = 0 then _ else if (1 : Int) = 1 ∨ (1 : Int) = 2 then _ else _) = _; rw [if_neg (by decide), if_pos (by decide)]) | (show (if (2 : Int) = 0 then _ else if (2 : Int) = 1 ∨ (2 : Int) = 2 then _ else _) = _; rw [if_neg (by decide), if_pos (by decide)])
                 simp only [sb, s1, s2, ef]
                 done)
              | (refine Or.inr ⟨_, ?_, rfl, _, rfl, hF, _, _, _, _, c7, c10, c11⟩
                 first | (show (if (1 : Int) = 0 then _ else if (1 : Int) = 1 ∨ (1 : Int) = 2 then _ else _) = _; rw [if_neg (by decide), if_pos (by decide)]) | (show (if (2 : Int) = 0 then _ else if (2 : Int) = 1 ∨ (2 : Int) = 2 then _ else _) = _; rw [if_neg (by decide), if_pos (by decide)])
                 simp only [sb, s1, ef]
                 done)
              | (refine Or.inr ⟨_, ?_, rfl, _, rfl, hF, _, _, _, _, c7, c10, c11⟩
                 first | (show (if (1 : Int) = 0 then _ else if (1 : Int) = 1 ∨ (1 : Int) = 2 then _ else _) = _; rw [if_neg (by decide), if_pos (by decide)]) | (show (if (2 : Int) = 0 then _ else if (2 : Int) = 1 ∨ (2 : Int) = 2 then _ else _) = _; rw [if_neg (by decide), if_pos (by decide)])
                 simp only [sb, ef]
                 done)
      · have c8 := (hf21 8 (by decide)).trans c8
        have c10 := (hf21 10 (by decide)).trans c10
        have c11 := (hf21 11 (by decide)).trans c11
        have hF := fr_t hF hf21 (by decide)
        refine s_if_eq rfl (cn rfl) (cn rfl) (by decide) (fun q22 => ?_) (fun q22 => absurd q22 (by decide))
        refine s_iconst rfl (cn rfl) ?_
        refine s_zreturn rfl (Or.inl rfl) ?_
        first
          | (refine Or.inr ⟨_, ?_, rfl, _, rfl, hF, _, _, _, _, c7, c10, c11⟩
             first | (show (if (1 : Int) = 0 then _ else if (1 : Int) = 1 ∨ (1 : Int) = 2 then _ else _) = _; rw [if_neg (by decide), if_pos (by decide)]) | (show (if (2 : Int) = 0 then _ else if (2 : Int) = 1 ∨ (2 : Int) = 2 then _ else _) = _; rw [if_neg (by decide), if_pos (by decide)])
             simp only [sb, s1, s2, s3, ef]
             done)
          | (refine Or.inr ⟨_, ?_, rfl, _, rfl, hF, _, _, _, _, c7, c10, c11⟩
             first | (show (if (1 : Int) = 0 then _ else if (1 : Int) = 1 ∨ (1 : Int) = 2 then _ else _) = _; rw [if_neg (by decide), if_pos (by decide)]) | (show (if (2 : Int) = 0 then _ else if (2 : Int) = 1 ∨ (2 : Int) = 2 then _ else _) = _; rw [if_neg (by decide), if_pos (by decide)])
             simp only [sb, s1, s2, ef]
             done)
          | (refine Or.inr ⟨_, ?_, rfl, _, rfl, hF, _, _, _, _, c7, c10, c11⟩
             first | (show (if (1 : Int) = 0 then _ else if (1 : Int) = 1 ∨ (1 : Int) = 2 then _ else _) = _; rw [if_neg (by decide), if_pos (by decide)]) | (show (if (2 : Int) = 0 then _ else if (2 : Int) = 1 ∨ (2 : Int) = 2 then _ else _) = _; rw [if_neg (by decide), if_pos (by decide)])
             simp only [sb, s1, ef]
             done)
          | (refine Or.inr ⟨_, ?_, rfl, _, rfl, hF, _, _, _, _, c7, c10, c11⟩
             first | (show (if (1 : Int) = 0 then _ else if (1 : Int) = 1 ∨ (1 : Int) = 2 then _ else _) = _; rw [if_neg (by decide), if_pos (by decide)]) | (show (if (2 : Int) = 0 then _ else if (2 : Int) = 1 ∨ (2 : Int) = 2 then _ else _) = _; rw [if_neg (by decide), if_pos (by decide)])
             simp only [sb, ef]
             done)
    · have c8 := (hf18 8 (by decide)).trans c8
      have c10 := (hf18 10 (by decide)).trans c10
      have c11 := (hf18 11 (by decide)).trans c11
      have hF := fr_t hF hf18 (by decide)
      refine s_if_eq rfl (cn rfl) (cn rfl) (by decide) (fun q19 => ?_) (fun q19 => absurd q19 (by decide))
      refine s_iconst rfl (cn rfl) ?_
      refine s_zreturn rfl (Or.inl rfl) ?_
      first
        | (refine Or.inr ⟨_, ?_, rfl, _, rfl, hF, _, _, _, _, c7, c10, c11⟩
           first | (show (if (1 : Int) = 0 then _ else if (1 : Int) = 1 ∨ (1 : Int) = 2 then _ else _) = _; rw [if_neg (by decide), if_pos (by decide)]) | (show (if (2 : Int) = 0 then _ else if (2 : Int) = 1 ∨ (2 : Int) = 2 then _ else _) = _; rw [if_neg (by decide), if_pos (by decide)])
           simp only [sb, s1, s2, s3, ef]
           done)
        | (refine Or.inr ⟨_, ?_, rfl, _, rfl, hF, _, _, _, _, c7, c10, c11⟩
           first | (show (if (1 : Int) = 0 then _ else if (1 : Int) = 1 ∨ (1 : Int) = 2 then _ else _) = _; rw [if_neg (by decide), if_pos (by decide)]) | (show (if (2 : Int) = 0 then _ else if (2 : Int) = 1 ∨ (2 : Int) = 2 then _ else _) = _; rw [if_neg (by decide), if_pos (by decide)])
           simp only [sb, s1, s2, ef]
           done)
        | (refine Or.inr ⟨_, ?_, rfl, _, rfl, hF, _, _, _, _, c7, c10, c11⟩
           first | (show (if (1 : Int) = 0 then _ else if (1 : Int) = 1 ∨ (1 : Int) = 2 then _ else _) = _; rw [if_neg (by decide), if_pos (by decide)]) | (show (if (2 : Int) = 0 then _ else if (2 : Int) = 1 ∨ (2 : Int) = 2 then _ else _) = _; rw [if_neg (by decide), if_pos (by decide)])
           simp only [sb, s1, ef]
           done)
        | (refine Or.inr ⟨_, ?_, rfl, _, rfl, hF, _, _, _, _, c7, c10, c11⟩
           first | (show (if (1 : Int) = 0 then _ else if (1 : Int) = 1 ∨ (1 : Int) = 2 then _ else _) = _; rw [if_neg (by decide), if_pos (by decide)]) | (show (if (2 : Int) = 0 then _ else if (2 : Int) = 1 ∨ (2 : Int) = 2 then _ else _) = _; rw [if_neg (by decide), if_pos (by decide)])
           simp only [sb, ef]
           done)
  refine And.intro (fun e1 => (cn rfl) _ _ _ ?_) (fun n1_2 => ?_)
  · subst e1
    refine s_aload_n rfl (cn rfl) rfl ?_
    refine s_virt rfl (cn rfl) rfl rfl c7 rfl (u_blank htl (by omega) ht c7 c8) ?_
    rintro _ _ (⟨s1, l18, rfl, h18, rfl, hf18, c7⟩ | ⟨ef, rfl, h18, rfl, hf18, c7⟩)
    · have c8 := (hf18 8 (by decide)).trans c8
      have c10 := (hf18 10 (by decide)).trans c10
      have c11 := (hf18 11 (by decide)).trans c11
      have hF := fr_t hF hf18 (by decide)
      refine s_if_eq rfl (cn rfl) (cn rfl) (by decide) (fun q19 => absurd q19 (by decide)) (fun q19 => ?_)
      refine s_aload_n rfl (cn rfl) rfl ?_
      refine s_virt rfl (cn rfl) rfl rfl c7 rfl (u_group htl (by omega) ht c7 c8) ?_
      rintro _ _ (⟨q21, x21, s2, rfl, h21, rfl, hf21, c7⟩ | ⟨sp21, sv21, ef, rfl, h21, rfl, hf21, c7⟩)
      · have c8 := (hf21 8 (by decide)).trans c8
        have c10 := (hf21 10 (by decide)).trans c10
        have c11 := (hf21 11 (by decide)).trans c11
        have hF := fr_t hF hf21 (by decide)
        have b21 := rG_16 (by omega) s2
        refine s_if_eq rfl (cn rfl) (cn rfl) (by decide) (fun q22 => absurd q22 (by decide)) (fun q22 => ?_)
        refine s_aload_n rfl (cn rfl) rfl ?_
        refine s_aload_n rfl (cn rfl) rfl ?_
        refine s_getfield rfl (cn rfl) c7 rfl ?_
        refine s_virt rfl (cn rfl) rfl rfl c7 rfl (u_keep_10 hsc c7 c10) ?_
        rintro _ _ ⟨rfl, h26, rfl, hf26, c10⟩
        have c7 := (hf26 7 (by decide)).trans c7
        have c8 := (hf26 8 (by decide)).trans c8
        have c11 := (hf26 11 (by decide)).trans c11
        have hF := fr_t hF hf26 (by decide)
        · refine s_if_eq rfl (cn rfl) (cn rfl) (by decide) (fun q27 => absurd q27 (by decide)) (fun q27 => ?_)
          refine s_aload_n rfl (cn rfl) rfl ?_
          refine s_virt rfl (cn rfl) rfl rfl c7 rfl (u_blank htl (by omega) ht c7 c8) ?_
          rintro _ _ (⟨s3, l29, rfl, h29, rfl, hf29, c7⟩ | ⟨ef, rfl, h29, rfl, hf29, c7⟩)
          · have c8 := (hf29 8 (by decide)).trans c8
            have c10 := (hf29 10 (by decide)).trans c10
            have c11 := (hf29 11 (by decide)).trans c11
            have hF := fr_t hF hf29 (by decide)
            refine s_if_eq rfl (cn rfl) (cn rfl) (by decide) (fun q30 => absurd q30 (by decide)) (fun q30 => ?_)
            refine s_aload_n rfl (cn rfl) rfl ?_
            refine s_virt rfl (cn rfl) rfl rfl c7 rfl (u_number htl (by omega) ht c7 c8) ?_
            rintro _ _ (⟨q32, x32, s4, rfl, h32, rfl, hf32, c7⟩ | ⟨f32, sp32, ef, rfl, h32, rfl, hf32, c7⟩)
            · have c8 := (hf32 8 (by decide)).trans c8
              have c10 := (hf32 10 (by decide)).trans c10
              have c11 := (hf32 11 (by decide)).trans c11
              have hF := fr_t hF hf32 (by decide)
              have b32 := rN_b (by omega) s4
              refine s_if_eq rfl (cn rfl) (cn rfl) (by decide) (fun q33 => absurd q33 (by decide)) (fun q33 => ?_)
              refine s_aload_n rfl (cn rfl) rfl ?_
              refine s_aload_n rfl (cn rfl) rfl ?_
              refine s_getfield rfl (cn rfl) c7 rfl ?_
              refine s_virt rfl (cn rfl) rfl rfl c7 rfl (u_keep_11 hsc c7 c11) ?_
              rintro _ _ ⟨rfl, h37, rfl, hf37, c11⟩
              have c7 := (hf37 7 (by decide)).trans c7
              have c8 := (hf37 8 (by decide)).trans c8
              have c10 := (hf37 10 (by decide)).trans c10
              have hF := fr_t hF hf37 (by decide)
              · refine s_if_eq rfl (cn rfl) (cn rfl) (by decide) (fun q38 => absurd q38 (by decide)) (fun q38 => ?_)
                refine s_iconst rfl (cn rfl) ?_
                refine s_goto rfl (cn rfl) ?_
                refine s_zreturn rfl (Or.inr rfl) ?_
                refine Or.inl ⟨q32, x21, x32, ?_, by omega, by omega, by omega, by omega, rfl, _, rfl, hF, _, _, _, c7, c10, c11, fun j hj => ⟨fu_n hj, fu_n hj⟩, fun q => absurd q (by decide), fun _ => ⟨fu_s, fu_s⟩⟩
                first | (show (if (1 : Int) = 0 then _ else if (1 : Int) = 1 ∨ (1 : Int) = 2 then _ else _) = _; rw [if_neg (by decide), if_pos (by decide)]) | (show (if (2 : Int) = 0 then _ else if (2 : Int) = 1 ∨ (2 : Int) = 2 then _ else _) = _; rw [if_neg (by decide), if_pos (by decide)])
                all_goals simp only [sb, s1, s2, s3, s4]
            · have c8 := (hf32 8 (by decide)).trans c8
              have c10 := (hf32 10 (by decide)).trans c10
              have c11 := (hf32 11 (by decide)).trans c11
              have hF := fr_t hF hf32 (by decide)
              refine s_if_eq rfl (cn rfl) (cn rfl) (by decide) (fun q33 => ?_) (fun q33 => absurd q33 (by decide))
              refine s_iconst rfl (cn rfl) ?_
              refine s_zreturn rfl (Or.inl rfl) ?_
              first
                | (refine Or.inr ⟨_, ?_, rfl, _, rfl, hF, _, _, _, _, c7, c10, c11⟩
                   first | (show (if (1 : Int) = 0 then _ else if (1 : Int) = 1 ∨ (1 : Int) = 2 then _ else _) = _; rw [if_neg (by decide), if_pos (by decide)]) | (show (if (2 : Int) = 0 then _ else if (2 : Int) = 1 ∨ (2 : Int) = 2 then _ else _) = _; rw [if_neg (by decide), if_pos (by decide)])
                   simp only [sb, s1, s2, s3, ef]
                   done)
                | (refine Or.inr ⟨_, ?_, rfl, _, rfl, hF, _, _, _, _, c7, c10, c11⟩
                   first | (show (if (1 : Int) = 0 then _ else if (1 : Int) = 1 ∨ (1 : Int) = 2 then _ else _) = _; rw [if_neg (by decide), if_pos (by decide)]) | (show (if (2 : Int) = 0 then _ else if (2 : Int) = 1 ∨ (2 : Int) = 2 then _ else _) = _; rw [if_neg (by decide), if_pos (by decide)])
                   simp only [sb, s1, s2, ef]
                   done)
                | (refine Or.inr ⟨_, ?_, rfl, _, rfl, hF, _, _, _, _, c7, c10, c11⟩
                   first | (show (if (1 : Int) = 0 then _ else if (1 : Int) = 1 ∨ (1 : Int) = 2 then _ else _) = _; rw [if_neg (by decide), if_pos (by decide)]) | (show (if (2 : Int) = 0 then _ else if (2 : Int) = 1 ∨ (2 : Int) = 2 then _ else _) = _; rw [if_neg (by decide), if_pos (by decide)])
                   simp only [sb, s1, ef]
                   done)
                | (refine Or.inr ⟨_, ?_, rfl, _, rfl, hF, _, _, _, _, c7, c10, c11⟩
                   first | (show (if (1 : Int) = 0 then _ else if (1 : Int) = 1 ∨ (1 : Int) = 2 then _ else _) = _; rw [if_neg (by decide), if_pos (by decide)]) | (show (if (2 : Int) = 0 then _ else if (2 : Int) = 1 ∨ (2 : Int) = 2 then _ else _) = _; rw [if_neg (by decide), if_pos (by decide)])
                   simp only [sb, ef]
                   done)
          · have c8 := (hf29 8 (by decide)).trans c8
            have c10 := (hf29 10 (by decide)).trans c10
            have c11 := (hf29 11 (by decide)).trans c11
            have hF := fr_t hF hf29 (by decide)
            refine s_if_eq rfl (cn rfl) (cn rfl) (by decide) (fun q30 => ?_) (fun q30 => absurd q30 (by decide))
            refine s_iconst rfl (cn rfl) ?_
            refine s_zreturn rfl (Or.inl rfl) ?_
            first
              | (refine Or.inr ⟨_, ?_, rfl, _, rfl, hF, _, _, _, _, c7, c10, c11⟩
                 first | (show (if (1 : Int) = 0 then _ else if (1 : Int) = 1 ∨ (1 : Int) = 2 then _ else _) = _; rw [if_neg (by decide), if_pos (by decide)]) | (show (if (2 : Int) = 0 then _ else if (2 : Int) = 1 ∨ (2 : Int) = 2 then _ else _) = _; rw [if_neg (by decide), if_pos (by decide)])
                 simp only [sb, s1, s2, s3, ef]
                 done)
              | (refine Or.inr ⟨_, ?_, rfl, _, rfl, hF, _, _, _, _, c7, c10, c11⟩
                 first | (show (if (1 : Int) = 0 then _ else if (1 : Int) = 1 ∨ (1 : Int) = 2 then _ else _) = _; rw [if_neg (by decide), if_pos (by decide)]) | (show (if (2 : Int) = 0 then _ else if (2 : Int) = 1 ∨ (2 : Int) = 2 then _ else _) = _; rw [if_neg (by decide), if_pos (by decide)])
                 simp only [sb, s1, s2, ef]
                 done)
              | (refine Or.inr ⟨_, ?_, rfl, _, rfl, hF, _, _, _, _, c7, c10, c11⟩
                 first | (show (if (1 : Int) = 0 then _ else if (1 : Int) = 1 ∨ (1 : Int) = 2 then _ else _) = _; rw [if_neg (by decide), if_pos (by decide)]) | (show (if (2 : Int) = 0 then _ else if (2 : Int) = 1 ∨ (2 : Int) = 2 then _ else _) = _; rw [if_neg (by decide), if_pos (by decide)])
                 simp only [sb, s1, ef]
                 done)
              | (refine Or.inr ⟨_, ?_, rfl, _, rfl, hF, _, _, _, _, c7, c10, c11⟩
                 first | (show (if (1 : Int) = 0 then _ else if (1 : Int) = 1 ∨ (1 : Int) = 2 then _ else _) = _; rw [if_neg (by decide), if_pos (by decide)]) | (show (if (2 : Int) = 0 then _ else if (2 : Int) = 1 ∨ (2 : Int) = 2 then _ else _) = _; rw [if_neg (by decide), if_pos (by decide)])
                 simp only [sb, ef]
                 done)
      · have c8 := (hf21 8 (by decide)).trans c8
        have c10 := (hf21 10 (by decide)).trans c10
        have c11 := (hf21 11 (by decide)).trans c11
        have hF := fr_t hF hf21 (by decide)
        refine s_if_eq rfl (cn rfl) (cn rfl) (by decide) (fun q22 => ?_) (fun q22 => absurd q22 (by decide))
        refine s_iconst rfl (cn rfl) ?_
        refine s_zreturn rfl (Or.inl rfl) ?_
        first
          | (refine Or.inr ⟨_, ?_, rfl, _, rfl, hF, _, _, _, _, c7, c10, c11⟩
             first | (show (if (1 : Int) = 0 then _ else if (1 : Int) = 1 ∨ (1 : Int) = 2 then _ else _) = _; rw [if_neg (by decide), if_pos (by decide)]) | (show (if (2 : Int) = 0 then _ else if (2 : Int) = 1 ∨ (2 : Int) = 2 then _ else _) = _; rw [if_neg (by decide), if_pos (by decide)])
             simp only [sb, s1, s2, s3, ef]
             done)
          | (refine Or.inr ⟨_, ?_, rfl, _, rfl, hF, _, _, _, _, c7, c10, c11⟩
             first | (show (if (1 : Int) = 0 then _ else if (1 : Int) = 1 ∨ (1 : Int) = 2 then _ else _) = _; rw [if_neg (by decide), if_pos (by decide)]) | (show (if (2 : Int) = 0 then _ else if (2 : Int) = 1 ∨ (2 : Int) = 2 then _ else _) = _; rw [if_neg (by decide), if_pos (by decide)])
             simp only [sb, s1, s2, ef]
             done)
          | (refine Or.inr ⟨_, ?_, rfl, _, rfl, hF, _, _, _, _, c7, c10, c11⟩
             first | (show (if (1 : Int) = 0 then _ else if (1 : Int) = 1 ∨ (1 : Int) = 2 then _ else _) = _; rw [if_neg (by decide), if_pos (by decide)]) | (show (if (2 : Int) = 0 then _ else if (2 : Int) = 1 ∨ (2 : Int) = 2 then _ else _) = _; rw [if_neg (by decide), if_pos (by decide)])
             simp only [sb, s1, ef]
             done)
          | (refine Or.inr ⟨_, ?_, rfl, _, rfl, hF, _, _, _, _, c7, c10, c11⟩
             first | (show (if (1 : Int) = 0 then _ else if (1 : Int) = 1 ∨ (1 : Int) = 2 then _ else _) = _; rw [if_neg (by decide), if_pos (by decide)]) | (show (if (2 : Int) = 0 then _ else if (2 : Int) = 1 ∨ (2 : Int) = 2 then _ else _) = _; rw [if_neg (by decide), if_pos (by decide)])
             simp only [sb, ef]
             done)
    · have c8 := (hf18 8 (by decide)).trans c8
      have c10 := (hf18 10 (by decide)).trans c10
      have c11 := (hf18 11 (by decide)).trans c11
      have hF := fr_t hF hf18 (by decide)
      refine s_if_eq rfl (cn rfl) (cn rfl) (by decide) (fun q19 => ?_) (fun q19 => absurd q19 (by decide))
      refine s_iconst rfl (cn rfl) ?_
      refine s_zreturn rfl (Or.inl rfl) ?_
      first
        | (refine Or.inr ⟨_, ?_, rfl, _, rfl, hF, _, _, _, _, c7, c10, c11⟩
           first | (show (if (1 : Int) = 0 then _ else if (1 : Int) = 1 ∨ (1 : Int) = 2 then _ else _) = _; rw [if_neg (by decide), if_pos (by decide)]) | (show (if (2 : Int) = 0 then _ else if (2 : Int) = 1 ∨ (2 : Int) = 2 then _ else _) = _; rw [if_neg (by decide), if_pos (by decide)])
           simp only [sb, s1, s2, s3, ef]
           done)
        | (refine Or.inr ⟨_, ?_, rfl, _, rfl, hF, _, _, _, _, c7, c10, c11⟩
           first | (show (if (1 : Int) = 0 then _ else if (1 : Int) = 1 ∨ (1 : Int) = 2 then _ else _) = _; rw [if_neg (by decide), if_pos (by decide)]) | (show (if (2 : Int) = 0 then _ else if (2 : Int) = 1 ∨ (2 : Int) = 2 then _ else _) = _; rw [if_neg (by decide), if_pos (by decide)])
           simp only [sb, s1, s2, ef]
           done)
        | (refine Or.inr ⟨_, ?_, rfl, _, rfl, hF, _, _, _, _, c7, c10, c11⟩
           first | (show (if (1 : Int) = 0 then _ else if (1 : Int) = 1 ∨ (1 : Int) = 2 then _ else _) = _; rw [if_neg (by decide), if_pos (by decide)]) | (show (if (2 : Int) = 0 then _ else if (2 : Int) = 1 ∨ (2 : Int) = 2 then _ else _) = _; rw [if_neg (by decide), if_pos (by decide)])
           simp only [sb, s1, ef]
           done)
        | (refine Or.inr ⟨_, ?_, rfl, _, rfl, hF, _, _, _, _, c7, c10, c11⟩
           first | (show (if (1 : Int) = 0 then _ else if (1 : Int) = 1 ∨ (1 : Int) = 2 then _ else _) = _; rw [if_neg (by decide), if_pos (by decide)]) | (show (if (2 : Int) = 0 then _ else if (2 : Int) = 1 ∨ (2 : Int) = 2 then _ else _) = _; rw [if_neg (by decide), if_pos (by decide)])
           simp only [sb, ef]
           done)
  refine And.intro (fun e1 => (cn rfl) _ _ _ ?_) (fun n1_3 => ?_)
  · refine s_iconst rfl (cn rfl) ?_
    refine s_zreturn rfl (Or.inr rfl) ?_
    exact Or.inl ⟨p, 0, 0, by unfold rA; rw [if_neg (by omega), if_neg (by omega), if_neg (by omega)], Nat.le_refl p, hp, by decide, by decide, rfl, h, rfl, fr_r, _, _, _, c7, c10, c11, fun j _ => ⟨rfl, rfl⟩, fun q => absurd q (by omega), fun q => absurd q (by omega)⟩
  refine And.intro (fun e1 => (cn rfl) _ _ _ ?_) (fun n1_4 => ?_)
  · refine s_iconst rfl (cn rfl) ?_
    refine s_zreturn rfl (Or.inr rfl) ?_
    exact Or.inl ⟨p, 0, 0, by unfold rA; rw [if_neg (by omega), if_neg (by omega), if_neg (by omega)], Nat.le_refl p, hp, by decide, by decide, rfl, h, rfl, fr_r, _, _, _, c7, c10, c11, fun j _ => ⟨rfl, rfl⟩, fun q => absurd q (by omega), fun q => absurd q (by omega)⟩
  refine And.intro (fun e1 => (cn rfl) _ _ _ ?_) (fun n1_5 => ?_)
  · subst e1
    refine s_aload_n rfl (cn rfl) rfl ?_
    refine s_virt rfl (cn rfl) rfl rfl c7 rfl (u_blank htl (by omega) ht c7 c8) ?_
    rintro _ _ (⟨s1, l44, rfl, h44, rfl, hf44, c7⟩ | ⟨ef, rfl, h44, rfl, hf44, c7⟩)
    · have c8 := (hf44 8 (by decide)).trans c8
      have c10 := (hf44 10 (by decide)).trans c10
      have c11 := (hf44 11 (by decide)).trans c11
      have hF := fr_t hF hf44 (by decide)
      refine s_if_eq rfl (cn rfl) (cn rfl) (by decide) (fun q45 => absurd q45 (by decide)) (fun q45 => ?_)
      refine s_aload_n rfl (cn rfl) rfl ?_
      refine s_virt rfl (cn rfl) rfl rfl c7 rfl (u_person htl (by omega) ht c7 c8) ?_
      rintro _ _ (⟨q47, x47, s2, rfl, h47, rfl, hf47, c7⟩ | ⟨sp47, sv47, ef, rfl, h47, rfl, hf47, c7⟩)
      · have c8 := (hf47 8 (by decide)).trans c8
        have c10 := (hf47 10 (by decide)).trans c10
        have c11 := (hf47 11 (by decide)).trans c11
        have hF := fr_t hF hf47 (by decide)
        have b47 := rP_b (by omega) s2
        refine s_if_eq rfl (cn rfl) (cn rfl) (by decide) (fun q48 => absurd q48 (by decide)) (fun q48 => ?_)
        refine s_aload_n rfl (cn rfl) rfl ?_
        refine s_aload_n rfl (cn rfl) rfl ?_
        refine s_getfield rfl (cn rfl) c7 rfl ?_
        refine s_virt rfl (cn rfl) rfl rfl c7 rfl (u_keep_10 hsc c7 c10) ?_
        rintro _ _ ⟨rfl, h52, rfl, hf52, c10⟩
        have c7 := (hf52 7 (by decide)).trans c7
        have c8 := (hf52 8 (by decide)).trans c8
        have c11 := (hf52 11 (by decide)).trans c11
        have hF := fr_t hF hf52 (by decide)
        · refine s_if_eq rfl (cn rfl) (cn rfl) (by decide) (fun q53 => absurd q53 (by decide)) (fun q53 => ?_)
          refine s_aload_n rfl (cn rfl) rfl ?_
          refine s_virt rfl (cn rfl) rfl rfl c7 rfl (u_blank htl (by omega) ht c7 c8) ?_
          rintro _ _ (⟨s3, l55, rfl, h55, rfl, hf55, c7⟩ | ⟨ef, rfl, h55, rfl, hf55, c7⟩)
          · have c8 := (hf55 8 (by decide)).trans c8
            have c10 := (hf55 10 (by decide)).trans c10
            have c11 := (hf55 11 (by decide)).trans c11
            have hF := fr_t hF hf55 (by decide)
            refine s_if_eq rfl (cn rfl) (cn rfl) (by decide) (fun q56 => absurd q56 (by decide)) (fun q56 => ?_)
            refine s_aload_n rfl (cn rfl) rfl ?_
            refine s_virt rfl (cn rfl) rfl rfl c7 rfl (u_person htl (by omega) ht c7 c8) ?_
            rintro _ _ (⟨q58, x58, s4, rfl, h58, rfl, hf58, c7⟩ | ⟨sp58, sv58, ef, rfl, h58, rfl, hf58, c7⟩)
            · have c8 := (hf58 8 (by decide)).trans c8
              have c10 := (hf58 10 (by decide)).trans c10
              have c11 := (hf58 11 (by decide)).trans c11
              have hF := fr_t hF hf58 (by decide)
              have b58 := rP_b (by omega) s4
              refine s_if_eq rfl (cn rfl) (cn rfl) (by decide) (fun q59 => absurd q59 (by decide)) (fun q59 => ?_)
              refine s_aload_n rfl (cn rfl) rfl ?_
              refine s_aload_n rfl (cn rfl) rfl ?_
              refine s_getfield rfl (cn rfl) c7 rfl ?_
              refine s_virt rfl (cn rfl) rfl rfl c7 rfl (u_keep_11 hsc c7 c11) ?_
              rintro _ _ ⟨rfl, h63, rfl, hf63, c11⟩
              have c7 := (hf63 7 (by decide)).trans c7
              have c8 := (hf63 8 (by decide)).trans c8
              have c10 := (hf63 10 (by decide)).trans c10
              have hF := fr_t hF hf63 (by decide)
              · refine s_if_eq rfl (cn rfl) (cn rfl) (by decide) (fun q64 => absurd q64 (by decide)) (fun q64 => ?_)
                refine s_iconst rfl (cn rfl) ?_
                refine s_goto rfl (cn rfl) ?_
                refine s_zreturn rfl (Or.inr rfl) ?_
                refine Or.inl ⟨q58, x47, x58, ?_, by omega, by omega, by omega, by omega, rfl, _, rfl, hF, _, _, _, c7, c10, c11, fun j hj => ⟨fu_n hj, fu_n hj⟩, fun q => absurd q (by decide), fun _ => ⟨fu_s, fu_s⟩⟩
                show (if (5 : Int) = 0 then _ else if (5 : Int) = 1 ∨ (5 : Int) = 2 then _ else if (5 : Int) = 5 then _ else _) = _; rw [if_neg (by decide), if_neg (by decide), if_pos (by decide)]
                simp only [sb, s1, s2, s3, s4]
            · have c8 := (hf58 8 (by decide)).trans c8
              have c10 := (hf58 10 (by decide)).trans c10
              have c11 := (hf58 11 (by decide)).trans c11
              have hF := fr_t hF hf58 (by decide)
              refine s_if_eq rfl (cn rfl) (cn rfl) (by decide) (fun q59 => ?_) (fun q59 => absurd q59 (by decide))
              refine s_iconst rfl (cn rfl) ?_
              refine s_zreturn rfl (Or.inl rfl) ?_
              first
                | (refine Or.inr ⟨_, ?_, rfl, _, rfl, hF, _, _, _, _, c7, c10, c11⟩
                   show (if (5 : Int) = 0 then _ else if (5 : Int) = 1 ∨ (5 : Int) = 2 then _ else if (5 : Int) = 5 then _ else _) = _; rw [if_neg (by decide), if_neg (by decide), if_pos (by decide)]
                   simp only [sb, s1, s2, s3, ef]
                   done)
                | (refine Or.inr ⟨_, ?_, rfl, _, rfl, hF, _, _, _, _, c7, c10, c11⟩
                   show (if (5 : Int) = 0 then _ else if (5 : Int) = 1 ∨ (5 : Int) = 2 then _ else if (5 : Int) = 5 then _ else _) = _; rw [if_neg (by decide), if_neg (by decide), if_pos (by decide)]
                   simp only [sb, s1, s2, ef]
                   done)
                | (refine Or.inr ⟨_, ?_, rfl, _, rfl, hF, _, _, _, _, c7, c10, c11⟩
                   show (if (5 : Int) = 0 then _ else if (5 : Int) = 1 ∨ (5 : Int) = 2 then _ else if (5 : Int) = 5 then _ else _) = _; rw [if_neg (by decide), if_neg (by decide), if_pos (by decide)]
                   simp only [sb, s1, ef]
                   done)
                | (refine Or.inr ⟨_, ?_, rfl, _, rfl, hF, _, _, _, _, c7, c10, c11⟩
                   show (if (5 : Int) = 0 then _ else if (5 : Int) = 1 ∨ (5 : Int) = 2 then _ else if (5 : Int) = 5 then _ else _) = _; rw [if_neg (by decide), if_neg (by decide), if_pos (by decide)]
                   simp only [sb, ef]
                   done)
          · have c8 := (hf55 8 (by decide)).trans c8
            have c10 := (hf55 10 (by decide)).trans c10
            have c11 := (hf55 11 (by decide)).trans c11
            have hF := fr_t hF hf55 (by decide)
            refine s_if_eq rfl (cn rfl) (cn rfl) (by decide) (fun q56 => ?_) (fun q56 => absurd q56 (by decide))
            refine s_iconst rfl (cn rfl) ?_
            refine s_zreturn rfl (Or.inl rfl) ?_
            first
              | (refine Or.inr ⟨_, ?_, rfl, _, rfl, hF, _, _, _, _, c7, c10, c11⟩
                 show (if (5 : Int) = 0 then _ else if (5 : Int) = 1 ∨ (5 : Int) = 2 then _ else if (5 : Int) = 5 then _ else _) = _; rw [if_neg (by decide), if_neg (by decide), if_pos (by decide)]
                 simp only [sb, s1, s2, s3, ef]
                 done)
              | (refine Or.inr ⟨_, ?_, rfl, _, rfl, hF, _, _, _, _, c7, c10, c11⟩
                 show (if (5 : Int) = 0 then _ else if (5 : Int) = 1 ∨ (5 : Int) = 2 then _ else if (5 : Int) = 5 then _ else _) = _; rw [if_neg (by decide), if_neg (by decide), if_pos (by decide)]
                 simp only [sb, s1, s2, ef]
                 done)
              | (refine Or.inr ⟨_, ?_, rfl, _, rfl, hF, _, _, _, _, c7, c10, c11⟩
                 show (if (5 : Int) = 0 then _ else if (5 : Int) = 1 ∨ (5 : Int) = 2 then _ else if (5 : Int) = 5 then _ else _) = _; rw [if_neg (by decide), if_neg (by decide), if_pos (by decide)]
                 simp only [sb, s1, ef]
                 done)
              | (refine Or.inr ⟨_, ?_, rfl, _, rfl, hF, _, _, _, _, c7, c10, c11⟩
                 show (if (5 : Int) = 0 then _ else if (5 : Int) = 1 ∨ (5 : Int) = 2 then _ else if (5 : Int) = 5 then _ else _) = _; rw [if_neg (by decide), if_neg (by decide), if_pos (by decide)]
                 simp only [sb, ef]
                 done)
      · have c8 := (hf47 8 (by decide)).trans c8
        have c10 := (hf47 10 (by decide)).trans c10
        have c11 := (hf47 11 (by decide)).trans c11
        have hF := fr_t hF hf47 (by decide)
        refine s_if_eq rfl (cn rfl) (cn rfl) (by decide) (fun q48 => ?_) (fun q48 => absurd q48 (by decide))
        refine s_iconst rfl (cn rfl) ?_
        refine s_zreturn rfl (Or.inl rfl) ?_
        first
          | (refine Or.inr ⟨_, ?_, rfl, _, rfl, hF, _, _, _, _, c7, c10, c11⟩
             show (if (5 : Int) = 0 then _ else if (5 : Int) = 1 ∨ (5 : Int) = 2 then _ else if (5 : Int) = 5 then _ else _) = _; rw [if_neg (by decide), if_neg (by decide), if_pos (by decide)]
             simp only [sb, s1, s2, s3, ef]
             done)
          | (refine Or.inr ⟨_, ?_, rfl, _, rfl, hF, _, _, _, _, c7, c10, c11⟩
             show (if (5 : Int) = 0 then _ else if (5 : Int) = 1 ∨ (5 : Int) = 2 then _ else if (5 : Int) = 5 then _ else _) = _; rw [if_neg (by decide), if_neg (by decide), if_pos (by decide)]
             simp only [sb, s1, s2, ef]
             done)
          | (refine Or.inr ⟨_, ?_, rfl, _, rfl, hF, _, _, _, _, c7, c10, c11⟩
             show (if (5 : Int) = 0 then _ else if (5 : Int) = 1 ∨ (5 : Int) = 2 then _ else if (5 : Int) = 5 then _ else _) = _; rw [if_neg (by decide), if_neg (by decide), if_pos (by decide)]
             simp only [sb, s1, ef]
             done)
          | (refine Or.inr ⟨_, ?_, rfl, _, rfl, hF, _, _, _, _, c7, c10, c11⟩
             show (if (5 : Int) = 0 then _ else if (5 : Int) = 1 ∨ (5 : Int) = 2 then _ else if (5 : Int) = 5 then _ else _) = _; rw [if_neg (by decide), if_neg (by decide), if_pos (by decide)]
             simp only [sb, ef]
             done)
    · have c8 := (hf44 8 (by decide)).trans c8
      have c10 := (hf44 10 (by decide)).trans c10
      have c11 := (hf44 11 (by decide)).trans c11
      have hF := fr_t hF hf44 (by decide)
      refine s_if_eq rfl (cn rfl) (cn rfl) (by decide) (fun q45 => ?_) (fun q45 => absurd q45 (by decide))
      refine s_iconst rfl (cn rfl) ?_
      refine s_zreturn rfl (Or.inl rfl) ?_
      first
        | (refine Or.inr ⟨_, ?_, rfl, _, rfl, hF, _, _, _, _, c7, c10, c11⟩
           show (if (5 : Int) = 0 then _ else if (5 : Int) = 1 ∨ (5 : Int) = 2 then _ else if (5 : Int) = 5 then _ else _) = _; rw [if_neg (by decide), if_neg (by decide), if_pos (by decide)]
           simp only [sb, s1, s2, s3, ef]
           done)
        | (refine Or.inr ⟨_, ?_, rfl, _, rfl, hF, _, _, _, _, c7, c10, c11⟩
           show (if (5 : Int) = 0 then _ else if (5 : Int) = 1 ∨ (5 : Int) = 2 then _ else if (5 : Int) = 5 then _ else _) = _; rw [if_neg (by decide), if_neg (by decide), if_pos (by decide)]
           simp only [sb, s1, s2, ef]
           done)
        | (refine Or.inr ⟨_, ?_, rfl, _, rfl, hF, _, _, _, _, c7, c10, c11⟩
           show (if (5 : Int) = 0 then _ else if (5 : Int) = 1 ∨ (5 : Int) = 2 then _ else if (5 : Int) = 5 then _ else _) = _; rw [if_neg (by decide), if_neg (by decide), if_pos (by decide)]
           simp only [sb, s1, ef]
           done)
        | (refine Or.inr ⟨_, ?_, rfl, _, rfl, hF, _, _, _, _, c7, c10, c11⟩
           show (if (5 : Int) = 0 then _ else if (5 : Int) = 1 ∨ (5 : Int) = 2 then _ else if (5 : Int) = 5 then _ else _) = _; rw [if_neg (by decide), if_neg (by decide), if_pos (by decide)]
           simp only [sb, ef]
           done)
  refine (cn rfl) _ _ _ ?_
  refine s_iconst rfl (cn rfl) ?_
  refine s_zreturn rfl (Or.inr rfl) ?_
  exact Or.inl ⟨p, 0, 0, by unfold rA; rw [if_neg (by omega), if_neg (by omega), if_neg (by omega)], Nat.le_refl p, hp, by decide, by decide, rfl, h, rfl, fr_r, _, _, _, c7, c10, c11, fun j _ => ⟨rfl, rfl⟩, fun q => absurd q (by omega), fun q => absurd q (by omega)⟩
