/-! Words. -/
def WB0 (k : Nat) : Nat := [112, 101, 111, 112, 108, 101].getD k 0
theorem WB0_e : ∀ k, k < 6 → (rr_sby.getD 0 []).getD k 0 = ii ((WB0 k : Nat) : Int) := by decide
theorem WB0_c : ∀ k, k < 6 → ((ii ((WB0 k &&& 255 : Nat) : Int)).toUInt32 % 65536).toInt32 = ii ((WB0 k : Nat) : Int) := by decide
theorem WB0_d : ∀ k, k < 6 → ((ii ((WB0 k : Nat) : Int)).toUInt32 % 65536).toInt32 = ii ((WB0 k : Nat) : Int) := by decide
theorem WB0_n : ∀ k, k < 6 → narrow .char (.int (ii ((WB0 k : Nat) : Int))) = .int (ii ((WB0 k : Nat) : Int)) := fun k hk => congrArg Value.int (WB0_d k hk)
def WB1 (k : Nat) : Nat := [119, 111, 114, 116, 104].getD k 0
theorem WB1_e : ∀ k, k < 5 → (rr_sby.getD 1 []).getD k 0 = ii ((WB1 k : Nat) : Int) := by decide
theorem WB1_c : ∀ k, k < 5 → ((ii ((WB1 k &&& 255 : Nat) : Int)).toUInt32 % 65536).toInt32 = ii ((WB1 k : Nat) : Int) := by decide
theorem WB1_d : ∀ k, k < 5 → ((ii ((WB1 k : Nat) : Int)).toUInt32 % 65536).toInt32 = ii ((WB1 k : Nat) : Int) := by decide
theorem WB1_n : ∀ k, k < 5 → narrow .char (.int (ii ((WB1 k : Nat) : Int))) = .int (ii ((WB1 k : Nat) : Int)) := fun k hk => congrArg Value.int (WB1_d k hk)
def WB2 (k : Nat) : Nat := [109, 111, 114, 101].getD k 0
theorem WB2_e : ∀ k, k < 4 → (rr_sby.getD 2 []).getD k 0 = ii ((WB2 k : Nat) : Int) := by decide
theorem WB2_c : ∀ k, k < 4 → ((ii ((WB2 k &&& 255 : Nat) : Int)).toUInt32 % 65536).toInt32 = ii ((WB2 k : Nat) : Int) := by decide
theorem WB2_d : ∀ k, k < 4 → ((ii ((WB2 k : Nat) : Int)).toUInt32 % 65536).toInt32 = ii ((WB2 k : Nat) : Int) := by decide
theorem WB2_n : ∀ k, k < 4 → narrow .char (.int (ii ((WB2 k : Nat) : Int))) = .int (ii ((WB2 k : Nat) : Int)) := fun k hk => congrArg Value.int (WB2_d k hk)
def WB3 (k : Nat) : Nat := [100, 117, 97, 108].getD k 0
theorem WB3_e : ∀ k, k < 4 → (rr_sby.getD 3 []).getD k 0 = ii ((WB3 k : Nat) : Int) := by decide
theorem WB3_c : ∀ k, k < 4 → ((ii ((WB3 k &&& 255 : Nat) : Int)).toUInt32 % 65536).toInt32 = ii ((WB3 k : Nat) : Int) := by decide
theorem WB3_d : ∀ k, k < 4 → ((ii ((WB3 k : Nat) : Int)).toUInt32 % 65536).toInt32 = ii ((WB3 k : Nat) : Int) := by decide
theorem WB3_n : ∀ k, k < 4 → narrow .char (.int (ii ((WB3 k : Nat) : Int))) = .int (ii ((WB3 k : Nat) : Int)) := fun k hk => congrArg Value.int (WB3_d k hk)
def WB4 (k : Nat) : Nat := [122, 101, 114, 111].getD k 0
theorem WB4_e : ∀ k, k < 4 → (rr_sby.getD 4 []).getD k 0 = ii ((WB4 k : Nat) : Int) := by decide
theorem WB4_c : ∀ k, k < 4 → ((ii ((WB4 k &&& 255 : Nat) : Int)).toUInt32 % 65536).toInt32 = ii ((WB4 k : Nat) : Int) := by decide
theorem WB4_d : ∀ k, k < 4 → ((ii ((WB4 k : Nat) : Int)).toUInt32 % 65536).toInt32 = ii ((WB4 k : Nat) : Int) := by decide
theorem WB4_n : ∀ k, k < 4 → narrow .char (.int (ii ((WB4 k : Nat) : Int))) = .int (ii ((WB4 k : Nat) : Int)) := fun k hk => congrArg Value.int (WB4_d k hk)
def WB5 (k : Nat) : Nat := [115, 119, 97, 112].getD k 0
theorem WB5_e : ∀ k, k < 4 → (rr_sby.getD 5 []).getD k 0 = ii ((WB5 k : Nat) : Int) := by decide
theorem WB5_c : ∀ k, k < 4 → ((ii ((WB5 k &&& 255 : Nat) : Int)).toUInt32 % 65536).toInt32 = ii ((WB5 k : Nat) : Int) := by decide
theorem WB5_d : ∀ k, k < 4 → ((ii ((WB5 k : Nat) : Int)).toUInt32 % 65536).toInt32 = ii ((WB5 k : Nat) : Int) := by decide
theorem WB5_n : ∀ k, k < 4 → narrow .char (.int (ii ((WB5 k : Nat) : Int))) = .int (ii ((WB5 k : Nat) : Int)) := fun k hk => congrArg Value.int (WB5_d k hk)
theorem u_prec {d N S : Nat} {h : Nat → Option rr_E} {k m : Int} (h1 : 0 ≤ k) (h2 : k < m) (h3 : m ≤ 100) : rr_Calls (d + 1) j_Prec_checkIndex [.int (ii k), .int (ii m), .retAddr 0] (N, S, h) (fun r R => r = some (.int (ii k)) ∧ R = (N, S, h)) := by
  refine rr_meth (C := K_Prec_checkIndex) (hd := h_Prec_checkIndex) (mx := 3) rfl rfl (fun K hK => ?_)
  refine hK _ _ _ _ ?_
  refine s_iload_n rfl (cn rfl) rfl ?_
  refine s_if_lt rfl (cn rfl) (cn rfl) ⟨by omega, by omega⟩ (fun q1 => ?_) (fun q1 => ?_)
  · omega
  · refine s_iload_n rfl (cn rfl) rfl ?_
    refine s_iload_n rfl (cn rfl) rfl ?_
    refine s_icmp_lt rfl (cn rfl) (cn rfl) ⟨by omega, by omega⟩ ⟨by omega, by omega⟩ (fun q4 => ?_) (fun q4 => ?_)
    · refine s_iload_n rfl (cn rfl) rfl ?_
      refine s_ireturn rfl ?_
      exact ⟨rfl, rfl⟩
    · omega
theorem u_sci {d N S : Nat} {h : Nat → Option rr_E} {k m : Int} (h1 : 0 ≤ k) (h2 : k < m) (h3 : m ≤ 100) : rr_Calls (d + 2) j_Str_checkIndex [.int (ii k), .int (ii m)] (N, S, h) (fun r R => r = none ∧ R = (N, S, h)) := by
  refine rr_meth (C := K_Str_checkIndex) (hd := h_Str_checkIndex) (mx := 2) rfl rfl (fun K hK => ?_)
  refine hK _ _ _ _ ?_
  refine s_iload_n rfl (cn rfl) rfl ?_
  refine s_iload_n rfl (cn rfl) rfl ?_
  refine s_getstatic rfl (cn rfl) rfl ?_
  refine s_stat rfl (cn rfl) rfl rfl rfl (u_prec h1 h2 h3) ?_
  rintro _ _ ⟨rfl, rfl⟩
  refine s_pop rfl (cn rfl) ?_
  refine s_return rfl ?_
  exact ⟨rfl, rfl⟩
theorem u_latin_0 {d N S : Nat} {h : Nat → Option rr_E} (c1000010 : h 1000010 = some (.inr (20, [.ref 1000020, .int (ii 0)]))) (c1000020 : h 1000020 = some (.inl (9, 6, .inl (fun j => (rr_sby.getD 0 []).getD j 0)))) {k : Nat} (hk : k < 6) : rr_Calls (d + 3) j_Latin_charAt [.ref 1000020, .int (ii (k : Int))] (N, S, h) (fun r R => r = some (.int (ii ((WB0 k : Nat) : Int))) ∧ R = (N, S, h)) := by
  refine rr_meth (C := K_Latin_charAt) (hd := h_Latin_charAt) (mx := 2) rfl rfl (fun K hK => ?_)
  refine hK _ _ _ _ ?_
  refine s_iload_n rfl (cn rfl) rfl ?_
  refine s_aload_n rfl (cn rfl) rfl ?_
  refine s_arraylength rfl (cn rfl) c1000020 (by decide) ?_
  refine s_stat rfl (cn rfl) rfl rfl rfl (u_sci (by omega) (by omega) (by decide)) ?_
  rintro _ _ ⟨rfl, rfl⟩
  refine s_aload_n rfl (cn rfl) rfl ?_
  refine s_iload_n rfl (cn rfl) rfl ?_
  refine s_baload rfl (cn rfl) _ rfl c1000020 rfl (by omega) (by decide) (WB0_e k hk) ?_
  refine s_sipush rfl (cn rfl) (by decide) ?_
  refine s_iand rfl (cn rfl) _ (bi_and _ 255) ?_
  refine s_i2c rfl (cn rfl) _ (WB0_c k hk) ?_
  refine s_creturn rfl (WB0_n k hk) ?_
  exact ⟨rfl, rfl⟩
theorem u_coder_0 {d N S : Nat} {h : Nat → Option rr_E} (c1000010 : h 1000010 = some (.inr (20, [.ref 1000020, .int (ii 0)]))) (c1000020 : h 1000020 = some (.inl (9, 6, .inl (fun j => (rr_sby.getD 0 []).getD j 0)))) : rr_Calls (d + 1) j_Str_coder [.ref 1000010] (N, S, h) (fun r R => r = some (.int (ii 0)) ∧ R = (N, S, h)) := by
  refine rr_meth (C := K_Str_coder) (hd := h_Str_coder) (mx := 1) rfl rfl (fun K hK => ?_)
  refine hK _ _ _ _ ?_
  refine s_getstatic rfl (cn rfl) rfl ?_
  rw [show (Value.int 1) = Value.int (ii 1) from rfl]
  refine s_if_eq rfl (cn rfl) (cn rfl) (by decide) (fun q1 => absurd q1 (by decide)) (fun q1 => ?_)
  refine s_aload_n rfl (cn rfl) rfl ?_
  refine s_getfield rfl (cn rfl) c1000010 rfl ?_
  refine s_goto rfl (cn rfl) ?_
  refine s_breturn rfl rfl ?_
  exact ⟨rfl, rfl⟩
theorem u_isl_0 {d N S : Nat} {h : Nat → Option rr_E} (c1000010 : h 1000010 = some (.inr (20, [.ref 1000020, .int (ii 0)]))) (c1000020 : h 1000020 = some (.inl (9, 6, .inl (fun j => (rr_sby.getD 0 []).getD j 0)))) : rr_Calls (d + 1) j_Str_isLatin1 [.ref 1000010] (N, S, h) (fun r R => r = some (.int (ii 1)) ∧ R = (N, S, h)) := by
  refine rr_meth (C := K_Str_isLatin1) (hd := h_Str_isLatin1) (mx := 1) rfl rfl (fun K hK => ?_)
  refine hK _ _ _ _ ?_
  refine s_getstatic rfl (cn rfl) rfl ?_
  rw [show (Value.int 1) = Value.int (ii 1) from rfl]
  refine s_if_eq rfl (cn rfl) (cn rfl) (by decide) (fun q1 => absurd q1 (by decide)) (fun q1 => ?_)
  refine s_aload_n rfl (cn rfl) rfl ?_
  refine s_getfield rfl (cn rfl) c1000010 rfl ?_
  refine s_if_ne rfl (cn rfl) (cn rfl) ⟨by omega, by omega⟩ (fun q4 => ?_) (fun q4 => ?_)
  · exact absurd rfl q4
  · refine s_iconst rfl (cn rfl) ?_
    refine s_goto rfl (cn rfl) ?_
    refine s_zreturn rfl (Or.inr rfl) ?_
    exact ⟨rfl, rfl⟩
theorem u_len_0 {d N S : Nat} {h : Nat → Option rr_E} (c1000010 : h 1000010 = some (.inr (20, [.ref 1000020, .int (ii 0)]))) (c1000020 : h 1000020 = some (.inl (9, 6, .inl (fun j => (rr_sby.getD 0 []).getD j 0)))) : rr_Calls (d + 2) j_Str_length [.ref 1000010] (N, S, h) (fun r R => r = some (.int (ii 6)) ∧ R = (N, S, h)) := by
  refine rr_meth (C := K_Str_length) (hd := h_Str_length) (mx := 1) rfl rfl (fun K hK => ?_)
  refine hK _ _ _ _ ?_
  refine s_aload_n rfl (cn rfl) rfl ?_
  refine s_getfield rfl (cn rfl) c1000010 rfl ?_
  refine s_arraylength rfl (cn rfl) c1000020 (by decide) ?_
  refine s_aload_n rfl (cn rfl) rfl ?_
  refine s_virt rfl (cn rfl) rfl rfl c1000010 rfl (u_coder_0 c1000010 c1000020) ?_
  rintro _ _ ⟨rfl, rfl⟩
  refine s_ishr rfl (cn rfl) ?_
  refine s_ireturn rfl ?_
  exact ⟨rfl, rfl⟩
theorem u_char_0 {d N S : Nat} {h : Nat → Option rr_E} (c1000010 : h 1000010 = some (.inr (20, [.ref 1000020, .int (ii 0)]))) (c1000020 : h 1000020 = some (.inl (9, 6, .inl (fun j => (rr_sby.getD 0 []).getD j 0)))) {k : Nat} (hk : k < 6) : rr_Calls (d + 4) j_Str_charAt [.ref 1000010, .int (ii (k : Int))] (N, S, h) (fun r R => r = some (.int (ii ((WB0 k : Nat) : Int))) ∧ R = (N, S, h)) := by
  refine rr_meth (C := K_Str_charAt) (hd := h_Str_charAt) (mx := 2) rfl rfl (fun K hK => ?_)
  refine hK _ _ _ _ ?_
  refine s_aload_n rfl (cn rfl) rfl ?_
  refine s_virt rfl (cn rfl) rfl rfl c1000010 rfl (u_isl_0 c1000010 c1000020) ?_
  rintro _ _ ⟨rfl, rfl⟩
  · refine s_if_eq rfl (cn rfl) (cn rfl) (by decide) (fun q2 => absurd q2 (by decide)) (fun q2 => ?_)
    refine s_aload_n rfl (cn rfl) rfl ?_
    refine s_getfield rfl (cn rfl) c1000010 rfl ?_
    refine s_iload_n rfl (cn rfl) rfl ?_
    refine s_stat rfl (cn rfl) rfl rfl rfl (u_latin_0 c1000010 c1000020 hk) ?_
    rintro _ _ ⟨rfl, rfl⟩
    refine s_creturn rfl (WB0_n k hk) ?_
    exact ⟨rfl, rfl⟩
theorem u_latin_1 {d N S : Nat} {h : Nat → Option rr_E} (c1000011 : h 1000011 = some (.inr (20, [.ref 1000021, .int (ii 0)]))) (c1000021 : h 1000021 = some (.inl (9, 5, .inl (fun j => (rr_sby.getD 1 []).getD j 0)))) {k : Nat} (hk : k < 5) : rr_Calls (d + 3) j_Latin_charAt [.ref 1000021, .int (ii (k : Int))] (N, S, h) (fun r R => r = some (.int (ii ((WB1 k : Nat) : Int))) ∧ R = (N, S, h)) := by
  refine rr_meth (C := K_Latin_charAt) (hd := h_Latin_charAt) (mx := 2) rfl rfl (fun K hK => ?_)
  refine hK _ _ _ _ ?_
  refine s_iload_n rfl (cn rfl) rfl ?_
  refine s_aload_n rfl (cn rfl) rfl ?_
  refine s_arraylength rfl (cn rfl) c1000021 (by decide) ?_
  refine s_stat rfl (cn rfl) rfl rfl rfl (u_sci (by omega) (by omega) (by decide)) ?_
  rintro _ _ ⟨rfl, rfl⟩
  refine s_aload_n rfl (cn rfl) rfl ?_
  refine s_iload_n rfl (cn rfl) rfl ?_
  refine s_baload rfl (cn rfl) _ rfl c1000021 rfl (by omega) (by decide) (WB1_e k hk) ?_
  refine s_sipush rfl (cn rfl) (by decide) ?_
  refine s_iand rfl (cn rfl) _ (bi_and _ 255) ?_
  refine s_i2c rfl (cn rfl) _ (WB1_c k hk) ?_
  refine s_creturn rfl (WB1_n k hk) ?_
  exact ⟨rfl, rfl⟩
theorem u_coder_1 {d N S : Nat} {h : Nat → Option rr_E} (c1000011 : h 1000011 = some (.inr (20, [.ref 1000021, .int (ii 0)]))) (c1000021 : h 1000021 = some (.inl (9, 5, .inl (fun j => (rr_sby.getD 1 []).getD j 0)))) : rr_Calls (d + 1) j_Str_coder [.ref 1000011] (N, S, h) (fun r R => r = some (.int (ii 0)) ∧ R = (N, S, h)) := by
  refine rr_meth (C := K_Str_coder) (hd := h_Str_coder) (mx := 1) rfl rfl (fun K hK => ?_)
  refine hK _ _ _ _ ?_
  refine s_getstatic rfl (cn rfl) rfl ?_
  rw [show (Value.int 1) = Value.int (ii 1) from rfl]
  refine s_if_eq rfl (cn rfl) (cn rfl) (by decide) (fun q1 => absurd q1 (by decide)) (fun q1 => ?_)
  refine s_aload_n rfl (cn rfl) rfl ?_
  refine s_getfield rfl (cn rfl) c1000011 rfl ?_
  refine s_goto rfl (cn rfl) ?_
  refine s_breturn rfl rfl ?_
  exact ⟨rfl, rfl⟩
theorem u_isl_1 {d N S : Nat} {h : Nat → Option rr_E} (c1000011 : h 1000011 = some (.inr (20, [.ref 1000021, .int (ii 0)]))) (c1000021 : h 1000021 = some (.inl (9, 5, .inl (fun j => (rr_sby.getD 1 []).getD j 0)))) : rr_Calls (d + 1) j_Str_isLatin1 [.ref 1000011] (N, S, h) (fun r R => r = some (.int (ii 1)) ∧ R = (N, S, h)) := by
  refine rr_meth (C := K_Str_isLatin1) (hd := h_Str_isLatin1) (mx := 1) rfl rfl (fun K hK => ?_)
  refine hK _ _ _ _ ?_
  refine s_getstatic rfl (cn rfl) rfl ?_
  rw [show (Value.int 1) = Value.int (ii 1) from rfl]
  refine s_if_eq rfl (cn rfl) (cn rfl) (by decide) (fun q1 => absurd q1 (by decide)) (fun q1 => ?_)
  refine s_aload_n rfl (cn rfl) rfl ?_
  refine s_getfield rfl (cn rfl) c1000011 rfl ?_
  refine s_if_ne rfl (cn rfl) (cn rfl) ⟨by omega, by omega⟩ (fun q4 => ?_) (fun q4 => ?_)
  · exact absurd rfl q4
  · refine s_iconst rfl (cn rfl) ?_
    refine s_goto rfl (cn rfl) ?_
    refine s_zreturn rfl (Or.inr rfl) ?_
    exact ⟨rfl, rfl⟩
theorem u_len_1 {d N S : Nat} {h : Nat → Option rr_E} (c1000011 : h 1000011 = some (.inr (20, [.ref 1000021, .int (ii 0)]))) (c1000021 : h 1000021 = some (.inl (9, 5, .inl (fun j => (rr_sby.getD 1 []).getD j 0)))) : rr_Calls (d + 2) j_Str_length [.ref 1000011] (N, S, h) (fun r R => r = some (.int (ii 5)) ∧ R = (N, S, h)) := by
  refine rr_meth (C := K_Str_length) (hd := h_Str_length) (mx := 1) rfl rfl (fun K hK => ?_)
  refine hK _ _ _ _ ?_
  refine s_aload_n rfl (cn rfl) rfl ?_
  refine s_getfield rfl (cn rfl) c1000011 rfl ?_
  refine s_arraylength rfl (cn rfl) c1000021 (by decide) ?_
  refine s_aload_n rfl (cn rfl) rfl ?_
  refine s_virt rfl (cn rfl) rfl rfl c1000011 rfl (u_coder_1 c1000011 c1000021) ?_
  rintro _ _ ⟨rfl, rfl⟩
  refine s_ishr rfl (cn rfl) ?_
  refine s_ireturn rfl ?_
  exact ⟨rfl, rfl⟩
theorem u_char_1 {d N S : Nat} {h : Nat → Option rr_E} (c1000011 : h 1000011 = some (.inr (20, [.ref 1000021, .int (ii 0)]))) (c1000021 : h 1000021 = some (.inl (9, 5, .inl (fun j => (rr_sby.getD 1 []).getD j 0)))) {k : Nat} (hk : k < 5) : rr_Calls (d + 4) j_Str_charAt [.ref 1000011, .int (ii (k : Int))] (N, S, h) (fun r R => r = some (.int (ii ((WB1 k : Nat) : Int))) ∧ R = (N, S, h)) := by
  refine rr_meth (C := K_Str_charAt) (hd := h_Str_charAt) (mx := 2) rfl rfl (fun K hK => ?_)
  refine hK _ _ _ _ ?_
  refine s_aload_n rfl (cn rfl) rfl ?_
  refine s_virt rfl (cn rfl) rfl rfl c1000011 rfl (u_isl_1 c1000011 c1000021) ?_
  rintro _ _ ⟨rfl, rfl⟩
  · refine s_if_eq rfl (cn rfl) (cn rfl) (by decide) (fun q2 => absurd q2 (by decide)) (fun q2 => ?_)
    refine s_aload_n rfl (cn rfl) rfl ?_
    refine s_getfield rfl (cn rfl) c1000011 rfl ?_
    refine s_iload_n rfl (cn rfl) rfl ?_
    refine s_stat rfl (cn rfl) rfl rfl rfl (u_latin_1 c1000011 c1000021 hk) ?_
    rintro _ _ ⟨rfl, rfl⟩
    refine s_creturn rfl (WB1_n k hk) ?_
    exact ⟨rfl, rfl⟩
theorem u_latin_2 {d N S : Nat} {h : Nat → Option rr_E} (c1000012 : h 1000012 = some (.inr (20, [.ref 1000022, .int (ii 0)]))) (c1000022 : h 1000022 = some (.inl (9, 4, .inl (fun j => (rr_sby.getD 2 []).getD j 0)))) {k : Nat} (hk : k < 4) : rr_Calls (d + 3) j_Latin_charAt [.ref 1000022, .int (ii (k : Int))] (N, S, h) (fun r R => r = some (.int (ii ((WB2 k : Nat) : Int))) ∧ R = (N, S, h)) := by
  refine rr_meth (C := K_Latin_charAt) (hd := h_Latin_charAt) (mx := 2) rfl rfl (fun K hK => ?_)
  refine hK _ _ _ _ ?_
  refine s_iload_n rfl (cn rfl) rfl ?_
  refine s_aload_n rfl (cn rfl) rfl ?_
  refine s_arraylength rfl (cn rfl) c1000022 (by decide) ?_
  refine s_stat rfl (cn rfl) rfl rfl rfl (u_sci (by omega) (by omega) (by decide)) ?_
  rintro _ _ ⟨rfl, rfl⟩
  refine s_aload_n rfl (cn rfl) rfl ?_
  refine s_iload_n rfl (cn rfl) rfl ?_
  refine s_baload rfl (cn rfl) _ rfl c1000022 rfl (by omega) (by decide) (WB2_e k hk) ?_
  refine s_sipush rfl (cn rfl) (by decide) ?_
  refine s_iand rfl (cn rfl) _ (bi_and _ 255) ?_
  refine s_i2c rfl (cn rfl) _ (WB2_c k hk) ?_
  refine s_creturn rfl (WB2_n k hk) ?_
  exact ⟨rfl, rfl⟩
theorem u_coder_2 {d N S : Nat} {h : Nat → Option rr_E} (c1000012 : h 1000012 = some (.inr (20, [.ref 1000022, .int (ii 0)]))) (c1000022 : h 1000022 = some (.inl (9, 4, .inl (fun j => (rr_sby.getD 2 []).getD j 0)))) : rr_Calls (d + 1) j_Str_coder [.ref 1000012] (N, S, h) (fun r R => r = some (.int (ii 0)) ∧ R = (N, S, h)) := by
  refine rr_meth (C := K_Str_coder) (hd := h_Str_coder) (mx := 1) rfl rfl (fun K hK => ?_)
  refine hK _ _ _ _ ?_
  refine s_getstatic rfl (cn rfl) rfl ?_
  rw [show (Value.int 1) = Value.int (ii 1) from rfl]
  refine s_if_eq rfl (cn rfl) (cn rfl) (by decide) (fun q1 => absurd q1 (by decide)) (fun q1 => ?_)
  refine s_aload_n rfl (cn rfl) rfl ?_
  refine s_getfield rfl (cn rfl) c1000012 rfl ?_
  refine s_goto rfl (cn rfl) ?_
  refine s_breturn rfl rfl ?_
  exact ⟨rfl, rfl⟩
theorem u_isl_2 {d N S : Nat} {h : Nat → Option rr_E} (c1000012 : h 1000012 = some (.inr (20, [.ref 1000022, .int (ii 0)]))) (c1000022 : h 1000022 = some (.inl (9, 4, .inl (fun j => (rr_sby.getD 2 []).getD j 0)))) : rr_Calls (d + 1) j_Str_isLatin1 [.ref 1000012] (N, S, h) (fun r R => r = some (.int (ii 1)) ∧ R = (N, S, h)) := by
  refine rr_meth (C := K_Str_isLatin1) (hd := h_Str_isLatin1) (mx := 1) rfl rfl (fun K hK => ?_)
  refine hK _ _ _ _ ?_
  refine s_getstatic rfl (cn rfl) rfl ?_
  rw [show (Value.int 1) = Value.int (ii 1) from rfl]
  refine s_if_eq rfl (cn rfl) (cn rfl) (by decide) (fun q1 => absurd q1 (by decide)) (fun q1 => ?_)
  refine s_aload_n rfl (cn rfl) rfl ?_
  refine s_getfield rfl (cn rfl) c1000012 rfl ?_
  refine s_if_ne rfl (cn rfl) (cn rfl) ⟨by omega, by omega⟩ (fun q4 => ?_) (fun q4 => ?_)
  · exact absurd rfl q4
  · refine s_iconst rfl (cn rfl) ?_
    refine s_goto rfl (cn rfl) ?_
    refine s_zreturn rfl (Or.inr rfl) ?_
    exact ⟨rfl, rfl⟩
theorem u_len_2 {d N S : Nat} {h : Nat → Option rr_E} (c1000012 : h 1000012 = some (.inr (20, [.ref 1000022, .int (ii 0)]))) (c1000022 : h 1000022 = some (.inl (9, 4, .inl (fun j => (rr_sby.getD 2 []).getD j 0)))) : rr_Calls (d + 2) j_Str_length [.ref 1000012] (N, S, h) (fun r R => r = some (.int (ii 4)) ∧ R = (N, S, h)) := by
  refine rr_meth (C := K_Str_length) (hd := h_Str_length) (mx := 1) rfl rfl (fun K hK => ?_)
  refine hK _ _ _ _ ?_
  refine s_aload_n rfl (cn rfl) rfl ?_
  refine s_getfield rfl (cn rfl) c1000012 rfl ?_
  refine s_arraylength rfl (cn rfl) c1000022 (by decide) ?_
  refine s_aload_n rfl (cn rfl) rfl ?_
  refine s_virt rfl (cn rfl) rfl rfl c1000012 rfl (u_coder_2 c1000012 c1000022) ?_
  rintro _ _ ⟨rfl, rfl⟩
  refine s_ishr rfl (cn rfl) ?_
  refine s_ireturn rfl ?_
  exact ⟨rfl, rfl⟩
theorem u_char_2 {d N S : Nat} {h : Nat → Option rr_E} (c1000012 : h 1000012 = some (.inr (20, [.ref 1000022, .int (ii 0)]))) (c1000022 : h 1000022 = some (.inl (9, 4, .inl (fun j => (rr_sby.getD 2 []).getD j 0)))) {k : Nat} (hk : k < 4) : rr_Calls (d + 4) j_Str_charAt [.ref 1000012, .int (ii (k : Int))] (N, S, h) (fun r R => r = some (.int (ii ((WB2 k : Nat) : Int))) ∧ R = (N, S, h)) := by
  refine rr_meth (C := K_Str_charAt) (hd := h_Str_charAt) (mx := 2) rfl rfl (fun K hK => ?_)
  refine hK _ _ _ _ ?_
  refine s_aload_n rfl (cn rfl) rfl ?_
  refine s_virt rfl (cn rfl) rfl rfl c1000012 rfl (u_isl_2 c1000012 c1000022) ?_
  rintro _ _ ⟨rfl, rfl⟩
  · refine s_if_eq rfl (cn rfl) (cn rfl) (by decide) (fun q2 => absurd q2 (by decide)) (fun q2 => ?_)
    refine s_aload_n rfl (cn rfl) rfl ?_
    refine s_getfield rfl (cn rfl) c1000012 rfl ?_
    refine s_iload_n rfl (cn rfl) rfl ?_
    refine s_stat rfl (cn rfl) rfl rfl rfl (u_latin_2 c1000012 c1000022 hk) ?_
    rintro _ _ ⟨rfl, rfl⟩
    refine s_creturn rfl (WB2_n k hk) ?_
    exact ⟨rfl, rfl⟩
theorem u_latin_3 {d N S : Nat} {h : Nat → Option rr_E} (c1000013 : h 1000013 = some (.inr (20, [.ref 1000023, .int (ii 0)]))) (c1000023 : h 1000023 = some (.inl (9, 4, .inl (fun j => (rr_sby.getD 3 []).getD j 0)))) {k : Nat} (hk : k < 4) : rr_Calls (d + 3) j_Latin_charAt [.ref 1000023, .int (ii (k : Int))] (N, S, h) (fun r R => r = some (.int (ii ((WB3 k : Nat) : Int))) ∧ R = (N, S, h)) := by
  refine rr_meth (C := K_Latin_charAt) (hd := h_Latin_charAt) (mx := 2) rfl rfl (fun K hK => ?_)
  refine hK _ _ _ _ ?_
  refine s_iload_n rfl (cn rfl) rfl ?_
  refine s_aload_n rfl (cn rfl) rfl ?_
  refine s_arraylength rfl (cn rfl) c1000023 (by decide) ?_
  refine s_stat rfl (cn rfl) rfl rfl rfl (u_sci (by omega) (by omega) (by decide)) ?_
  rintro _ _ ⟨rfl, rfl⟩
  refine s_aload_n rfl (cn rfl) rfl ?_
  refine s_iload_n rfl (cn rfl) rfl ?_
  refine s_baload rfl (cn rfl) _ rfl c1000023 rfl (by omega) (by decide) (WB3_e k hk) ?_
  refine s_sipush rfl (cn rfl) (by decide) ?_
  refine s_iand rfl (cn rfl) _ (bi_and _ 255) ?_
  refine s_i2c rfl (cn rfl) _ (WB3_c k hk) ?_
  refine s_creturn rfl (WB3_n k hk) ?_
  exact ⟨rfl, rfl⟩
theorem u_coder_3 {d N S : Nat} {h : Nat → Option rr_E} (c1000013 : h 1000013 = some (.inr (20, [.ref 1000023, .int (ii 0)]))) (c1000023 : h 1000023 = some (.inl (9, 4, .inl (fun j => (rr_sby.getD 3 []).getD j 0)))) : rr_Calls (d + 1) j_Str_coder [.ref 1000013] (N, S, h) (fun r R => r = some (.int (ii 0)) ∧ R = (N, S, h)) := by
  refine rr_meth (C := K_Str_coder) (hd := h_Str_coder) (mx := 1) rfl rfl (fun K hK => ?_)
  refine hK _ _ _ _ ?_
  refine s_getstatic rfl (cn rfl) rfl ?_
  rw [show (Value.int 1) = Value.int (ii 1) from rfl]
  refine s_if_eq rfl (cn rfl) (cn rfl) (by decide) (fun q1 => absurd q1 (by decide)) (fun q1 => ?_)
  refine s_aload_n rfl (cn rfl) rfl ?_
  refine s_getfield rfl (cn rfl) c1000013 rfl ?_
  refine s_goto rfl (cn rfl) ?_
  refine s_breturn rfl rfl ?_
  exact ⟨rfl, rfl⟩
theorem u_isl_3 {d N S : Nat} {h : Nat → Option rr_E} (c1000013 : h 1000013 = some (.inr (20, [.ref 1000023, .int (ii 0)]))) (c1000023 : h 1000023 = some (.inl (9, 4, .inl (fun j => (rr_sby.getD 3 []).getD j 0)))) : rr_Calls (d + 1) j_Str_isLatin1 [.ref 1000013] (N, S, h) (fun r R => r = some (.int (ii 1)) ∧ R = (N, S, h)) := by
  refine rr_meth (C := K_Str_isLatin1) (hd := h_Str_isLatin1) (mx := 1) rfl rfl (fun K hK => ?_)
  refine hK _ _ _ _ ?_
  refine s_getstatic rfl (cn rfl) rfl ?_
  rw [show (Value.int 1) = Value.int (ii 1) from rfl]
  refine s_if_eq rfl (cn rfl) (cn rfl) (by decide) (fun q1 => absurd q1 (by decide)) (fun q1 => ?_)
  refine s_aload_n rfl (cn rfl) rfl ?_
  refine s_getfield rfl (cn rfl) c1000013 rfl ?_
  refine s_if_ne rfl (cn rfl) (cn rfl) ⟨by omega, by omega⟩ (fun q4 => ?_) (fun q4 => ?_)
  · exact absurd rfl q4
  · refine s_iconst rfl (cn rfl) ?_
    refine s_goto rfl (cn rfl) ?_
    refine s_zreturn rfl (Or.inr rfl) ?_
    exact ⟨rfl, rfl⟩
theorem u_len_3 {d N S : Nat} {h : Nat → Option rr_E} (c1000013 : h 1000013 = some (.inr (20, [.ref 1000023, .int (ii 0)]))) (c1000023 : h 1000023 = some (.inl (9, 4, .inl (fun j => (rr_sby.getD 3 []).getD j 0)))) : rr_Calls (d + 2) j_Str_length [.ref 1000013] (N, S, h) (fun r R => r = some (.int (ii 4)) ∧ R = (N, S, h)) := by
  refine rr_meth (C := K_Str_length) (hd := h_Str_length) (mx := 1) rfl rfl (fun K hK => ?_)
  refine hK _ _ _ _ ?_
  refine s_aload_n rfl (cn rfl) rfl ?_
  refine s_getfield rfl (cn rfl) c1000013 rfl ?_
  refine s_arraylength rfl (cn rfl) c1000023 (by decide) ?_
  refine s_aload_n rfl (cn rfl) rfl ?_
  refine s_virt rfl (cn rfl) rfl rfl c1000013 rfl (u_coder_3 c1000013 c1000023) ?_
  rintro _ _ ⟨rfl, rfl⟩
  refine s_ishr rfl (cn rfl) ?_
  refine s_ireturn rfl ?_
  exact ⟨rfl, rfl⟩
theorem u_char_3 {d N S : Nat} {h : Nat → Option rr_E} (c1000013 : h 1000013 = some (.inr (20, [.ref 1000023, .int (ii 0)]))) (c1000023 : h 1000023 = some (.inl (9, 4, .inl (fun j => (rr_sby.getD 3 []).getD j 0)))) {k : Nat} (hk : k < 4) : rr_Calls (d + 4) j_Str_charAt [.ref 1000013, .int (ii (k : Int))] (N, S, h) (fun r R => r = some (.int (ii ((WB3 k : Nat) : Int))) ∧ R = (N, S, h)) := by
  refine rr_meth (C := K_Str_charAt) (hd := h_Str_charAt) (mx := 2) rfl rfl (fun K hK => ?_)
  refine hK _ _ _ _ ?_
  refine s_aload_n rfl (cn rfl) rfl ?_
  refine s_virt rfl (cn rfl) rfl rfl c1000013 rfl (u_isl_3 c1000013 c1000023) ?_
  rintro _ _ ⟨rfl, rfl⟩
  · refine s_if_eq rfl (cn rfl) (cn rfl) (by decide) (fun q2 => absurd q2 (by decide)) (fun q2 => ?_)
    refine s_aload_n rfl (cn rfl) rfl ?_
    refine s_getfield rfl (cn rfl) c1000013 rfl ?_
    refine s_iload_n rfl (cn rfl) rfl ?_
    refine s_stat rfl (cn rfl) rfl rfl rfl (u_latin_3 c1000013 c1000023 hk) ?_
    rintro _ _ ⟨rfl, rfl⟩
    refine s_creturn rfl (WB3_n k hk) ?_
    exact ⟨rfl, rfl⟩
theorem u_latin_4 {d N S : Nat} {h : Nat → Option rr_E} (c1000014 : h 1000014 = some (.inr (20, [.ref 1000024, .int (ii 0)]))) (c1000024 : h 1000024 = some (.inl (9, 4, .inl (fun j => (rr_sby.getD 4 []).getD j 0)))) {k : Nat} (hk : k < 4) : rr_Calls (d + 3) j_Latin_charAt [.ref 1000024, .int (ii (k : Int))] (N, S, h) (fun r R => r = some (.int (ii ((WB4 k : Nat) : Int))) ∧ R = (N, S, h)) := by
  refine rr_meth (C := K_Latin_charAt) (hd := h_Latin_charAt) (mx := 2) rfl rfl (fun K hK => ?_)
  refine hK _ _ _ _ ?_
  refine s_iload_n rfl (cn rfl) rfl ?_
  refine s_aload_n rfl (cn rfl) rfl ?_
  refine s_arraylength rfl (cn rfl) c1000024 (by decide) ?_
  refine s_stat rfl (cn rfl) rfl rfl rfl (u_sci (by omega) (by omega) (by decide)) ?_
  rintro _ _ ⟨rfl, rfl⟩
  refine s_aload_n rfl (cn rfl) rfl ?_
  refine s_iload_n rfl (cn rfl) rfl ?_
  refine s_baload rfl (cn rfl) _ rfl c1000024 rfl (by omega) (by decide) (WB4_e k hk) ?_
  refine s_sipush rfl (cn rfl) (by decide) ?_
  refine s_iand rfl (cn rfl) _ (bi_and _ 255) ?_
  refine s_i2c rfl (cn rfl) _ (WB4_c k hk) ?_
  refine s_creturn rfl (WB4_n k hk) ?_
  exact ⟨rfl, rfl⟩
theorem u_coder_4 {d N S : Nat} {h : Nat → Option rr_E} (c1000014 : h 1000014 = some (.inr (20, [.ref 1000024, .int (ii 0)]))) (c1000024 : h 1000024 = some (.inl (9, 4, .inl (fun j => (rr_sby.getD 4 []).getD j 0)))) : rr_Calls (d + 1) j_Str_coder [.ref 1000014] (N, S, h) (fun r R => r = some (.int (ii 0)) ∧ R = (N, S, h)) := by
  refine rr_meth (C := K_Str_coder) (hd := h_Str_coder) (mx := 1) rfl rfl (fun K hK => ?_)
  refine hK _ _ _ _ ?_
  refine s_getstatic rfl (cn rfl) rfl ?_
  rw [show (Value.int 1) = Value.int (ii 1) from rfl]
  refine s_if_eq rfl (cn rfl) (cn rfl) (by decide) (fun q1 => absurd q1 (by decide)) (fun q1 => ?_)
  refine s_aload_n rfl (cn rfl) rfl ?_
  refine s_getfield rfl (cn rfl) c1000014 rfl ?_
  refine s_goto rfl (cn rfl) ?_
  refine s_breturn rfl rfl ?_
  exact ⟨rfl, rfl⟩
theorem u_isl_4 {d N S : Nat} {h : Nat → Option rr_E} (c1000014 : h 1000014 = some (.inr (20, [.ref 1000024, .int (ii 0)]))) (c1000024 : h 1000024 = some (.inl (9, 4, .inl (fun j => (rr_sby.getD 4 []).getD j 0)))) : rr_Calls (d + 1) j_Str_isLatin1 [.ref 1000014] (N, S, h) (fun r R => r = some (.int (ii 1)) ∧ R = (N, S, h)) := by
  refine rr_meth (C := K_Str_isLatin1) (hd := h_Str_isLatin1) (mx := 1) rfl rfl (fun K hK => ?_)
  refine hK _ _ _ _ ?_
  refine s_getstatic rfl (cn rfl) rfl ?_
  rw [show (Value.int 1) = Value.int (ii 1) from rfl]
  refine s_if_eq rfl (cn rfl) (cn rfl) (by decide) (fun q1 => absurd q1 (by decide)) (fun q1 => ?_)
  refine s_aload_n rfl (cn rfl) rfl ?_
  refine s_getfield rfl (cn rfl) c1000014 rfl ?_
  refine s_if_ne rfl (cn rfl) (cn rfl) ⟨by omega, by omega⟩ (fun q4 => ?_) (fun q4 => ?_)
  · exact absurd rfl q4
  · refine s_iconst rfl (cn rfl) ?_
    refine s_goto rfl (cn rfl) ?_
    refine s_zreturn rfl (Or.inr rfl) ?_
    exact ⟨rfl, rfl⟩
theorem u_len_4 {d N S : Nat} {h : Nat → Option rr_E} (c1000014 : h 1000014 = some (.inr (20, [.ref 1000024, .int (ii 0)]))) (c1000024 : h 1000024 = some (.inl (9, 4, .inl (fun j => (rr_sby.getD 4 []).getD j 0)))) : rr_Calls (d + 2) j_Str_length [.ref 1000014] (N, S, h) (fun r R => r = some (.int (ii 4)) ∧ R = (N, S, h)) := by
  refine rr_meth (C := K_Str_length) (hd := h_Str_length) (mx := 1) rfl rfl (fun K hK => ?_)
  refine hK _ _ _ _ ?_
  refine s_aload_n rfl (cn rfl) rfl ?_
  refine s_getfield rfl (cn rfl) c1000014 rfl ?_
  refine s_arraylength rfl (cn rfl) c1000024 (by decide) ?_
  refine s_aload_n rfl (cn rfl) rfl ?_
  refine s_virt rfl (cn rfl) rfl rfl c1000014 rfl (u_coder_4 c1000014 c1000024) ?_
  rintro _ _ ⟨rfl, rfl⟩
  refine s_ishr rfl (cn rfl) ?_
  refine s_ireturn rfl ?_
  exact ⟨rfl, rfl⟩
theorem u_char_4 {d N S : Nat} {h : Nat → Option rr_E} (c1000014 : h 1000014 = some (.inr (20, [.ref 1000024, .int (ii 0)]))) (c1000024 : h 1000024 = some (.inl (9, 4, .inl (fun j => (rr_sby.getD 4 []).getD j 0)))) {k : Nat} (hk : k < 4) : rr_Calls (d + 4) j_Str_charAt [.ref 1000014, .int (ii (k : Int))] (N, S, h) (fun r R => r = some (.int (ii ((WB4 k : Nat) : Int))) ∧ R = (N, S, h)) := by
  refine rr_meth (C := K_Str_charAt) (hd := h_Str_charAt) (mx := 2) rfl rfl (fun K hK => ?_)
  refine hK _ _ _ _ ?_
  refine s_aload_n rfl (cn rfl) rfl ?_
  refine s_virt rfl (cn rfl) rfl rfl c1000014 rfl (u_isl_4 c1000014 c1000024) ?_
  rintro _ _ ⟨rfl, rfl⟩
  · refine s_if_eq rfl (cn rfl) (cn rfl) (by decide) (fun q2 => absurd q2 (by decide)) (fun q2 => ?_)
    refine s_aload_n rfl (cn rfl) rfl ?_
    refine s_getfield rfl (cn rfl) c1000014 rfl ?_
    refine s_iload_n rfl (cn rfl) rfl ?_
    refine s_stat rfl (cn rfl) rfl rfl rfl (u_latin_4 c1000014 c1000024 hk) ?_
    rintro _ _ ⟨rfl, rfl⟩
    refine s_creturn rfl (WB4_n k hk) ?_
    exact ⟨rfl, rfl⟩
theorem u_latin_5 {d N S : Nat} {h : Nat → Option rr_E} (c1000015 : h 1000015 = some (.inr (20, [.ref 1000025, .int (ii 0)]))) (c1000025 : h 1000025 = some (.inl (9, 4, .inl (fun j => (rr_sby.getD 5 []).getD j 0)))) {k : Nat} (hk : k < 4) : rr_Calls (d + 3) j_Latin_charAt [.ref 1000025, .int (ii (k : Int))] (N, S, h) (fun r R => r = some (.int (ii ((WB5 k : Nat) : Int))) ∧ R = (N, S, h)) := by
  refine rr_meth (C := K_Latin_charAt) (hd := h_Latin_charAt) (mx := 2) rfl rfl (fun K hK => ?_)
  refine hK _ _ _ _ ?_
  refine s_iload_n rfl (cn rfl) rfl ?_
  refine s_aload_n rfl (cn rfl) rfl ?_
  refine s_arraylength rfl (cn rfl) c1000025 (by decide) ?_
  refine s_stat rfl (cn rfl) rfl rfl rfl (u_sci (by omega) (by omega) (by decide)) ?_
  rintro _ _ ⟨rfl, rfl⟩
  refine s_aload_n rfl (cn rfl) rfl ?_
  refine s_iload_n rfl (cn rfl) rfl ?_
  refine s_baload rfl (cn rfl) _ rfl c1000025 rfl (by omega) (by decide) (WB5_e k hk) ?_
  refine s_sipush rfl (cn rfl) (by decide) ?_
  refine s_iand rfl (cn rfl) _ (bi_and _ 255) ?_
  refine s_i2c rfl (cn rfl) _ (WB5_c k hk) ?_
  refine s_creturn rfl (WB5_n k hk) ?_
  exact ⟨rfl, rfl⟩
theorem u_coder_5 {d N S : Nat} {h : Nat → Option rr_E} (c1000015 : h 1000015 = some (.inr (20, [.ref 1000025, .int (ii 0)]))) (c1000025 : h 1000025 = some (.inl (9, 4, .inl (fun j => (rr_sby.getD 5 []).getD j 0)))) : rr_Calls (d + 1) j_Str_coder [.ref 1000015] (N, S, h) (fun r R => r = some (.int (ii 0)) ∧ R = (N, S, h)) := by
  refine rr_meth (C := K_Str_coder) (hd := h_Str_coder) (mx := 1) rfl rfl (fun K hK => ?_)
  refine hK _ _ _ _ ?_
  refine s_getstatic rfl (cn rfl) rfl ?_
  rw [show (Value.int 1) = Value.int (ii 1) from rfl]
  refine s_if_eq rfl (cn rfl) (cn rfl) (by decide) (fun q1 => absurd q1 (by decide)) (fun q1 => ?_)
  refine s_aload_n rfl (cn rfl) rfl ?_
  refine s_getfield rfl (cn rfl) c1000015 rfl ?_
  refine s_goto rfl (cn rfl) ?_
  refine s_breturn rfl rfl ?_
  exact ⟨rfl, rfl⟩
theorem u_isl_5 {d N S : Nat} {h : Nat → Option rr_E} (c1000015 : h 1000015 = some (.inr (20, [.ref 1000025, .int (ii 0)]))) (c1000025 : h 1000025 = some (.inl (9, 4, .inl (fun j => (rr_sby.getD 5 []).getD j 0)))) : rr_Calls (d + 1) j_Str_isLatin1 [.ref 1000015] (N, S, h) (fun r R => r = some (.int (ii 1)) ∧ R = (N, S, h)) := by
  refine rr_meth (C := K_Str_isLatin1) (hd := h_Str_isLatin1) (mx := 1) rfl rfl (fun K hK => ?_)
  refine hK _ _ _ _ ?_
  refine s_getstatic rfl (cn rfl) rfl ?_
  rw [show (Value.int 1) = Value.int (ii 1) from rfl]
  refine s_if_eq rfl (cn rfl) (cn rfl) (by decide) (fun q1 => absurd q1 (by decide)) (fun q1 => ?_)
  refine s_aload_n rfl (cn rfl) rfl ?_
  refine s_getfield rfl (cn rfl) c1000015 rfl ?_
  refine s_if_ne rfl (cn rfl) (cn rfl) ⟨by omega, by omega⟩ (fun q4 => ?_) (fun q4 => ?_)
  · exact absurd rfl q4
  · refine s_iconst rfl (cn rfl) ?_
    refine s_goto rfl (cn rfl) ?_
    refine s_zreturn rfl (Or.inr rfl) ?_
    exact ⟨rfl, rfl⟩
theorem u_len_5 {d N S : Nat} {h : Nat → Option rr_E} (c1000015 : h 1000015 = some (.inr (20, [.ref 1000025, .int (ii 0)]))) (c1000025 : h 1000025 = some (.inl (9, 4, .inl (fun j => (rr_sby.getD 5 []).getD j 0)))) : rr_Calls (d + 2) j_Str_length [.ref 1000015] (N, S, h) (fun r R => r = some (.int (ii 4)) ∧ R = (N, S, h)) := by
  refine rr_meth (C := K_Str_length) (hd := h_Str_length) (mx := 1) rfl rfl (fun K hK => ?_)
  refine hK _ _ _ _ ?_
  refine s_aload_n rfl (cn rfl) rfl ?_
  refine s_getfield rfl (cn rfl) c1000015 rfl ?_
  refine s_arraylength rfl (cn rfl) c1000025 (by decide) ?_
  refine s_aload_n rfl (cn rfl) rfl ?_
  refine s_virt rfl (cn rfl) rfl rfl c1000015 rfl (u_coder_5 c1000015 c1000025) ?_
  rintro _ _ ⟨rfl, rfl⟩
  refine s_ishr rfl (cn rfl) ?_
  refine s_ireturn rfl ?_
  exact ⟨rfl, rfl⟩
theorem u_char_5 {d N S : Nat} {h : Nat → Option rr_E} (c1000015 : h 1000015 = some (.inr (20, [.ref 1000025, .int (ii 0)]))) (c1000025 : h 1000025 = some (.inl (9, 4, .inl (fun j => (rr_sby.getD 5 []).getD j 0)))) {k : Nat} (hk : k < 4) : rr_Calls (d + 4) j_Str_charAt [.ref 1000015, .int (ii (k : Int))] (N, S, h) (fun r R => r = some (.int (ii ((WB5 k : Nat) : Int))) ∧ R = (N, S, h)) := by
  refine rr_meth (C := K_Str_charAt) (hd := h_Str_charAt) (mx := 2) rfl rfl (fun K hK => ?_)
  refine hK _ _ _ _ ?_
  refine s_aload_n rfl (cn rfl) rfl ?_
  refine s_virt rfl (cn rfl) rfl rfl c1000015 rfl (u_isl_5 c1000015 c1000025) ?_
  rintro _ _ ⟨rfl, rfl⟩
  · refine s_if_eq rfl (cn rfl) (cn rfl) (by decide) (fun q2 => absurd q2 (by decide)) (fun q2 => ?_)
    refine s_aload_n rfl (cn rfl) rfl ?_
    refine s_getfield rfl (cn rfl) c1000015 rfl ?_
    refine s_iload_n rfl (cn rfl) rfl ?_
    refine s_stat rfl (cn rfl) rfl rfl rfl (u_latin_5 c1000015 c1000025 hk) ?_
    rintro _ _ ⟨rfl, rfl⟩
    refine s_creturn rfl (WB5_n k hk) ?_
    exact ⟨rfl, rfl⟩
