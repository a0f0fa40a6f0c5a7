/-! Kinds of worth. -/
noncomputable abbrev rc (p : Prop) : Int32 := @rb p (Classical.propDecidable p)
/-- the first of a .. b - 1 with P, or no -/
def isF (a b : Nat) (P : Nat → Prop) (no : Int) (r : Int) : Prop := (∃ g : Nat, a ≤ g ∧ g < b ∧ P g ∧ (∀ k, a ≤ k → k < g → ¬ P k) ∧ r = g) ∨ ((∀ k, a ≤ k → k < b → ¬ P k) ∧ r = no)
theorem isF_u {a b : Nat} {P : Nat → Prop} {no r r' : Int} (h : isF a b P no r) (h' : isF a b P no r') : r = r' := by
  rcases h with ⟨g, h1, h2, h3, h4, h5⟩ | ⟨h1, h2⟩ <;> rcases h' with ⟨g', q1, q2, q3, q4, q5⟩ | ⟨q1, q2⟩
  · have : g = g' := by
      rcases Nat.lt_trichotomy g g' with e | e | e
      · exact absurd h3 (q4 g h1 e)
      · exact e
      · exact absurd q3 (h4 g' q1 e)
    rw [h5, q5, this]
  · exact absurd h3 (q1 g h1 h2)
  · exact absurd q3 (h1 g' q1 q2)
  · rw [h2, q2]
theorem isF_e (a : Nat) (P : Nat → Prop) (no : Int) : ∀ b, ∃ r, isF a b P no r := by
  intro b
  induction b with
  | zero => exact ⟨no, Or.inr ⟨fun k _ hk => absurd hk (Nat.not_lt_zero k), rfl⟩⟩
  | succ b ih =>
    obtain ⟨r, h⟩ := ih
    rcases h with ⟨g, h1, h2, h3, h4, h5⟩ | ⟨h1, h2⟩
    · exact ⟨r, Or.inl ⟨g, h1, by omega, h3, h4, h5⟩⟩
    · by_cases hp : a ≤ b ∧ P b
      · exact ⟨b, Or.inl ⟨b, hp.1, by omega, hp.2, fun k q1 q2 => h1 k q1 q2, rfl⟩⟩
      · refine ⟨no, Or.inr ⟨fun k q1 q2 q3 => ?_, rfl⟩⟩
        by_cases hk : k = b
        · subst hk; exact hp ⟨q1, q3⟩
        · exact h1 k q1 (by omega) q3
noncomputable def ff (a b : Nat) (P : Nat → Prop) (no : Int) : Int := Classical.choose (isF_e a P no b)
theorem ff_y {a b g : Nat} {P : Nat → Prop} {no : Int} (h1 : a ≤ g) (h2 : g < b) (h3 : P g) (h4 : ∀ k, a ≤ k → k < g → ¬ P k) : (g : Int) = ff a b P no := isF_u (Or.inl ⟨g, h1, h2, h3, h4, rfl⟩) (Classical.choose_spec (isF_e a P no b))
theorem ff_n {a b : Nat} {P : Nat → Prop} {no : Int} (h : ∀ k, a ≤ k → k < b → ¬ P k) : no = ff a b P no := isF_u (Or.inr ⟨h, rfl⟩) (Classical.choose_spec (isF_e a P no b))
theorem ff_b (a b : Nat) (P : Nat → Prop) (no : Int) : (ff a b P no = no) ∨ ((a : Int) ≤ ff a b P no ∧ ff a b P no < b) := by
  rcases Classical.choose_spec (isF_e a P no b) with ⟨g, h1, h2, h3, h4, h5⟩ | ⟨h1, h2⟩
  · right
    show (a : Int) ≤ Classical.choose (isF_e a P no b) ∧ Classical.choose (isF_e a P no b) < b
    rw [h5]; omega
  · exact Or.inl h2
/-- the set of those below m with P, as bits -/
noncomputable def os (P : Nat → Prop) : Nat → Nat
  | 0 => 0
  | m + 1 => @ite _ (P m) (Classical.propDecidable _) (os P m ||| 2 ^ m) (os P m)
theorem os_y {P : Nat → Prop} {m : Nat} (h : P m) : os P (m + 1) = os P m ||| 2 ^ m := if_pos h
theorem os_n {P : Nat → Prop} {m : Nat} (h : ¬ P m) : os P (m + 1) = os P m := if_neg h
theorem os_lt (P : Nat → Prop) : ∀ m, os P m < 2 ^ m
  | 0 => Nat.one_pos
  | m + 1 => by
    have h1 := os_lt P m
    have h2 : 2 ^ (m + 1) = 2 ^ m + 2 ^ m := by rw [Nat.pow_succ]; omega
    by_cases h : P m
    · rw [os_y h]
      exact Nat.or_lt_two_pow (by omega) (by omega)
    · rw [os_n h]; omega
theorem and_p {g p : Nat} : g &&& 2 ^ p = 0 ↔ g.testBit p = false := by
  constructor
  · intro h
    have h1 : (g &&& 2 ^ p).testBit p = false := by rw [h]; exact Nat.zero_testBit p
    rw [Nat.testBit_and, Nat.testBit_two_pow] at h1
    simpa using h1
  · intro h
    apply Nat.eq_of_testBit_eq
    intro i
    rw [Nat.testBit_and, Nat.testBit_two_pow, Nat.zero_testBit]
    by_cases e : p = i
    · subst e; rw [h]; rfl
    · rw [decide_eq_false e, Bool.and_false]
theorem and_pq {g p q : Nat} : g &&& (2 ^ p ||| 2 ^ q) = 0 ↔ g.testBit p = false ∧ g.testBit q = false := by
  rw [Nat.and_or_distrib_left]
  rw [Nat.or_eq_zero_iff, and_p, and_p]
theorem or_16 {a b : Nat} (ha : a < 16) (hb : b < 16) : a ||| b < 16 := Nat.or_lt_two_pow (n := 4) ha hb
theorem and_16 {a b : Nat} (ha : a < 16) : a &&& b < 16 := Nat.lt_of_le_of_lt Nat.and_le_left ha
theorem bf {g p : Nat} : ¬ st_bt g p = 1 ↔ g.testBit p = false := by
  rw [bt_1]; cases g.testBit p <;> simp
/-- two groups speak against a kind of worth -/
def SA (v : Nat → Int) (w : Int) (s t : Nat) : Prop := (w = 0 → v (s ||| t) + v (s &&& t) < v s + v t) ∧ (w = 1 → s &&& t = 0 ∧ v (s ||| t) < v s + v t) ∧ (w ≠ 0 → w ≠ 1 → s &&& t = s ∧ v t < v s)
/-- who adds nothing but his own -/
def AN (n : Nat) (v : Nat → Int) (p : Nat) : Prop := ∀ g, g ≤ al n → g.testBit p = false → v (g ||| 2 ^ p) - v g = v (2 ^ p)
def AL (n : Nat) (v : Nat → Int) (p q : Nat) : Prop := ∀ g, g ≤ al n → g.testBit p = false → g.testBit q = false → v (g ||| 2 ^ p) = v (g ||| 2 ^ q)
noncomputable def sp_against (n : Nat) (v : Nat → Int) (w : Int) : Int := ff 1 (al n + 1) (fun s => ∃ t, s < t ∧ t ≤ al n ∧ SA v w s t) (-5)
theorem sp_against_b {n : Nat} (v : Nat → Int) (w : Int) : sp_against n v w = -5 ∨ (1 ≤ sp_against n v w ∧ sp_against n v w < (al n : Int) + 1) := by
  rcases ff_b 1 (al n + 1) (fun s => ∃ t, s < t ∧ t ≤ al n ∧ SA v w s t) (-5) with h | h
  · exact Or.inl h
  · right; unfold sp_against; omega
abbrev DO (sl im : Int) : rr_E := .inr (6, [.ref 1, .ref 3, .ref 5, .ref 7, .ref 13, .ref 28, .ref 43, .ref 46, .ref 49, .ref 51, .int (ii sl), .int (ii im)])
theorem u_shows {d N S : Nat} {v : Nat → Int} {h : Nat → Option rr_E} (c2 : h 2 = some (.inl (0, 16, .inl (fun k => ii (v k))))) (hv : ∀ k, -999 ≤ v k ∧ v k ≤ 999) {w : Int} (hw : b3 w) {s t : Nat} (hs : s < 16) (ht : t < 16) : rr_Calls (d + 1) j_Kinds_showsAgainst [.ref 2, .int (ii w), .int (ii (s : Int)), .int (ii (t : Int))] (N, S, h) (fun r R => r = some (.int (rc (SA v w s t))) ∧ R = (N, S, h)) := by
  refine rr_meth (C := K_Kinds_showsAgainst) (hd := h_Kinds_showsAgainst) (mx := 4) rfl rfl (fun K hK => ?_)
  have hv0 := hv (s ||| t)
  have hv1 := hv (s &&& t)
  have hv2 := hv s
  have hv3 := hv t
  have l1 := or_16 hs ht
  have l2 := and_16 (b := t) hs
  have l3 := Nat.and_le_left (n := s) (m := t)
  refine hK _ _ _ _ ?_
  refine s_iload_n rfl (cn rfl) rfl ?_
  refine s_lsw rfl rfl ⟨by omega, by omega⟩ ?_
  refine And.intro (fun e1 => (cn rfl) _ _ _ ?_) (fun n1_0 => ?_)
  · refine s_aload_n rfl (cn rfl) rfl ?_
    refine s_iload_n rfl (cn rfl) rfl ?_
    refine s_iload_n rfl (cn rfl) rfl ?_
    refine s_ior rfl (cn rfl) _ (bi_or _ _) ?_
    refine s_iaload rfl (cn rfl) _ rfl c2 rfl (by omega) (by decide) rfl ?_
    refine s_aload_n rfl (cn rfl) rfl ?_
    refine s_iload_n rfl (cn rfl) rfl ?_
    refine s_iload_n rfl (cn rfl) rfl ?_
    refine s_iand rfl (cn rfl) _ (bi_and _ _) ?_
    refine s_iaload rfl (cn rfl) _ rfl c2 rfl (by omega) (by decide) rfl ?_
    refine s_iadd rfl (cn rfl) ?_
    refine s_aload_n rfl (cn rfl) rfl ?_
    refine s_iload_n rfl (cn rfl) rfl ?_
    refine s_iaload rfl (cn rfl) _ rfl c2 rfl (by omega) (by decide) rfl ?_
    refine s_aload_n rfl (cn rfl) rfl ?_
    refine s_iload_n rfl (cn rfl) rfl ?_
    refine s_iaload rfl (cn rfl) _ rfl c2 rfl (by omega) (by decide) rfl ?_
    refine s_iadd rfl (cn rfl) ?_
    refine s_icmp_ge rfl (cn rfl) (cn rfl) ⟨by omega, by omega⟩ ⟨by omega, by omega⟩ (fun q20 => ?_) (fun q20 => ?_)
    · refine s_iconst rfl (cn rfl) ?_
      refine s_zreturn rfl (Or.inl rfl) ?_
      refine ⟨rz_f (fun hp => ?_), rfl⟩
      unfold SA at hp
      obtain ⟨p1, p2, p3⟩ := hp
      first
        | (have := p1 (by omega); omega)
        | (have := p2 (by omega); omega)
        | (have := p3 (by omega) (by omega); omega)
    · refine s_iconst rfl (cn rfl) ?_
      refine s_goto rfl (cn rfl) ?_
      refine s_zreturn rfl (Or.inr rfl) ?_
      refine ⟨rz_t ?_, rfl⟩
      unfold SA
      refine ⟨fun e => ?_, fun e => ?_, fun e e' => ?_⟩ <;> first | omega | (exact absurd e (by omega)) | (exact ⟨by omega, by omega⟩)
  refine And.intro (fun e1 => (cn rfl) _ _ _ ?_) (fun n1_1 => ?_)
  · refine s_iload_n rfl (cn rfl) rfl ?_
    refine s_iload_n rfl (cn rfl) rfl ?_
    refine s_iand rfl (cn rfl) _ (bi_and _ _) ?_
    refine s_if_ne rfl (cn rfl) (cn rfl) ⟨by omega, by omega⟩ (fun q28 => ?_) (fun q28 => ?_)
    · refine s_iconst rfl (cn rfl) ?_
      refine s_zreturn rfl (Or.inl rfl) ?_
      refine ⟨rz_f (fun hp => ?_), rfl⟩
      unfold SA at hp
      obtain ⟨p1, p2, p3⟩ := hp
      first
        | (have := p1 (by omega); omega)
        | (have := p2 (by omega); omega)
        | (have := p3 (by omega) (by omega); omega)
    · refine s_aload_n rfl (cn rfl) rfl ?_
      refine s_iload_n rfl (cn rfl) rfl ?_
      refine s_iload_n rfl (cn rfl) rfl ?_
      refine s_ior rfl (cn rfl) _ (bi_or _ _) ?_
      refine s_iaload rfl (cn rfl) _ rfl c2 rfl (by omega) (by decide) rfl ?_
      refine s_aload_n rfl (cn rfl) rfl ?_
      refine s_iload_n rfl (cn rfl) rfl ?_
      refine s_iaload rfl (cn rfl) _ rfl c2 rfl (by omega) (by decide) rfl ?_
      refine s_aload_n rfl (cn rfl) rfl ?_
      refine s_iload_n rfl (cn rfl) rfl ?_
      refine s_iaload rfl (cn rfl) _ rfl c2 rfl (by omega) (by decide) rfl ?_
      refine s_iadd rfl (cn rfl) ?_
      refine s_icmp_ge rfl (cn rfl) (cn rfl) ⟨by omega, by omega⟩ ⟨by omega, by omega⟩ (fun q41 => ?_) (fun q41 => ?_)
      · refine s_iconst rfl (cn rfl) ?_
        refine s_zreturn rfl (Or.inl rfl) ?_
        refine ⟨rz_f (fun hp => ?_), rfl⟩
        unfold SA at hp
        obtain ⟨p1, p2, p3⟩ := hp
        first
          | (have := p1 (by omega); omega)
          | (have := p2 (by omega); omega)
          | (have := p3 (by omega) (by omega); omega)
      · refine s_iconst rfl (cn rfl) ?_
        refine s_goto rfl (cn rfl) ?_
        refine s_zreturn rfl (Or.inr rfl) ?_
        refine ⟨rz_t ?_, rfl⟩
        unfold SA
        refine ⟨fun e => ?_, fun e => ?_, fun e e' => ?_⟩ <;> first | omega | (exact absurd e (by omega)) | (exact ⟨by omega, by omega⟩)
  refine (cn rfl) _ _ _ ?_
  refine s_iload_n rfl (cn rfl) rfl ?_
  refine s_iload_n rfl (cn rfl) rfl ?_
  refine s_iand rfl (cn rfl) _ (bi_and _ _) ?_
  refine s_iload_n rfl (cn rfl) rfl ?_
  refine s_icmp_ne rfl (cn rfl) (cn rfl) ⟨by omega, by omega⟩ ⟨by omega, by omega⟩ (fun q50 => ?_) (fun q50 => ?_)
  · refine s_iconst rfl (cn rfl) ?_
    refine s_zreturn rfl (Or.inl rfl) ?_
    refine ⟨rz_f (fun hp => ?_), rfl⟩
    unfold SA at hp
    obtain ⟨p1, p2, p3⟩ := hp
    first
      | (have := p1 (by omega); omega)
      | (have := p2 (by omega); omega)
      | (have := p3 (by omega) (by omega); omega)
  · refine s_aload_n rfl (cn rfl) rfl ?_
    refine s_iload_n rfl (cn rfl) rfl ?_
    refine s_iaload rfl (cn rfl) _ rfl c2 rfl (by omega) (by decide) rfl ?_
    refine s_aload_n rfl (cn rfl) rfl ?_
    refine s_iload_n rfl (cn rfl) rfl ?_
    refine s_iaload rfl (cn rfl) _ rfl c2 rfl (by omega) (by decide) rfl ?_
    refine s_icmp_ge rfl (cn rfl) (cn rfl) ⟨by omega, by omega⟩ ⟨by omega, by omega⟩ (fun q57 => ?_) (fun q57 => ?_)
    · refine s_iconst rfl (cn rfl) ?_
      refine s_zreturn rfl (Or.inl rfl) ?_
      refine ⟨rz_f (fun hp => ?_), rfl⟩
      unfold SA at hp
      obtain ⟨p1, p2, p3⟩ := hp
      first
        | (have := p1 (by omega); omega)
        | (have := p2 (by omega); omega)
        | (have := p3 (by omega) (by omega); omega)
    · refine s_iconst rfl (cn rfl) ?_
      refine s_goto rfl (cn rfl) ?_
      refine s_zreturn rfl (Or.inr rfl) ?_
      refine ⟨rz_t ?_, rfl⟩
      unfold SA
      refine ⟨fun e => ?_, fun e => ?_, fun e e' => ?_⟩ <;> first | omega | (exact absurd e (by omega)) | (exact ⟨by omega, by omega⟩)
theorem m_isAgainst {d N S n : Nat} {kp tp pt wr fa dm ce di be od sm le sc ba bb ti rk ts tm pa wa : Int} {h : Nat → Option rr_E}  {v : Nat → Int} (c58 : h 58 = some (MO (n : Int) kp tp pt wr fa dm ce di be od sm le sc ba bb ti rk ts tm pa wa)) (c59 : h 59 = some (.inl (0, 16, .inl (fun k => ii (v k))))) (hv : ∀ k, -999 ≤ v k ∧ v k ≤ 999) {w : Int} (hw : b3 w) {s t : Nat} (hs : s < 16) (ht : t < 16) : rr_Calls (d + 1) j_Model_isAgainst [.ref 58, .int (ii (s : Int)), .int (ii (t : Int)), .int (ii w)] (N, S, h) (fun r R => r = some (.int (rc (SA v w s t))) ∧ R = (N, S, h)) := by
  refine rr_meth (C := K_Model_isAgainst) (hd := h_Model_isAgainst) (mx := 4) rfl rfl (fun K hK => ?_)
  have hv0 := hv (s ||| t)
  have hv1 := hv (s &&& t)
  have hv2 := hv s
  have hv3 := hv t
  have l1 := or_16 hs ht
  have l2 := and_16 (b := t) hs
  have l3 := Nat.and_le_left (n := s) (m := t)
  refine hK _ _ _ _ ?_
  refine s_iload_n rfl (cn rfl) rfl ?_
  refine s_if_ne rfl (cn rfl) (cn rfl) ⟨by omega, by omega⟩ (fun q1 => ?_) (fun q1 => ?_)
  · refine s_iload_n rfl (cn rfl) rfl ?_
    refine s_iconst rfl (cn rfl) ?_
    refine s_icmp_ne rfl (cn rfl) (cn rfl) ⟨by omega, by omega⟩ ⟨by omega, by omega⟩ (fun q31 => ?_) (fun q31 => ?_)
    · refine s_iload_n rfl (cn rfl) rfl ?_
      refine s_iload_n rfl (cn rfl) rfl ?_
      refine s_iand rfl (cn rfl) _ (bi_and _ _) ?_
      refine s_iload_n rfl (cn rfl) rfl ?_
      refine s_icmp_ne rfl (cn rfl) (cn rfl) ⟨by omega, by omega⟩ ⟨by omega, by omega⟩ (fun q60 => ?_) (fun q60 => ?_)
      · refine s_iconst rfl (cn rfl) ?_
        refine s_zreturn rfl (Or.inl rfl) ?_
        refine ⟨rz_f (fun hp => ?_), rfl⟩
        unfold SA at hp
        obtain ⟨p1, p2, p3⟩ := hp
        first
          | (have := p1 (by omega); omega)
          | (have := p2 (by omega); omega)
          | (have := p3 (by omega) (by omega); omega)
      · refine s_aload_n rfl (cn rfl) rfl ?_
        refine s_getfield rfl (cn rfl) c58 rfl ?_
        refine s_iload_n rfl (cn rfl) rfl ?_
        refine s_iaload rfl (cn rfl) _ rfl c59 rfl (by omega) (by decide) rfl ?_
        refine s_aload_n rfl (cn rfl) rfl ?_
        refine s_getfield rfl (cn rfl) c58 rfl ?_
        refine s_iload_n rfl (cn rfl) rfl ?_
        refine s_iaload rfl (cn rfl) _ rfl c59 rfl (by omega) (by decide) rfl ?_
        refine s_icmp_ge rfl (cn rfl) (cn rfl) ⟨by omega, by omega⟩ ⟨by omega, by omega⟩ (fun q69 => ?_) (fun q69 => ?_)
        · refine s_iconst rfl (cn rfl) ?_
          refine s_zreturn rfl (Or.inl rfl) ?_
          refine ⟨rz_f (fun hp => ?_), rfl⟩
          unfold SA at hp
          obtain ⟨p1, p2, p3⟩ := hp
          first
            | (have := p1 (by omega); omega)
            | (have := p2 (by omega); omega)
            | (have := p3 (by omega) (by omega); omega)
        · refine s_iconst rfl (cn rfl) ?_
          refine s_goto rfl (cn rfl) ?_
          refine s_zreturn rfl (Or.inr rfl) ?_
          refine ⟨rz_t ?_, rfl⟩
          unfold SA
          refine ⟨fun e => ?_, fun e => ?_, fun e e' => ?_⟩ <;> first | omega | (exact absurd e (by omega)) | (exact ⟨by omega, by omega⟩)
    · refine s_iload_n rfl (cn rfl) rfl ?_
      refine s_iload_n rfl (cn rfl) rfl ?_
      refine s_iand rfl (cn rfl) _ (bi_and _ _) ?_
      refine s_if_ne rfl (cn rfl) (cn rfl) ⟨by omega, by omega⟩ (fun q35 => ?_) (fun q35 => ?_)
      · refine s_iconst rfl (cn rfl) ?_
        refine s_zreturn rfl (Or.inl rfl) ?_
        refine ⟨rz_f (fun hp => ?_), rfl⟩
        unfold SA at hp
        obtain ⟨p1, p2, p3⟩ := hp
        first
          | (have := p1 (by omega); omega)
          | (have := p2 (by omega); omega)
          | (have := p3 (by omega) (by omega); omega)
      · refine s_aload_n rfl (cn rfl) rfl ?_
        refine s_getfield rfl (cn rfl) c58 rfl ?_
        refine s_iload_n rfl (cn rfl) rfl ?_
        refine s_iload_n rfl (cn rfl) rfl ?_
        refine s_ior rfl (cn rfl) _ (bi_or _ _) ?_
        refine s_iaload rfl (cn rfl) _ rfl c59 rfl (by omega) (by decide) rfl ?_
        refine s_aload_n rfl (cn rfl) rfl ?_
        refine s_getfield rfl (cn rfl) c58 rfl ?_
        refine s_iload_n rfl (cn rfl) rfl ?_
        refine s_iaload rfl (cn rfl) _ rfl c59 rfl (by omega) (by decide) rfl ?_
        refine s_aload_n rfl (cn rfl) rfl ?_
        refine s_getfield rfl (cn rfl) c58 rfl ?_
        refine s_iload_n rfl (cn rfl) rfl ?_
        refine s_iaload rfl (cn rfl) _ rfl c59 rfl (by omega) (by decide) rfl ?_
        refine s_iadd rfl (cn rfl) ?_
        refine s_icmp_ge rfl (cn rfl) (cn rfl) ⟨by omega, by omega⟩ ⟨by omega, by omega⟩ (fun q51 => ?_) (fun q51 => ?_)
        · refine s_iconst rfl (cn rfl) ?_
          refine s_zreturn rfl (Or.inl rfl) ?_
          refine ⟨rz_f (fun hp => ?_), rfl⟩
          unfold SA at hp
          obtain ⟨p1, p2, p3⟩ := hp
          first
            | (have := p1 (by omega); omega)
            | (have := p2 (by omega); omega)
            | (have := p3 (by omega) (by omega); omega)
        · refine s_iconst rfl (cn rfl) ?_
          refine s_goto rfl (cn rfl) ?_
          refine s_zreturn rfl (Or.inr rfl) ?_
          refine ⟨rz_t ?_, rfl⟩
          unfold SA
          refine ⟨fun e => ?_, fun e => ?_, fun e e' => ?_⟩ <;> first | omega | (exact absurd e (by omega)) | (exact ⟨by omega, by omega⟩)
  · refine s_aload_n rfl (cn rfl) rfl ?_
    refine s_getfield rfl (cn rfl) c58 rfl ?_
    refine s_iload_n rfl (cn rfl) rfl ?_
    refine s_iload_n rfl (cn rfl) rfl ?_
    refine s_ior rfl (cn rfl) _ (bi_or _ _) ?_
    refine s_iaload rfl (cn rfl) _ rfl c59 rfl (by omega) (by decide) rfl ?_
    refine s_aload_n rfl (cn rfl) rfl ?_
    refine s_getfield rfl (cn rfl) c58 rfl ?_
    refine s_iload_n rfl (cn rfl) rfl ?_
    refine s_iload_n rfl (cn rfl) rfl ?_
    refine s_iand rfl (cn rfl) _ (bi_and _ _) ?_
    refine s_iaload rfl (cn rfl) _ rfl c59 rfl (by omega) (by decide) rfl ?_
    refine s_iadd rfl (cn rfl) ?_
    refine s_aload_n rfl (cn rfl) rfl ?_
    refine s_getfield rfl (cn rfl) c58 rfl ?_
    refine s_iload_n rfl (cn rfl) rfl ?_
    refine s_iaload rfl (cn rfl) _ rfl c59 rfl (by omega) (by decide) rfl ?_
    refine s_aload_n rfl (cn rfl) rfl ?_
    refine s_getfield rfl (cn rfl) c58 rfl ?_
    refine s_iload_n rfl (cn rfl) rfl ?_
    refine s_iaload rfl (cn rfl) _ rfl c59 rfl (by omega) (by decide) rfl ?_
    refine s_iadd rfl (cn rfl) ?_
    refine s_icmp_ge rfl (cn rfl) (cn rfl) ⟨by omega, by omega⟩ ⟨by omega, by omega⟩ (fun q24 => ?_) (fun q24 => ?_)
    · refine s_iconst rfl (cn rfl) ?_
      refine s_zreturn rfl (Or.inl rfl) ?_
      refine ⟨rz_f (fun hp => ?_), rfl⟩
      unfold SA at hp
      obtain ⟨p1, p2, p3⟩ := hp
      first
        | (have := p1 (by omega); omega)
        | (have := p2 (by omega); omega)
        | (have := p3 (by omega) (by omega); omega)
    · refine s_iconst rfl (cn rfl) ?_
      refine s_goto rfl (cn rfl) ?_
      refine s_zreturn rfl (Or.inr rfl) ?_
      refine ⟨rz_t ?_, rfl⟩
      unfold SA
      refine ⟨fun e => ?_, fun e => ?_, fun e e' => ?_⟩ <;> first | omega | (exact absurd e (by omega)) | (exact ⟨by omega, by omega⟩)
theorem u_least {d N S n : Nat} {v : Nat → Int} {h : Nat → Option rr_E} (hn : 2 ≤ n ∧ n ≤ 4) (c1 : h 1 = some (.inr (0, [.int (ii (n : Int)), .ref 2]))) (c2 : h 2 = some (.inl (0, 16, .inl (fun k => ii (v k))))) (hv : ∀ k, -999 ≤ v k ∧ v k ≤ 999) {w : Int} (hw : b3 w) : rr_Calls (d + 2) j_Kinds_leastAgainst [.ref 1, .int (ii w)] (N, S, h) (fun r R => r = some (.int (ii (sp_against n v w))) ∧ R = (N, S, h)) := by
  refine rr_meth (C := K_Kinds_leastAgainst) (hd := h_Kinds_leastAgainst) (mx := 4) rfl rfl (fun K hK => ?_)
  have hA := al_b hn
  refine hK _ _ _ _ ?_
  refine s_iconst rfl (cn rfl) ?_
  refine s_istore_n rfl (ch rfl) ?_
  have lp2 : ∀ s : Nat, s ≤ al n + 1 → ∀ (h1 : 1 ≤ s) (no : ∀ k, 1 ≤ k → k < s → ¬ ∃ t, k < t ∧ t ≤ al n ∧ SA v w k t) (l3 : Option Value), K 2 [some (.ref 1), some (.int (ii w)), some (.int (ii (s : Int))), l3] [] (N, S, h) := by
    refine dn (fun s hs ih2 => ?_)
    intro h1 no l3
    refine hK _ _ _ _ ?_
    refine s_iload_n rfl (cn rfl) rfl ?_
    refine s_aload_n rfl (cn rfl) rfl ?_
    refine s_virt rfl (cn rfl) rfl rfl c1 rfl (u_all_1 hn c1) ?_
    rintro _ _ ⟨rfl, rfl⟩
    refine s_icmp_gt rfl (cn rfl) (cn rfl) ⟨by omega, by omega⟩ ⟨by omega, by omega⟩ (fun q5 => ?_) (fun q5 => ?_)
    · refine s_bipush rfl (cn rfl) (by decide) ?_
      refine s_ireturn rfl ?_
      exact ⟨ri (ff_n (fun k q1 q2 => no k q1 (by omega))), rfl⟩
    · refine s_iload_n rfl (cn rfl) rfl ?_
      refine s_iconst rfl (cn rfl) ?_
      refine s_iadd rfl (cn rfl) ?_
      refine s_istore_n rfl (ch rfl) ?_
      have lp10 : ∀ t : Nat, t ≤ al n + 1 → ∀ (h2 : s + 1 ≤ t) (nt : ∀ k, s < k → k < t → ¬ SA v w s k), K 10 [some (.ref 1), some (.int (ii w)), some (.int (ii (s : Int))), some (.int (ii (t : Int)))] [] (N, S, h) := by
        refine dn (fun t ht ih10 => ?_)
        intro h2 nt
        refine hK _ _ _ _ ?_
        refine s_iload_n rfl (cn rfl) rfl ?_
        refine s_aload_n rfl (cn rfl) rfl ?_
        refine s_virt rfl (cn rfl) rfl rfl c1 rfl (u_all_1 hn c1) ?_
        rintro _ _ ⟨rfl, rfl⟩
        refine s_icmp_gt rfl (cn rfl) (cn rfl) ⟨by omega, by omega⟩ ⟨by omega, by omega⟩ (fun q13 => ?_) (fun q13 => ?_)
        · refine s_iinc rfl (cn rfl) rfl ?_
          refine s_goto rfl (ch rfl) ?_
          exact ih2 (by omega) (by omega) (fun k q1 q2 => by
              by_cases e : k = s
              · subst e; exact fun ⟨t', q3, q4, q5⟩ => nt t' q3 (by omega) q5
              · exact no k q1 (by omega)) _
        · refine s_aload_n rfl (cn rfl) rfl ?_
          refine s_getfield rfl (cn rfl) c1 rfl ?_
          refine s_iload_n rfl (cn rfl) rfl ?_
          refine s_iload_n rfl (cn rfl) rfl ?_
          refine s_iload_n rfl (cn rfl) rfl ?_
          refine s_stat rfl (cn rfl) rfl rfl rfl (u_shows c2 hv hw (by omega) (by omega)) ?_
          rintro _ _ ⟨rfl, rfl⟩
          refine s_ifb_eq rfl (cn rfl) (cn rfl) (fun q20 => ?_) (fun q20 => ?_)
          · refine s_iinc rfl (cn rfl) rfl ?_
            refine s_goto rfl (ch rfl) ?_
            exact ih10 (by omega) (by omega) (fun k q1 q2 => by
                by_cases e : k = t
                · subst e; assumption
                · exact nt k q1 (by omega))
          · refine s_iload_n rfl (cn rfl) rfl ?_
            refine s_ireturn rfl ?_
            exact ⟨ri (ff_y h1 (by omega) ⟨t, by omega, by omega, q20⟩ no), rfl⟩
      exact lp10 (s + 1) (by omega) (by omega) (fun k q1 q2 => absurd q2 (by omega))
  exact lp2 1 (by omega) (by omega) (fun k q1 q2 => absurd q2 (by omega)) none
theorem m_against {d N S n : Nat} {kp tp pt wr fa dm ce di be od sm le sc ba bb ti rk ts tm pa wa : Int} {h : Nat → Option rr_E} (hn : 2 ≤ n ∧ n ≤ 4)  {v : Nat → Int} (c58 : h 58 = some (MO (n : Int) kp tp pt wr fa dm ce di be od sm le sc ba bb ti rk ts tm pa wa)) (c59 : h 59 = some (.inl (0, 16, .inl (fun k => ii (v k))))) (hv : ∀ k, -999 ≤ v k ∧ v k ≤ 999) {w : Int} (hw : b3 w) : rr_Calls (d + 3) j_Model_against [.ref 58, .int (ii w)] (N, S, h) (fun r R => r = some (.int (ii (if 0 ≤ w ∧ w ≤ 2 then sp_against n v w else -1))) ∧ R = (N, S, h)) := by
  refine rr_meth (C := K_Model_against) (hd := h_Model_against) (mx := 4) rfl rfl (fun K hK => ?_)
  have hA := al_b hn
  refine hK _ _ _ _ ?_
  refine s_iload_n rfl (cn rfl) rfl ?_
  refine s_i2l rfl (cn rfl) ⟨by omega, by omega⟩ ?_
  refine s_lconst rfl (cn rfl) 0 (by decide) ?_
  refine s_ldc2_w rfl (cn rfl) ?_
  refine s_stat rfl (cn rfl) rfl rfl rfl (m_in (by omega) (by omega) (by omega)) ?_
  rintro _ _ ⟨rfl, rfl⟩
  refine s_ifb_ne rfl (cn rfl) (cn rfl) (fun q5 => ?_) (fun q5 => ?_)
  · refine s_iconst rfl (cn rfl) ?_
    refine s_istore_n rfl (ch rfl) ?_
    have lp10 : ∀ s : Nat, s ≤ al n + 1 → ∀ (h1 : 1 ≤ s) (no : ∀ k, 1 ≤ k → k < s → ¬ ∃ t, k < t ∧ t ≤ al n ∧ SA v w k t) (l3 : Option Value), K 10 [some (.ref 58), some (.int (ii w)), some (.int (ii (s : Int))), l3] [] (N, S, h) := by
      refine dn (fun s hs ih10 => ?_)
      intro h1 no l3
      refine hK _ _ _ _ ?_
      refine s_iload_n rfl (cn rfl) rfl ?_
      refine s_aload_n rfl (cn rfl) rfl ?_
      refine s_virt rfl (cn rfl) rfl rfl c58 rfl (m_all hn c58) ?_
      rintro _ _ ⟨rfl, rfl⟩
      refine s_icmp_gt rfl (cn rfl) (cn rfl) ⟨by omega, by omega⟩ ⟨by omega, by omega⟩ (fun q13 => ?_) (fun q13 => ?_)
      · refine s_bipush rfl (cn rfl) (by decide) ?_
        refine s_ireturn rfl ?_
        exact ⟨ri (by rw [if_pos q5]; exact ff_n (fun k q1 q2 => no k q1 (by omega))), rfl⟩
      · refine s_iload_n rfl (cn rfl) rfl ?_
        refine s_iconst rfl (cn rfl) ?_
        refine s_iadd rfl (cn rfl) ?_
        refine s_istore_n rfl (ch rfl) ?_
        have lp18 : ∀ t : Nat, t ≤ al n + 1 → ∀ (h2 : s + 1 ≤ t) (nt : ∀ k, s < k → k < t → ¬ SA v w s k), K 18 [some (.ref 58), some (.int (ii w)), some (.int (ii (s : Int))), some (.int (ii (t : Int)))] [] (N, S, h) := by
          refine dn (fun t ht ih18 => ?_)
          intro h2 nt
          refine hK _ _ _ _ ?_
          refine s_iload_n rfl (cn rfl) rfl ?_
          refine s_aload_n rfl (cn rfl) rfl ?_
          refine s_virt rfl (cn rfl) rfl rfl c58 rfl (m_all hn c58) ?_
          rintro _ _ ⟨rfl, rfl⟩
          refine s_icmp_gt rfl (cn rfl) (cn rfl) ⟨by omega, by omega⟩ ⟨by omega, by omega⟩ (fun q21 => ?_) (fun q21 => ?_)
          · refine s_iinc rfl (cn rfl) rfl ?_
            refine s_goto rfl (ch rfl) ?_
            exact ih10 (by omega) (by omega) (fun k q1 q2 => by
                by_cases e : k = s
                · subst e; exact fun ⟨t', q3, q4, q5⟩ => nt t' q3 (by omega) q5
                · exact no k q1 (by omega)) _
          · refine s_aload_n rfl (cn rfl) rfl ?_
            refine s_iload_n rfl (cn rfl) rfl ?_
            refine s_iload_n rfl (cn rfl) rfl ?_
            refine s_iload_n rfl (cn rfl) rfl ?_
            refine s_virt rfl (cn rfl) rfl rfl c58 rfl (m_isAgainst c58 c59 hv hw (by omega) (by omega)) ?_
            rintro _ _ ⟨rfl, rfl⟩
            refine s_ifb_eq rfl (cn rfl) (cn rfl) (fun q27 => ?_) (fun q27 => ?_)
            · refine s_iinc rfl (cn rfl) rfl ?_
              refine s_goto rfl (ch rfl) ?_
              exact ih18 (by omega) (by omega) (fun k q1 q2 => by
                  by_cases e : k = t
                  · subst e; assumption
                  · exact nt k q1 (by omega))
            · refine s_iload_n rfl (cn rfl) rfl ?_
              refine s_ireturn rfl ?_
              exact ⟨ri (by rw [if_pos q5]; exact ff_y h1 (by omega) ⟨t, by omega, by omega, q27⟩ no), rfl⟩
        exact lp18 (s + 1) (by omega) (by omega) (fun k q1 q2 => absurd q2 (by omega))
    exact lp10 1 (by omega) (by omega) (fun k q1 q2 => absurd q2 (by omega)) none
  · refine s_iconst rfl (cn rfl) ?_
    refine s_ireturn rfl ?_
    exact ⟨ri (by rw [if_neg q5]), rfl⟩
theorem d_against {d N S n : Nat} {v : Nat → Int} {h : Nat → Option rr_E} (hn : 2 ≤ n ∧ n ≤ 4) (c1 : h 1 = some (.inr (0, [.int (ii (n : Int)), .ref 2]))) (c2 : h 2 = some (.inl (0, 16, .inl (fun k => ii (v k))))) (hv : ∀ k, -999 ≤ v k ∧ v k ≤ 999) {sl im : Int} (c0 : h 0 = some (DO sl im)) {w : Int} (hw : b3 w) : rr_Calls (d + 3) j_Desk_against [.ref 0, .int (ii w)] (N, S, h) (fun r R => r = some (.int (ii (if 0 ≤ w ∧ w ≤ 2 then sp_against n v w else -1))) ∧ R = (N, S, h)) := by
  refine rr_meth (C := K_Desk_against) (hd := h_Desk_against) (mx := 2) rfl rfl (fun K hK => ?_)
  refine hK _ _ _ _ ?_
  refine s_iload_n rfl (cn rfl) rfl ?_
  refine s_stat rfl (cn rfl) rfl rfl rfl (u_hasKind (by omega)) ?_
  rintro _ _ ⟨rfl, rfl⟩
  refine s_ifb_eq rfl (cn rfl) (cn rfl) (fun q2 => ?_) (fun q2 => ?_)
  · refine s_iconst rfl (cn rfl) ?_
    refine s_ireturn rfl ?_
    first
      | exact ⟨ri (if_pos q2).symm, rfl⟩
      | exact ⟨ri (if_neg q2).symm, rfl⟩
  · refine s_aload_n rfl (cn rfl) rfl ?_
    refine s_getfield rfl (cn rfl) c0 rfl ?_
    refine s_iload_n rfl (cn rfl) rfl ?_
    refine s_stat rfl (cn rfl) rfl rfl rfl (u_least hn c1 c2 hv hw) ?_
    rintro _ _ ⟨rfl, rfl⟩
    refine s_goto rfl (cn rfl) ?_
    refine s_ireturn rfl ?_
    first
      | exact ⟨ri (if_pos q2).symm, rfl⟩
      | exact ⟨ri (if_neg q2).symm, rfl⟩
theorem d_is {d N S n : Nat} {v : Nat → Int} {h : Nat → Option rr_E} (hn : 2 ≤ n ∧ n ≤ 4) (c1 : h 1 = some (.inr (0, [.int (ii (n : Int)), .ref 2]))) (c2 : h 2 = some (.inl (0, 16, .inl (fun k => ii (v k))))) (hv : ∀ k, -999 ≤ v k ∧ v k ≤ 999) {sl im : Int} (c0 : h 0 = some (DO sl im)) {w : Int} (hw : b3 w) : rr_Calls (d + 3) j_Desk_is [.ref 0, .int (ii w)] (N, S, h) (fun r R => r = some (.int (ii (if 0 ≤ w ∧ w ≤ 2 then (if sp_against n v w = -5 then 1 else 0) else -1))) ∧ R = (N, S, h)) := by
  refine rr_meth (C := K_Desk_is) (hd := h_Desk_is) (mx := 2) rfl rfl (fun K hK => ?_)
  have hb := sp_against_b (n := n) v w
  have hA := al_b hn
  refine hK _ _ _ _ ?_
  refine s_iload_n rfl (cn rfl) rfl ?_
  refine s_stat rfl (cn rfl) rfl rfl rfl (u_hasKind (by omega)) ?_
  rintro _ _ ⟨rfl, rfl⟩
  refine s_ifb_ne rfl (cn rfl) (cn rfl) (fun q2 => ?_) (fun q2 => ?_)
  · refine s_aload_n rfl (cn rfl) rfl ?_
    refine s_getfield rfl (cn rfl) c0 rfl ?_
    refine s_iload_n rfl (cn rfl) rfl ?_
    refine s_stat rfl (cn rfl) rfl rfl rfl (u_least hn c1 c2 hv hw) ?_
    rintro _ _ ⟨rfl, rfl⟩
    refine s_bipush rfl (cn rfl) (by decide) ?_
    refine s_icmp_ne rfl (cn rfl) (cn rfl) ⟨by omega, by omega⟩ ⟨by omega, by omega⟩ (fun q10 => ?_) (fun q10 => ?_)
    · refine s_iconst rfl (cn rfl) ?_
      refine s_ireturn rfl ?_
      refine ⟨ri ?_, rfl⟩
      split <;> first | rfl | omega | (split <;> omega)
    · refine s_iconst rfl (cn rfl) ?_
      refine s_goto rfl (cn rfl) ?_
      refine s_ireturn rfl ?_
      refine ⟨ri ?_, rfl⟩
      split <;> first | rfl | omega | (split <;> omega)
  · refine s_iconst rfl (cn rfl) ?_
    refine s_ireturn rfl ?_
    refine ⟨ri ?_, rfl⟩
    split <;> first | rfl | omega | (split <;> omega)
theorem m_is {d N S n : Nat} {kp tp pt wr fa dm ce di be od sm le sc ba bb ti rk ts tm pa wa : Int} {h : Nat → Option rr_E} (hn : 2 ≤ n ∧ n ≤ 4)  {v : Nat → Int} (c58 : h 58 = some (MO (n : Int) kp tp pt wr fa dm ce di be od sm le sc ba bb ti rk ts tm pa wa)) (c59 : h 59 = some (.inl (0, 16, .inl (fun k => ii (v k))))) (hv : ∀ k, -999 ≤ v k ∧ v k ≤ 999) {w : Int} (hw : b3 w) : rr_Calls (d + 4) j_Model_is [.ref 58, .int (ii w)] (N, S, h) (fun r R => r = some (.int (ii (if 0 ≤ w ∧ w ≤ 2 then (if sp_against n v w = -5 then 1 else 0) else -1))) ∧ R = (N, S, h)) := by
  refine rr_meth (C := K_Model_is) (hd := h_Model_is) (mx := 3) rfl rfl (fun K hK => ?_)
  have hb := sp_against_b (n := n) v w
  have hA := al_b hn
  have hb2 : (if 0 ≤ w ∧ w ≤ 2 then sp_against n v w else -1) ≤ 16 ∧ -5 ≤ (if 0 ≤ w ∧ w ≤ 2 then sp_against n v w else -1) := by split <;> omega
  refine hK _ _ _ _ ?_
  refine s_aload_n rfl (cn rfl) rfl ?_
  refine s_iload_n rfl (cn rfl) rfl ?_
  refine s_virt rfl (cn rfl) rfl rfl c58 rfl (m_against hn c58 c59 hv hw) ?_
  rintro _ _ ⟨rfl, rfl⟩
  refine s_istore_n rfl (cn rfl) ?_
  refine s_iload_n rfl (cn rfl) rfl ?_
  refine s_iconst rfl (cn rfl) ?_
  refine s_icmp_ne rfl (cn rfl) (cn rfl) ⟨by omega, by omega⟩ ⟨by omega, by omega⟩ (fun q6 => ?_) (fun q6 => ?_)
  · refine s_iload_n rfl (cn rfl) rfl ?_
    refine s_bipush rfl (cn rfl) (by decide) ?_
    refine s_icmp_ne rfl (cn rfl) (cn rfl) ⟨by omega, by omega⟩ ⟨by omega, by omega⟩ (fun q11 => ?_) (fun q11 => ?_)
    · refine s_iconst rfl (cn rfl) ?_
      refine s_ireturn rfl ?_
      refine ⟨ri ?_, rfl⟩
      revert q6
      try revert q11
      split
      · split <;> intros <;> omega
      · intros; omega
    · refine s_iconst rfl (cn rfl) ?_
      refine s_goto rfl (cn rfl) ?_
      refine s_ireturn rfl ?_
      refine ⟨ri ?_, rfl⟩
      revert q6
      try revert q11
      split
      · split <;> intros <;> omega
      · intros; omega
  · refine s_iconst rfl (cn rfl) ?_
    refine s_goto rfl (cn rfl) ?_
    refine s_ireturn rfl ?_
    refine ⟨ri ?_, rfl⟩
    revert q6
    try revert q11
    split
    · split <;> intros <;> omega
    · intros; omega
theorem u_adds {d N S n : Nat} {v : Nat → Int} {h : Nat → Option rr_E} (hn : 2 ≤ n ∧ n ≤ 4) (c1 : h 1 = some (.inr (0, [.int (ii (n : Int)), .ref 2]))) (c2 : h 2 = some (.inl (0, 16, .inl (fun k => ii (v k))))) (hv : ∀ k, -999 ≤ v k ∧ v k ≤ 999) (h0 : v 0 = 0) {p : Nat} (hp : p < n) : rr_Calls (d + 2) j_Kinds_addsNothing [.ref 1, .int (ii (p : Int))] (N, S, h) (fun r R => r = some (.int (rc (AN n v p))) ∧ R = (N, S, h)) := by
  refine rr_meth (C := K_Kinds_addsNothing) (hd := h_Kinds_addsNothing) (mx := 4) rfl rfl (fun K hK => ?_)
  have hA := al_b hn
  have h2 := one_lt hn hp
  refine hK _ _ _ _ ?_
  refine s_iconst rfl (cn rfl) ?_
  refine s_iload_n rfl (cn rfl) rfl ?_
  refine s_ishl rfl (cn rfl) _ (bi_shl1 (by omega)) ?_
  refine s_istore_n rfl (cn rfl) ?_
  refine s_iconst rfl (cn rfl) ?_
  refine s_istore_n rfl (ch rfl) ?_
  have lp6 : ∀ g : Nat, g ≤ al n + 1 → ∀ (h1 : 1 ≤ g) (no : ∀ k, k < g → k.testBit p = false → v (k ||| 2 ^ p) - v k = v (2 ^ p)), K 6 [some (.ref 1), some (.int (ii (p : Int))), some (.int (ii ((2 ^ p : Nat) : Int))), some (.int (ii (g : Int)))] [] (N, S, h) := by
    refine dn (fun g hg ih6 => ?_)
    intro h1 no
    have hv0 := hv (g ||| 2 ^ p)
    have hv1 := hv g
    have hv2 := hv (2 ^ p)
    have l3 := Nat.and_le_left (n := g) (m := 2 ^ p)
    refine hK _ _ _ _ ?_
    refine s_iload_n rfl (cn rfl) rfl ?_
    refine s_aload_n rfl (cn rfl) rfl ?_
    refine s_virt rfl (cn rfl) rfl rfl c1 rfl (u_all_1 hn c1) ?_
    rintro _ _ ⟨rfl, rfl⟩
    refine s_icmp_gt rfl (cn rfl) (cn rfl) ⟨by omega, by omega⟩ ⟨by omega, by omega⟩ (fun q9 => ?_) (fun q9 => ?_)
    · refine s_iconst rfl (cn rfl) ?_
      refine s_zreturn rfl (Or.inr rfl) ?_
      exact ⟨rz_t (fun k q1 q2 => no k (by omega) q2), rfl⟩
    · refine s_iload_n rfl (cn rfl) rfl ?_
      refine s_iload_n rfl (cn rfl) rfl ?_
      refine s_iand rfl (cn rfl) _ (bi_and _ _) ?_
      refine s_if_ne rfl (cn rfl) (cn rfl) ⟨by omega, by omega⟩ (fun q13 => ?_) (fun q13 => ?_)
      · refine s_iinc rfl (cn rfl) rfl ?_
        refine s_goto rfl (ch rfl) ?_
        exact ih6 (by omega) (by omega) (fun k q1 q2 => by
            by_cases e : k = g
            · subst e; exact absurd (and_p.mpr q2) (fun e => q13 (by rw [e]; rfl))
            · exact no k (by omega) q2)
      · refine s_aload_n rfl (cn rfl) rfl ?_
        refine s_getfield rfl (cn rfl) c1 rfl ?_
        refine s_iload_n rfl (cn rfl) rfl ?_
        refine s_iload_n rfl (cn rfl) rfl ?_
        refine s_ior rfl (cn rfl) _ (bi_or _ _) ?_
        refine s_iaload rfl (cn rfl) _ rfl c2 rfl (or_16 (by omega) (by omega)) (by decide) rfl ?_
        refine s_aload_n rfl (cn rfl) rfl ?_
        refine s_getfield rfl (cn rfl) c1 rfl ?_
        refine s_iload_n rfl (cn rfl) rfl ?_
        refine s_iaload rfl (cn rfl) _ rfl c2 rfl (by omega) (by decide) rfl ?_
        refine s_isub rfl (cn rfl) ?_
        refine s_aload_n rfl (cn rfl) rfl ?_
        refine s_getfield rfl (cn rfl) c1 rfl ?_
        refine s_iload_n rfl (cn rfl) rfl ?_
        refine s_iaload rfl (cn rfl) _ rfl c2 rfl (by omega) (by decide) rfl ?_
        refine s_icmp_eq rfl (cn rfl) (cn rfl) ⟨by omega, by omega⟩ ⟨by omega, by omega⟩ (fun q29 => ?_) (fun q29 => ?_)
        · refine s_iinc rfl (cn rfl) rfl ?_
          refine s_goto rfl (ch rfl) ?_
          exact ih6 (by omega) (by omega) (fun k q1 q2 => by
              by_cases e : k = g
              · subst e; exact q29
              · exact no k (by omega) q2)
        · refine s_iconst rfl (cn rfl) ?_
          refine s_zreturn rfl (Or.inl rfl) ?_
          exact ⟨rz_f (fun q => q29 (q g (by omega) (and_p.mp (by omega)))), rfl⟩
  exact lp6 1 (by omega) (by omega) (fun k q1 _ => by rw [show k = 0 by omega, Nat.zero_or, h0]; omega)
theorem u_areAlike {d N S n : Nat} {v : Nat → Int} {h : Nat → Option rr_E} (hn : 2 ≤ n ∧ n ≤ 4) (c1 : h 1 = some (.inr (0, [.int (ii (n : Int)), .ref 2]))) (c2 : h 2 = some (.inl (0, 16, .inl (fun k => ii (v k))))) (hv : ∀ k, -999 ≤ v k ∧ v k ≤ 999) {p q : Nat} (hp : p < n) (hq : q < n) : rr_Calls (d + 2) j_Kinds_areAlike [.ref 1, .int (ii (p : Int)), .int (ii (q : Int))] (N, S, h) (fun r R => r = some (.int (rc (AL n v p q))) ∧ R = (N, S, h)) := by
  refine rr_meth (C := K_Kinds_areAlike) (hd := h_Kinds_areAlike) (mx := 5) rfl rfl (fun K hK => ?_)
  have hA := al_b hn
  have h2 := one_lt hn hp
  have h3 := one_lt hn hq
  have l5 := or_16 (show 2 ^ p < 16 by omega) (show 2 ^ q < 16 by omega)
  refine hK _ _ _ _ ?_
  refine s_iconst rfl (cn rfl) ?_
  refine s_iload_n rfl (cn rfl) rfl ?_
  refine s_ishl rfl (cn rfl) _ (bi_shl1 (by omega)) ?_
  refine s_iconst rfl (cn rfl) ?_
  refine s_iload_n rfl (cn rfl) rfl ?_
  refine s_ishl rfl (cn rfl) _ (bi_shl1 (by omega)) ?_
  refine s_ior rfl (cn rfl) _ (bi_or _ _) ?_
  refine s_istore_n rfl (cn rfl) ?_
  refine s_iconst rfl (cn rfl) ?_
  refine s_istore rfl (ch rfl) ?_
  have lp10 : ∀ g : Nat, g ≤ al n + 1 → ∀ (no : ∀ k, k < g → k.testBit p = false → k.testBit q = false → v (k ||| 2 ^ p) = v (k ||| 2 ^ q)), K 10 [some (.ref 1), some (.int (ii (p : Int))), some (.int (ii (q : Int))), some (.int (ii ((2 ^ p ||| 2 ^ q : Nat) : Int))), some (.int (ii (g : Int)))] [] (N, S, h) := by
    refine dn (fun g hg ih10 => ?_)
    intro no
    have hv0 := hv (g ||| 2 ^ p)
    have hv1 := hv (g ||| 2 ^ q)
    have l3 := Nat.and_le_left (n := g) (m := 2 ^ p ||| 2 ^ q)
    refine hK _ _ _ _ ?_
    refine s_iload rfl (cn rfl) rfl ?_
    refine s_aload_n rfl (cn rfl) rfl ?_
    refine s_virt rfl (cn rfl) rfl rfl c1 rfl (u_all_1 hn c1) ?_
    rintro _ _ ⟨rfl, rfl⟩
    refine s_icmp_gt rfl (cn rfl) (cn rfl) ⟨by omega, by omega⟩ ⟨by omega, by omega⟩ (fun q13 => ?_) (fun q13 => ?_)
    · refine s_iconst rfl (cn rfl) ?_
      refine s_zreturn rfl (Or.inr rfl) ?_
      exact ⟨rz_t (fun k q1 q2 q3 => no k (by omega) q2 q3), rfl⟩
    · refine s_iload rfl (cn rfl) rfl ?_
      refine s_iload_n rfl (cn rfl) rfl ?_
      refine s_iand rfl (cn rfl) _ (bi_and _ _) ?_
      refine s_if_ne rfl (cn rfl) (cn rfl) ⟨by omega, by omega⟩ (fun q17 => ?_) (fun q17 => ?_)
      · refine s_iinc rfl (cn rfl) rfl ?_
        refine s_goto rfl (ch rfl) ?_
        exact ih10 (by omega) (fun k q1 q2 q3 => by
            by_cases e : k = g
            · subst e; exact absurd (and_pq.mpr ⟨q2, q3⟩) (fun e => q17 (by rw [e]; rfl))
            · exact no k (by omega) q2 q3)
      · refine s_aload_n rfl (cn rfl) rfl ?_
        refine s_getfield rfl (cn rfl) c1 rfl ?_
        refine s_iload rfl (cn rfl) rfl ?_
        refine s_iconst rfl (cn rfl) ?_
        refine s_iload_n rfl (cn rfl) rfl ?_
        refine s_ishl rfl (cn rfl) _ (bi_shl1 (by omega)) ?_
        refine s_ior rfl (cn rfl) _ (bi_or _ _) ?_
        refine s_iaload rfl (cn rfl) _ rfl c2 rfl (or_16 (by omega) (by omega)) (by decide) rfl ?_
        refine s_aload_n rfl (cn rfl) rfl ?_
        refine s_getfield rfl (cn rfl) c1 rfl ?_
        refine s_iload rfl (cn rfl) rfl ?_
        refine s_iconst rfl (cn rfl) ?_
        refine s_iload_n rfl (cn rfl) rfl ?_
        refine s_ishl rfl (cn rfl) _ (bi_shl1 (by omega)) ?_
        refine s_ior rfl (cn rfl) _ (bi_or _ _) ?_
        refine s_iaload rfl (cn rfl) _ rfl c2 rfl (or_16 (by omega) (by omega)) (by decide) rfl ?_
        refine s_icmp_eq rfl (cn rfl) (cn rfl) ⟨by omega, by omega⟩ ⟨by omega, by omega⟩ (fun q34 => ?_) (fun q34 => ?_)
        · refine s_iinc rfl (cn rfl) rfl ?_
          refine s_goto rfl (ch rfl) ?_
          exact ih10 (by omega) (fun k q1 q2 q3 => by
              by_cases e : k = g
              · subst e; exact q34
              · exact no k (by omega) q2 q3)
        · refine s_iconst rfl (cn rfl) ?_
          refine s_zreturn rfl (Or.inl rfl) ?_
          exact ⟨rz_f (fun qq => q34 (qq g (by omega) (and_pq.mp (Int.natCast_eq_zero.mp q17)).1 (and_pq.mp (Int.natCast_eq_zero.mp q17)).2)), rfl⟩
  exact lp10 0 (by omega) (fun k q1 => absurd q1 (by omega))
theorem d_idle {d N S n : Nat} {v : Nat → Int} {h : Nat → Option rr_E} (hn : 2 ≤ n ∧ n ≤ 4) (c1 : h 1 = some (.inr (0, [.int (ii (n : Int)), .ref 2]))) (c2 : h 2 = some (.inl (0, 16, .inl (fun k => ii (v k))))) (hv : ∀ k, -999 ≤ v k ∧ v k ≤ 999) (h0 : v 0 = 0) {sl im : Int} (c0 : h 0 = some (DO sl im)) : rr_Calls (d + 3) j_Desk_idle [.ref 0] (N, S, h) (fun r R => r = some (.int (ii ((os (AN n v) n : Nat) : Int))) ∧ R = (N, S, h)) := by
  refine rr_meth (C := K_Desk_idle) (hd := h_Desk_idle) (mx := 3) rfl rfl (fun K hK => ?_)
  refine hK _ _ _ _ ?_
  refine s_iconst rfl (cn rfl) ?_
  refine s_istore_n rfl (cn rfl) ?_
  refine s_iconst rfl (cn rfl) ?_
  refine s_istore_n rfl (ch rfl) ?_
  have lp4 : ∀ p : Nat, p ≤ n → ∀ (w : Nat) (e : w = os (AN n v) p), K 4 [some (.ref 0), some (.int (ii (w : Int))), some (.int (ii (p : Int)))] [] (N, S, h) := by
    refine dn (fun p hp ih4 => ?_)
    intro w e
    refine hK _ _ _ _ ?_
    refine s_iload_n rfl (cn rfl) rfl ?_
    refine s_aload_n rfl (cn rfl) rfl ?_
    refine s_getfield rfl (cn rfl) c0 rfl ?_
    refine s_getfield rfl (cn rfl) c1 rfl ?_
    refine s_icmp_ge rfl (cn rfl) (cn rfl) ⟨by omega, by omega⟩ ⟨by omega, by omega⟩ (fun q8 => ?_) (fun q8 => ?_)
    · refine s_iload_n rfl (cn rfl) rfl ?_
      refine s_ireturn rfl ?_
      exact ⟨ri (by rw [e, show p = n by omega]), rfl⟩
    · refine s_aload_n rfl (cn rfl) rfl ?_
      refine s_getfield rfl (cn rfl) c0 rfl ?_
      refine s_iload_n rfl (cn rfl) rfl ?_
      refine s_stat rfl (cn rfl) rfl rfl rfl (u_adds hn c1 c2 hv h0 (by omega)) ?_
      rintro _ _ ⟨rfl, rfl⟩
      refine s_ifb_eq rfl (cn rfl) (cn rfl) (fun q13 => ?_) (fun q13 => ?_)
      · refine s_iinc rfl (cn rfl) rfl ?_
        refine s_goto rfl (ch rfl) ?_
        exact ih4 (by omega) _ (by rw [e, os_n q13])
      · refine s_iload_n rfl (cn rfl) rfl ?_
        refine s_iconst rfl (cn rfl) ?_
        refine s_iload_n rfl (cn rfl) rfl ?_
        refine s_ishl rfl (cn rfl) _ (bi_shl1 (by omega)) ?_
        refine s_ior rfl (cn rfl) _ (bi_or _ _) ?_
        refine s_istore_n rfl (cn rfl) ?_
        refine s_iinc rfl (cn rfl) rfl ?_
        refine s_goto rfl (ch rfl) ?_
        exact ih4 (by omega) _ (by rw [e, os_y q13])
  exact lp4 0 (by omega) 0 rfl
theorem d_alike {d N S n : Nat} {v : Nat → Int} {h : Nat → Option rr_E} (hn : 2 ≤ n ∧ n ≤ 4) (c1 : h 1 = some (.inr (0, [.int (ii (n : Int)), .ref 2]))) (c2 : h 2 = some (.inl (0, 16, .inl (fun k => ii (v k))))) (hv : ∀ k, -999 ≤ v k ∧ v k ≤ 999) {sl im : Int} (c0 : h 0 = some (DO sl im)) {a : Int} (ha : b3 a) : rr_Calls (d + 3) j_Desk_alike [.ref 0, .int (ii a)] (N, S, h) (fun r R => r = some (.int (ii (if 0 ≤ a ∧ a < n then ((os (fun p => p ≠ a.toNat ∧ AL n v a.toNat p) n : Nat) : Int) else -1))) ∧ R = (N, S, h)) := by
  refine rr_meth (C := K_Desk_alike) (hd := h_Desk_alike) (mx := 4) rfl rfl (fun K hK => ?_)
  refine hK _ _ _ _ ?_
  refine s_aload_n rfl (cn rfl) rfl ?_
  refine s_getfield rfl (cn rfl) c0 rfl ?_
  refine s_iload_n rfl (cn rfl) rfl ?_
  refine s_virt rfl (cn rfl) rfl rfl c1 rfl (u_hasOne hn c1 (by omega)) ?_
  rintro _ _ ⟨rfl, rfl⟩
  refine s_ifb_ne rfl (cn rfl) (cn rfl) (fun q4 => ?_) (fun q4 => ?_)
  · obtain ⟨o, rfl⟩ := Int.eq_ofNat_of_zero_le q4.1
    have ho : o < n := by omega
    refine s_iconst rfl (cn rfl) ?_
    refine s_istore_n rfl (cn rfl) ?_
    refine s_iconst rfl (cn rfl) ?_
    refine s_istore_n rfl (ch rfl) ?_
    have lp11 : ∀ p : Nat, p ≤ n → ∀ (w : Nat) (e : w = os (fun p => p ≠ o ∧ AL n v o p) p), K 11 [some (.ref 0), some (.int (ii (o : Int))), some (.int (ii (w : Int))), some (.int (ii (p : Int)))] [] (N, S, h) := by
      refine dn (fun p hp ih11 => ?_)
      intro w e
      refine hK _ _ _ _ ?_
      refine s_iload_n rfl (cn rfl) rfl ?_
      refine s_aload_n rfl (cn rfl) rfl ?_
      refine s_getfield rfl (cn rfl) c0 rfl ?_
      refine s_getfield rfl (cn rfl) c1 rfl ?_
      refine s_icmp_ge rfl (cn rfl) (cn rfl) ⟨by omega, by omega⟩ ⟨by omega, by omega⟩ (fun q15 => ?_) (fun q15 => ?_)
      · refine s_iload_n rfl (cn rfl) rfl ?_
        refine s_ireturn rfl ?_
        exact ⟨ri (by rw [if_pos q4, e, show p = n by omega]; rfl), rfl⟩
      · refine s_iload_n rfl (cn rfl) rfl ?_
        refine s_iload_n rfl (cn rfl) rfl ?_
        refine s_icmp_eq rfl (cn rfl) (cn rfl) ⟨by omega, by omega⟩ ⟨by omega, by omega⟩ (fun q18 => ?_) (fun q18 => ?_)
        · refine s_iinc rfl (cn rfl) rfl ?_
          refine s_goto rfl (ch rfl) ?_
          exact ih11 (by omega) _ (by rw [e, os_n (fun hh => hh.1 (by omega))])
        · refine s_aload_n rfl (cn rfl) rfl ?_
          refine s_getfield rfl (cn rfl) c0 rfl ?_
          refine s_iload_n rfl (cn rfl) rfl ?_
          refine s_iload_n rfl (cn rfl) rfl ?_
          refine s_stat rfl (cn rfl) rfl rfl rfl (u_areAlike hn c1 c2 hv ho (by omega)) ?_
          rintro _ _ ⟨rfl, rfl⟩
          refine s_ifb_eq rfl (cn rfl) (cn rfl) (fun q24 => ?_) (fun q24 => ?_)
          · refine s_iinc rfl (cn rfl) rfl ?_
            refine s_goto rfl (ch rfl) ?_
            exact ih11 (by omega) _ (by rw [e, os_n (fun hh => q24 hh.2)])
          · refine s_iload_n rfl (cn rfl) rfl ?_
            refine s_iconst rfl (cn rfl) ?_
            refine s_iload_n rfl (cn rfl) rfl ?_
            refine s_ishl rfl (cn rfl) _ (bi_shl1 (by omega)) ?_
            refine s_ior rfl (cn rfl) _ (bi_or _ _) ?_
            refine s_istore_n rfl (cn rfl) ?_
            refine s_iinc rfl (cn rfl) rfl ?_
            refine s_goto rfl (ch rfl) ?_
            exact ih11 (by omega) _ (by rw [e, os_y ⟨by omega, q24⟩])
    exact lp11 0 (by omega) 0 rfl
  · refine s_iconst rfl (cn rfl) ?_
    refine s_ireturn rfl ?_
    exact ⟨ri (by rw [if_neg q4]), rfl⟩
theorem al_0 {P : Nat → Prop} {g : Nat} {x : Int} (e : x = 1 ↔ ∀ k, k < g → P k) (hx : x = 0) : ((0 : Int) = 1 ↔ ∀ k, k < g + 1 → P k) := ⟨fun h => absurd h (by decide), fun h => absurd (e.mpr (fun k hk => h k (by omega))) (by omega)⟩
theorem al_n {P : Nat → Prop} {g : Nat} (hP : ¬ P g) : ((0 : Int) = 1 ↔ ∀ k, k < g + 1 → P k) := ⟨fun h => absurd h (by decide), fun h => absurd (h g (by omega)) hP⟩
theorem al_y {P : Nat → Prop} {g : Nat} {x : Int} (e : x = 1 ↔ ∀ k, k < g → P k) (h01 : x = 0 ∨ x = 1) (hx : x ≠ 0) (hP : P g) : ((1 : Int) = 1 ↔ ∀ k, k < g + 1 → P k) := ⟨fun _ k hk => by
  by_cases q : k = g
  · rw [q]; exact hP
  · exact e.mp (by omega) k (by omega), fun _ => rfl⟩
theorem m_idle {d N S n : Nat} {kp tp pt wr fa dm ce di be od sm le sc ba bb ti rk ts tm pa wa : Int} {h : Nat → Option rr_E} (hn : 2 ≤ n ∧ n ≤ 4)  {v : Nat → Int} (c58 : h 58 = some (MO (n : Int) kp tp pt wr fa dm ce di be od sm le sc ba bb ti rk ts tm pa wa)) (c59 : h 59 = some (.inl (0, 16, .inl (fun k => ii (v k))))) (hv : ∀ k, -999 ≤ v k ∧ v k ≤ 999) : rr_Calls (d + 2) j_Model_idle [.ref 58] (N, S, h) (fun r R => r = some (.int (ii ((os (AN n v) n : Nat) : Int))) ∧ R = (N, S, h)) := by
  refine rr_meth (C := K_Model_idle) (hd := h_Model_idle) (mx := 5) rfl rfl (fun K hK => ?_)
  have hA := al_b hn
  refine hK _ _ _ _ ?_
  refine s_iconst rfl (cn rfl) ?_
  refine s_istore_n rfl (cn rfl) ?_
  refine s_iconst rfl (cn rfl) ?_
  refine s_istore_n rfl (ch rfl) ?_
  have lp4 : ∀ p : Nat, p ≤ n → ∀ (w : Nat) (e : w = os (AN n v) p) (l3 l4 : Option Value), K 4 [some (.ref 58), some (.int (ii (w : Int))), some (.int (ii (p : Int))), l3, l4] [] (N, S, h) := by
    refine dn (fun p hp ih4 => ?_)
    intro w e l3 l4
    refine hK _ _ _ _ ?_
    refine s_iload_n rfl (cn rfl) rfl ?_
    refine s_aload_n rfl (cn rfl) rfl ?_
    refine s_getfield rfl (cn rfl) c58 rfl ?_
    refine s_icmp_ge rfl (cn rfl) (cn rfl) ⟨by omega, by omega⟩ ⟨by omega, by omega⟩ (fun q7 => ?_) (fun q7 => ?_)
    · refine s_iload_n rfl (cn rfl) rfl ?_
      refine s_ireturn rfl ?_
      exact ⟨ri (by rw [e, show p = n by omega]), rfl⟩
    · refine s_iconst rfl (cn rfl) ?_
      refine s_istore_n rfl (cn rfl) ?_
      refine s_iconst rfl (cn rfl) ?_
      refine s_istore rfl (ch rfl) ?_
      have lp12 : ∀ g : Nat, g ≤ al n + 1 → ∀ (x : Int) (hx : x = 0 ∨ x = 1) (e1 : x = 1 ↔ ∀ k, k < g → (fun k => k.testBit p = false → v (k ||| 2 ^ p) - v k = v (2 ^ p)) k), K 12 [some (.ref 58), some (.int (ii (w : Int))), some (.int (ii (p : Int))), some (.int (ii x)), some (.int (ii (g : Int)))] [] (N, S, h) := by
        refine dn (fun g hg ih12 => ?_)
        intro x hx e1
        have h2 := one_lt hn (show p < n by omega)
        have hv0 := hv (g ||| 2 ^ p)
        have hv1 := hv g
        have hv2 := hv (2 ^ p)
        refine hK _ _ _ _ ?_
        refine s_iload rfl (cn rfl) rfl ?_
        refine s_aload_n rfl (cn rfl) rfl ?_
        refine s_virt rfl (cn rfl) rfl rfl c58 rfl (m_all hn c58) ?_
        rintro _ _ ⟨rfl, rfl⟩
        refine s_icmp_gt rfl (cn rfl) (cn rfl) ⟨by omega, by omega⟩ ⟨by omega, by omega⟩ (fun q15 => ?_) (fun q15 => ?_)
        · refine s_iload_n rfl (cn rfl) rfl ?_
          refine s_iload_n rfl (cn rfl) rfl ?_
          refine s_if_eq rfl (cn rfl) (cn rfl) ⟨by omega, by omega⟩ (fun q50 => ?_) (fun q50 => ?_)
          · refine s_iconst rfl (cn rfl) ?_
            refine s_ior rfl (cn rfl) _ (bi_or _ 0) ?_
            refine s_istore_n rfl (cn rfl) ?_
            refine s_iinc rfl (cn rfl) rfl ?_
            refine s_goto rfl (ch rfl) ?_
            exact ih4 (by omega) _ (by rw [e, Nat.or_zero, os_n (fun hh => absurd (e1.mpr (fun k hk => hh k (by omega))) (by omega))]) _ _
          · refine s_iconst rfl (cn rfl) ?_
            refine s_iload_n rfl (cn rfl) rfl ?_
            refine s_ishl rfl (cn rfl) _ (bi_shl1 (by omega)) ?_
            refine s_goto rfl (cn rfl) ?_
            refine s_ior rfl (cn rfl) _ (bi_or _ _) ?_
            refine s_istore_n rfl (cn rfl) ?_
            refine s_iinc rfl (cn rfl) rfl ?_
            refine s_goto rfl (ch rfl) ?_
            exact ih4 (by omega) _ (by rw [e, os_y (fun k hk => (e1.mp (by omega)) k (by omega))]) _ _
        · refine s_iload_n rfl (cn rfl) rfl ?_
          refine s_if_eq rfl (cn rfl) (cn rfl) ⟨by omega, by omega⟩ (fun q17 => ?_) (fun q17 => ?_)
          · refine s_iconst rfl (cn rfl) ?_
            refine s_istore_n rfl (cn rfl) ?_
            refine s_iinc rfl (cn rfl) rfl ?_
            refine s_goto rfl (ch rfl) ?_
            exact ih12 (by omega) 0 (Or.inl rfl) (al_0 e1 q17)
          · refine s_iload rfl (cn rfl) rfl ?_
            refine s_iload_n rfl (cn rfl) rfl ?_
            refine s_stat rfl (cn rfl) rfl rfl rfl (m_has (by omega) (by omega)) ?_
            rintro _ _ ⟨rfl, rfl⟩
            refine s_ifb_ne rfl (cn rfl) (cn rfl) (fun q21 => ?_) (fun q21 => ?_)
            · refine s_iconst rfl (cn rfl) ?_
              refine s_goto rfl (cn rfl) ?_
              refine s_istore_n rfl (cn rfl) ?_
              refine s_iinc rfl (cn rfl) rfl ?_
              refine s_goto rfl (ch rfl) ?_
              exact ih12 (by omega) 1 (Or.inr rfl) (al_y e1 hx q17 (fun hh => absurd (bt_1.mp q21) (by rw [hh]; decide)))
            · refine s_aload_n rfl (cn rfl) rfl ?_
              refine s_getfield rfl (cn rfl) c58 rfl ?_
              refine s_iload rfl (cn rfl) rfl ?_
              refine s_iconst rfl (cn rfl) ?_
              refine s_iload_n rfl (cn rfl) rfl ?_
              refine s_ishl rfl (cn rfl) _ (bi_shl1 (by omega)) ?_
              refine s_ior rfl (cn rfl) _ (bi_or _ _) ?_
              refine s_iaload rfl (cn rfl) _ rfl c59 rfl (or_16 (by omega) (by omega)) (by decide) rfl ?_
              refine s_aload_n rfl (cn rfl) rfl ?_
              refine s_getfield rfl (cn rfl) c58 rfl ?_
              refine s_iload rfl (cn rfl) rfl ?_
              refine s_iaload rfl (cn rfl) _ rfl c59 rfl (by omega) (by decide) rfl ?_
              refine s_isub rfl (cn rfl) ?_
              refine s_aload_n rfl (cn rfl) rfl ?_
              refine s_getfield rfl (cn rfl) c58 rfl ?_
              refine s_iconst rfl (cn rfl) ?_
              refine s_iload_n rfl (cn rfl) rfl ?_
              refine s_ishl rfl (cn rfl) _ (bi_shl1 (by omega)) ?_
              refine s_iaload rfl (cn rfl) _ rfl c59 rfl (by omega) (by decide) rfl ?_
              refine s_icmp_ne rfl (cn rfl) (cn rfl) ⟨by omega, by omega⟩ ⟨by omega, by omega⟩ (fun q41 => ?_) (fun q41 => ?_)
              · refine s_iconst rfl (cn rfl) ?_
                refine s_istore_n rfl (cn rfl) ?_
                refine s_iinc rfl (cn rfl) rfl ?_
                refine s_goto rfl (ch rfl) ?_
                exact ih12 (by omega) 0 (Or.inl rfl) (al_n (fun hh => q41 (hh (bf.mp q21))))
              · refine s_iconst rfl (cn rfl) ?_
                refine s_goto rfl (cn rfl) ?_
                refine s_istore_n rfl (cn rfl) ?_
                refine s_iinc rfl (cn rfl) rfl ?_
                refine s_goto rfl (ch rfl) ?_
                exact ih12 (by omega) 1 (Or.inr rfl) (al_y e1 hx q17 (fun _ => q41))
      exact lp12 0 (by omega) 1 (Or.inr rfl) ⟨fun _ k q => absurd q (by omega), fun _ => rfl⟩
  exact lp4 0 (by omega) 0 rfl none none
theorem ac_0 {C : Prop} {P : Nat → Prop} {g : Nat} {x : Int} (e : x = 1 ↔ (C ∧ ∀ k, k < g → P k)) (hx : x = 0) : ((0 : Int) = 1 ↔ (C ∧ ∀ k, k < g + 1 → P k)) := ⟨fun h => absurd h (by decide), fun h => absurd (e.mpr ⟨h.1, fun k hk => h.2 k (by omega)⟩) (by omega)⟩
theorem ac_n {C : Prop} {P : Nat → Prop} {g : Nat} (hP : ¬ P g) : ((0 : Int) = 1 ↔ (C ∧ ∀ k, k < g + 1 → P k)) := ⟨fun h => absurd h (by decide), fun h => absurd (h.2 g (by omega)) hP⟩
theorem ac_y {C : Prop} {P : Nat → Prop} {g : Nat} {x : Int} (e : x = 1 ↔ (C ∧ ∀ k, k < g → P k)) (h01 : x = 0 ∨ x = 1) (hx : x ≠ 0) (hP : P g) : ((1 : Int) = 1 ↔ (C ∧ ∀ k, k < g + 1 → P k)) := ⟨fun _ => ⟨(e.mp (by omega)).1, fun k hk => by
  by_cases q : k = g
  · rw [q]; exact hP
  · exact (e.mp (by omega)).2 k (by omega)⟩, fun _ => rfl⟩
theorem m_alike {d N S n : Nat} {kp tp pt wr fa dm ce di be od sm le sc ba bb ti rk ts tm pa wa : Int} {h : Nat → Option rr_E} (hn : 2 ≤ n ∧ n ≤ 4)  {v : Nat → Int} (c58 : h 58 = some (MO (n : Int) kp tp pt wr fa dm ce di be od sm le sc ba bb ti rk ts tm pa wa)) (c59 : h 59 = some (.inl (0, 16, .inl (fun k => ii (v k))))) (hv : ∀ k, -999 ≤ v k ∧ v k ≤ 999) {a : Int} (ha : b3 a) : rr_Calls (d + 3) j_Model_alike [.ref 58, .int (ii a)] (N, S, h) (fun r R => r = some (.int (ii (if 0 ≤ a ∧ a < n then ((os (fun p => p ≠ a.toNat ∧ AL n v a.toNat p) n : Nat) : Int) else -1))) ∧ R = (N, S, h)) := by
  refine rr_meth (C := K_Model_alike) (hd := h_Model_alike) (mx := 6) rfl rfl (fun K hK => ?_)
  have hA := al_b hn
  refine hK _ _ _ _ ?_
  refine s_aload_n rfl (cn rfl) rfl ?_
  refine s_iload_n rfl (cn rfl) rfl ?_
  refine s_virt rfl (cn rfl) rfl rfl c58 rfl (m_isOne hn c58 (by omega)) ?_
  rintro _ _ ⟨rfl, rfl⟩
  refine s_ifb_ne rfl (cn rfl) (cn rfl) (fun q3 => ?_) (fun q3 => ?_)
  · obtain ⟨o, rfl⟩ := Int.eq_ofNat_of_zero_le q3.1
    have ho : o < n := by omega
    refine s_iconst rfl (cn rfl) ?_
    refine s_istore_n rfl (cn rfl) ?_
    refine s_iconst rfl (cn rfl) ?_
    refine s_istore_n rfl (ch rfl) ?_
    have lp10 : ∀ p : Nat, p ≤ n → ∀ (w : Nat) (e : w = os (fun p => p ≠ o ∧ AL n v o p) p) (l4 l5 : Option Value), K 10 [some (.ref 58), some (.int (ii (o : Int))), some (.int (ii (w : Int))), some (.int (ii (p : Int))), l4, l5] [] (N, S, h) := by
      refine dn (fun p hp ih10 => ?_)
      intro w e l4 l5
      refine hK _ _ _ _ ?_
      refine s_iload_n rfl (cn rfl) rfl ?_
      refine s_aload_n rfl (cn rfl) rfl ?_
      refine s_getfield rfl (cn rfl) c58 rfl ?_
      refine s_icmp_ge rfl (cn rfl) (cn rfl) ⟨by omega, by omega⟩ ⟨by omega, by omega⟩ (fun q13 => ?_) (fun q13 => ?_)
      · refine s_iload_n rfl (cn rfl) rfl ?_
        refine s_ireturn rfl ?_
        exact ⟨ri (by rw [if_pos q3, e, show p = n by omega]; rfl), rfl⟩
      · refine s_iload_n rfl (cn rfl) rfl ?_
        refine s_iload_n rfl (cn rfl) rfl ?_
        refine s_icmp_eq rfl (cn rfl) (cn rfl) ⟨by omega, by omega⟩ ⟨by omega, by omega⟩ (fun q16 => ?_) (fun q16 => ?_)
        · refine s_iconst rfl (cn rfl) ?_
          refine s_istore rfl (cn rfl) ?_
          refine s_iconst rfl (cn rfl) ?_
          refine s_istore rfl (ch rfl) ?_
          have lp23 : ∀ g : Nat, g ≤ al n + 1 → ∀ (x : Int) (hx : x = 0 ∨ x = 1) (e1 : x = 1 ↔ (p ≠ o ∧ ∀ k, k < g → (fun k => k.testBit o = false → k.testBit p = false → v (k ||| 2 ^ o) = v (k ||| 2 ^ p)) k)), K 23 [some (.ref 58), some (.int (ii (o : Int))), some (.int (ii (w : Int))), some (.int (ii (p : Int))), some (.int (ii x)), some (.int (ii (g : Int)))] [] (N, S, h) := by
            refine dn (fun g hg ih23 => ?_)
            intro x hx e1
            have h2 := one_lt hn (show p < n by omega)
            have h3 := one_lt hn ho
            have hv0 := hv (g ||| 2 ^ p)
            have hv1 := hv (g ||| 2 ^ o)
            refine hK _ _ _ _ ?_
            refine s_iload rfl (cn rfl) rfl ?_
            refine s_aload_n rfl (cn rfl) rfl ?_
            refine s_virt rfl (cn rfl) rfl rfl c58 rfl (m_all hn c58) ?_
            rintro _ _ ⟨rfl, rfl⟩
            refine s_icmp_gt rfl (cn rfl) (cn rfl) ⟨by omega, by omega⟩ ⟨by omega, by omega⟩ (fun q26 => ?_) (fun q26 => ?_)
            · refine s_iload_n rfl (cn rfl) rfl ?_
              refine s_iload rfl (cn rfl) rfl ?_
              refine s_if_eq rfl (cn rfl) (cn rfl) ⟨by omega, by omega⟩ (fun q62 => ?_) (fun q62 => ?_)
              · refine s_iconst rfl (cn rfl) ?_
                refine s_ior rfl (cn rfl) _ (bi_or _ 0) ?_
                refine s_istore_n rfl (cn rfl) ?_
                refine s_iinc rfl (cn rfl) rfl ?_
                refine s_goto rfl (ch rfl) ?_
                exact ih10 (by omega) _ (by rw [e, Nat.or_zero, os_n (fun hh => absurd (e1.mpr ⟨hh.1, fun k hk => hh.2 k (by omega)⟩) (by omega))]) _ _
              · refine s_iconst rfl (cn rfl) ?_
                refine s_iload_n rfl (cn rfl) rfl ?_
                refine s_ishl rfl (cn rfl) _ (bi_shl1 (by omega)) ?_
                refine s_goto rfl (cn rfl) ?_
                refine s_ior rfl (cn rfl) _ (bi_or _ _) ?_
                refine s_istore_n rfl (cn rfl) ?_
                refine s_iinc rfl (cn rfl) rfl ?_
                refine s_goto rfl (ch rfl) ?_
                exact ih10 (by omega) _ (by rw [e, os_y ⟨(e1.mp (by omega)).1, fun k hk => (e1.mp (by omega)).2 k (by omega)⟩]) _ _
            · refine s_iload rfl (cn rfl) rfl ?_
              refine s_if_eq rfl (cn rfl) (cn rfl) ⟨by omega, by omega⟩ (fun q28 => ?_) (fun q28 => ?_)
              · refine s_iconst rfl (cn rfl) ?_
                refine s_istore rfl (cn rfl) ?_
                refine s_iinc rfl (cn rfl) rfl ?_
                refine s_goto rfl (ch rfl) ?_
                exact ih23 (by omega) 0 (Or.inl rfl) (ac_0 e1 q28)
              · refine s_iload rfl (cn rfl) rfl ?_
                refine s_iload_n rfl (cn rfl) rfl ?_
                refine s_stat rfl (cn rfl) rfl rfl rfl (m_has (by omega) (by omega)) ?_
                rintro _ _ ⟨rfl, rfl⟩
                refine s_ifb_ne rfl (cn rfl) (cn rfl) (fun q32 => ?_) (fun q32 => ?_)
                · refine s_iconst rfl (cn rfl) ?_
                  refine s_goto rfl (cn rfl) ?_
                  refine s_istore rfl (cn rfl) ?_
                  refine s_iinc rfl (cn rfl) rfl ?_
                  refine s_goto rfl (ch rfl) ?_
                  exact ih23 (by omega) 1 (Or.inr rfl) (ac_y e1 hx q28 (fun _ hh => absurd (bt_1.mp q32) (by rw [hh]; decide)))
                · refine s_iload rfl (cn rfl) rfl ?_
                  refine s_iload_n rfl (cn rfl) rfl ?_
                  refine s_stat rfl (cn rfl) rfl rfl rfl (m_has (by omega) (by omega)) ?_
                  rintro _ _ ⟨rfl, rfl⟩
                  refine s_ifb_ne rfl (cn rfl) (cn rfl) (fun q36 => ?_) (fun q36 => ?_)
                  · refine s_iconst rfl (cn rfl) ?_
                    refine s_goto rfl (cn rfl) ?_
                    refine s_istore rfl (cn rfl) ?_
                    refine s_iinc rfl (cn rfl) rfl ?_
                    refine s_goto rfl (ch rfl) ?_
                    exact ih23 (by omega) 1 (Or.inr rfl) (ac_y e1 hx q28 (fun hh _ => absurd (bt_1.mp q36) (by rw [hh]; decide)))
                  · refine s_aload_n rfl (cn rfl) rfl ?_
                    refine s_getfield rfl (cn rfl) c58 rfl ?_
                    refine s_iload rfl (cn rfl) rfl ?_
                    refine s_iconst rfl (cn rfl) ?_
                    refine s_iload_n rfl (cn rfl) rfl ?_
                    refine s_ishl rfl (cn rfl) _ (bi_shl1 (by omega)) ?_
                    refine s_ior rfl (cn rfl) _ (bi_or _ _) ?_
                    refine s_iaload rfl (cn rfl) _ rfl c59 rfl (or_16 (by omega) (by omega)) (by decide) rfl ?_
                    refine s_aload_n rfl (cn rfl) rfl ?_
                    refine s_getfield rfl (cn rfl) c58 rfl ?_
                    refine s_iload rfl (cn rfl) rfl ?_
                    refine s_iconst rfl (cn rfl) ?_
                    refine s_iload_n rfl (cn rfl) rfl ?_
                    refine s_ishl rfl (cn rfl) _ (bi_shl1 (by omega)) ?_
                    refine s_ior rfl (cn rfl) _ (bi_or _ _) ?_
                    refine s_iaload rfl (cn rfl) _ rfl c59 rfl (or_16 (by omega) (by omega)) (by decide) rfl ?_
                    refine s_icmp_ne rfl (cn rfl) (cn rfl) ⟨by omega, by omega⟩ ⟨by omega, by omega⟩ (fun q53 => ?_) (fun q53 => ?_)
                    · refine s_iconst rfl (cn rfl) ?_
                      refine s_istore rfl (cn rfl) ?_
                      refine s_iinc rfl (cn rfl) rfl ?_
                      refine s_goto rfl (ch rfl) ?_
                      exact ih23 (by omega) 0 (Or.inl rfl) (ac_n (fun hh => q53 (hh (bf.mp q36) (bf.mp q32)).symm))
                    · refine s_iconst rfl (cn rfl) ?_
                      refine s_goto rfl (cn rfl) ?_
                      refine s_istore rfl (cn rfl) ?_
                      refine s_iinc rfl (cn rfl) rfl ?_
                      refine s_goto rfl (ch rfl) ?_
                      exact ih23 (by omega) 1 (Or.inr rfl) (ac_y e1 hx q28 (fun _ _ => q53.symm))
          exact lp23 0 (by omega) _ (by decide) ⟨fun h => by first | exact absurd h (by decide) | exact ⟨by omega, fun k q => absurd q (by omega)⟩, fun h => by first | rfl | (exfalso; omega)⟩
        · refine s_iconst rfl (cn rfl) ?_
          refine s_goto rfl (cn rfl) ?_
          refine s_istore rfl (cn rfl) ?_
          refine s_iconst rfl (cn rfl) ?_
          refine s_istore rfl (ch rfl) ?_
          have lp23 : ∀ g : Nat, g ≤ al n + 1 → ∀ (x : Int) (hx : x = 0 ∨ x = 1) (e1 : x = 1 ↔ (p ≠ o ∧ ∀ k, k < g → (fun k => k.testBit o = false → k.testBit p = false → v (k ||| 2 ^ o) = v (k ||| 2 ^ p)) k)), K 23 [some (.ref 58), some (.int (ii (o : Int))), some (.int (ii (w : Int))), some (.int (ii (p : Int))), some (.int (ii x)), some (.int (ii (g : Int)))] [] (N, S, h) := by
            refine dn (fun g hg ih23 => ?_)
            intro x hx e1
            have h2 := one_lt hn (show p < n by omega)
            have h3 := one_lt hn ho
            have hv0 := hv (g ||| 2 ^ p)
            have hv1 := hv (g ||| 2 ^ o)
            refine hK _ _ _ _ ?_
            refine s_iload rfl (cn rfl) rfl ?_
            refine s_aload_n rfl (cn rfl) rfl ?_
            refine s_virt rfl (cn rfl) rfl rfl c58 rfl (m_all hn c58) ?_
            rintro _ _ ⟨rfl, rfl⟩
            refine s_icmp_gt rfl (cn rfl) (cn rfl) ⟨by omega, by omega⟩ ⟨by omega, by omega⟩ (fun q26 => ?_) (fun q26 => ?_)
            · refine s_iload_n rfl (cn rfl) rfl ?_
              refine s_iload rfl (cn rfl) rfl ?_
              refine s_if_eq rfl (cn rfl) (cn rfl) ⟨by omega, by omega⟩ (fun q62 => ?_) (fun q62 => ?_)
              · refine s_iconst rfl (cn rfl) ?_
                refine s_ior rfl (cn rfl) _ (bi_or _ 0) ?_
                refine s_istore_n rfl (cn rfl) ?_
                refine s_iinc rfl (cn rfl) rfl ?_
                refine s_goto rfl (ch rfl) ?_
                exact ih10 (by omega) _ (by rw [e, Nat.or_zero, os_n (fun hh => absurd (e1.mpr ⟨hh.1, fun k hk => hh.2 k (by omega)⟩) (by omega))]) _ _
              · refine s_iconst rfl (cn rfl) ?_
                refine s_iload_n rfl (cn rfl) rfl ?_
                refine s_ishl rfl (cn rfl) _ (bi_shl1 (by omega)) ?_
                refine s_goto rfl (cn rfl) ?_
                refine s_ior rfl (cn rfl) _ (bi_or _ _) ?_
                refine s_istore_n rfl (cn rfl) ?_
                refine s_iinc rfl (cn rfl) rfl ?_
                refine s_goto rfl (ch rfl) ?_
                exact ih10 (by omega) _ (by rw [e, os_y ⟨(e1.mp (by omega)).1, fun k hk => (e1.mp (by omega)).2 k (by omega)⟩]) _ _
            · refine s_iload rfl (cn rfl) rfl ?_
              refine s_if_eq rfl (cn rfl) (cn rfl) ⟨by omega, by omega⟩ (fun q28 => ?_) (fun q28 => ?_)
              · refine s_iconst rfl (cn rfl) ?_
                refine s_istore rfl (cn rfl) ?_
                refine s_iinc rfl (cn rfl) rfl ?_
                refine s_goto rfl (ch rfl) ?_
                exact ih23 (by omega) 0 (Or.inl rfl) (ac_0 e1 q28)
              · refine s_iload rfl (cn rfl) rfl ?_
                refine s_iload_n rfl (cn rfl) rfl ?_
                refine s_stat rfl (cn rfl) rfl rfl rfl (m_has (by omega) (by omega)) ?_
                rintro _ _ ⟨rfl, rfl⟩
                refine s_ifb_ne rfl (cn rfl) (cn rfl) (fun q32 => ?_) (fun q32 => ?_)
                · refine s_iconst rfl (cn rfl) ?_
                  refine s_goto rfl (cn rfl) ?_
                  refine s_istore rfl (cn rfl) ?_
                  refine s_iinc rfl (cn rfl) rfl ?_
                  refine s_goto rfl (ch rfl) ?_
                  exact ih23 (by omega) 1 (Or.inr rfl) (ac_y e1 hx q28 (fun _ hh => absurd (bt_1.mp q32) (by rw [hh]; decide)))
                · refine s_iload rfl (cn rfl) rfl ?_
                  refine s_iload_n rfl (cn rfl) rfl ?_
                  refine s_stat rfl (cn rfl) rfl rfl rfl (m_has (by omega) (by omega)) ?_
                  rintro _ _ ⟨rfl, rfl⟩
                  refine s_ifb_ne rfl (cn rfl) (cn rfl) (fun q36 => ?_) (fun q36 => ?_)
                  · refine s_iconst rfl (cn rfl) ?_
                    refine s_goto rfl (cn rfl) ?_
                    refine s_istore rfl (cn rfl) ?_
                    refine s_iinc rfl (cn rfl) rfl ?_
                    refine s_goto rfl (ch rfl) ?_
                    exact ih23 (by omega) 1 (Or.inr rfl) (ac_y e1 hx q28 (fun hh _ => absurd (bt_1.mp q36) (by rw [hh]; decide)))
                  · refine s_aload_n rfl (cn rfl) rfl ?_
                    refine s_getfield rfl (cn rfl) c58 rfl ?_
                    refine s_iload rfl (cn rfl) rfl ?_
                    refine s_iconst rfl (cn rfl) ?_
                    refine s_iload_n rfl (cn rfl) rfl ?_
                    refine s_ishl rfl (cn rfl) _ (bi_shl1 (by omega)) ?_
                    refine s_ior rfl (cn rfl) _ (bi_or _ _) ?_
                    refine s_iaload rfl (cn rfl) _ rfl c59 rfl (or_16 (by omega) (by omega)) (by decide) rfl ?_
                    refine s_aload_n rfl (cn rfl) rfl ?_
                    refine s_getfield rfl (cn rfl) c58 rfl ?_
                    refine s_iload rfl (cn rfl) rfl ?_
                    refine s_iconst rfl (cn rfl) ?_
                    refine s_iload_n rfl (cn rfl) rfl ?_
                    refine s_ishl rfl (cn rfl) _ (bi_shl1 (by omega)) ?_
                    refine s_ior rfl (cn rfl) _ (bi_or _ _) ?_
                    refine s_iaload rfl (cn rfl) _ rfl c59 rfl (or_16 (by omega) (by omega)) (by decide) rfl ?_
                    refine s_icmp_ne rfl (cn rfl) (cn rfl) ⟨by omega, by omega⟩ ⟨by omega, by omega⟩ (fun q53 => ?_) (fun q53 => ?_)
                    · refine s_iconst rfl (cn rfl) ?_
                      refine s_istore rfl (cn rfl) ?_
                      refine s_iinc rfl (cn rfl) rfl ?_
                      refine s_goto rfl (ch rfl) ?_
                      exact ih23 (by omega) 0 (Or.inl rfl) (ac_n (fun hh => q53 (hh (bf.mp q36) (bf.mp q32)).symm))
                    · refine s_iconst rfl (cn rfl) ?_
                      refine s_goto rfl (cn rfl) ?_
                      refine s_istore rfl (cn rfl) ?_
                      refine s_iinc rfl (cn rfl) rfl ?_
                      refine s_goto rfl (ch rfl) ?_
                      exact ih23 (by omega) 1 (Or.inr rfl) (ac_y e1 hx q28 (fun _ _ => q53.symm))
          exact lp23 0 (by omega) _ (by decide) ⟨fun h => by first | exact absurd h (by decide) | exact ⟨by omega, fun k q => absurd q (by omega)⟩, fun h => by first | rfl | (exfalso; omega)⟩
    exact lp10 0 (by omega) 0 rfl none none
  · refine s_iconst rfl (cn rfl) ?_
    refine s_ireturn rfl ?_
    exact ⟨ri (by rw [if_neg q3]), rfl⟩
