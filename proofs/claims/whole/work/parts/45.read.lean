/-! Reading the tape: what is read, and the class's reader. -/
noncomputable abbrev cite {α : Type} (p : Prop) (a b : α) : α := @ite α p (Classical.propDecidable p) a b
theorem ci_y {α : Type} {p : Prop} {a b : α} (h : p) : cite p a b = a := if_pos h
theorem ci_n {α : Type} {p : Prop} {a b : α} (h : ¬ p) : cite p a b = b := if_neg h
def hr (tp : Nat → Int) (tl p : Nat) : Int := if p < tl then tp p else -1
def isL (tp : Nat → Int) (tl p : Nat) : Prop := 97 ≤ hr tp tl p ∧ hr tp tl p ≤ 122
theorem isL_lt {tp : Nat → Int} {tl p : Nat} (h : isL tp tl p) : p < tl ∧ 97 ≤ tp p ∧ tp p ≤ 122 := by
  unfold isL hr at h
  by_cases q : p < tl
  · rw [if_pos q] at h; exact ⟨q, h⟩
  · rw [if_neg q] at h; omega
theorem hr_b {tp : Nat → Int} {tl : Nat} (ht : ∀ p, p < tl → 1 ≤ tp p ∧ tp p ≤ 127) (p : Nat) : -1 ≤ hr tp tl p ∧ hr tp tl p ≤ 127 := by
  unfold hr
  split
  · have := ht p (by assumption); omega
  · omega
theorem hr_in {tp : Nat → Int} {tl p : Nat} (h : hr tp tl p ≠ -1) : p < tl ∧ hr tp tl p = tp p := by
  unfold hr at *
  by_cases q : p < tl
  · rw [if_pos q]; exact ⟨q, rfl⟩
  · rw [if_neg q] at h; exact absurd rfl h
noncomputable def plN (tp : Nat → Int) (tl p : Nat) : Nat := (ff p (tl + 1) (fun q => ¬ isL tp tl q) 0).toNat
theorem pl_e {tp : Nat → Int} {tl p q : Nat} (h1 : p ≤ q) (h2 : q ≤ tl) (h3 : ∀ j, p ≤ j → j < q → isL tp tl j) (h4 : ¬ isL tp tl q) : plN tp tl p = q := by
  have : (q : Int) = ff p (tl + 1) (fun q => ¬ isL tp tl q) 0 := ff_y h1 (by omega) h4 (fun k k1 k2 k3 => k3 (h3 k k1 k2))
  unfold plN
  rw [← this]; rfl
theorem pl_s {tp : Nat → Int} {tl p : Nat} (hp : p ≤ tl) : p ≤ plN tp tl p ∧ plN tp tl p ≤ tl ∧ (∀ j, p ≤ j → j < plN tp tl p → isL tp tl j) ∧ ¬ isL tp tl (plN tp tl p) := by
  have hl : ¬ isL tp tl tl := fun q => absurd (isL_lt q).1 (by omega)
  rcases Classical.choose_spec (isF_e p (fun q => ¬ isL tp tl q) 0 (tl + 1)) with ⟨g, g1, g2, g3, g4, g5⟩ | ⟨g1, g2⟩
  · have : plN tp tl p = g := by
      unfold plN ff
      rw [g5]; rfl
    rw [this]
    exact ⟨g1, by omega, fun j j1 j2 => Classical.not_not.mp (g4 j j1 j2), g3⟩
  · exact absurd hl (g1 tl hp (by omega))
def spl (w : Nat → Nat) (L : Nat) (tp : Nat → Int) (f t : Nat) : Prop := t = f + L ∧ ∀ k, k < L → tp (f + k) = (w k : Int)
noncomputable def kd (tp : Nat → Int) (f t : Nat) : Int := cite (spl WB0 6 tp f t) 0 (cite (spl WB1 5 tp f t) 1 (cite (spl WB2 4 tp f t) 2 (cite (spl WB3 4 tp f t) 3 (cite (spl WB4 4 tp f t) 4 (cite (spl WB5 4 tp f t) 5 (-1))))))
theorem kd_b (tp : Nat → Int) (f t : Nat) : kd tp f t = -1 ∨ (0 ≤ kd tp f t ∧ kd tp f t ≤ 5 ∧ f + 4 ≤ t) := by
  unfold kd
  by_cases h0 : spl WB0 6 tp f t
  · rw [ci_y h0]; exact Or.inr ⟨by decide, by decide, by have := h0.1; omega⟩
  · rw [ci_n h0]
    by_cases h1 : spl WB1 5 tp f t
    · rw [ci_y h1]; exact Or.inr ⟨by decide, by decide, by have := h1.1; omega⟩
    · rw [ci_n h1]
      by_cases h2 : spl WB2 4 tp f t
      · rw [ci_y h2]; exact Or.inr ⟨by decide, by decide, by have := h2.1; omega⟩
      · rw [ci_n h2]
        by_cases h3 : spl WB3 4 tp f t
        · rw [ci_y h3]; exact Or.inr ⟨by decide, by decide, by have := h3.1; omega⟩
        · rw [ci_n h3]
          by_cases h4 : spl WB4 4 tp f t
          · rw [ci_y h4]; exact Or.inr ⟨by decide, by decide, by have := h4.1; omega⟩
          · rw [ci_n h4]
            by_cases h5 : spl WB5 4 tp f t
            · rw [ci_y h5]; exact Or.inr ⟨by decide, by decide, by have := h5.1; omega⟩
            · rw [ci_n h5]; exact Or.inl rfl
def rB (tp : Nat → Int) (tl p : Nat) : Nat ⊕ Nat := if hr tp tl p = 32 then .inr (p + 1) else .inl p
def rf (tp : Nat → Int) (tl : Nat) : Nat → Nat → Int → Nat × Int
  | 0, s, x => (s, x)
  | k + 1, s, x => if 48 ≤ hr tp tl s ∧ hr tp tl s ≤ 57 then rf tp tl k (s + 1) (x * 10 + hr tp tl s - 48) else (s, x)
def rNs (tp : Nat → Int) (tl p : Nat) : Nat := if hr tp tl p = 45 then p + 1 else p
def rN (tp : Nat → Int) (tl p : Nat) : Nat ⊕ (Nat × Int) := if 48 ≤ hr tp tl (rNs tp tl p) ∧ hr tp tl (rNs tp tl p) ≤ 57 then .inr ((rf tp tl 3 (rNs tp tl p) 0).1, if hr tp tl p = 45 then -(rf tp tl 3 (rNs tp tl p) 0).2 else (rf tp tl 3 (rNs tp tl p) 0).2) else .inl (rNs tp tl p)
def bO (c : Int) : Nat := if 97 ≤ c ∧ c ≤ 100 then 2 ^ (c - 97).toNat else 0
def gV (tp : Nat → Int) (p t : Nat) : Prop := p < t ∧ ∀ j, p ≤ j → j < t → tp j ≤ 100 ∧ (p < j → tp (j - 1) < tp j)
def gS (tp : Nat → Int) (p : Nat) : Nat → Nat
  | 0 => 0
  | k + 1 => gS tp p k ||| 2 ^ (tp (p + k) - 97).toNat
noncomputable def rG (tp : Nat → Int) (tl p : Nat) : Nat ⊕ (Nat × Int) := cite (gV tp p (plN tp tl p)) (.inr (plN tp tl p, ((gS tp p (plN tp tl p - p) : Nat) : Int))) (.inl p)
noncomputable def rP (tp : Nat → Int) (tl p : Nat) : Nat ⊕ (Nat × Int) := if plN tp tl p = p + 1 ∧ tp p ≤ 100 then .inr (plN tp tl p, tp p - 97) else .inl p
def sb {α β : Type} (m : Nat ⊕ α) (f : α → Nat ⊕ β) : Nat ⊕ β := match m with
  | .inl e => .inl e
  | .inr a => f a
noncomputable def rA (tp : Nat → Int) (tl : Nat) (k : Int) (p : Nat) : Nat ⊕ (Nat × Int × Int) :=
  if k = 0 then sb (rB tp tl p) (fun q => sb (rN tp tl q) (fun x => .inr (x.1, x.2, 0)))
  else if k = 1 ∨ k = 2 then sb (rB tp tl p) (fun q => sb (rG tp tl q) (fun x => sb (rB tp tl x.1) (fun q2 => sb (rN tp tl q2) (fun y => .inr (y.1, x.2, y.2)))))
  else if k = 5 then sb (rB tp tl p) (fun q => sb (rP tp tl q) (fun x => sb (rB tp tl x.1) (fun q2 => sb (rP tp tl q2) (fun y => .inr (y.1, x.2, y.2)))))
  else .inr (p, 0, 0)
noncomputable def rD (tp : Nat → Int) (tl p : Nat) : Nat ⊕ (Nat × Int × Int × Int) := if kd tp p (plN tp tl p) = -1 then .inl p else sb (rA tp tl (kd tp p (plN tp tl p)) (plN tp tl p)) (fun x => .inr (x.1, kd tp p (plN tp tl p), x.2.1, x.2.2))
theorem rf_b {tp : Nat → Int} {tl : Nat} : ∀ k s x, s ≤ tl → 0 ≤ x → x ≤ 999 → (k = 3 → x = 0) → (k = 2 → x ≤ 9) → (k = 1 → x ≤ 99) → k ≤ 3 → s ≤ (rf tp tl k s x).1 ∧ (rf tp tl k s x).1 ≤ tl ∧ 0 ≤ (rf tp tl k s x).2 ∧ (rf tp tl k s x).2 ≤ 999
  | 0, s, x, h1, h2, h3, _, _, _, _ => ⟨Nat.le_refl _, h1, h2, h3⟩
  | k + 1, s, x, h1, h2, h3, h4, h5, h6, h7 => by
    unfold rf
    by_cases q : 48 ≤ hr tp tl s ∧ hr tp tl s ≤ 57
    · rw [if_pos q]
      have hs := hr_in (p := s) (tp := tp) (tl := tl) (by omega)
      have := rf_b (tp := tp) (tl := tl) k (s + 1) (x * 10 + hr tp tl s - 48) (by omega) (by omega) (by
        have : k + 1 = 3 ∨ k + 1 = 2 ∨ k + 1 = 1 := by omega
        rcases this with e | e | e
        · have := h4 e; omega
        · have := h5 e; omega
        · have := h6 e; omega) (by omega) (fun e => by have := h4 (by omega); omega) (fun e => by have := h5 (by omega); omega) (by omega)
      exact ⟨by omega, this.2.1, this.2.2.1, this.2.2.2⟩
    · rw [if_neg q]; exact ⟨Nat.le_refl _, h1, h2, h3⟩
theorem rN_b {tp : Nat → Int} {tl p q : Nat} {x : Int} (hp : p ≤ tl) (h : rN tp tl p = .inr (q, x)) : p ≤ q ∧ q ≤ tl ∧ -999 ≤ x ∧ x ≤ 999 := by
  unfold rN at h
  have hs : p ≤ rNs tp tl p ∧ rNs tp tl p ≤ tl := by
    unfold rNs
    by_cases e : hr tp tl p = 45
    · rw [if_pos e]
      have := hr_in (p := p) (tp := tp) (tl := tl) (by omega)
      omega
    · rw [if_neg e]; omega
  have hb := rf_b (tp := tp) (tl := tl) 3 (rNs tp tl p) 0 hs.2 (by decide) (by decide) (fun _ => rfl) (by decide) (by decide) (by decide)
  split at h
  · injection h with h
    injection h with h1 h2
    subst h1
    subst h2
    refine ⟨by omega, hb.2.1, ?_⟩
    split <;> omega
  · cases h
theorem rG_b {tp : Nat → Int} {tl p q : Nat} {x : Int} (hp : p ≤ tl) (h : rG tp tl p = .inr (q, x)) : q = plN tp tl p ∧ p ≤ q ∧ q ≤ tl ∧ gV tp p (plN tp tl p) ∧ x = ((gS tp p (plN tp tl p - p) : Nat) : Int) := by
  have hs := pl_s (tp := tp) hp
  unfold rG at h
  by_cases g : gV tp p (plN tp tl p)
  · rw [ci_y g] at h
    injection h with h
    injection h with h1 h2
    exact ⟨h1.symm, by omega, by omega, g, h2.symm⟩
  · rw [ci_n g] at h
    cases h
theorem rP_b {tp : Nat → Int} {tl p q : Nat} {x : Int} (hp : p ≤ tl) (h : rP tp tl p = .inr (q, x)) : p ≤ q ∧ q ≤ tl ∧ 0 ≤ x ∧ x ≤ 3 := by
  have hs := pl_s (tp := tp) hp
  unfold rP at h
  split at h
  · next g =>
    injection h with h
    injection h with h1 h2
    have := isL_lt (hs.2.2.1 p (by omega) (by omega))
    omega
  · cases h
theorem bO_c {w : Nat} {c c' : Int} (hc : 97 ≤ c) (h3 : 97 ≤ c') (h1 : 2 ^ (c' - 97).toNat ≤ w) (h2 : w < 2 ^ ((c' - 97).toNat + 1)) : w < bO c ↔ (c ≤ 100 ∧ c' < c) := by
  unfold bO
  by_cases q : c ≤ 100
  · rw [if_pos ⟨hc, q⟩]
    constructor
    · intro h
      refine ⟨q, ?_⟩
      by_cases e : c' < c
      · exact e
      · have : 2 ^ (c - 97).toNat ≤ 2 ^ (c' - 97).toNat := Nat.pow_le_pow_right (by decide) (by omega)
        omega
    · intro h
      have : 2 ^ ((c' - 97).toNat + 1) ≤ 2 ^ (c - 97).toNat := Nat.pow_le_pow_right (by decide) (by omega)
      omega
  · rw [if_neg (by omega)]
    constructor
    · intro h; omega
    · intro h; omega
theorem u_here {d N S : Nat} {h : Nat → Option rr_E} {tl : Nat} {sc sf sv : Int} {tp : Nat → Int} {p : Nat} (htl : tl ≤ 100) (hp : p ≤ tl) (ht : ∀ p, p < tl → 1 ≤ tp p ∧ tp p ≤ 127) (c7 : h 7 = some (SC (tl : Int) sc (p : Int) sf sv)) (c8 : h 8 = some (.inl (0, 100, .inl (fun k => ii (tp k))))) : rr_Calls (d + 1) j_Script_here [.ref 7] (N, S, h) (fun r R => r = some (.int (ii (hr tp tl p))) ∧ R = (N, S, h)) := by
  refine rr_meth (C := K_Script_here) (hd := h_Script_here) (mx := 1) rfl rfl (fun K hK => ?_)
  refine hK _ _ _ _ ?_
  refine s_aload_n rfl (cn rfl) rfl ?_
  refine s_getfield rfl (cn rfl) c7 rfl ?_
  refine s_aload_n rfl (cn rfl) rfl ?_
  refine s_getfield rfl (cn rfl) c7 rfl ?_
  refine s_icmp_ge rfl (cn rfl) (cn rfl) ⟨by omega, by omega⟩ ⟨by omega, by omega⟩ (fun q4 => ?_) (fun q4 => ?_)
  · refine s_iconst rfl (cn rfl) ?_
    refine s_ireturn rfl ?_
    first
      | exact ⟨ri (show tp p = if p < tl then tp p else -1 by rw [if_pos (by omega)]), rfl⟩
      | exact ⟨ri (show (-1 : Int) = if p < tl then tp p else -1 by rw [if_neg (by omega)]), rfl⟩
  · refine s_aload_n rfl (cn rfl) rfl ?_
    refine s_getfield rfl (cn rfl) c7 rfl ?_
    refine s_aload_n rfl (cn rfl) rfl ?_
    refine s_getfield rfl (cn rfl) c7 rfl ?_
    refine s_iaload rfl (cn rfl) _ rfl c8 rfl (by omega) (by decide) rfl ?_
    refine s_goto rfl (cn rfl) ?_
    refine s_ireturn rfl ?_
    first
      | exact ⟨ri (show tp p = if p < tl then tp p else -1 by rw [if_pos (by omega)]), rfl⟩
      | exact ⟨ri (show (-1 : Int) = if p < tl then tp p else -1 by rw [if_neg (by omega)]), rfl⟩
theorem u_fail {d N S : Nat} {h : Nat → Option rr_E} {tl : Nat} {sc sp sf sv x : Int} (c7 : h 7 = some (SC (tl : Int) sc sp sf sv)) : rr_Calls (d + 1) j_Script_failAt [.ref 7, .int (ii x)] (N, S, h) (fun r R => r = some (.int (ii 0)) ∧ ∃ h', R = (N, S, h') ∧ fr [7] h h' ∧ h' 7 = some (SC (tl : Int) sc sp x sv)) := by
  refine rr_meth (C := K_Script_failAt) (hd := h_Script_failAt) (mx := 2) rfl rfl (fun K hK => ?_)
  refine hK _ _ _ _ ?_
  refine s_aload_n rfl (cn rfl) rfl ?_
  refine s_iload_n rfl (cn rfl) rfl ?_
  refine s_puti rfl (cn rfl) rfl c7 rfl ?_
  refine s_iconst rfl (cn rfl) ?_
  refine s_zreturn rfl (Or.inl rfl) ?_
  exact ⟨rfl, _, rfl, fr_s (by decide) fr_r, rr_set_eq⟩
theorem u_blank {d N S : Nat} {h : Nat → Option rr_E} {tl : Nat} {sc sf sv : Int} {tp : Nat → Int} {p : Nat} (htl : tl ≤ 100) (hp : p ≤ tl) (ht : ∀ p, p < tl → 1 ≤ tp p ∧ tp p ≤ 127) (c7 : h 7 = some (SC (tl : Int) sc (p : Int) sf sv)) (c8 : h 8 = some (.inl (0, 100, .inl (fun k => ii (tp k))))) : rr_Calls (d + 2) j_Script_readBlank [.ref 7] (N, S, h) (fun r R => (rB tp tl p = .inr (p + 1) ∧ p + 1 ≤ tl ∧ r = some (.int (ii 1)) ∧ ∃ h', R = (N, S, h') ∧ fr [7] h h' ∧ h' 7 = some (SC (tl : Int) sc ((p + 1 : Nat) : Int) sf sv)) ∨ (rB tp tl p = .inl p ∧ r = some (.int (ii 0)) ∧ ∃ h', R = (N, S, h') ∧ fr [7] h h' ∧ h' 7 = some (SC (tl : Int) sc (p : Int) (p : Int) sv))) := by
  refine rr_meth (C := K_Script_readBlank) (hd := h_Script_readBlank) (mx := 1) rfl rfl (fun K hK => ?_)
  have hb := hr_b ht p
  refine hK _ _ _ _ ?_
  refine s_aload_n rfl (cn rfl) rfl ?_
  refine s_virt rfl (cn rfl) rfl rfl c7 rfl (u_here htl hp ht c7 c8) ?_
  rintro _ _ ⟨rfl, rfl⟩
  refine s_bipush rfl (cn rfl) (by decide) ?_
  refine s_icmp_eq rfl (cn rfl) (cn rfl) ⟨by omega, by omega⟩ ⟨by omega, by omega⟩ (fun q3 => ?_) (fun q3 => ?_)
  · refine s_aload_n rfl (cn rfl) rfl ?_
    refine s_dupr rfl (cn rfl) ?_
    refine s_getfield rfl (cn rfl) c7 rfl ?_
    refine s_iconst rfl (cn rfl) ?_
    refine s_iadd rfl (cn rfl) ?_
    refine s_puti rfl (cn rfl) rfl c7 rfl ?_
    refine s_iconst rfl (cn rfl) ?_
    refine s_zreturn rfl (Or.inr rfl) ?_
    exact Or.inl ⟨if_pos q3, (hr_in (tp := tp) (tl := tl) (p := p) (by omega)).1, rfl, _, rfl, fr_s (by decide) fr_r, rr_set_eq⟩
  · refine s_aload_n rfl (cn rfl) rfl ?_
    refine s_aload_n rfl (cn rfl) rfl ?_
    refine s_getfield rfl (cn rfl) c7 rfl ?_
    refine s_virt rfl (cn rfl) rfl rfl c7 rfl (u_fail c7) ?_
    rintro _ _ ⟨rfl, h9, rfl, hf9, d7⟩
    · refine s_zreturn rfl (Or.inl rfl) ?_
      exact Or.inr ⟨if_neg q3, rfl, h9, rfl, hf9, d7⟩
theorem u_fig {d N S : Nat} {h : Nat → Option rr_E} {tl : Nat} {sc sf sv : Int} {tp : Nat → Int} {p : Nat} (htl : tl ≤ 100) (hp : p ≤ tl) (ht : ∀ p, p < tl → 1 ≤ tp p ∧ tp p ≤ 127) (c7 : h 7 = some (SC (tl : Int) sc (p : Int) sf sv)) (c8 : h 8 = some (.inl (0, 100, .inl (fun k => ii (tp k))))) : rr_Calls (d + 2) j_Script_isFigureHere [.ref 7] (N, S, h) (fun r R => r = some (.int (rb (48 ≤ hr tp tl p ∧ hr tp tl p ≤ 57))) ∧ R = (N, S, h)) := by
  refine rr_meth (C := K_Script_isFigureHere) (hd := h_Script_isFigureHere) (mx := 1) rfl rfl (fun K hK => ?_)
  have hb := hr_b ht p
  refine hK _ _ _ _ ?_
  refine s_aload_n rfl (cn rfl) rfl ?_
  refine s_virt rfl (cn rfl) rfl rfl c7 rfl (u_here htl hp ht c7 c8) ?_
  rintro _ _ ⟨rfl, rfl⟩
  refine s_bipush rfl (cn rfl) (by decide) ?_
  refine s_icmp_lt rfl (cn rfl) (cn rfl) ⟨by omega, by omega⟩ ⟨by omega, by omega⟩ (fun q3 => ?_) (fun q3 => ?_)
  · refine s_iconst rfl (cn rfl) ?_
    refine s_zreturn rfl (Or.inl rfl) ?_
    exact ⟨rz_f (by omega), rfl⟩
  · refine s_aload_n rfl (cn rfl) rfl ?_
    refine s_virt rfl (cn rfl) rfl rfl c7 rfl (u_here htl hp ht c7 c8) ?_
    rintro _ _ ⟨rfl, rfl⟩
    refine s_bipush rfl (cn rfl) (by decide) ?_
    refine s_icmp_gt rfl (cn rfl) (cn rfl) ⟨by omega, by omega⟩ ⟨by omega, by omega⟩ (fun q7 => ?_) (fun q7 => ?_)
    · refine s_iconst rfl (cn rfl) ?_
      refine s_zreturn rfl (Or.inl rfl) ?_
      exact ⟨rz_f (by omega), rfl⟩
    · refine s_iconst rfl (cn rfl) ?_
      refine s_goto rfl (cn rfl) ?_
      refine s_zreturn rfl (Or.inr rfl) ?_
      exact ⟨rz_t (by omega), rfl⟩
