/-! What a core would cost: the best row of the table, the least corner. -/
def CX (n : Nat) (v : Nat → Int) (P Q : Int) : Prop := 0 < Q ∧ (∀ r, r ∈ tb_rows n → rsm r v * Q ≤ P * rone r) ∧ ∃ r, r ∈ tb_rows n ∧ rsm r v * Q = P * rone r
theorem CX_u {n : Nat} {v : Nat → Int} {P Q P' Q' : Int} (hn : 2 ≤ n ∧ n ≤ 4) (h : CX n v P Q) (h' : CX n v P' Q') : P * Q' = P' * Q := by
  obtain ⟨h1, h2, r, h3, h4⟩ := h
  obtain ⟨k1, k2, s, k3, k4⟩ := h'
  have a := h2 s k3
  have b := k2 r h3
  have cr := row_tot n (by omega) hn.1 r h3
  have cs := row_tot n (by omega) hn.1 s k3
  have i1 : P * Q' ≤ P' * Q := by
    have e1 := Int.mul_le_mul_of_nonneg_right b (Int.le_of_lt h1)
    have e2 : (P * Q') * rone r ≤ (P' * Q) * rone r := by
      have x1 : rsm r v * Q' * Q = (rsm r v * Q) * Q' := by grind
      have x2 : P' * rone r * Q = (P' * Q) * rone r := by grind
      have x3 : P * rone r * Q' = (P * Q') * rone r := by grind
      rw [x1, h4, x3, x2] at e1; exact e1
    exact Int.le_of_mul_le_mul_right e2 (by omega)
  have i2 : P' * Q ≤ P * Q' := by
    have e1 := Int.mul_le_mul_of_nonneg_right a (Int.le_of_lt k1)
    have e2 : (P' * Q) * rone s ≤ (P * Q') * rone s := by
      have x1 : rsm s v * Q * Q' = (rsm s v * Q') * Q := by grind
      have x2 : P * rone s * Q' = (P * Q') * rone s := by grind
      have x3 : P' * rone s * Q = (P' * Q) * rone s := by grind
      rw [x1, k4, x3, x2] at e1; exact e1
    exact Int.le_of_mul_le_mul_right e2 (by omega)
  omega
theorem rsm_cg {f g : Nat → Int} : ∀ r : List Nat, (∀ x, x ∈ r → x ≠ 0 → f x = g x) → rsm r f = rsm r g
  | [], _ => rfl
  | a :: r, h => by
    show rsm r f + (if a = 0 then 0 else f a) = rsm r g + (if a = 0 then 0 else g a)
    rw [rsm_cg r (fun x hx h0 => h x (List.mem_cons_of_mem a hx) h0)]
    by_cases e : a = 0
    · rw [if_pos e, if_pos e]
    · rw [if_neg e, if_neg e, h a List.mem_cons_self e]
theorem rsm_mul {c : Int} {f : Nat → Int} : ∀ r : List Nat, rsm r (fun g => c * f g) = c * rsm r f
  | [] => (Int.mul_zero c).symm
  | a :: r => by
    show rsm r _ + (if a = 0 then 0 else c * f a) = c * (rsm r f + (if a = 0 then 0 else f a))
    rw [rsm_mul r, Int.mul_add]
    congr 1
    by_cases e : a = 0
    · rw [if_pos e, if_pos e, Int.mul_zero]
    · rw [if_neg e, if_neg e]
theorem rsm_le {f g : Nat → Int} : ∀ r : List Nat, (∀ x, x ∈ r → x ≠ 0 → f x ≤ g x) → rsm r f ≤ rsm r g
  | [], _ => Int.le_refl 0
  | a :: r, h => by
    show rsm r f + (if a = 0 then 0 else f a) ≤ rsm r g + (if a = 0 then 0 else g a)
    have ih := rsm_le r (fun x hx h0 => h x (List.mem_cons_of_mem a hx) h0)
    by_cases e : a = 0
    · rw [if_pos e, if_pos e]; omega
    · rw [if_neg e, if_neg e]
      have := h a List.mem_cons_self e
      omega
/-- a balanced row gives the same of everybody -/
theorem rsm_sh {n : Nat} (hn : 2 ≤ n ∧ n ≤ 4) {r : List Nat} (hr : r ∈ tb_rows n) (x : Nat → Int) : rsm r (fun g => st_sh n g x) = rone r * st_sh n (2 ^ n - 1) x := by
  have gen : ∀ m, rsm r (fun g => ms_sm m (fun i => st_bt g i * x i)) = ms_sm m (fun i => rsm r (fun g => st_bt g i) * x i) := by
    intro m
    induction m with
    | zero =>
      have : ∀ r : List Nat, rsm r (fun g => ms_sm 0 (fun i => st_bt g i * x i)) = 0 := by
        intro r
        induction r with
        | nil => rfl
        | cons a r ih =>
          show rsm r _ + (if a = 0 then 0 else 0) = 0
          rw [ih]; split <;> rfl
      exact this r
    | succ m ih =>
      show rsm r (fun g => ms_sm m (fun i => st_bt g i * x i) + st_bt g m * x m) = ms_sm m _ + rsm r (fun g => st_bt g m) * x m
      rw [← ih]
      have : ∀ r : List Nat, rsm r (fun g => ms_sm m (fun i => st_bt g i * x i) + st_bt g m * x m) = rsm r (fun g => ms_sm m (fun i => st_bt g i * x i)) + rsm r (fun g => st_bt g m) * x m := by
        intro r
        induction r with
        | nil => show (0 : Int) = 0 + 0 * x m; omega
        | cons a r ih2 =>
          show rsm r _ + (if a = 0 then 0 else _) = (rsm r _ + (if a = 0 then 0 else _)) + (rsm r _ + (if a = 0 then 0 else st_bt a m)) * x m
          rw [ih2, Int.add_mul]
          by_cases e : a = 0
          · rw [if_pos e, if_pos e, if_pos e, Int.zero_mul]; omega
          · rw [if_neg e, if_neg e, if_neg e]; dsimp only; omega
      exact this r
  have e1 := gen n
  show rsm r (fun g => ms_sm n (fun i => st_bt g i * x i)) = rone r * ms_sm n (fun i => st_bt (2 ^ n - 1) i * x i)
  rw [e1, ← ms_mul]
  refine ms_cg (fun i hi => ?_)
  rw [row_bal n (by omega) hn.1 r hr i hi]
  have : st_bt (2 ^ n - 1) i = 1 := by
    unfold st_bt
    rw [Nat.testBit_two_pow_sub_one]
    simp [hi]
  rw [this, Int.one_mul]
def rof (n : Nat) (w : Nat → Int) (r : List Nat) (s : Nat) (t b : Int) : Prop := s = tb_sup r ∧ t = rsm r w - rone r * w (2 ^ n - 1) ∧ b = rtot r
theorem BP_ex {n : Nat} {w : Nat → Int} : ∀ l : List (List Nat), (∀ r, r ∈ l → 0 < rtot r) → ∃ s t b, BP (fun s t b => ∃ r, r ∈ l ∧ rof n w r s t b) s t b
  | [], _ => ⟨0, 0, 0, Or.inl ⟨rfl, fun s t b ⟨r, hr, _⟩ => by cases hr⟩⟩
  | r :: l, h => by
    obtain ⟨s, t, b, hB⟩ := BP_ex (n := n) (w := w) l (fun x hx => h x (List.mem_cons_of_mem r hx))
    have hr := h r List.mem_cons_self
    obtain ⟨s0, hs0⟩ : ∃ s0, s0 = tb_sup r := ⟨_, rfl⟩
    obtain ⟨t0, ht0⟩ : ∃ t0, t0 = rsm r w - rone r * w (2 ^ n - 1) := ⟨_, rfl⟩
    obtain ⟨b0, hb0⟩ : ∃ b0, b0 = rtot r := ⟨_, rfl⟩
    have iff : ∀ x y z, (∃ q, q ∈ r :: l ∧ rof n w q x y z) ↔ ((∃ q, q ∈ l ∧ rof n w q x y z) ∨ (x = s0 ∧ y = t0 ∧ z = b0)) := fun x y z => by
      constructor
      · rintro ⟨q, q1, q2⟩
        rcases List.mem_cons.mp q1 with e | e
        · subst e; exact Or.inr ⟨q2.1.trans hs0.symm, q2.2.1.trans ht0.symm, q2.2.2.trans hb0.symm⟩
        · exact Or.inl ⟨q, e, q2⟩
      · rintro (⟨q, q1, q2⟩ | ⟨rfl, rfl, rfl⟩)
        · exact ⟨q, List.mem_cons_of_mem r q1, q2⟩
        · exact ⟨r, List.mem_cons_self, hs0, ht0, hb0⟩
    by_cases c1 : b = 0 ∨ t * b0 < t0 * b
    · exact ⟨s0, t0, b0, BP_cg (BP_s hB (by omega) (fun _ => ⟨rfl, rfl, rfl⟩) (fun q1 q2 => by omega) (fun q1 q2 => by omega)) (fun x y z => (iff x y z).symm)⟩
    · by_cases c2 : t0 * b = t * b0
      · exact ⟨s ||| s0, t, b, BP_cg (BP_s hB (by omega) (fun q => absurd q c1) (fun _ _ => ⟨rfl, rfl, rfl⟩) (fun q1 q2 => by omega)) (fun x y z => (iff x y z).symm)⟩
      · exact ⟨s, t, b, BP_cg (BP_s hB (by omega) (fun q => absurd q c1) (fun _ q => absurd q c2) (fun _ _ => ⟨rfl, rfl, rfl⟩)) (fun x y z => (iff x y z).symm)⟩
/-- at that price a core is there -/
theorem cost_pt {n : Nat} {v : Nat → Int} {P Q : Int} (hn : 2 ≤ n ∧ n ≤ 4) (h : CX n v P Q) : ∃ (u : Int) (x : Nat → Int), 0 < u ∧ st_sh n (2 ^ n - 1) x = u * P ∧ ∀ g, 1 ≤ g → g < 2 ^ n - 1 → u * (Q * v g) ≤ st_sh n g x := by
  obtain ⟨h1, h2, r0, h3, h4⟩ := h
  obtain ⟨w, hw⟩ : ∃ w : Nat → Int, w = fun g => if g = 2 ^ n - 1 then P else Q * v g := ⟨_, rfl⟩
  have wN : w (2 ^ n - 1) = P := by rw [hw]; exact if_pos rfl
  have wg : ∀ g, g ≠ 2 ^ n - 1 → w g = Q * v g := fun g hg => by rw [hw]; exact if_neg hg
  have rw_ : ∀ r, r ∈ tb_rows n → rsm r w = Q * rsm r v := fun r hr => by
    rw [← rsm_mul]
    exact rsm_cg r (fun x hx _ => wg x (by have := row_in n (by omega) hn.1 r hr x hx; omega))
  obtain ⟨s, t, b, hB⟩ := BP_ex (n := n) (w := w) (tb_rows n) (fun r hr => (row_tot n (by omega) hn.1 r hr).1)
  have hB2 : BP (PT n w) s t b := BP_cg hB (fun x y z => by
    unfold PT rof
    exact Iff.rfl)
  have t0 : ∀ r, r ∈ tb_rows n → rsm r w - rone r * w (2 ^ n - 1) ≤ 0 := fun r hr => by
    rw [rw_ r hr, wN]
    have := h2 r hr
    have e1 : Q * rsm r v = rsm r v * Q := Int.mul_comm _ _
    have e2 : rone r * P = P * rone r := Int.mul_comm _ _
    omega
  have tz : b ≠ 0 ∧ t = 0 := by
    rcases hB with ⟨b1, b2⟩ | ⟨b1, ⟨s1, r1, r2, r3⟩, b3, _⟩
    · exact absurd ⟨r0, h3, rfl, rfl, rfl⟩ (b2 (tb_sup r0) _ _)
    · refine ⟨by omega, ?_⟩
      have c1 : t ≤ 0 := by rw [r3.2.1]; exact t0 r1 r2
      have c2 := b3 _ _ _ ⟨r0, h3, rfl, rfl, rfl⟩
      have e0 : rsm r0 w - rone r0 * w (2 ^ n - 1) = 0 := by
        rw [rw_ r0 h3, wN]
        have e1 : Q * rsm r0 v = rsm r0 v * Q := Int.mul_comm _ _
        have e2 : rone r0 * P = P * rone r0 := Int.mul_comm _ _
        omega
      rw [e0, Int.zero_mul] at c2
      have rt := (row_tot n (by omega) hn.1 r0 h3).1
      apply Classical.byContradiction
      intro q
      have : t * rtot r0 < 0 := Int.mul_neg_of_neg_of_pos (by omega) rt
      omega
  obtain ⟨⟨u, x, f1, f2⟩, _⟩ := cs_first (lp := fun _ => 0) (lq := fun _ => 0) (p := 0) (q := 1) hn hB2 tz.1 (by decide) (by rw [tz.2, Int.zero_mul, Int.mul_zero])
  refine ⟨u, x, f1.1, by rw [f1.2.1, wN], fun g g1 g2 => ?_⟩
  have := (f2 g ⟨g1, g2, id⟩).1
  rw [wg g (by omega)] at this
  rw [Int.one_mul, Int.mul_zero] at this
  omega
