/-! A stage is fixed in the model: lowest terms, the wider scale, more certain rows. -/
theorem red_u {a b c d : Int} (hb : 0 < b) (hd : 0 < d) (h : a * d = c * b) (g1 : Int.gcd a b = 1) (g2 : Int.gcd c d = 1) : a = c ∧ b = d := by
  have h1 : b ∣ d := cop_dvd (n := a) ⟨c, by rw [h]; exact Int.mul_comm _ _⟩ (by rw [Int.gcd_comm]; exact g1)
  have h2 : d ∣ b := cop_dvd (n := c) ⟨a, by rw [← h]; exact Int.mul_comm _ _⟩ (by rw [Int.gcd_comm]; exact g2)
  have e : b = d := Int.dvd_antisymm (by omega) (by omega) h1 h2
  subst e
  exact ⟨Int.eq_of_mul_eq_mul_right (by omega) h, rfl⟩
theorem wd_s {sc q : Int} (hs : 0 < sc) (hq : 0 < q) : ∃ k s : Int, 0 < k ∧ 0 < s ∧ sc.tdiv (Int.gcd sc q : Int) = s ∧ s * q = sc * k ∧ (s * q).tdiv sc = k ∧ (s * q).tdiv q = s ∧ ∀ b : Int, sc ∣ b → q ∣ b → s * q ∣ b := by
  have hg : 0 < Int.gcd sc q := Int.gcd_pos_of_ne_zero_left q (by omega)
  have hg2 : (0 : Int) < (Int.gcd sc q : Int) := by omega
  have e1 : (Int.gcd sc q : Int) * sc.tdiv (Int.gcd sc q : Int) = sc := dvd_t (Int.gcd_dvd_left sc q)
  have e2 : (Int.gcd sc q : Int) * q.tdiv (Int.gcd sc q : Int) = q := dvd_t (Int.gcd_dvd_right sc q)
  have p1 : 0 < sc.tdiv (Int.gcd sc q : Int) := by
    apply Int.not_le.mp; intro z
    have := Int.mul_nonneg (Int.le_of_lt hg2) (show 0 ≤ -sc.tdiv (Int.gcd sc q : Int) by omega)
    rw [Int.mul_neg] at this; omega
  have p2 : 0 < q.tdiv (Int.gcd sc q : Int) := by
    apply Int.not_le.mp; intro z
    have := Int.mul_nonneg (Int.le_of_lt hg2) (show 0 ≤ -q.tdiv (Int.gcd sc q : Int) by omega)
    rw [Int.mul_neg] at this; omega
  obtain ⟨s, hs'⟩ : ∃ s, s = sc.tdiv (Int.gcd sc q : Int) := ⟨_, rfl⟩
  obtain ⟨k, hk'⟩ : ∃ k, k = q.tdiv (Int.gcd sc q : Int) := ⟨_, rfl⟩
  rw [← hs'] at e1 p1
  rw [← hk'] at e2 p2
  have e3 : s * q = sc * k := by
    calc s * q = s * ((Int.gcd sc q : Int) * k) := by rw [e2]
      _ = ((Int.gcd sc q : Int) * s) * k := by grind
      _ = sc * k := by rw [e1]
  refine ⟨k, s, p2, p1, hs'.symm, e3, ?_, ?_, fun b h1 h2 => ?_⟩
  · rw [e3]; exact Int.mul_tdiv_cancel_left k (by omega)
  · exact Int.mul_tdiv_cancel s (by omega)
  · have e4 : (Int.gcd sc q : Int) * (Int.lcm sc q : Int) = (Int.gcd sc q : Int) * (s * q) := by
      have := Int.gcd_mul_lcm sc q
      have h5 : ((Int.gcd sc q * Int.lcm sc q : Nat) : Int) = (((sc * q).natAbs : Nat) : Int) := by rw [this, Int.natAbs_mul]
      rw [Int.natCast_mul, Int.natAbs_of_nonneg (Int.le_of_lt (Int.mul_pos hs hq))] at h5
      rw [h5, ← Int.mul_assoc, e1]
    rw [← Int.eq_of_mul_eq_mul_left (by omega) e4]
    exact Int.coe_lcm_dvd h1 h2
section
variable {n ce : Nat} {v : Nat → Int} {fx : Nat → Prop} {lp lq : Nat → Int} {sc : Int} {Rw : Nat → Nat} {rs rs' : Nat → Int}
theorem CR_scale {k : Int} (hk : 0 < k) (h : CR n v fx lp lq sc ce Rw rs) (e : ∀ r, r < ce → rs' r = rs r * k) : CR n v fx lp lq (sc * k) ce Rw rs' := by
  obtain ⟨h1, h2, h3, h4, h5, h6⟩ := h
  refine ⟨Int.mul_pos h1 hk, h2, ⟨h3.1, ?_⟩, fun r r1 r2 => ?_, h5, h6⟩
  · rw [e 0 (by omega), h3.2]; grind
  · obtain ⟨a1, a2, a3⟩ := h4 r r1 r2
    refine ⟨a1, a2, ?_⟩
    rw [e r r2]
    calc lq (Rw r) * (sc * k * v (Rw r) - rs r * k) = (lq (Rw r) * (sc * v (Rw r) - rs r)) * k := by grind
      _ = sc * k * lp (Rw r) := by rw [a3]; grind
theorem CR_fx {fx' : Nat → Prop} (h : CR n v fx lp lq sc ce Rw rs) (e : ∀ g, 1 ≤ g → g < 2 ^ n - 1 → (fx g ↔ fx' g)) : CR n v fx' lp lq sc ce Rw rs := by
  obtain ⟨h1, h2, h3, h4, h5, h6⟩ := h
  refine ⟨h1, h2, h3, fun r r1 r2 => ?_, h5, fun dl hd => ⟨(h6 dl hd).1, fun g g1 g2 g3 => (h6 dl hd).2 g g1 g2 ((e g g1 g2).mpr g3)⟩⟩
  obtain ⟨a1, a2, a3⟩ := h4 r r1 r2
  exact ⟨a1, (e _ a1.1 a1.2).mp a2, a3⟩
theorem CR_n {fx' : Nat → Prop} {g : Nat} (h : CR n v fx lp lq sc ce Rw rs) (e : ∀ k, fx' k ↔ (fx k ∨ k = g)) (h0 : ∀ dl : Nat → Int, (∀ r, r < ce → st_sh n (Rw r) dl = 0) → st_sh n g dl = 0) : CR n v fx' lp lq sc ce Rw rs := by
  obtain ⟨h1, h2, h3, h4, h5, h6⟩ := h
  refine ⟨h1, h2, h3, fun r r1 r2 => ?_, h5, fun dl hd => ⟨(h6 dl hd).1, fun k k1 k2 k3 => ?_⟩⟩
  · obtain ⟨a1, a2, a3⟩ := h4 r r1 r2
    exact ⟨a1, (e _).mpr (Or.inl a2), a3⟩
  · rcases (e k).mp k3 with q | q
    · exact (h6 dl hd).2 k k1 k2 q
    · rw [q]; exact h0 dl hd
/-- so many rows, each telling more than those ahead, aren't more than the unknowns -/
theorem chain_le {k : Nat} (h : ∀ i, i < k → ∃ dl : Nat → Int, (∀ r, r < i → st_sh n (Rw r) dl = 0) ∧ st_sh n (Rw i) dl ≠ 0) : k ≤ n := by
  apply Classical.byContradiction
  intro hk
  obtain ⟨c, ⟨j0, hj0, hc0⟩, hc⟩ := ln_H n k (by omega) (fun i j => st_bt (Rw j) i)
  have hc2 : ∀ dl : Nat → Int, ms_sm k (fun j => c j * st_sh n (Rw j) dl) = 0 := fun dl => by
    unfold st_sh ms_dot
    rw [ms_cg (g := fun j => ms_sm n (fun i => st_bt (Rw j) i * c j * dl i)) (fun j _ => by rw [← ms_mul]; exact ms_cg (fun i _ => by grind)), ms_swap, ms_cg (g := fun _ => 0) (fun i hi => by rw [ms_mulr, hc i hi, Int.zero_mul]), ms_zero]
  have down : ∀ m, m ≤ k → (∀ j, m ≤ j → j < k → c j = 0) → ∀ j, j < k → c j = 0 := by
    intro m
    induction m with
    | zero => exact fun _ q j hj => q j (Nat.zero_le j) hj
    | succ m ih =>
      intro hm q
      refine ih (by omega) (fun j j1 j2 => ?_)
      by_cases e : j = m
      · subst e
        obtain ⟨dl, d1, d2⟩ := h j j2
        have := hc2 dl
        rw [ln_split k j _ j2, ms_cg (g := fun _ => 0) (fun i hi => by
          by_cases e1 : i = j
          · rw [if_pos e1]
          · rw [if_neg e1]
            rcases Nat.lt_or_ge i j with e2 | e2
            · rw [d1 i e2, Int.mul_zero]
            · rw [q i (by omega) hi, Int.zero_mul]), ms_zero, Int.add_zero] at this
        rcases Int.mul_eq_zero.mp this with e3 | e3
        · exact e3
        · exact absurd e3 d2
      · exact q j (by omega) j2
  exact hc0 (down k (Nat.le_refl k) (fun j j1 j2 => by omega) j0 hj0)
theorem CR_y {fx' : Nat → Prop} {g : Nat} {t : Int} (h : CR n v fx lp lq sc ce Rw rs) (e : ∀ k, fx' k ↔ (fx k ∨ k = g)) (hg : 1 ≤ g ∧ g < 2 ^ n - 1) (h1 : ∃ dl : Nat → Int, (∀ r, r < ce → st_sh n (Rw r) dl = 0) ∧ st_sh n g dl ≠ 0) (ht : lq g * (sc * v g - t) = sc * lp g) : CR n v fx' lp lq sc (ce + 1) (pu Rw ce g) (fu rs ce t) := by
  obtain ⟨k1, k2, k3, k4, k5, k6⟩ := h
  have pn : ∀ r, r < ce → pu Rw ce g r = Rw r := fun r hr => pu_n (by omega)
  have chain : ∀ i, i < ce + 1 → ∃ dl : Nat → Int, (∀ r, r < i → st_sh n (pu Rw ce g r) dl = 0) ∧ st_sh n (pu Rw ce g i) dl ≠ 0 := fun i hi => by
    by_cases q : i = ce
    · subst q
      obtain ⟨dl, d1, d2⟩ := h1
      exact ⟨dl, fun r hr => by rw [pn r hr]; exact d1 r hr, by rw [pu_s]; exact d2⟩
    · obtain ⟨dl, d1, d2⟩ := k5 i (by omega)
      exact ⟨dl, fun r hr => by rw [pn r (by omega)]; exact d1 r hr, by rw [pn i (by omega)]; exact d2⟩
  refine ⟨k1, ⟨by omega, chain_le chain⟩, ⟨by rw [pn 0 (by omega)]; exact k3.1, by rw [fu_n (by omega)]; exact k3.2⟩, fun r r1 r2 => ?_, chain, fun dl hd => ?_⟩
  · by_cases q : r = ce
    · subst q; rw [pu_s, fu_s]; exact ⟨hg, (e g).mpr (Or.inr rfl), ht⟩
    · obtain ⟨a1, a2, a3⟩ := k4 r r1 (by omega)
      rw [pn r (by omega), fu_n q]
      exact ⟨a1, (e _).mpr (Or.inl a2), a3⟩
  · have d1 := k6 dl (fun r hr => by rw [← pn r hr]; exact hd r (by omega))
    refine ⟨d1.1, fun k q1 q2 q3 => ?_⟩
    rcases (e k).mp q3 with q | q
    · exact d1.2 k q1 q2 q
    · have := hd ce (by omega)
      rw [pu_s] at this
      rw [q]; exact this
theorem CR_0 (hn : 2 ≤ n ∧ n ≤ 4) (h0 : ∀ g, ¬ fx g) (hR : Rw 0 = al n) (hs : rs 0 = v (al n)) : CR n v fx lp lq 1 1 Rw rs := by
  refine ⟨by decide, ⟨Nat.le_refl 1, by omega⟩, ⟨hR, by rw [hs, Int.one_mul]; rfl⟩, fun r r1 r2 => absurd r2 (by omega), fun i hi => ?_, fun dl hd => ⟨?_, fun g _ _ q => absurd q (h0 g)⟩⟩
  · obtain rfl : i = 0 := by omega
    refine ⟨fun c => if c = 0 then 1 else 0, fun r hr => absurd hr (by omega), ?_⟩
    unfold st_sh
    rw [dot_e (by omega), hR]
    have hk : n = 2 ∨ n = 3 ∨ n = 4 := by omega
    rcases hk with rfl | rfl | rfl <;> decide
  · have := hd 0 (by omega)
    rw [hR] at this
    exact this
/-- certain sums stay small -/
theorem CR_b {m : Nat} {F : Nat → Nat} {p q : Nat → Int} {be : Int} {A : Nat → Int} {j : Nat} (hn : 2 ≤ n ∧ n ≤ 4) (hv : ∀ k, -999 ≤ v k ∧ v k ≤ 999) (hN : NU n v m F p q lp lq be A) (hj : j ≤ m) (h : CR n v (fxs F (j + 1)) lp lq sc ce Rw rs) (hd : sc ∣ be) : sc ≤ 655360000 ∧ ∀ r, r < ce → -5000000000000 ≤ rs r ∧ rs r ≤ 5000000000000 := by
  have hbe := hN.2.2.2.1.1
  have hb5 := hN.2.2.2.2.1
  have hsc := Int.le_of_dvd hbe hd
  have hs0 := h.1
  have hF : st_Fe n v (fxs F (j + 1)) lp lq be A := ⟨hbe, hN.2.2.2.1.2.1, fun g g1 g2 ⟨i, i1, i2, i3⟩ => hN.2.2.2.1.2.2 g g1 g2 ⟨i, i1, by omega, i3⟩⟩
  refine ⟨by omega, fun r hr => ?_⟩
  have e := CR_at (stg_lq hN.2.1 (by omega)) h hF hr
  have hRr : Rw r ≤ 2 ^ n - 1 := by
    by_cases q : r = 0
    · rw [q, h.2.2.1.1]; omega
    · have := (h.2.2.2.1 r (by omega) hr).1.2; omega
  have hA := NU_A hn hv hN hRr
  have h1 := ku_mul (x := sc) (y := st_sh n (Rw r) A) (a := sc) (b := 7000 * be) (by omega) (by omega)
  rw [← e] at h1
  have h2 : sc * (7000 * be) = be * (7000 * sc) := by grind
  rw [h2] at h1
  have h3 : rs r ≤ 7000 * sc := Int.le_of_mul_le_mul_left h1.2 hbe
  have h4 : -(7000 * sc) ≤ rs r := by
    refine Int.le_of_mul_le_mul_left (a := be) ?_ hbe
    rw [Int.mul_neg]; exact h1.1
  omega
end
