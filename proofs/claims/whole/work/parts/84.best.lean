/-! What the corners of a stage tell: its level, its tight parts. -/
/-- the rows that are certain -/
def CR (n : Nat) (v : Nat → Int) (fx : Nat → Prop) (lp lq : Nat → Int) (sc : Int) (ce : Nat) (Rw : Nat → Nat) (rs : Nat → Int) : Prop :=
  0 < sc ∧ (1 ≤ ce ∧ ce ≤ n) ∧ (Rw 0 = 2 ^ n - 1 ∧ rs 0 = sc * v (2 ^ n - 1)) ∧ (∀ r, 1 ≤ r → r < ce → (1 ≤ Rw r ∧ Rw r < 2 ^ n - 1) ∧ fx (Rw r) ∧ lq (Rw r) * (sc * v (Rw r) - rs r) = sc * lp (Rw r)) ∧ (∀ i, i < ce → ∃ dl : Nat → Int, (∀ r, r < i → st_sh n (Rw r) dl = 0) ∧ st_sh n (Rw i) dl ≠ 0) ∧ ∀ dl : Nat → Int, (∀ r, r < ce → st_sh n (Rw r) dl = 0) → st_Dir n fx dl
section
variable {n ce : Nat} {v : Nat → Int} {fx : Nat → Prop} {lp lq : Nat → Int} {sc : Int} {Rw : Nat → Nat} {rs : Nat → Int} {le : Nat}
theorem gm_row {q : Nat} {Rw : Nat → Nat} {rs : Nat → Int} (z : Nat → Int) : ms_sm (n + 1) (fun c => gm n (n + 1) ce Rw rs q c * z c) = st_sh n (Rw q) z + (if q < ce then 0 else 1) * z n := by
  show ms_sm n _ + gm n (n + 1) ce Rw rs q n * z n = _
  have e1 : gm n (n + 1) ce Rw rs q n = if q < ce then 0 else 1 := by
    unfold gm
    rw [if_neg (show ¬ n < n by omega), if_neg (show ¬ n = n + 1 by omega)]
  rw [e1]
  congr 1
  refine ms_cg (fun c hc => ?_)
  unfold gm
  rw [if_pos hc]
/-- a certain row holds at every point -/
theorem CR_at (hl : ∀ g, 1 ≤ g → g < 2 ^ n - 1 → fx g → 0 < lq g) (h : CR n v fx lp lq sc ce Rw rs) {u : Int} {x : Nat → Int} (hF : st_Fe n v fx lp lq u x) {r : Nat} (hr : r < ce) : u * rs r = sc * st_sh n (Rw r) x := by
  obtain ⟨h1, h2, h3, h4, _, _⟩ := h
  by_cases e : r = 0
  · subst e
    rw [h3.1, h3.2, hF.2.1]; grind
  · obtain ⟨a1, a2, a3⟩ := h4 r (by omega) hr
    have a4 := hF.2.2 (Rw r) a1.1 a1.2 a2
    have a5 := hl (Rw r) a1.1 a1.2 a2
    refine Int.eq_of_mul_eq_mul_left (show lq (Rw r) ≠ 0 by omega) ?_
    grind
theorem cor_sound (hn : 2 ≤ n ∧ n ≤ 4) (hl : ∀ g, 1 ≤ g → g < 2 ^ n - 1 → fx g → 0 < lq g) (h : CR n v fx lp lq sc ce Rw rs) (hle : ∀ g, le.testBit g = true ↔ st_op n fx g) {T : Nat → Prop} {p q : Int} (hq : 0 < q) (hP : st_P n v fx lp lq T p q) (hD : st_D n fx T) {L : List Nat} {a b : Int} {s : Nat} (hc : cor n ce v sc le (apR Rw ce L) (apS v sc rs ce L) a b s) :
    p * (b * sc) ≤ a * q ∧ (p * (b * sc) = a * q → ∀ g, st_op n fx g → T g → s.testBit g = true) := by
  obtain ⟨_, z, c2, c3, c4, c5, c6⟩ := hc
  have hP0 := hP
  obtain ⟨u0, x0, f1, f2⟩ := hP0
  have hsc := h.1
  have hce := h.2.1
  have row : ∀ r, r < ce → st_sh n (Rw r) z = rs r * b := fun r hr => by
    have := c3 r (by omega)
    rw [gm_row, gm_D (by omega), if_pos hr, Int.zero_mul, Int.add_zero] at this
    have e1 : apR Rw ce L r = Rw r := if_pos hr
    have e2 : apS v sc rs ce L r = rs r := if_pos hr
    rw [e1, e2] at this
    exact this
  have hu : 0 < b * sc := Int.mul_pos c2 hsc
  have hdir : st_Dir n fx (fun i => (b * sc) * x0 i + (-u0) * z i) := by
    refine h.2.2.2.2.2 _ (fun r hr => ?_)
    rw [co_shlin, row r hr]
    have := CR_at hl h f1 hr
    grind
  have hFe : st_Fe n v fx lp lq (b * sc) z := by
    refine ⟨hu, ?_, fun g g1 g2 g3 => ?_⟩
    · have := row 0 (by omega)
      rw [h.2.2.1.1, h.2.2.1.2] at this
      rw [this]; grind
    · have e1 := hdir.2 g g1 g2 g3
      rw [co_shlin] at e1
      have e2 := f1.2.2 g g1 g2 g3
      refine Int.eq_of_mul_eq_mul_left (show u0 ≠ 0 by have := f1.1; omega) ?_
      have e3 : u0 * st_sh n g z = b * sc * st_sh n g x0 := by
        rw [Int.neg_mul] at e1; omega
      calc u0 * (lq g * (b * sc * v g - st_sh n g z)) = lq g * (b * sc * (u0 * v g) - u0 * st_sh n g z) := by grind
        _ = b * sc * (lq g * (u0 * v g - st_sh n g x0)) := by rw [e3]; grind
        _ = u0 * (b * sc * lp g) := by rw [e2]; grind
  have hP' : st_P n v fx lp lq (fun g => s.testBit g = true) a (b * sc) := by
    refine ⟨b * sc, z, hFe, fun g hg => ?_⟩
    have hb := (hle g).mpr hg
    have e1 := c5 g hg.1 hg.2.1 hb
    have e2 : ovr n v sc b z g = b * sc * v g - st_sh n g z - z n := rfl
    refine ⟨?_, ?_⟩
    · rw [c4]
      exact Int.mul_le_mul_of_nonneg_left (by omega) (by omega)
    · show _ ↔ s.testBit g = true
      rw [c6 g, c4]
      constructor
      · intro q
        have := Int.eq_of_mul_eq_mul_left (show b * sc ≠ 0 by omega) q
        exact ⟨hg.1, hg.2.1, hb, by omega⟩
      · rintro ⟨_, _, _, q⟩
        rw [show b * sc * v g - st_sh n g z = z n by omega]
  exact st_half hl hq hu hP hD hP'
/-- the vector of a row -/
def rwv (n : Nat) (t : Int) (g : Nat) : Nat → Int := fun c => if c < n then st_bt g c else t
theorem rwv_dot {g : Nat} {t : Int} (z : Nat → Int) : ms_dot (n + 1) (rwv n t g) z = st_sh n g z + t * z n := by
  show ms_sm n _ + rwv n t g n * z n = _
  have e1 : rwv n t g n = t := if_neg (by omega)
  rw [e1]
  congr 1
  refine ms_cg (fun c hc => ?_)
  unfold rwv
  rw [if_pos hc]
theorem CR_ind (h : CR n v fx lp lq sc ce Rw rs) : ln_ind (n + 1) ((List.range ce).map (fun r => rwv n 0 (Rw r))) := by
  intro c hc
  have hlen : ((List.range ce).map (fun r => rwv n 0 (Rw r))).length = ce := by simp
  have hget : ∀ j, j < ce → ((List.range ce).map (fun r => rwv n 0 (Rw r))).getD j (fun _ => 0) = rwv n 0 (Rw j) := fun j hj => by
    rw [List.getD_eq_getElem?_getD, List.getElem?_map, List.getElem?_range hj]; rfl
  rw [hlen] at hc ⊢
  have hc2 : ∀ dl : Nat → Int, ms_sm ce (fun j => c j * st_sh n (Rw j) dl) = 0 := fun dl => by
    have e : ∀ i, i < n → ms_sm ce (fun j => c j * st_bt (Rw j) i) = 0 := fun i hi => by
      rw [← hc i (by omega)]
      refine ms_cg (fun j hj => ?_)
      rw [hget j hj]
      unfold rwv
      rw [if_pos hi]
    unfold st_sh ms_dot
    rw [ms_cg (g := fun j => ms_sm n (fun i => c j * st_bt (Rw j) i * dl i)) (fun j _ => by rw [← ms_mul]; exact ms_cg (fun i _ => by rw [Int.mul_assoc])), ms_swap, ms_cg (g := fun _ => 0) (fun i hi => by rw [ms_mulr, e i hi, Int.zero_mul]), ms_zero]
  have down : ∀ k, k ≤ ce → (∀ j, k ≤ j → j < ce → c j = 0) → ∀ j, j < ce → c j = 0 := by
    intro k
    induction k with
    | zero => exact fun _ q j hj => q j (Nat.zero_le j) hj
    | succ k ih =>
      intro hk q
      refine ih (by omega) (fun j j1 j2 => ?_)
      by_cases e : j = k
      · subst e
        obtain ⟨dl, d1, d2⟩ := h.2.2.2.2.1 j j2
        have := hc2 dl
        rw [ln_split ce j _ j2, ms_cg (g := fun _ => 0) (fun i hi => by
          by_cases e1 : i = j
          · rw [if_pos e1]
          · rw [if_neg e1]
            rcases Nat.lt_or_ge i j with e2 | e2
            · rw [d1 i e2, Int.mul_zero]
            · rw [q i (by omega) hi, Int.zero_mul]), ms_zero, Int.add_zero] at this
        rcases Int.mul_eq_zero.mp this with e3 | e3
        · exact e3
        · exact absurd e3 d2
      · exact q j (by omega) j2
  exact down ce (Nat.le_refl ce) (fun j j1 j2 => by omega)
theorem cor_ex (hn : 2 ≤ n ∧ n ≤ 4) (hl : ∀ g, 1 ≤ g → g < 2 ^ n - 1 → fx g → 0 < lq g) (h : CR n v fx lp lq sc ce Rw rs) (hle : ∀ g, le.testBit g = true ↔ st_op n fx g) {T : Nat → Prop} {p q : Int} (hq : 0 < q) (hP : st_P n v fx lp lq T p q) (hD : st_D n fx T) (S0 : Nat) (hk : Bool) (hS : hk = true → st_op n fx S0 ∧ ¬ T S0) :
    ∃ (a b : Int) (s : Nat), Pm n ce v sc le ce 1 Rw rs a b s ∧ p * (b * sc) = a * q ∧ (hk = true → s.testBit S0 = false) := by
  have hn3 : n = 2 ∨ n = 3 ∨ n = 4 := by omega
  have hsc := h.1
  have hce := h.2.1
  have hP0 := hP
  obtain ⟨u0, x0, f1, f2⟩ := hP0
  obtain ⟨u, x, g1, g2, g3, g4⟩ := co_corner hn3 hq S0 hk _ u0 x0 (Nat.le_refl _) f1 (fun g hg => (f2 g hg).1) (fun hb => ⟨(hS hb).1, by
    have a1 := f2 S0 (hS hb).1
    have a2 : ¬ q * (u0 * v S0 - st_sh n S0 x0) = u0 * p := fun e => (hS hb).2 (a1.2.mp e)
    omega⟩)
  have hu := g1.1
  -- T is tight there
  have hT : ∀ g, st_op n fx g → T g → q * (u * v g - st_sh n g x) = u * p := (st_half hl hq hq hP hD ⟨u, x, g1, fun g hg => ⟨g2 g hg, Iff.rfl⟩⟩).2 rfl
  -- the tight parts in a row
  obtain ⟨TL, hTL⟩ : ∃ TL : List Nat, TL = (List.range (2 ^ n - 1)).filter (fun g => @decide (st_op n fx g ∧ q * (u * v g - st_sh n g x) = u * p) (Classical.propDecidable _)) := ⟨_, rfl⟩
  have mTL : ∀ g, g ∈ TL ↔ (st_op n fx g ∧ q * (u * v g - st_sh n g x) = u * p) := fun g => by
    rw [hTL, List.mem_filter, List.mem_range, @decide_eq_true_iff _ (Classical.propDecidable _)]
    exact ⟨fun k => k.2, fun k => ⟨k.1.2.1, k⟩⟩
  have pTL : TL.Pairwise (fun a b => a < b) := by
    rw [hTL]
    exact List.Pairwise.filter _ List.pairwise_lt_range
  have hnd : ln_nd (n + 1) ((List.range ce).map (fun r => rwv n 0 (Rw r)) ++ TL.map (rwv n 1)) := by
    intro dl hdl
    have d1 : ∀ r, r < ce → st_sh n (Rw r) dl = 0 := fun r hr => by
      have := hdl _ (List.mem_append_left _ (List.mem_map.mpr ⟨r, List.mem_range.mpr hr, rfl⟩))
      rw [rwv_dot, Int.zero_mul, Int.add_zero] at this
      exact this
    have d2 := h.2.2.2.2.2 dl d1
    have d3 : ∀ g, st_op n fx g → q * (u * v g - st_sh n g x) = u * p → st_sh n g dl = -dl n := fun g hg ht => by
      have := hdl _ (List.mem_append_right _ (List.mem_map.mpr ⟨g, (mTL g).mpr ⟨hg, ht⟩, rfl⟩))
      rw [rwv_dot, Int.one_mul] at this
      omega
    have hD0 := hD
    obtain ⟨l, l0, l1, ⟨gT, oT, tT⟩, l2⟩ := hD0
    have e1 := l2 dl d2
    rw [ms_cg (g := fun g => l g * (-dl n)) (fun g _ => by
      by_cases ho : st_op n fx g
      · rcases Int.lt_or_eq_of_le (l1 g ho).1 with hp | hp
        · rw [d3 g ho (hT g ho ((l1 g ho).2.mp hp))]
        · rw [← hp, Int.zero_mul, Int.zero_mul]
      · rw [l0 g ho, Int.zero_mul, Int.zero_mul]), ms_mulr] at e1
    have lpos : 0 < ms_sm (2 ^ n - 1) l := pl_pos (fun g _ => by
      by_cases ho : st_op n fx g
      · exact (l1 g ho).1
      · rw [l0 g ho]; exact Int.le_refl 0) oT.2.1 ((l1 gT oT).2.mpr tT)
    have d0 : dl n = 0 := by
      rcases Int.mul_eq_zero.mp e1 with e | e
      · omega
      · omega
    have d4 := g4 dl d2 (fun g hg ht => by rw [d3 g hg ht, d0]; rfl)
    intro i hi
    by_cases e : i = n
    · rw [e]; exact d0
    · exact d4 i (by omega)
  obtain ⟨G, k1, k2, k3⟩ := ln_basis (CR_ind h) _ _ (Nat.le_refl _) hnd
  obtain ⟨L, hLs, rfl⟩ := List.sublist_map_iff.mp k1
  rw [List.length_map, List.length_map, List.length_range] at k2
  have mL : ∀ g, g ∈ L → st_op n fx g ∧ q * (u * v g - st_sh n g x) = u * p := fun g hg => (mTL g).mp (hLs.subset hg)
  have hR1 : ∀ r, r < ce → apR Rw ce L r = Rw r := fun r hr => if_pos hr
  have hS1 : ∀ r, r < ce → apS v sc rs ce L r = rs r := fun r hr => if_pos hr
  have hR2 : ∀ r, ce ≤ r → r < n + 1 → ∃ g, g ∈ L ∧ apR Rw ce L r = g ∧ apS v sc rs ce L r = sc * v g := fun r r1 r2 => by
    have hi : r - ce < L.length := by omega
    refine ⟨L[r - ce], List.getElem_mem hi, ?_, ?_⟩
    · show (if r < ce then _ else L.getD (r - ce) 0) = _
      rw [if_neg (by omega), List.getD_eq_getElem?_getD, List.getElem?_eq_getElem hi]; rfl
    · show (if r < ce then _ else sc * v (L.getD (r - ce) 0)) = _
      rw [if_neg (by omega), List.getD_eq_getElem?_getD, List.getElem?_eq_getElem hi]; rfl
  have hw : 0 < u * q := Int.mul_pos hu hq
  have hsol : gj_sol (n + 1) (gm n (n + 1) ce (apR Rw ce L) (apS v sc rs ce L)) (fun c => if c < n then sc * q * x c else sc * u * p) (u * q) := by
    have esh : ∀ g, st_sh n g (fun c => if c < n then sc * q * x c else sc * u * p) = sc * q * st_sh n g x := fun g => by
      rw [sh_cg (y := fun c => sc * q * x c) (fun c hc => if_pos hc)]
      unfold st_sh
      rw [ms_dot_mul]
    intro r hr
    rw [gm_row, gm_D (by omega), esh]
    show _ + _ * (if n < n then _ else sc * u * p) = _
    rw [if_neg (show ¬ n < n by omega)]
    rcases Nat.lt_or_ge r ce with e | e
    · rw [if_pos e, hR1 r e, hS1 r e, Int.zero_mul, Int.add_zero]
      have := CR_at hl h g1 e
      grind
    · obtain ⟨g, m1, m2, m3⟩ := hR2 r e hr
      rw [if_neg (by omega), m2, m3, Int.one_mul]
      have := (mL g m1).2
      grind
  have hcnd : cND (n + 1) (gm n (n + 1) ce (apR Rw ce L) (apS v sc rs ce L)) := by
    intro z hz
    refine k3 z (fun r hr => ?_)
    rcases List.mem_append.mp hr with e | e
    · obtain ⟨i, i1, rfl⟩ := List.mem_map.mp e
      have i2 := List.mem_range.mp i1
      have := hz i (by omega)
      rw [gm_row, if_pos i2, hR1 i i2] at this
      rw [rwv_dot]; exact this
    · obtain ⟨g, m1, rfl⟩ := List.mem_map.mp e
      obtain ⟨i, hi⟩ := List.getElem?_of_mem m1
      have hilt : i < L.length := (List.getElem?_eq_some_iff.mp hi).1
      have := hz (ce + i) (by omega)
      have e1 : apR Rw ce L (ce + i) = g := by
        show (if ce + i < ce then _ else L.getD (ce + i - ce) 0) = _
        rw [if_neg (by omega), show ce + i - ce = i by omega, List.getD_eq_getElem?_getD, hi]; rfl
      rw [gm_row, if_neg (by omega), e1] at this
      rw [rwv_dot]; exact this
  have eov : ∀ g, ovr n v sc (u * q) (fun c => if c < n then sc * q * x c else sc * u * p) g = sc * (q * (u * v g - st_sh n g x) - u * p) := fun g => by
    unfold ovr
    rw [sh_cg (y := fun c => sc * q * x c) (fun c hc => if_pos hc)]
    show _ - (if n < n then _ else sc * u * p) = _
    rw [if_neg (show ¬ n < n by omega)]
    unfold st_sh
    rw [ms_dot_mul]
    grind
  refine ⟨sc * u * p, u * q, os (fun g => 1 ≤ g ∧ g < al n ∧ le.testBit g = true ∧ ovr n v sc (u * q) (fun c => if c < n then sc * q * x c else sc * u * p) g = 0) (al n), ⟨L, ⟨by omega, pTL.sublist hLs, fun g hg => ?_⟩, hcnd, fun c => if c < n then sc * q * x c else sc * u * p, hw, hsol, (if_neg (by omega)).symm, fun g a1 a2 a3 => ?_, fun g => ?_⟩, by grind, fun hb => ?_⟩
  · have := mL g hg
    exact ⟨this.1.1, this.1.2.1, (hle g).mpr this.1⟩
  · rw [eov g]
    have := g2 g ((hle g).mp a3)
    have := Int.mul_nonneg (Int.le_of_lt hsc) (show 0 ≤ -(q * (u * v g - st_sh n g x) - u * p) by omega)
    rw [Int.mul_neg] at this
    omega
  · rw [os_bit]
    exact ⟨fun k => k.2, fun k => ⟨k.2.1, k⟩⟩
  · cases hbit : (os (fun g => 1 ≤ g ∧ g < al n ∧ le.testBit g = true ∧ ovr n v sc (u * q) (fun c => if c < n then sc * q * x c else sc * u * p) g = 0) (al n)).testBit S0 with
    | false => rfl
    | true =>
      exfalso
      have k := ((os_bit _).mp hbit).2.2.2.2
      rw [eov] at k
      have := g3 hb
      rcases Int.mul_eq_zero.mp k with e | e
      · omega
      · omega
/-- all corners seen: the level is found, and who is at it -/
theorem cor_all (hn : 2 ≤ n ∧ n ≤ 4) (hl : ∀ g, 1 ≤ g → g < 2 ^ n - 1 → fx g → 0 < lq g) (h : CR n v fx lp lq sc ce Rw rs) (hle : ∀ g, le.testBit g = true ↔ st_op n fx g) {T : Nat → Prop} {p q : Int} (hq : 0 < q) (hP : st_P n v fx lp lq T p q) (hD : st_D n fx T) {ba bb : Int} {ti : Nat} (hB : BC (Pm n ce v sc le ce 1 Rw rs) ba bb ti) :
    0 < bb ∧ p * (bb * sc) = ba * q ∧ ∀ g, ti.testBit g = true ↔ (st_op n fx g ∧ T g) := by
  have hsc := h.1
  obtain ⟨a1, b1, s1, e1, e2, _⟩ := cor_ex hn hl h hle hq hP hD 0 false (fun e => by cases e)
  rcases hB with ⟨_, k⟩ | ⟨hb, ⟨s2, k2⟩, k3, k4⟩
  · exact absurd e1 (k _ _ _)
  · obtain ⟨L2, l2, c2⟩ := k2
    have m1 := cor_sound hn hl h hle hq hP hD c2
    have m2 := k3 _ _ _ e1
    have hb1 := Pm_pos e1
    have m3 : ba * q ≤ p * (bb * sc) := by
      have i1 : ba * b1 * q ≤ a1 * bb * q := Int.mul_le_mul_of_nonneg_right m2 (by omega)
      have i2 : (ba * q) * b1 ≤ (p * (bb * sc)) * b1 := by
        have j1 : ba * b1 * q = ba * q * b1 := by grind
        have j2 : a1 * bb * q = (a1 * q) * bb := by grind
        rw [← e2] at j2
        have j3 : p * (b1 * sc) * bb = p * (bb * sc) * b1 := by grind
        omega
      exact Int.le_of_mul_le_mul_right i2 hb1
    have m4 : p * (bb * sc) = ba * q := by omega
    refine ⟨hb, m4, fun g => ?_⟩
    have lev : ∀ a b s, Pm n ce v sc le ce 1 Rw rs a b s → a * bb = ba * b → p * (b * sc) = a * q := fun a b s hs e => by
      refine Int.eq_of_mul_eq_mul_right (show bb ≠ 0 by omega) ?_
      calc p * (b * sc) * bb = (p * (bb * sc)) * b := by grind
        _ = ba * b * q := by rw [m4]; grind
        _ = a * q * bb := by rw [← e]; grind
    constructor
    · intro hg
      have hg1 := (k4 g).mp hg
      have ho : st_op n fx g := by
        have := hg1 ba bb s2 ⟨L2, l2, c2⟩ rfl
        obtain ⟨_, z, _, _, _, _, z6⟩ := c2
        exact (hle g).mp ((z6 g).mp this).2.2.1
      refine ⟨ho, Classical.byContradiction (fun hT => ?_)⟩
      obtain ⟨a3, b3, s3, e3, e4, e5⟩ := cor_ex hn hl h hle hq hP hD g true (fun _ => ⟨ho, hT⟩)
      have i1 : a3 * bb = ba * b3 := by
        refine Int.eq_of_mul_eq_mul_right (show q ≠ 0 by omega) ?_
        calc a3 * bb * q = (a3 * q) * bb := by grind
          _ = (p * (bb * sc)) * b3 := by rw [← e4]; grind
          _ = ba * b3 * q := by rw [m4]; grind
      have := hg1 a3 b3 s3 e3 i1
      rw [e5 rfl] at this
      cases this
    · rintro ⟨ho, hT⟩
      refine (k4 g).mpr (fun a b s hs e => ?_)
      have e6 := lev a b s hs e
      obtain ⟨L, l, c⟩ := hs
      exact (cor_sound hn hl h hle hq hP hD c).2 e6 g ho hT
end
