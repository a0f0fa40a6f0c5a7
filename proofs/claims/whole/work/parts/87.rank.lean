/-! Rows brought down one by another: which sets tell more. -/
def rdot (n : Nat) (x : Nat → Int) (r : Nat) (dl : Nat → Int) : Int := ms_dot n (fun c => x (5 * r + c)) dl
def ECH (n rk : Nat) (pl : Nat → Nat) (x : Nat → Int) : Prop := (∀ r, r < rk → pl r < n ∧ (∀ k, k < pl r → x (5 * r + k) = 0) ∧ x (5 * r + pl r) ≠ 0) ∧ (∀ r r', r < r' → r' < rk → x (5 * r' + pl r) = 0) ∧ (∀ r, r < rk → ∀ c, c < n → -gcb r ≤ x (5 * r + c) ∧ x (5 * r + c) ≤ gcb r) ∧ (0 < rk → ∀ c, c < n → x c = 0 ∨ x c = 1)
/-- the row at work, brought down by r rows -/
def wk (n rk r : Nat) (x y : Nat → Int) (pl : Nat → Nat) : Prop := (∀ c, c < n → -gcb r ≤ y (5 * rk + c) ∧ y (5 * rk + c) ≤ gcb r) ∧ (r = 0 → ∀ c, c < n → y (5 * rk + c) = 0 ∨ y (5 * rk + c) = 1) ∧ (∀ j, j < r → y (5 * rk + pl j) = 0) ∧ ∃ k : Int, k ≠ 0 ∧ ∀ dl : Nat → Int, (∀ j, j < rk → rdot n x j dl = 0) → rdot n y rk dl = k * rdot n x rk dl
theorem rdot_cg {n r r' : Nat} {x y dl : Nat → Int} (h : ∀ c, c < n → x (5 * r + c) = y (5 * r' + c)) : rdot n x r dl = rdot n y r' dl := ms_cg (fun c hc => by show x _ * _ = y _ * _; rw [h c hc])
theorem ECH_cg {n rk : Nat} {pl : Nat → Nat} {x y : Nat → Int} (h : ECH n rk pl x) (e : ∀ r, r < rk → ∀ c, c < n → y (5 * r + c) = x (5 * r + c)) : ECH n rk pl y := by
  obtain ⟨h1, h2, h3, h4⟩ := h
  refine ⟨fun r hr => ?_, fun r r' q1 q2 => ?_, fun r hr c hc => by rw [e r hr c hc]; exact h3 r hr c hc, fun h0 c hc => ?_⟩
  · obtain ⟨a1, a2, a3⟩ := h1 r hr
    exact ⟨a1, fun k hk => by rw [e r hr k (by omega)]; exact a2 k hk, by rw [e r hr _ a1]; exact a3⟩
  · rw [e r' q2 _ (h1 r (by omega)).1]; exact h2 r r' q1 q2
  · have := e 0 h0 c hc
    rw [Nat.mul_zero, Nat.zero_add] at this
    rw [this]; exact h4 h0 c hc
theorem wk_0 {n rk : Nat} {x : Nat → Int} {pl : Nat → Nat} (h : ∀ c, c < n → x (5 * rk + c) = 0 ∨ x (5 * rk + c) = 1) : wk n rk 0 x x pl := by
  refine ⟨fun c hc => ?_, fun _ => h, fun j hj => absurd hj (Nat.not_lt_zero j), 1, by decide, fun dl _ => (Int.one_mul _).symm⟩
  have := h c hc
  show -(1 : Int) ≤ _ ∧ _ ≤ (1 : Int)
  omega
theorem wk_same {n rk r : Nat} {x y u : Nat → Int} {pl : Nat → Nat} (hr : r < 5) (h : wk n rk r x y pl) (hp : pl r < n) (e : ∀ c, c < n → u (5 * rk + c) = y (5 * rk + c)) (h0 : y (5 * rk + pl r) = 0) (hpl : ∀ j, j < r → pl j < n) : wk n rk (r + 1) x u pl := by
  obtain ⟨h1, h2, h3, k, h4, h5⟩ := h
  have hm := gcb_m r hr
  refine ⟨fun c hc => by rw [e c hc]; have := h1 c hc; omega, fun q => absurd q (by omega), fun j hj => ?_, k, h4, fun dl hd => by rw [rdot_cg e]; exact h5 dl hd⟩
  by_cases q : j = r
  · subst q; rw [e _ hp]; exact h0
  · rw [e _ (hpl j (by omega))]; exact h3 j (by omega)
theorem wk_down {n rk r : Nat} {x y u : Nat → Int} {pl : Nat → Nat} (hr : r < rk) (hrk : rk ≤ 4) (hE : ECH n rk pl x) (ey : ∀ j, j < rk → ∀ c, c < n → y (5 * j + c) = x (5 * j + c)) (h : wk n rk r x y pl) (e : ∀ c, c < n → u (5 * rk + c) = y (5 * r + pl r) * y (5 * rk + c) - y (5 * rk + pl r) * y (5 * r + c)) : wk n rk (r + 1) x u pl := by
  obtain ⟨h1, h2, h3, k, h4, h5⟩ := h
  obtain ⟨e1, e2, e3, e4⟩ := hE
  obtain ⟨a1, a2, a3⟩ := e1 r hr
  refine ⟨fun c hc => ?_, fun q => absurd q (by omega), fun j hj => ?_, y (5 * r + pl r) * k, Int.mul_ne_zero (by rw [ey r hr _ a1]; exact a3) h4, fun dl hd => ?_⟩
  · rw [e c hc]
    by_cases q : r = 0
    · subst q
      have b1 := e4 hr (pl 0) a1
      have b2 := e4 hr c hc
      have b3 := h2 rfl c hc
      have b4 := h2 rfl (pl 0) a1
      have y1 := ey 0 hr (pl 0) a1
      have y2 := ey 0 hr c hc
      simp only [Nat.mul_zero, Nat.zero_add] at y1 y2 a3 ⊢
      rw [y1, y2]
      show -(1 : Int) ≤ _ ∧ _ ≤ (1 : Int)
      have b5 : x (pl 0) = 1 := by omega
      rw [b5]
      rcases b4 with q | q <;> rw [q] <;> omega
    · have hn := gx_num r (by omega) (by omega)
      have c1 := e3 r hr (pl r) a1
      have c2 := e3 r hr c hc
      rw [← ey r hr _ a1] at c1
      rw [← ey r hr c hc] at c2
      exact gx_b c1 (h1 c hc) (h1 (pl r) a1) c2 hn.1
  · have hj1 := (e1 j (by omega)).1
    rw [e _ hj1]
    by_cases q : j = r
    · subst q; grind
    · have z := e2 j r (by omega) hr
      rw [← ey r hr _ hj1] at z
      rw [h3 j (by omega), z, Int.mul_zero, Int.mul_zero]; rfl
  · have s1 : rdot n u rk dl = y (5 * r + pl r) * rdot n y rk dl - y (5 * rk + pl r) * rdot n y r dl := by
      unfold rdot ms_dot
      rw [ms_cg (g := fun c => y (5 * r + pl r) * (y (5 * rk + c) * dl c) + (-y (5 * rk + pl r)) * (y (5 * r + c) * dl c)) (fun c hc => by show u (5 * rk + c) * dl c = _; rw [e c hc]; grind), ms_add, ms_mul, ms_mul]
      grind
    have s2 : rdot n y r dl = 0 := by
      rw [rdot_cg (y := x) (r' := r) (fun c hc => ey r hr c hc)]; exact hd r hr
    rw [s1, s2, h5 dl hd]
    grind
theorem dot_e {n p : Nat} (hp : p < n) (f : Nat → Int) : ms_dot n f (fun c => if c = p then 1 else 0) = f p := by
  show ms_sm n (fun c => f c * (if c = p then 1 else 0)) = f p
  rw [ln_split n p _ hp, if_pos rfl, ms_cg (g := fun _ => 0) (fun c _ => by
    by_cases e : c = p
    · rw [if_pos e]
    · rw [if_neg e, if_neg e, Int.mul_zero]), ms_zero]
  omega
/-- a row with something left: some direction sees it alone -/
theorem ech_dir {n : Nat} {x : Nat → Int} {pl : Nat → Nat} {t : Nat → Int} : ∀ (i m : Nat), m ≤ i → (∀ r, r < i → pl r < n ∧ x (5 * r + pl r) ≠ 0) → (∀ r r', r < r' → r' < i → x (5 * r' + pl r) = 0) → (∀ r, r < i → t (pl r) = 0) → ∀ p, p < n → t p ≠ 0 → ∃ dl : Nat → Int, (∀ r, i - m ≤ r → r < i → rdot n x r dl = 0) ∧ ms_dot n t dl ≠ 0 := by
  intro i m
  induction m with
  | zero =>
    intro _ _ _ _ p hp ht
    refine ⟨fun c => if c = p then 1 else 0, fun r r1 r2 => absurd r1 (by omega), ?_⟩
    rw [dot_e hp]; exact ht
  | succ m ih =>
    intro hm h1 h2 h3 p hp ht
    obtain ⟨dl, d1, d2⟩ := ih (by omega) h1 h2 h3 p hp ht
    obtain ⟨s, hs⟩ : ∃ s, s = i - (m + 1) := ⟨_, rfl⟩
    have hsi : s < i := by omega
    obtain ⟨a1, a2⟩ := h1 s hsi
    have pick : ∀ f : Nat → Int, ms_dot n f (fun c => x (5 * s + pl s) * dl c + (-rdot n x s dl) * (if c = pl s then 1 else 0)) = x (5 * s + pl s) * ms_dot n f dl - rdot n x s dl * f (pl s) := fun f => by
      rw [ms_dot_add, ms_dot_mul, ms_dot_mul]
      rw [dot_e a1]; grind
    refine ⟨fun c => x (5 * s + pl s) * dl c + (-rdot n x s dl) * (if c = pl s then 1 else 0), fun r r1 r2 => ?_, ?_⟩
    · have pr := pick (fun c => x (5 * r + c))
      show ms_dot n (fun c => x (5 * r + c)) _ = 0
      rw [pr]
      by_cases e : r = s
      · subst e
        show x (5 * r + pl r) * rdot n x r dl - rdot n x r dl * x (5 * r + pl r) = 0
        grind
      · have q1 : ms_dot n (fun c => x (5 * r + c)) dl = 0 := d1 r (by omega) r2
        rw [q1, h2 s r (by omega) r2, Int.mul_zero, Int.mul_zero]; rfl
    · rw [pick t, h3 s hsi, Int.mul_zero, Int.sub_zero]
      exact Int.mul_ne_zero a2 d2
def SE (n r : Nat) (y : Nat → Int) (Rw : Nat → Nat) : Prop := ∀ dl : Nat → Int, (∀ j, j < r → rdot n y j dl = 0) ↔ ∀ j, j < r → st_sh n (Rw j) dl = 0
section
variable {n r t p : Nat} {y u y' : Nat → Int} {pl Rw : Nat → Nat}
theorem im_dot (hu2 : ∀ c, c < n → u (5 * r + c) = st_bt t c) (dl : Nat → Int) : rdot n u r dl = st_sh n t dl := ms_cg (fun c hc => by show u _ * _ = _; rw [hu2 c hc])
theorem im_k (hS : SE n r y Rw) (hu1 : ∀ j, j < r → ∀ c, c < n → u (5 * j + c) = y (5 * j + c)) (hu2 : ∀ c, c < n → u (5 * r + c) = st_bt t c) (hw : wk n r r u y' pl) : ∃ k : Int, k ≠ 0 ∧ ∀ dl : Nat → Int, (∀ j, j < r → st_sh n (Rw j) dl = 0) → rdot n y' r dl = k * st_sh n t dl := by
  obtain ⟨_, _, _, k, k1, k2⟩ := hw
  refine ⟨k, k1, fun dl hd => ?_⟩
  rw [k2 dl (fun j hj => by rw [rdot_cg (hu1 j hj)]; exact (hS dl).mpr hd j hj), im_dot hu2]
theorem im_0 (hS : SE n r y Rw) (hu1 : ∀ j, j < r → ∀ c, c < n → u (5 * j + c) = y (5 * j + c)) (hu2 : ∀ c, c < n → u (5 * r + c) = st_bt t c) (hw : wk n r r u y' pl) (hz : ∀ c, c < n → y' (5 * r + c) = 0) : ∀ dl : Nat → Int, (∀ j, j < r → st_sh n (Rw j) dl = 0) → st_sh n t dl = 0 := by
  obtain ⟨k, k1, k2⟩ := im_k hS hu1 hu2 hw
  intro dl hd
  have h1 := k2 dl hd
  have h2 : rdot n y' r dl = 0 := by
    show ms_sm n (fun c => y' (5 * r + c) * dl c) = 0
    rw [ms_cg (g := fun _ => 0) (fun c hc => by rw [hz c hc, Int.zero_mul]), ms_zero]
  rw [h2] at h1
  rcases Int.mul_eq_zero.mp h1.symm with e | e
  · exact absurd e k1
  · exact e
theorem im_t (hE : ECH n r pl y) (hS : SE n r y Rw) (hu1 : ∀ j, j < r → ∀ c, c < n → u (5 * j + c) = y (5 * j + c)) (hu2 : ∀ c, c < n → u (5 * r + c) = st_bt t c) (hw : wk n r r u y' pl) (hp : p < n) (hne : y' (5 * r + p) ≠ 0) : ∃ dl : Nat → Int, (∀ j, j < r → st_sh n (Rw j) dl = 0) ∧ st_sh n t dl ≠ 0 := by
  obtain ⟨k, k1, k2⟩ := im_k hS hu1 hu2 hw
  obtain ⟨dl, d1, d2⟩ := ech_dir (n := n) (x := y) (pl := pl) (t := fun c => y' (5 * r + c)) r r (Nat.le_refl r) (fun j hj => ⟨(hE.1 j hj).1, (hE.1 j hj).2.2⟩) hE.2.1 hw.2.2.1 p hp hne
  have d3 : ∀ j, j < r → st_sh n (Rw j) dl = 0 := (hS dl).mp (fun j hj => d1 j (by omega) hj)
  refine ⟨dl, d3, fun e => d2 ?_⟩
  have := k2 dl d3
  rw [e, Int.mul_zero] at this
  exact this
theorem im_1 (hE : ECH n r pl y) (hS : SE n r y Rw) (hu1 : ∀ j, j < r → ∀ c, c < n → u (5 * j + c) = y (5 * j + c)) (hu2 : ∀ c, c < n → u (5 * r + c) = st_bt (Rw r) c) (hy1 : ∀ j, j < r → ∀ c, c < n → y' (5 * j + c) = u (5 * j + c)) (hw : wk n r r u y' pl) (hp : p < n) (hp0 : ∀ k, k < p → y' (5 * r + k) = 0) (hne : y' (5 * r + p) ≠ 0) : ECH n (r + 1) (pu pl r p) y' ∧ SE n (r + 1) y' Rw := by
  have ey : ∀ j, j < r → ∀ c, c < n → y' (5 * j + c) = y (5 * j + c) := fun j hj c hc => (hy1 j hj c hc).trans (hu1 j hj c hc)
  obtain ⟨k, k1, k2⟩ := im_k hS hu1 hu2 hw
  obtain ⟨e1, e2, e3, e4⟩ := ECH_cg hE ey
  obtain ⟨w1, w2, w3, _⟩ := hw
  refine ⟨⟨fun j hj => ?_, fun j j' q1 q2 => ?_, fun j hj c hc => ?_, fun _ c hc => ?_⟩, fun dl => ?_⟩
  · by_cases e : j = r
    · subst e; rw [pu_s]; exact ⟨hp, hp0, hne⟩
    · rw [pu_n e]; exact e1 j (by omega)
  · rw [pu_n (by omega)]
    by_cases e : j' = r
    · subst e; exact w3 j q1
    · exact e2 j j' q1 (by omega)
  · by_cases e : j = r
    · subst e; exact w1 c hc
    · exact e3 j (by omega) c hc
  · by_cases e : r = 0
    · subst e
      have := w2 rfl c hc
      rw [Nat.mul_zero, Nat.zero_add] at this
      exact this
    · exact e4 (by omega) c hc
  · have hs : (∀ j, j < r → rdot n y' j dl = 0) ↔ ∀ j, j < r → st_sh n (Rw j) dl = 0 := by
      rw [← hS dl]
      constructor
      · intro q j hj; rw [← rdot_cg (ey j hj)]; exact q j hj
      · intro q j hj; rw [rdot_cg (ey j hj)]; exact q j hj
    constructor
    · intro q
      have q1 := hs.mp (fun j hj => q j (by omega))
      intro j hj
      by_cases e : j = r
      · subst e
        have h1 := k2 dl q1
        rw [q j (by omega)] at h1
        rcases Int.mul_eq_zero.mp h1.symm with e | e
        · exact absurd e k1
        · exact e
      · exact q1 j (by omega)
    · intro q
      have q1 : ∀ j, j < r → st_sh n (Rw j) dl = 0 := fun j hj => q j (by omega)
      intro j hj
      by_cases e : j = r
      · subst e; rw [k2 dl q1, q j (by omega), Int.mul_zero]
      · exact hs.mpr q1 j (by omega)
end
