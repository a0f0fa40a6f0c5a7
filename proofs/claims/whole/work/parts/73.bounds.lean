/-! How large the point and the ways can be: by the ways that are left. -/
def kB (wc : Nat) : Int := if wc = 0 then 655360000 else if wc = 1 then 1600 else if wc = 2 then 5 else 1
def kA (wc : Nat) : Int := if wc = 0 then 450000000000000 else if wc = 1 then 120000000 else if wc = 2 then 40000 else 999
def kG (wc : Nat) : Int := if wc = 0 then 128 else if wc = 1 then 8 else if wc = 2 then 2 else 1
def kQ (wc : Nat) : Int := if wc = 0 then 20971520000 else if wc = 1 then 51200 else if wc = 2 then 160 else 5
def kT (wc : Nat) : Int := if wc = 0 then 64000000000000000 else if wc = 1 then 15424000000 else if wc = 2 then 5280000 else 10000
theorem ku_mul {x y a b : Int} (hx : -a ≤ x ∧ x ≤ a) (hy : -b ≤ y ∧ y ≤ b) : -(a * b) ≤ x * y ∧ x * y ≤ a * b := ab_mul hx hy (by omega) (by omega)
theorem mv_num {B Aa G Q T B' A2 be bot go top wv shA : Int} (h1 : 0 ≤ be ∧ be ≤ B) (h2 : 0 ≤ bot ∧ bot ≤ Q) (h3 : -G ≤ go ∧ go ≤ G) (h4 : -T ≤ top ∧ top ≤ T) (h5 : -999 ≤ wv ∧ wv ≤ 999) (h6 : -(4 * Aa) ≤ shA ∧ shA ≤ 4 * Aa) (hB : B * (Q * G) ≤ B') (hA : Aa * (Q * G) + G * ((999 * B + 4 * Aa) * Q + T * B) ≤ A2) :
    (-(Q * G) ≤ bot * go ∧ bot * go ≤ Q * G) ∧ (-B' ≤ be * (bot * go) ∧ be * (bot * go) ≤ B') ∧ ∀ a x : Int, (-Aa ≤ a ∧ a ≤ Aa) → (-G ≤ x ∧ x ≤ G) → (-A2 ≤ a * (bot * go) + x * ((wv * be - shA) * bot - top * be) ∧ a * (bot * go) + x * ((wv * be - shA) * bot - top * be) ≤ A2) := by
  have s1 := ku_mul (x := bot) (y := go) (a := Q) (b := G) (by omega) h3
  have s2 := ku_mul (x := be) (y := bot * go) (a := B) (b := Q * G) (by omega) s1
  have s3 := ku_mul (x := wv) (y := be) (a := 999) (b := B) h5 (by omega)
  have s4 := ku_mul (x := wv * be - shA) (y := bot) (a := 999 * B + 4 * Aa) (b := Q) (by omega) (by omega)
  have s5 := ku_mul (x := top) (y := be) (a := T) (b := B) h4 (by omega)
  refine ⟨s1, by omega, fun a x ha hx => ?_⟩
  have s6 := ku_mul (x := a) (y := bot * go) (a := Aa) (b := Q * G) ha s1
  have s7 := ku_mul (x := x) (y := (wv * be - shA) * bot - top * be) (a := G) (b := (999 * B + 4 * Aa) * Q + T * B) hx (by omega)
  omega
/-- what is kept of the point and the ways -/
def bdd (be : Int) (A : Nat → Int) (wc : Nat) (W : Nat → Nat → Int) : Prop := (0 ≤ be ∧ be ≤ kB wc) ∧ (∀ p, p < 4 → -kA wc ≤ A p ∧ A p ≤ kA wc) ∧ ∀ w, w < wc → ∀ g, g < 16 → -kG wc ≤ st_sh 4 g (W w) ∧ st_sh 4 g (W w) ≤ kG wc
theorem one_bit : ∀ p, p < 4 → ∀ q, q < 4 → st_bt (2 ^ p) q = if q = p then 1 else 0 := by decide
theorem sh_pw {x : Nat → Int} {p : Nat} (hp : p < 4) : st_sh 4 (2 ^ p) x = x p := by
  have : p = 0 ∨ p = 1 ∨ p = 2 ∨ p = 3 := by omega
  show 0 + st_bt (2 ^ p) 0 * x 0 + st_bt (2 ^ p) 1 * x 1 + st_bt (2 ^ p) 2 * x 2 + st_bt (2 ^ p) 3 * x 3 = x p
  rw [one_bit p hp 0 (by decide), one_bit p hp 1 (by decide), one_bit p hp 2 (by decide), one_bit p hp 3 (by decide)]
  rcases this with rfl | rfl | rfl | rfl <;> simp
theorem pw_16 {p : Nat} (hp : p < 4) : 2 ^ p < 16 := by
  have : 2 ^ p ≤ 2 ^ 3 := Nat.pow_le_pow_right (by decide) (by omega)
  omega
/-- bounds of a move -/
theorem bdd_mv {be top bot wv : Int} {A : Nat → Int} {wc y g : Nat} {W : Nat → Nat → Int} (h : bdd be A wc W) (hwc : wc ≤ 3) (hy : y < wc) (hg : g < 16) (hq : 0 ≤ bot ∧ bot ≤ kQ wc) (ht : -kT wc ≤ top ∧ top ≤ kT wc) (hw : -999 ≤ wv ∧ wv ≤ 999) :
    b3 (bot * st_sh 4 g (W y)) ∧ (-kB (wc - 1) ≤ be * (bot * st_sh 4 g (W y)) ∧ be * (bot * st_sh 4 g (W y)) ≤ kB (wc - 1)) ∧ ∀ p, p < 4 → (-kA (wc - 1) ≤ A p * (bot * st_sh 4 g (W y)) + W y p * ((wv * be - st_sh 4 g A) * bot - top * be) ∧ A p * (bot * st_sh 4 g (W y)) + W y p * ((wv * be - st_sh 4 g A) * bot - top * be) ≤ kA (wc - 1)) := by
  have hk : wc = 1 ∨ wc = 2 ∨ wc = 3 := by omega
  have hgo := h.2.2 y hy g hg
  have hW : ∀ p, p < 4 → -kG wc ≤ W y p ∧ W y p ≤ kG wc := fun p hp => by
    have := h.2.2 y hy (2 ^ p) (pw_16 hp)
    rw [sh_pw hp] at this
    exact this
  rcases hk with rfl | rfl | rfl
  · have hs := sh_b (g := g) (x := A) (c := 120000000) (by decide) 4 h.2.1
    have := mv_num (B := 1600) (Aa := 120000000) (G := 8) (Q := 51200) (T := 15424000000) (B' := 655360000) (A2 := 450000000000000) h.1 hq hgo ht hw (shA := st_sh 4 g A) (by omega) (by decide) (by decide)
    exact ⟨⟨by omega, by omega⟩, this.2.1, fun p hp => this.2.2 _ _ (h.2.1 p hp) (hW p hp)⟩
  · have hs := sh_b (g := g) (x := A) (c := 40000) (by decide) 4 h.2.1
    have := mv_num (B := 5) (Aa := 40000) (G := 2) (Q := 160) (T := 5280000) (B' := 1600) (A2 := 120000000) h.1 hq hgo ht hw (shA := st_sh 4 g A) (by omega) (by decide) (by decide)
    exact ⟨⟨by omega, by omega⟩, this.2.1, fun p hp => this.2.2 _ _ (h.2.1 p hp) (hW p hp)⟩
  · have hs := sh_b (g := g) (x := A) (c := 999) (by decide) 4 h.2.1
    have := mv_num (B := 1) (Aa := 999) (G := 1) (Q := 5) (T := 10000) (B' := 5) (A2 := 40000) h.1 hq hgo ht hw (shA := st_sh 4 g A) (by omega) (by decide) (by decide)
    exact ⟨⟨by omega, by omega⟩, this.2.1, fun p hp => this.2.2 _ _ (h.2.1 p hp) (hW p hp)⟩
/-- bounds of the bent ways -/
theorem bdd_bd {be : Int} {A : Nat → Int} {wc y g k : Nat} {W : Nat → Nat → Int} {X : Nat → Int} (h : bdd be A wc W) (hwc : wc ≤ 3) (hy : y < wc) (hk : k < wc) (hg : g < 16) (hX : ∀ p, p < 4 → X p = W k p * st_sh 4 g (W y) - W y p * st_sh 4 g (W k)) : ∀ f, f < 16 → -kG (wc - 1) ≤ st_sh 4 f X ∧ st_sh 4 f X ≤ kG (wc - 1) := by
  intro f hf
  have e : st_sh 4 f X = st_sh 4 g (W y) * st_sh 4 f (W k) + (-st_sh 4 g (W k)) * st_sh 4 f (W y) := by
    rw [← co_shlin]
    exact ms_cg (fun p hp => by rw [hX p hp]; grind)
  rw [e]
  have m1 := ku_mul (h.2.2 y hy g hg) (h.2.2 k hk f hf)
  have m2 := ku_mul (x := -st_sh 4 g (W k)) (a := kG wc) (by have := h.2.2 k hk g hg; omega) (h.2.2 y hy f hf)
  have hw : wc = 1 ∨ wc = 2 ∨ wc = 3 := by omega
  rcases hw with rfl | rfl | rfl
  · have e1 : kG 1 * kG 1 = 64 := by decide
    have e2 : kG (1 - 1) = 128 := by decide
    rw [e2]; omega
  · have e1 : kG 2 * kG 2 = 4 := by decide
    have e2 : kG (2 - 1) = 8 := by decide
    rw [e2]; omega
  · have e1 : kG 3 * kG 3 = 1 := by decide
    have e2 : kG (3 - 1) = 2 := by decide
    rw [e2]; omega
theorem dv_b {dv a b x : Int} (hdv : 0 < dv) (h : dv * a = x) (hx : -b ≤ x ∧ x ≤ b) : -b ≤ a ∧ a ≤ b := by
  have h1 : (dv * a).natAbs = dv.natAbs * a.natAbs := Int.natAbs_mul dv a
  have h2 : a.natAbs ≤ dv.natAbs * a.natAbs := Nat.le_mul_of_pos_left _ (by omega)
  rw [h] at h1
  omega
theorem sg_b {sg x b : Int} (hs : sg = 1 ∨ sg = -1) (hx : -b ≤ x ∧ x ≤ b) : -b ≤ sg * x ∧ sg * x ≤ b := by
  rcases hs with rfl | rfl
  · rw [Int.one_mul]; exact hx
  · have : -1 * x = -x := by omega
    omega
/-- THE POINT AND THE WAYS of the class, some parts fixed -/
def CI (n : Nat) (v : Nat → Int) (fx : Nat → Prop) (lp lq : Nat → Int) (be : Int) (A : Nat → Int) (wc : Nat) (W : Nat → Nat → Int) : Prop := st_Fe n v fx lp lq be A ∧ spn n wc fx W ∧ (∀ p, n ≤ p → p < 4 → A p = 0) ∧ (∀ w, w < wc → ∀ p, n ≤ p → p < 4 → W w p = 0) ∧ bdd be A wc W
theorem ff_c {a b : Nat} {P : Nat → Prop} {no : Int} (h : ff a b P no ≠ no) : ∃ g : Nat, ff a b P no = g ∧ a ≤ g ∧ g < b ∧ P g := by
  rcases Classical.choose_spec (isF_e a P no b) with ⟨g, h1, h2, h3, h4, h5⟩ | ⟨h1, h2⟩
  · exact ⟨g, h5, h1, h2, h3⟩
  · exact absurd h2 h
theorem ff_m {a b : Nat} {P : Nat → Prop} (h : ff a b P (-1) = -1) : ∀ k, a ≤ k → k < b → ¬ P k := by
  rcases Classical.choose_spec (isF_e a P (-1) b) with ⟨g, h1, h2, h3, h4, h5⟩ | ⟨h1, h2⟩
  · have : ff a b P (-1) = g := h5
    omega
  · exact h1
theorem CI_same {n g : Nat} {v : Nat → Int} {fx : Nat → Prop} {lp lq : Nat → Int} {be u : Int} {A x : Nat → Int} {wc : Nat} {W : Nat → Nat → Int} (hn : n ≤ 4) (h : CI n v fx lp lq be A wc W) (hl : ∀ k, 1 ≤ k → k < 2 ^ n - 1 → fx k → 0 < lq k) (hfg : ¬ fx g) (hg : ∀ w, w < wc → st_sh 4 g (W w) = 0) (hx : st_Fe n v fx lp lq u x) (hxg : lq g * (u * v g - st_sh n g x) = u * lp g) : CI n v (fxa fx g) lp lq be A wc W := by
  obtain ⟨h1, h2, h3, h4, h5⟩ := h
  have hg2 : ∀ w, w < wc → st_sh n g (W w) = 0 := fun w hw => by rw [← sh_cut 4 hn (fun p p1 p2 => h4 w hw p p1 p2)]; exact hg w hw
  exact ⟨Fe_same hl h1 h2 hg2 hx hxg (fun k hk => ⟨fun e => hfg (e ▸ hk), rfl, rfl⟩), spn_same h2 hg2, h3, h4, h5⟩
theorem CI_move {n g y : Nat} {v : Nat → Int} {fx : Nat → Prop} {lp lq : Nat → Int} {be be' dv sg : Int} {A A' : Nat → Int} {wc : Nat} {W W' : Nat → Nat → Int} (hn : n ≤ 4) (hgr : 1 ≤ g ∧ g < 2 ^ n - 1) (hg16 : g < 16) (h : CI n v fx lp lq be A wc W) (hwc : wc ≤ 3) (hy : y < wc) (hfg : ¬ fx g) (hgo : st_sh 4 g (W y) ≠ 0) (hv : -999 ≤ v g ∧ v g ≤ 999)
    (hq : 0 ≤ lq g ∧ lq g ≤ kQ wc) (ht : -kT wc ≤ lp g ∧ lp g ≤ kT wc) (hsg : sg = 1 ∨ sg = -1) (hdv : 0 < dv) (hbe : 0 < be') (e1 : dv * be' = sg * be * (lq g * st_sh 4 g (W y))) (e2 : ∀ p, p < 4 → dv * A' p = sg * (A p * (lq g * st_sh 4 g (W y)) + W y p * ((v g * be - st_sh 4 g A) * lq g - lp g * be)))
    (hW : ∀ k, k < wc - 1 → ∀ p, p < 4 → W' k p = W (if k = y then wc - 1 else k) p * st_sh 4 g (W y) - W y p * st_sh 4 g (W (if k = y then wc - 1 else k))) : CI n v (fxa fx g) lp lq be' A' (wc - 1) W' := by
  obtain ⟨h1, h2, h3, h4, h5⟩ := h
  have idx : ∀ k, k < wc - 1 → (if k = y then wc - 1 else k) < wc := fun k hk => by split <;> omega
  have cW : ∀ w, w < wc → ∀ f, st_sh 4 f (W w) = st_sh n f (W w) := fun w hw f => sh_cut 4 hn (fun p p1 p2 => h4 w hw p p1 p2)
  have cA : st_sh 4 g A = st_sh n g A := sh_cut 4 hn h3
  have mb := bdd_mv h5 hwc hy hg16 hq ht hv
  refine ⟨?_, ?_, ?_, ?_, ⟨⟨by omega, ?_⟩, ?_, ?_⟩⟩
  · refine Fe_move (X := W y) (top := lp g) (bot := lq g) (sg := sg) (dv := dv) h1 (h2.1 y hy) (fun k hk => ⟨fun e => hfg (e ▸ hk), rfl, rfl⟩) rfl rfl hdv hbe ?_ (fun p hp => ?_)
    · rw [e1, cW y hy]
    · rw [e2 p (by omega), cW y hy, cA]
  · refine spn_drop hgr hwc hy h2 (by rw [← cW y hy]; exact hgo) (fun k hk p hp => ?_)
    rw [hW k hk p (by omega), cW y hy, cW _ (idx k hk)]
  · intro p p1 p2
    have := e2 p p2
    rw [h3 p p1 p2, h4 y hy p p1 p2, Int.zero_mul, Int.zero_mul, Int.add_zero, Int.mul_zero] at this
    rcases Int.mul_eq_zero.mp this with q | q
    · omega
    · exact q
  · intro k hk p p1 p2
    rw [hW k hk p p2, h4 _ (idx k hk) p p1 p2, h4 y hy p p1 p2]; omega
  · have e3 : dv * be' = sg * (be * (lq g * st_sh 4 g (W y))) := by rw [e1]; grind
    exact (dv_b hdv e3 (sg_b hsg mb.2.1)).2
  · exact fun p hp => dv_b hdv (e2 p hp) (sg_b hsg (mb.2.2 p hp))
  · exact fun k hk f hf => bdd_bd h5 hwc hy (idx k hk) hg16 (hW k hk) f hf
