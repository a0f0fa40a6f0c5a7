/-! Parts fixed by a stage: the point goes where their grudges are the level, the ways are bent. -/
theorem al_pow (n : Nat) : al n = 2 ^ n - 1 := rfl
/-- one more part is fixed -/
def fxa (fx : Nat → Prop) (g : Nat) : Nat → Prop := fun k => fx k ∨ k = g
theorem Dir_sub {n : Nat} {fx : Nat → Prop} {g : Nat} {dl : Nat → Int} (h : st_Dir n (fxa fx g) dl) : st_Dir n fx dl := ⟨h.1, fun k k1 k2 k3 => h.2 k k1 k2 (Or.inl k3)⟩
theorem Dir_add {n : Nat} {fx : Nat → Prop} {g : Nat} {dl : Nat → Int} (h : st_Dir n fx dl) (hg : st_sh n g dl = 0) : st_Dir n (fxa fx g) dl := ⟨h.1, fun k k1 k2 k3 => by
  rcases k3 with k3 | rfl
  · exact h.2 k k1 k2 k3
  · exact hg⟩
/-- no way changes it: the ways stay -/
theorem spn_same {n d g : Nat} {fx : Nat → Prop} {W : Nat → Nat → Int} (h : spn n d fx W) (hg : ∀ i, i < d → st_sh n g (W i) = 0) : spn n d (fxa fx g) W := ⟨fun i hi => Dir_add (h.1 i hi) (hg i hi), fun dl hdl => h.2 dl (Dir_sub hdl)⟩
theorem sm_skip {d y : Nat} (hd : d ≤ 3) (hy : y < d) (f : Nat → Int) : ms_sm d f = f y + ms_sm (d - 1) (fun k => f (if k = y then d - 1 else k)) := by
  have hd' : d = 1 ∨ d = 2 ∨ d = 3 := by omega
  rcases hd' with rfl | rfl | rfl
  · have : y = 0 := by omega
    subst this
    show 0 + f 0 = f 0 + 0
    omega
  · have : y = 0 ∨ y = 1 := by omega
    rcases this with rfl | rfl
    · show 0 + f 0 + f 1 = f 0 + (0 + f 1); omega
    · show 0 + f 0 + f 1 = f 1 + (0 + f 0); omega
  · have : y = 0 ∨ y = 1 ∨ y = 2 := by omega
    rcases this with rfl | rfl | rfl
    · show 0 + f 0 + f 1 + f 2 = f 0 + (0 + f 2 + f 1); omega
    · show 0 + f 0 + f 1 + f 2 = f 1 + (0 + f 0 + f 2); omega
    · show 0 + f 0 + f 1 + f 2 = f 2 + (0 + f 0 + f 1); omega
/-- a way is dropped, the others are bent by it -/
theorem spn_drop {n d g y : Nat} {fx : Nat → Prop} {W W' : Nat → Nat → Int} (hgr : 1 ≤ g ∧ g < 2 ^ n - 1) (hd : d ≤ 3) (hy : y < d) (h : spn n d fx W) (hg : st_sh n g (W y) ≠ 0)
    (hW : ∀ k, k < d - 1 → ∀ p, p < n → W' k p = W (if k = y then d - 1 else k) p * st_sh n g (W y) - W y p * st_sh n g (W (if k = y then d - 1 else k))) : spn n (d - 1) (fxa fx g) W' := by
  have idx : ∀ k, k < d - 1 → (if k = y then d - 1 else k) < d := fun k hk => by split <;> omega
  have shW : ∀ k, k < d - 1 → ∀ f, st_sh n f (W' k) = st_sh n g (W y) * st_sh n f (W (if k = y then d - 1 else k)) + (-st_sh n g (W (if k = y then d - 1 else k))) * st_sh n f (W y) := by
    intro k hk f
    rw [← co_shlin]
    exact ms_cg (fun p hp => by rw [hW k hk p hp]; grind)
  refine ⟨fun k hk => Dir_add ⟨?_, fun f f1 f2 f3 => ?_⟩ ?_, fun dl hdl => ?_⟩
  · rw [shW k hk, (h.1 _ (idx k hk)).1, (h.1 y hy).1]; omega
  · rw [shW k hk, (h.1 _ (idx k hk)).2 f f1 f2 f3, (h.1 y hy).2 f f1 f2 f3]; omega
  · rw [shW k hk]; grind
  · obtain ⟨k, c, hk, hc⟩ := h.2 dl (Dir_sub hdl)
    refine ⟨st_sh n g (W y) * k, fun i => c (if i = y then d - 1 else i), fun e => ?_, fun p hp => ?_⟩
    · rcases Int.mul_eq_zero.mp e with q | q
      · exact hg q
      · exact hk q
    · have e1 : c y * st_sh n g (W y) + ms_sm (d - 1) (fun i => c (if i = y then d - 1 else i) * st_sh n g (W (if i = y then d - 1 else i))) = 0 := by
        have e2 : k * st_sh n g dl = ms_sm d (fun i => c i * st_sh n g (W i)) := by
          rw [← sh_k, ← sh_lin2]
          exact ms_cg (fun p hp => by show _ * (k * dl p) = _ * ms_sm d (fun i => c i * W i p); rw [hc p hp])
        have e3 : st_sh n g dl = 0 := hdl.2 g hgr.1 hgr.2 (Or.inr rfl)
        rw [e3, Int.mul_zero, sm_skip hd hy] at e2
        exact e2.symm
      have e4 := hc p hp
      rw [sm_skip hd hy] at e4
      have e5 : ms_sm (d - 1) (fun i => c (if i = y then d - 1 else i) * W' i p) = st_sh n g (W y) * ms_sm (d - 1) (fun i => c (if i = y then d - 1 else i) * W (if i = y then d - 1 else i) p) + (-W y p) * ms_sm (d - 1) (fun i => c (if i = y then d - 1 else i) * st_sh n g (W (if i = y then d - 1 else i))) := by
        rw [← ms_mul, ← ms_mul, ← ms_add]
        exact ms_cg (fun i hi => by rw [hW i hi p hp]; grind)
      rw [e5]
      have e6 : ms_sm (d - 1) (fun i => c (if i = y then d - 1 else i) * st_sh n g (W (if i = y then d - 1 else i))) = -(c y * st_sh n g (W y)) := by omega
      rw [e6]
      have e7 : ms_sm (d - 1) (fun i => c (if i = y then d - 1 else i) * W (if i = y then d - 1 else i) p) = k * dl p - c y * W y p := by
        have : ms_sm (d - 1) (fun k => (fun i => c i * W i p) (if k = y then d - 1 else k)) = ms_sm (d - 1) (fun i => c (if i = y then d - 1 else i) * W (if i = y then d - 1 else i) p) := rfl
        omega
      rw [e7]
      grind
/-- the point moved along a way, to where the part's grudge is the level -/
theorem Fe_move {n g : Nat} {v : Nat → Int} {fx : Nat → Prop} {lp lq lp' lq' : Nat → Int} {be be' dv sg top bot : Int} {A A' X : Nat → Int} (hF : st_Fe n v fx lp lq be A) (hX : st_Dir n fx X) (hnew : ∀ k, fx k → k ≠ g ∧ lp' k = lp k ∧ lq' k = lq k) (h1 : lp' g = top) (h2 : lq' g = bot)
    (hdv : 0 < dv) (hbe : 0 < be') (e1 : dv * be' = sg * be * (bot * st_sh n g X)) (e2 : ∀ p, p < n → dv * A' p = sg * (A p * (bot * st_sh n g X) + X p * ((v g * be - st_sh n g A) * bot - top * be))) : st_Fe n v (fxa fx g) lp' lq' be' A' := by
  have sh : ∀ f, dv * st_sh n f A' = sg * (bot * st_sh n g X) * st_sh n f A + sg * ((v g * be - st_sh n g A) * bot - top * be) * st_sh n f X := by
    intro f
    rw [← sh_k, ← co_shlin]
    exact ms_cg (fun p hp => by show _ * (dv * A' p) = _; rw [e2 p hp]; grind)
  have canc : ∀ a b : Int, dv * a = dv * b → a = b := fun a b q => Int.eq_of_mul_eq_mul_left (by omega) q
  refine ⟨hbe, canc _ _ ?_, fun k k1 k2 k3 => ?_⟩
  · rw [sh, hF.2.1, hX.1]
    have : dv * (be' * v (2 ^ n - 1)) = dv * be' * v (2 ^ n - 1) := by grind
    rw [this, e1]; grind
  · rcases k3 with k3 | rfl
    · obtain ⟨_, q1, q2⟩ := hnew k k3
      have hk := hF.2.2 k k1 k2 k3
      rw [q1, q2]
      apply canc
      have e3 : dv * (lq k * (be' * v k - st_sh n k A')) = lq k * (dv * be' * v k - dv * st_sh n k A') := by grind
      have e4 : dv * (be' * lp k) = dv * be' * lp k := by grind
      rw [e3, e4, sh, hX.2 k k1 k2 k3, e1]
      have e5 : sg * be * (bot * st_sh n g X) * lp k = sg * (bot * st_sh n g X) * (be * lp k) := by grind
      rw [e5, ← hk]; grind
    · rw [h1, h2]
      apply canc
      have e3 : dv * (bot * (be' * v k - st_sh n k A')) = bot * (dv * be' * v k - dv * st_sh n k A') := by grind
      have e4 : dv * (be' * top) = dv * be' * top := by grind
      rw [e3, e4, sh, e1]; grind
/-- no way changes it: its grudge is the level already -/
theorem Fe_same {n d g : Nat} {v : Nat → Int} {fx : Nat → Prop} {lp lq lp' lq' : Nat → Int} {be u : Int} {A x : Nat → Int} {W : Nat → Nat → Int} (hl : ∀ k, 1 ≤ k → k < 2 ^ n - 1 → fx k → 0 < lq k) (hF : st_Fe n v fx lp lq be A) (hS : spn n d fx W) (hg : ∀ i, i < d → st_sh n g (W i) = 0) (hx : st_Fe n v fx lp lq u x) (hxg : lq' g * (u * v g - st_sh n g x) = u * lp' g) (hnew : ∀ k, fx k → k ≠ g ∧ lp' k = lp k ∧ lq' k = lq k) : st_Fe n v (fxa fx g) lp' lq' be A := by
  refine ⟨hF.1, hF.2.1, fun k k1 k2 k3 => ?_⟩
  rcases k3 with k3 | rfl
  · obtain ⟨_, q1, q2⟩ := hnew k k3
    rw [q1, q2]; exact hF.2.2 k k1 k2 k3
  · have hd := st_diff hl hF hx
    obtain ⟨c, co, hc, hco⟩ := hS.2 _ hd
    have e1 : c * (be * st_sh n k x + (-u) * st_sh n k A) = 0 := by
      rw [← co_shlin, ← sh_k]
      have : st_sh n k (fun p => c * (be * x p + -u * A p)) = st_sh n k (fun p => ms_sm d (fun i => co i * W i p)) := ms_cg (fun p hp => by show _ * (c * (be * x p + -u * A p)) = _ * ms_sm d (fun i => co i * W i p); rw [hco p hp])
      rw [this, sh_lin2, ms_cg (g := fun _ => 0) (fun i hi => by rw [hg i hi, Int.mul_zero]), ms_zero]
    have e2 : be * st_sh n k x = u * st_sh n k A := by
      rcases Int.mul_eq_zero.mp e1 with q | q
      · exact absurd q hc
      · have : (-u) * st_sh n k A = -(u * st_sh n k A) := Int.neg_mul _ _
        omega
    have hu := hx.1
    apply Int.eq_of_mul_eq_mul_left (show u ≠ 0 by omega)
    have e3 : u * (lq' k * (be * v k - st_sh n k A)) = lq' k * (u * be * v k - u * st_sh n k A) := by grind
    rw [e3, ← e2]
    have e4 : lq' k * (u * be * v k - be * st_sh n k x) = be * (lq' k * (u * v k - st_sh n k x)) := by grind
    rw [e4, hxg]; grind
