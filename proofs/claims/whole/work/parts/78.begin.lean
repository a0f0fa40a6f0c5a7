/-! The first stage of the class, as its methods do it; what tying needs. -/
theorem spn_cg {n d : Nat} {fx : Nat → Prop} {W W' : Nat → Nat → Int} (h : spn n d fx W) (e : ∀ w, w < d → ∀ p, p < n → W w p = W' w p) : spn n d fx W' := by
  have es : ∀ w, w < d → ∀ g, st_sh n g (W' w) = st_sh n g (W w) := fun w hw g => sh_cg (fun p hp => (e w hw p hp).symm)
  refine ⟨fun i hi => ⟨by rw [es i hi]; exact (h.1 i hi).1, fun g g1 g2 g3 => by rw [es i hi]; exact (h.1 i hi).2 g g1 g2 g3⟩, fun dl hdl => ?_⟩
  obtain ⟨k, c, hk, hc⟩ := h.2 dl hdl
  exact ⟨k, c, hk, fun p hp => by rw [hc p hp]; exact ms_cg (fun i hi => by rw [e i hi p hp])⟩
theorem sh4_W0 : ∀ w, w < 3 → ∀ g, g < 16 → -1 ≤ st_sh 4 g (W0 w) ∧ st_sh 4 g (W0 w) ≤ 1 := by decide +kernel
theorem W0_ch : ∀ n, n < 5 → ∀ g, g < 16 → (2 ≤ n ∧ 1 ≤ g ∧ g < al n) → ¬ ∀ w, w < n - 1 → st_sh 4 g (W0 w) = 0 := by decide +kernel
theorem CI_0 {n : Nat} {v lp lq A : Nat → Int} {W : Nat → Nat → Int} {fx : Nat → Prop} (hn : 2 ≤ n ∧ n ≤ 4) (hv : ∀ k, -999 ≤ v k ∧ v k ≤ 999) (hfx : ∀ k, ¬ fx k) (hA : ∀ p, p < 4 → A p = A0 (v (al n)) p) (hW : ∀ w, w < 3 → ∀ p, p < 4 → W w p = W0 w p) : CI n v fx lp lq 1 A (n - 1) W := by
  have e : fx = fun _ => False := funext (fun k => propext ⟨hfx k, False.elim⟩)
  subst e
  have hF := Fe_0 (n := n) (v := v) (lp := lp) (lq := lq) hn
  have hva := hv (al n)
  have hk : n - 1 = 1 ∨ n - 1 = 2 ∨ n - 1 = 3 := by omega
  refine ⟨⟨hF.1, ?_, fun g _ _ q => q.elim⟩, spn_cg (spn_0 hn) (fun w hw p hp => (hW w (by omega) p (by omega)).symm), fun p p1 p2 => ?_, fun w hw p p1 p2 => ?_, ⟨?_, fun p hp => ?_, fun w hw g hg => ?_⟩⟩
  · rw [sh_cg (y := A0 (v (2 ^ n - 1))) (fun p hp => hA p (by omega))]; exact hF.2.1
  · rw [hA p p2]; exact if_neg (by omega)
  · rw [hW w (by omega) p p2]
    exact (if_neg (by omega)).trans (if_neg (by omega))
  · have := kB4 (wc := n - 1)
    omega
  · rw [hA p hp]
    have h1 : -999 ≤ A0 (v (al n)) p ∧ A0 (v (al n)) p ≤ 999 := by unfold A0; split <;> omega
    have h2 : 999 ≤ kA (n - 1) := by rcases hk with q | q | q <;> rw [q] <;> decide
    omega
  · rw [sh_cg (y := W0 w) (fun p hp => hW w (by omega) p hp)]
    have h1 := sh4_W0 w (by omega) g hg
    have h2 : 1 ≤ kG (n - 1) := by rcases hk with q | q | q <;> rw [q] <;> decide
    omega
/-- all that the first stage gives -/
theorem first {n : Nat} {v lp lq : Nat → Int} {fx : Nat → Prop} (hn : 2 ≤ n ∧ n ≤ 4) (hfx : ∀ k, ¬ fx k) {s : Nat} {bt bb : Int} (hB : BP (PT n v) s bt bb) (hb : 1 ≤ bb ∧ bb ≤ 5) (ht : -10000 ≤ bt ∧ bt ≤ 10000) :
    0 < bb * 1 ∧ b5 bt ∧ b5 (bb * 1) ∧ b6 bb ∧ 0 < lw bt (bb * 1) 1 ∧ Int.gcd (lw bt (bb * 1) 0) (lw bt (bb * 1) 1) = 1 ∧ lw bt (bb * 1) 1 ≤ kQ (n - 1) ∧ (-kT (n - 1) ≤ lw bt (bb * 1) 0 ∧ lw bt (bb * 1) 0 ≤ kT (n - 1)) ∧
    st_P n v fx lp lq (fun g => s.testBit g = true) (lw bt (bb * 1) 0) (lw bt (bb * 1) 1) ∧ st_D n fx (fun g => s.testBit g = true) ∧ ∀ g, s.testBit g = true → st_op n fx g := by
  have e : fx = fun _ => False := funext (fun k => propext ⟨hfx k, False.elim⟩)
  subst e
  have hbb : 0 < bb * 1 := by omega
  have hl := lw_spec (a := bt) hbb
  have hk : n - 1 = 1 ∨ n - 1 = 2 ∨ n - 1 = 3 := by omega
  have hQ : 5 ≤ kQ (n - 1) := by rcases hk with q | q | q <;> rw [q] <;> decide
  have hT : 10000 ≤ kT (n - 1) := by rcases hk with q | q | q <;> rw [q] <;> decide
  refine ⟨hbb, ⟨by omega, by omega⟩, ⟨by omega, by omega⟩, ⟨by omega, by omega⟩, hl.1, hl.2.2.1, by have := hl.2.2.2.2; omega, by have := hl.2.2.2.1 10000 ht; omega, ?_⟩
  exact cs_first hn hB (by omega) hl.1 (by have := hl.2.1; rw [Int.mul_one] at this; rw [Int.mul_one]; exact this)
/-- what tying asks for, out of a stage -/
theorem tie_pre {n wc s : Nat} {v A lp lq : Nat → Int} {fx : Nat → Prop} {be P Q : Int} {W : Nat → Nat → Int} (hC : CI n v fx lp lq be A wc W) (hP : st_P n v fx lp lq (fun g => s.testBit g = true) P Q) (ho : ∀ g, s.testBit g = true → st_op n fx g) :
    CI n v fx (lpu lp s P) (lpu lq s Q) be A wc W ∧ (∀ k, fx k → lp k = lpu lp s P k ∧ lq k = lpu lq s Q k) ∧ ∃ u x, st_Fe n v fx (lpu lp s P) (lpu lq s Q) u x ∧ ∀ k, s.testBit k = true → lpu lq s Q k * (u * v k - st_sh n k x) = u * lpu lp s P k := by
  have agr : ∀ k, fx k → lp k = lpu lp s P k ∧ lq k = lpu lq s Q k := fun k hf => by
    have : ¬ s.testBit k = true := fun hb => (ho k hb).2.2 hf
    rw [lpu_n this, lpu_n this]; exact ⟨rfl, rfl⟩
  obtain ⟨u, x, h1, h2⟩ := hP
  exact ⟨⟨Fe_cg agr hC.1, hC.2⟩, agr, u, x, Fe_cg agr h1, fun k hb => by
    rw [lpu_y hb, lpu_y hb]
    exact (h2 k (ho k hb)).2.mpr hb⟩
/-- the stages as the class keeps them, done or under way -/
def SQ (n : Nat) (v : Nat → Int) (ku op wc : Nat) (F : Nat → Nat) (tt tb tf lp lq : Nat → Int) (be : Int) (A : Nat → Int) (W : Nat → Nat → Int) : Prop :=
  stg n v ku F tt tb lp lq ∧ (∀ j, 1 ≤ j → j ≤ ku → tf j = ((F j : Nat) : Int) ∧ F j < 32768) ∧ (∀ g, op.testBit g = true ↔ st_op n (fxs F (ku + 1)) g) ∧ op < 32768 ∧ CI n v (fxs F (ku + 1)) lp lq be A wc W ∧ (∀ k, 1 ≤ k → k < 2 ^ n - 1 → fxs F (ku + 1) k → 0 < lq k) ∧ cno op + ku ≤ 14 ∧ ∀ z : Int, z ∣ be → (∀ p, p < 4 → z ∣ A p) → z ∣ 1
/-- a stage closed and tied -/
theorem SQ_s {n : Nat} {v : Nat → Int} {ku op wc wc' s : Nat} {F : Nat → Nat} {tt tb tf lp lq : Nat → Int} {be be' P Q : Int} {A A' : Nat → Int} {W W' : Nat → Nat → Int} (hn : 2 ≤ n ∧ n ≤ 4) (h : SQ n v ku op wc F tt tb tf lp lq be A W) (hQ : 0 < Q) (hg : Int.gcd P Q = 1) (hP : st_P n v (fxs F (ku + 1)) lp lq (fun g => s.testBit g = true) P Q) (hD : st_D n (fxs F (ku + 1)) (fun g => s.testBit g = true)) (ho : ∀ g, s.testBit g = true → st_op n (fxs F (ku + 1)) g)
    (hC : CI n v (fun k => fxs F (ku + 1) k ∨ s.testBit k = true) (lpu lp s P) (lpu lq s Q) be' A' wc' W') (hr : ∀ z : Int, z ∣ be' → (∀ p, p < 4 → z ∣ A' p) → z ∣ 1) :
    SQ n v (ku + 1) (bdif op s) wc' (pu F (ku + 1) s) (fu tt (ku + 1) P) (fu tb (ku + 1) Q) (fu tf (ku + 1) (s : Int)) (lpu lp s P) (lpu lq s Q) be' A' W' := by
  obtain ⟨h1, h2, h3, h4, h5, h6, h7, _⟩ := h
  have hA := al_b hn
  have s15 : ∀ g, s.testBit g = true → g < 15 := fun g hb => by have := (ho g hb).2.1; rw [← al_pow] at this; omega
  have hD2 := hD
  obtain ⟨l, _, _, ⟨g0, g1, g2⟩, _⟩ := hD2
  refine ⟨stg_s h1 hQ hg hP hD ho, fun j j1 j2 => ?_, fun g => ?_, ?_, ?_, fun k k1 k2 k3 => ?_, ?_, hr⟩
  · by_cases e : j = ku + 1
    · subst e; rw [fu_s, pu_s]; exact ⟨rfl, lt_bits s15⟩
    · rw [fu_n e, pu_n e]; exact h2 j j1 (by omega)
  · rw [bdif_bit]
    constructor
    · intro hb
      have hb1 : op.testBit g = true ∧ s.testBit g = false := by simpa using hb
      have ho1 := (h3 g).mp hb1.1
      refine ⟨ho1.1, ho1.2.1, fun q => ?_⟩
      rcases fxs_s.mp q with q | q
      · exact ho1.2.2 q
      · rw [hb1.2] at q; cases q
    · intro q
      have q1 : op.testBit g = true := (h3 g).mpr ⟨q.1, q.2.1, fun z => q.2.2 (fxs_s.mpr (Or.inl z))⟩
      have q2 : ¬ s.testBit g = true := fun z => q.2.2 (fxs_s.mpr (Or.inr z))
      rw [q1]; simpa using q2
  · refine lt_bits (fun g hb => ?_)
    rw [bdif_bit] at hb
    have hb1 : op.testBit g = true := by
      cases hq : op.testBit g
      · rw [hq] at hb; cases hb
      · rfl
    have := ((h3 g).mp hb1).2.1
    rw [← al_pow] at this; omega
  · exact CI_cg hC (fun k => fxs_s.symm)
  · rcases fxs_s.mp k3 with q | q
    · have : ¬ s.testBit k = true := fun hb => (ho k hb).2.2 q
      rw [lpu_n this]; exact h6 k k1 k2 q
    · rw [lpu_y q]; exact hQ
  · have := cno_dif (op := op) (s := s) (fun g hb => ⟨(h3 g).mpr (ho g hb), s15 g hb⟩) g2
    omega
