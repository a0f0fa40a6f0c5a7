/-! A later stage of the class, as its methods do it. -/
theorem kB4 {wc : Nat} : kB wc ≤ 655360000 ∧ 0 < kB wc := by unfold kB; split <;> (try split) <;> (try split) <;> omega
theorem kA4 {wc : Nat} : kA wc ≤ 450000000000000 ∧ 0 < kA wc := by unfold kA; split <;> (try split) <;> (try split) <;> omega
theorem H_b {n wc g : Nat} {v A : Nat → Int} {fx : Nat → Prop} {lp lq : Nat → Int} {be : Int} {W : Nat → Nat → Int} (hv : ∀ k, -999 ≤ v k ∧ v k ≤ 999) (h : CI n v fx lp lq be A wc W) : -(999 * kB wc + 4 * kA wc) ≤ v g * be - st_sh 4 g A ∧ v g * be - st_sh 4 g A ≤ 999 * kB wc + 4 * kA wc := by
  obtain ⟨_, _, _, _, h5⟩ := h
  have h1 := sh_b (g := g) (x := A) (c := kA wc) (by have := kA4 (wc := wc); omega) 4 h5.2.1
  have h2 := ku_mul (x := v g) (y := be) (a := 999) (b := kB wc) (hv g) (by have := h5.1; omega)
  omega
theorem row_b {n wc op m oc : Nat} {v A : Nat → Int} {fx : Nat → Prop} {lp lq : Nat → Int} {be : Int} {W : Nat → Nat → Int} {pt : Nat → Nat} {xa xc xh : Nat → Int} (hv : ∀ k, -999 ≤ v k ∧ v k ≤ 999) (h : CI n v fx lp lq be A wc W) (hw : wc ≤ 2) (hm : m ≤ 15) (hg : gth n wc v A be W op m oc pt xa xc xh) :
    (∀ k, k < oc → -2000000000000000 ≤ xh k ∧ xh k ≤ 2000000000000000) ∧ (∀ k, k < oc → -8 ≤ xa k ∧ xa k ≤ 8) ∧ (∀ k, k < oc → -8 ≤ xc k ∧ xc k ≤ 8) ∧ (1 < wc → ∀ k, k < oc → (-2 ≤ xa k ∧ xa k ≤ 2) ∧ (-2 ≤ xc k ∧ xc k ≤ 2)) ∧ (wc ≤ 1 → ∀ k, k < oc → xc k = 0) ∧ (wc = 0 → ∀ k, k < oc → xa k = 0 ∧ xc k = 0) ∧ ∀ k, k < oc → pt k < 15 := by
  have hB := kB4 (wc := wc)
  have hA := kA4 (wc := wc)
  have hG : ∀ w k, w < wc → k < oc → -kG wc ≤ st_sh 4 (pt k) (W w) ∧ st_sh 4 (pt k) (W w) ≤ kG wc := fun w k hw hk => h.2.2.2.2.2.2 w hw (pt k) (by have := (hg.1 k hk).2.1; omega)
  have g1 : wc = 1 → kG wc = 8 := fun e => by rw [e]; rfl
  have g2 : wc = 2 → kG wc = 2 := fun e => by rw [e]; rfl
  refine ⟨fun k hk => ?_, fun k hk => ?_, fun k hk => ?_, fun h1 k hk => ?_, fun h1 k hk => ?_, fun h1 k hk => ?_, fun k hk => by have := (hg.1 k hk).2.1; omega⟩
  · have e := (hg.2.2.2 k hk).2.2
    have := H_b (g := pt k) hv h
    omega
  · have e := (hg.2.2.2 k hk).1
    by_cases q : 0 < wc
    · rw [if_pos q] at e
      have := hG 0 k q hk
      have : wc = 1 ∨ wc = 2 := by omega
      omega
    · rw [if_neg q] at e; omega
  · have e := (hg.2.2.2 k hk).2.1
    by_cases q : 1 < wc
    · rw [if_pos q] at e
      have := hG 1 k q hk
      have : wc = 2 := by omega
      omega
    · rw [if_neg q] at e; omega
  · have e := hg.2.2.2 k hk
    have e1 := e.1
    have e2 := e.2.1
    rw [if_pos (by omega)] at e1
    rw [if_pos h1] at e2
    have a1 := hG 0 k (by omega) hk
    have a2 := hG 1 k h1 hk
    have : wc = 2 := by omega
    omega
  · have e := (hg.2.2.2 k hk).2.1
    rw [if_neg (by omega)] at e
    exact e
  · have e := hg.2.2.2 k hk
    rw [if_neg (by omega)] at e
    have e1 := e.1
    have e2 := e.2.1
    rw [if_neg (by omega)] at e2
    exact ⟨e1, e2⟩
/-- all that a later stage gives -/
theorem later {n wc op oc : Nat} {v A : Nat → Int} {fx : Nat → Prop} {lp lq : Nat → Int} {be : Int} {W : Nat → Nat → Int} {pt : Nat → Nat} {xa xc xh : Nat → Int} (hn : 2 ≤ n ∧ n ≤ 4) (hv : ∀ k, -999 ≤ v k ∧ v k ≤ 999) (h : CI n v fx lp lq be A wc W) (hw : wc ≤ 2) (hg : gth n wc v A be W op (al n) oc pt xa xc xh) (hop : ∀ g, op.testBit g = true ↔ st_op n fx g) (hex : ∃ g, op.testBit g = true)
    {s : Nat} {bt bb : Int} (hB : BP (fun s t b => ((False ∨ R1 oc pt xa xc xh s t b) ∨ R2 oc oc 0 pt xa xc xh s t b) ∨ R3 oc oc 0 0 pt xa xc xh s t b) s bt bb) (hb : 0 ≤ bb ∧ bb ≤ 32) :
    bb ≠ 0 ∧ 0 < bb * be ∧ b5 bt ∧ b5 (bb * be) ∧ b6 bb ∧ 0 < lw bt (bb * be) 1 ∧ Int.gcd (lw bt (bb * be) 0) (lw bt (bb * be) 1) = 1 ∧ lw bt (bb * be) 1 ≤ kQ wc ∧ (-kT wc ≤ lw bt (bb * be) 0 ∧ lw bt (bb * be) 0 ≤ kT wc) ∧
    st_P n v fx lp lq (fun g => s.testBit g = true) (lw bt (bb * be) 0) (lw bt (bb * be) 1) ∧ st_D n fx (fun g => s.testBit g = true) ∧ ∀ g, s.testBit g = true → st_op n fx g := by
  have hA := al_b hn
  have h4 := h.2.2.2.1
  have cW : ∀ w, w < wc → ∀ f, st_sh 4 f (W w) = st_sh n f (W w) := fun w hw f => sh_cut 4 hn.2 (fun p p1 p2 => h4 w hw p p1 p2)
  have cA : ∀ f, st_sh 4 f A = st_sh n f A := fun f => sh_cut 4 hn.2 h.2.2.1
  have hB2 : BP (PAs (st_op n fx) (fun g => if 0 < wc then st_sh n g (W 0) else 0) (fun g => if 1 < wc then st_sh n g (W 1) else 0) (fun g => be * v g - st_sh n g A)) s bt bb := by
    refine BP_cg hB (R_PA hg (fun g => ?_) (fun i hi => ?_) (fun i hi => ?_) (fun i hi => ?_))
    · rw [hop g]
      constructor
      · exact fun q => ⟨q.1, q.2.1, q⟩
      · exact fun q => q.2.2
    · rw [(hg.2.2.2 i hi).1]
      by_cases q : 0 < wc
      · rw [if_pos q, if_pos q, cW 0 q]
      · rw [if_neg q, if_neg q]
    · rw [(hg.2.2.2 i hi).2.1]
      by_cases q : 1 < wc
      · rw [if_pos q, if_pos q, cW 1 q]
      · rw [if_neg q, if_neg q]
    · rw [(hg.2.2.2 i hi).2.2, cA, Int.mul_comm]
  have hne : bb ≠ 0 := by
    obtain ⟨g, hg'⟩ := hex
    obtain ⟨l, l1, l2, l3, l4⟩ := open_bal (by omega) h.2.1 ⟨g, (hop g).mp hg'⟩
    have hS := h.2.1
    obtain ⟨s', t', b', q1, _⟩ := PA_c (op := st_op n fx) (al := fun g => if 0 < wc then st_sh n g (W 0) else 0) (ac := fun g => if 1 < wc then st_sh n g (W 1) else 0) (H := fun g => be * v g - st_sh n g A) l1 l2 (by
      by_cases q : 0 < wc
      · rw [← l3 0 q]; exact ms_cg (fun g _ => by rw [if_pos q])
      · rw [ms_cg (g := fun _ => 0) (fun g _ => by rw [if_neg q, Int.mul_zero]), ms_zero]) (by
      by_cases q : 1 < wc
      · rw [← l3 1 q]; exact ms_cg (fun g _ => by rw [if_pos q])
      · rw [ms_cg (g := fun _ => 0) (fun g _ => by rw [if_neg q, Int.mul_zero]), ms_zero]) l4
    exact BP_ne hB2 ⟨s', t', b', q1⟩
  have hbe := h.1.1
  have hkB := h.2.2.2.2.1
  have hB4 := kB4 (wc := wc)
  have hA4 := kA4 (wc := wc)
  have hbb : 0 < bb * be := Int.mul_pos (by omega) hbe
  have hbb2 := ku_mul (x := bb) (y := be) (a := 32) (b := kB wc) (by omega) (by omega)
  have hH : ∀ g, st_op n fx g → -(999 * kB wc + 4 * kA wc) ≤ be * v g - st_sh n g A ∧ be * v g - st_sh n g A ≤ 999 * kB wc + 4 * kA wc := fun g _ => by
    have := H_b (g := g) hv h
    rw [cA, Int.mul_comm (v g) be] at this
    exact this
  have htb := top_b (s := 0) (n := n) (fun g hg => hg.2.1) (show 0 < bb by omega) hB2 hH
  have htb2 : -(32 * (999 * kB wc + 4 * kA wc)) ≤ bt ∧ bt ≤ 32 * (999 * kB wc + 4 * kA wc) := by
    have := ku_mul (x := bb) (y := 999 * kB wc + 4 * kA wc) (a := 32) (b := 999 * kB wc + 4 * kA wc) (by omega) (by omega)
    omega
  have hl := lw_spec (a := bt) hbb
  have hk : wc = 0 ∨ wc = 1 ∨ wc = 2 := by omega
  have hT : 32 * (999 * kB wc + 4 * kA wc) ≤ kT wc := by
    rcases hk with rfl | rfl | rfl <;> decide
  have hQ : 32 * kB wc ≤ kQ wc := by
    rcases hk with rfl | rfl | rfl <;> decide
  have hT5 : kT wc ≤ 64000000000000000 := by
    rcases hk with rfl | rfl | rfl <;> decide
  refine ⟨hne, hbb, ⟨by omega, by omega⟩, ⟨by omega, by omega⟩, ⟨by omega, by omega⟩, hl.1, hl.2.2.1, by have := hl.2.2.2.2; omega, hl.2.2.2.1 _ (by omega), ?_⟩
  exact cs_later h.1 h.2.1 hw hB2 hne hl.1 (by rw [hl.2.1])
