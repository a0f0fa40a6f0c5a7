/-! The row of open parts and its offers, as offers of parts. -/
theorem R_PA {n wc : Nat} {v A : Nat → Int} {be : Int} {W : Nat → Nat → Int} {op oc : Nat} {pt : Nat → Nat} {xa xc xh al0 ac0 H : Nat → Int} {Op : Nat → Prop} {m : Nat} (hg : gth n wc v A be W op m oc pt xa xc xh) (hOp : ∀ g, Op g ↔ (1 ≤ g ∧ g < m ∧ op.testBit g = true))
    (ha : ∀ i, i < oc → xa i = al0 (pt i)) (hc : ∀ i, i < oc → xc i = ac0 (pt i)) (hh : ∀ i, i < oc → xh i = H (pt i)) (s : Nat) (t b : Int) :
    (((False ∨ R1 oc pt xa xc xh s t b) ∨ R2 oc oc 0 pt xa xc xh s t b) ∨ R3 oc oc 0 0 pt xa xc xh s t b) ↔ PAs Op al0 ac0 H s t b := by
  have cr : ∀ i j, i < oc → j < oc → pl_cr xa xc i j = pl_cr al0 ac0 (pt i) (pt j) := fun i j hi hj => by unfold pl_cr; rw [ha i hi, ha j hj, hc i hi, hc j hj]
  have dt : ∀ i j, i < oc → j < oc → pl_dt xa xc i j = pl_dt al0 ac0 (pt i) (pt j) := fun i j hi hj => by unfold pl_dt; rw [ha i hi, ha j hj, hc i hi, hc j hj]
  have opn : ∀ i, i < oc → Op (pt i) := fun i hi => (hOp _).mpr ⟨(hg.1 i hi).1, (hg.1 i hi).2.1, (hg.1 i hi).2.2⟩
  have idx : ∀ g, Op g → ∃ i, i < oc ∧ pt i = g := fun g h => by
    obtain ⟨h1, h2, h3⟩ := (hOp g).mp h
    exact hg.2.1 g h1 h2 h3
  have mono : ∀ i j, i < oc → j < oc → pt i < pt j → i < j := fun i j hi hj h => by
    rcases Nat.lt_trichotomy i j with q | q | q
    · exact q
    · subst q; omega
    · have := hg.2.2.1 j i q hi; omega
  constructor
  · rintro (((q | ⟨k, k1, k2, k3, rfl, rfl, rfl⟩) | ⟨k, m', k1, k2, k3, k4, k5, rfl, rfl, rfl⟩) | ⟨k, m', e, k1, k2, k3, k4, k5, rfl, rfl, rfl⟩)
    · exact q.elim
    · exact Or.inl ⟨pt k, opn k k1, by rw [← ha k k1]; exact k2, by rw [← hc k k1]; exact k3, rfl, hh k k1, rfl⟩
    · have hk : k < oc := by omega
      refine Or.inr (Or.inl ⟨pt k, pt m', opn k hk, opn m' k2, hg.2.2.1 k m' k1 k2, by rw [← cr k m' hk k2]; exact k4, by rw [← dt k m' hk k2]; exact k5, rfl, ?_, ?_⟩)
      · rw [ha k hk, ha m' k2, hc k hk, hc m' k2, hh k hk, hh m' k2]
      · rw [ha k hk, ha m' k2, hc k hk, hc m' k2]
    · have hk : k < oc := by omega
      have hm : m' < oc := by omega
      refine Or.inr (Or.inr ⟨pt k, pt m', pt e, opn k hk, opn m' hm, opn e k3, hg.2.2.1 k m' k1 hm, hg.2.2.1 m' e k2 k3, ?_, rfl, ?_, ?_⟩)
      · rw [← cr m' e hm k3, ← cr e k k3 hk, ← cr k m' hk hm]; exact k5
      · rw [cr m' e hm k3, cr e k k3 hk, cr k m' hk hm, hh k hk, hh m' hm, hh e k3]
      · rw [cr m' e hm k3, cr e k k3 hk, cr k m' hk hm]
  · rintro (⟨g, o1, a1, a2, rfl, rfl, rfl⟩ | ⟨g, f, o1, o2, h1, h2, h3, rfl, rfl, rfl⟩ | ⟨g, f, e, o1, o2, o3, h1, h2, h3, rfl, rfl, rfl⟩)
    · obtain ⟨i, i1, rfl⟩ := idx g o1
      exact Or.inl (Or.inl (Or.inr ⟨i, i1, by rw [ha i i1]; exact a1, by rw [hc i i1]; exact a2, rfl, (hh i i1).symm, rfl⟩))
    · obtain ⟨i, i1, rfl⟩ := idx g o1
      obtain ⟨j, j1, rfl⟩ := idx f o2
      refine Or.inl (Or.inr ⟨i, j, mono i j i1 j1 h1, j1, Or.inl i1, by rw [cr i j i1 j1]; exact h2, by rw [dt i j i1 j1]; exact h3, rfl, ?_, ?_⟩)
      · rw [ha i i1, ha j j1, hc i i1, hc j j1, hh i i1, hh j j1]
      · rw [ha i i1, ha j j1, hc i i1, hc j j1]
    · obtain ⟨i, i1, rfl⟩ := idx g o1
      obtain ⟨j, j1, rfl⟩ := idx f o2
      obtain ⟨k, k1, rfl⟩ := idx e o3
      refine Or.inr ⟨i, j, k, mono i j i1 j1 h1, mono j k j1 k1 h2, k1, Or.inl i1, ?_, rfl, ?_, ?_⟩
      · unfold R3c; rw [cr j k j1 k1, cr k i k1 i1, cr i j i1 j1]; exact h3
      · rw [cr j k j1 k1, cr k i k1 i1, cr i j i1 j1, hh i i1, hh j j1, hh k k1]
      · rw [cr j k j1 k1, cr k i k1 i1, cr i j i1 j1]
/-- while a part is open, some weights balance -/
theorem open_bal {n d : Nat} {fx : Nat → Prop} {W : Nat → Nat → Int} (hn : n = 2 ∨ n = 3 ∨ n = 4) (hS : spn n d fx W) (ho : ∃ g, st_op n fx g) : ∃ l : Nat → Int, (∀ g, 0 ≤ l g) ∧ (∀ g, ¬ st_op n fx g → l g = 0) ∧ (∀ i, i < d → ms_sm (2 ^ n - 1) (fun g => l g * st_sh n g (W i)) = 0) ∧ ∃ g, g < 2 ^ n - 1 ∧ 0 < l g := by
  obtain ⟨y, l, h1, h2, h3, h4⟩ := ms_tucker d (2 ^ n - 1) (fun g i => cite (st_op n fx g) (st_sh n g (W i)) 0)
  have row : ∀ g, st_op n fx g → ms_dot d (fun i => cite (st_op n fx g) (st_sh n g (W i)) 0) y = st_sh n g (fun p => ms_sm d (fun i => y i * W i p)) := by
    intro g hg
    rw [sh_lin2]
    exact ms_cg (fun i _ => by show cite _ _ _ * y i = _; rw [ci_y hg, Int.mul_comm])
  refine ⟨fun g => cite (st_op n fx g) (l g) 0, fun g => ?_, fun g hg => ci_n hg, fun i hi => ?_, ?_⟩
  · by_cases hg : st_op n fx g
    · show 0 ≤ cite _ _ _; rw [ci_y hg]; exact h2 g hg.2.1
    · show 0 ≤ cite _ _ _; rw [ci_n hg]; exact Int.le_refl 0
  · refine (ms_cg (fun g _ => ?_)).trans (h3 i hi)
    by_cases hg : st_op n fx g
    · show cite _ _ _ * _ = l g * cite _ _ _; rw [ci_y hg, ci_y hg]
    · show cite _ _ _ * _ = l g * cite _ _ _; rw [ci_n hg, ci_n hg, Int.zero_mul, Int.mul_zero]
  · apply Classical.byContradiction
    intro hx
    have hz : ∀ g, st_op n fx g → 0 < st_sh n g (fun p => ms_sm d (fun i => y i * W i p)) := by
      intro g hg
      have h5 := h4 g hg.2.1
      rw [row g hg] at h5
      have h6 : l g ≤ 0 := by
        apply Int.not_lt.mp
        intro q
        exact hx ⟨g, hg.2.1, by show 0 < cite _ _ _; rw [ci_y hg]; exact q⟩
      have := h2 g hg.2.1
      omega
    have hD : st_Dir n fx (fun p => ms_sm d (fun i => y i * W i p)) := by
      refine ⟨?_, fun g g1 g2 g3 => ?_⟩
      · rw [sh_lin2, ms_cg (g := fun _ => 0) (fun i hi => by rw [(hS.1 i hi).1, Int.mul_zero]), ms_zero]
      · rw [sh_lin2, ms_cg (g := fun _ => 0) (fun i hi => by rw [(hS.1 i hi).2 g g1 g2 g3, Int.mul_zero]), ms_zero]
    have h0 := co_down hn hD (fun g hg => Int.le_of_lt (hz g hg))
    obtain ⟨g, hg⟩ := ho
    have h7 := hz g hg
    have : st_sh n g (fun p => ms_sm d (fun i => y i * W i p)) = 0 := by
      show ms_sm n (fun p => st_bt g p * ms_sm d (fun i => y i * W i p)) = 0
      rw [ms_cg (g := fun _ => 0) (fun p hp => by rw [h0 p hp, Int.mul_zero]), ms_zero]
    omega
theorem BP_ne {P : Nat → Int → Int → Prop} {s : Nat} {t b : Int} (h : BP P s t b) (hx : ∃ s t b, P s t b) : b ≠ 0 := by
  rcases h with ⟨_, h2⟩ | ⟨h1, _⟩
  · obtain ⟨s, t, b, q⟩ := hx
    exact absurd q (h2 s t b)
  · omega
