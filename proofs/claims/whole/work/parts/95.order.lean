/-! In order; the surplus. -/
theorem nE_lt {n : Nat} {v : Nat → Int} (hn : 2 ≤ n ∧ n ≤ 4) (hv : ∀ k, -999 ≤ v k ∧ v k ≤ 999) (h0 : v 0 = 0) {k g : Nat} (k1 : 1 ≤ k ∧ k < al n) (g1 : 1 ≤ g ∧ g < al n) : (nS n v k < nS n v g → nE n v g < nE n v k) ∧ (nS n v k = nS n v g → nE n v k = nE n v g) := by
  have sk := nS_s hn hv h0 k1.1 k1.2
  have sg := nS_s hn hv h0 g1.1 g1.2
  have ek := nE_l hn hv h0 k1.1 k1.2
  have eg := nE_l hn hv h0 g1.1 g1.2
  have qk := (nQ_p hn hv h0 sk.1 sk.2.1).1
  have qg := (nQ_p hn hv h0 sg.1 sg.2.1).1
  have b := (nB_b hn hv h0).1
  constructor
  · intro h
    have d := nP_dec hn hv h0 sk.1 h sg.2.1
    have d2 := Int.mul_lt_mul_of_pos_right d b
    have d3 : nE n v g * (nQ n v (nS n v g) * nQ n v (nS n v k)) < nE n v k * (nQ n v (nS n v g) * nQ n v (nS n v k)) := by
      have i1 : nE n v g * (nQ n v (nS n v g) * nQ n v (nS n v k)) = nE n v g * nQ n v (nS n v g) * nQ n v (nS n v k) := by grind
      have i2 : nE n v k * (nQ n v (nS n v g) * nQ n v (nS n v k)) = nE n v k * nQ n v (nS n v k) * nQ n v (nS n v g) := by grind
      rw [i1, i2, ek, eg]
      have i3 : nP n v (nS n v g) * nB n v * nQ n v (nS n v k) = nP n v (nS n v g) * nQ n v (nS n v k) * nB n v := by grind
      have i4 : nP n v (nS n v k) * nB n v * nQ n v (nS n v g) = nP n v (nS n v k) * nQ n v (nS n v g) * nB n v := by grind
      rw [i3, i4]; exact d2
    exact Int.lt_of_mul_lt_mul_right d3 (Int.le_of_lt (Int.mul_pos qg qk))
  · intro h
    rw [h] at ek
    exact Int.eq_of_mul_eq_mul_right (show nQ n v (nS n v g) ≠ 0 by omega) (ek.trans eg.symm)
/-- how many stand ahead of stage s, part g -/
noncomputable def plc (n : Nat) (v : Nat → Int) (s g : Nat) : Int := gs (al n) (fun k => if nS n v k < s ∨ (nS n v k = s ∧ k < g) then 1 else 0)
theorem plc_g {n : Nat} {v : Nat → Int} (hn : 2 ≤ n ∧ n ≤ 4) (hv : ∀ k, -999 ≤ v k ∧ v k ≤ 999) (h0 : v 0 = 0) {g : Nat} (g1 : 1 ≤ g ∧ g < al n) : cA (nE n v) (al n) g = plc n v (nS n v g) g := by
  unfold cA plc
  refine gs_cg (fun k k1 k2 => ?_)
  have a := nE_lt hn hv h0 ⟨k1, k2⟩ g1
  have b := nE_lt hn hv h0 g1 ⟨k1, k2⟩
  unfold ah1
  by_cases e : nS n v k < nS n v g ∨ (nS n v k = nS n v g ∧ k < g)
  · rw [if_pos e, if_pos (by
      rcases e with e | e
      · exact Or.inl (a.1 e)
      · exact Or.inr ⟨a.2 e.1, e.2⟩)]
  · rw [if_neg e, if_neg (by
      intro q
      rcases Nat.lt_trichotomy (nS n v k) (nS n v g) with z | z | z
      · exact e (Or.inl z)
      · have := a.2 z
        rcases q with q | q
        · omega
        · exact e (Or.inr ⟨z, q.2⟩)
      · have := b.1 z
        omega)]
theorem plc_s {n : Nat} {v : Nat → Int} {s g : Nat} (g1 : 1 ≤ g ∧ g < al n) : plc n v s (g + 1) = plc n v s g + if nS n v g = s then 1 else 0 := by
  unfold plc
  by_cases e : nS n v g = s
  · rw [if_pos e]
    have h1 : gs (al n) (fun k => if nS n v k < s ∨ (nS n v k = s ∧ k < g + 1) then (1 : Int) else 0) = gs (al n) (fun k => (if nS n v k < s ∨ (nS n v k = s ∧ k < g) then 1 else 0) + if k = g then 1 else 0) := gs_cg (fun k k1 k2 => by
      by_cases e2 : k = g
      · subst e2; rw [if_pos (by omega), if_neg (by omega), if_pos rfl]; rfl
      · rw [if_neg e2, Int.add_zero]
        by_cases e3 : nS n v k < s ∨ (nS n v k = s ∧ k < g)
        · rw [if_pos e3, if_pos (by omega)]
        · rw [if_neg e3, if_neg (by omega)])
    rw [h1, gs_add, gs_one g1.1, if_pos g1.2]
  · rw [if_neg e, Int.add_zero]
    refine gs_cg (fun k k1 k2 => ?_)
    by_cases e2 : k = g
    · subst e2
      by_cases e3 : nS n v k < s
      · rw [if_pos (by omega), if_pos (by omega)]
      · rw [if_neg (by omega), if_neg (by omega)]
    · by_cases e3 : nS n v k < s ∨ (nS n v k = s ∧ k < g)
      · rw [if_pos e3, if_pos (by omega)]
      · rw [if_neg e3, if_neg (by omega)]
theorem plc_n {n : Nat} {v : Nat → Int} {s : Nat} : plc n v (s + 1) 1 = plc n v s (al n) := by
  unfold plc
  refine gs_cg (fun k k1 k2 => ?_)
  by_cases e3 : nS n v k < s + 1
  · rw [if_pos (by omega), if_pos (by omega)]
  · rw [if_neg (by omega), if_neg (by omega)]
theorem plc_0 {n : Nat} {v : Nat → Int} (hn : 2 ≤ n ∧ n ≤ 4) (hv : ∀ k, -999 ≤ v k ∧ v k ≤ 999) (h0 : v 0 = 0) : plc n v 1 1 = 0 := by
  unfold plc
  rw [gs_cg (f' := fun _ => 0) (fun k k1 k2 => if_neg (by have := nS_s hn hv h0 k1 k2; omega))]
  unfold gs
  rw [ms_cg (g := fun _ => 0) (fun j _ => by by_cases h : j = 0 <;> simp [h]), ms_zero]
theorem plc_b {n : Nat} {v : Nat → Int} (hn : 2 ≤ n ∧ n ≤ 4) {s g : Nat} : 0 ≤ plc n v s g ∧ plc n v s g ≤ 15 := by
  have hA := al_b hn
  have hk : ∀ m, m ≤ 15 → 0 ≤ gs m (fun k => if nS n v k < s ∨ (nS n v k = s ∧ k < g) then (1 : Int) else 0) ∧ gs m (fun k => if nS n v k < s ∨ (nS n v k = s ∧ k < g) then (1 : Int) else 0) ≤ (m : Int) := by
    intro m
    induction m with
    | zero => intro _; exact ⟨Int.le_refl 0, Int.le_refl 0⟩
    | succ m ih =>
      intro hm
      have i := ih (by omega)
      by_cases e : 1 ≤ m
      · rw [gs_s e]; split <;> omega
      · obtain rfl : m = 0 := by omega
        have : gs (0 + 1) (fun k => if nS n v k < s ∨ (nS n v k = s ∧ k < g) then (1 : Int) else 0) = 0 := rfl
        omega
  have := hk (al n) (by omega)
  unfold plc
  omega
theorem cA_lt {E : Nat → Int} {m x y : Nat} (hx : 1 ≤ x ∧ x < m) (h : ahd E x y) : cA E m x < cA E m y := by
  have h1 : gs m (fun k => ah1 E k x + if k = x then 1 else 0) ≤ gs m (fun k => ah1 E k y) := by
    unfold gs
    have : ∀ m (f f' : Nat → Int), (∀ j, j < m → f j ≤ f' j) → ms_sm m f ≤ ms_sm m f' := by
      intro m f f'
      induction m with
      | zero => intro _; exact Int.le_refl 0
      | succ m ih =>
        intro q
        have := ih (fun j hj => q j (by omega))
        have := q m (by omega)
        show ms_sm m f + f m ≤ ms_sm m f' + f' m
        omega
    refine this m _ _ (fun k hk => ?_)
    by_cases e0 : k = 0
    · rw [if_pos e0, if_pos e0]; exact Int.le_refl 0
    · rw [if_neg e0, if_neg e0]
      show ah1 E k x + (if k = x then 1 else 0) ≤ ah1 E k y
      by_cases e : k = x
      · subst e; rw [ah1_n ahd_i, if_pos rfl, ah1_y h]; decide
      · rw [if_neg e]
        by_cases e2 : ahd E k x
        · rw [ah1_y e2, ah1_y (ahd_t e2 h)]; decide
        · rw [ah1_n e2]
          have : 0 ≤ ah1 E k y := by unfold ah1; split <;> omega
          omega
  rw [gs_add, gs_one hx.1, if_pos hx.2] at h1
  show gs m (fun k => ah1 E k x) < gs m (fun k => ah1 E k y)
  omega
theorem ino_g {E : Nat → Int} {m g : Nat} {k : Int} (hg : 1 ≤ g ∧ g < m) (h : cA E m g = k) : (g : Int) = ino E m k := by
  refine ff_y hg.1 hg.2 h (fun j j1 j2 q => ?_)
  rcases ahd_or (E := E) (show j ≠ g by omega) with e | e
  · have := cA_lt (m := m) ⟨j1, by omega⟩ e; omega
  · have := cA_lt (m := m) hg e; omega
theorem m_ordered {d N S n : Nat} {kp tp pt wr fa dm ce di be od sm le sc ba bb rk ts tm pa wa : Int} {ti : Nat} {v : Nat → Int} {h : Nat → Option rr_E} (hn : 2 ≤ n ∧ n ≤ 4) (hv : ∀ k, -999 ≤ v k ∧ v k ≤ 999) (h0 : v 0 = 0) (c58 : h 58 = some (MO (n : Int) kp tp pt wr fa dm ce di be od sm le sc ba bb (ti : Int) rk ts tm pa wa)) (c59 : h 59 = some (.inl (0, 16, .inl (fun k => ii (v k))))) (hti : ti < 32768) (hba : -1500000000000000 ≤ ba ∧ ba ≤ 1500000000000000) (hod : od = 0 ∨ od = 1) (hW : MW h) (hL : ML h) (hs : od = 0 → MS h n v sm) {a : Int} (ha : b3 a) : rr_Calls (d + (n + 7)) j_Model_ordered [.ref 58, .int (ii a)] (N, S, h) (fun r R => r = some (.int (ii (ino (nE n v) (al n) a))) ∧ ∃ (h' : Nat → Option rr_E) (ce' di' be' sm' le' sc' ba' bb' rk' od' : Int) (ti' : Nat), R = (N, S, h') ∧ fr [58, 66, 67, 68, 69, 70, 71, 72, 73, 74] h h' ∧ h' 58 = some (MO (n : Int) kp tp pt wr fa dm ce' di' be' od' sm' le' sc' ba' bb' (ti' : Int) rk' ts tm pa wa) ∧ ti' < 32768 ∧ (-1500000000000000 ≤ ba' ∧ ba' ≤ 1500000000000000) ∧ (od' = 0 ∨ od' = 1) ∧ MW h' ∧ ML h' ∧ (od' = 0 → MS h' n v sm')) := by
  refine rr_meth (C := K_Model_ordered) (hd := h_Model_ordered) (mx := 5) rfl rfl (fun K hK => ?_)
  have hA := al_b hn
  refine hK _ _ _ _ ?_
  refine s_aload_n rfl (cn rfl) rfl ?_
  refine s_virt rfl (cn rfl) rfl rfl c58 rfl (m_reckon hn hv h0 c58 c59 hti hba hod hW hL hs) ?_
  rintro _ _ ⟨rfl, h', ce', di', be', sm', le', sc', ba', bb', rk', ti', rfl, hf, c58, hti', hba', hW', hs'⟩
  obtain ⟨LA, LB, FX, SG, esm, c70, c71, c72, c73, hL1, hSG⟩ := MS_MX hn hv h0 hs'
  subst esm
  have nMb := nM_b hn hv h0
  have nBb := nB_b hn hv h0
  have c59 := (hf 59 (by decide)).trans c59
  refine s_iconst rfl (cn rfl) ?_
  refine s_istore_n rfl (cn rfl) ?_
  refine s_iconst rfl (cn rfl) ?_
  refine s_istore_n rfl (ch rfl) ?_
  have lp6 : ∀ t : Nat, t ≤ nM n v → ∀ (x : Int) (l4 : Option Value) (hx : x = plc n v (t + 1) 1) (no : ∀ g, 1 ≤ g → g < al n → nS n v g < t + 1 → cA (nE n v) (al n) g ≠ a), K 6 [some (.ref 58), some (.int (ii a)), some (.int (ii x)), some (.int (ii (t : Int))), l4] [] (N, S, h') := by
    refine dn (fun t ht ih6 => ?_)
    intro x l4 hx no
    refine hK _ _ _ _ ?_
    refine s_iload_n rfl (cn rfl) rfl ?_
    refine s_aload_n rfl (cn rfl) rfl ?_
    refine s_getfield rfl (cn rfl) c58 rfl ?_
    refine s_icmp_ge rfl (cn rfl) (cn rfl) ⟨by omega, by omega⟩ ⟨by omega, by omega⟩ (fun q9 => ?_) (fun q9 => ?_)
    · refine s_iconst rfl (cn rfl) ?_
      refine s_ireturn rfl ?_
      exact ⟨ri (ff_n (fun k k1 k2 => no k k1 k2 (by have := nS_s hn hv h0 k1 k2; omega))), ⟨h', _, _, _, _, _, _, _, _, _, 0, ti', rfl, hf, c58, hti', hba', Or.inl rfl, hW', MS_ML hs', fun _ => hs'⟩⟩
    · refine s_iconst rfl (cn rfl) ?_
      refine s_istore rfl (ch rfl) ?_
      have lp12 : ∀ g : Nat, g ≤ al n → ∀ (y : Int) (g1 : 1 ≤ g) (hy : y = plc n v (t + 1) g) (no2 : ∀ k, 1 ≤ k → k < g → nS n v k = t + 1 → cA (nE n v) (al n) k ≠ a), K 12 [some (.ref 58), some (.int (ii a)), some (.int (ii y)), some (.int (ii (t : Int))), some (.int (ii (g : Int)))] [] (N, S, h') := by
        refine dn (fun g hg ih12 => ?_)
        intro y g1 hy no2
        have hyb := plc_b (v := v) hn (s := t + 1) (g := g)
        refine hK _ _ _ _ ?_
        refine s_iload rfl (cn rfl) rfl ?_
        refine s_aload_n rfl (cn rfl) rfl ?_
        refine s_virt rfl (cn rfl) rfl rfl c58 rfl (m_all hn c58) ?_
        rintro _ _ ⟨rfl, rfl⟩
        refine s_icmp_ge rfl (cn rfl) (cn rfl) ⟨by omega, by omega⟩ ⟨by omega, by omega⟩ (fun q15 => ?_) (fun q15 => ?_)
        · refine s_iinc rfl (cn rfl) rfl ?_
          refine s_goto rfl (ch rfl) ?_
          exact ih6 (by omega) _ _ (by rw [hy, show g = al n by omega]; exact plc_n.symm) (fun k k1 k2 k3 => by
              by_cases e : nS n v k < t + 1
              · exact no k k1 k2 e
              · exact no2 k k1 (by omega) (by omega))
        · refine s_aload_n rfl (cn rfl) rfl ?_
          refine s_getfield rfl (cn rfl) c58 rfl ?_
          refine s_iload_n rfl (cn rfl) rfl ?_
          have hFX := (hL1 (t + 1) (by omega) (by omega)).2.2
          rw [Nat.add_sub_cancel] at hFX
          have hFb := nF_b hn hv h0 (show 1 ≤ t + 1 by omega) (show t + 1 ≤ nM n v by omega)
          refine s_iaload rfl (cn rfl) _ rfl c72 rfl (by omega) (by decide) (congrArg ii hFX) ?_
          refine s_iload rfl (cn rfl) rfl ?_
          refine s_stat rfl (cn rfl) rfl rfl rfl (m_has (by omega) (by omega)) ?_
          rintro _ _ ⟨rfl, rfl⟩
          refine s_ifb_ne rfl (cn rfl) (cn rfl) (fun q22 => ?_) (fun q22 => ?_)
          · have hng : nS n v g = t + 1 := nS_u hn hv h0 (by omega) (by omega) (bt_1.mp q22)
            refine s_iload_n rfl (cn rfl) rfl ?_
            refine s_iload_n rfl (cn rfl) rfl ?_
            refine s_icmp_ne rfl (cn rfl) (cn rfl) ⟨by omega, by omega⟩ ⟨by omega, by omega⟩ (fun q26 => ?_) (fun q26 => ?_)
            · refine s_iinc rfl (cn rfl) rfl ?_
              first | (have hng : nS n v g = t + 1 := hng; skip) | have hng : ¬ nS n v g = t + 1 := fun e => q22 (bt_1.mpr (by have s := nS_s hn hv h0 g1 (show g < al n by omega); rw [e] at s; exact s.2.2))
              refine s_iinc rfl (cn rfl) rfl ?_
              refine s_goto rfl (ch rfl) ?_
              exact ih12 (by omega) _ (by omega) (by rw [plc_s ⟨g1, by omega⟩, if_pos hng, hy]) (fun k k1 k2 k3 => by
                  by_cases e : k = g
                  · subst e; rw [plc_g hn hv h0 ⟨k1, by omega⟩, hng, ← hy]; omega
                  · exact no2 k k1 (by omega) k3)
            · refine s_iload rfl (cn rfl) rfl ?_
              refine s_ireturn rfl ?_
              exact ⟨ri (ino_g ⟨g1, by omega⟩ (by rw [plc_g hn hv h0 ⟨g1, by omega⟩, hng, ← hy]; omega)), ⟨h', _, _, _, _, _, _, _, _, _, 0, ti', rfl, hf, c58, hti', hba', Or.inl rfl, hW', MS_ML hs', fun _ => hs'⟩⟩
          · refine s_goto rfl (cn rfl) ?_
            first | (have hng : nS n v g = t + 1 := hng; skip) | have hng : ¬ nS n v g = t + 1 := fun e => q22 (bt_1.mpr (by have s := nS_s hn hv h0 g1 (show g < al n by omega); rw [e] at s; exact s.2.2))
            refine s_iinc rfl (cn rfl) rfl ?_
            refine s_goto rfl (ch rfl) ?_
            exact ih12 (by omega) _ (by omega) (by rw [plc_s ⟨g1, by omega⟩, if_neg hng, hy, Int.add_zero]) (fun k k1 k2 k3 => by
                by_cases e : k = g
                · subst e; exact absurd k3 hng
                · exact no2 k k1 (by omega) k3)
      exact lp12 1 (by omega) _ (by omega) hx (fun k k1 k2 => absurd k2 (by omega))
  exact lp6 0 (by omega) _ _ (plc_0 hn hv h0).symm (fun g g1 g2 g3 => by have := nS_s hn hv h0 g1 g2; omega)
def qlf (n i k g : Nat) : Prop := 1 ≤ g ∧ g < al n ∧ st_bt g i = 1 ∧ ¬ st_bt g k = 1
noncomputable def nWf (n : Nat) (v : Nat → Int) (i k : Nat) : Nat → Int
  | 0 => (nM n v : Int)
  | g + 1 => cite (qlf n i k g ∧ ((nS n v g : Nat) : Int) - 1 < nWf n v i k g) (((nS n v g : Nat) : Int) - 1) (nWf n v i k g)
theorem nWf_1 {n i k : Nat} {v : Nat → Int} : nWf n v i k 1 = (nM n v : Int) := ci_n (fun q => absurd q.1.1 (by decide))
theorem nWf_s {n i k : Nat} {v : Nat → Int} : ∀ m, (∀ g, g < m → qlf n i k g → nWf n v i k m ≤ ((nS n v g : Nat) : Int) - 1) ∧ (nWf n v i k m = (nM n v : Int) ∨ ∃ g, g < m ∧ qlf n i k g ∧ nWf n v i k m = ((nS n v g : Nat) : Int) - 1)
  | 0 => ⟨fun g hg => absurd hg (Nat.not_lt_zero g), Or.inl rfl⟩
  | m + 1 => by
    have ih := nWf_s (n := n) (i := i) (k := k) (v := v) m
    by_cases e : qlf n i k m ∧ ((nS n v m : Nat) : Int) - 1 < nWf n v i k m
    · have e1 : nWf n v i k (m + 1) = ((nS n v m : Nat) : Int) - 1 := ci_y e
      refine ⟨fun g hg hq => ?_, Or.inr ⟨m, by omega, e.1, e1⟩⟩
      by_cases e2 : g = m
      · subst e2; omega
      · have := ih.1 g (by omega) hq; omega
    · have e1 : nWf n v i k (m + 1) = nWf n v i k m := ci_n e
      refine ⟨fun g hg hq => ?_, ?_⟩
      · by_cases e2 : g = m
        · subst e2
          rw [e1]
          apply Int.not_lt.mp
          exact fun z => e ⟨hq, z⟩
        · rw [e1]; exact ih.1 g (by omega) hq
      · rw [e1]
        rcases ih.2 with z | ⟨g, g1, g2, g3⟩
        · exact Or.inl z
        · exact Or.inr ⟨g, by omega, g2, g3⟩
theorem nWf_b {n i k : Nat} {v : Nat → Int} (hn : 2 ≤ n ∧ n ≤ 4) (hv : ∀ k, -999 ≤ v k ∧ v k ≤ 999) (h0 : v 0 = 0) (m : Nat) : 0 ≤ nWf n v i k m ∧ nWf n v i k m ≤ 14 := by
  have a := nM_b hn hv h0
  rcases (nWf_s (n := n) (i := i) (k := k) (v := v) m).2 with z | ⟨g, g1, g2, g3⟩
  · omega
  · have := nS_s hn hv h0 g2.1 g2.2.1
    omega
noncomputable def sp_surplus (n : Nat) (v : Nat → Int) (a b z : Int) : Int := if (0 ≤ a ∧ a < (n : Int)) ∧ (0 ≤ b ∧ b < (n : Int)) ∧ a ≠ b ∧ (z = 0 ∨ z = 1) then sp_level n v (nWf n v a.toNat b.toNat (al n) + 1) z else -9223372036854775808
theorem qlf_1 {n i k : Nat} (hn : 2 ≤ n ∧ n ≤ 4) (hi : i < n) (hk : k < n) (h : i ≠ k) : qlf n i k (2 ^ i) := by
  have c := co_one n (by omega) i hi
  exact ⟨c.1, c.2.1, by rw [c.2.2 i hi, if_pos rfl], by rw [c.2.2 k hk, if_neg (fun e => h e.symm)]; decide⟩
theorem sur_e {n i k : Nat} {v : Nat → Int} (hn : 2 ≤ n ∧ n ≤ 4) (hv : ∀ k, -999 ≤ v k ∧ v k ≤ 999) (h0 : v 0 = 0) {g : Nat} (hg : qlf n i k g) (hm : ∀ g', qlf n i k g' → nE n v g' ≤ nE n v g) {z : Int} (hz : z = 0 ∨ z = 1) : lw (nE n v g) (nB n v) z = sp_level n v (nWf n v i k (al n) + 1) z := by
  have s := nWf_s (n := n) (i := i) (k := k) (v := v) (al n)
  have sg := nS_s hn hv h0 hg.1 hg.2.1
  have a1 := s.1 g hg.2.1 hg
  have e : nWf n v i k (al n) + 1 = ((nS n v g : Nat) : Int) := by
    rcases s.2 with q | ⟨g', q1, q2, q3⟩
    · omega
    · have sg' := nS_s hn hv h0 q2.1 q2.2.1
      have b := hm g' q2
      have c := nE_lt hn hv h0 ⟨q2.1, q2.2.1⟩ ⟨hg.1, hg.2.1⟩
      rcases Nat.lt_trichotomy (nS n v g') (nS n v g) with t | t | t
      · have := c.1 t; omega
      · omega
      · omega
  have e2 : sp_level n v ((nS n v g : Nat) : Int) z = _ := if_pos ⟨by omega, hz⟩
  rw [e, lw_nE hn hv h0 hg.1 hg.2.1, e2]; rfl
theorem m_surplus {d N S n : Nat} {kp tp pt wr fa dm ce di be od sm le sc ba bb rk ts tm pa wa : Int} {ti : Nat} {v : Nat → Int} {h : Nat → Option rr_E} (hn : 2 ≤ n ∧ n ≤ 4) (hv : ∀ k, -999 ≤ v k ∧ v k ≤ 999) (h0 : v 0 = 0) (c58 : h 58 = some (MO (n : Int) kp tp pt wr fa dm ce di be od sm le sc ba bb (ti : Int) rk ts tm pa wa)) (c59 : h 59 = some (.inl (0, 16, .inl (fun k => ii (v k))))) (hti : ti < 32768) (hba : -1500000000000000 ≤ ba ∧ ba ≤ 1500000000000000) (hod : od = 0 ∨ od = 1) (hW : MW h) (hL : ML h) (hs : od = 0 → MS h n v sm) {a b z : Int} (ha : b3 a) (hb : b3 b) (hz : b3 z) : rr_Calls (d + (n + 9)) j_Model_surplus [.ref 58, .int (ii a), .int (ii b), .int (ii z)] (N, S, h) (fun r R => r = some (.long (jj (sp_surplus n v a b z))) ∧ ∃ (h' : Nat → Option rr_E) (ce' di' be' sm' le' sc' ba' bb' rk' od' : Int) (ti' : Nat), R = (N, S, h') ∧ fr [58, 66, 67, 68, 69, 70, 71, 72, 73, 74] h h' ∧ h' 58 = some (MO (n : Int) kp tp pt wr fa dm ce' di' be' od' sm' le' sc' ba' bb' (ti' : Int) rk' ts tm pa wa) ∧ ti' < 32768 ∧ (-1500000000000000 ≤ ba' ∧ ba' ≤ 1500000000000000) ∧ (od' = 0 ∨ od' = 1) ∧ MW h' ∧ ML h' ∧ (od' = 0 → MS h' n v sm')) := by
  refine rr_meth (C := K_Model_surplus) (hd := h_Model_surplus) (mx := 6) rfl rfl (fun K hK => ?_)
  have hA := al_b hn
  refine hK _ _ _ _ ?_
  refine s_aload_n rfl (cn rfl) rfl ?_
  refine s_iload_n rfl (cn rfl) rfl ?_
  refine s_virt rfl (cn rfl) rfl rfl c58 rfl (m_isOne hn c58 ha) ?_
  rintro _ _ ⟨rfl, rfl⟩
  refine s_ifb_eq rfl (cn rfl) (cn rfl) (fun q3 => ?_) (fun q3 => ?_)
  · refine s_ldc2_w rfl (cn rfl) ?_
    refine s_lreturn rfl ?_
    exact ⟨rl (if_neg (fun q => by first | exact q3 q.1 | exact q7 q.2.1 | exact q.2.2.1 q10 | exact q16 (by omega))).symm, ⟨h, _, _, _, _, _, _, _, _, _, od, ti, rfl, fr_r, c58, hti, hba, hod, hW, hL, hs⟩⟩
  · refine s_aload_n rfl (cn rfl) rfl ?_
    refine s_iload_n rfl (cn rfl) rfl ?_
    refine s_virt rfl (cn rfl) rfl rfl c58 rfl (m_isOne hn c58 hb) ?_
    rintro _ _ ⟨rfl, rfl⟩
    refine s_ifb_eq rfl (cn rfl) (cn rfl) (fun q7 => ?_) (fun q7 => ?_)
    · refine s_ldc2_w rfl (cn rfl) ?_
      refine s_lreturn rfl ?_
      exact ⟨rl (if_neg (fun q => by first | exact q3 q.1 | exact q7 q.2.1 | exact q.2.2.1 q10 | exact q16 (by omega))).symm, ⟨h, _, _, _, _, _, _, _, _, _, od, ti, rfl, fr_r, c58, hti, hba, hod, hW, hL, hs⟩⟩
    · refine s_iload_n rfl (cn rfl) rfl ?_
      refine s_iload_n rfl (cn rfl) rfl ?_
      refine s_icmp_eq rfl (cn rfl) (cn rfl) ⟨by omega, by omega⟩ ⟨by omega, by omega⟩ (fun q10 => ?_) (fun q10 => ?_)
      · refine s_ldc2_w rfl (cn rfl) ?_
        refine s_lreturn rfl ?_
        exact ⟨rl (if_neg (fun q => by first | exact q3 q.1 | exact q7 q.2.1 | exact q.2.2.1 q10 | exact q16 (by omega))).symm, ⟨h, _, _, _, _, _, _, _, _, _, od, ti, rfl, fr_r, c58, hti, hba, hod, hW, hL, hs⟩⟩
      · refine s_iload_n rfl (cn rfl) rfl ?_
        refine s_i2l rfl (cn rfl) ⟨by omega, by omega⟩ ?_
        refine s_lconst rfl (cn rfl) 0 (by decide) ?_
        refine s_lconst rfl (cn rfl) 1 (by decide) ?_
        refine s_stat rfl (cn rfl) rfl rfl rfl (m_in (by omega) (by omega) (by omega)) ?_
        rintro _ _ ⟨rfl, rfl⟩
        refine s_ifb_ne rfl (cn rfl) (cn rfl) (fun q16 => ?_) (fun q16 => ?_)
        · obtain ⟨i, rfl⟩ := Int.eq_ofNat_of_zero_le q3.1
          obtain ⟨k, rfl⟩ := Int.eq_ofNat_of_zero_le q7.1
          refine s_aload_n rfl (cn rfl) rfl ?_
          refine s_virt rfl (cn rfl) rfl rfl c58 rfl (calls_d (m_reckon (d := d + 2) hn hv h0 c58 c59 hti hba hod hW hL hs) (show d + 2 + (n + 6) = d + (n + 8) by omega)) ?_
          rintro _ _ ⟨rfl, h', ce', di', be', sm', le', sc', ba', bb', rk', ti', rfl, hf, c58, hti', hba', hW', hs'⟩
          obtain ⟨LA, LB, FX, SG, esm, c70, c71, c72, c73, hL1, hSG⟩ := MS_MX hn hv h0 hs'
          subst esm
          have nMb := nM_b hn hv h0
          have nBb := nB_b hn hv h0
          have c59 := (hf 59 (by decide)).trans c59
          refine s_aload_n rfl (cn rfl) rfl ?_
          refine s_getfield rfl (cn rfl) c58 rfl ?_
          refine s_istore rfl (cn rfl) ?_
          refine s_iconst rfl (cn rfl) ?_
          refine s_istore rfl (ch rfl) ?_
          have lp26 : ∀ g : Nat, g ≤ al n → ∀ (x : Int) (g1 : 1 ≤ g) (hx : x = nWf n v i k g), K 26 [some (.ref 58), some (.int (ii (i : Int))), some (.int (ii (k : Int))), some (.int (ii z)), some (.int (ii x)), some (.int (ii (g : Int)))] [] (N, S, h') := by
            refine dn (fun g hg ih26 => ?_)
            intro x g1 hx
            have hwb := nWf_b (i := i) (k := k) hn hv h0 g
            refine hK _ _ _ _ ?_
            refine s_iload rfl (cn rfl) rfl ?_
            refine s_aload_n rfl (cn rfl) rfl ?_
            refine s_virt rfl (cn rfl) rfl rfl c58 rfl (m_all hn c58) ?_
            rintro _ _ ⟨rfl, rfl⟩
            refine s_icmp_ge rfl (cn rfl) (cn rfl) ⟨by omega, by omega⟩ ⟨by omega, by omega⟩ (fun q29 => ?_) (fun q29 => ?_)
            · obtain rfl : g = al n := by omega
              rw [hx]
              refine s_aload_n rfl (cn rfl) rfl ?_
              refine s_iload rfl (cn rfl) rfl ?_
              refine s_iconst rfl (cn rfl) ?_
              refine s_iadd rfl (cn rfl) ?_
              refine s_iload_n rfl (cn rfl) rfl ?_
              refine s_virt rfl (cn rfl) rfl rfl c58 rfl (m_level (a := nWf n v i k (al n) + 1) hn hv h0 c58 c59 hti' hba' (Or.inl rfl) hW' (MS_ML hs') (fun _ => hs') (by omega) hz) ?_
              rintro _ _ ⟨rfl, h2, ce2, di2, be2, sm2, le2, sc2, ba2, bb2, rk2, od2, ti2, rfl, hf2, c58, hti2, hba2, hod2, hW2, hL2, hs2⟩
              refine s_lreturn rfl ?_
              exact ⟨rl (by unfold sp_surplus; rw [if_pos ⟨q3, q7, q10, by omega⟩]; rfl), ⟨h2, _, _, _, _, _, _, _, _, _, od2, ti2, rfl, fr_t hf hf2 (by simp), c58, hti2, hba2, hod2, hW2, hL2, hs2⟩⟩
            · refine s_iload rfl (cn rfl) rfl ?_
              refine s_iload_n rfl (cn rfl) rfl ?_
              refine s_stat rfl (cn rfl) rfl rfl rfl (m_has (by omega) (by omega)) ?_
              rintro _ _ ⟨rfl, rfl⟩
              refine s_ifb_eq rfl (cn rfl) (cn rfl) (fun q33 => ?_) (fun q33 => ?_)
              · refine s_iload rfl (cn rfl) rfl ?_
                refine s_istore rfl (cn rfl) ?_
                refine s_iinc rfl (cn rfl) rfl ?_
                refine s_goto rfl (ch rfl) ?_
                first
                  | exact ih26 (by omega) _ (by omega) (ci_y ⟨⟨g1, by omega, q33, q37⟩, by omega⟩).symm
                  | exact ih26 (by omega) _ (by omega) (hx.trans (ci_n (fun q => by have := q.1.2.2; first | exact q33 this.1 | exact this.2 q37 | omega)).symm)
              · refine s_iload rfl (cn rfl) rfl ?_
                refine s_iload_n rfl (cn rfl) rfl ?_
                refine s_stat rfl (cn rfl) rfl rfl rfl (m_has (by omega) (by omega)) ?_
                rintro _ _ ⟨rfl, rfl⟩
                refine s_ifb_ne rfl (cn rfl) (cn rfl) (fun q37 => ?_) (fun q37 => ?_)
                · refine s_iload rfl (cn rfl) rfl ?_
                  refine s_istore rfl (cn rfl) ?_
                  refine s_iinc rfl (cn rfl) rfl ?_
                  refine s_goto rfl (ch rfl) ?_
                  first
                    | exact ih26 (by omega) _ (by omega) (ci_y ⟨⟨g1, by omega, q33, q37⟩, by omega⟩).symm
                    | exact ih26 (by omega) _ (by omega) (hx.trans (ci_n (fun q => by have := q.1.2.2; first | exact q33 this.1 | exact this.2 q37 | omega)).symm)
                · have hSg := hSG g g1 (by omega)
                  have hs1 := nS_s hn hv h0 g1 (show g < al n by omega)
                  refine s_aload_n rfl (cn rfl) rfl ?_
                  refine s_getfield rfl (cn rfl) c58 rfl ?_
                  refine s_iload rfl (cn rfl) rfl ?_
                  refine s_iaload rfl (cn rfl) _ rfl c73 rfl (by omega) (by decide) (congrArg ii hSg) ?_
                  refine s_iload rfl (cn rfl) rfl ?_
                  refine s_icmp_ge rfl (cn rfl) (cn rfl) ⟨by omega, by omega⟩ ⟨by omega, by omega⟩ (fun q43 => ?_) (fun q43 => ?_)
                  · refine s_iload rfl (cn rfl) rfl ?_
                    refine s_istore rfl (cn rfl) ?_
                    refine s_iinc rfl (cn rfl) rfl ?_
                    refine s_goto rfl (ch rfl) ?_
                    first
                      | exact ih26 (by omega) _ (by omega) (ci_y ⟨⟨g1, by omega, q33, q37⟩, by omega⟩).symm
                      | exact ih26 (by omega) _ (by omega) (hx.trans (ci_n (fun q => by have := q.1.2.2; first | exact q33 this.1 | exact this.2 q37 | omega)).symm)
                  · refine s_aload_n rfl (cn rfl) rfl ?_
                    refine s_getfield rfl (cn rfl) c58 rfl ?_
                    refine s_iload rfl (cn rfl) rfl ?_
                    refine s_iaload rfl (cn rfl) _ rfl c73 rfl (by omega) (by decide) (congrArg ii hSg) ?_
                    refine s_goto rfl (cn rfl) ?_
                    refine s_istore rfl (cn rfl) ?_
                    refine s_iinc rfl (cn rfl) rfl ?_
                    refine s_goto rfl (ch rfl) ?_
                    first
                      | exact ih26 (by omega) _ (by omega) (ci_y ⟨⟨g1, by omega, q33, q37⟩, by omega⟩).symm
                      | exact ih26 (by omega) _ (by omega) (hx.trans (ci_n (fun q => by have := q.1.2.2; first | exact q33 this.1 | exact this.2 q37 | omega)).symm)
          exact lp26 1 (by omega) _ (by omega) nWf_1.symm
        · refine s_ldc2_w rfl (cn rfl) ?_
          refine s_lreturn rfl ?_
          exact ⟨rl (if_neg (fun q => by first | exact q3 q.1 | exact q7 q.2.1 | exact q.2.2.1 q10 | exact q16 (by omega))).symm, ⟨h, _, _, _, _, _, _, _, _, _, od, ti, rfl, fr_r, c58, hti, hba, hod, hW, hL, hs⟩⟩
theorem u_greatest {d N S : Nat} {h : Nat → Option rr_E} {n : Nat} {v : Nat → Int} (hn : 2 ≤ n ∧ n ≤ 4) (hv : ∀ k, -999 ≤ v k ∧ v k ≤ 999) (h0 : v 0 = 0) {E : Nat → Int} (c17 : h 17 = some (.inr (3, [.long (jj (nB n v)), .ref 18, .ref 19, .int (ii (n : Int)), .int (ii ((al n : Nat) : Int))]))) (c19 : h 19 = some (.inl (1, 16, .inr (.inl (fun k => jj (E k)))))) (hE : ∀ g, 1 ≤ g → g < al n → E g = nE n v g) {i k : Nat} (hi : i < n) (hk : k < n) (hik : i ≠ k) {z : Int} (hz : z = 0 ∨ z = 1) : rr_Calls (d + 3) j_Shares_greatestWith [.ref 17, .int (ii (i : Int)), .int (ii (k : Int)), .int (ii z)] (N, S, h) (fun r R => r = some (.long (jj (sp_level n v (nWf n v i k (al n) + 1) z))) ∧ R = (N, S, h)) := by
  refine rr_meth (C := K_Shares_greatestWith) (hd := h_Shares_greatestWith) (mx := 7) rfl rfl (fun K hK => ?_)
  have hA := al_b hn
  have hq1 := qlf_1 hn hi hk hik
  have hq2 := hq1.1
  have hq3 := hq1.2.1
  have hE1 := hE _ hq2 hq3
  have nBb := nB_b hn hv h0
  have hb2 := nE_b hn hv h0 (show 2 ^ i ≤ al n by omega)
  refine hK _ _ _ _ ?_
  refine s_aload_n rfl (cn rfl) rfl ?_
  refine s_getfield rfl (cn rfl) c17 rfl ?_
  refine s_iconst rfl (cn rfl) ?_
  refine s_iload_n rfl (cn rfl) rfl ?_
  refine s_ishl rfl (cn rfl) _ (bi_shl1 (by omega)) ?_
  refine s_laload rfl (cn rfl) _ rfl c19 (by omega) (by decide) (congrArg jj hE1) ?_
  refine s_lstore rfl (cn rfl) ?_
  refine s_iconst rfl (cn rfl) ?_
  refine s_istore rfl (ch rfl) ?_
  have lp9 : ∀ g : Nat, g ≤ al n → ∀ (x : Int) (g1 : 1 ≤ g) (hx : ∃ w, qlf n i k w ∧ x = nE n v w) (hmx : ∀ w, qlf n i k w → w < g → nE n v w ≤ x), K 9 [some (.ref 17), some (.int (ii (i : Int))), some (.int (ii (k : Int))), some (.int (ii z)), some (.long (jj x)), none, some (.int (ii (g : Int)))] [] (N, S, h) := by
    refine dn (fun g hg ih9 => ?_)
    intro x g1 hx hmx
    have hEb := nE_b (g := g) hn hv h0
    have hxb : -5500000000000 ≤ x ∧ x ≤ 5500000000000 := by
      obtain ⟨w, w1, w2⟩ := hx
      rw [w2]; exact nE_b hn hv h0 (by have := w1.2.1; omega)
    refine hK _ _ _ _ ?_
    refine s_iload rfl (cn rfl) rfl ?_
    refine s_aload_n rfl (cn rfl) rfl ?_
    refine s_getfield rfl (cn rfl) c17 rfl ?_
    refine s_icmp_ge rfl (cn rfl) (cn rfl) ⟨by omega, by omega⟩ ⟨by omega, by omega⟩ (fun q12 => ?_) (fun q12 => ?_)
    · refine s_lload rfl (cn rfl) rfl ?_
      refine s_aload_n rfl (cn rfl) rfl ?_
      refine s_getfield rfl (cn rfl) c17 rfl ?_
      refine s_iload_n rfl (cn rfl) rfl ?_
      refine s_stat rfl (cn rfl) rfl rfl rfl (u_lowest ⟨by omega, by omega⟩ ⟨by omega, by omega⟩ (by omega) (by omega)) ?_
      rintro _ _ ⟨rfl, rfl⟩
      refine s_lreturn rfl ?_
      obtain ⟨w, w1, w2⟩ := hx
      exact ⟨rl (by rw [w2]; exact sur_e hn hv h0 w1 (fun g' q => by rw [← w2]; exact hmx g' q (by have := q.2.1; omega)) hz), rfl⟩
    · refine s_iload rfl (cn rfl) rfl ?_
      refine s_iload_n rfl (cn rfl) rfl ?_
      refine s_ishr rfl (cn rfl) ?_
      refine s_iconst rfl (cn rfl) ?_
      refine s_iand rfl (cn rfl) _ (bi_bit (by omega) (by omega)) ?_
      refine s_iconst rfl (cn rfl) ?_
      refine s_icmp_ne rfl (cn rfl) (cn rfl) (bt_b3 _ _) (by decide) (fun q19 => ?_) (fun q19 => ?_)
      · refine s_iinc rfl (cn rfl) rfl ?_
        refine s_goto rfl (ch rfl) ?_
        exact ih9 (by omega) _ (by omega) hx (fun w q1 q2 => by
          by_cases e : w = g
          · subst e; exfalso; have z1 := q1.2.2; first | exact q19 z1.1 | (have := bt_01 w k; omega)
          · exact hmx w q1 (by omega))
      · refine s_iload rfl (cn rfl) rfl ?_
        refine s_iload_n rfl (cn rfl) rfl ?_
        refine s_ishr rfl (cn rfl) ?_
        refine s_iconst rfl (cn rfl) ?_
        refine s_iand rfl (cn rfl) _ (bi_bit (by omega) (by omega)) ?_
        refine s_if_ne rfl (cn rfl) (cn rfl) (bt_b3 _ _) (fun q25 => ?_) (fun q25 => ?_)
        · refine s_iinc rfl (cn rfl) rfl ?_
          refine s_goto rfl (ch rfl) ?_
          exact ih9 (by omega) _ (by omega) hx (fun w q1 q2 => by
            by_cases e : w = g
            · subst e; exfalso; have z1 := q1.2.2; first | exact q19 z1.1 | (have := bt_01 w k; omega)
            · exact hmx w q1 (by omega))
        · refine s_lload rfl (cn rfl) rfl ?_
          refine s_aload_n rfl (cn rfl) rfl ?_
          refine s_getfield rfl (cn rfl) c17 rfl ?_
          refine s_iload rfl (cn rfl) rfl ?_
          have hEg := hE g g1 (by omega)
          have hEb2 := hEb (by omega)
          refine s_laload rfl (cn rfl) _ rfl c19 (by omega) (by decide) (congrArg jj hEg) ?_
          refine s_max rfl (cn rfl) rfl ⟨by omega, by omega⟩ ⟨by omega, by omega⟩ ?_
          refine s_lstore rfl (cn rfl) ?_
          refine s_iinc rfl (cn rfl) rfl ?_
          refine s_goto rfl (ch rfl) ?_
          exact ih9 (by omega) _ (by omega) (by
            by_cases e : nE n v g < x
            · rw [if_pos e]; exact hx
            · rw [if_neg e]; exact ⟨g, ⟨g1, by omega, q19, by rw [q25]; decide⟩, rfl⟩) (fun w q1 q2 => by
            by_cases e : w = g
            · subst e; split <;> omega
            · have := hmx w q1 (by omega); split <;> omega)
  exact lp9 1 (by omega) _ (by omega) ⟨2 ^ i, hq1, rfl⟩ (fun w q1 q2 => by have := q1.1; omega)
theorem d_surplus {d N S n : Nat} {v : Nat → Int} {h : Nat → Option rr_E} (hn : 2 ≤ n ∧ n ≤ 4) (c1 : h 1 = some (.inr (0, [.int (ii (n : Int)), .ref 2]))) (c2 : h 2 = some (.inl (0, 16, .inl (fun k => ii (v k))))) (hv : ∀ k, -999 ≤ v k ∧ v k ≤ 999) (h0 : v 0 = 0) (c1000000 : h 1000000 = some (.inl (8, 5, .inl (fun j => rr_two.getD j 0)))) (c1000001 : h 1000001 = some (.inl (8, 25, .inl (fun j => rr_three.getD j 0)))) (c1000002 : h 1000002 = some (.inl (8, 205, .inl (fun j => rr_four.getD j 0)))) {sl im : Int} (c0 : h 0 = some (DO sl im)) (hsl : sl = 0 ∨ sl = 1) (hraw : RAW13 h) (hsv : sl = 0 → SV13 h n v) {a b z : Int} (ha : b3 a) (hb : b3 b) (hz : b3 z) : rr_Calls (d + 7) j_Desk_surplus [.ref 0, .int (ii a), .int (ii b), .int (ii z)] (N, S, h) (fun r R => r = some (.long (jj (sp_surplus n v a b z))) ∧ ∃ (h' : Nat → Option rr_E) (sl' : Int), R = (N, S, h') ∧ fr [0, 13, 14, 15, 16, 17, 18, 19, 24, 25, 26, 27, 21, 22, 23] h h' ∧ h' 0 = some (DO sl' im) ∧ (sl' = 0 ∨ sl' = 1) ∧ RAW13 h' ∧ (sl' = 0 → SV13 h' n v)) := by
  refine rr_meth (C := K_Desk_surplus) (hd := h_Desk_surplus) (mx := 4) rfl rfl (fun K hK => ?_)
  refine hK _ _ _ _ ?_
  refine s_aload_n rfl (cn rfl) rfl ?_
  refine s_getfield rfl (cn rfl) c0 rfl ?_
  refine s_iload_n rfl (cn rfl) rfl ?_
  refine s_virt rfl (cn rfl) rfl rfl c1 rfl (u_hasOne hn c1 ha) ?_
  rintro _ _ ⟨rfl, rfl⟩
  refine s_ifb_eq rfl (cn rfl) (cn rfl) (fun q4 => ?_) (fun q4 => ?_)
  · refine s_ldc2_w rfl (cn rfl) ?_
    refine s_lreturn rfl ?_
    exact ⟨rl (if_neg (fun q => by first | exact q4 q.1 | exact q9 q.2.1 | exact q.2.2.1 q12 | exact q15 q.2.2.2)).symm, ⟨h, sl, rfl, fr_r, c0, hsl, hraw, hsv⟩⟩
  · refine s_aload_n rfl (cn rfl) rfl ?_
    refine s_getfield rfl (cn rfl) c0 rfl ?_
    refine s_iload_n rfl (cn rfl) rfl ?_
    refine s_virt rfl (cn rfl) rfl rfl c1 rfl (u_hasOne hn c1 hb) ?_
    rintro _ _ ⟨rfl, rfl⟩
    refine s_ifb_eq rfl (cn rfl) (cn rfl) (fun q9 => ?_) (fun q9 => ?_)
    · refine s_ldc2_w rfl (cn rfl) ?_
      refine s_lreturn rfl ?_
      exact ⟨rl (if_neg (fun q => by first | exact q4 q.1 | exact q9 q.2.1 | exact q.2.2.1 q12 | exact q15 q.2.2.2)).symm, ⟨h, sl, rfl, fr_r, c0, hsl, hraw, hsv⟩⟩
    · refine s_iload_n rfl (cn rfl) rfl ?_
      refine s_iload_n rfl (cn rfl) rfl ?_
      refine s_icmp_eq rfl (cn rfl) (cn rfl) ⟨by omega, by omega⟩ ⟨by omega, by omega⟩ (fun q12 => ?_) (fun q12 => ?_)
      · refine s_ldc2_w rfl (cn rfl) ?_
        refine s_lreturn rfl ?_
        exact ⟨rl (if_neg (fun q => by first | exact q4 q.1 | exact q9 q.2.1 | exact q.2.2.1 q12 | exact q15 q.2.2.2)).symm, ⟨h, sl, rfl, fr_r, c0, hsl, hraw, hsv⟩⟩
      · refine s_iload_n rfl (cn rfl) rfl ?_
        refine s_stat rfl (cn rfl) rfl rfl rfl (u_fpart (by omega)) ?_
        rintro _ _ ⟨rfl, rfl⟩
        refine s_ifb_ne rfl (cn rfl) (cn rfl) (fun q15 => ?_) (fun q15 => ?_)
        · obtain ⟨i, rfl⟩ := Int.eq_ofNat_of_zero_le q4.1
          obtain ⟨k, rfl⟩ := Int.eq_ofNat_of_zero_le q9.1
          refine s_aload_n rfl (cn rfl) rfl ?_
          refine s_virt rfl (cn rfl) rfl rfl c0 rfl (d_solved hn c1 c2 hv h0 c1000000 c1000001 c1000002 c0 hsl hraw hsv) ?_
          rintro _ _ ⟨rfl, h', rfl, hf, c0, hs⟩
          have c1 := (hf 1 (by decide)).trans c1
          have c2 := (hf 2 (by decide)).trans c2
          obtain ⟨wc, oc, bt, bb, bs, tt, tb, tf, A, E, c13, c14, c15, c16, c17, c18, c19, hS, hA4, hE⟩ := SV_SW13 hn hv h0 hs
          have nMb := nM_b hn hv h0
          have nBb := nB_b hn hv h0
          refine s_getfield rfl (cn rfl) c13 rfl ?_
          refine s_iload_n rfl (cn rfl) rfl ?_
          refine s_iload_n rfl (cn rfl) rfl ?_
          refine s_iload_n rfl (cn rfl) rfl ?_
          refine s_virt rfl (cn rfl) rfl rfl c17 rfl (u_greatest (i := i) (k := k) hn hv h0 c17 c19 hE (by omega) (by omega) (by omega) q15) ?_
          rintro _ _ ⟨rfl, rfl⟩
          refine s_lreturn rfl ?_
          exact ⟨rl (by unfold sp_surplus; rw [if_pos ⟨q4, q9, q12, q15⟩]; rfl), ⟨h', 0, rfl, hf, c0, Or.inl rfl, SV_RAW13 hs, fun _ => hs⟩⟩
        · refine s_ldc2_w rfl (cn rfl) ?_
          refine s_lreturn rfl ?_
          exact ⟨rl (if_neg (fun q => by first | exact q4 q.1 | exact q9 q.2.1 | exact q.2.2.1 q12 | exact q15 q.2.2.2)).symm, ⟨h, sl, rfl, fr_r, c0, hsl, hraw, hsv⟩⟩
