/-! All stages reckoned. -/
theorem CR_ag {n ce : Nat} {v : Nat → Int} {fx : Nat → Prop} {lp lq : Nat → Int} {sc : Int} {Rw Rw' : Nat → Nat} {rs rs' : Nat → Int} (h : CR n v fx lp lq sc ce Rw rs) (e : ∀ k, k < ce → Rw' k = Rw k ∧ rs' k = rs k) : CR n v fx lp lq sc ce Rw' rs' := by
  obtain ⟨h1, h2, h3, h4, h5, h6⟩ := h
  refine ⟨h1, h2, ?_, fun r r1 r2 => ?_, fun i hi => ?_, fun dl hd => h6 dl (fun r hr => by rw [← (e r hr).1]; exact hd r hr)⟩
  · rw [(e 0 (by omega)).1, (e 0 (by omega)).2]; exact h3
  · rw [(e r r2).1, (e r r2).2]; exact h4 r r1 r2
  · obtain ⟨dl, d1, d2⟩ := h5 i hi
    exact ⟨dl, fun r hr => by rw [(e r (by omega)).1]; exact d1 r hr, by rw [(e i hi).1]; exact d2⟩
/-- the model's stages stand -/
def MS (h : Nat → Option rr_E) (n : Nat) (v : Nat → Int) (sm : Int) : Prop := ∃ (m : Nat) (F : Nat → Nat) (p q lp lq A LA LB FX SG : Nat → Int) (bN : Int), NU n v m F p q lp lq bN A ∧ sm = (m : Int) ∧ h 70 = some (.inl (1, 16, .inr (.inl (fun k => jj (LA k))))) ∧ h 71 = some (.inl (1, 16, .inr (.inl (fun k => jj (LB k))))) ∧ h 72 = some (.inl (0, 16, .inl (fun k => ii (FX k)))) ∧ h 73 = some (.inl (0, 16, .inl (fun k => ii (SG k)))) ∧ (∀ i, 1 ≤ i → i ≤ m → LA (i - 1) = p i ∧ LB (i - 1) = q i ∧ FX (i - 1) = ((F i : Nat) : Int)) ∧ ∀ i g, 1 ≤ i → i ≤ m → (F i).testBit g = true → SG g = (i : Int) - 1
/-- the rows at work are there -/
def MW (h : Nat → Option rr_E) : Prop := ∃ (Rw : Nat → Nat) (rs x ab xr : Nat → Int), h 66 = some (.inl (0, 5, .inl (fun k => ii ((Rw k : Nat) : Int)))) ∧ h 67 = some (.inl (1, 5, .inr (.inl (fun k => jj (rs k))))) ∧ h 68 = some (.inl (1, 30, .inr (.inl (fun k => jj (x k))))) ∧ h 69 = some (.inl (1, 5, .inr (.inl (fun k => jj (ab k))))) ∧ h 74 = some (.inl (0, 25, .inl (fun k => ii (xr k)))) ∧ ∀ k, Rw k < 16
def ML (h : Nat → Option rr_E) : Prop := ∃ LA LB FX SG : Nat → Int, h 70 = some (.inl (1, 16, .inr (.inl (fun k => jj (LA k))))) ∧ h 71 = some (.inl (1, 16, .inr (.inl (fun k => jj (LB k))))) ∧ h 72 = some (.inl (0, 16, .inl (fun k => ii (FX k)))) ∧ h 73 = some (.inl (0, 16, .inl (fun k => ii (SG k))))
theorem MS_ML {h : Nat → Option rr_E} {n : Nat} {v : Nat → Int} {sm : Int} (k : MS h n v sm) : ML h := by
  obtain ⟨_, _, _, _, _, _, _, LA, LB, FX, SG, _, _, _, a, b, c, d, _⟩ := k
  exact ⟨LA, LB, FX, SG, a, b, c, d⟩
theorem le_0 {n m j le : Nat} {v : Nat → Int} {F : Nat → Nat} {p q lp lq A : Nat → Int} {bN : Int} (hN : NU n v m F p q lp lq bN A) (hj : j ≤ m) (hle : ∀ g, le.testBit g = true ↔ st_op n (fxs F (j + 1)) g) : (le = 0 → j = m) ∧ (le ≠ 0 → j < m) := by
  constructor
  · intro e
    apply Classical.byContradiction
    intro q
    obtain ⟨g, hg⟩ := NU_ne hN (show 1 ≤ j + 1 by omega) (show j + 1 ≤ m by omega)
    have := ((hN.2.1 (j + 1) (by omega) (by omega)).2.2.2.2 g hg).1
    have := (hle g).mpr this
    rw [e, Nat.zero_testBit] at this
    cases this
  · intro e
    apply Classical.byContradiction
    intro q
    obtain rfl : j = m := by omega
    refine e (Nat.eq_of_testBit_eq (fun i => ?_))
    rw [Nat.zero_testBit]
    cases hb : le.testBit i
    · rfl
    · exact absurd ((hle i).mp hb) (hN.2.2.1 i)
theorem le_s {n le j : Nat} {F : Nat → Nat} (hle : ∀ g, le.testBit g = true ↔ st_op n (fxs F (j + 1)) g) : ∀ g, (bdif le (F (j + 1))).testBit g = true ↔ st_op n (fxs F (j + 2)) g := by
  intro g
  rw [bdif_bit, Bool.and_eq_true, hle g, Bool.not_eq_true']
  constructor
  · rintro ⟨a, b⟩
    refine ⟨a.1, a.2.1, fun z => ?_⟩
    rcases fxs_n.mp z with z | z
    · exact a.2.2 z
    · rw [z] at b; cases b
  · rintro ⟨a, b, c⟩
    refine ⟨⟨a, b, fun z => c (fxs_n.mpr (Or.inl z))⟩, ?_⟩
    cases hb : (F (j + 1)).testBit g
    · rfl
    · exact absurd (fxs_n.mpr (Or.inr hb)) c
theorem fr_MS {l : List Nat} {h h' : Nat → Option rr_E} {n : Nat} {v : Nat → Int} {sm : Int} (f : fr l h h') (a : 70 ∉ l ∧ 71 ∉ l ∧ 72 ∉ l ∧ 73 ∉ l) (k : MS h n v sm) : MS h' n v sm := by
  obtain ⟨m, F, p, q, lp, lq, A, LA, LB, FX, SG, bN, k1, k2, k3, k4, k5, k6, k7⟩ := k
  exact ⟨m, F, p, q, lp, lq, A, LA, LB, FX, SG, bN, k1, k2, (f 70 a.1).trans k3, (f 71 a.2.1).trans k4, (f 72 a.2.2.1).trans k5, (f 73 a.2.2.2).trans k6, k7⟩
theorem fr_MW {l : List Nat} {h h' : Nat → Option rr_E} (f : fr l h h') (a : 66 ∉ l ∧ 67 ∉ l ∧ 68 ∉ l ∧ 69 ∉ l ∧ 74 ∉ l) (k : MW h) : MW h' := by
  obtain ⟨Rw, rs, x, ab, xr, k1, k2, k3, k4, k5, k6⟩ := k
  exact ⟨Rw, rs, x, ab, xr, (f 66 a.1).trans k1, (f 67 a.2.1).trans k2, (f 68 a.2.2.1).trans k3, (f 69 a.2.2.2.1).trans k4, (f 74 a.2.2.2.2).trans k5, k6⟩
theorem fr_ML {l : List Nat} {h h' : Nat → Option rr_E} (f : fr l h h') (a : 70 ∉ l ∧ 71 ∉ l ∧ 72 ∉ l ∧ 73 ∉ l) (k : ML h) : ML h' := by
  obtain ⟨LA, LB, FX, SG, k3, k4, k5, k6⟩ := k
  exact ⟨LA, LB, FX, SG, (f 70 a.1).trans k3, (f 71 a.2.1).trans k4, (f 72 a.2.2.1).trans k5, (f 73 a.2.2.2).trans k6⟩
theorem m_reckon1 {d N S n : Nat} {kp tp pt wr fa dm ce di be sm le sc ba bb rk ts tm pa wa : Int} {ti : Nat} {v : Nat → Int} {h : Nat → Option rr_E} (hn : 2 ≤ n ∧ n ≤ 4) (hv : ∀ k, -999 ≤ v k ∧ v k ≤ 999) (h0 : v 0 = 0) (c58 : h 58 = some (MO (n : Int) kp tp pt wr fa dm ce di be 1 sm le sc ba bb (ti : Int) rk ts tm pa wa)) (c59 : h 59 = some (.inl (0, 16, .inl (fun k => ii (v k))))) (hti : ti < 32768) (hba : -1500000000000000 ≤ ba ∧ ba ≤ 1500000000000000) (hW : MW h) (hLs : ML h) : rr_Calls (d + (n + 5 + 1)) j_Model_reckon [.ref 58] (N, S, h) (fun r R => r = none ∧ ∃ (h' : Nat → Option rr_E) (ce' di' be' sm' le' sc' ba' bb' rk' : Int) (ti' : Nat), R = (N, S, h') ∧ fr [58, 66, 67, 68, 69, 70, 71, 72, 73, 74] h h' ∧ h' 58 = some (MO (n : Int) kp tp pt wr fa dm ce' di' be' 0 sm' le' sc' ba' bb' (ti' : Int) rk' ts tm pa wa) ∧ ti' < 32768 ∧ (-1500000000000000 ≤ ba' ∧ ba' ≤ 1500000000000000) ∧ MW h' ∧ MS h' n v sm') := by
  refine rr_meth (C := K_Model_reckon) (hd := h_Model_reckon) (mx := 1) rfl rfl (fun K hK => ?_)
  have hA := al_b hn
  obtain ⟨m, F, p, q, lp, lq, bN, A, hN⟩ := NU_ex hn hv h0
  obtain ⟨Rw, rs, x, ab, xr, c66, c67, c68, c69, c74, hR⟩ := hW
  obtain ⟨LA, LB, FX, SG, c70, c71, c72, c73⟩ := hLs
  have o59 := c59
  have hva := hv (al n)
  have hpw : 2 ^ 2 ≤ 2 ^ al n := Nat.pow_le_pow_right (by decide) (by omega)
  have hop : ((2 ^ al n - 2 : Nat) : Int) = ((2 ^ al n : Nat) : Int) - 2 := by omega
  refine hK _ _ _ _ ?_
  refine s_aload_n rfl (cn rfl) rfl ?_
  refine s_getfield rfl (cn rfl) c58 rfl ?_
  refine s_if_ne rfl (cn rfl) (cn rfl) ⟨by omega, by omega⟩ (fun q2 => ?_) (fun q2 => ?_)
  · refine s_aload_n rfl (cn rfl) rfl ?_
    refine s_iconst rfl (cn rfl) ?_
    refine s_putz rfl (cn rfl) rfl (Or.inl rfl) c58 rfl ?_
    refine s_aload_n rfl (cn rfl) rfl ?_
    refine s_iconst rfl (cn rfl) ?_
    refine s_aload_n rfl (cn rfl) rfl ?_
    refine s_virt rfl (cn rfl) rfl rfl rr_set_eq rfl (m_all hn rr_set_eq) ?_
    rintro _ _ ⟨rfl, rfl⟩
    refine s_ishl rfl (cn rfl) _ (bi_shl1 (by omega)) ?_
    refine s_iconst rfl (cn rfl) ?_
    refine s_isub rfl (cn rfl) ?_
    refine s_puti rfl (cn rfl) rfl rr_set_eq rfl ?_
    refine s_aload_n rfl (cn rfl) rfl ?_
    refine s_iconst rfl (cn rfl) ?_
    refine s_puti rfl (cn rfl) rfl rr_set_eq rfl ?_
    refine s_aload_n rfl (cn rfl) rfl ?_
    refine s_lconst rfl (cn rfl) 1 (by decide) ?_
    refine s_putl rfl (cn rfl) rfl rr_set_eq rfl ?_
    refine s_aload_n rfl (cn rfl) rfl ?_
    refine s_iconst rfl (cn rfl) ?_
    refine s_puti rfl (cn rfl) rfl rr_set_eq rfl ?_
    refine s_aload_n rfl (cn rfl) rfl ?_
    refine s_getfield rfl (cn rfl) rr_set_eq rfl ?_
    refine s_iconst rfl (cn rfl) ?_
    refine s_aload_n rfl (cn rfl) rfl ?_
    refine s_virt rfl (cn rfl) rfl rfl rr_set_eq rfl (m_all hn rr_set_eq) ?_
    rintro _ _ ⟨rfl, rfl⟩
    refine s_iastore rfl (cn rfl) 0 rfl c66 (by decide) (by decide) ?_
    refine s_aload_n rfl (cn rfl) rfl ?_
    refine s_getfield rfl (cn rfl) rfl rfl ?_
    refine s_iconst rfl (cn rfl) ?_
    refine s_aload_n rfl (cn rfl) rfl ?_
    refine s_getfield rfl (cn rfl) rfl rfl ?_
    refine s_aload_n rfl (cn rfl) rfl ?_
    refine s_virt rfl (cn rfl) rfl rfl rfl rfl (m_all hn rfl) ?_
    rintro _ _ ⟨rfl, rfl⟩
    refine s_iaload rfl (cn rfl) _ rfl c59 rfl (by omega) (by decide) rfl ?_
    refine s_i2l rfl (cn rfl) ⟨by omega, by omega⟩ ?_
    refine s_lastore rfl (ch rfl) 0 rfl c67 (by decide) (by decide) ?_
    have lp40 : ∀ j : Nat, j ≤ m → ∀ (h' : Nat → Option rr_E) (ceN leN tiN : Nat) (di1 be1 sc1 ba1 bb1 rk1 : Int) (Rw : Nat → Nat) (rs x ab xr LA LB FX SG : Nat → Int) (c58 : h' 58 = some (MO (n : Int) kp tp pt wr fa dm (ceN : Int) di1 be1 0 (j : Int) (leN : Int) sc1 ba1 bb1 (tiN : Int) rk1 ts tm pa wa)) (c66 : h' 66 = some (.inl (0, 5, .inl (fun k => ii ((Rw k : Nat) : Int))))) (c67 : h' 67 = some (.inl (1, 5, .inr (.inl (fun k => jj (rs k)))))) (c68 : h' 68 = some (.inl (1, 30, .inr (.inl (fun k => jj (x k)))))) (c69 : h' 69 = some (.inl (1, 5, .inr (.inl (fun k => jj (ab k)))))) (c74 : h' 74 = some (.inl (0, 25, .inl (fun k => ii (xr k))))) (c70 : h' 70 = some (.inl (1, 16, .inr (.inl (fun k => jj (LA k)))))) (c71 : h' 71 = some (.inl (1, 16, .inr (.inl (fun k => jj (LB k)))))) (c72 : h' 72 = some (.inl (0, 16, .inl (fun k => ii (FX k))))) (c73 : h' 73 = some (.inl (0, 16, .inl (fun k => ii (SG k))))) (hf : fr [58, 66, 67, 68, 69, 70, 71, 72, 73, 74] h h') (hR : ∀ k, Rw k < 16) (hti1 : tiN < 32768) (hba1 : -1500000000000000 ≤ ba1 ∧ ba1 ≤ 1500000000000000) (hle1 : leN < 32768) (hle : ∀ g, leN.testBit g = true ↔ st_op n (fxs F (j + 1)) g) (hC : CR n v (fxs F (j + 1)) lp lq sc1 ceN Rw rs) (hd : sc1 ∣ bN) (hA7 : ∀ i, 1 ≤ i → i ≤ j → LA (i - 1) = p i ∧ LB (i - 1) = q i ∧ FX (i - 1) = ((F i : Nat) : Int)) (hG : ∀ i g, 1 ≤ i → i ≤ j → (F i).testBit g = true → SG g = (i : Int) - 1), K 40 [some (.ref 58)] [] (N, S, h') := by
      refine dn (fun j hj ih40 => ?_)
      intro h' ceN leN tiN di1 be1 sc1 ba1 bb1 rk1 Rw rs x ab xr LA LB FX SG c58 c66 c67 c68 c69 c74 c70 c71 c72 c73 hf hR hti1 hba1 hle1 hle hC hd hA7 hG
      have c59 := (hf 59 (by decide)).trans o59
      have hl0 := le_0 hN hj hle
      have hbs := CR_b hn hv hN hj hC hd
      have hce := hC.2.1
      have hsc := hC.1
      refine hK _ _ _ _ ?_
      refine s_aload_n rfl (cn rfl) rfl ?_
      refine s_getfield rfl (cn rfl) c58 rfl ?_
      refine s_if_eq rfl (cn rfl) (cn rfl) ⟨by omega, by omega⟩ (fun q42 => ?_) (fun q42 => ?_)
      · refine s_return rfl ?_
        obtain rfl : j = m := hl0.1 (by omega)
        exact ⟨rfl, h', _, _, _, _, _, _, _, _, _, tiN, rfl, hf, c58, hti1, hba1, ⟨Rw, rs, x, ab, xr, c66, c67, c68, c69, c74, hR⟩, j, F, p, q, lp, lq, A, LA, LB, FX, SG, bN, hN, rfl, c70, c71, c72, c73, hA7, hG⟩
      · refine s_aload_n rfl (cn rfl) rfl ?_
        refine s_lconst rfl (cn rfl) 0 (by decide) ?_
        refine s_putl rfl (cn rfl) rfl c58 rfl ?_
        refine s_aload_n rfl (cn rfl) rfl ?_
        refine s_aload_n rfl (cn rfl) rfl ?_
        refine s_getfield rfl (cn rfl) rr_set_eq rfl ?_
        refine s_iconst rfl (cn rfl) ?_
        refine s_virt rfl (cn rfl) rfl rfl rr_set_eq rfl (calls_d (m_corners (d := d + ceN) (sc := sc1) (P0 := fun _ _ _ => False) (ti := tiN) hn hv hce hle1 ⟨hsc, hbs.1⟩ (n + 1 - ceN) ceN 1 (by omega) (by omega) (by omega) rr_set_eq c66 c67 c68 c69 c59 hR hti1 hba1 (by decide) hbs.2 (fun _ _ _ z => z.elim) BC_0) (show d + ceN + (n + 1 - ceN + 4) = d + (n + 5) by omega)) ?_
        rintro _ _ ⟨rfl, h2, di2, be2, ba2, bb2, ti2, Rw2, rs2, x2, ab2, rfl, hf2, c58, c66, c67, c68, c69, hag, hR2, hti2, hba2, hbb2, hB2⟩
        have c59 := (hf2 59 (by decide)).trans c59
        have c74 := (hf2 74 (by decide)).trans c74
        have c70 := (hf2 70 (by decide)).trans c70
        have c71 := (hf2 71 (by decide)).trans c71
        have c72 := (hf2 72 (by decide)).trans c72
        have c73 := (hf2 73 (by decide)).trans c73
        have hjm := hl0.2 (by omega)
        obtain ⟨w1, w2, w3, w4, w5⟩ := hN.2.1 (j + 1) (by omega) (by omega)
        obtain ⟨y1, y2, y3⟩ := cor_all hn (stg_lq hN.2.1 (by omega)) hC hle w1 w3 w4 (BC_cg hB2 (fun a b s => ⟨Or.inr, fun z => by
          rcases z with z | z
          · exact z.elim
          · exact z⟩))
        obtain rfl : ti2 = F (j + 1) := Nat.eq_of_testBit_eq (fun i => by
          have z := y3 i
          cases e1 : (F (j + 1)).testBit i
          · cases e2 : ti2.testBit i
            · rfl
            · have := (z.mp e2).2; rw [e1] at this; cases this
          · exact z.mpr ⟨(w5 i e1).1, e1⟩)
        refine s_aload_n rfl (cn rfl) rfl ?_
        refine s_virt rfl (cn rfl) rfl rfl c58 rfl (calls_d (m_fix (d := d + (n + 1)) hn hv hN hjm c58 c59 c66 c67 c74 c70 c71 c72 c73 hR2 (CR_ag hC hag) hd ⟨y1, hbb2.2⟩ hba2 y2 hG) (show d + (n + 1) + 4 = d + (n + 5) by omega)) ?_
        rintro _ _ ⟨rfl, h3, ce3, rk3, sc3, Rw3, rs3, xr3, SG3, rfl, hf3, c58, c66, c67, c70, c71, c72, c73, c74, hR3, hC3, hd3, hG3⟩
        have c68 := (hf3 68 (by decide)).trans c68
        have c69 := (hf3 69 (by decide)).trans c69
        refine s_goto rfl (ch rfl) ?_
        exact ih40 (by omega) h3 ce3 _ _ _ _ _ _ _ _ _ _ _ _ _ _ _ _ _ c58 c66 c67 c68 c69 c74 c70 c71 c72 c73 (fr_t (fr_t (fr_s (by decide) hf) hf2 (by simp)) (fr_w (l := [58, 66, 67, 68, 69, 70, 71, 72, 73, 74]) hf3 (by simp)) (by simp)) hR3 hti2 hba2 (lt_bits (fun g hg => by have := ((le_s hle g).mp hg).2.1; rw [← al_pow] at this; omega)) (le_s hle) hC3 hd3 (fun i i1 i2 => by
          by_cases e : i = j + 1
          · subst e; rw [Nat.add_sub_cancel, fu_s, fu_s, fu_s]; exact ⟨rfl, rfl, rfl⟩
          · rw [fu_n (by omega), fu_n (by omega), fu_n (by omega)]; exact hA7 i i1 (by omega)) hG3
    exact lp40 0 (by omega) _ 1 (2 ^ al n - 2) ti _ _ 1 _ _ _ (pu Rw 0 (al n)) (fu rs 0 (v (al n))) x ab xr LA LB FX SG (by rw [hop]; exact rfl) (ar_f (v := fu (fun k => ((Rw k : Nat) : Int)) 0 ((al n : Nat) : Int)) rfl pu_e) rr_set_eq c68 c69 c74 c70 c71 c72 c73 (fr_s (by decide) (fr_s (by decide) (fr_s (by decide) (fr_s (by decide) (fr_s (by decide) (fr_s (by decide) (fr_s (by decide) fr_r))))))) (fun k => by unfold pu; split; omega; exact hR k) hti hba (op_lt n (by omega)) (fun g => ⟨fun z => by
        have g16 := tb_hi (Nat.lt_of_lt_of_le (op_lt n (by omega)) (by decide)) z
        have := (op_all n (by omega) hn.1 g g16).mp z
        exact ⟨this.1, this.2, fun ⟨i, i1, i2, _⟩ => by omega⟩, fun z => (op_all n (by omega) hn.1 g (by have := z.2.1; rw [← al_pow] at this; omega)).mpr ⟨z.1, z.2.1⟩⟩) (CR_0 hn (fun g ⟨i, i1, i2, _⟩ => by omega) pu_s fu_s) (Int.one_dvd _) (fun i i1 i2 => absurd i2 (by omega)) (fun i g i1 i2 => absurd i2 (by omega))
  · exact absurd q2 (by decide)
theorem m_reckon0 {d N S n : Nat} {kp tp pt wr fa dm ce di be sm le sc ba bb ti rk ts tm pa wa : Int} {h : Nat → Option rr_E} (c58 : h 58 = some (MO (n : Int) kp tp pt wr fa dm ce di be 0 sm le sc ba bb ti rk ts tm pa wa)) : rr_Calls (d + 1) j_Model_reckon [.ref 58] (N, S, h) (fun r R => r = none ∧ R = (N, S, h)) := by
  refine rr_meth (C := K_Model_reckon) (hd := h_Model_reckon) (mx := 1) rfl rfl (fun K hK => ?_)
  refine hK _ _ _ _ ?_
  refine s_aload_n rfl (cn rfl) rfl ?_
  refine s_getfield rfl (cn rfl) c58 rfl ?_
  refine s_if_ne rfl (cn rfl) (cn rfl) ⟨by omega, by omega⟩ (fun q2 => ?_) (fun q2 => ?_)
  · exact absurd rfl q2
  · refine s_return rfl ?_
    exact ⟨rfl, rfl⟩
