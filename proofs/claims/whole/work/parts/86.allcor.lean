/-! All corners. -/
theorem cor_go {n : Nat} {ce : Nat} {v : Nat → Int} {sc : Int} {le : Nat} {f : Nat} {Rw : Nat → Nat} {rs : Nat → Int} {P0 : Int → Int → Nat → Prop} {ba : Int} {bb : Int} {ba' : Int} {bb' : Int} {ti : Nat} {ti' : Nat} {a : Nat → Int} {b : Int} (hP : ∀ a b s, P0 a b s → 0 < b) (hB : BC P0 ba bb ti) (hb : 0 < b) (hs : gj_sol (n + 1) (gm n (n + 1) ce Rw rs) a b) (hu : ∀ y w, gj_sol (n + 1) (gm n (n + 1) ce Rw rs) y w → ∀ q, q < n + 1 → b * y q = w * a q) (hc : ((¬ (∀ g, 1 ≤ g → g < al n → le.testBit g = true → ovr n v sc b a g ≤ 0) ∧ ba' = ba ∧ bb' = bb ∧ ti' = ti) ∨ ((∀ g, 1 ≤ g → g < al n → le.testBit g = true → ovr n v sc b a g ≤ 0) ∧ ∃ s, (∀ k, s.testBit k = true ↔ (1 ≤ k ∧ k < al n ∧ le.testBit k = true ∧ ovr n v sc b a k = 0)) ∧ (bb = 0 ∨ a n * bb < ba * b → ba' = a n ∧ bb' = b ∧ ti' = s) ∧ (bb ≠ 0 → a n * bb = ba * b → ba' = ba ∧ bb' = bb ∧ ti' = ti &&& s) ∧ (bb ≠ 0 → ba * b < a n * bb → ba' = ba ∧ bb' = bb ∧ ti' = ti)))) : BC (fun a b s => P0 a b s ∨ Pm n ce v sc le (n + 1) f Rw rs a b s) ba' bb' ti' := by
  rcases hc with ⟨h1, rfl, rfl, rfl⟩ | ⟨h1, s, h2, t1, t2, t3⟩
  · refine BC_cg hB (fun x y w => ⟨fun q => ?_, Or.inl⟩)
    rcases q with q | q
    · exact q
    · exfalso
      refine h1 (cor_one (s0 := os (fun g => 1 ≤ g ∧ g < al n ∧ le.testBit g = true ∧ ovr n v sc b a g = 0) (al n)) hb hu (fun g => ?_) (Pm_end.mp q)).2.2.2
      rw [os_bit]
      exact ⟨fun k => k.2, fun k => ⟨k.2.1, k⟩⟩
  · have hQ : ∀ x y w, Pm n ce v sc le (n + 1) f Rw rs x y w → 0 < y ∧ x * b = a n * y ∧ ∀ g, w.testBit g = true ↔ s.testBit g = true := fun x y w q => by
      have k := cor_one hb hu h2 (Pm_end.mp q)
      exact ⟨k.1, k.2.1, k.2.2.1⟩
    exact BC_add hP hB hb (Pm_end.mpr ⟨cND_of hb hu, a, hb, hs, rfl, h1, h2⟩) hQ t1 t2 t3
theorem cor_bd {n : Nat} {v : Nat → Int} {sc : Int} {le : Nat} {ba : Int} {bb : Int} {ba' : Int} {bb' : Int} {ti : Nat} {ti' : Nat} {a : Nat → Int} {b : Int} (hn : 2 ≤ n ∧ n ≤ 4) (hc : ((¬ (∀ g, 1 ≤ g → g < al n → le.testBit g = true → ovr n v sc b a g ≤ 0) ∧ ba' = ba ∧ bb' = bb ∧ ti' = ti) ∨ ((∀ g, 1 ≤ g → g < al n → le.testBit g = true → ovr n v sc b a g ≤ 0) ∧ ∃ s, (∀ k, s.testBit k = true ↔ (1 ≤ k ∧ k < al n ∧ le.testBit k = true ∧ ovr n v sc b a k = 0)) ∧ (bb = 0 ∨ a n * bb < ba * b → ba' = a n ∧ bb' = b ∧ ti' = s) ∧ (bb ≠ 0 → a n * bb = ba * b → ba' = ba ∧ bb' = bb ∧ ti' = ti &&& s) ∧ (bb ≠ 0 → ba * b < a n * bb → ba' = ba ∧ bb' = bb ∧ ti' = ti)))) (hti : ti < 32768) (hba : -1500000000000000 ≤ ba ∧ ba ≤ 1500000000000000) (hbb : 0 ≤ bb ∧ bb ≤ 128) (hb : 0 < b ∧ b ≤ 128) (han : -1500000000000000 ≤ a n ∧ a n ≤ 1500000000000000) : ti' < 32768 ∧ (-1500000000000000 ≤ ba' ∧ ba' ≤ 1500000000000000) ∧ (0 ≤ bb' ∧ bb' ≤ 128) := by
  have hA := al_b hn
  rcases hc with ⟨h1, rfl, rfl, rfl⟩ | ⟨h1, s, h2, t1, t2, t3⟩
  · exact ⟨hti, hba, hbb⟩
  · have hs : s < 32768 := lt_bits (fun g hg => by have := (h2 g).mp hg; omega)
    by_cases e : bb = 0
    · obtain ⟨rfl, rfl, rfl⟩ := t1 (Or.inl e)
      exact ⟨hs, han, by omega⟩
    · rcases Int.lt_trichotomy (a n * bb) (ba * b) with c | c | c
      · obtain ⟨rfl, rfl, rfl⟩ := t1 (Or.inr c)
        exact ⟨hs, han, by omega⟩
      · obtain ⟨rfl, rfl, rfl⟩ := t2 e c
        exact ⟨Nat.lt_of_le_of_lt Nat.and_le_left hti, hba, hbb⟩
      · obtain ⟨rfl, rfl, rfl⟩ := t3 e c
        exact ⟨hti, hba, hbb⟩
theorem PkI_y {n : Nat} {ce : Nat} {v : Nat → Int} {sc : Int} {le : Nat} {m : Nat} {f : Nat} {Rw : Nat → Nat} {Rw' : Nat → Nat} {rs : Nat → Int} {rs' : Nat → Int} {P0 : Int → Int → Nat → Prop} {ba : Int} {bb : Int} {ti : Nat} {g : Nat} (hag : ∀ k, k < m → Rw' k = Rw k ∧ rs' k = rs k) (hf : f ≤ g) (hb : le.testBit g = true) (hB : BC (fun a b s => (P0 a b s ∨ Pk n ce v sc le m f g Rw rs a b s) ∨ Pm n ce v sc le (m + 1) (g + 1) (pu Rw' m g) (fu rs' m (sc * v g)) a b s) ba bb ti) : BC (fun a b s => P0 a b s ∨ Pk n ce v sc le m f (g + 1) Rw rs a b s) ba bb ti := by
  have e : ∀ a b s, Pm n ce v sc le (m + 1) (g + 1) (pu Rw' m g) (fu rs' m (sc * v g)) a b s ↔ Pm n ce v sc le (m + 1) (g + 1) (pu Rw m g) (fu rs m (sc * v g)) a b s := fun a b s => Pm_cg (fun k hk => by
    by_cases e : k = m
    · subst e; rw [pu_s, pu_s]
    · rw [pu_n e, pu_n e]; exact (hag k (by omega)).1) (fun k hk => by
    by_cases e : k = m
    · subst e; rw [fu_s, fu_s]
    · rw [fu_n e, fu_n e]; exact (hag k (by omega)).2)
  refine BC_cg hB (fun a b s => ?_)
  rw [Pk_y hf hb, e a b s, or_assoc]
theorem PkI_n {n : Nat} {ce : Nat} {v : Nat → Int} {sc : Int} {le : Nat} {m : Nat} {f : Nat} {Rw : Nat → Nat} {rs : Nat → Int} {P0 : Int → Int → Nat → Prop} {ba : Int} {bb : Int} {ti : Nat} {g : Nat} (hb : ¬ le.testBit g = true) (hB : BC (fun a b s => P0 a b s ∨ Pk n ce v sc le m f g Rw rs a b s) ba bb ti) : BC (fun a b s => P0 a b s ∨ Pk n ce v sc le m f (g + 1) Rw rs a b s) ba bb ti := by
  refine BC_cg hB (fun a b s => ?_)
  rw [Pk_n hb]
theorem PkI_e {n : Nat} {ce : Nat} {v : Nat → Int} {sc : Int} {le : Nat} {m : Nat} {f : Nat} {Rw : Nat → Nat} {rs : Nat → Int} {P0 : Int → Int → Nat → Prop} {ba : Int} {bb : Int} {ti : Nat} (hm : m ≤ n) (hB : BC (fun a b s => P0 a b s ∨ Pk n ce v sc le m f (al n) Rw rs a b s) ba bb ti) : BC (fun a b s => P0 a b s ∨ Pm n ce v sc le m f Rw rs a b s) ba bb ti := by
  refine BC_cg hB (fun a b s => ?_)
  rw [Pm_step hm]
theorem PkI_0 {n : Nat} {ce : Nat} {v : Nat → Int} {sc : Int} {le : Nat} {m : Nat} {f : Nat} {Rw : Nat → Nat} {rs : Nat → Int} {P0 : Int → Int → Nat → Prop} {ba : Int} {bb : Int} {ti : Nat} (hB : BC P0 ba bb ti) : BC (fun a b s => P0 a b s ∨ Pk n ce v sc le m f f Rw rs a b s) ba bb ti := by
  refine BC_cg hB (fun a b s => ⟨fun q => ?_, Or.inl⟩)
  rcases q with q | q
  · exact q
  · exact absurd q Pk_0
theorem m_corners_0 {d N S n ce le : Nat} {kp tp pt wr fa dm od sm rk ts tm pa wa sc : Int} {v : Nat → Int} (hn : 2 ≤ n ∧ n ≤ 4) (hv : ∀ k, -999 ≤ v k ∧ v k ≤ 999) (hce : 1 ≤ ce ∧ ce ≤ n) (hle : le < 32768) (hsc : 0 < sc ∧ sc ≤ 655360000) {m f : Nat} (hm : m = n + 1)  {P0 : Int → Int → Nat → Prop} {h : Nat → Option rr_E} {di be ba bb : Int} {ti : Nat} {Rw : Nat → Nat} {rs x ab : Nat → Int} (c58 : h 58 = some (MO (n : Int) kp tp pt wr fa dm (ce : Int) di be od sm (le : Int) sc ba bb (ti : Int) rk ts tm pa wa)) (c66 : h 66 = some (.inl (0, 5, .inl (fun k => ii ((Rw k : Nat) : Int))))) (c67 : h 67 = some (.inl (1, 5, .inr (.inl (fun k => jj (rs k)))))) (c68 : h 68 = some (.inl (1, 30, .inr (.inl (fun k => jj (x k)))))) (c69 : h 69 = some (.inl (1, 5, .inr (.inl (fun k => jj (ab k)))))) (c59 : h 59 = some (.inl (0, 16, .inl (fun k => ii (v k))))) (hR : ∀ k, Rw k < 16) (hti : ti < 32768) (hba : -1500000000000000 ≤ ba ∧ ba ≤ 1500000000000000) (hbb : 0 ≤ bb ∧ bb ≤ 128) (hrs : ∀ k, k < m → -5000000000000 ≤ rs k ∧ rs k ≤ 5000000000000) (hP : ∀ a b s, P0 a b s → 0 < b) (hB : BC P0 ba bb ti) : rr_Calls (d + 4) j_Model_corners [.ref 58, .int (ii (m : Int)), .int (ii (f : Int))] (N, S, h) (fun r R => r = none ∧ ∃ (h' : Nat → Option rr_E) (di' be' ba' bb' : Int) (ti' : Nat) (Rw' : Nat → Nat) (rs' x' ab' : Nat → Int), R = (N, S, h') ∧ fr [58, 66, 67, 68, 69] h h' ∧ h' 58 = some (MO (n : Int) kp tp pt wr fa dm (ce : Int) di' be' od sm (le : Int) sc ba' bb' (ti' : Int) rk ts tm pa wa) ∧ h' 66 = some (.inl (0, 5, .inl (fun k => ii ((Rw' k : Nat) : Int)))) ∧ h' 67 = some (.inl (1, 5, .inr (.inl (fun k => jj (rs' k))))) ∧ h' 68 = some (.inl (1, 30, .inr (.inl (fun k => jj (x' k))))) ∧ h' 69 = some (.inl (1, 5, .inr (.inl (fun k => jj (ab' k))))) ∧ (∀ k, k < m → Rw' k = Rw k ∧ rs' k = rs k) ∧ (∀ k, Rw' k < 16) ∧ (ti' < 32768) ∧ (-1500000000000000 ≤ ba' ∧ ba' ≤ 1500000000000000) ∧ (0 ≤ bb' ∧ bb' ≤ 128) ∧ BC (fun a b s => P0 a b s ∨ Pm n ce v sc le m f Rw rs a b s) ba' bb' ti') := by
  refine rr_meth (C := K_Model_corners) (hd := h_Model_corners) (mx := 4) rfl rfl (fun K hK => ?_)
  have hA := al_b hn
  refine hK _ _ _ _ ?_
  refine s_iload_n rfl (cn rfl) rfl ?_
  refine s_aload_n rfl (cn rfl) rfl ?_
  refine s_getfield rfl (cn rfl) c58 rfl ?_
  refine s_iconst rfl (cn rfl) ?_
  refine s_iadd rfl (cn rfl) ?_
  refine s_icmp_ne rfl (cn rfl) (cn rfl) ⟨by omega, by omega⟩ ⟨by omega, by omega⟩ (fun q5 => ?_) (fun q5 => ?_)
  · exfalso; omega
  · refine s_aload_n rfl (cn rfl) rfl ?_
    refine s_iconst rfl (cn rfl) ?_
    refine s_virt rfl (cn rfl) rfl rfl c58 rfl (m_isSolved (D := n + 1) (ce := ce) (B := 5000000000000) hn c58 c66 c67 c68 hR (by omega) (Or.inl ⟨rfl, rfl⟩) c69 (by decide) (fun q hq => hrs q (by omega))) ?_
    rintro _ _ (⟨rfl, h1, x1, a1, b1, rfl, hf1, c58, c68, c69, s1, s2, s3, s4, s5, s6⟩ | ⟨rfl, h1, x1, rfl, hf1, c58, c68, c69, z, ⟨j, j1, j2⟩, z2⟩)
    · have c59 := (hf1 59 (by decide)).trans c59
      have c66 := (hf1 66 (by decide)).trans c66
      have c67 := (hf1 67 (by decide)).trans c67
      have han : -1500000000000000 ≤ a1 n ∧ a1 n ≤ 1500000000000000 := by have := s6; rw [Nat.add_sub_cancel] at this; omega
      refine s_if_eq rfl (cn rfl) (cn rfl) (by decide) (fun q9 => absurd q9 (by decide)) (fun q9 => ?_)
      refine s_aload_n rfl (cn rfl) rfl ?_
      refine s_virt rfl (cn rfl) rfl rfl c58 rfl (m_corner hn c58 c59 hv c69 hle hti hsc ⟨s1, s2⟩ (fun q hq => by have := s5 q (by omega); omega) han hba hbb) ?_
      rintro _ _ ⟨rfl, h2, ba2, bb2, ti2, rfl, hf2, c58, htr⟩
      refine s_return rfl ?_
      first
        | (subst hm
           exact ⟨rfl, h1, _, _, _, _, _, _, _, _, _, rfl, fr_w hf1 (by simp), c58, c66, c67, c68, c69, fun k _ => ⟨rfl, rfl⟩, hR, hti, hba, hbb, BC_cg hB (fun a b s => ⟨fun q => by
               rcases q with q | q
               · exact q
               · exact absurd ((Pm_end.mp q).1 z z2 j j1) j2, Or.inl⟩)⟩)
        | (obtain ⟨t1, t2, t3⟩ := cor_bd hn htr hti hba hbb ⟨s1, s2⟩ han
           subst hm
           exact ⟨rfl, h2, _, _, _, _, _, _, _, _, _, rfl, fr_t (fr_w hf1 (by simp)) (fr_w (l := [58, 66, 67, 68, 69]) hf2 (by simp)) (by simp), c58, (hf2 66 (by decide)).trans c66, (hf2 67 (by decide)).trans c67, (hf2 68 (by decide)).trans c68, (hf2 69 (by decide)).trans c69, fun k _ => ⟨rfl, rfl⟩, hR, t1, t2, t3, cor_go hP hB s1 s3 s4 htr⟩)
    · have c66 := (hf1 66 (by decide)).trans c66
      have c67 := (hf1 67 (by decide)).trans c67
      refine s_if_eq rfl (cn rfl) (cn rfl) (by decide) (fun q9 => ?_) (fun q9 => absurd q9 (by decide))
      refine s_return rfl ?_
      first
        | (subst hm
           exact ⟨rfl, h1, _, _, _, _, _, _, _, _, _, rfl, fr_w hf1 (by simp), c58, c66, c67, c68, c69, fun k _ => ⟨rfl, rfl⟩, hR, hti, hba, hbb, BC_cg hB (fun a b s => ⟨fun q => by
               rcases q with q | q
               · exact q
               · exact absurd ((Pm_end.mp q).1 z z2 j j1) j2, Or.inl⟩)⟩)
        | (obtain ⟨t1, t2, t3⟩ := cor_bd hn htr hti hba hbb ⟨s1, s2⟩ han
           subst hm
           exact ⟨rfl, h2, _, _, _, _, _, _, _, _, _, rfl, fr_t (fr_w hf1 (by simp)) (fr_w (l := [58, 66, 67, 68, 69]) hf2 (by simp)) (by simp), c58, (hf2 66 (by decide)).trans c66, (hf2 67 (by decide)).trans c67, (hf2 68 (by decide)).trans c68, (hf2 69 (by decide)).trans c69, fun k _ => ⟨rfl, rfl⟩, hR, t1, t2, t3, cor_go hP hB s1 s3 s4 htr⟩)
theorem m_corners_s {d N S n ce le : Nat} {kp tp pt wr fa dm od sm rk ts tm pa wa sc : Int} {v : Nat → Int} (hn : 2 ≤ n ∧ n ≤ 4) (hv : ∀ k, -999 ≤ v k ∧ v k ≤ 999) (hce : 1 ≤ ce ∧ ce ≤ n) (hle : le < 32768) (hsc : 0 < sc ∧ sc ≤ 655360000) {m f k : Nat} (hk : m + (k + 1) = n + 1) (hfa : f ≤ al n) (hcm : ce ≤ m) {P0 : Int → Int → Nat → Prop} {h : Nat → Option rr_E} {di be ba bb : Int} {ti : Nat} {Rw : Nat → Nat} {rs x ab : Nat → Int} (c58 : h 58 = some (MO (n : Int) kp tp pt wr fa dm (ce : Int) di be od sm (le : Int) sc ba bb (ti : Int) rk ts tm pa wa)) (c66 : h 66 = some (.inl (0, 5, .inl (fun k => ii ((Rw k : Nat) : Int))))) (c67 : h 67 = some (.inl (1, 5, .inr (.inl (fun k => jj (rs k)))))) (c68 : h 68 = some (.inl (1, 30, .inr (.inl (fun k => jj (x k)))))) (c69 : h 69 = some (.inl (1, 5, .inr (.inl (fun k => jj (ab k)))))) (c59 : h 59 = some (.inl (0, 16, .inl (fun k => ii (v k))))) (hR : ∀ k, Rw k < 16) (hti : ti < 32768) (hba : -1500000000000000 ≤ ba ∧ ba ≤ 1500000000000000) (hbb : 0 ≤ bb ∧ bb ≤ 128) (hrs : ∀ k, k < m → -5000000000000 ≤ rs k ∧ rs k ≤ 5000000000000) (hP : ∀ a b s, P0 a b s → 0 < b) (hB : BC P0 ba bb ti) (ih : ∀ (m f : Nat), m + k = n + 1 → f ≤ al n → ce ≤ m → ∀ {P0 : Int → Int → Nat → Prop} {h : Nat → Option rr_E} {di be ba bb : Int} {ti : Nat} {Rw : Nat → Nat} {rs x ab : Nat → Int}, (h 58 = some (MO (n : Int) kp tp pt wr fa dm (ce : Int) di be od sm (le : Int) sc ba bb (ti : Int) rk ts tm pa wa)) → (h 66 = some (.inl (0, 5, .inl (fun k => ii ((Rw k : Nat) : Int))))) → (h 67 = some (.inl (1, 5, .inr (.inl (fun k => jj (rs k)))))) → (h 68 = some (.inl (1, 30, .inr (.inl (fun k => jj (x k)))))) → (h 69 = some (.inl (1, 5, .inr (.inl (fun k => jj (ab k)))))) → (h 59 = some (.inl (0, 16, .inl (fun k => ii (v k))))) → (∀ k, Rw k < 16) → (ti < 32768) → (-1500000000000000 ≤ ba ∧ ba ≤ 1500000000000000) → (0 ≤ bb ∧ bb ≤ 128) → (∀ k, k < m → -5000000000000 ≤ rs k ∧ rs k ≤ 5000000000000) → (∀ a b s, P0 a b s → 0 < b) → BC P0 ba bb ti → rr_Calls (d + (k + 4)) j_Model_corners [.ref 58, .int (ii (m : Int)), .int (ii (f : Int))] (N, S, h) (fun r R => r = none ∧ ∃ (h' : Nat → Option rr_E) (di' be' ba' bb' : Int) (ti' : Nat) (Rw' : Nat → Nat) (rs' x' ab' : Nat → Int), R = (N, S, h') ∧ fr [58, 66, 67, 68, 69] h h' ∧ h' 58 = some (MO (n : Int) kp tp pt wr fa dm (ce : Int) di' be' od sm (le : Int) sc ba' bb' (ti' : Int) rk ts tm pa wa) ∧ h' 66 = some (.inl (0, 5, .inl (fun k => ii ((Rw' k : Nat) : Int)))) ∧ h' 67 = some (.inl (1, 5, .inr (.inl (fun k => jj (rs' k))))) ∧ h' 68 = some (.inl (1, 30, .inr (.inl (fun k => jj (x' k))))) ∧ h' 69 = some (.inl (1, 5, .inr (.inl (fun k => jj (ab' k))))) ∧ (∀ k, k < m → Rw' k = Rw k ∧ rs' k = rs k) ∧ (∀ k, Rw' k < 16) ∧ (ti' < 32768) ∧ (-1500000000000000 ≤ ba' ∧ ba' ≤ 1500000000000000) ∧ (0 ≤ bb' ∧ bb' ≤ 128) ∧ BC (fun a b s => P0 a b s ∨ Pm n ce v sc le m f Rw rs a b s) ba' bb' ti')) : rr_Calls (d + (k + 1 + 4)) j_Model_corners [.ref 58, .int (ii (m : Int)), .int (ii (f : Int))] (N, S, h) (fun r R => r = none ∧ ∃ (h' : Nat → Option rr_E) (di' be' ba' bb' : Int) (ti' : Nat) (Rw' : Nat → Nat) (rs' x' ab' : Nat → Int), R = (N, S, h') ∧ fr [58, 66, 67, 68, 69] h h' ∧ h' 58 = some (MO (n : Int) kp tp pt wr fa dm (ce : Int) di' be' od sm (le : Int) sc ba' bb' (ti' : Int) rk ts tm pa wa) ∧ h' 66 = some (.inl (0, 5, .inl (fun k => ii ((Rw' k : Nat) : Int)))) ∧ h' 67 = some (.inl (1, 5, .inr (.inl (fun k => jj (rs' k))))) ∧ h' 68 = some (.inl (1, 30, .inr (.inl (fun k => jj (x' k))))) ∧ h' 69 = some (.inl (1, 5, .inr (.inl (fun k => jj (ab' k))))) ∧ (∀ k, k < m → Rw' k = Rw k ∧ rs' k = rs k) ∧ (∀ k, Rw' k < 16) ∧ (ti' < 32768) ∧ (-1500000000000000 ≤ ba' ∧ ba' ≤ 1500000000000000) ∧ (0 ≤ bb' ∧ bb' ≤ 128) ∧ BC (fun a b s => P0 a b s ∨ Pm n ce v sc le m f Rw rs a b s) ba' bb' ti') := by
  refine rr_meth (C := K_Model_corners) (hd := h_Model_corners) (mx := 4) rfl rfl (fun K hK => ?_)
  have hA := al_b hn
  refine hK _ _ _ _ ?_
  refine s_iload_n rfl (cn rfl) rfl ?_
  refine s_aload_n rfl (cn rfl) rfl ?_
  refine s_getfield rfl (cn rfl) c58 rfl ?_
  refine s_iconst rfl (cn rfl) ?_
  refine s_iadd rfl (cn rfl) ?_
  refine s_icmp_ne rfl (cn rfl) (cn rfl) ⟨by omega, by omega⟩ ⟨by omega, by omega⟩ (fun q5 => ?_) (fun q5 => ?_)
  · refine s_iload_n rfl (cn rfl) rfl ?_
    refine s_istore_n rfl (ch rfl) ?_
    have lp15 : ∀ g : Nat, g ≤ al n → ∀ (h' : Nat → Option rr_E) (di' be' ba' bb' : Int) (ti' : Nat) (Rw' : Nat → Nat) (rs' x' ab' : Nat → Int) (c58 : h' 58 = some (MO (n : Int) kp tp pt wr fa dm (ce : Int) di' be' od sm (le : Int) sc ba' bb' (ti' : Int) rk ts tm pa wa)) (c66 : h' 66 = some (.inl (0, 5, .inl (fun k => ii ((Rw' k : Nat) : Int))))) (c67 : h' 67 = some (.inl (1, 5, .inr (.inl (fun k => jj (rs' k)))))) (c68 : h' 68 = some (.inl (1, 30, .inr (.inl (fun k => jj (x' k)))))) (c69 : h' 69 = some (.inl (1, 5, .inr (.inl (fun k => jj (ab' k)))))) (hR : ∀ k, Rw' k < 16) (hti : ti' < 32768) (hba : -1500000000000000 ≤ ba' ∧ ba' ≤ 1500000000000000) (hbb : 0 ≤ bb' ∧ bb' ≤ 128) (hf : fr [58, 66, 67, 68, 69] h h') (hag : ∀ k, k < m → Rw' k = Rw k ∧ rs' k = rs k) (g1 : f ≤ g) (hB' : BC (fun a b s => P0 a b s ∨ Pk n ce v sc le m f g Rw rs a b s) ba' bb' ti'), K 15 [some (.ref 58), some (.int (ii (m : Int))), some (.int (ii (f : Int))), some (.int (ii (g : Int)))] [] (N, S, h') := by
      refine dn (fun g hg ih15 => ?_)
      intro h' di' be' ba' bb' ti' Rw' rs' x' ab' c58 c66 c67 c68 c69 hR' hti' hba' hbb' hf hag g1 hB'
      have c59 := (hf 59 (by decide)).trans c59
      refine hK _ _ _ _ ?_
      refine s_iload_n rfl (cn rfl) rfl ?_
      refine s_aload_n rfl (cn rfl) rfl ?_
      refine s_virt rfl (cn rfl) rfl rfl c58 rfl (m_all hn c58) ?_
      rintro _ _ ⟨rfl, rfl⟩
      refine s_icmp_ge rfl (cn rfl) (cn rfl) ⟨by omega, by omega⟩ ⟨by omega, by omega⟩ (fun q18 => ?_) (fun q18 => ?_)
      · refine s_return rfl ?_
        obtain rfl : g = al n := by omega
        exact ⟨rfl, h', _, _, _, _, _, _, _, _, _, rfl, hf, c58, c66, c67, c68, c69, hag, hR', hti', hba', hbb', PkI_e (by omega) hB'⟩
      · refine s_aload_n rfl (cn rfl) rfl ?_
        refine s_getfield rfl (cn rfl) c58 rfl ?_
        refine s_iload_n rfl (cn rfl) rfl ?_
        refine s_stat rfl (cn rfl) rfl rfl rfl (m_has (by omega) (by omega)) ?_
        rintro _ _ ⟨rfl, rfl⟩
        refine s_ifb_ne rfl (cn rfl) (cn rfl) (fun q23 => ?_) (fun q23 => ?_)
        · have hbit := bt_1.mp q23
          have hvg := hv g
          have hsv := ku_mul (x := sc) (y := v g) (a := 655360000) (b := 999) (by omega) hvg
          have hPP : ∀ a b s, (P0 a b s ∨ Pk n ce v sc le m f g Rw rs a b s) → 0 < b := fun a b s q => by
            rcases q with q | q
            · exact hP a b s q
            · exact Pk_pos q
          refine s_aload_n rfl (cn rfl) rfl ?_
          refine s_getfield rfl (cn rfl) c58 rfl ?_
          refine s_iload_n rfl (cn rfl) rfl ?_
          refine s_iload_n rfl (cn rfl) rfl ?_
          refine s_iastore rfl (cn rfl) _ rfl c66 (by omega) (by decide) ?_
          refine s_aload_n rfl (cn rfl) rfl ?_
          refine s_getfield rfl (cn rfl) c58 rfl ?_
          refine s_iload_n rfl (cn rfl) rfl ?_
          refine s_aload_n rfl (cn rfl) rfl ?_
          refine s_getfield rfl (cn rfl) c58 rfl ?_
          refine s_aload_n rfl (cn rfl) rfl ?_
          refine s_getfield rfl (cn rfl) c58 rfl ?_
          refine s_iload_n rfl (cn rfl) rfl ?_
          refine s_iaload rfl (cn rfl) _ rfl c59 rfl (by omega) (by decide) rfl ?_
          refine s_i2l rfl (cn rfl) ⟨by omega, by omega⟩ ?_
          refine s_lmul rfl (cn rfl) ?_
          refine s_lastore rfl (cn rfl) _ rfl c67 (by omega) (by decide) ?_
          refine s_aload_n rfl (cn rfl) rfl ?_
          refine s_iload_n rfl (cn rfl) rfl ?_
          refine s_iconst rfl (cn rfl) ?_
          refine s_iadd rfl (cn rfl) ?_
          refine s_iload_n rfl (cn rfl) rfl ?_
          refine s_iconst rfl (cn rfl) ?_
          refine s_iadd rfl (cn rfl) ?_
          refine s_virt rfl (cn rfl) rfl rfl c58 rfl (ih (m + 1) (g + 1) (by omega) (by omega) (by omega) (P0 := fun a b s => P0 a b s ∨ Pk n ce v sc le m f g Rw rs a b s) (Rw := pu Rw' m g) (rs := fu rs' m (sc * v g)) c58 (ar_f (v := fu (fun k => ((Rw' k : Nat) : Int)) m (g : Int)) rfl pu_e) rr_set_eq c68 c69 c59 (fun k => by unfold pu; split; omega; exact hR' k) hti' hba' hbb' (fun k hk => by
            by_cases e : k = m
            · subst e; rw [fu_s]; omega
            · rw [fu_n e, (hag k (by omega)).2]; exact hrs k (by omega)) hPP hB') ?_
          rintro _ _ ⟨rfl, h2, di2, be2, ba2, bb2, ti2, Rw2, rs2, x2, ab2, rfl, hf2, c58, c66, c67, c68, c69, hag2, hR2, hti2, hba2, hbb2, hB2⟩
          refine s_iinc rfl (cn rfl) rfl ?_
          refine s_goto rfl (ch rfl) ?_
          exact ih15 (by omega) h2 _ _ _ _ _ _ _ _ _ c58 c66 c67 c68 c69 hR2 hti2 hba2 hbb2 (fr_t (fr_s (by decide) (fr_s (by decide) hf)) hf2 (by simp)) (fun k hk => ⟨((hag2 k (by omega)).1.trans (pu_n (by omega))).trans (hag k hk).1, ((hag2 k (by omega)).2.trans (fu_n (by omega))).trans (hag k hk).2⟩) (by omega) (PkI_y hag g1 hbit hB2)
        · refine s_goto rfl (cn rfl) ?_
          refine s_iinc rfl (cn rfl) rfl ?_
          refine s_goto rfl (ch rfl) ?_
          exact ih15 (by omega) h' _ _ _ _ _ _ _ _ _ c58 c66 c67 c68 c69 hR' hti' hba' hbb' hf hag (by omega) (PkI_n (fun q => q23 (bt_1.mpr q)) hB')
    exact lp15 f hfa _ _ _ _ _ _ _ _ _ _ c58 c66 c67 c68 c69 hR hti hba hbb fr_r (fun k _ => ⟨rfl, rfl⟩) (by omega) (PkI_0 hB)
  · exfalso; omega
theorem m_corners {d N S n ce le : Nat} {kp tp pt wr fa dm od sm rk ts tm pa wa sc : Int} {v : Nat → Int} (hn : 2 ≤ n ∧ n ≤ 4) (hv : ∀ k, -999 ≤ v k ∧ v k ≤ 999) (hce : 1 ≤ ce ∧ ce ≤ n) (hle : le < 32768) (hsc : 0 < sc ∧ sc ≤ 655360000) : ∀ (k m f : Nat), m + k = n + 1 → f ≤ al n → ce ≤ m → ∀ {P0 : Int → Int → Nat → Prop} {h : Nat → Option rr_E} {di be ba bb : Int} {ti : Nat} {Rw : Nat → Nat} {rs x ab : Nat → Int}, (h 58 = some (MO (n : Int) kp tp pt wr fa dm (ce : Int) di be od sm (le : Int) sc ba bb (ti : Int) rk ts tm pa wa)) → (h 66 = some (.inl (0, 5, .inl (fun k => ii ((Rw k : Nat) : Int))))) → (h 67 = some (.inl (1, 5, .inr (.inl (fun k => jj (rs k)))))) → (h 68 = some (.inl (1, 30, .inr (.inl (fun k => jj (x k)))))) → (h 69 = some (.inl (1, 5, .inr (.inl (fun k => jj (ab k)))))) → (h 59 = some (.inl (0, 16, .inl (fun k => ii (v k))))) → (∀ k, Rw k < 16) → (ti < 32768) → (-1500000000000000 ≤ ba ∧ ba ≤ 1500000000000000) → (0 ≤ bb ∧ bb ≤ 128) → (∀ k, k < m → -5000000000000 ≤ rs k ∧ rs k ≤ 5000000000000) → (∀ a b s, P0 a b s → 0 < b) → BC P0 ba bb ti → rr_Calls (d + (k + 4)) j_Model_corners [.ref 58, .int (ii (m : Int)), .int (ii (f : Int))] (N, S, h) (fun r R => r = none ∧ ∃ (h' : Nat → Option rr_E) (di' be' ba' bb' : Int) (ti' : Nat) (Rw' : Nat → Nat) (rs' x' ab' : Nat → Int), R = (N, S, h') ∧ fr [58, 66, 67, 68, 69] h h' ∧ h' 58 = some (MO (n : Int) kp tp pt wr fa dm (ce : Int) di' be' od sm (le : Int) sc ba' bb' (ti' : Int) rk ts tm pa wa) ∧ h' 66 = some (.inl (0, 5, .inl (fun k => ii ((Rw' k : Nat) : Int)))) ∧ h' 67 = some (.inl (1, 5, .inr (.inl (fun k => jj (rs' k))))) ∧ h' 68 = some (.inl (1, 30, .inr (.inl (fun k => jj (x' k))))) ∧ h' 69 = some (.inl (1, 5, .inr (.inl (fun k => jj (ab' k))))) ∧ (∀ k, k < m → Rw' k = Rw k ∧ rs' k = rs k) ∧ (∀ k, Rw' k < 16) ∧ (ti' < 32768) ∧ (-1500000000000000 ≤ ba' ∧ ba' ≤ 1500000000000000) ∧ (0 ≤ bb' ∧ bb' ≤ 128) ∧ BC (fun a b s => P0 a b s ∨ Pm n ce v sc le m f Rw rs a b s) ba' bb' ti') := by
  intro k
  induction k with
  | zero =>
    intro m f hk hfa hcm P0 h di be ba bb ti Rw rs x ab c58 c66 c67 c68 c69 c59 hR hti hba hbb hrs hP hB
    exact m_corners_0 hn hv hce hle hsc (by omega) c58 c66 c67 c68 c69 c59 hR hti hba hbb hrs hP hB
  | succ k ih =>
    intro m f hk hfa hcm P0 h di be ba bb ti Rw rs x ab c58 c66 c67 c68 c69 c59 hR hti hba hbb hrs hP hB
    exact m_corners_s hn hv hce hle hsc hk hfa hcm c58 c66 c67 c68 c69 c59 hR hti hba hbb hrs hP hB ih
