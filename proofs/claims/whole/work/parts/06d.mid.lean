section RO
variable {p : Program} {l : Launch} {e : Env} {R : Room} {s : State} {m : MethodId} {args : Array Value} {below : List Frame} {meth : Method} {c : Code} {Q : State → Prop}
variable {kA : Nat → ClassId} {ad : Nat → Nat} {fm : Value} {base : Nat} {dC : Nat → ClassId} {dI : Nat → Nat → Nat} {ro : Nat → Option rr_E} {N0 S0 : Nat}
theorem rr_swsE {P : List Nat} {pc : Nat} {x : Int32} {D : Prop} {A : Nat → Prop} : ∀ (l : List (Int × Nat)) (lo : Int) (offs : List Int), rr_tgs P pc lo l offs = true → rr_sws x D A l →
    (((x.toInt < lo ∨ lo + offs.length - 1 < x.toInt) ∧ D) ∨ ∃ (t t' : Nat) (off : Int), lo ≤ x.toInt ∧ x.toInt ≤ lo + offs.length - 1 ∧ offs[(x.toInt - lo).toNat]? = some off ∧ rr_nth P t = some t' ∧ (pc : Int) + off = (t' : Int) ∧ A t)
  | [], lo, [], _, h => by
    refine Or.inl ⟨?_, h⟩
    simp only [List.length_nil]
    omega
  | (v, t) :: l, lo, off :: o, hc, h => by
    simp only [rr_tgs, Bool.and_eq_true, decide_eq_true_eq] at hc
    obtain ⟨⟨rfl, hc2⟩, hc3⟩ := hc
    by_cases q : x.toInt = v
    · obtain ⟨t', h1, h2⟩ := rr_tgE hc2
      refine Or.inr ⟨t, t', off, by omega, by simp only [List.length_cons]; omega, ?_, h1, h2, h.1 q⟩
      rw [show (x.toInt - v).toNat = 0 by omega]
      rfl
    · rcases rr_swsE l (v + 1) o hc3 (h.2 q) with ⟨h1, h2⟩ | ⟨t1, t', off', h1, h2, h3, h4⟩
      · refine Or.inl ⟨?_, h2⟩
        simp only [List.length_cons]
        omega
      · refine Or.inr ⟨t1, t', off', by omega, by simp only [List.length_cons]; omega, ?_, h4⟩
        rw [show (x.toInt - v).toNat = (x.toInt - (v + 1)).toNat + 1 by omega]
        exact h3
  | [], _, _ :: _, hc, _ => by simp [rr_tgs] at hc
  | _ :: _, _, [], hc, _ => by simp [rr_tgs] at hc
theorem rr_swlE {P : List Nat} {pc : Nat} {x : Int32} {D : Prop} {A : Nat → Prop} {df : Int} : ∀ (l : List (Int × Nat)) (ps : List (Int × Int)), rr_tgl P pc l ps = true → rr_sws x D A l →
    ((Op.lookupswitch.offset ps df x.toInt = df ∧ D) ∨ ∃ (t t' : Nat) (off : Int), Op.lookupswitch.offset ps df x.toInt = off ∧ rr_nth P t = some t' ∧ (pc : Int) + off = (t' : Int) ∧ A t)
  | [], [], _, h => Or.inl ⟨by simp [Op.lookupswitch.offset], h⟩
  | (v, t) :: l, (w, off) :: o, hc, h => by
    simp only [rr_tgl, Bool.and_eq_true, decide_eq_true_eq] at hc
    obtain ⟨⟨rfl, hc2⟩, hc3⟩ := hc
    by_cases q : x.toInt = v
    · obtain ⟨t', h1, h2⟩ := rr_tgE hc2
      exact Or.inr ⟨t, t', off, by simp [Op.lookupswitch.offset, q], h1, h2, h.1 q⟩
    · have q' : ¬ v = x.toInt := fun z => q z.symm
      rcases rr_swlE (df := df) l o hc3 (h.2 q) with ⟨h1, h2⟩ | ⟨t1, t', off', h1, h4⟩
      · refine Or.inl ⟨?_, h2⟩
        simp only [Op.lookupswitch.offset, List.find?_cons] at h1 ⊢
        simpa [q, q'] using h1
      · refine Or.inr ⟨t1, t', off', ?_, h4⟩
        simp only [Op.lookupswitch.offset, List.find?_cons] at h1 ⊢
        simpa [q, q'] using h1
  | [], _ :: _, hc, _ => by simp [rr_tgl] at hc
  | _ :: _, [], hc, _ => by simp [rr_tgl] at hc
theorem rr_hcA {cc n : Nat} {x : (Nat → Int32) ⊕ (Nat → Int64) ⊕ (Nat → UInt32) ⊕ (Nat → UInt64) ⊕ (Nat → Option Nat)} (h : rr_hc (.inl (cc, n, x)) = true) : cc = 0 ∨ cc = 1 ∨ cc = 2 ∨ cc = 3 := by
  unfold rr_hc at h
  split at h
  all_goals first | (next heq => cases heq; decide) | (next heq => cases heq) | cases h
theorem rr_n44 {a : Nat} {r : vw_C} (hr : vwCl[a]? = some r) : r.2.2 ≤ 44 := by
  match a, hr with
  | 0, hr => cases hr; decide
  | 1, hr => cases hr; decide
  | 2, hr => cases hr; decide
  | 3, hr => cases hr; decide
  | 4, hr => cases hr; decide
  | 5, hr => cases hr; decide
  | 6, hr => cases hr; decide
  | 7, hr => cases hr; decide
  | a + 8, hr => simp [vwCl] at hr
theorem rr_declOK : ∀ a, a < 8 → ∀ b, b < 44 → ((vwCl.getD a (RX2, TX2, 2)).2.1 b).1 = rr_clR.getD a "" := by decide +kernel
theorem rr_decl {a b own : Nat} {r : vw_C} (hr : vwCl[a]? = some r) (hb : b < r.2.2) (h : rr_cn[own]? = rr_clR[a]?) : (r.2.1 b).1 = rr_cn.getD own "" := by
  have ha : a < 8 := by
    have := (List.getElem?_eq_some_iff.mp hr).1
    simpa [vwCl] using this
  have h1 := rr_declOK a ha b (Nat.lt_of_lt_of_le hb (rr_n44 hr))
  rw [List.getD_eq_getElem?_getD, hr] at h1
  rw [List.getD_eq_getElem?_getD, h, ← List.getD_eq_getElem?_getD]
  exact h1
def rr_mid (i : ClassFile.Instr) : Bool := match i with
  | .tableswitch _ _ _ _ | .lookupswitch _ _ | .getfield _ | .putfield _ | .getstatic _ | .ldc _ | .arraylength | .iaload | .baload | .laload | .aaload | .iastore | .lastore | .bastore => true
  | _ => false
set_option maxHeartbeats 16000000 in
set_option maxRecDepth 100000 in
theorem rr_W2 {ins : ClassFile.Instr} {a b : Nat} {z : Int} {k : Nat} {loc : rr_L} {st : List Value} {H : rr_H} {F : rr_O → Prop} {own mx kind : Nat} {ret : Option FieldType} {bt : ByteArray} {P : List Nat} {pc pcn : Nat} (hez : rr_mid ins = true)
    (hC : rr_Cx p s m args meth c kA ad fm base dC dI ro (rr_cn.getD own "") bt mx kind ret) (hN : H.1 ≤ 1000000) (hR1 : 1 ≤ R.frames) (hR2 : 64 ≤ R.locals) (hex : rr_ex (ins, a, b, z) k loc st H F) (hk1 : rr_nth P (k + 1) = some pcn) (hdec : decode bt pc = .ok (ins, pcn - pc)) (hl : rr_len ins = 0 ∨ pcn = pc + rr_len ins) (hck : rr_ckE own mx kind ret P pc (ins, a, b, z) = true)
    (hnext : ∀ k' loc' st' H', F (.inl (k', loc', st', H')) → (H'.1 - N0 ≤ R.cells ∧ H'.2.1 - S0 ≤ R.slots) ∧ ∀ pc', rr_nth P k' = some pc' → rr_G p l e R s m args below meth c Q kA ad fm base dC dI ro N0 S0 mx pc' loc' st' H') :
    rr_G p l e R s m args below meth c Q kA ad fm base dC dI ro N0 S0 mx pc loc st H := by
  obtain ⟨hx, hb, hml, hown, hts, hK, hE, hbs, had, hr, hlk, hin⟩ := hC
  have hfc : fm.category = 1 := hE.2.2.2.2.2.2
  obtain ⟨Nn, Ss, hh⟩ := H
  have hN : Nn ≤ 1000000 := hN
  cases ins <;> first | (exact Bool.noConfusion (show false = true from hez)) | skip
  case tableswitch df lo hi offs =>
    simp only [rr_ckE, Bool.and_eq_true, decide_eq_true_eq] at hck
    obtain ⟨⟨hc1, hc2⟩, hc3⟩ := hck
    dsimp only [rr_ex, rr_ex0] at hex
    split at hex
    · next x r sl hsl =>
      rw [hsl] at hc3
      intro Hp locs ls hPP hS hOK hL
      obtain ⟨td, htd, hto⟩ := rr_tgE hc1
      rcases rr_swsE sl lo offs.toList hc3 hex with ⟨h1, h2⟩ | ⟨t, t', off, h1, h2, h3, h4, h5, h6⟩
      · refine lv_tableOut hx hb hdec ?_ hto ((hnext _ _ _ _ h2).2 _ htd Hp locs ls hPP hS hOK hL)
        simp only [Array.length_toList] at h1
        omega
      · refine lv_tableIn hx hb hdec (by omega) ?_ ?_ h5 ((hnext _ _ _ _ h6).2 _ h4 Hp locs ls hPP hS hOK hL)
        · simp only [Array.length_toList] at h2
          omega
        · rw [← Array.getElem?_toList]
          exact h3
    · exact hex.elim
  case lookupswitch df ps =>
    simp only [rr_ckE, Bool.and_eq_true] at hck
    obtain ⟨⟨hc1, hc2⟩, hc3⟩ := hck
    dsimp only [rr_ex, rr_ex0] at hex
    split at hex
    · next x r sl hsl =>
      rw [hsl] at hc3
      intro Hp locs ls hPP hS hOK hL
      obtain ⟨td, htd, hto⟩ := rr_tgE hc1
      rcases rr_swlE (df := df) sl ps.toList hc3 hex with ⟨h1, h2⟩ | ⟨t, t', off, h1, h4, h5, h6⟩
      · exact lv_lookup hx hb hdec hc2 h1 hto ((hnext _ _ _ _ h2).2 _ htd Hp locs ls hPP hS hOK hL)
      · exact lv_lookup hx hb hdec hc2 h1 h5 ((hnext _ _ _ _ h6).2 _ h4 Hp locs ls hPP hS hOK hL)
    · exact hex.elim
  case getfield idx =>
    obtain ⟨rfl, hd⟩ := rr_lenE hl hdec (L := 3) rfl (by decide)
    dsimp only [rr_ex, rr_ex0] at hex
    split at hex
    · next q r =>
      obtain ⟨fs, hq, hv⟩ := hex
      split at hv
      · next v hvv =>
        intro Hp locs ls hPP hS hOK hL
        have hfv : (fs.map (rr_tv ad fm))[b]? = some (rr_tv ad fm v) := by
          rw [List.getElem?_map, ← rr_nth_get, hvv]
          rfl
        simp only [rr_ckE, Bool.or_eq_true, Bool.and_eq_true, decide_eq_true_eq] at hck
        rcases hck with (⟨h20, hsl⟩ | h54) | ⟨-, hfl⟩
        · have h20 := Nat.eq_of_beq_eq_true h20
          subst h20
          obtain ⟨C, n, d, hsn, hw⟩ := rr_slE (by simpa [List.any_eq_true] using hsl)
          have hro := rr_OK_ro hOK hq rfl
          obtain ⟨t, hfs, hO, hV, hCo⟩ := (hE.1 q _ hro).2
          subst hfs
          match b, hvv, hsn with
          | 0, hvv, hsn =>
            cases hvv
            cases hsn
            exact vk_getf hx hb hV hS hown (hts _ hw) (fun _ h => h) hd ((hnext _ _ _ _ hv).2 _ hk1 Hp locs ls hPP hS hOK hL)
          | 1, hvv, hsn =>
            cases hvv
            cases hsn
            exact vk_getf hx hb hCo hS hown (hts _ hw) (fun _ h => h) hd ((hnext _ _ _ _ hv).2 _ hk1 Hp locs ls hPP hS hOK hL)
          | b + 2, hvv, hsn => cases hvv
        · obtain ⟨⟨⟨⟨-, h4⟩, hi⟩, h3⟩, h3'⟩ := h54
          have h4 := Nat.eq_of_beq_eq_true h4
          have hi := Nat.eq_of_beq_eq_true hi
          have h3 := Nat.eq_of_beq_eq_true h3
          have h3' := Nat.eq_of_beq_eq_true h3'
          subst h4; subst hi; subst h3; subst h3'
          have hlt := rr_OK_in hOK hE hq rfl
          exact va_getN (C := RX6) (T := TX6) (N := 5) (ref := "GrudgeDesk$Shares") hx hb hts (rr_inC (a := 3) rfl) hown hK hPP q (rr_ws_at hlt hq) rfl 3 (by decide) (va_Nw.use rfl hE.2.2.2.2.1) (fun _ h => h) hfv hd ((hnext _ _ _ _ hv).2 _ hk1 Hp locs ls hPP hS hOK hL)
        · obtain ⟨r', hr', hb', hw⟩ := rr_flE (by simpa [List.any_eq_true] using hfl)
          have hlt := rr_OK_in hOK hE hq (by
            have : a < 8 := by
              have := (List.getElem?_eq_some_iff.mp hr').1
              simpa [vwCl] using this
            show Nat.blt a 8 = true
            exact Nat.ble_eq_true_of_le this)
          exact va_get (C := r'.1) (T := r'.2.1) (N := r'.2.2) (ref := (r'.2.1 b).1) hx hb hts (rr_inC hr') hown hK hPP q (rr_ws_at hlt hq) hr' b hb' (hts _ hw) (fun _ h => h) hfv hd ((hnext _ _ _ _ hv).2 _ hk1 Hp locs ls hPP hS hOK hL)
      · exact hv.elim
    · exact hex.elim
  case putfield idx =>
    obtain ⟨rfl, hd⟩ := rr_lenE hl hdec (L := 3) rfl (by decide)
    simp only [rr_ckE, Bool.and_eq_true, Bool.or_eq_true, Bool.not_eq_true', decide_eq_true_eq] at hck
    obtain ⟨hfl, hfin0⟩ := hck
    obtain ⟨r', hr', hb', hw⟩ := rr_flE (by simpa [List.any_eq_true] using hfl)
    have ha8' : a < 8 := by
      have := (List.getElem?_eq_some_iff.mp hr').1
      simpa [vwCl] using this
    have hfin : (r'.2.1 b).2.2.2 = false ∨ (kind = 2 ∧ (r'.2.1 b).1 = rr_cn.getD own "") := by
      rcases hfin0 with h | ⟨h1, h2⟩
      · left
        unfold rr_fin at h
        rw [hr'] at h
        exact h
      · exact Or.inr ⟨Nat.eq_of_beq_eq_true h1, rr_decl hr' hb' h2⟩
    have main : ∀ (v : Value) (q : Nat) (r : List Value), (∀ ty0 : Nat → FieldType, rr_tyC[a]? = some ty0 → narrow (ty0 b) (rr_tv ad fm v) = rr_tv ad fm v) → (∀ ty0 : Nat → FieldType, rr_tyC[a]? = some ty0 → fits (ty0 b) (rr_tv ad fm v) = true) → rr_stF Nn Ss hh q a b v (fun H' => F (.inl (k + 1, loc, r, H'))) → rr_G p l e R s m args below meth c Q kA ad fm base dC dI ro N0 S0 mx pc loc (v :: .ref q :: r) (Nn, Ss, hh) := by
      intro v q r hnar hfit hst Hp locs ls hPP hS hOK hL
      obtain ⟨fs, hq, hv⟩ := hst
      obtain ⟨hbl, hv⟩ := rr_cond_lin hv
      have hbl := rr_blt hbl
      have ha8 : a < 8 := by
        have := (List.getElem?_eq_some_iff.mp hr').1
        simpa [vwCl] using this
      have hlt := rr_OK_in hOK hE hq (show Nat.blt a 8 = true from Nat.ble_eq_true_of_le ha8)
      have hset : (rr_ws kA ad fm Nn hh).set q (ad q, .inr (a, (fs.map (rr_tv ad fm)).set b (rr_tv ad fm v))) = rr_ws kA ad fm Nn (rr_set hh q (.inr (a, fs.set b v))) := by
        rw [← rr_ws_set hlt]
        show _ = (rr_ws kA ad fm Nn hh).set q (ad q, .inr (a, (fs.set b v).map (rr_tv ad fm)))
        rw [List.map_set]
      have hnx := fun (H1 : Heap) (locs1 : List Loc) (hP1 : va_P (dC, dI) vwCl ((rr_ws kA ad fm Nn hh).set q (ad q, .inr (a, (fs.map (rr_tv ad fm)).set b (rr_tv ad fm v)))) H1) (_ : va_D (rr_A base) ((rr_ws kA ad fm Nn hh).set q (ad q, .inr (a, (fs.map (rr_tv ad fm)).set b (rr_tv ad fm v))))) (hS1 : va_S (rr_A base) s.heap H1 locs1) =>
        (hnext _ _ _ _ hv).2 _ hk1 H1 locs1 ls (by rw [hset] at hP1; exact hP1) hS1 (rr_OK_set hOK hlt (show Nat.blt a 8 = true from Nat.ble_eq_true_of_le ha8)) hL
      obtain ⟨ty0, hty, hnm, htc⟩ := rr_tyOK hr'
      rcases hfin with hf | ⟨hki, hcl⟩
      · exact va_put (C := r'.1) (T := r'.2.1) (N := r'.2.2) (ref := (r'.2.1 b).1) hx hb hts (rr_inC hr') ty0 hty hnm hown hK hPP (rr_wsD hN had) hS q (rr_ws_at hlt hq) hr' b hb' (hts _ hw) (fun _ h => h) hf (hty b hb') (hnar ty0 htc) (hfit ty0 htc) (by simpa using hbl) hd hnx
      · by_cases hf : (r'.2.1 b).2.2.2 = true
        · exact va_putF (C := r'.1) (T := r'.2.1) (N := r'.2.2) (ref := (r'.2.1 b).1) hx hb hts (rr_inC hr') ty0 hty hnm hown hK hPP (rr_wsD hN had) hS q (rr_ws_at hlt hq) hr' b hb' (hts _ hw) (fun _ h => h) hf (hin hki) hcl (hty b hb') (hnar ty0 htc) (hfit ty0 htc) (by simpa using hbl) hd hnx
        · exact va_put (C := r'.1) (T := r'.2.1) (N := r'.2.2) (ref := (r'.2.1 b).1) hx hb hts (rr_inC hr') ty0 hty hnm hown hK hPP (rr_wsD hN had) hS q (rr_ws_at hlt hq) hr' b hb' (hts _ hw) (fun _ h => h) (Bool.not_eq_true _ ▸ hf) (hty b hb') (hnar ty0 htc) (hfit ty0 htc) (by simpa using hbl) hd hnx
    have hkd : ∀ ty0 : Nat → FieldType, rr_tyC[a]? = some ty0 → rr_ftc a b ≠ 9 → rr_kd (rr_ftc a b) (ty0 b) = true := by
      intro ty0 h0 h9
      have hb44 : b < 44 := Nat.lt_of_lt_of_le hb' (rr_n44 hr')
      rcases rr_kdOK a ha8' b hb44 with h | h
      · exact absurd h h9
      · rw [List.getD_eq_getElem?_getD, h0] at h
        exact h
    dsimp only [rr_ex, rr_ex0] at hex
    split at hex
    · next hft =>
      refine main _ _ _ (fun ty0 h0 => ?_) (fun ty0 h0 => ?_) hex
      all_goals
        have hk := hkd ty0 h0 (by rw [hft]; decide)
        rw [hft] at hk
        cases hty : ty0 b <;> rw [hty] at hk <;> first | rfl | cases hk
    · next hft =>
      refine main _ _ _ (fun ty0 h0 => ?_) (fun ty0 h0 => ?_) hex
      all_goals
        have hk := hkd ty0 h0 (by rw [hft]; decide)
        rw [hft] at hk
        cases hty : ty0 b <;> rw [hty] at hk <;> first | rfl | cases hk
    · next hft =>
      refine main _ _ _ (fun ty0 h0 => ?_) (fun ty0 h0 => ?_) hex.2
      all_goals
        have hk := hkd ty0 h0 (by rw [hft]; decide)
        rw [hft] at hk
        cases hty : ty0 b <;> rw [hty] at hk <;> first | (cases hk; done) | (rcases hex.1 with rfl | rfl <;> rfl)
    · next hft =>
      refine main _ _ _ (fun ty0 h0 => ?_) (fun ty0 h0 => ?_) hex
      all_goals
        have hk := hkd ty0 h0 (by rw [hft]; decide)
        rw [hft] at hk
        cases hty : ty0 b <;> rw [hty] at hk <;> first | rfl | cases hk
    · exact hex.elim
  case getstatic idx =>
    obtain ⟨rfl, hd⟩ := rr_lenE hl hdec (L := 3) rfl (by decide)
    simp only [rr_ckE, Bool.and_eq_true] at hck
    obtain ⟨ha6, hsl⟩ := hck
    have ha6 := rr_blt ha6
    obtain ⟨C, n, d, hsn, hw⟩ := rr_slE (by simpa [List.any_eq_true] using hsl)
    have hsn : rr_nth rr_stt a = some (C, n, d) := by
      unfold rr_sln at hsn
      split at hsn
      · omega
      · omega
      · exact hsn
    dsimp only [rr_ex, rr_ex0] at hex
    split at hex
    · next v hvv =>
      intro Hp locs ls hPP hS hOK hL
      exact va_gets hx hb (hE.2.1 a C n d v hsn hvv) hS hown (hts _ hw) (fun _ h => h) hd ((hnext _ _ _ _ hex).2 _ hk1 Hp locs ls hPP hS hOK hL)
    · exact hex.elim
  case ldc idx =>
    obtain ⟨rfl, hd⟩ := rr_lenE hl hdec (L := 2) rfl (by decide)
    simp only [rr_ckE, Bool.and_eq_true] at hck
    obtain ⟨q, hq, hqe⟩ := List.any_eq_true.mp hck.2
    simp only [Bool.and_eq_true] at hqe
    obtain ⟨⟨e1, e2⟩, e3⟩ := hqe
    have e1 := Nat.eq_of_beq_eq_true e1
    have e2 := Nat.eq_of_beq_eq_true e2
    have e3 := Nat.eq_of_beq_eq_true e3
    subst e1; subst e2; subst e3
    intro Hp locs ls hPP hS hOK hL
    exact va_ldcS hx hb hown (hE.2.2.1 q hq) hd ((hnext _ _ _ _ hex).2 _ hk1 Hp locs ls hPP hS hOK hL)
  case arraylength =>
    obtain ⟨rfl, hd⟩ := rr_lenE hl hdec (L := 1) rfl (by decide)
    dsimp only [rr_ex, rr_ex0] at hex
    split at hex
    · next q r =>
      obtain ⟨cc, n, x, hq, hv⟩ := hex
      intro Hp locs ls hPP hS hOK hL
      have hnx := (hnext _ _ _ _ hv).2 _ hk1 Hp locs ls hPP hS hOK hL
      cases hh : rr_hc (.inl (cc, n, x)) with
      | true =>
        have hlt := rr_OK_in hOK hE hq hh
        rcases rr_hcA hh with rfl | rfl | rfl | rfl
        · exact va_alen (ty := .int) hx hb hK hPP q 0 (rr_ws_at hlt hq) rfl rfl hd hnx
        · exact va_alen (ty := .long) hx hb hK hPP q 1 (rr_ws_at hlt hq) rfl rfl hd hnx
        · exact va_alen (ty := .boolean) hx hb hK hPP q 2 (rr_ws_at hlt hq) rfl rfl hd hnx
        · exact va_alen (ty := .array .long) hx hb hK hPP q 3 (rr_ws_at hlt hq) rfl rfl hd hnx
      | false =>
        have hro := rr_OK_ro hOK hq hh
        have hrm := (hE.1 q _ hro).2
        unfold rr_rom at hrm
        split at hrm
        · next heq => cases heq; exact va_tlen hx hb hrm hS rfl hd hnx
        · next heq => cases heq; exact va_tlen hx hb hrm hS rfl hd hnx
        · next heq => cases heq
        · exact hrm.elim
    · exact hex.elim
  case iaload =>
    obtain ⟨rfl, hd⟩ := rr_lenE hl hdec (L := 1) rfl (by decide)
    dsimp only [rr_ex, rr_ex0] at hex
    split at hex
    · next i q r =>
      obtain ⟨cc, n, f, hq, hv⟩ := hex
      obtain ⟨hcc, hin', hv⟩ := rr_cond_lin hv
      intro Hp locs ls hPP hS hOK hL
      have hnx := (hnext _ _ _ _ hv).2 _ hk1 Hp locs ls hPP hS hOK hL
      simp only [Bool.or_eq_true] at hcc
      rcases hcc with h | h
      · have h := Nat.eq_of_beq_eq_true h
        subst h
        have hlt := rr_OK_in hOK hE hq rfl
        exact va_iald hx hb hK hPP q 0 (rr_ws_at hlt hq) rfl hin' hd hnx
      · have h := Nat.eq_of_beq_eq_true h
        subst h
        have hro := rr_OK_ro hOK hq rfl
        exact va_ti hx hb (hE.1 q _ hro).2 hS hin' rfl hd hnx
    · exact hex.elim
  case baload =>
    obtain ⟨rfl, hd⟩ := rr_lenE hl hdec (L := 1) rfl (by decide)
    dsimp only [rr_ex, rr_ex0] at hex
    split at hex
    · next i q r =>
      obtain ⟨cc, n, f, hq, hv⟩ := hex
      obtain ⟨hcc, hin', hv⟩ := rr_cond_lin hv
      intro Hp locs ls hPP hS hOK hL
      have hnx := (hnext _ _ _ _ hv).2 _ hk1 Hp locs ls hPP hS hOK hL
      simp only [Bool.or_eq_true] at hcc
      rcases hcc with h | h
      · have h := Nat.eq_of_beq_eq_true h
        subst h
        have hlt := rr_OK_in hOK hE hq rfl
        exact va_zald hx hb hK hPP q 2 (rr_ws_at hlt hq) rfl hin' hd hnx
      · have h := Nat.eq_of_beq_eq_true h
        subst h
        have hro := rr_OK_ro hOK hq rfl
        exact va_tb hx hb (hE.1 q _ hro).2 hS hin' rfl hd hnx
    · exact hex.elim
  case laload =>
    obtain ⟨rfl, hd⟩ := rr_lenE hl hdec (L := 1) rfl (by decide)
    dsimp only [rr_ex, rr_ex0] at hex
    split at hex
    · next i q r =>
      obtain ⟨n, f, hq, hin', hv⟩ := hex
      intro Hp locs ls hPP hS hOK hL
      have hlt := rr_OK_in hOK hE hq rfl
      exact va_lald hx hb hK hPP q 1 (rr_ws_at hlt hq) rfl hin' hd ((hnext _ _ _ _ hv).2 _ hk1 Hp locs ls hPP hS hOK hL)
    · exact hex.elim
  case aaload =>
    obtain ⟨rfl, hd⟩ := rr_lenE hl hdec (L := 1) rfl (by decide)
    dsimp only [rr_ex, rr_ex0] at hex
    split at hex
    · next i q r =>
      obtain ⟨n, f, hq, hin', t, hft, hv⟩ := hex
      intro Hp locs ls hPP hS hOK hL
      have hlt := rr_OK_in hOK hE hq rfl
      have hcell : Hp[ad q]? = some (arrV (kA 3) n (fun j => va_rf ((f j).map ad))) := hPP q _ (rr_ws_at hlt hq)
      have hilt : i.toNatClampNeg < n := Nat.not_le.mp fun q => hin' (Or.inr q)
      refine W.aald (v := .ref (ad t)) (ty := .array .long) hx hb hcell ((hK.2 3 _ rfl).1 n (fun j => va_rf ((f j).map ad))) rfl (fun q => by cases q) (by show ¬ (i < 0 ∨ (arrV _ _ _).slots.size ≤ _); rw [arrV_size]; exact hin') (by rw [arrV_read _ _ hilt, hft]; rfl) rfl rfl hd ((hnext _ _ _ _ hv).2 _ hk1 Hp locs ls hPP hS hOK hL)
    · exact hex.elim
  case iastore =>
    obtain ⟨rfl, hd⟩ := rr_lenE hl hdec (L := 1) rfl (by decide)
    dsimp only [rr_ex, rr_ex0] at hex
    split at hex
    · next x i q r =>
      obtain ⟨n, f, hq, hin', hv⟩ := hex
      intro Hp locs ls hPP hS hOK hL
      have hlt := rr_OK_in hOK hE hq rfl
      refine va_iast hx hb hK hPP (rr_wsD hN had) hS q 0 (rr_ws_at hlt hq) rfl hin' hd (fun H1 locs1 hP1 _ hS1 => ?_)
      exact (hnext _ _ _ _ hv).2 _ hk1 H1 locs1 ls (by rw [← rr_ws_set hlt]; exact hP1) hS1 (rr_OK_set hOK hlt rfl) hL
    · exact hex.elim
  case lastore =>
    obtain ⟨rfl, hd⟩ := rr_lenE hl hdec (L := 1) rfl (by decide)
    dsimp only [rr_ex, rr_ex0] at hex
    split at hex
    · next x i q r =>
      obtain ⟨n, f, hq, hin', hv⟩ := hex
      intro Hp locs ls hPP hS hOK hL
      have hlt := rr_OK_in hOK hE hq rfl
      refine va_last hx hb hK hPP (rr_wsD hN had) hS q 1 (rr_ws_at hlt hq) rfl hin' hd (fun H1 locs1 hP1 _ hS1 => ?_)
      exact (hnext _ _ _ _ hv).2 _ hk1 H1 locs1 ls (by rw [← rr_ws_set hlt]; exact hP1) hS1 (rr_OK_set hOK hlt rfl) hL
    · exact hex.elim
  case bastore =>
    obtain ⟨rfl, hd⟩ := rr_lenE hl hdec (L := 1) rfl (by decide)
    dsimp only [rr_ex, rr_ex0] at hex
    split at hex
    · next x i q r =>
      obtain ⟨n, f, hq, hin', hx01, hv⟩ := hex
      intro Hp locs ls hPP hS hOK hL
      have hlt := rr_OK_in hOK hE hq rfl
      have hnr : vp_nar .boolean x = x := by rcases hx01 with rfl | rfl <;> decide
      refine va_zast hx hb hK hPP (rr_wsD hN had) hS q 2 (rr_ws_at hlt hq) rfl hin' hd (fun H1 locs1 hP1 _ hS1 => ?_)
      rw [hnr] at hP1
      exact (hnext _ _ _ _ hv).2 _ hk1 H1 locs1 ls (by rw [← rr_ws_set hlt]; exact hP1) hS1 (rr_OK_set hOK hlt rfl) hL
    · exact hex.elim
end RO
