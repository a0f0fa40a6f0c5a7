theorem rr_bne {a b : Nat} (h : a ≠ b) : Nat.beq a b = false := by
  cases hb : Nat.beq a b with
  | false => rfl
  | true => exact absurd (Nat.eq_of_beq_eq_true hb) h
/-- what the kernel has seen of one row -/
theorem rr_ck1E {j k : Nat} (h : rr_ck1 j k = true) {e : rr_I} (he : rr_nth (rr_code j) k = some e) {own mx na kind p1 p2 p3 p4 : Nat} {y : MethodName} {bt : ByteArray} {ret : Option FieldType} (hj : rr_nth rr_mt j = some (own, y, bt, mx, ret, na, kind, p1, p2, p3, p4)) {pc : Nat} (hpc : rr_nth (rr_pcs_of j) k = some pc) :
    ∃ pcn, rr_nth (rr_pcs_of j) (k + 1) = some pcn ∧ decode bt pc = .ok (e.1, pcn - pc) ∧ (rr_len e.1 = 0 ∨ pcn = pc + rr_len e.1) ∧ rr_ckE own mx kind ret (rr_pcs_of j) pc e = true := by
  unfold rr_ck1 at h
  rw [hj, he, hpc] at h
  cases hn : rr_nth (rr_pcs_of j) (k + 1) with
  | none => rw [hn] at h; cases h
  | some pcn =>
    rw [hn] at h
    simp only [Bool.and_eq_true, Bool.or_eq_true, decide_eq_true_eq] at h
    obtain ⟨⟨h1, h2⟩, h3⟩ := h
    refine ⟨pcn, rfl, h1, ?_, h3⟩
    rcases h2 with h2 | h2
    · exact Or.inl (Nat.eq_of_beq_eq_true h2)
    · exact Or.inr (Nat.eq_of_beq_eq_true h2)
theorem rr_noRun {f d j k : Nat} {loc : rr_L} {st : List Value} {H R : rr_H} {r : Option Value} (hn : rr_nth (rr_code j) k = none) : ¬ rr_Run f d j k loc st H r R := by
  intro h
  cases f with
  | zero => exact h
  | succ f =>
    unfold rr_Run at h
    rw [hn] at h
    exact h
/-- SOUND, for runs of fuel f: every road of the small machine is a road of the JVM -/
def rr_Snd (l : Launch) (f : Nat) : Prop := ∀ (d j k : Nat) (loc : rr_L) (st : List Value) (H : rr_H) (r : Option Value) (HR : rr_H), rr_Run f d j k loc st H r HR →
  ∀ (own mx na kind p1 p2 p3 p4 : Nat) (y : MethodName) (bt : ByteArray) (ret : Option FieldType), rr_nth rr_mt j = some (own, y, bt, mx, ret, na, kind, p1, p2, p3, p4) →
  ∀ (p : Program) (e : Env) (s : State) (m : MethodId) (args : Array Value) (below : List Frame) (meth : Method) (c : Code) (kA : Nat → ClassId) (ad : Nat → Nat) (fm : Value) (base : Nat) (dC : Nat → ClassId) (dI : Nat → Nat → Nat) (ro : Nat → Option rr_E) (N0 S0 pc : Nat),
  rr_Cx p s m args meth c kA ad fm base dC dI ro (rr_cn.getD own "") bt mx kind ret → s.heap.size = base + N0 → N0 ≤ H.1 → S0 ≤ H.2.1 → HR.1 ≤ 1000000 → rr_nth (rr_pcs_of j) k = some pc →
  rr_G p l e (rr_rm d (HR.1 - N0) (HR.2.1 - S0)) s m args below meth c (MQ below (rr_Qc kA ad fm base dC dI ro r HR.1 HR.2.2) args s (HR.1 - N0) (HR.2.1 - S0) (rr_A base)) kA ad fm base dC dI ro N0 S0 mx pc loc st H
/-- a run is a contract -/
theorem rr_Met {l : Launch} {f d j : Nat} (hF : rr_Snd l f) {av : List Value} {H HR : rr_H} {r : Option Value} (hrun : rr_Run f d j 0 (rr_pad (rr_max j) (rr_ent av)) [] H r HR) {own mx na kind p1 p2 p3 p4 : Nat} {y : MethodName} {bt : ByteArray} {ret : Option FieldType} (hj : rr_nth rr_mt j = some (own, y, bt, mx, ret, na, kind, p1, p2, p3, p4)) (hc : rr_ckW j = true) (hcat : rr_cat av ≤ rr_max j) (hN : HR.1 ≤ 1000000)
    {kA : Nat → ClassId} {ad : Nat → Nat} {fm : Value} {base : Nat} {dC : Nat → ClassId} {dI : Nat → Nat → Nat} {ro : Nat → Option rr_E} (had : ∀ k, k < 1000000 → ad k = base + k) :
    Met l y (Cond.code y bt mx ret :: rr_gt) (rr_rm d (HR.1 - H.1) (HR.2.1 - H.2.1)) (va_Pc (av.map (rr_tv ad fm)) (rr_Wd kA ad fm base dC dI ro H.1 H.2.2)) (rr_Qc kA ad fm base dC dI ro r HR.1 HR.2.2) (HR.1 - H.1) (HR.2.1 - H.2.1) (rr_A base) := by
  obtain ⟨c1, -, -, -, -, c6, -, -, c9, c10, c11, c12, c13, -⟩ := rr_ckWE hj hc
  refine Met.ofW (cc := bt) (maxL := mx) (ret := ret) c9 rfl ?_
  intro p e s m args below meth c s₁ B hml hv
  obtain ⟨rfl, hsz, hPP, hK, hE, hOK⟩ := hv
  have hts := atoms_spec (ws := Cond.code y bt mx ret :: rr_gt) B.pre
  have hown : s.vm.findClass y.cls = some m.cls := findClass_of_methodNamed B.named
  have hfc : fm.category = 1 := hE.2.2.2.2.2.2
  rw [lg_entry_eq]
  have hl := lv_entry (av.map (rr_tv ad fm)) (n := mx) (by rw [rr_slots hfc, c11]; exact hcat)
  generalize (lg_sl (av.map (rr_tv ad fm)) ++ List.replicate (mx - (lg_sl (av.map (rr_tv ad fm))).length) Slot.unset).toArray = ls at hl ⊢
  have hC : rr_Cx p s m (av.map (rr_tv ad fm)).toArray meth c kA ad fm base dC dI ro (rr_cn.getD own "") bt mx kind ret :=
    ⟨B.exec, B.bytes, hml, by rw [c6]; exact hown, fun w hw => hts w (List.mem_cons_of_mem _ hw), hK, hE, by omega, had, B.returns, B.notSynchronized, fun h => by rw [(name_of_methodNamed B.named B.method).1]; exact (c10 h).1⟩
  have hG := hF d j 0 _ [] H r HR hrun own mx na kind p1 p2 p3 p4 y bt ret hj p e s m (av.map (rr_tv ad fm)).toArray below meth c kA ad fm base dC dI ro H.1 H.2.1 0 hC hsz (Nat.le_refl _) (Nat.le_refl _) hN c13
  have hW := hG s.heap [] ls hPP va_S.rf hOK (by rw [← c11]; exact rr_LR_ent hfc hl)
  rw [Nat.sub_self, Nat.sub_self] at hW
  exact hW
def rr_cls3 (i : ClassFile.Instr) : Bool := match i with
  | .invokevirtual _ | .invokespecial _ | .invokestatic _ | .ireturn | .lreturn | .areturn | .return_ => true
  | _ => false
set_option maxHeartbeats 8000000 in
theorem rr_cases {ins : ClassFile.Instr} {a b : Nat} {z : Int} {k : Nat} {loc : rr_L} {st : List Value} {H : rr_H} {F : rr_O → Prop} (h : rr_ex (ins, a, b, z) k loc st H F) : rr_easy ins = true ∨ rr_mid ins = true ∨ rr_alo ins = true ∨ rr_cls3 ins = true := by
  cases ins <;> first | exact (h : False).elim | exact Or.inl rfl | exact Or.inr (Or.inl rfl) | exact Or.inr (Or.inr (Or.inl rfl)) | exact Or.inr (Or.inr (Or.inr rfl))
set_option maxHeartbeats 16000000 in
set_option maxRecDepth 100000 in
theorem rr_sound (V : rr_Valid) (l : Launch) : ∀ f, rr_Snd l f := by
  intro f
  induction f with
  | zero => intro d j k loc st H r HR h; exact h.elim
  | succ f ih =>
    intro d j k loc st H r HR h own mx na kind p1 p2 p3 p4 y bt ret hj p e s m args below meth c kA ad fm base dC dI ro N0 S0 pc hC hs0 hN0 hS0 hHR hpc
    have hmono := rr_Run_mono _ _ _ _ _ _ _ _ _ h
    unfold rr_Run at h
    split at h
    · exact h.elim
    · next e' he =>
      obtain ⟨pcn, hk1, hdec, hl, hck⟩ := rr_ck1E (V.1 j k e' he) he hj hpc
      have hN : H.1 ≤ 1000000 := Nat.le_trans hmono.1 hHR
      have hR1 : 1 ≤ (rr_rm d (HR.1 - N0) (HR.2.1 - S0)).frames := Nat.succ_le_succ (Nat.zero_le d)
      have hR2 : 64 ≤ (rr_rm d (HR.1 - N0) (HR.2.1 - S0)).locals := by
        show 64 ≤ 64 * (d + 1)
        omega
      have hfc : fm.category = 1 := hC.2.2.2.2.2.2.1.2.2.2.2.2.2
      have had := hC.2.2.2.2.2.2.2.2.1
      obtain ⟨ins, a, b, z⟩ := e'
      have hnext : ∀ k' loc' st' H', rr_Run f d j k' loc' st' H' r HR → N0 ≤ H'.1 → S0 ≤ H'.2.1 → (H'.1 - N0 ≤ (rr_rm d (HR.1 - N0) (HR.2.1 - S0)).cells ∧ H'.2.1 - S0 ≤ (rr_rm d (HR.1 - N0) (HR.2.1 - S0)).slots) ∧ ∀ pc', rr_nth (rr_pcs_of j) k' = some pc' → rr_G p l e (rr_rm d (HR.1 - N0) (HR.2.1 - S0)) s m args below meth c (MQ below (rr_Qc kA ad fm base dC dI ro r HR.1 HR.2.2) args s (HR.1 - N0) (HR.2.1 - S0) (rr_A base)) kA ad fm base dC dI ro N0 S0 mx pc' loc' st' H' := by
        intro k' loc' st' H' hrun h1 h2
        have hm := rr_Run_mono _ _ _ _ _ _ _ _ _ hrun
        exact ⟨⟨Nat.sub_le_sub_right hm.1 _, Nat.sub_le_sub_right hm.2 _⟩, fun pc' hp => ih d j k' loc' st' H' r HR hrun own mx na kind p1 p2 p3 p4 y bt ret hj p e s m args below meth c kA ad fm base dC dI ro N0 S0 pc' hC hs0 h1 h2 hHR hp⟩
      obtain ⟨o, ho, hob, hom⟩ := rr_ex_mo h
      have hex := hob (fun o' => o' = o) rfl
      have hnx2 : ∀ k' loc' st' H', (Sum.inl (k', loc', st', H') : rr_O) = o → (H'.1 - N0 ≤ (rr_rm d (HR.1 - N0) (HR.2.1 - S0)).cells ∧ H'.2.1 - S0 ≤ (rr_rm d (HR.1 - N0) (HR.2.1 - S0)).slots) ∧ ∀ pc', rr_nth (rr_pcs_of j) k' = some pc' → rr_G p l e (rr_rm d (HR.1 - N0) (HR.2.1 - S0)) s m args below meth c (MQ below (rr_Qc kA ad fm base dC dI ro r HR.1 HR.2.2) args s (HR.1 - N0) (HR.2.1 - S0) (rr_A base)) kA ad fm base dC dI ro N0 S0 mx pc' loc' st' H' := by
        intro k' loc' st' H' he'
        subst he'
        exact hnext k' loc' st' H' ho (Nat.le_trans hN0 hom.1) (Nat.le_trans hS0 hom.2)
      rcases rr_cases hex with hz | hz | hz | hz
      · exact rr_W1 hz hC hex hk1 hdec hl hck hnx2
      · exact rr_W2 hz hC hN hR1 hR2 hex hk1 hdec hl hck hnx2
      · exact rr_W3 hz hC hN hs0 hN0 hS0 hR1 hR2 hex hk1 hdec hl hck hnx2
      · have hC' := hC
        obtain ⟨hx, hb, hml, hown, hts, hK, hE, hbs, -, hr, hlk, hin⟩ := hC'
        cases ins <;> first | (exact Bool.noConfusion (show false = true from hz)) | skip
        case ireturn =>
          obtain ⟨rfl, hd⟩ := rr_lenE hl hdec (L := 1) rfl (by decide)
          have hret : ret = rr_nth [.int, .boolean, .char, .byte] a := of_decide_eq_true hck
          have fin : ∀ (x : Int32) (ty : FieldType), ret = some ty → narrow ty (.int x) = .int x → (Sum.inr (Sum.inr (some (Value.int x))) : rr_O) = o → rr_G p l e (rr_rm d (HR.1 - N0) (HR.2.1 - S0)) s m args below meth c (MQ below (rr_Qc kA ad fm base dC dI ro r HR.1 HR.2.2) args s (HR.1 - N0) (HR.2.1 - S0) (rr_A base)) kA ad fm base dC dI ro N0 S0 mx pc loc [.int x] H := by
            intro x ty hty hnr he'
            subst he'
            obtain ⟨rfl, rfl⟩ := ho
            intro Hp locs ls hPP hS hOK hL
            refine rr_Wsz (fun hup => ?_)
            have hsz := rr_size (s := s) hS hPP hOK had hN hs0 hN0 hup
            exact W.zret hx hb (hr.trans hty) hnr (rr_end hC hPP hS hOK hsz (some (.int x))) hS.2.2 hd hlk
          rw [show rr_ex = fun e k loc st H F => rr_ex0 e k loc st H.1 H.2.1 H.2.2 F from rfl] at hex
          dsimp only [rr_ex0] at hex
          split at hex
          · exact fin _ .int hret rfl hex
          · exact fin _ .boolean hret (by rcases hex.1 with rfl | rfl <;> rfl) hex.2
          · exact fin _ .char hret hex.1 hex.2
          · exact fin _ .byte hret hex.1 hex.2
          · exact hex.elim
        case lreturn =>
          obtain ⟨rfl, hd⟩ := rr_lenE hl hdec (L := 1) rfl (by decide)
          have hret : ret = some .long := of_decide_eq_true hck
          rw [show rr_ex = fun e k loc st H F => rr_ex0 e k loc st H.1 H.2.1 H.2.2 F from rfl] at hex
          dsimp only [rr_ex0] at hex
          split at hex
          · subst hex
            obtain ⟨rfl, rfl⟩ := ho
            intro Hp locs ls hPP hS hOK hL
            refine rr_Wsz (fun hup => ?_)
            have hsz := rr_size (s := s) hS hPP hOK had hN hs0 hN0 hup
            exact W.lret hx hb (hr.trans hret) (rr_end hC hPP hS hOK hsz (some (.long _))) hS.2.2 hd hlk
          · exact hex.elim
        case areturn =>
          obtain ⟨rfl, hd⟩ := rr_lenE hl hdec (L := 1) rfl (by decide)
          have hret : ∃ rt, ret = some rt ∧ ((∃ n, rt = .object n) ∨ ∃ t, rt = .array t) := by
            dsimp only [rr_ckE] at hck
            split at hck
            · exact ⟨_, rfl, Or.inl ⟨_, rfl⟩⟩
            · exact ⟨_, rfl, Or.inr ⟨_, rfl⟩⟩
            · cases hck
          obtain ⟨rt, hrt, hrt2⟩ := hret
          rw [show rr_ex = fun e k loc st H F => rr_ex0 e k loc st H.1 H.2.1 H.2.2 F from rfl] at hex
          dsimp only [rr_ex0] at hex
          split at hex
          · subst hex
            obtain ⟨rfl, rfl⟩ := ho
            intro Hp locs ls hPP hS hOK hL
            refine rr_Wsz (fun hup => ?_)
            have hsz := rr_size (s := s) hS hPP hOK had hN hs0 hN0 hup
            exact W.aret hx hb (hr.trans hrt) hrt2 (Or.inr ⟨_, rfl⟩) (rr_end hC hPP hS hOK hsz (some (.ref _))) hS.2.2 hd hlk
          · exact hex.elim
        case return_ =>
          obtain ⟨rfl, hd⟩ := rr_lenE hl hdec (L := 1) rfl (by decide)
          have hret : ret = none := of_decide_eq_true hck
          rw [show rr_ex = fun e k loc st H F => rr_ex0 e k loc st H.1 H.2.1 H.2.2 F from rfl] at hex
          dsimp only [rr_ex0] at hex
          split at hex
          · subst hex
            obtain ⟨rfl, rfl⟩ := ho
            intro Hp locs ls hPP hS hOK hL
            refine rr_Wsz (fun hup => ?_)
            have hsz := rr_size (s := s) hS hPP hOK had hN hs0 hN0 hup
            exact W.vret hx hb (hr.trans hret) (rr_end hC hPP hS hOK hsz none) hS.2.2 hd hlk
          · exact hex.elim
        case invokevirtual idx =>
          obtain ⟨rfl, hd⟩ := rr_lenE hl hdec (L := 3) rfl (by decide)
          rw [show rr_ex = fun e k loc st H F => rr_ex0 e k loc st H.1 H.2.1 H.2.2 F from rfl] at hex
          dsimp only [rr_ex0] at hex
          split at hex
          · next q av rest hpop =>
            split at hex
            · next cc hcc =>
              obtain ⟨fs, hq, hex⟩ := hex
              obtain ⟨hcats, hex⟩ := rr_cond_lin hex
              subst hex
              simp only [Bool.and_eq_true] at hcats
              have hcat1 := Nat.le_of_ble_eq_true hcats.1
              have hcat2 := Nat.le_of_ble_eq_true hcats.2
              dsimp only at ho
              split at ho
              · exact ho.elim
              · next d' =>
                obtain ⟨r', H', a1, a2⟩ := ho
                have hm1 := rr_Run_mono _ _ _ _ _ _ _ _ _ a1
                have hm2 := rr_Run_mono _ _ _ _ _ _ _ _ _ a2
                obtain ⟨hlen, hst⟩ := rr_pop_st hpop
                simp only [rr_ckE, Bool.or_eq_true, Bool.and_eq_true] at hck
                rcases hck with h9 | ⟨hml', hmt⟩
                · have h9 := Nat.eq_of_beq_eq_true h9
                  subst h9
                  cases hcc
                · cases hja : rr_nth rr_mt a with
                  | none => rw [hja] at hmt; cases hmt
                  | some qq =>
                    obtain ⟨own', y', bt', mx', ret', na', kind', q1, q2, q3, q4⟩ := qq
                    rw [hja] at hmt
                    simp only [Bool.and_eq_true] at hmt
                    obtain ⟨⟨hlt, hna⟩, hk0⟩ := hmt
                    have hlt := rr_blt hlt
                    have hlt9 : a < 9000 := Nat.lt_trans hlt (by decide)
                    have hna := Nat.eq_of_beq_eq_true hna
                    have hk0 := Nat.eq_of_beq_eq_true hk0
                    have hcW := V.2 a hlt
                    obtain ⟨w1, w2, w3, w4, w5, w6, w7, w8, w9, w10, w11, w12, w13, w14⟩ := rr_ckWE hja hcW
                    have hMet := rr_Met (kA := kA) (ad := ad) (fm := fm) (base := base) (dC := dC) (dI := dI) (ro := ro) ih a1 hja hcW hcat2 (Nat.le_trans hm2.1 hHR) had
                    obtain ⟨yy, hyy, hw⟩ := rr_mlE (a := a) (by simpa [List.any_eq_true] using hml')
                    have hyy : yy = y' := by
                      unfold rr_mly at hyy
                      rw [show Nat.beq a 9998 = false from rr_bne (by omega), show Nat.beq a 9999 = false from rr_bne (by omega), show Nat.beq a 9997 = false from rr_bne (by omega), show Nat.beq a 9996 = false from rr_bne (by omega), hja] at hyy
                      exact (Option.some.inj hyy).symm
                    subst hyy
                    intro Hp locs ls hPP hS hOK hL
                    refine rr_Wsz (fun hup => ?_)
                    have hsz := rr_size (s := s) hS hPP hOK had hN hs0 hN0 hup
                    have hrecv : ∃ cellB : Cell, Hp[ad q]? = some cellB ∧ cellB.vm.isStatics = false ∧ s.vm.findClass yy.cls = some cellB.cls := by
                      rcases w14 hk0 cc hcc with ⟨rr, hrr, hre⟩ | ⟨h20, hre⟩
                      · have hlt' := rr_OK_in hOK hE hq (by
                          have : cc < 8 := by
                            have := (List.getElem?_eq_some_iff.mp hrr).1
                            simpa [vwCl] using this
                          show Nat.blt cc 8 = true
                          exact Nat.ble_eq_true_of_le this)
                        have := va_recv hK hPP hrr (rr_ws_at hlt' hq)
                        rw [hre] at this
                        exact this
                      · subst h20
                        obtain ⟨t, -, hO, -⟩ := (hE.1 q _ (rr_OK_ro hOK hq rfl)).2
                        obtain ⟨cell, g1, g2, g3, -⟩ := hO.kept hS.2.1
                        exact ⟨cell, g1, g2, by rw [hre]; exact g3⟩
                    refine rr_callW (va_runV (nL := mx) (As := av.map (rr_tv ad fm)) (rest := rest.map (rr_tv ad fm)) (b := ad q) (C := yy.cls) ⟨hx, hb, hml, hown, hts⟩ hMet ⟨callB_of (av.length) hts (rr_gt_good (fun _ h => h) w1 rfl) rfl rfl rfl (hts _ w5) (hts _ hw) ⟨w7.1, w7.2, by rw [w8, if_neg (by omega)]; simp only [List.length_cons] at hlen; congr 1; omega⟩ ⟨Nat.le_refl _, ?_⟩, hts _ (w3 (by omega)), hts _ (w4 hk0)⟩ ⟨rr_blind, hrecv, fun U hU hW => ⟨rfl, by rw [hU]; exact hsz, by rw [hU]; exact hPP, va_K.moved hW.alike hK, by rw [hU]; exact rr_EV_go hW hS hE, hOK⟩⟩ rfl (by simp) hL.1 ?_ (lv_room (by rw [rr_cats hfc]; exact hcat1)) hd ⟨?_, ?_⟩) hS (fun H1 locs1 hP1 hS1 hOK1 => ?_)
                    · show 8 + (mx' + 11) + 64 * (d' + 1) ≤ 64 * (d' + 1 + 1)
                      omega
                    · show st.map (rr_tv ad fm) = (av.map (rr_tv ad fm)).reverse ++ Value.ref (ad q) :: rest.map (rr_tv ad fm)
                      rw [hst]
                      simp [List.map_reverse, rr_tv]
                    · show H.1 - N0 + (H'.1 - H.1) ≤ HR.1 - N0
                      omega
                    · show H.2.1 - S0 + (H'.2.1 - H.2.1) ≤ HR.2.1 - S0
                      omega
                    · have hgo := (hnext (k + 1) loc (rr_push r' rest) H' a2 (by omega) (by omega)).2 _ hk1 H1 locs1 ls hP1 hS1 hOK1 hL
                      rw [show H.1 - N0 + (H'.1 - H.1) = H'.1 - N0 by omega, show H.2.1 - S0 + (H'.2.1 - H.2.1) = H'.2.1 - S0 by omega]
                      cases r' <;> exact hgo
            · exact hex.elim
          · exact hex.elim
        case invokestatic idx =>
          by_cases h99 : a = 9999
          · exact rr_W4 h99 hC hN hR1 hR2 hex hk1 hdec hl hck hnx2
          by_cases h97 : a = 9997
          · exact rr_W6 h97 hC hN hR1 hR2 hex hk1 hdec hl hck hnx2
          by_cases h96 : a = 9996
          · exact rr_W7 h96 hC hN hR1 hR2 hex hk1 hdec hl hck hnx2
          obtain ⟨rfl, hd⟩ := rr_lenE hl hdec (L := 3) rfl (by decide)
          rw [show rr_ex = fun e k loc st H F => rr_ex0 e k loc st H.1 H.2.1 H.2.2 F from rfl] at hex
          dsimp only [rr_ex0] at hex
          rw [show Nat.beq a 9999 = false from rr_bne h99, show Nat.beq a 9997 = false from rr_bne h97, show Nat.beq a 9996 = false from rr_bne h96] at hex
          dsimp only [cond] at hex
          split at hex
          · next av rest hpop =>
            obtain ⟨hcats, hex⟩ := rr_cond_lin hex
            subst hex
            simp only [Bool.and_eq_true] at hcats
            have hcat1 := Nat.le_of_ble_eq_true hcats.1
            have hcat2 := Nat.le_of_ble_eq_true hcats.2
            dsimp only at ho
            split at ho
            · exact ho.elim
            · next d' =>
              obtain ⟨r', H', a1, a2⟩ := ho
              have hm1 := rr_Run_mono _ _ _ _ _ _ _ _ _ a1
              have hm2 := rr_Run_mono _ _ _ _ _ _ _ _ _ a2
              obtain ⟨hlen, hst⟩ := rr_pop_st hpop
              simp only [rr_ckE, Bool.or_eq_true, Bool.and_eq_true] at hck
              rcases hck with (h9 | h9) | ⟨⟨-, hmt⟩, hml'⟩
              · have h9 := Nat.eq_of_beq_eq_true h9
                subst h9
                exact absurd a1 (rr_noRun (by decide +kernel))
              · rcases h9.1 with (h | h) | h
                · exact absurd (Nat.eq_of_beq_eq_true h) h99
                · exact absurd (Nat.eq_of_beq_eq_true h) h97
                · exact absurd (Nat.eq_of_beq_eq_true h) h96
              · cases hja : rr_nth rr_mt a with
                | none => rw [hja] at hmt; cases hmt
                | some qq =>
                  obtain ⟨own', y', bt', mx', ret', na', kind', q1, q2, q3, q4⟩ := qq
                  rw [hja] at hmt
                  simp only [Bool.and_eq_true] at hmt
                  obtain ⟨⟨hlt, hna⟩, hk0⟩ := hmt
                  have hlt := rr_blt hlt
                  have hlt9 : a < 9000 := Nat.lt_trans hlt (by decide)
                  have hna := Nat.eq_of_beq_eq_true hna
                  have hk0 := Nat.eq_of_beq_eq_true hk0
                  have hcW := V.2 a hlt
                  obtain ⟨w1, w2, w3, w4, w5, w6, w7, w8, w9, w10, w11, w12, w13, w14⟩ := rr_ckWE hja hcW
                  have hMet := rr_Met (kA := kA) (ad := ad) (fm := fm) (base := base) (dC := dC) (dI := dI) (ro := ro) ih a1 hja hcW hcat2 (Nat.le_trans hm2.1 hHR) had
                  obtain ⟨yy, hyy, hw⟩ := rr_mlE (a := a) (by simpa [List.any_eq_true] using hml')
                  have hyy : yy = y' := by
                    unfold rr_mly at hyy
                    rw [show Nat.beq a 9998 = false from rr_bne (by omega), show Nat.beq a 9999 = false from rr_bne (by omega), show Nat.beq a 9997 = false from rr_bne (by omega), show Nat.beq a 9996 = false from rr_bne (by omega), hja] at hyy
                    exact (Option.some.inj hyy).symm
                  subst hyy
                  intro Hp locs ls hPP hS hOK hL
                  refine rr_Wsz (fun hup => ?_)
                  have hsz := rr_size (s := s) hS hPP hOK had hN hs0 hN0 hup
                  refine rr_callW (va_runS (nL := mx) (As := av.map (rr_tv ad fm)) (rest := rest.map (rr_tv ad fm)) ⟨hx, hb, hml, hown, hts⟩ hMet ⟨callB_of (av.length) hts (rr_gt_good (fun _ h => h) w1 rfl) rfl rfl rfl (hts _ w5) (hts _ hw) ⟨w7.1, w7.2, by rw [w8, if_pos hk0]; congr 1; omega⟩ ⟨Nat.le_refl _, ?_⟩, hts _ (w2 hk0)⟩ ⟨rr_blind, fun U hU hW => ⟨rfl, by rw [hU]; exact hsz, by rw [hU]; exact hPP, va_K.moved hW.alike hK, by rw [hU]; exact rr_EV_go hW hS hE, hOK⟩⟩ rfl (by simp) hL.1 ?_ (lv_room (by rw [rr_cats hfc]; exact hcat1)) hd ⟨?_, ?_⟩) hS (fun H1 locs1 hP1 hS1 hOK1 => ?_)
                  · show 8 + (mx' + 11) + 64 * (d' + 1) ≤ 64 * (d' + 1 + 1)
                    omega
                  · show st.map (rr_tv ad fm) = (av.map (rr_tv ad fm)).reverse ++ rest.map (rr_tv ad fm)
                    rw [hst]
                    simp [List.map_reverse]
                  · show H.1 - N0 + (H'.1 - H.1) ≤ HR.1 - N0
                    omega
                  · show H.2.1 - S0 + (H'.2.1 - H.2.1) ≤ HR.2.1 - S0
                    omega
                  · have hgo := (hnext (k + 1) loc (rr_push r' rest) H' a2 (by omega) (by omega)).2 _ hk1 H1 locs1 ls hP1 hS1 hOK1 hL
                    rw [show H.1 - N0 + (H'.1 - H.1) = H'.1 - N0 by omega, show H.2.1 - S0 + (H'.2.1 - H.2.1) = H'.2.1 - S0 by omega]
                    cases r' <;> exact hgo
          · exact hex.elim
        case invokespecial idx =>
          by_cases h98 : a = 9998
          · exact rr_W5 h98 hC hN hR1 hR2 hex hk1 hdec hl hck hnx2
          obtain ⟨rfl, hd⟩ := rr_lenE hl hdec (L := 3) rfl (by decide)
          rw [show rr_ex = fun e k loc st H F => rr_ex0 e k loc st H.1 H.2.1 H.2.2 F from rfl] at hex
          dsimp only [rr_ex0] at hex
          split at hex
          · next q av rest hpop =>
            rw [show Nat.beq a 9998 = false from rr_bne h98] at hex
            dsimp only [cond] at hex
            obtain ⟨hcats, hex⟩ := rr_cond_lin hex
            subst hex
            simp only [Bool.and_eq_true] at hcats
            have hcat1 := Nat.le_of_ble_eq_true hcats.1
            have hcat2 := Nat.le_of_ble_eq_true hcats.2
            dsimp only at ho
            split at ho
            · exact ho.elim
            · next d' =>
              obtain ⟨r', H', a1, a2⟩ := ho
              have hm1 := rr_Run_mono _ _ _ _ _ _ _ _ _ a1
              have hm2 := rr_Run_mono _ _ _ _ _ _ _ _ _ a2
              obtain ⟨hlen, hst⟩ := rr_pop_st hpop
              simp only [rr_ckE, Bool.or_eq_true, Bool.and_eq_true, decide_eq_true_eq] at hck
              rcases hck with (h9 | h9) | ⟨⟨-, hmt⟩, hlk'⟩
              · have h9 := Nat.eq_of_beq_eq_true h9
                subst h9
                exact absurd a1 (rr_noRun (by decide +kernel))
              · exact absurd (Nat.eq_of_beq_eq_true h9.1.1) h98
              · cases hja : rr_nth rr_mt a with
                | none => rw [hja] at hmt; cases hmt
                | some qq =>
                  obtain ⟨own', y', bt', mx', ret', na', kind', q1, q2, q3, q4⟩ := qq
                  rw [hja] at hmt
                  simp only [Bool.and_eq_true] at hmt
                  obtain ⟨⟨hlt, hna⟩, hk0⟩ := hmt
                  have hlt := rr_blt hlt
                  have hlt9 : a < 9000 := Nat.lt_trans hlt (by decide)
                  have hna := Nat.eq_of_beq_eq_true hna
                  have hk0 := Nat.eq_of_beq_eq_true hk0
                  have hcW := V.2 a hlt
                  obtain ⟨w1, w2, w3, w4, w5, w6, w7, w8, w9, w10, w11, w12, w13, w14⟩ := rr_ckWE hja hcW
                  have hMet := rr_Met (kA := kA) (ad := ad) (fm := fm) (base := base) (dC := dC) (dI := dI) (ro := ro) ih a1 hja hcW hcat2 (Nat.le_trans hm2.1 hHR) had
                  have hrn : ret' = none := (w10 hk0).2
                  subst hrn
                  intro Hp locs ls hPP hS hOK hL
                  refine rr_Wsz (fun hup => ?_)
                  have hsz := rr_size (s := s) hS hPP hOK had hN hs0 hN0 hup
                  have hgo := fun (H1 : Heap) (locs1 : List Loc) (hP1 : va_P (dC, dI) vwCl (rr_ws kA ad fm H'.1 H'.2.2) H1) (hS1 : va_S (rr_A base) s.heap H1 locs1) (hOK1 : rr_OK ro H'.1 H'.2.2) => (hnext (k + 1) loc (rr_push r' rest) H' a2 (by omega) (by omega)).2 _ hk1 H1 locs1 ls hP1 hS1 hOK1 hL
                  have hlo : 8 + (mx' + 11) + 64 * (d' + 1) ≤ 64 * (d' + 1 + 1) := by omega
                  have hstk : st.map (rr_tv ad fm) = (av.map (rr_tv ad fm)).reverse ++ Value.ref (ad q) :: rest.map (rr_tv ad fm) := by
                    rw [hst]
                    simp [List.map_reverse, rr_tv]
                  have hdd : y'.cls ≠ "java/lang/invoke/MethodHandle" ∧ y'.cls ≠ "java/lang/invoke/VarHandle" ∧ (parseMethodDescriptor y'.desc).map (fun d => d.parameters.length) = some av.length := ⟨w7.1, w7.2, by rw [w8, if_neg (by omega)]; simp only [List.length_cons] at hlen; congr 1; omega⟩
                  have hpre : PreS s Hp (va_Pc ((Value.ref q :: av).map (rr_tv ad fm)) (rr_Wd kA ad fm base dC dI ro H.1 H.2.2)) (.ref (ad q) :: av.map (rr_tv ad fm)) := ⟨rr_blind, fun U hU hW => ⟨rfl, by rw [hU]; exact hsz, by rw [hU]; exact hPP, va_K.moved hW.alike hK, by rw [hU]; exact rr_EV_go hW hS hE, hOK⟩⟩
                  have hfit : H.1 - N0 + (H'.1 - H.1) ≤ (rr_rm (d' + 1) (HR.1 - N0) (HR.2.1 - S0)).cells ∧ H.2.1 - S0 + (H'.2.1 - H.2.1) ≤ (rr_rm (d' + 1) (HR.1 - N0) (HR.2.1 - S0)).slots := by
                    constructor
                    · show H.1 - N0 + (H'.1 - H.1) ≤ HR.1 - N0
                      omega
                    · show H.2.1 - S0 + (H'.2.1 - H.2.1) ≤ HR.2.1 - S0
                      omega
                  rcases hlk' with ⟨-, hml'⟩ | ⟨-, hnm⟩
                  · obtain ⟨yy, hyy, hw⟩ := rr_mlE (a := a) (by simpa [List.any_eq_true] using hml')
                    have hyy : yy = y' := by
                      unfold rr_mly at hyy
                      rw [show Nat.beq a 9998 = false from rr_bne (by omega), show Nat.beq a 9999 = false from rr_bne (by omega), show Nat.beq a 9997 = false from rr_bne (by omega), show Nat.beq a 9996 = false from rr_bne (by omega), hja] at hyy
                      exact (Option.some.inj hyy).symm
                    subst hyy
                    refine rr_callW (va_runI (nL := mx) (As := av.map (rr_tv ad fm)) (rest := rest.map (rr_tv ad fm)) (b := ad q) ⟨hx, hb, hml, hown, hts⟩ hMet ⟨callB_of (av.length) hts (rr_gt_good (fun _ h => h) w1 rfl) rfl rfl rfl (hts _ w5) (hts _ hw) hdd ⟨Nat.le_refl _, hlo⟩, (w10 hk0).1, hts _ (w3 (by omega))⟩ hpre rfl (by simp) hL.1 hstk (lv_room (by rw [rr_cats hfc]; exact hcat1)) hd hfit) hS (fun H1 locs1 hP1 hS1 hOK1 => ?_)
                    rw [show H.1 - N0 + (H'.1 - H.1) = H'.1 - N0 by omega, show H.2.1 - S0 + (H'.2.1 - H.2.1) = H'.2.1 - S0 by omega]
                    have hgo := hgo H1 locs1 hP1 hS1 hOK1
                    cases r' <;> exact hgo
                  · have hwn : va_Nw (.methodLinkNest (rr_cn.getD own "") idx y' "GrudgeDesk") s := by
                      obtain ⟨qn, hqn, hqe⟩ := List.any_eq_true.mp (show (rr_NM.any fun q => Nat.beq q.1 own && Nat.beq q.2.1 idx && Nat.beq q.2.2 a) = true by simpa [List.any_eq_true] using hnm)
                      simp only [Bool.and_eq_true] at hqe
                      obtain ⟨⟨e1, e2⟩, e3⟩ := hqe
                      have e1 := Nat.eq_of_beq_eq_true e1
                      have e2 := Nat.eq_of_beq_eq_true e2
                      have e3 := Nat.eq_of_beq_eq_true e3
                      have := hE.2.2.2.1 _ (List.mem_map.mpr ⟨qn, hqn, rfl⟩)
                      rw [e1, e2, e3, hja] at this
                      exact this
                    refine rr_callW (va_runIN (nL := mx) (As := av.map (rr_tv ad fm)) (rest := rest.map (rr_tv ad fm)) (b := ad q) ⟨hx, hb, hml, hown, hts⟩ hMet ⟨va_cnB (av.length) hts (rr_gt_good (fun _ h => h) w1 rfl) rfl rfl rfl hwn (hts _ w5) hdd ⟨Nat.le_refl _, hlo⟩, (w10 hk0).1, hts _ (w3 (by omega))⟩ hpre rfl (by simp) hL.1 hstk (lv_room (by rw [rr_cats hfc]; exact hcat1)) hd hfit) hS (fun H1 locs1 hP1 hS1 hOK1 => ?_)
                    rw [show H.1 - N0 + (H'.1 - H.1) = H'.1 - N0 by omega, show H.2.1 - S0 + (H'.2.1 - H.2.1) = H'.2.1 - S0 by omega]
                    have hgo := hgo H1 locs1 hP1 hS1 hOK1
                    cases r' <;> exact hgo
          · exact hex.elim
