section RO
variable {p : Program} {l : Launch} {e : Env} {R : Room} {s : State} {m : MethodId} {args : Array Value} {below : List Frame} {meth : Method} {c : Code} {Q : State → Prop}
variable {kA : Nat → ClassId} {ad : Nat → Nat} {fm : Value} {base : Nat} {dC : Nat → ClassId} {dI : Nat → Nat → Nat} {ro : Nat → Option rr_E} {N0 S0 : Nat}
theorem rr_cb {n x : Nat} (hn : n ≤ 1000) (hx : x ≤ 8) : n * x ≤ 536870912 := Nat.le_trans (Nat.mul_le_mul hn hx) (by decide)
theorem rr_Wsz {H : Heap} {locs : List Loc} {cells slots : Nat} {g : JFrame} (k : H.size ≤ s.heap.size + cells → W p l e R s m args below meth c H locs cells slots Q g) : W p l e R s m args below meth c H locs cells slots Q g :=
  fun T hT X => k (by rw [← hT]; exact X.heapSize) T hT X
theorem rr_size {N : Nat} {h : Nat → Option rr_E} {Hp : Heap} {locs : List Loc} (hS : va_S (rr_A base) s.heap Hp locs) (hPP : va_P (dC, dI) vwCl (rr_ws kA ad fm N h) Hp) (hOK : rr_OK ro N h) (had : ∀ k, k < 1000000 → ad k = base + k) (hN : N ≤ 1000000) (hs : s.heap.size = base + N0) (h0 : N0 ≤ N) (hup : Hp.size ≤ s.heap.size + (N - N0)) : Hp.size = base + N := by
  have h1 := hS.1
  rcases Nat.eq_or_lt_of_le h0 with z | z
  · omega
  · obtain ⟨x, hx, -⟩ := hOK.1 (N - 1) (by omega)
    have h2 := (hPP (N - 1) _ (rr_ws_at (by omega) hx)).lt
    rw [show ((ad (N - 1), rr_tE kA ad fm x) : Nat × va_E).1 = ad (N - 1) from rfl, had (N - 1) (by omega)] at h2
    omega
theorem rr_P_intro {N : Nat} {h : Nat → Option rr_E} {Hp : Heap} (hOK : rr_OK ro N h) (hh : ∀ k x, k < N → h k = some x → va_at (dC, dI) vwCl (ad k, rr_tE kA ad fm x) Hp) : va_P (dC, dI) vwCl (rr_ws kA ad fm N h) Hp := by
  intro k q hq
  obtain ⟨h1, -⟩ := rr_ws_pos hq
  obtain ⟨x, hx, -⟩ := hOK.1 k h1
  rw [rr_ws_at h1 hx] at hq
  cases hq
  exact hh k x h1 hx
/-- the new cell's place: there is no other -/
theorem rr_newq {N q : Nat} {h : Nat → Option rr_E} {x : va_E} {H1 : Heap} (had : ∀ k, k < 1000000 → ad k = base + k) (hN : N < 1000000) (hs : s.heap.size = base + N0) (h0 : N0 ≤ N) (hOK : rr_OK ro N h) (hP1 : va_P (dC, dI) vwCl (rr_ws kA ad fm N h ++ [(q, x)]) H1) (hD1 : va_D (rr_A base) (rr_ws kA ad fm N h ++ [(q, x)])) (hup : H1.size ≤ s.heap.size + (N - N0 + 1)) : q = ad N := by
  have hl : (rr_ws kA ad fm N h ++ [(q, x)])[N]? = some (q, x) := by
    rw [List.getElem?_append_right (by rw [rr_ws_len]; exact Nat.le_refl _), rr_ws_len, Nat.sub_self]
    rfl
  have h1 : q < H1.size := (hP1 N _ hl).lt
  have h2 : base ≤ q := hD1.2 N _ hl
  rw [had N hN]
  rcases Nat.lt_or_ge q (base + N) with z | z
  · exfalso
    have hk : q - base < N := by omega
    obtain ⟨y, hy, -⟩ := hOK.1 (q - base) hk
    have h3 : (rr_ws kA ad fm N h ++ [(q, x)])[q - base]? = some (ad (q - base), rr_tE kA ad fm y) := by
      rw [List.getElem?_append_left (by rw [rr_ws_len]; exact hk)]
      exact rr_ws_at hk hy
    have := hD1.1 N (q - base) _ _ hl h3 (by show q = ad (q - base); rw [had _ (by omega)]; omega)
    omega
  · omega
theorem rr_setR_in {h : Nat → Option rr_E} {lo n k : Nat} {x : rr_E} (h1 : lo ≤ k) (h2 : k < lo + n) : rr_setR h lo n x k = some x := by
  unfold rr_setR
  have e1 : Nat.ble lo k = true := Nat.ble_eq_true_of_le h1
  have e2 : Nat.blt k (lo + n) = true := Nat.ble_eq_true_of_le h2
  rw [e1, e2]
  rfl
theorem rr_setR_out {h : Nat → Option rr_E} {lo n k : Nat} {x : rr_E} (h1 : k < lo ∨ lo + n ≤ k) : rr_setR h lo n x k = h k := by
  unfold rr_setR
  cases hc : (Nat.ble lo k && Nat.blt k (lo + n)) with
  | false => rfl
  | true =>
    simp only [Bool.and_eq_true] at hc
    have a1 := Nat.le_of_ble_eq_true hc.1
    have a2 := rr_blt hc.2
    omega
theorem rr_outer (cA : ClassId) (N h0 : Nat) : ∀ i : Nat, Jvm.Free.Multi.outerC cA N h0 i = arrV cA N (fun j => va_rf (if j < i then some (h0 + 1 + j) else none))
  | 0 => by
    show ({ cls := cA, slots := Array.replicate N .null, vm := .none } : Cell) = _
    rw [arrV_new]
    exact congrArg (arrV cA N) (funext fun j => by simp [va_rf])
  | i + 1 => by
    show (Jvm.Free.Multi.outerC cA N h0 i).setSlot i (.ref (h0 + 1 + i)) = _
    rw [rr_outer cA N h0 i, arrV_store]
    refine congrArg (arrV cA N) (funext fun j => ?_)
    by_cases q : j = i
    · subst q
      simp [updV, va_rf]
    · by_cases h : j < i
      · simp [updV, q, h, Nat.lt_succ_of_lt h]
      · simp [updV, q, h, show ¬ j < i + 1 by omega]
theorem rr_dfsOK : ∀ a, a < 8 → ∀ j, j < (vwCl.getD a (RX2, TX2, 2)).2.2 → defaultValue ((rr_tyC.getD a tyX2) j) = vp_V (rr_dfs.getD a []) j := by decide +kernel
theorem rr_dfs_len : ∀ a, a < 8 → (rr_dfs.getD a []).length = (vwCl.getD a (RX2, TX2, 2)).2.2 := by decide +kernel
theorem rr_insOK : ∀ a, a < 8 → Cond.instantiable (vwCl.getD a (RX2, TX2, 2)).1 (vwCl.getD a (RX2, TX2, 2)).2.2 ∈ lw_tbl ∧ Cond.initialized (vwCl.getD a (RX2, TX2, 2)).1 ∈ lw_tbl := by decide +kernel
theorem rr_dfs_tv {a : Nat} {fs : List Value} (h : rr_nth rr_dfs a = some fs) : fs.map (rr_tv ad fm) = fs := by
  match a, h with
  | 0, h => cases h; rfl
  | 1, h => cases h; rfl
  | 2, h => cases h; rfl
  | 3, h => cases h; rfl
  | 4, h => cases h; rfl
  | 5, h => cases h; rfl
  | 6, h => cases h; rfl
  | 7, h => cases h; rfl
  | a + 8, h => cases h
def rr_alo (i : ClassFile.Instr) : Bool := match i with
  | .new _ | .newarray _ | .multianewarray _ _ => true
  | _ => false
set_option maxHeartbeats 16000000 in
set_option maxRecDepth 100000 in
theorem rr_W3 {ins : ClassFile.Instr} {a b : Nat} {z : Int} {k : Nat} {loc : rr_L} {st : List Value} {H : rr_H} {F : rr_O → Prop} {own mx kind : Nat} {ret : Option FieldType} {bt : ByteArray} {P : List Nat} {pc pcn : Nat} (hez : rr_alo ins = true)
    (hC : rr_Cx p s m args meth c kA ad fm base dC dI ro (rr_cn.getD own "") bt mx kind ret) (hN : H.1 ≤ 1000000) (hs0 : s.heap.size = base + N0) (hN0 : N0 ≤ H.1) (hS0 : S0 ≤ H.2.1) (hR1 : 1 ≤ R.frames) (hR2 : 64 ≤ R.locals) (hex : rr_ex (ins, a, b, z) k loc st H F) (hk1 : rr_nth P (k + 1) = some pcn) (hdec : decode bt pc = .ok (ins, pcn - pc)) (hl : rr_len ins = 0 ∨ pcn = pc + rr_len ins) (hck : rr_ckE own mx kind ret P pc (ins, a, b, z) = true)
    (hnext : ∀ k' loc' st' H', F (.inl (k', loc', st', H')) → (H'.1 - N0 ≤ R.cells ∧ H'.2.1 - S0 ≤ R.slots) ∧ ∀ pc', rr_nth P k' = some pc' → rr_G p l e R s m args below meth c Q kA ad fm base dC dI ro N0 S0 mx pc' loc' st' H') :
    rr_G p l e R s m args below meth c Q kA ad fm base dC dI ro N0 S0 mx pc loc st H := by
  obtain ⟨hx, hb, hml, hown, hts, hK, hE, hbs, had, hr, hlk, hin⟩ := hC
  have hfc : fm.category = 1 := hE.2.2.2.2.2.2
  obtain ⟨Nn, Ss, hh⟩ := H
  have hN : Nn ≤ 1000000 := hN
  have hN0 : N0 ≤ Nn := hN0
  have hS0 : S0 ≤ Ss := hS0
  cases ins <;> first | (exact Bool.noConfusion (show false = true from hez)) | skip
  case new idx =>
    obtain ⟨rfl, hd⟩ := rr_lenE hl hdec (L := 3) rfl (by decide)
    simp only [rr_ckE, Bool.and_eq_true] at hck
    obtain ⟨ha8, hcl⟩ := hck
    have ha8 := rr_blt ha8
    dsimp only [rr_ex, rr_ex0] at hex
    split at hex
    · next fs hfs =>
      obtain ⟨hNl, hv⟩ := rr_cond_lin hex
      have hNl := rr_blt hNl
      rcases rr_clE (a := a) (by simpa [List.any_eq_true] using hcl) with ⟨r', hr', hw⟩ | ⟨hno, -⟩
      · have hgd : vwCl.getD a (RX2, TX2, 2) = r' := by rw [List.getD_eq_getElem?_getD, hr']; rfl
        have hfd : rr_dfs.getD a [] = fs := by rw [List.getD_eq_getElem?_getD, ← rr_nth_get, hfs]; rfl
        obtain ⟨ty0, hty, hnm, htc⟩ := rr_tyOK hr'
        have htd : rr_tyC.getD a tyX2 = ty0 := by rw [List.getD_eq_getElem?_getD, htc]; rfl
        have hlen := rr_dfs_len a ha8
        rw [hfd, hgd] at hlen
        have hdv := rr_dfsOK a ha8
        rw [hfd, hgd, htd] at hdv
        obtain ⟨hi1, hi2⟩ := rr_insOK a ha8
        rw [hgd] at hi1 hi2
        obtain ⟨⟨hc1, hc2⟩, hnx⟩ := hnext _ _ _ _ hv
        intro Hp locs ls hPP hS hOK hL
        have hc1' : Nn + 1 - N0 ≤ R.cells := hc1
        have hc2' : Ss + fs.length - S0 ≤ R.slots := hc2
        show W p l e R s m args below meth c Hp locs (Nn - N0) (Ss - S0) Q _
        refine va_new (C := r'.1) (T := r'.2.1) (N := r'.2.2) hx hb hts (rr_inC hr') ty0 hty hown (hts _ hw) (hts _ (List.mem_filter.mpr ⟨hi1, rfl⟩)) (hts _ (List.mem_filter.mpr ⟨hi2, rfl⟩)) hK hPP (rr_wsD hN had) hS (fun q hq => Nat.le_trans hbs hq) hr' hdv (by omega) (by omega) hd (fun q H1 hP1 hD1 hS1 => ?_)
        refine rr_Wsz (fun hup => ?_)
        have hq := rr_newq (s := s) had hNl hs0 hN0 hOK hP1 hD1 hup
        subst hq
        have hnx2 := hnx _ hk1 H1 locs ls (by
          show va_P (dC, dI) vwCl (rr_ws kA ad fm (Nn + 1) (rr_set hh Nn (.inr (a, fs)))) H1
          rw [rr_ws_push]
          show va_P (dC, dI) vwCl (rr_ws kA ad fm Nn hh ++ [(ad Nn, .inr (a, fs.map (rr_tv ad fm)))]) H1
          rw [rr_dfs_tv hfs]
          exact hP1) hS1 (rr_OK_push hOK (show Nat.blt a 8 = true from Nat.ble_eq_true_of_le ha8)) hL
        have e1 : Nn - N0 + 1 = Nn + 1 - N0 := by omega
        have e2 : Ss - S0 + r'.2.2 = Ss + fs.length - S0 := by omega
        rw [e1, e2]
        exact hnx2
      · exfalso
        have : vwCl.length ≤ a := List.getElem?_eq_none_iff.mp hno
        simp [vwCl] at this
        omega
    · exact hex.elim
  case newarray at' =>
    obtain ⟨rfl, hd⟩ := rr_lenE hl hdec (L := 2) rfl (by decide)
    dsimp only [rr_ex, rr_ex0] at hex
    split at hex
    · next n r =>
      obtain ⟨⟨hn0, hn1, hNl⟩, hv⟩ := hex
      obtain ⟨⟨hc1, hc2⟩, hnx⟩ := hnext _ _ _ _ hv
      intro Hp locs ls hPP hS hOK hL
      have hc1' : Nn + 1 - N0 ≤ R.cells := hc1
      have hc2' : Ss + n.toNatClampNeg - S0 ≤ R.slots := hc2
      show W p l e R s m args below meth c Hp locs (Nn - N0) (Ss - S0) Q _
      refine va_newa (atype := .int) (ty := .int) (a0 := (n.toNatClampNeg, .inl (fun _ => 0))) hx hb (hts _ rr_wCI) rfl hK hPP (rr_wsD hN had) hS (fun q hq => Nat.le_trans hbs hq) (fun _ => rfl) hn0 rfl (rr_cb hn1 (by decide)) (by omega) (by omega) hd (fun q cA H1 hK1 hP1 hD1 hS1 => ?_)
      have hcA : cA = kA 0 := by
        have q1 := (hK1.2 4 (cA, .int) rfl).2
        have q2 := (hK.2 0 _ rfl).2
        exact Option.some.inj ((show s.vm.findClass _ = some cA from q1).symm.trans (show s.vm.findClass _ = some (kA 0) from q2))
      subst hcA
      refine rr_Wsz (fun hup => ?_)
      have hq := rr_newq (s := s) had hNl hs0 hN0 hOK hP1 hD1 hup
      subst hq
      have hnx2 := hnx _ hk1 H1 locs ls (by
        show va_P (dC, dI) vwCl (rr_ws kA ad fm (Nn + 1) (rr_set hh Nn (.inl (0, (n.toNatClampNeg, .inl (fun _ => 0)))))) H1
        rw [rr_ws_push]
        exact hP1) hS1 (rr_OK_push hOK rfl) hL
      have e1 : Nn - N0 + 1 = Nn + 1 - N0 := by omega
      have e2 : Ss - S0 + n.toNatClampNeg = Ss + n.toNatClampNeg - S0 := by omega
      rw [e1, e2]
      exact hnx2
    · next n r =>
      obtain ⟨⟨hn0, hn1, hNl⟩, hv⟩ := hex
      obtain ⟨⟨hc1, hc2⟩, hnx⟩ := hnext _ _ _ _ hv
      intro Hp locs ls hPP hS hOK hL
      have hc1' : Nn + 1 - N0 ≤ R.cells := hc1
      have hc2' : Ss + n.toNatClampNeg - S0 ≤ R.slots := hc2
      show W p l e R s m args below meth c Hp locs (Nn - N0) (Ss - S0) Q _
      refine va_newa (atype := .long) (ty := .long) (a0 := (n.toNatClampNeg, .inr (.inl (fun _ => 0)))) hx hb (hts _ rr_wCL) rfl hK hPP (rr_wsD hN had) hS (fun q hq => Nat.le_trans hbs hq) (fun _ => rfl) hn0 rfl (rr_cb hn1 (by decide)) (by omega) (by omega) hd (fun q cA H1 hK1 hP1 hD1 hS1 => ?_)
      have hcA : cA = kA 1 := by
        have q1 := (hK1.2 4 (cA, .long) rfl).2
        have q2 := (hK.2 1 _ rfl).2
        exact Option.some.inj ((show s.vm.findClass _ = some cA from q1).symm.trans (show s.vm.findClass _ = some (kA 1) from q2))
      subst hcA
      refine rr_Wsz (fun hup => ?_)
      have hq := rr_newq (s := s) had hNl hs0 hN0 hOK hP1 hD1 hup
      subst hq
      have hnx2 := hnx _ hk1 H1 locs ls (by
        show va_P (dC, dI) vwCl (rr_ws kA ad fm (Nn + 1) (rr_set hh Nn (.inl (1, (n.toNatClampNeg, .inr (.inl (fun _ => 0))))))) H1
        rw [rr_ws_push]
        exact hP1) hS1 (rr_OK_push hOK rfl) hL
      have e1 : Nn - N0 + 1 = Nn + 1 - N0 := by omega
      have e2 : Ss - S0 + n.toNatClampNeg = Ss + n.toNatClampNeg - S0 := by omega
      rw [e1, e2]
      exact hnx2
    · next n r =>
      obtain ⟨⟨hn0, hn1, hNl⟩, hv⟩ := hex
      obtain ⟨⟨hc1, hc2⟩, hnx⟩ := hnext _ _ _ _ hv
      intro Hp locs ls hPP hS hOK hL
      have hc1' : Nn + 1 - N0 ≤ R.cells := hc1
      have hc2' : Ss + n.toNatClampNeg - S0 ≤ R.slots := hc2
      show W p l e R s m args below meth c Hp locs (Nn - N0) (Ss - S0) Q _
      refine va_newa (atype := .boolean) (ty := .boolean) (a0 := (n.toNatClampNeg, .inl (fun _ => 0))) hx hb (hts _ rr_wCZ) rfl hK hPP (rr_wsD hN had) hS (fun q hq => Nat.le_trans hbs hq) (fun _ => rfl) hn0 rfl (rr_cb hn1 (by decide)) (by omega) (by omega) hd (fun q cA H1 hK1 hP1 hD1 hS1 => ?_)
      have hcA : cA = kA 2 := by
        have q1 := (hK1.2 4 (cA, .boolean) rfl).2
        have q2 := (hK.2 2 _ rfl).2
        exact Option.some.inj ((show s.vm.findClass _ = some cA from q1).symm.trans (show s.vm.findClass _ = some (kA 2) from q2))
      subst hcA
      refine rr_Wsz (fun hup => ?_)
      have hq := rr_newq (s := s) had hNl hs0 hN0 hOK hP1 hD1 hup
      subst hq
      have hnx2 := hnx _ hk1 H1 locs ls (by
        show va_P (dC, dI) vwCl (rr_ws kA ad fm (Nn + 1) (rr_set hh Nn (.inl (2, (n.toNatClampNeg, .inl (fun _ => 0)))))) H1
        rw [rr_ws_push]
        exact hP1) hS1 (rr_OK_push hOK rfl) hL
      have e1 : Nn - N0 + 1 = Nn + 1 - N0 := by omega
      have e2 : Ss - S0 + n.toNatClampNeg = Ss + n.toNatClampNeg - S0 := by omega
      rw [e1, e2]
      exact hnx2
    · exact hex.elim
  case multianewarray idx dm =>
    obtain ⟨rfl, hd⟩ := rr_lenE hl hdec (L := 4) rfl (by decide)
    simp only [rr_ckE, Bool.and_eq_true] at hck
    obtain ⟨hdm, hcl⟩ := hck
    have hdm := Nat.eq_of_beq_eq_true hdm
    subst hdm
    have hlink : Cond.classLink (rr_cn.getD own "") idx "[[J" ∈ rr_gt := by
      rcases rr_clE (a := 30) (by simpa [List.any_eq_true] using hcl) with ⟨r', hr', -⟩ | ⟨-, hw⟩
      · cases hr'
      · exact hw
    dsimp only [rr_ex, rr_ex0] at hex
    split at hex
    · next m' n r =>
      obtain ⟨⟨hn0, hm0, hn1, hm1, hNl⟩, hv⟩ := hex
      obtain ⟨⟨hc1, hc2⟩, hnx⟩ := hnext _ _ _ _ hv
      intro Hp locs ls hPP hS hOK hL
      have hc1' : Nn + 1 + n.toNatClampNeg - N0 ≤ R.cells := hc1
      have hc2' : Ss + n.toNatClampNeg + n.toNatClampNeg * m'.toNatClampNeg - S0 ≤ R.slots := hc2
      show W p l e R s m args below meth c Hp locs (Nn - N0) (Ss - S0) Q _
      refine rr_Wsz (fun hup => ?_)
      have hsz := rr_size (s := s) hS hPP hOK had hN hs0 hN0 hup
      intro T hT X
      obtain ⟨vm₁, cA, comp, -, fA, fC, hO, hI, X', step⟩ := X.multianewarray2F (ty := .long) hx hown (hts _ hlink) (show (Cond.arrayOver (.array .long)).before args s = true from hE.2.2.2.2.2.1) (hts _ rr_wCL) (g := F0 m pc ls (.int m' :: .int n :: r.map (rr_tv ad fm))) rfl (by rw [hb]; exact hd) rfl hn0 hm0 (by omega) (by
        have : componentBytes .long = 8 := rfl
        rw [this]
        omega) (by omega) rfl rfl (by omega) (by omega)
      have hcA : cA = kA 3 := Option.some.inj (fA.symm.trans (show s.vm.findClass _ = some (kA 3) from (hK.2 3 _ rfl).2))
      have hcC : comp = kA 1 := Option.some.inj (fC.symm.trans (show s.vm.findClass _ = some (kA 1) from (hK.2 1 _ rfl).2))
      subst hcA
      subst hcC
      generalize hF : Jvm.Free.Multi.fill (T.setVm vm₁) (kA 3) (kA 1) n.toNatClampNeg m'.toNatClampNeg (defaultValue .long) n.toNatClampNeg = FF at X' step
      have hTh : (T.setVm vm₁).heap = Hp := hT
      obtain ⟨f1, f2, -, -⟩ := Jvm.Free.Multi.fill_facts (T.setVm vm₁) (kA 3) (kA 1) n.toNatClampNeg m'.toNatClampNeg (defaultValue .long) n.toNatClampNeg
      rw [hF, hTh] at f1 f2
      have hold : ∀ x : Nat, x < Hp.size → FF.heap[x]? = Hp[x]? := fun x hx' => by
        have := Jvm.Free.Multi.fill_old (T.setVm vm₁) (kA 3) (kA 1) n.toNatClampNeg m'.toNatClampNeg (defaultValue .long) (a := x) (by rw [hTh]; exact hx') n.toNatClampNeg
        rw [hF, hTh] at this
        exact this
      have hrow : ∀ j : Nat, j < n.toNatClampNeg → FF.heap[Hp.size + 1 + j]? = some (arrV (kA 1) m'.toNatClampNeg (fun _ => .long 0)) := fun j hj => by
        have := Jvm.Free.Multi.fill_inner (T.setVm vm₁) (kA 3) (kA 1) n.toNatClampNeg m'.toNatClampNeg (defaultValue .long) n.toNatClampNeg j hj
        rw [hF, hTh] at this
        rw [this, ← arrV_new]
        rfl
      rw [rr_outer] at f2
      have hOK2 : rr_OK ro (Nn + 1 + n.toNatClampNeg) (rr_set (rr_setR hh (Nn + 1) n.toNatClampNeg (.inl (1, m'.toNatClampNeg, .inr (.inl (fun _ => 0))))) Nn (.inl (3, n.toNatClampNeg, .inr (.inr (.inr (.inr (fun i => if i < n.toNatClampNeg then some (Nn + 1 + i) else none))))))) := by
        refine ⟨fun k' hk' => ?_, fun k' y hk' hy => ?_⟩
        · by_cases z1 : k' = Nn
          · subst z1; exact ⟨_, rr_set_eq, rfl⟩
          · rw [rr_set_ne z1]
            rcases Nat.lt_or_ge k' Nn with z2 | z2
            · rw [rr_setR_out (Or.inl (by omega))]; exact hOK.1 k' z2
            · rw [rr_setR_in (by omega) (by omega)]; exact ⟨_, rfl, rfl⟩
        · rw [rr_set_ne (by omega), rr_setR_out (Or.inr (by omega))] at hy
          exact hOK.2 k' y (by omega) hy
      have hP2 := rr_P_intro (dC := dC) (dI := dI) (kA := kA) (ad := ad) (fm := fm) (Hp := FF.heap) hOK2 (fun k' x hk' hx' => by
        by_cases z1 : k' = Nn
        · rw [z1] at hx' ⊢
          rw [rr_set_eq] at hx'
          cases hx'
          show FF.heap[ad Nn]? = some (arrV (kA 3) n.toNatClampNeg (fun j => va_rf (Option.map ad (if j < n.toNatClampNeg then some (Nn + 1 + j) else none))))
          rw [had Nn (by omega), ← hsz, f2]
          refine congrArg (fun z => some (arrV (kA 3) n.toNatClampNeg z)) (funext fun j => ?_)
          by_cases z3 : j < n.toNatClampNeg
          · rw [if_pos z3, if_pos z3]
            show va_rf (some (Hp.size + 1 + j)) = va_rf (some (ad (Nn + 1 + j)))
            rw [had _ (by omega), hsz, show base + Nn + 1 + j = base + (Nn + 1 + j) by omega]
          · rw [if_neg z3, if_neg z3]; rfl
        · rw [rr_set_ne z1] at hx'
          rcases Nat.lt_or_ge k' Nn with z2 | z2
          · rw [rr_setR_out (Or.inl (by omega))] at hx'
            have hat := hPP k' _ (rr_ws_at z2 hx')
            exact hat.kept (hold _ hat.lt)
          · rw [rr_setR_in (by omega) (by omega)] at hx'
            cases hx'
            show FF.heap[ad k']? = some (arrV (kA 1) m'.toNatClampNeg (fun _ => .long 0))
            rw [had k' (by omega), ← hrow (k' - Nn - 1) (by omega), show base + k' = Hp.size + 1 + (k' - Nn - 1) by omega])
      have e1 : Nn - N0 + 1 + n.toNatClampNeg = Nn + 1 + n.toNatClampNeg - N0 := by omega
      have e2 : Ss - S0 + n.toNatClampNeg + n.toNatClampNeg * m'.toNatClampNeg = Ss + n.toNatClampNeg + n.toNatClampNeg * m'.toNatClampNeg - S0 := by omega
      rw [e1, e2] at X'
      obtain ⟨t, a1, b1⟩ := hnx _ hk1 FF.heap locs ls hP2 ⟨Nat.le_trans hS.1 (by rw [f1]; omega), fun q h1 h2 => (hold q (Nat.lt_of_lt_of_le h1 hS.1)).trans (hS.2.1 q h1 h2), hS.2.2⟩ hOK2 hL FF rfl X'
      refine ⟨t, step t ?_, b1⟩
      have e3 : T.heap.size = ad Nn := by rw [hT, hsz, had Nn (by omega)]
      rw [e3]
      exact a1
    · exact hex.elim
set_option maxHeartbeats 16000000 in
set_option maxRecDepth 100000 in
/-- System.arraycopy -/
theorem rr_W4 {idx a b : Nat} {z : Int} {k : Nat} {loc : rr_L} {st : List Value} {H : rr_H} {F : rr_O → Prop} {own mx kind : Nat} {ret : Option FieldType} {bt : ByteArray} {P : List Nat} {pc pcn : Nat} (ha : a = 9999)
    (hC : rr_Cx p s m args meth c kA ad fm base dC dI ro (rr_cn.getD own "") bt mx kind ret) (hN : H.1 ≤ 1000000) (hR1 : 1 ≤ R.frames) (hR2 : 64 ≤ R.locals) (hex : rr_ex (.invokestatic idx, a, b, z) k loc st H F) (hk1 : rr_nth P (k + 1) = some pcn) (hdec : decode bt pc = .ok (.invokestatic idx, pcn - pc)) (hl : rr_len (.invokestatic idx) = 0 ∨ pcn = pc + rr_len (.invokestatic idx)) (hck : rr_ckE own mx kind ret P pc (.invokestatic idx, a, b, z) = true)
    (hnext : ∀ k' loc' st' H', F (.inl (k', loc', st', H')) → (H'.1 - N0 ≤ R.cells ∧ H'.2.1 - S0 ≤ R.slots) ∧ ∀ pc', rr_nth P k' = some pc' → rr_G p l e R s m args below meth c Q kA ad fm base dC dI ro N0 S0 mx pc' loc' st' H') :
    rr_G p l e R s m args below meth c Q kA ad fm base dC dI ro N0 S0 mx pc loc st H := by
  obtain ⟨hx, hb, hml, hown, hts, hK, hE, hbs, had, hr, hlk, hin⟩ := hC
  have hfc : fm.category = 1 := hE.2.2.2.2.2.2
  obtain ⟨Nn, Ss, hh⟩ := H
  have hN : Nn ≤ 1000000 := hN
  subst ha
  obtain ⟨rfl, hd⟩ := rr_lenE hl hdec (L := 3) rfl (by decide)
  have hw : Cond.methodLink (rr_cn.getD own "") idx arraycopyName ∈ rr_gt := by
    have hc : (rr_ML.any fun q => Nat.beq q.1 own && Nat.beq q.2.1 idx && Nat.beq q.2.2.1 9999) = true := by
      simp only [rr_ckE, Bool.or_eq_true, Bool.and_eq_true] at hck
      rcases hck with (h | h) | h
      · cases h
      · simpa [List.any_eq_true] using h.2
      · exact absurd h.1.1 (by decide)
    obtain ⟨y, hy, hw⟩ := rr_mlE hc
    cases hy
    exact hw
  dsimp only [rr_ex, rr_ex0] at hex
  rw [show Nat.beq 9999 9999 = true from rfl] at hex
  dsimp only [cond] at hex
  split at hex
  · next n dp q1 sp q0 r =>
      obtain ⟨n0, f, n1, g, hq0, hq1, ⟨g1, g2, g3, g4, g5⟩, hv⟩ := hex
      obtain ⟨hcat, hv⟩ := rr_cond_lin hv
      have hcat := Nat.le_of_ble_eq_true hcat
      intro Hp locs ls hPP hS hOK hL
      have hlt0 := rr_OK_in hOK hE hq0 rfl
      have hlt1 := rr_OK_in hOK hE hq1 rfl
      refine va_copyi (ty := .int) hx hb (hml.trans hL.1.symm) hown (hts _ hw) (hts _ rr_wAN) (hts _ rr_wAS) (hts _ rr_wAI) hK hPP (rr_wsD hN had) hS q0 q1 0 0 (rr_ws_at hlt0 hq0) (rr_ws_at hlt1 hq1) rfl rfl rfl g1 g2 g3 g4 g5 (fun _ _ => rfl) hR1 (by
        rw [rr_cats hfc]
        have : nativeFrameWords "java/lang/System" "arraycopy" 5 + 11 + 8 ≤ 64 := by decide
        omega) hd (fun H1 locs1 hP1 _ hS1 => ?_)
      exact (hnext _ _ _ _ hv).2 _ hk1 H1 locs1 ls (by rw [← rr_ws_set hlt1]; exact hP1) hS1 (rr_OK_set hOK hlt1 rfl) hL
  · next n dp q1 sp q0 r =>
      obtain ⟨n0, f, n1, g, hq0, hq1, ⟨g1, g2, g3, g4, g5⟩, hv⟩ := hex
      obtain ⟨hcat, hv⟩ := rr_cond_lin hv
      have hcat := Nat.le_of_ble_eq_true hcat
      intro Hp locs ls hPP hS hOK hL
      have hlt0 := rr_OK_in hOK hE hq0 rfl
      have hlt1 := rr_OK_in hOK hE hq1 rfl
      refine va_copyl (ty := .long) hx hb (hml.trans hL.1.symm) hown (hts _ hw) (hts _ rr_wAN) (hts _ rr_wAS) (hts _ rr_wAI) hK hPP (rr_wsD hN had) hS q0 q1 1 1 (rr_ws_at hlt0 hq0) (rr_ws_at hlt1 hq1) rfl rfl rfl g1 g2 g3 g4 g5 (fun _ _ => rfl) hR1 (by
        rw [rr_cats hfc]
        have : nativeFrameWords "java/lang/System" "arraycopy" 5 + 11 + 8 ≤ 64 := by decide
        omega) hd (fun H1 locs1 hP1 _ hS1 => ?_)
      exact (hnext _ _ _ _ hv).2 _ hk1 H1 locs1 ls (by rw [← rr_ws_set hlt1]; exact hP1) hS1 (rr_OK_set hOK hlt1 rfl) hL
  · exact hex.elim
set_option maxHeartbeats 16000000 in
set_option maxRecDepth 100000 in
/-- Object's constructor -/
theorem rr_W5 {idx a b : Nat} {z : Int} {k : Nat} {loc : rr_L} {st : List Value} {H : rr_H} {F : rr_O → Prop} {own mx kind : Nat} {ret : Option FieldType} {bt : ByteArray} {P : List Nat} {pc pcn : Nat} (ha : a = 9998)
    (hC : rr_Cx p s m args meth c kA ad fm base dC dI ro (rr_cn.getD own "") bt mx kind ret) (hN : H.1 ≤ 1000000) (hR1 : 1 ≤ R.frames) (hR2 : 64 ≤ R.locals) (hex : rr_ex (.invokespecial idx, a, b, z) k loc st H F) (hk1 : rr_nth P (k + 1) = some pcn) (hdec : decode bt pc = .ok (.invokespecial idx, pcn - pc)) (hl : rr_len (.invokespecial idx) = 0 ∨ pcn = pc + rr_len (.invokespecial idx)) (hck : rr_ckE own mx kind ret P pc (.invokespecial idx, a, b, z) = true)
    (hnext : ∀ k' loc' st' H', F (.inl (k', loc', st', H')) → (H'.1 - N0 ≤ R.cells ∧ H'.2.1 - S0 ≤ R.slots) ∧ ∀ pc', rr_nth P k' = some pc' → rr_G p l e R s m args below meth c Q kA ad fm base dC dI ro N0 S0 mx pc' loc' st' H') :
    rr_G p l e R s m args below meth c Q kA ad fm base dC dI ro N0 S0 mx pc loc st H := by
  obtain ⟨hx, hb, hml, hown, hts, hK, hE, hbs, had, hr, hlk, hin⟩ := hC
  have hfc : fm.category = 1 := hE.2.2.2.2.2.2
  obtain ⟨Nn, Ss, hh⟩ := H
  have hN : Nn ≤ 1000000 := hN
  subst ha
  obtain ⟨rfl, hd⟩ := rr_lenE hl hdec (L := 3) rfl (by decide)
  have hc : Nat.beq b 1 = true ∧ (rr_ML.any fun q => Nat.beq q.1 own && Nat.beq q.2.1 idx && Nat.beq q.2.2.1 9998) = true := by
    simp only [rr_ckE, Bool.or_eq_true, Bool.and_eq_true] at hck
    rcases hck with (h | h) | h
    · cases h
    · exact ⟨h.1.2, h.2⟩
    · exact absurd h.1.1 (by decide)
  obtain ⟨hb1, hc⟩ := hc
  have hb1 := Nat.eq_of_beq_eq_true hb1
  subst hb1
  obtain ⟨y, hy, hw⟩ := rr_mlE hc
  cases hy
  dsimp only [rr_ex, rr_ex0] at hex
  cases st with
  | nil => exact hex.elim
  | cons v r =>
    cases v with
    | ref q =>
      have hex : cond (Nat.ble (rr_cat r) 8) (F (.inl (k + 1, loc, r, (Nn, Ss, hh)))) False := hex
      obtain ⟨hcat, hv⟩ := rr_cond_lin hex
      have hcat := Nat.le_of_ble_eq_true hcat
      intro Hp locs ls hPP hS hOK hL
      refine W.objInit hx hb hown (hts _ hw) (hts _ rr_wOI) (hts _ rr_wOC) (a := ad q) rfl (hL.1.trans hml.symm) rfl hd hR1 ?_ ((hnext _ _ _ _ hv).2 _ hk1 Hp locs ls hPP hS hOK hL)
      have h8 := lv_room (m := m) (pc := pc) (ls := ls) (rest := (Value.ref (ad q)) :: r.map (rr_tv ad fm)) (st := r.map (rr_tv ad fm)) (by rw [rr_cats hfc]; exact hcat)
      show 2 * (F0 m pc ls ((Value.ref (ad q)) :: r.map (rr_tv ad fm))).monitorRoom + _ + 12 ≤ R.locals
      omega
    | _ => exact hex.elim
set_option maxHeartbeats 16000000 in
set_option maxRecDepth 100000 in
theorem rr_W6 {idx a b : Nat} {z : Int} {k : Nat} {loc : rr_L} {st : List Value} {H : rr_H} {F : rr_O → Prop} {own mx kind : Nat} {ret : Option FieldType} {bt : ByteArray} {P : List Nat} {pc pcn : Nat} (ha : a = 9997)
    (hC : rr_Cx p s m args meth c kA ad fm base dC dI ro (rr_cn.getD own "") bt mx kind ret) (hN : H.1 ≤ 1000000) (hR1 : 1 ≤ R.frames) (hR2 : 64 ≤ R.locals) (hex : rr_ex (.invokestatic idx, a, b, z) k loc st H F) (hk1 : rr_nth P (k + 1) = some pcn) (hdec : decode bt pc = .ok (.invokestatic idx, pcn - pc)) (hl : rr_len (.invokestatic idx) = 0 ∨ pcn = pc + rr_len (.invokestatic idx)) (hck : rr_ckE own mx kind ret P pc (.invokestatic idx, a, b, z) = true)
    (hnext : ∀ k' loc' st' H', F (.inl (k', loc', st', H')) → (H'.1 - N0 ≤ R.cells ∧ H'.2.1 - S0 ≤ R.slots) ∧ ∀ pc', rr_nth P k' = some pc' → rr_G p l e R s m args below meth c Q kA ad fm base dC dI ro N0 S0 mx pc' loc' st' H') :
    rr_G p l e R s m args below meth c Q kA ad fm base dC dI ro N0 S0 mx pc loc st H := by
  obtain ⟨hx, hb, hml, hown, hts, hK, hE, hbs, had, hr, hlk, hin⟩ := hC
  have hfc : fm.category = 1 := hE.2.2.2.2.2.2
  obtain ⟨Nn, Ss, hh⟩ := H
  have hN : Nn ≤ 1000000 := hN
  subst ha
  obtain ⟨rfl, hd⟩ := rr_lenE hl hdec (L := 3) rfl (by decide)
  have hw : Cond.methodLink (rr_cn.getD own "") idx Lib.MathLoose.max_long.x ∈ rr_gt := by
    have hc : (rr_ML.any fun q => Nat.beq q.1 own && Nat.beq q.2.1 idx && Nat.beq q.2.2.1 9997) = true := by
      simp only [rr_ckE, Bool.or_eq_true, Bool.and_eq_true] at hck
      rcases hck with (h | h) | h
      · cases h
      · simpa [List.any_eq_true] using h.2
      · exact absurd h.1.1 (by decide)
    obtain ⟨y, hy, hw⟩ := rr_mlE hc
    cases hy
    exact hw
  dsimp only [rr_ex, rr_ex0] at hex
  rw [show Nat.beq 9997 9999 = false from rfl, show Nat.beq 9997 9997 = true from rfl] at hex
  dsimp only [cond] at hex
  split at hex
  · next y x r =>
    obtain ⟨hcat, hv⟩ := rr_cond_lin hex
    have hcat := Nat.le_of_ble_eq_true hcat
    intro Hp locs ls hPP hS hOK hL
    have hnx := hnext _ _ _ _ hv
    exact va_mmax_long hx hb (hml.trans hL.1.symm) hown (hts _ hw) (hts _ rr_wMs9997) (hts _ rr_wMi) (hts _ rr_wMc9997) hR1 (by
      rw [rr_cats hfc]
      omega) hnx.1.1 hnx.1.2 hd (hnx.2 _ hk1 Hp locs ls hPP hS hOK hL)
  · exact hex.elim
set_option maxHeartbeats 16000000 in
set_option maxRecDepth 100000 in
theorem rr_W7 {idx a b : Nat} {z : Int} {k : Nat} {loc : rr_L} {st : List Value} {H : rr_H} {F : rr_O → Prop} {own mx kind : Nat} {ret : Option FieldType} {bt : ByteArray} {P : List Nat} {pc pcn : Nat} (ha : a = 9996)
    (hC : rr_Cx p s m args meth c kA ad fm base dC dI ro (rr_cn.getD own "") bt mx kind ret) (hN : H.1 ≤ 1000000) (hR1 : 1 ≤ R.frames) (hR2 : 64 ≤ R.locals) (hex : rr_ex (.invokestatic idx, a, b, z) k loc st H F) (hk1 : rr_nth P (k + 1) = some pcn) (hdec : decode bt pc = .ok (.invokestatic idx, pcn - pc)) (hl : rr_len (.invokestatic idx) = 0 ∨ pcn = pc + rr_len (.invokestatic idx)) (hck : rr_ckE own mx kind ret P pc (.invokestatic idx, a, b, z) = true)
    (hnext : ∀ k' loc' st' H', F (.inl (k', loc', st', H')) → (H'.1 - N0 ≤ R.cells ∧ H'.2.1 - S0 ≤ R.slots) ∧ ∀ pc', rr_nth P k' = some pc' → rr_G p l e R s m args below meth c Q kA ad fm base dC dI ro N0 S0 mx pc' loc' st' H') :
    rr_G p l e R s m args below meth c Q kA ad fm base dC dI ro N0 S0 mx pc loc st H := by
  obtain ⟨hx, hb, hml, hown, hts, hK, hE, hbs, had, hr, hlk, hin⟩ := hC
  have hfc : fm.category = 1 := hE.2.2.2.2.2.2
  obtain ⟨Nn, Ss, hh⟩ := H
  have hN : Nn ≤ 1000000 := hN
  subst ha
  obtain ⟨rfl, hd⟩ := rr_lenE hl hdec (L := 3) rfl (by decide)
  have hw : Cond.methodLink (rr_cn.getD own "") idx Lib.MathLoose.abs_long.x ∈ rr_gt := by
    have hc : (rr_ML.any fun q => Nat.beq q.1 own && Nat.beq q.2.1 idx && Nat.beq q.2.2.1 9996) = true := by
      simp only [rr_ckE, Bool.or_eq_true, Bool.and_eq_true] at hck
      rcases hck with (h | h) | h
      · cases h
      · simpa [List.any_eq_true] using h.2
      · exact absurd h.1.1 (by decide)
    obtain ⟨y, hy, hw⟩ := rr_mlE hc
    cases hy
    exact hw
  dsimp only [rr_ex, rr_ex0] at hex
  rw [show Nat.beq 9996 9999 = false from rfl, show Nat.beq 9996 9997 = false from rfl, show Nat.beq 9996 9996 = true from rfl] at hex
  dsimp only [cond] at hex
  split at hex
  · next x r =>
    obtain ⟨hcat, hv⟩ := rr_cond_lin hex
    have hcat := Nat.le_of_ble_eq_true hcat
    intro Hp locs ls hPP hS hOK hL
    have hnx := hnext _ _ _ _ hv
    exact va_mabs_long hx hb (hml.trans hL.1.symm) hown (hts _ hw) (hts _ rr_wMs9996) (hts _ rr_wMi) (hts _ rr_wMc9996) hR1 (by
      rw [rr_cats hfc]
      omega) hnx.1.1 hnx.1.2 hd (hnx.2 _ hk1 Hp locs ls hPP hS hOK hL)
  · exact hex.elim
end RO
