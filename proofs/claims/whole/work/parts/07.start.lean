/-! THE CLAIM OUT OF ONE WALK OF THE LAW'S BODY. Your part is whole_start (and what it stands on); all else here is the same for every law, but numbers. -/
def R_law : String := "GrudgeDeskLaw"
def lw_P (b : Addr) (xs : List Int32) (args : Array Value) (s : State) : Prop := args = #[.ref b] ∧ s.IntsAt b xs ∧ xs.length ≤ 2560 ∧ (Jvm.Cond.and given_1 narrow_1).before args s = true
def lw_Q (_ : Array Value) (s : State) (o : Outcome) (t : State) : Prop := o = .returned (some (.int 1)) ∧ Framed s o t [] 600000 7302250
def lw_Z (below : List Frame) (a : Array Value) (s : State) : State → Prop := fun t => ∃ o, t.status = .running ∧ Ended t below o ∧ lw_Q a s o t
/-- the law's own end, with 1 on the stack, nothing written that was there before, its room as the claim has it -/
theorem lw_ret {p : Program} {l : Launch} {e : Env} {s : State} {m : MethodId} {below : List Frame} {meth : Method} {c : Code} {b : Nat} (hx : p.tables.exec = Jvm.exec) (hb : c.code = code) (hr : meth.sig.returnType = ret) (hlocks : meth.locks = false) {pc : Nat} {H : Heap} {ls : Array Slot} (hdg : decode code pc = .ok (.ireturn, 1)) : W p l e room_1 s m #[Value.ref b] below meth c H [] 600000 7302250 (lw_Z below #[Value.ref b] s) (F0 m pc ls [.int 1]) := by
  intro T hT X
  obtain ⟨fs, hret, hrun, hended, hW, hframe⟩ := X.leave (v := some (.int 1)) (hlocks := hlocks) (fun h => by rw [hr] at h; cases h)
  have hmeth' : T.vm.method? m = some meth := X.method'
  refine ⟨T.setFrames fs, ?_, .returned (some (.int 1)), hrun, hended, rfl, ⟨_, rfl⟩, hW, hframe⟩
  jvm_step X.here [X.here.top, hx, hb, hdg, hmeth', hr, ret, narrow_b1]
  (try refine ⟨rfl, ?_⟩); (try refine ⟨rfl, ?_⟩)
  first | (intro acts; rw [hret _ acts rfl rfl rfl]) | rw [hret _ _ rfl rfl rfl]
  exact Steps.refl _
/-- what holds at the law's entry: the machine, the code, the tables' words (any of lw_tbl by 'hts w (by decide +kernel)'), the script of L ints xs at the cell b, what the Statement gives of the start (any of its parts by flat_of_before) -/
def lw_At (p : Program) (s : State) (m : MethodId) (meth : Method) (c : Code) (b L : Nat) (xs : Nat → Int32) : Prop :=
  p.tables.exec = Jvm.exec ∧ c.code = code ∧ meth.sig.returnType = ret ∧ c.maxLocals = 4 ∧ s.vm.findClass R_law = some m.cls ∧ (∀ w ∈ lw_tbl, w.before #[Value.ref b] s = true) ∧ va_X b L xs s s.heap ∧ b < s.heap.size ∧ meth.locks = false ∧ (Jvm.Cond.and given_1 narrow_1).before #[Value.ref b] s = true
/-! The start: what the Statement gives of statics, strings and the script, as read-only cells of the small machine; the claim out of one run of it. -/
def rr_two : List Int32 := [1, 2, 0, 0, 0]
def rr_three : List Int32 := [1, 6, 0, 0, 0, 2, 5, 0, 0, 0, 3, 4, 0, 0, 0, 1, 2, 4, 0, 0, 3, 5, 6, 0, 0]
def rr_four : List Int32 := [1, 14, 0, 0, 0, 2, 13, 0, 0, 0, 4, 11, 0, 0, 0, 7, 8, 0, 0, 0, 3, 12, 0, 0, 0, 5, 10, 0, 0, 0, 6, 9, 0, 0, 0, 1, 2, 12, 0, 0, 1, 4, 10, 0, 0, 1, 6, 8, 0, 0, 2, 4, 9, 0, 0, 2, 5, 8, 0, 0, 3, 4, 8, 0, 0, 3, 13, 14, 0, 0, 5, 11, 14, 0, 0, 6, 11, 13, 0, 0, 7, 9, 14, 0, 0, 7, 10, 13, 0, 0, 7, 11, 12, 0, 0, 1, 2, 4, 8, 0, 7, 11, 13, 14, 0, 1, 6, 10, 13, 0, 1, 6, 11, 12, 0, 1, 7, 10, 12, 0, 2, 5, 9, 14, 0, 2, 5, 11, 12, 0, 2, 7, 9, 12, 0, 3, 4, 9, 14, 0, 3, 4, 10, 13, 0, 4, 7, 9, 10, 0, 3, 5, 8, 14, 0, 3, 6, 8, 13, 0, 5, 6, 8, 11, 0, 1, 1, 6, 10, 12, 2, 2, 5, 9, 12, 3, 4, 4, 9, 10, 3, 5, 6, 8, 8, 3, 5, 9, 14, 14, 3, 6, 10, 13, 13, 5, 6, 11, 11, 12, 7, 7, 9, 10, 12]
def rr_fac : List Int32 := [1, 1, 2, 6, 24]
def rr_slen : List Nat := [6, 5, 4, 4, 4, 4]
def rr_sby : List (List Int32) := [[112, 101, 111, 112, 108, 101], [119, 111, 114, 116, 104], [109, 111, 114, 101], [100, 117, 97, 108], [122, 101, 114, 111], [115, 119, 97, 112]]
def rr_six : List Nat := [87, 93, 95, 97, 99, 101]
/-- the read-only cells -/
def rr_ro (L : Nat) (xs : Nat → Int32) (k : Nat) : Option rr_E := match k with
  | 1000000 => some (.inl (8, 5, .inl (fun j => rr_two.getD j 0)))
  | 1000001 => some (.inl (8, 25, .inl (fun j => rr_three.getD j 0)))
  | 1000002 => some (.inl (8, 205, .inl (fun j => rr_four.getD j 0)))
  | 1000003 => some (.inl (8, 5, .inl (fun j => rr_fac.getD j 0)))
  | 1000010 => some (.inr (20, [.ref 1000020, .int 0]))
  | 1000011 => some (.inr (20, [.ref 1000021, .int 0]))
  | 1000012 => some (.inr (20, [.ref 1000022, .int 0]))
  | 1000013 => some (.inr (20, [.ref 1000023, .int 0]))
  | 1000014 => some (.inr (20, [.ref 1000024, .int 0]))
  | 1000015 => some (.inr (20, [.ref 1000025, .int 0]))
  | 1000020 => some (.inl (9, 6, .inl (fun j => (rr_sby.getD 0 []).getD j 0)))
  | 1000021 => some (.inl (9, 5, .inl (fun j => (rr_sby.getD 1 []).getD j 0)))
  | 1000022 => some (.inl (9, 4, .inl (fun j => (rr_sby.getD 2 []).getD j 0)))
  | 1000023 => some (.inl (9, 4, .inl (fun j => (rr_sby.getD 3 []).getD j 0)))
  | 1000024 => some (.inl (9, 4, .inl (fun j => (rr_sby.getD 4 []).getD j 0)))
  | 1000025 => some (.inl (9, 4, .inl (fun j => (rr_sby.getD 5 []).getD j 0)))
  | 1000060 => some (.inl (8, L, .inl xs))
  | _ => none
def rr_ad0 (base t0 t1 t2 t3 b : Nat) (aK aV : Nat → Nat) (k : Nat) : Nat := if k < 1000000 then base + k else if k = 1000000 then t0 else if k = 1000001 then t1 else if k = 1000002 then t2 else if k = 1000003 then t3 else if k = 1000060 then b else if k < 1000020 then aK (k - 1000010) else aV (k - 1000020)
def rr_fl : List Cond := flatC (Jvm.Cond.and given_1 narrow_1)
def rr_ck4 (C n : String) (l : List Int32) (p : Nat) : Bool := decide (Cond.arrayOf (.static C n "[I") .int ∈ rr_fl) && decide (Cond.eq (.length (.static C n "[I")) (.int (Int32.ofNat l.length)) ∈ rr_fl) && decide ((List.range l.length).map (fun j => Cond.eq (.elem (.static C n "[I") (.int (Int32.ofNat j))) (.int (l.getD j 0))) = (rr_fl.drop p).take l.length)
theorem rr_a0 : rr_ck4 "GrudgeDesk$Balanced" "OF_TWO" rr_two 12 = true := by decide +kernel
theorem rr_a1 : rr_ck4 "GrudgeDesk$Balanced" "OF_THREE" rr_three 20 = true := by decide +kernel
theorem rr_a2 : rr_ck4 "GrudgeDesk$Balanced" "OF_FOUR" rr_four 48 = true := by decide +kernel
theorem rr_a3 : rr_ck4 "GrudgeDesk$Kinds" "FACTORIALS" rr_fac 256 = true := by decide +kernel
def rr_st (i : Nat) : Term := .string "GrudgeDesk$Script" (rr_six.getD i 0)
def rr_ck5 (i : Nat) : Bool := decide (Cond.exactly (rr_st i) "java/lang/String" ∈ rr_fl) && decide (Cond.eq (.field (rr_st i) "java/lang/String" "coder" "B") (.int 0) ∈ rr_fl) && decide (Cond.arrayOf (.field (rr_st i) "java/lang/String" "value" "[B") .byte ∈ rr_fl) && decide (Cond.eq (.length (.field (rr_st i) "java/lang/String" "value" "[B")) (.int (Int32.ofNat (rr_slen.getD i 0))) ∈ rr_fl) &&
  (List.range (rr_slen.getD i 0)).all (fun j => decide (Cond.eq (.elem (.field (rr_st i) "java/lang/String" "value" "[B") (.int (Int32.ofNat j))) (.int ((rr_sby.getD i []).getD j 0)) ∈ rr_fl)) && (List.range 6).all (fun j => decide (i = j) || decide (Cond.not (Cond.eq (rr_st i) (rr_st j)) ∈ rr_fl) || decide (Cond.not (Cond.eq (rr_st j) (rr_st i)) ∈ rr_fl)) && decide (Cond.stringRef "GrudgeDesk$Script" (rr_six.getD i 0) (rr_txt.getD i "") ∈ lw_tbl)
theorem rr_a5 : (List.range 6).all rr_ck5 = true := by decide +kernel
theorem rr_a6 : Cond.eq (.static "java/lang/String" "COMPACT_STRINGS" "Z") (.int 1) ∈ rr_fl ∧ Cond.isRef (.static "jdk/internal/util/Preconditions" "SIOOBE_FORMATTER" "Ljava/util/function/BiFunction;") ∈ rr_fl := by decide +kernel
theorem rr_a7 : (rr_stt.all fun q => decide (Cond.laysStatic q.1 q.2.1 q.2.2 ∈ lw_tbl) && decide (Cond.initialized q.1 ∈ lw_tbl)) = true := by decide +kernel
theorem rr_a8 : (rr_nest.all fun w => decide (w ∈ lw_tbl)) = true := by decide +kernel
theorem rr_a9 : Cond.fieldLinkNest "GrudgeDesk$Rows" 54 "GrudgeDesk$Shares" "n" "I" "GrudgeDesk" ∈ lw_tbl ∧ Cond.arrayOver (.array .long) ∈ lw_tbl := by decide +kernel
theorem rr_a10 : (rr_STR.all fun q => decide (q.1 = 5) && decide (q.2.2 < 6) && decide (q.2.1 = rr_six.getD q.2.2 0)) = true := by decide +kernel
theorem rr_a11 : rr_cn.getD 5 "" = "GrudgeDesk$Script" := by decide +kernel
theorem rr_hasRoom {s : State} {pl : Platform} {r r' : Room} (h1 : r.frames ≤ r'.frames) (h2 : r.cells ≤ r'.cells) (h3 : r.slots ≤ r'.slots) (h4 : r.locals ≤ r'.locals) (h : s.hasRoom pl r' = true) : s.hasRoom pl r = true := by
  simp only [State.hasRoom, Bool.and_eq_true, decide_eq_true_eq] at h ⊢
  obtain ⟨⟨⟨⟨a1, a2, a3, a4, a5, a6⟩, a7⟩, a8⟩, a9⟩ := id h
  refine ⟨⟨⟨⟨?_, ?_, ?_, ?_, ?_, ?_⟩, ?_⟩, ?_⟩, a9⟩ <;> first | omega | exact a6
theorem rr_romT {C n : String} {l : List Int32} {b : Nat} {s : State} (hs : ∀ c ∈ rr_fl, c.before #[Value.ref b] s = true) {p : Nat} (hc : rr_ck4 C n l p = true) (hl : l.length < 2 ^ 31) :
    ∃ t : Nat, (Term.static C n "[I").eval #[Value.ref b] s none [] s = some (.ref t) ∧ va_T .int t l.length (fun j => .int (l.getD j 0)) (rr_A s.heap.size) s s.heap := by
  simp only [rr_ck4, Bool.and_eq_true, decide_eq_true_eq, List.all_eq_true, List.mem_range] at hc
  obtain ⟨⟨h1, h2⟩, h3⟩ := hc
  exact va_Tof hl (hs _ h1) (va_eqt (hs _ h2)) (fun j hj => va_eqt (hs _ (va_run h3 j hj |> fun q => q))) (fun a ha => Nat.not_le.mpr ha)
set_option maxHeartbeats 4000000 in
set_option maxRecDepth 100000 in
/-- THE CLAIM'S WALK OUT OF ONE RUN OF THE SMALL MACHINE (open: the tables' validity V, and the run itself) -/
theorem whole_open (V : rr_Valid) (D : Nat) (hD : D ≤ 1000) (hRun : ∀ (L : Nat) (xs : Nat → Int32), L ≤ 2560 → rr_Calls D j_Law_law [.ref 1000060] (0, 0, rr_ro L xs) (fun r R => r = some (.int 1) ∧ R.1 ≤ 600000 ∧ R.2.1 ≤ 7302250))
    {p : Program} {e : Env} {s : State} {m : MethodId} {below : List Frame} {meth : Method} {c : Code} (l : Launch) {b L : Nat} {xs : Nat → Int32} (hL : L ≤ 2560) (C0 : lw_At p s m meth c b L xs) : W p l e room_1 s m #[Value.ref b] below meth c s.heap [] 0 0 (lw_Z below #[Value.ref b] s) (entryFrame m ([Value.ref b] : List Value).toArray 4) := by
  obtain ⟨hx, hb, hr, hml, hown, hts, hX, hbl, hlocks, hgv⟩ := id C0
  have hs : ∀ c ∈ rr_fl, c.before #[Value.ref b] s = true := flat_of_before _ hgv
  have hA : ∀ a : Nat, a < s.heap.size → ¬ rr_A s.heap.size a := fun a ha => Nat.not_le.mpr ha
  -- classes
  have hin : ∀ {a : Nat} {r : vw_C}, vwCl[a]? = some r → ∀ w ∈ u_ws r.1 r.2.1 r.2.2, w ∈ lw_tbl := fun hr w hw => (List.mem_filter.mp (rr_inC hr w hw)).1
  have hcls : ∀ k : Nat, ∃ q : ClassId × (Nat → Nat), ∀ r, vwCl[k]? = some r → u_Kn s r.1 r.2.1 r.2.2 q.1 q.2 := by
    intro k
    cases hk : vwCl[k]? with
    | none => exact ⟨(0, fun _ => 0), fun r hr => by cases hr⟩
    | some r =>
      have ha8 : k < 8 := by
        have := (List.getElem?_eq_some_iff.mp hk).1
        simpa [vwCl] using this
      have hgd : vwCl.getD k (RX2, TX2, 2) = r := by rw [List.getD_eq_getElem?_getD, hk]; rfl
      have hi := (rr_insOK k ha8).1
      rw [hgd] at hi
      obtain ⟨cC, iS, hkn⟩ := u_known (C := r.1) (T := r.2.1) (N := r.2.2) (n := r.2.2) hts (hin hk) (hts _ hi)
      exact ⟨(cC, iS), fun r' hr' => by cases hr'; exact hkn⟩
  obtain ⟨dd, hdd⟩ := Classical.axiomOfChoice hcls
  -- array classes
  have harr : ∀ ty : FieldType, Cond.arrayClass ty ∈ rr_gt → ∃ cA : ClassId, ArrOfT s cA ty ∧ s.vm.findClass ("[" ++ ty.toString) = some cA := by
    intro ty hw
    obtain ⟨cA, kk, comp, h1, h2, h3⟩ := Cond.arrayClass_spec (hts _ (List.mem_filter.mp hw).1)
    exact ⟨cA, fun n z => ⟨fun k h => (by cases h), kk, h2, comp, h3⟩, h1⟩
  obtain ⟨c0, hc0, hf0⟩ := harr .int rr_wCI
  obtain ⟨c1, hc1, hf1⟩ := harr .long rr_wCL
  obtain ⟨c2, hc2, hf2⟩ := harr .boolean rr_wCZ
  have hov : (Cond.arrayOver (.array .long)).before #[Value.ref b] s = true := hts _ rr_a9.2
  obtain ⟨comp3, c3, k3, -, -, hk3, hkd3, hf3⟩ := Jvm.Stand.arrayOver_specB hov
  have hc3 : ArrOfT s c3 (.array .long) := fun n z => ⟨fun k h => (by cases h), k3, hk3, comp3, hkd3⟩
  obtain ⟨kA, hkA⟩ : ∃ kA : Nat → ClassId, kA 0 = c0 ∧ kA 1 = c1 ∧ kA 2 = c2 ∧ kA 3 = c3 := ⟨fun i => if i = 0 then c0 else if i = 1 then c1 else if i = 2 then c2 else c3, rfl, rfl, rfl, rfl⟩
  have hK : va_K (fun k => (dd k).1, fun k => (dd k).2) vwCl (rr_tys kA) s := by
    refine ⟨fun k q hq => hdd k q hq, fun k q hq => ?_⟩
    obtain ⟨e0, e1, e2, e3⟩ := hkA
    match k, hq with
    | 0, hq => cases hq; rw [e0]; exact ⟨hc0, hf0⟩
    | 1, hq => cases hq; rw [e1]; exact ⟨hc1, hf1⟩
    | 2, hq => cases hq; rw [e2]; exact ⟨hc2, hf2⟩
    | 3, hq => cases hq; rw [e3]; exact ⟨hc3, hf3⟩
    | k + 4, hq => cases hq
  -- statics, strings
  obtain ⟨t0, ht0, hT0⟩ := rr_romT hs rr_a0 (by decide)
  obtain ⟨t1, ht1, hT1⟩ := rr_romT hs rr_a1 (by decide)
  obtain ⟨t2, ht2, hT2⟩ := rr_romT hs rr_a2 (by decide)
  obtain ⟨t3, ht3, hT3⟩ := rr_romT hs rr_a3 (by decide)
  have h5 : ∀ i, i < 6 → rr_ck5 i = true := fun i hi => List.all_eq_true.mp rr_a5 i (List.mem_range.mpr hi)
  simp only [rr_ck5, Bool.and_eq_true, Bool.or_eq_true, decide_eq_true_eq, List.all_eq_true, List.mem_range] at h5
  obtain ⟨aK, aV, hSS, hSe⟩ := vk_Sof (args := #[Value.ref b]) (s := s) (N := 6) (tm := rr_st) (len := rr_slen) (byt := rr_sby) (A := rr_A s.heap.size) (by decide) (fun i hi => hs _ (h5 i hi).1.1.1.1.1.1) (fun i hi => hs _ (h5 i hi).1.1.1.1.1.2) (fun i hi => hs _ (h5 i hi).1.1.1.1.2) (fun i hi => hs _ (h5 i hi).1.1.1.2) (fun i hi j hj => hs _ ((h5 i hi).1.1.2 j hj)) (fun i j hi hj hne => by
    rcases (h5 i hi).1.2 j hj with (h | h) | h
    · exact absurd h hne
    · exact Or.inl (hs _ h)
    · exact Or.inr (hs _ h)) hA
  obtain ⟨fm, hfm, hfz⟩ : ∃ fm : Value, fm.category = 1 ∧ va_Z "jdk/internal/util/Preconditions" "SIOOBE_FORMATTER" "Ljava/util/function/BiFunction;" fm (rr_A s.heap.size) s s.heap := by
    have h7 := List.all_eq_true.mp rr_a7 ("jdk/internal/util/Preconditions", "SIOOBE_FORMATTER", "Ljava/util/function/BiFunction;") (by decide)
    simp only [Bool.and_eq_true, decide_eq_true_eq] at h7
    rcases va_Zqof (hts _ h7.1) (hts _ h7.2) (hs _ rr_a6.2) hA with h | ⟨t, h⟩
    · exact ⟨.null, rfl, h⟩
    · exact ⟨.ref t, rfl, h⟩
  obtain ⟨ad, had⟩ : ∃ ad, ad = rr_ad0 s.heap.size t0 t1 t2 t3 b aK aV := ⟨_, rfl⟩
  have had0 : ∀ k, k < 1000000 → ad k = s.heap.size + k := fun k hk => by rw [had]; exact if_pos hk
  have had1 : ad 1000000 = t0 ∧ ad 1000001 = t1 ∧ ad 1000002 = t2 ∧ ad 1000003 = t3 ∧ ad 1000060 = b := by subst had; exact ⟨rfl, rfl, rfl, rfl, rfl⟩
  have hadK : ∀ i, i < 6 → ad (1000010 + i) = aK i := fun i hi => by
    subst had
    match i, hi with
    | 0, _ => rfl
    | 1, _ => rfl
    | 2, _ => rfl
    | 3, _ => rfl
    | 4, _ => rfl
    | 5, _ => rfl
  have hadV : ∀ i, i < 6 → ad (1000020 + i) = aV i := fun i hi => by
    subst had
    match i, hi with
    | 0, _ => rfl
    | 1, _ => rfl
    | 2, _ => rfl
    | 3, _ => rfl
    | 4, _ => rfl
    | 5, _ => rfl
  have hstr : ∀ i, i < 6 → rr_rom ad s.heap.size (1000010 + i) (.inr (20, [.ref (1000020 + i), .int 0])) s s.heap := fun i hi => by
    obtain ⟨g1, g2, g3, -⟩ := hSS.1 i hi
    exact ⟨1000020 + i, rfl, by rw [hadK i hi]; exact g1, by rw [hadK i hi, hadV i hi]; exact g3, by rw [hadK i hi]; exact g2⟩
  have hbyt : ∀ i, i < 6 → rr_rom ad s.heap.size (1000020 + i) (.inl (9, rr_slen.getD i 0, .inl (fun j => (rr_sby.getD i []).getD j 0))) s s.heap := fun i hi => by
    show va_T .byte (ad (1000020 + i)) _ _ _ _ _
    rw [hadV i hi]
    exact (hSS.1 i hi).2.2.2
  have hscr : rr_rom ad s.heap.size 1000060 (.inl (8, L, .inl xs)) s s.heap := by
    show va_T .int (ad 1000060) L _ _ _ _
    rw [had1.2.2.2.2]
    obtain ⟨scr, g1, g2, g3, g4, g5⟩ := hX
    exact ⟨scr, g1, g2, g3, Nat.le_of_eq g4.symm, by rw [g4], g5, Nat.not_le.mpr hbl⟩
  have hEV : rr_EV (rr_ro L xs) ad fm s.heap.size s s.heap := by
    refine ⟨fun k c hc => ?_, fun i C n d v hi hv => ?_, fun q hq => ?_, fun w hw => ?_, va_Nw.of rfl (hts _ rr_a9.1), hov, hfm⟩
    · unfold rr_ro at hc
      split at hc
      · cases hc
        refine ⟨rfl, ?_⟩
        show va_T .int (ad 1000000) _ _ _ _ _
        rw [had1.1]; exact hT0
      · cases hc
        refine ⟨rfl, ?_⟩
        show va_T .int (ad 1000001) _ _ _ _ _
        rw [had1.2.1]; exact hT1
      · cases hc
        refine ⟨rfl, ?_⟩
        show va_T .int (ad 1000002) _ _ _ _ _
        rw [had1.2.2.1]; exact hT2
      · cases hc
        refine ⟨rfl, ?_⟩
        show va_T .int (ad 1000003) _ _ _ _ _
        rw [had1.2.2.2.1]; exact hT3
      · cases hc; exact ⟨rfl, hstr 0 (by decide)⟩
      · cases hc; exact ⟨rfl, hstr 1 (by decide)⟩
      · cases hc; exact ⟨rfl, hstr 2 (by decide)⟩
      · cases hc; exact ⟨rfl, hstr 3 (by decide)⟩
      · cases hc; exact ⟨rfl, hstr 4 (by decide)⟩
      · cases hc; exact ⟨rfl, hstr 5 (by decide)⟩
      · cases hc; exact ⟨rfl, hbyt 0 (by decide)⟩
      · cases hc; exact ⟨rfl, hbyt 1 (by decide)⟩
      · cases hc; exact ⟨rfl, hbyt 2 (by decide)⟩
      · cases hc; exact ⟨rfl, hbyt 3 (by decide)⟩
      · cases hc; exact ⟨rfl, hbyt 4 (by decide)⟩
      · cases hc; exact ⟨rfl, hbyt 5 (by decide)⟩
      · cases hc; exact ⟨rfl, hscr⟩
      · cases hc
    · have h7 := List.all_eq_true.mp rr_a7 (C, n, d) (List.mem_of_getElem? (by rw [← rr_nth_get]; exact hi))
      simp only [Bool.and_eq_true, decide_eq_true_eq] at h7
      match i, hi, hv with
      | 0, hi, hv => cases hi; cases hv; rw [rr_tv_ref, had1.1]; exact va_Zof (hts _ h7.1) (hts _ h7.2) ht0 hA
      | 1, hi, hv => cases hi; cases hv; rw [rr_tv_ref, had1.2.1]; exact va_Zof (hts _ h7.1) (hts _ h7.2) ht1 hA
      | 2, hi, hv => cases hi; cases hv; rw [rr_tv_ref, had1.2.2.1]; exact va_Zof (hts _ h7.1) (hts _ h7.2) ht2 hA
      | 3, hi, hv => cases hi; cases hv; rw [rr_tv_ref, had1.2.2.2.1]; exact va_Zof (hts _ h7.1) (hts _ h7.2) ht3 hA
      | 4, hi, hv => cases hi; cases hv; exact va_Zof (hts _ h7.1) (hts _ h7.2) (va_eqi (hs _ rr_a6.1)) hA
      | 5, hi, hv => cases hi; cases hv; exact hfz
      | i + 6, hi, hv => cases hi
    · have h10 := List.all_eq_true.mp rr_a10 q hq
      simp only [Bool.and_eq_true, decide_eq_true_eq] at h10
      obtain ⟨⟨e1, e2⟩, e3⟩ := h10
      rw [e1, e3, rr_a11, hadK _ e2]
      exact vk_R.of (hts _ (h5 _ e2).2) (hSe _ e2)
    · have h8 := List.all_eq_true.mp rr_a8 w hw
      simp only [decide_eq_true_eq] at h8
      refine va_Nw.of ?_ (hts _ h8)
      unfold rr_nest at hw
      obtain ⟨q, -, rfl⟩ := List.mem_map.mp hw
      rfl
  have hOK : rr_OK (rr_ro L xs) 0 (rr_ro L xs) := ⟨fun k hk => absurd hk (Nat.not_lt_zero k), fun k c _ h => h⟩
  obtain ⟨f, r, HR, hrun, hr1, hR1, hR2⟩ := hRun L xs hL
  subst hr1
  have hC : rr_Cx p s m #[Value.ref b] meth c kA ad fm s.heap.size (fun k => (dd k).1) (fun k => (dd k).2) (rr_ro L xs) (rr_cn.getD 18 "") b_Law_law 4 1 (some .boolean) :=
    ⟨hx, hb, hml, hown, fun w hw => hts w (List.mem_filter.mp hw).1, hK, hEV, Nat.le_refl _, had0, hr, hlocks, fun h => by cases h⟩
  have hG := rr_sound V l f D j_Law_law 0 _ [] (0, 0, rr_ro L xs) _ HR hrun _ _ _ _ _ _ _ _ _ _ _ (show rr_nth rr_mt j_Law_law = some _ from rfl) p e s m #[Value.ref b] below meth c kA ad fm s.heap.size (fun k => (dd k).1) (fun k => (dd k).2) (rr_ro L xs) 0 0 0 hC rfl (Nat.le_refl _) (Nat.le_refl _) (Nat.le_trans hR1 (by decide)) rfl
  have hl := lv_entry ([Value.ref b]) (n := 4) (Nat.le_of_ble_eq_true rfl)
  rw [lg_entry_eq]
  generalize (lg_sl ([Value.ref b]) ++ List.replicate (4 - (lg_sl ([Value.ref b])).length) Slot.unset).toArray = ls at hl ⊢
  have hLR : rr_LR ad fm ls 4 (rr_pad 4 (rr_ent [.ref 1000060])) := rr_LR_ent hfm (by
    show lv_has ls 4 (lv_args 0 [Value.ref (ad 1000060)])
    rw [had1.2.2.2.2]
    exact hl)
  have hW := hG s.heap [] ls (fun k q hq => by cases hq) va_S.rf hOK hLR
  intro T hT X
  have X' : Stand p l e (rr_rm D (HR.1 - 0) (HR.2.1 - 0)) s m #[Value.ref b] below meth c T [] (0 - 0) (0 - 0) :=
    ⟨X.admits, X.cas, X.clock, X.frames, rr_hasRoom (r' := room_1) (by show D + 1 ≤ 2048; omega) (by show HR.1 - 0 ≤ 600000; omega) (by show HR.2.1 - 0 ≤ 7302250; omega) (by show 64 * (D + 1) ≤ 84000; omega) X.room, X.hears, X.method, X.code, X.here, X.tail, X.warmed, X.limits, X.bytes, X.same⟩
  obtain ⟨t, st, o, h1, h2, ⟨h3, -⟩, LL, h4, h5'⟩ := hW T hT X'
  refine ⟨t, st, o, h1, h2, h3, ?_⟩
  obtain ⟨g1, g2, g3⟩ := h4
  exact ⟨g1, g2, (State.sameButNew.drop_fresh (L := []) g3 (fun x hx => h5' x hx)).mono (by omega) (by omega)⟩
