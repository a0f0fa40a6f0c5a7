/-! THE SMALL MACHINE IS SOUND: what rr_Run says, the JVM does. -/
def rr_tv (ad : Nat → Nat) (fm : Value) (v : Value) : Value := match v with
  | .ref k => .ref (ad k)
  | .retAddr _ => fm
  | v => v
def rr_tx (ad : Nat → Nat) (x : vp_A) : vp_A := (x.1, match x.2 with
  | .inr (.inr (.inr (.inr f))) => .inr (.inr (.inr (.inr (fun i => (f i).map ad))))
  | y => y)
def rr_tE (kA : Nat → ClassId) (ad : Nat → Nat) (fm : Value) (c : rr_E) : va_E := match c with
  | .inl (c, x) => .inl (kA c, rr_tx ad x)
  | .inr (ci, fs) => .inr (ci, fs.map (rr_tv ad fm))
def rr_ws (kA : Nat → ClassId) (ad : Nat → Nat) (fm : Value) (N : Nat) (h : Nat → Option rr_E) : va_W := (List.range N).map (fun k => (ad k, rr_tE kA ad fm ((h k).getD (.inr (0, [])))))
theorem rr_set_eq {h : Nat → Option rr_E} {k : Nat} {c : rr_E} : rr_set h k c k = some c := by
  unfold rr_set
  rw [Nat.beq_refl]
  rfl
theorem rr_set_ne {h : Nat → Option rr_E} {k j : Nat} {c : rr_E} (hn : j ≠ k) : rr_set h k c j = h j := by
  unfold rr_set
  have : Nat.beq j k = false := by
    cases hb : Nat.beq j k with
    | false => rfl
    | true => exact absurd (Nat.eq_of_beq_eq_true hb) hn
  rw [this]
  rfl
theorem rr_set_ne' {h : Nat → Option rr_E} {k j : Nat} {c d : rr_E} (hn : j ≠ k) (hj : h j = some d) : rr_set h k c j = some d := (rr_set_ne hn).trans hj
section RW
variable {kA : Nat → ClassId} {ad : Nat → Nat} {fm : Value} {N : Nat} {h : Nat → Option rr_E} {k : Nat} {c : rr_E}
theorem rr_ws_at (hk : k < N) (hc : h k = some c) : (rr_ws kA ad fm N h)[k]? = some (ad k, rr_tE kA ad fm c) := by
  unfold rr_ws
  rw [List.getElem?_map, List.getElem?_range hk]
  simp [hc]
theorem rr_ws_len : (rr_ws kA ad fm N h).length = N := by simp [rr_ws]
theorem rr_ws_out (hk : N ≤ k) : (rr_ws kA ad fm N h)[k]? = none := List.getElem?_eq_none (by rw [rr_ws_len]; exact hk)
theorem rr_ws_pos {q : Nat × va_E} (hq : (rr_ws kA ad fm N h)[k]? = some q) : k < N ∧ q.1 = ad k := by
  have hk : k < N := by
    rcases Nat.lt_or_ge k N with z | z
    · exact z
    · rw [rr_ws_out z] at hq; cases hq
  refine ⟨hk, ?_⟩
  unfold rr_ws at hq
  rw [List.getElem?_map, List.getElem?_range hk] at hq
  cases hq
  rfl
theorem rr_ws_cg {h' : Nat → Option rr_E} (he : ∀ i, i < N → h i = h' i) : rr_ws kA ad fm N h = rr_ws kA ad fm N h' := by
  unfold rr_ws
  apply List.map_congr_left
  intro i hi
  rw [he i (List.mem_range.mp hi)]
theorem rr_ws_set (hk : k < N) : (rr_ws kA ad fm N h).set k (ad k, rr_tE kA ad fm c) = rr_ws kA ad fm N (rr_set h k c) := by
  apply List.ext_getElem?
  intro i
  rw [List.getElem?_set]
  by_cases hi : k = i
  · subst hi
    rw [if_pos rfl, rr_ws_len, if_pos hk, rr_ws_at hk rr_set_eq]
  · rw [if_neg hi]
    unfold rr_ws
    rw [List.getElem?_map, List.getElem?_map]
    by_cases hN : i < N
    · rw [List.getElem?_range hN]
      simp only [Option.map_some]
      rw [rr_set_ne (fun q => hi q.symm)]
    · rw [List.getElem?_eq_none (by rw [List.length_range]; omega)]
      rfl
theorem rr_ws_push : rr_ws kA ad fm (N + 1) (rr_set h N c) = rr_ws kA ad fm N h ++ [(ad N, rr_tE kA ad fm c)] := by
  unfold rr_ws
  rw [List.range_succ, List.map_append]
  congr 1
  · apply List.map_congr_left
    intro i hi
    rw [rr_set_ne (Nat.ne_of_lt (List.mem_range.mp hi))]
  · simp [rr_set_eq]
end RW
def rr_hc (c : rr_E) : Bool := match c with
  | .inl (0, _, .inl _) => true
  | .inl (1, _, .inr (.inl _)) => true
  | .inl (2, _, .inl _) => true
  | .inl (3, _, .inr (.inr (.inr (.inr _)))) => true
  | .inr (ci, _) => Nat.blt ci 8
  | _ => false
def rr_OK (ro : Nat → Option rr_E) (N : Nat) (h : Nat → Option rr_E) : Prop := (∀ k, k < N → ∃ c, h k = some c ∧ rr_hc c = true) ∧ (∀ k c, N ≤ k → h k = some c → ro k = some c)
def rr_tys (kA : Nat → ClassId) : List (ClassId × FieldType) := [(kA 0, .int), (kA 1, .long), (kA 2, .boolean), (kA 3, .array .long)]
abbrev rr_A (base : Nat) : Nat → Prop := fun q => base ≤ q
def rr_rom (ad : Nat → Nat) (base k : Nat) (c : rr_E) (U : State) (H : Heap) : Prop := match c with
  | .inl (8, n, .inl f) => va_T .int (ad k) n (fun j => .int (f j)) (rr_A base) U H
  | .inl (9, n, .inl f) => va_T .byte (ad k) n (fun j => .int (f j)) (rr_A base) U H
  | .inr (20, fs) => ∃ t, fs = [.ref t, .int 0] ∧ va_O "java/lang/String" (ad k) (rr_A base) U H ∧ va_OF "java/lang/String" "value" "[B" (.ref (ad t)) (ad k) (rr_A base) U H ∧ va_OF "java/lang/String" "coder" "B" (.int 0) (ad k) (rr_A base) U H
  | _ => False
def rr_stt : List (String × String × String) := [("GrudgeDesk$Balanced", "OF_TWO", "[I"), ("GrudgeDesk$Balanced", "OF_THREE", "[I"), ("GrudgeDesk$Balanced", "OF_FOUR", "[I"), ("GrudgeDesk$Kinds", "FACTORIALS", "[I"), ("java/lang/String", "COMPACT_STRINGS", "Z"), ("jdk/internal/util/Preconditions", "SIOOBE_FORMATTER", "Ljava/util/function/BiFunction;")]
def rr_txt : List String := ["people", "worth", "more", "dual", "zero", "swap"]
/-- the words that don't ride with the others: nest links -/
def rr_nest : List Cond := rr_NM.map (fun q => Cond.methodLinkNest (rr_cn.getD q.1 "") q.2.1 (match rr_nth rr_mt q.2.2 with | some r => r.2.1 | none => y_Law_law) "GrudgeDesk")
def rr_EV (ro : Nat → Option rr_E) (ad : Nat → Nat) (fm : Value) (base : Nat) (U : State) (H : Heap) : Prop :=
  (∀ k c, ro k = some c → rr_hc c = false ∧ rr_rom ad base k c U H) ∧
  (∀ i C n d v, rr_nth rr_stt i = some (C, n, d) → rr_nth rr_stv i = some v → va_Z C n d (rr_tv ad fm v) (rr_A base) U H) ∧
  (∀ q ∈ rr_STR, vk_R (rr_cn.getD q.1 "") q.2.1 (rr_txt.getD q.2.2 "") (ad (1000010 + q.2.2)) U) ∧
  (∀ w ∈ rr_nest, va_Nw w U) ∧ va_Nw (.fieldLinkNest "GrudgeDesk$Rows" 54 "GrudgeDesk$Shares" "n" "I" "GrudgeDesk") U ∧
  (Cond.arrayOver (.array .long)).before #[] U = true ∧ fm.category = 1
theorem rr_rom_go {ad : Nat → Nat} {base k : Nat} {c : rr_E} {s U : State} {H : Heap} {locs : List Loc} (hvm : s.vm.Alike U.vm) (hS : va_S (rr_A base) s.heap H locs) (h : rr_rom ad base k c s s.heap) : rr_rom ad base k c U H := by
  have hq : ∀ a : Nat, a < s.heap.size → ¬ rr_A base a → H[a]? = s.heap[a]? := hS.2.1
  unfold rr_rom at h ⊢
  split at h
  · exact va_T.kept (va_T.moved hvm h) hq
  · exact va_T.kept (va_T.moved hvm h) hq
  · obtain ⟨t, e1, h1, h2, h3⟩ := h
    exact ⟨t, e1, (va_O.moved hvm h1).kept hq, (va_OF.moved hvm h2).kept hq, (va_OF.moved hvm h3).kept hq⟩
  · exact h.elim
theorem rr_EV_go {ro : Nat → Option rr_E} {ad : Nat → Nat} {fm : Value} {base : Nat} {s U : State} {H : Heap} {locs : List Loc} (hW : s.WarmedH U.vm) (hS : va_S (rr_A base) s.heap H locs) (h : rr_EV ro ad fm base s s.heap) : rr_EV ro ad fm base U H := by
  obtain ⟨h1, h2, h3, h4, h5, h6, h7⟩ := h
  refine ⟨fun k c hc => ⟨(h1 k c hc).1, rr_rom_go hW.alike hS (h1 k c hc).2⟩, fun i C n d v a b => (va_Z.moved hW.alike (h2 i C n d v a b)).kept hS.2.1, fun q hq => vk_R.warm hW (h3 q hq), fun w hw => ?_, va_Nw.warmF hW h5, Jvm.Stand.arrayOver_alikeB hW.alike h6, h7⟩
  have hz := h4 w hw
  unfold rr_nest at hw
  obtain ⟨q, -, rfl⟩ := List.mem_map.mp hw
  exact va_Nw.warmM hW hz
/-- the good words: they ride from caller to callee -/
def rr_gt : List Cond := lw_tbl.filter goodWord
theorem rr_gt_in {w : Cond} {i : Nat} (h : lw_tbl[i]? = some w) (hg : goodWord w = true) : w ∈ rr_gt := List.mem_filter.mpr ⟨List.mem_of_getElem? h, hg⟩
theorem rr_gt_good {bigw : List Cond} (hb : ∀ w ∈ rr_gt, w ∈ bigw) {w0 : Cond} (h0 : w0 ∈ bigw) (hg : goodWord w0 = true) : GoodIn bigw (w0 :: rr_gt) := by
  intro w hw
  rcases List.mem_cons.mp hw with rfl | hw
  · exact ⟨h0, good_of_word hg⟩
  · exact ⟨hb w hw, good_of_word (List.mem_filter.mp hw).2⟩
