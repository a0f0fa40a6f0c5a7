theorem rr_nth_get {α : Type} : ∀ (l : List α) (k : Nat), rr_nth l k = l[k]?
  | [], _ => by simp [rr_nth]
  | _ :: _, 0 => by simp [rr_nth]
  | _ :: t, k + 1 => by simp [rr_nth, rr_nth_get t k]
/-- links of statics and of a String's fields -/
def rr_sln (n : Nat) : Option (String × String × String) := match n with
  | 10 => some ("java/lang/String", "value", "[B")
  | 11 => some ("java/lang/String", "coder", "B")
  | n => rr_nth rr_stt n
theorem rr_slOK : rr_SL.all (fun q => match rr_sln q.2.2.1 with
  | some (C, n, d) => decide (lw_tbl[q.2.2.2]? = some (.fieldLink (rr_cn.getD q.1 "") q.2.1 C n d))
  | none => false) = true := by decide +kernel
theorem rr_slE {own idx a : Nat} (h : (rr_SL.any fun q => Nat.beq q.1 own && Nat.beq q.2.1 idx && Nat.beq q.2.2.1 a) = true) :
    ∃ C n d, rr_sln a = some (C, n, d) ∧ Cond.fieldLink (rr_cn.getD own "") idx C n d ∈ rr_gt := by
  obtain ⟨q, hq, hb⟩ := List.any_eq_true.mp h
  have hc := List.all_eq_true.mp rr_slOK q hq
  simp only [Bool.and_eq_true] at hb
  obtain ⟨⟨e1, e2⟩, e3⟩ := hb
  have e1 := Nat.eq_of_beq_eq_true e1
  have e2 := Nat.eq_of_beq_eq_true e2
  have e3 := Nat.eq_of_beq_eq_true e3
  subst e1; subst e2; subst e3
  split at hc
  · next C n d hr => exact ⟨C, n, d, hr, rr_gt_in (of_decide_eq_true hc) rfl⟩
  · cases hc
theorem rr_clOK : rr_CL.all (fun q => match vwCl[q.2.2.1]? with
  | some r => decide (lw_tbl[q.2.2.2]? = some (.classLink (rr_cn.getD q.1 "") q.2.1 r.1))
  | none => decide (lw_tbl[q.2.2.2]? = some (.classLink (rr_cn.getD q.1 "") q.2.1 "[[J"))) = true := by decide +kernel
theorem rr_clE {own idx a : Nat} (h : (rr_CL.any fun q => Nat.beq q.1 own && Nat.beq q.2.1 idx && Nat.beq q.2.2.1 a) = true) :
    (∃ r : vw_C, vwCl[a]? = some r ∧ Cond.classLink (rr_cn.getD own "") idx r.1 ∈ rr_gt) ∨ (vwCl[a]? = none ∧ Cond.classLink (rr_cn.getD own "") idx "[[J" ∈ rr_gt) := by
  obtain ⟨q, hq, hb⟩ := List.any_eq_true.mp h
  have hc := List.all_eq_true.mp rr_clOK q hq
  simp only [Bool.and_eq_true] at hb
  obtain ⟨⟨e1, e2⟩, e3⟩ := hb
  have e1 := Nat.eq_of_beq_eq_true e1
  have e2 := Nat.eq_of_beq_eq_true e2
  have e3 := Nat.eq_of_beq_eq_true e3
  subst e1; subst e2; subst e3
  split at hc
  · next r hr => exact Or.inl ⟨r, hr, rr_gt_in (of_decide_eq_true hc) rfl⟩
  · next hr => exact Or.inr ⟨hr, rr_gt_in (of_decide_eq_true hc) rfl⟩
def rr_mly (a : Nat) : Option MethodName := cond (Nat.beq a 9998) (some Lib.objectInit) (cond (Nat.beq a 9999) (some arraycopyName) (cond (Nat.beq a 9997) (some Lib.MathLoose.max_long.x) (cond (Nat.beq a 9996) (some Lib.MathLoose.abs_long.x) (match rr_nth rr_mt a with
  | some r => some r.2.1
  | none => none))))
theorem rr_mlOK : rr_ML.all (fun q => match rr_mly q.2.2.1 with
  | some y => decide (lw_tbl[q.2.2.2]? = some (.methodLink (rr_cn.getD q.1 "") q.2.1 y))
  | none => false) = true := by decide +kernel
theorem rr_mlE {own idx a : Nat} (h : (rr_ML.any fun q => Nat.beq q.1 own && Nat.beq q.2.1 idx && Nat.beq q.2.2.1 a) = true) :
    ∃ y, rr_mly a = some y ∧ Cond.methodLink (rr_cn.getD own "") idx y ∈ rr_gt := by
  obtain ⟨q, hq, hb⟩ := List.any_eq_true.mp h
  have hc := List.all_eq_true.mp rr_mlOK q hq
  simp only [Bool.and_eq_true] at hb
  obtain ⟨⟨e1, e2⟩, e3⟩ := hb
  have e1 := Nat.eq_of_beq_eq_true e1
  have e2 := Nat.eq_of_beq_eq_true e2
  have e3 := Nat.eq_of_beq_eq_true e3
  subst e1; subst e2; subst e3
  split at hc
  · next y hr => exact ⟨y, hr, rr_gt_in (of_decide_eq_true hc) rfl⟩
  · cases hc
theorem rr_blt {a b : Nat} (h : Nat.blt a b = true) : a < b := Nat.le_of_ble_eq_true h
theorem rr_tv_ref {ad : Nat → Nat} {fm : Value} {q : Nat} : rr_tv ad fm (.ref q) = .ref (ad q) := rfl
theorem rr_wOI : Cond.instanceMethod Lib.objectInit ∈ rr_gt := rr_gt_in (i := 108) (by decide +kernel) rfl
theorem rr_wOC : Cond.code Lib.objectInit ⟨#[0xb1]⟩ 1 none ∈ rr_gt := rr_gt_in (i := 109) (by decide +kernel) rfl
theorem rr_wAN : Cond.native arraycopyName ∈ rr_gt := rr_gt_in (i := 528) (by decide +kernel) rfl
theorem rr_wAS : Cond.static arraycopyName ∈ rr_gt := rr_gt_in (i := 527) (by decide +kernel) rfl
theorem rr_wAI : Cond.initialized "java/lang/System" ∈ rr_gt := rr_gt_in (i := 96) (by decide +kernel) rfl
theorem rr_wCI : Cond.arrayClass .int ∈ rr_gt := rr_gt_in (i := 136) (by decide +kernel) rfl
theorem rr_wCL : Cond.arrayClass .long ∈ rr_gt := rr_gt_in (i := 209) (by decide +kernel) rfl
theorem rr_wCZ : Cond.arrayClass .boolean ∈ rr_gt := rr_gt_in (i := 1079) (by decide +kernel) rfl
theorem rr_wMi : Cond.initialized "java/lang/Math" ∈ rr_gt := rr_gt_in (i := 99) (by decide +kernel) rfl
theorem rr_wMs9997 : Cond.static Lib.MathLoose.max_long.x ∈ rr_gt := rr_gt_in (i := 767) (by decide +kernel) rfl
theorem rr_wMc9997 : Cond.code Lib.MathLoose.max_long.x Lib.MathLoose.max_long.code 4 (some .long) ∈ rr_gt := rr_gt_in (i := 768) (by decide +kernel) rfl
theorem rr_wMs9996 : Cond.static Lib.MathLoose.abs_long.x ∈ rr_gt := rr_gt_in (i := 655) (by decide +kernel) rfl
theorem rr_wMc9996 : Cond.code Lib.MathLoose.abs_long.x Lib.MathLoose.abs_long.code 2 (some .long) ∈ rr_gt := rr_gt_in (i := 656) (by decide +kernel) rfl
