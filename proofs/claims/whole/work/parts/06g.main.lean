def rr_rm (d mc ms : Nat) : Room := { frames := d + 1, cells := mc, slots := ms, locals := 64 * (d + 1) }
/-- the world in a state -/
def rr_Wd (kA : Nat → ClassId) (ad : Nat → Nat) (fm : Value) (base : Nat) (dC : Nat → ClassId) (dI : Nat → Nat → Nat) (ro : Nat → Option rr_E) (N : Nat) (h : Nat → Option rr_E) (U : State) : Prop :=
  U.heap.size = base + N ∧ va_P (dC, dI) vwCl (rr_ws kA ad fm N h) U.heap ∧ va_K (dC, dI) vwCl (rr_tys kA) U ∧ rr_EV ro ad fm base U U.heap ∧ rr_OK ro N h
def rr_Qc (kA : Nat → ClassId) (ad : Nat → Nat) (fm : Value) (base : Nat) (dC : Nat → ClassId) (dI : Nat → Nat → Nat) (ro : Nat → Option rr_E) (r : Option Value) (N : Nat) (h : Nat → Option rr_E) : Array Value → State → Outcome → State → Prop :=
  fun _ st o t => o = .returned (r.map (rr_tv ad fm)) ∧ rr_Wd kA ad fm base dC dI ro N h t ∧ va_F (rr_A base) st t
/-- the tables of part 03 are right (part 71 shows it) -/
def rr_Valid : Prop := (∀ j k e, rr_nth (rr_code j) k = some e → rr_ck1 j k = true) ∧ ∀ j, j < j_Law_law → rr_ckW j = true
theorem rr_EV_same {ro : Nat → Option rr_E} {ad : Nat → Nat} {fm : Value} {base : Nat} {s U : State} {H : Heap} (hv : U.vm = s.vm) (h : rr_EV ro ad fm base s H) : rr_EV ro ad fm base U H := by
  have hal : s.vm.Alike U.vm := by rw [hv]; exact Vm.Alike.refl s.vm
  obtain ⟨h1, h2, h3, h4, h5, h6, h7⟩ := h
  refine ⟨fun k c hc => ⟨(h1 k c hc).1, ?_⟩, fun i C n d v a b => va_Z.moved hal (h2 i C n d v a b), fun q hq => vk_R.same hv (h3 q hq), fun w hw => ?_, va_Nw.same rfl hv.symm h5, Jvm.Stand.arrayOver_alikeB hal h6, h7⟩
  · have h := (h1 k c hc).2
    unfold rr_rom at h ⊢
    split at h
    · exact va_T.moved hal h
    · exact va_T.moved hal h
    · obtain ⟨t, e1, a1, a2, a3⟩ := h
      exact ⟨t, e1, va_O.moved hal a1, va_OF.moved hal a2, va_OF.moved hal a3⟩
    · exact h.elim
  · have hz := h4 w hw
    unfold rr_nest at hw
    obtain ⟨q, -, rfl⟩ := List.mem_map.mp hw
    exact va_Nw.same rfl hv.symm hz
theorem rr_blind {kA : Nat → ClassId} {ad : Nat → Nat} {fm : Value} {base : Nat} {dC : Nat → ClassId} {dI : Nat → Nat → Nat} {ro : Nat → Option rr_E} {N : Nat} {h : Nat → Option rr_E} {av : List Value} : FrameBlind (va_Pc av (rr_Wd kA ad fm base dC dI ro N h)) := by
  intro a U g mk q
  obtain ⟨q0, q1, q2, q3, q4, q5⟩ := q
  exact ⟨q0, q1, q2, va_K.moved (u := U) (U := U.calling g mk a) (Vm.Alike.refl U.vm) q3, rr_EV_same (s := U) (U := U.calling g mk a) rfl q4, q5⟩
theorem rr_pop_eq : ∀ (n : Nat) (acc st av rest : List Value), rr_pop n acc st = some (av, rest) → ∃ l, l.length = n ∧ st = l ++ rest ∧ av = l.reverse ++ acc
  | 0, acc, st, av, rest, h => by
    cases h
    exact ⟨[], rfl, rfl, rfl⟩
  | n + 1, acc, [], av, rest, h => by cases h
  | n + 1, acc, v :: st, av, rest, h => by
    obtain ⟨l, h1, h2, h3⟩ := rr_pop_eq n (v :: acc) st av rest h
    refine ⟨v :: l, by simp [h1], by rw [h2]; rfl, ?_⟩
    rw [h3]
    simp
theorem rr_pop_st {n : Nat} {st av rest : List Value} (h : rr_pop n [] st = some (av, rest)) : av.length = n ∧ st = av.reverse ++ rest := by
  obtain ⟨l, h1, h2, h3⟩ := rr_pop_eq n [] st av rest h
  rw [List.append_nil] at h3
  subst h3
  exact ⟨by simp [h1], by rw [List.reverse_reverse]; exact h2⟩
section RM
variable {p : Program} {l : Launch} {e : Env} {R : Room} {s : State} {m : MethodId} {args : Array Value} {below : List Frame} {meth : Method} {c : Code} {Q : State → Prop}
variable {kA : Nat → ClassId} {ad : Nat → Nat} {fm : Value} {base : Nat} {dC : Nat → ClassId} {dI : Nat → Nat → Nat} {ro : Nat → Option rr_E} {N0 S0 : Nat}
/-- behind a call -/
theorem rr_callW {Hp : Heap} {locs : List Loc} {cells slots mc ms pc N1 : Nat} {ls : Array Slot} {st0 rest : List Value} {r : Option Value} {h1 : Nat → Option rr_E} {av : Array Value}
    (hr : va_Run p l e R s m args below meth c Hp locs cells slots mc ms (F0 m pc ls st0) rest (rr_Qc kA ad fm base dC dI ro r N1 h1 av) (rr_A base)) (hS : va_S (rr_A base) s.heap Hp locs)
    (kk : ∀ (H1 : Heap) (locs1 : List Loc), va_P (dC, dI) vwCl (rr_ws kA ad fm N1 h1) H1 → va_S (rr_A base) s.heap H1 locs1 → rr_OK ro N1 h1 → W p l e R s m args below meth c H1 locs1 (cells + mc) (slots + ms) Q (F0 m (pc + 3) ls ((r.map (rr_tv ad fm)).toList ++ rest))) :
    W p l e R s m args below meth c Hp locs cells slots Q (F0 m pc ls st0) := by
  intro T hT X
  obtain ⟨v, st₀, t, T', L, h0, X', hL, e1, e2, ⟨hv, hWd, hz, hk⟩, st⟩ := hr T hT X
  cases hv
  rw [h0] at hz hk
  obtain ⟨t2, a1, b1⟩ := kk T'.heap (locs ++ L) (by rw [e1]; exact hWd.2.1) ⟨Nat.le_trans hS.1 (by rw [e1]; exact hz), fun q h1 h2 => by rw [e1, hk q (Nat.lt_of_lt_of_le h1 hS.1) h2]; exact hS.2.1 q h1 h2, fun q hq => by
    rcases List.mem_append.mp hq with h | h
    · exact hS.2.2 q h
    · exact hL q h⟩ hWd.2.2.2.2 T' rfl X'
  exact ⟨t2, st t2 a1, b1⟩
/-- what the tables say of a method that is called -/
theorem rr_ckWE {j : Nat} {own mx na kind p1 p2 p3 p4 : Nat} {y : MethodName} {bt : ByteArray} {ret : Option FieldType} (hj : rr_nth rr_mt j = some (own, y, bt, mx, ret, na, kind, p1, p2, p3, p4)) (hc : rr_ckW j = true) :
    Cond.code y bt mx ret ∈ rr_gt ∧ (kind = 1 → Cond.static y ∈ rr_gt) ∧ (kind ≠ 1 → Cond.instanceMethod y ∈ rr_gt) ∧ (kind = 0 → Cond.selects y.cls y y ∈ rr_gt) ∧ Cond.initialized y.cls ∈ rr_gt ∧ rr_cn.getD own "" = y.cls ∧ (y.cls ≠ "java/lang/invoke/MethodHandle" ∧ y.cls ≠ "java/lang/invoke/VarHandle") ∧
    (parseMethodDescriptor y.desc).map (fun d => d.parameters.length) = some (if kind = 1 then na else na - 1) ∧ plainName y.cls = true ∧ (kind = 2 → y.name = "<init>" ∧ ret = none) ∧ mx = rr_max j ∧ mx ≤ 13 ∧ rr_nth (rr_pcs_of j) 0 = some 0 ∧
    (kind = 0 → ∀ cc, rr_nth rr_mcl j = some cc → (∃ r, vwCl[cc]? = some r ∧ r.1 = y.cls) ∨ (cc = 20 ∧ y.cls = "java/lang/String")) := by
  unfold rr_ckW at hc
  rw [hj] at hc
  simp only [Bool.and_eq_true, Bool.or_eq_true, Bool.not_eq_true', decide_eq_true_eq] at hc
  obtain ⟨⟨⟨⟨⟨⟨⟨⟨⟨⟨⟨⟨⟨c1, c2⟩, c3⟩, c4⟩, c5⟩, c6⟩, c7⟩, c8⟩, c9⟩, c10⟩, c11⟩, c12⟩, c13⟩, c14⟩ := hc
  refine ⟨rr_gt_in c1 rfl, fun h => ?_, fun h => ?_, fun h => ?_, rr_gt_in c4 rfl, by rw [List.getD_eq_getElem?_getD, c5]; rfl, c6, c7, c8, fun h => ?_, Nat.eq_of_beq_eq_true c10, Nat.le_of_ble_eq_true c11, c13, fun h cc hcc => ?_⟩
  · rw [if_pos h] at c2; exact rr_gt_in c2 rfl
  · rw [if_neg h] at c2; exact rr_gt_in c2 rfl
  · rcases c3 with c3 | c3
    · subst h; cases c3
    · exact rr_gt_in c3 rfl
  · rcases c9 with c9 | c9
    · subst h; cases c9
    · exact c9
  · rcases c14 with c14 | c14
    · subst h; cases c14
    · rw [hcc] at c14
      dsimp only at c14
      split at c14
      · next r hr => exact Or.inl ⟨r, hr, by simpa using c14⟩
      · simp only [Bool.and_eq_true, decide_eq_true_eq] at c14
        exact Or.inr ⟨Nat.eq_of_beq_eq_true c14.1, c14.2⟩
/-- the end of a method -/
theorem rr_end {Hp : Heap} {locs : List Loc} {N : Nat} {h : Nat → Option rr_E} {own : String} {bt : ByteArray} {mx kind : Nat} {ret : Option FieldType} (hC : rr_Cx p s m args meth c kA ad fm base dC dI ro own bt mx kind ret) (hPP : va_P (dC, dI) vwCl (rr_ws kA ad fm N h) Hp) (hS : va_S (rr_A base) s.heap Hp locs) (hOK : rr_OK ro N h) (hsz : Hp.size = base + N) (r : Option Value) :
    ∀ t : State, t.heap = Hp → s.WarmedH t.vm → rr_Qc kA ad fm base dC dI ro r N h args s (.returned (r.map (rr_tv ad fm))) t := by
  intro t ht hW
  obtain ⟨hx, hb, hml, hown, hts, hK, hE, hbs, had, hr, hlk, hin⟩ := hC
  refine ⟨rfl, ⟨by rw [ht]; exact hsz, by rw [ht]; exact hPP, va_K.moved hW.alike hK, by rw [ht]; exact rr_EV_go hW hS hE, hOK⟩, hS.F ht⟩
end RM
