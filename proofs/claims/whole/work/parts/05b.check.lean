/-! The tables of part 03 held against the class files, by the kernel. -/
def rr_pcs_of (j : Nat) : List Nat := (rr_nth rr_pcs j).getD []
def rr_tg (P : List Nat) (a pc : Nat) (off : Int) : Bool := match rr_nth P a with
  | some t => decide ((pc : Int) + off = (t : Int))
  | none => false
def rr_tgs (P : List Nat) (pc : Nat) : Int → List (Int × Nat) → List Int → Bool
  | _, [], [] => true
  | lo, (v, t) :: l, off :: o => decide (v = lo) && rr_tg P t pc off && rr_tgs P pc (lo + 1) l o
  | _, _, _ => false
def rr_tgl (P : List Nat) (pc : Nat) : List (Int × Nat) → List (Int × Int) → Bool
  | [], [] => true
  | (v, t) :: l, (w, off) :: o => decide (v = w) && rr_tg P t pc off && rr_tgl P pc l o
  | _, _ => false
def rr_clR : List String := [RX2, RX4, RX5, RX6, RX7, RX8, RX9, RX10]
def rr_fin (a b : Nat) : Bool := match vwCl[a]? with
  | some r => (r.2.1 b).2.2.2
  | none => true
def rr_ckE (own mx kind : Nat) (ret : Option FieldType) (P : List Nat) (pc : Nat) (e : rr_I) : Bool :=
  match e with
  | (ins, a, b, z) => match ins with
    | .if_icmp _ off => rr_tg P a pc off
    | .ifCond _ off => rr_tg P a pc off
    | .goto off => rr_tg P a pc off
    | .tableswitch df lo hi offs => rr_tg P a pc df && decide (hi + 1 - lo = (offs.size : Int)) && (match rr_nth rr_sw b with
      | some l => rr_tgs P pc lo l offs.toList
      | none => false)
    | .lookupswitch df ps => rr_tg P a pc df && (ps.toList.zip (ps.toList.drop 1)).all (fun (a, next) => a.1 < next.1) && (match rr_nth rr_sw b with
      | some l => rr_tgl P pc l ps.toList
      | none => false)
    | .istore i => Nat.blt i mx
    | .istore_n i => Nat.blt i mx
    | .astore i => Nat.blt i mx
    | .astore_n i => Nat.blt i mx
    | .lstore i => Nat.blt (i + 1) mx
    | .lstore_n i => Nat.blt (i + 1) mx
    | .iinc i _ => Nat.blt i mx
    | .getfield idx => (Nat.beq a 20 && (rr_SL.any fun q => Nat.beq q.1 own && Nat.beq q.2.1 idx && Nat.beq q.2.2.1 (10 + b))) ||
        (decide (z = 1) && Nat.beq own 4 && Nat.beq idx 54 && Nat.beq a 3 && Nat.beq b 3) ||
        (decide (z = 0) && rr_FL.any fun q => Nat.beq q.1 own && Nat.beq q.2.1 idx && Nat.beq q.2.2.1 a && Nat.beq q.2.2.2.1 b)
    | .putfield idx => (rr_FL.any fun q => Nat.beq q.1 own && Nat.beq q.2.1 idx && Nat.beq q.2.2.1 a && Nat.beq q.2.2.2.1 b) && (!(rr_fin a b) || (Nat.beq kind 2 && decide (rr_cn[own]? = rr_clR[a]?)))
    | .getstatic idx => Nat.blt a 6 && rr_SL.any fun q => Nat.beq q.1 own && Nat.beq q.2.1 idx && Nat.beq q.2.2.1 a
    | .invokevirtual idx => Nat.beq a 9000 || ((rr_ML.any fun q => Nat.beq q.1 own && Nat.beq q.2.1 idx && Nat.beq q.2.2.1 a) && (match rr_nth rr_mt a with
      | some q => Nat.blt a j_Law_law && Nat.beq q.2.2.2.2.2.1 b && Nat.beq q.2.2.2.2.2.2.1 0
      | none => false))
    | .invokespecial idx => Nat.beq a 9000 || (Nat.beq a 9998 && Nat.beq b 1 && rr_ML.any fun q => Nat.beq q.1 own && Nat.beq q.2.1 idx && Nat.beq q.2.2.1 9998) || (!(Nat.beq a 9998) && (match rr_nth rr_mt a with
      | some q => Nat.blt a j_Law_law && Nat.beq q.2.2.2.2.2.1 b && Nat.beq q.2.2.2.2.2.2.1 2
      | none => false) && ((decide (z = 0) && rr_ML.any fun q => Nat.beq q.1 own && Nat.beq q.2.1 idx && Nat.beq q.2.2.1 a) || (decide (z = 1) && rr_NM.any fun q => Nat.beq q.1 own && Nat.beq q.2.1 idx && Nat.beq q.2.2 a)))
    | .invokestatic idx => Nat.beq a 9000 || ((Nat.beq a 9999 || Nat.beq a 9997 || Nat.beq a 9996) && rr_ML.any fun q => Nat.beq q.1 own && Nat.beq q.2.1 idx && Nat.beq q.2.2.1 a) || (Nat.blt a 9000 && (match rr_nth rr_mt a with
      | some q => Nat.blt a j_Law_law && Nat.beq q.2.2.2.2.2.1 b && Nat.beq q.2.2.2.2.2.2.1 1
      | none => false) && rr_ML.any fun q => Nat.beq q.1 own && Nat.beq q.2.1 idx && Nat.beq q.2.2.1 a)
    | .ldc idx => Nat.blt a 6 && rr_STR.any fun q => Nat.beq q.1 own && Nat.beq q.2.1 idx && Nat.beq q.2.2 a
    | .ldc_w idx => rr_CI.any fun q => Nat.beq q.1 own && Nat.beq q.2.1 idx && decide (q.2.2.1 = z)
    | .ldc2_w idx => rr_LL.any fun q => Nat.beq q.1 own && Nat.beq q.2.1 idx && decide (q.2.2.1 = z)
    | .new idx => Nat.blt a 8 && rr_CL.any fun q => Nat.beq q.1 own && Nat.beq q.2.1 idx && Nat.beq q.2.2.1 a
    | .multianewarray idx d => Nat.beq d 2 && rr_CL.any fun q => Nat.beq q.1 own && Nat.beq q.2.1 idx && Nat.beq q.2.2.1 30
    | .ireturn => decide (ret = rr_nth [.int, .boolean, .char, .byte] a)
    | .lreturn => decide (ret = some .long)
    | .areturn => match ret with
      | some (.object _) => true
      | some (.array _) => true
      | _ => false
    | .return_ => decide (ret = none)
    | _ => true
def rr_len (i : ClassFile.Instr) : Nat := match i with
  | .iload _ | .lload _ | .aload _ | .istore _ | .lstore _ | .astore _ | .bipush _ | .newarray _ | .ldc _ => 2
  | .if_icmp _ _ | .ifCond _ _ | .goto _ | .getfield _ | .putfield _ | .getstatic _ | .invokevirtual _ | .invokespecial _ | .invokestatic _ | .sipush _ | .iinc _ _ | .new _ | .ldc_w _ | .ldc2_w _ => 3
  | .multianewarray _ _ => 4
  | .tableswitch _ _ _ _ | .lookupswitch _ _ => 0
  | _ => 1
/-- one row of a method, held against its code -/
def rr_ck1 (j k : Nat) : Bool := match rr_nth rr_mt j, rr_nth (rr_code j) k, rr_nth (rr_pcs_of j) k, rr_nth (rr_pcs_of j) (k + 1) with
  | some (own, _, bt, mx, ret, _, kind, _), some e, some pc, some pc' => decide (decode bt pc = .ok (e.1, pc' - pc)) && (Nat.beq (rr_len e.1) 0 || Nat.beq pc' (pc + rr_len e.1)) && rr_ckE own mx kind ret (rr_pcs_of j) pc e
  | _, _, _, _ => false
/-- a method's words -/
def rr_ckW (j : Nat) : Bool := match rr_nth rr_mt j with
  | some (own, y, bt, mx, ret, na, kind, p1, p2, p3, p4) => decide (lw_tbl[p1]? = some (.code y bt mx ret)) && decide (lw_tbl[p2]? = some (if kind = 1 then .static y else .instanceMethod y)) && (!(Nat.beq kind 0) || decide (lw_tbl[p3]? = some (.selects y.cls y y))) &&
      decide (lw_tbl[p4]? = some (.initialized y.cls)) && decide (rr_cn[own]? = some y.cls) && decide (y.cls ≠ "java/lang/invoke/MethodHandle" ∧ y.cls ≠ "java/lang/invoke/VarHandle") &&
      decide ((parseMethodDescriptor y.desc).map (fun d => d.parameters.length) = some (if kind = 1 then na else na - 1)) && plainName y.cls && (!(Nat.beq kind 2) || (decide (y.name = "<init>") && decide (ret = none))) && Nat.beq mx (rr_max j) && Nat.ble mx 13 && (Nat.beq kind 1 || Nat.ble 1 na) && decide (rr_nth (rr_pcs_of j) 0 = some 0) && (!(Nat.beq kind 0) || (match rr_nth rr_mcl j with
      | some cc => (match vwCl[cc]? with
        | some r => decide (r.1 = y.cls)
        | none => Nat.beq cc 20 && decide (y.cls = "java/lang/String"))
      | none => false))
  | none => false
