/-! The small machine: instructions as decoded, with their links (class number and slot, method number, target) beside them; the heap as a function of places 0, 1, 2 ..;
one instruction as a proposition about what comes next (F). No word of the JVM here: part 06 ties it to the machine. -/
abbrev rr_E : Type := (Nat × vp_A) ⊕ (Nat × List Value)
abbrev rr_H : Type := Nat × Nat × (Nat → Option rr_E)
abbrev rr_L : Type := List (Option Value)
/-- what an instruction comes to: the next frame; a call (method, arguments, what stays on the stack); an answer -/
abbrev rr_O : Type := (Nat × rr_L × List Value × rr_H) ⊕ (Nat × List Value × List Value) ⊕ Option Value
def rr_set (h : Nat → Option rr_E) (k : Nat) (c : rr_E) : Nat → Option rr_E := fun j => cond (Nat.beq j k) (some c) (h j)
def rr_setR (h : Nat → Option rr_E) (lo n : Nat) (c : rr_E) : Nat → Option rr_E := fun j => cond (Nat.ble lo j && Nat.blt j (lo + n)) (some c) (h j)
def rr_nth {α : Type} : List α → Nat → Option α
  | [], _ => none
  | a :: _, 0 => some a
  | _ :: t, k + 1 => rr_nth t k
def rr_get : rr_L → Nat → Option Value
  | [], _ => none
  | a :: _, 0 => a
  | _ :: t, k + 1 => rr_get t k
def rr_clr : Option Value → Option Value
  | some (.long _) => none
  | some (.double _) => none
  | a => a
def rr_put : rr_L → Nat → Value → rr_L
  | [], _, _ => []
  | _ :: t, 0, v => some v :: t
  | a :: t, 1, v => rr_clr a :: rr_put t 0 v
  | a :: t, k + 2, v => a :: rr_put t (k + 1) v
def rr_drp : rr_L → rr_L
  | [] => []
  | _ :: t => none :: t
def rr_putL : rr_L → Nat → Value → rr_L
  | [], _, _ => []
  | _ :: t, 0, v => some v :: rr_drp t
  | a :: t, 1, v => rr_clr a :: rr_putL t 0 v
  | a :: t, k + 2, v => a :: rr_putL t (k + 1) v
def rr_ent : List Value → rr_L
  | [] => []
  | .long x :: t => some (.long x) :: none :: rr_ent t
  | .double x :: t => some (.double x) :: none :: rr_ent t
  | v :: t => some v :: rr_ent t
def rr_pad : Nat → rr_L → rr_L
  | 0, _ => []
  | n + 1, [] => none :: rr_pad n []
  | n + 1, a :: t => a :: rr_pad n t
def rr_pop : Nat → List Value → List Value → Option (List Value × List Value)
  | 0, acc, st => some (acc, st)
  | _ + 1, _, [] => none
  | n + 1, acc, v :: st => rr_pop n (v :: acc) st
def rr_cat : List Value → Nat
  | [] => 0
  | v :: t => v.category + rr_cat t
def rr_push (v : Option Value) (rest : List Value) : List Value := match v with
  | some v => v :: rest
  | none => rest
def rr_mem : List Nat → Nat → Bool
  | [], _ => false
  | a :: t, k => cond (Nat.beq a k) true (rr_mem t k)
def rr_max (j : Nat) : Nat := (rr_nth rr_mx j).getD 0
def rr_br (c : ClassFile.Cond) (x y : Int32) (A B : Prop) : Prop := match c with
  | .eq => (x = y → A) ∧ (¬ x = y → B)
  | .ne => (¬ x = y → A) ∧ (x = y → B)
  | .lt => (x < y → A) ∧ (¬ x < y → B)
  | .ge => (y ≤ x → A) ∧ (¬ y ≤ x → B)
  | .gt => (y < x → A) ∧ (¬ y < x → B)
  | .le => (x ≤ y → A) ∧ (¬ x ≤ y → B)
def rr_sws (x : Int32) (d : Prop) (A : Nat → Prop) : List (Int × Nat) → Prop
  | [] => d
  | (v, t) :: l => (x.toInt = v → A t) ∧ (¬ x.toInt = v → rr_sws x d A l)
def rr_ftc (a b : Nat) : Nat := match rr_nth rr_fts a with
  | none => 9
  | some l => match rr_nth l b with
    | none => 9
    | some c => c
/-- the places of what was there before: statics, strings, the script -/
abbrev rr_SB : Nat := 1000000
def rr_stv : List Value := [.ref 1000000, .ref 1000001, .ref 1000002, .ref 1000003, .int 1, .retAddr 0]
def rr_ld (loc : rr_L) (i : Nat) (t : Nat) (A : Value → Prop) : Prop := match rr_get loc i, t with
  | some (.int x), 0 => A (.int x)
  | some (.long x), 1 => A (.long x)
  | some (.ref x), 2 => A (.ref x)
  | _, _ => False
def rr_stF (N S : Nat) (h : Nat → Option rr_E) (q a b : Nat) (v : Value) (G : rr_H → Prop) : Prop := ∃ fs, h q = some (.inr (a, fs)) ∧ cond (Nat.blt b fs.length) (G (N, S, rr_set h q (.inr (a, fs.set b v)))) False
set_option maxHeartbeats 4000000 in
/-- ONE INSTRUCTION -/
def rr_ex0 (e : rr_I) (k : Nat) (loc : rr_L) (st : List Value) (N S : Nat) (h : Nat → Option rr_E) (F : rr_O → Prop) : Prop :=
  match e with
  | (ins, a, b, z) =>
    match ins with
    | .iconst n => F (.inl (k + 1, loc, .int (Int32.ofInt n) :: st, (N, S, h)))
    | .bipush n => F (.inl (k + 1, loc, .int (Int8.ofInt n).toInt32 :: st, (N, S, h)))
    | .sipush n => F (.inl (k + 1, loc, .int (Int16.ofInt n).toInt32 :: st, (N, S, h)))
    | .ldc_w _ => F (.inl (k + 1, loc, .int (Int32.ofInt z) :: st, (N, S, h)))
    | .lconst n => F (.inl (k + 1, loc, .long (Int64.ofNat n) :: st, (N, S, h)))
    | .ldc2_w _ => F (.inl (k + 1, loc, .long (Int64.ofInt z) :: st, (N, S, h)))
    | .ldc _ => F (.inl (k + 1, loc, .ref (1000010 + a) :: st, (N, S, h)))
    | .iload i => rr_ld loc i 0 (fun v => F (.inl (k + 1, loc, v :: st, (N, S, h))))
    | .iload_n i => rr_ld loc i 0 (fun v => F (.inl (k + 1, loc, v :: st, (N, S, h))))
    | .lload i => rr_ld loc i 1 (fun v => F (.inl (k + 1, loc, v :: st, (N, S, h))))
    | .lload_n i => rr_ld loc i 1 (fun v => F (.inl (k + 1, loc, v :: st, (N, S, h))))
    | .aload i => rr_ld loc i 2 (fun v => F (.inl (k + 1, loc, v :: st, (N, S, h))))
    | .aload_n i => rr_ld loc i 2 (fun v => F (.inl (k + 1, loc, v :: st, (N, S, h))))
    | .istore i => match st with
      | .int x :: r => F (.inl (k + 1, rr_put loc i (.int x), r, (N, S, h)))
      | _ => False
    | .istore_n i => match st with
      | .int x :: r => F (.inl (k + 1, rr_put loc i (.int x), r, (N, S, h)))
      | _ => False
    | .astore i => match st with
      | .ref x :: r => F (.inl (k + 1, rr_put loc i (.ref x), r, (N, S, h)))
      | _ => False
    | .astore_n i => match st with
      | .ref x :: r => F (.inl (k + 1, rr_put loc i (.ref x), r, (N, S, h)))
      | _ => False
    | .lstore i => match st with
      | .long x :: r => F (.inl (k + 1, rr_putL loc i (.long x), r, (N, S, h)))
      | _ => False
    | .lstore_n i => match st with
      | .long x :: r => F (.inl (k + 1, rr_putL loc i (.long x), r, (N, S, h)))
      | _ => False
    | .iinc i n => match rr_get loc i with
      | some (.int x) => F (.inl (k + 1, rr_put loc i (.int (x + Int32.ofInt n)), st, (N, S, h)))
      | _ => False
    | .iadd => match st with
      | .int y :: .int x :: r => F (.inl (k + 1, loc, .int (x + y) :: r, (N, S, h)))
      | _ => False
    | .isub => match st with
      | .int y :: .int x :: r => F (.inl (k + 1, loc, .int (x - y) :: r, (N, S, h)))
      | _ => False
    | .imul => match st with
      | .int y :: .int x :: r => F (.inl (k + 1, loc, .int (x * y) :: r, (N, S, h)))
      | _ => False
    | .iand => match st with
      | .int y :: .int x :: r => F (.inl (k + 1, loc, .int (x &&& y) :: r, (N, S, h)))
      | _ => False
    | .ior => match st with
      | .int y :: .int x :: r => F (.inl (k + 1, loc, .int (x ||| y) :: r, (N, S, h)))
      | _ => False
    | .ixor => match st with
      | .int y :: .int x :: r => F (.inl (k + 1, loc, .int (x ^^^ y) :: r, (N, S, h)))
      | _ => False
    | .ishl => match st with
      | .int y :: .int x :: r => F (.inl (k + 1, loc, .int (x <<< (y &&& 31)) :: r, (N, S, h)))
      | _ => False
    | .ishr => match st with
      | .int y :: .int x :: r => F (.inl (k + 1, loc, .int (x >>> (y &&& 31)) :: r, (N, S, h)))
      | _ => False
    | .iushr => match st with
      | .int y :: .int x :: r => F (.inl (k + 1, loc, .int (x.toUInt32 >>> (y.toUInt32 &&& Int32.toUInt32 31)).toInt32 :: r, (N, S, h)))
      | _ => False
    | .ineg => match st with
      | .int x :: r => F (.inl (k + 1, loc, .int (-x) :: r, (N, S, h)))
      | _ => False
    | .i2l => match st with
      | .int x :: r => F (.inl (k + 1, loc, .long x.toInt64 :: r, (N, S, h)))
      | _ => False
    | .i2c => match st with
      | .int x :: r => F (.inl (k + 1, loc, .int (x.toUInt32 % 65536).toInt32 :: r, (N, S, h)))
      | _ => False
    | .ladd => match st with
      | .long y :: .long x :: r => F (.inl (k + 1, loc, .long (x + y) :: r, (N, S, h)))
      | _ => False
    | .lsub => match st with
      | .long y :: .long x :: r => F (.inl (k + 1, loc, .long (x - y) :: r, (N, S, h)))
      | _ => False
    | .lmul => match st with
      | .long y :: .long x :: r => F (.inl (k + 1, loc, .long (x * y) :: r, (N, S, h)))
      | _ => False
    | .land => match st with
      | .long y :: .long x :: r => F (.inl (k + 1, loc, .long (x &&& y) :: r, (N, S, h)))
      | _ => False
    | .lor => match st with
      | .long y :: .long x :: r => F (.inl (k + 1, loc, .long (x ||| y) :: r, (N, S, h)))
      | _ => False
    | .lshl => match st with
      | .int y :: .long x :: r => F (.inl (k + 1, loc, .long (x <<< (y.toInt64 &&& 63)) :: r, (N, S, h)))
      | _ => False
    | .ldiv => match st with
      | .long y :: .long x :: r => (¬ y = 0) ∧ F (.inl (k + 1, loc, .long (x / y) :: r, (N, S, h)))
      | _ => False
    | .lrem => match st with
      | .long y :: .long x :: r => (¬ y = 0) ∧ F (.inl (k + 1, loc, .long (x - x / y * y) :: r, (N, S, h)))
      | _ => False
    | .lneg => match st with
      | .long x :: r => F (.inl (k + 1, loc, .long (-x) :: r, (N, S, h)))
      | _ => False
    | .lcmp => match st with
      | .long y :: .long x :: r => F (.inl (k + 1, loc, .int (lg_cmp x y) :: r, (N, S, h)))
      | _ => False
    | .dup => match st with
      | .int x :: r => F (.inl (k + 1, loc, .int x :: .int x :: r, (N, S, h)))
      | .ref x :: r => F (.inl (k + 1, loc, .ref x :: .ref x :: r, (N, S, h)))
      | _ => False
    | .dup2 => match st with
      | .int y :: .ref x :: r => F (.inl (k + 1, loc, .int y :: .ref x :: .int y :: .ref x :: r, (N, S, h)))
      | _ => False
    | .pop => match st with
      | .int _ :: r => F (.inl (k + 1, loc, r, (N, S, h)))
      | _ => False
    | .if_icmp c _ => match st with
      | .int y :: .int x :: r => rr_br c x y (F (.inl (a, loc, r, (N, S, h)))) (F (.inl (k + 1, loc, r, (N, S, h))))
      | _ => False
    | .ifCond c _ => match st with
      | .int x :: r => rr_br c x 0 (F (.inl (a, loc, r, (N, S, h)))) (F (.inl (k + 1, loc, r, (N, S, h))))
      | _ => False
    | .goto _ => F (.inl (a, loc, st, (N, S, h)))
    | .tableswitch _ _ _ _ => match st, rr_nth rr_sw b with
      | .int x :: r, some l => rr_sws x (F (.inl (a, loc, r, (N, S, h)))) (fun t => F (.inl (t, loc, r, (N, S, h)))) l
      | _, _ => False
    | .lookupswitch _ _ => match st, rr_nth rr_sw b with
      | .int x :: r, some l => rr_sws x (F (.inl (a, loc, r, (N, S, h)))) (fun t => F (.inl (t, loc, r, (N, S, h)))) l
      | _, _ => False
    | .getfield _ => match st with
      | .ref q :: r => ∃ fs, h q = some (.inr (a, fs)) ∧ match rr_nth fs b with
        | some v => F (.inl (k + 1, loc, v :: r, (N, S, h)))
        | none => False
      | _ => False
    | .putfield _ => match rr_ftc a b, st with
      | 0, .int x :: .ref q :: r => rr_stF N S h q a b (.int x) (fun H' => F (.inl (k + 1, loc, r, H')))
      | 1, .long x :: .ref q :: r => rr_stF N S h q a b (.long x) (fun H' => F (.inl (k + 1, loc, r, H')))
      | 2, .int x :: .ref q :: r => (x = 0 ∨ x = 1) ∧ rr_stF N S h q a b (.int x) (fun H' => F (.inl (k + 1, loc, r, H')))
      | 3, .ref x :: .ref q :: r => rr_stF N S h q a b (.ref x) (fun H' => F (.inl (k + 1, loc, r, H')))
      | _, _ => False
    | .getstatic _ => match rr_nth rr_stv a with
      | some v => F (.inl (k + 1, loc, v :: st, (N, S, h)))
      | none => False
    | .arraylength => match st with
      | .ref q :: r => ∃ c n x, h q = some (.inl (c, n, x)) ∧ F (.inl (k + 1, loc, .int (Int32.ofNat n) :: r, (N, S, h)))
      | _ => False
    | .iaload => match st with
      | .int i :: .ref q :: r => ∃ c n f, h q = some (.inl (c, n, .inl f)) ∧ cond (Nat.beq c 0 || Nat.beq c 8) (vp_in i n ∧ F (.inl (k + 1, loc, .int (f i.toNatClampNeg) :: r, (N, S, h)))) False
      | _ => False
    | .baload => match st with
      | .int i :: .ref q :: r => ∃ c n f, h q = some (.inl (c, n, .inl f)) ∧ cond (Nat.beq c 2 || Nat.beq c 9) (vp_in i n ∧ F (.inl (k + 1, loc, .int (f i.toNatClampNeg) :: r, (N, S, h)))) False
      | _ => False
    | .laload => match st with
      | .int i :: .ref q :: r => ∃ n f, h q = some (.inl (1, n, .inr (.inl f))) ∧ vp_in i n ∧ F (.inl (k + 1, loc, .long (f i.toNatClampNeg) :: r, (N, S, h)))
      | _ => False
    | .aaload => match st with
      | .int i :: .ref q :: r => ∃ n f, h q = some (.inl (3, n, .inr (.inr (.inr (.inr f))))) ∧ vp_in i n ∧ ∃ t, f i.toNatClampNeg = some t ∧ F (.inl (k + 1, loc, .ref t :: r, (N, S, h)))
      | _ => False
    | .iastore => match st with
      | .int x :: .int i :: .ref q :: r => ∃ n f, h q = some (.inl (0, n, .inl f)) ∧ vp_in i n ∧ F (.inl (k + 1, loc, r, (N, S, rr_set h q (.inl (0, n, .inl (upd f i.toNatClampNeg x))))))
      | _ => False
    | .bastore => match st with
      | .int x :: .int i :: .ref q :: r => ∃ n f, h q = some (.inl (2, n, .inl f)) ∧ vp_in i n ∧ (x = 0 ∨ x = 1) ∧ F (.inl (k + 1, loc, r, (N, S, rr_set h q (.inl (2, n, .inl (upd f i.toNatClampNeg x))))))
      | _ => False
    | .lastore => match st with
      | .long x :: .int i :: .ref q :: r => ∃ n f, h q = some (.inl (1, n, .inr (.inl f))) ∧ vp_in i n ∧ F (.inl (k + 1, loc, r, (N, S, rr_set h q (.inl (1, n, .inr (.inl (vp_updL f i.toNatClampNeg x)))))))
      | _ => False
    | .new _ => match rr_nth rr_dfs a with
      | some fs => cond (Nat.blt N 1000000) (F (.inl (k + 1, loc, .ref N :: st, (N + 1, S + fs.length, rr_set h N (.inr (a, fs)))))) False
      | none => False
    | .newarray t => match st, t with
      | .int n :: r, .int => (¬ n < 0 ∧ n.toNatClampNeg ≤ 1000 ∧ N < 1000000) ∧ F (.inl (k + 1, loc, .ref N :: r, (N + 1, S + n.toNatClampNeg, rr_set h N (.inl (0, n.toNatClampNeg, .inl (fun _ => 0))))))
      | .int n :: r, .long => (¬ n < 0 ∧ n.toNatClampNeg ≤ 1000 ∧ N < 1000000) ∧ F (.inl (k + 1, loc, .ref N :: r, (N + 1, S + n.toNatClampNeg, rr_set h N (.inl (1, n.toNatClampNeg, .inr (.inl (fun _ => 0)))))))
      | .int n :: r, .boolean => (¬ n < 0 ∧ n.toNatClampNeg ≤ 1000 ∧ N < 1000000) ∧ F (.inl (k + 1, loc, .ref N :: r, (N + 1, S + n.toNatClampNeg, rr_set h N (.inl (2, n.toNatClampNeg, .inl (fun _ => 0))))))
      | _, _ => False
    | .multianewarray _ _ => match st with
      | .int m :: .int n :: r => (¬ n < 0 ∧ ¬ m < 0 ∧ n.toNatClampNeg ≤ 1000 ∧ m.toNatClampNeg ≤ 1000 ∧ N + n.toNatClampNeg < 1000000) ∧ F (.inl (k + 1, loc, .ref N :: r, (N + 1 + n.toNatClampNeg, S + n.toNatClampNeg + n.toNatClampNeg * m.toNatClampNeg,
          rr_set (rr_setR h (N + 1) n.toNatClampNeg (.inl (1, m.toNatClampNeg, .inr (.inl (fun _ => 0))))) N (.inl (3, n.toNatClampNeg, .inr (.inr (.inr (.inr (fun i => if i < n.toNatClampNeg then some (N + 1 + i) else none)))))))))
      | _ => False
    | .invokevirtual _ => match rr_pop b [] st with
      | some (.ref q :: args, rest) => match rr_nth rr_mcl a with
        | some cc => ∃ fs, h q = some (.inr (cc, fs)) ∧ cond (Nat.ble (rr_cat rest) 8 && Nat.ble (rr_cat (.ref q :: args)) (rr_max a)) (F (.inr (.inl (a, .ref q :: args, rest)))) False
        | none => False
      | _ => False
    | .invokespecial _ => match rr_pop b [] st with
      | some (.ref q :: args, rest) => cond (Nat.beq a 9998) (cond (Nat.ble (rr_cat rest) 8) (F (.inl (k + 1, loc, rest, (N, S, h)))) False) (cond (Nat.ble (rr_cat rest) 8 && Nat.ble (rr_cat (.ref q :: args)) (rr_max a)) (F (.inr (.inl (a, .ref q :: args, rest)))) False)
      | _ => False
    | .invokestatic _ => cond (Nat.beq a 9999)
        (match z, st with
        | 0, .int n :: .int dp :: .ref q1 :: .int sp :: .ref q0 :: r => ∃ n0 f n1 g, h q0 = some (.inl (0, n0, .inl f)) ∧ h q1 = some (.inl (0, n1, .inl g)) ∧ (¬ sp < 0 ∧ ¬ dp < 0 ∧ ¬ n < 0 ∧ sp.toNatClampNeg + n.toNatClampNeg ≤ n0 ∧ dp.toNatClampNeg + n.toNatClampNeg ≤ n1) ∧ cond (Nat.ble (rr_cat r) 8) (F (.inl (k + 1, loc, r, (N, S, rr_set h q1 (.inl (0, n1, .inl (va_cpy f g sp.toNatClampNeg dp.toNatClampNeg n.toNatClampNeg))))))) False
        | 1, .int n :: .int dp :: .ref q1 :: .int sp :: .ref q0 :: r => ∃ n0 f n1 g, h q0 = some (.inl (1, n0, .inr (.inl f))) ∧ h q1 = some (.inl (1, n1, .inr (.inl g))) ∧ (¬ sp < 0 ∧ ¬ dp < 0 ∧ ¬ n < 0 ∧ sp.toNatClampNeg + n.toNatClampNeg ≤ n0 ∧ dp.toNatClampNeg + n.toNatClampNeg ≤ n1) ∧ cond (Nat.ble (rr_cat r) 8) (F (.inl (k + 1, loc, r, (N, S, rr_set h q1 (.inl (1, n1, .inr (.inl (va_cpy f g sp.toNatClampNeg dp.toNatClampNeg n.toNatClampNeg)))))))) False
        | _, _ => False)
        (cond (Nat.beq a 9997) (match st with
        | .long y :: .long x :: r => cond (Nat.ble (rr_cat r) 8) (F (.inl (k + 1, loc, .long (if y < x then x else y) :: r, (N, S, h)))) False
        | _ => False)
        (cond (Nat.beq a 9996) (match st with
        | .long x :: r => cond (Nat.ble (rr_cat r) 8) (F (.inl (k + 1, loc, .long (if 0 < x then x else -x) :: r, (N, S, h)))) False
        | _ => False)
        (match rr_pop b [] st with
        | some (args, rest) => cond (Nat.ble (rr_cat rest) 8 && Nat.ble (rr_cat args) (rr_max a)) (F (.inr (.inl (a, args, rest)))) False
        | none => False)))
    | .ireturn => match st, a with
      | [.int x], 0 => F (.inr (.inr (some (.int x))))
      | [.int x], 1 => (x = 0 ∨ x = 1) ∧ F (.inr (.inr (some (.int x))))
      | [.int x], 2 => (narrow .char (.int x) = .int x) ∧ F (.inr (.inr (some (.int x))))
      | [.int x], 3 => (narrow .byte (.int x) = .int x) ∧ F (.inr (.inr (some (.int x))))
      | _, _ => False
    | .lreturn => match st with
      | [.long x] => F (.inr (.inr (some (.long x))))
      | _ => False
    | .areturn => match st with
      | [.ref x] => F (.inr (.inr (some (.ref x))))
      | _ => False
    | .return_ => match st with
      | [] => F (.inr (.inr none))
      | _ => False
    | _ => False
def rr_ex (e : rr_I) (k : Nat) (loc : rr_L) (st : List Value) (H : rr_H) (F : rr_O → Prop) : Prop := match H with
  | (N, S, h) => rr_ex0 e k loc st N S h F
