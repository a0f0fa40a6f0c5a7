/-! Bits. -/
theorem ii_nat (a : Nat) : ii (a : Int) = nI a := Int32.ofInt_eq_ofNat
theorem bi_or (a b : Nat) : ii (a : Int) ||| ii (b : Int) = ii ((a ||| b : Nat) : Int) := by
  rw [ii_nat, ii_nat, ii_nat]
  apply Int32.toBitVec.inj
  rw [Int32.toBitVec_or]
  exact (BitVec.ofNat_or).symm
theorem bi_and (a b : Nat) : ii (a : Int) &&& ii (b : Int) = ii ((a &&& b : Nat) : Int) := by
  rw [ii_nat, ii_nat, ii_nat]
  apply Int32.toBitVec.inj
  rw [Int32.toBitVec_and]
  exact (BitVec.ofNat_and).symm
theorem bi_xor (a b : Nat) : ii (a : Int) ^^^ ii (b : Int) = ii ((a ^^^ b : Nat) : Int) := by
  rw [ii_nat, ii_nat, ii_nat]
  apply Int32.toBitVec.inj
  rw [Int32.toBitVec_xor]
  exact (BitVec.ofNat_xor).symm
theorem bi_not (b : Int) : ii b ^^^ ii (-1) = ii (-b - 1) := by
  apply Int32.toBitVec.inj
  rw [Int32.toBitVec_xor, Int32.toBitVec_ofInt, Int32.toBitVec_ofInt, Int32.toBitVec_ofInt]
  rw [show BitVec.ofInt 32 (-1) = BitVec.allOnes 32 from rfl, BitVec.xor_allOnes, show -b - 1 = -b + -1 by omega, BitVec.ofInt_add, BitVec.ofInt_neg, BitVec.not_eq_neg_add, BitVec.sub_eq_add_neg, show -1#32 = BitVec.ofInt 32 (-1) by decide]
def bdif (a b : Nat) : Nat := a ^^^ (a &&& b)
theorem bdif_bit (a b i : Nat) : (bdif a b).testBit i = (a.testBit i && !b.testBit i) := by
  unfold bdif
  rw [Nat.testBit_xor, Nat.testBit_and]
  cases a.testBit i <;> cases b.testBit i <;> rfl
theorem bi_andn (a b : Nat) : ii (a : Int) &&& ii (-(b : Int) - 1) = ii ((bdif a b : Nat) : Int) := by
  rw [← bi_not, ii_nat, ii_nat, ii_nat]
  apply Int32.toBitVec.inj
  rw [Int32.toBitVec_and, Int32.toBitVec_xor]
  show BitVec.ofNat 32 a &&& (BitVec.ofNat 32 b ^^^ BitVec.allOnes 32) = BitVec.ofNat 32 (a ^^^ (a &&& b))
  rw [BitVec.ofNat_xor, BitVec.ofNat_and, BitVec.xor_allOnes]
  ext i hi
  simp only [BitVec.getElem_and, BitVec.getElem_not, BitVec.getElem_xor]
  cases (BitVec.ofNat 32 a)[i] <;> cases (BitVec.ofNat 32 b)[i] <;> rfl
theorem bi_msk : ∀ p : Nat, p < 32 → ((ii (p : Int) &&& 31).toBitVec.smod 32).toNat = p := by decide
theorem bi_shl {x p : Nat} (hp : p < 32) (h : x * 2 ^ p < 2 ^ 32) : ii (x : Int) <<< (ii (p : Int) &&& 31) = ii ((x * 2 ^ p : Nat) : Int) := by
  rw [ii_nat x, ii_nat (x * 2 ^ p)]
  exact pk_shlN _ p (bi_msk p hp) h
theorem bi_shl1 {p : Nat} (hp : p ≤ 30) : ii 1 <<< (ii (p : Int) &&& 31) = ii ((2 ^ p : Nat) : Int) := by
  have h := bi_shl (x := 1) (p := p) (by omega) (by rw [Nat.one_mul]; exact Nat.pow_lt_pow_right (by decide) (by omega))
  rw [Nat.one_mul] at h
  exact h
theorem bi_bit {g p : Nat} (hg : g < 2147483648) (hp : p < 32) : (ii (g : Int) >>> (ii (p : Int) &&& 31)) &&& ii 1 = ii (st_bt g p) := by
  rw [ii_nat g, pk_shrN (by omega) _ p (bi_msk p hp)]
  have h1 : g / 2 ^ p < 2 ^ 32 := Nat.lt_of_le_of_lt (Nat.div_le_self _ _) (by omega)
  rw [pk_andN h1 (m := ii 1) 1 (by decide)]
  unfold st_bt
  rw [Nat.testBit_eq_decide_div_mod_eq]
  rcases Nat.mod_two_eq_zero_or_one (g / 2 ^ p) with q | q
  · rw [show 2 ^ 1 = 2 from rfl, q]; rfl
  · rw [show 2 ^ 1 = 2 from rfl, q]; rfl
theorem bt_01 (g p : Nat) : st_bt g p = 0 ∨ st_bt g p = 1 := by
  unfold st_bt
  cases g.testBit p
  · exact Or.inl rfl
  · exact Or.inr rfl
theorem bt_1 {g p : Nat} : st_bt g p = 1 ↔ g.testBit p = true := by
  unfold st_bt
  cases g.testBit p <;> decide
theorem bt_0 {g p : Nat} : st_bt g p = 0 ↔ g.testBit p = false := by
  unfold st_bt
  cases g.testBit p <;> decide
theorem bt_b3 (g p : Nat) : b3 (st_bt g p) := by
  rcases bt_01 g p with h | h <;> rw [h] <;> decide
theorem rz_t {p : Prop} {D : Decidable p} (h : p) : some (Value.int (ii 1)) = some (.int (@rb p D)) := congrArg (fun x => some (Value.int x)) (@rb_t p D h).symm
theorem rz_f {p : Prop} {D : Decidable p} (h : ¬ p) : some (Value.int (ii 0)) = some (.int (@rb p D)) := congrArg (fun x => some (Value.int x)) (@rb_f p D h).symm
theorem rz_i {p q : Prop} {D : Decidable p} {E : Decidable q} (h : p ↔ q) : some (Value.int (@rb p D)) = some (.int (@rb q E)) := by
  by_cases hp : p
  · rw [@rb_t p D hp, @rb_t q E (h.mp hp)]
  · rw [@rb_f p D hp, @rb_f q E (fun q' => hp (h.mpr q'))]
theorem ri {a b : Int} (h : a = b) : some (Value.int (ii a)) = some (.int (ii b)) := by rw [h]
theorem rl {a b : Int} (h : a = b) : some (Value.long (jj a)) = some (.long (jj b)) := by rw [h]
section
variable {C : List rr_I} {hd : List Nat} {d n k a b y : Nat} {z : Int} {Q : Option Value → rr_H → Prop} {K : Nat → rr_L → List Value → rr_H → Prop} {loc : rr_L} {st : List Value} {N S : Nat} {h : Nat → Option rr_E} {G G' : rr_L → List Value → rr_H → Prop}
theorem s_i2c {u : Int32} (he : rr_nth C k = some (.i2c, a, b, z)) (c : ct C hd d Q K n (k + 1) G) (x : Int) (e : (u.toUInt32 % 65536).toInt32 = ii x) (g : G loc (.int (ii x) :: st) (N, S, h)) : rr_step C hd d Q K (n + 1) k loc (.int u :: st) (N, S, h) := by
  unfold rr_step; rw [he]; rw [← e] at g; exact c _ _ _ g
theorem s_creturn {x : Int32} (he : rr_nth C k = some (.ireturn, 2, b, z)) (hn : narrow .char (.int x) = .int x) (g : Q (some (.int x)) (N, S, h)) : rr_step C hd d Q K (n + 1) k loc [.int x] (N, S, h) := by
  unfold rr_step; rw [he]; exact ⟨hn, g⟩
theorem s_breturn {x : Int32} (he : rr_nth C k = some (.ireturn, 3, b, z)) (hn : narrow .byte (.int x) = .int x) (g : Q (some (.int x)) (N, S, h)) : rr_step C hd d Q K (n + 1) k loc [.int x] (N, S, h) := by
  unfold rr_step; rw [he]; exact ⟨hn, g⟩
end
/-- all of n people, as a group -/
def al (n : Nat) : Nat := 2 ^ n - 1
theorem al_b {n : Nat} (h : 2 ≤ n ∧ n ≤ 4) : 3 ≤ al n ∧ al n ≤ 15 := by
  have : n = 2 ∨ n = 3 ∨ n = 4 := by omega
  rcases this with rfl | rfl | rfl <;> decide
theorem al_p {n : Nat} : ((al n : Nat) : Int) = ((2 ^ n : Nat) : Int) - 1 := by
  have : 0 < 2 ^ n := Nat.two_pow_pos n
  unfold al
  omega
theorem one_lt {n p : Nat} (h : 2 ≤ n ∧ n ≤ 4) (hp : p < n) : 1 ≤ 2 ^ p ∧ 2 ^ p < al n := by
  have h1 : n = 2 ∨ n = 3 ∨ n = 4 := by omega
  have h2 : p = 0 ∨ p = 1 ∨ p = 2 ∨ p = 3 := by omega
  rcases h1 with rfl | rfl | rfl <;> rcases h2 with rfl | rfl | rfl | rfl <;> revert hp <;> decide
