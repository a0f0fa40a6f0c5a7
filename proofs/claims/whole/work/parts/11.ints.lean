/-! Java's numbers as images of integers: sums, differences and products need no bounds, comparisons do. -/
abbrev ii (x : Int) : Int32 := Int32.ofInt x
abbrev jj (x : Int) : Int64 := Int64.ofInt x
abbrev b3 (x : Int) : Prop := -2147483648 ≤ x ∧ x ≤ 2147483647
abbrev b6 (x : Int) : Prop := -9223372036854775808 ≤ x ∧ x ≤ 9223372036854775807
theorem ii_add (a b : Int) : ii a + ii b = ii (a + b) := (Int32.ofInt_add a b).symm
theorem ii_sub (a b : Int) : ii a - ii b = ii (a - b) := (Int32.ofInt_sub a b).symm
theorem ii_mul (a b : Int) : ii a * ii b = ii (a * b) := (Int32.ofInt_mul a b).symm
theorem ii_neg (a : Int) : -ii a = ii (-a) := (Int32.ofInt_neg a).symm
theorem jj_add (a b : Int) : jj a + jj b = jj (a + b) := (Int64.ofInt_add a b).symm
theorem jj_sub (a b : Int) : jj a - jj b = jj (a - b) := (Int64.ofInt_sub a b).symm
theorem jj_mul (a b : Int) : jj a * jj b = jj (a * b) := (Int64.ofInt_mul a b).symm
theorem jj_neg (a : Int) : -jj a = jj (-a) := (Int64.ofInt_neg a).symm
theorem ii_toInt {a : Int} (h : b3 a) : (ii a).toInt = a := by
  have h1 := h.1
  have h2 := h.2
  exact Int32.toInt_ofInt_of_le (by omega) (by omega)
theorem jj_toInt {a : Int} (h : b6 a) : (jj a).toInt = a := by
  have h1 := h.1
  have h2 := h.2
  exact Int64.toInt_ofInt_of_le (by omega) (by omega)
theorem ii_of (x : Int32) : ∃ a, b3 a ∧ x = ii a := ⟨x.toInt, ⟨by have := x.le_toInt; omega, by have := x.toInt_lt; omega⟩, (Int32.ofInt_toInt x).symm⟩
theorem jj_of (x : Int64) : ∃ a, b6 a ∧ x = jj a := ⟨x.toInt, ⟨by have := x.le_toInt; omega, by have := x.toInt_lt; omega⟩, (Int64.ofInt_toInt x).symm⟩
theorem ii_lt {a b : Int} (ha : b3 a) (hb : b3 b) : ii a < ii b ↔ a < b := by rw [Int32.lt_iff_toInt_lt, ii_toInt ha, ii_toInt hb]
theorem ii_le {a b : Int} (ha : b3 a) (hb : b3 b) : ii a ≤ ii b ↔ a ≤ b := by rw [Int32.le_iff_toInt_le, ii_toInt ha, ii_toInt hb]
theorem ii_eq {a b : Int} (ha : b3 a) (hb : b3 b) : ii a = ii b ↔ a = b := ⟨fun h => by rw [← ii_toInt ha, ← ii_toInt hb, h], fun h => by rw [h]⟩
theorem jj_lt {a b : Int} (ha : b6 a) (hb : b6 b) : jj a < jj b ↔ a < b := by rw [Int64.lt_iff_toInt_lt, jj_toInt ha, jj_toInt hb]
theorem jj_le {a b : Int} (ha : b6 a) (hb : b6 b) : jj a ≤ jj b ↔ a ≤ b := by rw [Int64.le_iff_toInt_le, jj_toInt ha, jj_toInt hb]
theorem jj_eq {a b : Int} (ha : b6 a) (hb : b6 b) : jj a = jj b ↔ a = b := ⟨fun h => by rw [← jj_toInt ha, ← jj_toInt hb, h], fun h => by rw [h]⟩
theorem ii_cl {i : Nat} (h : i ≤ 2147483647) : (ii (i : Int)).toNatClampNeg = i := by
  have h1 : (ii (i : Int)).toInt = i := ii_toInt ⟨by omega, by omega⟩
  show (ii (i : Int)).toInt.toNat = i
  rw [h1]; rfl
theorem ii_vp {i m : Nat} (h : i < m) (hm : m ≤ 2147483647) : vp_in (ii (i : Int)) m := by
  rw [vp_in_iff, ii_toInt ⟨by omega, by omega⟩]; omega
theorem ii_64 {a : Int} (h : b3 a) : (ii a).toInt64 = jj a := by
  have h1 : (ii a).toInt64.toInt = a := by rw [Int32.toInt_toInt64, ii_toInt h]
  have h2 := h.1
  have h3 := h.2
  rw [← Int64.ofInt_toInt (ii a).toInt64, h1]
theorem jj_div {a b : Int} (ha : b6 a) (hb : b6 b) (h : b6 (a.tdiv b)) : jj a / jj b = jj (a.tdiv b) := by
  apply Int64.toInt_inj.mp
  rw [Int64.toInt_div, jj_toInt ha, jj_toInt hb, jj_toInt h]
  have h1 := h.1
  have h2 := h.2
  rw [Int.bmod_eq_of_le (by omega) (by omega)]
theorem jj_rem {a b : Int} (ha : b6 a) (hb : b6 b) (h : b6 (a.tdiv b)) : jj a - jj a / jj b * jj b = jj (a.tmod b) := by
  rw [jj_div ha hb h, jj_mul, jj_sub]
  congr 1
  have := Int.tmod_def a b
  rw [Int.mul_comm] at this
  exact this.symm
def fu (v : Nat → Int) (i : Nat) (x : Int) : Nat → Int := fun k => if k = i then x else v k
theorem fu_s {v : Nat → Int} {i : Nat} {x : Int} : fu v i x i = x := if_pos rfl
theorem fu_n {v : Nat → Int} {i j : Nat} {x : Int} (h : j ≠ i) : fu v i x j = v j := if_neg h
theorem fu_u {v : Nat → Int} {i : Nat} {x : Int} : upd (fun k => ii (v k)) i (ii x) = fun k => ii (fu v i x k) := by
  funext k
  show (if k = i then ii x else ii (v k)) = ii (if k = i then x else v k)
  by_cases h : k = i
  · rw [if_pos h, if_pos h]
  · rw [if_neg h, if_neg h]
theorem fu_ul {v : Nat → Int} {i : Nat} {x : Int} : vp_updL (fun k => jj (v k)) i (jj x) = fun k => jj (fu v i x k) := by
  funext k
  show (if k = i then jj x else jj (v k)) = jj (if k = i then x else v k)
  by_cases h : k = i
  · rw [if_pos h, if_pos h]
  · rw [if_neg h, if_neg h]
def fc (f g : Nat → Int) (sp dp n : Nat) : Nat → Int := fun k => if dp ≤ k ∧ k < dp + n then f (sp + (k - dp)) else g k
theorem fc_c {f g : Nat → Int} {sp dp n : Nat} : va_cpy (fun k => ii (f k)) (fun k => ii (g k)) sp dp n = fun k => ii (fc f g sp dp n k) := by
  funext k
  show (if dp ≤ k ∧ k < dp + n then ii (f (sp + (k - dp))) else ii (g k)) = ii (if dp ≤ k ∧ k < dp + n then f (sp + (k - dp)) else g k)
  by_cases h : dp ≤ k ∧ k < dp + n
  · rw [if_pos h, if_pos h]
  · rw [if_neg h, if_neg h]
theorem fc_cl {f g : Nat → Int} {sp dp n : Nat} : va_cpy (fun k => jj (f k)) (fun k => jj (g k)) sp dp n = fun k => jj (fc f g sp dp n k) := by
  funext k
  show (if dp ≤ k ∧ k < dp + n then jj (f (sp + (k - dp))) else jj (g k)) = jj (if dp ≤ k ∧ k < dp + n then f (sp + (k - dp)) else g k)
  by_cases h : dp ≤ k ∧ k < dp + n
  · rw [if_pos h, if_pos h]
  · rw [if_neg h, if_neg h]
/-- counting up -/
theorem dn {G : Nat → Prop} {b : Nat} (step : ∀ i, i ≤ b → (i < b → G (i + 1)) → G i) : ∀ i, i ≤ b → G i := by
  have aux : ∀ k i, i + k = b → G i := by
    intro k
    induction k with
    | zero => exact fun i hi => step i (by omega) (fun h => absurd h (by omega))
    | succ k ih => exact fun i hi => step i (by omega) (fun _ => ih (i + 1) (by omega))
  exact fun i hi => aux (b - i) i (by omega)
