/-! In the plane: a balance has within it one part that stands still, two straight against one another, or three that hold one another. -/
theorem pl_pos {M : Nat} {f : Nat → Int} (h : ∀ j, j < M → 0 ≤ f j) {k : Nat} (hk : k < M) (hf : 0 < f k) : 0 < ms_sm M f := Int.lt_of_lt_of_le hf (ms_le_of h k hk)
theorem pl_neg {M : Nat} (f : Nat → Int) : ms_sm M (fun j => -f j) = -ms_sm M f := by
  rw [ms_cg (g := fun j => (-1) * f j) (fun j _ => by omega), ms_mul]
  omega
/-- a sum that is 0, with a positive term, has a negative one -/
theorem pl_ex {M : Nat} {f : Nat → Int} (h0 : ms_sm M f = 0) {k : Nat} (hk : k < M) (hf : 0 < f k) : ∃ j, j < M ∧ f j < 0 := by
  apply Classical.byContradiction
  intro hn
  have := pl_pos (M := M) (f := f) (fun j hj => by
    rcases Int.lt_or_le (f j) 0 with h | h
    · exact absurd ⟨j, hj, h⟩ hn
    · exact h) hk hf
  omega
def pl_cr (al ac : Nat → Int) (i j : Nat) : Int := al i * ac j - ac i * al j
def pl_dt (al ac : Nat → Int) (i j : Nat) : Int := al i * al j + ac i * ac j
theorem pl_C {M : Nat} {al ac l : Nat → Int} (hl : ∀ j, j < M → 0 ≤ l j) (h1 : ms_sm M (fun j => l j * al j) = 0) (h2 : ms_sm M (fun j => l j * ac j) = 0) (hne : ∃ j, j < M ∧ 0 < l j) :
    (∃ i, i < M ∧ 0 < l i ∧ al i = 0 ∧ ac i = 0) ∨ (∃ i j, i < M ∧ j < M ∧ 0 < l i ∧ 0 < l j ∧ pl_cr al ac i j = 0 ∧ pl_dt al ac i j < 0) ∨
    (∃ i j k, i < M ∧ j < M ∧ k < M ∧ 0 < l i ∧ 0 < l j ∧ 0 < l k ∧ 0 < pl_cr al ac i j ∧ 0 < pl_cr al ac j k ∧ 0 < pl_cr al ac k i) := by
  by_cases hz : ∃ i, i < M ∧ 0 < l i ∧ al i = 0 ∧ ac i = 0
  · exact Or.inl hz
  by_cases ho : ∃ i j, i < M ∧ j < M ∧ 0 < l i ∧ 0 < l j ∧ pl_cr al ac i j = 0 ∧ pl_dt al ac i j < 0
  · exact Or.inr (Or.inl ho)
  refine Or.inr (Or.inr ?_)
  obtain ⟨s, hs, hls⟩ := hne
  have nz : ∀ j, j < M → 0 < l j → 0 < pl_dt al ac j j := by
    intro j hj hlj
    have a1 := ms_sq (al j)
    have a2 := ms_sq (ac j)
    have a3 : ¬ (al j * al j = 0 ∧ ac j * ac j = 0) := fun q => hz ⟨j, hj, hlj, by rcases Int.mul_eq_zero.mp q.1 with h | h <;> exact h, by rcases Int.mul_eq_zero.mp q.2 with h | h <;> exact h⟩
    unfold pl_dt
    omega
  have hss := nz s hs hls
  have sdt : ms_sm M (fun j => l j * pl_dt al ac s j) = 0 := by
    rw [ms_cg (g := fun j => al s * (l j * al j) + ac s * (l j * ac j)) (fun j _ => by unfold pl_dt; grind), ms_add, ms_mul, ms_mul, h1, h2]
    simp
  have scr : ms_sm M (fun j => l j * pl_cr al ac s j) = 0 := by
    rw [ms_cg (g := fun j => al s * (l j * ac j) + (-ac s) * (l j * al j)) (fun j _ => by unfold pl_cr; grind), ms_add, ms_mul, ms_mul, h1, h2]
    simp
  -- what lies on the line of s goes with it
  have col : ∀ j, j < M → 0 < l j → pl_cr al ac s j = 0 → 0 < pl_dt al ac s j := by
    intro j hj hlj hc
    have hjj := nz j hj hlj
    have hid : pl_dt al ac s j * pl_dt al ac s j + pl_cr al ac s j * pl_cr al ac s j = pl_dt al ac s s * pl_dt al ac j j := by
      unfold pl_dt pl_cr
      grind
    rw [hc] at hid
    have hp := Int.mul_pos hss hjj
    rcases Int.lt_or_le (pl_dt al ac s j) 0 with h | h
    · exact absurd ⟨s, j, hs, hj, hls, hlj, hc, h⟩ ho
    · rcases Int.lt_or_eq_of_le h with h | h
      · exact h
      · exfalso
        rw [← h] at hid
        omega
  -- someone is off the line
  obtain ⟨w, hw, hwn⟩ := pl_ex sdt hs (Int.mul_pos hls hss)
  have hlw : 0 < l w := by
    rcases Int.lt_or_eq_of_le (hl w hw) with h | h
    · exact h
    · rw [← h, Int.zero_mul] at hwn; omega
  have hwd : pl_dt al ac s w < 0 := by
    rcases Int.lt_or_le (pl_dt al ac s w) 0 with h | h
    · exact h
    · have := Int.mul_nonneg (hl w hw) h
      omega
  have hwc : pl_cr al ac s w ≠ 0 := fun q => by
    have := col w hw hlw q
    omega
  -- so there are a left one and a right one
  have hLR : (∃ j, j < M ∧ 0 < l j * pl_cr al ac s j) ∧ ∃ j, j < M ∧ l j * pl_cr al ac s j < 0 := by
    rcases Int.lt_or_lt_of_ne hwc with h | h
    · have hn : l w * pl_cr al ac s w < 0 := Int.mul_neg_of_pos_of_neg hlw h
      refine ⟨?_, ⟨w, hw, hn⟩⟩
      obtain ⟨j, hj, hjn⟩ := pl_ex (M := M) (f := fun j => -(l j * pl_cr al ac s j)) (by rw [pl_neg, scr]; rfl) hw (by omega)
      exact ⟨j, hj, by omega⟩
    · have hp : 0 < l w * pl_cr al ac s w := Int.mul_pos hlw h
      exact ⟨⟨w, hw, hp⟩, pl_ex scr hw hp⟩
  obtain ⟨⟨L, hL, hLp⟩, -⟩ := hLR
  have hlL : 0 < l L := by
    rcases Int.lt_or_eq_of_le (hl L hL) with h | h
    · exact h
    · rw [← h, Int.zero_mul] at hLp; omega
  have hLc : 0 < pl_cr al ac s L := by
    rcases Int.lt_or_le 0 (pl_cr al ac s L) with h | h
    · exact h
    · have := Int.mul_nonneg (Int.le_of_lt hlL) (show 0 ≤ -pl_cr al ac s L by omega)
      rw [Int.mul_neg] at this
      omega
  apply Classical.byContradiction
  intro hno
  have hle : ∀ i j, i < M → j < M → 0 < l i → 0 < l j → 0 < pl_cr al ac s i → pl_cr al ac s j < 0 → pl_cr al ac i j ≤ 0 := by
    intro i j hi hj hli hlj hci hcj
    rcases Int.lt_or_le 0 (pl_cr al ac i j) with h | h
    · exfalso
      refine hno ⟨s, i, j, hs, hi, hj, hls, hli, hlj, hci, h, ?_⟩
      have : pl_cr al ac j s = -pl_cr al ac s j := by unfold pl_cr; grind
      omega
    · exact h
  -- the sums of the left ones, against all: left against right and against the line
  have hA : ∀ j, ms_sm M (fun i => (if 0 < pl_cr al ac s i then l i else 0) * pl_cr al ac i j) = ms_sm M (fun i => (if 0 < pl_cr al ac s i then l i else 0) * al i) * ac j - ms_sm M (fun i => (if 0 < pl_cr al ac s i then l i else 0) * ac i) * al j := by
    intro j
    rw [ms_cg (g := fun i => ac j * ((if 0 < pl_cr al ac s i then l i else 0) * al i) + (-al j) * ((if 0 < pl_cr al ac s i then l i else 0) * ac i)) (fun i _ => by unfold pl_cr; grind), ms_add, ms_mul, ms_mul]
    grind
  generalize hA1 : ms_sm M (fun i => (if 0 < pl_cr al ac s i then l i else 0) * al i) = A1 at hA
  generalize hA2 : ms_sm M (fun i => (if 0 < pl_cr al ac s i then l i else 0) * ac i) = A2 at hA
  -- sum over all j of l j * cross(A, a j) is 0
  have hall : ms_sm M (fun j => l j * (A1 * ac j - A2 * al j)) = 0 := by
    rw [ms_cg (g := fun j => A1 * (l j * ac j) + (-A2) * (l j * al j)) (fun j _ => by grind), ms_add, ms_mul, ms_mul, h1, h2]
    simp
  -- the left part of that sum is 0 too
  have hleft : ms_sm M (fun j => (if 0 < pl_cr al ac s j then l j else 0) * (A1 * ac j - A2 * al j)) = 0 := by
    rw [ms_cg (g := fun j => A1 * ((if 0 < pl_cr al ac s j then l j else 0) * ac j) + (-A2) * ((if 0 < pl_cr al ac s j then l j else 0) * al j)) (fun j _ => by grind), ms_add, ms_mul, ms_mul, hA1, hA2]
    grind
  -- the rest: right ones and those on the line, each at most 0, s less
  have hrest : ms_sm M (fun j => -((l j - (if 0 < pl_cr al ac s j then l j else 0)) * (A1 * ac j - A2 * al j))) = 0 := by
    rw [pl_neg, ms_cg (g := fun j => l j * (A1 * ac j - A2 * al j) + (-1) * ((if 0 < pl_cr al ac s j then l j else 0) * (A1 * ac j - A2 * al j))) (fun j _ => by grind), ms_add, ms_mul, hall, hleft]
    rfl
  have hsgn : ∀ j, j < M → 0 < l j → ¬ 0 < pl_cr al ac s j → A1 * ac j - A2 * al j ≤ 0 := by
    intro j hj hlj hcj
    rw [← hA j]
    have : 0 ≤ ms_sm M (fun i => -((if 0 < pl_cr al ac s i then l i else 0) * pl_cr al ac i j)) := by
      refine ms_nonneg (fun i hi => ?_)
      by_cases hci : 0 < pl_cr al ac s i
      · rw [if_pos hci]
        rcases Int.lt_or_eq_of_le (hl i hi) with hli | hli
        · have hneg : pl_cr al ac i j ≤ 0 := by
            rcases Int.lt_or_eq_of_le (Int.not_lt.mp hcj) with hr | hr
            · exact hle i j hi hj hli hlj hci hr
            · -- on the line: (s.s) cross(i, j) = - (s.j) cross(s, i)
              have hd := col j hj hlj hr
              have hid : pl_dt al ac s s * pl_cr al ac i j = pl_dt al ac s i * pl_cr al ac s j - pl_cr al ac s i * pl_dt al ac s j := by
                unfold pl_dt pl_cr
                grind
              rw [hr, Int.mul_zero] at hid
              have := Int.mul_pos hci hd
              rcases Int.lt_or_le 0 (pl_cr al ac i j) with h | h
              · have := Int.mul_pos hss h
                omega
              · exact h
          have := Int.mul_nonneg (Int.le_of_lt hli) (show 0 ≤ -pl_cr al ac i j by omega)
          rw [Int.mul_neg] at this
          exact this
        · rw [← hli, Int.zero_mul]; decide
      · rw [if_neg hci, Int.zero_mul]; decide
    rw [pl_neg] at this
    omega
  have hs0 : ¬ 0 < pl_cr al ac s s := by
    have : pl_cr al ac s s = 0 := by unfold pl_cr; grind
    omega
  have hsA : A1 * ac s - A2 * al s < 0 := by
    rw [← hA s]
    have : 0 < ms_sm M (fun i => -((if 0 < pl_cr al ac s i then l i else 0) * pl_cr al ac i s)) := by
      have hanti : ∀ i, pl_cr al ac i s = -pl_cr al ac s i := fun i => by unfold pl_cr; grind
      refine pl_pos (fun i hi => ?_) hL ?_
      · rw [hanti]
        by_cases hci : 0 < pl_cr al ac s i
        · rw [if_pos hci, Int.mul_neg, Int.neg_neg]
          exact Int.mul_nonneg (hl i hi) (Int.le_of_lt hci)
        · rw [if_neg hci, Int.zero_mul]; decide
      · rw [hanti, if_pos hLc, Int.mul_neg, Int.neg_neg]
        exact hLp
    rw [pl_neg] at this
    omega
  have hfin := pl_pos (M := M) (f := fun j => -((l j - (if 0 < pl_cr al ac s j then l j else 0)) * (A1 * ac j - A2 * al j))) (fun j hj => by
    by_cases hcj : 0 < pl_cr al ac s j
    · rw [if_pos hcj, Int.sub_self, Int.zero_mul]; decide
    · rw [if_neg hcj, Int.sub_zero]
      rcases Int.lt_or_eq_of_le (hl j hj) with h | h
      · have := Int.mul_nonneg (Int.le_of_lt h) (show 0 ≤ -(A1 * ac j - A2 * al j) by have := hsgn j hj h hcj; omega)
        rw [Int.mul_neg] at this
        exact this
      · rw [← h, Int.zero_mul]; decide) hs (by
    rw [if_neg hs0, Int.sub_zero]
    have := Int.mul_pos hls (show 0 < -(A1 * ac s - A2 * al s) by omega)
    rw [Int.mul_neg] at this
    exact this)
  omega
