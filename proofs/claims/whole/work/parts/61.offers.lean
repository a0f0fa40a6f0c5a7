/-! The offers behind the first stage: singles, pairs, triples. -/
def id1 (k : Nat) (a : Int) : Nat → Int := fun g => if g = k then a else 0
theorem id_s {k : Nat} {a : Int} : id1 k a k = a := if_pos rfl
theorem id_n {k g : Nat} {a : Int} (h : g ≠ k) : id1 k a g = 0 := if_neg h
theorem id_sm {k : Nat} {a : Int} {f : Nat → Int} : ∀ M, k < M → ms_sm M (fun g => id1 k a g * f g) = a * f k
  | 0, h => absurd h (Nat.not_lt_zero k)
  | M + 1, h => by
    show ms_sm M (fun g => id1 k a g * f g) + id1 k a M * f M = _
    by_cases e : k = M
    · subst e
      rw [id_s, ms_cg (g := fun _ => 0) (fun g hg => by rw [id_n (by omega), Int.zero_mul]), ms_zero]; omega
    · rw [id_sm M (by omega), id_n (by omega), Int.zero_mul]; omega
theorem id_sm1 {k : Nat} {a : Int} {M : Nat} (h : k < M) : ms_sm M (id1 k a) = a := by
  have := id_sm (k := k) (a := a) (f := fun _ => 1) M h
  rw [ms_cg (g := fun g => id1 k a g * 1) (fun g _ => (Int.mul_one _).symm), this]; omega
def ab1 (x : Int) : Int := if 0 < x then x else -x
theorem ab1_nn (x : Int) : 0 ≤ ab1 x := by unfold ab1; split <;> omega
theorem ab1_0 {x : Int} : ab1 x = 0 ↔ x = 0 := by unfold ab1; split <;> omega
/-- two ways that go straight against one another -/
theorem opp {a b c d : Int} (h1 : a * d - b * c = 0) (h2 : a * c + b * d < 0) : (ab1 c + ab1 d) * a + (ab1 a + ab1 b) * c = 0 ∧ (ab1 c + ab1 d) * b + (ab1 a + ab1 b) * d = 0 := by
  have key : ∀ a b c d : Int, a * d - b * c = 0 → a * c + b * d < 0 → (ab1 c * a + ab1 a * c = 0) ∧ (ab1 d * a + ab1 b * c = 0) := by
    intro a b c d h1 h2
    by_cases ha : a = 0
    · subst ha
      have hb : b ≠ 0 := fun e => by subst e; simp at h2
      have hc : c = 0 := by
        have : b * c = 0 := by omega
        rcases Int.mul_eq_zero.mp this with q | q
        · exact absurd q hb
        · exact q
      subst hc
      simp [ab1]
    · have h3 : c * (a * a + b * b) < 0 ∨ 0 < c * (a * a + b * b) ∨ c * (a * a + b * b) = 0 := by omega
      have e1 : c * (a * a + b * b) = a * (a * c + b * d) := by
        have : b * c = a * d := by omega
        have e2 : c * (a * a + b * b) = a * (a * c) + b * (b * c) := by grind
        rw [e2, this]; grind
      have hpos : 0 < a * a := by
        rcases Int.lt_trichotomy a 0 with q | q | q
        · exact Int.mul_pos_of_neg_of_neg q q
        · exact absurd q ha
        · exact Int.mul_pos q q
      have hsq : 0 < a * a + b * b := by have := ms_sq b; omega
      rcases Int.lt_trichotomy a 0 with q | q | q
      · have hc : 0 < c := by
          have h4 : 0 < a * (a * c + b * d) := Int.mul_pos_of_neg_of_neg q h2
          rw [← e1] at h4
          exact Int.pos_of_mul_pos_left h4 hsq |> fun z => z
        have ea : ab1 a = -a := by unfold ab1; rw [if_neg (by omega)]
        have ec : ab1 c = c := by unfold ab1; rw [if_pos hc]
        refine ⟨by rw [ea, ec]; grind, ?_⟩
        unfold ab1
        by_cases hb : 0 < b
        · have hd : d < 0 := by
            have h5 : a * d = b * c := by omega
            have h6 : 0 < b * c := Int.mul_pos hb hc
            rw [← h5] at h6
            rcases Int.lt_trichotomy d 0 with z | z | z
            · exact z
            · subst z; simp at h6
            · have := Int.mul_neg_of_neg_of_pos q z; omega
          rw [if_neg (by omega), if_pos hb]; grind
        · by_cases hb0 : b = 0
          · subst hb0
            have : a * d = 0 := by omega
            have hd : d = 0 := by
              rcases Int.mul_eq_zero.mp this with z | z
              · exact absurd z ha
              · exact z
            subst hd; simp
          · have hd : 0 < d := by
              have h5 : a * d = b * c := by omega
              have h6 : b * c < 0 := Int.mul_neg_of_neg_of_pos (by omega) hc
              rw [← h5] at h6
              rcases Int.lt_trichotomy d 0 with z | z | z
              · have := Int.mul_pos_of_neg_of_neg q z; omega
              · subst z; simp at h6
              · exact z
            rw [if_pos hd, if_neg hb]; grind
      · exact absurd q ha
      · have hc : c < 0 := by
          have h4 : a * (a * c + b * d) < 0 := Int.mul_neg_of_pos_of_neg q h2
          rw [← e1] at h4
          rcases Int.lt_trichotomy c 0 with z | z | z
          · exact z
          · subst z; simp at h4
          · have := Int.mul_pos z hsq; omega
        have ea : ab1 a = a := by unfold ab1; rw [if_pos q]
        have ec : ab1 c = -c := by unfold ab1; rw [if_neg (by omega)]
        refine ⟨by rw [ea, ec]; grind, ?_⟩
        unfold ab1
        by_cases hb : 0 < b
        · have hd : d < 0 := by
            have h5 : a * d = b * c := by omega
            have h6 : b * c < 0 := Int.mul_neg_of_pos_of_neg hb hc
            rw [← h5] at h6
            rcases Int.lt_trichotomy d 0 with z | z | z
            · exact z
            · subst z; simp at h6
            · have := Int.mul_pos q z; omega
          rw [if_neg (by omega), if_pos hb]; grind
        · by_cases hb0 : b = 0
          · subst hb0
            have : a * d = 0 := by omega
            have hd : d = 0 := by
              rcases Int.mul_eq_zero.mp this with z | z
              · exact absurd z ha
              · exact z
            subst hd; simp
          · have hd : 0 < d := by
              have h5 : a * d = b * c := by omega
              have h6 : 0 < b * c := Int.mul_pos_of_neg_of_neg (by omega) hc
              rw [← h5] at h6
              rcases Int.lt_trichotomy d 0 with z | z | z
              · have := Int.mul_neg_of_pos_of_neg q z; omega
              · subst z; simp at h6
              · exact z
            rw [if_pos hd, if_neg hb]; grind
  have k1 := key a b c d h1 h2
  have k2 := key b a d c (by omega) (by omega)
  constructor
  · have : (ab1 c + ab1 d) * a + (ab1 a + ab1 b) * c = (ab1 c * a + ab1 a * c) + (ab1 d * a + ab1 b * c) := by grind
    omega
  · have : (ab1 c + ab1 d) * b + (ab1 a + ab1 b) * d = (ab1 d * b + ab1 b * d) + (ab1 c * b + ab1 a * d) := by grind
    omega
/-- what is offered: singles, pairs, triples of parts that are open -/
def P1s (op : Nat → Prop) (al ac H : Nat → Int) (s : Nat) (t b : Int) : Prop := ∃ g, op g ∧ al g = 0 ∧ ac g = 0 ∧ s = 2 ^ g ∧ t = H g ∧ b = 1
def P2s (op : Nat → Prop) (al ac H : Nat → Int) (s : Nat) (t b : Int) : Prop := ∃ g f, op g ∧ op f ∧ g < f ∧ pl_cr al ac g f = 0 ∧ pl_dt al ac g f < 0 ∧ s = 2 ^ g ||| 2 ^ f ∧ t = (ab1 (al f) + ab1 (ac f)) * H g + (ab1 (al g) + ab1 (ac g)) * H f ∧ b = (ab1 (al f) + ab1 (ac f)) + (ab1 (al g) + ab1 (ac g))
def P3s (op : Nat → Prop) (al ac H : Nat → Int) (s : Nat) (t b : Int) : Prop := ∃ g f e, op g ∧ op f ∧ op e ∧ g < f ∧ f < e ∧ ((0 < pl_cr al ac f e ∧ 0 < pl_cr al ac e g ∧ 0 < pl_cr al ac g f) ∨ (pl_cr al ac f e < 0 ∧ pl_cr al ac e g < 0 ∧ pl_cr al ac g f < 0)) ∧ s = 2 ^ g ||| 2 ^ f ||| 2 ^ e ∧ t = ab1 (pl_cr al ac f e) * H g + ab1 (pl_cr al ac e g) * H f + ab1 (pl_cr al ac g f) * H e ∧ b = ab1 (pl_cr al ac f e) + ab1 (pl_cr al ac e g) + ab1 (pl_cr al ac g f)
def PAs (op : Nat → Prop) (al ac H : Nat → Int) (s : Nat) (t b : Int) : Prop := P1s op al ac H s t b ∨ P2s op al ac H s t b ∨ P3s op al ac H s t b
theorem pw_bit {g j : Nat} : (2 ^ g).testBit j = true ↔ j = g := by
  rw [Nat.testBit_two_pow]
  constructor
  · intro h; have := of_decide_eq_true h; omega
  · intro h; subst h; simp
theorem PA_e {M : Nat} {op : Nat → Prop} {al ac H : Nat → Int} (hM : ∀ g, op g → g < M) {s : Nat} {t b : Int} (h : PAs op al ac H s t b) :
    ∃ e : Nat → Int, (∀ g, 0 ≤ e g) ∧ (∀ g, ¬ op g → e g = 0) ∧ ms_sm M (fun g => e g * al g) = 0 ∧ ms_sm M (fun g => e g * ac g) = 0 ∧ t = ms_sm M (fun g => e g * H g) ∧ b = ms_sm M e ∧ ∀ g, (s.testBit g = true ↔ 0 < e g) := by
  rcases h with ⟨g, o1, a1, a2, rfl, rfl, rfl⟩ | ⟨g, f, o1, o2, hgf, hc, hd, rfl, rfl, rfl⟩ | ⟨g, f, e, o1, o2, o3, hgf, hfe, hc, rfl, rfl, rfl⟩
  · refine ⟨id1 g 1, fun k => ?_, fun k hk => id_n (fun q => hk (q ▸ o1)), ?_, ?_, ?_, ?_, fun k => ?_⟩
    · unfold id1; split <;> omega
    · rw [id_sm M (hM g o1), a1]; rfl
    · rw [id_sm M (hM g o1), a2]; rfl
    · rw [id_sm M (hM g o1)]; omega
    · rw [id_sm1 (hM g o1)]
    · rw [pw_bit]; unfold id1; split <;> omega
  · have hpos1 : 0 < ab1 (al f) + ab1 (ac f) := by
      have n1 := ab1_nn (al f)
      have n2 := ab1_nn (ac f)
      by_cases z : ab1 (al f) + ab1 (ac f) = 0
      · have z1 : al f = 0 := ab1_0.mp (by omega)
        have z2 : ac f = 0 := ab1_0.mp (by omega)
        unfold pl_dt at hd
        rw [z1, z2] at hd
        simp at hd
      · omega
    have hpos2 : 0 < ab1 (al g) + ab1 (ac g) := by
      have n1 := ab1_nn (al g)
      have n2 := ab1_nn (ac g)
      by_cases z : ab1 (al g) + ab1 (ac g) = 0
      · have z1 : al g = 0 := ab1_0.mp (by omega)
        have z2 : ac g = 0 := ab1_0.mp (by omega)
        unfold pl_dt at hd
        rw [z1, z2] at hd
        simp at hd
      · omega
    have ho := opp hc hd
    have sm : ∀ F : Nat → Int, ms_sm M (fun k => (id1 g (ab1 (al f) + ab1 (ac f)) k + id1 f (ab1 (al g) + ab1 (ac g)) k) * F k) = (ab1 (al f) + ab1 (ac f)) * F g + (ab1 (al g) + ab1 (ac g)) * F f := by
      intro F
      rw [ms_cg (g := fun k => id1 g (ab1 (al f) + ab1 (ac f)) k * F k + id1 f (ab1 (al g) + ab1 (ac g)) k * F k) (fun k _ => Int.add_mul _ _ _), ms_add, id_sm M (hM g o1), id_sm M (hM f o2)]
    refine ⟨fun k => id1 g (ab1 (al f) + ab1 (ac f)) k + id1 f (ab1 (al g) + ab1 (ac g)) k, fun k => ?_, fun k hk => ?_, ?_, ?_, (sm H).symm, ?_, fun k => ?_⟩
    · show 0 ≤ id1 g _ k + id1 f _ k
      unfold id1; split <;> split <;> omega
    · show id1 g _ k + id1 f _ k = 0
      have hkn : ∀ x, op x → k ≠ x := fun x ox q => hk (by rw [q]; exact ox)
      rw [id_n (hkn g o1), id_n (hkn f o2)]; rfl
    · rw [sm al]; exact ho.1
    · rw [sm ac]; exact ho.2
    · rw [ms_add, id_sm1 (hM g o1), id_sm1 (hM f o2)]
    · rw [Nat.testBit_or, Bool.or_eq_true, pw_bit, pw_bit]
      show _ ↔ 0 < id1 g _ k + id1 f _ k
      unfold id1; split <;> split <;> omega
  · have sg : 0 < ab1 (pl_cr al ac f e) ∧ 0 < ab1 (pl_cr al ac e g) ∧ 0 < ab1 (pl_cr al ac g f) := by
      unfold ab1
      rcases hc with q | q
      · rw [if_pos q.1, if_pos q.2.1, if_pos q.2.2]; exact q
      · rw [if_neg (by omega), if_neg (by omega), if_neg (by omega)]; omega
    have sm : ∀ F : Nat → Int, ms_sm M (fun k => (id1 g (ab1 (pl_cr al ac f e)) k + id1 f (ab1 (pl_cr al ac e g)) k + id1 e (ab1 (pl_cr al ac g f)) k) * F k) = ab1 (pl_cr al ac f e) * F g + ab1 (pl_cr al ac e g) * F f + ab1 (pl_cr al ac g f) * F e := by
      intro F
      rw [ms_cg (g := fun k => (id1 g (ab1 (pl_cr al ac f e)) k * F k + id1 f (ab1 (pl_cr al ac e g)) k * F k) + id1 e (ab1 (pl_cr al ac g f)) k * F k) (fun k _ => by rw [Int.add_mul, Int.add_mul]), ms_add, ms_add, id_sm M (hM g o1), id_sm M (hM f o2), id_sm M (hM e o3)]
    have bal : ∀ F : Nat → Int, pl_cr al ac f e * F g + pl_cr al ac e g * F f + pl_cr al ac g f * F e = 0 → ab1 (pl_cr al ac f e) * F g + ab1 (pl_cr al ac e g) * F f + ab1 (pl_cr al ac g f) * F e = 0 := by
      intro F hF
      unfold ab1
      rcases hc with q | q
      · rw [if_pos q.1, if_pos q.2.1, if_pos q.2.2]; exact hF
      · rw [if_neg (by omega), if_neg (by omega), if_neg (by omega)]
        have : -pl_cr al ac f e * F g + -pl_cr al ac e g * F f + -pl_cr al ac g f * F e = -(pl_cr al ac f e * F g + pl_cr al ac e g * F f + pl_cr al ac g f * F e) := by grind
        rw [this, hF]; rfl
    refine ⟨fun k => id1 g (ab1 (pl_cr al ac f e)) k + id1 f (ab1 (pl_cr al ac e g)) k + id1 e (ab1 (pl_cr al ac g f)) k, fun k => ?_, fun k hk => ?_, ?_, ?_, (sm H).symm, ?_, fun k => ?_⟩
    · show 0 ≤ id1 g _ k + id1 f _ k + id1 e _ k
      unfold id1; split <;> split <;> split <;> omega
    · show id1 g _ k + id1 f _ k + id1 e _ k = 0
      have hkn : ∀ x, op x → k ≠ x := fun x ox q => hk (by rw [q]; exact ox)
      rw [id_n (hkn g o1), id_n (hkn f o2), id_n (hkn e o3)]; rfl
    · rw [sm al]; exact bal al (by unfold pl_cr; grind)
    · rw [sm ac]; exact bal ac (by unfold pl_cr; grind)
    · rw [ms_add, ms_add, id_sm1 (hM g o1), id_sm1 (hM f o2), id_sm1 (hM e o3)]
    · rw [Nat.testBit_or, Nat.testBit_or, Bool.or_eq_true, Bool.or_eq_true, pw_bit, pw_bit, pw_bit]
      show _ ↔ 0 < id1 g _ k + id1 f _ k + id1 e _ k
      unfold id1; split <;> split <;> split <;> omega
theorem PA_c {M : Nat} {op : Nat → Prop} {al ac H l : Nat → Int} (l0 : ∀ g, 0 ≤ l g) (lz : ∀ g, ¬ op g → l g = 0) (h1 : ms_sm M (fun g => l g * al g) = 0) (h2 : ms_sm M (fun g => l g * ac g) = 0) (hne : ∃ g, g < M ∧ 0 < l g) :
    ∃ s t b, PAs op al ac H s t b ∧ ∀ g, s.testBit g = true → 0 < l g := by
  have lo : ∀ g, 0 < l g → op g := fun g hg => Classical.not_not.mp (fun q => by rw [lz g q] at hg; omega)
  rcases pl_C (fun j _ => l0 j) h1 h2 hne with ⟨i, i1, i2, i3, i4⟩ | ⟨i, j, i1, j1, i2, j2, hc, hd⟩ | ⟨i, j, k, i1, j1, k1, i2, j2, k2, c1, c2, c3⟩
  · exact ⟨_, _, _, Or.inl ⟨i, lo i i2, i3, i4, rfl, rfl, rfl⟩, fun g hg => by rw [pw_bit.mp hg]; exact i2⟩
  · have two : ∀ i j, i < j → 0 < l i → 0 < l j → pl_cr al ac i j = 0 → pl_dt al ac i j < 0 → ∃ s t b, PAs op al ac H s t b ∧ ∀ g, s.testBit g = true → 0 < l g := by
      intro i j hij i2 j2 hc hd
      refine ⟨_, _, _, Or.inr (Or.inl ⟨i, j, lo i i2, lo j j2, hij, hc, hd, rfl, rfl, rfl⟩), fun g hg => ?_⟩
      rw [Nat.testBit_or, Bool.or_eq_true, pw_bit, pw_bit] at hg
      rcases hg with rfl | rfl
      · exact i2
      · exact j2
    rcases Nat.lt_trichotomy i j with q | q | q
    · exact two i j q i2 j2 hc hd
    · subst q
      unfold pl_dt at hd
      have e1 := ms_sq (al i)
      have e2 := ms_sq (ac i)
      omega
    · refine two j i q j2 i2 ?_ ?_
      · unfold pl_cr at *; grind
      · unfold pl_dt at *
        have : al j * al i + ac j * ac i = al i * al j + ac i * ac j := by grind
        omega
  · have three : ∀ i j k, i < j → j < k → 0 < l i → 0 < l j → 0 < l k → ((0 < pl_cr al ac j k ∧ 0 < pl_cr al ac k i ∧ 0 < pl_cr al ac i j) ∨ (pl_cr al ac j k < 0 ∧ pl_cr al ac k i < 0 ∧ pl_cr al ac i j < 0)) → ∃ s t b, PAs op al ac H s t b ∧ ∀ g, s.testBit g = true → 0 < l g := by
      intro i j k hij hjk i2 j2 k2 hc
      refine ⟨_, _, _, Or.inr (Or.inr ⟨i, j, k, lo i i2, lo j j2, lo k k2, hij, hjk, hc, rfl, rfl, rfl⟩), fun g hg => ?_⟩
      rw [Nat.testBit_or, Nat.testBit_or, Bool.or_eq_true, Bool.or_eq_true, pw_bit, pw_bit, pw_bit] at hg
      rcases hg with (rfl | rfl) | rfl
      · exact i2
      · exact j2
      · exact k2
    have anti : ∀ x y, pl_cr al ac x y = -pl_cr al ac y x := fun x y => by unfold pl_cr; grind
    have self : ∀ x, pl_cr al ac x x = 0 := fun x => by unfold pl_cr; grind
    have n1 : i ≠ j := fun e => by subst e; rw [self] at c1; omega
    have n2 : j ≠ k := fun e => by subst e; rw [self] at c2; omega
    have n3 : k ≠ i := fun e => by subst e; rw [self] at c3; omega
    have b1 := anti j i
    have b2 := anti k j
    have b3 := anti i k
    have : (i < j ∧ j < k) ∨ (j < k ∧ k < i) ∨ (k < i ∧ i < j) ∨ (j < i ∧ i < k) ∨ (i < k ∧ k < j) ∨ (k < j ∧ j < i) := by omega
    rcases this with q | q | q | q | q | q
    · exact three i j k q.1 q.2 i2 j2 k2 (by omega)
    · exact three j k i q.1 q.2 j2 k2 i2 (by omega)
    · exact three k i j q.1 q.2 k2 i2 j2 (by omega)
    · exact three j i k q.1 q.2 j2 i2 k2 (by omega)
    · exact three i k j q.1 q.2 i2 k2 j2 (by omega)
    · exact three k j i q.1 q.2 k2 j2 i2 (by omega)
