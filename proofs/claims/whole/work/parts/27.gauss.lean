/-! Gauss and Jordan without fractions: what stands behind k steps. -/
def gj_sol (D : Nat) (M : Nat → Nat → Int) (z : Nat → Int) (w : Int) : Prop := ∀ q, q < D → ms_sm D (fun c => M q c * z c) = M q D * w
def gj_I (D k : Nat) (last : Int) (M A : Nat → Nat → Int) : Prop := last ≠ 0 ∧ (∀ q, q < D → ∀ j, j < k → M q j = if q = j then last else 0) ∧ ∀ z w, gj_sol D M z w ↔ gj_sol D A z w
theorem gj_0 (D : Nat) (A : Nat → Nat → Int) : gj_I D 0 1 A A := ⟨by decide, fun _ _ j hj => absurd hj (Nat.not_lt_zero j), fun _ _ => Iff.rfl⟩
theorem gj_swap {D k r : Nat} {last : Int} {M M' A : Nat → Nat → Int} (h : gj_I D k last M A) (hk : k < D) (hr : r < D) (hkr : k ≤ r) (hM : ∀ q, q < D → ∀ c, c ≤ D → M' q c = M (if q = k then r else if q = r then k else q) c) : gj_I D k last M' A := by
  obtain ⟨h1, h2, h3⟩ := h
  refine ⟨h1, fun q hq j hj => ?_, fun z w => Iff.trans ?_ (h3 z w)⟩
  · rw [hM q hq j (by omega)]
    by_cases a : q = k
    · rw [if_pos a, h2 r hr j hj, if_neg (by omega), if_neg (by omega)]
    · rw [if_neg a]
      by_cases b : q = r
      · rw [if_pos b, h2 k hk j hj, if_neg (by omega), if_neg (by omega)]
      · rw [if_neg b, h2 q hq j hj]
  · have e : ∀ q, q < D → ms_sm D (fun c => M' q c * z c) = ms_sm D (fun c => M (if q = k then r else if q = r then k else q) c * z c) := fun q hq => ms_cg (fun c hc => by rw [hM q hq c (by omega)])
    constructor
    · intro hs q hq
      have hs' : ∀ q, q < D → ms_sm D (fun c => M (if q = k then r else if q = r then k else q) c * z c) = M (if q = k then r else if q = r then k else q) D * w := fun q hq => by
        rw [← e q hq, hs q hq, hM q hq D (Nat.le_refl D)]
      by_cases a : q = k
      · have := hs' r hr
        by_cases b : r = k
        · rw [if_pos b] at this; rw [a, ← b]; exact this
        · rw [if_neg b, if_pos rfl] at this; rw [a]; exact this
      · by_cases b : q = r
        · have := hs' k hk
          rw [if_pos rfl] at this
          rw [b]; exact this
        · have := hs' q hq
          rw [if_neg a, if_neg b] at this
          exact this
    · intro hs q hq
      rw [e q hq, hM q hq D (Nat.le_refl D)]
      refine hs _ ?_
      split
      · exact hr
      · split
        · exact hk
        · exact hq
theorem gj_step {D k : Nat} {last : Int} {M M' A : Nat → Nat → Int} (h : gj_I D k last M A) (hk : k < D) (hp : M k k ≠ 0) (hkk : ∀ c, c ≤ D → M' k c = M k c) (hM : ∀ q, q < D → q ≠ k → ∀ c, c ≤ D → last * M' q c = M k k * M q c - M q k * M k c) : gj_I D (k + 1) (M k k) M' A := by
  obtain ⟨h1, h2, h3⟩ := h
  refine ⟨hp, fun q hq j hj => ?_, fun z w => Iff.trans ?_ (h3 z w)⟩
  · by_cases hqk : q = k
    · subst hqk
      rw [hkk j (by omega)]
      by_cases hjq : q = j
      · rw [if_pos hjq, hjq]
      · rw [if_neg hjq, h2 q hq j (by omega), if_neg hjq]
    · have e := hM q hq hqk j (by omega)
      have hl : ∀ a b : Int, last * a = last * b → a = b := fun a b hab => Int.eq_of_mul_eq_mul_left h1 hab
      by_cases hjk : j = k
      · subst hjk
        refine hl _ _ ?_
        rw [e, if_neg hqk]
        grind
      · have a1 := h2 q hq j (by omega)
        have a2 := h2 k hk j (by omega)
        rw [if_neg (fun z => hjk z.symm)] at a2
        rw [a1, a2] at e
        refine hl _ _ ?_
        rw [e]
        by_cases hqj : q = j
        · rw [if_pos hqj, if_pos hqj]; grind
        · rw [if_neg hqj, if_neg hqj]; grind
  · -- rows combined with the pivot's row
    have sumq : ∀ q, q < D → q ≠ k → last * ms_sm D (fun c => M' q c * z c) = M k k * ms_sm D (fun c => M q c * z c) - M q k * ms_sm D (fun c => M k c * z c) := by
      intro q hq hqk
      rw [← ms_mul, ms_cg (g := fun c => M k k * (M q c * z c) + (-M q k) * (M k c * z c)) (fun c hc => by
        have := hM q hq hqk c (by omega)
        rw [← Int.mul_assoc, this]
        grind), ms_add, ms_mul, ms_mul]
      grind
    have sumk : ms_sm D (fun c => M' k c * z c) = ms_sm D (fun c => M k c * z c) := ms_cg (fun c hc => by rw [hkk c (by omega)])
    constructor
    · intro hs q hq
      have hk0 := hs k hk
      rw [sumk, hkk D (Nat.le_refl D)] at hk0
      by_cases hqk : q = k
      · rw [hqk]; exact hk0
      · have h4 := hs q hq
        have h5 := sumq q hq hqk
        have h6 := hM q hq hqk D (Nat.le_refl D)
        rw [h4, hk0] at h5
        refine Int.eq_of_mul_eq_mul_left hp ?_
        grind
    · intro hs q hq
      by_cases hqk : q = k
      · rw [hqk, sumk, hkk D (Nat.le_refl D)]; exact hs k hk
      · have h5 := sumq q hq hqk
        have h6 := hM q hq hqk D (Nat.le_refl D)
        rw [hs q hq, hs k hk] at h5
        refine Int.eq_of_mul_eq_mul_left h1 ?_
        rw [h5]
        grind
/-- behind the last step the last column solves -/
theorem gj_end {D : Nat} {last : Int} {M A : Nat → Nat → Int} (h : gj_I D D last M A) : gj_sol D A (fun c => M c D) last := by
  obtain ⟨h1, h2, h3⟩ := h
  refine (h3 _ _).mp (fun q hq => ?_)
  rw [ln_split D q _ hq, h2 q hq q hq, if_pos rfl, ms_cg (g := fun _ => 0) (fun c hc => by
    by_cases hcq : c = q
    · rw [if_pos hcq]
    · rw [if_neg hcq, h2 q hq c hc, if_neg (fun z => hcq z.symm), Int.zero_mul]), ms_zero]
  grind
/-- no pivot: the rows leave a direction -/
theorem gj_fail {D k : Nat} {last : Int} {M A : Nat → Nat → Int} (h : gj_I D k last M A) (hk : k < D) (hz : ∀ r, k ≤ r → r < D → M r k = 0) : ∃ z : Nat → Int, z k ≠ 0 ∧ ∀ q, q < D → ms_sm D (fun c => A q c * z c) = 0 := by
  obtain ⟨h1, h2, h3⟩ := h
  refine ⟨fun c => if c = k then last else if c < k then -M c k else 0, by dsimp only; rw [if_pos rfl]; exact h1, ?_⟩
  have : gj_sol D A (fun c => if c = k then last else if c < k then -M c k else 0) 0 := by
    refine (h3 _ _).mp (fun q hq => ?_)
    rw [Int.mul_zero, ln_split D k _ hk, if_pos rfl]
    by_cases hqk : q < k
    · rw [ln_split D q _ hq, if_neg (by omega), if_neg (by omega), if_pos hqk, h2 q hq q hqk, if_pos rfl, ms_cg (g := fun _ => 0) (fun c hc => by
        by_cases a : c = q
        · rw [if_pos a]
        · rw [if_neg a]
          by_cases b : c = k
          · rw [if_pos b]
          · rw [if_neg b, if_neg b]
            by_cases d : c < k
            · rw [if_pos d, h2 q hq c d, if_neg (fun z => a z.symm), Int.zero_mul]
            · rw [if_neg d, Int.mul_zero]), ms_zero]
      grind
    · rw [hz q (by omega) hq, ms_cg (g := fun _ => 0) (fun c hc => by
        by_cases b : c = k
        · rw [if_pos b]
        · rw [if_neg b, if_neg b]
          by_cases d : c < k
          · rw [if_pos d, h2 q hq c d, if_neg (by omega), Int.zero_mul]
          · rw [if_neg d, Int.mul_zero]), ms_zero]
      grind
  intro q hq
  have h4 := this q hq
  rw [Int.mul_zero] at h4
  exact h4
/-- two steps, the first divided by 1 or -1: the second divides without rest -/
theorem gj_exact {e p a b a' b' al be rk rc : Int} (he : e = 1 ∨ e = -1) : p ∣ (e * (p * a - al * rk)) * (e * (p * b - be * rc)) - (e * (p * a' - be * rk)) * (e * (p * b' - al * rc)) := by
  refine ⟨p * (a * b - a' * b') - a * be * rc - al * rk * b + a' * al * rc + be * rk * b', ?_⟩
  rcases he with rfl | rfl <;> grind
theorem gj_exact2 {e p a b' al rk rc : Int} : p ∣ (e * (p * a - al * rk)) * rc - rk * (e * (p * b' - al * rc)) := by
  refine ⟨e * (a * rc - rk * b'), ?_⟩
  grind
