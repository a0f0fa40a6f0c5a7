/-! Gauss and Jordan as the model does it: divides without rest, stays small. -/
def gjn (k : Nat) (last : Int) (M : Nat → Nat → Int) (q c : Nat) : Int := if q = k then M q c else (M k k * M q c - M q k * M k c).tdiv last
/-- one step behind a unit -/
def gh3 (D : Nat) (e p : Int) (N M : Nat → Nat → Int) : Prop := (e = 1 ∨ e = -1) ∧ p = N 2 2 ∧ (∀ c, c ≤ D → M 2 c = N 2 c) ∧ ∀ q, q < D → q ≠ 2 → ∀ c, c ≤ D → M q c = e * (p * N q c - N q 2 * N 2 c)
def gh4 (D : Nat) (last : Int) (M : Nat → Nat → Int) : Prop := ∃ e p N L, gh3 D e p N L ∧ p ≠ 0 ∧ last = L 3 3 ∧ (∀ c, c ≤ D → M 3 c = L 3 c) ∧ ∀ q, q < D → q ≠ 3 → ∀ c, c ≤ D → p * M q c = L 3 3 * L q c - L q 3 * L 3 c
def ghs (D k : Nat) (last : Int) (M : Nat → Nat → Int) : Prop := (k ≤ 1 → last = 1) ∧ (k = 2 → last = 1 ∨ last = -1) ∧ (k = 3 → ∃ e N, gh3 D e last N M) ∧ (k = 4 → gh4 D last M)
def gcb (k : Nat) : Int := [1, 1, 2, 8, 128, 32768].getD k 32768
def grb (k : Nat) : Int := [1, 2, 4, 16, 256, 65536].getD k 65536
def gbd (D k : Nat) (B : Int) (M : Nat → Nat → Int) : Prop := ∀ q, q < D → (∀ c, c < D → -gcb k ≤ M q c ∧ M q c ≤ gcb k) ∧ (-(grb k * B) ≤ M q D ∧ M q D ≤ grb k * B)
theorem ge_d {e p a32 a33 a3c a23 a2c q2 q3 qc m : Int} (he : e = 1 ∨ e = -1) (hp : p ≠ 0) (h : p * m = e * (p * a33 - a32 * a23) * (e * (p * qc - q2 * a2c)) - e * (p * q3 - q2 * a23) * (e * (p * a3c - a32 * a2c))) : m = (p * a33 - a32 * a23) * qc - q2 * (a33 * a2c - a23 * a3c) - q3 * (p * a3c - a32 * a2c) := by
  refine Int.eq_of_mul_eq_mul_left hp ?_
  rw [h]
  rcases he with rfl | rfl <;> grind
theorem ge_2 {e p a32 a33 a3c a23 a2c m : Int} (hp : p ≠ 0) (h : p * m = e * (p * a33 - a32 * a23) * a2c - a23 * (e * (p * a3c - a32 * a2c))) : m = e * (a33 * a2c - a23 * a3c) := by
  refine Int.eq_of_mul_eq_mul_left hp ?_
  rw [h]
  grind
theorem ge_k {p a32 a33 a3c a34 a23 a24 a2c : Int} : (a33 * a24 - a23 * a34) * (p * a3c - a32 * a2c) - (p * a34 - a32 * a24) * (a33 * a2c - a23 * a3c) = (p * a33 - a32 * a23) * (a24 * a3c - a34 * a2c) := by grind
theorem ge_e {e dl x : Int} (he : e = 1 ∨ e = -1) (h : dl ∣ x) : e * dl ∣ x := by
  rcases he with rfl | rfl
  · rw [Int.one_mul]; exact h
  · rw [Int.neg_mul, Int.one_mul]; exact Int.neg_dvd.mpr h
theorem ge_g {dl u4 uc b4 bc t n44 n42 n43 n4c qc q2 q3 q4 : Int} (hk : u4 * bc - b4 * uc = dl * t) : dl ∣ (dl * n44 - n42 * u4 - n43 * b4) * (dl * qc - q2 * uc - q3 * bc) - (dl * q4 - q2 * u4 - q3 * b4) * (dl * n4c - n42 * uc - n43 * bc) := by
  refine ⟨dl * n44 * qc - n44 * (q2 * uc + q3 * bc) - qc * (n42 * u4 + n43 * b4) - (dl * q4 * n4c - q4 * (n42 * uc + n43 * bc) - n4c * (q2 * u4 + q3 * b4)) + (n42 * q3 - n43 * q2) * t, ?_⟩
  have h1 : (n42 * q3 - n43 * q2) * (u4 * bc - b4 * uc) = (n42 * q3 - n43 * q2) * (dl * t) := by rw [hk]
  grind
theorem ge_g2 {e dl u4 uc b4 bc t n44 n42 n43 n4c : Int} (hk : u4 * bc - b4 * uc = dl * t) : dl ∣ (dl * n44 - n42 * u4 - n43 * b4) * (e * uc) - (e * u4) * (dl * n4c - n42 * uc - n43 * bc) := by
  refine ⟨e * (n44 * uc - n4c * u4 + n43 * t), ?_⟩
  have h1 : e * n43 * (u4 * bc - b4 * uc) = e * n43 * (dl * t) := by rw [hk]
  grind
theorem ge_g3 {e dl u4 uc b4 bc t n44 n42 n43 n4c : Int} (hk : u4 * bc - b4 * uc = dl * t) : dl ∣ (dl * n44 - n42 * u4 - n43 * b4) * (e * bc) - (e * b4) * (dl * n4c - n42 * uc - n43 * bc) := by
  refine ⟨e * (n44 * bc - n4c * b4 - n42 * t), ?_⟩
  have h1 : e * n42 * (u4 * bc - b4 * uc) = e * n42 * (dl * t) := by rw [hk]
  grind
theorem gs_dvd {D k : Nat} {last : Int} {M : Nat → Nat → Int} (hD : D ≤ 5) (hk : k < D) (h : ghs D k last M) : ∀ q, q < D → q ≠ k → ∀ c, c ≤ D → last ∣ M k k * M q c - M q k * M k c := by
  obtain ⟨h1, h2, h3, h4⟩ := h
  intro q hq hqk c hc
  have hk5 : k = 0 ∨ k = 1 ∨ k = 2 ∨ k = 3 ∨ k = 4 := by omega
  rcases hk5 with e | e | e | e | e
  · rw [h1 (by omega)]; exact Int.one_dvd _
  · rw [h1 (by omega)]; exact Int.one_dvd _
  · rcases h2 e with r | r
    · rw [r]; exact Int.one_dvd _
    · rw [r]; exact Int.neg_dvd.mpr (Int.one_dvd _)
  · obtain ⟨e', N, g1, g2, g3, g4⟩ := h3 e
    subst e
    by_cases q2 : q = 2
    · subst q2
      rw [g4 3 hk (by decide) 3 (by omega), g4 3 hk (by decide) c hc, g3 c hc, g3 3 (by omega)]
      exact gj_exact2
    · rw [g4 3 hk (by decide) 3 (by omega), g4 3 hk (by decide) c hc, g4 q hq q2 c hc, g4 q hq q2 3 (by omega)]
      exact gj_exact g1
  · obtain ⟨e', p, N, L, ⟨g1, g2, g3, g4⟩, k1, k2, k3, k4⟩ := h4 e
    subst e
    have m4 : ∀ c, c ≤ D → M 4 c = (p * N 3 3 - N 3 2 * N 2 3) * N 4 c - N 4 2 * (N 3 3 * N 2 c - N 2 3 * N 3 c) - N 4 3 * (p * N 3 c - N 3 2 * N 2 c) := fun c hc => by
      have := k4 4 (by omega) (by decide) c hc
      rw [g4 3 (by omega) (by decide) 3 (by omega), g4 4 (by omega) (by decide) c hc, g4 4 (by omega) (by decide) 3 (by omega), g4 3 (by omega) (by decide) c hc] at this
      exact ge_d g1 k1 this
    rw [k2, g4 3 (by omega) (by decide) 3 (by omega)]
    by_cases q3 : q = 3
    · subst q3
      rw [m4 4 (by omega), m4 c hc, k3 c hc, k3 4 (by omega), g4 3 (by omega) (by decide) c hc, g4 3 (by omega) (by decide) 4 (by omega)]
      exact ge_e g1 (ge_g3 (u4 := N 3 3 * N 2 4 - N 2 3 * N 3 4) (b4 := p * N 3 4 - N 3 2 * N 2 4) ge_k)
    · by_cases q2 : q = 2
      · subst q2
        have m2 : ∀ c, c ≤ D → M 2 c = e' * (N 3 3 * N 2 c - N 2 3 * N 3 c) := fun c hc => by
          have := k4 2 (by omega) (by decide) c hc
          rw [g4 3 (by omega) (by decide) 3 (by omega), g3 c hc, g3 3 (by omega), g4 3 (by omega) (by decide) c hc] at this
          exact ge_2 k1 this
        rw [m4 4 (by omega), m4 c hc, m2 c hc, m2 4 (by omega)]
        exact ge_e g1 (ge_g2 (u4 := N 3 3 * N 2 4 - N 2 3 * N 3 4) (b4 := p * N 3 4 - N 3 2 * N 2 4) ge_k)
      · have mq : ∀ c, c ≤ D → M q c = (p * N 3 3 - N 3 2 * N 2 3) * N q c - N q 2 * (N 3 3 * N 2 c - N 2 3 * N 3 c) - N q 3 * (p * N 3 c - N 3 2 * N 2 c) := fun c hc => by
          have := k4 q hq q3 c hc
          rw [g4 3 (by omega) (by decide) 3 (by omega), g4 q hq q2 c hc, g4 q hq q2 3 (by omega), g4 3 (by omega) (by decide) c hc] at this
          exact ge_d g1 k1 this
        rw [m4 4 (by omega), m4 c hc, mq c hc, mq 4 (by omega)]
        exact ge_e g1 (ge_g (u4 := N 3 3 * N 2 4 - N 2 3 * N 3 4) (b4 := p * N 3 4 - N 3 2 * N 2 4) ge_k)
/-- what stands behind k steps of the model's Gauss -/
def GS (D k : Nat) (last B : Int) (M A : Nat → Nat → Int) : Prop := gj_I D k last M A ∧ ghs D k last M ∧ gbd D k B M ∧ (k = 0 → ∀ q, q < D → ∀ c, c < D → M q c = 0 ∨ M q c = 1) ∧ (1 ≤ k → (-gcb (k - 1) ≤ last ∧ last ≤ gcb (k - 1)) ∧ (-(grb (k - 1) * B) ≤ M (k - 1) D ∧ M (k - 1) D ≤ grb (k - 1) * B))
theorem GS_0 {D : Nat} {B : Int} {A : Nat → Nat → Int} (h1 : ∀ q, q < D → ∀ c, c < D → A q c = 0 ∨ A q c = 1) (h2 : ∀ q, q < D → -B ≤ A q D ∧ A q D ≤ B) : GS D 0 1 B A A := by
  refine ⟨gj_0 D A, ⟨fun _ => rfl, fun e => absurd e (by decide), fun e => absurd e (by decide), fun e => absurd e (by decide)⟩, fun q hq => ⟨fun c hc => ?_, ?_⟩, fun _ => h1, fun e => absurd e (by decide)⟩
  · have := h1 q hq c hc
    show -(1 : Int) ≤ _ ∧ _ ≤ (1 : Int)
    omega
  · have := h2 q hq
    show -((1 : Int) * B) ≤ _ ∧ _ ≤ (1 : Int) * B
    omega
theorem GS_cg {D k : Nat} {last B : Int} {M M' A : Nat → Nat → Int} (hD : D ≤ 5) (hk : k ≤ D) (h : GS D k last B M A) (e : ∀ q, q < D → ∀ c, c ≤ D → M' q c = M q c) : GS D k last B M' A := by
  obtain ⟨⟨i1, i2, i3⟩, ⟨h1, h2, h3, h4⟩, b, z, l⟩ := h
  refine ⟨⟨i1, fun q hq j hj => by rw [e q hq j (by omega)]; exact i2 q hq j hj, fun z w => Iff.trans ?_ (i3 z w)⟩, ⟨h1, h2, fun q => ?_, fun q => ?_⟩, fun q hq => ⟨fun c hc => by rw [e q hq c (by omega)]; exact (b q hq).1 c hc, by rw [e q hq D (by omega)]; exact (b q hq).2⟩, fun k0 q hq c hc => by rw [e q hq c (by omega)]; exact z k0 q hq c hc, fun k1 => by rw [e (k - 1) (by omega) D (by omega)]; exact l k1⟩
  · constructor
    · intro s q hq
      have := s q hq
      rw [e q hq D (by omega), ms_cg (fun c hc => by rw [e q hq c (by omega)])] at this
      exact this
    · intro s q hq
      rw [e q hq D (by omega), ms_cg (fun c hc => by rw [e q hq c (by omega)])]
      exact s q hq
  · obtain ⟨e', N, g1, g2, g3, g4⟩ := h3 q
    exact ⟨e', N, g1, g2, fun c hc => by rw [e 2 (by omega) c hc]; exact g3 c hc, fun r hr r2 c hc => by rw [e r hr c hc]; exact g4 r hr r2 c hc⟩
  · obtain ⟨e', p, N, L, g, k1, k2, k3, k4⟩ := h4 q
    exact ⟨e', p, N, L, g, k1, k2, fun c hc => by rw [e 3 (by omega) c hc]; exact k3 c hc, fun r hr r3 c hc => by rw [e r hr c hc]; exact k4 r hr r3 c hc⟩
theorem GS_swap {D k r : Nat} {last B : Int} {M M' A : Nat → Nat → Int} (hD : D ≤ 5) (h : GS D k last B M A) (hk : k < D) (hr : r < D) (hkr : k ≤ r) (hM : ∀ q, q < D → ∀ c, c ≤ D → M' q c = M (if q = k then r else if q = r then k else q) c) : GS D k last B M' A := by
  have hs : ∀ q, q < D → (if q = k then r else if q = r then k else q) < D := fun q hq => by split <;> (try split) <;> omega
  obtain ⟨i, ⟨h1, h2, h3, h4⟩, b, z, l⟩ := h
  refine ⟨gj_swap i hk hr hkr hM, ⟨h1, h2, fun q => ?_, fun q => ?_⟩, fun q hq => ⟨fun c hc => by rw [hM q hq c (by omega)]; exact (b _ (hs q hq)).1 c hc, by rw [hM q hq D (by omega)]; exact (b _ (hs q hq)).2⟩, fun k0 q hq c hc => by rw [hM q hq c (by omega)]; exact z k0 _ (hs q hq) c hc, fun k1 => ?_⟩
  · obtain ⟨e', N, g1, g2, g3, g4⟩ := h3 q
    refine ⟨e', fun q c => N (if q = k then r else if q = r then k else q) c, g1, ?_, fun c hc => ?_, fun q' hq' q2 c hc => ?_⟩
    · show last = N (if 2 = k then r else if 2 = r then k else 2) 2
      rw [if_neg (by omega), if_neg (by omega)]; exact g2
    · rw [hM 2 (by omega) c hc, if_neg (by omega), if_neg (by omega)]
      show M 2 c = N (if 2 = k then r else if 2 = r then k else 2) c
      rw [if_neg (by omega), if_neg (by omega)]; exact g3 c hc
    · rw [hM q' hq' c hc, g4 _ (hs q' hq') (by split <;> (try split) <;> omega) c hc]
      show _ = e' * (last * N _ c - N _ 2 * N (if 2 = k then r else if 2 = r then k else 2) c)
      rw [if_neg (show ¬ 2 = k by omega), if_neg (show ¬ 2 = r by omega)]
  · obtain ⟨e', p, N, L, g, k1, k2, k3, k4⟩ := h4 q
    have hid : ∀ q', q' < D → (if q' = k then r else if q' = r then k else q') = q' := fun q' hq' => by split <;> (try split) <;> omega
    exact ⟨e', p, N, L, g, k1, k2, fun c hc => by rw [hM 3 (by omega) c hc, hid 3 (by omega)]; exact k3 c hc, fun r' hr' r3 c hc => by rw [hM r' hr' c hc, hid r' hr']; exact k4 r' hr' r3 c hc⟩
  · rw [hM (k - 1) (by omega) D (by omega), if_neg (by omega), if_neg (by omega)]
    exact l k1
theorem gx_b {a b c d u w r : Int} (ha : -u ≤ a ∧ a ≤ u) (hb : -w ≤ b ∧ b ≤ w) (hc : -u ≤ c ∧ c ≤ u) (hd : -w ≤ d ∧ d ≤ w) (hr : 2 * (u * w) ≤ r) : -r ≤ a * b - c * d ∧ a * b - c * d ≤ r := by
  have h1 := ku_mul ha hb
  have h2 := ku_mul hc hd
  omega
theorem gx_num : ∀ k, k < 5 → 1 ≤ k → 2 * (gcb k * gcb k) ≤ gcb (k + 1) ∧ 2 * (gcb k * grb k) ≤ grb (k + 1) ∧ 0 ≤ gcb k ∧ 0 ≤ grb k := by decide
theorem gx_num2 : ∀ k, k < 6 → gcb k ≤ 32768 ∧ grb k ≤ 65536 ∧ 0 ≤ grb k := by decide
/-- the numbers of a step -/
theorem GS_x {D k : Nat} {last B : Int} {M A : Nat → Nat → Int} (hD : D ≤ 5) (hk : k < D) (hB : 0 ≤ B) (h : GS D k last B M A) (hp : M k k ≠ 0) : ∀ q, q < D → (∀ c, c < D → -gcb (k + 1) ≤ M k k * M q c - M q k * M k c ∧ M k k * M q c - M q k * M k c ≤ gcb (k + 1)) ∧ (-(grb (k + 1) * B) ≤ M k k * M q D - M q k * M k D ∧ M k k * M q D - M q k * M k D ≤ grb (k + 1) * B) := by
  obtain ⟨i, hs, b, z, l⟩ := h
  intro q hq
  by_cases e : k = 0
  · subst e
    have z1 := z rfl 0 hk 0 hk
    have e1 : M 0 0 = 1 := by omega
    have z3 := z rfl q hq 0 hk
    refine ⟨fun c hc => ?_, ?_⟩
    · have z2 := z rfl q hq c hc
      have z4 := z rfl 0 hk c hc
      show -(1 : Int) ≤ _ ∧ _ ≤ (1 : Int)
      rw [e1]
      rcases z3 with r | r <;> rw [r] <;> omega
    · have b1 := (b q hq).2
      have b2 := (b 0 hk).2
      have b1' : -(1 * B) ≤ M q D ∧ M q D ≤ 1 * B := b1
      have b2' : -(1 * B) ≤ M 0 D ∧ M 0 D ≤ 1 * B := b2
      show -((2 : Int) * B) ≤ _ ∧ _ ≤ (2 : Int) * B
      rw [e1]
      rcases z3 with r | r <;> rw [r] <;> omega
  · have hn := gx_num k (by omega) (by omega)
    refine ⟨fun c hc => gx_b ((b k hk).1 k hk) ((b q hq).1 c hc) ((b q hq).1 k hk) ((b k hk).1 c hc) hn.1, ?_⟩
    refine gx_b ((b k hk).1 k hk) (b q hq).2 ((b q hq).1 k hk) (b k hk).2 ?_
    have h1 : 2 * (gcb k * (grb k * B)) = 2 * (gcb k * grb k) * B := by grind
    rw [h1]
    exact Int.mul_le_mul_of_nonneg_right hn.2.1 hB
theorem gcb_m : ∀ k, k < 5 → gcb k ≤ gcb (k + 1) ∧ grb k ≤ grb (k + 1) := by decide
theorem dv_n {dv a b x : Int} (hdv : dv ≠ 0) (h : dv * a = x) (hx : -b ≤ x ∧ x ≤ b) : -b ≤ a ∧ a ≤ b := by
  rcases Int.lt_or_gt_of_ne hdv with q | q
  · have := dv_b (dv := -dv) (a := a) (x := -x) (b := b) (by omega) (by rw [Int.neg_mul, h]) (by omega)
    exact this
  · exact dv_b q h hx
theorem GS_step {D k : Nat} {last B : Int} {M A : Nat → Nat → Int} (hD : D ≤ 5) (hk : k < D) (hB : 0 ≤ B) (h : GS D k last B M A) (hp : M k k ≠ 0) : GS D (k + 1) (M k k) B (gjn k last M) A := by
  have hx := GS_x hD hk hB h hp
  obtain ⟨i, hs, b, z, l⟩ := h
  have hd := gs_dvd hD hk hs
  have hl := i.1
  have hkk : ∀ c, gjn k last M k c = M k c := fun c => if_pos rfl
  have hM : ∀ q, q < D → q ≠ k → ∀ c, c ≤ D → last * gjn k last M q c = M k k * M q c - M q k * M k c := fun q hq hqk c hc => by
    show last * (if q = k then _ else _) = _
    rw [if_neg hqk]
    exact dvd_t (hd q hq hqk c hc)
  have hm := gcb_m k (by omega)
  refine ⟨gj_step i hk hp (fun c _ => hkk c) hM, ⟨fun e => ?_, fun e => ?_, fun e => ?_, fun e => ?_⟩, fun q hq => ⟨fun c hc => ?_, ?_⟩, fun e => absurd e (by omega), fun _ => ?_⟩
  · have e0 : k = 0 := by omega
    subst e0
    have := z rfl 0 hk 0 hk
    omega
  · have e1 : k = 1 := by omega
    subst e1
    have h1 : -(1 : Int) ≤ M 1 1 ∧ M 1 1 ≤ (1 : Int) := (b 1 hk).1 1 hk
    omega
  · have e2 : k = 2 := by omega
    subst e2
    have hu : last = 1 ∨ last = -1 := hs.2.1 rfl
    refine ⟨last, M, hu, rfl, fun c _ => hkk c, fun q hq hq2 c hc => ?_⟩
    have h1 := hM q hq hq2 c hc
    rcases hu with u | u <;> rw [u] at h1 ⊢ <;> omega
  · have e3 : k = 3 := by omega
    subst e3
    obtain ⟨e', N, g⟩ := hs.2.2.1 rfl
    exact ⟨e', last, N, M, g, hl, rfl, fun c _ => hkk c, hM⟩
  · by_cases e : q = k
    · subst e
      rw [hkk]
      have := (b q hq).1 c hc
      omega
    · exact dv_n hl (hM q hq e c (by omega)) ((hx q hq).1 c hc)
  · by_cases e : q = k
    · subst e
      rw [hkk]
      have := (b q hq).2
      have : grb q * B ≤ grb (q + 1) * B := Int.mul_le_mul_of_nonneg_right hm.2 hB
      omega
    · exact dv_n hl (hM q hq e D (by omega)) (hx q hq).2
  · show (-gcb (k + 1 - 1) ≤ M k k ∧ M k k ≤ gcb (k + 1 - 1)) ∧ (-(grb (k + 1 - 1) * B) ≤ gjn k last M (k + 1 - 1) D ∧ gjn k last M (k + 1 - 1) D ≤ grb (k + 1 - 1) * B)
    rw [Nat.add_sub_cancel, hkk]
    exact ⟨(b k hk).1 k hk, (b k hk).2⟩
/-- the end: all is solved, and nothing else solves -/
theorem GS_end {D : Nat} {last B : Int} {M A : Nat → Nat → Int} (hD : D ≤ 5) (h1 : 1 ≤ D) (hB : 0 ≤ B) (h : GS D D last B M A) {a : Nat → Int} {b : Int} (ha : ∀ q, q < D → a q = if last < 0 then -M q D else M q D) (hb : b = if last < 0 then -last else last) :
    0 < b ∧ b ≤ 128 ∧ gj_sol D A a b ∧ (∀ z w, gj_sol D A z w → ∀ q, q < D → b * z q = w * a q) ∧ (∀ q, q < D → -(65536 * B) ≤ a q ∧ a q ≤ 65536 * B) ∧ (-(256 * B) ≤ a (D - 1) ∧ a (D - 1) ≤ 256 * B) := by
  obtain ⟨i, hs, bd, z, l⟩ := h
  obtain ⟨l1, l2⟩ := l h1
  have hl := i.1
  have hc := gx_num2 D (by omega)
  have hc4 : ∀ k, k < 5 → gcb k ≤ 128 ∧ grb k ≤ 256 := by decide
  have hc5 := hc4 (D - 1) (by omega)
  have g1 : grb D * B ≤ 65536 * B := Int.mul_le_mul_of_nonneg_right hc.2.1 hB
  have g2 : grb (D - 1) * B ≤ 256 * B := Int.mul_le_mul_of_nonneg_right hc5.2 hB
  have hsol : ∀ z w, gj_sol D A z w → ∀ q, q < D → last * z q = M q D * w := fun z w hz q hq => by
    have := (i.2.2 z w).mpr hz q hq
    rw [ln_split D q _ hq, i.2.1 q hq q hq, if_pos rfl, ms_cg (g := fun _ => 0) (fun c hc => by
      by_cases hcq : c = q
      · rw [if_pos hcq]
      · rw [if_neg hcq, i.2.1 q hq c hc, if_neg (fun z => hcq z.symm), Int.zero_mul]), ms_zero] at this
    omega
  have hend := gj_end i
  by_cases q : last < 0
  · rw [if_pos q] at hb
    have ha : ∀ q', q' < D → a q' = -M q' D := fun q' hq' => by rw [ha q' hq', if_pos q]
    refine ⟨by omega, by omega, fun r hr => ?_, fun z w hz r hr => ?_, fun r hr => ?_, ?_⟩
    · have := hend r hr
      rw [ms_cg (g := fun c => (-1) * (A r c * M c D)) (fun c hc => by rw [ha c hc]; grind), ms_mul, this, hb]
      grind
    · rw [hb, ha r hr]
      have := hsol z w hz r hr
      grind
    · rw [ha r hr]
      have := (bd r hr).2
      omega
    · rw [ha (D - 1) (by omega)]; omega
  · rw [if_neg q] at hb
    have ha : ∀ q', q' < D → a q' = M q' D := fun q' hq' => by rw [ha q' hq', if_neg q]
    refine ⟨by omega, by omega, fun r hr => ?_, fun z w hz r hr => ?_, fun r hr => ?_, ?_⟩
    · have := hend r hr
      rw [ms_cg (g := fun c => A r c * M c D) (fun c hc => by rw [ha c hc]), this, hb]
    · rw [hb, ha r hr]
      have := hsol z w hz r hr
      grind
    · rw [ha r hr]
      have := (bd r hr).2
      omega
    · rw [ha (D - 1) (by omega)]; omega
