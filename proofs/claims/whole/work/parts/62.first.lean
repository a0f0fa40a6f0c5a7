/-! The offers of the first stage: the tables. -/
/-- sums over a row of the table; 0 fills up -/
def rsm : List Nat → (Nat → Int) → Int
  | [], _ => 0
  | g :: r, f => rsm r f + if g = 0 then 0 else f g
def rct : List Nat → Nat → Int
  | [], _ => 0
  | g :: r, k => rct r k + if g = 0 then 0 else if k = g then 1 else 0
theorem rct_nn : ∀ r k, 0 ≤ rct r k
  | [], _ => Int.le_refl 0
  | g :: r, k => by
    have := rct_nn r k
    unfold rct
    split
    · omega
    · split <;> omega
theorem rct_z : ∀ r k, k ∉ r ∨ k = 0 → rct r k = 0
  | [], _, _ => rfl
  | g :: r, k, h => by
    unfold rct
    rw [rct_z r k (h.imp (fun q q2 => q (List.mem_cons_of_mem _ q2)) id)]
    split
    · rfl
    · rw [if_neg (fun e => by
        rcases h with h | h
        · exact h (by rw [e]; exact List.mem_cons_self)
        · omega)]
      rfl
theorem rct_p : ∀ r k, k ∈ r → k ≠ 0 → 0 < rct r k
  | [], k, h, _ => absurd h (by simp)
  | g :: r, k, h, h0 => by
    have := rct_nn r k
    unfold rct
    rcases List.mem_cons.mp h with e | e
    · rw [if_neg (by omega), if_pos e]; omega
    · have := rct_p r k e h0
      split
      · omega
      · split <;> omega
theorem rct_sm {M : Nat} {f : Nat → Int} : ∀ r, (∀ g ∈ r, g < M) → ms_sm M (fun k => rct r k * f k) = rsm r f
  | [], _ => by
    show ms_sm M (fun k => 0 * f k) = 0
    rw [ms_cg (g := fun _ => 0) (fun k _ => Int.zero_mul _), ms_zero]
  | g :: r, h => by
    have ih := rct_sm (M := M) (f := f) r (fun x hx => h x (List.mem_cons_of_mem _ hx))
    by_cases e : g = 0
    · rw [ms_cg (g := fun k => rct r k * f k) (fun k _ => by
        show (rct r k + if g = 0 then 0 else _) * f k = _
        rw [if_pos e, Int.add_zero]), ih]
      show _ = rsm r f + if g = 0 then 0 else f g
      rw [if_pos e, Int.add_zero]
    · rw [ms_cg (g := fun k => rct r k * f k + id1 g 1 k * f k) (fun k _ => by
        show (rct r k + if g = 0 then 0 else if k = g then 1 else 0) * f k = _
        rw [if_neg e]
        unfold id1
        rw [Int.add_mul]), ms_add, ih, id_sm M (h g List.mem_cons_self)]
      show _ = rsm r f + if g = 0 then 0 else f g
      rw [if_neg e]; omega
def rtot (r : List Nat) : Int := rsm r (fun _ => 1)
def rone (r : List Nat) : Int := rsm r (fun g => st_bt g 0)
theorem row_in : ∀ n, n < 5 → 2 ≤ n → ∀ r ∈ tb_rows n, ∀ g ∈ r, g < 2 ^ n - 1 := by decide +kernel
theorem row_bal : ∀ n, n < 5 → 2 ≤ n → ∀ r ∈ tb_rows n, ∀ i, i < n → rsm r (fun g => st_bt g i) = rone r := by decide +kernel
theorem row_tot : ∀ n, n < 5 → 2 ≤ n → ∀ r ∈ tb_rows n, 0 < rtot r ∧ rtot r ≤ 5 ∧ 1 ≤ rone r ∧ rone r ≤ 5 := by decide +kernel
/-- what the first stage is offered -/
def PT (n : Nat) (v : Nat → Int) (s : Nat) (t b : Int) : Prop := ∃ r ∈ tb_rows n, s = tb_sup r ∧ t = rsm r v - rone r * v (2 ^ n - 1) ∧ b = rtot r
/-- all to the first of people -/
def A0 (x : Int) : Nat → Int := fun p => if p = 0 then x else 0
/-- each way hands some of it to another one -/
def W0 (w p : Nat) : Int := if p = 0 then -1 else if p = w + 1 then 1 else 0
theorem sh_A0 {n g : Nat} {x : Int} : ∀ m, 1 ≤ m → st_sh m g (A0 x) = st_bt g 0 * x
  | 0, h => absurd h (by decide)
  | m + 1, _ => by
    show st_sh m g (A0 x) + st_bt g m * A0 x m = _
    by_cases e : m = 0
    · subst e
      show 0 + st_bt g 0 * x = _
      omega
    · rw [sh_A0 (n := n) m (by omega), show A0 x m = 0 from if_neg e]; omega
theorem sh_W0 : ∀ n, n < 5 → 2 ≤ n → ∀ w, w < 3 → w + 1 < n → ∀ g, g < 16 → st_sh n g (W0 w) = st_bt g (w + 1) - st_bt g 0 := by decide +kernel
theorem all_bt : ∀ n, n < 5 → ∀ i, i < 4 → i < n → st_bt (2 ^ n - 1) i = 1 := by decide +kernel
theorem rsm_lin {f g : Nat → Int} {a b : Int} : ∀ r, rsm r (fun k => a * f k + b * g k) = a * rsm r f + b * rsm r g
  | [] => by show (0 : Int) = a * 0 + b * 0; omega
  | k :: r => by
    show rsm r _ + (if k = 0 then 0 else _) = a * (rsm r f + if k = 0 then 0 else f k) + b * (rsm r g + if k = 0 then 0 else g k)
    rw [rsm_lin r]
    split <;> grind
theorem sup_bit {r : List Nat} {j : Nat} : (tb_sup r).testBit j = true ↔ j ≠ 0 ∧ j ∈ r := by
  unfold tb_sup
  rw [tb_foldsup]
  simp
theorem spn_0 {n : Nat} (hn : 2 ≤ n ∧ n ≤ 4) : spn n (n - 1) (fun _ => False) W0 := by
  refine ⟨fun w hw => ⟨?_, fun g _ _ q => q.elim⟩, fun dl hdl => ?_⟩
  · rw [sh_W0 n (by omega) hn.1 w (by omega) (by omega) (2 ^ n - 1) (by have := al_b hn; unfold al at this; omega), all_bt n (by omega) (w + 1) (by omega) (by omega), all_bt n (by omega) 0 (by decide) (by omega)]; rfl
  · refine ⟨1, fun i => dl (i + 1), by decide, fun p hp => ?_⟩
    have h0 : ms_sm n dl = 0 := by
      have := hdl.1
      rw [← this]
      exact ms_cg (fun i hi => by rw [all_bt n (by omega) i (by omega) hi]; omega)
    have : n = 2 ∨ n = 3 ∨ n = 4 := by omega
    rcases this with rfl | rfl | rfl
    · have h1 : 0 + dl 0 + dl 1 = 0 := h0
      have hp2 : p = 0 ∨ p = 1 := by omega
      rcases hp2 with rfl | rfl
      · show 1 * dl 0 = 0 + dl 1 * (-1); omega
      · show 1 * dl 1 = 0 + dl 1 * 1; omega
    · have h1 : 0 + dl 0 + dl 1 + dl 2 = 0 := h0
      have hp2 : p = 0 ∨ p = 1 ∨ p = 2 := by omega
      rcases hp2 with rfl | rfl | rfl
      · show 1 * dl 0 = 0 + dl 1 * (-1) + dl 2 * (-1); omega
      · show 1 * dl 1 = 0 + dl 1 * 1 + dl 2 * 0; omega
      · show 1 * dl 2 = 0 + dl 1 * 0 + dl 2 * 1; omega
    · have h1 : 0 + dl 0 + dl 1 + dl 2 + dl 3 = 0 := h0
      have hp2 : p = 0 ∨ p = 1 ∨ p = 2 ∨ p = 3 := by omega
      rcases hp2 with rfl | rfl | rfl | rfl
      · show 1 * dl 0 = 0 + dl 1 * (-1) + dl 2 * (-1) + dl 3 * (-1); omega
      · show 1 * dl 1 = 0 + dl 1 * 1 + dl 2 * 0 + dl 3 * 0; omega
      · show 1 * dl 2 = 0 + dl 1 * 0 + dl 2 * 1 + dl 3 * 0; omega
      · show 1 * dl 3 = 0 + dl 1 * 0 + dl 2 * 0 + dl 3 * 1; omega
theorem Fe_0 {n : Nat} {v lp lq : Nat → Int} (hn : 2 ≤ n ∧ n ≤ 4) : st_Fe n v (fun _ => False) lp lq 1 (A0 (v (2 ^ n - 1))) := by
  refine ⟨by decide, ?_, fun g _ _ q => q.elim⟩
  rw [sh_A0 (n := n) n (by omega), all_bt n (by omega) 0 (by decide) (by omega)]
/-- THE FIRST STAGE -/
theorem cs_first {n : Nat} {v lp lq : Nat → Int} (hn : 2 ≤ n ∧ n ≤ 4) {set : Nat} {top bot p q : Int} (hB : BP (PT n v) set top bot) (hbot : bot ≠ 0) (hq : 0 < q) (hpq : p * bot = q * top) :
    st_P n v (fun _ => False) lp lq (fun g => set.testBit g = true) p q ∧ st_D n (fun _ => False) (fun g => set.testBit g = true) ∧ ∀ g, set.testBit g = true → st_op n (fun _ => False) g := by
  have hA := al_b hn
  unfold al at hA
  refine cs_stage (d := n - 1) (be := 1) (A := A0 (v (2 ^ n - 1))) (W := W0) (Fe_0 hn) (spn_0 hn) (P := PT n v) ?_ ?_ hB hbot hq (by rw [Int.mul_one]; exact hpq)
  · rintro s t b ⟨r, hr, rfl, rfl, rfl⟩
    have hin := row_in n (by omega) hn.1 r hr
    refine ⟨rct r, rct_nn r, fun g ho => rct_z r g ?_, fun i hi => ?_, ?_, ?_, fun g => ?_⟩
    · by_cases h0 : g = 0
      · exact Or.inr h0
      · exact Or.inl (fun hg => ho ⟨by omega, hin g hg, id⟩)
    · rw [rct_sm r hin]
      have e1 : ∀ r : List Nat, (∀ g ∈ r, g < 2 ^ n - 1) → rsm r (fun g => st_sh n g (W0 i)) = rsm r (fun g => 1 * st_bt g (i + 1) + (-1) * st_bt g 0) := by
        intro r
        induction r with
        | nil => intro _; rfl
        | cons g r ih =>
          intro h
          show rsm r _ + (if g = 0 then 0 else st_sh n g (W0 i)) = rsm r _ + (if g = 0 then 0 else _)
          rw [ih (fun x hx => h x (List.mem_cons_of_mem _ hx)), sh_W0 n (by omega) hn.1 i (by omega) (by omega) g (by have := h g List.mem_cons_self; omega)]
          congr 1
          split
          · rfl
          · show st_bt g (i + 1) - st_bt g 0 = 1 * st_bt g (i + 1) + (-1) * st_bt g 0
            omega
      rw [e1 r hin, rsm_lin, row_bal n (by omega) hn.1 r hr (i + 1) (by omega)]
      show 1 * rone r + (-1) * rone r = 0
      omega
    · rw [rct_sm r hin]
      have e1 : ∀ r : List Nat, rsm r (fun g => 1 * v g - st_sh n g (A0 (v (2 ^ n - 1)))) = rsm r (fun g => 1 * v g + (-v (2 ^ n - 1)) * st_bt g 0) := by
        intro r
        induction r with
        | nil => rfl
        | cons g r ih =>
          show rsm r _ + (if g = 0 then 0 else 1 * v g - st_sh n g (A0 (v (2 ^ n - 1)))) = rsm r _ + (if g = 0 then 0 else _)
          rw [ih, sh_A0 (n := n) n (by omega)]
          congr 1
          split
          · rfl
          · grind
      rw [e1 r, rsm_lin]
      show rsm r v - rone r * v (2 ^ n - 1) = 1 * rsm r v + (-v (2 ^ n - 1)) * rone r
      grind
    · have := rct_sm (M := 2 ^ n - 1) (f := fun _ => 1) r hin
      show rsm r (fun _ => 1) = _
      rw [← this]
      exact ms_cg (fun g _ => Int.mul_one _)
    · rw [sup_bit]
      constructor
      · exact fun h => rct_p r g h.2 h.1
      · intro h
        by_cases q : g ≠ 0 ∧ g ∈ r
        · exact q
        · rw [rct_z r g (by
            by_cases h0 : g = 0
            · exact Or.inr h0
            · exact Or.inl (fun hg => q ⟨h0, hg⟩))] at h
          omega
  · intro l l0 lz hb hne
    have hl0 : l 0 = 0 := lz 0 (fun q => absurd q.1 (by decide))
    have hsh : ∀ i, i < n → ms_sm (2 ^ n - 1) (fun g => l g * st_bt g i) = ms_sm (2 ^ n - 1) (fun g => l g * st_bt g 0) := by
      intro i hi
      by_cases h0 : i = 0
      · rw [h0]
      · have h1 := hb (i - 1) (by omega)
        rw [ms_cg (g := fun g => l g * st_bt g i + (-1) * (l g * st_bt g 0)) (fun g hg => by
          rw [sh_W0 n (by omega) hn.1 (i - 1) (by omega) (by omega) g (by omega), show i - 1 + 1 = i by omega]; grind), ms_add, ms_mul] at h1
        omega
    obtain ⟨r, hr, h1⟩ := tb_C (n := n) (by omega) (fun g _ => l0 g) hl0 hsh hne
    exact ⟨_, _, _, ⟨r, hr, rfl, rfl, rfl⟩, fun g hg => by
      obtain ⟨q1, q2⟩ := sup_bit.mp hg
      exact h1 g q2 q1⟩
/-- A LATER STAGE, with two ways at most -/
theorem cs_later {n d : Nat} {v lp lq A : Nat → Int} {be : Int} {fx : Nat → Prop} {W : Nat → Nat → Int} (hF : st_Fe n v fx lp lq be A) (hS : spn n d fx W) (hd : d ≤ 2) {set : Nat} {top bot p q : Int}
    (hB : BP (PAs (st_op n fx) (fun g => if 0 < d then st_sh n g (W 0) else 0) (fun g => if 1 < d then st_sh n g (W 1) else 0) (fun g => be * v g - st_sh n g A)) set top bot) (hbot : bot ≠ 0) (hq : 0 < q) (hpq : p * (bot * be) = q * top) :
    st_P n v fx lp lq (fun g => set.testBit g = true) p q ∧ st_D n fx (fun g => set.testBit g = true) ∧ ∀ g, set.testBit g = true → st_op n fx g := by
  refine cs_stage (d := d) (be := be) (A := A) (W := W) hF hS ?_ ?_ hB hbot hq hpq
  · intro s t b h
    obtain ⟨e, e1, e2, e3, e4, e5, e6, e7⟩ := PA_e (M := 2 ^ n - 1) (fun g hg => hg.2.1) h
    refine ⟨e, e1, e2, fun i hi => ?_, e5, e6, e7⟩
    have : i = 0 ∨ i = 1 := by omega
    rcases this with rfl | rfl
    · rw [← e3]; exact ms_cg (fun g _ => by rw [if_pos hi])
    · rw [← e4]; exact ms_cg (fun g _ => by rw [if_pos hi])
  · intro l l0 lz hb hne
    refine PA_c l0 lz ?_ ?_ hne
    · by_cases h : 0 < d
      · rw [← hb 0 h]; exact ms_cg (fun g _ => by rw [if_pos h])
      · rw [ms_cg (g := fun _ => 0) (fun g _ => by rw [if_neg h, Int.mul_zero]), ms_zero]
    · by_cases h : 1 < d
      · rw [← hb 1 h]; exact ms_cg (fun g _ => by rw [if_pos h])
      · rw [ms_cg (g := fun _ => 0) (fun g _ => by rw [if_neg h, Int.mul_zero]), ms_zero]
