/-! The model's Gauss: its rows are set up, swapped, solved. -/
def gm (n D ce : Nat) (Rw : Nat → Nat) (rs : Nat → Int) (q c : Nat) : Int := if c < n then st_bt (Rw q) c else if c = D then rs q else if q < ce then 0 else 1
theorem gm_01 {n D ce : Nat} {Rw : Nat → Nat} {rs : Nat → Int} : ∀ q, q < D → ∀ c, c < D → gm n D ce Rw rs q c = 0 ∨ gm n D ce Rw rs q c = 1 := by
  intro q _ c hc
  unfold gm
  by_cases h : c < n
  · rw [if_pos h]; have := bt_01 (Rw q) c; omega
  · rw [if_neg h, if_neg (by omega)]
    by_cases h2 : q < ce
    · rw [if_pos h2]; exact Or.inl rfl
    · rw [if_neg h2]; exact Or.inr rfl
theorem gm_D {n D ce : Nat} {Rw : Nat → Nat} {rs : Nat → Int} (hD : n ≤ D) (q : Nat) : gm n D ce Rw rs q D = rs q := by
  unfold gm
  rw [if_neg (by omega), if_pos rfl]
theorem su_0 {n D ce r : Nat} {Rw : Nat → Nat} {rs y : Nat → Int} (hD : D = n) (hn : n ≤ 4) (h1 : ∀ q, q < r → ∀ c, c ≤ D → y (6 * q + c) = gm n D ce Rw rs q c) (h2 : ∀ c, c < n → y (6 * r + c) = st_bt (Rw r) c) : ∀ q, q < r + 1 → ∀ c, c ≤ D → fu y (6 * r + D) (rs r) (6 * q + c) = gm n D ce Rw rs q c := by
  intro q hq c hc
  by_cases e : q = r
  · subst e
    by_cases e2 : c = D
    · subst e2; rw [fu_s, gm_D (by omega)]
    · rw [fu_n (by omega), h2 c (by omega)]
      unfold gm; rw [if_pos (by omega)]
  · rw [fu_n (by omega), h1 q (by omega) c hc]
theorem su_1 {n D ce r : Nat} {Rw : Nat → Nat} {rs y : Nat → Int} {t : Int} (hD : D = n + 1) (hn : n ≤ 4) (ht : t = if r < ce then 0 else 1) (h1 : ∀ q, q < r → ∀ c, c ≤ D → y (6 * q + c) = gm n D ce Rw rs q c) (h2 : ∀ c, c < n → y (6 * r + c) = st_bt (Rw r) c) : ∀ q, q < r + 1 → ∀ c, c ≤ D → fu (fu y (6 * r + n) t) (6 * r + D) (rs r) (6 * q + c) = gm n D ce Rw rs q c := by
  intro q hq c hc
  by_cases e : q = r
  · subst e
    by_cases e2 : c = D
    · subst e2; rw [fu_s, gm_D (by omega)]
    · rw [fu_n (by omega)]
      by_cases e3 : c = n
      · subst e3
        rw [fu_s, ht]
        unfold gm; rw [if_neg (show ¬ c < c by omega), if_neg (show ¬ c = D by omega)]
      · rw [fu_n (by omega), h2 c (by omega)]
        unfold gm; rw [if_pos (by omega)]
  · rw [fu_n (by omega), fu_n (by omega), h1 q (by omega) c hc]
theorem su_r {r p : Nat} {Rw : Nat → Nat} {y : Nat → Int} {t : Int} (ht : t = st_bt (Rw r) p) (h2 : ∀ c, c < p → y (6 * r + c) = st_bt (Rw r) c) : ∀ c, c < p + 1 → fu y (6 * r + p) t (6 * r + c) = st_bt (Rw r) c := by
  intro c hc
  by_cases e : c = p
  · subst e; rw [fu_s, ht]
  · rw [fu_n (by omega), h2 c (by omega)]
def swq (a b q : Nat) : Nat := if q = b then a else if q = a then b else q
theorem sw_inv {D a b c : Nat} {x y : Nat → Int} (hD : D ≤ 5) (ha : a < D) (hb : b < D) (h : ∀ q, q < D → ∀ k, k ≤ D → y (6 * q + k) = if k < c then x (6 * swq a b q + k) else x (6 * q + k)) (hc : c ≤ D) : ∀ q, q < D → ∀ k, k ≤ D → fu (fu y (6 * a + c) (y (6 * b + c))) (6 * b + c) (y (6 * a + c)) (6 * q + k) = if k < c + 1 then x (6 * swq a b q + k) else x (6 * q + k) := by
  intro q hq k hk
  have hA : y (6 * a + c) = x (6 * a + c) := (h a ha c hc).trans (if_neg (by omega))
  have hB : y (6 * b + c) = x (6 * b + c) := (h b hb c hc).trans (if_neg (by omega))
  by_cases e : k = c
  · subst e
    rw [if_pos (by omega)]
    unfold swq
    by_cases e1 : q = b
    · subst e1; rw [if_pos rfl, fu_s, hA]
    · rw [if_neg e1, fu_n (by omega)]
      by_cases e2 : q = a
      · subst e2; rw [if_pos rfl, fu_s, hB]
      · rw [if_neg e2, fu_n (by omega), h q hq k hk, if_neg (by omega)]
  · rw [fu_n (by omega), fu_n (by omega), h q hq k hk]
    by_cases e1 : k < c
    · rw [if_pos e1, if_pos (by omega)]
    · rw [if_neg e1, if_neg (by omega)]
theorem gq_s {D k q c : Nat} {last : Int} {u y : Nat → Int} (hD : D ≤ 5) (hq : q < D) (hc : c ≤ D) (hqk : q ≠ k) (hu : ∀ q', q' < D → ∀ c', c' ≤ D → u (6 * q' + c') = if q' < q ∨ (q' = q ∧ c' < c) then gjn k last (fun q c => y (6 * q + c)) q' c' else y (6 * q' + c')) : ∀ q', q' < D → ∀ c', c' ≤ D → fu u (6 * q + c) ((y (6 * k + k) * y (6 * q + c) - y (6 * q + k) * y (6 * k + c)).tdiv last) (6 * q' + c') = if q' < q ∨ (q' = q ∧ c' < c + 1) then gjn k last (fun q c => y (6 * q + c)) q' c' else y (6 * q' + c') := by
  intro q' hq' c' hc'
  by_cases e : q' = q ∧ c' = c
  · obtain ⟨rfl, rfl⟩ := e
    rw [fu_s, if_pos (Or.inr ⟨rfl, by omega⟩)]
    unfold gjn
    rw [if_neg hqk]
  · rw [fu_n (by omega), hu q' hq' c' hc']
    by_cases e1 : q' < q ∨ (q' = q ∧ c' < c)
    · rw [if_pos e1, if_pos (by omega)]
    · rw [if_neg e1, if_neg (by omega)]
theorem gq_e {D k q c : Nat} {last : Int} {u y : Nat → Int} (h : D < c ∨ q = k) (hu : ∀ q', q' < D → ∀ c', c' ≤ D → u (6 * q' + c') = if q' < q ∨ (q' = q ∧ c' < c) then gjn k last (fun q c => y (6 * q + c)) q' c' else y (6 * q' + c')) : ∀ q', q' < D → ∀ c', c' ≤ D → u (6 * q' + c') = if q' < q + 1 then gjn k last (fun q c => y (6 * q + c)) q' c' else y (6 * q' + c') := by
  intro q' hq' c' hc'
  rw [hu q' hq' c' hc']
  by_cases e1 : q' < q
  · rw [if_pos (Or.inl e1), if_pos (by omega)]
  · by_cases e2 : q' = q
    · rw [if_pos (show q' < q + 1 by omega)]
      by_cases e3 : c' < c
      · rw [if_pos (Or.inr ⟨e2, e3⟩)]
      · rw [if_neg (by omega)]
        unfold gjn
        rw [if_pos (by omega)]
    · rw [if_neg (by omega), if_neg (by omega)]
theorem gq_k {D k q c : Nat} {last : Int} {u y : Nat → Int} (hk : k < D) (hc : c ≤ D) (hu : ∀ q', q' < D → ∀ c', c' ≤ D → u (6 * q' + c') = if q' < q ∨ (q' = q ∧ c' < c) then gjn k last (fun q c => y (6 * q + c)) q' c' else y (6 * q' + c')) : u (6 * k + c) = y (6 * k + c) := by
  rw [hu k hk c hc]
  by_cases e : k < q ∨ (k = q ∧ c < c)
  · rw [if_pos e]; unfold gjn; rw [if_pos rfl]
  · rw [if_neg e]
theorem GS_b {D k : Nat} {last B : Int} {M A : Nat → Nat → Int} (hD : D ≤ 5) (hk : k < D) (hB : 0 ≤ B ∧ B ≤ 5000000000000) (h : GS D k last B M A) (hp : M k k ≠ 0) {q c : Nat} (hq : q < D) (hc : c ≤ D) : -1000000000000000000 ≤ M k k * M q c - M q k * M k c ∧ M k k * M q c - M q k * M k c ≤ 1000000000000000000 := by
  have hx := GS_x hD hk hB.1 h hp q hq
  have hn := gx_num2 (k + 1) (by omega)
  by_cases e : c < D
  · have := hx.1 c e; omega
  · obtain rfl : c = D := by omega
    have h1 := hx.2
    have h2 : grb (k + 1) * B ≤ 65536 * B := Int.mul_le_mul_of_nonneg_right hn.2.1 hB.1
    omega
theorem GS_c {D k : Nat} {last B : Int} {M A : Nat → Nat → Int} (hD : D ≤ 5) (hk : k < D) (h : GS D k last B M A) {q c : Nat} (hq : q < D) (hc : c < D) : -32768 ≤ M q c ∧ M q c ≤ 32768 := by
  have := (h.2.2.1 q hq).1 c hc
  have := gx_num2 k (by omega)
  omega
theorem GS_l {D k : Nat} {last B : Int} {M A : Nat → Nat → Int} (hD : D ≤ 5) (hk : k ≤ D) (h : GS D k last B M A) : (-32768 ≤ last ∧ last ≤ 32768) ∧ last ≠ 0 := by
  refine ⟨?_, h.1.1⟩
  by_cases e : k = 0
  · subst e; rw [h.2.1.1 (by decide)]; decide
  · have := (h.2.2.2.2 (by omega)).1
    have := gx_num2 (k - 1) (by omega)
    omega
theorem m_setsUp {d N S n : Nat} {kp tp pt wr fa dm be od sm le sc ba bb ti rk ts tm pa wa : Int} {h : Nat → Option rr_E} (hn : 2 ≤ n ∧ n ≤ 4)  {ce D : Nat} {di z : Int} (c58 : h 58 = some (MO (n : Int) kp tp pt wr fa dm (ce : Int) di be od sm le sc ba bb ti rk ts tm pa wa)) {Rw : Nat → Nat} {rs x : Nat → Int} (c66 : h 66 = some (.inl (0, 5, .inl (fun k => ii ((Rw k : Nat) : Int))))) (c67 : h 67 = some (.inl (1, 5, .inr (.inl (fun k => jj (rs k)))))) (c68 : h 68 = some (.inl (1, 30, .inr (.inl (fun k => jj (x k)))))) (hR : ∀ k, Rw k < 16) (hce : ce ≤ 5) (hz : (z = 1 ∧ D = n + 1) ∨ (z = 0 ∧ D = n)) : rr_Calls (d + 2) j_Model_setsUp [.ref 58, .int (ii z)] (N, S, h) (fun r R => r = none ∧ ∃ (h' : Nat → Option rr_E) (x' : Nat → Int), R = (N, S, h') ∧ fr [58, 68] h h' ∧ h' 58 = some (MO (n : Int) kp tp pt wr fa dm (ce : Int) (D : Int) be od sm le sc ba bb ti rk ts tm pa wa) ∧ h' 68 = some (.inl (1, 30, .inr (.inl (fun k => jj (x' k))))) ∧ ∀ q, q < D → ∀ c, c ≤ D → x' (6 * q + c) = gm n D ce Rw rs q c) := by
  refine rr_meth (C := K_Model_setsUp) (hd := h_Model_setsUp) (mx := 4) rfl rfl (fun K hK => ?_)
  have hD5 : D ≤ 5 := by omega
  have o66 := c66
  have o67 := c67
  refine hK _ _ _ _ ?_
  refine s_aload_n rfl (cn rfl) rfl ?_
  refine s_iload_n rfl (cn rfl) rfl ?_
  refine s_if_eq rfl (cn rfl) (cn rfl) ⟨by omega, by omega⟩ (fun q2 => ?_) (fun q2 => ?_)
  · refine s_aload_n rfl (cn rfl) rfl ?_
    refine s_getfield rfl (cn rfl) c58 rfl ?_
    refine s_puti rfl (cn rfl) rfl c58 rfl ?_
    refine s_iconst rfl (cn rfl) ?_
    refine s_istore_n rfl (ch rfl) ?_
    have lp13 : ∀ r : Nat, r ≤ D → ∀ (h' : Nat → Option rr_E) (x' : Nat → Int) (l3 : Option Value) (c58 : h' 58 = some (MO (n : Int) kp tp pt wr fa dm (ce : Int) (D : Int) be od sm le sc ba bb ti rk ts tm pa wa)) (c68 : h' 68 = some (.inl (1, 30, .inr (.inl (fun k => jj (x' k)))))) (hf : fr [58, 68] h h') (hx : ∀ q, q < r → ∀ c, c ≤ D → x' (6 * q + c) = gm n D ce Rw rs q c), K 13 [some (.ref 58), some (.int (ii z)), some (.int (ii (r : Int))), l3] [] (N, S, h') := by
      refine dn (fun r hr ih13 => ?_)
      intro h' x' l3 c58 c68 hf hx
      have c66 := (hf 66 (by decide)).trans c66
      have c67 := (hf 67 (by decide)).trans c67
      refine hK _ _ _ _ ?_
      refine s_iload_n rfl (cn rfl) rfl ?_
      refine s_aload_n rfl (cn rfl) rfl ?_
      refine s_getfield rfl (cn rfl) c58 rfl ?_
      refine s_icmp_ge rfl (cn rfl) (cn rfl) ⟨by omega, by omega⟩ ⟨by omega, by omega⟩ (fun q16 => ?_) (fun q16 => ?_)
      · refine s_return rfl ?_
        exact ⟨rfl, h', x', rfl, hf, c58, c68, fun q hq c hc => hx q (by omega) c hc⟩
      · refine s_iconst rfl (cn rfl) ?_
        refine s_istore_n rfl (ch rfl) ?_
        have lp19 : ∀ p : Nat, p ≤ n → ∀ (h2 : Nat → Option rr_E) (y : Nat → Int) (c58 : h2 58 = some (MO (n : Int) kp tp pt wr fa dm (ce : Int) (D : Int) be od sm le sc ba bb ti rk ts tm pa wa)) (c68 : h2 68 = some (.inl (1, 30, .inr (.inl (fun k => jj (y k)))))) (hf2 : fr [58, 68] h h2) (hy1 : ∀ q, q < r → ∀ c, c ≤ D → y (6 * q + c) = gm n D ce Rw rs q c) (hy2 : ∀ c, c < p → y (6 * r + c) = st_bt (Rw r) c), K 19 [some (.ref 58), some (.int (ii z)), some (.int (ii (r : Int))), some (.int (ii (p : Int)))] [] (N, S, h2) := by
          refine dn (fun p hp ih19 => ?_)
          intro h2 y c58 c68 hf2 hy1 hy2
          have c66 := (hf2 66 (by decide)).trans o66
          have c67 := (hf2 67 (by decide)).trans o67
          have hRr := hR r
          have hb1 := bt_01 (Rw r) p
          refine hK _ _ _ _ ?_
          refine s_iload_n rfl (cn rfl) rfl ?_
          refine s_aload_n rfl (cn rfl) rfl ?_
          refine s_getfield rfl (cn rfl) c58 rfl ?_
          refine s_icmp_ge rfl (cn rfl) (cn rfl) ⟨by omega, by omega⟩ ⟨by omega, by omega⟩ (fun q22 => ?_) (fun q22 => ?_)
          · refine s_iload_n rfl (cn rfl) rfl ?_
            refine s_if_eq rfl (cn rfl) (cn rfl) ⟨by omega, by omega⟩ (fun q44 => ?_) (fun q44 => ?_)
            · first
              | (exfalso; omega)
              | skip
                refine s_aload_n rfl (cn rfl) rfl ?_
                refine s_getfield rfl (cn rfl) c58 rfl ?_
                refine s_bipush rfl (cn rfl) (by decide) ?_
                refine s_iload_n rfl (cn rfl) rfl ?_
                refine s_imul rfl (cn rfl) ?_
                refine s_aload_n rfl (cn rfl) rfl ?_
                refine s_getfield rfl (cn rfl) c58 rfl ?_
                refine s_iadd rfl (cn rfl) ?_
                refine s_aload_n rfl (cn rfl) rfl ?_
                refine s_getfield rfl (cn rfl) c58 rfl ?_
                refine s_iload_n rfl (cn rfl) rfl ?_
                refine s_laload rfl (cn rfl) _ rfl c67 (by omega) (by decide) rfl ?_
                refine s_lastore rfl (cn rfl) (6 * r + D) (by omega) c68 (by omega) (by decide) ?_
                refine s_iinc rfl (cn rfl) rfl ?_
                refine s_goto rfl (ch rfl) ?_
                first
                  | exact ih13 (by omega) _ _ _ c58 rr_set_eq (fr_s (by decide) hf2) (su_0 (by omega) (by omega) hy1 (fun c hc => hy2 c (by omega)))
                  | exact ih13 (by omega) _ _ _ c58 rr_set_eq (fr_s (by decide) (fr_s (by decide) hf2)) (su_1 (by omega) (by omega) (by first | rw [if_pos (by omega)] | rw [if_neg (by omega)]) hy1 (fun c hc => hy2 c (by omega)))
            · first
              | (exfalso; omega)
              | skip
                refine s_aload_n rfl (cn rfl) rfl ?_
                refine s_getfield rfl (cn rfl) c58 rfl ?_
                refine s_bipush rfl (cn rfl) (by decide) ?_
                refine s_iload_n rfl (cn rfl) rfl ?_
                refine s_imul rfl (cn rfl) ?_
                refine s_aload_n rfl (cn rfl) rfl ?_
                refine s_getfield rfl (cn rfl) c58 rfl ?_
                refine s_iadd rfl (cn rfl) ?_
                refine s_iload_n rfl (cn rfl) rfl ?_
                refine s_aload_n rfl (cn rfl) rfl ?_
                refine s_getfield rfl (cn rfl) c58 rfl ?_
                refine s_icmp_ge rfl (cn rfl) (cn rfl) ⟨by omega, by omega⟩ ⟨by omega, by omega⟩ (fun q56 => ?_) (fun q56 => ?_)
                · refine s_lconst rfl (cn rfl) 1 (by decide) ?_
                  refine s_lastore rfl (cn rfl) (6 * r + n) (by omega) c68 (by omega) (by decide) ?_
                  refine s_aload_n rfl (cn rfl) rfl ?_
                  refine s_getfield rfl (cn rfl) c58 rfl ?_
                  refine s_bipush rfl (cn rfl) (by decide) ?_
                  refine s_iload_n rfl (cn rfl) rfl ?_
                  refine s_imul rfl (cn rfl) ?_
                  refine s_aload_n rfl (cn rfl) rfl ?_
                  refine s_getfield rfl (cn rfl) c58 rfl ?_
                  refine s_iadd rfl (cn rfl) ?_
                  refine s_aload_n rfl (cn rfl) rfl ?_
                  refine s_getfield rfl (cn rfl) c58 rfl ?_
                  refine s_iload_n rfl (cn rfl) rfl ?_
                  refine s_laload rfl (cn rfl) _ rfl c67 (by omega) (by decide) rfl ?_
                  refine s_lastore rfl (cn rfl) (6 * r + D) (by omega) rr_set_eq (by omega) (by decide) ?_
                  refine s_iinc rfl (cn rfl) rfl ?_
                  refine s_goto rfl (ch rfl) ?_
                  first
                    | exact ih13 (by omega) _ _ _ c58 rr_set_eq (fr_s (by decide) hf2) (su_0 (by omega) (by omega) hy1 (fun c hc => hy2 c (by omega)))
                    | exact ih13 (by omega) _ _ _ c58 rr_set_eq (fr_s (by decide) (fr_s (by decide) hf2)) (su_1 (by omega) (by omega) (by first | rw [if_pos (by omega)] | rw [if_neg (by omega)]) hy1 (fun c hc => hy2 c (by omega)))
                · refine s_lconst rfl (cn rfl) 0 (by decide) ?_
                  refine s_goto rfl (cn rfl) ?_
                  refine s_lastore rfl (cn rfl) (6 * r + n) (by omega) c68 (by omega) (by decide) ?_
                  refine s_aload_n rfl (cn rfl) rfl ?_
                  refine s_getfield rfl (cn rfl) c58 rfl ?_
                  refine s_bipush rfl (cn rfl) (by decide) ?_
                  refine s_iload_n rfl (cn rfl) rfl ?_
                  refine s_imul rfl (cn rfl) ?_
                  refine s_aload_n rfl (cn rfl) rfl ?_
                  refine s_getfield rfl (cn rfl) c58 rfl ?_
                  refine s_iadd rfl (cn rfl) ?_
                  refine s_aload_n rfl (cn rfl) rfl ?_
                  refine s_getfield rfl (cn rfl) c58 rfl ?_
                  refine s_iload_n rfl (cn rfl) rfl ?_
                  refine s_laload rfl (cn rfl) _ rfl c67 (by omega) (by decide) rfl ?_
                  refine s_lastore rfl (cn rfl) (6 * r + D) (by omega) rr_set_eq (by omega) (by decide) ?_
                  refine s_iinc rfl (cn rfl) rfl ?_
                  refine s_goto rfl (ch rfl) ?_
                  first
                    | exact ih13 (by omega) _ _ _ c58 rr_set_eq (fr_s (by decide) hf2) (su_0 (by omega) (by omega) hy1 (fun c hc => hy2 c (by omega)))
                    | exact ih13 (by omega) _ _ _ c58 rr_set_eq (fr_s (by decide) (fr_s (by decide) hf2)) (su_1 (by omega) (by omega) (by first | rw [if_pos (by omega)] | rw [if_neg (by omega)]) hy1 (fun c hc => hy2 c (by omega)))
          · refine s_aload_n rfl (cn rfl) rfl ?_
            refine s_getfield rfl (cn rfl) c58 rfl ?_
            refine s_bipush rfl (cn rfl) (by decide) ?_
            refine s_iload_n rfl (cn rfl) rfl ?_
            refine s_imul rfl (cn rfl) ?_
            refine s_iload_n rfl (cn rfl) rfl ?_
            refine s_iadd rfl (cn rfl) ?_
            refine s_aload_n rfl (cn rfl) rfl ?_
            refine s_getfield rfl (cn rfl) c58 rfl ?_
            refine s_iload_n rfl (cn rfl) rfl ?_
            refine s_iaload rfl (cn rfl) _ rfl c66 rfl (by omega) (by decide) rfl ?_
            refine s_iload_n rfl (cn rfl) rfl ?_
            refine s_stat rfl (cn rfl) rfl rfl rfl (m_has (by omega) (by omega)) ?_
            rintro _ _ ⟨rfl, rfl⟩
            refine s_ifb_eq rfl (cn rfl) (cn rfl) (fun q36 => ?_) (fun q36 => ?_)
            · refine s_lconst rfl (cn rfl) 0 (by decide) ?_
              refine s_lastore rfl (cn rfl) (6 * r + p) (by omega) c68 (by omega) (by decide) ?_
              refine s_iinc rfl (cn rfl) rfl ?_
              refine s_goto rfl (ch rfl) ?_
              exact ih19 (by omega) _ _ c58 rr_set_eq (fr_s (by decide) hf2) (fun q hq c hc => (fu_n (by omega)).trans (hy1 q hq c hc)) (su_r (by omega) hy2)
            · refine s_lconst rfl (cn rfl) 1 (by decide) ?_
              refine s_goto rfl (cn rfl) ?_
              refine s_lastore rfl (cn rfl) (6 * r + p) (by omega) c68 (by omega) (by decide) ?_
              refine s_iinc rfl (cn rfl) rfl ?_
              refine s_goto rfl (ch rfl) ?_
              exact ih19 (by omega) _ _ c58 rr_set_eq (fr_s (by decide) hf2) (fun q hq c hc => (fu_n (by omega)).trans (hy1 q hq c hc)) (su_r (by omega) hy2)
        exact lp19 0 (by omega) _ x' c58 c68 hf hx (fun c hc => absurd hc (by omega))
    exact lp13 0 (by omega) _ x _ (by first | (rw [← show (n : Int) + 1 = (D : Int) by omega]; exact rr_set_eq) | (rw [← show (n : Int) = (D : Int) by omega]; exact rr_set_eq)) c68 (fr_s (by decide) fr_r) (fun q hq => absurd hq (by omega))
  · refine s_aload_n rfl (cn rfl) rfl ?_
    refine s_getfield rfl (cn rfl) c58 rfl ?_
    refine s_iconst rfl (cn rfl) ?_
    refine s_iadd rfl (cn rfl) ?_
    refine s_goto rfl (cn rfl) ?_
    refine s_puti rfl (cn rfl) rfl c58 rfl ?_
    refine s_iconst rfl (cn rfl) ?_
    refine s_istore_n rfl (ch rfl) ?_
    have lp13 : ∀ r : Nat, r ≤ D → ∀ (h' : Nat → Option rr_E) (x' : Nat → Int) (l3 : Option Value) (c58 : h' 58 = some (MO (n : Int) kp tp pt wr fa dm (ce : Int) (D : Int) be od sm le sc ba bb ti rk ts tm pa wa)) (c68 : h' 68 = some (.inl (1, 30, .inr (.inl (fun k => jj (x' k)))))) (hf : fr [58, 68] h h') (hx : ∀ q, q < r → ∀ c, c ≤ D → x' (6 * q + c) = gm n D ce Rw rs q c), K 13 [some (.ref 58), some (.int (ii z)), some (.int (ii (r : Int))), l3] [] (N, S, h') := by
      refine dn (fun r hr ih13 => ?_)
      intro h' x' l3 c58 c68 hf hx
      have c66 := (hf 66 (by decide)).trans c66
      have c67 := (hf 67 (by decide)).trans c67
      refine hK _ _ _ _ ?_
      refine s_iload_n rfl (cn rfl) rfl ?_
      refine s_aload_n rfl (cn rfl) rfl ?_
      refine s_getfield rfl (cn rfl) c58 rfl ?_
      refine s_icmp_ge rfl (cn rfl) (cn rfl) ⟨by omega, by omega⟩ ⟨by omega, by omega⟩ (fun q16 => ?_) (fun q16 => ?_)
      · refine s_return rfl ?_
        exact ⟨rfl, h', x', rfl, hf, c58, c68, fun q hq c hc => hx q (by omega) c hc⟩
      · refine s_iconst rfl (cn rfl) ?_
        refine s_istore_n rfl (ch rfl) ?_
        have lp19 : ∀ p : Nat, p ≤ n → ∀ (h2 : Nat → Option rr_E) (y : Nat → Int) (c58 : h2 58 = some (MO (n : Int) kp tp pt wr fa dm (ce : Int) (D : Int) be od sm le sc ba bb ti rk ts tm pa wa)) (c68 : h2 68 = some (.inl (1, 30, .inr (.inl (fun k => jj (y k)))))) (hf2 : fr [58, 68] h h2) (hy1 : ∀ q, q < r → ∀ c, c ≤ D → y (6 * q + c) = gm n D ce Rw rs q c) (hy2 : ∀ c, c < p → y (6 * r + c) = st_bt (Rw r) c), K 19 [some (.ref 58), some (.int (ii z)), some (.int (ii (r : Int))), some (.int (ii (p : Int)))] [] (N, S, h2) := by
          refine dn (fun p hp ih19 => ?_)
          intro h2 y c58 c68 hf2 hy1 hy2
          have c66 := (hf2 66 (by decide)).trans o66
          have c67 := (hf2 67 (by decide)).trans o67
          have hRr := hR r
          have hb1 := bt_01 (Rw r) p
          refine hK _ _ _ _ ?_
          refine s_iload_n rfl (cn rfl) rfl ?_
          refine s_aload_n rfl (cn rfl) rfl ?_
          refine s_getfield rfl (cn rfl) c58 rfl ?_
          refine s_icmp_ge rfl (cn rfl) (cn rfl) ⟨by omega, by omega⟩ ⟨by omega, by omega⟩ (fun q22 => ?_) (fun q22 => ?_)
          · refine s_iload_n rfl (cn rfl) rfl ?_
            refine s_if_eq rfl (cn rfl) (cn rfl) ⟨by omega, by omega⟩ (fun q44 => ?_) (fun q44 => ?_)
            · first
              | (exfalso; omega)
              | skip
                refine s_aload_n rfl (cn rfl) rfl ?_
                refine s_getfield rfl (cn rfl) c58 rfl ?_
                refine s_bipush rfl (cn rfl) (by decide) ?_
                refine s_iload_n rfl (cn rfl) rfl ?_
                refine s_imul rfl (cn rfl) ?_
                refine s_aload_n rfl (cn rfl) rfl ?_
                refine s_getfield rfl (cn rfl) c58 rfl ?_
                refine s_iadd rfl (cn rfl) ?_
                refine s_aload_n rfl (cn rfl) rfl ?_
                refine s_getfield rfl (cn rfl) c58 rfl ?_
                refine s_iload_n rfl (cn rfl) rfl ?_
                refine s_laload rfl (cn rfl) _ rfl c67 (by omega) (by decide) rfl ?_
                refine s_lastore rfl (cn rfl) (6 * r + D) (by omega) c68 (by omega) (by decide) ?_
                refine s_iinc rfl (cn rfl) rfl ?_
                refine s_goto rfl (ch rfl) ?_
                first
                  | exact ih13 (by omega) _ _ _ c58 rr_set_eq (fr_s (by decide) hf2) (su_0 (by omega) (by omega) hy1 (fun c hc => hy2 c (by omega)))
                  | exact ih13 (by omega) _ _ _ c58 rr_set_eq (fr_s (by decide) (fr_s (by decide) hf2)) (su_1 (by omega) (by omega) (by first | rw [if_pos (by omega)] | rw [if_neg (by omega)]) hy1 (fun c hc => hy2 c (by omega)))
            · first
              | (exfalso; omega)
              | skip
                refine s_aload_n rfl (cn rfl) rfl ?_
                refine s_getfield rfl (cn rfl) c58 rfl ?_
                refine s_bipush rfl (cn rfl) (by decide) ?_
                refine s_iload_n rfl (cn rfl) rfl ?_
                refine s_imul rfl (cn rfl) ?_
                refine s_aload_n rfl (cn rfl) rfl ?_
                refine s_getfield rfl (cn rfl) c58 rfl ?_
                refine s_iadd rfl (cn rfl) ?_
                refine s_iload_n rfl (cn rfl) rfl ?_
                refine s_aload_n rfl (cn rfl) rfl ?_
                refine s_getfield rfl (cn rfl) c58 rfl ?_
                refine s_icmp_ge rfl (cn rfl) (cn rfl) ⟨by omega, by omega⟩ ⟨by omega, by omega⟩ (fun q56 => ?_) (fun q56 => ?_)
                · refine s_lconst rfl (cn rfl) 1 (by decide) ?_
                  refine s_lastore rfl (cn rfl) (6 * r + n) (by omega) c68 (by omega) (by decide) ?_
                  refine s_aload_n rfl (cn rfl) rfl ?_
                  refine s_getfield rfl (cn rfl) c58 rfl ?_
                  refine s_bipush rfl (cn rfl) (by decide) ?_
                  refine s_iload_n rfl (cn rfl) rfl ?_
                  refine s_imul rfl (cn rfl) ?_
                  refine s_aload_n rfl (cn rfl) rfl ?_
                  refine s_getfield rfl (cn rfl) c58 rfl ?_
                  refine s_iadd rfl (cn rfl) ?_
                  refine s_aload_n rfl (cn rfl) rfl ?_
                  refine s_getfield rfl (cn rfl) c58 rfl ?_
                  refine s_iload_n rfl (cn rfl) rfl ?_
                  refine s_laload rfl (cn rfl) _ rfl c67 (by omega) (by decide) rfl ?_
                  refine s_lastore rfl (cn rfl) (6 * r + D) (by omega) rr_set_eq (by omega) (by decide) ?_
                  refine s_iinc rfl (cn rfl) rfl ?_
                  refine s_goto rfl (ch rfl) ?_
                  first
                    | exact ih13 (by omega) _ _ _ c58 rr_set_eq (fr_s (by decide) hf2) (su_0 (by omega) (by omega) hy1 (fun c hc => hy2 c (by omega)))
                    | exact ih13 (by omega) _ _ _ c58 rr_set_eq (fr_s (by decide) (fr_s (by decide) hf2)) (su_1 (by omega) (by omega) (by first | rw [if_pos (by omega)] | rw [if_neg (by omega)]) hy1 (fun c hc => hy2 c (by omega)))
                · refine s_lconst rfl (cn rfl) 0 (by decide) ?_
                  refine s_goto rfl (cn rfl) ?_
                  refine s_lastore rfl (cn rfl) (6 * r + n) (by omega) c68 (by omega) (by decide) ?_
                  refine s_aload_n rfl (cn rfl) rfl ?_
                  refine s_getfield rfl (cn rfl) c58 rfl ?_
                  refine s_bipush rfl (cn rfl) (by decide) ?_
                  refine s_iload_n rfl (cn rfl) rfl ?_
                  refine s_imul rfl (cn rfl) ?_
                  refine s_aload_n rfl (cn rfl) rfl ?_
                  refine s_getfield rfl (cn rfl) c58 rfl ?_
                  refine s_iadd rfl (cn rfl) ?_
                  refine s_aload_n rfl (cn rfl) rfl ?_
                  refine s_getfield rfl (cn rfl) c58 rfl ?_
                  refine s_iload_n rfl (cn rfl) rfl ?_
                  refine s_laload rfl (cn rfl) _ rfl c67 (by omega) (by decide) rfl ?_
                  refine s_lastore rfl (cn rfl) (6 * r + D) (by omega) rr_set_eq (by omega) (by decide) ?_
                  refine s_iinc rfl (cn rfl) rfl ?_
                  refine s_goto rfl (ch rfl) ?_
                  first
                    | exact ih13 (by omega) _ _ _ c58 rr_set_eq (fr_s (by decide) hf2) (su_0 (by omega) (by omega) hy1 (fun c hc => hy2 c (by omega)))
                    | exact ih13 (by omega) _ _ _ c58 rr_set_eq (fr_s (by decide) (fr_s (by decide) hf2)) (su_1 (by omega) (by omega) (by first | rw [if_pos (by omega)] | rw [if_neg (by omega)]) hy1 (fun c hc => hy2 c (by omega)))
          · refine s_aload_n rfl (cn rfl) rfl ?_
            refine s_getfield rfl (cn rfl) c58 rfl ?_
            refine s_bipush rfl (cn rfl) (by decide) ?_
            refine s_iload_n rfl (cn rfl) rfl ?_
            refine s_imul rfl (cn rfl) ?_
            refine s_iload_n rfl (cn rfl) rfl ?_
            refine s_iadd rfl (cn rfl) ?_
            refine s_aload_n rfl (cn rfl) rfl ?_
            refine s_getfield rfl (cn rfl) c58 rfl ?_
            refine s_iload_n rfl (cn rfl) rfl ?_
            refine s_iaload rfl (cn rfl) _ rfl c66 rfl (by omega) (by decide) rfl ?_
            refine s_iload_n rfl (cn rfl) rfl ?_
            refine s_stat rfl (cn rfl) rfl rfl rfl (m_has (by omega) (by omega)) ?_
            rintro _ _ ⟨rfl, rfl⟩
            refine s_ifb_eq rfl (cn rfl) (cn rfl) (fun q36 => ?_) (fun q36 => ?_)
            · refine s_lconst rfl (cn rfl) 0 (by decide) ?_
              refine s_lastore rfl (cn rfl) (6 * r + p) (by omega) c68 (by omega) (by decide) ?_
              refine s_iinc rfl (cn rfl) rfl ?_
              refine s_goto rfl (ch rfl) ?_
              exact ih19 (by omega) _ _ c58 rr_set_eq (fr_s (by decide) hf2) (fun q hq c hc => (fu_n (by omega)).trans (hy1 q hq c hc)) (su_r (by omega) hy2)
            · refine s_lconst rfl (cn rfl) 1 (by decide) ?_
              refine s_goto rfl (cn rfl) ?_
              refine s_lastore rfl (cn rfl) (6 * r + p) (by omega) c68 (by omega) (by decide) ?_
              refine s_iinc rfl (cn rfl) rfl ?_
              refine s_goto rfl (ch rfl) ?_
              exact ih19 (by omega) _ _ c58 rr_set_eq (fr_s (by decide) hf2) (fun q hq c hc => (fu_n (by omega)).trans (hy1 q hq c hc)) (su_r (by omega) hy2)
        exact lp19 0 (by omega) _ x' c58 c68 hf hx (fun c hc => absurd hc (by omega))
    exact lp13 0 (by omega) _ x _ (by first | (rw [← show (n : Int) + 1 = (D : Int) by omega]; exact rr_set_eq) | (rw [← show (n : Int) = (D : Int) by omega]; exact rr_set_eq)) c68 (fr_s (by decide) fr_r) (fun q hq => absurd hq (by omega))
theorem m_swaps {d N S n : Nat} {kp tp pt wr fa dm ce be od sm le sc ba bb ti rk ts tm pa wa : Int} {h : Nat → Option rr_E}  {a b D : Nat} {x : Nat → Int} (c58 : h 58 = some (MO (n : Int) kp tp pt wr fa dm ce (D : Int) be od sm le sc ba bb ti rk ts tm pa wa)) (c68 : h 68 = some (.inl (1, 30, .inr (.inl (fun k => jj (x k)))))) (hD : D ≤ 5) (ha : a < D) (hb : b < D) : rr_Calls (d + 1) j_Model_swaps [.ref 58, .int (ii (a : Int)), .int (ii (b : Int))] (N, S, h) (fun r R => r = none ∧ ∃ (h' : Nat → Option rr_E) (x' : Nat → Int), R = (N, S, h') ∧ fr [68] h h' ∧ h' 68 = some (.inl (1, 30, .inr (.inl (fun k => jj (x' k))))) ∧ ∀ q, q < D → ∀ c, c ≤ D → x' (6 * q + c) = x (6 * swq a b q + c)) := by
  refine rr_meth (C := K_Model_swaps) (hd := h_Model_swaps) (mx := 6) rfl rfl (fun K hK => ?_)
  refine hK _ _ _ _ ?_
  refine s_iconst rfl (cn rfl) ?_
  refine s_istore_n rfl (ch rfl) ?_
  have lp2 : ∀ c : Nat, c ≤ D + 1 → ∀ (h' : Nat → Option rr_E) (y : Nat → Int) (l4 : Option Value) (c68 : h' 68 = some (.inl (1, 30, .inr (.inl (fun k => jj (y k)))))) (hf : fr [68] h h') (hx : ∀ q, q < D → ∀ k, k ≤ D → y (6 * q + k) = if k < c then x (6 * swq a b q + k) else x (6 * q + k)), K 2 [some (.ref 58), some (.int (ii (a : Int))), some (.int (ii (b : Int))), some (.int (ii (c : Int))), l4, none] [] (N, S, h') := by
    refine dn (fun c hc ih2 => ?_)
    intro h' y l4 c68 hf hx
    have c58 := (hf 58 (by decide)).trans c58
    refine hK _ _ _ _ ?_
    refine s_iload_n rfl (cn rfl) rfl ?_
    refine s_aload_n rfl (cn rfl) rfl ?_
    refine s_getfield rfl (cn rfl) c58 rfl ?_
    refine s_icmp_gt rfl (cn rfl) (cn rfl) ⟨by omega, by omega⟩ ⟨by omega, by omega⟩ (fun q5 => ?_) (fun q5 => ?_)
    · refine s_return rfl ?_
      exact ⟨rfl, h', y, rfl, hf, c68, fun q hq k hk => (hx q hq k hk).trans (if_pos (by omega))⟩
    · refine s_aload_n rfl (cn rfl) rfl ?_
      refine s_getfield rfl (cn rfl) c58 rfl ?_
      refine s_bipush rfl (cn rfl) (by decide) ?_
      refine s_iload_n rfl (cn rfl) rfl ?_
      refine s_imul rfl (cn rfl) ?_
      refine s_iload_n rfl (cn rfl) rfl ?_
      refine s_iadd rfl (cn rfl) ?_
      refine s_laload rfl (cn rfl) (6 * a + c) (by omega) c68 (by omega) (by decide) rfl ?_
      refine s_lstore rfl (cn rfl) ?_
      refine s_aload_n rfl (cn rfl) rfl ?_
      refine s_getfield rfl (cn rfl) c58 rfl ?_
      refine s_bipush rfl (cn rfl) (by decide) ?_
      refine s_iload_n rfl (cn rfl) rfl ?_
      refine s_imul rfl (cn rfl) ?_
      refine s_iload_n rfl (cn rfl) rfl ?_
      refine s_iadd rfl (cn rfl) ?_
      refine s_aload_n rfl (cn rfl) rfl ?_
      refine s_getfield rfl (cn rfl) c58 rfl ?_
      refine s_bipush rfl (cn rfl) (by decide) ?_
      refine s_iload_n rfl (cn rfl) rfl ?_
      refine s_imul rfl (cn rfl) ?_
      refine s_iload_n rfl (cn rfl) rfl ?_
      refine s_iadd rfl (cn rfl) ?_
      refine s_laload rfl (cn rfl) (6 * b + c) (by omega) c68 (by omega) (by decide) rfl ?_
      refine s_lastore rfl (cn rfl) (6 * a + c) (by omega) c68 (by omega) (by decide) ?_
      refine s_aload_n rfl (cn rfl) rfl ?_
      refine s_getfield rfl (cn rfl) c58 rfl ?_
      refine s_bipush rfl (cn rfl) (by decide) ?_
      refine s_iload_n rfl (cn rfl) rfl ?_
      refine s_imul rfl (cn rfl) ?_
      refine s_iload_n rfl (cn rfl) rfl ?_
      refine s_iadd rfl (cn rfl) ?_
      refine s_lload rfl (cn rfl) rfl ?_
      refine s_lastore rfl (cn rfl) (6 * b + c) (by omega) rr_set_eq (by omega) (by decide) ?_
      refine s_iinc rfl (cn rfl) rfl ?_
      refine s_goto rfl (ch rfl) ?_
      exact ih2 (by omega) _ _ _ rr_set_eq (fr_s (by decide) (fr_s (by decide) hf)) (sw_inv hD ha hb hx (by omega))
  exact lp2 0 (by omega) _ x _ c68 fr_r (fun q hq k hk => (if_neg (by omega)).symm)
theorem m_isSolved {d N S n : Nat} {kp tp pt wr fa dm be od sm le sc ba bb ti rk ts tm pa wa : Int} {h : Nat → Option rr_E} (hn : 2 ≤ n ∧ n ≤ 4)  {ce D : Nat} {di z : Int} (c58 : h 58 = some (MO (n : Int) kp tp pt wr fa dm (ce : Int) di be od sm le sc ba bb ti rk ts tm pa wa)) {Rw : Nat → Nat} {rs x : Nat → Int} (c66 : h 66 = some (.inl (0, 5, .inl (fun k => ii ((Rw k : Nat) : Int))))) (c67 : h 67 = some (.inl (1, 5, .inr (.inl (fun k => jj (rs k)))))) (c68 : h 68 = some (.inl (1, 30, .inr (.inl (fun k => jj (x k)))))) (hR : ∀ k, Rw k < 16) (hce : ce ≤ 5) (hz : (z = 1 ∧ D = n + 1) ∨ (z = 0 ∧ D = n)) {ab : Nat → Int} (c69 : h 69 = some (.inl (1, 5, .inr (.inl (fun k => jj (ab k)))))) {B : Int} (hB : 0 ≤ B ∧ B ≤ 5000000000000) (hrs : ∀ q, q < D → -B ≤ rs q ∧ rs q ≤ B) : rr_Calls (d + 3) j_Model_isSolved [.ref 58, .int (ii z)] (N, S, h) (fun r R => (r = some (.int (ii 1)) ∧ ∃ (h' : Nat → Option rr_E) (x' a' : Nat → Int) (b' : Int), R = (N, S, h') ∧ fr [58, 68, 69] h h' ∧ h' 58 = some (MO (n : Int) kp tp pt wr fa dm (ce : Int) (D : Int) b' od sm le sc ba bb ti rk ts tm pa wa) ∧ h' 68 = some (.inl (1, 30, .inr (.inl (fun k => jj (x' k))))) ∧ h' 69 = some (.inl (1, 5, .inr (.inl (fun k => jj (a' k))))) ∧ 0 < b' ∧ b' ≤ 128 ∧ gj_sol D (gm n D ce Rw rs) a' b' ∧ (∀ z w, gj_sol D (gm n D ce Rw rs) z w → ∀ q, q < D → b' * z q = w * a' q) ∧ (∀ q, q < D → -(65536 * B) ≤ a' q ∧ a' q ≤ 65536 * B) ∧ (-(256 * B) ≤ a' (D - 1) ∧ a' (D - 1) ≤ 256 * B)) ∨ (r = some (.int (ii 0)) ∧ ∃ (h' : Nat → Option rr_E) (x' : Nat → Int), R = (N, S, h') ∧ fr [58, 68, 69] h h' ∧ h' 58 = some (MO (n : Int) kp tp pt wr fa dm (ce : Int) (D : Int) be od sm le sc ba bb ti rk ts tm pa wa) ∧ h' 68 = some (.inl (1, 30, .inr (.inl (fun k => jj (x' k))))) ∧ h' 69 = some (.inl (1, 5, .inr (.inl (fun k => jj (ab k))))) ∧ ∃ z : Nat → Int, (∃ j, j < D ∧ z j ≠ 0) ∧ ∀ q, q < D → ms_sm D (fun c => (gm n D ce Rw rs) q c * z c) = 0)) := by
  refine rr_meth (C := K_Model_isSolved) (hd := h_Model_isSolved) (mx := 12) rfl rfl (fun K hK => ?_)
  have hD5 : D ≤ 5 := by omega
  have o69 := c69
  have o66 := c66
  have o67 := c67
  refine hK _ _ _ _ ?_
  refine s_aload_n rfl (cn rfl) rfl ?_
  refine s_iload_n rfl (cn rfl) rfl ?_
  refine s_virt rfl (cn rfl) rfl rfl c58 rfl (m_setsUp hn c58 c66 c67 c68 hR hce hz) ?_
  rintro _ _ ⟨rfl, h1, x1, rfl, hf1, c58, c68, hx1⟩
  have c69 := (hf1 69 (by decide)).trans c69
  refine s_lconst rfl (cn rfl) 1 (by decide) ?_
  refine s_lstore_n rfl (cn rfl) ?_
  refine s_iconst rfl (cn rfl) ?_
  refine s_istore rfl (ch rfl) ?_
  have lp7 : ∀ k : Nat, k ≤ D → ∀ (h' : Nat → Option rr_E) (x' : Nat → Int) (last : Int) (l5 l6 l7 l8 l9 l10 l11 : Option Value) (c58 : h' 58 = some (MO (n : Int) kp tp pt wr fa dm (ce : Int) (D : Int) be od sm le sc ba bb ti rk ts tm pa wa)) (c68 : h' 68 = some (.inl (1, 30, .inr (.inl (fun k => jj (x' k)))))) (c69 : h' 69 = some (.inl (1, 5, .inr (.inl (fun k => jj (ab k)))))) (hf : fr [58, 68] h h') (hG : GS D k last B (fun q c => x' (6 * q + c)) (gm n D ce Rw rs)), K 7 [some (.ref 58), some (.int (ii z)), some (.long (jj last)), none, some (.int (ii (k : Int))), l5, l6, l7, l8, l9, l10, l11] [] (N, S, h') := by
    refine dn (fun k hk ih7 => ?_)
    intro h' x' last l5 l6 l7 l8 l9 l10 l11 c58 c68 c69 hf hG
    have hlb := GS_l hD5 hk hG
    refine hK _ _ _ _ ?_
    refine s_iload rfl (cn rfl) rfl ?_
    refine s_aload_n rfl (cn rfl) rfl ?_
    refine s_getfield rfl (cn rfl) c58 rfl ?_
    refine s_icmp_ge rfl (cn rfl) (cn rfl) ⟨by omega, by omega⟩ ⟨by omega, by omega⟩ (fun q10 => ?_) (fun q10 => ?_)
    · refine s_aload_n rfl (cn rfl) rfl ?_
      refine s_lload_n rfl (cn rfl) rfl ?_
      refine s_lconst rfl (cn rfl) 0 (by decide) ?_
      refine s_lcmp rfl (cn rfl) ?_
      refine s_ifl_ge rfl (cn rfl) (cn rfl) ⟨by omega, by omega⟩ ⟨by omega, by omega⟩ (fun q119 => ?_) (fun q119 => ?_)
      · refine s_lload_n rfl (cn rfl) rfl ?_
        refine s_putl rfl (cn rfl) rfl c58 rfl ?_
        refine s_iconst rfl (cn rfl) ?_
        refine s_istore rfl (ch rfl) ?_
        have lp127 : ∀ j : Nat, j ≤ D → ∀ (h5 : Nat → Option rr_E) (a5 : Nat → Int) (b5v : Int) (hb5 : b5v = if last < 0 then -last else last) (c58 : h5 58 = some (MO (n : Int) kp tp pt wr fa dm (ce : Int) (D : Int) b5v od sm le sc ba bb ti rk ts tm pa wa)) (c68 : h5 68 = some (.inl (1, 30, .inr (.inl (fun k => jj (x' k)))))) (c69 : h5 69 = some (.inl (1, 5, .inr (.inl (fun k => jj (a5 k)))))) (hf5 : fr [58, 68, 69] h h5) (ha5 : ∀ q, q < j → a5 q = if last < 0 then -x' (6 * q + D) else x' (6 * q + D)), K 127 [some (.ref 58), some (.int (ii z)), some (.long (jj last)), none, some (.int (ii (j : Int))), l5, l6, l7, l8, l9, l10, l11] [] (N, S, h5) := by
          refine dn (fun j hj ih127 => ?_)
          intro h5 a5 b5v hb5 c58 c68 c69 hf5 ha5
          refine hK _ _ _ _ ?_
          refine s_iload rfl (cn rfl) rfl ?_
          refine s_aload_n rfl (cn rfl) rfl ?_
          refine s_getfield rfl (cn rfl) c58 rfl ?_
          refine s_icmp_ge rfl (cn rfl) (cn rfl) ⟨by omega, by omega⟩ ⟨by omega, by omega⟩ (fun q130 => ?_) (fun q130 => ?_)
          · refine s_iconst rfl (cn rfl) ?_
            refine s_zreturn rfl (Or.inr rfl) ?_
            refine Or.inl ⟨rfl, h5, x', a5, b5v, rfl, hf5, c58, c68, c69, ?_⟩
            obtain rfl : k = D := by omega
            exact GS_end hD5 (by omega) hB.1 hG (fun q hq => ha5 q (by omega)) hb5
          · refine s_aload_n rfl (cn rfl) rfl ?_
            refine s_getfield rfl (cn rfl) c58 rfl ?_
            refine s_iload rfl (cn rfl) rfl ?_
            refine s_lload_n rfl (cn rfl) rfl ?_
            refine s_lconst rfl (cn rfl) 0 (by decide) ?_
            refine s_lcmp rfl (cn rfl) ?_
            refine s_ifl_ge rfl (cn rfl) (cn rfl) ⟨by omega, by omega⟩ ⟨by omega, by omega⟩ (fun q137 => ?_) (fun q137 => ?_)
            · first
              | (exfalso; omega)
              | skip
                refine s_aload_n rfl (cn rfl) rfl ?_
                refine s_getfield rfl (cn rfl) c58 rfl ?_
                refine s_bipush rfl (cn rfl) (by decide) ?_
                refine s_iload rfl (cn rfl) rfl ?_
                refine s_imul rfl (cn rfl) ?_
                refine s_aload_n rfl (cn rfl) rfl ?_
                refine s_getfield rfl (cn rfl) c58 rfl ?_
                refine s_iadd rfl (cn rfl) ?_
                refine s_laload rfl (cn rfl) (6 * j + D) (by omega) c68 (by omega) (by decide) rfl ?_
                refine s_lastore rfl (cn rfl) _ rfl c69 (by omega) (by decide) ?_
                refine s_iinc rfl (cn rfl) rfl ?_
                refine s_goto rfl (ch rfl) ?_
                exact ih127 (by omega) _ _ _ hb5 c58 c68 rr_set_eq (fr_s (by decide) hf5) (fun q hq => by
                  by_cases e : q = j
                  · subst e
                    rw [fu_s]
                    first
                      | rw [if_neg (show ¬ last < 0 by omega)]
                      | rw [if_pos (show last < 0 by omega)]
                  · rw [fu_n e]; exact ha5 q (by omega))
            · first
              | (exfalso; omega)
              | skip
                refine s_aload_n rfl (cn rfl) rfl ?_
                refine s_getfield rfl (cn rfl) c58 rfl ?_
                refine s_bipush rfl (cn rfl) (by decide) ?_
                refine s_iload rfl (cn rfl) rfl ?_
                refine s_imul rfl (cn rfl) ?_
                refine s_aload_n rfl (cn rfl) rfl ?_
                refine s_getfield rfl (cn rfl) c58 rfl ?_
                refine s_iadd rfl (cn rfl) ?_
                refine s_laload rfl (cn rfl) (6 * j + D) (by omega) c68 (by omega) (by decide) rfl ?_
                refine s_lneg rfl (cn rfl) ?_
                refine s_goto rfl (cn rfl) ?_
                refine s_lastore rfl (cn rfl) _ rfl c69 (by omega) (by decide) ?_
                refine s_iinc rfl (cn rfl) rfl ?_
                refine s_goto rfl (ch rfl) ?_
                exact ih127 (by omega) _ _ _ hb5 c58 c68 rr_set_eq (fr_s (by decide) hf5) (fun q hq => by
                  by_cases e : q = j
                  · subst e
                    rw [fu_s]
                    first
                      | rw [if_neg (show ¬ last < 0 by omega)]
                      | rw [if_pos (show last < 0 by omega)]
                  · rw [fu_n e]; exact ha5 q (by omega))
        exact lp127 0 (by omega) _ ab _ (by first | rw [if_neg (show ¬ last < 0 by omega)] | rw [if_pos (show last < 0 by omega)]) rr_set_eq c68 c69 (fr_s (by decide) (fr_w hf (by simp))) (fun q hq => absurd hq (by omega))
      · refine s_lload_n rfl (cn rfl) rfl ?_
        refine s_lneg rfl (cn rfl) ?_
        refine s_goto rfl (cn rfl) ?_
        refine s_putl rfl (cn rfl) rfl c58 rfl ?_
        refine s_iconst rfl (cn rfl) ?_
        refine s_istore rfl (ch rfl) ?_
        have lp127 : ∀ j : Nat, j ≤ D → ∀ (h5 : Nat → Option rr_E) (a5 : Nat → Int) (b5v : Int) (hb5 : b5v = if last < 0 then -last else last) (c58 : h5 58 = some (MO (n : Int) kp tp pt wr fa dm (ce : Int) (D : Int) b5v od sm le sc ba bb ti rk ts tm pa wa)) (c68 : h5 68 = some (.inl (1, 30, .inr (.inl (fun k => jj (x' k)))))) (c69 : h5 69 = some (.inl (1, 5, .inr (.inl (fun k => jj (a5 k)))))) (hf5 : fr [58, 68, 69] h h5) (ha5 : ∀ q, q < j → a5 q = if last < 0 then -x' (6 * q + D) else x' (6 * q + D)), K 127 [some (.ref 58), some (.int (ii z)), some (.long (jj last)), none, some (.int (ii (j : Int))), l5, l6, l7, l8, l9, l10, l11] [] (N, S, h5) := by
          refine dn (fun j hj ih127 => ?_)
          intro h5 a5 b5v hb5 c58 c68 c69 hf5 ha5
          refine hK _ _ _ _ ?_
          refine s_iload rfl (cn rfl) rfl ?_
          refine s_aload_n rfl (cn rfl) rfl ?_
          refine s_getfield rfl (cn rfl) c58 rfl ?_
          refine s_icmp_ge rfl (cn rfl) (cn rfl) ⟨by omega, by omega⟩ ⟨by omega, by omega⟩ (fun q130 => ?_) (fun q130 => ?_)
          · refine s_iconst rfl (cn rfl) ?_
            refine s_zreturn rfl (Or.inr rfl) ?_
            refine Or.inl ⟨rfl, h5, x', a5, b5v, rfl, hf5, c58, c68, c69, ?_⟩
            obtain rfl : k = D := by omega
            exact GS_end hD5 (by omega) hB.1 hG (fun q hq => ha5 q (by omega)) hb5
          · refine s_aload_n rfl (cn rfl) rfl ?_
            refine s_getfield rfl (cn rfl) c58 rfl ?_
            refine s_iload rfl (cn rfl) rfl ?_
            refine s_lload_n rfl (cn rfl) rfl ?_
            refine s_lconst rfl (cn rfl) 0 (by decide) ?_
            refine s_lcmp rfl (cn rfl) ?_
            refine s_ifl_ge rfl (cn rfl) (cn rfl) ⟨by omega, by omega⟩ ⟨by omega, by omega⟩ (fun q137 => ?_) (fun q137 => ?_)
            · first
              | (exfalso; omega)
              | skip
                refine s_aload_n rfl (cn rfl) rfl ?_
                refine s_getfield rfl (cn rfl) c58 rfl ?_
                refine s_bipush rfl (cn rfl) (by decide) ?_
                refine s_iload rfl (cn rfl) rfl ?_
                refine s_imul rfl (cn rfl) ?_
                refine s_aload_n rfl (cn rfl) rfl ?_
                refine s_getfield rfl (cn rfl) c58 rfl ?_
                refine s_iadd rfl (cn rfl) ?_
                refine s_laload rfl (cn rfl) (6 * j + D) (by omega) c68 (by omega) (by decide) rfl ?_
                refine s_lastore rfl (cn rfl) _ rfl c69 (by omega) (by decide) ?_
                refine s_iinc rfl (cn rfl) rfl ?_
                refine s_goto rfl (ch rfl) ?_
                exact ih127 (by omega) _ _ _ hb5 c58 c68 rr_set_eq (fr_s (by decide) hf5) (fun q hq => by
                  by_cases e : q = j
                  · subst e
                    rw [fu_s]
                    first
                      | rw [if_neg (show ¬ last < 0 by omega)]
                      | rw [if_pos (show last < 0 by omega)]
                  · rw [fu_n e]; exact ha5 q (by omega))
            · first
              | (exfalso; omega)
              | skip
                refine s_aload_n rfl (cn rfl) rfl ?_
                refine s_getfield rfl (cn rfl) c58 rfl ?_
                refine s_bipush rfl (cn rfl) (by decide) ?_
                refine s_iload rfl (cn rfl) rfl ?_
                refine s_imul rfl (cn rfl) ?_
                refine s_aload_n rfl (cn rfl) rfl ?_
                refine s_getfield rfl (cn rfl) c58 rfl ?_
                refine s_iadd rfl (cn rfl) ?_
                refine s_laload rfl (cn rfl) (6 * j + D) (by omega) c68 (by omega) (by decide) rfl ?_
                refine s_lneg rfl (cn rfl) ?_
                refine s_goto rfl (cn rfl) ?_
                refine s_lastore rfl (cn rfl) _ rfl c69 (by omega) (by decide) ?_
                refine s_iinc rfl (cn rfl) rfl ?_
                refine s_goto rfl (ch rfl) ?_
                exact ih127 (by omega) _ _ _ hb5 c58 c68 rr_set_eq (fr_s (by decide) hf5) (fun q hq => by
                  by_cases e : q = j
                  · subst e
                    rw [fu_s]
                    first
                      | rw [if_neg (show ¬ last < 0 by omega)]
                      | rw [if_pos (show last < 0 by omega)]
                  · rw [fu_n e]; exact ha5 q (by omega))
        exact lp127 0 (by omega) _ ab _ (by first | rw [if_neg (show ¬ last < 0 by omega)] | rw [if_pos (show last < 0 by omega)]) rr_set_eq c68 c69 (fr_s (by decide) (fr_w hf (by simp))) (fun q hq => absurd hq (by omega))
    · refine s_iload rfl (cn rfl) rfl ?_
      refine s_istore rfl (ch rfl) ?_
      have lp13 : ∀ r : Nat, r ≤ D → ∀ (hr1 : k ≤ r) (hz0 : ∀ j, k ≤ j → j < r → x' (6 * j + k) = 0), K 13 [some (.ref 58), some (.int (ii z)), some (.long (jj last)), none, some (.int (ii (k : Int))), some (.int (ii (r : Int))), l6, l7, l8, l9, l10, l11] [] (N, S, h') := by
        refine dn (fun r hr ih13 => ?_)
        intro hr1 hz0
        refine hK _ _ _ _ ?_
        refine s_iload rfl (cn rfl) rfl ?_
        refine s_aload_n rfl (cn rfl) rfl ?_
        refine s_getfield rfl (cn rfl) c58 rfl ?_
        refine s_icmp_ge rfl (cn rfl) (cn rfl) ⟨by omega, by omega⟩ ⟨by omega, by omega⟩ (fun q16 => ?_) (fun q16 => ?_)
        · refine s_iload rfl (cn rfl) rfl ?_
          refine s_aload_n rfl (cn rfl) rfl ?_
          refine s_getfield rfl (cn rfl) c58 rfl ?_
          refine s_icmp_ne rfl (cn rfl) (cn rfl) ⟨by omega, by omega⟩ ⟨by omega, by omega⟩ (fun q33 => ?_) (fun q33 => ?_)
          · first
            | (exfalso; omega)
            | skip
              refine s_iload rfl (cn rfl) rfl ?_
              refine s_iload rfl (cn rfl) rfl ?_
              refine s_icmp_eq rfl (cn rfl) (cn rfl) ⟨by omega, by omega⟩ ⟨by omega, by omega⟩ (fun q38 => ?_) (fun q38 => ?_)
              · obtain ⟨y, c68, hG2, hp, hfy⟩ : ∃ y : Nat → Int, h' 68 = some (.inl (1, 30, .inr (.inl (fun k => jj (y k))))) ∧ GS D k last B (fun q c => y (6 * q + c)) (gm n D ce Rw rs) ∧ y (6 * k + k) ≠ 0 ∧ fr [58, 68] h h' := ⟨x', c68, hG, by rw [show r = k by omega] at q27; exact q27, hf⟩
                refine s_aload_n rfl (cn rfl) rfl ?_
                refine s_getfield rfl (cn rfl) c58 rfl ?_
                refine s_bipush rfl (cn rfl) (by decide) ?_
                refine s_iload rfl (cn rfl) rfl ?_
                refine s_imul rfl (cn rfl) ?_
                refine s_iload rfl (cn rfl) rfl ?_
                refine s_iadd rfl (cn rfl) ?_
                refine s_laload rfl (cn rfl) (6 * k + k) (by omega) c68 (by omega) (by decide) rfl ?_
                refine s_lstore rfl (cn rfl) ?_
                refine s_iconst rfl (cn rfl) ?_
                refine s_istore rfl (ch rfl) ?_
                have lp54 : ∀ q : Nat, q ≤ D → ∀ (h3 : Nat → Option rr_E) (w : Nat → Int) (m9 m10 m11 : Option Value) (c58 : h3 58 = some (MO (n : Int) kp tp pt wr fa dm (ce : Int) (D : Int) be od sm le sc ba bb ti rk ts tm pa wa)) (c68 : h3 68 = some (.inl (1, 30, .inr (.inl (fun k => jj (w k)))))) (hf3 : fr [58, 68] h h3) (hw : ∀ q', q' < D → ∀ c, c ≤ D → w (6 * q' + c) = if q' < q then gjn k last (fun q c => y (6 * q + c)) q' c else y (6 * q' + c)), K 54 [some (.ref 58), some (.int (ii z)), some (.long (jj last)), none, some (.int (ii (k : Int))), some (.int (ii (r : Int))), some (.long (jj (y (6 * k + k)))), none, some (.int (ii (q : Int))), m9, m10, m11] [] (N, S, h3) := by
                  refine dn (fun q hq ih54 => ?_)
                  intro h3 w m9 m10 m11 c58 c68 hf3 hw
                  refine hK _ _ _ _ ?_
                  refine s_iload rfl (cn rfl) rfl ?_
                  refine s_aload_n rfl (cn rfl) rfl ?_
                  refine s_getfield rfl (cn rfl) c58 rfl ?_
                  refine s_icmp_ge rfl (cn rfl) (cn rfl) ⟨by omega, by omega⟩ ⟨by omega, by omega⟩ (fun q57 => ?_) (fun q57 => ?_)
                  · refine s_lload rfl (cn rfl) rfl ?_
                    refine s_lstore_n rfl (cn rfl) ?_
                    refine s_iinc rfl (cn rfl) rfl ?_
                    refine s_goto rfl (ch rfl) ?_
                    exact ih7 (by omega) _ _ (y (6 * k + k)) _ _ _ _ _ _ _ c58 c68 ((hf3 69 (by decide)).trans o69) hf3 (GS_cg hD5 (by omega) (GS_step hD5 (by omega) hB.1 hG2 hp) (fun q' hq' c hc => (hw q' hq' c hc).trans (if_pos (by omega))))
                  · have hwq : ∀ c, c ≤ D → w (6 * q + c) = y (6 * q + c) := fun c hc => (hw q (by omega) c hc).trans (if_neg (by omega))
                    refine s_aload_n rfl (cn rfl) rfl ?_
                    refine s_getfield rfl (cn rfl) c58 rfl ?_
                    refine s_bipush rfl (cn rfl) (by decide) ?_
                    refine s_iload rfl (cn rfl) rfl ?_
                    refine s_imul rfl (cn rfl) ?_
                    refine s_iload rfl (cn rfl) rfl ?_
                    refine s_iadd rfl (cn rfl) ?_
                    refine s_laload rfl (cn rfl) (6 * q + k) (by omega) c68 (by omega) (by decide) (congrArg jj (hwq k (by omega))) ?_
                    refine s_lstore rfl (cn rfl) ?_
                    refine s_iconst rfl (cn rfl) ?_
                    refine s_istore rfl (ch rfl) ?_
                    have lp69 : ∀ c : Nat, c ≤ D + 1 → ∀ (h4 : Nat → Option rr_E) (u : Nat → Int) (c58 : h4 58 = some (MO (n : Int) kp tp pt wr fa dm (ce : Int) (D : Int) be od sm le sc ba bb ti rk ts tm pa wa)) (c68 : h4 68 = some (.inl (1, 30, .inr (.inl (fun k => jj (u k)))))) (hf4 : fr [58, 68] h h4) (hu : ∀ q', q' < D → ∀ c', c' ≤ D → u (6 * q' + c') = if q' < q ∨ (q' = q ∧ c' < c) then gjn k last (fun q c => y (6 * q + c)) q' c' else y (6 * q' + c')), K 69 [some (.ref 58), some (.int (ii z)), some (.long (jj last)), none, some (.int (ii (k : Int))), some (.int (ii (r : Int))), some (.long (jj (y (6 * k + k)))), none, some (.int (ii (q : Int))), some (.long (jj (y (6 * q + k)))), none, some (.int (ii (c : Int)))] [] (N, S, h4) := by
                      refine dn (fun c hc ih69 => ?_)
                      intro h4 u c58 c68 hf4 hu
                      refine hK _ _ _ _ ?_
                      refine s_iload rfl (cn rfl) rfl ?_
                      refine s_aload_n rfl (cn rfl) rfl ?_
                      refine s_getfield rfl (cn rfl) c58 rfl ?_
                      refine s_icmp_gt rfl (cn rfl) (cn rfl) ⟨by omega, by omega⟩ ⟨by omega, by omega⟩ (fun q72 => ?_) (fun q72 => ?_)
                      · refine s_iinc rfl (cn rfl) rfl ?_
                        refine s_goto rfl (ch rfl) ?_
                        exact ih54 (by omega) _ _ _ _ _ c58 c68 hf4 (gq_e (by omega) hu)
                      · refine s_iload rfl (cn rfl) rfl ?_
                        refine s_iload rfl (cn rfl) rfl ?_
                        refine s_icmp_eq rfl (cn rfl) (cn rfl) ⟨by omega, by omega⟩ ⟨by omega, by omega⟩ (fun q75 => ?_) (fun q75 => ?_)
                        · refine s_iinc rfl (cn rfl) rfl ?_
                          refine s_goto rfl (ch rfl) ?_
                          exact ih54 (by omega) _ _ _ _ _ c58 c68 hf4 (gq_e (by omega) hu)
                        · have hX := GS_b hD5 (show k < D by omega) hB hG2 hp (show q < D by omega) (show c ≤ D by omega)
                          have huq : u (6 * q + c) = y (6 * q + c) := (hu q (by omega) c (by omega)).trans (if_neg (by omega))
                          have huk : u (6 * k + c) = y (6 * k + c) := gq_k (by omega) (by omega) hu
                          refine s_aload_n rfl (cn rfl) rfl ?_
                          refine s_getfield rfl (cn rfl) c58 rfl ?_
                          refine s_bipush rfl (cn rfl) (by decide) ?_
                          refine s_iload rfl (cn rfl) rfl ?_
                          refine s_imul rfl (cn rfl) ?_
                          refine s_iload rfl (cn rfl) rfl ?_
                          refine s_iadd rfl (cn rfl) ?_
                          refine s_lload rfl (cn rfl) rfl ?_
                          refine s_aload_n rfl (cn rfl) rfl ?_
                          refine s_getfield rfl (cn rfl) c58 rfl ?_
                          refine s_bipush rfl (cn rfl) (by decide) ?_
                          refine s_iload rfl (cn rfl) rfl ?_
                          refine s_imul rfl (cn rfl) ?_
                          refine s_iload rfl (cn rfl) rfl ?_
                          refine s_iadd rfl (cn rfl) ?_
                          refine s_laload rfl (cn rfl) (6 * q + c) (by omega) c68 (by omega) (by decide) (congrArg jj huq) ?_
                          refine s_lmul rfl (cn rfl) ?_
                          refine s_lload rfl (cn rfl) rfl ?_
                          refine s_aload_n rfl (cn rfl) rfl ?_
                          refine s_getfield rfl (cn rfl) c58 rfl ?_
                          refine s_bipush rfl (cn rfl) (by decide) ?_
                          refine s_iload rfl (cn rfl) rfl ?_
                          refine s_imul rfl (cn rfl) ?_
                          refine s_iload rfl (cn rfl) rfl ?_
                          refine s_iadd rfl (cn rfl) ?_
                          refine s_laload rfl (cn rfl) (6 * k + c) (by omega) c68 (by omega) (by decide) (congrArg jj huk) ?_
                          refine s_lmul rfl (cn rfl) ?_
                          refine s_lsub rfl (cn rfl) ?_
                          refine s_lload_n rfl (cn rfl) rfl ?_
                          refine s_ldiv rfl (cn rfl) ⟨by omega, by omega⟩ ⟨by omega, by omega⟩ (td_b ⟨by omega, by omega⟩) hlb.2 ?_
                          refine s_lastore rfl (cn rfl) (6 * q + c) (by omega) c68 (by omega) (by decide) ?_
                          refine s_iinc rfl (cn rfl) rfl ?_
                          refine s_goto rfl (ch rfl) ?_
                          exact ih69 (by omega) _ _ c58 rr_set_eq (fr_s (by decide) hf4) (gq_s hD5 (by omega) (by omega) (by omega) hu)
                    exact lp69 0 (by omega) _ w c58 c68 hf3 (fun q' hq' c' hc' => (hw q' hq' c' hc').trans (by
                        by_cases e : q' < q
                        · rw [if_pos e, if_pos (Or.inl e)]
                        · rw [if_neg e, if_neg (by omega)]))
                exact lp54 0 (by omega) _ y _ _ _ c58 c68 hfy (fun q' hq' c hc => (if_neg (by omega)).symm)
              · refine s_aload_n rfl (cn rfl) rfl ?_
                refine s_iload rfl (cn rfl) rfl ?_
                refine s_iload rfl (cn rfl) rfl ?_
                refine s_virt rfl (cn rfl) rfl rfl c58 rfl (m_swaps (a := r) (b := k) c58 c68 hD5 (by omega) (by omega)) ?_
                rintro _ _ ⟨rfl, h2, x2, rfl, hf2, c68, hx2⟩
                have c58 := (hf2 58 (by decide)).trans c58
                obtain ⟨y, c68, hG2, hp, hfy⟩ : ∃ y : Nat → Int, h2 68 = some (.inl (1, 30, .inr (.inl (fun k => jj (y k))))) ∧ GS D k last B (fun q c => y (6 * q + c)) (gm n D ce Rw rs) ∧ y (6 * k + k) ≠ 0 ∧ fr [58, 68] h h2 := ⟨x2, c68, GS_swap hD5 hG (by omega) (by omega) hr1 hx2, by
                    have e1 := hx2 k (by omega) k (by omega)
                    rw [show swq r k k = r from if_pos rfl] at e1
                    rw [e1]; exact q27, fr_t hf (fr_w (l := [58, 68]) hf2 (by simp)) (by simp)⟩
                refine s_aload_n rfl (cn rfl) rfl ?_
                refine s_getfield rfl (cn rfl) c58 rfl ?_
                refine s_bipush rfl (cn rfl) (by decide) ?_
                refine s_iload rfl (cn rfl) rfl ?_
                refine s_imul rfl (cn rfl) ?_
                refine s_iload rfl (cn rfl) rfl ?_
                refine s_iadd rfl (cn rfl) ?_
                refine s_laload rfl (cn rfl) (6 * k + k) (by omega) c68 (by omega) (by decide) rfl ?_
                refine s_lstore rfl (cn rfl) ?_
                refine s_iconst rfl (cn rfl) ?_
                refine s_istore rfl (ch rfl) ?_
                have lp54 : ∀ q : Nat, q ≤ D → ∀ (h3 : Nat → Option rr_E) (w : Nat → Int) (m9 m10 m11 : Option Value) (c58 : h3 58 = some (MO (n : Int) kp tp pt wr fa dm (ce : Int) (D : Int) be od sm le sc ba bb ti rk ts tm pa wa)) (c68 : h3 68 = some (.inl (1, 30, .inr (.inl (fun k => jj (w k)))))) (hf3 : fr [58, 68] h h3) (hw : ∀ q', q' < D → ∀ c, c ≤ D → w (6 * q' + c) = if q' < q then gjn k last (fun q c => y (6 * q + c)) q' c else y (6 * q' + c)), K 54 [some (.ref 58), some (.int (ii z)), some (.long (jj last)), none, some (.int (ii (k : Int))), some (.int (ii (r : Int))), some (.long (jj (y (6 * k + k)))), none, some (.int (ii (q : Int))), m9, m10, m11] [] (N, S, h3) := by
                  refine dn (fun q hq ih54 => ?_)
                  intro h3 w m9 m10 m11 c58 c68 hf3 hw
                  refine hK _ _ _ _ ?_
                  refine s_iload rfl (cn rfl) rfl ?_
                  refine s_aload_n rfl (cn rfl) rfl ?_
                  refine s_getfield rfl (cn rfl) c58 rfl ?_
                  refine s_icmp_ge rfl (cn rfl) (cn rfl) ⟨by omega, by omega⟩ ⟨by omega, by omega⟩ (fun q57 => ?_) (fun q57 => ?_)
                  · refine s_lload rfl (cn rfl) rfl ?_
                    refine s_lstore_n rfl (cn rfl) ?_
                    refine s_iinc rfl (cn rfl) rfl ?_
                    refine s_goto rfl (ch rfl) ?_
                    exact ih7 (by omega) _ _ (y (6 * k + k)) _ _ _ _ _ _ _ c58 c68 ((hf3 69 (by decide)).trans o69) hf3 (GS_cg hD5 (by omega) (GS_step hD5 (by omega) hB.1 hG2 hp) (fun q' hq' c hc => (hw q' hq' c hc).trans (if_pos (by omega))))
                  · have hwq : ∀ c, c ≤ D → w (6 * q + c) = y (6 * q + c) := fun c hc => (hw q (by omega) c hc).trans (if_neg (by omega))
                    refine s_aload_n rfl (cn rfl) rfl ?_
                    refine s_getfield rfl (cn rfl) c58 rfl ?_
                    refine s_bipush rfl (cn rfl) (by decide) ?_
                    refine s_iload rfl (cn rfl) rfl ?_
                    refine s_imul rfl (cn rfl) ?_
                    refine s_iload rfl (cn rfl) rfl ?_
                    refine s_iadd rfl (cn rfl) ?_
                    refine s_laload rfl (cn rfl) (6 * q + k) (by omega) c68 (by omega) (by decide) (congrArg jj (hwq k (by omega))) ?_
                    refine s_lstore rfl (cn rfl) ?_
                    refine s_iconst rfl (cn rfl) ?_
                    refine s_istore rfl (ch rfl) ?_
                    have lp69 : ∀ c : Nat, c ≤ D + 1 → ∀ (h4 : Nat → Option rr_E) (u : Nat → Int) (c58 : h4 58 = some (MO (n : Int) kp tp pt wr fa dm (ce : Int) (D : Int) be od sm le sc ba bb ti rk ts tm pa wa)) (c68 : h4 68 = some (.inl (1, 30, .inr (.inl (fun k => jj (u k)))))) (hf4 : fr [58, 68] h h4) (hu : ∀ q', q' < D → ∀ c', c' ≤ D → u (6 * q' + c') = if q' < q ∨ (q' = q ∧ c' < c) then gjn k last (fun q c => y (6 * q + c)) q' c' else y (6 * q' + c')), K 69 [some (.ref 58), some (.int (ii z)), some (.long (jj last)), none, some (.int (ii (k : Int))), some (.int (ii (r : Int))), some (.long (jj (y (6 * k + k)))), none, some (.int (ii (q : Int))), some (.long (jj (y (6 * q + k)))), none, some (.int (ii (c : Int)))] [] (N, S, h4) := by
                      refine dn (fun c hc ih69 => ?_)
                      intro h4 u c58 c68 hf4 hu
                      refine hK _ _ _ _ ?_
                      refine s_iload rfl (cn rfl) rfl ?_
                      refine s_aload_n rfl (cn rfl) rfl ?_
                      refine s_getfield rfl (cn rfl) c58 rfl ?_
                      refine s_icmp_gt rfl (cn rfl) (cn rfl) ⟨by omega, by omega⟩ ⟨by omega, by omega⟩ (fun q72 => ?_) (fun q72 => ?_)
                      · refine s_iinc rfl (cn rfl) rfl ?_
                        refine s_goto rfl (ch rfl) ?_
                        exact ih54 (by omega) _ _ _ _ _ c58 c68 hf4 (gq_e (by omega) hu)
                      · refine s_iload rfl (cn rfl) rfl ?_
                        refine s_iload rfl (cn rfl) rfl ?_
                        refine s_icmp_eq rfl (cn rfl) (cn rfl) ⟨by omega, by omega⟩ ⟨by omega, by omega⟩ (fun q75 => ?_) (fun q75 => ?_)
                        · refine s_iinc rfl (cn rfl) rfl ?_
                          refine s_goto rfl (ch rfl) ?_
                          exact ih54 (by omega) _ _ _ _ _ c58 c68 hf4 (gq_e (by omega) hu)
                        · have hX := GS_b hD5 (show k < D by omega) hB hG2 hp (show q < D by omega) (show c ≤ D by omega)
                          have huq : u (6 * q + c) = y (6 * q + c) := (hu q (by omega) c (by omega)).trans (if_neg (by omega))
                          have huk : u (6 * k + c) = y (6 * k + c) := gq_k (by omega) (by omega) hu
                          refine s_aload_n rfl (cn rfl) rfl ?_
                          refine s_getfield rfl (cn rfl) c58 rfl ?_
                          refine s_bipush rfl (cn rfl) (by decide) ?_
                          refine s_iload rfl (cn rfl) rfl ?_
                          refine s_imul rfl (cn rfl) ?_
                          refine s_iload rfl (cn rfl) rfl ?_
                          refine s_iadd rfl (cn rfl) ?_
                          refine s_lload rfl (cn rfl) rfl ?_
                          refine s_aload_n rfl (cn rfl) rfl ?_
                          refine s_getfield rfl (cn rfl) c58 rfl ?_
                          refine s_bipush rfl (cn rfl) (by decide) ?_
                          refine s_iload rfl (cn rfl) rfl ?_
                          refine s_imul rfl (cn rfl) ?_
                          refine s_iload rfl (cn rfl) rfl ?_
                          refine s_iadd rfl (cn rfl) ?_
                          refine s_laload rfl (cn rfl) (6 * q + c) (by omega) c68 (by omega) (by decide) (congrArg jj huq) ?_
                          refine s_lmul rfl (cn rfl) ?_
                          refine s_lload rfl (cn rfl) rfl ?_
                          refine s_aload_n rfl (cn rfl) rfl ?_
                          refine s_getfield rfl (cn rfl) c58 rfl ?_
                          refine s_bipush rfl (cn rfl) (by decide) ?_
                          refine s_iload rfl (cn rfl) rfl ?_
                          refine s_imul rfl (cn rfl) ?_
                          refine s_iload rfl (cn rfl) rfl ?_
                          refine s_iadd rfl (cn rfl) ?_
                          refine s_laload rfl (cn rfl) (6 * k + c) (by omega) c68 (by omega) (by decide) (congrArg jj huk) ?_
                          refine s_lmul rfl (cn rfl) ?_
                          refine s_lsub rfl (cn rfl) ?_
                          refine s_lload_n rfl (cn rfl) rfl ?_
                          refine s_ldiv rfl (cn rfl) ⟨by omega, by omega⟩ ⟨by omega, by omega⟩ (td_b ⟨by omega, by omega⟩) hlb.2 ?_
                          refine s_lastore rfl (cn rfl) (6 * q + c) (by omega) c68 (by omega) (by decide) ?_
                          refine s_iinc rfl (cn rfl) rfl ?_
                          refine s_goto rfl (ch rfl) ?_
                          exact ih69 (by omega) _ _ c58 rr_set_eq (fr_s (by decide) hf4) (gq_s hD5 (by omega) (by omega) (by omega) hu)
                    exact lp69 0 (by omega) _ w c58 c68 hf3 (fun q' hq' c' hc' => (hw q' hq' c' hc').trans (by
                        by_cases e : q' < q
                        · rw [if_pos e, if_pos (Or.inl e)]
                        · rw [if_neg e, if_neg (by omega)]))
                exact lp54 0 (by omega) _ y _ _ _ c58 c68 hfy (fun q' hq' c hc => (if_neg (by omega)).symm)
          · first
            | (exfalso; omega)
            | skip
              refine s_iconst rfl (cn rfl) ?_
              refine s_zreturn rfl (Or.inl rfl) ?_
              refine Or.inr ⟨rfl, h', x', rfl, fr_w hf (by simp), c58, c68, c69, ?_⟩
              obtain ⟨z, hz1, hz2⟩ := gj_fail hG.1 (show k < D by omega) (fun j j1 j2 => hz0 j j1 (by omega))
              exact ⟨z, ⟨k, by omega, hz1⟩, hz2⟩
        · refine s_aload_n rfl (cn rfl) rfl ?_
          refine s_getfield rfl (cn rfl) c58 rfl ?_
          refine s_bipush rfl (cn rfl) (by decide) ?_
          refine s_iload rfl (cn rfl) rfl ?_
          refine s_imul rfl (cn rfl) ?_
          refine s_iload rfl (cn rfl) rfl ?_
          refine s_iadd rfl (cn rfl) ?_
          have hb1 : -32768 ≤ x' (6 * r + k) ∧ x' (6 * r + k) ≤ 32768 := GS_c hD5 (show k < D by omega) hG (show r < D by omega) (show k < D by omega)
          refine s_laload rfl (cn rfl) (6 * r + k) (by omega) c68 (by omega) (by decide) rfl ?_
          refine s_lconst rfl (cn rfl) 0 (by decide) ?_
          refine s_lcmp rfl (cn rfl) ?_
          refine s_ifl_ne rfl (cn rfl) (cn rfl) ⟨by omega, by omega⟩ ⟨by omega, by omega⟩ (fun q27 => ?_) (fun q27 => ?_)
          · refine s_iload rfl (cn rfl) rfl ?_
            refine s_aload_n rfl (cn rfl) rfl ?_
            refine s_getfield rfl (cn rfl) c58 rfl ?_
            refine s_icmp_ne rfl (cn rfl) (cn rfl) ⟨by omega, by omega⟩ ⟨by omega, by omega⟩ (fun q33 => ?_) (fun q33 => ?_)
            · first
              | (exfalso; omega)
              | skip
                refine s_iload rfl (cn rfl) rfl ?_
                refine s_iload rfl (cn rfl) rfl ?_
                refine s_icmp_eq rfl (cn rfl) (cn rfl) ⟨by omega, by omega⟩ ⟨by omega, by omega⟩ (fun q38 => ?_) (fun q38 => ?_)
                · obtain ⟨y, c68, hG2, hp, hfy⟩ : ∃ y : Nat → Int, h' 68 = some (.inl (1, 30, .inr (.inl (fun k => jj (y k))))) ∧ GS D k last B (fun q c => y (6 * q + c)) (gm n D ce Rw rs) ∧ y (6 * k + k) ≠ 0 ∧ fr [58, 68] h h' := ⟨x', c68, hG, by rw [show r = k by omega] at q27; exact q27, hf⟩
                  refine s_aload_n rfl (cn rfl) rfl ?_
                  refine s_getfield rfl (cn rfl) c58 rfl ?_
                  refine s_bipush rfl (cn rfl) (by decide) ?_
                  refine s_iload rfl (cn rfl) rfl ?_
                  refine s_imul rfl (cn rfl) ?_
                  refine s_iload rfl (cn rfl) rfl ?_
                  refine s_iadd rfl (cn rfl) ?_
                  refine s_laload rfl (cn rfl) (6 * k + k) (by omega) c68 (by omega) (by decide) rfl ?_
                  refine s_lstore rfl (cn rfl) ?_
                  refine s_iconst rfl (cn rfl) ?_
                  refine s_istore rfl (ch rfl) ?_
                  have lp54 : ∀ q : Nat, q ≤ D → ∀ (h3 : Nat → Option rr_E) (w : Nat → Int) (m9 m10 m11 : Option Value) (c58 : h3 58 = some (MO (n : Int) kp tp pt wr fa dm (ce : Int) (D : Int) be od sm le sc ba bb ti rk ts tm pa wa)) (c68 : h3 68 = some (.inl (1, 30, .inr (.inl (fun k => jj (w k)))))) (hf3 : fr [58, 68] h h3) (hw : ∀ q', q' < D → ∀ c, c ≤ D → w (6 * q' + c) = if q' < q then gjn k last (fun q c => y (6 * q + c)) q' c else y (6 * q' + c)), K 54 [some (.ref 58), some (.int (ii z)), some (.long (jj last)), none, some (.int (ii (k : Int))), some (.int (ii (r : Int))), some (.long (jj (y (6 * k + k)))), none, some (.int (ii (q : Int))), m9, m10, m11] [] (N, S, h3) := by
                    refine dn (fun q hq ih54 => ?_)
                    intro h3 w m9 m10 m11 c58 c68 hf3 hw
                    refine hK _ _ _ _ ?_
                    refine s_iload rfl (cn rfl) rfl ?_
                    refine s_aload_n rfl (cn rfl) rfl ?_
                    refine s_getfield rfl (cn rfl) c58 rfl ?_
                    refine s_icmp_ge rfl (cn rfl) (cn rfl) ⟨by omega, by omega⟩ ⟨by omega, by omega⟩ (fun q57 => ?_) (fun q57 => ?_)
                    · refine s_lload rfl (cn rfl) rfl ?_
                      refine s_lstore_n rfl (cn rfl) ?_
                      refine s_iinc rfl (cn rfl) rfl ?_
                      refine s_goto rfl (ch rfl) ?_
                      exact ih7 (by omega) _ _ (y (6 * k + k)) _ _ _ _ _ _ _ c58 c68 ((hf3 69 (by decide)).trans o69) hf3 (GS_cg hD5 (by omega) (GS_step hD5 (by omega) hB.1 hG2 hp) (fun q' hq' c hc => (hw q' hq' c hc).trans (if_pos (by omega))))
                    · have hwq : ∀ c, c ≤ D → w (6 * q + c) = y (6 * q + c) := fun c hc => (hw q (by omega) c hc).trans (if_neg (by omega))
                      refine s_aload_n rfl (cn rfl) rfl ?_
                      refine s_getfield rfl (cn rfl) c58 rfl ?_
                      refine s_bipush rfl (cn rfl) (by decide) ?_
                      refine s_iload rfl (cn rfl) rfl ?_
                      refine s_imul rfl (cn rfl) ?_
                      refine s_iload rfl (cn rfl) rfl ?_
                      refine s_iadd rfl (cn rfl) ?_
                      refine s_laload rfl (cn rfl) (6 * q + k) (by omega) c68 (by omega) (by decide) (congrArg jj (hwq k (by omega))) ?_
                      refine s_lstore rfl (cn rfl) ?_
                      refine s_iconst rfl (cn rfl) ?_
                      refine s_istore rfl (ch rfl) ?_
                      have lp69 : ∀ c : Nat, c ≤ D + 1 → ∀ (h4 : Nat → Option rr_E) (u : Nat → Int) (c58 : h4 58 = some (MO (n : Int) kp tp pt wr fa dm (ce : Int) (D : Int) be od sm le sc ba bb ti rk ts tm pa wa)) (c68 : h4 68 = some (.inl (1, 30, .inr (.inl (fun k => jj (u k)))))) (hf4 : fr [58, 68] h h4) (hu : ∀ q', q' < D → ∀ c', c' ≤ D → u (6 * q' + c') = if q' < q ∨ (q' = q ∧ c' < c) then gjn k last (fun q c => y (6 * q + c)) q' c' else y (6 * q' + c')), K 69 [some (.ref 58), some (.int (ii z)), some (.long (jj last)), none, some (.int (ii (k : Int))), some (.int (ii (r : Int))), some (.long (jj (y (6 * k + k)))), none, some (.int (ii (q : Int))), some (.long (jj (y (6 * q + k)))), none, some (.int (ii (c : Int)))] [] (N, S, h4) := by
                        refine dn (fun c hc ih69 => ?_)
                        intro h4 u c58 c68 hf4 hu
                        refine hK _ _ _ _ ?_
                        refine s_iload rfl (cn rfl) rfl ?_
                        refine s_aload_n rfl (cn rfl) rfl ?_
                        refine s_getfield rfl (cn rfl) c58 rfl ?_
                        refine s_icmp_gt rfl (cn rfl) (cn rfl) ⟨by omega, by omega⟩ ⟨by omega, by omega⟩ (fun q72 => ?_) (fun q72 => ?_)
                        · refine s_iinc rfl (cn rfl) rfl ?_
                          refine s_goto rfl (ch rfl) ?_
                          exact ih54 (by omega) _ _ _ _ _ c58 c68 hf4 (gq_e (by omega) hu)
                        · refine s_iload rfl (cn rfl) rfl ?_
                          refine s_iload rfl (cn rfl) rfl ?_
                          refine s_icmp_eq rfl (cn rfl) (cn rfl) ⟨by omega, by omega⟩ ⟨by omega, by omega⟩ (fun q75 => ?_) (fun q75 => ?_)
                          · refine s_iinc rfl (cn rfl) rfl ?_
                            refine s_goto rfl (ch rfl) ?_
                            exact ih54 (by omega) _ _ _ _ _ c58 c68 hf4 (gq_e (by omega) hu)
                          · have hX := GS_b hD5 (show k < D by omega) hB hG2 hp (show q < D by omega) (show c ≤ D by omega)
                            have huq : u (6 * q + c) = y (6 * q + c) := (hu q (by omega) c (by omega)).trans (if_neg (by omega))
                            have huk : u (6 * k + c) = y (6 * k + c) := gq_k (by omega) (by omega) hu
                            refine s_aload_n rfl (cn rfl) rfl ?_
                            refine s_getfield rfl (cn rfl) c58 rfl ?_
                            refine s_bipush rfl (cn rfl) (by decide) ?_
                            refine s_iload rfl (cn rfl) rfl ?_
                            refine s_imul rfl (cn rfl) ?_
                            refine s_iload rfl (cn rfl) rfl ?_
                            refine s_iadd rfl (cn rfl) ?_
                            refine s_lload rfl (cn rfl) rfl ?_
                            refine s_aload_n rfl (cn rfl) rfl ?_
                            refine s_getfield rfl (cn rfl) c58 rfl ?_
                            refine s_bipush rfl (cn rfl) (by decide) ?_
                            refine s_iload rfl (cn rfl) rfl ?_
                            refine s_imul rfl (cn rfl) ?_
                            refine s_iload rfl (cn rfl) rfl ?_
                            refine s_iadd rfl (cn rfl) ?_
                            refine s_laload rfl (cn rfl) (6 * q + c) (by omega) c68 (by omega) (by decide) (congrArg jj huq) ?_
                            refine s_lmul rfl (cn rfl) ?_
                            refine s_lload rfl (cn rfl) rfl ?_
                            refine s_aload_n rfl (cn rfl) rfl ?_
                            refine s_getfield rfl (cn rfl) c58 rfl ?_
                            refine s_bipush rfl (cn rfl) (by decide) ?_
                            refine s_iload rfl (cn rfl) rfl ?_
                            refine s_imul rfl (cn rfl) ?_
                            refine s_iload rfl (cn rfl) rfl ?_
                            refine s_iadd rfl (cn rfl) ?_
                            refine s_laload rfl (cn rfl) (6 * k + c) (by omega) c68 (by omega) (by decide) (congrArg jj huk) ?_
                            refine s_lmul rfl (cn rfl) ?_
                            refine s_lsub rfl (cn rfl) ?_
                            refine s_lload_n rfl (cn rfl) rfl ?_
                            refine s_ldiv rfl (cn rfl) ⟨by omega, by omega⟩ ⟨by omega, by omega⟩ (td_b ⟨by omega, by omega⟩) hlb.2 ?_
                            refine s_lastore rfl (cn rfl) (6 * q + c) (by omega) c68 (by omega) (by decide) ?_
                            refine s_iinc rfl (cn rfl) rfl ?_
                            refine s_goto rfl (ch rfl) ?_
                            exact ih69 (by omega) _ _ c58 rr_set_eq (fr_s (by decide) hf4) (gq_s hD5 (by omega) (by omega) (by omega) hu)
                      exact lp69 0 (by omega) _ w c58 c68 hf3 (fun q' hq' c' hc' => (hw q' hq' c' hc').trans (by
                          by_cases e : q' < q
                          · rw [if_pos e, if_pos (Or.inl e)]
                          · rw [if_neg e, if_neg (by omega)]))
                  exact lp54 0 (by omega) _ y _ _ _ c58 c68 hfy (fun q' hq' c hc => (if_neg (by omega)).symm)
                · refine s_aload_n rfl (cn rfl) rfl ?_
                  refine s_iload rfl (cn rfl) rfl ?_
                  refine s_iload rfl (cn rfl) rfl ?_
                  refine s_virt rfl (cn rfl) rfl rfl c58 rfl (m_swaps (a := r) (b := k) c58 c68 hD5 (by omega) (by omega)) ?_
                  rintro _ _ ⟨rfl, h2, x2, rfl, hf2, c68, hx2⟩
                  have c58 := (hf2 58 (by decide)).trans c58
                  obtain ⟨y, c68, hG2, hp, hfy⟩ : ∃ y : Nat → Int, h2 68 = some (.inl (1, 30, .inr (.inl (fun k => jj (y k))))) ∧ GS D k last B (fun q c => y (6 * q + c)) (gm n D ce Rw rs) ∧ y (6 * k + k) ≠ 0 ∧ fr [58, 68] h h2 := ⟨x2, c68, GS_swap hD5 hG (by omega) (by omega) hr1 hx2, by
                      have e1 := hx2 k (by omega) k (by omega)
                      rw [show swq r k k = r from if_pos rfl] at e1
                      rw [e1]; exact q27, fr_t hf (fr_w (l := [58, 68]) hf2 (by simp)) (by simp)⟩
                  refine s_aload_n rfl (cn rfl) rfl ?_
                  refine s_getfield rfl (cn rfl) c58 rfl ?_
                  refine s_bipush rfl (cn rfl) (by decide) ?_
                  refine s_iload rfl (cn rfl) rfl ?_
                  refine s_imul rfl (cn rfl) ?_
                  refine s_iload rfl (cn rfl) rfl ?_
                  refine s_iadd rfl (cn rfl) ?_
                  refine s_laload rfl (cn rfl) (6 * k + k) (by omega) c68 (by omega) (by decide) rfl ?_
                  refine s_lstore rfl (cn rfl) ?_
                  refine s_iconst rfl (cn rfl) ?_
                  refine s_istore rfl (ch rfl) ?_
                  have lp54 : ∀ q : Nat, q ≤ D → ∀ (h3 : Nat → Option rr_E) (w : Nat → Int) (m9 m10 m11 : Option Value) (c58 : h3 58 = some (MO (n : Int) kp tp pt wr fa dm (ce : Int) (D : Int) be od sm le sc ba bb ti rk ts tm pa wa)) (c68 : h3 68 = some (.inl (1, 30, .inr (.inl (fun k => jj (w k)))))) (hf3 : fr [58, 68] h h3) (hw : ∀ q', q' < D → ∀ c, c ≤ D → w (6 * q' + c) = if q' < q then gjn k last (fun q c => y (6 * q + c)) q' c else y (6 * q' + c)), K 54 [some (.ref 58), some (.int (ii z)), some (.long (jj last)), none, some (.int (ii (k : Int))), some (.int (ii (r : Int))), some (.long (jj (y (6 * k + k)))), none, some (.int (ii (q : Int))), m9, m10, m11] [] (N, S, h3) := by
                    refine dn (fun q hq ih54 => ?_)
                    intro h3 w m9 m10 m11 c58 c68 hf3 hw
                    refine hK _ _ _ _ ?_
                    refine s_iload rfl (cn rfl) rfl ?_
                    refine s_aload_n rfl (cn rfl) rfl ?_
                    refine s_getfield rfl (cn rfl) c58 rfl ?_
                    refine s_icmp_ge rfl (cn rfl) (cn rfl) ⟨by omega, by omega⟩ ⟨by omega, by omega⟩ (fun q57 => ?_) (fun q57 => ?_)
                    · refine s_lload rfl (cn rfl) rfl ?_
                      refine s_lstore_n rfl (cn rfl) ?_
                      refine s_iinc rfl (cn rfl) rfl ?_
                      refine s_goto rfl (ch rfl) ?_
                      exact ih7 (by omega) _ _ (y (6 * k + k)) _ _ _ _ _ _ _ c58 c68 ((hf3 69 (by decide)).trans o69) hf3 (GS_cg hD5 (by omega) (GS_step hD5 (by omega) hB.1 hG2 hp) (fun q' hq' c hc => (hw q' hq' c hc).trans (if_pos (by omega))))
                    · have hwq : ∀ c, c ≤ D → w (6 * q + c) = y (6 * q + c) := fun c hc => (hw q (by omega) c hc).trans (if_neg (by omega))
                      refine s_aload_n rfl (cn rfl) rfl ?_
                      refine s_getfield rfl (cn rfl) c58 rfl ?_
                      refine s_bipush rfl (cn rfl) (by decide) ?_
                      refine s_iload rfl (cn rfl) rfl ?_
                      refine s_imul rfl (cn rfl) ?_
                      refine s_iload rfl (cn rfl) rfl ?_
                      refine s_iadd rfl (cn rfl) ?_
                      refine s_laload rfl (cn rfl) (6 * q + k) (by omega) c68 (by omega) (by decide) (congrArg jj (hwq k (by omega))) ?_
                      refine s_lstore rfl (cn rfl) ?_
                      refine s_iconst rfl (cn rfl) ?_
                      refine s_istore rfl (ch rfl) ?_
                      have lp69 : ∀ c : Nat, c ≤ D + 1 → ∀ (h4 : Nat → Option rr_E) (u : Nat → Int) (c58 : h4 58 = some (MO (n : Int) kp tp pt wr fa dm (ce : Int) (D : Int) be od sm le sc ba bb ti rk ts tm pa wa)) (c68 : h4 68 = some (.inl (1, 30, .inr (.inl (fun k => jj (u k)))))) (hf4 : fr [58, 68] h h4) (hu : ∀ q', q' < D → ∀ c', c' ≤ D → u (6 * q' + c') = if q' < q ∨ (q' = q ∧ c' < c) then gjn k last (fun q c => y (6 * q + c)) q' c' else y (6 * q' + c')), K 69 [some (.ref 58), some (.int (ii z)), some (.long (jj last)), none, some (.int (ii (k : Int))), some (.int (ii (r : Int))), some (.long (jj (y (6 * k + k)))), none, some (.int (ii (q : Int))), some (.long (jj (y (6 * q + k)))), none, some (.int (ii (c : Int)))] [] (N, S, h4) := by
                        refine dn (fun c hc ih69 => ?_)
                        intro h4 u c58 c68 hf4 hu
                        refine hK _ _ _ _ ?_
                        refine s_iload rfl (cn rfl) rfl ?_
                        refine s_aload_n rfl (cn rfl) rfl ?_
                        refine s_getfield rfl (cn rfl) c58 rfl ?_
                        refine s_icmp_gt rfl (cn rfl) (cn rfl) ⟨by omega, by omega⟩ ⟨by omega, by omega⟩ (fun q72 => ?_) (fun q72 => ?_)
                        · refine s_iinc rfl (cn rfl) rfl ?_
                          refine s_goto rfl (ch rfl) ?_
                          exact ih54 (by omega) _ _ _ _ _ c58 c68 hf4 (gq_e (by omega) hu)
                        · refine s_iload rfl (cn rfl) rfl ?_
                          refine s_iload rfl (cn rfl) rfl ?_
                          refine s_icmp_eq rfl (cn rfl) (cn rfl) ⟨by omega, by omega⟩ ⟨by omega, by omega⟩ (fun q75 => ?_) (fun q75 => ?_)
                          · refine s_iinc rfl (cn rfl) rfl ?_
                            refine s_goto rfl (ch rfl) ?_
                            exact ih54 (by omega) _ _ _ _ _ c58 c68 hf4 (gq_e (by omega) hu)
                          · have hX := GS_b hD5 (show k < D by omega) hB hG2 hp (show q < D by omega) (show c ≤ D by omega)
                            have huq : u (6 * q + c) = y (6 * q + c) := (hu q (by omega) c (by omega)).trans (if_neg (by omega))
                            have huk : u (6 * k + c) = y (6 * k + c) := gq_k (by omega) (by omega) hu
                            refine s_aload_n rfl (cn rfl) rfl ?_
                            refine s_getfield rfl (cn rfl) c58 rfl ?_
                            refine s_bipush rfl (cn rfl) (by decide) ?_
                            refine s_iload rfl (cn rfl) rfl ?_
                            refine s_imul rfl (cn rfl) ?_
                            refine s_iload rfl (cn rfl) rfl ?_
                            refine s_iadd rfl (cn rfl) ?_
                            refine s_lload rfl (cn rfl) rfl ?_
                            refine s_aload_n rfl (cn rfl) rfl ?_
                            refine s_getfield rfl (cn rfl) c58 rfl ?_
                            refine s_bipush rfl (cn rfl) (by decide) ?_
                            refine s_iload rfl (cn rfl) rfl ?_
                            refine s_imul rfl (cn rfl) ?_
                            refine s_iload rfl (cn rfl) rfl ?_
                            refine s_iadd rfl (cn rfl) ?_
                            refine s_laload rfl (cn rfl) (6 * q + c) (by omega) c68 (by omega) (by decide) (congrArg jj huq) ?_
                            refine s_lmul rfl (cn rfl) ?_
                            refine s_lload rfl (cn rfl) rfl ?_
                            refine s_aload_n rfl (cn rfl) rfl ?_
                            refine s_getfield rfl (cn rfl) c58 rfl ?_
                            refine s_bipush rfl (cn rfl) (by decide) ?_
                            refine s_iload rfl (cn rfl) rfl ?_
                            refine s_imul rfl (cn rfl) ?_
                            refine s_iload rfl (cn rfl) rfl ?_
                            refine s_iadd rfl (cn rfl) ?_
                            refine s_laload rfl (cn rfl) (6 * k + c) (by omega) c68 (by omega) (by decide) (congrArg jj huk) ?_
                            refine s_lmul rfl (cn rfl) ?_
                            refine s_lsub rfl (cn rfl) ?_
                            refine s_lload_n rfl (cn rfl) rfl ?_
                            refine s_ldiv rfl (cn rfl) ⟨by omega, by omega⟩ ⟨by omega, by omega⟩ (td_b ⟨by omega, by omega⟩) hlb.2 ?_
                            refine s_lastore rfl (cn rfl) (6 * q + c) (by omega) c68 (by omega) (by decide) ?_
                            refine s_iinc rfl (cn rfl) rfl ?_
                            refine s_goto rfl (ch rfl) ?_
                            exact ih69 (by omega) _ _ c58 rr_set_eq (fr_s (by decide) hf4) (gq_s hD5 (by omega) (by omega) (by omega) hu)
                      exact lp69 0 (by omega) _ w c58 c68 hf3 (fun q' hq' c' hc' => (hw q' hq' c' hc').trans (by
                          by_cases e : q' < q
                          · rw [if_pos e, if_pos (Or.inl e)]
                          · rw [if_neg e, if_neg (by omega)]))
                  exact lp54 0 (by omega) _ y _ _ _ c58 c68 hfy (fun q' hq' c hc => (if_neg (by omega)).symm)
            · first
              | (exfalso; omega)
              | skip
                refine s_iconst rfl (cn rfl) ?_
                refine s_zreturn rfl (Or.inl rfl) ?_
                refine Or.inr ⟨rfl, h', x', rfl, fr_w hf (by simp), c58, c68, c69, ?_⟩
                obtain ⟨z, hz1, hz2⟩ := gj_fail hG.1 (show k < D by omega) (fun j j1 j2 => hz0 j j1 (by omega))
                exact ⟨z, ⟨k, by omega, hz1⟩, hz2⟩
          · refine s_iinc rfl (cn rfl) rfl ?_
            refine s_goto rfl (ch rfl) ?_
            exact ih13 (by omega) (by omega) (fun j j1 j2 => by
                by_cases e : j = r
                · subst e; exact q27
                · exact hz0 j j1 (by omega))
      exact lp13 k (by omega) (by omega) (fun j j1 j2 => absurd j2 (by omega))
  exact lp7 0 (by omega) _ x1 1 _ _ _ _ _ _ _ c58 c68 c69 hf1 (GS_cg hD5 (by omega) (GS_0 (B := B) gm_01 (fun q hq => by rw [gm_D (by omega)]; exact hrs q hq)) hx1)
