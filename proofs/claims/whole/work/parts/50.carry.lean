/-! The class: deeds carried out. -/
theorem u_begins {d N S n : Nat} {v : Nat → Int} {h : Nat → Option rr_E} (hn : 2 ≤ n ∧ n ≤ 4) (c1 : h 1 = some (.inr (0, [.int (ii (n : Int)), .ref 2]))) (c2 : h 2 = some (.inl (0, 16, .inl (fun k => ii (v k))))) {a : Int} (ha : -999 ≤ a ∧ a ≤ 999) : rr_Calls (d + 2) j_Script_begins [.int (ii a), .ref 1] (N, S, h) (fun r R => (¬ (2 ≤ a ∧ a ≤ 4) ∧ r = some (.int (ii 0)) ∧ R = (N, S, h)) ∨ ((2 ≤ a ∧ a ≤ 4) ∧ r = some (.int (ii 1)) ∧ ∃ h', R = (N, S, h') ∧ fr [1, 2] h h' ∧ h' 1 = some (.inr (0, [.int (ii (a.toNat : Int)), .ref 2])) ∧ h' 2 = some (.inl (0, 16, .inl (fun k => ii (zr v 16 k)))))) := by
  refine rr_meth (C := K_Script_begins) (hd := h_Script_begins) (mx := 2) rfl rfl (fun K hK => ?_)
  refine hK _ _ _ _ ?_
  refine s_iload_n rfl (cn rfl) rfl ?_
  refine s_stat rfl (cn rfl) rfl rfl rfl (u_many (by omega)) ?_
  rintro _ _ ⟨rfl, rfl⟩
  refine s_ifb_ne rfl (cn rfl) (cn rfl) (fun q2 => ?_) (fun q2 => ?_)
  · refine s_aload_n rfl (cn rfl) rfl ?_
    refine s_iload_n rfl (cn rfl) rfl ?_
    refine s_virt rfl (cn rfl) rfl rfl c1 rfl (u_begin hn c1 c2) ?_
    rintro _ _ ⟨rfl, h2, rfl, d1, d2, hf2⟩
    refine s_iconst rfl (cn rfl) ?_
    refine s_zreturn rfl (Or.inr rfl) ?_
    exact Or.inr ⟨q2, rfl, h2, rfl, hf2, by rw [show ((a.toNat : Nat) : Int) = a by omega]; exact d1, d2⟩
  · refine s_iconst rfl (cn rfl) ?_
    refine s_zreturn rfl (Or.inl rfl) ?_
    exact Or.inl ⟨q2, rfl, rfl⟩
theorem u_becomes {d N S n : Nat} {v : Nat → Int} {h : Nat → Option rr_E} (hn : 2 ≤ n ∧ n ≤ 4) (c1 : h 1 = some (.inr (0, [.int (ii (n : Int)), .ref 2]))) (c2 : h 2 = some (.inl (0, 16, .inl (fun k => ii (v k))))) {g : Nat} (hg : g < 16) {x : Int} (hx : b3 x) : rr_Calls (d + 2) j_Script_becomes [.int (ii (g : Int)), .int (ii x), .ref 1] (N, S, h) (fun r R => (¬ (-999 ≤ x ∧ x ≤ 999) ∧ r = some (.int (ii 0)) ∧ R = (N, S, h)) ∨ ((-999 ≤ x ∧ x ≤ 999) ∧ r = some (.int (ii 1)) ∧ ∃ h', R = (N, S, h') ∧ fr [2] h h' ∧ h' 2 = some (.inl (0, 16, .inl (fun k => ii (fu v g x k)))))) := by
  refine rr_meth (C := K_Script_becomes) (hd := h_Script_becomes) (mx := 3) rfl rfl (fun K hK => ?_)
  refine hK _ _ _ _ ?_
  refine s_iload_n rfl (cn rfl) rfl ?_
  refine s_stat rfl (cn rfl) rfl rfl rfl (u_mworth (by omega)) ?_
  rintro _ _ ⟨rfl, rfl⟩
  refine s_ifb_ne rfl (cn rfl) (cn rfl) (fun q2 => ?_) (fun q2 => ?_)
  · refine s_aload_n rfl (cn rfl) rfl ?_
    refine s_getfield rfl (cn rfl) c1 rfl ?_
    refine s_iload_n rfl (cn rfl) rfl ?_
    refine s_iload_n rfl (cn rfl) rfl ?_
    refine s_iastore rfl (cn rfl) _ rfl c2 (by omega) (by decide) ?_
    refine s_iconst rfl (cn rfl) ?_
    refine s_zreturn rfl (Or.inr rfl) ?_
    exact Or.inr ⟨q2, rfl, _, rfl, fr_s (by decide) fr_r, rr_set_eq⟩
  · refine s_iconst rfl (cn rfl) ?_
    refine s_zreturn rfl (Or.inl rfl) ?_
    exact Or.inl ⟨q2, rfl, rfl⟩
theorem dst_0 {n : Nat} {v : Nat → Int} {a b : Int} : dst n v (0, a, b) = if 2 ≤ a ∧ a ≤ 4 then some (a.toNat, zr v 16) else none := if_pos rfl
theorem dst_1 {n : Nat} {v : Nat → Int} {a b : Int} : dst n v (1, a, b) = if (1 ≤ a ∧ a ≤ (al n : Int)) ∧ (-999 ≤ b ∧ b ≤ 999) then some (n, fu v a.toNat b) else none := by
  unfold dst; rw [if_neg (show ¬ (1 : Int) = 0 by decide), if_pos (show (1 : Int) = 1 from rfl)]
theorem dst_2 {n : Nat} {v : Nat → Int} {a b : Int} : dst n v (2, a, b) = if (1 ≤ a ∧ a ≤ (al n : Int)) ∧ (-999 ≤ v a.toNat + b ∧ v a.toNat + b ≤ 999) then some (n, fu v a.toNat (v a.toNat + b)) else none := by
  unfold dst; rw [if_neg (show ¬ (2 : Int) = 0 by decide), if_neg (show ¬ (2 : Int) = 1 by decide), if_pos (show (2 : Int) = 2 from rfl)]
theorem u_isDone {d N S n : Nat} {v : Nat → Int} {h : Nat → Option rr_E} (hn : 2 ≤ n ∧ n ≤ 4) (c1 : h 1 = some (.inr (0, [.int (ii (n : Int)), .ref 2]))) (c2 : h 2 = some (.inl (0, 16, .inl (fun k => ii (v k))))) (hv : ∀ k, -999 ≤ v k ∧ v k ≤ 999) {tl7 sc sp sf sv : Int} (c7 : h 7 = some (SC tl7 sc sp sf sv)) {w : Nat → Int} (c12 : h 12 = some (.inl (0, 16, .inl (fun k => ii (w k))))) {D : Dd} (hD : dw D) {K1 x y : Int} (hd : dk D K1 x y) : rr_Calls (d + 4) j_Script_isDone [.ref 7, .int (ii K1), .int (ii x), .int (ii y), .ref 1] (N, S, h) (fun r R => (dst n v D = none ∧ r = some (.int (ii 0)) ∧ ∃ h', R = (N, S, h') ∧ fr [12] h h' ∧ ∃ w2 : Nat → Int, h' 12 = some (.inl (0, 16, .inl (fun k => ii (w2 k))))) ∨ (∃ (n' : Nat) (v' : Nat → Int), dst n v D = some (n', v') ∧ r = some (.int (ii 1)) ∧ ∃ h', R = (N, S, h') ∧ fr [1, 2, 12] h h' ∧ h' 1 = some (.inr (0, [.int (ii (n' : Int)), .ref 2])) ∧ h' 2 = some (.inl (0, 16, .inl (fun k => ii (v' k)))) ∧ ∃ w2 : Nat → Int, h' 12 = some (.inl (0, 16, .inl (fun k => ii (w2 k)))))) := by
  refine rr_meth (C := K_Script_isDone) (hd := h_Script_isDone) (mx := 5) rfl rfl (fun K hK => ?_)
  have hA := al_b hn
  obtain ⟨KD, a, b⟩ := D
  obtain ⟨ek, k0, k1⟩ := hd
  change K1 = KD at ek
  subst ek
  obtain ⟨w1, w2, w3⟩ := hD
  change 0 ≤ K1 ∧ K1 ≤ 5 at w1
  change -999 ≤ a ∧ a ≤ 999 at w2
  change -999 ≤ b ∧ b ≤ 999 at w3
  change K1 = 0 → x = a at k0
  change K1 = 1 ∨ K1 = 2 ∨ K1 = 5 → x = a ∧ y = b at k1
  refine hK _ _ _ _ ?_
  refine s_iload_n rfl (cn rfl) rfl ?_
  refine s_tsw rfl rfl ⟨by omega, by omega⟩ ?_
  refine And.intro (fun e1 => (cn rfl) _ _ _ ?_) (fun n1_0 => ?_)
  · obtain rfl := k0 e1
    subst e1
    refine s_iload_n rfl (cn rfl) rfl ?_
    refine s_aload rfl (cn rfl) rfl ?_
    refine s_stat rfl (cn rfl) rfl rfl rfl (u_begins hn c1 c2 w2) ?_
    rintro _ _ (⟨e9, rfl, rfl⟩ | ⟨e9, rfl, h2, rfl, hf2, d1, d2⟩)
    · refine s_zreturn rfl (Or.inl rfl) ?_
      exact Or.inl ⟨by rw [dst_0, if_neg e9], rfl, h, rfl, fr_r, w, c12⟩
    · refine s_zreturn rfl (Or.inr rfl) ?_
      exact Or.inr ⟨_, _, by rw [dst_0, if_pos e9], rfl, h2, rfl, fr_w hf2 (by decide), d1, d2, w, (hf2 12 (by decide)).trans c12⟩
  refine And.intro (fun e1 => (cn rfl) _ _ _ ?_) (fun n1_1 => ?_)
  · obtain ⟨rfl, rfl⟩ := k1 (Or.inl e1)
    subst e1
    refine s_aload rfl (cn rfl) rfl ?_
    refine s_iload_n rfl (cn rfl) rfl ?_
    refine s_virt rfl (cn rfl) rfl rfl c1 rfl (u_hasGroup hn c1 (by omega)) ?_
    rintro _ _ ⟨rfl, rfl⟩
    refine s_ifb_eq rfl (cn rfl) (cn rfl) (fun q9 => ?_) (fun q9 => ?_)
    · refine s_iconst rfl (cn rfl) ?_
      refine s_zreturn rfl (Or.inl rfl) ?_
      first
        | exact Or.inl ⟨by rw [dst_1, if_neg (fun q => q9 q.1)], rfl, h, rfl, fr_r, w, c12⟩
        | exact Or.inl ⟨by rw [dst_1, if_neg (fun q => e9 q.2)], rfl, h, rfl, fr_r, w, c12⟩
    · obtain ⟨g, rfl⟩ := Int.eq_ofNat_of_zero_le (show 0 ≤ x by omega)
      refine s_iload_n rfl (cn rfl) rfl ?_
      refine s_iload_n rfl (cn rfl) rfl ?_
      refine s_aload rfl (cn rfl) rfl ?_
      refine s_stat rfl (cn rfl) rfl rfl rfl (u_becomes hn c1 c2 (by omega) (by omega)) ?_
      rintro _ _ (⟨e9, rfl, rfl⟩ | ⟨e9, rfl, h2, rfl, hf2, d2⟩)
      · refine s_if_eq rfl (cn rfl) (cn rfl) (by decide) (fun q14 => ?_) (fun q14 => absurd q14 (by decide))
        refine s_iconst rfl (cn rfl) ?_
        refine s_zreturn rfl (Or.inl rfl) ?_
        first
          | exact Or.inl ⟨by rw [dst_1, if_neg (fun q => q9 q.1)], rfl, h, rfl, fr_r, w, c12⟩
          | exact Or.inl ⟨by rw [dst_1, if_neg (fun q => e9 q.2)], rfl, h, rfl, fr_r, w, c12⟩
      · refine s_if_eq rfl (cn rfl) (cn rfl) (by decide) (fun q14 => absurd q14 (by decide)) (fun q14 => ?_)
        refine s_iconst rfl (cn rfl) ?_
        refine s_goto rfl (cn rfl) ?_
        refine s_zreturn rfl (Or.inr rfl) ?_
        exact Or.inr ⟨_, _, by rw [dst_1, if_pos ⟨q9, e9⟩]; rfl, rfl, h2, rfl, fr_w hf2 (by decide), (hf2 1 (by decide)).trans c1, d2, w, (hf2 12 (by decide)).trans c12⟩
  refine And.intro (fun e1 => (cn rfl) _ _ _ ?_) (fun n1_2 => ?_)
  · obtain ⟨rfl, rfl⟩ := k1 (Or.inr (Or.inl e1))
    subst e1
    refine s_aload rfl (cn rfl) rfl ?_
    refine s_iload_n rfl (cn rfl) rfl ?_
    refine s_virt rfl (cn rfl) rfl rfl c1 rfl (u_hasGroup hn c1 (by omega)) ?_
    rintro _ _ ⟨rfl, rfl⟩
    refine s_ifb_eq rfl (cn rfl) (cn rfl) (fun q22 => ?_) (fun q22 => ?_)
    · refine s_iconst rfl (cn rfl) ?_
      refine s_zreturn rfl (Or.inl rfl) ?_
      first
        | exact Or.inl ⟨by rw [dst_2, if_neg (fun q => q22 q.1)], rfl, h, rfl, fr_r, w, c12⟩
        | exact Or.inl ⟨by rw [dst_2, if_neg (fun q => e9 q.2)], rfl, h, rfl, fr_r, w, c12⟩
    · obtain ⟨g, rfl⟩ := Int.eq_ofNat_of_zero_le (show 0 ≤ x by omega)
      have hvg := hv g
      refine s_iload_n rfl (cn rfl) rfl ?_
      refine s_aload rfl (cn rfl) rfl ?_
      refine s_getfield rfl (cn rfl) c1 rfl ?_
      refine s_iload_n rfl (cn rfl) rfl ?_
      refine s_iaload rfl (cn rfl) _ rfl c2 rfl (by omega) (by decide) rfl ?_
      refine s_iload_n rfl (cn rfl) rfl ?_
      refine s_iadd rfl (cn rfl) ?_
      refine s_aload rfl (cn rfl) rfl ?_
      refine s_stat rfl (cn rfl) rfl rfl rfl (u_becomes hn c1 c2 (by omega) (by omega)) ?_
      rintro _ _ (⟨e9, rfl, rfl⟩ | ⟨e9, rfl, h2, rfl, hf2, d2⟩)
      · refine s_if_eq rfl (cn rfl) (cn rfl) (by decide) (fun q32 => ?_) (fun q32 => absurd q32 (by decide))
        refine s_iconst rfl (cn rfl) ?_
        refine s_zreturn rfl (Or.inl rfl) ?_
        first
          | exact Or.inl ⟨by rw [dst_2, if_neg (fun q => q22 q.1)], rfl, h, rfl, fr_r, w, c12⟩
          | exact Or.inl ⟨by rw [dst_2, if_neg (fun q => e9 q.2)], rfl, h, rfl, fr_r, w, c12⟩
      · refine s_if_eq rfl (cn rfl) (cn rfl) (by decide) (fun q32 => absurd q32 (by decide)) (fun q32 => ?_)
        refine s_iconst rfl (cn rfl) ?_
        refine s_goto rfl (cn rfl) ?_
        refine s_zreturn rfl (Or.inr rfl) ?_
        exact Or.inr ⟨_, _, by rw [dst_2, if_pos ⟨q22, e9⟩]; rfl, rfl, h2, rfl, fr_w hf2 (by decide), (hf2 1 (by decide)).trans c1, d2, w, (hf2 12 (by decide)).trans c12⟩
  refine And.intro (fun e1 => (cn rfl) _ _ _ ?_) (fun n1_3 => ?_)
  · subst e1
    refine s_aload_n rfl (cn rfl) rfl ?_
    refine s_aload rfl (cn rfl) rfl ?_
    refine s_virt rfl (cn rfl) rfl rfl c7 rfl (u_dual (x := a) (y := b) hn c1 c2 hv c7 c12) ?_
    rintro _ _ (⟨eD, rfl, h2, rfl, hf2, w2, d12⟩ | ⟨v2, eD, rfl, h2, rfl, hf2, d2, w2, d12⟩)
    · refine s_zreturn rfl (Or.inl rfl) ?_
      first
        | exact Or.inl ⟨eD, rfl, h2, rfl, hf2, w2, d12⟩
        | exact Or.inr ⟨n, v2, eD, rfl, h2, rfl, fr_w hf2 (by decide), (hf2 1 (by decide)).trans c1, d2, w2, d12⟩
    · refine s_zreturn rfl (Or.inr rfl) ?_
      first
        | exact Or.inl ⟨eD, rfl, h2, rfl, hf2, w2, d12⟩
        | exact Or.inr ⟨n, v2, eD, rfl, h2, rfl, fr_w hf2 (by decide), (hf2 1 (by decide)).trans c1, d2, w2, d12⟩
  refine And.intro (fun e1 => (cn rfl) _ _ _ ?_) (fun n1_4 => ?_)
  · subst e1
    refine s_aload_n rfl (cn rfl) rfl ?_
    refine s_aload rfl (cn rfl) rfl ?_
    refine s_virt rfl (cn rfl) rfl rfl c7 rfl (u_zero (x := a) (y := b) hn c1 c2 hv c7 c12) ?_
    rintro _ _ (⟨eD, rfl, h2, rfl, hf2, w2, d12⟩ | ⟨v2, eD, rfl, h2, rfl, hf2, d2, w2, d12⟩)
    · refine s_zreturn rfl (Or.inl rfl) ?_
      first
        | exact Or.inl ⟨eD, rfl, h2, rfl, hf2, w2, d12⟩
        | exact Or.inr ⟨n, v2, eD, rfl, h2, rfl, fr_w hf2 (by decide), (hf2 1 (by decide)).trans c1, d2, w2, d12⟩
    · refine s_zreturn rfl (Or.inr rfl) ?_
      first
        | exact Or.inl ⟨eD, rfl, h2, rfl, hf2, w2, d12⟩
        | exact Or.inr ⟨n, v2, eD, rfl, h2, rfl, fr_w hf2 (by decide), (hf2 1 (by decide)).trans c1, d2, w2, d12⟩
  refine (cn rfl) _ _ _ ?_
  have e5 : K1 = 5 := by omega
  obtain ⟨rfl, rfl⟩ := k1 (Or.inr (Or.inr e5))
  subst e5
  refine s_aload rfl (cn rfl) rfl ?_
  refine s_iload_n rfl (cn rfl) rfl ?_
  refine s_virt rfl (cn rfl) rfl rfl c1 rfl (u_hasOne hn c1 (by omega)) ?_
  rintro _ _ ⟨rfl, rfl⟩
  refine s_ifb_eq rfl (cn rfl) (cn rfl) (fun q48 => ?_) (fun q48 => ?_)
  · refine s_iconst rfl (cn rfl) ?_
    refine s_zreturn rfl (Or.inl rfl) ?_
    first
      | exact Or.inl ⟨eD, rfl, h2, rfl, hf2, w2, d12⟩
      | exact Or.inl ⟨by rw [dst_3 (show (5 : Int) ≠ 0 by decide) (show (5 : Int) ≠ 1 by decide) (show (5 : Int) ≠ 2 by decide), ci_n (fun q => by first | exact q48 (q.1 rfl).1 | exact q52 (q.1 rfl).2)], rfl, h, rfl, fr_r, w, c12⟩
  · refine s_aload rfl (cn rfl) rfl ?_
    refine s_iload_n rfl (cn rfl) rfl ?_
    refine s_virt rfl (cn rfl) rfl rfl c1 rfl (u_hasOne hn c1 (by omega)) ?_
    rintro _ _ ⟨rfl, rfl⟩
    refine s_ifb_eq rfl (cn rfl) (cn rfl) (fun q52 => ?_) (fun q52 => ?_)
    · refine s_iconst rfl (cn rfl) ?_
      refine s_zreturn rfl (Or.inl rfl) ?_
      first
        | exact Or.inl ⟨eD, rfl, h2, rfl, hf2, w2, d12⟩
        | exact Or.inl ⟨by rw [dst_3 (show (5 : Int) ≠ 0 by decide) (show (5 : Int) ≠ 1 by decide) (show (5 : Int) ≠ 2 by decide), ci_n (fun q => by first | exact q48 (q.1 rfl).1 | exact q52 (q.1 rfl).2)], rfl, h, rfl, fr_r, w, c12⟩
    · obtain ⟨a, rfl⟩ := Int.eq_ofNat_of_zero_le (show 0 ≤ x by omega)
      obtain ⟨b, rfl⟩ := Int.eq_ofNat_of_zero_le (show 0 ≤ y by omega)
      refine s_aload_n rfl (cn rfl) rfl ?_
      refine s_iload_n rfl (cn rfl) rfl ?_
      refine s_iload_n rfl (cn rfl) rfl ?_
      refine s_aload rfl (cn rfl) rfl ?_
      refine s_virt rfl (cn rfl) rfl rfl c7 rfl (u_swaps hn c1 c2 hv c7 c12 (show a < n by omega) (show b < n by omega)) ?_
      rintro _ _ (⟨eD, rfl, h2, rfl, hf2, w2, d12⟩ | ⟨v2, eD, rfl, h2, rfl, hf2, d2, w2, d12⟩)
      · refine s_if_eq rfl (cn rfl) (cn rfl) (by decide) (fun q58 => ?_) (fun q58 => absurd q58 (by decide))
        refine s_iconst rfl (cn rfl) ?_
        refine s_zreturn rfl (Or.inl rfl) ?_
        first
          | exact Or.inl ⟨eD, rfl, h2, rfl, hf2, w2, d12⟩
          | exact Or.inl ⟨by rw [dst_3 (show (5 : Int) ≠ 0 by decide) (show (5 : Int) ≠ 1 by decide) (show (5 : Int) ≠ 2 by decide), ci_n (fun q => by first | exact q48 (q.1 rfl).1 | exact q52 (q.1 rfl).2)], rfl, h, rfl, fr_r, w, c12⟩
      · refine s_if_eq rfl (cn rfl) (cn rfl) (by decide) (fun q58 => absurd q58 (by decide)) (fun q58 => ?_)
        refine s_iconst rfl (cn rfl) ?_
        refine s_goto rfl (cn rfl) ?_
        refine s_zreturn rfl (Or.inr rfl) ?_
        exact Or.inr ⟨n, v2, eD, rfl, h2, rfl, fr_w hf2 (by decide), (hf2 1 (by decide)).trans c1, d2, w2, d12⟩
theorem u_carry {d N S n : Nat} {v : Nat → Int} {h : Nat → Option rr_E} (hV : okV n v) (c1 : h 1 = some (.inr (0, [.int (ii (n : Int)), .ref 2]))) (c2 : h 2 = some (.inl (0, 16, .inl (fun k => ii (v k))))) {L : List Dd} {tl7 sp sf sv : Int} (c7 : h 7 = some (SC tl7 ((L.length : Nat) : Int) sp sf sv)) {w : Nat → Int} (c12 : h 12 = some (.inl (0, 16, .inl (fun k => ii (w k))))) {kn fi se : Nat → Int} (c9 : h 9 = some (.inl (0, 25, .inl (fun k => ii (kn k))))) (c10 : h 10 = some (.inl (0, 25, .inl (fun k => ii (fi k))))) (c11 : h 11 = some (.inl (0, 25, .inl (fun k => ii (se k))))) (hL : L.length ≤ 25) (hh : hold L kn fi se) : rr_Calls (d + 5) j_Script_carryOut [.ref 7, .ref 1] (N, S, h) (fun r R => r = some (.int (ii (crun L n v).1)) ∧ ∃ h', R = (N, S, h') ∧ fr [1, 2, 12] h h' ∧ h' 1 = some (.inr (0, [.int (ii ((crun L n v).2.1 : Int)), .ref 2])) ∧ h' 2 = some (.inl (0, 16, .inl (fun k => ii ((crun L n v).2.2 k)))) ∧ (∃ w2 : Nat → Int, h' 12 = some (.inl (0, 16, .inl (fun k => ii (w2 k))))) ∧ okV (crun L n v).2.1 (crun L n v).2.2) := by
  refine rr_meth (C := K_Script_carryOut) (hd := h_Script_carryOut) (mx := 4) rfl rfl (fun K hK => ?_)
  refine hK _ _ _ _ ?_
  refine s_iconst rfl (cn rfl) ?_
  refine s_istore_n rfl (cn rfl) ?_
  refine s_iconst rfl (cn rfl) ?_
  refine s_istore_n rfl (ch rfl) ?_
  have lp4 : ∀ j : Nat, j ≤ L.length → ∀ (h' : Nat → Option rr_E) (x : Int) (m : Nat) (z : Nat → Int) (w : Nat → Int) (hz : okV m z) (c1 : h' 1 = some (.inr (0, [.int (ii (m : Int)), .ref 2]))) (c2 : h' 2 = some (.inl (0, 16, .inl (fun k => ii (z k))))) (c12 : h' 12 = some (.inl (0, 16, .inl (fun k => ii (w k))))) (hf : fr [1, 2, 12] h h') (hc : crun L n v = (x + (crun (L.drop j) m z).1, (crun (L.drop j) m z).2)), K 4 [some (.ref 7), some (.ref 1), some (.int (ii x)), some (.int (ii (j : Int)))] [] (N, S, h') := by
    refine dn (fun j hj ih4 => ?_)
    intro h' x m z w hz c1 c2 c12 hf hc
    have c7 := (hf 7 (by decide)).trans c7
    have c9 := (hf 9 (by decide)).trans c9
    have c10 := (hf 10 (by decide)).trans c10
    have c11 := (hf 11 (by decide)).trans c11
    refine hK _ _ _ _ ?_
    refine s_iload_n rfl (cn rfl) rfl ?_
    refine s_aload_n rfl (cn rfl) rfl ?_
    refine s_getfield rfl (cn rfl) c7 rfl ?_
    refine s_icmp_ge rfl (cn rfl) (cn rfl) ⟨by omega, by omega⟩ ⟨by omega, by omega⟩ (fun q7 => ?_) (fun q7 => ?_)
    · refine s_iload_n rfl (cn rfl) rfl ?_
      refine s_ireturn rfl ?_
      have ed : L.drop j = [] := List.drop_eq_nil_of_le (by omega)
      rw [ed] at hc
      have e1 : (crun L n v).1 = x := by rw [hc]; show x + 0 = x; omega
      have e2 : (crun L n v).2.1 = m := by rw [hc]; rfl
      have e3 : (crun L n v).2.2 = z := by rw [hc]; rfl
      exact ⟨ri e1.symm, h', rfl, hf, by rw [e2]; exact c1, by rw [e3]; exact c2, ⟨w, c12⟩, by rw [e2, e3]; exact hz⟩
    · refine s_aload_n rfl (cn rfl) rfl ?_
      refine s_aload_n rfl (cn rfl) rfl ?_
      refine s_getfield rfl (cn rfl) c7 rfl ?_
      refine s_iload_n rfl (cn rfl) rfl ?_
      refine s_iaload rfl (cn rfl) _ rfl c9 rfl (by omega) (by decide) rfl ?_
      refine s_aload_n rfl (cn rfl) rfl ?_
      refine s_getfield rfl (cn rfl) c7 rfl ?_
      refine s_iload_n rfl (cn rfl) rfl ?_
      refine s_iaload rfl (cn rfl) _ rfl c10 rfl (by omega) (by decide) rfl ?_
      refine s_aload_n rfl (cn rfl) rfl ?_
      refine s_getfield rfl (cn rfl) c7 rfl ?_
      refine s_iload_n rfl (cn rfl) rfl ?_
      refine s_iaload rfl (cn rfl) _ rfl c11 rfl (by omega) (by decide) rfl ?_
      refine s_aload_n rfl (cn rfl) rfl ?_
      refine s_virt rfl (cn rfl) rfl rfl c7 rfl (u_isDone hz.1 c1 c2 hz.2.1 c7 c12 (hh j (by omega)).2 (hh j (by omega)).1) ?_
      rintro _ _ (⟨eD, rfl, h2, rfl, hf2, w2, c12⟩ | ⟨n2, v2, eD, rfl, h2, rfl, hf2, c1, c2, w2, c12⟩)
      · have c1 := (hf2 1 (by decide)).trans c1
        have c2 := (hf2 2 (by decide)).trans c2
        refine s_if_eq rfl (cn rfl) (cn rfl) (by decide) (fun q23 => ?_) (fun q23 => absurd q23 (by decide))
        refine s_iinc rfl (cn rfl) rfl ?_
        refine s_goto rfl (ch rfl) ?_
        exact ih4 (by omega) _ x m z w2 hz c1 c2 c12 (fr_t hf (fr_w (l := [1, 2, 12]) hf2 (by decide)) (by decide)) (by rw [hc, List.drop_eq_getElem_cons (show j < L.length by omega), crun_n eD])
      · refine s_if_eq rfl (cn rfl) (cn rfl) (by decide) (fun q23 => absurd q23 (by decide)) (fun q23 => ?_)
        refine s_iinc rfl (cn rfl) rfl ?_
        refine s_iinc rfl (cn rfl) rfl ?_
        refine s_goto rfl (ch rfl) ?_
        exact ih4 (by omega) _ _ n2 v2 w2 (dst_ok hz eD) c1 c2 c12 (fr_t hf hf2 (by decide)) (by rw [hc, List.drop_eq_getElem_cons (show j < L.length by omega), crun_y eD]; show (x + (_ + 1), _) = (x + 1 + _, _); congr 1; omega)
  exact lp4 0 (by omega) _ 0 n v w hV c1 c2 c12 fr_r (by rw [List.drop_zero, Int.zero_add])
theorem d_deeds {d N S n : Nat} {v : Nat → Int} {h : Nat → Option rr_E} (hV : okV n v) (c1 : h 1 = some (.inr (0, [.int (ii (n : Int)), .ref 2]))) (c2 : h 2 = some (.inl (0, 16, .inl (fun k => ii (v k))))) {sl im : Int} (c0 : h 0 = some (DO sl im)) {tl : Nat} {sc sp sf sv : Int} {tp : Nat → Int} (htl : tl ≤ 100) (ht : ∀ p, p < tl → 1 ≤ tp p ∧ tp p ≤ 127) (c7 : h 7 = some (SC (tl : Int) sc sp sf sv)) (c8 : h 8 = some (.inl (0, 100, .inl (fun k => ii (tp k))))) {w : Nat → Int} (c12 : h 12 = some (.inl (0, 16, .inl (fun k => ii (w k))))) {kn fi se : Nat → Int} (c9 : h 9 = some (.inl (0, 25, .inl (fun k => ii (kn k))))) (c10 : h 10 = some (.inl (0, 25, .inl (fun k => ii (fi k))))) (c11 : h 11 = some (.inl (0, 25, .inl (fun k => ii (se k))))) (c1000010 : h 1000010 = some (.inr (20, [.ref 1000020, .int (ii 0)]))) (c1000020 : h 1000020 = some (.inl (9, 6, .inl (fun j => (rr_sby.getD 0 []).getD j 0)))) (c1000011 : h 1000011 = some (.inr (20, [.ref 1000021, .int (ii 0)]))) (c1000021 : h 1000021 = some (.inl (9, 5, .inl (fun j => (rr_sby.getD 1 []).getD j 0)))) (c1000012 : h 1000012 = some (.inr (20, [.ref 1000022, .int (ii 0)]))) (c1000022 : h 1000022 = some (.inl (9, 4, .inl (fun j => (rr_sby.getD 2 []).getD j 0)))) (c1000013 : h 1000013 = some (.inr (20, [.ref 1000023, .int (ii 0)]))) (c1000023 : h 1000023 = some (.inl (9, 4, .inl (fun j => (rr_sby.getD 3 []).getD j 0)))) (c1000014 : h 1000014 = some (.inr (20, [.ref 1000024, .int (ii 0)]))) (c1000024 : h 1000024 = some (.inl (9, 4, .inl (fun j => (rr_sby.getD 4 []).getD j 0)))) (c1000015 : h 1000015 = some (.inr (20, [.ref 1000025, .int (ii 0)]))) (c1000025 : h 1000025 = some (.inl (9, 4, .inl (fun j => (rr_sby.getD 5 []).getD j 0)))) : rr_Calls (d + 9) j_Desk_deeds [.ref 0] (N, S, h) (fun r R => (∃ f : Nat, outD tp tl 101 0 = .inl f ∧ r = some (.int (ii (-100 - (f : Int)))) ∧ ∃ h', R = (N, S, h') ∧ fr [7, 9, 10, 11, 12] h h' ∧ (∃ (sc2 sp2 sf2 sv2 : Int) (kn2 fi2 se2 w2 : Nat → Int), h' 7 = some (SC ((0 : Nat) : Int) sc2 sp2 sf2 sv2) ∧ h' 9 = some (.inl (0, 25, .inl (fun k => ii (kn2 k)))) ∧ h' 10 = some (.inl (0, 25, .inl (fun k => ii (fi2 k)))) ∧ h' 11 = some (.inl (0, 25, .inl (fun k => ii (se2 k)))) ∧ h' 12 = some (.inl (0, 16, .inl (fun k => ii (w2 k)))))) ∨ (∃ L, outD tp tl 101 0 = .inr L ∧ r = some (.int (ii (crun L n v).1)) ∧ ∃ h', R = (N, S, h') ∧ fr [0, 1, 2, 7, 9, 10, 11, 12] h h' ∧ h' 0 = some (DO 1 im) ∧ h' 1 = some (.inr (0, [.int (ii ((crun L n v).2.1 : Int)), .ref 2])) ∧ h' 2 = some (.inl (0, 16, .inl (fun k => ii ((crun L n v).2.2 k)))) ∧ okV (crun L n v).2.1 (crun L n v).2.2 ∧ (∃ (sc2 sp2 sf2 sv2 : Int) (kn2 fi2 se2 w2 : Nat → Int), h' 7 = some (SC ((0 : Nat) : Int) sc2 sp2 sf2 sv2) ∧ h' 9 = some (.inl (0, 25, .inl (fun k => ii (kn2 k)))) ∧ h' 10 = some (.inl (0, 25, .inl (fun k => ii (fi2 k)))) ∧ h' 11 = some (.inl (0, 25, .inl (fun k => ii (se2 k)))) ∧ h' 12 = some (.inl (0, 16, .inl (fun k => ii (w2 k))))))) := by
  refine rr_meth (C := K_Desk_deeds) (hd := h_Desk_deeds) (mx := 2) rfl rfl (fun K hK => ?_)
  refine hK _ _ _ _ ?_
  refine s_aload_n rfl (cn rfl) rfl ?_
  refine s_getfield rfl (cn rfl) c0 rfl ?_
  refine s_virt rfl (cn rfl) rfl rfl c7 rfl (u_read htl ht c7 c8 c9 c10 c11 c1000010 c1000020 c1000011 c1000021 c1000012 c1000022 c1000013 c1000023 c1000014 c1000024 c1000015 c1000025) ?_
  rintro _ _ (⟨f, eo, hf100, rfl, h2, rfl, hf2, sc2, sp2, sf2, sv2, kn2, fi2, se2, c7, c9, c10, c11⟩ | ⟨L, eo, hL, rfl, h2, rfl, hf2, sp2, sf2, sv2, kn2, fi2, se2, c7, c9, c10, c11, hh⟩)
  · have c0 := (hf2 0 (by decide)).trans c0
    have c1 := (hf2 1 (by decide)).trans c1
    have c2 := (hf2 2 (by decide)).trans c2
    have c12 := (hf2 12 (by decide)).trans c12
    refine s_istore_n rfl (cn rfl) ?_
    refine s_aload_n rfl (cn rfl) rfl ?_
    refine s_getfield rfl (cn rfl) c0 rfl ?_
    refine s_iconst rfl (cn rfl) ?_
    refine s_puti rfl (cn rfl) rfl c7 rfl ?_
    refine s_iload_n rfl (cn rfl) rfl ?_
    refine s_iconst rfl (cn rfl) ?_
    refine s_icmp_eq rfl (cn rfl) (cn rfl) ⟨by omega, by omega⟩ ⟨by omega, by omega⟩ (fun q10 => ?_) (fun q10 => ?_)
    · first
      | (exfalso; omega)
      | skip
        refine s_aload_n rfl (cn rfl) rfl ?_
        refine s_iconst rfl (cn rfl) ?_
        refine s_putz rfl (cn rfl) rfl (Or.inr rfl) c0 rfl ?_
        refine s_aload_n rfl (cn rfl) rfl ?_
        refine s_getfield rfl (cn rfl) rr_set_eq rfl ?_
        refine s_aload_n rfl (cn rfl) rfl ?_
        refine s_getfield rfl (cn rfl) rr_set_eq rfl ?_
        refine s_virt rfl (cn rfl) rfl rfl rfl rfl (u_carry (h := rr_set (rr_set h2 7 (SC ((0 : Nat) : Int) ((L.length : Nat) : Int) sp2 sf2 sv2)) 0 (DO 1 im)) hV c1 c2 rfl c12 c9 c10 c11 hL hh) ?_
        rintro _ _ ⟨rfl, h3, rfl, hf3, d1, d2, ⟨w3, d12⟩, hV3⟩
        refine s_ireturn rfl ?_
        exact Or.inr ⟨L, eo, rfl, h3, rfl, fr_t (fr_s (k := 0) (by decide) (fr_s (k := 7) (by decide) (fr_w hf2 (by decide)))) hf3 (by decide), (hf3 0 (by decide)).trans rr_set_eq, d1, d2, hV3, _, _, _, _, _, _, _, _, (hf3 7 (by decide)).trans rfl, (hf3 9 (by decide)).trans c9, (hf3 10 (by decide)).trans c10, (hf3 11 (by decide)).trans c11, d12⟩
    · first
      | (exfalso; exact q10 rfl)
      | skip
        refine s_bipush rfl (cn rfl) (by decide) ?_
        refine s_iload_n rfl (cn rfl) rfl ?_
        refine s_isub rfl (cn rfl) ?_
        refine s_ireturn rfl ?_
        exact Or.inl ⟨f, eo, rfl, _, rfl, fr_s (by decide) (fr_w hf2 (by decide)), _, _, _, _, _, _, _, _, rr_set_eq, c9, c10, c11, c12⟩
  · have c0 := (hf2 0 (by decide)).trans c0
    have c1 := (hf2 1 (by decide)).trans c1
    have c2 := (hf2 2 (by decide)).trans c2
    have c12 := (hf2 12 (by decide)).trans c12
    refine s_istore_n rfl (cn rfl) ?_
    refine s_aload_n rfl (cn rfl) rfl ?_
    refine s_getfield rfl (cn rfl) c0 rfl ?_
    refine s_iconst rfl (cn rfl) ?_
    refine s_puti rfl (cn rfl) rfl c7 rfl ?_
    refine s_iload_n rfl (cn rfl) rfl ?_
    refine s_iconst rfl (cn rfl) ?_
    refine s_icmp_eq rfl (cn rfl) (cn rfl) ⟨by omega, by omega⟩ ⟨by omega, by omega⟩ (fun q10 => ?_) (fun q10 => ?_)
    · first
      | (exfalso; omega)
      | skip
        refine s_aload_n rfl (cn rfl) rfl ?_
        refine s_iconst rfl (cn rfl) ?_
        refine s_putz rfl (cn rfl) rfl (Or.inr rfl) c0 rfl ?_
        refine s_aload_n rfl (cn rfl) rfl ?_
        refine s_getfield rfl (cn rfl) rr_set_eq rfl ?_
        refine s_aload_n rfl (cn rfl) rfl ?_
        refine s_getfield rfl (cn rfl) rr_set_eq rfl ?_
        refine s_virt rfl (cn rfl) rfl rfl rfl rfl (u_carry (h := rr_set (rr_set h2 7 (SC ((0 : Nat) : Int) ((L.length : Nat) : Int) sp2 sf2 sv2)) 0 (DO 1 im)) hV c1 c2 rfl c12 c9 c10 c11 hL hh) ?_
        rintro _ _ ⟨rfl, h3, rfl, hf3, d1, d2, ⟨w3, d12⟩, hV3⟩
        refine s_ireturn rfl ?_
        exact Or.inr ⟨L, eo, rfl, h3, rfl, fr_t (fr_s (k := 0) (by decide) (fr_s (k := 7) (by decide) (fr_w hf2 (by decide)))) hf3 (by decide), (hf3 0 (by decide)).trans rr_set_eq, d1, d2, hV3, _, _, _, _, _, _, _, _, (hf3 7 (by decide)).trans rfl, (hf3 9 (by decide)).trans c9, (hf3 10 (by decide)).trans c10, (hf3 11 (by decide)).trans c11, d12⟩
    · first
      | (exfalso; exact q10 rfl)
      | skip
        refine s_bipush rfl (cn rfl) (by decide) ?_
        refine s_iload_n rfl (cn rfl) rfl ?_
        refine s_isub rfl (cn rfl) ?_
        refine s_ireturn rfl ?_
        exact Or.inl ⟨f, eo, rfl, _, rfl, fr_s (by decide) (fr_w hf2 (by decide)), _, _, _, _, _, _, _, _, rr_set_eq, c9, c10, c11, c12⟩
