/-! The stages of the class: what is open, and the offers. -/
def pu (pt : Nat → Nat) (i g : Nat) : Nat → Nat := fun k => if k = i then g else pt k
theorem pu_s {pt : Nat → Nat} {i g : Nat} : pu pt i g i = g := if_pos rfl
theorem pu_n {pt : Nat → Nat} {i g k : Nat} (h : k ≠ i) : pu pt i g k = pt k := if_neg h
theorem pu_e {pt : Nat → Nat} {i g : Nat} : fu (fun k => ((pt k : Nat) : Int)) i (g : Int) = fun k => ((pu pt i g k : Nat) : Int) := by
  funext k
  show (if k = i then (g : Int) else ((pt k : Nat) : Int)) = (((if k = i then g else pt k) : Nat) : Int)
  by_cases e : k = i
  · rw [if_pos e, if_pos e]
  · rw [if_neg e, if_neg e]
/-- the row of open parts up to g, with what is said of each -/
def gth (n wc : Nat) (v A : Nat → Int) (be : Int) (W : Nat → Nat → Int) (op g oc : Nat) (pt : Nat → Nat) (xa xc xh : Nat → Int) : Prop :=
  (∀ i, i < oc → 1 ≤ pt i ∧ pt i < g ∧ op.testBit (pt i) = true) ∧ (∀ f, 1 ≤ f → f < g → op.testBit f = true → ∃ i, i < oc ∧ pt i = f) ∧ (∀ i j, i < j → j < oc → pt i < pt j) ∧
  ∀ i, i < oc → xa i = (if 0 < wc then st_sh 4 (pt i) (W 0) else 0) ∧ xc i = (if 1 < wc then st_sh 4 (pt i) (W 1) else 0) ∧ xh i = v (pt i) * be - st_sh 4 (pt i) A
theorem gth_n {n wc : Nat} {v A : Nat → Int} {be : Int} {W : Nat → Nat → Int} {op g oc : Nat} {pt : Nat → Nat} {xa xc xh : Nat → Int} (h : gth n wc v A be W op g oc pt xa xc xh) (hg : ¬ op.testBit g = true) : gth n wc v A be W op (g + 1) oc pt xa xc xh := by
  refine ⟨fun i hi => ⟨(h.1 i hi).1, by have := (h.1 i hi).2.1; omega, (h.1 i hi).2.2⟩, fun f f1 f2 f3 => ?_, h.2.2.1, h.2.2.2⟩
  by_cases e : f = g
  · subst e; exact absurd f3 hg
  · exact h.2.1 f f1 (by omega) f3
theorem gth_y {n wc : Nat} {v A : Nat → Int} {be : Int} {W : Nat → Nat → Int} {op g oc : Nat} {pt : Nat → Nat} {xa xc xh : Nat → Int} {x y z : Int} (h : gth n wc v A be W op g oc pt xa xc xh) (h1 : 1 ≤ g) (hg : op.testBit g = true) (ex : x = (if 0 < wc then st_sh 4 g (W 0) else 0)) (ey : y = (if 1 < wc then st_sh 4 g (W 1) else 0)) (ez : z = v g * be - st_sh 4 g A) : gth n wc v A be W op (g + 1) (oc + 1) (pu pt oc g) (fu xa oc x) (fu xc oc y) (fu xh oc z) := by
  refine ⟨fun i hi => ?_, fun f f1 f2 f3 => ?_, fun i j hij hj => ?_, fun i hi => ?_⟩
  · by_cases e : i = oc
    · subst e; rw [pu_s]; exact ⟨h1, by omega, hg⟩
    · rw [pu_n e]
      have := h.1 i (by omega)
      exact ⟨this.1, by omega, this.2.2⟩
  · by_cases e : f = g
    · exact ⟨oc, by omega, by rw [pu_s, e]⟩
    · obtain ⟨i, i1, i2⟩ := h.2.1 f f1 (by omega) f3
      exact ⟨i, by omega, by rw [pu_n (by omega)]; exact i2⟩
  · rw [pu_n (show i ≠ oc by omega)]
    by_cases e : j = oc
    · subst e; rw [pu_s]; exact (h.1 i (by omega)).2.1
    · rw [pu_n e]; exact h.2.2.1 i j hij (by omega)
  · by_cases e : i = oc
    · subst e; rw [pu_s, fu_s, fu_s, fu_s]; exact ⟨ex, ey, ez⟩
    · rw [pu_n e, fu_n e, fu_n e, fu_n e]; exact h.2.2.2 i (by omega)
theorem gth_le {n wc : Nat} {v A : Nat → Int} {be : Int} {W : Nat → Nat → Int} {op g : Nat} : ∀ {oc : Nat} {pt : Nat → Nat} {xa xc xh : Nat → Int}, gth n wc v A be W op g oc pt xa xc xh → ∀ i, i < oc → i + 1 ≤ pt i := by
  intro oc pt xa xc xh h i
  induction i with
  | zero => intro hi; exact (h.1 0 hi).1
  | succ i ih =>
    intro hi
    have h1 := ih (by omega)
    have h2 := h.2.2.1 i (i + 1) (by omega) hi
    omega
/-- offers by the row -/
def R1 (i : Nat) (pt : Nat → Nat) (xa xc xh : Nat → Int) (s : Nat) (t b : Int) : Prop := ∃ k, k < i ∧ xa k = 0 ∧ xc k = 0 ∧ s = 2 ^ pt k ∧ t = xh k ∧ b = 1
def R2 (oc i j : Nat) (pt : Nat → Nat) (xa xc xh : Nat → Int) (s : Nat) (t b : Int) : Prop := ∃ k m, k < m ∧ m < oc ∧ (k < i ∨ (k = i ∧ m < j)) ∧ pl_cr xa xc k m = 0 ∧ pl_dt xa xc k m < 0 ∧ s = 2 ^ pt k ||| 2 ^ pt m ∧ t = (ab1 (xa m) + ab1 (xc m)) * xh k + (ab1 (xa k) + ab1 (xc k)) * xh m ∧ b = (ab1 (xa m) + ab1 (xc m)) + (ab1 (xa k) + ab1 (xc k))
def R3c (xa xc : Nat → Int) (k m e : Nat) : Prop := (0 < pl_cr xa xc m e ∧ 0 < pl_cr xa xc e k ∧ 0 < pl_cr xa xc k m) ∨ (pl_cr xa xc m e < 0 ∧ pl_cr xa xc e k < 0 ∧ pl_cr xa xc k m < 0)
def R3 (oc i j f : Nat) (pt : Nat → Nat) (xa xc xh : Nat → Int) (s : Nat) (t b : Int) : Prop := ∃ k m e, k < m ∧ m < e ∧ e < oc ∧ (k < i ∨ (k = i ∧ (m < j ∨ (m = j ∧ e < f)))) ∧ R3c xa xc k m e ∧ s = 2 ^ pt k ||| 2 ^ pt m ||| 2 ^ pt e ∧ t = ab1 (pl_cr xa xc m e) * xh k + ab1 (pl_cr xa xc e k) * xh m + ab1 (pl_cr xa xc k m) * xh e ∧ b = ab1 (pl_cr xa xc m e) + ab1 (pl_cr xa xc e k) + ab1 (pl_cr xa xc k m)
theorem v_gather_13 {d N S n : Nat} {v : Nat → Int} {h : Nat → Option rr_E} (hn : 2 ≤ n ∧ n ≤ 4) (c1 : h 1 = some (.inr (0, [.int (ii (n : Int)), .ref 2]))) (c2 : h 2 = some (.inl (0, 16, .inl (fun k => ii (v k))))) (hv : ∀ k, -999 ≤ v k ∧ v k ≤ 999) {ku oc0 bs bt bb : Int} {wc op : Nat} (hwc : wc ≤ 3) (hop : op < 32768) (c13 : h 13 = some (ST13 ku (wc : Int) (op : Int) oc0 bs bt bb)) {W : Nat → Nat → Int} (c20 : h 20 = some WA13) (cw : ∀ w, w < 3 → h (21 + w) = some (.inl (1, 4, .inr (.inl (fun k => jj (W w k)))))) {be x y : Int} {A : Nat → Int} (c17 : h 17 = some (.inr (3, [.long (jj be), .ref 18, .ref 19, .int (ii x), .int (ii y)]))) (c18 : h 18 = some (.inl (1, 4, .inr (.inl (fun k => jj (A k)))))) {p0 a0 c0 h0 : Nat → Int} (c24 : h 24 = some (.inl (0, 14, .inl (fun k => ii (p0 k))))) (c25 : h 25 = some (.inl (1, 14, .inr (.inl (fun k => jj (a0 k)))))) (c26 : h 26 = some (.inl (1, 14, .inr (.inl (fun k => jj (c0 k)))))) (c27 : h 27 = some (.inl (1, 14, .inr (.inl (fun k => jj (h0 k)))))) : rr_Calls (d + 2) j_Stages_gatherOpen [.ref 13, .ref 1] (N, S, h) (fun r R => r = none ∧ ∃ (h' : Nat → Option rr_E) (oc : Nat) (pt : Nat → Nat) (xa xc xh : Nat → Int), R = (N, S, h') ∧ fr [13, 24, 25, 26, 27] h h' ∧ h' 13 = some (ST13 ku (wc : Int) (op : Int) (oc : Int) bs bt 0) ∧ (∃ q0 : Nat → Int, h' 24 = some (.inl (0, 14, .inl (fun k => ii (q0 k)))) ∧ ∀ k, k < oc → q0 k = ((pt k : Nat) : Int)) ∧ h' 25 = some (.inl (1, 14, .inr (.inl (fun k => jj (xa k))))) ∧ h' 26 = some (.inl (1, 14, .inr (.inl (fun k => jj (xc k))))) ∧ h' 27 = some (.inl (1, 14, .inr (.inl (fun k => jj (xh k))))) ∧ oc ≤ 14 ∧ gth n wc v A be W op (al n) oc pt xa xc xh) := by
  refine rr_meth (C := K_Stages_gatherOpen) (hd := h_Stages_gatherOpen) (mx := 3) rfl rfl (fun K hK => ?_)
  have hA := al_b hn
  refine hK _ _ _ _ ?_
  refine s_aload_n rfl (cn rfl) rfl ?_
  refine s_iconst rfl (cn rfl) ?_
  refine s_puti rfl (cn rfl) rfl c13 rfl ?_
  refine s_iconst rfl (cn rfl) ?_
  refine s_istore_n rfl (ch rfl) ?_
  have lp5 : ∀ g : Nat, g ≤ al n → ∀ (h' : Nat → Option rr_E) (oc : Nat) (q0 xa xc xh : Nat → Int) (pt : Nat → Nat) (h1 : 1 ≤ g) (hoc : oc + 1 ≤ g) (c13 : h' 13 = some (ST13 ku (wc : Int) (op : Int) (oc : Int) bs bt bb)) (c24 : h' 24 = some (.inl (0, 14, .inl (fun k => ii (q0 k))))) (c25 : h' 25 = some (.inl (1, 14, .inr (.inl (fun k => jj (xa k)))))) (c26 : h' 26 = some (.inl (1, 14, .inr (.inl (fun k => jj (xc k)))))) (c27 : h' 27 = some (.inl (1, 14, .inr (.inl (fun k => jj (xh k)))))) (hq : ∀ k, k < oc → q0 k = ((pt k : Nat) : Int)) (hf : fr [13, 24, 25, 26, 27] h h') (hg : gth n wc v A be W op g oc pt xa xc xh), K 5 [some (.ref 13), some (.ref 1), some (.int (ii (g : Int)))] [] (N, S, h') := by
    refine dn (fun g hg ih5 => ?_)
    intro h' oc q0 xa xc xh pt h1 hoc c13 c24 c25 c26 c27 hq hf hg
    have c1 := (hf 1 (by decide)).trans c1
    have c2 := (hf 2 (by decide)).trans c2
    have c20 := (hf 20 (by decide)).trans c20
    have c17 := (hf 17 (by decide)).trans c17
    have c18 := (hf 18 (by decide)).trans c18
    have cw : ∀ w, w < 3 → h' (21 + w) = some (.inl (1, 4, .inr (.inl (fun k => jj (W w k))))) := fun w hw => (hf (21 + w) (by simp; omega)).trans (cw w hw)
    have hvg := hv g
    refine hK _ _ _ _ ?_
    refine s_iload_n rfl (cn rfl) rfl ?_
    refine s_aload_n rfl (cn rfl) rfl ?_
    refine s_virt rfl (cn rfl) rfl rfl c1 rfl (u_all_1 hn c1) ?_
    rintro _ _ ⟨rfl, rfl⟩
    refine s_icmp_ge rfl (cn rfl) (cn rfl) ⟨by omega, by omega⟩ ⟨by omega, by omega⟩ (fun q8 => ?_) (fun q8 => ?_)
    · refine s_aload_n rfl (cn rfl) rfl ?_
      refine s_lconst rfl (cn rfl) 0 (by decide) ?_
      refine s_putl rfl (cn rfl) rfl c13 rfl ?_
      refine s_return rfl ?_
      exact ⟨rfl, _, oc, pt, xa, xc, xh, rfl, fr_s (by decide) hf, rr_set_eq, ⟨_, c24, hq⟩, c25, c26, c27, by omega, by rw [show al n = g by omega]; exact hg⟩
    · refine s_aload_n rfl (cn rfl) rfl ?_
      refine s_getfield rfl (cn rfl) c13 rfl ?_
      refine s_bipush rfl (cn rfl) (by decide) ?_
      refine s_icmp_ge rfl (cn rfl) (cn rfl) ⟨by omega, by omega⟩ ⟨by omega, by omega⟩ (fun q12 => ?_) (fun q12 => ?_)
      · omega
      · refine s_aload_n rfl (cn rfl) rfl ?_
        refine s_getfield rfl (cn rfl) c13 rfl ?_
        refine s_iload_n rfl (cn rfl) rfl ?_
        refine s_ishr rfl (cn rfl) ?_
        refine s_iconst rfl (cn rfl) ?_
        refine s_iand rfl (cn rfl) _ (bi_bit (by omega) (by omega)) ?_
        refine s_iconst rfl (cn rfl) ?_
        refine s_icmp_ne rfl (cn rfl) (cn rfl) (bt_b3 _ _) (by decide) (fun q20 => ?_) (fun q20 => ?_)
        · refine s_iinc rfl (cn rfl) rfl ?_
          refine s_goto rfl (ch rfl) ?_
          exact ih5 (by omega) _ oc _ _ _ _ pt (by omega) (by omega) c13 c24 c25 c26 c27 hq hf (gth_n hg (fun q => q20 (bt_1.mpr q)))
        · refine s_aload_n rfl (cn rfl) rfl ?_
          refine s_getfield rfl (cn rfl) c13 rfl ?_
          refine s_aload_n rfl (cn rfl) rfl ?_
          refine s_getfield rfl (cn rfl) c13 rfl ?_
          refine s_iload_n rfl (cn rfl) rfl ?_
          refine s_iastore rfl (cn rfl) _ rfl c24 (by omega) (by decide) ?_
          refine s_aload_n rfl (cn rfl) rfl ?_
          refine s_getfield rfl (cn rfl) c13 rfl ?_
          refine s_aload_n rfl (cn rfl) rfl ?_
          refine s_getfield rfl (cn rfl) c13 rfl ?_
          refine s_aload_n rfl (cn rfl) rfl ?_
          refine s_getfield rfl (cn rfl) c13 rfl ?_
          refine s_if_le rfl (cn rfl) (cn rfl) ⟨by omega, by omega⟩ (fun q33 => ?_) (fun q33 => ?_)
          · refine s_lconst rfl (cn rfl) 0 (by decide) ?_
            refine s_lastore rfl (cn rfl) _ rfl c25 (by omega) (by decide) ?_
            refine s_aload_n rfl (cn rfl) rfl ?_
            refine s_getfield rfl (cn rfl) c13 rfl ?_
            refine s_aload_n rfl (cn rfl) rfl ?_
            refine s_getfield rfl (cn rfl) c13 rfl ?_
            refine s_aload_n rfl (cn rfl) rfl ?_
            refine s_getfield rfl (cn rfl) c13 rfl ?_
            refine s_iconst rfl (cn rfl) ?_
            refine s_icmp_le rfl (cn rfl) (cn rfl) ⟨by omega, by omega⟩ ⟨by omega, by omega⟩ (fun q48 => ?_) (fun q48 => ?_)
            · refine s_lconst rfl (cn rfl) 0 (by decide) ?_
              refine s_lastore rfl (cn rfl) _ rfl c26 (by omega) (by decide) ?_
              refine s_aload_n rfl (cn rfl) rfl ?_
              refine s_getfield rfl (cn rfl) c13 rfl ?_
              refine s_aload_n rfl (cn rfl) rfl ?_
              refine s_getfield rfl (cn rfl) c13 rfl ?_
              refine s_aload_n rfl (cn rfl) rfl ?_
              refine s_getfield rfl (cn rfl) c1 rfl ?_
              refine s_iload_n rfl (cn rfl) rfl ?_
              refine s_iaload rfl (cn rfl) _ rfl c2 rfl (by omega) (by decide) rfl ?_
              refine s_i2l rfl (cn rfl) ⟨by omega, by omega⟩ ?_
              refine s_aload_n rfl (cn rfl) rfl ?_
              refine s_getfield rfl (cn rfl) c13 rfl ?_
              refine s_getfield rfl (cn rfl) c17 rfl ?_
              refine s_lmul rfl (cn rfl) ?_
              refine s_aload_n rfl (cn rfl) rfl ?_
              refine s_getfield rfl (cn rfl) c13 rfl ?_
              refine s_iload_n rfl (cn rfl) rfl ?_
              refine s_virt rfl (cn rfl) rfl rfl c17 rfl (u_sumOf_17 (by exact c17) (by exact c18) (by omega)) ?_
              rintro _ _ ⟨rfl, rfl⟩
              refine s_lsub rfl (cn rfl) ?_
              refine s_lastore rfl (cn rfl) _ rfl c27 (by omega) (by decide) ?_
              refine s_aload_n rfl (cn rfl) rfl ?_
              refine s_dupr rfl (cn rfl) ?_
              refine s_getfield rfl (cn rfl) c13 rfl ?_
              refine s_iconst rfl (cn rfl) ?_
              refine s_iadd rfl (cn rfl) ?_
              refine s_puti rfl (cn rfl) rfl c13 rfl ?_
              refine s_iinc rfl (cn rfl) rfl ?_
              refine s_goto rfl (ch rfl) ?_
              exact ih5 (by omega) _ (oc + 1) _ _ _ _ (pu pt oc g) (by omega) (by omega) rr_set_eq rfl rfl rfl rfl (fun k hk => by
                  by_cases e : k = oc
                  · subst e; rw [fu_s, pu_s]
                  · rw [fu_n e, pu_n e]; exact hq k (by omega)) (fr_s (by decide) (fr_s (by decide) (fr_s (by decide) (fr_s (by decide) (fr_s (by decide) hf))))) (gth_y hg h1 (bt_1.mp q20) (by rw [if_neg (by omega)]) (by rw [if_neg (by omega)]) rfl)
            · refine s_aload_n rfl (cn rfl) rfl ?_
              refine s_iconst rfl (cn rfl) ?_
              refine s_iload_n rfl (cn rfl) rfl ?_
              refine s_virt rfl (cn rfl) rfl rfl c13 rfl (v_goes_13 (W := W) (w := 1) (by exact c13) (by exact c20) (by intro w hw; first | exact cw w hw | (rw [rr_set_ne (by omega)]; exact cw w hw) | (rw [rr_set_ne (by omega), rr_set_ne (by omega)]; exact cw w hw)) (by decide) (by omega)) ?_
              rintro _ _ ⟨rfl, rfl⟩
              refine s_goto rfl (cn rfl) ?_
              refine s_lastore rfl (cn rfl) _ rfl c26 (by omega) (by decide) ?_
              refine s_aload_n rfl (cn rfl) rfl ?_
              refine s_getfield rfl (cn rfl) c13 rfl ?_
              refine s_aload_n rfl (cn rfl) rfl ?_
              refine s_getfield rfl (cn rfl) c13 rfl ?_
              refine s_aload_n rfl (cn rfl) rfl ?_
              refine s_getfield rfl (cn rfl) c1 rfl ?_
              refine s_iload_n rfl (cn rfl) rfl ?_
              refine s_iaload rfl (cn rfl) _ rfl c2 rfl (by omega) (by decide) rfl ?_
              refine s_i2l rfl (cn rfl) ⟨by omega, by omega⟩ ?_
              refine s_aload_n rfl (cn rfl) rfl ?_
              refine s_getfield rfl (cn rfl) c13 rfl ?_
              refine s_getfield rfl (cn rfl) c17 rfl ?_
              refine s_lmul rfl (cn rfl) ?_
              refine s_aload_n rfl (cn rfl) rfl ?_
              refine s_getfield rfl (cn rfl) c13 rfl ?_
              refine s_iload_n rfl (cn rfl) rfl ?_
              refine s_virt rfl (cn rfl) rfl rfl c17 rfl (u_sumOf_17 (by exact c17) (by exact c18) (by omega)) ?_
              rintro _ _ ⟨rfl, rfl⟩
              refine s_lsub rfl (cn rfl) ?_
              refine s_lastore rfl (cn rfl) _ rfl c27 (by omega) (by decide) ?_
              refine s_aload_n rfl (cn rfl) rfl ?_
              refine s_dupr rfl (cn rfl) ?_
              refine s_getfield rfl (cn rfl) c13 rfl ?_
              refine s_iconst rfl (cn rfl) ?_
              refine s_iadd rfl (cn rfl) ?_
              refine s_puti rfl (cn rfl) rfl c13 rfl ?_
              refine s_iinc rfl (cn rfl) rfl ?_
              refine s_goto rfl (ch rfl) ?_
              exact ih5 (by omega) _ (oc + 1) _ _ _ _ (pu pt oc g) (by omega) (by omega) rr_set_eq rfl rfl rfl rfl (fun k hk => by
                  by_cases e : k = oc
                  · subst e; rw [fu_s, pu_s]
                  · rw [fu_n e, pu_n e]; exact hq k (by omega)) (fr_s (by decide) (fr_s (by decide) (fr_s (by decide) (fr_s (by decide) (fr_s (by decide) hf))))) (gth_y hg h1 (bt_1.mp q20) (by rw [if_neg (by omega)]) (by rw [if_pos (by omega)]) rfl)
          · refine s_aload_n rfl (cn rfl) rfl ?_
            refine s_iconst rfl (cn rfl) ?_
            refine s_iload_n rfl (cn rfl) rfl ?_
            refine s_virt rfl (cn rfl) rfl rfl c13 rfl (v_goes_13 (W := W) (w := 0) (by exact c13) (by exact c20) (by intro w hw; first | exact cw w hw | (rw [rr_set_ne (by omega)]; exact cw w hw) | (rw [rr_set_ne (by omega), rr_set_ne (by omega)]; exact cw w hw)) (by decide) (by omega)) ?_
            rintro _ _ ⟨rfl, rfl⟩
            refine s_goto rfl (cn rfl) ?_
            refine s_lastore rfl (cn rfl) _ rfl c25 (by omega) (by decide) ?_
            refine s_aload_n rfl (cn rfl) rfl ?_
            refine s_getfield rfl (cn rfl) c13 rfl ?_
            refine s_aload_n rfl (cn rfl) rfl ?_
            refine s_getfield rfl (cn rfl) c13 rfl ?_
            refine s_aload_n rfl (cn rfl) rfl ?_
            refine s_getfield rfl (cn rfl) c13 rfl ?_
            refine s_iconst rfl (cn rfl) ?_
            refine s_icmp_le rfl (cn rfl) (cn rfl) ⟨by omega, by omega⟩ ⟨by omega, by omega⟩ (fun q48 => ?_) (fun q48 => ?_)
            · refine s_lconst rfl (cn rfl) 0 (by decide) ?_
              refine s_lastore rfl (cn rfl) _ rfl c26 (by omega) (by decide) ?_
              refine s_aload_n rfl (cn rfl) rfl ?_
              refine s_getfield rfl (cn rfl) c13 rfl ?_
              refine s_aload_n rfl (cn rfl) rfl ?_
              refine s_getfield rfl (cn rfl) c13 rfl ?_
              refine s_aload_n rfl (cn rfl) rfl ?_
              refine s_getfield rfl (cn rfl) c1 rfl ?_
              refine s_iload_n rfl (cn rfl) rfl ?_
              refine s_iaload rfl (cn rfl) _ rfl c2 rfl (by omega) (by decide) rfl ?_
              refine s_i2l rfl (cn rfl) ⟨by omega, by omega⟩ ?_
              refine s_aload_n rfl (cn rfl) rfl ?_
              refine s_getfield rfl (cn rfl) c13 rfl ?_
              refine s_getfield rfl (cn rfl) c17 rfl ?_
              refine s_lmul rfl (cn rfl) ?_
              refine s_aload_n rfl (cn rfl) rfl ?_
              refine s_getfield rfl (cn rfl) c13 rfl ?_
              refine s_iload_n rfl (cn rfl) rfl ?_
              refine s_virt rfl (cn rfl) rfl rfl c17 rfl (u_sumOf_17 (by exact c17) (by exact c18) (by omega)) ?_
              rintro _ _ ⟨rfl, rfl⟩
              refine s_lsub rfl (cn rfl) ?_
              refine s_lastore rfl (cn rfl) _ rfl c27 (by omega) (by decide) ?_
              refine s_aload_n rfl (cn rfl) rfl ?_
              refine s_dupr rfl (cn rfl) ?_
              refine s_getfield rfl (cn rfl) c13 rfl ?_
              refine s_iconst rfl (cn rfl) ?_
              refine s_iadd rfl (cn rfl) ?_
              refine s_puti rfl (cn rfl) rfl c13 rfl ?_
              refine s_iinc rfl (cn rfl) rfl ?_
              refine s_goto rfl (ch rfl) ?_
              exact ih5 (by omega) _ (oc + 1) _ _ _ _ (pu pt oc g) (by omega) (by omega) rr_set_eq rfl rfl rfl rfl (fun k hk => by
                  by_cases e : k = oc
                  · subst e; rw [fu_s, pu_s]
                  · rw [fu_n e, pu_n e]; exact hq k (by omega)) (fr_s (by decide) (fr_s (by decide) (fr_s (by decide) (fr_s (by decide) (fr_s (by decide) hf))))) (gth_y hg h1 (bt_1.mp q20) (by rw [if_pos (by omega)]) (by rw [if_neg (by omega)]) rfl)
            · refine s_aload_n rfl (cn rfl) rfl ?_
              refine s_iconst rfl (cn rfl) ?_
              refine s_iload_n rfl (cn rfl) rfl ?_
              refine s_virt rfl (cn rfl) rfl rfl c13 rfl (v_goes_13 (W := W) (w := 1) (by exact c13) (by exact c20) (by intro w hw; first | exact cw w hw | (rw [rr_set_ne (by omega)]; exact cw w hw) | (rw [rr_set_ne (by omega), rr_set_ne (by omega)]; exact cw w hw)) (by decide) (by omega)) ?_
              rintro _ _ ⟨rfl, rfl⟩
              refine s_goto rfl (cn rfl) ?_
              refine s_lastore rfl (cn rfl) _ rfl c26 (by omega) (by decide) ?_
              refine s_aload_n rfl (cn rfl) rfl ?_
              refine s_getfield rfl (cn rfl) c13 rfl ?_
              refine s_aload_n rfl (cn rfl) rfl ?_
              refine s_getfield rfl (cn rfl) c13 rfl ?_
              refine s_aload_n rfl (cn rfl) rfl ?_
              refine s_getfield rfl (cn rfl) c1 rfl ?_
              refine s_iload_n rfl (cn rfl) rfl ?_
              refine s_iaload rfl (cn rfl) _ rfl c2 rfl (by omega) (by decide) rfl ?_
              refine s_i2l rfl (cn rfl) ⟨by omega, by omega⟩ ?_
              refine s_aload_n rfl (cn rfl) rfl ?_
              refine s_getfield rfl (cn rfl) c13 rfl ?_
              refine s_getfield rfl (cn rfl) c17 rfl ?_
              refine s_lmul rfl (cn rfl) ?_
              refine s_aload_n rfl (cn rfl) rfl ?_
              refine s_getfield rfl (cn rfl) c13 rfl ?_
              refine s_iload_n rfl (cn rfl) rfl ?_
              refine s_virt rfl (cn rfl) rfl rfl c17 rfl (u_sumOf_17 (by exact c17) (by exact c18) (by omega)) ?_
              rintro _ _ ⟨rfl, rfl⟩
              refine s_lsub rfl (cn rfl) ?_
              refine s_lastore rfl (cn rfl) _ rfl c27 (by omega) (by decide) ?_
              refine s_aload_n rfl (cn rfl) rfl ?_
              refine s_dupr rfl (cn rfl) ?_
              refine s_getfield rfl (cn rfl) c13 rfl ?_
              refine s_iconst rfl (cn rfl) ?_
              refine s_iadd rfl (cn rfl) ?_
              refine s_puti rfl (cn rfl) rfl c13 rfl ?_
              refine s_iinc rfl (cn rfl) rfl ?_
              refine s_goto rfl (ch rfl) ?_
              exact ih5 (by omega) _ (oc + 1) _ _ _ _ (pu pt oc g) (by omega) (by omega) rr_set_eq rfl rfl rfl rfl (fun k hk => by
                  by_cases e : k = oc
                  · subst e; rw [fu_s, pu_s]
                  · rw [fu_n e, pu_n e]; exact hq k (by omega)) (fr_s (by decide) (fr_s (by decide) (fr_s (by decide) (fr_s (by decide) (fr_s (by decide) hf))))) (gth_y hg h1 (bt_1.mp q20) (by rw [if_pos (by omega)]) (by rw [if_pos (by omega)]) rfl)
  exact lp5 1 (by omega) _ 0 _ _ _ _ (fun _ => 0) (by omega) (by omega) rr_set_eq c24 c25 c26 c27 (fun k hk => absurd hk (by omega)) (fr_s (by decide) fr_r) ⟨fun i hi => absurd hi (by omega), fun f f1 f2 => absurd f2 (by omega), fun i j _ hj => absurd hj (by omega), fun i hi => absurd hi (by omega)⟩
theorem v_singles_13 {d N S : Nat} {h : Nat → Option rr_E} {ku wc op bt bb : Int} {s oc : Nat} (hoc : oc ≤ 14) (c13 : h 13 = some (ST13 ku wc op (oc : Int) (s : Int) bt bb)) {q0 xa xc xh : Nat → Int} {pt : Nat → Nat} (c24 : h 24 = some (.inl (0, 14, .inl (fun k => ii (q0 k))))) (c25 : h 25 = some (.inl (1, 14, .inr (.inl (fun k => jj (xa k)))))) (c26 : h 26 = some (.inl (1, 14, .inr (.inl (fun k => jj (xc k)))))) (c27 : h 27 = some (.inl (1, 14, .inr (.inl (fun k => jj (xh k)))))) (hq : ∀ k, k < oc → q0 k = ((pt k : Nat) : Int)) (hp : ∀ k, k < oc → pt k < 15) {P0 : Nat → Int → Int → Prop} (hB : BP P0 s bt bb) (hb : bb = 0) (hbt : b6 bt) (hh : ∀ k, k < oc → -2000000000000000 ≤ xh k ∧ xh k ≤ 2000000000000000) (hxa : ∀ k, k < oc → b6 (xa k)) (hxc : ∀ k, k < oc → b6 (xc k)) : rr_Calls (d + 2) j_Stages_offerSingles [.ref 13] (N, S, h) (fun r R => r = none ∧ ∃ (h' : Nat → Option rr_E) (s' : Nat) (t' b' : Int), R = (N, S, h') ∧ fr [13] h h' ∧ h' 13 = some (ST13 ku wc op (oc : Int) (s' : Int) t' b') ∧ BP (fun s t b => P0 s t b ∨ R1 oc pt xa xc xh s t b) s' t' b' ∧ (0 ≤ b' ∧ b' ≤ 1) ∧ ((b' = 0 ∧ t' = bt) ∨ (-2000000000000000 ≤ t' ∧ t' ≤ 2000000000000000))) := by
  refine rr_meth (C := K_Stages_offerSingles) (hd := h_Stages_offerSingles) (mx := 2) rfl rfl (fun K hK => ?_)
  refine hK _ _ _ _ ?_
  refine s_iconst rfl (cn rfl) ?_
  refine s_istore_n rfl (ch rfl) ?_
  have lp2 : ∀ i : Nat, i ≤ oc → ∀ (h' : Nat → Option rr_E) (s2 : Nat) (t2 b2 : Int) (c13 : h' 13 = some (ST13 ku wc op (oc : Int) (s2 : Int) t2 b2)) (hf : fr [13] h h') (hB2 : BP (fun s t b => P0 s t b ∨ R1 i pt xa xc xh s t b) s2 t2 b2) (hbd : (0 ≤ b2 ∧ b2 ≤ 1) ∧ b6 t2 ∧ ((b2 = 0 ∧ t2 = bt) ∨ (-2000000000000000 ≤ t2 ∧ t2 ≤ 2000000000000000))), K 2 [some (.ref 13), some (.int (ii (i : Int)))] [] (N, S, h') := by
    refine dn (fun i hi ih2 => ?_)
    intro h' s2 t2 b2 c13 hf hB2 hbd
    have c24 := (hf 24 (by decide)).trans c24
    have c25 := (hf 25 (by decide)).trans c25
    have c26 := (hf 26 (by decide)).trans c26
    have c27 := (hf 27 (by decide)).trans c27
    refine hK _ _ _ _ ?_
    refine s_iload_n rfl (cn rfl) rfl ?_
    refine s_aload_n rfl (cn rfl) rfl ?_
    refine s_getfield rfl (cn rfl) c13 rfl ?_
    refine s_icmp_ge rfl (cn rfl) (cn rfl) ⟨by omega, by omega⟩ ⟨by omega, by omega⟩ (fun q5 => ?_) (fun q5 => ?_)
    · refine s_return rfl ?_
      exact ⟨rfl, h', s2, t2, b2, rfl, hf, c13, by rw [show oc = i by omega]; exact hB2, hbd.1, hbd.2.2⟩
    · have ha := hxa i (by omega)
      have hc := hxc i (by omega)
      have hp1 := hp i (by omega)
      refine s_aload_n rfl (cn rfl) rfl ?_
      refine s_getfield rfl (cn rfl) c13 rfl ?_
      refine s_iload_n rfl (cn rfl) rfl ?_
      refine s_laload rfl (cn rfl) _ rfl c25 (by omega) (by decide) rfl ?_
      refine s_lconst rfl (cn rfl) 0 (by decide) ?_
      refine s_lcmp rfl (cn rfl) ?_
      refine s_ifl_ne rfl (cn rfl) (cn rfl) ⟨by omega, by omega⟩ ⟨by omega, by omega⟩ (fun q12 => ?_) (fun q12 => ?_)
      · refine s_iinc rfl (cn rfl) rfl ?_
        refine s_goto rfl (ch rfl) ?_
        exact ih2 (by omega) _ s2 t2 b2 c13 hf (BP_cg hB2 (fun s t b => or_congr_right ⟨fun ⟨k, k1, k2⟩ => ⟨k, by omega, k2⟩, fun ⟨k, k1, k2, k3, k4⟩ => ⟨k, by
            by_cases e : k = i
            · subst e; exact absurd k2 q12
            · omega, k2, k3, k4⟩⟩)) hbd
      · refine s_aload_n rfl (cn rfl) rfl ?_
        refine s_getfield rfl (cn rfl) c13 rfl ?_
        refine s_iload_n rfl (cn rfl) rfl ?_
        refine s_laload rfl (cn rfl) _ rfl c26 (by omega) (by decide) rfl ?_
        refine s_lconst rfl (cn rfl) 0 (by decide) ?_
        refine s_lcmp rfl (cn rfl) ?_
        refine s_ifl_ne rfl (cn rfl) (cn rfl) ⟨by omega, by omega⟩ ⟨by omega, by omega⟩ (fun q19 => ?_) (fun q19 => ?_)
        · refine s_iinc rfl (cn rfl) rfl ?_
          refine s_goto rfl (ch rfl) ?_
          exact ih2 (by omega) _ s2 t2 b2 c13 hf (BP_cg hB2 (fun s t b => or_congr_right ⟨fun ⟨k, k1, k2⟩ => ⟨k, by omega, k2⟩, fun ⟨k, k1, k2, k3, k4⟩ => ⟨k, by
              by_cases e : k = i
              · subst e; exact absurd k3 q19
              · omega, k2, k3, k4⟩⟩)) hbd
        · refine s_aload_n rfl (cn rfl) rfl ?_
          refine s_iconst rfl (cn rfl) ?_
          refine s_aload_n rfl (cn rfl) rfl ?_
          refine s_getfield rfl (cn rfl) c13 rfl ?_
          refine s_iload_n rfl (cn rfl) rfl ?_
          refine s_iaload rfl (cn rfl) _ rfl c24 rfl (by omega) (by decide) (congrArg ii (hq i (by omega))) ?_
          refine s_ishl rfl (cn rfl) _ (bi_shl1 (by omega)) ?_
          refine s_aload_n rfl (cn rfl) rfl ?_
          refine s_getfield rfl (cn rfl) c13 rfl ?_
          refine s_iload_n rfl (cn rfl) rfl ?_
          refine s_laload rfl (cn rfl) _ rfl c27 (by omega) (by decide) rfl ?_
          refine s_lconst rfl (cn rfl) 1 (by decide) ?_
          refine s_virt rfl (cn rfl) rfl rfl c13 rfl (v_offer_13 (s0 := 2 ^ pt i) c13 (by have := hh i (by omega); rcases (show b2 = 0 ∨ b2 = 1 by omega) with e | e <;> rw [e] <;> omega) (by omega) (by omega)) ?_
          rintro _ _ ⟨rfl, h3, s3, t3, b3, rfl, hf3, d13, hn3, he3, hl3⟩
          have hB3 := BP_s hB2 (by decide) hn3 he3 hl3
          refine s_iinc rfl (cn rfl) rfl ?_
          refine s_goto rfl (ch rfl) ?_
          exact ih2 (by omega) _ s3 t3 b3 d13 (fr_t hf hf3 (by decide)) (BP_cg hB3 (fun s t b => ⟨fun q => by
              rcases q with (q | ⟨k, k1, k2⟩) | ⟨rfl, rfl, rfl⟩
              · exact Or.inl q
              · exact Or.inr ⟨k, by omega, k2⟩
              · exact Or.inr ⟨i, by omega, q12, q19, rfl, rfl, rfl⟩, fun q => by
              rcases q with q | ⟨k, k1, k2, k3, rfl, rfl, rfl⟩
              · exact Or.inl (Or.inl q)
              · by_cases e : k = i
                · subst e; exact Or.inr ⟨rfl, rfl, rfl⟩
                · exact Or.inl (Or.inr ⟨k, by omega, k2, k3, rfl, rfl, rfl⟩)⟩)) (by have := hh i (by omega); omega)
  exact lp2 0 (by omega) _ s bt bb c13 fr_r (BP_cg hB (fun s t b => ⟨Or.inl, fun q => q.resolve_right (fun ⟨k, k1, _⟩ => absurd k1 (by omega))⟩)) (by omega)
theorem v_pairs_13 {d N S : Nat} {h : Nat → Option rr_E} {ku op bt bb : Int} {s oc wc : Nat} (hoc : oc ≤ 14) (c13 : h 13 = some (ST13 ku (wc : Int) op (oc : Int) (s : Int) bt bb)) {q0 xa xc xh : Nat → Int} {pt : Nat → Nat} (c24 : h 24 = some (.inl (0, 14, .inl (fun k => ii (q0 k))))) (c25 : h 25 = some (.inl (1, 14, .inr (.inl (fun k => jj (xa k)))))) (c26 : h 26 = some (.inl (1, 14, .inr (.inl (fun k => jj (xc k)))))) (c27 : h 27 = some (.inl (1, 14, .inr (.inl (fun k => jj (xh k)))))) (hq : ∀ k, k < oc → q0 k = ((pt k : Nat) : Int)) (hp : ∀ k, k < oc → pt k < 15) {P0 : Nat → Int → Int → Prop} (hB : BP P0 s bt bb) (hh : ∀ k, k < oc → -2000000000000000 ≤ xh k ∧ xh k ≤ 2000000000000000) (hbd0 : (0 ≤ bb ∧ bb ≤ 32) ∧ (-80000000000000000 ≤ bt ∧ bt ≤ 80000000000000000)) (hxa : ∀ k, k < oc → -8 ≤ xa k ∧ xa k ≤ 8) (hxc : ∀ k, k < oc → -8 ≤ xc k ∧ xc k ≤ 8) (hwc : wc ≤ 3) (hz : wc = 0 → ∀ k, k < oc → xa k = 0 ∧ xc k = 0) : rr_Calls (d + 2) j_Stages_offerPairs [.ref 13] (N, S, h) (fun r R => r = none ∧ ∃ (h' : Nat → Option rr_E) (s' : Nat) (t' b' : Int), R = (N, S, h') ∧ fr [13] h h' ∧ h' 13 = some (ST13 ku (wc : Int) op (oc : Int) (s' : Int) t' b') ∧ BP (fun s t b => P0 s t b ∨ R2 oc oc 0 pt xa xc xh s t b) s' t' b' ∧ (0 ≤ b' ∧ b' ≤ 32) ∧ (-80000000000000000 ≤ t' ∧ t' ≤ 80000000000000000)) := by
  refine rr_meth (C := K_Stages_offerPairs) (hd := h_Stages_offerPairs) (mx := 7) rfl rfl (fun K hK => ?_)
  have c24o := c24
  have c25o := c25
  have c26o := c26
  have c27o := c27
  refine hK _ _ _ _ ?_
  refine s_iconst rfl (cn rfl) ?_
  refine s_istore_n rfl (ch rfl) ?_
  have lp2 : ∀ i : Nat, i ≤ oc → ∀ (l2 : Option Value) (l3 l5 : Option Value) (h' : Nat → Option rr_E) (s2 : Nat) (t2 b2 : Int) (c13 : h' 13 = some (ST13 ku wc op (oc : Int) (s2 : Int) t2 b2)) (hf : fr [13] h h') (hB2 : BP (fun s t b => P0 s t b ∨ R2 oc i 0 pt xa xc xh s t b) s2 t2 b2) (hbd : (0 ≤ b2 ∧ b2 ≤ 32) ∧ (-80000000000000000 ≤ t2 ∧ t2 ≤ 80000000000000000)), K 2 [some (.ref 13), some (.int (ii (i : Int))), l2, l3, none, l5, none] [] (N, S, h') := by
    refine dn (fun i hi ih2 => ?_)
    intro l2 l3 l5 h' s2 t2 b2 c13 hf hB2 hbd
    have c24 := (hf 24 (by decide)).trans c24
    have c25 := (hf 25 (by decide)).trans c25
    have c26 := (hf 26 (by decide)).trans c26
    have c27 := (hf 27 (by decide)).trans c27
    refine hK _ _ _ _ ?_
    refine s_iload_n rfl (cn rfl) rfl ?_
    refine s_aload_n rfl (cn rfl) rfl ?_
    refine s_getfield rfl (cn rfl) c13 rfl ?_
    refine s_icmp_ge rfl (cn rfl) (cn rfl) ⟨by omega, by omega⟩ ⟨by omega, by omega⟩ (fun q5 => ?_) (fun q5 => ?_)
    · refine s_return rfl ?_
      first
        | exact ⟨rfl, h', s2, t2, b2, rfl, hf, c13, by rw [show oc = i by omega] at hB2 ⊢; exact hB2, hbd⟩
        | (have hz2 := hz (by omega)
           refine ⟨rfl, h', s2, t2, b2, rfl, hf, c13, BP_cg hB2 (fun s t b => or_congr_right ⟨fun ⟨k, m, k1, k2, k3, k4⟩ => ⟨k, m, k1, k2, by omega, k4⟩, fun ⟨k, m, k1, k2, k3, k4, k5, k6⟩ => ?_⟩), hbd⟩
           exfalso
           unfold pl_dt at k5
           rw [(hz2 k (by omega)).1, (hz2 k (by omega)).2] at k5
           simp at k5)
    · refine s_aload_n rfl (cn rfl) rfl ?_
      refine s_getfield rfl (cn rfl) c13 rfl ?_
      refine s_if_le rfl (cn rfl) (cn rfl) ⟨by omega, by omega⟩ (fun q8 => ?_) (fun q8 => ?_)
      · refine s_return rfl ?_
        first
          | exact ⟨rfl, h', s2, t2, b2, rfl, hf, c13, by rw [show oc = i by omega] at hB2 ⊢; exact hB2, hbd⟩
          | (have hz2 := hz (by omega)
             refine ⟨rfl, h', s2, t2, b2, rfl, hf, c13, BP_cg hB2 (fun s t b => or_congr_right ⟨fun ⟨k, m, k1, k2, k3, k4⟩ => ⟨k, m, k1, k2, by omega, k4⟩, fun ⟨k, m, k1, k2, k3, k4, k5, k6⟩ => ?_⟩), hbd⟩
             exfalso
             unfold pl_dt at k5
             rw [(hz2 k (by omega)).1, (hz2 k (by omega)).2] at k5
             simp at k5)
      · refine s_iload_n rfl (cn rfl) rfl ?_
        refine s_iconst rfl (cn rfl) ?_
        refine s_iadd rfl (cn rfl) ?_
        refine s_istore_n rfl (ch rfl) ?_
        have lp13 : ∀ j : Nat, j ≤ oc → ∀ (l3 l5 : Option Value) (hj1 : i + 1 ≤ j) (h' : Nat → Option rr_E) (s2 : Nat) (t2 b2 : Int) (c13 : h' 13 = some (ST13 ku wc op (oc : Int) (s2 : Int) t2 b2)) (hf : fr [13] h h') (hB2 : BP (fun s t b => P0 s t b ∨ R2 oc i j pt xa xc xh s t b) s2 t2 b2) (hbd : (0 ≤ b2 ∧ b2 ≤ 32) ∧ (-80000000000000000 ≤ t2 ∧ t2 ≤ 80000000000000000)), K 13 [some (.ref 13), some (.int (ii (i : Int))), some (.int (ii (j : Int))), l3, none, l5, none] [] (N, S, h') := by
          refine dn (fun j hj ih13 => ?_)
          intro l3 l5 hj1 h' s2 t2 b2 c13 hf hB2 hbd
          have c24 := (hf 24 (by decide)).trans c24o
          have c25 := (hf 25 (by decide)).trans c25o
          have c26 := (hf 26 (by decide)).trans c26o
          have c27 := (hf 27 (by decide)).trans c27o
          refine hK _ _ _ _ ?_
          refine s_iload_n rfl (cn rfl) rfl ?_
          refine s_aload_n rfl (cn rfl) rfl ?_
          refine s_getfield rfl (cn rfl) c13 rfl ?_
          refine s_icmp_ge rfl (cn rfl) (cn rfl) ⟨by omega, by omega⟩ ⟨by omega, by omega⟩ (fun q16 => ?_) (fun q16 => ?_)
          · refine s_iinc rfl (cn rfl) rfl ?_
            refine s_goto rfl (ch rfl) ?_
            exact ih2 (by omega) _ _ _ _ s2 t2 b2 c13 hf (BP_cg hB2 (fun s t b => or_congr_right ⟨fun ⟨k, m, k1, k2, k3, k4⟩ => ⟨k, m, k1, k2, by omega, k4⟩, fun ⟨k, m, k1, k2, k3, k4⟩ => ⟨k, m, k1, k2, by omega, k4⟩⟩)) hbd
          · have a1 := hxa i (by omega)
            have a2 := hxa j (by omega)
            have a3 := hxc i (by omega)
            have a4 := hxc j (by omega)
            have m1 := ab_mul (x := xa i) (y := xc j) (a := 8) (b := 8) (by omega) (by omega) (by decide) (by decide)
            have m2 := ab_mul (x := xc i) (y := xa j) (a := 8) (b := 8) (by omega) (by omega) (by decide) (by decide)
            have m3 := ab_mul (x := xa i) (y := xa j) (a := 8) (b := 8) (by omega) (by omega) (by decide) (by decide)
            have m4 := ab_mul (x := xc i) (y := xc j) (a := 8) (b := 8) (by omega) (by omega) (by decide) (by decide)
            have ecr : pl_cr xa xc i j = xa i * xc j - xc i * xa j := rfl
            have edt : pl_dt xa xc i j = xa i * xa j + xc i * xc j := rfl
            have pi := hp i (by omega)
            have pj := hp j (by omega)
            refine s_aload_n rfl (cn rfl) rfl ?_
            refine s_iload_n rfl (cn rfl) rfl ?_
            refine s_iload_n rfl (cn rfl) rfl ?_
            refine s_virt rfl (cn rfl) rfl rfl c13 rfl (v_turn_13 c13 c25 c26 (by omega) (by omega)) ?_
            rintro _ _ ⟨rfl, rfl⟩
            refine s_lconst rfl (cn rfl) 0 (by decide) ?_
            refine s_lcmp rfl (cn rfl) ?_
            refine s_ifl_ne rfl (cn rfl) (cn rfl) ⟨by omega, by omega⟩ ⟨by omega, by omega⟩ (fun q23 => ?_) (fun q23 => ?_)
            · refine s_iinc rfl (cn rfl) rfl ?_
              refine s_goto rfl (ch rfl) ?_
              exact ih13 (by omega) _ _ (by omega) _ s2 t2 b2 c13 hf (BP_cg hB2 (fun s t b => or_congr_right ⟨fun ⟨k, m, k1, k2, k3, k4⟩ => ⟨k, m, k1, k2, by omega, k4⟩, fun ⟨k, m, k1, k2, k3, k4, k5, k6⟩ => ⟨k, m, k1, k2, by
                  by_cases e : k = i ∧ m = j
                  · obtain ⟨rfl, rfl⟩ := e; exact absurd k4 q23
                  · omega, k4, k5, k6⟩⟩)) hbd
            · refine s_aload_n rfl (cn rfl) rfl ?_
              refine s_getfield rfl (cn rfl) c13 rfl ?_
              refine s_iload_n rfl (cn rfl) rfl ?_
              refine s_laload rfl (cn rfl) _ rfl c25 (by omega) (by decide) rfl ?_
              refine s_aload_n rfl (cn rfl) rfl ?_
              refine s_getfield rfl (cn rfl) c13 rfl ?_
              refine s_iload_n rfl (cn rfl) rfl ?_
              refine s_laload rfl (cn rfl) _ rfl c25 (by omega) (by decide) rfl ?_
              refine s_lmul rfl (cn rfl) ?_
              refine s_aload_n rfl (cn rfl) rfl ?_
              refine s_getfield rfl (cn rfl) c13 rfl ?_
              refine s_iload_n rfl (cn rfl) rfl ?_
              refine s_laload rfl (cn rfl) _ rfl c26 (by omega) (by decide) rfl ?_
              refine s_aload_n rfl (cn rfl) rfl ?_
              refine s_getfield rfl (cn rfl) c13 rfl ?_
              refine s_iload_n rfl (cn rfl) rfl ?_
              refine s_laload rfl (cn rfl) _ rfl c26 (by omega) (by decide) rfl ?_
              refine s_lmul rfl (cn rfl) ?_
              refine s_ladd rfl (cn rfl) ?_
              refine s_lconst rfl (cn rfl) 0 (by decide) ?_
              refine s_lcmp rfl (cn rfl) ?_
              refine s_ifl_ge rfl (cn rfl) (cn rfl) ⟨by omega, by omega⟩ ⟨by omega, by omega⟩ (fun q45 => ?_) (fun q45 => ?_)
              · refine s_iinc rfl (cn rfl) rfl ?_
                refine s_goto rfl (ch rfl) ?_
                exact ih13 (by omega) _ _ (by omega) _ s2 t2 b2 c13 hf (BP_cg hB2 (fun s t b => or_congr_right ⟨fun ⟨k, m, k1, k2, k3, k4⟩ => ⟨k, m, k1, k2, by omega, k4⟩, fun ⟨k, m, k1, k2, k3, k4, k5, k6⟩ => ⟨k, m, k1, k2, by
                    by_cases e : k = i ∧ m = j
                    · obtain ⟨rfl, rfl⟩ := e; omega
                    · omega, k4, k5, k6⟩⟩)) hbd
              · have n1 := ab1_b (a := 8) a1
                have n2 := ab1_b (a := 8) a2
                have n3 := ab1_b (a := 8) a3
                have n4 := ab1_b (a := 8) a4
                have h1 := hh i (by omega)
                have h2 := hh j (by omega)
                have o1 := ab_mul (x := ab1 (xa j) + ab1 (xc j)) (y := xh i) (a := 16) (b := 2000000000000000) (by omega) (by omega) (by decide) (by decide)
                have o2 := ab_mul (x := ab1 (xa i) + ab1 (xc i)) (y := xh j) (a := 16) (b := 2000000000000000) (by omega) (by omega) (by decide) (by decide)
                have o3 := ab_mul (x := (ab1 (xa j) + ab1 (xc j)) * xh i + (ab1 (xa i) + ab1 (xc i)) * xh j) (y := b2) (a := 64000000000000000) (b := 32) (by omega) (by omega) (by decide) (by decide)
                have o4 := ab_mul (x := t2) (y := (ab1 (xa j) + ab1 (xc j)) + (ab1 (xa i) + ab1 (xc i))) (a := 80000000000000000) (b := 32) (by omega) (by omega) (by decide) (by decide)
                have pos : 0 < (ab1 (xa j) + ab1 (xc j)) + (ab1 (xa i) + ab1 (xc i)) := by
                  by_cases z : (ab1 (xa j) + ab1 (xc j)) + (ab1 (xa i) + ab1 (xc i)) = 0
                  · have z1 : xa i = 0 := ab1_0.mp (by omega)
                    have z2 : xc i = 0 := ab1_0.mp (by omega)
                    rw [z1, z2] at q45
                    omega
                  · omega
                refine s_aload_n rfl (cn rfl) rfl ?_
                refine s_getfield rfl (cn rfl) c13 rfl ?_
                refine s_iload_n rfl (cn rfl) rfl ?_
                refine s_laload rfl (cn rfl) _ rfl c25 (by omega) (by decide) rfl ?_
                refine s_abs rfl (cn rfl) rfl ⟨by omega, by omega⟩ ?_
                refine s_aload_n rfl (cn rfl) rfl ?_
                refine s_getfield rfl (cn rfl) c13 rfl ?_
                refine s_iload_n rfl (cn rfl) rfl ?_
                refine s_laload rfl (cn rfl) _ rfl c26 (by omega) (by decide) rfl ?_
                refine s_abs rfl (cn rfl) rfl ⟨by omega, by omega⟩ ?_
                refine s_ladd rfl (cn rfl) ?_
                refine s_lstore_n rfl (cn rfl) ?_
                refine s_aload_n rfl (cn rfl) rfl ?_
                refine s_getfield rfl (cn rfl) c13 rfl ?_
                refine s_iload_n rfl (cn rfl) rfl ?_
                refine s_laload rfl (cn rfl) _ rfl c25 (by omega) (by decide) rfl ?_
                refine s_abs rfl (cn rfl) rfl ⟨by omega, by omega⟩ ?_
                refine s_aload_n rfl (cn rfl) rfl ?_
                refine s_getfield rfl (cn rfl) c13 rfl ?_
                refine s_iload_n rfl (cn rfl) rfl ?_
                refine s_laload rfl (cn rfl) _ rfl c26 (by omega) (by decide) rfl ?_
                refine s_abs rfl (cn rfl) rfl ⟨by omega, by omega⟩ ?_
                refine s_ladd rfl (cn rfl) ?_
                refine s_lstore rfl (cn rfl) ?_
                refine s_aload_n rfl (cn rfl) rfl ?_
                refine s_iconst rfl (cn rfl) ?_
                refine s_aload_n rfl (cn rfl) rfl ?_
                refine s_getfield rfl (cn rfl) c13 rfl ?_
                refine s_iload_n rfl (cn rfl) rfl ?_
                refine s_iaload rfl (cn rfl) _ rfl c24 rfl (by omega) (by decide) (congrArg ii (hq i (by omega))) ?_
                refine s_ishl rfl (cn rfl) _ (bi_shl1 (by omega)) ?_
                refine s_iconst rfl (cn rfl) ?_
                refine s_aload_n rfl (cn rfl) rfl ?_
                refine s_getfield rfl (cn rfl) c13 rfl ?_
                refine s_iload_n rfl (cn rfl) rfl ?_
                refine s_iaload rfl (cn rfl) _ rfl c24 rfl (by omega) (by decide) (congrArg ii (hq j (by omega))) ?_
                refine s_ishl rfl (cn rfl) _ (bi_shl1 (by omega)) ?_
                refine s_ior rfl (cn rfl) _ (bi_or _ _) ?_
                refine s_lload_n rfl (cn rfl) rfl ?_
                refine s_aload_n rfl (cn rfl) rfl ?_
                refine s_getfield rfl (cn rfl) c13 rfl ?_
                refine s_iload_n rfl (cn rfl) rfl ?_
                refine s_laload rfl (cn rfl) _ rfl c27 (by omega) (by decide) rfl ?_
                refine s_lmul rfl (cn rfl) ?_
                refine s_lload rfl (cn rfl) rfl ?_
                refine s_aload_n rfl (cn rfl) rfl ?_
                refine s_getfield rfl (cn rfl) c13 rfl ?_
                refine s_iload_n rfl (cn rfl) rfl ?_
                refine s_laload rfl (cn rfl) _ rfl c27 (by omega) (by decide) rfl ?_
                refine s_lmul rfl (cn rfl) ?_
                refine s_ladd rfl (cn rfl) ?_
                refine s_lload_n rfl (cn rfl) rfl ?_
                refine s_lload rfl (cn rfl) rfl ?_
                refine s_ladd rfl (cn rfl) ?_
                refine s_virt rfl (cn rfl) rfl rfl c13 rfl (v_offer_13 (s0 := 2 ^ pt i ||| 2 ^ pt j) c13 (t0 := (ab1 (xa j) + ab1 (xc j)) * xh i + (ab1 (xa i) + ab1 (xc i)) * xh j) (b0 := (ab1 (xa j) + ab1 (xc j)) + (ab1 (xa i) + ab1 (xc i))) (by omega) (by omega) (by omega)) ?_
                rintro _ _ ⟨rfl, h3, s3, t3, b3, rfl, hf3, d13, hn3, he3, hl3⟩
                have hB3 := BP_s hB2 pos hn3 he3 hl3
                refine s_iinc rfl (cn rfl) rfl ?_
                refine s_goto rfl (ch rfl) ?_
                exact ih13 (by omega) _ _ (by omega) _ s3 t3 b3 d13 (fr_t hf hf3 (by decide)) (BP_cg hB3 (fun s t b => ⟨fun q => by
                    rcases q with (q | ⟨k, m, k1, k2, k3, k4⟩) | ⟨rfl, rfl, rfl⟩
                    · exact Or.inl q
                    · exact Or.inr ⟨k, m, k1, k2, by omega, k4⟩
                    · exact Or.inr ⟨i, j, by omega, by omega, by omega, q23, by omega, rfl, rfl, rfl⟩, fun q => by
                    rcases q with q | ⟨k, m, k1, k2, k3, k4, k5, rfl, rfl, rfl⟩
                    · exact Or.inl (Or.inl q)
                    · by_cases e : k = i ∧ m = j
                      · obtain ⟨rfl, rfl⟩ := e; exact Or.inr ⟨rfl, rfl, rfl⟩
                      · exact Or.inl (Or.inr ⟨k, m, k1, k2, by omega, k4, k5, rfl, rfl, rfl⟩)⟩)) (by omega)
        exact lp13 (i + 1) (by omega) _ _ (Nat.le_refl _) _ s2 t2 b2 c13 hf (BP_cg hB2 (fun s t b => or_congr_right ⟨fun ⟨k, m, k1, k2, k3, k4⟩ => ⟨k, m, k1, k2, by omega, k4⟩, fun ⟨k, m, k1, k2, k3, k4⟩ => ⟨k, m, k1, k2, by omega, k4⟩⟩)) hbd
  exact lp2 0 (by omega) _ _ _ _ s bt bb c13 fr_r (BP_cg hB (fun s t b => ⟨Or.inl, fun q => q.resolve_right (fun ⟨k, m, k1, k2, k3, _⟩ => absurd k3 (by omega))⟩)) hbd0
theorem v_gather_28 {d N S n : Nat} {v : Nat → Int} {h : Nat → Option rr_E} (hn : 2 ≤ n ∧ n ≤ 4) (c5 : h 5 = some (.inr (0, [.int (ii (n : Int)), .ref 6]))) (c6 : h 6 = some (.inl (0, 16, .inl (fun k => ii (v k))))) (hv : ∀ k, -999 ≤ v k ∧ v k ≤ 999) {ku oc0 bs bt bb : Int} {wc op : Nat} (hwc : wc ≤ 3) (hop : op < 32768) (c28 : h 28 = some (ST28 ku (wc : Int) (op : Int) oc0 bs bt bb)) {W : Nat → Nat → Int} (c35 : h 35 = some WA28) (cw : ∀ w, w < 3 → h (36 + w) = some (.inl (1, 4, .inr (.inl (fun k => jj (W w k)))))) {be x y : Int} {A : Nat → Int} (c32 : h 32 = some (.inr (3, [.long (jj be), .ref 33, .ref 34, .int (ii x), .int (ii y)]))) (c33 : h 33 = some (.inl (1, 4, .inr (.inl (fun k => jj (A k)))))) {p0 a0 c0 h0 : Nat → Int} (c39 : h 39 = some (.inl (0, 14, .inl (fun k => ii (p0 k))))) (c40 : h 40 = some (.inl (1, 14, .inr (.inl (fun k => jj (a0 k)))))) (c41 : h 41 = some (.inl (1, 14, .inr (.inl (fun k => jj (c0 k)))))) (c42 : h 42 = some (.inl (1, 14, .inr (.inl (fun k => jj (h0 k)))))) : rr_Calls (d + 2) j_Stages_gatherOpen [.ref 28, .ref 5] (N, S, h) (fun r R => r = none ∧ ∃ (h' : Nat → Option rr_E) (oc : Nat) (pt : Nat → Nat) (xa xc xh : Nat → Int), R = (N, S, h') ∧ fr [28, 39, 40, 41, 42] h h' ∧ h' 28 = some (ST28 ku (wc : Int) (op : Int) (oc : Int) bs bt 0) ∧ (∃ q0 : Nat → Int, h' 39 = some (.inl (0, 14, .inl (fun k => ii (q0 k)))) ∧ ∀ k, k < oc → q0 k = ((pt k : Nat) : Int)) ∧ h' 40 = some (.inl (1, 14, .inr (.inl (fun k => jj (xa k))))) ∧ h' 41 = some (.inl (1, 14, .inr (.inl (fun k => jj (xc k))))) ∧ h' 42 = some (.inl (1, 14, .inr (.inl (fun k => jj (xh k))))) ∧ oc ≤ 14 ∧ gth n wc v A be W op (al n) oc pt xa xc xh) := by
  refine rr_meth (C := K_Stages_gatherOpen) (hd := h_Stages_gatherOpen) (mx := 3) rfl rfl (fun K hK => ?_)
  have hA := al_b hn
  refine hK _ _ _ _ ?_
  refine s_aload_n rfl (cn rfl) rfl ?_
  refine s_iconst rfl (cn rfl) ?_
  refine s_puti rfl (cn rfl) rfl c28 rfl ?_
  refine s_iconst rfl (cn rfl) ?_
  refine s_istore_n rfl (ch rfl) ?_
  have lp5 : ∀ g : Nat, g ≤ al n → ∀ (h' : Nat → Option rr_E) (oc : Nat) (q0 xa xc xh : Nat → Int) (pt : Nat → Nat) (h1 : 1 ≤ g) (hoc : oc + 1 ≤ g) (c28 : h' 28 = some (ST28 ku (wc : Int) (op : Int) (oc : Int) bs bt bb)) (c39 : h' 39 = some (.inl (0, 14, .inl (fun k => ii (q0 k))))) (c40 : h' 40 = some (.inl (1, 14, .inr (.inl (fun k => jj (xa k)))))) (c41 : h' 41 = some (.inl (1, 14, .inr (.inl (fun k => jj (xc k)))))) (c42 : h' 42 = some (.inl (1, 14, .inr (.inl (fun k => jj (xh k)))))) (hq : ∀ k, k < oc → q0 k = ((pt k : Nat) : Int)) (hf : fr [28, 39, 40, 41, 42] h h') (hg : gth n wc v A be W op g oc pt xa xc xh), K 5 [some (.ref 28), some (.ref 5), some (.int (ii (g : Int)))] [] (N, S, h') := by
    refine dn (fun g hg ih5 => ?_)
    intro h' oc q0 xa xc xh pt h1 hoc c28 c39 c40 c41 c42 hq hf hg
    have c5 := (hf 5 (by decide)).trans c5
    have c6 := (hf 6 (by decide)).trans c6
    have c35 := (hf 35 (by decide)).trans c35
    have c32 := (hf 32 (by decide)).trans c32
    have c33 := (hf 33 (by decide)).trans c33
    have cw : ∀ w, w < 3 → h' (36 + w) = some (.inl (1, 4, .inr (.inl (fun k => jj (W w k))))) := fun w hw => (hf (36 + w) (by simp; omega)).trans (cw w hw)
    have hvg := hv g
    refine hK _ _ _ _ ?_
    refine s_iload_n rfl (cn rfl) rfl ?_
    refine s_aload_n rfl (cn rfl) rfl ?_
    refine s_virt rfl (cn rfl) rfl rfl c5 rfl (u_all_5 hn c5) ?_
    rintro _ _ ⟨rfl, rfl⟩
    refine s_icmp_ge rfl (cn rfl) (cn rfl) ⟨by omega, by omega⟩ ⟨by omega, by omega⟩ (fun q8 => ?_) (fun q8 => ?_)
    · refine s_aload_n rfl (cn rfl) rfl ?_
      refine s_lconst rfl (cn rfl) 0 (by decide) ?_
      refine s_putl rfl (cn rfl) rfl c28 rfl ?_
      refine s_return rfl ?_
      exact ⟨rfl, _, oc, pt, xa, xc, xh, rfl, fr_s (by decide) hf, rr_set_eq, ⟨_, c39, hq⟩, c40, c41, c42, by omega, by rw [show al n = g by omega]; exact hg⟩
    · refine s_aload_n rfl (cn rfl) rfl ?_
      refine s_getfield rfl (cn rfl) c28 rfl ?_
      refine s_bipush rfl (cn rfl) (by decide) ?_
      refine s_icmp_ge rfl (cn rfl) (cn rfl) ⟨by omega, by omega⟩ ⟨by omega, by omega⟩ (fun q12 => ?_) (fun q12 => ?_)
      · omega
      · refine s_aload_n rfl (cn rfl) rfl ?_
        refine s_getfield rfl (cn rfl) c28 rfl ?_
        refine s_iload_n rfl (cn rfl) rfl ?_
        refine s_ishr rfl (cn rfl) ?_
        refine s_iconst rfl (cn rfl) ?_
        refine s_iand rfl (cn rfl) _ (bi_bit (by omega) (by omega)) ?_
        refine s_iconst rfl (cn rfl) ?_
        refine s_icmp_ne rfl (cn rfl) (cn rfl) (bt_b3 _ _) (by decide) (fun q20 => ?_) (fun q20 => ?_)
        · refine s_iinc rfl (cn rfl) rfl ?_
          refine s_goto rfl (ch rfl) ?_
          exact ih5 (by omega) _ oc _ _ _ _ pt (by omega) (by omega) c28 c39 c40 c41 c42 hq hf (gth_n hg (fun q => q20 (bt_1.mpr q)))
        · refine s_aload_n rfl (cn rfl) rfl ?_
          refine s_getfield rfl (cn rfl) c28 rfl ?_
          refine s_aload_n rfl (cn rfl) rfl ?_
          refine s_getfield rfl (cn rfl) c28 rfl ?_
          refine s_iload_n rfl (cn rfl) rfl ?_
          refine s_iastore rfl (cn rfl) _ rfl c39 (by omega) (by decide) ?_
          refine s_aload_n rfl (cn rfl) rfl ?_
          refine s_getfield rfl (cn rfl) c28 rfl ?_
          refine s_aload_n rfl (cn rfl) rfl ?_
          refine s_getfield rfl (cn rfl) c28 rfl ?_
          refine s_aload_n rfl (cn rfl) rfl ?_
          refine s_getfield rfl (cn rfl) c28 rfl ?_
          refine s_if_le rfl (cn rfl) (cn rfl) ⟨by omega, by omega⟩ (fun q33 => ?_) (fun q33 => ?_)
          · refine s_lconst rfl (cn rfl) 0 (by decide) ?_
            refine s_lastore rfl (cn rfl) _ rfl c40 (by omega) (by decide) ?_
            refine s_aload_n rfl (cn rfl) rfl ?_
            refine s_getfield rfl (cn rfl) c28 rfl ?_
            refine s_aload_n rfl (cn rfl) rfl ?_
            refine s_getfield rfl (cn rfl) c28 rfl ?_
            refine s_aload_n rfl (cn rfl) rfl ?_
            refine s_getfield rfl (cn rfl) c28 rfl ?_
            refine s_iconst rfl (cn rfl) ?_
            refine s_icmp_le rfl (cn rfl) (cn rfl) ⟨by omega, by omega⟩ ⟨by omega, by omega⟩ (fun q48 => ?_) (fun q48 => ?_)
            · refine s_lconst rfl (cn rfl) 0 (by decide) ?_
              refine s_lastore rfl (cn rfl) _ rfl c41 (by omega) (by decide) ?_
              refine s_aload_n rfl (cn rfl) rfl ?_
              refine s_getfield rfl (cn rfl) c28 rfl ?_
              refine s_aload_n rfl (cn rfl) rfl ?_
              refine s_getfield rfl (cn rfl) c28 rfl ?_
              refine s_aload_n rfl (cn rfl) rfl ?_
              refine s_getfield rfl (cn rfl) c5 rfl ?_
              refine s_iload_n rfl (cn rfl) rfl ?_
              refine s_iaload rfl (cn rfl) _ rfl c6 rfl (by omega) (by decide) rfl ?_
              refine s_i2l rfl (cn rfl) ⟨by omega, by omega⟩ ?_
              refine s_aload_n rfl (cn rfl) rfl ?_
              refine s_getfield rfl (cn rfl) c28 rfl ?_
              refine s_getfield rfl (cn rfl) c32 rfl ?_
              refine s_lmul rfl (cn rfl) ?_
              refine s_aload_n rfl (cn rfl) rfl ?_
              refine s_getfield rfl (cn rfl) c28 rfl ?_
              refine s_iload_n rfl (cn rfl) rfl ?_
              refine s_virt rfl (cn rfl) rfl rfl c32 rfl (u_sumOf_32 (by exact c32) (by exact c33) (by omega)) ?_
              rintro _ _ ⟨rfl, rfl⟩
              refine s_lsub rfl (cn rfl) ?_
              refine s_lastore rfl (cn rfl) _ rfl c42 (by omega) (by decide) ?_
              refine s_aload_n rfl (cn rfl) rfl ?_
              refine s_dupr rfl (cn rfl) ?_
              refine s_getfield rfl (cn rfl) c28 rfl ?_
              refine s_iconst rfl (cn rfl) ?_
              refine s_iadd rfl (cn rfl) ?_
              refine s_puti rfl (cn rfl) rfl c28 rfl ?_
              refine s_iinc rfl (cn rfl) rfl ?_
              refine s_goto rfl (ch rfl) ?_
              exact ih5 (by omega) _ (oc + 1) _ _ _ _ (pu pt oc g) (by omega) (by omega) rr_set_eq rfl rfl rfl rfl (fun k hk => by
                  by_cases e : k = oc
                  · subst e; rw [fu_s, pu_s]
                  · rw [fu_n e, pu_n e]; exact hq k (by omega)) (fr_s (by decide) (fr_s (by decide) (fr_s (by decide) (fr_s (by decide) (fr_s (by decide) hf))))) (gth_y hg h1 (bt_1.mp q20) (by rw [if_neg (by omega)]) (by rw [if_neg (by omega)]) rfl)
            · refine s_aload_n rfl (cn rfl) rfl ?_
              refine s_iconst rfl (cn rfl) ?_
              refine s_iload_n rfl (cn rfl) rfl ?_
              refine s_virt rfl (cn rfl) rfl rfl c28 rfl (v_goes_28 (W := W) (w := 1) (by exact c28) (by exact c35) (by intro w hw; first | exact cw w hw | (rw [rr_set_ne (by omega)]; exact cw w hw) | (rw [rr_set_ne (by omega), rr_set_ne (by omega)]; exact cw w hw)) (by decide) (by omega)) ?_
              rintro _ _ ⟨rfl, rfl⟩
              refine s_goto rfl (cn rfl) ?_
              refine s_lastore rfl (cn rfl) _ rfl c41 (by omega) (by decide) ?_
              refine s_aload_n rfl (cn rfl) rfl ?_
              refine s_getfield rfl (cn rfl) c28 rfl ?_
              refine s_aload_n rfl (cn rfl) rfl ?_
              refine s_getfield rfl (cn rfl) c28 rfl ?_
              refine s_aload_n rfl (cn rfl) rfl ?_
              refine s_getfield rfl (cn rfl) c5 rfl ?_
              refine s_iload_n rfl (cn rfl) rfl ?_
              refine s_iaload rfl (cn rfl) _ rfl c6 rfl (by omega) (by decide) rfl ?_
              refine s_i2l rfl (cn rfl) ⟨by omega, by omega⟩ ?_
              refine s_aload_n rfl (cn rfl) rfl ?_
              refine s_getfield rfl (cn rfl) c28 rfl ?_
              refine s_getfield rfl (cn rfl) c32 rfl ?_
              refine s_lmul rfl (cn rfl) ?_
              refine s_aload_n rfl (cn rfl) rfl ?_
              refine s_getfield rfl (cn rfl) c28 rfl ?_
              refine s_iload_n rfl (cn rfl) rfl ?_
              refine s_virt rfl (cn rfl) rfl rfl c32 rfl (u_sumOf_32 (by exact c32) (by exact c33) (by omega)) ?_
              rintro _ _ ⟨rfl, rfl⟩
              refine s_lsub rfl (cn rfl) ?_
              refine s_lastore rfl (cn rfl) _ rfl c42 (by omega) (by decide) ?_
              refine s_aload_n rfl (cn rfl) rfl ?_
              refine s_dupr rfl (cn rfl) ?_
              refine s_getfield rfl (cn rfl) c28 rfl ?_
              refine s_iconst rfl (cn rfl) ?_
              refine s_iadd rfl (cn rfl) ?_
              refine s_puti rfl (cn rfl) rfl c28 rfl ?_
              refine s_iinc rfl (cn rfl) rfl ?_
              refine s_goto rfl (ch rfl) ?_
              exact ih5 (by omega) _ (oc + 1) _ _ _ _ (pu pt oc g) (by omega) (by omega) rr_set_eq rfl rfl rfl rfl (fun k hk => by
                  by_cases e : k = oc
                  · subst e; rw [fu_s, pu_s]
                  · rw [fu_n e, pu_n e]; exact hq k (by omega)) (fr_s (by decide) (fr_s (by decide) (fr_s (by decide) (fr_s (by decide) (fr_s (by decide) hf))))) (gth_y hg h1 (bt_1.mp q20) (by rw [if_neg (by omega)]) (by rw [if_pos (by omega)]) rfl)
          · refine s_aload_n rfl (cn rfl) rfl ?_
            refine s_iconst rfl (cn rfl) ?_
            refine s_iload_n rfl (cn rfl) rfl ?_
            refine s_virt rfl (cn rfl) rfl rfl c28 rfl (v_goes_28 (W := W) (w := 0) (by exact c28) (by exact c35) (by intro w hw; first | exact cw w hw | (rw [rr_set_ne (by omega)]; exact cw w hw) | (rw [rr_set_ne (by omega), rr_set_ne (by omega)]; exact cw w hw)) (by decide) (by omega)) ?_
            rintro _ _ ⟨rfl, rfl⟩
            refine s_goto rfl (cn rfl) ?_
            refine s_lastore rfl (cn rfl) _ rfl c40 (by omega) (by decide) ?_
            refine s_aload_n rfl (cn rfl) rfl ?_
            refine s_getfield rfl (cn rfl) c28 rfl ?_
            refine s_aload_n rfl (cn rfl) rfl ?_
            refine s_getfield rfl (cn rfl) c28 rfl ?_
            refine s_aload_n rfl (cn rfl) rfl ?_
            refine s_getfield rfl (cn rfl) c28 rfl ?_
            refine s_iconst rfl (cn rfl) ?_
            refine s_icmp_le rfl (cn rfl) (cn rfl) ⟨by omega, by omega⟩ ⟨by omega, by omega⟩ (fun q48 => ?_) (fun q48 => ?_)
            · refine s_lconst rfl (cn rfl) 0 (by decide) ?_
              refine s_lastore rfl (cn rfl) _ rfl c41 (by omega) (by decide) ?_
              refine s_aload_n rfl (cn rfl) rfl ?_
              refine s_getfield rfl (cn rfl) c28 rfl ?_
              refine s_aload_n rfl (cn rfl) rfl ?_
              refine s_getfield rfl (cn rfl) c28 rfl ?_
              refine s_aload_n rfl (cn rfl) rfl ?_
              refine s_getfield rfl (cn rfl) c5 rfl ?_
              refine s_iload_n rfl (cn rfl) rfl ?_
              refine s_iaload rfl (cn rfl) _ rfl c6 rfl (by omega) (by decide) rfl ?_
              refine s_i2l rfl (cn rfl) ⟨by omega, by omega⟩ ?_
              refine s_aload_n rfl (cn rfl) rfl ?_
              refine s_getfield rfl (cn rfl) c28 rfl ?_
              refine s_getfield rfl (cn rfl) c32 rfl ?_
              refine s_lmul rfl (cn rfl) ?_
              refine s_aload_n rfl (cn rfl) rfl ?_
              refine s_getfield rfl (cn rfl) c28 rfl ?_
              refine s_iload_n rfl (cn rfl) rfl ?_
              refine s_virt rfl (cn rfl) rfl rfl c32 rfl (u_sumOf_32 (by exact c32) (by exact c33) (by omega)) ?_
              rintro _ _ ⟨rfl, rfl⟩
              refine s_lsub rfl (cn rfl) ?_
              refine s_lastore rfl (cn rfl) _ rfl c42 (by omega) (by decide) ?_
              refine s_aload_n rfl (cn rfl) rfl ?_
              refine s_dupr rfl (cn rfl) ?_
              refine s_getfield rfl (cn rfl) c28 rfl ?_
              refine s_iconst rfl (cn rfl) ?_
              refine s_iadd rfl (cn rfl) ?_
              refine s_puti rfl (cn rfl) rfl c28 rfl ?_
              refine s_iinc rfl (cn rfl) rfl ?_
              refine s_goto rfl (ch rfl) ?_
              exact ih5 (by omega) _ (oc + 1) _ _ _ _ (pu pt oc g) (by omega) (by omega) rr_set_eq rfl rfl rfl rfl (fun k hk => by
                  by_cases e : k = oc
                  · subst e; rw [fu_s, pu_s]
                  · rw [fu_n e, pu_n e]; exact hq k (by omega)) (fr_s (by decide) (fr_s (by decide) (fr_s (by decide) (fr_s (by decide) (fr_s (by decide) hf))))) (gth_y hg h1 (bt_1.mp q20) (by rw [if_pos (by omega)]) (by rw [if_neg (by omega)]) rfl)
            · refine s_aload_n rfl (cn rfl) rfl ?_
              refine s_iconst rfl (cn rfl) ?_
              refine s_iload_n rfl (cn rfl) rfl ?_
              refine s_virt rfl (cn rfl) rfl rfl c28 rfl (v_goes_28 (W := W) (w := 1) (by exact c28) (by exact c35) (by intro w hw; first | exact cw w hw | (rw [rr_set_ne (by omega)]; exact cw w hw) | (rw [rr_set_ne (by omega), rr_set_ne (by omega)]; exact cw w hw)) (by decide) (by omega)) ?_
              rintro _ _ ⟨rfl, rfl⟩
              refine s_goto rfl (cn rfl) ?_
              refine s_lastore rfl (cn rfl) _ rfl c41 (by omega) (by decide) ?_
              refine s_aload_n rfl (cn rfl) rfl ?_
              refine s_getfield rfl (cn rfl) c28 rfl ?_
              refine s_aload_n rfl (cn rfl) rfl ?_
              refine s_getfield rfl (cn rfl) c28 rfl ?_
              refine s_aload_n rfl (cn rfl) rfl ?_
              refine s_getfield rfl (cn rfl) c5 rfl ?_
              refine s_iload_n rfl (cn rfl) rfl ?_
              refine s_iaload rfl (cn rfl) _ rfl c6 rfl (by omega) (by decide) rfl ?_
              refine s_i2l rfl (cn rfl) ⟨by omega, by omega⟩ ?_
              refine s_aload_n rfl (cn rfl) rfl ?_
              refine s_getfield rfl (cn rfl) c28 rfl ?_
              refine s_getfield rfl (cn rfl) c32 rfl ?_
              refine s_lmul rfl (cn rfl) ?_
              refine s_aload_n rfl (cn rfl) rfl ?_
              refine s_getfield rfl (cn rfl) c28 rfl ?_
              refine s_iload_n rfl (cn rfl) rfl ?_
              refine s_virt rfl (cn rfl) rfl rfl c32 rfl (u_sumOf_32 (by exact c32) (by exact c33) (by omega)) ?_
              rintro _ _ ⟨rfl, rfl⟩
              refine s_lsub rfl (cn rfl) ?_
              refine s_lastore rfl (cn rfl) _ rfl c42 (by omega) (by decide) ?_
              refine s_aload_n rfl (cn rfl) rfl ?_
              refine s_dupr rfl (cn rfl) ?_
              refine s_getfield rfl (cn rfl) c28 rfl ?_
              refine s_iconst rfl (cn rfl) ?_
              refine s_iadd rfl (cn rfl) ?_
              refine s_puti rfl (cn rfl) rfl c28 rfl ?_
              refine s_iinc rfl (cn rfl) rfl ?_
              refine s_goto rfl (ch rfl) ?_
              exact ih5 (by omega) _ (oc + 1) _ _ _ _ (pu pt oc g) (by omega) (by omega) rr_set_eq rfl rfl rfl rfl (fun k hk => by
                  by_cases e : k = oc
                  · subst e; rw [fu_s, pu_s]
                  · rw [fu_n e, pu_n e]; exact hq k (by omega)) (fr_s (by decide) (fr_s (by decide) (fr_s (by decide) (fr_s (by decide) (fr_s (by decide) hf))))) (gth_y hg h1 (bt_1.mp q20) (by rw [if_pos (by omega)]) (by rw [if_pos (by omega)]) rfl)
  exact lp5 1 (by omega) _ 0 _ _ _ _ (fun _ => 0) (by omega) (by omega) rr_set_eq c39 c40 c41 c42 (fun k hk => absurd hk (by omega)) (fr_s (by decide) fr_r) ⟨fun i hi => absurd hi (by omega), fun f f1 f2 => absurd f2 (by omega), fun i j _ hj => absurd hj (by omega), fun i hi => absurd hi (by omega)⟩
theorem v_singles_28 {d N S : Nat} {h : Nat → Option rr_E} {ku wc op bt bb : Int} {s oc : Nat} (hoc : oc ≤ 14) (c28 : h 28 = some (ST28 ku wc op (oc : Int) (s : Int) bt bb)) {q0 xa xc xh : Nat → Int} {pt : Nat → Nat} (c39 : h 39 = some (.inl (0, 14, .inl (fun k => ii (q0 k))))) (c40 : h 40 = some (.inl (1, 14, .inr (.inl (fun k => jj (xa k)))))) (c41 : h 41 = some (.inl (1, 14, .inr (.inl (fun k => jj (xc k)))))) (c42 : h 42 = some (.inl (1, 14, .inr (.inl (fun k => jj (xh k)))))) (hq : ∀ k, k < oc → q0 k = ((pt k : Nat) : Int)) (hp : ∀ k, k < oc → pt k < 15) {P0 : Nat → Int → Int → Prop} (hB : BP P0 s bt bb) (hb : bb = 0) (hbt : b6 bt) (hh : ∀ k, k < oc → -2000000000000000 ≤ xh k ∧ xh k ≤ 2000000000000000) (hxa : ∀ k, k < oc → b6 (xa k)) (hxc : ∀ k, k < oc → b6 (xc k)) : rr_Calls (d + 2) j_Stages_offerSingles [.ref 28] (N, S, h) (fun r R => r = none ∧ ∃ (h' : Nat → Option rr_E) (s' : Nat) (t' b' : Int), R = (N, S, h') ∧ fr [28] h h' ∧ h' 28 = some (ST28 ku wc op (oc : Int) (s' : Int) t' b') ∧ BP (fun s t b => P0 s t b ∨ R1 oc pt xa xc xh s t b) s' t' b' ∧ (0 ≤ b' ∧ b' ≤ 1) ∧ ((b' = 0 ∧ t' = bt) ∨ (-2000000000000000 ≤ t' ∧ t' ≤ 2000000000000000))) := by
  refine rr_meth (C := K_Stages_offerSingles) (hd := h_Stages_offerSingles) (mx := 2) rfl rfl (fun K hK => ?_)
  refine hK _ _ _ _ ?_
  refine s_iconst rfl (cn rfl) ?_
  refine s_istore_n rfl (ch rfl) ?_
  have lp2 : ∀ i : Nat, i ≤ oc → ∀ (h' : Nat → Option rr_E) (s2 : Nat) (t2 b2 : Int) (c28 : h' 28 = some (ST28 ku wc op (oc : Int) (s2 : Int) t2 b2)) (hf : fr [28] h h') (hB2 : BP (fun s t b => P0 s t b ∨ R1 i pt xa xc xh s t b) s2 t2 b2) (hbd : (0 ≤ b2 ∧ b2 ≤ 1) ∧ b6 t2 ∧ ((b2 = 0 ∧ t2 = bt) ∨ (-2000000000000000 ≤ t2 ∧ t2 ≤ 2000000000000000))), K 2 [some (.ref 28), some (.int (ii (i : Int)))] [] (N, S, h') := by
    refine dn (fun i hi ih2 => ?_)
    intro h' s2 t2 b2 c28 hf hB2 hbd
    have c39 := (hf 39 (by decide)).trans c39
    have c40 := (hf 40 (by decide)).trans c40
    have c41 := (hf 41 (by decide)).trans c41
    have c42 := (hf 42 (by decide)).trans c42
    refine hK _ _ _ _ ?_
    refine s_iload_n rfl (cn rfl) rfl ?_
    refine s_aload_n rfl (cn rfl) rfl ?_
    refine s_getfield rfl (cn rfl) c28 rfl ?_
    refine s_icmp_ge rfl (cn rfl) (cn rfl) ⟨by omega, by omega⟩ ⟨by omega, by omega⟩ (fun q5 => ?_) (fun q5 => ?_)
    · refine s_return rfl ?_
      exact ⟨rfl, h', s2, t2, b2, rfl, hf, c28, by rw [show oc = i by omega]; exact hB2, hbd.1, hbd.2.2⟩
    · have ha := hxa i (by omega)
      have hc := hxc i (by omega)
      have hp1 := hp i (by omega)
      refine s_aload_n rfl (cn rfl) rfl ?_
      refine s_getfield rfl (cn rfl) c28 rfl ?_
      refine s_iload_n rfl (cn rfl) rfl ?_
      refine s_laload rfl (cn rfl) _ rfl c40 (by omega) (by decide) rfl ?_
      refine s_lconst rfl (cn rfl) 0 (by decide) ?_
      refine s_lcmp rfl (cn rfl) ?_
      refine s_ifl_ne rfl (cn rfl) (cn rfl) ⟨by omega, by omega⟩ ⟨by omega, by omega⟩ (fun q12 => ?_) (fun q12 => ?_)
      · refine s_iinc rfl (cn rfl) rfl ?_
        refine s_goto rfl (ch rfl) ?_
        exact ih2 (by omega) _ s2 t2 b2 c28 hf (BP_cg hB2 (fun s t b => or_congr_right ⟨fun ⟨k, k1, k2⟩ => ⟨k, by omega, k2⟩, fun ⟨k, k1, k2, k3, k4⟩ => ⟨k, by
            by_cases e : k = i
            · subst e; exact absurd k2 q12
            · omega, k2, k3, k4⟩⟩)) hbd
      · refine s_aload_n rfl (cn rfl) rfl ?_
        refine s_getfield rfl (cn rfl) c28 rfl ?_
        refine s_iload_n rfl (cn rfl) rfl ?_
        refine s_laload rfl (cn rfl) _ rfl c41 (by omega) (by decide) rfl ?_
        refine s_lconst rfl (cn rfl) 0 (by decide) ?_
        refine s_lcmp rfl (cn rfl) ?_
        refine s_ifl_ne rfl (cn rfl) (cn rfl) ⟨by omega, by omega⟩ ⟨by omega, by omega⟩ (fun q19 => ?_) (fun q19 => ?_)
        · refine s_iinc rfl (cn rfl) rfl ?_
          refine s_goto rfl (ch rfl) ?_
          exact ih2 (by omega) _ s2 t2 b2 c28 hf (BP_cg hB2 (fun s t b => or_congr_right ⟨fun ⟨k, k1, k2⟩ => ⟨k, by omega, k2⟩, fun ⟨k, k1, k2, k3, k4⟩ => ⟨k, by
              by_cases e : k = i
              · subst e; exact absurd k3 q19
              · omega, k2, k3, k4⟩⟩)) hbd
        · refine s_aload_n rfl (cn rfl) rfl ?_
          refine s_iconst rfl (cn rfl) ?_
          refine s_aload_n rfl (cn rfl) rfl ?_
          refine s_getfield rfl (cn rfl) c28 rfl ?_
          refine s_iload_n rfl (cn rfl) rfl ?_
          refine s_iaload rfl (cn rfl) _ rfl c39 rfl (by omega) (by decide) (congrArg ii (hq i (by omega))) ?_
          refine s_ishl rfl (cn rfl) _ (bi_shl1 (by omega)) ?_
          refine s_aload_n rfl (cn rfl) rfl ?_
          refine s_getfield rfl (cn rfl) c28 rfl ?_
          refine s_iload_n rfl (cn rfl) rfl ?_
          refine s_laload rfl (cn rfl) _ rfl c42 (by omega) (by decide) rfl ?_
          refine s_lconst rfl (cn rfl) 1 (by decide) ?_
          refine s_virt rfl (cn rfl) rfl rfl c28 rfl (v_offer_28 (s0 := 2 ^ pt i) c28 (by have := hh i (by omega); rcases (show b2 = 0 ∨ b2 = 1 by omega) with e | e <;> rw [e] <;> omega) (by omega) (by omega)) ?_
          rintro _ _ ⟨rfl, h3, s3, t3, b3, rfl, hf3, d28, hn3, he3, hl3⟩
          have hB3 := BP_s hB2 (by decide) hn3 he3 hl3
          refine s_iinc rfl (cn rfl) rfl ?_
          refine s_goto rfl (ch rfl) ?_
          exact ih2 (by omega) _ s3 t3 b3 d28 (fr_t hf hf3 (by decide)) (BP_cg hB3 (fun s t b => ⟨fun q => by
              rcases q with (q | ⟨k, k1, k2⟩) | ⟨rfl, rfl, rfl⟩
              · exact Or.inl q
              · exact Or.inr ⟨k, by omega, k2⟩
              · exact Or.inr ⟨i, by omega, q12, q19, rfl, rfl, rfl⟩, fun q => by
              rcases q with q | ⟨k, k1, k2, k3, rfl, rfl, rfl⟩
              · exact Or.inl (Or.inl q)
              · by_cases e : k = i
                · subst e; exact Or.inr ⟨rfl, rfl, rfl⟩
                · exact Or.inl (Or.inr ⟨k, by omega, k2, k3, rfl, rfl, rfl⟩)⟩)) (by have := hh i (by omega); omega)
  exact lp2 0 (by omega) _ s bt bb c28 fr_r (BP_cg hB (fun s t b => ⟨Or.inl, fun q => q.resolve_right (fun ⟨k, k1, _⟩ => absurd k1 (by omega))⟩)) (by omega)
theorem v_pairs_28 {d N S : Nat} {h : Nat → Option rr_E} {ku op bt bb : Int} {s oc wc : Nat} (hoc : oc ≤ 14) (c28 : h 28 = some (ST28 ku (wc : Int) op (oc : Int) (s : Int) bt bb)) {q0 xa xc xh : Nat → Int} {pt : Nat → Nat} (c39 : h 39 = some (.inl (0, 14, .inl (fun k => ii (q0 k))))) (c40 : h 40 = some (.inl (1, 14, .inr (.inl (fun k => jj (xa k)))))) (c41 : h 41 = some (.inl (1, 14, .inr (.inl (fun k => jj (xc k)))))) (c42 : h 42 = some (.inl (1, 14, .inr (.inl (fun k => jj (xh k)))))) (hq : ∀ k, k < oc → q0 k = ((pt k : Nat) : Int)) (hp : ∀ k, k < oc → pt k < 15) {P0 : Nat → Int → Int → Prop} (hB : BP P0 s bt bb) (hh : ∀ k, k < oc → -2000000000000000 ≤ xh k ∧ xh k ≤ 2000000000000000) (hbd0 : (0 ≤ bb ∧ bb ≤ 32) ∧ (-80000000000000000 ≤ bt ∧ bt ≤ 80000000000000000)) (hxa : ∀ k, k < oc → -8 ≤ xa k ∧ xa k ≤ 8) (hxc : ∀ k, k < oc → -8 ≤ xc k ∧ xc k ≤ 8) (hwc : wc ≤ 3) (hz : wc = 0 → ∀ k, k < oc → xa k = 0 ∧ xc k = 0) : rr_Calls (d + 2) j_Stages_offerPairs [.ref 28] (N, S, h) (fun r R => r = none ∧ ∃ (h' : Nat → Option rr_E) (s' : Nat) (t' b' : Int), R = (N, S, h') ∧ fr [28] h h' ∧ h' 28 = some (ST28 ku (wc : Int) op (oc : Int) (s' : Int) t' b') ∧ BP (fun s t b => P0 s t b ∨ R2 oc oc 0 pt xa xc xh s t b) s' t' b' ∧ (0 ≤ b' ∧ b' ≤ 32) ∧ (-80000000000000000 ≤ t' ∧ t' ≤ 80000000000000000)) := by
  refine rr_meth (C := K_Stages_offerPairs) (hd := h_Stages_offerPairs) (mx := 7) rfl rfl (fun K hK => ?_)
  have c39o := c39
  have c40o := c40
  have c41o := c41
  have c42o := c42
  refine hK _ _ _ _ ?_
  refine s_iconst rfl (cn rfl) ?_
  refine s_istore_n rfl (ch rfl) ?_
  have lp2 : ∀ i : Nat, i ≤ oc → ∀ (l2 : Option Value) (l3 l5 : Option Value) (h' : Nat → Option rr_E) (s2 : Nat) (t2 b2 : Int) (c28 : h' 28 = some (ST28 ku wc op (oc : Int) (s2 : Int) t2 b2)) (hf : fr [28] h h') (hB2 : BP (fun s t b => P0 s t b ∨ R2 oc i 0 pt xa xc xh s t b) s2 t2 b2) (hbd : (0 ≤ b2 ∧ b2 ≤ 32) ∧ (-80000000000000000 ≤ t2 ∧ t2 ≤ 80000000000000000)), K 2 [some (.ref 28), some (.int (ii (i : Int))), l2, l3, none, l5, none] [] (N, S, h') := by
    refine dn (fun i hi ih2 => ?_)
    intro l2 l3 l5 h' s2 t2 b2 c28 hf hB2 hbd
    have c39 := (hf 39 (by decide)).trans c39
    have c40 := (hf 40 (by decide)).trans c40
    have c41 := (hf 41 (by decide)).trans c41
    have c42 := (hf 42 (by decide)).trans c42
    refine hK _ _ _ _ ?_
    refine s_iload_n rfl (cn rfl) rfl ?_
    refine s_aload_n rfl (cn rfl) rfl ?_
    refine s_getfield rfl (cn rfl) c28 rfl ?_
    refine s_icmp_ge rfl (cn rfl) (cn rfl) ⟨by omega, by omega⟩ ⟨by omega, by omega⟩ (fun q5 => ?_) (fun q5 => ?_)
    · refine s_return rfl ?_
      first
        | exact ⟨rfl, h', s2, t2, b2, rfl, hf, c28, by rw [show oc = i by omega] at hB2 ⊢; exact hB2, hbd⟩
        | (have hz2 := hz (by omega)
           refine ⟨rfl, h', s2, t2, b2, rfl, hf, c28, BP_cg hB2 (fun s t b => or_congr_right ⟨fun ⟨k, m, k1, k2, k3, k4⟩ => ⟨k, m, k1, k2, by omega, k4⟩, fun ⟨k, m, k1, k2, k3, k4, k5, k6⟩ => ?_⟩), hbd⟩
           exfalso
           unfold pl_dt at k5
           rw [(hz2 k (by omega)).1, (hz2 k (by omega)).2] at k5
           simp at k5)
    · refine s_aload_n rfl (cn rfl) rfl ?_
      refine s_getfield rfl (cn rfl) c28 rfl ?_
      refine s_if_le rfl (cn rfl) (cn rfl) ⟨by omega, by omega⟩ (fun q8 => ?_) (fun q8 => ?_)
      · refine s_return rfl ?_
        first
          | exact ⟨rfl, h', s2, t2, b2, rfl, hf, c28, by rw [show oc = i by omega] at hB2 ⊢; exact hB2, hbd⟩
          | (have hz2 := hz (by omega)
             refine ⟨rfl, h', s2, t2, b2, rfl, hf, c28, BP_cg hB2 (fun s t b => or_congr_right ⟨fun ⟨k, m, k1, k2, k3, k4⟩ => ⟨k, m, k1, k2, by omega, k4⟩, fun ⟨k, m, k1, k2, k3, k4, k5, k6⟩ => ?_⟩), hbd⟩
             exfalso
             unfold pl_dt at k5
             rw [(hz2 k (by omega)).1, (hz2 k (by omega)).2] at k5
             simp at k5)
      · refine s_iload_n rfl (cn rfl) rfl ?_
        refine s_iconst rfl (cn rfl) ?_
        refine s_iadd rfl (cn rfl) ?_
        refine s_istore_n rfl (ch rfl) ?_
        have lp13 : ∀ j : Nat, j ≤ oc → ∀ (l3 l5 : Option Value) (hj1 : i + 1 ≤ j) (h' : Nat → Option rr_E) (s2 : Nat) (t2 b2 : Int) (c28 : h' 28 = some (ST28 ku wc op (oc : Int) (s2 : Int) t2 b2)) (hf : fr [28] h h') (hB2 : BP (fun s t b => P0 s t b ∨ R2 oc i j pt xa xc xh s t b) s2 t2 b2) (hbd : (0 ≤ b2 ∧ b2 ≤ 32) ∧ (-80000000000000000 ≤ t2 ∧ t2 ≤ 80000000000000000)), K 13 [some (.ref 28), some (.int (ii (i : Int))), some (.int (ii (j : Int))), l3, none, l5, none] [] (N, S, h') := by
          refine dn (fun j hj ih13 => ?_)
          intro l3 l5 hj1 h' s2 t2 b2 c28 hf hB2 hbd
          have c39 := (hf 39 (by decide)).trans c39o
          have c40 := (hf 40 (by decide)).trans c40o
          have c41 := (hf 41 (by decide)).trans c41o
          have c42 := (hf 42 (by decide)).trans c42o
          refine hK _ _ _ _ ?_
          refine s_iload_n rfl (cn rfl) rfl ?_
          refine s_aload_n rfl (cn rfl) rfl ?_
          refine s_getfield rfl (cn rfl) c28 rfl ?_
          refine s_icmp_ge rfl (cn rfl) (cn rfl) ⟨by omega, by omega⟩ ⟨by omega, by omega⟩ (fun q16 => ?_) (fun q16 => ?_)
          · refine s_iinc rfl (cn rfl) rfl ?_
            refine s_goto rfl (ch rfl) ?_
            exact ih2 (by omega) _ _ _ _ s2 t2 b2 c28 hf (BP_cg hB2 (fun s t b => or_congr_right ⟨fun ⟨k, m, k1, k2, k3, k4⟩ => ⟨k, m, k1, k2, by omega, k4⟩, fun ⟨k, m, k1, k2, k3, k4⟩ => ⟨k, m, k1, k2, by omega, k4⟩⟩)) hbd
          · have a1 := hxa i (by omega)
            have a2 := hxa j (by omega)
            have a3 := hxc i (by omega)
            have a4 := hxc j (by omega)
            have m1 := ab_mul (x := xa i) (y := xc j) (a := 8) (b := 8) (by omega) (by omega) (by decide) (by decide)
            have m2 := ab_mul (x := xc i) (y := xa j) (a := 8) (b := 8) (by omega) (by omega) (by decide) (by decide)
            have m3 := ab_mul (x := xa i) (y := xa j) (a := 8) (b := 8) (by omega) (by omega) (by decide) (by decide)
            have m4 := ab_mul (x := xc i) (y := xc j) (a := 8) (b := 8) (by omega) (by omega) (by decide) (by decide)
            have ecr : pl_cr xa xc i j = xa i * xc j - xc i * xa j := rfl
            have edt : pl_dt xa xc i j = xa i * xa j + xc i * xc j := rfl
            have pi := hp i (by omega)
            have pj := hp j (by omega)
            refine s_aload_n rfl (cn rfl) rfl ?_
            refine s_iload_n rfl (cn rfl) rfl ?_
            refine s_iload_n rfl (cn rfl) rfl ?_
            refine s_virt rfl (cn rfl) rfl rfl c28 rfl (v_turn_28 c28 c40 c41 (by omega) (by omega)) ?_
            rintro _ _ ⟨rfl, rfl⟩
            refine s_lconst rfl (cn rfl) 0 (by decide) ?_
            refine s_lcmp rfl (cn rfl) ?_
            refine s_ifl_ne rfl (cn rfl) (cn rfl) ⟨by omega, by omega⟩ ⟨by omega, by omega⟩ (fun q23 => ?_) (fun q23 => ?_)
            · refine s_iinc rfl (cn rfl) rfl ?_
              refine s_goto rfl (ch rfl) ?_
              exact ih13 (by omega) _ _ (by omega) _ s2 t2 b2 c28 hf (BP_cg hB2 (fun s t b => or_congr_right ⟨fun ⟨k, m, k1, k2, k3, k4⟩ => ⟨k, m, k1, k2, by omega, k4⟩, fun ⟨k, m, k1, k2, k3, k4, k5, k6⟩ => ⟨k, m, k1, k2, by
                  by_cases e : k = i ∧ m = j
                  · obtain ⟨rfl, rfl⟩ := e; exact absurd k4 q23
                  · omega, k4, k5, k6⟩⟩)) hbd
            · refine s_aload_n rfl (cn rfl) rfl ?_
              refine s_getfield rfl (cn rfl) c28 rfl ?_
              refine s_iload_n rfl (cn rfl) rfl ?_
              refine s_laload rfl (cn rfl) _ rfl c40 (by omega) (by decide) rfl ?_
              refine s_aload_n rfl (cn rfl) rfl ?_
              refine s_getfield rfl (cn rfl) c28 rfl ?_
              refine s_iload_n rfl (cn rfl) rfl ?_
              refine s_laload rfl (cn rfl) _ rfl c40 (by omega) (by decide) rfl ?_
              refine s_lmul rfl (cn rfl) ?_
              refine s_aload_n rfl (cn rfl) rfl ?_
              refine s_getfield rfl (cn rfl) c28 rfl ?_
              refine s_iload_n rfl (cn rfl) rfl ?_
              refine s_laload rfl (cn rfl) _ rfl c41 (by omega) (by decide) rfl ?_
              refine s_aload_n rfl (cn rfl) rfl ?_
              refine s_getfield rfl (cn rfl) c28 rfl ?_
              refine s_iload_n rfl (cn rfl) rfl ?_
              refine s_laload rfl (cn rfl) _ rfl c41 (by omega) (by decide) rfl ?_
              refine s_lmul rfl (cn rfl) ?_
              refine s_ladd rfl (cn rfl) ?_
              refine s_lconst rfl (cn rfl) 0 (by decide) ?_
              refine s_lcmp rfl (cn rfl) ?_
              refine s_ifl_ge rfl (cn rfl) (cn rfl) ⟨by omega, by omega⟩ ⟨by omega, by omega⟩ (fun q45 => ?_) (fun q45 => ?_)
              · refine s_iinc rfl (cn rfl) rfl ?_
                refine s_goto rfl (ch rfl) ?_
                exact ih13 (by omega) _ _ (by omega) _ s2 t2 b2 c28 hf (BP_cg hB2 (fun s t b => or_congr_right ⟨fun ⟨k, m, k1, k2, k3, k4⟩ => ⟨k, m, k1, k2, by omega, k4⟩, fun ⟨k, m, k1, k2, k3, k4, k5, k6⟩ => ⟨k, m, k1, k2, by
                    by_cases e : k = i ∧ m = j
                    · obtain ⟨rfl, rfl⟩ := e; omega
                    · omega, k4, k5, k6⟩⟩)) hbd
              · have n1 := ab1_b (a := 8) a1
                have n2 := ab1_b (a := 8) a2
                have n3 := ab1_b (a := 8) a3
                have n4 := ab1_b (a := 8) a4
                have h1 := hh i (by omega)
                have h2 := hh j (by omega)
                have o1 := ab_mul (x := ab1 (xa j) + ab1 (xc j)) (y := xh i) (a := 16) (b := 2000000000000000) (by omega) (by omega) (by decide) (by decide)
                have o2 := ab_mul (x := ab1 (xa i) + ab1 (xc i)) (y := xh j) (a := 16) (b := 2000000000000000) (by omega) (by omega) (by decide) (by decide)
                have o3 := ab_mul (x := (ab1 (xa j) + ab1 (xc j)) * xh i + (ab1 (xa i) + ab1 (xc i)) * xh j) (y := b2) (a := 64000000000000000) (b := 32) (by omega) (by omega) (by decide) (by decide)
                have o4 := ab_mul (x := t2) (y := (ab1 (xa j) + ab1 (xc j)) + (ab1 (xa i) + ab1 (xc i))) (a := 80000000000000000) (b := 32) (by omega) (by omega) (by decide) (by decide)
                have pos : 0 < (ab1 (xa j) + ab1 (xc j)) + (ab1 (xa i) + ab1 (xc i)) := by
                  by_cases z : (ab1 (xa j) + ab1 (xc j)) + (ab1 (xa i) + ab1 (xc i)) = 0
                  · have z1 : xa i = 0 := ab1_0.mp (by omega)
                    have z2 : xc i = 0 := ab1_0.mp (by omega)
                    rw [z1, z2] at q45
                    omega
                  · omega
                refine s_aload_n rfl (cn rfl) rfl ?_
                refine s_getfield rfl (cn rfl) c28 rfl ?_
                refine s_iload_n rfl (cn rfl) rfl ?_
                refine s_laload rfl (cn rfl) _ rfl c40 (by omega) (by decide) rfl ?_
                refine s_abs rfl (cn rfl) rfl ⟨by omega, by omega⟩ ?_
                refine s_aload_n rfl (cn rfl) rfl ?_
                refine s_getfield rfl (cn rfl) c28 rfl ?_
                refine s_iload_n rfl (cn rfl) rfl ?_
                refine s_laload rfl (cn rfl) _ rfl c41 (by omega) (by decide) rfl ?_
                refine s_abs rfl (cn rfl) rfl ⟨by omega, by omega⟩ ?_
                refine s_ladd rfl (cn rfl) ?_
                refine s_lstore_n rfl (cn rfl) ?_
                refine s_aload_n rfl (cn rfl) rfl ?_
                refine s_getfield rfl (cn rfl) c28 rfl ?_
                refine s_iload_n rfl (cn rfl) rfl ?_
                refine s_laload rfl (cn rfl) _ rfl c40 (by omega) (by decide) rfl ?_
                refine s_abs rfl (cn rfl) rfl ⟨by omega, by omega⟩ ?_
                refine s_aload_n rfl (cn rfl) rfl ?_
                refine s_getfield rfl (cn rfl) c28 rfl ?_
                refine s_iload_n rfl (cn rfl) rfl ?_
                refine s_laload rfl (cn rfl) _ rfl c41 (by omega) (by decide) rfl ?_
                refine s_abs rfl (cn rfl) rfl ⟨by omega, by omega⟩ ?_
                refine s_ladd rfl (cn rfl) ?_
                refine s_lstore rfl (cn rfl) ?_
                refine s_aload_n rfl (cn rfl) rfl ?_
                refine s_iconst rfl (cn rfl) ?_
                refine s_aload_n rfl (cn rfl) rfl ?_
                refine s_getfield rfl (cn rfl) c28 rfl ?_
                refine s_iload_n rfl (cn rfl) rfl ?_
                refine s_iaload rfl (cn rfl) _ rfl c39 rfl (by omega) (by decide) (congrArg ii (hq i (by omega))) ?_
                refine s_ishl rfl (cn rfl) _ (bi_shl1 (by omega)) ?_
                refine s_iconst rfl (cn rfl) ?_
                refine s_aload_n rfl (cn rfl) rfl ?_
                refine s_getfield rfl (cn rfl) c28 rfl ?_
                refine s_iload_n rfl (cn rfl) rfl ?_
                refine s_iaload rfl (cn rfl) _ rfl c39 rfl (by omega) (by decide) (congrArg ii (hq j (by omega))) ?_
                refine s_ishl rfl (cn rfl) _ (bi_shl1 (by omega)) ?_
                refine s_ior rfl (cn rfl) _ (bi_or _ _) ?_
                refine s_lload_n rfl (cn rfl) rfl ?_
                refine s_aload_n rfl (cn rfl) rfl ?_
                refine s_getfield rfl (cn rfl) c28 rfl ?_
                refine s_iload_n rfl (cn rfl) rfl ?_
                refine s_laload rfl (cn rfl) _ rfl c42 (by omega) (by decide) rfl ?_
                refine s_lmul rfl (cn rfl) ?_
                refine s_lload rfl (cn rfl) rfl ?_
                refine s_aload_n rfl (cn rfl) rfl ?_
                refine s_getfield rfl (cn rfl) c28 rfl ?_
                refine s_iload_n rfl (cn rfl) rfl ?_
                refine s_laload rfl (cn rfl) _ rfl c42 (by omega) (by decide) rfl ?_
                refine s_lmul rfl (cn rfl) ?_
                refine s_ladd rfl (cn rfl) ?_
                refine s_lload_n rfl (cn rfl) rfl ?_
                refine s_lload rfl (cn rfl) rfl ?_
                refine s_ladd rfl (cn rfl) ?_
                refine s_virt rfl (cn rfl) rfl rfl c28 rfl (v_offer_28 (s0 := 2 ^ pt i ||| 2 ^ pt j) c28 (t0 := (ab1 (xa j) + ab1 (xc j)) * xh i + (ab1 (xa i) + ab1 (xc i)) * xh j) (b0 := (ab1 (xa j) + ab1 (xc j)) + (ab1 (xa i) + ab1 (xc i))) (by omega) (by omega) (by omega)) ?_
                rintro _ _ ⟨rfl, h3, s3, t3, b3, rfl, hf3, d28, hn3, he3, hl3⟩
                have hB3 := BP_s hB2 pos hn3 he3 hl3
                refine s_iinc rfl (cn rfl) rfl ?_
                refine s_goto rfl (ch rfl) ?_
                exact ih13 (by omega) _ _ (by omega) _ s3 t3 b3 d28 (fr_t hf hf3 (by decide)) (BP_cg hB3 (fun s t b => ⟨fun q => by
                    rcases q with (q | ⟨k, m, k1, k2, k3, k4⟩) | ⟨rfl, rfl, rfl⟩
                    · exact Or.inl q
                    · exact Or.inr ⟨k, m, k1, k2, by omega, k4⟩
                    · exact Or.inr ⟨i, j, by omega, by omega, by omega, q23, by omega, rfl, rfl, rfl⟩, fun q => by
                    rcases q with q | ⟨k, m, k1, k2, k3, k4, k5, rfl, rfl, rfl⟩
                    · exact Or.inl (Or.inl q)
                    · by_cases e : k = i ∧ m = j
                      · obtain ⟨rfl, rfl⟩ := e; exact Or.inr ⟨rfl, rfl, rfl⟩
                      · exact Or.inl (Or.inr ⟨k, m, k1, k2, by omega, k4, k5, rfl, rfl, rfl⟩)⟩)) (by omega)
        exact lp13 (i + 1) (by omega) _ _ (Nat.le_refl _) _ s2 t2 b2 c28 hf (BP_cg hB2 (fun s t b => or_congr_right ⟨fun ⟨k, m, k1, k2, k3, k4⟩ => ⟨k, m, k1, k2, by omega, k4⟩, fun ⟨k, m, k1, k2, k3, k4⟩ => ⟨k, m, k1, k2, by omega, k4⟩⟩)) hbd
  exact lp2 0 (by omega) _ _ _ _ s bt bb c28 fr_r (BP_cg hB (fun s t b => ⟨Or.inl, fun q => q.resolve_right (fun ⟨k, m, k1, k2, k3, _⟩ => absurd k3 (by omega))⟩)) hbd0
