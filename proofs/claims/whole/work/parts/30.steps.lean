/-! One lemma an instruction: stacks and arrays stay in the form ii / jj of integers. -/
section
variable {C : List rr_I} {hd : List Nat} {d n k a b y : Nat} {z : Int} {Q : Option Value → rr_H → Prop} {K : Nat → rr_L → List Value → rr_H → Prop} {loc : rr_L} {st : List Value} {N S : Nat} {h : Nat → Option rr_E} {G G' : rr_L → List Value → rr_H → Prop}
/-- how it goes on: at a head by K, else by the next stretch -/
abbrev ct (C : List rr_I) (hd : List Nat) (d : Nat) (Q : Option Value → rr_H → Prop) (K : Nat → rr_L → List Value → rr_H → Prop) (n k : Nat) (G : rr_L → List Value → rr_H → Prop) : Prop := ∀ loc st H, G loc st H → cond (rr_mem hd k) (K k loc st H) (rr_step C hd d Q K n k loc st H)
theorem cn (e : rr_mem hd k = false) : ct C hd d Q K n k (fun l s H => rr_step C hd d Q K n k l s H) := fun _ _ _ g => by rw [e]; exact g
theorem ch (e : rr_mem hd k = true) : ct C hd d Q K n k (fun l s H => K k l s H) := fun _ _ _ g => by rw [e]; exact g
theorem rr_ld_i {i : Nat} {x : Int32} {A : Value → Prop} (e : rr_get loc i = some (.int x)) (g : A (.int x)) : rr_ld loc i 0 A := by unfold rr_ld; rw [e]; exact g
theorem rr_ld_l {i : Nat} {x : Int64} {A : Value → Prop} (e : rr_get loc i = some (.long x)) (g : A (.long x)) : rr_ld loc i 1 A := by unfold rr_ld; rw [e]; exact g
theorem rr_ld_a {i : Nat} {x : Nat} {A : Value → Prop} (e : rr_get loc i = some (.ref x)) (g : A (.ref x)) : rr_ld loc i 2 A := by unfold rr_ld; rw [e]; exact g
theorem s_iconst {x : Int} (he : rr_nth C k = some (.iconst x, a, b, z)) (c : ct C hd d Q K n (k + 1) G)  (g : G loc (.int (ii x) :: st) (N, S, h)) : rr_step C hd d Q K (n + 1) k loc st (N, S, h) := by
  unfold rr_step; rw [he]; exact c _ _ _ g
theorem s_bipush {x : Int} (he : rr_nth C k = some (.bipush x, a, b, z)) (c : ct C hd d Q K n (k + 1) G) (e : (Int8.ofInt x).toInt32 = ii x) (g : G loc (.int (ii x) :: st) (N, S, h)) : rr_step C hd d Q K (n + 1) k loc st (N, S, h) := by
  unfold rr_step; rw [he]; rw [← e] at g; exact c _ _ _ g
theorem s_sipush {x : Int} (he : rr_nth C k = some (.sipush x, a, b, z)) (c : ct C hd d Q K n (k + 1) G) (e : (Int16.ofInt x).toInt32 = ii x) (g : G loc (.int (ii x) :: st) (N, S, h)) : rr_step C hd d Q K (n + 1) k loc st (N, S, h) := by
  unfold rr_step; rw [he]; rw [← e] at g; exact c _ _ _ g
theorem s_ldc_w {x : Nat} (he : rr_nth C k = some (.ldc_w x, a, b, z)) (c : ct C hd d Q K n (k + 1) G)  (g : G loc (.int (ii z) :: st) (N, S, h)) : rr_step C hd d Q K (n + 1) k loc st (N, S, h) := by
  unfold rr_step; rw [he]; exact c _ _ _ g
theorem s_lconst {m : Fin 2} (he : rr_nth C k = some (.lconst m, a, b, z)) (c : ct C hd d Q K n (k + 1) G) (x : Int) (e : Int64.ofNat m = jj x) (g : G loc (.long (jj x) :: st) (N, S, h)) : rr_step C hd d Q K (n + 1) k loc st (N, S, h) := by
  unfold rr_step; rw [he]; rw [← e] at g; exact c _ _ _ g
theorem s_ldc2_w {x : Nat} (he : rr_nth C k = some (.ldc2_w x, a, b, z)) (c : ct C hd d Q K n (k + 1) G)  (g : G loc (.long (jj z) :: st) (N, S, h)) : rr_step C hd d Q K (n + 1) k loc st (N, S, h) := by
  unfold rr_step; rw [he]; exact c _ _ _ g
theorem s_ldc {x : Nat} (he : rr_nth C k = some (.ldc x, a, b, z)) (c : ct C hd d Q K n (k + 1) G)  (g : G loc (.ref (1000010 + a) :: st) (N, S, h)) : rr_step C hd d Q K (n + 1) k loc st (N, S, h) := by
  unfold rr_step; rw [he]; exact c _ _ _ g
theorem s_iload {i : Nat} {x : Int32} (he : rr_nth C k = some (.iload i, a, b, z)) (c : ct C hd d Q K n (k + 1) G) (e : rr_get loc i = some (.int x)) (g : G loc (.int x :: st) (N, S, h)) : rr_step C hd d Q K (n + 1) k loc st (N, S, h) := by
  unfold rr_step; rw [he]; dsimp only [rr_ex, rr_ex0]; refine rr_ld_i e ?_; exact c _ _ _ g
theorem s_iload_n {i : Fin 4} {x : Int32} (he : rr_nth C k = some (.iload_n i, a, b, z)) (c : ct C hd d Q K n (k + 1) G) (e : rr_get loc i = some (.int x)) (g : G loc (.int x :: st) (N, S, h)) : rr_step C hd d Q K (n + 1) k loc st (N, S, h) := by
  unfold rr_step; rw [he]; dsimp only [rr_ex, rr_ex0]; refine rr_ld_i e ?_; exact c _ _ _ g
theorem s_istore {i : Nat} {x : Int32} (he : rr_nth C k = some (.istore i, a, b, z)) (c : ct C hd d Q K n (k + 1) G)  (g : G (rr_put loc i (.int x)) st (N, S, h)) : rr_step C hd d Q K (n + 1) k loc (.int x :: st) (N, S, h) := by
  unfold rr_step; rw [he]; exact c _ _ _ g
theorem s_istore_n {i : Fin 4} {x : Int32} (he : rr_nth C k = some (.istore_n i, a, b, z)) (c : ct C hd d Q K n (k + 1) G)  (g : G (rr_put loc i (.int x)) st (N, S, h)) : rr_step C hd d Q K (n + 1) k loc (.int x :: st) (N, S, h) := by
  unfold rr_step; rw [he]; exact c _ _ _ g
theorem s_lload {i : Nat} {x : Int64} (he : rr_nth C k = some (.lload i, a, b, z)) (c : ct C hd d Q K n (k + 1) G) (e : rr_get loc i = some (.long x)) (g : G loc (.long x :: st) (N, S, h)) : rr_step C hd d Q K (n + 1) k loc st (N, S, h) := by
  unfold rr_step; rw [he]; dsimp only [rr_ex, rr_ex0]; refine rr_ld_l e ?_; exact c _ _ _ g
theorem s_lload_n {i : Fin 4} {x : Int64} (he : rr_nth C k = some (.lload_n i, a, b, z)) (c : ct C hd d Q K n (k + 1) G) (e : rr_get loc i = some (.long x)) (g : G loc (.long x :: st) (N, S, h)) : rr_step C hd d Q K (n + 1) k loc st (N, S, h) := by
  unfold rr_step; rw [he]; dsimp only [rr_ex, rr_ex0]; refine rr_ld_l e ?_; exact c _ _ _ g
theorem s_lstore {i : Nat} {x : Int64} (he : rr_nth C k = some (.lstore i, a, b, z)) (c : ct C hd d Q K n (k + 1) G)  (g : G (rr_putL loc i (.long x)) st (N, S, h)) : rr_step C hd d Q K (n + 1) k loc (.long x :: st) (N, S, h) := by
  unfold rr_step; rw [he]; exact c _ _ _ g
theorem s_lstore_n {i : Fin 4} {x : Int64} (he : rr_nth C k = some (.lstore_n i, a, b, z)) (c : ct C hd d Q K n (k + 1) G)  (g : G (rr_putL loc i (.long x)) st (N, S, h)) : rr_step C hd d Q K (n + 1) k loc (.long x :: st) (N, S, h) := by
  unfold rr_step; rw [he]; exact c _ _ _ g
theorem s_aload {i : Nat} {x : Nat} (he : rr_nth C k = some (.aload i, a, b, z)) (c : ct C hd d Q K n (k + 1) G) (e : rr_get loc i = some (.ref x)) (g : G loc (.ref x :: st) (N, S, h)) : rr_step C hd d Q K (n + 1) k loc st (N, S, h) := by
  unfold rr_step; rw [he]; dsimp only [rr_ex, rr_ex0]; refine rr_ld_a e ?_; exact c _ _ _ g
theorem s_aload_n {i : Fin 4} {x : Nat} (he : rr_nth C k = some (.aload_n i, a, b, z)) (c : ct C hd d Q K n (k + 1) G) (e : rr_get loc i = some (.ref x)) (g : G loc (.ref x :: st) (N, S, h)) : rr_step C hd d Q K (n + 1) k loc st (N, S, h) := by
  unfold rr_step; rw [he]; dsimp only [rr_ex, rr_ex0]; refine rr_ld_a e ?_; exact c _ _ _ g
theorem s_astore {i : Nat} {x : Nat} (he : rr_nth C k = some (.astore i, a, b, z)) (c : ct C hd d Q K n (k + 1) G)  (g : G (rr_put loc i (.ref x)) st (N, S, h)) : rr_step C hd d Q K (n + 1) k loc (.ref x :: st) (N, S, h) := by
  unfold rr_step; rw [he]; exact c _ _ _ g
theorem s_astore_n {i : Fin 4} {x : Nat} (he : rr_nth C k = some (.astore_n i, a, b, z)) (c : ct C hd d Q K n (k + 1) G)  (g : G (rr_put loc i (.ref x)) st (N, S, h)) : rr_step C hd d Q K (n + 1) k loc (.ref x :: st) (N, S, h) := by
  unfold rr_step; rw [he]; exact c _ _ _ g
theorem s_iinc {i : Nat} {m x : Int} (he : rr_nth C k = some (.iinc i m, a, b, z)) (c : ct C hd d Q K n (k + 1) G) (e : rr_get loc i = some (.int (ii x))) (g : G (rr_put loc i (.int (ii (x + m)))) st (N, S, h)) : rr_step C hd d Q K (n + 1) k loc st (N, S, h) := by
  unfold rr_step; rw [he]; rw [← ii_add] at g; dsimp only [rr_ex, rr_ex0]; rw [e]; exact c _ _ _ g
theorem s_iadd {u v : Int} (he : rr_nth C k = some (.iadd, a, b, z)) (c : ct C hd d Q K n (k + 1) G)  (g : G loc (.int (ii (u + v)) :: st) (N, S, h)) : rr_step C hd d Q K (n + 1) k loc (.int (ii v) :: .int (ii u) :: st) (N, S, h) := by
  unfold rr_step; rw [he]; rw [← ii_add] at g; exact c _ _ _ g
theorem s_ladd {u v : Int} (he : rr_nth C k = some (.ladd, a, b, z)) (c : ct C hd d Q K n (k + 1) G)  (g : G loc (.long (jj (u + v)) :: st) (N, S, h)) : rr_step C hd d Q K (n + 1) k loc (.long (jj v) :: .long (jj u) :: st) (N, S, h) := by
  unfold rr_step; rw [he]; rw [← jj_add] at g; exact c _ _ _ g
theorem s_isub {u v : Int} (he : rr_nth C k = some (.isub, a, b, z)) (c : ct C hd d Q K n (k + 1) G)  (g : G loc (.int (ii (u - v)) :: st) (N, S, h)) : rr_step C hd d Q K (n + 1) k loc (.int (ii v) :: .int (ii u) :: st) (N, S, h) := by
  unfold rr_step; rw [he]; rw [← ii_sub] at g; exact c _ _ _ g
theorem s_lsub {u v : Int} (he : rr_nth C k = some (.lsub, a, b, z)) (c : ct C hd d Q K n (k + 1) G)  (g : G loc (.long (jj (u - v)) :: st) (N, S, h)) : rr_step C hd d Q K (n + 1) k loc (.long (jj v) :: .long (jj u) :: st) (N, S, h) := by
  unfold rr_step; rw [he]; rw [← jj_sub] at g; exact c _ _ _ g
theorem s_imul {u v : Int} (he : rr_nth C k = some (.imul, a, b, z)) (c : ct C hd d Q K n (k + 1) G)  (g : G loc (.int (ii (u * v)) :: st) (N, S, h)) : rr_step C hd d Q K (n + 1) k loc (.int (ii v) :: .int (ii u) :: st) (N, S, h) := by
  unfold rr_step; rw [he]; rw [← ii_mul] at g; exact c _ _ _ g
theorem s_lmul {u v : Int} (he : rr_nth C k = some (.lmul, a, b, z)) (c : ct C hd d Q K n (k + 1) G)  (g : G loc (.long (jj (u * v)) :: st) (N, S, h)) : rr_step C hd d Q K (n + 1) k loc (.long (jj v) :: .long (jj u) :: st) (N, S, h) := by
  unfold rr_step; rw [he]; rw [← jj_mul] at g; exact c _ _ _ g
theorem s_ineg {u : Int} (he : rr_nth C k = some (.ineg, a, b, z)) (c : ct C hd d Q K n (k + 1) G)  (g : G loc (.int (ii (-u)) :: st) (N, S, h)) : rr_step C hd d Q K (n + 1) k loc (.int (ii u) :: st) (N, S, h) := by
  unfold rr_step; rw [he]; rw [← ii_neg] at g; exact c _ _ _ g
theorem s_lneg {u : Int} (he : rr_nth C k = some (.lneg, a, b, z)) (c : ct C hd d Q K n (k + 1) G)  (g : G loc (.long (jj (-u)) :: st) (N, S, h)) : rr_step C hd d Q K (n + 1) k loc (.long (jj u) :: st) (N, S, h) := by
  unfold rr_step; rw [he]; rw [← jj_neg] at g; exact c _ _ _ g
theorem s_i2l {u : Int} (he : rr_nth C k = some (.i2l, a, b, z)) (c : ct C hd d Q K n (k + 1) G) (hb : b3 u) (g : G loc (.long (jj u) :: st) (N, S, h)) : rr_step C hd d Q K (n + 1) k loc (.int (ii u) :: st) (N, S, h) := by
  unfold rr_step; rw [he]; rw [← ii_64 hb] at g; exact c _ _ _ g
theorem s_iand {u v : Int32} (he : rr_nth C k = some (.iand, a, b, z)) (c : ct C hd d Q K n (k + 1) G) (x : Int) (e : u &&& v = ii x) (g : G loc (.int (ii x) :: st) (N, S, h)) : rr_step C hd d Q K (n + 1) k loc (.int v :: .int u :: st) (N, S, h) := by
  unfold rr_step; rw [he]; rw [← e] at g; exact c _ _ _ g
theorem s_ior {u v : Int32} (he : rr_nth C k = some (.ior, a, b, z)) (c : ct C hd d Q K n (k + 1) G) (x : Int) (e : u ||| v = ii x) (g : G loc (.int (ii x) :: st) (N, S, h)) : rr_step C hd d Q K (n + 1) k loc (.int v :: .int u :: st) (N, S, h) := by
  unfold rr_step; rw [he]; rw [← e] at g; exact c _ _ _ g
theorem s_ixor {u v : Int32} (he : rr_nth C k = some (.ixor, a, b, z)) (c : ct C hd d Q K n (k + 1) G) (x : Int) (e : u ^^^ v = ii x) (g : G loc (.int (ii x) :: st) (N, S, h)) : rr_step C hd d Q K (n + 1) k loc (.int v :: .int u :: st) (N, S, h) := by
  unfold rr_step; rw [he]; rw [← e] at g; exact c _ _ _ g
theorem s_ishl {u v : Int32} (he : rr_nth C k = some (.ishl, a, b, z)) (c : ct C hd d Q K n (k + 1) G) (x : Int) (e : u <<< (v &&& 31) = ii x) (g : G loc (.int (ii x) :: st) (N, S, h)) : rr_step C hd d Q K (n + 1) k loc (.int v :: .int u :: st) (N, S, h) := by
  unfold rr_step; rw [he]; rw [← e] at g; exact c _ _ _ g
theorem s_ishr {u v : Int32} (he : rr_nth C k = some (.ishr, a, b, z)) (c : ct C hd d Q K n (k + 1) G)  (g : G loc (.int (u >>> (v &&& 31)) :: st) (N, S, h)) : rr_step C hd d Q K (n + 1) k loc (.int v :: .int u :: st) (N, S, h) := by
  unfold rr_step; rw [he]; exact c _ _ _ g
theorem s_ldiv {u v : Int} (he : rr_nth C k = some (.ldiv, a, b, z)) (c : ct C hd d Q K n (k + 1) G) (hu : b6 u) (hv : b6 v) (hq : b6 (u.tdiv v)) (h0 : v ≠ 0) (g : G loc (.long (jj (u.tdiv v)) :: st) (N, S, h)) : rr_step C hd d Q K (n + 1) k loc (.long (jj v) :: .long (jj u) :: st) (N, S, h) := by
  unfold rr_step; rw [he]; rw [← jj_div hu hv hq] at g; exact ⟨fun q => h0 ((jj_eq hv (by decide)).mp q), c _ _ _ g⟩
theorem s_lrem {u v : Int} (he : rr_nth C k = some (.lrem, a, b, z)) (c : ct C hd d Q K n (k + 1) G) (hu : b6 u) (hv : b6 v) (hq : b6 (u.tdiv v)) (h0 : v ≠ 0) (g : G loc (.long (jj (u.tmod v)) :: st) (N, S, h)) : rr_step C hd d Q K (n + 1) k loc (.long (jj v) :: .long (jj u) :: st) (N, S, h) := by
  unfold rr_step; rw [he]; rw [← jj_rem hu hv hq] at g; exact ⟨fun q => h0 ((jj_eq hv (by decide)).mp q), c _ _ _ g⟩
theorem s_lcmp {u v : Int64} (he : rr_nth C k = some (.lcmp, a, b, z)) (c : ct C hd d Q K n (k + 1) G)  (g : G loc (.int (lg_cmp u v) :: st) (N, S, h)) : rr_step C hd d Q K (n + 1) k loc (.long v :: .long u :: st) (N, S, h) := by
  unfold rr_step; rw [he]; exact c _ _ _ g
theorem s_dup {u : Int32} (he : rr_nth C k = some (.dup, a, b, z)) (c : ct C hd d Q K n (k + 1) G)  (g : G loc (.int u :: .int u :: st) (N, S, h)) : rr_step C hd d Q K (n + 1) k loc (.int u :: st) (N, S, h) := by
  unfold rr_step; rw [he]; exact c _ _ _ g
theorem s_dupr {u : Nat} (he : rr_nth C k = some (.dup, a, b, z)) (c : ct C hd d Q K n (k + 1) G)  (g : G loc (.ref u :: .ref u :: st) (N, S, h)) : rr_step C hd d Q K (n + 1) k loc (.ref u :: st) (N, S, h) := by
  unfold rr_step; rw [he]; exact c _ _ _ g
theorem s_dup2 {u : Int32} {v : Nat} (he : rr_nth C k = some (.dup2, a, b, z)) (c : ct C hd d Q K n (k + 1) G)  (g : G loc (.int u :: .ref v :: .int u :: .ref v :: st) (N, S, h)) : rr_step C hd d Q K (n + 1) k loc (.int u :: .ref v :: st) (N, S, h) := by
  unfold rr_step; rw [he]; exact c _ _ _ g
theorem s_pop {u : Int32} (he : rr_nth C k = some (.pop, a, b, z)) (c : ct C hd d Q K n (k + 1) G)  (g : G loc st (N, S, h)) : rr_step C hd d Q K (n + 1) k loc (.int u :: st) (N, S, h) := by
  unfold rr_step; rw [he]; exact c _ _ _ g
theorem s_goto {x : Int} (he : rr_nth C k = some (.goto x, a, b, z)) (c : ct C hd d Q K n a G)  (g : G loc st (N, S, h)) : rr_step C hd d Q K (n + 1) k loc st (N, S, h) := by
  unfold rr_step; rw [he]; exact c _ _ _ g
theorem s_icmp_eq {x u v : Int} (he : rr_nth C k = some (.if_icmp .eq x, a, b, z)) (c1 : ct C hd d Q K n a G) (c2 : ct C hd d Q K n (k + 1) G') (hu : b3 u) (hv : b3 v) (q1 : u = v → G loc st (N, S, h)) (q2 : u ≠ v → G' loc st (N, S, h)) : rr_step C hd d Q K (n + 1) k loc (.int (ii v) :: .int (ii u) :: st) (N, S, h) := by
  unfold rr_step; rw [he]; exact ⟨fun q => c1 _ _ _ (q1 ((ii_eq hu hv).mp q)), fun q => c2 _ _ _ (q2 (fun e => q ((ii_eq hu hv).mpr e)))⟩
theorem s_if_eq {x u : Int} (he : rr_nth C k = some (.ifCond .eq x, a, b, z)) (c1 : ct C hd d Q K n a G) (c2 : ct C hd d Q K n (k + 1) G') (hu : b3 u) (q1 : u = 0 → G loc st (N, S, h)) (q2 : u ≠ 0 → G' loc st (N, S, h)) : rr_step C hd d Q K (n + 1) k loc (.int (ii u) :: st) (N, S, h) := by
  unfold rr_step; rw [he]; exact ⟨fun q => c1 _ _ _ (q1 ((ii_eq hu (by decide)).mp q)), fun q => c2 _ _ _ (q2 (fun e => q ((ii_eq hu (by decide)).mpr e)))⟩
theorem s_ifl_eq {x u v : Int} (he : rr_nth C k = some (.ifCond .eq x, a, b, z)) (c1 : ct C hd d Q K n a G) (c2 : ct C hd d Q K n (k + 1) G') (hu : b6 u) (hv : b6 v) (q1 : u = v → G loc st (N, S, h)) (q2 : u ≠ v → G' loc st (N, S, h)) : rr_step C hd d Q K (n + 1) k loc (.int (lg_cmp (jj u) (jj v)) :: st) (N, S, h) := by
  unfold rr_step; rw [he]; exact ⟨fun q => c1 _ _ _ (q1 ((jj_eq hu hv).mp (lc_eq.mp q))), fun q => c2 _ _ _ (q2 (fun e => q (lc_eq.mpr ((jj_eq hu hv).mpr e))))⟩
theorem s_icmp_ne {x u v : Int} (he : rr_nth C k = some (.if_icmp .ne x, a, b, z)) (c1 : ct C hd d Q K n a G) (c2 : ct C hd d Q K n (k + 1) G') (hu : b3 u) (hv : b3 v) (q1 : u ≠ v → G loc st (N, S, h)) (q2 : u = v → G' loc st (N, S, h)) : rr_step C hd d Q K (n + 1) k loc (.int (ii v) :: .int (ii u) :: st) (N, S, h) := by
  unfold rr_step; rw [he]; exact ⟨fun q => c1 _ _ _ (q1 (fun e => q ((ii_eq hu hv).mpr e))), fun q => c2 _ _ _ (q2 ((ii_eq hu hv).mp q))⟩
theorem s_if_ne {x u : Int} (he : rr_nth C k = some (.ifCond .ne x, a, b, z)) (c1 : ct C hd d Q K n a G) (c2 : ct C hd d Q K n (k + 1) G') (hu : b3 u) (q1 : u ≠ 0 → G loc st (N, S, h)) (q2 : u = 0 → G' loc st (N, S, h)) : rr_step C hd d Q K (n + 1) k loc (.int (ii u) :: st) (N, S, h) := by
  unfold rr_step; rw [he]; exact ⟨fun q => c1 _ _ _ (q1 (fun e => q ((ii_eq hu (by decide)).mpr e))), fun q => c2 _ _ _ (q2 ((ii_eq hu (by decide)).mp q))⟩
theorem s_ifl_ne {x u v : Int} (he : rr_nth C k = some (.ifCond .ne x, a, b, z)) (c1 : ct C hd d Q K n a G) (c2 : ct C hd d Q K n (k + 1) G') (hu : b6 u) (hv : b6 v) (q1 : u ≠ v → G loc st (N, S, h)) (q2 : u = v → G' loc st (N, S, h)) : rr_step C hd d Q K (n + 1) k loc (.int (lg_cmp (jj u) (jj v)) :: st) (N, S, h) := by
  unfold rr_step; rw [he]; exact ⟨fun q => c1 _ _ _ (q1 (fun e => q (lc_eq.mpr ((jj_eq hu hv).mpr e)))), fun q => c2 _ _ _ (q2 ((jj_eq hu hv).mp (lc_eq.mp q)))⟩
theorem s_icmp_lt {x u v : Int} (he : rr_nth C k = some (.if_icmp .lt x, a, b, z)) (c1 : ct C hd d Q K n a G) (c2 : ct C hd d Q K n (k + 1) G') (hu : b3 u) (hv : b3 v) (q1 : u < v → G loc st (N, S, h)) (q2 : v ≤ u → G' loc st (N, S, h)) : rr_step C hd d Q K (n + 1) k loc (.int (ii v) :: .int (ii u) :: st) (N, S, h) := by
  unfold rr_step; rw [he]; exact ⟨fun q => c1 _ _ _ (q1 ((ii_lt hu hv).mp q)), fun q => c2 _ _ _ (q2 (Int.not_lt.mp (fun e => q ((ii_lt hu hv).mpr e))))⟩
theorem s_if_lt {x u : Int} (he : rr_nth C k = some (.ifCond .lt x, a, b, z)) (c1 : ct C hd d Q K n a G) (c2 : ct C hd d Q K n (k + 1) G') (hu : b3 u) (q1 : u < 0 → G loc st (N, S, h)) (q2 : 0 ≤ u → G' loc st (N, S, h)) : rr_step C hd d Q K (n + 1) k loc (.int (ii u) :: st) (N, S, h) := by
  unfold rr_step; rw [he]; exact ⟨fun q => c1 _ _ _ (q1 ((ii_lt hu (by decide)).mp q)), fun q => c2 _ _ _ (q2 (Int.not_lt.mp (fun e => q ((ii_lt hu (by decide)).mpr e))))⟩
theorem s_ifl_lt {x u v : Int} (he : rr_nth C k = some (.ifCond .lt x, a, b, z)) (c1 : ct C hd d Q K n a G) (c2 : ct C hd d Q K n (k + 1) G') (hu : b6 u) (hv : b6 v) (q1 : u < v → G loc st (N, S, h)) (q2 : v ≤ u → G' loc st (N, S, h)) : rr_step C hd d Q K (n + 1) k loc (.int (lg_cmp (jj u) (jj v)) :: st) (N, S, h) := by
  unfold rr_step; rw [he]; exact ⟨fun q => c1 _ _ _ (q1 ((jj_lt hu hv).mp (lc_lt.mp q))), fun q => c2 _ _ _ (q2 (Int.not_lt.mp (fun e => q (lc_lt.mpr ((jj_lt hu hv).mpr e)))))⟩
theorem s_icmp_ge {x u v : Int} (he : rr_nth C k = some (.if_icmp .ge x, a, b, z)) (c1 : ct C hd d Q K n a G) (c2 : ct C hd d Q K n (k + 1) G') (hu : b3 u) (hv : b3 v) (q1 : v ≤ u → G loc st (N, S, h)) (q2 : u < v → G' loc st (N, S, h)) : rr_step C hd d Q K (n + 1) k loc (.int (ii v) :: .int (ii u) :: st) (N, S, h) := by
  unfold rr_step; rw [he]; exact ⟨fun q => c1 _ _ _ (q1 ((ii_le hv hu).mp q)), fun q => c2 _ _ _ (q2 (Int.not_le.mp (fun e => q ((ii_le hv hu).mpr e))))⟩
theorem s_if_ge {x u : Int} (he : rr_nth C k = some (.ifCond .ge x, a, b, z)) (c1 : ct C hd d Q K n a G) (c2 : ct C hd d Q K n (k + 1) G') (hu : b3 u) (q1 : 0 ≤ u → G loc st (N, S, h)) (q2 : u < 0 → G' loc st (N, S, h)) : rr_step C hd d Q K (n + 1) k loc (.int (ii u) :: st) (N, S, h) := by
  unfold rr_step; rw [he]; exact ⟨fun q => c1 _ _ _ (q1 ((ii_le (by decide) hu).mp q)), fun q => c2 _ _ _ (q2 (Int.not_le.mp (fun e => q ((ii_le (by decide) hu).mpr e))))⟩
theorem s_ifl_ge {x u v : Int} (he : rr_nth C k = some (.ifCond .ge x, a, b, z)) (c1 : ct C hd d Q K n a G) (c2 : ct C hd d Q K n (k + 1) G') (hu : b6 u) (hv : b6 v) (q1 : v ≤ u → G loc st (N, S, h)) (q2 : u < v → G' loc st (N, S, h)) : rr_step C hd d Q K (n + 1) k loc (.int (lg_cmp (jj u) (jj v)) :: st) (N, S, h) := by
  unfold rr_step; rw [he]; exact ⟨fun q => c1 _ _ _ (q1 ((jj_le hv hu).mp (lc_ge.mp q))), fun q => c2 _ _ _ (q2 (Int.not_le.mp (fun e => q (lc_ge.mpr ((jj_le hv hu).mpr e)))))⟩
theorem s_icmp_gt {x u v : Int} (he : rr_nth C k = some (.if_icmp .gt x, a, b, z)) (c1 : ct C hd d Q K n a G) (c2 : ct C hd d Q K n (k + 1) G') (hu : b3 u) (hv : b3 v) (q1 : v < u → G loc st (N, S, h)) (q2 : u ≤ v → G' loc st (N, S, h)) : rr_step C hd d Q K (n + 1) k loc (.int (ii v) :: .int (ii u) :: st) (N, S, h) := by
  unfold rr_step; rw [he]; exact ⟨fun q => c1 _ _ _ (q1 ((ii_lt hv hu).mp q)), fun q => c2 _ _ _ (q2 (Int.not_lt.mp (fun e => q ((ii_lt hv hu).mpr e))))⟩
theorem s_if_gt {x u : Int} (he : rr_nth C k = some (.ifCond .gt x, a, b, z)) (c1 : ct C hd d Q K n a G) (c2 : ct C hd d Q K n (k + 1) G') (hu : b3 u) (q1 : 0 < u → G loc st (N, S, h)) (q2 : u ≤ 0 → G' loc st (N, S, h)) : rr_step C hd d Q K (n + 1) k loc (.int (ii u) :: st) (N, S, h) := by
  unfold rr_step; rw [he]; exact ⟨fun q => c1 _ _ _ (q1 ((ii_lt (by decide) hu).mp q)), fun q => c2 _ _ _ (q2 (Int.not_lt.mp (fun e => q ((ii_lt (by decide) hu).mpr e))))⟩
theorem s_ifl_gt {x u v : Int} (he : rr_nth C k = some (.ifCond .gt x, a, b, z)) (c1 : ct C hd d Q K n a G) (c2 : ct C hd d Q K n (k + 1) G') (hu : b6 u) (hv : b6 v) (q1 : v < u → G loc st (N, S, h)) (q2 : u ≤ v → G' loc st (N, S, h)) : rr_step C hd d Q K (n + 1) k loc (.int (lg_cmp (jj u) (jj v)) :: st) (N, S, h) := by
  unfold rr_step; rw [he]; exact ⟨fun q => c1 _ _ _ (q1 ((jj_lt hv hu).mp (lc_gt.mp q))), fun q => c2 _ _ _ (q2 (Int.not_lt.mp (fun e => q (lc_gt.mpr ((jj_lt hv hu).mpr e)))))⟩
theorem s_icmp_le {x u v : Int} (he : rr_nth C k = some (.if_icmp .le x, a, b, z)) (c1 : ct C hd d Q K n a G) (c2 : ct C hd d Q K n (k + 1) G') (hu : b3 u) (hv : b3 v) (q1 : u ≤ v → G loc st (N, S, h)) (q2 : v < u → G' loc st (N, S, h)) : rr_step C hd d Q K (n + 1) k loc (.int (ii v) :: .int (ii u) :: st) (N, S, h) := by
  unfold rr_step; rw [he]; exact ⟨fun q => c1 _ _ _ (q1 ((ii_le hu hv).mp q)), fun q => c2 _ _ _ (q2 (Int.not_le.mp (fun e => q ((ii_le hu hv).mpr e))))⟩
theorem s_if_le {x u : Int} (he : rr_nth C k = some (.ifCond .le x, a, b, z)) (c1 : ct C hd d Q K n a G) (c2 : ct C hd d Q K n (k + 1) G') (hu : b3 u) (q1 : u ≤ 0 → G loc st (N, S, h)) (q2 : 0 < u → G' loc st (N, S, h)) : rr_step C hd d Q K (n + 1) k loc (.int (ii u) :: st) (N, S, h) := by
  unfold rr_step; rw [he]; exact ⟨fun q => c1 _ _ _ (q1 ((ii_le hu (by decide)).mp q)), fun q => c2 _ _ _ (q2 (Int.not_le.mp (fun e => q ((ii_le hu (by decide)).mpr e))))⟩
theorem s_ifl_le {x u v : Int} (he : rr_nth C k = some (.ifCond .le x, a, b, z)) (c1 : ct C hd d Q K n a G) (c2 : ct C hd d Q K n (k + 1) G') (hu : b6 u) (hv : b6 v) (q1 : u ≤ v → G loc st (N, S, h)) (q2 : v < u → G' loc st (N, S, h)) : rr_step C hd d Q K (n + 1) k loc (.int (lg_cmp (jj u) (jj v)) :: st) (N, S, h) := by
  unfold rr_step; rw [he]; exact ⟨fun q => c1 _ _ _ (q1 ((jj_le hu hv).mp (lc_le.mp q))), fun q => c2 _ _ _ (q2 (Int.not_le.mp (fun e => q (lc_le.mpr ((jj_le hu hv).mpr e)))))⟩
theorem rb_0 {p : Prop} {D : Decidable p} : @rb p D = 0 ↔ ¬ p := ⟨fun e hp => absurd (e.symm.trans (@rb_t p D hp)) (by decide), fun hp => @rb_f p D hp⟩
theorem s_ifb_eq {x : Int} {p : Prop} {D : Decidable p} (he : rr_nth C k = some (.ifCond .eq x, a, b, z)) (c1 : ct C hd d Q K n a G) (c2 : ct C hd d Q K n (k + 1) G') (q1 : ¬ p → G loc st (N, S, h)) (q2 : p → G' loc st (N, S, h)) : rr_step C hd d Q K (n + 1) k loc (.int (@rb p D) :: st) (N, S, h) := by
  unfold rr_step; rw [he]; exact ⟨fun q => c1 _ _ _ (q1 (rb_0.mp q)), fun q => c2 _ _ _ (q2 (Decidable.not_not.mp (fun e => q (rb_0.mpr e))))⟩
theorem s_ifb_ne {x : Int} {p : Prop} {D : Decidable p} (he : rr_nth C k = some (.ifCond .ne x, a, b, z)) (c1 : ct C hd d Q K n a G) (c2 : ct C hd d Q K n (k + 1) G') (q1 : p → G loc st (N, S, h)) (q2 : ¬ p → G' loc st (N, S, h)) : rr_step C hd d Q K (n + 1) k loc (.int (@rb p D) :: st) (N, S, h) := by
  unfold rr_step; rw [he]; exact ⟨fun q => c1 _ _ _ (q1 (Decidable.not_not.mp (fun e => q (rb_0.mpr e)))), fun q => c2 _ _ _ (q2 (rb_0.mp q))⟩
theorem s_getfield {x q : Nat} {fs : List Value} {v : Value} (he : rr_nth C k = some (.getfield x, a, b, z)) (c : ct C hd d Q K n (k + 1) G) (ho : h q = some (.inr (a, fs))) (hf : rr_nth fs b = some v) (g : G loc (v :: st) (N, S, h)) : rr_step C hd d Q K (n + 1) k loc (.ref q :: st) (N, S, h) := by
  unfold rr_step; rw [he]; dsimp only [rr_ex, rr_ex0]; refine ⟨fs, ho, ?_⟩; rw [hf]; exact c _ _ _ g
theorem s_puti {i q : Nat} {fs : List Value} {x : Int32} (he : rr_nth C k = some (.putfield i, a, b, z)) (c : ct C hd d Q K n (k + 1) G) (ht : rr_ftc a b = 0)  (ho : h q = some (.inr (a, fs))) (hl : Nat.blt b fs.length = true) (g : G loc st (N, S, rr_set h q (.inr (a, fs.set b (.int x))))) : rr_step C hd d Q K (n + 1) k loc (.int x :: .ref q :: st) (N, S, h) := by
  unfold rr_step; rw [he]; dsimp only [rr_ex, rr_ex0]; rw [ht]; exact ⟨fs, ho, by rw [hl]; exact c _ _ _ g⟩
theorem s_putl {i q : Nat} {fs : List Value} {x : Int64} (he : rr_nth C k = some (.putfield i, a, b, z)) (c : ct C hd d Q K n (k + 1) G) (ht : rr_ftc a b = 1)  (ho : h q = some (.inr (a, fs))) (hl : Nat.blt b fs.length = true) (g : G loc st (N, S, rr_set h q (.inr (a, fs.set b (.long x))))) : rr_step C hd d Q K (n + 1) k loc (.long x :: .ref q :: st) (N, S, h) := by
  unfold rr_step; rw [he]; dsimp only [rr_ex, rr_ex0]; rw [ht]; exact ⟨fs, ho, by rw [hl]; exact c _ _ _ g⟩
theorem s_putz {i q : Nat} {fs : List Value} {x : Int32} (he : rr_nth C k = some (.putfield i, a, b, z)) (c : ct C hd d Q K n (k + 1) G) (ht : rr_ftc a b = 2) (h01 : x = 0 ∨ x = 1) (ho : h q = some (.inr (a, fs))) (hl : Nat.blt b fs.length = true) (g : G loc st (N, S, rr_set h q (.inr (a, fs.set b (.int x))))) : rr_step C hd d Q K (n + 1) k loc (.int x :: .ref q :: st) (N, S, h) := by
  unfold rr_step; rw [he]; dsimp only [rr_ex, rr_ex0]; rw [ht]; exact ⟨h01, ⟨fs, ho, by rw [hl]; exact c _ _ _ g⟩⟩
theorem s_putr {i q : Nat} {fs : List Value} {x : Nat} (he : rr_nth C k = some (.putfield i, a, b, z)) (c : ct C hd d Q K n (k + 1) G) (ht : rr_ftc a b = 3)  (ho : h q = some (.inr (a, fs))) (hl : Nat.blt b fs.length = true) (g : G loc st (N, S, rr_set h q (.inr (a, fs.set b (.ref x))))) : rr_step C hd d Q K (n + 1) k loc (.ref x :: .ref q :: st) (N, S, h) := by
  unfold rr_step; rw [he]; dsimp only [rr_ex, rr_ex0]; rw [ht]; exact ⟨fs, ho, by rw [hl]; exact c _ _ _ g⟩
theorem s_getstatic {x : Nat} {v : Value} (he : rr_nth C k = some (.getstatic x, a, b, z)) (c : ct C hd d Q K n (k + 1) G) (e : rr_nth rr_stv a = some v) (g : G loc (v :: st) (N, S, h)) : rr_step C hd d Q K (n + 1) k loc st (N, S, h) := by
  unfold rr_step; rw [he]; dsimp only [rr_ex, rr_ex0]; rw [e]; exact c _ _ _ g
theorem s_arraylength {q cc m : Nat} {x : (Nat → Int32) ⊕ (Nat → Int64) ⊕ (Nat → UInt32) ⊕ (Nat → UInt64) ⊕ (Nat → Option Nat)} (he : rr_nth C k = some (.arraylength, a, b, z)) (c : ct C hd d Q K n (k + 1) G) (ho : h q = some (.inl (cc, m, x))) (e : Int32.ofNat m = ii (m : Int)) (g : G loc (.int (ii (m : Int)) :: st) (N, S, h)) : rr_step C hd d Q K (n + 1) k loc (.ref q :: st) (N, S, h) := by
  unfold rr_step; rw [he]; rw [← e] at g; exact ⟨cc, m, x, ho, c _ _ _ g⟩
theorem s_iaload {q cc m : Nat} {x u : Int} {f : Nat → Int32} (he : rr_nth C k = some (.iaload, a, b, z)) (c : ct C hd d Q K n (k + 1) G) (i : Nat) (ei : x = i) (ho : h q = some (.inl (cc, m, .inl f))) (hc : (Nat.beq cc 0 || Nat.beq cc 8) = true) (hi : i < m) (hm : m ≤ 2147483647) (hf : f i = ii u) (g : G loc (.int (ii u) :: st) (N, S, h)) : rr_step C hd d Q K (n + 1) k loc (.int (ii x) :: .ref q :: st) (N, S, h) := by
  unfold rr_step; rw [he]; subst ei; rw [← hf] at g; refine ⟨cc, m, f, ho, ?_⟩; rw [hc, ii_cl (by omega)]; exact ⟨ii_vp hi hm, c _ _ _ g⟩
theorem s_baload {q cc m : Nat} {x : Int} {u : Int32} {f : Nat → Int32} (he : rr_nth C k = some (.baload, a, b, z)) (c : ct C hd d Q K n (k + 1) G) (i : Nat) (ei : x = i) (ho : h q = some (.inl (cc, m, .inl f))) (hc : (Nat.beq cc 2 || Nat.beq cc 9) = true) (hi : i < m) (hm : m ≤ 2147483647) (hf : f i = u) (g : G loc (.int u :: st) (N, S, h)) : rr_step C hd d Q K (n + 1) k loc (.int (ii x) :: .ref q :: st) (N, S, h) := by
  unfold rr_step; rw [he]; subst ei; rw [← hf] at g; refine ⟨cc, m, f, ho, ?_⟩; rw [hc, ii_cl (by omega)]; exact ⟨ii_vp hi hm, c _ _ _ g⟩
theorem s_laload {q m : Nat} {x u : Int} {f : Nat → Int64} (he : rr_nth C k = some (.laload, a, b, z)) (c : ct C hd d Q K n (k + 1) G) (i : Nat) (ei : x = i) (ho : h q = some (.inl (1, m, .inr (.inl f)))) (hi : i < m) (hm : m ≤ 2147483647) (hf : f i = jj u) (g : G loc (.long (jj u) :: st) (N, S, h)) : rr_step C hd d Q K (n + 1) k loc (.int (ii x) :: .ref q :: st) (N, S, h) := by
  unfold rr_step; rw [he]; subst ei; rw [← hf] at g; refine ⟨m, f, ho, ?_⟩; rw [ii_cl (by omega)]; exact ⟨ii_vp hi hm, c _ _ _ g⟩
theorem s_laload_r {q m : Nat} {x : Int} {f : Nat → Int64} (he : rr_nth C k = some (.laload, a, b, z)) (c : ct C hd d Q K n (k + 1) G) (i : Nat) (ei : x = i) (ho : h q = some (.inl (1, m, .inr (.inl f)))) (hi : i < m) (hm : m ≤ 2147483647) (g : G loc (.long (f i) :: st) (N, S, h)) : rr_step C hd d Q K (n + 1) k loc (.int (ii x) :: .ref q :: st) (N, S, h) := by
  unfold rr_step; rw [he]; subst ei; refine ⟨m, f, ho, ?_⟩; rw [ii_cl (by omega)]; exact ⟨ii_vp hi hm, c _ _ _ g⟩
theorem s_aaload {q m t : Nat} {x : Int} {f : Nat → Option Nat} (he : rr_nth C k = some (.aaload, a, b, z)) (c : ct C hd d Q K n (k + 1) G) (i : Nat) (ei : x = i) (ho : h q = some (.inl (3, m, .inr (.inr (.inr (.inr f)))))) (hi : i < m) (hm : m ≤ 2147483647) (hf : f i = some t) (g : G loc (.ref t :: st) (N, S, h)) : rr_step C hd d Q K (n + 1) k loc (.int (ii x) :: .ref q :: st) (N, S, h) := by
  unfold rr_step; rw [he]; subst ei; refine ⟨m, f, ho, ?_⟩; rw [ii_cl (by omega)]; exact ⟨ii_vp hi hm, t, hf, c _ _ _ g⟩
theorem s_iastore {q m : Nat} {x u : Int} {v : Nat → Int} (he : rr_nth C k = some (.iastore, a, b, z)) (c : ct C hd d Q K n (k + 1) G) (i : Nat) (ei : x = i) (ho : h q = some (.inl (0, m, .inl (fun j => ii (v j))))) (hi : i < m) (hm : m ≤ 2147483647) (g : G loc st (N, S, rr_set h q (.inl (0, m, .inl (fun j => ii (fu v i u j)))))) : rr_step C hd d Q K (n + 1) k loc (.int (ii u) :: .int (ii x) :: .ref q :: st) (N, S, h) := by
  unfold rr_step; rw [he]; subst ei; rw [← fu_u] at g; refine ⟨m, _, ho, ?_⟩; rw [ii_cl (by omega)]; exact ⟨ii_vp hi hm, c _ _ _ g⟩
theorem s_bastore {q m : Nat} {x : Int} {u : Int32} {f : Nat → Int32} (he : rr_nth C k = some (.bastore, a, b, z)) (c : ct C hd d Q K n (k + 1) G) (i : Nat) (ei : x = i) (h01 : u = 0 ∨ u = 1) (ho : h q = some (.inl (2, m, .inl f))) (hi : i < m) (hm : m ≤ 2147483647) (g : G loc st (N, S, rr_set h q (.inl (2, m, .inl (upd f i u))))) : rr_step C hd d Q K (n + 1) k loc (.int u :: .int (ii x) :: .ref q :: st) (N, S, h) := by
  unfold rr_step; rw [he]; subst ei; refine ⟨m, _, ho, ?_⟩; rw [ii_cl (by omega)]; exact ⟨ii_vp hi hm, h01, c _ _ _ g⟩
theorem s_lastore {q m : Nat} {x u : Int} {v : Nat → Int} (he : rr_nth C k = some (.lastore, a, b, z)) (c : ct C hd d Q K n (k + 1) G) (i : Nat) (ei : x = i) (ho : h q = some (.inl (1, m, .inr (.inl (fun j => jj (v j)))))) (hi : i < m) (hm : m ≤ 2147483647) (g : G loc st (N, S, rr_set h q (.inl (1, m, .inr (.inl (fun j => jj (fu v i u j))))))) : rr_step C hd d Q K (n + 1) k loc (.long (jj u) :: .int (ii x) :: .ref q :: st) (N, S, h) := by
  unfold rr_step; rw [he]; subst ei; rw [← fu_ul] at g; refine ⟨m, _, ho, ?_⟩; rw [ii_cl (by omega)]; exact ⟨ii_vp hi hm, c _ _ _ g⟩
theorem s_virt {x cc q : Nat} {fs : List Value} {args rest : List Value} {Q' : Option Value → rr_H → Prop} (he : rr_nth C k = some (.invokevirtual x, a, b, z)) (c : ct C hd d Q K n (k + 1) G) (hp : rr_pop b [] st = some (.ref q :: args, rest)) (hc : rr_nth rr_mcl a = some cc) (ho : h q = some (.inr (cc, fs))) (hb : (Nat.ble (rr_cat rest) 8 && Nat.ble (rr_cat (.ref q :: args)) (rr_max a)) = true) (t : rr_Calls d a (.ref q :: args) (N, S, h) Q') (g : ∀ r R, Q' r R → G loc (rr_push r rest) R) : rr_step C hd d Q K (n + 1) k loc st (N, S, h) := by
  unfold rr_step; rw [he]
  dsimp only [rr_ex, rr_ex0]
  rw [hp]
  dsimp only
  rw [hc]
  refine ⟨fs, ho, ?_⟩
  rw [hb]
  exact ⟨Q', t, fun r R q => c _ _ _ (g r R q)⟩
theorem s_stat {x : Nat} {args rest : List Value} {Q' : Option Value → rr_H → Prop} (he : rr_nth C k = some (.invokestatic x, a, b, z)) (c : ct C hd d Q K n (k + 1) G) (hp : rr_pop b [] st = some (args, rest)) (hn : (Nat.beq a 9999 || Nat.beq a 9997 || Nat.beq a 9996) = false) (hb : (Nat.ble (rr_cat rest) 8 && Nat.ble (rr_cat args) (rr_max a)) = true) (t : rr_Calls d a args (N, S, h) Q') (g : ∀ r R, Q' r R → G loc (rr_push r rest) R) : rr_step C hd d Q K (n + 1) k loc st (N, S, h) := by
  have h3 := (Bool.or_eq_false_iff.mp hn).2
  have h2 := (Bool.or_eq_false_iff.mp (Bool.or_eq_false_iff.mp hn).1).2
  have h1 := (Bool.or_eq_false_iff.mp (Bool.or_eq_false_iff.mp hn).1).1
  unfold rr_step; rw [he]
  dsimp only [rr_ex, rr_ex0]
  rw [h1, h2, h3, hp]
  dsimp only [cond]
  rw [hb]
  exact ⟨Q', t, fun r R q => c _ _ _ (g r R q)⟩
theorem s_max {x : Nat} {u v : Int} (he : rr_nth C k = some (.invokestatic x, 9997, b, z)) (c : ct C hd d Q K n (k + 1) G) (hs : Nat.ble (rr_cat st) 8 = true) (hu : b6 u) (hv : b6 v) (g : G loc (.long (jj (if v < u then u else v)) :: st) (N, S, h)) : rr_step C hd d Q K (n + 1) k loc (.long (jj v) :: .long (jj u) :: st) (N, S, h) := by
  have e : (if jj v < jj u then jj u else jj v) = jj (if v < u then u else v) := by
    by_cases q : v < u
    · rw [if_pos q, if_pos ((jj_lt hv hu).mpr q)]
    · rw [if_neg q, if_neg (fun q' => q ((jj_lt hv hu).mp q'))]
  rw [← e] at g
  unfold rr_step; rw [he]
  dsimp only [rr_ex, rr_ex0]
  rw [show Nat.beq 9997 9999 = false by decide, show Nat.beq 9997 9997 = true by decide]
  dsimp only [cond]
  rw [hs]
  exact c _ _ _ g
theorem s_abs {x : Nat} {u : Int} (he : rr_nth C k = some (.invokestatic x, 9996, b, z)) (c : ct C hd d Q K n (k + 1) G) (hs : Nat.ble (rr_cat st) 8 = true) (hu : b6 u) (g : G loc (.long (jj (if 0 < u then u else -u)) :: st) (N, S, h)) : rr_step C hd d Q K (n + 1) k loc (.long (jj u) :: st) (N, S, h) := by
  have e : (if 0 < jj u then jj u else -jj u) = jj (if 0 < u then u else -u) := by
    by_cases q : 0 < u
    · rw [if_pos q, if_pos (show (0 : Int64) < jj u from (jj_lt (a := 0) (by decide) hu).mpr q)]
    · rw [if_neg q, if_neg (show ¬ (0 : Int64) < jj u from fun q' => q ((jj_lt (a := 0) (by decide) hu).mp q')), jj_neg]
  rw [← e] at g
  unfold rr_step; rw [he]
  dsimp only [rr_ex, rr_ex0]
  rw [show Nat.beq 9996 9999 = false by decide, show Nat.beq 9996 9997 = false by decide, show Nat.beq 9996 9996 = true by decide]
  dsimp only [cond]
  rw [hs]
  exact c _ _ _ g
theorem s_copy {x q0 q1 n0 n1 sp dp m : Nat} {f f' : Nat → Int} (he : rr_nth C k = some (.invokestatic x, 9999, b, 0)) (c : ct C hd d Q K n (k + 1) G) (h0 : h q0 = some (.inl (0, n0, .inl (fun j => ii (f j))))) (h1 : h q1 = some (.inl (0, n1, .inl (fun j => ii (f' j))))) (hn0 : n0 ≤ 2147483647) (hn1 : n1 ≤ 2147483647) (hs : sp + m ≤ n0) (hd' : dp + m ≤ n1) (hr : Nat.ble (rr_cat st) 8 = true) (g : G loc st (N, S, rr_set h q1 (.inl (0, n1, .inl (fun j => ii (fc f f' sp dp m j)))))) : rr_step C hd d Q K (n + 1) k loc (.int (ii (m : Int)) :: .int (ii (dp : Int)) :: .ref q1 :: .int (ii (sp : Int)) :: .ref q0 :: st) (N, S, h) := by
  have z0 : ∀ j : Nat, j ≤ 2147483647 → ¬ ii (j : Int) < 0 := fun j hj => by
    rw [show (0 : Int32) = ii 0 from rfl, ii_lt ⟨by omega, by omega⟩ (by decide)]; omega
  rw [← fc_c] at g
  unfold rr_step; rw [he]
  refine ⟨n0, _, n1, _, h0, h1, ⟨z0 _ (by omega), z0 _ (by omega), z0 _ (by omega), ?_, ?_⟩, ?_⟩
  · rw [ii_cl (by omega), ii_cl (by omega)]; exact hs
  · rw [ii_cl (by omega), ii_cl (by omega)]; exact hd'
  · rw [hr, ii_cl (by omega), ii_cl (by omega), ii_cl (by omega)]; exact c _ _ _ g
theorem s_copyl {x q0 q1 n0 n1 sp dp m : Nat} {f f' : Nat → Int} (he : rr_nth C k = some (.invokestatic x, 9999, b, 1)) (c : ct C hd d Q K n (k + 1) G) (h0 : h q0 = some (.inl (1, n0, .inr (.inl (fun j => jj (f j)))))) (h1 : h q1 = some (.inl (1, n1, .inr (.inl (fun j => jj (f' j)))))) (hn0 : n0 ≤ 2147483647) (hn1 : n1 ≤ 2147483647) (hs : sp + m ≤ n0) (hd' : dp + m ≤ n1) (hr : Nat.ble (rr_cat st) 8 = true) (g : G loc st (N, S, rr_set h q1 (.inl (1, n1, .inr (.inl (fun j => jj (fc f f' sp dp m j))))))) : rr_step C hd d Q K (n + 1) k loc (.int (ii (m : Int)) :: .int (ii (dp : Int)) :: .ref q1 :: .int (ii (sp : Int)) :: .ref q0 :: st) (N, S, h) := by
  have z0 : ∀ j : Nat, j ≤ 2147483647 → ¬ ii (j : Int) < 0 := fun j hj => by
    rw [show (0 : Int32) = ii 0 from rfl, ii_lt ⟨by omega, by omega⟩ (by decide)]; omega
  rw [← fc_cl] at g
  unfold rr_step; rw [he]
  refine ⟨n0, _, n1, _, h0, h1, ⟨z0 _ (by omega), z0 _ (by omega), z0 _ (by omega), ?_, ?_⟩, ?_⟩
  · rw [ii_cl (by omega), ii_cl (by omega)]; exact hs
  · rw [ii_cl (by omega), ii_cl (by omega)]; exact hd'
  · rw [hr, ii_cl (by omega), ii_cl (by omega), ii_cl (by omega)]; exact c _ _ _ g
theorem s_spec {x q : Nat} {args rest : List Value} {Q' : Option Value → rr_H → Prop} (he : rr_nth C k = some (.invokespecial x, a, b, z)) (c : ct C hd d Q K n (k + 1) G) (hp : rr_pop b [] st = some (.ref q :: args, rest)) (hn : Nat.beq a 9998 = false) (hb : (Nat.ble (rr_cat rest) 8 && Nat.ble (rr_cat (.ref q :: args)) (rr_max a)) = true) (t : rr_Calls d a (.ref q :: args) (N, S, h) Q') (g : ∀ r R, Q' r R → G loc (rr_push r rest) R) : rr_step C hd d Q K (n + 1) k loc st (N, S, h) := by
  unfold rr_step; rw [he]
  dsimp only [rr_ex, rr_ex0]
  rw [hp]
  dsimp only
  rw [hn]
  dsimp only [cond]
  rw [hb]
  exact ⟨Q', t, fun r R q => c _ _ _ (g r R q)⟩
def sws (C : List rr_I) (hd : List Nat) (d : Nat) (Q : Option Value → rr_H → Prop) (K : Nat → rr_L → List Value → rr_H → Prop) (n : Nat) (loc : rr_L) (st : List Value) (H : rr_H) (x : Int) (dt : Nat) : List (Int × Nat) → Prop
  | [] => cond (rr_mem hd dt) (K dt loc st H) (rr_step C hd d Q K n dt loc st H)
  | (v, t) :: l => (x = v → cond (rr_mem hd t) (K t loc st H) (rr_step C hd d Q K n t loc st H)) ∧ (x ≠ v → sws C hd d Q K n loc st H x dt l)
theorem sws_s {x : Int} {dt : Nat} {H : rr_H} {x' : Int32} (hx : x'.toInt = x) : ∀ {l : List (Int × Nat)}, sws C hd d Q K n loc st H x dt l → rr_sws x' (cond (rr_mem hd dt) (K dt loc st H) (rr_step C hd d Q K n dt loc st H)) (fun t => cond (rr_mem hd t) (K t loc st H) (rr_step C hd d Q K n t loc st H)) l
  | [], g => g
  | (v, t) :: l, g => ⟨fun e => g.1 (hx.symm.trans e), fun e => sws_s hx (g.2 (fun q => e (hx.trans q)))⟩
theorem s_tsw {x u1 u2 u3 : Int} {u4 : Array Int} {l : List (Int × Nat)} (he : rr_nth C k = some (.tableswitch u1 u2 u3 u4, a, b, z)) (hl : rr_nth rr_sw b = some l) (hx : b3 x) (g : sws C hd d Q K n loc st (N, S, h) x a l) : rr_step C hd d Q K (n + 1) k loc (.int (ii x) :: st) (N, S, h) := by
  unfold rr_step; rw [he]
  dsimp only [rr_ex, rr_ex0]
  rw [hl]
  exact sws_s (ii_toInt hx) g
theorem s_lsw {x u1 : Int} {u2 : Array (Int × Int)} {l : List (Int × Nat)} (he : rr_nth C k = some (.lookupswitch u1 u2, a, b, z)) (hl : rr_nth rr_sw b = some l) (hx : b3 x) (g : sws C hd d Q K n loc st (N, S, h) x a l) : rr_step C hd d Q K (n + 1) k loc (.int (ii x) :: st) (N, S, h) := by
  unfold rr_step; rw [he]
  dsimp only [rr_ex, rr_ex0]
  rw [hl]
  exact sws_s (ii_toInt hx) g
theorem s_ireturn {x : Int32} (he : rr_nth C k = some (.ireturn, 0, b, z)) (g : Q (some (.int x)) (N, S, h)) : rr_step C hd d Q K (n + 1) k loc [.int x] (N, S, h) := by
  unfold rr_step; rw [he]; exact g
theorem s_zreturn {x : Int32} (he : rr_nth C k = some (.ireturn, 1, b, z)) (h01 : x = 0 ∨ x = 1) (g : Q (some (.int x)) (N, S, h)) : rr_step C hd d Q K (n + 1) k loc [.int x] (N, S, h) := by
  unfold rr_step; rw [he]; exact ⟨h01, g⟩
theorem s_lreturn {x : Int64} (he : rr_nth C k = some (.lreturn, a, b, z)) (g : Q (some (.long x)) (N, S, h)) : rr_step C hd d Q K (n + 1) k loc [.long x] (N, S, h) := by
  unfold rr_step; rw [he]; exact g
theorem s_areturn {x : Nat} (he : rr_nth C k = some (.areturn, a, b, z)) (g : Q (some (.ref x)) (N, S, h)) : rr_step C hd d Q K (n + 1) k loc [.ref x] (N, S, h) := by
  unfold rr_step; rw [he]; exact g
theorem s_return (he : rr_nth C k = some (.return_, a, b, z)) (g : Q none (N, S, h)) : rr_step C hd d Q K (n + 1) k loc [] (N, S, h) := by
  unfold rr_step; rw [he]; exact g
end
