/-! Each call of the class over the invariant. -/
noncomputable def dA (x : Nat ⊕ List Dd) (n : Nat) (v : Nat → Int) : Int × Nat × (Nat → Int) := match x with
  | .inl f => (-100 - (f : Int), n, v)
  | .inr L => crun L n v
def itz (it : Nat → Nat → Int) (a : Nat) : Nat → Nat → Int := fun l k => if l = a then zr (it l) 30 k else it l k
def its (it : Nat → Nat → Int) (a i : Nat) (x : Int) : Nat → Nat → Int := fun l k => if l = a then fu (it l) i x k else it l k
theorem okV_f {n : Nat} {v : Nat → Int} (h : okV n v) {g : Nat} {b : Int} (hg : 1 ≤ g) (hb : -999 ≤ b ∧ b ≤ 999) : okV n (fu v g b) := ⟨h.1, fu_hv h.2.1 hb, by rw [fu_n (by omega)]; exact h.2.2⟩
theorem okV_c {n m : Nat} {v w : Nat → Int} (h : okV n v) (h' : okV m w) : okV n (fc v w 0 0 16) := ⟨h.1, fc_hv h.2.1 h'.2.1, by rw [fc_lo (by decide)]; exact h.2.2⟩
theorem D_people {d N S L : Nat} {xs : Nat → Int32} {n : Nat} {v : Nat → Int} {kn : Nat} {kv : Nat → Int} {im : Int} {tl : Nat} {tp sz : Nat → Int} {it : Nat → Nat → Int} {h : Nat → Option rr_E} (hA : IA n v kn kv im tl tp sz it) (hD : ID n v kn kv im tl tp sz it h) (hR : IRo L xs h) {a : Int} (ha_ : b3 a) : rr_Calls (d + 20) j_Desk_people [.ref 0, .int (ii a)] (N, S, h) (fun r R => r = some (.int (ii (cite (2 ≤ a ∧ a ≤ 4) (n : Int) (-2)))) ∧ ∃ h', R = (N, S, h') ∧ (∀ k, 58 ≤ k → h' k = h k) ∧ ID (cite (2 ≤ a ∧ a ≤ 4) a.toNat n) (cite (2 ≤ a ∧ a ≤ 4) (zr v 16) v) kn kv im tl tp sz it h' ∧ IA (cite (2 ≤ a ∧ a ≤ 4) a.toNat n) (cite (2 ≤ a ∧ a ≤ 4) (zr v 16) v) kn kv im tl tp sz it) := by
  have hD0 := hD
  obtain ⟨sl, dc, dp, df, dv, n5, be3, x3, y3, be6, x6, y6, x4, y4, k9, f10, s11, w12, w0, A3, E3, A6, E6, W4, c0, hsl, c1, c2, c3, c4, c5, c6, hw0, c7, c8, c9, c10, c11, c12, hraw, hsv, hraw2, c43, c44, c45, c46, c47, c48, c49, c50, c51, c52, c53, c57⟩ := hD
  obtain ⟨hV, hKV, htl, htp, hsz, hb, him⟩ := id hA
  obtain ⟨hn, hv, h0⟩ := id hV
  skip
  refine calls_w (calls_d (d_people (d := d + 17) hn c1 c2 c0 ha_) (show d + 17 + 3 = d + 20 by omega)) ?_
  rintro _ _ (⟨q, rfl, rfl⟩ | ⟨q, rfl, h', rfl, c0, c1, c2, hf⟩)
  · exact ⟨by rw [ci_n q], h, rfl, fun _ _ => rfl, by rw [ci_n q, ci_n q]; exact hD0, by rw [ci_n q, ci_n q]; exact hA⟩
  · obtain ⟨m, rfl⟩ := Int.eq_ofNat_of_zero_le (show 0 ≤ a by omega)
    exact ⟨by rw [ci_y q], h', rfl, fun k hk => hf k (by simp; omega), by rw [ci_y q, ci_y q]; exact ⟨_, _, _, _, _, _, _, _, _, _, _, _, _, _, _, _, _, _, _, _, _, _, _, _, c0, Or.inr rfl, c1, c2, (hf 3 (by decide)).trans c3, (hf 4 (by decide)).trans c4, (hf 5 (by decide)).trans c5, (hf 6 (by decide)).trans c6, hw0, (hf 7 (by decide)).trans c7, (hf 8 (by decide)).trans c8, (hf 9 (by decide)).trans c9, (hf 10 (by decide)).trans c10, (hf 11 (by decide)).trans c11, (hf 12 (by decide)).trans c12, fr_RAW13 hf (by decide) (fun i hi => by first | (simp; done) | (simp; omega)) hraw, fun e => absurd e (by decide), fr_RAW28 hf (by decide) (fun i hi => by first | (simp; done) | (simp; omega)) hraw2, (hf 43 (by decide)).trans c43, (hf 44 (by decide)).trans c44, (hf 45 (by decide)).trans c45, (hf 46 (by decide)).trans c46, (hf 47 (by decide)).trans c47, (hf 48 (by decide)).trans c48, (hf 49 (by decide)).trans c49, (hf 50 (by decide)).trans c50, (hf 51 (by decide)).trans c51, (hf 52 (by decide)).trans c52, (fun l hl => (hf (53 + l) (by first | (simp; done) | (simp; omega))).trans (c53 l hl)), (hf 57 (by decide)).trans c57⟩, by rw [ci_y q, ci_y q]; exact ⟨okV_z hV (m := m) (by omega), hKV, htl, htp, hsz, hb, him⟩⟩
theorem D_worth {d N S L : Nat} {xs : Nat → Int32} {n : Nat} {v : Nat → Int} {kn : Nat} {kv : Nat → Int} {im : Int} {tl : Nat} {tp sz : Nat → Int} {it : Nat → Nat → Int} {h : Nat → Option rr_E} (hA : IA n v kn kv im tl tp sz it) (hD : ID n v kn kv im tl tp sz it h) (hR : IRo L xs h) {a : Int} (ha_ : b3 a) {b : Int} (hb_ : b3 b) : rr_Calls (d + 20) j_Desk_worth [.ref 0, .int (ii a), .int (ii b)] (N, S, h) (fun r R => r = some (.long (jj (cite ((1 ≤ a ∧ a ≤ (al n : Int)) ∧ (-999 ≤ b ∧ b ≤ 999)) (v a.toNat) (-9223372036854775808)))) ∧ ∃ h', R = (N, S, h') ∧ (∀ k, 58 ≤ k → h' k = h k) ∧ ID n (cite ((1 ≤ a ∧ a ≤ (al n : Int)) ∧ (-999 ≤ b ∧ b ≤ 999)) (fu v a.toNat b) v) kn kv im tl tp sz it h' ∧ IA n (cite ((1 ≤ a ∧ a ≤ (al n : Int)) ∧ (-999 ≤ b ∧ b ≤ 999)) (fu v a.toNat b) v) kn kv im tl tp sz it) := by
  have hD0 := hD
  obtain ⟨sl, dc, dp, df, dv, n5, be3, x3, y3, be6, x6, y6, x4, y4, k9, f10, s11, w12, w0, A3, E3, A6, E6, W4, c0, hsl, c1, c2, c3, c4, c5, c6, hw0, c7, c8, c9, c10, c11, c12, hraw, hsv, hraw2, c43, c44, c45, c46, c47, c48, c49, c50, c51, c52, c53, c57⟩ := hD
  obtain ⟨hV, hKV, htl, htp, hsz, hb, him⟩ := id hA
  obtain ⟨hn, hv, h0⟩ := id hV
  skip
  refine calls_w (calls_d (d_worth (d := d + 17) hn c1 c2 hv c0 ha_ hb_) (show d + 17 + 3 = d + 20 by omega)) ?_
  rintro _ _ (⟨q, rfl, rfl⟩ | ⟨q, rfl, h', rfl, c0, c2, hf⟩)
  · exact ⟨by rw [ci_n q], h, rfl, fun _ _ => rfl, by rw [ci_n q]; exact hD0, by rw [ci_n q]; exact hA⟩
  · exact ⟨by rw [ci_y q], h', rfl, fun k hk => hf k (by simp; omega), by rw [ci_y q]; exact ⟨_, _, _, _, _, _, _, _, _, _, _, _, _, _, _, _, _, _, _, _, _, _, _, _, c0, Or.inr rfl, (hf 1 (by decide)).trans c1, c2, (hf 3 (by decide)).trans c3, (hf 4 (by decide)).trans c4, (hf 5 (by decide)).trans c5, (hf 6 (by decide)).trans c6, hw0, (hf 7 (by decide)).trans c7, (hf 8 (by decide)).trans c8, (hf 9 (by decide)).trans c9, (hf 10 (by decide)).trans c10, (hf 11 (by decide)).trans c11, (hf 12 (by decide)).trans c12, fr_RAW13 hf (by decide) (fun i hi => by first | (simp; done) | (simp; omega)) hraw, fun e => absurd e (by decide), fr_RAW28 hf (by decide) (fun i hi => by first | (simp; done) | (simp; omega)) hraw2, (hf 43 (by decide)).trans c43, (hf 44 (by decide)).trans c44, (hf 45 (by decide)).trans c45, (hf 46 (by decide)).trans c46, (hf 47 (by decide)).trans c47, (hf 48 (by decide)).trans c48, (hf 49 (by decide)).trans c49, (hf 50 (by decide)).trans c50, (hf 51 (by decide)).trans c51, (hf 52 (by decide)).trans c52, (fun l hl => (hf (53 + l) (by first | (simp; done) | (simp; omega))).trans (c53 l hl)), (hf 57 (by decide)).trans c57⟩, by rw [ci_y q]; exact ⟨okV_f hV (by omega) q.2, hKV, htl, htp, hsz, hb, him⟩⟩
theorem D_worthOf {d N S L : Nat} {xs : Nat → Int32} {n : Nat} {v : Nat → Int} {kn : Nat} {kv : Nat → Int} {im : Int} {tl : Nat} {tp sz : Nat → Int} {it : Nat → Nat → Int} {h : Nat → Option rr_E} (hA : IA n v kn kv im tl tp sz it) (hD : ID n v kn kv im tl tp sz it h) (hR : IRo L xs h) {a : Int} (ha_ : b3 a) : rr_Calls (d + 20) j_Desk_worthOf [.ref 0, .int (ii a)] (N, S, h) (fun r R => r = some (.long (jj (if 1 ≤ a ∧ a ≤ (al n : Int) then v a.toNat else (-9223372036854775808)))) ∧ ∃ h', R = (N, S, h') ∧ (∀ k, 58 ≤ k → h' k = h k) ∧ ID n v kn kv im tl tp sz it h' ∧ IA n v kn kv im tl tp sz it) := by
  have hD0 := hD
  obtain ⟨sl, dc, dp, df, dv, n5, be3, x3, y3, be6, x6, y6, x4, y4, k9, f10, s11, w12, w0, A3, E3, A6, E6, W4, c0, hsl, c1, c2, c3, c4, c5, c6, hw0, c7, c8, c9, c10, c11, c12, hraw, hsv, hraw2, c43, c44, c45, c46, c47, c48, c49, c50, c51, c52, c53, c57⟩ := hD
  obtain ⟨hV, hKV, htl, htp, hsz, hb, him⟩ := id hA
  obtain ⟨hn, hv, h0⟩ := id hV
  skip
  refine calls_w (calls_d (d_worthOf (d := d + 17) hn c1 c2 hv c0 ha_) (show d + 17 + 3 = d + 20 by omega)) ?_
  rintro _ _ ⟨rfl, rfl⟩
  exact ⟨rfl, h, rfl, fun _ _ => rfl, hD0, hA⟩
theorem D_feed {d N S L : Nat} {xs : Nat → Int32} {n : Nat} {v : Nat → Int} {kn : Nat} {kv : Nat → Int} {im : Int} {tl : Nat} {tp sz : Nat → Int} {it : Nat → Nat → Int} {h : Nat → Option rr_E} (hA : IA n v kn kv im tl tp sz it) (hD : ID n v kn kv im tl tp sz it h) (hR : IRo L xs h) {a : Int} (ha_ : b3 a) : rr_Calls (d + 20) j_Desk_feed [.ref 0, .int (ii a)] (N, S, h) (fun r R => r = some (.int (ii (cite (1 ≤ a ∧ a ≤ 127) (cite (tl = 100) (-4) ((tl + 1 : Nat) : Int)) (-2)))) ∧ ∃ h', R = (N, S, h') ∧ (∀ k, 58 ≤ k → h' k = h k) ∧ ID n v kn kv im (cite ((1 ≤ a ∧ a ≤ 127) ∧ tl < 100) (tl + 1) tl) (cite ((1 ≤ a ∧ a ≤ 127) ∧ tl < 100) (fu tp tl a) tp) sz it h' ∧ IA n v kn kv im (cite ((1 ≤ a ∧ a ≤ 127) ∧ tl < 100) (tl + 1) tl) (cite ((1 ≤ a ∧ a ≤ 127) ∧ tl < 100) (fu tp tl a) tp) sz it) := by
  have hD0 := hD
  obtain ⟨sl, dc, dp, df, dv, n5, be3, x3, y3, be6, x6, y6, x4, y4, k9, f10, s11, w12, w0, A3, E3, A6, E6, W4, c0, hsl, c1, c2, c3, c4, c5, c6, hw0, c7, c8, c9, c10, c11, c12, hraw, hsv, hraw2, c43, c44, c45, c46, c47, c48, c49, c50, c51, c52, c53, c57⟩ := hD
  obtain ⟨hV, hKV, htl, htp, hsz, hb, him⟩ := id hA
  obtain ⟨hn, hv, h0⟩ := id hV
  skip
  refine calls_w (calls_d (d_feed (d := d + 18) htl c7 c8 c0 ha_) (show d + 18 + 2 = d + 20 by omega)) ?_
  rintro _ _ (⟨q, rfl, rfl⟩ | ⟨q, q2, rfl, rfl⟩ | ⟨q, q2, rfl, h', rfl, c7, c8, hf⟩)
  · have z : ¬ ((1 ≤ a ∧ a ≤ 127) ∧ tl < 100) := fun z => q z.1
    exact ⟨by rw [ci_n q], h, rfl, fun _ _ => rfl, by rw [ci_n z, ci_n z]; exact hD0, by rw [ci_n z, ci_n z]; exact hA⟩
  · have z : ¬ ((1 ≤ a ∧ a ≤ 127) ∧ tl < 100) := fun z => by omega
    exact ⟨by rw [ci_y q, ci_y q2], h, rfl, fun _ _ => rfl, by rw [ci_n z, ci_n z]; exact hD0, by rw [ci_n z, ci_n z]; exact hA⟩
  · have z : ((1 ≤ a ∧ a ≤ 127) ∧ tl < 100) := ⟨q, q2⟩
    exact ⟨by rw [ci_y q, ci_n (by omega)], h', rfl, fun k hk => hf k (by simp; omega), by rw [ci_y z, ci_y z]; exact ⟨_, _, _, _, _, _, _, _, _, _, _, _, _, _, _, _, _, _, _, _, _, _, _, _, (hf 0 (by decide)).trans c0, hsl, (hf 1 (by decide)).trans c1, (hf 2 (by decide)).trans c2, (hf 3 (by decide)).trans c3, (hf 4 (by decide)).trans c4, (hf 5 (by decide)).trans c5, (hf 6 (by decide)).trans c6, hw0, c7, c8, (hf 9 (by decide)).trans c9, (hf 10 (by decide)).trans c10, (hf 11 (by decide)).trans c11, (hf 12 (by decide)).trans c12, fr_RAW13 hf (by decide) (fun i hi => by first | (simp; done) | (simp; omega)) hraw, fun e => fr_SV13 hf (by decide) (fun i hi => by first | (simp; done) | (simp; omega)) (hsv e), fr_RAW28 hf (by decide) (fun i hi => by first | (simp; done) | (simp; omega)) hraw2, (hf 43 (by decide)).trans c43, (hf 44 (by decide)).trans c44, (hf 45 (by decide)).trans c45, (hf 46 (by decide)).trans c46, (hf 47 (by decide)).trans c47, (hf 48 (by decide)).trans c48, (hf 49 (by decide)).trans c49, (hf 50 (by decide)).trans c50, (hf 51 (by decide)).trans c51, (hf 52 (by decide)).trans c52, (fun l hl => (hf (53 + l) (by first | (simp; done) | (simp; omega))).trans (c53 l hl)), (hf 57 (by decide)).trans c57⟩, by
      rw [ci_y z, ci_y z]
      refine ⟨hV, hKV, by omega, fun p hp => ?_, hsz, hb, him⟩
      by_cases e : p = tl
      · rw [e, fu_s]; exact q
      · rw [fu_n e]; exact htp p (by omega)⟩
theorem D_clear {d N S L : Nat} {xs : Nat → Int32} {n : Nat} {v : Nat → Int} {kn : Nat} {kv : Nat → Int} {im : Int} {tl : Nat} {tp sz : Nat → Int} {it : Nat → Nat → Int} {h : Nat → Option rr_E} (hA : IA n v kn kv im tl tp sz it) (hD : ID n v kn kv im tl tp sz it h) (hR : IRo L xs h) : rr_Calls (d + 20) j_Desk_clear [.ref 0] (N, S, h) (fun r R => r = some (.int (ii (tl : Int))) ∧ ∃ h', R = (N, S, h') ∧ (∀ k, 58 ≤ k → h' k = h k) ∧ ID n v kn kv im 0 tp sz it h' ∧ IA n v kn kv im 0 tp sz it) := by
  have hD0 := hD
  obtain ⟨sl, dc, dp, df, dv, n5, be3, x3, y3, be6, x6, y6, x4, y4, k9, f10, s11, w12, w0, A3, E3, A6, E6, W4, c0, hsl, c1, c2, c3, c4, c5, c6, hw0, c7, c8, c9, c10, c11, c12, hraw, hsv, hraw2, c43, c44, c45, c46, c47, c48, c49, c50, c51, c52, c53, c57⟩ := hD
  obtain ⟨hV, hKV, htl, htp, hsz, hb, him⟩ := id hA
  obtain ⟨hn, hv, h0⟩ := id hV
  skip
  refine calls_w (calls_d (d_clear (d := d + 19) htl c7 c8 c0) (show d + 19 + 1 = d + 20 by omega)) ?_
  rintro _ _ ⟨rfl, h', rfl, c7, hf⟩
  exact ⟨rfl, h', rfl, fun k hk => hf k (by simp; omega), ⟨_, _, _, _, _, _, _, _, _, _, _, _, _, _, _, _, _, _, _, _, _, _, _, _, (hf 0 (by decide)).trans c0, hsl, (hf 1 (by decide)).trans c1, (hf 2 (by decide)).trans c2, (hf 3 (by decide)).trans c3, (hf 4 (by decide)).trans c4, (hf 5 (by decide)).trans c5, (hf 6 (by decide)).trans c6, hw0, c7, (hf 8 (by decide)).trans c8, (hf 9 (by decide)).trans c9, (hf 10 (by decide)).trans c10, (hf 11 (by decide)).trans c11, (hf 12 (by decide)).trans c12, fr_RAW13 hf (by decide) (fun i hi => by first | (simp; done) | (simp; omega)) hraw, fun e => fr_SV13 hf (by decide) (fun i hi => by first | (simp; done) | (simp; omega)) (hsv e), fr_RAW28 hf (by decide) (fun i hi => by first | (simp; done) | (simp; omega)) hraw2, (hf 43 (by decide)).trans c43, (hf 44 (by decide)).trans c44, (hf 45 (by decide)).trans c45, (hf 46 (by decide)).trans c46, (hf 47 (by decide)).trans c47, (hf 48 (by decide)).trans c48, (hf 49 (by decide)).trans c49, (hf 50 (by decide)).trans c50, (hf 51 (by decide)).trans c51, (hf 52 (by decide)).trans c52, (fun l hl => (hf (53 + l) (by first | (simp; done) | (simp; omega))).trans (c53 l hl)), (hf 57 (by decide)).trans c57⟩, hV, hKV, by omega, fun p hp => absurd hp (by omega), hsz, hb, him⟩
theorem D_deeds {d N S L : Nat} {xs : Nat → Int32} {n : Nat} {v : Nat → Int} {kn : Nat} {kv : Nat → Int} {im : Int} {tl : Nat} {tp sz : Nat → Int} {it : Nat → Nat → Int} {h : Nat → Option rr_E} (hA : IA n v kn kv im tl tp sz it) (hD : ID n v kn kv im tl tp sz it h) (hR : IRo L xs h) : rr_Calls (d + 20) j_Desk_deeds [.ref 0] (N, S, h) (fun r R => r = some (.int (ii (dA (outD tp tl 101 0) n v).1)) ∧ ∃ h', R = (N, S, h') ∧ (∀ k, 58 ≤ k → h' k = h k) ∧ ID (dA (outD tp tl 101 0) n v).2.1 (dA (outD tp tl 101 0) n v).2.2 kn kv im 0 tp sz it h' ∧ IA (dA (outD tp tl 101 0) n v).2.1 (dA (outD tp tl 101 0) n v).2.2 kn kv im 0 tp sz it) := by
  have hD0 := hD
  obtain ⟨sl, dc, dp, df, dv, n5, be3, x3, y3, be6, x6, y6, x4, y4, k9, f10, s11, w12, w0, A3, E3, A6, E6, W4, c0, hsl, c1, c2, c3, c4, c5, c6, hw0, c7, c8, c9, c10, c11, c12, hraw, hsv, hraw2, c43, c44, c45, c46, c47, c48, c49, c50, c51, c52, c53, c57⟩ := hD
  obtain ⟨hV, hKV, htl, htp, hsz, hb, him⟩ := id hA
  obtain ⟨hn, hv, h0⟩ := id hV
  have c1000010 : h 1000010 = some (.inr (20, [.ref 1000020, .int (ii 0)])) := hR 1000010 (by decide)
  have c1000011 : h 1000011 = some (.inr (20, [.ref 1000021, .int (ii 0)])) := hR 1000011 (by decide)
  have c1000012 : h 1000012 = some (.inr (20, [.ref 1000022, .int (ii 0)])) := hR 1000012 (by decide)
  have c1000013 : h 1000013 = some (.inr (20, [.ref 1000023, .int (ii 0)])) := hR 1000013 (by decide)
  have c1000014 : h 1000014 = some (.inr (20, [.ref 1000024, .int (ii 0)])) := hR 1000014 (by decide)
  have c1000015 : h 1000015 = some (.inr (20, [.ref 1000025, .int (ii 0)])) := hR 1000015 (by decide)
  have c1000020 : h 1000020 = some (.inl (9, 6, .inl (fun j => (rr_sby.getD 0 []).getD j 0))) := hR 1000020 (by decide)
  have c1000021 : h 1000021 = some (.inl (9, 5, .inl (fun j => (rr_sby.getD 1 []).getD j 0))) := hR 1000021 (by decide)
  have c1000022 : h 1000022 = some (.inl (9, 4, .inl (fun j => (rr_sby.getD 2 []).getD j 0))) := hR 1000022 (by decide)
  have c1000023 : h 1000023 = some (.inl (9, 4, .inl (fun j => (rr_sby.getD 3 []).getD j 0))) := hR 1000023 (by decide)
  have c1000024 : h 1000024 = some (.inl (9, 4, .inl (fun j => (rr_sby.getD 4 []).getD j 0))) := hR 1000024 (by decide)
  have c1000025 : h 1000025 = some (.inl (9, 4, .inl (fun j => (rr_sby.getD 5 []).getD j 0))) := hR 1000025 (by decide)
  refine calls_w (calls_d (d_deeds (d := d + 11) hV c1 c2 c0 htl htp c7 c8 c12 c9 c10 c11 c1000010 c1000020 c1000011 c1000021 c1000012 c1000022 c1000013 c1000023 c1000014 c1000024 c1000015 c1000025) (show d + 11 + 9 = d + 20 by omega)) ?_
  rintro _ _ (⟨f, e, rfl, h', rfl, hf, _, _, _, _, _, _, _, _, c7, c9, c10, c11, c12⟩ | ⟨M, e, rfl, h', rfl, hf, c0, c1, c2, ok, _, _, _, _, _, _, _, _, c7, c9, c10, c11, c12⟩)
  · rw [show (dA (outD tp tl 101 0) n v) = (-100 - (f : Int), n, v) by rw [e]; rfl]
    exact ⟨rfl, h', rfl, fun k hk => hf k (by simp; omega), ⟨_, _, _, _, _, _, _, _, _, _, _, _, _, _, _, _, _, _, _, _, _, _, _, _, (hf 0 (by decide)).trans c0, hsl, (hf 1 (by decide)).trans c1, (hf 2 (by decide)).trans c2, (hf 3 (by decide)).trans c3, (hf 4 (by decide)).trans c4, (hf 5 (by decide)).trans c5, (hf 6 (by decide)).trans c6, hw0, c7, (hf 8 (by decide)).trans c8, c9, c10, c11, c12, fr_RAW13 hf (by decide) (fun i hi => by first | (simp; done) | (simp; omega)) hraw, fun e => fr_SV13 hf (by decide) (fun i hi => by first | (simp; done) | (simp; omega)) (hsv e), fr_RAW28 hf (by decide) (fun i hi => by first | (simp; done) | (simp; omega)) hraw2, (hf 43 (by decide)).trans c43, (hf 44 (by decide)).trans c44, (hf 45 (by decide)).trans c45, (hf 46 (by decide)).trans c46, (hf 47 (by decide)).trans c47, (hf 48 (by decide)).trans c48, (hf 49 (by decide)).trans c49, (hf 50 (by decide)).trans c50, (hf 51 (by decide)).trans c51, (hf 52 (by decide)).trans c52, (fun l hl => (hf (53 + l) (by first | (simp; done) | (simp; omega))).trans (c53 l hl)), (hf 57 (by decide)).trans c57⟩, hV, hKV, by omega, fun p hp => absurd hp (by omega), hsz, hb, him⟩
  · rw [show (dA (outD tp tl 101 0) n v) = crun M n v by rw [e]; rfl]
    exact ⟨rfl, h', rfl, fun k hk => hf k (by simp; omega), ⟨_, _, _, _, _, _, _, _, _, _, _, _, _, _, _, _, _, _, _, _, _, _, _, _, c0, Or.inr rfl, c1, c2, (hf 3 (by decide)).trans c3, (hf 4 (by decide)).trans c4, (hf 5 (by decide)).trans c5, (hf 6 (by decide)).trans c6, hw0, c7, (hf 8 (by decide)).trans c8, c9, c10, c11, c12, fr_RAW13 hf (by decide) (fun i hi => by first | (simp; done) | (simp; omega)) hraw, fun e => absurd e (by decide), fr_RAW28 hf (by decide) (fun i hi => by first | (simp; done) | (simp; omega)) hraw2, (hf 43 (by decide)).trans c43, (hf 44 (by decide)).trans c44, (hf 45 (by decide)).trans c45, (hf 46 (by decide)).trans c46, (hf 47 (by decide)).trans c47, (hf 48 (by decide)).trans c48, (hf 49 (by decide)).trans c49, (hf 50 (by decide)).trans c50, (hf 51 (by decide)).trans c51, (hf 52 (by decide)).trans c52, (fun l hl => (hf (53 + l) (by first | (simp; done) | (simp; omega))).trans (c53 l hl)), (hf 57 (by decide)).trans c57⟩, ok, hKV, by omega, fun p hp => absurd hp (by omega), hsz, hb, him⟩
theorem D_told {d N S L : Nat} {xs : Nat → Int32} {n : Nat} {v : Nat → Int} {kn : Nat} {kv : Nat → Int} {im : Int} {tl : Nat} {tp sz : Nat → Int} {it : Nat → Nat → Int} {h : Nat → Option rr_E} (hA : IA n v kn kv im tl tp sz it) (hD : ID n v kn kv im tl tp sz it h) (hR : IRo L xs h) {a : Int} (ha_ : b3 a) : rr_Calls (d + 20) j_Desk_told [.ref 0, .int (ii a)] (N, S, h) (fun r R => r = some (.int (ii (if a = 0 then (n : Int) else if a = 1 then (tl : Int) else if a = 2 then (al n : Int) else if a = 3 then gs (al n + 1) (fun g => if v g < 0 then 1 else 0) else -1))) ∧ ∃ h', R = (N, S, h') ∧ (∀ k, 58 ≤ k → h' k = h k) ∧ ID n v kn kv im tl tp sz it h' ∧ IA n v kn kv im tl tp sz it) := by
  have hD0 := hD
  obtain ⟨sl, dc, dp, df, dv, n5, be3, x3, y3, be6, x6, y6, x4, y4, k9, f10, s11, w12, w0, A3, E3, A6, E6, W4, c0, hsl, c1, c2, c3, c4, c5, c6, hw0, c7, c8, c9, c10, c11, c12, hraw, hsv, hraw2, c43, c44, c45, c46, c47, c48, c49, c50, c51, c52, c53, c57⟩ := hD
  obtain ⟨hV, hKV, htl, htp, hsz, hb, him⟩ := id hA
  obtain ⟨hn, hv, h0⟩ := id hV
  skip
  refine calls_w (calls_d (d_told (d := d + 17) hn c1 c2 hv htl c7 c8 c0 ha_) (show d + 17 + 3 = d + 20 by omega)) ?_
  rintro _ _ ⟨rfl, rfl⟩
  exact ⟨rfl, h, rfl, fun _ _ => rfl, hD0, hA⟩
theorem D_stages {d N S L : Nat} {xs : Nat → Int32} {n : Nat} {v : Nat → Int} {kn : Nat} {kv : Nat → Int} {im : Int} {tl : Nat} {tp sz : Nat → Int} {it : Nat → Nat → Int} {h : Nat → Option rr_E} (hA : IA n v kn kv im tl tp sz it) (hD : ID n v kn kv im tl tp sz it h) (hR : IRo L xs h) : rr_Calls (d + 20) j_Desk_stages [.ref 0] (N, S, h) (fun r R => r = some (.int (ii ((nM n v : Nat) : Int))) ∧ ∃ h', R = (N, S, h') ∧ (∀ k, 58 ≤ k → h' k = h k) ∧ ID n v kn kv im tl tp sz it h' ∧ IA n v kn kv im tl tp sz it) := by
  have hD0 := hD
  obtain ⟨sl, dc, dp, df, dv, n5, be3, x3, y3, be6, x6, y6, x4, y4, k9, f10, s11, w12, w0, A3, E3, A6, E6, W4, c0, hsl, c1, c2, c3, c4, c5, c6, hw0, c7, c8, c9, c10, c11, c12, hraw, hsv, hraw2, c43, c44, c45, c46, c47, c48, c49, c50, c51, c52, c53, c57⟩ := hD
  obtain ⟨hV, hKV, htl, htp, hsz, hb, him⟩ := id hA
  obtain ⟨hn, hv, h0⟩ := id hV
  have c1000000 : h 1000000 = some (.inl (8, 5, .inl (fun j => rr_two.getD j 0))) := hR 1000000 (by decide)
  have c1000001 : h 1000001 = some (.inl (8, 25, .inl (fun j => rr_three.getD j 0))) := hR 1000001 (by decide)
  have c1000002 : h 1000002 = some (.inl (8, 205, .inl (fun j => rr_four.getD j 0))) := hR 1000002 (by decide)
  refine calls_w (calls_d (d_stages (d := d + 13) hn c1 c2 hv h0 c1000000 c1000001 c1000002 c0 hsl hraw hsv ) (show d + 13 + 7 = d + 20 by omega)) ?_
  rintro _ _ ⟨rfl, h', sl', rfl, hf, c0, hsl', hraw', hsv'⟩
  exact ⟨rfl, h', rfl, fun k hk => hf k (by simp; omega), ⟨_, _, _, _, _, _, _, _, _, _, _, _, _, _, _, _, _, _, _, _, _, _, _, _, c0, hsl', (hf 1 (by decide)).trans c1, (hf 2 (by decide)).trans c2, (hf 3 (by decide)).trans c3, (hf 4 (by decide)).trans c4, (hf 5 (by decide)).trans c5, (hf 6 (by decide)).trans c6, hw0, (hf 7 (by decide)).trans c7, (hf 8 (by decide)).trans c8, (hf 9 (by decide)).trans c9, (hf 10 (by decide)).trans c10, (hf 11 (by decide)).trans c11, (hf 12 (by decide)).trans c12, hraw', hsv', fr_RAW28 hf (by decide) (fun i hi => by first | (simp; done) | (simp; omega)) hraw2, (hf 43 (by decide)).trans c43, (hf 44 (by decide)).trans c44, (hf 45 (by decide)).trans c45, (hf 46 (by decide)).trans c46, (hf 47 (by decide)).trans c47, (hf 48 (by decide)).trans c48, (hf 49 (by decide)).trans c49, (hf 50 (by decide)).trans c50, (hf 51 (by decide)).trans c51, (hf 52 (by decide)).trans c52, (fun l hl => (hf (53 + l) (by first | (simp; done) | (simp; omega))).trans (c53 l hl)), (hf 57 (by decide)).trans c57⟩, hA⟩
theorem D_level {d N S L : Nat} {xs : Nat → Int32} {n : Nat} {v : Nat → Int} {kn : Nat} {kv : Nat → Int} {im : Int} {tl : Nat} {tp sz : Nat → Int} {it : Nat → Nat → Int} {h : Nat → Option rr_E} (hA : IA n v kn kv im tl tp sz it) (hD : ID n v kn kv im tl tp sz it h) (hR : IRo L xs h) {a : Int} (ha_ : b3 a) {z : Int} (hz_ : b3 z) : rr_Calls (d + 20) j_Desk_level [.ref 0, .int (ii a), .int (ii z)] (N, S, h) (fun r R => r = some (.long (jj (sp_level n v a z))) ∧ ∃ h', R = (N, S, h') ∧ (∀ k, 58 ≤ k → h' k = h k) ∧ ID n v kn kv im tl tp sz it h' ∧ IA n v kn kv im tl tp sz it) := by
  have hD0 := hD
  obtain ⟨sl, dc, dp, df, dv, n5, be3, x3, y3, be6, x6, y6, x4, y4, k9, f10, s11, w12, w0, A3, E3, A6, E6, W4, c0, hsl, c1, c2, c3, c4, c5, c6, hw0, c7, c8, c9, c10, c11, c12, hraw, hsv, hraw2, c43, c44, c45, c46, c47, c48, c49, c50, c51, c52, c53, c57⟩ := hD
  obtain ⟨hV, hKV, htl, htp, hsz, hb, him⟩ := id hA
  obtain ⟨hn, hv, h0⟩ := id hV
  have c1000000 : h 1000000 = some (.inl (8, 5, .inl (fun j => rr_two.getD j 0))) := hR 1000000 (by decide)
  have c1000001 : h 1000001 = some (.inl (8, 25, .inl (fun j => rr_three.getD j 0))) := hR 1000001 (by decide)
  have c1000002 : h 1000002 = some (.inl (8, 205, .inl (fun j => rr_four.getD j 0))) := hR 1000002 (by decide)
  refine calls_w (calls_d (d_level (d := d + 13) hn c1 c2 hv h0 c1000000 c1000001 c1000002 c0 hsl hraw hsv ha_ hz_) (show d + 13 + 7 = d + 20 by omega)) ?_
  rintro _ _ ⟨rfl, h', sl', rfl, hf, c0, hsl', hraw', hsv'⟩
  exact ⟨rfl, h', rfl, fun k hk => hf k (by simp; omega), ⟨_, _, _, _, _, _, _, _, _, _, _, _, _, _, _, _, _, _, _, _, _, _, _, _, c0, hsl', (hf 1 (by decide)).trans c1, (hf 2 (by decide)).trans c2, (hf 3 (by decide)).trans c3, (hf 4 (by decide)).trans c4, (hf 5 (by decide)).trans c5, (hf 6 (by decide)).trans c6, hw0, (hf 7 (by decide)).trans c7, (hf 8 (by decide)).trans c8, (hf 9 (by decide)).trans c9, (hf 10 (by decide)).trans c10, (hf 11 (by decide)).trans c11, (hf 12 (by decide)).trans c12, hraw', hsv', fr_RAW28 hf (by decide) (fun i hi => by first | (simp; done) | (simp; omega)) hraw2, (hf 43 (by decide)).trans c43, (hf 44 (by decide)).trans c44, (hf 45 (by decide)).trans c45, (hf 46 (by decide)).trans c46, (hf 47 (by decide)).trans c47, (hf 48 (by decide)).trans c48, (hf 49 (by decide)).trans c49, (hf 50 (by decide)).trans c50, (hf 51 (by decide)).trans c51, (hf 52 (by decide)).trans c52, (fun l hl => (hf (53 + l) (by first | (simp; done) | (simp; omega))).trans (c53 l hl)), (hf 57 (by decide)).trans c57⟩, hA⟩
theorem D_fixed {d N S L : Nat} {xs : Nat → Int32} {n : Nat} {v : Nat → Int} {kn : Nat} {kv : Nat → Int} {im : Int} {tl : Nat} {tp sz : Nat → Int} {it : Nat → Nat → Int} {h : Nat → Option rr_E} (hA : IA n v kn kv im tl tp sz it) (hD : ID n v kn kv im tl tp sz it h) (hR : IRo L xs h) {a : Int} (ha_ : b3 a) : rr_Calls (d + 20) j_Desk_fixed [.ref 0, .int (ii a)] (N, S, h) (fun r R => r = some (.int (ii (sp_fixed n v a))) ∧ ∃ h', R = (N, S, h') ∧ (∀ k, 58 ≤ k → h' k = h k) ∧ ID n v kn kv im tl tp sz it h' ∧ IA n v kn kv im tl tp sz it) := by
  have hD0 := hD
  obtain ⟨sl, dc, dp, df, dv, n5, be3, x3, y3, be6, x6, y6, x4, y4, k9, f10, s11, w12, w0, A3, E3, A6, E6, W4, c0, hsl, c1, c2, c3, c4, c5, c6, hw0, c7, c8, c9, c10, c11, c12, hraw, hsv, hraw2, c43, c44, c45, c46, c47, c48, c49, c50, c51, c52, c53, c57⟩ := hD
  obtain ⟨hV, hKV, htl, htp, hsz, hb, him⟩ := id hA
  obtain ⟨hn, hv, h0⟩ := id hV
  have c1000000 : h 1000000 = some (.inl (8, 5, .inl (fun j => rr_two.getD j 0))) := hR 1000000 (by decide)
  have c1000001 : h 1000001 = some (.inl (8, 25, .inl (fun j => rr_three.getD j 0))) := hR 1000001 (by decide)
  have c1000002 : h 1000002 = some (.inl (8, 205, .inl (fun j => rr_four.getD j 0))) := hR 1000002 (by decide)
  refine calls_w (calls_d (d_fixed (d := d + 13) hn c1 c2 hv h0 c1000000 c1000001 c1000002 c0 hsl hraw hsv ha_) (show d + 13 + 7 = d + 20 by omega)) ?_
  rintro _ _ ⟨rfl, h', sl', rfl, hf, c0, hsl', hraw', hsv'⟩
  exact ⟨rfl, h', rfl, fun k hk => hf k (by simp; omega), ⟨_, _, _, _, _, _, _, _, _, _, _, _, _, _, _, _, _, _, _, _, _, _, _, _, c0, hsl', (hf 1 (by decide)).trans c1, (hf 2 (by decide)).trans c2, (hf 3 (by decide)).trans c3, (hf 4 (by decide)).trans c4, (hf 5 (by decide)).trans c5, (hf 6 (by decide)).trans c6, hw0, (hf 7 (by decide)).trans c7, (hf 8 (by decide)).trans c8, (hf 9 (by decide)).trans c9, (hf 10 (by decide)).trans c10, (hf 11 (by decide)).trans c11, (hf 12 (by decide)).trans c12, hraw', hsv', fr_RAW28 hf (by decide) (fun i hi => by first | (simp; done) | (simp; omega)) hraw2, (hf 43 (by decide)).trans c43, (hf 44 (by decide)).trans c44, (hf 45 (by decide)).trans c45, (hf 46 (by decide)).trans c46, (hf 47 (by decide)).trans c47, (hf 48 (by decide)).trans c48, (hf 49 (by decide)).trans c49, (hf 50 (by decide)).trans c50, (hf 51 (by decide)).trans c51, (hf 52 (by decide)).trans c52, (fun l hl => (hf (53 + l) (by first | (simp; done) | (simp; omega))).trans (c53 l hl)), (hf 57 (by decide)).trans c57⟩, hA⟩
theorem D_stageOf {d N S L : Nat} {xs : Nat → Int32} {n : Nat} {v : Nat → Int} {kn : Nat} {kv : Nat → Int} {im : Int} {tl : Nat} {tp sz : Nat → Int} {it : Nat → Nat → Int} {h : Nat → Option rr_E} (hA : IA n v kn kv im tl tp sz it) (hD : ID n v kn kv im tl tp sz it h) (hR : IRo L xs h) {a : Int} (ha_ : b3 a) : rr_Calls (d + 20) j_Desk_stageOf [.ref 0, .int (ii a)] (N, S, h) (fun r R => r = some (.int (ii (sp_stageOf n v a))) ∧ ∃ h', R = (N, S, h') ∧ (∀ k, 58 ≤ k → h' k = h k) ∧ ID n v kn kv im tl tp sz it h' ∧ IA n v kn kv im tl tp sz it) := by
  have hD0 := hD
  obtain ⟨sl, dc, dp, df, dv, n5, be3, x3, y3, be6, x6, y6, x4, y4, k9, f10, s11, w12, w0, A3, E3, A6, E6, W4, c0, hsl, c1, c2, c3, c4, c5, c6, hw0, c7, c8, c9, c10, c11, c12, hraw, hsv, hraw2, c43, c44, c45, c46, c47, c48, c49, c50, c51, c52, c53, c57⟩ := hD
  obtain ⟨hV, hKV, htl, htp, hsz, hb, him⟩ := id hA
  obtain ⟨hn, hv, h0⟩ := id hV
  have c1000000 : h 1000000 = some (.inl (8, 5, .inl (fun j => rr_two.getD j 0))) := hR 1000000 (by decide)
  have c1000001 : h 1000001 = some (.inl (8, 25, .inl (fun j => rr_three.getD j 0))) := hR 1000001 (by decide)
  have c1000002 : h 1000002 = some (.inl (8, 205, .inl (fun j => rr_four.getD j 0))) := hR 1000002 (by decide)
  refine calls_w (calls_d (d_stageOf (d := d + 13) hn c1 c2 hv h0 c1000000 c1000001 c1000002 c0 hsl hraw hsv ha_) (show d + 13 + 7 = d + 20 by omega)) ?_
  rintro _ _ ⟨rfl, h', sl', rfl, hf, c0, hsl', hraw', hsv'⟩
  exact ⟨rfl, h', rfl, fun k hk => hf k (by simp; omega), ⟨_, _, _, _, _, _, _, _, _, _, _, _, _, _, _, _, _, _, _, _, _, _, _, _, c0, hsl', (hf 1 (by decide)).trans c1, (hf 2 (by decide)).trans c2, (hf 3 (by decide)).trans c3, (hf 4 (by decide)).trans c4, (hf 5 (by decide)).trans c5, (hf 6 (by decide)).trans c6, hw0, (hf 7 (by decide)).trans c7, (hf 8 (by decide)).trans c8, (hf 9 (by decide)).trans c9, (hf 10 (by decide)).trans c10, (hf 11 (by decide)).trans c11, (hf 12 (by decide)).trans c12, hraw', hsv', fr_RAW28 hf (by decide) (fun i hi => by first | (simp; done) | (simp; omega)) hraw2, (hf 43 (by decide)).trans c43, (hf 44 (by decide)).trans c44, (hf 45 (by decide)).trans c45, (hf 46 (by decide)).trans c46, (hf 47 (by decide)).trans c47, (hf 48 (by decide)).trans c48, (hf 49 (by decide)).trans c49, (hf 50 (by decide)).trans c50, (hf 51 (by decide)).trans c51, (hf 52 (by decide)).trans c52, (fun l hl => (hf (53 + l) (by first | (simp; done) | (simp; omega))).trans (c53 l hl)), (hf 57 (by decide)).trans c57⟩, hA⟩
theorem D_fair {d N S L : Nat} {xs : Nat → Int32} {n : Nat} {v : Nat → Int} {kn : Nat} {kv : Nat → Int} {im : Int} {tl : Nat} {tp sz : Nat → Int} {it : Nat → Nat → Int} {h : Nat → Option rr_E} (hA : IA n v kn kv im tl tp sz it) (hD : ID n v kn kv im tl tp sz it h) (hR : IRo L xs h) {a : Int} (ha_ : b3 a) {z : Int} (hz_ : b3 z) : rr_Calls (d + 20) j_Desk_fair [.ref 0, .int (ii a), .int (ii z)] (N, S, h) (fun r R => r = some (.long (jj (sp_fair n v a z))) ∧ ∃ h', R = (N, S, h') ∧ (∀ k, 58 ≤ k → h' k = h k) ∧ ID n v kn kv im tl tp sz it h' ∧ IA n v kn kv im tl tp sz it) := by
  have hD0 := hD
  obtain ⟨sl, dc, dp, df, dv, n5, be3, x3, y3, be6, x6, y6, x4, y4, k9, f10, s11, w12, w0, A3, E3, A6, E6, W4, c0, hsl, c1, c2, c3, c4, c5, c6, hw0, c7, c8, c9, c10, c11, c12, hraw, hsv, hraw2, c43, c44, c45, c46, c47, c48, c49, c50, c51, c52, c53, c57⟩ := hD
  obtain ⟨hV, hKV, htl, htp, hsz, hb, him⟩ := id hA
  obtain ⟨hn, hv, h0⟩ := id hV
  have c1000000 : h 1000000 = some (.inl (8, 5, .inl (fun j => rr_two.getD j 0))) := hR 1000000 (by decide)
  have c1000001 : h 1000001 = some (.inl (8, 25, .inl (fun j => rr_three.getD j 0))) := hR 1000001 (by decide)
  have c1000002 : h 1000002 = some (.inl (8, 205, .inl (fun j => rr_four.getD j 0))) := hR 1000002 (by decide)
  refine calls_w (calls_d (d_fair (d := d + 13) hn c1 c2 hv h0 c1000000 c1000001 c1000002 c0 hsl hraw hsv ha_ hz_) (show d + 13 + 7 = d + 20 by omega)) ?_
  rintro _ _ ⟨rfl, h', sl', rfl, hf, c0, hsl', hraw', hsv'⟩
  exact ⟨rfl, h', rfl, fun k hk => hf k (by simp; omega), ⟨_, _, _, _, _, _, _, _, _, _, _, _, _, _, _, _, _, _, _, _, _, _, _, _, c0, hsl', (hf 1 (by decide)).trans c1, (hf 2 (by decide)).trans c2, (hf 3 (by decide)).trans c3, (hf 4 (by decide)).trans c4, (hf 5 (by decide)).trans c5, (hf 6 (by decide)).trans c6, hw0, (hf 7 (by decide)).trans c7, (hf 8 (by decide)).trans c8, (hf 9 (by decide)).trans c9, (hf 10 (by decide)).trans c10, (hf 11 (by decide)).trans c11, (hf 12 (by decide)).trans c12, hraw', hsv', fr_RAW28 hf (by decide) (fun i hi => by first | (simp; done) | (simp; omega)) hraw2, (hf 43 (by decide)).trans c43, (hf 44 (by decide)).trans c44, (hf 45 (by decide)).trans c45, (hf 46 (by decide)).trans c46, (hf 47 (by decide)).trans c47, (hf 48 (by decide)).trans c48, (hf 49 (by decide)).trans c49, (hf 50 (by decide)).trans c50, (hf 51 (by decide)).trans c51, (hf 52 (by decide)).trans c52, (fun l hl => (hf (53 + l) (by first | (simp; done) | (simp; omega))).trans (c53 l hl)), (hf 57 (by decide)).trans c57⟩, hA⟩
theorem D_grudge {d N S L : Nat} {xs : Nat → Int32} {n : Nat} {v : Nat → Int} {kn : Nat} {kv : Nat → Int} {im : Int} {tl : Nat} {tp sz : Nat → Int} {it : Nat → Nat → Int} {h : Nat → Option rr_E} (hA : IA n v kn kv im tl tp sz it) (hD : ID n v kn kv im tl tp sz it h) (hR : IRo L xs h) {a : Int} (ha_ : b3 a) {z : Int} (hz_ : b3 z) : rr_Calls (d + 20) j_Desk_grudge [.ref 0, .int (ii a), .int (ii z)] (N, S, h) (fun r R => r = some (.long (jj (sp_grudge n v a z))) ∧ ∃ h', R = (N, S, h') ∧ (∀ k, 58 ≤ k → h' k = h k) ∧ ID n v kn kv im tl tp sz it h' ∧ IA n v kn kv im tl tp sz it) := by
  have hD0 := hD
  obtain ⟨sl, dc, dp, df, dv, n5, be3, x3, y3, be6, x6, y6, x4, y4, k9, f10, s11, w12, w0, A3, E3, A6, E6, W4, c0, hsl, c1, c2, c3, c4, c5, c6, hw0, c7, c8, c9, c10, c11, c12, hraw, hsv, hraw2, c43, c44, c45, c46, c47, c48, c49, c50, c51, c52, c53, c57⟩ := hD
  obtain ⟨hV, hKV, htl, htp, hsz, hb, him⟩ := id hA
  obtain ⟨hn, hv, h0⟩ := id hV
  have c1000000 : h 1000000 = some (.inl (8, 5, .inl (fun j => rr_two.getD j 0))) := hR 1000000 (by decide)
  have c1000001 : h 1000001 = some (.inl (8, 25, .inl (fun j => rr_three.getD j 0))) := hR 1000001 (by decide)
  have c1000002 : h 1000002 = some (.inl (8, 205, .inl (fun j => rr_four.getD j 0))) := hR 1000002 (by decide)
  refine calls_w (calls_d (d_grudge (d := d + 13) hn c1 c2 hv h0 c1000000 c1000001 c1000002 c0 hsl hraw hsv ha_ hz_) (show d + 13 + 7 = d + 20 by omega)) ?_
  rintro _ _ ⟨rfl, h', sl', rfl, hf, c0, hsl', hraw', hsv'⟩
  exact ⟨rfl, h', rfl, fun k hk => hf k (by simp; omega), ⟨_, _, _, _, _, _, _, _, _, _, _, _, _, _, _, _, _, _, _, _, _, _, _, _, c0, hsl', (hf 1 (by decide)).trans c1, (hf 2 (by decide)).trans c2, (hf 3 (by decide)).trans c3, (hf 4 (by decide)).trans c4, (hf 5 (by decide)).trans c5, (hf 6 (by decide)).trans c6, hw0, (hf 7 (by decide)).trans c7, (hf 8 (by decide)).trans c8, (hf 9 (by decide)).trans c9, (hf 10 (by decide)).trans c10, (hf 11 (by decide)).trans c11, (hf 12 (by decide)).trans c12, hraw', hsv', fr_RAW28 hf (by decide) (fun i hi => by first | (simp; done) | (simp; omega)) hraw2, (hf 43 (by decide)).trans c43, (hf 44 (by decide)).trans c44, (hf 45 (by decide)).trans c45, (hf 46 (by decide)).trans c46, (hf 47 (by decide)).trans c47, (hf 48 (by decide)).trans c48, (hf 49 (by decide)).trans c49, (hf 50 (by decide)).trans c50, (hf 51 (by decide)).trans c51, (hf 52 (by decide)).trans c52, (fun l hl => (hf (53 + l) (by first | (simp; done) | (simp; omega))).trans (c53 l hl)), (hf 57 (by decide)).trans c57⟩, hA⟩
theorem D_ordered {d N S L : Nat} {xs : Nat → Int32} {n : Nat} {v : Nat → Int} {kn : Nat} {kv : Nat → Int} {im : Int} {tl : Nat} {tp sz : Nat → Int} {it : Nat → Nat → Int} {h : Nat → Option rr_E} (hA : IA n v kn kv im tl tp sz it) (hD : ID n v kn kv im tl tp sz it h) (hR : IRo L xs h) {a : Int} (ha_ : b3 a) : rr_Calls (d + 20) j_Desk_ordered [.ref 0, .int (ii a)] (N, S, h) (fun r R => r = some (.int (ii (ino (nE n v) (al n) a))) ∧ ∃ h', R = (N, S, h') ∧ (∀ k, 58 ≤ k → h' k = h k) ∧ ID n v kn kv im tl tp sz it h' ∧ IA n v kn kv im tl tp sz it) := by
  have hD0 := hD
  obtain ⟨sl, dc, dp, df, dv, n5, be3, x3, y3, be6, x6, y6, x4, y4, k9, f10, s11, w12, w0, A3, E3, A6, E6, W4, c0, hsl, c1, c2, c3, c4, c5, c6, hw0, c7, c8, c9, c10, c11, c12, hraw, hsv, hraw2, c43, c44, c45, c46, c47, c48, c49, c50, c51, c52, c53, c57⟩ := hD
  obtain ⟨hV, hKV, htl, htp, hsz, hb, him⟩ := id hA
  obtain ⟨hn, hv, h0⟩ := id hV
  have c1000000 : h 1000000 = some (.inl (8, 5, .inl (fun j => rr_two.getD j 0))) := hR 1000000 (by decide)
  have c1000001 : h 1000001 = some (.inl (8, 25, .inl (fun j => rr_three.getD j 0))) := hR 1000001 (by decide)
  have c1000002 : h 1000002 = some (.inl (8, 205, .inl (fun j => rr_four.getD j 0))) := hR 1000002 (by decide)
  refine calls_w (calls_d (d_ordered (d := d + 13) hn c1 c2 hv h0 c1000000 c1000001 c1000002 c0 hsl hraw hsv ha_) (show d + 13 + 7 = d + 20 by omega)) ?_
  rintro _ _ ⟨rfl, h', sl', rfl, hf, c0, hsl', hraw', hsv'⟩
  exact ⟨rfl, h', rfl, fun k hk => hf k (by simp; omega), ⟨_, _, _, _, _, _, _, _, _, _, _, _, _, _, _, _, _, _, _, _, _, _, _, _, c0, hsl', (hf 1 (by decide)).trans c1, (hf 2 (by decide)).trans c2, (hf 3 (by decide)).trans c3, (hf 4 (by decide)).trans c4, (hf 5 (by decide)).trans c5, (hf 6 (by decide)).trans c6, hw0, (hf 7 (by decide)).trans c7, (hf 8 (by decide)).trans c8, (hf 9 (by decide)).trans c9, (hf 10 (by decide)).trans c10, (hf 11 (by decide)).trans c11, (hf 12 (by decide)).trans c12, hraw', hsv', fr_RAW28 hf (by decide) (fun i hi => by first | (simp; done) | (simp; omega)) hraw2, (hf 43 (by decide)).trans c43, (hf 44 (by decide)).trans c44, (hf 45 (by decide)).trans c45, (hf 46 (by decide)).trans c46, (hf 47 (by decide)).trans c47, (hf 48 (by decide)).trans c48, (hf 49 (by decide)).trans c49, (hf 50 (by decide)).trans c50, (hf 51 (by decide)).trans c51, (hf 52 (by decide)).trans c52, (fun l hl => (hf (53 + l) (by first | (simp; done) | (simp; omega))).trans (c53 l hl)), (hf 57 (by decide)).trans c57⟩, hA⟩
theorem D_empty {d N S L : Nat} {xs : Nat → Int32} {n : Nat} {v : Nat → Int} {kn : Nat} {kv : Nat → Int} {im : Int} {tl : Nat} {tp sz : Nat → Int} {it : Nat → Nat → Int} {h : Nat → Option rr_E} (hA : IA n v kn kv im tl tp sz it) (hD : ID n v kn kv im tl tp sz it h) (hR : IRo L xs h) : rr_Calls (d + 20) j_Desk_empty [.ref 0] (N, S, h) (fun r R => r = some (.int (ii (sp_empty n v))) ∧ ∃ h', R = (N, S, h') ∧ (∀ k, 58 ≤ k → h' k = h k) ∧ ID n v kn kv im tl tp sz it h' ∧ IA n v kn kv im tl tp sz it) := by
  have hD0 := hD
  obtain ⟨sl, dc, dp, df, dv, n5, be3, x3, y3, be6, x6, y6, x4, y4, k9, f10, s11, w12, w0, A3, E3, A6, E6, W4, c0, hsl, c1, c2, c3, c4, c5, c6, hw0, c7, c8, c9, c10, c11, c12, hraw, hsv, hraw2, c43, c44, c45, c46, c47, c48, c49, c50, c51, c52, c53, c57⟩ := hD
  obtain ⟨hV, hKV, htl, htp, hsz, hb, him⟩ := id hA
  obtain ⟨hn, hv, h0⟩ := id hV
  have c1000000 : h 1000000 = some (.inl (8, 5, .inl (fun j => rr_two.getD j 0))) := hR 1000000 (by decide)
  have c1000001 : h 1000001 = some (.inl (8, 25, .inl (fun j => rr_three.getD j 0))) := hR 1000001 (by decide)
  have c1000002 : h 1000002 = some (.inl (8, 205, .inl (fun j => rr_four.getD j 0))) := hR 1000002 (by decide)
  refine calls_w (calls_d (d_empty (d := d + 13) hn c1 c2 hv h0 c1000000 c1000001 c1000002 c0 hsl hraw hsv ) (show d + 13 + 7 = d + 20 by omega)) ?_
  rintro _ _ ⟨rfl, h', sl', rfl, hf, c0, hsl', hraw', hsv'⟩
  exact ⟨rfl, h', rfl, fun k hk => hf k (by simp; omega), ⟨_, _, _, _, _, _, _, _, _, _, _, _, _, _, _, _, _, _, _, _, _, _, _, _, c0, hsl', (hf 1 (by decide)).trans c1, (hf 2 (by decide)).trans c2, (hf 3 (by decide)).trans c3, (hf 4 (by decide)).trans c4, (hf 5 (by decide)).trans c5, (hf 6 (by decide)).trans c6, hw0, (hf 7 (by decide)).trans c7, (hf 8 (by decide)).trans c8, (hf 9 (by decide)).trans c9, (hf 10 (by decide)).trans c10, (hf 11 (by decide)).trans c11, (hf 12 (by decide)).trans c12, hraw', hsv', fr_RAW28 hf (by decide) (fun i hi => by first | (simp; done) | (simp; omega)) hraw2, (hf 43 (by decide)).trans c43, (hf 44 (by decide)).trans c44, (hf 45 (by decide)).trans c45, (hf 46 (by decide)).trans c46, (hf 47 (by decide)).trans c47, (hf 48 (by decide)).trans c48, (hf 49 (by decide)).trans c49, (hf 50 (by decide)).trans c50, (hf 51 (by decide)).trans c51, (hf 52 (by decide)).trans c52, (fun l hl => (hf (53 + l) (by first | (simp; done) | (simp; omega))).trans (c53 l hl)), (hf 57 (by decide)).trans c57⟩, hA⟩
theorem D_surplus {d N S L : Nat} {xs : Nat → Int32} {n : Nat} {v : Nat → Int} {kn : Nat} {kv : Nat → Int} {im : Int} {tl : Nat} {tp sz : Nat → Int} {it : Nat → Nat → Int} {h : Nat → Option rr_E} (hA : IA n v kn kv im tl tp sz it) (hD : ID n v kn kv im tl tp sz it h) (hR : IRo L xs h) {a : Int} (ha_ : b3 a) {b : Int} (hb_ : b3 b) {z : Int} (hz_ : b3 z) : rr_Calls (d + 20) j_Desk_surplus [.ref 0, .int (ii a), .int (ii b), .int (ii z)] (N, S, h) (fun r R => r = some (.long (jj (sp_surplus n v a b z))) ∧ ∃ h', R = (N, S, h') ∧ (∀ k, 58 ≤ k → h' k = h k) ∧ ID n v kn kv im tl tp sz it h' ∧ IA n v kn kv im tl tp sz it) := by
  have hD0 := hD
  obtain ⟨sl, dc, dp, df, dv, n5, be3, x3, y3, be6, x6, y6, x4, y4, k9, f10, s11, w12, w0, A3, E3, A6, E6, W4, c0, hsl, c1, c2, c3, c4, c5, c6, hw0, c7, c8, c9, c10, c11, c12, hraw, hsv, hraw2, c43, c44, c45, c46, c47, c48, c49, c50, c51, c52, c53, c57⟩ := hD
  obtain ⟨hV, hKV, htl, htp, hsz, hb, him⟩ := id hA
  obtain ⟨hn, hv, h0⟩ := id hV
  have c1000000 : h 1000000 = some (.inl (8, 5, .inl (fun j => rr_two.getD j 0))) := hR 1000000 (by decide)
  have c1000001 : h 1000001 = some (.inl (8, 25, .inl (fun j => rr_three.getD j 0))) := hR 1000001 (by decide)
  have c1000002 : h 1000002 = some (.inl (8, 205, .inl (fun j => rr_four.getD j 0))) := hR 1000002 (by decide)
  refine calls_w (calls_d (d_surplus (d := d + 13) hn c1 c2 hv h0 c1000000 c1000001 c1000002 c0 hsl hraw hsv ha_ hb_ hz_) (show d + 13 + 7 = d + 20 by omega)) ?_
  rintro _ _ ⟨rfl, h', sl', rfl, hf, c0, hsl', hraw', hsv'⟩
  exact ⟨rfl, h', rfl, fun k hk => hf k (by simp; omega), ⟨_, _, _, _, _, _, _, _, _, _, _, _, _, _, _, _, _, _, _, _, _, _, _, _, c0, hsl', (hf 1 (by decide)).trans c1, (hf 2 (by decide)).trans c2, (hf 3 (by decide)).trans c3, (hf 4 (by decide)).trans c4, (hf 5 (by decide)).trans c5, (hf 6 (by decide)).trans c6, hw0, (hf 7 (by decide)).trans c7, (hf 8 (by decide)).trans c8, (hf 9 (by decide)).trans c9, (hf 10 (by decide)).trans c10, (hf 11 (by decide)).trans c11, (hf 12 (by decide)).trans c12, hraw', hsv', fr_RAW28 hf (by decide) (fun i hi => by first | (simp; done) | (simp; omega)) hraw2, (hf 43 (by decide)).trans c43, (hf 44 (by decide)).trans c44, (hf 45 (by decide)).trans c45, (hf 46 (by decide)).trans c46, (hf 47 (by decide)).trans c47, (hf 48 (by decide)).trans c48, (hf 49 (by decide)).trans c49, (hf 50 (by decide)).trans c50, (hf 51 (by decide)).trans c51, (hf 52 (by decide)).trans c52, (fun l hl => (hf (53 + l) (by first | (simp; done) | (simp; omega))).trans (c53 l hl)), (hf 57 (by decide)).trans c57⟩, hA⟩
theorem D_cost {d N S L : Nat} {xs : Nat → Int32} {n : Nat} {v : Nat → Int} {kn : Nat} {kv : Nat → Int} {im : Int} {tl : Nat} {tp sz : Nat → Int} {it : Nat → Nat → Int} {h : Nat → Option rr_E} (hA : IA n v kn kv im tl tp sz it) (hD : ID n v kn kv im tl tp sz it h) (hR : IRo L xs h) {z : Int} (hz_ : b3 z) : rr_Calls (d + 20) j_Desk_cost [.ref 0, .int (ii z)] (N, S, h) (fun r R => r = some (.long (jj (sp_cost n v z))) ∧ ∃ h', R = (N, S, h') ∧ (∀ k, 58 ≤ k → h' k = h k) ∧ ID n v kn kv im tl tp sz it h' ∧ IA n v kn kv im tl tp sz it) := by
  have hD0 := hD
  obtain ⟨sl, dc, dp, df, dv, n5, be3, x3, y3, be6, x6, y6, x4, y4, k9, f10, s11, w12, w0, A3, E3, A6, E6, W4, c0, hsl, c1, c2, c3, c4, c5, c6, hw0, c7, c8, c9, c10, c11, c12, hraw, hsv, hraw2, c43, c44, c45, c46, c47, c48, c49, c50, c51, c52, c53, c57⟩ := hD
  obtain ⟨hV, hKV, htl, htp, hsz, hb, him⟩ := id hA
  obtain ⟨hn, hv, h0⟩ := id hV
  have c1000000 : h 1000000 = some (.inl (8, 5, .inl (fun j => rr_two.getD j 0))) := hR 1000000 (by decide)
  have c1000001 : h 1000001 = some (.inl (8, 25, .inl (fun j => rr_three.getD j 0))) := hR 1000001 (by decide)
  have c1000002 : h 1000002 = some (.inl (8, 205, .inl (fun j => rr_four.getD j 0))) := hR 1000002 (by decide)
  refine calls_w (calls_d (d_cost (d := d + 16) hn c1 c2 hv h0 c1000000 c1000001 c1000002 c0 hz_) (show d + 16 + 4 = d + 20 by omega)) ?_
  rintro _ _ ⟨rfl, rfl⟩
  exact ⟨rfl, h, rfl, fun _ _ => rfl, hD0, hA⟩
theorem D_byTurns {d N S L : Nat} {xs : Nat → Int32} {n : Nat} {v : Nat → Int} {kn : Nat} {kv : Nat → Int} {im : Int} {tl : Nat} {tp sz : Nat → Int} {it : Nat → Nat → Int} {h : Nat → Option rr_E} (hA : IA n v kn kv im tl tp sz it) (hD : ID n v kn kv im tl tp sz it h) (hR : IRo L xs h) {a : Int} (ha_ : b3 a) {z : Int} (hz_ : b3 z) : rr_Calls (d + 20) j_Desk_byTurns [.ref 0, .int (ii a), .int (ii z)] (N, S, h) (fun r R => r = some (.long (jj (if (0 ≤ a ∧ a < (n : Int)) ∧ (z = 0 ∨ z = 1) then lw (dT n a.toNat v) (FA n) z else (-9223372036854775808)))) ∧ ∃ h', R = (N, S, h') ∧ (∀ k, 58 ≤ k → h' k = h k) ∧ ID n v kn kv im tl tp sz it h' ∧ IA n v kn kv im tl tp sz it) := by
  have hD0 := hD
  obtain ⟨sl, dc, dp, df, dv, n5, be3, x3, y3, be6, x6, y6, x4, y4, k9, f10, s11, w12, w0, A3, E3, A6, E6, W4, c0, hsl, c1, c2, c3, c4, c5, c6, hw0, c7, c8, c9, c10, c11, c12, hraw, hsv, hraw2, c43, c44, c45, c46, c47, c48, c49, c50, c51, c52, c53, c57⟩ := hD
  obtain ⟨hV, hKV, htl, htp, hsz, hb, him⟩ := id hA
  obtain ⟨hn, hv, h0⟩ := id hV
  have c1000003 : h 1000003 = some (.inl (8, 5, .inl (fun j => rr_fac.getD j 0))) := hR 1000003 (by decide)
  refine calls_w (calls_d (d_byTurns (d := d + 16) hn c1 c2 hv c1000003 c0 ha_ hz_) (show d + 16 + 4 = d + 20 by omega)) ?_
  rintro _ _ ⟨rfl, rfl⟩
  exact ⟨rfl, h, rfl, fun _ _ => rfl, hD0, hA⟩
theorem D_would {d N S L : Nat} {xs : Nat → Int32} {n : Nat} {v : Nat → Int} {kn : Nat} {kv : Nat → Int} {im : Int} {tl : Nat} {tp sz : Nat → Int} {it : Nat → Nat → Int} {h : Nat → Option rr_E} (hA : IA n v kn kv im tl tp sz it) (hD : ID n v kn kv im tl tp sz it h) (hR : IRo L xs h) {g : Int} (hg_ : b3 g) {w : Int} (hw_ : b3 w) {a : Int} (ha_ : b3 a) {z : Int} (hz_ : b3 z) : rr_Calls (d + 20) j_Desk_would [.ref 0, .int (ii g), .int (ii w), .int (ii a), .int (ii z)] (N, S, h) (fun r R => r = some (.long (jj (sp_would n v g w a z))) ∧ ∃ h', R = (N, S, h') ∧ (∀ k, 58 ≤ k → h' k = h k) ∧ ID n v kn kv im tl tp sz it h' ∧ IA n v kn kv im tl tp sz it) := by
  have hD0 := hD
  obtain ⟨sl, dc, dp, df, dv, n5, be3, x3, y3, be6, x6, y6, x4, y4, k9, f10, s11, w12, w0, A3, E3, A6, E6, W4, c0, hsl, c1, c2, c3, c4, c5, c6, hw0, c7, c8, c9, c10, c11, c12, hraw, hsv, hraw2, c43, c44, c45, c46, c47, c48, c49, c50, c51, c52, c53, c57⟩ := hD
  obtain ⟨hV, hKV, htl, htp, hsz, hb, him⟩ := id hA
  obtain ⟨hn, hv, h0⟩ := id hV
  have c1000000 : h 1000000 = some (.inl (8, 5, .inl (fun j => rr_two.getD j 0))) := hR 1000000 (by decide)
  have c1000001 : h 1000001 = some (.inl (8, 25, .inl (fun j => rr_three.getD j 0))) := hR 1000001 (by decide)
  have c1000002 : h 1000002 = some (.inl (8, 205, .inl (fun j => rr_four.getD j 0))) := hR 1000002 (by decide)
  refine calls_w (calls_d (d_would (d := d + 13) hn c1 c2 hv h0 c1000000 c1000001 c1000002 c0 c5 c6 hw0 hraw2 hg_ hw_ ha_ hz_) (show d + 13 + 7 = d + 20 by omega)) ?_
  rintro _ _ ⟨rfl, h', n5', w0', rfl, hf, c5, c6, hw0', hraw2'⟩
  exact ⟨rfl, h', rfl, fun k hk => hf k (by simp; omega), ⟨_, _, _, _, _, _, _, _, _, _, _, _, _, _, _, _, _, _, _, _, _, _, _, _, (hf 0 (by decide)).trans c0, hsl, (hf 1 (by decide)).trans c1, (hf 2 (by decide)).trans c2, (hf 3 (by decide)).trans c3, (hf 4 (by decide)).trans c4, c5, c6, hw0', (hf 7 (by decide)).trans c7, (hf 8 (by decide)).trans c8, (hf 9 (by decide)).trans c9, (hf 10 (by decide)).trans c10, (hf 11 (by decide)).trans c11, (hf 12 (by decide)).trans c12, fr_RAW13 hf (by decide) (fun i hi => by first | (simp; done) | (simp; omega)) hraw, fun e => fr_SV13 hf (by decide) (fun i hi => by first | (simp; done) | (simp; omega)) (hsv e), hraw2', (hf 43 (by decide)).trans c43, (hf 44 (by decide)).trans c44, (hf 45 (by decide)).trans c45, (hf 46 (by decide)).trans c46, (hf 47 (by decide)).trans c47, (hf 48 (by decide)).trans c48, (hf 49 (by decide)).trans c49, (hf 50 (by decide)).trans c50, (hf 51 (by decide)).trans c51, (hf 52 (by decide)).trans c52, (fun l hl => (hf (53 + l) (by first | (simp; done) | (simp; omega))).trans (c53 l hl)), (hf 57 (by decide)).trans c57⟩, hA⟩
theorem D_needs {d N S L : Nat} {xs : Nat → Int32} {n : Nat} {v : Nat → Int} {kn : Nat} {kv : Nat → Int} {im : Int} {tl : Nat} {tp sz : Nat → Int} {it : Nat → Nat → Int} {h : Nat → Option rr_E} (hA : IA n v kn kv im tl tp sz it) (hD : ID n v kn kv im tl tp sz it h) (hR : IRo L xs h) {g : Int} (hg_ : b3 g) {a : Int} (ha_ : b3 a) {x : Int} (hx_ : b3 x) : rr_Calls (d + 20) j_Desk_needs [.ref 0, .int (ii g), .int (ii a), .int (ii x)] (N, S, h) (fun r R => r = some (.long (jj (sp_needs n v g a x))) ∧ ∃ h', R = (N, S, h') ∧ (∀ k, 58 ≤ k → h' k = h k) ∧ ID n v kn kv im tl tp sz it h' ∧ IA n v kn kv im tl tp sz it) := by
  have hD0 := hD
  obtain ⟨sl, dc, dp, df, dv, n5, be3, x3, y3, be6, x6, y6, x4, y4, k9, f10, s11, w12, w0, A3, E3, A6, E6, W4, c0, hsl, c1, c2, c3, c4, c5, c6, hw0, c7, c8, c9, c10, c11, c12, hraw, hsv, hraw2, c43, c44, c45, c46, c47, c48, c49, c50, c51, c52, c53, c57⟩ := hD
  obtain ⟨hV, hKV, htl, htp, hsz, hb, him⟩ := id hA
  obtain ⟨hn, hv, h0⟩ := id hV
  have c1000000 : h 1000000 = some (.inl (8, 5, .inl (fun j => rr_two.getD j 0))) := hR 1000000 (by decide)
  have c1000001 : h 1000001 = some (.inl (8, 25, .inl (fun j => rr_three.getD j 0))) := hR 1000001 (by decide)
  have c1000002 : h 1000002 = some (.inl (8, 205, .inl (fun j => rr_four.getD j 0))) := hR 1000002 (by decide)
  refine calls_w (calls_d (d_needs (d := d + 13) hn c1 c2 hv h0 c1000000 c1000001 c1000002 c0 c5 c6 hw0 hraw2 hg_ ha_ hx_) (show d + 13 + 7 = d + 20 by omega)) ?_
  rintro _ _ ⟨rfl, h', n5', w0', rfl, hf, c5, c6, hw0', hraw2'⟩
  exact ⟨rfl, h', rfl, fun k hk => hf k (by simp; omega), ⟨_, _, _, _, _, _, _, _, _, _, _, _, _, _, _, _, _, _, _, _, _, _, _, _, (hf 0 (by decide)).trans c0, hsl, (hf 1 (by decide)).trans c1, (hf 2 (by decide)).trans c2, (hf 3 (by decide)).trans c3, (hf 4 (by decide)).trans c4, c5, c6, hw0', (hf 7 (by decide)).trans c7, (hf 8 (by decide)).trans c8, (hf 9 (by decide)).trans c9, (hf 10 (by decide)).trans c10, (hf 11 (by decide)).trans c11, (hf 12 (by decide)).trans c12, fr_RAW13 hf (by decide) (fun i hi => by first | (simp; done) | (simp; omega)) hraw, fun e => fr_SV13 hf (by decide) (fun i hi => by first | (simp; done) | (simp; omega)) (hsv e), hraw2', (hf 43 (by decide)).trans c43, (hf 44 (by decide)).trans c44, (hf 45 (by decide)).trans c45, (hf 46 (by decide)).trans c46, (hf 47 (by decide)).trans c47, (hf 48 (by decide)).trans c48, (hf 49 (by decide)).trans c49, (hf 50 (by decide)).trans c50, (hf 51 (by decide)).trans c51, (hf 52 (by decide)).trans c52, (fun l hl => (hf (53 + l) (by first | (simp; done) | (simp; omega))).trans (c53 l hl)), (hf 57 (by decide)).trans c57⟩, hA⟩
theorem D_is {d N S L : Nat} {xs : Nat → Int32} {n : Nat} {v : Nat → Int} {kn : Nat} {kv : Nat → Int} {im : Int} {tl : Nat} {tp sz : Nat → Int} {it : Nat → Nat → Int} {h : Nat → Option rr_E} (hA : IA n v kn kv im tl tp sz it) (hD : ID n v kn kv im tl tp sz it h) (hR : IRo L xs h) {w : Int} (hw_ : b3 w) : rr_Calls (d + 20) j_Desk_is [.ref 0, .int (ii w)] (N, S, h) (fun r R => r = some (.int (ii (if 0 ≤ w ∧ w ≤ 2 then (if sp_against n v w = -5 then 1 else 0) else -1))) ∧ ∃ h', R = (N, S, h') ∧ (∀ k, 58 ≤ k → h' k = h k) ∧ ID n v kn kv im tl tp sz it h' ∧ IA n v kn kv im tl tp sz it) := by
  have hD0 := hD
  obtain ⟨sl, dc, dp, df, dv, n5, be3, x3, y3, be6, x6, y6, x4, y4, k9, f10, s11, w12, w0, A3, E3, A6, E6, W4, c0, hsl, c1, c2, c3, c4, c5, c6, hw0, c7, c8, c9, c10, c11, c12, hraw, hsv, hraw2, c43, c44, c45, c46, c47, c48, c49, c50, c51, c52, c53, c57⟩ := hD
  obtain ⟨hV, hKV, htl, htp, hsz, hb, him⟩ := id hA
  obtain ⟨hn, hv, h0⟩ := id hV
  skip
  refine calls_w (calls_d (d_is (d := d + 17) hn c1 c2 hv c0 hw_) (show d + 17 + 3 = d + 20 by omega)) ?_
  rintro _ _ ⟨rfl, rfl⟩
  exact ⟨rfl, h, rfl, fun _ _ => rfl, hD0, hA⟩
theorem D_idle {d N S L : Nat} {xs : Nat → Int32} {n : Nat} {v : Nat → Int} {kn : Nat} {kv : Nat → Int} {im : Int} {tl : Nat} {tp sz : Nat → Int} {it : Nat → Nat → Int} {h : Nat → Option rr_E} (hA : IA n v kn kv im tl tp sz it) (hD : ID n v kn kv im tl tp sz it h) (hR : IRo L xs h) : rr_Calls (d + 20) j_Desk_idle [.ref 0] (N, S, h) (fun r R => r = some (.int (ii ((os (AN n v) n : Nat) : Int))) ∧ ∃ h', R = (N, S, h') ∧ (∀ k, 58 ≤ k → h' k = h k) ∧ ID n v kn kv im tl tp sz it h' ∧ IA n v kn kv im tl tp sz it) := by
  have hD0 := hD
  obtain ⟨sl, dc, dp, df, dv, n5, be3, x3, y3, be6, x6, y6, x4, y4, k9, f10, s11, w12, w0, A3, E3, A6, E6, W4, c0, hsl, c1, c2, c3, c4, c5, c6, hw0, c7, c8, c9, c10, c11, c12, hraw, hsv, hraw2, c43, c44, c45, c46, c47, c48, c49, c50, c51, c52, c53, c57⟩ := hD
  obtain ⟨hV, hKV, htl, htp, hsz, hb, him⟩ := id hA
  obtain ⟨hn, hv, h0⟩ := id hV
  skip
  refine calls_w (calls_d (d_idle (d := d + 17) hn c1 c2 hv h0 c0) (show d + 17 + 3 = d + 20 by omega)) ?_
  rintro _ _ ⟨rfl, rfl⟩
  exact ⟨rfl, h, rfl, fun _ _ => rfl, hD0, hA⟩
theorem D_alike {d N S L : Nat} {xs : Nat → Int32} {n : Nat} {v : Nat → Int} {kn : Nat} {kv : Nat → Int} {im : Int} {tl : Nat} {tp sz : Nat → Int} {it : Nat → Nat → Int} {h : Nat → Option rr_E} (hA : IA n v kn kv im tl tp sz it) (hD : ID n v kn kv im tl tp sz it h) (hR : IRo L xs h) {a : Int} (ha_ : b3 a) : rr_Calls (d + 20) j_Desk_alike [.ref 0, .int (ii a)] (N, S, h) (fun r R => r = some (.int (ii (if 0 ≤ a ∧ a < n then ((os (fun p => p ≠ a.toNat ∧ AL n v a.toNat p) n : Nat) : Int) else -1))) ∧ ∃ h', R = (N, S, h') ∧ (∀ k, 58 ≤ k → h' k = h k) ∧ ID n v kn kv im tl tp sz it h' ∧ IA n v kn kv im tl tp sz it) := by
  have hD0 := hD
  obtain ⟨sl, dc, dp, df, dv, n5, be3, x3, y3, be6, x6, y6, x4, y4, k9, f10, s11, w12, w0, A3, E3, A6, E6, W4, c0, hsl, c1, c2, c3, c4, c5, c6, hw0, c7, c8, c9, c10, c11, c12, hraw, hsv, hraw2, c43, c44, c45, c46, c47, c48, c49, c50, c51, c52, c53, c57⟩ := hD
  obtain ⟨hV, hKV, htl, htp, hsz, hb, him⟩ := id hA
  obtain ⟨hn, hv, h0⟩ := id hV
  skip
  refine calls_w (calls_d (d_alike (d := d + 17) hn c1 c2 hv c0 ha_) (show d + 17 + 3 = d + 20 by omega)) ?_
  rintro _ _ ⟨rfl, rfl⟩
  exact ⟨rfl, h, rfl, fun _ _ => rfl, hD0, hA⟩
theorem D_against {d N S L : Nat} {xs : Nat → Int32} {n : Nat} {v : Nat → Int} {kn : Nat} {kv : Nat → Int} {im : Int} {tl : Nat} {tp sz : Nat → Int} {it : Nat → Nat → Int} {h : Nat → Option rr_E} (hA : IA n v kn kv im tl tp sz it) (hD : ID n v kn kv im tl tp sz it h) (hR : IRo L xs h) {w : Int} (hw_ : b3 w) : rr_Calls (d + 20) j_Desk_against [.ref 0, .int (ii w)] (N, S, h) (fun r R => r = some (.int (ii (if 0 ≤ w ∧ w ≤ 2 then sp_against n v w else -1))) ∧ ∃ h', R = (N, S, h') ∧ (∀ k, 58 ≤ k → h' k = h k) ∧ ID n v kn kv im tl tp sz it h' ∧ IA n v kn kv im tl tp sz it) := by
  have hD0 := hD
  obtain ⟨sl, dc, dp, df, dv, n5, be3, x3, y3, be6, x6, y6, x4, y4, k9, f10, s11, w12, w0, A3, E3, A6, E6, W4, c0, hsl, c1, c2, c3, c4, c5, c6, hw0, c7, c8, c9, c10, c11, c12, hraw, hsv, hraw2, c43, c44, c45, c46, c47, c48, c49, c50, c51, c52, c53, c57⟩ := hD
  obtain ⟨hV, hKV, htl, htp, hsz, hb, him⟩ := id hA
  obtain ⟨hn, hv, h0⟩ := id hV
  skip
  refine calls_w (calls_d (d_against (d := d + 17) hn c1 c2 hv c0 hw_) (show d + 17 + 3 = d + 20 by omega)) ?_
  rintro _ _ ⟨rfl, rfl⟩
  exact ⟨rfl, h, rfl, fun _ _ => rfl, hD0, hA⟩
theorem D_grudgeBy {d N S L : Nat} {xs : Nat → Int32} {n : Nat} {v : Nat → Int} {kn : Nat} {kv : Nat → Int} {im : Int} {tl : Nat} {tp sz : Nat → Int} {it : Nat → Nat → Int} {h : Nat → Option rr_E} (hA : IA n v kn kv im tl tp sz it) (hD : ID n v kn kv im tl tp sz it h) (hR : IRo L xs h) {a : Int} (ha_ : b3 a) {i : Int} (hi_ : b3 i) {g : Int} (hg_ : b3 g) {z : Int} (hz_ : b3 z) : rr_Calls (d + 20) j_Desk_grudgeBy [.ref 0, .int (ii a), .int (ii i), .int (ii g), .int (ii z)] (N, S, h) (fun r R => r = some (.long (jj (sp_grudgeBy n v sz it a i g z))) ∧ ∃ h', R = (N, S, h') ∧ (∀ k, 58 ≤ k → h' k = h k) ∧ ID n v kn kv im tl tp sz it h' ∧ IA n v kn kv im tl tp sz it) := by
  have hD0 := hD
  obtain ⟨sl, dc, dp, df, dv, n5, be3, x3, y3, be6, x6, y6, x4, y4, k9, f10, s11, w12, w0, A3, E3, A6, E6, W4, c0, hsl, c1, c2, c3, c4, c5, c6, hw0, c7, c8, c9, c10, c11, c12, hraw, hsv, hraw2, c43, c44, c45, c46, c47, c48, c49, c50, c51, c52, c53, c57⟩ := hD
  obtain ⟨hV, hKV, htl, htp, hsz, hb, him⟩ := id hA
  obtain ⟨hn, hv, h0⟩ := id hV
  skip
  refine calls_w (calls_d (d_grudgeBy (d := d + 16) hn c1 c2 hv hsz hb c51 c52 c53 c57 c43 c44 c45 c0 ha_ hi_ hg_ hz_) (show d + 16 + 4 = d + 20 by omega)) ?_
  rintro _ _ ⟨rfl, h', rfl, hf, ⟨_, _, _, _, _, c43, c44, c45⟩⟩
  exact ⟨rfl, h', rfl, fun k hk => hf k (by simp; omega), ⟨_, _, _, _, _, _, _, _, _, _, _, _, _, _, _, _, _, _, _, _, _, _, _, _, (hf 0 (by decide)).trans c0, hsl, (hf 1 (by decide)).trans c1, (hf 2 (by decide)).trans c2, (hf 3 (by decide)).trans c3, (hf 4 (by decide)).trans c4, (hf 5 (by decide)).trans c5, (hf 6 (by decide)).trans c6, hw0, (hf 7 (by decide)).trans c7, (hf 8 (by decide)).trans c8, (hf 9 (by decide)).trans c9, (hf 10 (by decide)).trans c10, (hf 11 (by decide)).trans c11, (hf 12 (by decide)).trans c12, fr_RAW13 hf (by decide) (fun i hi => by first | (simp; done) | (simp; omega)) hraw, fun e => fr_SV13 hf (by decide) (fun i hi => by first | (simp; done) | (simp; omega)) (hsv e), fr_RAW28 hf (by decide) (fun i hi => by first | (simp; done) | (simp; omega)) hraw2, c43, c44, c45, (hf 46 (by decide)).trans c46, (hf 47 (by decide)).trans c47, (hf 48 (by decide)).trans c48, (hf 49 (by decide)).trans c49, (hf 50 (by decide)).trans c50, (hf 51 (by decide)).trans c51, (hf 52 (by decide)).trans c52, (fun l hl => (hf (53 + l) (by first | (simp; done) | (simp; omega))).trans (c53 l hl)), (hf 57 (by decide)).trans c57⟩, hA⟩
theorem D_shares {d N S L : Nat} {xs : Nat → Int32} {n : Nat} {v : Nat → Int} {kn : Nat} {kv : Nat → Int} {im : Int} {tl : Nat} {tp sz : Nat → Int} {it : Nat → Nat → Int} {h : Nat → Option rr_E} (hA : IA n v kn kv im tl tp sz it) (hD : ID n v kn kv im tl tp sz it h) (hR : IRo L xs h) {a : Int} (ha_ : b3 a) {i : Int} (hi_ : b3 i) : rr_Calls (d + 20) j_Desk_shares [.ref 0, .int (ii a), .int (ii i)] (N, S, h) (fun r R => r = some (.int (ii (sp_shares n v sz it a i))) ∧ ∃ h', R = (N, S, h') ∧ (∀ k, 58 ≤ k → h' k = h k) ∧ ID n v kn kv im tl tp sz it h' ∧ IA n v kn kv im tl tp sz it) := by
  have hD0 := hD
  obtain ⟨sl, dc, dp, df, dv, n5, be3, x3, y3, be6, x6, y6, x4, y4, k9, f10, s11, w12, w0, A3, E3, A6, E6, W4, c0, hsl, c1, c2, c3, c4, c5, c6, hw0, c7, c8, c9, c10, c11, c12, hraw, hsv, hraw2, c43, c44, c45, c46, c47, c48, c49, c50, c51, c52, c53, c57⟩ := hD
  obtain ⟨hV, hKV, htl, htp, hsz, hb, him⟩ := id hA
  obtain ⟨hn, hv, h0⟩ := id hV
  skip
  refine calls_w (calls_d (d_shares (d := d + 16) hn c1 c2 hv hsz hb c51 c52 c53 c57 c43 c44 c45 c0 ha_ hi_) (show d + 16 + 4 = d + 20 by omega)) ?_
  rintro _ _ ⟨rfl, h', rfl, hf, ⟨_, _, _, _, _, c43, c44, c45⟩⟩
  exact ⟨rfl, h', rfl, fun k hk => hf k (by simp; omega), ⟨_, _, _, _, _, _, _, _, _, _, _, _, _, _, _, _, _, _, _, _, _, _, _, _, (hf 0 (by decide)).trans c0, hsl, (hf 1 (by decide)).trans c1, (hf 2 (by decide)).trans c2, (hf 3 (by decide)).trans c3, (hf 4 (by decide)).trans c4, (hf 5 (by decide)).trans c5, (hf 6 (by decide)).trans c6, hw0, (hf 7 (by decide)).trans c7, (hf 8 (by decide)).trans c8, (hf 9 (by decide)).trans c9, (hf 10 (by decide)).trans c10, (hf 11 (by decide)).trans c11, (hf 12 (by decide)).trans c12, fr_RAW13 hf (by decide) (fun i hi => by first | (simp; done) | (simp; omega)) hraw, fun e => fr_SV13 hf (by decide) (fun i hi => by first | (simp; done) | (simp; omega)) (hsv e), fr_RAW28 hf (by decide) (fun i hi => by first | (simp; done) | (simp; omega)) hraw2, c43, c44, c45, (hf 46 (by decide)).trans c46, (hf 47 (by decide)).trans c47, (hf 48 (by decide)).trans c48, (hf 49 (by decide)).trans c49, (hf 50 (by decide)).trans c50, (hf 51 (by decide)).trans c51, (hf 52 (by decide)).trans c52, (fun l hl => (hf (53 + l) (by first | (simp; done) | (simp; omega))).trans (c53 l hl)), (hf 57 (by decide)).trans c57⟩, hA⟩
theorem D_orderedBy {d N S L : Nat} {xs : Nat → Int32} {n : Nat} {v : Nat → Int} {kn : Nat} {kv : Nat → Int} {im : Int} {tl : Nat} {tp sz : Nat → Int} {it : Nat → Nat → Int} {h : Nat → Option rr_E} (hA : IA n v kn kv im tl tp sz it) (hD : ID n v kn kv im tl tp sz it h) (hR : IRo L xs h) {a : Int} (ha_ : b3 a) {i : Int} (hi_ : b3 i) {k : Int} (hk_ : b3 k) : rr_Calls (d + 20) j_Desk_orderedBy [.ref 0, .int (ii a), .int (ii i), .int (ii k)] (N, S, h) (fun r R => r = some (.int (ii (sp_orderedBy n v sz it a i k))) ∧ ∃ h', R = (N, S, h') ∧ (∀ k, 58 ≤ k → h' k = h k) ∧ ID n v kn kv im tl tp sz it h' ∧ IA n v kn kv im tl tp sz it) := by
  have hD0 := hD
  obtain ⟨sl, dc, dp, df, dv, n5, be3, x3, y3, be6, x6, y6, x4, y4, k9, f10, s11, w12, w0, A3, E3, A6, E6, W4, c0, hsl, c1, c2, c3, c4, c5, c6, hw0, c7, c8, c9, c10, c11, c12, hraw, hsv, hraw2, c43, c44, c45, c46, c47, c48, c49, c50, c51, c52, c53, c57⟩ := hD
  obtain ⟨hV, hKV, htl, htp, hsz, hb, him⟩ := id hA
  obtain ⟨hn, hv, h0⟩ := id hV
  skip
  refine calls_w (calls_d (d_orderedBy (d := d + 16) hn c1 c2 hv hsz hb c51 c52 c53 c57 c43 c44 c45 c0 ha_ hi_ hk_) (show d + 16 + 4 = d + 20 by omega)) ?_
  rintro _ _ ⟨rfl, h', rfl, hf, ⟨_, _, _, _, _, c43, c44, c45⟩⟩
  exact ⟨rfl, h', rfl, fun k hk => hf k (by simp; omega), ⟨_, _, _, _, _, _, _, _, _, _, _, _, _, _, _, _, _, _, _, _, _, _, _, _, (hf 0 (by decide)).trans c0, hsl, (hf 1 (by decide)).trans c1, (hf 2 (by decide)).trans c2, (hf 3 (by decide)).trans c3, (hf 4 (by decide)).trans c4, (hf 5 (by decide)).trans c5, (hf 6 (by decide)).trans c6, hw0, (hf 7 (by decide)).trans c7, (hf 8 (by decide)).trans c8, (hf 9 (by decide)).trans c9, (hf 10 (by decide)).trans c10, (hf 11 (by decide)).trans c11, (hf 12 (by decide)).trans c12, fr_RAW13 hf (by decide) (fun i hi => by first | (simp; done) | (simp; omega)) hraw, fun e => fr_SV13 hf (by decide) (fun i hi => by first | (simp; done) | (simp; omega)) (hsv e), fr_RAW28 hf (by decide) (fun i hi => by first | (simp; done) | (simp; omega)) hraw2, c43, c44, c45, (hf 46 (by decide)).trans c46, (hf 47 (by decide)).trans c47, (hf 48 (by decide)).trans c48, (hf 49 (by decide)).trans c49, (hf 50 (by decide)).trans c50, (hf 51 (by decide)).trans c51, (hf 52 (by decide)).trans c52, (fun l hl => (hf (53 + l) (by first | (simp; done) | (simp; omega))).trans (c53 l hl)), (hf 57 (by decide)).trans c57⟩, hA⟩
theorem D_better {d N S L : Nat} {xs : Nat → Int32} {n : Nat} {v : Nat → Int} {kn : Nat} {kv : Nat → Int} {im : Int} {tl : Nat} {tp sz : Nat → Int} {it : Nat → Nat → Int} {h : Nat → Option rr_E} (hA : IA n v kn kv im tl tp sz it) (hD : ID n v kn kv im tl tp sz it h) (hR : IRo L xs h) {a : Int} (ha_ : b3 a) {i : Int} (hi_ : b3 i) {a2 : Int} (ha2_ : b3 a2) {i2 : Int} (hi2_ : b3 i2) : rr_Calls (d + 20) j_Desk_better [.ref 0, .int (ii a), .int (ii i), .int (ii a2), .int (ii i2)] (N, S, h) (fun r R => r = some (.int (ii (sp_better n v sz it a i a2 i2))) ∧ ∃ h', R = (N, S, h') ∧ (∀ k, 58 ≤ k → h' k = h k) ∧ ID n v kn kv im tl tp sz it h' ∧ IA n v kn kv im tl tp sz it) := by
  have hD0 := hD
  obtain ⟨sl, dc, dp, df, dv, n5, be3, x3, y3, be6, x6, y6, x4, y4, k9, f10, s11, w12, w0, A3, E3, A6, E6, W4, c0, hsl, c1, c2, c3, c4, c5, c6, hw0, c7, c8, c9, c10, c11, c12, hraw, hsv, hraw2, c43, c44, c45, c46, c47, c48, c49, c50, c51, c52, c53, c57⟩ := hD
  obtain ⟨hV, hKV, htl, htp, hsz, hb, him⟩ := id hA
  obtain ⟨hn, hv, h0⟩ := id hV
  skip
  refine calls_w (calls_d (d_better (d := d + 16) hn c1 c2 hv hsz hb c51 c52 c53 c57 c43 c44 c45 c0 c46 c47 c48 ha_ hi_ ha2_ hi2_) (show d + 16 + 4 = d + 20 by omega)) ?_
  rintro _ _ ⟨rfl, h', rfl, hf, ⟨_, _, _, _, _, c43, c44, c45⟩, ⟨_, _, _, _, _, c46, c47, c48⟩⟩
  exact ⟨rfl, h', rfl, fun k hk => hf k (by simp; omega), ⟨_, _, _, _, _, _, _, _, _, _, _, _, _, _, _, _, _, _, _, _, _, _, _, _, (hf 0 (by decide)).trans c0, hsl, (hf 1 (by decide)).trans c1, (hf 2 (by decide)).trans c2, (hf 3 (by decide)).trans c3, (hf 4 (by decide)).trans c4, (hf 5 (by decide)).trans c5, (hf 6 (by decide)).trans c6, hw0, (hf 7 (by decide)).trans c7, (hf 8 (by decide)).trans c8, (hf 9 (by decide)).trans c9, (hf 10 (by decide)).trans c10, (hf 11 (by decide)).trans c11, (hf 12 (by decide)).trans c12, fr_RAW13 hf (by decide) (fun i hi => by first | (simp; done) | (simp; omega)) hraw, fun e => fr_SV13 hf (by decide) (fun i hi => by first | (simp; done) | (simp; omega)) (hsv e), fr_RAW28 hf (by decide) (fun i hi => by first | (simp; done) | (simp; omega)) hraw2, c43, c44, c45, c46, c47, c48, (hf 49 (by decide)).trans c49, (hf 50 (by decide)).trans c50, (hf 51 (by decide)).trans c51, (hf 52 (by decide)).trans c52, (fun l hl => (hf (53 + l) (by first | (simp; done) | (simp; omega))).trans (c53 l hl)), (hf 57 (by decide)).trans c57⟩, hA⟩
theorem D_judge {d N S L : Nat} {xs : Nat → Int32} {n : Nat} {v : Nat → Int} {kn : Nat} {kv : Nat → Int} {im : Int} {tl : Nat} {tp sz : Nat → Int} {it : Nat → Nat → Int} {h : Nat → Option rr_E} (hA : IA n v kn kv im tl tp sz it) (hD : ID n v kn kv im tl tp sz it h) (hR : IRo L xs h) {a : Int} (ha_ : b3 a) {i : Int} (hi_ : b3 i) : rr_Calls (d + 20) j_Desk_judge [.ref 0, .int (ii a), .int (ii i)] (N, S, h) (fun r R => r = some (.int (ii (sp_judge n v sz it a i))) ∧ ∃ h', R = (N, S, h') ∧ (∀ k, 58 ≤ k → h' k = h k) ∧ ID n v kn kv im tl tp sz it h' ∧ IA n v kn kv im tl tp sz it) := by
  have hD0 := hD
  obtain ⟨sl, dc, dp, df, dv, n5, be3, x3, y3, be6, x6, y6, x4, y4, k9, f10, s11, w12, w0, A3, E3, A6, E6, W4, c0, hsl, c1, c2, c3, c4, c5, c6, hw0, c7, c8, c9, c10, c11, c12, hraw, hsv, hraw2, c43, c44, c45, c46, c47, c48, c49, c50, c51, c52, c53, c57⟩ := hD
  obtain ⟨hV, hKV, htl, htp, hsz, hb, him⟩ := id hA
  obtain ⟨hn, hv, h0⟩ := id hV
  have c1000000 : h 1000000 = some (.inl (8, 5, .inl (fun j => rr_two.getD j 0))) := hR 1000000 (by decide)
  have c1000001 : h 1000001 = some (.inl (8, 25, .inl (fun j => rr_three.getD j 0))) := hR 1000001 (by decide)
  have c1000002 : h 1000002 = some (.inl (8, 205, .inl (fun j => rr_four.getD j 0))) := hR 1000002 (by decide)
  refine calls_w (calls_d (d_judge (d := d + 13) hn c1 c2 hv hsz hb c51 c52 c53 c57 c43 c44 c45 h0 c1000000 c1000001 c1000002 c0 hsl hraw hsv ha_ hi_) (show d + 13 + 7 = d + 20 by omega)) ?_
  rintro _ _ ⟨rfl, h', sl', rfl, hf, c0, hsl', hraw', hsv', _, _, _, _, _, c43, c44, c45⟩
  exact ⟨rfl, h', rfl, fun k hk => hf k (by simp; omega), ⟨_, _, _, _, _, _, _, _, _, _, _, _, _, _, _, _, _, _, _, _, _, _, _, _, c0, hsl', (hf 1 (by decide)).trans c1, (hf 2 (by decide)).trans c2, (hf 3 (by decide)).trans c3, (hf 4 (by decide)).trans c4, (hf 5 (by decide)).trans c5, (hf 6 (by decide)).trans c6, hw0, (hf 7 (by decide)).trans c7, (hf 8 (by decide)).trans c8, (hf 9 (by decide)).trans c9, (hf 10 (by decide)).trans c10, (hf 11 (by decide)).trans c11, (hf 12 (by decide)).trans c12, hraw', hsv', fr_RAW28 hf (by decide) (fun i hi => by first | (simp; done) | (simp; omega)) hraw2, c43, c44, c45, (hf 46 (by decide)).trans c46, (hf 47 (by decide)).trans c47, (hf 48 (by decide)).trans c48, (hf 49 (by decide)).trans c49, (hf 50 (by decide)).trans c50, (hf 51 (by decide)).trans c51, (hf 52 (by decide)).trans c52, (fun l hl => (hf (53 + l) (by first | (simp; done) | (simp; omega))).trans (c53 l hl)), (hf 57 (by decide)).trans c57⟩, hA⟩
theorem D_proves {d N S L : Nat} {xs : Nat → Int32} {n : Nat} {v : Nat → Int} {kn : Nat} {kv : Nat → Int} {im : Int} {tl : Nat} {tp sz : Nat → Int} {it : Nat → Nat → Int} {h : Nat → Option rr_E} (hA : IA n v kn kv im tl tp sz it) (hD : ID n v kn kv im tl tp sz it h) (hR : IRo L xs h) {a : Int} (ha_ : b3 a) {i : Int} (hi_ : b3 i) : rr_Calls (d + 20) j_Desk_proves [.ref 0, .int (ii a), .int (ii i)] (N, S, h) (fun r R => r = some (.int (ii (sp_proves n v sz it a i))) ∧ ∃ h', R = (N, S, h') ∧ (∀ k, 58 ≤ k → h' k = h k) ∧ ID n v kn kv im tl tp sz it h' ∧ IA n v kn kv im tl tp sz it) := by
  have hD0 := hD
  obtain ⟨sl, dc, dp, df, dv, n5, be3, x3, y3, be6, x6, y6, x4, y4, k9, f10, s11, w12, w0, A3, E3, A6, E6, W4, c0, hsl, c1, c2, c3, c4, c5, c6, hw0, c7, c8, c9, c10, c11, c12, hraw, hsv, hraw2, c43, c44, c45, c46, c47, c48, c49, c50, c51, c52, c53, c57⟩ := hD
  obtain ⟨hV, hKV, htl, htp, hsz, hb, him⟩ := id hA
  obtain ⟨hn, hv, h0⟩ := id hV
  have c1000000 : h 1000000 = some (.inl (8, 5, .inl (fun j => rr_two.getD j 0))) := hR 1000000 (by decide)
  have c1000001 : h 1000001 = some (.inl (8, 25, .inl (fun j => rr_three.getD j 0))) := hR 1000001 (by decide)
  have c1000002 : h 1000002 = some (.inl (8, 205, .inl (fun j => rr_four.getD j 0))) := hR 1000002 (by decide)
  refine calls_w (calls_d (d_proves (d := d + 13) hn c1 c2 hv hsz hb c51 c52 c53 c57 c49 c50 h0 c1000000 c1000001 c1000002 c0 hsl hraw hsv ha_ hi_) (show d + 13 + 7 = d + 20 by omega)) ?_
  rintro _ _ ⟨rfl, h', sl', rfl, hf, c0, hsl', hraw', hsv', _, _, _, c49, c50⟩
  exact ⟨rfl, h', rfl, fun k hk => hf k (by simp; omega), ⟨_, _, _, _, _, _, _, _, _, _, _, _, _, _, _, _, _, _, _, _, _, _, _, _, c0, hsl', (hf 1 (by decide)).trans c1, (hf 2 (by decide)).trans c2, (hf 3 (by decide)).trans c3, (hf 4 (by decide)).trans c4, (hf 5 (by decide)).trans c5, (hf 6 (by decide)).trans c6, hw0, (hf 7 (by decide)).trans c7, (hf 8 (by decide)).trans c8, (hf 9 (by decide)).trans c9, (hf 10 (by decide)).trans c10, (hf 11 (by decide)).trans c11, (hf 12 (by decide)).trans c12, hraw', hsv', fr_RAW28 hf (by decide) (fun i hi => by first | (simp; done) | (simp; omega)) hraw2, (hf 43 (by decide)).trans c43, (hf 44 (by decide)).trans c44, (hf 45 (by decide)).trans c45, (hf 46 (by decide)).trans c46, (hf 47 (by decide)).trans c47, (hf 48 (by decide)).trans c48, c49, c50, (hf 51 (by decide)).trans c51, (hf 52 (by decide)).trans c52, (fun l hl => (hf (53 + l) (by first | (simp; done) | (simp; omega))).trans (c53 l hl)), (hf 57 (by decide)).trans c57⟩, hA⟩
theorem D_proof {d N S L : Nat} {xs : Nat → Int32} {n : Nat} {v : Nat → Int} {kn : Nat} {kv : Nat → Int} {im : Int} {tl : Nat} {tp sz : Nat → Int} {it : Nat → Nat → Int} {h : Nat → Option rr_E} (hA : IA n v kn kv im tl tp sz it) (hD : ID n v kn kv im tl tp sz it h) (hR : IRo L xs h) {a : Int} (ha_ : b3 a) {i : Int} (hi_ : b3 i) {z : Int} (hz_ : b3 z) : rr_Calls (d + 20) j_Desk_proof [.ref 0, .int (ii a), .int (ii i), .int (ii z)] (N, S, h) (fun r R => r = some (.long (jj (sp_proof n v sz it a i z))) ∧ ∃ h', R = (N, S, h') ∧ (∀ k, 58 ≤ k → h' k = h k) ∧ ID n v kn kv im tl tp sz it h' ∧ IA n v kn kv im tl tp sz it) := by
  have hD0 := hD
  obtain ⟨sl, dc, dp, df, dv, n5, be3, x3, y3, be6, x6, y6, x4, y4, k9, f10, s11, w12, w0, A3, E3, A6, E6, W4, c0, hsl, c1, c2, c3, c4, c5, c6, hw0, c7, c8, c9, c10, c11, c12, hraw, hsv, hraw2, c43, c44, c45, c46, c47, c48, c49, c50, c51, c52, c53, c57⟩ := hD
  obtain ⟨hV, hKV, htl, htp, hsz, hb, him⟩ := id hA
  obtain ⟨hn, hv, h0⟩ := id hV
  skip
  refine calls_w (calls_d (d_proof (d := d + 16) hn c1 c2 hv hsz hb c51 c52 c53 c57 c49 c50 c0 ha_ hi_ hz_) (show d + 16 + 4 = d + 20 by omega)) ?_
  rintro _ _ ⟨rfl, h', rfl, hf, _, _, _, c49, c50⟩
  exact ⟨rfl, h', rfl, fun k hk => hf k (by simp; omega), ⟨_, _, _, _, _, _, _, _, _, _, _, _, _, _, _, _, _, _, _, _, _, _, _, _, (hf 0 (by decide)).trans c0, hsl, (hf 1 (by decide)).trans c1, (hf 2 (by decide)).trans c2, (hf 3 (by decide)).trans c3, (hf 4 (by decide)).trans c4, (hf 5 (by decide)).trans c5, (hf 6 (by decide)).trans c6, hw0, (hf 7 (by decide)).trans c7, (hf 8 (by decide)).trans c8, (hf 9 (by decide)).trans c9, (hf 10 (by decide)).trans c10, (hf 11 (by decide)).trans c11, (hf 12 (by decide)).trans c12, fr_RAW13 hf (by decide) (fun i hi => by first | (simp; done) | (simp; omega)) hraw, fun e => fr_SV13 hf (by decide) (fun i hi => by first | (simp; done) | (simp; omega)) (hsv e), fr_RAW28 hf (by decide) (fun i hi => by first | (simp; done) | (simp; omega)) hraw2, (hf 43 (by decide)).trans c43, (hf 44 (by decide)).trans c44, (hf 45 (by decide)).trans c45, (hf 46 (by decide)).trans c46, (hf 47 (by decide)).trans c47, (hf 48 (by decide)).trans c48, c49, c50, (hf 51 (by decide)).trans c51, (hf 52 (by decide)).trans c52, (fun l hl => (hf (53 + l) (by first | (simp; done) | (simp; omega))).trans (c53 l hl)), (hf 57 (by decide)).trans c57⟩, hA⟩
theorem D_tilts {d N S L : Nat} {xs : Nat → Int32} {n : Nat} {v : Nat → Int} {kn : Nat} {kv : Nat → Int} {im : Int} {tl : Nat} {tp sz : Nat → Int} {it : Nat → Nat → Int} {h : Nat → Option rr_E} (hA : IA n v kn kv im tl tp sz it) (hD : ID n v kn kv im tl tp sz it h) (hR : IRo L xs h) {a : Int} (ha_ : b3 a) {i : Int} (hi_ : b3 i) : rr_Calls (d + 20) j_Desk_tilts [.ref 0, .int (ii a), .int (ii i)] (N, S, h) (fun r R => r = some (.int (ii (sp_tilts n sz it a i))) ∧ ∃ h', R = (N, S, h') ∧ (∀ k, 58 ≤ k → h' k = h k) ∧ ID n v kn kv im tl tp sz it h' ∧ IA n v kn kv im tl tp sz it) := by
  have hD0 := hD
  obtain ⟨sl, dc, dp, df, dv, n5, be3, x3, y3, be6, x6, y6, x4, y4, k9, f10, s11, w12, w0, A3, E3, A6, E6, W4, c0, hsl, c1, c2, c3, c4, c5, c6, hw0, c7, c8, c9, c10, c11, c12, hraw, hsv, hraw2, c43, c44, c45, c46, c47, c48, c49, c50, c51, c52, c53, c57⟩ := hD
  obtain ⟨hV, hKV, htl, htp, hsz, hb, him⟩ := id hA
  obtain ⟨hn, hv, h0⟩ := id hV
  skip
  refine calls_w (calls_d (d_tilts (d := d + 16) hn c1 c2 hsz hb c51 c52 c53 c57 c49 c50 c0 ha_ hi_) (show d + 16 + 4 = d + 20 by omega)) ?_
  rintro _ _ ⟨rfl, h', rfl, hf, _, _, _, c49, c50⟩
  exact ⟨rfl, h', rfl, fun k hk => hf k (by simp; omega), ⟨_, _, _, _, _, _, _, _, _, _, _, _, _, _, _, _, _, _, _, _, _, _, _, _, (hf 0 (by decide)).trans c0, hsl, (hf 1 (by decide)).trans c1, (hf 2 (by decide)).trans c2, (hf 3 (by decide)).trans c3, (hf 4 (by decide)).trans c4, (hf 5 (by decide)).trans c5, (hf 6 (by decide)).trans c6, hw0, (hf 7 (by decide)).trans c7, (hf 8 (by decide)).trans c8, (hf 9 (by decide)).trans c9, (hf 10 (by decide)).trans c10, (hf 11 (by decide)).trans c11, (hf 12 (by decide)).trans c12, fr_RAW13 hf (by decide) (fun i hi => by first | (simp; done) | (simp; omega)) hraw, fun e => fr_SV13 hf (by decide) (fun i hi => by first | (simp; done) | (simp; omega)) (hsv e), fr_RAW28 hf (by decide) (fun i hi => by first | (simp; done) | (simp; omega)) hraw2, (hf 43 (by decide)).trans c43, (hf 44 (by decide)).trans c44, (hf 45 (by decide)).trans c45, (hf 46 (by decide)).trans c46, (hf 47 (by decide)).trans c47, (hf 48 (by decide)).trans c48, c49, c50, (hf 51 (by decide)).trans c51, (hf 52 (by decide)).trans c52, (fun l hl => (hf (53 + l) (by first | (simp; done) | (simp; omega))).trans (c53 l hl)), (hf 57 (by decide)).trans c57⟩, hA⟩
theorem D_lay {d N S L : Nat} {xs : Nat → Int32} {n : Nat} {v : Nat → Int} {kn : Nat} {kv : Nat → Int} {im : Int} {tl : Nat} {tp sz : Nat → Int} {it : Nat → Nat → Int} {h : Nat → Option rr_E} (hA : IA n v kn kv im tl tp sz it) (hD : ID n v kn kv im tl tp sz it h) (hR : IRo L xs h) {a : Int} (ha_ : b3 a) {i : Int} (hi_ : b3 i) : rr_Calls (d + 20) j_Desk_lay [.ref 0, .int (ii a), .int (ii i)] (N, S, h) (fun r R => r = some (.int (ii (sp_lay n sz a i))) ∧ ∃ h', R = (N, S, h') ∧ (∀ k, 58 ≤ k → h' k = h k) ∧ ID n v kn kv im tl tp sz (itl n v sz it a i) h' ∧ IA n v kn kv im tl tp sz (itl n v sz it a i)) := by
  have hD0 := hD
  obtain ⟨sl, dc, dp, df, dv, n5, be3, x3, y3, be6, x6, y6, x4, y4, k9, f10, s11, w12, w0, A3, E3, A6, E6, W4, c0, hsl, c1, c2, c3, c4, c5, c6, hw0, c7, c8, c9, c10, c11, c12, hraw, hsv, hraw2, c43, c44, c45, c46, c47, c48, c49, c50, c51, c52, c53, c57⟩ := hD
  obtain ⟨hV, hKV, htl, htp, hsz, hb, him⟩ := id hA
  obtain ⟨hn, hv, h0⟩ := id hV
  have c1000000 : h 1000000 = some (.inl (8, 5, .inl (fun j => rr_two.getD j 0))) := hR 1000000 (by decide)
  have c1000001 : h 1000001 = some (.inl (8, 25, .inl (fun j => rr_three.getD j 0))) := hR 1000001 (by decide)
  have c1000002 : h 1000002 = some (.inl (8, 205, .inl (fun j => rr_four.getD j 0))) := hR 1000002 (by decide)
  refine calls_w (calls_d (d_lay (d := d + 13) hn c1 c2 hv h0 c1000000 c1000001 c1000002 c0 hsl hraw hsv hsz hb c51 c52 c53 c57 ha_ hi_) (show d + 13 + 7 = d + 20 by omega)) ?_
  rintro _ _ ⟨rfl, h', sl', rfl, hf, c0, hsl', hraw', hsv', c53⟩
  exact ⟨rfl, h', rfl, fun k hk => hf k (by simp; omega), ⟨_, _, _, _, _, _, _, _, _, _, _, _, _, _, _, _, _, _, _, _, _, _, _, _, c0, hsl', (hf 1 (by decide)).trans c1, (hf 2 (by decide)).trans c2, (hf 3 (by decide)).trans c3, (hf 4 (by decide)).trans c4, (hf 5 (by decide)).trans c5, (hf 6 (by decide)).trans c6, hw0, (hf 7 (by decide)).trans c7, (hf 8 (by decide)).trans c8, (hf 9 (by decide)).trans c9, (hf 10 (by decide)).trans c10, (hf 11 (by decide)).trans c11, (hf 12 (by decide)).trans c12, hraw', hsv', fr_RAW28 hf (by decide) (fun i hi => by first | (simp; done) | (simp; omega)) hraw2, (hf 43 (by decide)).trans c43, (hf 44 (by decide)).trans c44, (hf 45 (by decide)).trans c45, (hf 46 (by decide)).trans c46, (hf 47 (by decide)).trans c47, (hf 48 (by decide)).trans c48, (hf 49 (by decide)).trans c49, (hf 50 (by decide)).trans c50, (hf 51 (by decide)).trans c51, (hf 52 (by decide)).trans c52, c53, (hf 57 (by decide)).trans c57⟩, hV, hKV, htl, htp, hsz, itl_b hn hv h0 hb, him⟩
theorem D_list {d N S L : Nat} {xs : Nat → Int32} {n : Nat} {v : Nat → Int} {kn : Nat} {kv : Nat → Int} {im : Int} {tl : Nat} {tp sz : Nat → Int} {it : Nat → Nat → Int} {h : Nat → Option rr_E} (hA : IA n v kn kv im tl tp sz it) (hD : ID n v kn kv im tl tp sz it h) (hR : IRo L xs h) {a : Int} (ha_ : b3 a) {i : Int} (hi_ : b3 i) : rr_Calls (d + 20) j_Desk_list [.ref 0, .int (ii a), .int (ii i)] (N, S, h) (fun r R => r = some (.int (ii (cite (0 ≤ a ∧ a ≤ 3) (cite (30 < i) (-2) (cite (i < 0) (-14) 1)) (-1)))) ∧ ∃ h', R = (N, S, h') ∧ (∀ k, 58 ≤ k → h' k = h k) ∧ ID n v kn kv im tl tp (cite ((0 ≤ a ∧ a ≤ 3) ∧ 0 ≤ i ∧ i ≤ 30) (fu sz a.toNat i) sz) (cite ((0 ≤ a ∧ a ≤ 3) ∧ 0 ≤ i ∧ i ≤ 30) (itz it a.toNat) it) h' ∧ IA n v kn kv im tl tp (cite ((0 ≤ a ∧ a ≤ 3) ∧ 0 ≤ i ∧ i ≤ 30) (fu sz a.toNat i) sz) (cite ((0 ≤ a ∧ a ≤ 3) ∧ 0 ≤ i ∧ i ≤ 30) (itz it a.toNat) it)) := by
  have hD0 := hD
  obtain ⟨sl, dc, dp, df, dv, n5, be3, x3, y3, be6, x6, y6, x4, y4, k9, f10, s11, w12, w0, A3, E3, A6, E6, W4, c0, hsl, c1, c2, c3, c4, c5, c6, hw0, c7, c8, c9, c10, c11, c12, hraw, hsv, hraw2, c43, c44, c45, c46, c47, c48, c49, c50, c51, c52, c53, c57⟩ := hD
  obtain ⟨hV, hKV, htl, htp, hsz, hb, him⟩ := id hA
  obtain ⟨hn, hv, h0⟩ := id hV
  skip
  refine calls_w (calls_d (d_list (d := d + 18) hsz hb c51 c52 c53 c57 c0 ha_ hi_) (show d + 18 + 2 = d + 20 by omega)) ?_
  rintro _ _ (⟨q, rfl, rfl⟩ | ⟨q, q2, rfl, rfl⟩ | ⟨q, q2, rfl, rfl⟩ | ⟨q, q2, q3, rfl, h', rfl, c57, c53l, hf⟩)
  · have z : ¬ ((0 ≤ a ∧ a ≤ 3) ∧ 0 ≤ i ∧ i ≤ 30) := fun z => by omega
    exact ⟨by rw [ci_n q], h, rfl, fun _ _ => rfl, by rw [ci_n z, ci_n z]; exact hD0, by rw [ci_n z, ci_n z]; exact hA⟩
  · have z : ¬ ((0 ≤ a ∧ a ≤ 3) ∧ 0 ≤ i ∧ i ≤ 30) := fun z => by omega
    exact ⟨by rw [ci_y q, ci_y q2], h, rfl, fun _ _ => rfl, by rw [ci_n z, ci_n z]; exact hD0, by rw [ci_n z, ci_n z]; exact hA⟩
  · have z : ¬ ((0 ≤ a ∧ a ≤ 3) ∧ 0 ≤ i ∧ i ≤ 30) := fun z => by omega
    exact ⟨by rw [ci_y q, ci_n (by omega), ci_y q2], h, rfl, fun _ _ => rfl, by rw [ci_n z, ci_n z]; exact hD0, by rw [ci_n z, ci_n z]; exact hA⟩
  · have z : ((0 ≤ a ∧ a ≤ 3) ∧ 0 ≤ i ∧ i ≤ 30) := ⟨q, q2, q3⟩
    obtain ⟨l, rfl⟩ := Int.eq_ofNat_of_zero_le q.1
    have hl : l < 4 := by omega
    have hf : fr [57, 53 + l] h h' := hf
    have c53l : h' (53 + l) = some (.inl (1, 30, .inr (.inl (fun k => jj (zr (it l) 30 k))))) := c53l
    exact ⟨by rw [ci_y q, ci_n (by omega), ci_n (by omega)], h', rfl, fun k hk => hf k (by simp; omega), by
      rw [ci_y z, ci_y z]
      exact ⟨_, _, _, _, _, _, _, _, _, _, _, _, _, _, _, _, _, _, _, _, _, _, _, _, (hf 0 (by first | (simp; done) | (simp; omega))).trans c0, hsl, (hf 1 (by first | (simp; done) | (simp; omega))).trans c1, (hf 2 (by first | (simp; done) | (simp; omega))).trans c2, (hf 3 (by first | (simp; done) | (simp; omega))).trans c3, (hf 4 (by first | (simp; done) | (simp; omega))).trans c4, (hf 5 (by first | (simp; done) | (simp; omega))).trans c5, (hf 6 (by first | (simp; done) | (simp; omega))).trans c6, hw0, (hf 7 (by first | (simp; done) | (simp; omega))).trans c7, (hf 8 (by first | (simp; done) | (simp; omega))).trans c8, (hf 9 (by first | (simp; done) | (simp; omega))).trans c9, (hf 10 (by first | (simp; done) | (simp; omega))).trans c10, (hf 11 (by first | (simp; done) | (simp; omega))).trans c11, (hf 12 (by first | (simp; done) | (simp; omega))).trans c12, fr_RAW13 hf (by simp; omega) (fun i hi => by first | (simp; done) | (simp; omega)) hraw, fun e => fr_SV13 hf (by simp; omega) (fun i hi => by first | (simp; done) | (simp; omega)) (hsv e), fr_RAW28 hf (by simp; omega) (fun i hi => by first | (simp; done) | (simp; omega)) hraw2, (hf 43 (by first | (simp; done) | (simp; omega))).trans c43, (hf 44 (by first | (simp; done) | (simp; omega))).trans c44, (hf 45 (by first | (simp; done) | (simp; omega))).trans c45, (hf 46 (by first | (simp; done) | (simp; omega))).trans c46, (hf 47 (by first | (simp; done) | (simp; omega))).trans c47, (hf 48 (by first | (simp; done) | (simp; omega))).trans c48, (hf 49 (by first | (simp; done) | (simp; omega))).trans c49, (hf 50 (by first | (simp; done) | (simp; omega))).trans c50, (hf 51 (by first | (simp; done) | (simp; omega))).trans c51, (hf 52 (by first | (simp; done) | (simp; omega))).trans c52, (fun m hm => by
        by_cases e : m = l
        · subst e; exact ar_l c53l (funext (fun k => (if_pos rfl).symm))
        · exact (hf (53 + m) (by simp; omega)).trans (ar_l (c53 m hm) (funext (fun k => (if_neg (show ¬ m = ((l : Nat) : Int).toNat from e)).symm)))), c57⟩, by
      rw [ci_y z, ci_y z]
      refine ⟨hV, hKV, htl, htp, fun m hm => ?_, fun m k => ?_, him⟩
      · by_cases e : m = ((l : Nat) : Int).toNat
        · rw [e, fu_s]; omega
        · rw [fu_n e]; exact hsz m hm
      · unfold itz
        split
        · unfold zr; split
          · decide
          · exact hb m k
        · exact hb m k⟩
theorem D_set {d N S L : Nat} {xs : Nat → Int32} {n : Nat} {v : Nat → Int} {kn : Nat} {kv : Nat → Int} {im : Int} {tl : Nat} {tp sz : Nat → Int} {it : Nat → Nat → Int} {h : Nat → Option rr_E} (hA : IA n v kn kv im tl tp sz it) (hD : ID n v kn kv im tl tp sz it h) (hR : IRo L xs h) {a : Int} (ha_ : b3 a) {i : Int} (hi_ : b3 i) {y : Int} (hy_ : b6 y) : rr_Calls (d + 20) j_Desk_set [.ref 0, .int (ii a), .int (ii i), .long (jj y)] (N, S, h) (fun r R => r = some (.int (ii (if cpl sz a i 1 = 0 then 1 else cpl sz a i 1))) ∧ ∃ h', R = (N, S, h') ∧ (∀ k, 58 ≤ k → h' k = h k) ∧ ID n v kn kv im tl tp sz (cite (cpl sz a i 1 = 0) (its it a.toNat i.toNat y) it) h' ∧ IA n v kn kv im tl tp sz (cite (cpl sz a i 1 = 0) (its it a.toNat i.toNat y) it)) := by
  have hD0 := hD
  obtain ⟨sl, dc, dp, df, dv, n5, be3, x3, y3, be6, x6, y6, x4, y4, k9, f10, s11, w12, w0, A3, E3, A6, E6, W4, c0, hsl, c1, c2, c3, c4, c5, c6, hw0, c7, c8, c9, c10, c11, c12, hraw, hsv, hraw2, c43, c44, c45, c46, c47, c48, c49, c50, c51, c52, c53, c57⟩ := hD
  obtain ⟨hV, hKV, htl, htp, hsz, hb, him⟩ := id hA
  obtain ⟨hn, hv, h0⟩ := id hV
  skip
  refine calls_w (calls_d (d_set (d := d + 17) hsz hb c51 c52 c53 c57 c0 ha_ hi_ hy_) (show d + 17 + 3 = d + 20 by omega)) ?_
  rintro _ _ ⟨rfl, (⟨z, rfl⟩ | ⟨z, h', rfl, c53l, hf⟩)⟩
  · exact ⟨rfl, h, rfl, fun _ _ => rfl, by rw [ci_n z]; exact hD0, by rw [ci_n z]; exact hA⟩
  · obtain ⟨z1, z2, z3, z4⟩ := cpl_0 z
    obtain ⟨l, rfl⟩ := Int.eq_ofNat_of_zero_le z1.1
    have hl : l < 4 := by omega
    have hf : fr [53 + l] h h' := hf
    have c53l : h' (53 + l) = some (.inl (1, 30, .inr (.inl (fun k => jj (fu (it l) i.toNat y k))))) := c53l
    exact ⟨rfl, h', rfl, fun k hk => hf k (by simp; omega), by
      rw [ci_y z]
      exact ⟨_, _, _, _, _, _, _, _, _, _, _, _, _, _, _, _, _, _, _, _, _, _, _, _, (hf 0 (by first | (simp; done) | (simp; omega))).trans c0, hsl, (hf 1 (by first | (simp; done) | (simp; omega))).trans c1, (hf 2 (by first | (simp; done) | (simp; omega))).trans c2, (hf 3 (by first | (simp; done) | (simp; omega))).trans c3, (hf 4 (by first | (simp; done) | (simp; omega))).trans c4, (hf 5 (by first | (simp; done) | (simp; omega))).trans c5, (hf 6 (by first | (simp; done) | (simp; omega))).trans c6, hw0, (hf 7 (by first | (simp; done) | (simp; omega))).trans c7, (hf 8 (by first | (simp; done) | (simp; omega))).trans c8, (hf 9 (by first | (simp; done) | (simp; omega))).trans c9, (hf 10 (by first | (simp; done) | (simp; omega))).trans c10, (hf 11 (by first | (simp; done) | (simp; omega))).trans c11, (hf 12 (by first | (simp; done) | (simp; omega))).trans c12, fr_RAW13 hf (by simp; omega) (fun i hi => by first | (simp; done) | (simp; omega)) hraw, fun e => fr_SV13 hf (by simp; omega) (fun i hi => by first | (simp; done) | (simp; omega)) (hsv e), fr_RAW28 hf (by simp; omega) (fun i hi => by first | (simp; done) | (simp; omega)) hraw2, (hf 43 (by first | (simp; done) | (simp; omega))).trans c43, (hf 44 (by first | (simp; done) | (simp; omega))).trans c44, (hf 45 (by first | (simp; done) | (simp; omega))).trans c45, (hf 46 (by first | (simp; done) | (simp; omega))).trans c46, (hf 47 (by first | (simp; done) | (simp; omega))).trans c47, (hf 48 (by first | (simp; done) | (simp; omega))).trans c48, (hf 49 (by first | (simp; done) | (simp; omega))).trans c49, (hf 50 (by first | (simp; done) | (simp; omega))).trans c50, (hf 51 (by first | (simp; done) | (simp; omega))).trans c51, (hf 52 (by first | (simp; done) | (simp; omega))).trans c52, (fun m hm => by
        by_cases e : m = l
        · subst e; exact ar_l c53l (funext (fun k => (if_pos rfl).symm))
        · exact (hf (53 + m) (by simp; omega)).trans (ar_l (c53 m hm) (funext (fun k => (if_neg (show ¬ m = ((l : Nat) : Int).toNat from e)).symm)))), (hf 57 (by first | (simp; done) | (simp; omega))).trans c57⟩, by
      rw [ci_y z]
      refine ⟨hV, hKV, htl, htp, hsz, fun m k => ?_, him⟩
      unfold its
      split
      · unfold fu; split
        · exact hy_
        · exact hb m k
      · exact hb m k⟩
theorem D_get {d N S L : Nat} {xs : Nat → Int32} {n : Nat} {v : Nat → Int} {kn : Nat} {kv : Nat → Int} {im : Int} {tl : Nat} {tp sz : Nat → Int} {it : Nat → Nat → Int} {h : Nat → Option rr_E} (hA : IA n v kn kv im tl tp sz it) (hD : ID n v kn kv im tl tp sz it h) (hR : IRo L xs h) {a : Int} (ha_ : b3 a) {i : Int} (hi_ : b3 i) : rr_Calls (d + 20) j_Desk_get [.ref 0, .int (ii a), .int (ii i)] (N, S, h) (fun r R => r = some (.long (jj (if cpl sz a i 1 = 0 then it a.toNat i.toNat else (-9223372036854775808)))) ∧ ∃ h', R = (N, S, h') ∧ (∀ k, 58 ≤ k → h' k = h k) ∧ ID n v kn kv im tl tp sz it h' ∧ IA n v kn kv im tl tp sz it) := by
  have hD0 := hD
  obtain ⟨sl, dc, dp, df, dv, n5, be3, x3, y3, be6, x6, y6, x4, y4, k9, f10, s11, w12, w0, A3, E3, A6, E6, W4, c0, hsl, c1, c2, c3, c4, c5, c6, hw0, c7, c8, c9, c10, c11, c12, hraw, hsv, hraw2, c43, c44, c45, c46, c47, c48, c49, c50, c51, c52, c53, c57⟩ := hD
  obtain ⟨hV, hKV, htl, htp, hsz, hb, him⟩ := id hA
  obtain ⟨hn, hv, h0⟩ := id hV
  skip
  refine calls_w (calls_d (d_get (d := d + 17) hsz hb c51 c52 c53 c57 c0 ha_ hi_) (show d + 17 + 3 = d + 20 by omega)) ?_
  rintro _ _ ⟨rfl, rfl⟩
  exact ⟨rfl, h, rfl, fun _ _ => rfl, hD0, hA⟩
theorem D_image {d N S L : Nat} {xs : Nat → Int32} {n : Nat} {v : Nat → Int} {kn : Nat} {kv : Nat → Int} {im : Int} {tl : Nat} {tp sz : Nat → Int} {it : Nat → Nat → Int} {h : Nat → Option rr_E} (hA : IA n v kn kv im tl tp sz it) (hD : ID n v kn kv im tl tp sz it h) (hR : IRo L xs h) : rr_Calls (d + 20) j_Desk_image [.ref 0] (N, S, h) (fun r R => r = some (.int (ii (n : Int))) ∧ ∃ h', R = (N, S, h') ∧ (∀ k, 58 ≤ k → h' k = h k) ∧ ID n v n (fc v kv 0 0 16) 1 tl tp sz it h' ∧ IA n v n (fc v kv 0 0 16) 1 tl tp sz it) := by
  have hD0 := hD
  obtain ⟨sl, dc, dp, df, dv, n5, be3, x3, y3, be6, x6, y6, x4, y4, k9, f10, s11, w12, w0, A3, E3, A6, E6, W4, c0, hsl, c1, c2, c3, c4, c5, c6, hw0, c7, c8, c9, c10, c11, c12, hraw, hsv, hraw2, c43, c44, c45, c46, c47, c48, c49, c50, c51, c52, c53, c57⟩ := hD
  obtain ⟨hV, hKV, htl, htp, hsz, hb, him⟩ := id hA
  obtain ⟨hn, hv, h0⟩ := id hV
  skip
  refine calls_w (calls_d (d_image (d := d + 18) hn c1 c2 c3 c4 c0) (show d + 18 + 2 = d + 20 by omega)) ?_
  rintro _ _ ⟨rfl, h', rfl, c0, c3, c4, hf⟩
  exact ⟨rfl, h', rfl, fun k hk => hf k (by simp; omega), ⟨_, _, _, _, _, _, _, _, _, _, _, _, _, _, _, _, _, _, _, _, _, _, _, _, c0, hsl, (hf 1 (by decide)).trans c1, (hf 2 (by decide)).trans c2, c3, c4, (hf 5 (by decide)).trans c5, (hf 6 (by decide)).trans c6, hw0, (hf 7 (by decide)).trans c7, (hf 8 (by decide)).trans c8, (hf 9 (by decide)).trans c9, (hf 10 (by decide)).trans c10, (hf 11 (by decide)).trans c11, (hf 12 (by decide)).trans c12, fr_RAW13 hf (by decide) (fun i hi => by first | (simp; done) | (simp; omega)) hraw, fun e => fr_SV13 hf (by decide) (fun i hi => by first | (simp; done) | (simp; omega)) (hsv e), fr_RAW28 hf (by decide) (fun i hi => by first | (simp; done) | (simp; omega)) hraw2, (hf 43 (by decide)).trans c43, (hf 44 (by decide)).trans c44, (hf 45 (by decide)).trans c45, (hf 46 (by decide)).trans c46, (hf 47 (by decide)).trans c47, (hf 48 (by decide)).trans c48, (hf 49 (by decide)).trans c49, (hf 50 (by decide)).trans c50, (hf 51 (by decide)).trans c51, (hf 52 (by decide)).trans c52, (fun l hl => (hf (53 + l) (by first | (simp; done) | (simp; omega))).trans (c53 l hl)), (hf 57 (by decide)).trans c57⟩, hV, okV_c hV hKV, htl, htp, hsz, hb, Or.inr rfl⟩
theorem D_undo {d N S L : Nat} {xs : Nat → Int32} {n : Nat} {v : Nat → Int} {kn : Nat} {kv : Nat → Int} {im : Int} {tl : Nat} {tp sz : Nat → Int} {it : Nat → Nat → Int} {h : Nat → Option rr_E} (hA : IA n v kn kv im tl tp sz it) (hD : ID n v kn kv im tl tp sz it h) (hR : IRo L xs h) : rr_Calls (d + 20) j_Desk_undo [.ref 0] (N, S, h) (fun r R => r = some (.int (ii (cite (im = 1) (kn : Int) (-3)))) ∧ ∃ h', R = (N, S, h') ∧ (∀ k, 58 ≤ k → h' k = h k) ∧ ID (cite (im = 1) kn n) (cite (im = 1) (fc kv v 0 0 16) v) kn kv im tl tp sz it h' ∧ IA (cite (im = 1) kn n) (cite (im = 1) (fc kv v 0 0 16) v) kn kv im tl tp sz it) := by
  have hD0 := hD
  obtain ⟨sl, dc, dp, df, dv, n5, be3, x3, y3, be6, x6, y6, x4, y4, k9, f10, s11, w12, w0, A3, E3, A6, E6, W4, c0, hsl, c1, c2, c3, c4, c5, c6, hw0, c7, c8, c9, c10, c11, c12, hraw, hsv, hraw2, c43, c44, c45, c46, c47, c48, c49, c50, c51, c52, c53, c57⟩ := hD
  obtain ⟨hV, hKV, htl, htp, hsz, hb, him⟩ := id hA
  obtain ⟨hn, hv, h0⟩ := id hV
  skip
  refine calls_w (calls_d (d_undo (d := d + 18) hn c1 c2 c3 c4 c0 him) (show d + 18 + 2 = d + 20 by omega)) ?_
  rintro _ _ (⟨q, rfl, rfl⟩ | ⟨q, rfl, h', rfl, c0, c1, c2, hf⟩)
  · have z : ¬ im = 1 := by omega
    exact ⟨by rw [ci_n z], h, rfl, fun _ _ => rfl, by rw [ci_n z, ci_n z]; exact hD0, by rw [ci_n z, ci_n z]; exact hA⟩
  · exact ⟨by rw [ci_y q], h', rfl, fun k hk => hf k (by simp; omega), by rw [ci_y q, ci_y q]; exact ⟨_, _, _, _, _, _, _, _, _, _, _, _, _, _, _, _, _, _, _, _, _, _, _, _, c0, Or.inr rfl, c1, c2, (hf 3 (by decide)).trans c3, (hf 4 (by decide)).trans c4, (hf 5 (by decide)).trans c5, (hf 6 (by decide)).trans c6, hw0, (hf 7 (by decide)).trans c7, (hf 8 (by decide)).trans c8, (hf 9 (by decide)).trans c9, (hf 10 (by decide)).trans c10, (hf 11 (by decide)).trans c11, (hf 12 (by decide)).trans c12, fr_RAW13 hf (by decide) (fun i hi => by first | (simp; done) | (simp; omega)) hraw, fun e => absurd e (by decide), fr_RAW28 hf (by decide) (fun i hi => by first | (simp; done) | (simp; omega)) hraw2, (hf 43 (by decide)).trans c43, (hf 44 (by decide)).trans c44, (hf 45 (by decide)).trans c45, (hf 46 (by decide)).trans c46, (hf 47 (by decide)).trans c47, (hf 48 (by decide)).trans c48, (hf 49 (by decide)).trans c49, (hf 50 (by decide)).trans c50, (hf 51 (by decide)).trans c51, (hf 52 (by decide)).trans c52, (fun l hl => (hf (53 + l) (by first | (simp; done) | (simp; omega))).trans (c53 l hl)), (hf 57 (by decide)).trans c57⟩, by rw [ci_y q, ci_y q]; exact ⟨okV_c hKV hV, hKV, htl, htp, hsz, hb, him⟩⟩
