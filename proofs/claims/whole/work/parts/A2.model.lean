/-! Each call of the model over the invariant. -/
theorem M_people {d N S : Nat} {n : Nat} {v : Nat → Int} {kn : Nat} {kv : Nat → Int} {im : Int} {tl : Nat} {tp sz : Nat → Int} {it : Nat → Nat → Int} {h : Nat → Option rr_E} (hA : IA n v kn kv im tl tp sz it) (hM : IM n v kn kv im tl tp sz it h) {a : Int} (ha_ : b3 a) : rr_Calls (d + 20) j_Model_people [.ref 58, .int (ii a)] (N, S, h) (fun r R => r = some (.int (ii (cite (2 ≤ a ∧ a ≤ 4) (n : Int) (-2)))) ∧ ∃ h', R = (N, S, h') ∧ (∀ k, k < 58 ∨ 80 ≤ k → h' k = h k) ∧ IM (cite (2 ≤ a ∧ a ≤ 4) a.toNat n) (cite (2 ≤ a ∧ a ≤ 4) (zr v 16) v) kn kv im tl tp sz it h') := by
  have hM0 := hM
  obtain ⟨kp, pt, wr, fa, dm, ce, di, be, od, sm, le, sc, ba, bb, rk, ts, tm, pa, wa, ti, so, on, tw, w65, w75, w76, th, ms, w, c58, c59, c60, hkp, c61, c62, c63, c64, c65, c75, c76, c77, c78, c79, hth, hit, hti, hba, hod, hW, hL, hs⟩ := hM
  obtain ⟨hV, hKV, htl, htp, hsz, hb, him⟩ := id hA
  obtain ⟨hn, hv, h0⟩ := id hV
  refine calls_w (calls_d (m_people (d := d + 18) c58 c59 ha_) (show d + 18 + 2 = d + 20 by omega)) ?_
  rintro _ _ (⟨q, rfl, rfl⟩ | ⟨q, rfl, h', rfl, c58, c59, hf⟩)
  · exact ⟨by rw [ci_n q], h, rfl, fun _ _ => rfl, by rw [ci_n q, ci_n q]; exact hM0⟩
  · obtain ⟨m, rfl⟩ := Int.eq_ofNat_of_zero_le (show 0 ≤ a by omega)
    exact ⟨by rw [ci_y q], h', rfl, fun k hk => hf k (by simp; omega), by rw [ci_y q, ci_y q]; exact ⟨_, _, _, _, _, _, _, _, _, _, _, _, _, _, _, _, _, _, _, _, _, _, _, _, _, _, _, _, _, c58, c59, (hf 60 (by decide)).trans c60, hkp, (hf 61 (by decide)).trans c61, (hf 62 (by decide)).trans c62, (hf 63 (by decide)).trans c63, (hf 64 (by decide)).trans c64, (hf 65 (by decide)).trans c65, (hf 75 (by decide)).trans c75, (hf 76 (by decide)).trans c76, (hf 77 (by decide)).trans c77, (hf 78 (by decide)).trans c78, (hf 79 (by decide)).trans c79, hth, hit, hti, hba, Or.inr rfl, fr_MW hf (by decide) hW, fr_ML hf (by decide) hL, fun e => absurd e (by decide)⟩⟩
theorem M_worth {d N S : Nat} {n : Nat} {v : Nat → Int} {kn : Nat} {kv : Nat → Int} {im : Int} {tl : Nat} {tp sz : Nat → Int} {it : Nat → Nat → Int} {h : Nat → Option rr_E} (hA : IA n v kn kv im tl tp sz it) (hM : IM n v kn kv im tl tp sz it h) {a : Int} (ha_ : b3 a) {b : Int} (hb_ : b3 b) : rr_Calls (d + 20) j_Model_worth [.ref 58, .int (ii a), .int (ii b)] (N, S, h) (fun r R => r = some (.long (jj (cite ((1 ≤ a ∧ a ≤ (al n : Int)) ∧ (-999 ≤ b ∧ b ≤ 999)) (v a.toNat) (-9223372036854775808)))) ∧ ∃ h', R = (N, S, h') ∧ (∀ k, k < 58 ∨ 80 ≤ k → h' k = h k) ∧ IM n (cite ((1 ≤ a ∧ a ≤ (al n : Int)) ∧ (-999 ≤ b ∧ b ≤ 999)) (fu v a.toNat b) v) kn kv im tl tp sz it h') := by
  have hM0 := hM
  obtain ⟨kp, pt, wr, fa, dm, ce, di, be, od, sm, le, sc, ba, bb, rk, ts, tm, pa, wa, ti, so, on, tw, w65, w75, w76, th, ms, w, c58, c59, c60, hkp, c61, c62, c63, c64, c65, c75, c76, c77, c78, c79, hth, hit, hti, hba, hod, hW, hL, hs⟩ := hM
  obtain ⟨hV, hKV, htl, htp, hsz, hb, him⟩ := id hA
  obtain ⟨hn, hv, h0⟩ := id hV
  refine calls_w (calls_d (m_worth (d := d + 17) hn c58 c59 hv ha_ hb_) (show d + 17 + 3 = d + 20 by omega)) ?_
  rintro _ _ (⟨q, rfl, rfl⟩ | ⟨q, rfl, h', rfl, c58, c59, hf⟩)
  · exact ⟨by rw [ci_n q], h, rfl, fun _ _ => rfl, by rw [ci_n q]; exact hM0⟩
  · exact ⟨by rw [ci_y q], h', rfl, fun k hk => hf k (by simp; omega), by rw [ci_y q]; exact ⟨_, _, _, _, _, _, _, _, _, _, _, _, _, _, _, _, _, _, _, _, _, _, _, _, _, _, _, _, _, c58, c59, (hf 60 (by decide)).trans c60, hkp, (hf 61 (by decide)).trans c61, (hf 62 (by decide)).trans c62, (hf 63 (by decide)).trans c63, (hf 64 (by decide)).trans c64, (hf 65 (by decide)).trans c65, (hf 75 (by decide)).trans c75, (hf 76 (by decide)).trans c76, (hf 77 (by decide)).trans c77, (hf 78 (by decide)).trans c78, (hf 79 (by decide)).trans c79, hth, hit, hti, hba, Or.inr rfl, fr_MW hf (by decide) hW, fr_ML hf (by decide) hL, fun e => absurd e (by decide)⟩⟩
theorem M_worthOf {d N S : Nat} {n : Nat} {v : Nat → Int} {kn : Nat} {kv : Nat → Int} {im : Int} {tl : Nat} {tp sz : Nat → Int} {it : Nat → Nat → Int} {h : Nat → Option rr_E} (hA : IA n v kn kv im tl tp sz it) (hM : IM n v kn kv im tl tp sz it h) {a : Int} (ha_ : b3 a) : rr_Calls (d + 20) j_Model_worthOf [.ref 58, .int (ii a)] (N, S, h) (fun r R => r = some (.long (jj (if 1 ≤ a ∧ a ≤ (al n : Int) then v a.toNat else (-9223372036854775808)))) ∧ ∃ h', R = (N, S, h') ∧ (∀ k, k < 58 ∨ 80 ≤ k → h' k = h k) ∧ IM n v kn kv im tl tp sz it h') := by
  have hM0 := hM
  obtain ⟨kp, pt, wr, fa, dm, ce, di, be, od, sm, le, sc, ba, bb, rk, ts, tm, pa, wa, ti, so, on, tw, w65, w75, w76, th, ms, w, c58, c59, c60, hkp, c61, c62, c63, c64, c65, c75, c76, c77, c78, c79, hth, hit, hti, hba, hod, hW, hL, hs⟩ := hM
  obtain ⟨hV, hKV, htl, htp, hsz, hb, him⟩ := id hA
  obtain ⟨hn, hv, h0⟩ := id hV
  refine calls_w (calls_d (m_worthOf (d := d + 17) hn c58 c59 hv ha_) (show d + 17 + 3 = d + 20 by omega)) ?_
  rintro _ _ ⟨rfl, rfl⟩
  exact ⟨rfl, h, rfl, fun _ _ => rfl, hM0⟩
theorem M_feed {d N S : Nat} {n : Nat} {v : Nat → Int} {kn : Nat} {kv : Nat → Int} {im : Int} {tl : Nat} {tp sz : Nat → Int} {it : Nat → Nat → Int} {h : Nat → Option rr_E} (hA : IA n v kn kv im tl tp sz it) (hM : IM n v kn kv im tl tp sz it h) {a : Int} (ha_ : b3 a) : rr_Calls (d + 20) j_Model_feed [.ref 58, .int (ii a)] (N, S, h) (fun r R => r = some (.int (ii (cite (1 ≤ a ∧ a ≤ 127) (cite (tl = 100) (-4) ((tl + 1 : Nat) : Int)) (-2)))) ∧ ∃ h', R = (N, S, h') ∧ (∀ k, k < 58 ∨ 80 ≤ k → h' k = h k) ∧ IM n v kn kv im (cite ((1 ≤ a ∧ a ≤ 127) ∧ tl < 100) (tl + 1) tl) (cite ((1 ≤ a ∧ a ≤ 127) ∧ tl < 100) (fu tp tl a) tp) sz it h') := by
  have hM0 := hM
  obtain ⟨kp, pt, wr, fa, dm, ce, di, be, od, sm, le, sc, ba, bb, rk, ts, tm, pa, wa, ti, so, on, tw, w65, w75, w76, th, ms, w, c58, c59, c60, hkp, c61, c62, c63, c64, c65, c75, c76, c77, c78, c79, hth, hit, hti, hba, hod, hW, hL, hs⟩ := hM
  obtain ⟨hV, hKV, htl, htp, hsz, hb, him⟩ := id hA
  obtain ⟨hn, hv, h0⟩ := id hV
  refine calls_w (calls_d (m_feed (d := d + 18) htl c58 c61 ha_) (show d + 18 + 2 = d + 20 by omega)) ?_
  rintro _ _ (⟨q, rfl, rfl⟩ | ⟨q, q2, rfl, rfl⟩ | ⟨q, q2, rfl, h', rfl, c58, c61, hf⟩)
  · have z : ¬ ((1 ≤ a ∧ a ≤ 127) ∧ tl < 100) := fun z => q z.1
    exact ⟨by rw [ci_n q], h, rfl, fun _ _ => rfl, by rw [ci_n z, ci_n z]; exact hM0⟩
  · have z : ¬ ((1 ≤ a ∧ a ≤ 127) ∧ tl < 100) := fun z => by omega
    exact ⟨by rw [ci_y q, ci_y q2], h, rfl, fun _ _ => rfl, by rw [ci_n z, ci_n z]; exact hM0⟩
  · have z : ((1 ≤ a ∧ a ≤ 127) ∧ tl < 100) := ⟨q, q2⟩
    exact ⟨by rw [ci_y q, ci_n (by omega)], h', rfl, fun k hk => hf k (by simp; omega), by rw [ci_y z, ci_y z]; exact ⟨_, _, _, _, _, _, _, _, _, _, _, _, _, _, _, _, _, _, _, _, _, _, _, _, _, _, _, _, _, c58, (hf 59 (by decide)).trans c59, (hf 60 (by decide)).trans c60, hkp, c61, (hf 62 (by decide)).trans c62, (hf 63 (by decide)).trans c63, (hf 64 (by decide)).trans c64, (hf 65 (by decide)).trans c65, (hf 75 (by decide)).trans c75, (hf 76 (by decide)).trans c76, (hf 77 (by decide)).trans c77, (hf 78 (by decide)).trans c78, (hf 79 (by decide)).trans c79, hth, hit, hti, hba, hod, fr_MW hf (by decide) hW, fr_ML hf (by decide) hL, fun e => fr_MS hf (by decide) (hs e)⟩⟩
theorem M_clear {d N S : Nat} {n : Nat} {v : Nat → Int} {kn : Nat} {kv : Nat → Int} {im : Int} {tl : Nat} {tp sz : Nat → Int} {it : Nat → Nat → Int} {h : Nat → Option rr_E} (hA : IA n v kn kv im tl tp sz it) (hM : IM n v kn kv im tl tp sz it h) : rr_Calls (d + 20) j_Model_clear [.ref 58] (N, S, h) (fun r R => r = some (.int (ii (tl : Int))) ∧ ∃ h', R = (N, S, h') ∧ (∀ k, k < 58 ∨ 80 ≤ k → h' k = h k) ∧ IM n v kn kv im 0 tp sz it h') := by
  have hM0 := hM
  obtain ⟨kp, pt, wr, fa, dm, ce, di, be, od, sm, le, sc, ba, bb, rk, ts, tm, pa, wa, ti, so, on, tw, w65, w75, w76, th, ms, w, c58, c59, c60, hkp, c61, c62, c63, c64, c65, c75, c76, c77, c78, c79, hth, hit, hti, hba, hod, hW, hL, hs⟩ := hM
  obtain ⟨hV, hKV, htl, htp, hsz, hb, him⟩ := id hA
  obtain ⟨hn, hv, h0⟩ := id hV
  refine calls_w (calls_d (m_clear (d := d + 19) c58) (show d + 19 + 1 = d + 20 by omega)) ?_
  rintro _ _ ⟨rfl, h', rfl, c58, hf⟩
  exact ⟨rfl, h', rfl, fun k hk => hf k (by simp; omega), ⟨_, _, _, _, _, _, _, _, _, _, _, _, _, _, _, _, _, _, _, _, _, _, _, _, _, _, _, _, _, c58, (hf 59 (by decide)).trans c59, (hf 60 (by decide)).trans c60, hkp, (hf 61 (by decide)).trans c61, (hf 62 (by decide)).trans c62, (hf 63 (by decide)).trans c63, (hf 64 (by decide)).trans c64, (hf 65 (by decide)).trans c65, (hf 75 (by decide)).trans c75, (hf 76 (by decide)).trans c76, (hf 77 (by decide)).trans c77, (hf 78 (by decide)).trans c78, (hf 79 (by decide)).trans c79, hth, hit, hti, hba, hod, fr_MW hf (by decide) hW, fr_ML hf (by decide) hL, fun e => fr_MS hf (by decide) (hs e)⟩⟩
theorem M_deeds {d N S : Nat} {n : Nat} {v : Nat → Int} {kn : Nat} {kv : Nat → Int} {im : Int} {tl : Nat} {tp sz : Nat → Int} {it : Nat → Nat → Int} {h : Nat → Option rr_E} (hA : IA n v kn kv im tl tp sz it) (hM : IM n v kn kv im tl tp sz it h) : rr_Calls (d + 20) j_Model_deeds [.ref 58] (N, S, h) (fun r R => r = some (.int (ii (dA (outD tp tl 101 0) n v).1)) ∧ ∃ h', R = (N, S, h') ∧ (∀ k, k < 58 ∨ 80 ≤ k → h' k = h k) ∧ IM (dA (outD tp tl 101 0) n v).2.1 (dA (outD tp tl 101 0) n v).2.2 kn kv im 0 tp sz it h') := by
  have hM0 := hM
  obtain ⟨kp, pt, wr, fa, dm, ce, di, be, od, sm, le, sc, ba, bb, rk, ts, tm, pa, wa, ti, so, on, tw, w65, w75, w76, th, ms, w, c58, c59, c60, hkp, c61, c62, c63, c64, c65, c75, c76, c77, c78, c79, hth, hit, hti, hba, hod, hW, hL, hs⟩ := hM
  obtain ⟨hV, hKV, htl, htp, hsz, hb, him⟩ := id hA
  obtain ⟨hn, hv, h0⟩ := id hV
  refine calls_w (calls_d (m_deeds (d := d + 15) hV htl htp c58 c61 c59 c62 c63 c64 c65) (show d + 15 + 5 = d + 20 by omega)) ?_
  rintro _ _ (⟨f, e, rfl, h', rfl, hf, ⟨_, _, _, _, c58⟩, ⟨_, _, _, c62, c63, c64⟩⟩ | ⟨M, e, rfl, h', rfl, hf, ⟨_, _, _, _, od2, c58, hd2⟩, c59, ⟨_, _, _, c62, c63, c64⟩, ⟨_, c65⟩, _⟩)
  · rw [show (dA (outD tp tl 101 0) n v) = (-100 - (f : Int), n, v) by rw [e]; rfl]
    exact ⟨rfl, h', rfl, fun k hk => hf k (by simp; omega), ⟨_, _, _, _, _, _, _, _, _, _, _, _, _, _, _, _, _, _, _, _, _, _, _, _, _, _, _, _, _, c58, (hf 59 (by decide)).trans c59, (hf 60 (by decide)).trans c60, hkp, (hf 61 (by decide)).trans c61, c62, c63, c64, (hf 65 (by decide)).trans c65, (hf 75 (by decide)).trans c75, (hf 76 (by decide)).trans c76, (hf 77 (by decide)).trans c77, (hf 78 (by decide)).trans c78, (hf 79 (by decide)).trans c79, hth, hit, hti, hba, hod, fr_MW hf (by decide) hW, fr_ML hf (by decide) hL, fun e => fr_MS hf (by decide) (hs e)⟩⟩
  · rw [show (dA (outD tp tl 101 0) n v) = crun M n v by rw [e]; rfl]
    have hod2 : od2 = 0 ∨ od2 = 1 := by
      rcases hd2 with z | z
      · exact Or.inr z
      · rw [z.1]; exact hod
    have hs2 : od2 = 0 → MS h' (crun M n v).2.1 (crun M n v).2.2 sm := fun z => by
      rcases hd2 with z2 | ⟨z2, z3, z4⟩
      · omega
      · rw [z3, z4]; exact fr_MS hf (by decide) (hs (by omega))
    exact ⟨rfl, h', rfl, fun k hk => hf k (by simp; omega), ⟨_, _, _, _, _, _, _, _, _, _, _, _, _, _, _, _, _, _, _, _, _, _, _, _, _, _, _, _, _, c58, c59, (hf 60 (by decide)).trans c60, hkp, (hf 61 (by decide)).trans c61, c62, c63, c64, c65, (hf 75 (by decide)).trans c75, (hf 76 (by decide)).trans c76, (hf 77 (by decide)).trans c77, (hf 78 (by decide)).trans c78, (hf 79 (by decide)).trans c79, hth, hit, hti, hba, hod2, fr_MW hf (by decide) hW, fr_ML hf (by decide) hL, hs2⟩⟩
theorem M_told {d N S : Nat} {n : Nat} {v : Nat → Int} {kn : Nat} {kv : Nat → Int} {im : Int} {tl : Nat} {tp sz : Nat → Int} {it : Nat → Nat → Int} {h : Nat → Option rr_E} (hA : IA n v kn kv im tl tp sz it) (hM : IM n v kn kv im tl tp sz it h) {a : Int} (ha_ : b3 a) : rr_Calls (d + 20) j_Model_told [.ref 58, .int (ii a)] (N, S, h) (fun r R => r = some (.int (ii (if a = 0 then (n : Int) else if a = 1 then (tl : Int) else if a = 2 then (al n : Int) else if a = 3 then gs (al n + 1) (fun g => if v g < 0 then 1 else 0) else -1))) ∧ ∃ h', R = (N, S, h') ∧ (∀ k, k < 58 ∨ 80 ≤ k → h' k = h k) ∧ IM n v kn kv im tl tp sz it h') := by
  have hM0 := hM
  obtain ⟨kp, pt, wr, fa, dm, ce, di, be, od, sm, le, sc, ba, bb, rk, ts, tm, pa, wa, ti, so, on, tw, w65, w75, w76, th, ms, w, c58, c59, c60, hkp, c61, c62, c63, c64, c65, c75, c76, c77, c78, c79, hth, hit, hti, hba, hod, hW, hL, hs⟩ := hM
  obtain ⟨hV, hKV, htl, htp, hsz, hb, him⟩ := id hA
  obtain ⟨hn, hv, h0⟩ := id hV
  refine calls_w (calls_d (m_told (d := d + 18) hn htl c58 c59 hv ha_) (show d + 18 + 2 = d + 20 by omega)) ?_
  rintro _ _ ⟨rfl, rfl⟩
  exact ⟨rfl, h, rfl, fun _ _ => rfl, hM0⟩
theorem M_stages {d N S : Nat} {n : Nat} {v : Nat → Int} {kn : Nat} {kv : Nat → Int} {im : Int} {tl : Nat} {tp sz : Nat → Int} {it : Nat → Nat → Int} {h : Nat → Option rr_E} (hA : IA n v kn kv im tl tp sz it) (hM : IM n v kn kv im tl tp sz it h) : rr_Calls (d + 20) j_Model_stages [.ref 58] (N, S, h) (fun r R => r = some (.int (ii ((nM n v : Nat) : Int))) ∧ ∃ h', R = (N, S, h') ∧ (∀ k, k < 58 ∨ 80 ≤ k → h' k = h k) ∧ IM n v kn kv im tl tp sz it h') := by
  have hM0 := hM
  obtain ⟨kp, pt, wr, fa, dm, ce, di, be, od, sm, le, sc, ba, bb, rk, ts, tm, pa, wa, ti, so, on, tw, w65, w75, w76, th, ms, w, c58, c59, c60, hkp, c61, c62, c63, c64, c65, c75, c76, c77, c78, c79, hth, hit, hti, hba, hod, hW, hL, hs⟩ := hM
  obtain ⟨hV, hKV, htl, htp, hsz, hb, him⟩ := id hA
  obtain ⟨hn, hv, h0⟩ := id hV
  refine calls_w (calls_d (m_stages (d := d + (13 - n)) hn hv h0 c58 c59 hti hba hod hW hL hs ) (show d + (13 - n) + (n + 7) = d + 20 by omega)) ?_
  rintro _ _ ⟨rfl, h', ce', di', be', sm', le', sc', ba', bb', rk', od', ti', rfl, hf, c58, hti', hba', hod', hW', hL', hs'⟩
  exact ⟨rfl, h', rfl, fun k hk => hf k (by simp; omega), ⟨_, _, _, _, _, _, _, _, _, _, _, _, _, _, _, _, _, _, _, _, _, _, _, _, _, _, _, _, _, c58, (hf 59 (by decide)).trans c59, (hf 60 (by decide)).trans c60, hkp, (hf 61 (by decide)).trans c61, (hf 62 (by decide)).trans c62, (hf 63 (by decide)).trans c63, (hf 64 (by decide)).trans c64, (hf 65 (by decide)).trans c65, (hf 75 (by decide)).trans c75, (hf 76 (by decide)).trans c76, (hf 77 (by decide)).trans c77, (hf 78 (by decide)).trans c78, (hf 79 (by decide)).trans c79, hth, hit, hti', hba', hod', hW', hL', hs'⟩⟩
theorem M_level {d N S : Nat} {n : Nat} {v : Nat → Int} {kn : Nat} {kv : Nat → Int} {im : Int} {tl : Nat} {tp sz : Nat → Int} {it : Nat → Nat → Int} {h : Nat → Option rr_E} (hA : IA n v kn kv im tl tp sz it) (hM : IM n v kn kv im tl tp sz it h) {a : Int} (ha_ : b3 a) {z : Int} (hz_ : b3 z) : rr_Calls (d + 20) j_Model_level [.ref 58, .int (ii a), .int (ii z)] (N, S, h) (fun r R => r = some (.long (jj (sp_level n v a z))) ∧ ∃ h', R = (N, S, h') ∧ (∀ k, k < 58 ∨ 80 ≤ k → h' k = h k) ∧ IM n v kn kv im tl tp sz it h') := by
  have hM0 := hM
  obtain ⟨kp, pt, wr, fa, dm, ce, di, be, od, sm, le, sc, ba, bb, rk, ts, tm, pa, wa, ti, so, on, tw, w65, w75, w76, th, ms, w, c58, c59, c60, hkp, c61, c62, c63, c64, c65, c75, c76, c77, c78, c79, hth, hit, hti, hba, hod, hW, hL, hs⟩ := hM
  obtain ⟨hV, hKV, htl, htp, hsz, hb, him⟩ := id hA
  obtain ⟨hn, hv, h0⟩ := id hV
  refine calls_w (calls_d (m_level (d := d + (12 - n)) hn hv h0 c58 c59 hti hba hod hW hL hs ha_ hz_) (show d + (12 - n) + (n + 8) = d + 20 by omega)) ?_
  rintro _ _ ⟨rfl, h', ce', di', be', sm', le', sc', ba', bb', rk', od', ti', rfl, hf, c58, hti', hba', hod', hW', hL', hs'⟩
  exact ⟨rfl, h', rfl, fun k hk => hf k (by simp; omega), ⟨_, _, _, _, _, _, _, _, _, _, _, _, _, _, _, _, _, _, _, _, _, _, _, _, _, _, _, _, _, c58, (hf 59 (by decide)).trans c59, (hf 60 (by decide)).trans c60, hkp, (hf 61 (by decide)).trans c61, (hf 62 (by decide)).trans c62, (hf 63 (by decide)).trans c63, (hf 64 (by decide)).trans c64, (hf 65 (by decide)).trans c65, (hf 75 (by decide)).trans c75, (hf 76 (by decide)).trans c76, (hf 77 (by decide)).trans c77, (hf 78 (by decide)).trans c78, (hf 79 (by decide)).trans c79, hth, hit, hti', hba', hod', hW', hL', hs'⟩⟩
theorem M_fixed {d N S : Nat} {n : Nat} {v : Nat → Int} {kn : Nat} {kv : Nat → Int} {im : Int} {tl : Nat} {tp sz : Nat → Int} {it : Nat → Nat → Int} {h : Nat → Option rr_E} (hA : IA n v kn kv im tl tp sz it) (hM : IM n v kn kv im tl tp sz it h) {a : Int} (ha_ : b3 a) : rr_Calls (d + 20) j_Model_fixed [.ref 58, .int (ii a)] (N, S, h) (fun r R => r = some (.int (ii (sp_fixed n v a))) ∧ ∃ h', R = (N, S, h') ∧ (∀ k, k < 58 ∨ 80 ≤ k → h' k = h k) ∧ IM n v kn kv im tl tp sz it h') := by
  have hM0 := hM
  obtain ⟨kp, pt, wr, fa, dm, ce, di, be, od, sm, le, sc, ba, bb, rk, ts, tm, pa, wa, ti, so, on, tw, w65, w75, w76, th, ms, w, c58, c59, c60, hkp, c61, c62, c63, c64, c65, c75, c76, c77, c78, c79, hth, hit, hti, hba, hod, hW, hL, hs⟩ := hM
  obtain ⟨hV, hKV, htl, htp, hsz, hb, him⟩ := id hA
  obtain ⟨hn, hv, h0⟩ := id hV
  refine calls_w (calls_d (m_fixed (d := d + (12 - n)) hn hv h0 c58 c59 hti hba hod hW hL hs ha_) (show d + (12 - n) + (n + 8) = d + 20 by omega)) ?_
  rintro _ _ ⟨rfl, h', ce', di', be', sm', le', sc', ba', bb', rk', od', ti', rfl, hf, c58, hti', hba', hod', hW', hL', hs'⟩
  exact ⟨rfl, h', rfl, fun k hk => hf k (by simp; omega), ⟨_, _, _, _, _, _, _, _, _, _, _, _, _, _, _, _, _, _, _, _, _, _, _, _, _, _, _, _, _, c58, (hf 59 (by decide)).trans c59, (hf 60 (by decide)).trans c60, hkp, (hf 61 (by decide)).trans c61, (hf 62 (by decide)).trans c62, (hf 63 (by decide)).trans c63, (hf 64 (by decide)).trans c64, (hf 65 (by decide)).trans c65, (hf 75 (by decide)).trans c75, (hf 76 (by decide)).trans c76, (hf 77 (by decide)).trans c77, (hf 78 (by decide)).trans c78, (hf 79 (by decide)).trans c79, hth, hit, hti', hba', hod', hW', hL', hs'⟩⟩
theorem M_stageOf {d N S : Nat} {n : Nat} {v : Nat → Int} {kn : Nat} {kv : Nat → Int} {im : Int} {tl : Nat} {tp sz : Nat → Int} {it : Nat → Nat → Int} {h : Nat → Option rr_E} (hA : IA n v kn kv im tl tp sz it) (hM : IM n v kn kv im tl tp sz it h) {a : Int} (ha_ : b3 a) : rr_Calls (d + 20) j_Model_stageOf [.ref 58, .int (ii a)] (N, S, h) (fun r R => r = some (.int (ii (sp_stageOf n v a))) ∧ ∃ h', R = (N, S, h') ∧ (∀ k, k < 58 ∨ 80 ≤ k → h' k = h k) ∧ IM n v kn kv im tl tp sz it h') := by
  have hM0 := hM
  obtain ⟨kp, pt, wr, fa, dm, ce, di, be, od, sm, le, sc, ba, bb, rk, ts, tm, pa, wa, ti, so, on, tw, w65, w75, w76, th, ms, w, c58, c59, c60, hkp, c61, c62, c63, c64, c65, c75, c76, c77, c78, c79, hth, hit, hti, hba, hod, hW, hL, hs⟩ := hM
  obtain ⟨hV, hKV, htl, htp, hsz, hb, him⟩ := id hA
  obtain ⟨hn, hv, h0⟩ := id hV
  refine calls_w (calls_d (m_stageOf (d := d + (13 - n)) hn hv h0 c58 c59 hti hba hod hW hL hs ha_) (show d + (13 - n) + (n + 7) = d + 20 by omega)) ?_
  rintro _ _ ⟨rfl, h', ce', di', be', sm', le', sc', ba', bb', rk', od', ti', rfl, hf, c58, hti', hba', hod', hW', hL', hs'⟩
  exact ⟨rfl, h', rfl, fun k hk => hf k (by simp; omega), ⟨_, _, _, _, _, _, _, _, _, _, _, _, _, _, _, _, _, _, _, _, _, _, _, _, _, _, _, _, _, c58, (hf 59 (by decide)).trans c59, (hf 60 (by decide)).trans c60, hkp, (hf 61 (by decide)).trans c61, (hf 62 (by decide)).trans c62, (hf 63 (by decide)).trans c63, (hf 64 (by decide)).trans c64, (hf 65 (by decide)).trans c65, (hf 75 (by decide)).trans c75, (hf 76 (by decide)).trans c76, (hf 77 (by decide)).trans c77, (hf 78 (by decide)).trans c78, (hf 79 (by decide)).trans c79, hth, hit, hti', hba', hod', hW', hL', hs'⟩⟩
theorem M_fair {d N S : Nat} {n : Nat} {v : Nat → Int} {kn : Nat} {kv : Nat → Int} {im : Int} {tl : Nat} {tp sz : Nat → Int} {it : Nat → Nat → Int} {h : Nat → Option rr_E} (hA : IA n v kn kv im tl tp sz it) (hM : IM n v kn kv im tl tp sz it h) {a : Int} (ha_ : b3 a) {z : Int} (hz_ : b3 z) : rr_Calls (d + 20) j_Model_fair [.ref 58, .int (ii a), .int (ii z)] (N, S, h) (fun r R => r = some (.long (jj (sp_fair n v a z))) ∧ ∃ h', R = (N, S, h') ∧ (∀ k, k < 58 ∨ 80 ≤ k → h' k = h k) ∧ IM n v kn kv im tl tp sz it h') := by
  have hM0 := hM
  obtain ⟨kp, pt, wr, fa, dm, ce, di, be, od, sm, le, sc, ba, bb, rk, ts, tm, pa, wa, ti, so, on, tw, w65, w75, w76, th, ms, w, c58, c59, c60, hkp, c61, c62, c63, c64, c65, c75, c76, c77, c78, c79, hth, hit, hti, hba, hod, hW, hL, hs⟩ := hM
  obtain ⟨hV, hKV, htl, htp, hsz, hb, him⟩ := id hA
  obtain ⟨hn, hv, h0⟩ := id hV
  refine calls_w (calls_d (m_fair (d := d + (13 - n)) hn hv h0 c58 c59 hti hba hod hW hL hs ha_ hz_) (show d + (13 - n) + (n + 7) = d + 20 by omega)) ?_
  rintro _ _ ⟨rfl, h', ce', di', be', sm', le', sc', ba', bb', rk', od', ti', rfl, hf, c58, hti', hba', hod', hW', hL', hs'⟩
  exact ⟨rfl, h', rfl, fun k hk => hf k (by simp; omega), ⟨_, _, _, _, _, _, _, _, _, _, _, _, _, _, _, _, _, _, _, _, _, _, _, _, _, _, _, _, _, c58, (hf 59 (by decide)).trans c59, (hf 60 (by decide)).trans c60, hkp, (hf 61 (by decide)).trans c61, (hf 62 (by decide)).trans c62, (hf 63 (by decide)).trans c63, (hf 64 (by decide)).trans c64, (hf 65 (by decide)).trans c65, (hf 75 (by decide)).trans c75, (hf 76 (by decide)).trans c76, (hf 77 (by decide)).trans c77, (hf 78 (by decide)).trans c78, (hf 79 (by decide)).trans c79, hth, hit, hti', hba', hod', hW', hL', hs'⟩⟩
theorem M_grudge {d N S : Nat} {n : Nat} {v : Nat → Int} {kn : Nat} {kv : Nat → Int} {im : Int} {tl : Nat} {tp sz : Nat → Int} {it : Nat → Nat → Int} {h : Nat → Option rr_E} (hA : IA n v kn kv im tl tp sz it) (hM : IM n v kn kv im tl tp sz it h) {a : Int} (ha_ : b3 a) {z : Int} (hz_ : b3 z) : rr_Calls (d + 20) j_Model_grudge [.ref 58, .int (ii a), .int (ii z)] (N, S, h) (fun r R => r = some (.long (jj (sp_grudge n v a z))) ∧ ∃ h', R = (N, S, h') ∧ (∀ k, k < 58 ∨ 80 ≤ k → h' k = h k) ∧ IM n v kn kv im tl tp sz it h') := by
  have hM0 := hM
  obtain ⟨kp, pt, wr, fa, dm, ce, di, be, od, sm, le, sc, ba, bb, rk, ts, tm, pa, wa, ti, so, on, tw, w65, w75, w76, th, ms, w, c58, c59, c60, hkp, c61, c62, c63, c64, c65, c75, c76, c77, c78, c79, hth, hit, hti, hba, hod, hW, hL, hs⟩ := hM
  obtain ⟨hV, hKV, htl, htp, hsz, hb, him⟩ := id hA
  obtain ⟨hn, hv, h0⟩ := id hV
  refine calls_w (calls_d (m_grudge (d := d + (11 - n)) hn hv h0 c58 c59 hti hba hod hW hL hs ha_ hz_) (show d + (11 - n) + (n + 9) = d + 20 by omega)) ?_
  rintro _ _ ⟨rfl, h', ce', di', be', sm', le', sc', ba', bb', rk', od', ti', rfl, hf, c58, hti', hba', hod', hW', hL', hs'⟩
  exact ⟨rfl, h', rfl, fun k hk => hf k (by simp; omega), ⟨_, _, _, _, _, _, _, _, _, _, _, _, _, _, _, _, _, _, _, _, _, _, _, _, _, _, _, _, _, c58, (hf 59 (by decide)).trans c59, (hf 60 (by decide)).trans c60, hkp, (hf 61 (by decide)).trans c61, (hf 62 (by decide)).trans c62, (hf 63 (by decide)).trans c63, (hf 64 (by decide)).trans c64, (hf 65 (by decide)).trans c65, (hf 75 (by decide)).trans c75, (hf 76 (by decide)).trans c76, (hf 77 (by decide)).trans c77, (hf 78 (by decide)).trans c78, (hf 79 (by decide)).trans c79, hth, hit, hti', hba', hod', hW', hL', hs'⟩⟩
theorem M_ordered {d N S : Nat} {n : Nat} {v : Nat → Int} {kn : Nat} {kv : Nat → Int} {im : Int} {tl : Nat} {tp sz : Nat → Int} {it : Nat → Nat → Int} {h : Nat → Option rr_E} (hA : IA n v kn kv im tl tp sz it) (hM : IM n v kn kv im tl tp sz it h) {a : Int} (ha_ : b3 a) : rr_Calls (d + 20) j_Model_ordered [.ref 58, .int (ii a)] (N, S, h) (fun r R => r = some (.int (ii (ino (nE n v) (al n) a))) ∧ ∃ h', R = (N, S, h') ∧ (∀ k, k < 58 ∨ 80 ≤ k → h' k = h k) ∧ IM n v kn kv im tl tp sz it h') := by
  have hM0 := hM
  obtain ⟨kp, pt, wr, fa, dm, ce, di, be, od, sm, le, sc, ba, bb, rk, ts, tm, pa, wa, ti, so, on, tw, w65, w75, w76, th, ms, w, c58, c59, c60, hkp, c61, c62, c63, c64, c65, c75, c76, c77, c78, c79, hth, hit, hti, hba, hod, hW, hL, hs⟩ := hM
  obtain ⟨hV, hKV, htl, htp, hsz, hb, him⟩ := id hA
  obtain ⟨hn, hv, h0⟩ := id hV
  refine calls_w (calls_d (m_ordered (d := d + (13 - n)) hn hv h0 c58 c59 hti hba hod hW hL hs ha_) (show d + (13 - n) + (n + 7) = d + 20 by omega)) ?_
  rintro _ _ ⟨rfl, h', ce', di', be', sm', le', sc', ba', bb', rk', od', ti', rfl, hf, c58, hti', hba', hod', hW', hL', hs'⟩
  exact ⟨rfl, h', rfl, fun k hk => hf k (by simp; omega), ⟨_, _, _, _, _, _, _, _, _, _, _, _, _, _, _, _, _, _, _, _, _, _, _, _, _, _, _, _, _, c58, (hf 59 (by decide)).trans c59, (hf 60 (by decide)).trans c60, hkp, (hf 61 (by decide)).trans c61, (hf 62 (by decide)).trans c62, (hf 63 (by decide)).trans c63, (hf 64 (by decide)).trans c64, (hf 65 (by decide)).trans c65, (hf 75 (by decide)).trans c75, (hf 76 (by decide)).trans c76, (hf 77 (by decide)).trans c77, (hf 78 (by decide)).trans c78, (hf 79 (by decide)).trans c79, hth, hit, hti', hba', hod', hW', hL', hs'⟩⟩
theorem M_empty {d N S : Nat} {n : Nat} {v : Nat → Int} {kn : Nat} {kv : Nat → Int} {im : Int} {tl : Nat} {tp sz : Nat → Int} {it : Nat → Nat → Int} {h : Nat → Option rr_E} (hA : IA n v kn kv im tl tp sz it) (hM : IM n v kn kv im tl tp sz it h) : rr_Calls (d + 20) j_Model_empty [.ref 58] (N, S, h) (fun r R => r = some (.int (ii (sp_empty n v))) ∧ ∃ h', R = (N, S, h') ∧ (∀ k, k < 58 ∨ 80 ≤ k → h' k = h k) ∧ IM n v kn kv im tl tp sz it h') := by
  have hM0 := hM
  obtain ⟨kp, pt, wr, fa, dm, ce, di, be, od, sm, le, sc, ba, bb, rk, ts, tm, pa, wa, ti, so, on, tw, w65, w75, w76, th, ms, w, c58, c59, c60, hkp, c61, c62, c63, c64, c65, c75, c76, c77, c78, c79, hth, hit, hti, hba, hod, hW, hL, hs⟩ := hM
  obtain ⟨hV, hKV, htl, htp, hsz, hb, him⟩ := id hA
  obtain ⟨hn, hv, h0⟩ := id hV
  refine calls_w (calls_d (m_empty (d := d + (13 - n)) hn hv h0 c58 c59 hti hba hod hW hL hs ) (show d + (13 - n) + (n + 7) = d + 20 by omega)) ?_
  rintro _ _ ⟨rfl, h', ce', di', be', sm', le', sc', ba', bb', rk', od', ti', rfl, hf, c58, hti', hba', hod', hW', hL', hs'⟩
  exact ⟨rfl, h', rfl, fun k hk => hf k (by simp; omega), ⟨_, _, _, _, _, _, _, _, _, _, _, _, _, _, _, _, _, _, _, _, _, _, _, _, _, _, _, _, _, c58, (hf 59 (by decide)).trans c59, (hf 60 (by decide)).trans c60, hkp, (hf 61 (by decide)).trans c61, (hf 62 (by decide)).trans c62, (hf 63 (by decide)).trans c63, (hf 64 (by decide)).trans c64, (hf 65 (by decide)).trans c65, (hf 75 (by decide)).trans c75, (hf 76 (by decide)).trans c76, (hf 77 (by decide)).trans c77, (hf 78 (by decide)).trans c78, (hf 79 (by decide)).trans c79, hth, hit, hti', hba', hod', hW', hL', hs'⟩⟩
theorem M_surplus {d N S : Nat} {n : Nat} {v : Nat → Int} {kn : Nat} {kv : Nat → Int} {im : Int} {tl : Nat} {tp sz : Nat → Int} {it : Nat → Nat → Int} {h : Nat → Option rr_E} (hA : IA n v kn kv im tl tp sz it) (hM : IM n v kn kv im tl tp sz it h) {a : Int} (ha_ : b3 a) {b : Int} (hb_ : b3 b) {z : Int} (hz_ : b3 z) : rr_Calls (d + 20) j_Model_surplus [.ref 58, .int (ii a), .int (ii b), .int (ii z)] (N, S, h) (fun r R => r = some (.long (jj (sp_surplus n v a b z))) ∧ ∃ h', R = (N, S, h') ∧ (∀ k, k < 58 ∨ 80 ≤ k → h' k = h k) ∧ IM n v kn kv im tl tp sz it h') := by
  have hM0 := hM
  obtain ⟨kp, pt, wr, fa, dm, ce, di, be, od, sm, le, sc, ba, bb, rk, ts, tm, pa, wa, ti, so, on, tw, w65, w75, w76, th, ms, w, c58, c59, c60, hkp, c61, c62, c63, c64, c65, c75, c76, c77, c78, c79, hth, hit, hti, hba, hod, hW, hL, hs⟩ := hM
  obtain ⟨hV, hKV, htl, htp, hsz, hb, him⟩ := id hA
  obtain ⟨hn, hv, h0⟩ := id hV
  refine calls_w (calls_d (m_surplus (d := d + (11 - n)) hn hv h0 c58 c59 hti hba hod hW hL hs ha_ hb_ hz_) (show d + (11 - n) + (n + 9) = d + 20 by omega)) ?_
  rintro _ _ ⟨rfl, h', ce', di', be', sm', le', sc', ba', bb', rk', od', ti', rfl, hf, c58, hti', hba', hod', hW', hL', hs'⟩
  exact ⟨rfl, h', rfl, fun k hk => hf k (by simp; omega), ⟨_, _, _, _, _, _, _, _, _, _, _, _, _, _, _, _, _, _, _, _, _, _, _, _, _, _, _, _, _, c58, (hf 59 (by decide)).trans c59, (hf 60 (by decide)).trans c60, hkp, (hf 61 (by decide)).trans c61, (hf 62 (by decide)).trans c62, (hf 63 (by decide)).trans c63, (hf 64 (by decide)).trans c64, (hf 65 (by decide)).trans c65, (hf 75 (by decide)).trans c75, (hf 76 (by decide)).trans c76, (hf 77 (by decide)).trans c77, (hf 78 (by decide)).trans c78, (hf 79 (by decide)).trans c79, hth, hit, hti', hba', hod', hW', hL', hs'⟩⟩
theorem M_cost {d N S : Nat} {n : Nat} {v : Nat → Int} {kn : Nat} {kv : Nat → Int} {im : Int} {tl : Nat} {tp sz : Nat → Int} {it : Nat → Nat → Int} {h : Nat → Option rr_E} (hA : IA n v kn kv im tl tp sz it) (hM : IM n v kn kv im tl tp sz it h) {z : Int} (hz_ : b3 z) : rr_Calls (d + 20) j_Model_cost [.ref 58, .int (ii z)] (N, S, h) (fun r R => r = some (.long (jj (sp_cost n v z))) ∧ ∃ h', R = (N, S, h') ∧ (∀ k, k < 58 ∨ 80 ≤ k → h' k = h k) ∧ IM n v kn kv im tl tp sz it h') := by
  have hM0 := hM
  obtain ⟨kp, pt, wr, fa, dm, ce, di, be, od, sm, le, sc, ba, bb, rk, ts, tm, pa, wa, ti, so, on, tw, w65, w75, w76, th, ms, w, c58, c59, c60, hkp, c61, c62, c63, c64, c65, c75, c76, c77, c78, c79, hth, hit, hti, hba, hod, hW, hL, hs⟩ := hM
  obtain ⟨hV, hKV, htl, htp, hsz, hb, him⟩ := id hA
  obtain ⟨hn, hv, h0⟩ := id hV
  refine calls_w (calls_d (m_cost (d := d + (14 - n)) hn hv h0 c58 c59 hti hba hod hW hL hs hz_) (show d + (14 - n) + (n + 6) = d + 20 by omega)) ?_
  rintro _ _ ⟨rfl, h', ce', di', be', sm', le', sc', ba', bb', rk', od', ti', rfl, hf, c58, hti', hba', hod', hW', hL', hs'⟩
  exact ⟨rfl, h', rfl, fun k hk => hf k (by simp; omega), ⟨_, _, _, _, _, _, _, _, _, _, _, _, _, _, _, _, _, _, _, _, _, _, _, _, _, _, _, _, _, c58, (hf 59 (by decide)).trans c59, (hf 60 (by decide)).trans c60, hkp, (hf 61 (by decide)).trans c61, (hf 62 (by decide)).trans c62, (hf 63 (by decide)).trans c63, (hf 64 (by decide)).trans c64, (hf 65 (by decide)).trans c65, (hf 75 (by decide)).trans c75, (hf 76 (by decide)).trans c76, (hf 77 (by decide)).trans c77, (hf 78 (by decide)).trans c78, (hf 79 (by decide)).trans c79, hth, hit, hti', hba', hod', hW', hL', hs'⟩⟩
theorem M_byTurns {d N S : Nat} {n : Nat} {v : Nat → Int} {kn : Nat} {kv : Nat → Int} {im : Int} {tl : Nat} {tp sz : Nat → Int} {it : Nat → Nat → Int} {h : Nat → Option rr_E} (hA : IA n v kn kv im tl tp sz it) (hM : IM n v kn kv im tl tp sz it h) {a : Int} (ha_ : b3 a) {z : Int} (hz_ : b3 z) : rr_Calls (d + 20) j_Model_byTurns [.ref 58, .int (ii a), .int (ii z)] (N, S, h) (fun r R => r = some (.long (jj (if (0 ≤ a ∧ a < (n : Int)) ∧ (z = 0 ∨ z = 1) then lw (dT n a.toNat v) (FA n) z else (-9223372036854775808)))) ∧ ∃ h', R = (N, S, h') ∧ (∀ k, k < 58 ∨ 80 ≤ k → h' k = h k) ∧ IM n v kn kv im tl tp sz it h') := by
  have hM0 := hM
  obtain ⟨kp, pt, wr, fa, dm, ce, di, be, od, sm, le, sc, ba, bb, rk, ts, tm, pa, wa, ti, so, on, tw, w65, w75, w76, th, ms, w, c58, c59, c60, hkp, c61, c62, c63, c64, c65, c75, c76, c77, c78, c79, hth, hit, hti, hba, hod, hW, hL, hs⟩ := hM
  obtain ⟨hV, hKV, htl, htp, hsz, hb, him⟩ := id hA
  obtain ⟨hn, hv, h0⟩ := id hV
  refine calls_w (calls_d (m_byTurns (d := d + (17 - n)) hn c58 c59 hv ha_ hz_) (show d + (17 - n) + n + 3 = d + 20 by omega)) ?_
  rintro _ _ ⟨rfl, h', rfl, hf, _, _, c58⟩
  exact ⟨rfl, h', rfl, fun k hk => hf k (by simp; omega), ⟨_, _, _, _, _, _, _, _, _, _, _, _, _, _, _, _, _, _, _, _, _, _, _, _, _, _, _, _, _, c58, (hf 59 (by decide)).trans c59, (hf 60 (by decide)).trans c60, hkp, (hf 61 (by decide)).trans c61, (hf 62 (by decide)).trans c62, (hf 63 (by decide)).trans c63, (hf 64 (by decide)).trans c64, (hf 65 (by decide)).trans c65, (hf 75 (by decide)).trans c75, (hf 76 (by decide)).trans c76, (hf 77 (by decide)).trans c77, (hf 78 (by decide)).trans c78, (hf 79 (by decide)).trans c79, hth, hit, hti, hba, hod, fr_MW hf (by decide) hW, fr_ML hf (by decide) hL, fun e => fr_MS hf (by decide) (hs e)⟩⟩
theorem M_would {d N S : Nat} {n : Nat} {v : Nat → Int} {kn : Nat} {kv : Nat → Int} {im : Int} {tl : Nat} {tp sz : Nat → Int} {it : Nat → Nat → Int} {h : Nat → Option rr_E} (hA : IA n v kn kv im tl tp sz it) (hM : IM n v kn kv im tl tp sz it h) {g : Int} (hg_ : b3 g) {w : Int} (hw_ : b3 w) {a : Int} (ha_ : b3 a) {z : Int} (hz_ : b3 z) : rr_Calls (d + 20) j_Model_would [.ref 58, .int (ii g), .int (ii w), .int (ii a), .int (ii z)] (N, S, h) (fun r R => r = some (.long (jj (sp_would n v g w a z))) ∧ ∃ h', R = (N, S, h') ∧ (∀ k, k < 58 ∨ 80 ≤ k → h' k = h k) ∧ IM n v kn kv im tl tp sz it h') := by
  have hM0 := hM
  obtain ⟨kp, pt, wr, fa, dm, ce, di, be, od, sm, le, sc, ba, bb, rk, ts, tm, pa, wa, ti, so, on, tw, w65, w75, w76, th, ms, w, c58, c59, c60, hkp, c61, c62, c63, c64, c65, c75, c76, c77, c78, c79, hth, hit, hti, hba, hod, hW, hL, hs⟩ := hM
  obtain ⟨hV, hKV, htl, htp, hsz, hb, him⟩ := id hA
  obtain ⟨hn, hv, h0⟩ := id hV
  refine calls_w (calls_d (m_would (d := d + (12 - n)) hn hv h0 c58 c59 hti hba hod hW hL hs hg_ hw_ ha_ hz_) (show d + (12 - n) + (n + 8) = d + 20 by omega)) ?_
  rintro _ _ ⟨rfl, h', ce', di', be', sm', le', sc', ba', bb', rk', od', ti', rfl, hf, c58, c59, hti', hba', hod', hW', hL', hs'⟩
  exact ⟨rfl, h', rfl, fun k hk => hf k (by simp; omega), ⟨_, _, _, _, _, _, _, _, _, _, _, _, _, _, _, _, _, _, _, _, _, _, _, _, _, _, _, _, _, c58, c59, (hf 60 (by decide)).trans c60, hkp, (hf 61 (by decide)).trans c61, (hf 62 (by decide)).trans c62, (hf 63 (by decide)).trans c63, (hf 64 (by decide)).trans c64, (hf 65 (by decide)).trans c65, (hf 75 (by decide)).trans c75, (hf 76 (by decide)).trans c76, (hf 77 (by decide)).trans c77, (hf 78 (by decide)).trans c78, (hf 79 (by decide)).trans c79, hth, hit, hti', hba', hod', hW', hL', hs'⟩⟩
theorem M_needs {d N S : Nat} {n : Nat} {v : Nat → Int} {kn : Nat} {kv : Nat → Int} {im : Int} {tl : Nat} {tp sz : Nat → Int} {it : Nat → Nat → Int} {h : Nat → Option rr_E} (hA : IA n v kn kv im tl tp sz it) (hM : IM n v kn kv im tl tp sz it h) {g : Int} (hg_ : b3 g) {a : Int} (ha_ : b3 a) {x : Int} (hx_ : b3 x) : rr_Calls (d + 20) j_Model_needs [.ref 58, .int (ii g), .int (ii a), .int (ii x)] (N, S, h) (fun r R => r = some (.long (jj (sp_needs n v g a x))) ∧ ∃ h', R = (N, S, h') ∧ (∀ k, k < 58 ∨ 80 ≤ k → h' k = h k) ∧ IM n v kn kv im tl tp sz it h') := by
  have hM0 := hM
  obtain ⟨kp, pt, wr, fa, dm, ce, di, be, od, sm, le, sc, ba, bb, rk, ts, tm, pa, wa, ti, so, on, tw, w65, w75, w76, th, ms, w, c58, c59, c60, hkp, c61, c62, c63, c64, c65, c75, c76, c77, c78, c79, hth, hit, hti, hba, hod, hW, hL, hs⟩ := hM
  obtain ⟨hV, hKV, htl, htp, hsz, hb, him⟩ := id hA
  obtain ⟨hn, hv, h0⟩ := id hV
  refine calls_w (calls_d (m_needs (d := d + (12 - n)) hn hv h0 c58 c59 hti hba hod hW hL hs hg_ ha_ hx_) (show d + (12 - n) + (n + 8) = d + 20 by omega)) ?_
  rintro _ _ ⟨rfl, h', ce', di', be', sm', le', sc', ba', bb', rk', od', ti', rfl, hf, c58, c59, hti', hba', hod', hW', hL', hs'⟩
  exact ⟨rfl, h', rfl, fun k hk => hf k (by simp; omega), ⟨_, _, _, _, _, _, _, _, _, _, _, _, _, _, _, _, _, _, _, _, _, _, _, _, _, _, _, _, _, c58, c59, (hf 60 (by decide)).trans c60, hkp, (hf 61 (by decide)).trans c61, (hf 62 (by decide)).trans c62, (hf 63 (by decide)).trans c63, (hf 64 (by decide)).trans c64, (hf 65 (by decide)).trans c65, (hf 75 (by decide)).trans c75, (hf 76 (by decide)).trans c76, (hf 77 (by decide)).trans c77, (hf 78 (by decide)).trans c78, (hf 79 (by decide)).trans c79, hth, hit, hti', hba', hod', hW', hL', hs'⟩⟩
theorem M_is {d N S : Nat} {n : Nat} {v : Nat → Int} {kn : Nat} {kv : Nat → Int} {im : Int} {tl : Nat} {tp sz : Nat → Int} {it : Nat → Nat → Int} {h : Nat → Option rr_E} (hA : IA n v kn kv im tl tp sz it) (hM : IM n v kn kv im tl tp sz it h) {w : Int} (hw_ : b3 w) : rr_Calls (d + 20) j_Model_is [.ref 58, .int (ii w)] (N, S, h) (fun r R => r = some (.int (ii (if 0 ≤ w ∧ w ≤ 2 then (if sp_against n v w = -5 then 1 else 0) else -1))) ∧ ∃ h', R = (N, S, h') ∧ (∀ k, k < 58 ∨ 80 ≤ k → h' k = h k) ∧ IM n v kn kv im tl tp sz it h') := by
  have hM0 := hM
  obtain ⟨kp, pt, wr, fa, dm, ce, di, be, od, sm, le, sc, ba, bb, rk, ts, tm, pa, wa, ti, so, on, tw, w65, w75, w76, th, ms, w, c58, c59, c60, hkp, c61, c62, c63, c64, c65, c75, c76, c77, c78, c79, hth, hit, hti, hba, hod, hW, hL, hs⟩ := hM
  obtain ⟨hV, hKV, htl, htp, hsz, hb, him⟩ := id hA
  obtain ⟨hn, hv, h0⟩ := id hV
  refine calls_w (calls_d (m_is (d := d + 16) hn c58 c59 hv hw_) (show d + 16 + 4 = d + 20 by omega)) ?_
  rintro _ _ ⟨rfl, rfl⟩
  exact ⟨rfl, h, rfl, fun _ _ => rfl, hM0⟩
theorem M_idle {d N S : Nat} {n : Nat} {v : Nat → Int} {kn : Nat} {kv : Nat → Int} {im : Int} {tl : Nat} {tp sz : Nat → Int} {it : Nat → Nat → Int} {h : Nat → Option rr_E} (hA : IA n v kn kv im tl tp sz it) (hM : IM n v kn kv im tl tp sz it h) : rr_Calls (d + 20) j_Model_idle [.ref 58] (N, S, h) (fun r R => r = some (.int (ii ((os (AN n v) n : Nat) : Int))) ∧ ∃ h', R = (N, S, h') ∧ (∀ k, k < 58 ∨ 80 ≤ k → h' k = h k) ∧ IM n v kn kv im tl tp sz it h') := by
  have hM0 := hM
  obtain ⟨kp, pt, wr, fa, dm, ce, di, be, od, sm, le, sc, ba, bb, rk, ts, tm, pa, wa, ti, so, on, tw, w65, w75, w76, th, ms, w, c58, c59, c60, hkp, c61, c62, c63, c64, c65, c75, c76, c77, c78, c79, hth, hit, hti, hba, hod, hW, hL, hs⟩ := hM
  obtain ⟨hV, hKV, htl, htp, hsz, hb, him⟩ := id hA
  obtain ⟨hn, hv, h0⟩ := id hV
  refine calls_w (calls_d (m_idle (d := d + 18) hn c58 c59 hv) (show d + 18 + 2 = d + 20 by omega)) ?_
  rintro _ _ ⟨rfl, rfl⟩
  exact ⟨rfl, h, rfl, fun _ _ => rfl, hM0⟩
theorem M_alike {d N S : Nat} {n : Nat} {v : Nat → Int} {kn : Nat} {kv : Nat → Int} {im : Int} {tl : Nat} {tp sz : Nat → Int} {it : Nat → Nat → Int} {h : Nat → Option rr_E} (hA : IA n v kn kv im tl tp sz it) (hM : IM n v kn kv im tl tp sz it h) {a : Int} (ha_ : b3 a) : rr_Calls (d + 20) j_Model_alike [.ref 58, .int (ii a)] (N, S, h) (fun r R => r = some (.int (ii (if 0 ≤ a ∧ a < n then ((os (fun p => p ≠ a.toNat ∧ AL n v a.toNat p) n : Nat) : Int) else -1))) ∧ ∃ h', R = (N, S, h') ∧ (∀ k, k < 58 ∨ 80 ≤ k → h' k = h k) ∧ IM n v kn kv im tl tp sz it h') := by
  have hM0 := hM
  obtain ⟨kp, pt, wr, fa, dm, ce, di, be, od, sm, le, sc, ba, bb, rk, ts, tm, pa, wa, ti, so, on, tw, w65, w75, w76, th, ms, w, c58, c59, c60, hkp, c61, c62, c63, c64, c65, c75, c76, c77, c78, c79, hth, hit, hti, hba, hod, hW, hL, hs⟩ := hM
  obtain ⟨hV, hKV, htl, htp, hsz, hb, him⟩ := id hA
  obtain ⟨hn, hv, h0⟩ := id hV
  refine calls_w (calls_d (m_alike (d := d + 17) hn c58 c59 hv ha_) (show d + 17 + 3 = d + 20 by omega)) ?_
  rintro _ _ ⟨rfl, rfl⟩
  exact ⟨rfl, h, rfl, fun _ _ => rfl, hM0⟩
theorem M_against {d N S : Nat} {n : Nat} {v : Nat → Int} {kn : Nat} {kv : Nat → Int} {im : Int} {tl : Nat} {tp sz : Nat → Int} {it : Nat → Nat → Int} {h : Nat → Option rr_E} (hA : IA n v kn kv im tl tp sz it) (hM : IM n v kn kv im tl tp sz it h) {w : Int} (hw_ : b3 w) : rr_Calls (d + 20) j_Model_against [.ref 58, .int (ii w)] (N, S, h) (fun r R => r = some (.int (ii (if 0 ≤ w ∧ w ≤ 2 then sp_against n v w else -1))) ∧ ∃ h', R = (N, S, h') ∧ (∀ k, k < 58 ∨ 80 ≤ k → h' k = h k) ∧ IM n v kn kv im tl tp sz it h') := by
  have hM0 := hM
  obtain ⟨kp, pt, wr, fa, dm, ce, di, be, od, sm, le, sc, ba, bb, rk, ts, tm, pa, wa, ti, so, on, tw, w65, w75, w76, th, ms, w, c58, c59, c60, hkp, c61, c62, c63, c64, c65, c75, c76, c77, c78, c79, hth, hit, hti, hba, hod, hW, hL, hs⟩ := hM
  obtain ⟨hV, hKV, htl, htp, hsz, hb, him⟩ := id hA
  obtain ⟨hn, hv, h0⟩ := id hV
  refine calls_w (calls_d (m_against (d := d + 17) hn c58 c59 hv hw_) (show d + 17 + 3 = d + 20 by omega)) ?_
  rintro _ _ ⟨rfl, rfl⟩
  exact ⟨rfl, h, rfl, fun _ _ => rfl, hM0⟩
theorem M_grudgeBy {d N S : Nat} {n : Nat} {v : Nat → Int} {kn : Nat} {kv : Nat → Int} {im : Int} {tl : Nat} {tp sz : Nat → Int} {it : Nat → Nat → Int} {h : Nat → Option rr_E} (hA : IA n v kn kv im tl tp sz it) (hM : IM n v kn kv im tl tp sz it h) {a : Int} (ha_ : b3 a) {i : Int} (hi_ : b3 i) {g : Int} (hg_ : b3 g) {z : Int} (hz_ : b3 z) : rr_Calls (d + 20) j_Model_grudgeBy [.ref 58, .int (ii a), .int (ii i), .int (ii g), .int (ii z)] (N, S, h) (fun r R => r = some (.long (jj (sp_grudgeBy n v sz it a i g z))) ∧ ∃ h', R = (N, S, h') ∧ (∀ k, k < 58 ∨ 80 ≤ k → h' k = h k) ∧ IM n v kn kv im tl tp sz it h') := by
  have hM0 := hM
  obtain ⟨kp, pt, wr, fa, dm, ce, di, be, od, sm, le, sc, ba, bb, rk, ts, tm, pa, wa, ti, so, on, tw, w65, w75, w76, th, ms, w, c58, c59, c60, hkp, c61, c62, c63, c64, c65, c75, c76, c77, c78, c79, hth, hit, hti, hba, hod, hW, hL, hs⟩ := hM
  obtain ⟨hV, hKV, htl, htp, hsz, hb, him⟩ := id hA
  obtain ⟨hn, hv, h0⟩ := id hV
  refine calls_w (calls_d (m_grudgeBy (d := d + 16) hn c58 hth hit c77 c78 c79 c75 hb c59 hv ha_ hi_ hg_ hz_) (show d + 16 + 4 = d + 20 by omega)) ?_
  rintro _ _ ⟨rfl, h', rfl, hf, _, _, c58, c75⟩
  exact ⟨rfl, h', rfl, fun k hk => hf k (by simp; omega), ⟨_, _, _, _, _, _, _, _, _, _, _, _, _, _, _, _, _, _, _, _, _, _, _, _, _, _, _, _, _, c58, (hf 59 (by decide)).trans c59, (hf 60 (by decide)).trans c60, hkp, (hf 61 (by decide)).trans c61, (hf 62 (by decide)).trans c62, (hf 63 (by decide)).trans c63, (hf 64 (by decide)).trans c64, (hf 65 (by decide)).trans c65, c75, (hf 76 (by decide)).trans c76, (hf 77 (by decide)).trans c77, (hf 78 (by decide)).trans c78, (hf 79 (by decide)).trans c79, hth, hit, hti, hba, hod, fr_MW hf (by decide) hW, fr_ML hf (by decide) hL, fun e => fr_MS hf (by decide) (hs e)⟩⟩
theorem M_shares {d N S : Nat} {n : Nat} {v : Nat → Int} {kn : Nat} {kv : Nat → Int} {im : Int} {tl : Nat} {tp sz : Nat → Int} {it : Nat → Nat → Int} {h : Nat → Option rr_E} (hA : IA n v kn kv im tl tp sz it) (hM : IM n v kn kv im tl tp sz it h) {a : Int} (ha_ : b3 a) {i : Int} (hi_ : b3 i) : rr_Calls (d + 20) j_Model_shares [.ref 58, .int (ii a), .int (ii i)] (N, S, h) (fun r R => r = some (.int (ii (sp_shares n v sz it a i))) ∧ ∃ h', R = (N, S, h') ∧ (∀ k, k < 58 ∨ 80 ≤ k → h' k = h k) ∧ IM n v kn kv im tl tp sz it h') := by
  have hM0 := hM
  obtain ⟨kp, pt, wr, fa, dm, ce, di, be, od, sm, le, sc, ba, bb, rk, ts, tm, pa, wa, ti, so, on, tw, w65, w75, w76, th, ms, w, c58, c59, c60, hkp, c61, c62, c63, c64, c65, c75, c76, c77, c78, c79, hth, hit, hti, hba, hod, hW, hL, hs⟩ := hM
  obtain ⟨hV, hKV, htl, htp, hsz, hb, him⟩ := id hA
  obtain ⟨hn, hv, h0⟩ := id hV
  refine calls_w (calls_d (m_shares (d := d + 15) hn c58 hth hit c77 c78 c79 c75 hb c59 hv ha_ hi_) (show d + 15 + 5 = d + 20 by omega)) ?_
  rintro _ _ ⟨rfl, h', rfl, hf, _, _, c58, c75⟩
  exact ⟨rfl, h', rfl, fun k hk => hf k (by simp; omega), ⟨_, _, _, _, _, _, _, _, _, _, _, _, _, _, _, _, _, _, _, _, _, _, _, _, _, _, _, _, _, c58, (hf 59 (by decide)).trans c59, (hf 60 (by decide)).trans c60, hkp, (hf 61 (by decide)).trans c61, (hf 62 (by decide)).trans c62, (hf 63 (by decide)).trans c63, (hf 64 (by decide)).trans c64, (hf 65 (by decide)).trans c65, c75, (hf 76 (by decide)).trans c76, (hf 77 (by decide)).trans c77, (hf 78 (by decide)).trans c78, (hf 79 (by decide)).trans c79, hth, hit, hti, hba, hod, fr_MW hf (by decide) hW, fr_ML hf (by decide) hL, fun e => fr_MS hf (by decide) (hs e)⟩⟩
theorem M_orderedBy {d N S : Nat} {n : Nat} {v : Nat → Int} {kn : Nat} {kv : Nat → Int} {im : Int} {tl : Nat} {tp sz : Nat → Int} {it : Nat → Nat → Int} {h : Nat → Option rr_E} (hA : IA n v kn kv im tl tp sz it) (hM : IM n v kn kv im tl tp sz it h) {a : Int} (ha_ : b3 a) {i : Int} (hi_ : b3 i) {k : Int} (hk_ : b3 k) : rr_Calls (d + 20) j_Model_orderedBy [.ref 58, .int (ii a), .int (ii i), .int (ii k)] (N, S, h) (fun r R => r = some (.int (ii (sp_orderedBy n v sz it a i k))) ∧ ∃ h', R = (N, S, h') ∧ (∀ k, k < 58 ∨ 80 ≤ k → h' k = h k) ∧ IM n v kn kv im tl tp sz it h') := by
  have hM0 := hM
  obtain ⟨kp, pt, wr, fa, dm, ce, di, be, od, sm, le, sc, ba, bb, rk, ts, tm, pa, wa, ti, so, on, tw, w65, w75, w76, th, ms, w, c58, c59, c60, hkp, c61, c62, c63, c64, c65, c75, c76, c77, c78, c79, hth, hit, hti, hba, hod, hW, hL, hs⟩ := hM
  obtain ⟨hV, hKV, htl, htp, hsz, hb, him⟩ := id hA
  obtain ⟨hn, hv, h0⟩ := id hV
  refine calls_w (calls_d (m_orderedBy (d := d + 15) hn c58 hth hit c77 c78 c79 c75 hb c59 hv ha_ hi_ hk_) (show d + 15 + 5 = d + 20 by omega)) ?_
  rintro _ _ ⟨rfl, h', rfl, hf, _, _, c58, c75⟩
  exact ⟨rfl, h', rfl, fun k hk => hf k (by simp; omega), ⟨_, _, _, _, _, _, _, _, _, _, _, _, _, _, _, _, _, _, _, _, _, _, _, _, _, _, _, _, _, c58, (hf 59 (by decide)).trans c59, (hf 60 (by decide)).trans c60, hkp, (hf 61 (by decide)).trans c61, (hf 62 (by decide)).trans c62, (hf 63 (by decide)).trans c63, (hf 64 (by decide)).trans c64, (hf 65 (by decide)).trans c65, c75, (hf 76 (by decide)).trans c76, (hf 77 (by decide)).trans c77, (hf 78 (by decide)).trans c78, (hf 79 (by decide)).trans c79, hth, hit, hti, hba, hod, fr_MW hf (by decide) hW, fr_ML hf (by decide) hL, fun e => fr_MS hf (by decide) (hs e)⟩⟩
theorem M_better {d N S : Nat} {n : Nat} {v : Nat → Int} {kn : Nat} {kv : Nat → Int} {im : Int} {tl : Nat} {tp sz : Nat → Int} {it : Nat → Nat → Int} {h : Nat → Option rr_E} (hA : IA n v kn kv im tl tp sz it) (hM : IM n v kn kv im tl tp sz it h) {a : Int} (ha_ : b3 a) {i : Int} (hi_ : b3 i) {a2 : Int} (ha2_ : b3 a2) {i2 : Int} (hi2_ : b3 i2) : rr_Calls (d + 20) j_Model_better [.ref 58, .int (ii a), .int (ii i), .int (ii a2), .int (ii i2)] (N, S, h) (fun r R => r = some (.int (ii (sp_better n v sz it a i a2 i2))) ∧ ∃ h', R = (N, S, h') ∧ (∀ k, k < 58 ∨ 80 ≤ k → h' k = h k) ∧ IM n v kn kv im tl tp sz it h') := by
  have hM0 := hM
  obtain ⟨kp, pt, wr, fa, dm, ce, di, be, od, sm, le, sc, ba, bb, rk, ts, tm, pa, wa, ti, so, on, tw, w65, w75, w76, th, ms, w, c58, c59, c60, hkp, c61, c62, c63, c64, c65, c75, c76, c77, c78, c79, hth, hit, hti, hba, hod, hW, hL, hs⟩ := hM
  obtain ⟨hV, hKV, htl, htp, hsz, hb, him⟩ := id hA
  obtain ⟨hn, hv, h0⟩ := id hV
  refine calls_w (calls_d (m_better (d := d + 15) hn c58 hth hit c77 c78 c79 c75 hb c59 hv c76 ha_ hi_ ha2_ hi2_) (show d + 15 + 5 = d + 20 by omega)) ?_
  rintro _ _ ⟨rfl, h', rfl, hf, _, _, _, c58, c75, c76⟩
  exact ⟨rfl, h', rfl, fun k hk => hf k (by simp; omega), ⟨_, _, _, _, _, _, _, _, _, _, _, _, _, _, _, _, _, _, _, _, _, _, _, _, _, _, _, _, _, c58, (hf 59 (by decide)).trans c59, (hf 60 (by decide)).trans c60, hkp, (hf 61 (by decide)).trans c61, (hf 62 (by decide)).trans c62, (hf 63 (by decide)).trans c63, (hf 64 (by decide)).trans c64, (hf 65 (by decide)).trans c65, c75, c76, (hf 77 (by decide)).trans c77, (hf 78 (by decide)).trans c78, (hf 79 (by decide)).trans c79, hth, hit, hti, hba, hod, fr_MW hf (by decide) hW, fr_ML hf (by decide) hL, fun e => fr_MS hf (by decide) (hs e)⟩⟩
theorem M_judge {d N S : Nat} {n : Nat} {v : Nat → Int} {kn : Nat} {kv : Nat → Int} {im : Int} {tl : Nat} {tp sz : Nat → Int} {it : Nat → Nat → Int} {h : Nat → Option rr_E} (hA : IA n v kn kv im tl tp sz it) (hM : IM n v kn kv im tl tp sz it h) {a : Int} (ha_ : b3 a) {i : Int} (hi_ : b3 i) : rr_Calls (d + 20) j_Model_judge [.ref 58, .int (ii a), .int (ii i)] (N, S, h) (fun r R => r = some (.int (ii (sp_judge n v sz it a i))) ∧ ∃ h', R = (N, S, h') ∧ (∀ k, k < 58 ∨ 80 ≤ k → h' k = h k) ∧ IM n v kn kv im tl tp sz it h') := by
  have hM0 := hM
  obtain ⟨kp, pt, wr, fa, dm, ce, di, be, od, sm, le, sc, ba, bb, rk, ts, tm, pa, wa, ti, so, on, tw, w65, w75, w76, th, ms, w, c58, c59, c60, hkp, c61, c62, c63, c64, c65, c75, c76, c77, c78, c79, hth, hit, hti, hba, hod, hW, hL, hs⟩ := hM
  obtain ⟨hV, hKV, htl, htp, hsz, hb, him⟩ := id hA
  obtain ⟨hn, hv, h0⟩ := id hV
  refine calls_w (calls_d (m_judge (d := d + (13 - n)) hn hv h0 c58 c59 hti hba hod hW hL hs hth hit c77 c78 c79 c75 hb ha_ hi_) (show d + (13 - n) + (n + 7) = d + 20 by omega)) ?_
  rintro _ _ ⟨rfl, h', ce', di', be', sm', le', sc', ba', bb', rk', od', pa', ti', w3, rfl, hf, c58, hti', hba', hod', hW', hL', hs', c75⟩
  exact ⟨rfl, h', rfl, fun k hk => hf k (by simp; omega), ⟨_, _, _, _, _, _, _, _, _, _, _, _, _, _, _, _, _, _, _, _, _, _, _, _, _, _, _, _, _, c58, (hf 59 (by decide)).trans c59, (hf 60 (by decide)).trans c60, hkp, (hf 61 (by decide)).trans c61, (hf 62 (by decide)).trans c62, (hf 63 (by decide)).trans c63, (hf 64 (by decide)).trans c64, (hf 65 (by decide)).trans c65, c75, (hf 76 (by decide)).trans c76, (hf 77 (by decide)).trans c77, (hf 78 (by decide)).trans c78, (hf 79 (by decide)).trans c79, hth, hit, hti', hba', hod', hW', hL', hs'⟩⟩
theorem M_proves {d N S : Nat} {n : Nat} {v : Nat → Int} {kn : Nat} {kv : Nat → Int} {im : Int} {tl : Nat} {tp sz : Nat → Int} {it : Nat → Nat → Int} {h : Nat → Option rr_E} (hA : IA n v kn kv im tl tp sz it) (hM : IM n v kn kv im tl tp sz it h) {a : Int} (ha_ : b3 a) {i : Int} (hi_ : b3 i) : rr_Calls (d + 20) j_Model_proves [.ref 58, .int (ii a), .int (ii i)] (N, S, h) (fun r R => r = some (.int (ii (sp_proves n v sz it a i))) ∧ ∃ h', R = (N, S, h') ∧ (∀ k, k < 58 ∨ 80 ≤ k → h' k = h k) ∧ IM n v kn kv im tl tp sz it h') := by
  have hM0 := hM
  obtain ⟨kp, pt, wr, fa, dm, ce, di, be, od, sm, le, sc, ba, bb, rk, ts, tm, pa, wa, ti, so, on, tw, w65, w75, w76, th, ms, w, c58, c59, c60, hkp, c61, c62, c63, c64, c65, c75, c76, c77, c78, c79, hth, hit, hti, hba, hod, hW, hL, hs⟩ := hM
  obtain ⟨hV, hKV, htl, htp, hsz, hb, him⟩ := id hA
  obtain ⟨hn, hv, h0⟩ := id hV
  refine calls_w (calls_d (m_proves (d := d + (13 - n)) hn hv h0 c58 c59 hti hba hod hW hL hs hth hit c77 c78 c79 hb ha_ hi_) (show d + (13 - n) + (n + 7) = d + 20 by omega)) ?_
  rintro _ _ ⟨rfl, h', ce', di', be', sm', le', sc', ba', bb', rk', od', wa', ti', rfl, hf, c58, hti', hba', hod', hW', hL', hs'⟩
  exact ⟨rfl, h', rfl, fun k hk => hf k (by simp; omega), ⟨_, _, _, _, _, _, _, _, _, _, _, _, _, _, _, _, _, _, _, _, _, _, _, _, _, _, _, _, _, c58, (hf 59 (by decide)).trans c59, (hf 60 (by decide)).trans c60, hkp, (hf 61 (by decide)).trans c61, (hf 62 (by decide)).trans c62, (hf 63 (by decide)).trans c63, (hf 64 (by decide)).trans c64, (hf 65 (by decide)).trans c65, (hf 75 (by decide)).trans c75, (hf 76 (by decide)).trans c76, (hf 77 (by decide)).trans c77, (hf 78 (by decide)).trans c78, (hf 79 (by decide)).trans c79, hth, hit, hti', hba', hod', hW', hL', hs'⟩⟩
theorem M_proof {d N S : Nat} {n : Nat} {v : Nat → Int} {kn : Nat} {kv : Nat → Int} {im : Int} {tl : Nat} {tp sz : Nat → Int} {it : Nat → Nat → Int} {h : Nat → Option rr_E} (hA : IA n v kn kv im tl tp sz it) (hM : IM n v kn kv im tl tp sz it h) {a : Int} (ha_ : b3 a) {i : Int} (hi_ : b3 i) {z : Int} (hz_ : b3 z) : rr_Calls (d + 20) j_Model_proof [.ref 58, .int (ii a), .int (ii i), .int (ii z)] (N, S, h) (fun r R => r = some (.long (jj (sp_proof n v sz it a i z))) ∧ ∃ h', R = (N, S, h') ∧ (∀ k, k < 58 ∨ 80 ≤ k → h' k = h k) ∧ IM n v kn kv im tl tp sz it h') := by
  have hM0 := hM
  obtain ⟨kp, pt, wr, fa, dm, ce, di, be, od, sm, le, sc, ba, bb, rk, ts, tm, pa, wa, ti, so, on, tw, w65, w75, w76, th, ms, w, c58, c59, c60, hkp, c61, c62, c63, c64, c65, c75, c76, c77, c78, c79, hth, hit, hti, hba, hod, hW, hL, hs⟩ := hM
  obtain ⟨hV, hKV, htl, htp, hsz, hb, him⟩ := id hA
  obtain ⟨hn, hv, h0⟩ := id hV
  refine calls_w (calls_d (m_proof (d := d + 16) hn c58 hth hit c77 c78 c79 hb ha_ hi_ c59 hv hz_) (show d + 16 + 4 = d + 20 by omega)) ?_
  rintro _ _ ⟨rfl, h', rfl, hf, _, c58⟩
  exact ⟨rfl, h', rfl, fun k hk => hf k (by simp; omega), ⟨_, _, _, _, _, _, _, _, _, _, _, _, _, _, _, _, _, _, _, _, _, _, _, _, _, _, _, _, _, c58, (hf 59 (by decide)).trans c59, (hf 60 (by decide)).trans c60, hkp, (hf 61 (by decide)).trans c61, (hf 62 (by decide)).trans c62, (hf 63 (by decide)).trans c63, (hf 64 (by decide)).trans c64, (hf 65 (by decide)).trans c65, (hf 75 (by decide)).trans c75, (hf 76 (by decide)).trans c76, (hf 77 (by decide)).trans c77, (hf 78 (by decide)).trans c78, (hf 79 (by decide)).trans c79, hth, hit, hti, hba, hod, fr_MW hf (by decide) hW, fr_ML hf (by decide) hL, fun e => fr_MS hf (by decide) (hs e)⟩⟩
theorem M_tilts {d N S : Nat} {n : Nat} {v : Nat → Int} {kn : Nat} {kv : Nat → Int} {im : Int} {tl : Nat} {tp sz : Nat → Int} {it : Nat → Nat → Int} {h : Nat → Option rr_E} (hA : IA n v kn kv im tl tp sz it) (hM : IM n v kn kv im tl tp sz it h) {a : Int} (ha_ : b3 a) {i : Int} (hi_ : b3 i) : rr_Calls (d + 20) j_Model_tilts [.ref 58, .int (ii a), .int (ii i)] (N, S, h) (fun r R => r = some (.int (ii (sp_tilts n sz it a i))) ∧ ∃ h', R = (N, S, h') ∧ (∀ k, k < 58 ∨ 80 ≤ k → h' k = h k) ∧ IM n v kn kv im tl tp sz it h') := by
  have hM0 := hM
  obtain ⟨kp, pt, wr, fa, dm, ce, di, be, od, sm, le, sc, ba, bb, rk, ts, tm, pa, wa, ti, so, on, tw, w65, w75, w76, th, ms, w, c58, c59, c60, hkp, c61, c62, c63, c64, c65, c75, c76, c77, c78, c79, hth, hit, hti, hba, hod, hW, hL, hs⟩ := hM
  obtain ⟨hV, hKV, htl, htp, hsz, hb, him⟩ := id hA
  obtain ⟨hn, hv, h0⟩ := id hV
  refine calls_w (calls_d (m_tilts (d := d + 16) hn c58 hth hit c77 c78 c79 hb ha_ hi_) (show d + 16 + 4 = d + 20 by omega)) ?_
  rintro _ _ ⟨rfl, h', rfl, hf, _, c58⟩
  exact ⟨rfl, h', rfl, fun k hk => hf k (by simp; omega), ⟨_, _, _, _, _, _, _, _, _, _, _, _, _, _, _, _, _, _, _, _, _, _, _, _, _, _, _, _, _, c58, (hf 59 (by decide)).trans c59, (hf 60 (by decide)).trans c60, hkp, (hf 61 (by decide)).trans c61, (hf 62 (by decide)).trans c62, (hf 63 (by decide)).trans c63, (hf 64 (by decide)).trans c64, (hf 65 (by decide)).trans c65, (hf 75 (by decide)).trans c75, (hf 76 (by decide)).trans c76, (hf 77 (by decide)).trans c77, (hf 78 (by decide)).trans c78, (hf 79 (by decide)).trans c79, hth, hit, hti, hba, hod, fr_MW hf (by decide) hW, fr_ML hf (by decide) hL, fun e => fr_MS hf (by decide) (hs e)⟩⟩
theorem M_lay {d N S : Nat} {n : Nat} {v : Nat → Int} {kn : Nat} {kv : Nat → Int} {im : Int} {tl : Nat} {tp sz : Nat → Int} {it : Nat → Nat → Int} {h : Nat → Option rr_E} (hA : IA n v kn kv im tl tp sz it) (hM : IM n v kn kv im tl tp sz it h) {a : Int} (ha_ : b3 a) {i : Int} (hi_ : b3 i) : rr_Calls (d + 20) j_Model_lay [.ref 58, .int (ii a), .int (ii i)] (N, S, h) (fun r R => r = some (.int (ii (sp_lay n sz a i))) ∧ ∃ h', R = (N, S, h') ∧ (∀ k, k < 58 ∨ 80 ≤ k → h' k = h k) ∧ IM n v kn kv im tl tp sz (itl n v sz it a i) h') := by
  have hM0 := hM
  obtain ⟨kp, pt, wr, fa, dm, ce, di, be, od, sm, le, sc, ba, bb, rk, ts, tm, pa, wa, ti, so, on, tw, w65, w75, w76, th, ms, w, c58, c59, c60, hkp, c61, c62, c63, c64, c65, c75, c76, c77, c78, c79, hth, hit, hti, hba, hod, hW, hL, hs⟩ := hM
  obtain ⟨hV, hKV, htl, htp, hsz, hb, him⟩ := id hA
  obtain ⟨hn, hv, h0⟩ := id hV
  refine calls_w (calls_d (m_lay (d := d + (13 - n)) hn hv h0 c58 c59 hti hba hod hW hL hs hth hit c77 c78 c79 ha_ hi_) (show d + (13 - n) + (n + 7) = d + 20 by omega)) ?_
  rintro _ _ ⟨rfl, h', ce', di', be', sm', le', sc', ba', bb', rk', od', ti', w', rfl, hf, c58, hti', hba', hod', hW', hL', hs', c79, hit'⟩
  exact ⟨rfl, h', rfl, fun k hk => hf k (by simp; omega), ⟨_, _, _, _, _, _, _, _, _, _, _, _, _, _, _, _, _, _, _, _, _, _, _, _, _, _, _, _, _, c58, (hf 59 (by decide)).trans c59, (hf 60 (by decide)).trans c60, hkp, (hf 61 (by decide)).trans c61, (hf 62 (by decide)).trans c62, (hf 63 (by decide)).trans c63, (hf 64 (by decide)).trans c64, (hf 65 (by decide)).trans c65, (hf 75 (by decide)).trans c75, (hf 76 (by decide)).trans c76, (hf 77 (by decide)).trans c77, (hf 78 (by decide)).trans c78, c79, hth, hit', hti', hba', hod', hW', hL', hs'⟩⟩
theorem M_list {d N S : Nat} {n : Nat} {v : Nat → Int} {kn : Nat} {kv : Nat → Int} {im : Int} {tl : Nat} {tp sz : Nat → Int} {it : Nat → Nat → Int} {h : Nat → Option rr_E} (hA : IA n v kn kv im tl tp sz it) (hM : IM n v kn kv im tl tp sz it h) {a : Int} (ha_ : b3 a) {i : Int} (hi_ : b3 i) : rr_Calls (d + 20) j_Model_list [.ref 58, .int (ii a), .int (ii i)] (N, S, h) (fun r R => r = some (.int (ii (cite (0 ≤ a ∧ a ≤ 3) (cite (30 < i) (-2) (cite (i < 0) (-14) 1)) (-1)))) ∧ ∃ h', R = (N, S, h') ∧ (∀ k, k < 58 ∨ 80 ≤ k → h' k = h k) ∧ IM n v kn kv im tl tp (cite ((0 ≤ a ∧ a ≤ 3) ∧ 0 ≤ i ∧ i ≤ 30) (fu sz a.toNat i) sz) (cite ((0 ≤ a ∧ a ≤ 3) ∧ 0 ≤ i ∧ i ≤ 30) (itz it a.toNat) it) h') := by
  have hM0 := hM
  obtain ⟨kp, pt, wr, fa, dm, ce, di, be, od, sm, le, sc, ba, bb, rk, ts, tm, pa, wa, ti, so, on, tw, w65, w75, w76, th, ms, w, c58, c59, c60, hkp, c61, c62, c63, c64, c65, c75, c76, c77, c78, c79, hth, hit, hti, hba, hod, hW, hL, hs⟩ := hM
  obtain ⟨hV, hKV, htl, htp, hsz, hb, him⟩ := id hA
  obtain ⟨hn, hv, h0⟩ := id hV
  refine calls_w (calls_d (m_list (d := d + 17) c58 hth hit c77 c78 c79 ha_ hi_) (show d + 17 + 3 = d + 20 by omega)) ?_
  rintro _ _ (⟨q, rfl, rfl⟩ | ⟨q, q2, rfl, rfl⟩ | ⟨q, q2, rfl, rfl⟩ | ⟨q, q2, q3, rfl, h', rfl, c77, c78, c79, hf⟩)
  · have z : ¬ ((0 ≤ a ∧ a ≤ 3) ∧ 0 ≤ i ∧ i ≤ 30) := fun z => by omega
    exact ⟨by rw [ci_n q], h, rfl, fun _ _ => rfl, by rw [ci_n z, ci_n z]; exact hM0⟩
  · have z : ¬ ((0 ≤ a ∧ a ≤ 3) ∧ 0 ≤ i ∧ i ≤ 30) := fun z => by omega
    exact ⟨by rw [ci_y q, ci_y q2], h, rfl, fun _ _ => rfl, by rw [ci_n z, ci_n z]; exact hM0⟩
  · have z : ¬ ((0 ≤ a ∧ a ≤ 3) ∧ 0 ≤ i ∧ i ≤ 30) := fun z => by omega
    exact ⟨by rw [ci_y q, ci_n (by omega), ci_y q2], h, rfl, fun _ _ => rfl, by rw [ci_n z, ci_n z]; exact hM0⟩
  · have z : ((0 ≤ a ∧ a ≤ 3) ∧ 0 ≤ i ∧ i ≤ 30) := ⟨q, q2, q3⟩
    obtain ⟨l, rfl⟩ := Int.eq_ofNat_of_zero_le q.1
    have hth2 : ∀ m, m < 4 → (fu th l 1 m = 0 ∧ fu sz l i m = -1) ∨ (fu th l 1 m = 1 ∧ fu sz l i m = fu ms l i m ∧ 0 ≤ fu sz l i m ∧ fu sz l i m ≤ 30) := fun m hm => by
      by_cases e : m = l
      · rw [e, fu_s, fu_s, fu_s]; exact Or.inr ⟨rfl, rfl, q2, q3⟩
      · rw [fu_n e, fu_n e, fu_n e]; exact hth m hm
    have hit2 : ∀ m k, m < 4 → k < 30 → zl w l 30 (30 * m + k) = itz it l m k := fun m k hm hk => by
      unfold zl itz zr
      by_cases e : m = l
      · rw [if_pos e, if_pos (by omega), if_pos hk]
      · rw [if_neg e, if_neg (by omega)]; exact hit m k hm hk
    exact ⟨by rw [ci_y q, ci_n (by omega), ci_n (by omega)], h', rfl, fun k hk => hf k (by simp; omega), by rw [ci_y z, ci_y z]; exact ⟨_, _, _, _, _, _, _, _, _, _, _, _, _, _, _, _, _, _, _, _, _, _, _, _, _, _, _, _, _, (hf 58 (by decide)).trans c58, (hf 59 (by decide)).trans c59, (hf 60 (by decide)).trans c60, hkp, (hf 61 (by decide)).trans c61, (hf 62 (by decide)).trans c62, (hf 63 (by decide)).trans c63, (hf 64 (by decide)).trans c64, (hf 65 (by decide)).trans c65, (hf 75 (by decide)).trans c75, (hf 76 (by decide)).trans c76, c77, c78, c79, hth2, hit2, hti, hba, hod, fr_MW hf (by decide) hW, fr_ML hf (by decide) hL, fun e => fr_MS hf (by decide) (hs e)⟩⟩
theorem M_set {d N S : Nat} {n : Nat} {v : Nat → Int} {kn : Nat} {kv : Nat → Int} {im : Int} {tl : Nat} {tp sz : Nat → Int} {it : Nat → Nat → Int} {h : Nat → Option rr_E} (hA : IA n v kn kv im tl tp sz it) (hM : IM n v kn kv im tl tp sz it h) {a : Int} (ha_ : b3 a) {i : Int} (hi_ : b3 i) {y : Int} (hy_ : b6 y) : rr_Calls (d + 20) j_Model_set [.ref 58, .int (ii a), .int (ii i), .long (jj y)] (N, S, h) (fun r R => r = some (.int (ii (if cpl sz a i 1 = 0 then 1 else cpl sz a i 1))) ∧ ∃ h', R = (N, S, h') ∧ (∀ k, k < 58 ∨ 80 ≤ k → h' k = h k) ∧ IM n v kn kv im tl tp sz (cite (cpl sz a i 1 = 0) (its it a.toNat i.toNat y) it) h') := by
  have hM0 := hM
  obtain ⟨kp, pt, wr, fa, dm, ce, di, be, od, sm, le, sc, ba, bb, rk, ts, tm, pa, wa, ti, so, on, tw, w65, w75, w76, th, ms, w, c58, c59, c60, hkp, c61, c62, c63, c64, c65, c75, c76, c77, c78, c79, hth, hit, hti, hba, hod, hW, hL, hs⟩ := hM
  obtain ⟨hV, hKV, htl, htp, hsz, hb, him⟩ := id hA
  obtain ⟨hn, hv, h0⟩ := id hV
  refine calls_w (calls_d (m_set (d := d + 17) c58 hth hit c77 c78 c79 ha_ hi_ hy_) (show d + 17 + 3 = d + 20 by omega)) ?_
  rintro _ _ ⟨rfl, (⟨z, rfl⟩ | ⟨z, h', rfl, c79, hf⟩)⟩
  · exact ⟨rfl, h, rfl, fun _ _ => rfl, by rw [ci_n z]; exact hM0⟩
  · obtain ⟨z1, z2, z3, z4⟩ := cpl_0 z
    obtain ⟨l, rfl⟩ := Int.eq_ofNat_of_zero_le z1.1
    obtain ⟨j, rfl⟩ := Int.eq_ofNat_of_zero_le z3
    have hl : l < 4 := by omega
    have hs30 := (hsz l hl).2
    have z5 : (j : Int) ≤ sz l - 1 := z4
    have hit2 : ∀ m k, m < 4 → k < 30 → fu w (30 * l + j) y (30 * m + k) = its it l j y m k := fun m k hm hk => by
      unfold its
      by_cases e : m = l
      · rw [if_pos e, e]
        by_cases e2 : k = j
        · rw [e2, fu_s, fu_s]
        · rw [fu_n (by omega), fu_n e2]; exact hit l k hl hk
      · rw [if_neg e, fu_n (by omega)]; exact hit m k hm hk
    exact ⟨rfl, h', rfl, fun k hk => hf k (by simp; omega), by rw [ci_y z]; exact ⟨_, _, _, _, _, _, _, _, _, _, _, _, _, _, _, _, _, _, _, _, _, _, _, _, _, _, _, _, _, (hf 58 (by decide)).trans c58, (hf 59 (by decide)).trans c59, (hf 60 (by decide)).trans c60, hkp, (hf 61 (by decide)).trans c61, (hf 62 (by decide)).trans c62, (hf 63 (by decide)).trans c63, (hf 64 (by decide)).trans c64, (hf 65 (by decide)).trans c65, (hf 75 (by decide)).trans c75, (hf 76 (by decide)).trans c76, (hf 77 (by decide)).trans c77, (hf 78 (by decide)).trans c78, c79, hth, hit2, hti, hba, hod, fr_MW hf (by decide) hW, fr_ML hf (by decide) hL, fun e => fr_MS hf (by decide) (hs e)⟩⟩
theorem M_get {d N S : Nat} {n : Nat} {v : Nat → Int} {kn : Nat} {kv : Nat → Int} {im : Int} {tl : Nat} {tp sz : Nat → Int} {it : Nat → Nat → Int} {h : Nat → Option rr_E} (hA : IA n v kn kv im tl tp sz it) (hM : IM n v kn kv im tl tp sz it h) {a : Int} (ha_ : b3 a) {i : Int} (hi_ : b3 i) : rr_Calls (d + 20) j_Model_get [.ref 58, .int (ii a), .int (ii i)] (N, S, h) (fun r R => r = some (.long (jj (if cpl sz a i 1 = 0 then it a.toNat i.toNat else (-9223372036854775808)))) ∧ ∃ h', R = (N, S, h') ∧ (∀ k, k < 58 ∨ 80 ≤ k → h' k = h k) ∧ IM n v kn kv im tl tp sz it h') := by
  have hM0 := hM
  obtain ⟨kp, pt, wr, fa, dm, ce, di, be, od, sm, le, sc, ba, bb, rk, ts, tm, pa, wa, ti, so, on, tw, w65, w75, w76, th, ms, w, c58, c59, c60, hkp, c61, c62, c63, c64, c65, c75, c76, c77, c78, c79, hth, hit, hti, hba, hod, hW, hL, hs⟩ := hM
  obtain ⟨hV, hKV, htl, htp, hsz, hb, him⟩ := id hA
  obtain ⟨hn, hv, h0⟩ := id hV
  refine calls_w (calls_d (m_get (d := d + 17) c58 hth hit c77 c78 c79 ha_ hi_) (show d + 17 + 3 = d + 20 by omega)) ?_
  rintro _ _ ⟨rfl, rfl⟩
  exact ⟨rfl, h, rfl, fun _ _ => rfl, hM0⟩
theorem M_image {d N S : Nat} {n : Nat} {v : Nat → Int} {kn : Nat} {kv : Nat → Int} {im : Int} {tl : Nat} {tp sz : Nat → Int} {it : Nat → Nat → Int} {h : Nat → Option rr_E} (hA : IA n v kn kv im tl tp sz it) (hM : IM n v kn kv im tl tp sz it h) : rr_Calls (d + 20) j_Model_image [.ref 58] (N, S, h) (fun r R => r = some (.int (ii (n : Int))) ∧ ∃ h', R = (N, S, h') ∧ (∀ k, k < 58 ∨ 80 ≤ k → h' k = h k) ∧ IM n v n (fc v kv 0 0 16) 1 tl tp sz it h') := by
  have hM0 := hM
  obtain ⟨kp, pt, wr, fa, dm, ce, di, be, od, sm, le, sc, ba, bb, rk, ts, tm, pa, wa, ti, so, on, tw, w65, w75, w76, th, ms, w, c58, c59, c60, hkp, c61, c62, c63, c64, c65, c75, c76, c77, c78, c79, hth, hit, hti, hba, hod, hW, hL, hs⟩ := hM
  obtain ⟨hV, hKV, htl, htp, hsz, hb, him⟩ := id hA
  obtain ⟨hn, hv, h0⟩ := id hV
  refine calls_w (calls_d (m_image (d := d + 19) c58 c59 c60) (show d + 19 + 1 = d + 20 by omega)) ?_
  rintro _ _ ⟨rfl, h', rfl, c58, c60, hf⟩
  exact ⟨rfl, h', rfl, fun k hk => hf k (by simp; omega), ⟨_, _, _, _, _, _, _, _, _, _, _, _, _, _, _, _, _, _, _, _, _, _, _, _, _, _, _, _, _, c58, (hf 59 (by decide)).trans c59, c60, Or.inr ⟨rfl, rfl⟩, (hf 61 (by decide)).trans c61, (hf 62 (by decide)).trans c62, (hf 63 (by decide)).trans c63, (hf 64 (by decide)).trans c64, (hf 65 (by decide)).trans c65, (hf 75 (by decide)).trans c75, (hf 76 (by decide)).trans c76, (hf 77 (by decide)).trans c77, (hf 78 (by decide)).trans c78, (hf 79 (by decide)).trans c79, hth, hit, hti, hba, hod, fr_MW hf (by decide) hW, fr_ML hf (by decide) hL, fun e => fr_MS hf (by decide) (hs e)⟩⟩
theorem M_undo {d N S : Nat} {n : Nat} {v : Nat → Int} {kn : Nat} {kv : Nat → Int} {im : Int} {tl : Nat} {tp sz : Nat → Int} {it : Nat → Nat → Int} {h : Nat → Option rr_E} (hA : IA n v kn kv im tl tp sz it) (hM : IM n v kn kv im tl tp sz it h) : rr_Calls (d + 20) j_Model_undo [.ref 58] (N, S, h) (fun r R => r = some (.int (ii (cite (im = 1) (kn : Int) (-3)))) ∧ ∃ h', R = (N, S, h') ∧ (∀ k, k < 58 ∨ 80 ≤ k → h' k = h k) ∧ IM (cite (im = 1) kn n) (cite (im = 1) (fc kv v 0 0 16) v) kn kv im tl tp sz it h') := by
  have hM0 := hM
  obtain ⟨kp, pt, wr, fa, dm, ce, di, be, od, sm, le, sc, ba, bb, rk, ts, tm, pa, wa, ti, so, on, tw, w65, w75, w76, th, ms, w, c58, c59, c60, hkp, c61, c62, c63, c64, c65, c75, c76, c77, c78, c79, hth, hit, hti, hba, hod, hW, hL, hs⟩ := hM
  obtain ⟨hV, hKV, htl, htp, hsz, hb, him⟩ := id hA
  obtain ⟨hn, hv, h0⟩ := id hV
  refine calls_w (calls_d (m_undo (d := d + 19) c58 (by have := hKV.1; omega) c59 c60) (show d + 19 + 1 = d + 20 by omega)) ?_
  rintro _ _ (⟨q, rfl, rfl⟩ | ⟨q, rfl, h', rfl, c58, c59, hf⟩)
  · have z : ¬ im = 1 := by omega
    exact ⟨by rw [ci_n z], h, rfl, fun _ _ => rfl, by rw [ci_n z, ci_n z]; exact hM0⟩
  · have z : im = 1 := by omega
    have z2 : kp = (kn : Int) := by omega
    subst z2
    exact ⟨by rw [ci_y z], h', rfl, fun k hk => hf k (by simp; omega), by rw [ci_y z, ci_y z]; exact ⟨_, _, _, _, _, _, _, _, _, _, _, _, _, _, _, _, _, _, _, _, _, _, _, _, _, _, _, _, _, c58, c59, (hf 60 (by decide)).trans c60, hkp, (hf 61 (by decide)).trans c61, (hf 62 (by decide)).trans c62, (hf 63 (by decide)).trans c63, (hf 64 (by decide)).trans c64, (hf 65 (by decide)).trans c65, (hf 75 (by decide)).trans c75, (hf 76 (by decide)).trans c76, (hf 77 (by decide)).trans c77, (hf 78 (by decide)).trans c78, (hf 79 (by decide)).trans c79, hth, hit, hti, hba, Or.inr rfl, fr_MW hf (by decide) hW, fr_ML hf (by decide) hL, fun e => absurd e (by decide)⟩⟩
