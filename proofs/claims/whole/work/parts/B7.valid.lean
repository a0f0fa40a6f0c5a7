def rr_gs : List (Nat × Nat × Nat) := rr_g0 ++ (rr_g1 ++ (rr_g2 ++ (rr_g3 ++ (rr_g4 ++ (rr_g5 ++ (rr_g6 ++ (rr_g7 ++ (rr_g8 ++ (rr_g9 ++ (rr_g10 ++ (rr_g11 ++ (rr_g12 ++ (rr_g13 ++ (rr_g14 ++ (rr_g15 ++ (rr_g16 ++ (rr_g17 ++ (rr_g18 ++ (rr_g19 ++ (rr_g20 ++ (rr_g21 ++ (rr_g22 ++ (rr_g23 ++ (rr_g24 ++ (rr_g25 ++ (rr_g26))))))))))))))))))))))))))
theorem rr_gsv : rr_gs.all (fun q => ((List.range q.2.2).map (· + q.2.1)).all (rr_ck1 q.1)) = true := by
  unfold rr_gs
  simp only [List.all_append, Bool.and_eq_true]
  exact ⟨rr_gv0, ⟨rr_gv1, ⟨rr_gv2, ⟨rr_gv3, ⟨rr_gv4, ⟨rr_gv5, ⟨rr_gv6, ⟨rr_gv7, ⟨rr_gv8, ⟨rr_gv9, ⟨rr_gv10, ⟨rr_gv11, ⟨rr_gv12, ⟨rr_gv13, ⟨rr_gv14, ⟨rr_gv15, ⟨rr_gv16, ⟨rr_gv17, ⟨rr_gv18, ⟨rr_gv19, ⟨rr_gv20, ⟨rr_gv21, ⟨rr_gv22, ⟨rr_gv23, ⟨rr_gv24, ⟨rr_gv25, rr_gv26⟩⟩⟩⟩⟩⟩⟩⟩⟩⟩⟩⟩⟩⟩⟩⟩⟩⟩⟩⟩⟩⟩⟩⟩⟩⟩
set_option maxRecDepth 100000 in
theorem rr_cov : (List.range 236).all (fun j => (List.range (((rr_code j).length + 39) / 40)).all (fun i => rr_gs.any (fun q => Nat.beq q.1 j && Nat.beq q.2.1 (40 * i) && Nat.beq q.2.2 (min 40 ((rr_code j).length - 40 * i))))) = true := by decide +kernel
theorem rr_codes_len : rr_codes.length = 236 := by decide +kernel
theorem rr_nth_lt {α : Type} : ∀ (l : List α) (k : Nat) (x : α), rr_nth l k = some x → k < l.length
  | [], _, _, h => by cases h
  | _ :: _, 0, _, _ => by simp
  | _ :: t, k + 1, x, h => by
    have := rr_nth_lt t k x h
    simp only [List.length_cons]
    omega
theorem rr_valid : rr_Valid := by
  refine ⟨fun j k e he => ?_, fun j hj => ?_⟩
  · have hk : k < (rr_code j).length := rr_nth_lt _ _ _ he
    have hj : j < 236 := by
      rcases Nat.lt_or_ge j 236 with z | z
      · exact z
      · exfalso
        have : rr_code j = [] := by
          unfold rr_code
          rw [rr_nth_get, List.getElem?_eq_none (by rw [rr_codes_len]; exact z)]
          rfl
        rw [this] at hk
        simp at hk
    have h1 := List.all_eq_true.mp rr_cov j (List.mem_range.mpr hj)
    have h2 := List.all_eq_true.mp h1 (k / 40) (List.mem_range.mpr (by omega))
    obtain ⟨q, hq, hqe⟩ := List.any_eq_true.mp h2
    simp only [Bool.and_eq_true] at hqe
    obtain ⟨⟨e1, e2⟩, e3⟩ := hqe
    have e1 := Nat.eq_of_beq_eq_true e1
    have e2 := Nat.eq_of_beq_eq_true e2
    have e3 := Nat.eq_of_beq_eq_true e3
    have h3 := List.all_eq_true.mp rr_gsv q hq
    have h4 := List.all_eq_true.mp h3 k (List.mem_map.mpr ⟨k - q.2.1, List.mem_range.mpr (by rw [e3, e2]; omega), by rw [e2]; omega⟩)
    rw [e1] at h4
    exact h4
  · have key : ∀ (a n : Nat), ((List.range n).map (· + a)).all rr_ckW = true → a ≤ j → j < a + n → rr_ckW j = true := fun a n h h1 h2 => List.all_eq_true.mp h j (List.mem_map.mpr ⟨j - a, List.mem_range.mpr (by omega), by omega⟩)
    have hj2 : j < 235 := hj
    rcases (by omega : (0 ≤ j ∧ j < 10) ∨ (10 ≤ j ∧ j < 20) ∨ (20 ≤ j ∧ j < 30) ∨ (30 ≤ j ∧ j < 40) ∨ (40 ≤ j ∧ j < 50) ∨ (50 ≤ j ∧ j < 60) ∨ (60 ≤ j ∧ j < 70) ∨ (70 ≤ j ∧ j < 80) ∨ (80 ≤ j ∧ j < 90) ∨ (90 ≤ j ∧ j < 100) ∨ (100 ≤ j ∧ j < 110) ∨ (110 ≤ j ∧ j < 120) ∨ (120 ≤ j ∧ j < 130) ∨ (130 ≤ j ∧ j < 140) ∨ (140 ≤ j ∧ j < 150) ∨ (150 ≤ j ∧ j < 160) ∨ (160 ≤ j ∧ j < 170) ∨ (170 ≤ j ∧ j < 180) ∨ (180 ≤ j ∧ j < 190) ∨ (190 ≤ j ∧ j < 200) ∨ (200 ≤ j ∧ j < 210) ∨ (210 ≤ j ∧ j < 220) ∨ (220 ≤ j ∧ j < 230) ∨ (230 ≤ j ∧ j < 235)) with h | h | h | h | h | h | h | h | h | h | h | h | h | h | h | h | h | h | h | h | h | h | h | h
    · exact key 0 10 rr_cw0 h.1 h.2
    · exact key 10 10 rr_cw10 h.1 h.2
    · exact key 20 10 rr_cw20 h.1 h.2
    · exact key 30 10 rr_cw30 h.1 h.2
    · exact key 40 10 rr_cw40 h.1 h.2
    · exact key 50 10 rr_cw50 h.1 h.2
    · exact key 60 10 rr_cw60 h.1 h.2
    · exact key 70 10 rr_cw70 h.1 h.2
    · exact key 80 10 rr_cw80 h.1 h.2
    · exact key 90 10 rr_cw90 h.1 h.2
    · exact key 100 10 rr_cw100 h.1 h.2
    · exact key 110 10 rr_cw110 h.1 h.2
    · exact key 120 10 rr_cw120 h.1 h.2
    · exact key 130 10 rr_cw130 h.1 h.2
    · exact key 140 10 rr_cw140 h.1 h.2
    · exact key 150 10 rr_cw150 h.1 h.2
    · exact key 160 10 rr_cw160 h.1 h.2
    · exact key 170 10 rr_cw170 h.1 h.2
    · exact key 180 10 rr_cw180 h.1 h.2
    · exact key 190 10 rr_cw190 h.1 h.2
    · exact key 200 10 rr_cw200 h.1 h.2
    · exact key 210 10 rr_cw210 h.1 h.2
    · exact key 220 10 rr_cw220 h.1 h.2
    · exact key 230 5 rr_cw230 h.1 h.2
