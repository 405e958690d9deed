theorem sp_isLost {σ : ww_M} {o b : Nat} {s : ww_S} {d : ww_D1} (hC : ww_ClsA σ o s d) (hb : b < 3) : f_X2_isLost σ o (nI b) = some (if dLost d b then 1 else 0) := by
  unfold f_X2_isLost
  have hl : ww_lostN d < 2 ^ 31 := Nat.lt_of_lt_of_le (bt_lt _ 3) (by decide)
  rw [hC.2.1.2.2.2.2, ww_bit (by omega) hl]
  unfold ww_lostN
  rw [bt_test]
  cases dLost d b <;> simp [hb]
theorem sm_lost {σ : ww_M} {b : Nat} {s : ww_S} {d : ww_D1} (hD : ww_ModD (σ 63) 0 s d) (hb : b < 3) : σ 63 (15 + b) = if dLost d b then 1 else 0 := by
  have := hD.2.1 b hb
  rw [Nat.zero_add] at this
  exact this
theorem st_beast {k : Nat} {σ : ww_M} {s : ww_S} {d : ww_D1} (hk : k < 64) (h : ww_Rel k σ s d) (p1 p2 : Int32) : ∃ (v : Int32) (s2 : ww_S) (d2 : ww_D1), f_X6_beast σ p1 p2 = some v ∧ f_X7_beast σ 62 p1 p2 = some v ∧ ww_Rel (k + 1) σ s2 d2 := by
  have h0 := ww_Rel_up h
  obtain ⟨r1, -, hC, r4, hD, r6⟩ := h
  have hnb := r1.2.2.2.1
  unfold f_X6_beast f_X7_beast
  rw [sp_hasBeast hC, sp_isBeast r4]
  simp only [Option.bind_some, ww_b01, ww_inI (a := 0) (b := 2) 0 2 rfl rfl]
  rcases ww_rng p1 (n := sNb s) (by omega) with ⟨b, hb, rfl, c⟩ | c
  · have hcc : ¬ ¬ (0 ≤ nI b ∧ nI b ≤ nI (sNb s) - 1) := fun q => q c
    simp only [if_neg hcc]
    by_cases c2 : 0 ≤ p2 ∧ p2 ≤ 2
    · obtain ⟨n, -, hn, rfl⟩ := ww_btw (a := 0) (b := 2) (by omega) c2 (by omega)
      have hc2 : ¬ ¬ (0 ≤ nI n ∧ nI n ≤ 2) := fun q => q c2
      simp only [if_neg hc2]
      rw [sp_isLost hC (by omega), show σ (4 + 4) = σ 8 from rfl, show σ (4 + 5) = σ 9 from rfl, show σ (62 + 1) = σ 63 from rfl, show σ (62 + 3) = σ 65 from rfl]
      simp (disch := omega) only [n_lit, n_le, n_lt, n_eq, n_in, n_ckt, n_ix, n_mul, n_add, n_sub, n_div, n_rem, n_b01, n_isb, n_lt0, n_le0, Option.bind_some, if_pos, if_neg, ge_iff_le, gt_iff_lt, Nat.zero_add, Nat.add_zero, n_neg1, n_neg4, if_true, if_false, ite_true, ite_false, n_land1, not_true_eq_false, not_false_eq_true]
      rw [show σ 8 b = nI (sHd s b) from (hC.2.2.2.2.1 b hb).1, show σ 9 b = nI (sPt s b) from (hC.2.2.2.2.1 b hb).2, sm_lost hD (by omega)]
      rcases (show n = 0 ∨ n = 1 ∨ n = 2 by omega) with rfl | rfl | rfl
      · exact ⟨_, s, d, rfl, by simp (disch := omega) only [n_lit, n_le, n_lt, n_eq, n_in, n_ckt, n_ix, n_mul, n_add, n_sub, n_div, n_rem, n_b01, n_isb, n_lt0, n_le0, Option.bind_some, if_pos, if_neg, ge_iff_le, gt_iff_lt, Nat.zero_add, Nat.add_zero, n_neg1, n_neg4, if_true, if_false, ite_true, ite_false, n_land1, not_true_eq_false, not_false_eq_true, (r4.2.2.2.2 b hb).1], h0⟩
      · exact ⟨_, s, d, rfl, by simp (disch := omega) only [n_lit, n_le, n_lt, n_eq, n_in, n_ckt, n_ix, n_mul, n_add, n_sub, n_div, n_rem, n_b01, n_isb, n_lt0, n_le0, Option.bind_some, if_pos, if_neg, ge_iff_le, gt_iff_lt, Nat.zero_add, Nat.add_zero, n_neg1, n_neg4, if_true, if_false, ite_true, ite_false, n_land1, not_true_eq_false, not_false_eq_true, (r4.2.2.2.2 b hb).2], h0⟩
      · refine ⟨if dLost d b then 1 else 0, s, d, ?_, ?_, h0⟩ <;> (cases dLost d b <;> rfl)
    · have q0 : ¬ p2 = 0 := fun e => c2 (by rw [e]; decide)
      have q1 : ¬ p2 = 1 := fun e => c2 (by rw [e]; decide)
      have q2 : ¬ p2 = 2 := fun e => c2 (by rw [e]; decide)
      rw [if_neg q0, if_neg q1, if_neg q2, if_pos c2]
      exact ⟨_, s, d, rfl, rfl, h0⟩
  · rw [if_pos c, if_pos c]
    exact ⟨_, s, d, rfl, rfl, h0⟩
