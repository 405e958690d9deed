theorem st_floats {k : Nat} {σ : ww_M} {s : ww_S} {d : ww_D1} (hk : k < 64) (h : ww_Rel k σ s d) (p1 : Int32) : ∃ (v : Int32) (s2 : ww_S) (d2 : ww_D1), f_X6_floats σ p1 = some v ∧ f_X7_floats σ 62 p1 = some v ∧ ww_Rel (k + 1) σ s2 d2 := by
  have h0 := ww_Rel_up h
  obtain ⟨r1, ⟨hd, hh, -⟩, hC, hM, hD, -⟩ := h
  have hnb := r1.2.2.2.1
  unfold f_X6_floats f_X7_floats
  rw [sp_hasBeast hC, sp_isBeast hM]
  simp only [Option.bind_some, ww_b01]
  rcases ww_rng p1 (n := sNb s) (by omega) with ⟨b, hb, rfl, c⟩ | c
  · have hcc : ¬ ¬ (0 ≤ nI b ∧ nI b ≤ nI (sNb s) - 1) := fun q => q c
    have h6 := r1.2.2.2.2.2.1 b hb
    simp only [if_neg hcc]
    rw [sp_isLost hC (by omega), show σ (62 + 1) = σ 63 from rfl]
    simp (disch := omega) only [n_lit, n_le, n_lt, n_eq, n_in, n_ckt, n_ix, n_mul, n_add, n_sub, n_div, n_rem, n_b01, n_isb, n_lt0, n_le0, Option.bind_some, if_pos, if_neg, ge_iff_le, gt_iff_lt, Nat.zero_add, Nat.add_zero, n_neg1, n_neg4, if_true, if_false, ite_true, ite_false, n_land1, not_true_eq_false, not_false_eq_true]
    rw [sm_lost hD (by omega)]
    cases hl : dLost d b
    · have e45 : σ 63 45 = nI (dHr d) := hD.1.2.2.2
      have e15 : σ 4 15 = nI (dHr d) := hC.2.1.2.2.2.1
      refine ⟨if fa_first (fun i => ww_flt s d b (dHr d + i)) 60 < 60 then nI (dHr d + fa_first (fun i => ww_flt s d b (dHr d + i)) 60) else -4, s, d, ?_, ?_, h0⟩
      · unfold f_X6_floats_j29 f_X6_floats_j75
        have key := ww_it_first (f := f_X6_floats_b29 σ (nI b)) (fun i => nI i) (fun i => ww_flt s d b (dHr d + i)) 60 (by omega) (fun i => Sum.inr (nI (dHr d + i))) (Sum.inl ()) (fun i hi hp => ?_) (fun i hi hp => ?_) ?_
        · simp only [if_neg (show ¬ (false = true) by decide), if_pos (show nI 0 = nI 0 from rfl), key, Option.bind_some]
          by_cases q : fa_first (fun i => ww_flt s d b (dHr d + i)) 60 < 60
          · simp only [if_pos q]; rfl
          · simp only [if_neg q]; rfl
        · unfold f_X6_floats_b29
          rw [e15, nI_add, sp_floating r1 hd hC (by omega)]
          simp only [Option.bind_some]
          have hl : ww_bits (fun b => ww_flt s d b (dHr d + i)) (sNb s) < 2 ^ 31 := Nat.lt_trans (bt_lt _ _) (Nat.pow_lt_pow_right (by omega) (by omega))
          rw [ww_bit (by omega) hl, bt_test]
          have hp' : ww_flt s d b (dHr d + i) = false := hp
          simp only [hp']
          simp (disch := omega) only [n_lit, n_le, n_lt, n_eq, n_in, n_ckt, n_ix, n_mul, n_add, n_sub, n_div, n_rem, n_b01, n_isb, n_lt0, n_le0, Option.bind_some, if_pos, if_neg, ge_iff_le, gt_iff_lt, Nat.zero_add, Nat.add_zero, n_neg1, n_neg4, if_true, if_false, ite_true, ite_false, n_land1, not_true_eq_false, not_false_eq_true]
          simp [show ¬ nI 0 = nI 1 by decide]
        · unfold f_X6_floats_b29
          rw [e15, nI_add, sp_floating r1 hd hC (by omega)]
          simp only [Option.bind_some]
          have hl : ww_bits (fun b => ww_flt s d b (dHr d + i)) (sNb s) < 2 ^ 31 := Nat.lt_trans (bt_lt _ _) (Nat.pow_lt_pow_right (by omega) (by omega))
          rw [ww_bit (by omega) hl, bt_test]
          have hp' : ww_flt s d b (dHr d + i) = true := hp
          simp only [hp']
          simp (disch := omega) only [n_lit, n_le, n_lt, n_eq, n_in, n_ckt, n_ix, n_mul, n_add, n_sub, n_div, n_rem, n_b01, n_isb, n_lt0, n_le0, Option.bind_some, if_pos, if_neg, ge_iff_le, gt_iff_lt, Nat.zero_add, Nat.add_zero, n_neg1, n_neg4, if_true, if_false, ite_true, ite_false, n_land1, not_true_eq_false, not_false_eq_true]
          simp [hb]
        · unfold f_X6_floats_b29
          rfl
      · unfold f_X7_floats_j34 f_X7_floats_j82
        have key := ww_it_first (f := f_X7_floats_b34 σ 62 (nI b)) (fun i => nI (dHr d + i)) (fun i => ww_flt s d b (dHr d + i)) 60 (by omega) (fun i => Sum.inr (nI (dHr d + i))) (Sum.inl ()) (fun i hi hp => ?_) (fun i hi hp => ?_) ?_
        · rw [Nat.add_zero] at key
          simp only [if_neg (show ¬ (false = true) by decide), if_neg (show ¬ (nI 0 = nI 1) by decide), e45, key, Option.bind_some]
          by_cases q : fa_first (fun i => ww_flt s d b (dHr d + i)) 60 < 60
          · simp only [if_pos q]; rfl
          · simp only [if_neg q]; rfl
        · unfold f_X7_floats_b34
          rw [show σ (62 + 1) = σ 63 from rfl, show σ (62 + 3) = σ 65 from rfl]
          simp (disch := omega) only [n_lit, n_le, n_lt, n_eq, n_in, n_ckt, n_ix, n_mul, n_add, n_sub, n_div, n_rem, n_b01, n_isb, n_lt0, n_le0, Option.bind_some, if_pos, if_neg, ge_iff_le, gt_iff_lt, Nat.zero_add, Nat.add_zero, n_neg1, n_neg4, if_true, if_false, ite_true, ite_false, n_land1, not_true_eq_false, not_false_eq_true, e45, (hM.2.2.2.2 b hb).1, (hM.2.2.2.2 b hb).2, sm_floatsIn r1 hd hM hD (h := dHr d + i) (a := sHd s b) (n := sPt s b)]
          have hp' : ww_flA s d (sHd s b) (sPt s b) (dHr d + i) = false := hp
          rw [hp']
          simp [Nat.add_assoc]
        · unfold f_X7_floats_b34
          rw [show σ (62 + 1) = σ 63 from rfl, show σ (62 + 3) = σ 65 from rfl]
          simp (disch := omega) only [n_lit, n_le, n_lt, n_eq, n_in, n_ckt, n_ix, n_mul, n_add, n_sub, n_div, n_rem, n_b01, n_isb, n_lt0, n_le0, Option.bind_some, if_pos, if_neg, ge_iff_le, gt_iff_lt, Nat.zero_add, Nat.add_zero, n_neg1, n_neg4, if_true, if_false, ite_true, ite_false, n_land1, not_true_eq_false, not_false_eq_true, e45, (hM.2.2.2.2 b hb).1, (hM.2.2.2.2 b hb).2, sm_floatsIn r1 hd hM hD (h := dHr d + i) (a := sHd s b) (n := sPt s b)]
          have hp' : ww_flA s d (sHd s b) (sPt s b) (dHr d + i) = true := hp
          rw [hp']
          simp
        · unfold f_X7_floats_b34
          rw [show σ (62 + 1) = σ 63 from rfl, e45]
          simp (disch := omega) only [n_lit, n_le, n_lt, n_eq, n_in, n_ckt, n_ix, n_mul, n_add, n_sub, n_div, n_rem, n_b01, n_isb, n_lt0, n_le0, Option.bind_some, if_pos, if_neg, ge_iff_le, gt_iff_lt, Nat.zero_add, Nat.add_zero, n_neg1, n_neg4, if_true, if_false, ite_true, ite_false, n_land1, not_true_eq_false, not_false_eq_true]
    · exact ⟨_, s, d, rfl, rfl, h0⟩
  · rw [if_pos c, if_pos c]
    exact ⟨_, s, d, rfl, rfl, h0⟩
