/-! ===== the class: what its planner loads ===== -/
theorem ww_CL1_fr {σ τ : ww_M} {o : Nat} {s : ww_S} {d : ww_D1} (h : ww_CL1 σ o s d) (he : ∀ a, o ≤ a → a < o + 10 → τ a = σ a) : ww_CL1 τ o s d := ⟨h.1, h.2.1, ww_ClsA_ext h.2.2 he⟩
def pc_N (τ : ww_M) (q : Nat → Bool) : Prop := τ 48 4 = nI (fb_ct q 9) ∧ ∀ j, j < fb_ct q 9 → τ 50 j = nI (ls_sl q j)
theorem ls_cd_at {q : Nat → Bool} {f : Nat → Nat} {i : Nat} (hi : i < 9) (hq : q i = true) : ls_cd (fun j => f (ls_sl q j)) (fb_ct q (i + 1)) = ls_cd (fun j => f (ls_sl q j)) (fb_ct q i) + f i * 4 ^ fb_ct q i := by
  rw [fb_ct_succ, if_pos hq]
  show ls_cd _ _ + f (ls_sl q (fb_ct q i)) * _ = _
  rw [ls_of hi hq]
theorem sp_loadParts {σ : ww_M} {s : ww_S} {d : ww_D1} {wo : Nat} {p2 : Int32} (h : ww_CL1 σ 4 s d) (hp : ∀ b, b < 3 → (nI b = p2 ↔ b = wo)) : ∃ τ, f_X0_loadParts σ 48 4 p2 = some τ ∧ pc_N τ (pl_qc s d wo) ∧ τ 48 7 = nI (ls_cd (fun j => pl_wk d (ls_sl (pl_qc s d wo) j)) (fb_ct (pl_qc s d wo) 9)) ∧ (∀ a, a ≠ 48 → a ≠ 50 → τ a = σ a) ∧ (∀ j, j ≠ 4 → j ≠ 7 → τ 48 j = σ 48 j) := by
  have hs := h.1
  have h6 := pl_qc6 hs d wo
  have hf : ∀ i, pl_qc s d wo i = true → pl_wk d i ≤ 3 := fun i hq => pl_wk3 h.2.1 (pl_q_iff.mp (pl_qc_iff.mp hq).1).1
  have key := ww_it_inv (f := f_X0_loadParts_b12 48 4 p2) (x0 := (0, ww_up (ww_up σ 48 4 0) 48 7 0)) (fun i x => x.1 = nI i ∧ x.2 48 4 = nI (fb_ct (pl_qc s d wo) i) ∧ x.2 48 7 = nI (ls_cd (fun j => pl_wk d (ls_sl (pl_qc s d wo) j)) (fb_ct (pl_qc s d wo) i)) ∧ (∀ y, y < i → pl_qc s d wo y = true → x.2 50 (fb_ct (pl_qc s d wo) y) = nI y) ∧ (∀ a, a ≠ 48 → a ≠ 50 → x.2 a = σ a) ∧ (∀ j, j ≠ 4 → j ≠ 7 → x.2 48 j = σ 48 j)) (fun τ => τ 48 4 = nI (fb_ct (pl_qc s d wo) 9) ∧ τ 48 7 = nI (ls_cd (fun j => pl_wk d (ls_sl (pl_qc s d wo) j)) (fb_ct (pl_qc s d wo) 9)) ∧ (∀ y, y < 9 → pl_qc s d wo y = true → τ 50 (fb_ct (pl_qc s d wo) y) = nI y) ∧ (∀ a, a ≠ 48 → a ≠ 50 → τ a = σ a) ∧ (∀ j, j ≠ 4 → j ≠ 7 → τ 48 j = σ 48 j)) 9 (by omega) ⟨rfl, by dsimp only; rw [ww_up_eq, pk_un (by omega), ww_up_eq, pk_us]; rfl, by dsimp only; rw [ww_up_eq, pk_us]; rfl, fun y hy => absurd hy (Nat.not_lt_zero y), fun a h1 h2 => by dsimp only; rw [ww_up_ne h1, ww_up_ne h1], fun j h1 h2 => by dsimp only; rw [ww_up_eq, pk_un h2, ww_up_eq, pk_un h1]⟩ (fun i hi x hx => ?_) (fun x hx => ?_)
  · obtain ⟨τ, k1, k2, k3, k4, k5, k6⟩ := key
    refine ⟨τ, ?_, ⟨k2, fun j hj => ?_⟩, k3, k5, k6⟩
    · unfold f_X0_loadParts f_X0_loadParts_j12 f_X0_loadParts_j124
      rw [k1]; rfl
    · obtain ⟨a1, a2, a3⟩ := ls_in hj
      have := k4 _ a1 a2
      rw [a3] at this
      exact this
  · obtain ⟨i0, τ⟩ := x
    dsimp only at hx
    obtain ⟨rfl, k2, k3, k4, k5, k6⟩ := hx
    have hC : ww_CL1 τ 4 s d := ww_CL1_fr h (fun a h1 h2 => k5 a (by omega) (by omega))
    have hS := sp_hasSlot hC hi
    have hL := sp_isLost hC.2.2 (b := i / 3) (by omega)
    refine Or.inl ?_
    have hno : pl_qc s d wo i = false → (nI (i + 1), τ).1 = nI (i + 1) ∧ τ 48 4 = nI (fb_ct (pl_qc s d wo) (i + 1)) ∧ τ 48 7 = nI (ls_cd (fun j => pl_wk d (ls_sl (pl_qc s d wo) j)) (fb_ct (pl_qc s d wo) (i + 1))) ∧ (∀ y, y < i + 1 → pl_qc s d wo y = true → τ 50 (fb_ct (pl_qc s d wo) y) = nI y) ∧ (∀ a, a ≠ 48 → a ≠ 50 → τ a = σ a) ∧ (∀ j, j ≠ 4 → j ≠ 7 → τ 48 j = σ 48 j) := fun e => by
      have e1 : fb_ct (pl_qc s d wo) (i + 1) = fb_ct (pl_qc s d wo) i := by rw [fb_ct_succ, e]; rfl
      rw [e1]
      refine ⟨rfl, k2, k3, fun y hy hv => ?_, k5, k6⟩
      by_cases e2 : y = i
      · subst e2; rw [e] at hv; exact absurd hv (by decide)
      · exact k4 y (by omega) hv
    have hz : f_X0_loadParts_j50 τ 48 4 p2 (nI i) = some (.inl (nI (i + 1), τ)) := by
      unfold f_X0_loadParts_j50 f_X0_loadParts_j51
      rw [if_pos rfl, show nI i + 1 = nI (i + 1) from nI_1 i]
    cases hv : ww_vld s (i / 3) (i % 3)
    · refine ⟨(nI (i + 1), τ), ?_, hno (by simp [pl_qc, pl_q, hv])⟩
      unfold f_X0_loadParts_b12
      simp only [hS, hv]
      simp (disch := omega) only [n_lit, n_le, n_lt, n_eq, n_in, n_ckt, n_ix, n_mul, n_add, n_sub, n_div, n_rem, n_b01, n_isb, n_lt0, n_le0, Option.bind_some, if_pos, if_neg, ge_iff_le, gt_iff_lt, Nat.zero_add, Nat.add_zero, n_neg1, n_neg4, if_true, if_false, ite_true, ite_false, n_land1, not_true_eq_false, not_false_eq_true]
      simp [hz]
    · have a6 := ww_vld_iff.mp hv
      have hw3 := (hC.2.1.2.2.2.2.2.2.2.1 _ a6.1 _ a6.2).2.1
      have e7 := (hC.2.2.2.2.2.2.2.1 _ a6.1 _ a6.2).2.1
      rw [Nat.div_add_mod] at e7
      have e7' : τ 11 i = nI (dWk d (i / 3) (i % 3)) := e7
      have hpi := hp (i / 3) (by omega)
      cases hl : dLost d (i / 3)
      · by_cases e : i / 3 = wo
        · refine ⟨(nI (i + 1), τ), ?_, hno (by simp [pl_qc, pl_q, e])⟩
          have hpe := hpi.mpr e
          unfold f_X0_loadParts_b12
          simp only [hS, hv]
          simp (disch := omega) only [n_lit, n_le, n_lt, n_eq, n_in, n_ckt, n_ix, n_mul, n_add, n_sub, n_div, n_rem, n_b01, n_isb, n_lt0, n_le0, Option.bind_some, if_pos, if_neg, ge_iff_le, gt_iff_lt, Nat.zero_add, Nat.add_zero, n_neg1, n_neg4, if_true, if_false, ite_true, ite_false, n_land1, not_true_eq_false, not_false_eq_true, hL, hl]
          simp [hpe, hz]
        · have hpe : ¬ nI (i / 3) = p2 := fun z => e (hpi.mp z)
          by_cases w : 0 < dWk d (i / 3) (i % 3)
          · have hqi : pl_qc s d wo i = true := by simp [pl_qc, pl_q, hv, e, hl, w]
            have hcl : fb_ct (pl_qc s d wo) i < 6 := Nat.lt_of_lt_of_le (ls_lt_ct hqi hi) h6
            have hcd := ls_cd_at (q := pl_qc s d wo) (f := pl_wk d) hi hqi
            have hor := ls_cd_or (f := fun j => pl_wk d (ls_sl (pl_qc s d wo) j)) (j := fb_ct (pl_qc s d wo) i) (fun y hy => hf _ (ls_in (Nat.lt_trans hy (ls_lt_ct hqi hi))).2.1)
            have e1 : fb_ct (pl_qc s d wo) (i + 1) = fb_ct (pl_qc s d wo) i + 1 := by rw [fb_ct_succ, if_pos hqi]
            simp only [ls_of hi hqi] at hor
            have hsh := sm_shlw hcl (hf i hqi)
            refine ⟨(nI (i + 1), ww_up (ww_up (ww_up τ 50 (fb_ct (pl_qc s d wo) i) (nI i)) 48 7 (nI (ls_cd (fun j => pl_wk d (ls_sl (pl_qc s d wo) j)) (fb_ct (pl_qc s d wo) i + 1)))) 48 4 (nI (fb_ct (pl_qc s d wo) i + 1))), ?_, rfl, ?_, ?_, ?_, ?_, ?_⟩
            · have hsh' : ww_shl (nI (dWk d (i / 3) (i % 3))) (nI (2 * fb_ct (pl_qc s d wo) i)) = nI (pl_wk d i * 4 ^ fb_ct (pl_qc s d wo) i) := hsh
              unfold f_X0_loadParts_b12
              simp only [hS, hv]
              simp (disch := omega) only [n_lit, n_le, n_lt, n_eq, n_in, n_ckt, n_ix, n_mul, n_add, n_sub, n_div, n_rem, n_b01, n_isb, n_lt0, n_le0, Option.bind_some, if_pos, if_neg, ge_iff_le, gt_iff_lt, Nat.zero_add, Nat.add_zero, n_neg1, n_neg4, if_true, if_false, ite_true, ite_false, n_land1, not_true_eq_false, not_false_eq_true, hL, hl]
              try simp only [hpe, if_false]
              try simp only [Bool.false_eq_true, if_false, if_true]
              unfold f_X0_loadParts_j51
              simp only [show (48 + 2 : Nat) = 50 from rfl, show (4 + 7 : Nat) = 11 from rfl]
              simp (disch := omega) only [ww_up_ne, ww_up_eq, ww_upr_ne, ww_upr_eq, ww_fill_ne, ww_fill_eq, ww_cpy_ne, ww_cpy_eq, pk_us, pk_un, ne_eq, not_false_eq_true, k2, k3, e7']
              simp (disch := omega) only [n_lit, n_le, n_lt, n_eq, n_in, n_ckt, n_ix, n_mul, n_add, n_sub, n_div, n_rem, n_b01, n_isb, n_lt0, n_le0, Option.bind_some, if_pos, if_neg, ge_iff_le, gt_iff_lt, Nat.zero_add, Nat.add_zero, n_neg1, n_neg4, if_true, if_false, ite_true, ite_false, n_land1, not_true_eq_false, not_false_eq_true, e7', hsh', hor]
            · dsimp only
              rw [ww_up_eq, pk_us, e1]
            · dsimp only
              rw [ww_up_eq, pk_un (by omega), ww_up_eq, pk_us, e1]
            · intro y hy hvy
              dsimp only
              rw [ww_up_ne (by omega), ww_up_ne (by omega), ww_up_eq]
              by_cases e2 : y = i
              · subst e2; exact pk_us
              · have := ls_lt_ct hvy (show y < i by omega)
                rw [pk_un (by omega)]
                exact k4 y (by omega) hvy
            · intro a h1 h2
              dsimp only
              rw [ww_up_ne h1, ww_up_ne h1, ww_up_ne h2]; exact k5 a h1 h2
            · intro j h1 h2
              dsimp only
              rw [ww_up_eq, pk_un h1, ww_up_eq, pk_un h2, ww_up_ne (by omega)]; exact k6 j h1 h2
          · refine ⟨(nI (i + 1), τ), ?_, hno (by simp [pl_qc, w])⟩
            unfold f_X0_loadParts_b12
            simp only [hS, hv]
            simp (disch := omega) only [n_lit, n_le, n_lt, n_eq, n_in, n_ckt, n_ix, n_mul, n_add, n_sub, n_div, n_rem, n_b01, n_isb, n_lt0, n_le0, Option.bind_some, if_pos, if_neg, ge_iff_le, gt_iff_lt, Nat.zero_add, Nat.add_zero, n_neg1, n_neg4, if_true, if_false, ite_true, ite_false, n_land1, not_true_eq_false, not_false_eq_true, hL, hl]
            try simp only [hpe, if_false]
            try simp only [Bool.false_eq_true, if_false, if_true]
            unfold f_X0_loadParts_j51
            simp only [show (4 + 7 : Nat) = 11 from rfl]
            simp (disch := omega) only [n_lit, n_le, n_lt, n_eq, n_in, n_ckt, n_ix, n_mul, n_add, n_sub, n_div, n_rem, n_b01, n_isb, n_lt0, n_le0, Option.bind_some, if_pos, if_neg, ge_iff_le, gt_iff_lt, Nat.zero_add, Nat.add_zero, n_neg1, n_neg4, if_true, if_false, ite_true, ite_false, n_land1, not_true_eq_false, not_false_eq_true, e7']
      · refine ⟨(nI (i + 1), τ), ?_, hno (by simp [pl_qc, hl])⟩
        unfold f_X0_loadParts_b12
        simp only [hS, hv]
        simp (disch := omega) only [n_lit, n_le, n_lt, n_eq, n_in, n_ckt, n_ix, n_mul, n_add, n_sub, n_div, n_rem, n_b01, n_isb, n_lt0, n_le0, Option.bind_some, if_pos, if_neg, ge_iff_le, gt_iff_lt, Nat.zero_add, Nat.add_zero, n_neg1, n_neg4, if_true, if_false, ite_true, ite_false, n_land1, not_true_eq_false, not_false_eq_true, hL, hl]
        simp [hz]
  · obtain ⟨i0, τ⟩ := x
    dsimp only at hx
    obtain ⟨rfl, k2⟩ := hx
    refine ⟨τ, ?_, k2⟩
    unfold f_X0_loadParts_b12
    simp (disch := omega) only [n_lit, n_le, n_lt, n_eq, n_in, n_ckt, n_ix, n_mul, n_add, n_sub, n_div, n_rem, n_b01, n_isb, n_lt0, n_le0, Option.bind_some, if_pos, if_neg, ge_iff_le, gt_iff_lt, Nat.zero_add, Nat.add_zero, n_neg1, n_neg4, if_true, if_false, ite_true, ite_false, n_land1, not_true_eq_false, not_false_eq_true]
theorem sp_placeOf {τ : ww_M} {s : ww_S} {d : ww_D1} {i : Nat} (h : ww_CL1 τ 4 s d) (hv : ww_vld s (i / 3) (i % 3) = true) : f_X2_placeOf τ 4 (nI i) = some (nI (sHd s (i / 3) + i % 3)) := by
  have h3 := ww_vld3 h.1 hv
  have a6 := ww_vld_iff.mp hv
  have e4 : τ 8 (i / 3) = nI (sHd s (i / 3)) := (h.2.2.2.2.2.2.1 _ a6.1).1
  unfold f_X2_placeOf
  simp only [show (4 + 4 : Nat) = 8 from rfl]
  simp (disch := omega) only [n_lit, n_le, n_lt, n_eq, n_in, n_ckt, n_ix, n_mul, n_add, n_sub, n_div, n_rem, n_b01, n_isb, n_lt0, n_le0, Option.bind_some, if_pos, if_neg, ge_iff_le, gt_iff_lt, Nat.zero_add, Nat.add_zero, n_neg1, n_neg4, if_true, if_false, ite_true, ite_false, n_land1, not_true_eq_false, not_false_eq_true, e4]
theorem sp_loadHour {τ : ww_M} {s : ww_S} {d : ww_D1} {wo k : Nat} (h : ww_CL1 τ 4 s d) (hN : pc_N τ (pl_qc s d wo)) (hk : k < 6) : f_X0_loadHour τ 48 4 (nI k) (nI (ww_bits (fun i => ww_wet s d i (dHr d + k)) (sNp s))) (nI (ww_bits (fun b => pl_fl s d b (k + 1)) (sNb s))) = some (ww_up τ 51 k (nI (ww_bits (fun j => pl_ab s d k (ls_sl (pl_qc s d wo) j)) (fb_ct (pl_qc s d wo) 9)))) := by
  have hs := h.1
  have h6 := pl_qc6 hs d wo
  have hnp := hs.1
  have hnb := hs.2.2.2.1
  have key := ww_it_for (f := f_X0_loadHour_b10 48 4 (nI k) (nI (ww_bits (fun i => ww_wet s d i (dHr d + k)) (sNp s))) (nI (ww_bits (fun b => pl_fl s d b (k + 1)) (sNb s)))) (fun j => (nI j, ww_up τ 51 k (nI (ww_bits (fun j => pl_ab s d k (ls_sl (pl_qc s d wo) j)) j)))) (fb_ct (pl_qc s d wo) 9) (r := ww_up τ 51 k (nI (ww_bits (fun j => pl_ab s d k (ls_sl (pl_qc s d wo) j)) (fb_ct (pl_qc s d wo) 9)))) (by omega) (fun j hj => ?_) ?_
  · have key' : ww_it (f_X0_loadHour_b10 48 4 (nI k) (nI (ww_bits (fun i => ww_wet s d i (dHr d + k)) (sNp s))) (nI (ww_bits (fun b => pl_fl s d b (k + 1)) (sNb s)))) ww_F (0, ww_up τ 51 k 0) = _ := key
    unfold f_X0_loadHour f_X0_loadHour_j10 f_X0_loadHour_j97
    simp only [show (48 + 3 : Nat) = 51 from rfl]
    rw [ww_ck_t (ww_in_n hk (by omega)), ww_ix_n (by omega), key']
    rfl
  · obtain ⟨a1, a2, a3⟩ := ls_in hj
    have a4 := pl_qc_iff.mp a2
    have a7 := (pl_q_iff.mp a4.1).1
    have a5 := ww_vld_iff.mp a7
    have a6 := hs.2.2.2.2.2.1 _ a5.1
    have hCu : ww_CL1 (ww_up τ 51 k (nI (ww_bits (fun j => pl_ab s d k (ls_sl (pl_qc s d wo) j)) j))) 4 s d := ww_CL1_fr h (fun a h1 h2 => ww_up_ne (by omega))
    have hP := sp_placeOf hCu a7
    have e50 := hN.2 j hj
    have hW := bt_31 (fun i => ww_wet s d i (dHr d + k)) hnp
    have hG := bt_31 (fun b => pl_fl s d b (k + 1)) (show sNb s ≤ 6 by omega)
    have b1 := ww_bit (a := ww_bits (fun i => ww_wet s d i (dHr d + k)) (sNp s)) (i := sHd s (ls_sl (pl_qc s d wo) j / 3) + ls_sl (pl_qc s d wo) j % 3) (by omega) (by omega)
    rw [bt_test, decide_eq_true (show sHd s (ls_sl (pl_qc s d wo) j / 3) + ls_sl (pl_qc s d wo) j % 3 < sNp s by omega), Bool.true_and] at b1
    have b2 := ww_bit (a := ww_bits (fun b => pl_fl s d b (k + 1)) (sNb s)) (i := ls_sl (pl_qc s d wo) j / 3) (by omega) (by omega)
    rw [bt_test, decide_eq_true (show ls_sl (pl_qc s d wo) j / 3 < sNb s from a5.1), Bool.true_and] at b2
    rw [show (1 : Int32) = nI 1 from rfl, show (0 : Int32) = nI 0 from rfl] at b1 b2
    have hab : pl_ab s d k (ls_sl (pl_qc s d wo) j) = (!pl_fl s d (ls_sl (pl_qc s d wo) j / 3) (k + 1) && !ww_wet s d (sHd s (ls_sl (pl_qc s d wo) j / 3) + ls_sl (pl_qc s d wo) j % 3) (dHr d + k)) := by
      unfold pl_ab
      rw [a7, a4.2.1]
      rfl
    have e2 := bt_or (fun j => pl_ab s d k (ls_sl (pl_qc s d wo) j)) j
    simp only [hab] at e2
    unfold f_X0_loadHour_b10 f_X0_loadHour_j42 f_X0_loadHour_j66
    simp only [ww_up_ne (show (48 : Nat) ≠ 51 by decide), ww_up_ne (show (48 + 2 : Nat) ≠ 51 by decide), show τ (48 + 2) = τ 50 from rfl, show (48 + 3 : Nat) = 51 from rfl, hN.1, ww_up_eq, pk_us, ww_up_twice]
    simp (disch := omega) only [n_lit, n_le, n_lt, n_eq, n_in, n_ckt, n_ix, n_mul, n_add, n_sub, n_div, n_rem, n_b01, n_isb, n_lt0, n_le0, Option.bind_some, if_pos, if_neg, ge_iff_le, gt_iff_lt, Nat.zero_add, Nat.add_zero, n_neg1, n_neg4, if_true, if_false, ite_true, ite_false, n_land1, not_true_eq_false, not_false_eq_true, e50, hP, b1, b2, ww_up_twice]
    cases c1 : ww_wet s d (sHd s (ls_sl (pl_qc s d wo) j / 3) + ls_sl (pl_qc s d wo) j % 3) (dHr d + k)
    · cases c2 : pl_fl s d (ls_sl (pl_qc s d wo) j / 3) (k + 1)
      · simp only [c1, c2, Bool.not_false, Bool.and_self, if_true] at e2
        simp [show ww_shl (nI 1) (nI j) = nI (2 ^ j) from ww_shl1 (by omega), pk_us, ww_up_twice, fa_or, hab, e2]
      · simp only [c1, c2, Bool.not_false, Bool.not_true, Bool.and_self, Bool.false_and, Bool.false_eq_true, if_false, Nat.or_zero] at e2
        simp [hab, e2]
    · cases c2 : pl_fl s d (ls_sl (pl_qc s d wo) j / 3) (k + 1)
      · simp only [c1, c2, Bool.not_false, Bool.not_true, Bool.and_self, Bool.and_false, Bool.false_eq_true, if_false, Nat.or_zero] at e2
        simp [hab, e2]
      · simp only [c1, c2, Bool.not_false, Bool.not_true, Bool.and_self, Bool.and_false, Bool.false_eq_true, if_false, Nat.or_zero] at e2
        simp [hab, e2]
  · unfold f_X0_loadHour_b10
    simp only [ww_up_ne (show (48 : Nat) ≠ 51 by decide), hN.1]
    simp (disch := omega) only [n_lit, n_le, n_lt, n_eq, n_in, n_ckt, n_ix, n_mul, n_add, n_sub, n_div, n_rem, n_b01, n_isb, n_lt0, n_le0, Option.bind_some, if_pos, if_neg, ge_iff_le, gt_iff_lt, Nat.zero_add, Nat.add_zero, n_neg1, n_neg4, if_true, if_false, ite_true, ite_false, n_land1, not_true_eq_false, not_false_eq_true]
theorem sp_gains {τ : ww_M} {s : ww_S} {d : ww_D1} {wo k rot : Nat} {p2 p4 x5 : Int32} (h : ww_CL1 τ 4 s d) (hN : pc_N τ (pl_qc s d wo)) (hk : k < 6) (hr1 : 1 ≤ rot) (hr9 : rot ≤ 9) : ∃ ν, ww_it (f_X0_load_b88 48 4 p2 (nI rot) p4 x5 (nI k) (nI (dHr d + k))) ww_F (0, τ) = some ν ∧ (∀ j, j < fb_ct (pl_qc s d wo) 9 → ν 52 (6 * k + j) = nI (pl_g s d rot k (ls_sl (pl_qc s d wo) j))) ∧ (∀ a, a ≠ 52 → ν a = τ a) ∧ ∀ i, i < 6 * k → ν 52 i = τ 52 i := by
  have hs := h.1
  have h6 := pl_qc6 hs d wo
  have hhr := h.2.1.2.2.2.2.2.1
  refine ww_it_inv (f := f_X0_load_b88 48 4 p2 (nI rot) p4 x5 (nI k) (nI (dHr d + k))) (x0 := (0, τ)) (fun i x => x.1 = nI i ∧ (∀ j, j < i → x.2 52 (6 * k + j) = nI (pl_g s d rot k (ls_sl (pl_qc s d wo) j))) ∧ (∀ a, a ≠ 52 → x.2 a = τ a) ∧ ∀ i, i < 6 * k → x.2 52 i = τ 52 i) (fun ν => (∀ j, j < fb_ct (pl_qc s d wo) 9 → ν 52 (6 * k + j) = nI (pl_g s d rot k (ls_sl (pl_qc s d wo) j))) ∧ (∀ a, a ≠ 52 → ν a = τ a) ∧ ∀ i, i < 6 * k → ν 52 i = τ 52 i) (fb_ct (pl_qc s d wo) 9) (by omega) ⟨rfl, fun j hj => absurd hj (Nat.not_lt_zero j), fun a _ => rfl, fun i _ => rfl⟩ (fun i hi x hx => ?_) (fun x hx => ?_)
  · obtain ⟨x1, ν⟩ := x
    dsimp only at hx
    obtain ⟨rfl, k2, k3, k4⟩ := hx
    obtain ⟨a1, a2, a3⟩ := ls_in hi
    have a7 := (pl_q_iff.mp (pl_qc_iff.mp a2).1).1
    have hC : ww_CL1 ν 4 s d := ww_CL1_fr h (fun a h1 h2 => k3 a (by omega))
    have hw := sp_worthIn hC a7 (h := dHr d + k) (by omega) hr1 hr9
    rw [Nat.div_add_mod] at hw
    have e50 := hN.2 i hi
    have eg : pl_g s d rot k (ls_sl (pl_qc s d wo) i) = ww_wor d (ls_sl (pl_qc s d wo) i / 3) (ls_sl (pl_qc s d wo) i % 3) (dHr d + k) rot := by
      unfold pl_g; rw [if_pos a7]
    refine Or.inl ⟨(nI (i + 1), ww_up ν 52 (6 * k + i) (nI (pl_g s d rot k (ls_sl (pl_qc s d wo) i)))), ?_, rfl, ?_, ?_, ?_⟩
    · unfold f_X0_load_b88
      simp only [k3 48 (by omega), k3 (48 + 2) (by omega), show τ (48 + 2) = τ 50 from rfl, show (48 + 4 : Nat) = 52 from rfl, hN.1]
      simp (disch := omega) only [n_lit, n_le, n_lt, n_eq, n_in, n_ckt, n_ix, n_mul, n_add, n_sub, n_div, n_rem, n_b01, n_isb, n_lt0, n_le0, Option.bind_some, if_pos, if_neg, ge_iff_le, gt_iff_lt, Nat.zero_add, Nat.add_zero, n_neg1, n_neg4, if_true, if_false, ite_true, ite_false, n_land1, not_true_eq_false, not_false_eq_true, e50, hw, eg, Nat.mul_comm k 6]
    · intro j hj
      show ww_up ν 52 (6 * k + i) _ 52 (6 * k + j) = _
      rw [ww_up_eq]
      by_cases e : j = i
      · subst e; exact pk_us
      · rw [pk_un (by omega)]; exact k2 j (by omega)
    · intro a ha
      show ww_up ν 52 (6 * k + i) _ a = _
      rw [ww_up_ne ha]; exact k3 a ha
    · intro j hj
      show ww_up ν 52 (6 * k + i) _ 52 j = _
      rw [ww_up_eq, pk_un (by omega)]; exact k4 j hj
  · obtain ⟨x1, ν⟩ := x
    dsimp only at hx
    obtain ⟨rfl, k2, k3, k4⟩ := hx
    refine ⟨ν, ?_, k2, k3, k4⟩
    unfold f_X0_load_b88
    simp only [k3 48 (by omega), hN.1]
    simp (disch := omega) only [n_lit, n_le, n_lt, n_eq, n_in, n_ckt, n_ix, n_mul, n_add, n_sub, n_div, n_rem, n_b01, n_isb, n_lt0, n_le0, Option.bind_some, if_pos, if_neg, ge_iff_le, gt_iff_lt, Nat.zero_add, Nat.add_zero, n_neg1, n_neg4, if_true, if_false, ite_true, ite_false, n_land1, not_true_eq_false, not_false_eq_true]
def pc_A (τ : ww_M) (s : ww_S) (d : ww_D1) (rot wo n : Nat) : Prop := ∀ k, k < n → τ 51 k = nI (ww_bits (fun j => pl_ab s d k (ls_sl (pl_qc s d wo) j)) (fb_ct (pl_qc s d wo) 9)) ∧ ∀ j, j < fb_ct (pl_qc s d wo) 9 → τ 52 (6 * k + j) = nI (pl_g s d rot k (ls_sl (pl_qc s d wo) j))
theorem sp_hours {σ : ww_M} {s : ww_S} {d : ww_D1} {rot wo n : Nat} {p4 : Int32} (h : ww_CL1 σ 4 s d) (hN : pc_N σ (pl_qc s d wo)) (hn : n ≤ 6) (h5 : σ 48 5 = nI n) (hr1 : 1 ≤ rot) (hr9 : rot ≤ 9) : ∃ τ, ww_it (f_X0_load_b41 48 4 (nI n) (nI rot) p4) ww_F (0, 0, σ) = some τ ∧ pc_A τ s d rot wo n ∧ ∀ a, a ≠ 51 → a ≠ 52 → τ a = σ a := by
  have hs := h.1
  have hd := h.2.1
  have hhr := h.2.1.2.2.2.2.2.1
  have h6 := pl_qc6 hs d wo
  refine ww_it_inv (f := f_X0_load_b41 48 4 (nI n) (nI rot) p4) (x0 := (0, 0, σ)) (fun k x => x.1 = nI (ww_bits (fun b => pl_fl s d b k) (sNb s)) ∧ x.2.1 = nI k ∧ pc_A x.2.2 s d rot wo k ∧ ∀ a, a ≠ 51 → a ≠ 52 → x.2.2 a = σ a) (fun τ => pc_A τ s d rot wo n ∧ ∀ a, a ≠ 51 → a ≠ 52 → τ a = σ a) n (by omega) ⟨?_, rfl, fun k hk => absurd hk (Nat.not_lt_zero k), fun a _ _ => rfl⟩ (fun k hk x hx => ?_) (fun x hx => ?_)
  · show (0 : Int32) = nI _
    have : ww_bits (fun b => pl_fl s d b 0) (sNb s) = 0 := bt_eq (fun i => by rw [bt_test]; simp [pl_fl])
    rw [this]; rfl
  · obtain ⟨x1, x2, τ⟩ := x
    dsimp only at hx
    obtain ⟨rfl, rfl, k3, k4⟩ := hx
    have hC : ww_CL1 τ 4 s d := ww_CL1_fr h (fun a h1 h2 => k4 a (by omega) (by omega))
    have hNt : pc_N τ (pl_qc s d wo) := by
      unfold pc_N
      rw [k4 48 (by omega) (by omega), k4 50 (by omega) (by omega)]; exact hN
    have hfl := sp_floating hs hd hC.2.2 (h := dHr d + k) (by omega)
    have hwt := sp_wetPlaces hs hd hC.2.2 (h := dHr d + k) (by omega)
    have hlh := sp_loadHour (k := k) hC hNt (by omega)
    have hor : nI (ww_bits (fun b => pl_fl s d b k) (sNb s)) ||| nI (ww_bits (fun b => ww_flt s d b (dHr d + k)) (sNb s)) = nI (ww_bits (fun b => pl_fl s d b (k + 1)) (sNb s)) := by
      rw [fa_or, bt_or2]; rfl
    have hC2 : ww_CL1 (ww_up τ 51 k (nI (ww_bits (fun j => pl_ab s d k (ls_sl (pl_qc s d wo) j)) (fb_ct (pl_qc s d wo) 9)))) 4 s d := ww_CL1_fr hC (fun a h1 h2 => ww_up_ne (by omega))
    have hN2 : pc_N (ww_up τ 51 k (nI (ww_bits (fun j => pl_ab s d k (ls_sl (pl_qc s d wo) j)) (fb_ct (pl_qc s d wo) 9)))) (pl_qc s d wo) := by
      unfold pc_N
      rw [ww_up_ne (by omega), ww_up_ne (by omega)]; exact hNt
    obtain ⟨ν, g1, g2, g3, g4⟩ := sp_gains (p2 := nI n) (p4 := p4) (x5 := nI (ww_bits (fun b => pl_fl s d b (k + 1)) (sNb s))) hC2 hN2 (show k < 6 by omega) hr1 hr9
    have e15 : τ 4 15 = nI (dHr d) := hC.2.2.2.1.2.2.2.1
    refine Or.inl ⟨(nI (ww_bits (fun b => pl_fl s d b (k + 1)) (sNb s)), nI (k + 1), ν), ?_, rfl, rfl, ?_, ?_⟩
    · rw [show (0 : Int32) = nI 0 from rfl] at g1
      unfold f_X0_load_b41 f_X0_load_j88 f_X0_load_j130
      simp only [k4 48 (by omega) (by omega), h5, e15]
      simp (disch := omega) only [n_lit, n_le, n_lt, n_eq, n_in, n_ckt, n_ix, n_mul, n_add, n_sub, n_div, n_rem, n_b01, n_isb, n_lt0, n_le0, Option.bind_some, if_pos, if_neg, ge_iff_le, gt_iff_lt, Nat.zero_add, Nat.add_zero, n_neg1, n_neg4, if_true, if_false, ite_true, ite_false, n_land1, not_true_eq_false, not_false_eq_true, hfl, hwt, hor, hlh, g1]
    · intro k' hk'
      by_cases e : k' = k
      · subst e
        refine ⟨?_, g2⟩
        show ν 51 k' = _
        rw [g3 51 (by omega), ww_up_eq, pk_us]
      · obtain ⟨z1, z2⟩ := k3 k' (by omega)
        refine ⟨?_, fun j hj => ?_⟩
        · show ν 51 k' = _
          rw [g3 51 (by omega), ww_up_eq, pk_un e]; exact z1
        · show ν 52 _ = _
          rw [g4 _ (by omega), ww_up_ne (by omega)]; exact z2 j hj
    · intro a h1 h2
      show ν a = _
      rw [g3 a h2, ww_up_ne h1]; exact k4 a h1 h2
  · obtain ⟨x1, x2, τ⟩ := x
    dsimp only at hx
    obtain ⟨rfl, rfl, k3, k4⟩ := hx
    refine ⟨τ, ?_, k3, k4⟩
    unfold f_X0_load_b41
    simp only [k4 48 (by omega) (by omega), h5]
    simp (disch := omega) only [n_lit, n_le, n_lt, n_eq, n_in, n_ckt, n_ix, n_mul, n_add, n_sub, n_div, n_rem, n_b01, n_isb, n_lt0, n_le0, Option.bind_some, if_pos, if_neg, ge_iff_le, gt_iff_lt, Nat.zero_add, Nat.add_zero, n_neg1, n_neg4, if_true, if_false, ite_true, ite_false, n_land1, not_true_eq_false, not_false_eq_true]
abbrev pc_L (τ : ww_M) (s : ww_S) (d : ww_D1) (rot wo n : Nat) : Prop := ww_CL1 τ 4 s d ∧ pc_N τ (pl_qc s d wo) ∧ pc_A τ s d rot wo n ∧ τ 48 5 = nI n ∧ τ 48 6 = nI (dGng d) ∧ n ≤ 6
theorem sp_load {σ : ww_M} {s : ww_S} {d : ww_D1} {rot wo n : Nat} {p4 : Int32} (h : ww_CL1 σ 4 s d) (hn : n ≤ 6) (hr1 : 1 ≤ rot) (hr9 : rot ≤ 9) (hp : ∀ b, b < 3 → (nI b = p4 ↔ b = wo)) : ∃ τ, f_X0_load σ 48 4 (nI n) (nI rot) p4 = some τ ∧ pc_L τ s d rot wo n ∧ τ 48 7 = nI (ls_cd (fun j => pl_wk d (ls_sl (pl_qc s d wo) j)) (fb_ct (pl_qc s d wo) 9)) ∧ τ 48 8 = σ 48 8 + 1 ∧ (∀ a, a < 48 ∨ 53 ≤ a ∨ a = 49 → τ a = σ a) := by
  have h14 : σ 4 14 = nI (dGng d) := h.2.2.2.1.2.2.1
  have hmin : ww_min (nI n) 6 = nI n := by
    unfold ww_min
    rw [if_neg (show ¬ (6 : Int32) < nI n from nI_nlt (a := 6) (by omega) (by omega))]
  have hC1 : ww_CL1 (ww_up (ww_up (ww_up σ 48 8 (σ 48 8 + 1)) 48 5 (nI n)) 48 6 (nI (dGng d))) 4 s d := ww_CL1_fr h (fun a h1 h2 => by rw [ww_up_ne (by omega), ww_up_ne (by omega), ww_up_ne (by omega)])
  obtain ⟨τ1, a1, a2, a3, a4, a5⟩ := sp_loadParts (p2 := p4) hC1 hp
  have hC2 : ww_CL1 τ1 4 s d := ww_CL1_fr hC1 (fun a h1 h2 => a4 a (by omega) (by omega))
  have h5 : τ1 48 5 = nI n := by
    rw [a5 5 (by omega) (by omega), ww_up_eq, pk_un (by omega), ww_up_eq, pk_us]
  obtain ⟨τ2, b1, b2, b3⟩ := sp_hours (p4 := p4) hC2 a2 hn h5 hr1 hr9
  have e48 : τ2 48 = τ1 48 := b3 48 (by omega) (by omega)
  refine ⟨τ2, ?_, ⟨ww_CL1_fr hC2 (fun a h1 h2 => b3 a (by omega) (by omega)), ?_, b2, ?_, ?_, hn⟩, ?_, ?_, ?_⟩
  · unfold f_X0_load f_X0_load_j41 f_X0_load_j136
    rw [hmin, ww_up_ne (show (4 : Nat) ≠ 48 by decide), ww_up_ne (show (4 : Nat) ≠ 48 by decide), h14, a1]
    simp only [Option.bind_some, b1]
  · unfold pc_N
    rw [e48, b3 50 (by omega) (by omega)]; exact a2
  · rw [e48]; exact h5
  · rw [e48, a5 6 (by omega) (by omega), ww_up_eq, pk_us]
  · rw [e48]; exact a3
  · rw [e48, a5 8 (by omega) (by omega), ww_up_eq, pk_un (by omega), ww_up_eq, pk_un (by omega), ww_up_eq, pk_us]
  · intro a ha
    rw [b3 a (by omega) (by omega), a4 a (by omega) (by omega), ww_up_ne (by omega), ww_up_ne (by omega), ww_up_ne (by omega)]
