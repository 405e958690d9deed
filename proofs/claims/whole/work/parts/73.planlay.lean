/-! ===== the model: what can be worked, hour by hour ===== -/
theorem sm_lay2 {σ : ww_M} {s : ww_S} {d : ww_D1} {p1 p2 : Int32} (h : ww_MO1 σ s d) : ww_it (f_X7_layParts_b60 σ 62 p1 p2) ww_F (0, 0) = some (nI (ww_bits (dLost d) (sNb s))) := by
  obtain ⟨hs, hd, hM, hD⟩ := h
  have hnb := hs.2.2.2.1
  refine ww_it_for (f := f_X7_layParts_b60 σ 62 p1 p2) (fun b => (nI (ww_bits (dLost d) b), nI b)) (sNb s) (r := nI (ww_bits (dLost d) (sNb s))) (by omega) (fun b hb => ?_) ?_
  · unfold f_X7_layParts_b60
    simp only [show σ (62 + 1) = σ 63 from rfl]
    simp (disch := omega) only [n_lit, n_le, n_lt, n_eq, n_in, n_ckt, n_ix, n_mul, n_add, n_sub, n_div, n_rem, n_b01, n_isb, n_lt0, n_le0, Option.bind_some, if_pos, if_neg, ge_iff_le, gt_iff_lt, Nat.zero_add, Nat.add_zero, n_neg1, n_neg4, if_true, if_false, ite_true, ite_false, n_land1, not_true_eq_false, not_false_eq_true, hM.2.2.1, sm_lost hD (show b < 3 by omega)]
    rw [← bt_or, ← fa_or]
    cases dLost d b
    · have e : ww_shl (nI 0) (nI b) = nI 0 := by
        have := ww_shlN (a := 0) (i := b) (by omega) (by omega)
        rw [Nat.zero_mul] at this
        exact this
      simp [e]
    · simp [show ww_shl (nI 1) (nI b) = nI (2 ^ b) from ww_shl1 (by omega)]
  · unfold f_X7_layParts_b60
    simp (disch := omega) only [n_lit, n_le, n_lt, n_eq, n_in, n_ckt, n_ix, n_mul, n_add, n_sub, n_div, n_rem, n_b01, n_isb, n_lt0, n_le0, Option.bind_some, if_pos, if_neg, ge_iff_le, gt_iff_lt, Nat.zero_add, Nat.add_zero, n_neg1, n_neg4, if_true, if_false, ite_true, ite_false, n_land1, not_true_eq_false, not_false_eq_true, hM.2.2.1]
theorem sm_lay3a {σ : ww_M} {s : ww_S} {d : ww_D1} {p1 p2 x4 : Int32} {H : Nat} (h : ww_MO1 σ s d) (hH : H < 100000) (p : Nat → Bool) : ww_it (f_X7_layParts_b123 σ 62 p1 p2 x4 (nI H)) ww_F (nI (ww_bits p (sNb s)), 0) = some (nI (ww_bits (fun b => p b || ww_flt s d b H) (sNb s))) := by
  obtain ⟨hs, hd, hM, hD⟩ := h
  have hnb := hs.2.2.2.1
  have key := ww_it_for (f := f_X7_layParts_b123 σ 62 p1 p2 x4 (nI H)) (fun b => (nI (ww_bits (fun b' => p b' || (decide (b' < b) && ww_flt s d b' H)) (sNb s)), nI b)) (sNb s) (r := nI (ww_bits (fun b => p b || ww_flt s d b H) (sNb s))) (by omega) (fun b hb => ?_) ?_
  · have e0 : ww_bits (fun b' => p b' || (decide (b' < 0) && ww_flt s d b' H)) (sNb s) = ww_bits p (sNb s) := bt_cong (fun i _ => by simp)
    simp only [e0] at key
    exact key
  · have h6 := hs.2.2.2.2.2.1 b hb
    have e1 := (hM.2.2.2.2 b hb).1
    have e2 := (hM.2.2.2.2 b hb).2
    unfold f_X7_layParts_b123
    simp only [show σ (62 + 3) = σ 65 from rfl]
    simp (disch := omega) only [n_lit, n_le, n_lt, n_eq, n_in, n_ckt, n_ix, n_mul, n_add, n_sub, n_div, n_rem, n_b01, n_isb, n_lt0, n_le0, Option.bind_some, if_pos, if_neg, ge_iff_le, gt_iff_lt, Nat.zero_add, Nat.add_zero, n_neg1, n_neg4, if_true, if_false, ite_true, ite_false, n_land1, not_true_eq_false, not_false_eq_true, hM.2.2.1, e1, e2, sm_floatsIn hs hd hM hD hH h6.2.2]
    rw [← ww_flt_A]
    cases c : ww_flt s d b H
    · have e : ww_bits (fun b' => p b' || (decide (b' < b + 1) && ww_flt s d b' H)) (sNb s) = ww_bits (fun b' => p b' || (decide (b' < b) && ww_flt s d b' H)) (sNb s) := bt_cong (fun i hi => by
        by_cases e : i = b
        · subst e; simp [c]
        · rw [show decide (i < b + 1) = decide (i < b) by congr 1; exact propext (by omega)])
      rw [e]
      simp [show ∀ a, nI a ||| nI 0 = nI a from fun a => by rw [fa_or, Nat.or_zero]]
    · have e : ww_bits (fun b' => p b' || (decide (b' < b + 1) && ww_flt s d b' H)) (sNb s) = ww_bits (fun b' => p b' || (decide (b' < b) && ww_flt s d b' H)) (sNb s) ||| 2 ^ b := by
        rw [bt_set _ hb]
        refine bt_cong (fun i hi => ?_)
        by_cases e : i = b
        · subst e; simp [c]
        · rw [show decide (i < b + 1) = decide (i < b) by congr 1; exact propext (by omega)]
          simp [e]
      rw [e, ← fa_or]
      simp [show ww_shl (nI 1) (nI b) = nI (2 ^ b) from ww_shl1 (by omega)]
  · unfold f_X7_layParts_b123
    simp (disch := omega) only [n_lit, n_le, n_lt, n_eq, n_in, n_ckt, n_ix, n_mul, n_add, n_sub, n_div, n_rem, n_b01, n_isb, n_lt0, n_le0, Option.bind_some, if_pos, if_neg, ge_iff_le, gt_iff_lt, Nat.zero_add, Nat.add_zero, n_neg1, n_neg4, if_true, if_false, ite_true, ite_false, n_land1, not_true_eq_false, not_false_eq_true, hM.2.2.1]
    congr 3
    exact bt_cong (fun i hi => by simp [hi])
def pm_N (τ : ww_M) (q : Nat → Bool) : Prop := τ 62 25 = nI (fb_ct q 9) ∧ ∀ j, j < fb_ct q 9 → τ 72 j = nI (pl_nu (ls_sl q j))
theorem pl_nu_dr {s : ww_S} (hs : ww_okS s) {i : Nat} (hv : ww_vld s (i / 3) (i % 3) = true) : nI (pl_nu i) / nI 10 = nI (i / 3) ∧ ww_rem (nI (pl_nu i)) (nI 10) = nI (i % 3) := by
  have h3 := ww_vld3 hs hv
  obtain ⟨g1, g2⟩ := ww_dr10 (n := pl_nu i) (by unfold pl_nu; omega)
  rw [show pl_nu i / 10 = i / 3 by unfold pl_nu; omega] at g1
  rw [show pl_nu i % 10 = i % 3 by unfold pl_nu; omega] at g2
  exact ⟨g1, g2⟩
theorem sm_lay3b {σ : ww_M} {s : ww_S} {d : ww_D1} {p1 p2 : Int32} {h wo : Nat} (hM1 : ww_MO1 σ s d) (hN : pm_N σ (pl_q s wo)) (hh : h < 7) : ww_it (f_X7_layParts_b181 62 p1 p2 (nI (ww_bits (fun b => dLost d b || pl_fl s d b (h + 1)) (sNb s))) (nI h) (nI (dHr d + h))) ww_F (0, ww_up σ 74 h 0) = some (ww_up σ 74 h (nI (ww_bits (fun j => pl_ab s d h (ls_sl (pl_q s wo) j)) (fb_ct (pl_q s wo) 9)))) := by
  have hM0 := hM1
  obtain ⟨hs, hd, hM, hD⟩ := hM1
  have h6 := pl_q6 hs wo
  have hnb := hs.2.2.2.1
  have hnp := hs.1
  have hhr := hd.2.2.2.2.2.1
  refine ww_it_for (f := f_X7_layParts_b181 62 p1 p2 (nI (ww_bits (fun b => dLost d b || pl_fl s d b (h + 1)) (sNb s))) (nI h) (nI (dHr d + h))) (fun j => (nI j, ww_up σ 74 h (nI (ww_bits (fun j => pl_ab s d h (ls_sl (pl_q s wo) j)) j)))) (fb_ct (pl_q s wo) 9) (r := ww_up σ 74 h (nI (ww_bits (fun j => pl_ab s d h (ls_sl (pl_q s wo) j)) (fb_ct (pl_q s wo) 9)))) (by omega) (fun j hj => ?_) ?_
  · obtain ⟨a1, a2, a3⟩ := ls_in hj
    have a4 := pl_q_iff.mp a2
    have a5 := ww_vld_iff.mp a4.1
    have a6 := hs.2.2.2.2.2.1 _ a5.1
    obtain ⟨g1, g2⟩ := pl_nu_dr hs a4.1
    have e72 := hN.2 j hj
    have e65 := (hM.2.2.2.2 _ a5.1).1
    have hMx : ww_MO1 (ww_up σ 74 h (nI (ww_bits (fun j => pl_ab s d h (ls_sl (pl_q s wo) j)) j))) s d := ww_MO1_fr hM0 (by rw [ww_up_ne (by omega)]) (by rw [ww_up_ne (by omega)]) (by rw [ww_up_ne (by omega)]) (ww_up_ne (by omega)) (ww_up_ne (by omega)) (ww_up_ne (by omega))
    have hw := sm_isWet hs hd hMx.2.2.1 hMx.2.2.2 (h := dHr d + h) (i := sHd s (ls_sl (pl_q s wo) j / 3) + ls_sl (pl_q s wo) j % 3) (by omega) (by omega)
    have hL : ww_bits (fun b => dLost d b || pl_fl s d b (h + 1)) (sNb s) < 64 := bt_31 _ (by omega)
    have hb := ww_bit (a := ww_bits (fun b => dLost d b || pl_fl s d b (h + 1)) (sNb s)) (i := ls_sl (pl_q s wo) j / 3) (by omega) (by omega)
    rw [bt_test, decide_eq_true (show ls_sl (pl_q s wo) j / 3 < sNb s from a5.1), Bool.true_and] at hb
    have hlt : ww_bits (fun j => pl_ab s d h (ls_sl (pl_q s wo) j)) (j + 1) < 64 := bt_31 _ (by omega)
    have hno : pl_ab s d h (ls_sl (pl_q s wo) j) = false → f_X7_layParts_j244 (ww_up σ 74 h (nI (ww_bits (fun j => pl_ab s d h (ls_sl (pl_q s wo) j)) j))) 62 p1 p2 (nI (ww_bits (fun b => dLost d b || pl_fl s d b (h + 1)) (sNb s))) (nI h) (nI (dHr d + h)) (nI j) = some (.inl (nI (j + 1), ww_up σ 74 h (nI (ww_bits (fun j => pl_ab s d h (ls_sl (pl_q s wo) j)) (j + 1))))) := fun e => by
      have e2 : ww_bits (fun j => pl_ab s d h (ls_sl (pl_q s wo) j)) (j + 1) = ww_bits (fun j => pl_ab s d h (ls_sl (pl_q s wo) j)) j := by
        rw [← bt_or]; simp [e]
      unfold f_X7_layParts_j244 f_X7_layParts_j245
      simp only [show ww_up σ 74 h (nI (ww_bits (fun j => pl_ab s d h (ls_sl (pl_q s wo) j)) j)) (62 + 12) = _ from ww_up_eq _ _ _ _]
      simp (disch := omega) only [n_lit, n_le, n_lt, n_eq, n_in, n_ckt, n_ix, n_mul, n_add, n_sub, n_div, n_rem, n_b01, n_isb, n_lt0, n_le0, Option.bind_some, if_pos, if_neg, ge_iff_le, gt_iff_lt, Nat.zero_add, Nat.add_zero, n_neg1, n_neg4, if_true, if_false, ite_true, ite_false, n_land1, not_true_eq_false, not_false_eq_true, pk_us, ww_up_twice, e2, fa_or, Nat.or_zero]
    have hyes : pl_ab s d h (ls_sl (pl_q s wo) j) = true → f_X7_layParts_j245 (ww_up σ 74 h (nI (ww_bits (fun j => pl_ab s d h (ls_sl (pl_q s wo) j)) j))) 62 p1 p2 (nI (ww_bits (fun b => dLost d b || pl_fl s d b (h + 1)) (sNb s))) (nI h) (nI (dHr d + h)) (nI j) 1 = some (.inl (nI (j + 1), ww_up σ 74 h (nI (ww_bits (fun j => pl_ab s d h (ls_sl (pl_q s wo) j)) (j + 1))))) := fun e => by
      have e2 : ww_bits (fun j => pl_ab s d h (ls_sl (pl_q s wo) j)) (j + 1) = ww_bits (fun j => pl_ab s d h (ls_sl (pl_q s wo) j)) j ||| 2 ^ j := by
        rw [← bt_or]; simp [e]
      unfold f_X7_layParts_j245
      simp only [show ww_up σ 74 h (nI (ww_bits (fun j => pl_ab s d h (ls_sl (pl_q s wo) j)) j)) (62 + 12) = _ from ww_up_eq _ _ _ _]
      simp (disch := omega) only [n_lit, n_le, n_lt, n_eq, n_in, n_ckt, n_ix, n_mul, n_add, n_sub, n_div, n_rem, n_b01, n_isb, n_lt0, n_le0, Option.bind_some, if_pos, if_neg, ge_iff_le, gt_iff_lt, Nat.zero_add, Nat.add_zero, n_neg1, n_neg4, if_true, if_false, ite_true, ite_false, n_land1, not_true_eq_false, not_false_eq_true, pk_us, ww_up_twice, e2, show ww_shl (nI 1) (nI j) = nI (2 ^ j) from ww_shl1 (by omega), fa_or]
    unfold f_X7_layParts_b181
    simp only [ww_up_ne (show (62 : Nat) ≠ 74 by decide), ww_up_ne (show (62 + 10 : Nat) ≠ 74 by decide), ww_up_ne (show (62 + 3 : Nat) ≠ 74 by decide), show σ (62 + 10) = σ 72 from rfl, show σ (62 + 3) = σ 65 from rfl, hN.1]
    simp (disch := omega) only [n_lit, n_le, n_lt, n_eq, n_in, n_ckt, n_ix, n_mul, n_add, n_sub, n_div, n_rem, n_b01, n_isb, n_lt0, n_le0, Option.bind_some, if_pos, if_neg, ge_iff_le, gt_iff_lt, Nat.zero_add, Nat.add_zero, n_neg1, n_neg4, if_true, if_false, ite_true, ite_false, n_land1, not_true_eq_false, not_false_eq_true, e72, g1, g2, e65, hw]
    rw [show (1 : Int32) = nI 1 from rfl] at hb hyes
    rw [show (0 : Int32) = nI 0 from rfl] at hb
    rw [hb]
    have n10 : ¬ nI 1 = nI 0 := by decide
    cases c1 : (dLost d (ls_sl (pl_q s wo) j / 3) || pl_fl s d (ls_sl (pl_q s wo) j / 3) (h + 1))
    · cases c2 : ww_wet s d (sHd s (ls_sl (pl_q s wo) j / 3) + ls_sl (pl_q s wo) j % 3) (dHr d + h)
      · have := hyes (by unfold pl_ab; rw [a4.1, c1, c2]; rfl)
        simp [this, n10]
      · have := hno (by unfold pl_ab; rw [a4.1, c1, c2]; rfl)
        simp [this, n10]
    · have := hno (by unfold pl_ab; rw [a4.1, c1]; rfl)
      simp [this, n10]
  · unfold f_X7_layParts_b181
    simp only [ww_up_ne (show (62 : Nat) ≠ 74 by decide), hN.1]
    simp (disch := omega) only [n_lit, n_le, n_lt, n_eq, n_in, n_ckt, n_ix, n_mul, n_add, n_sub, n_div, n_rem, n_b01, n_isb, n_lt0, n_le0, Option.bind_some, if_pos, if_neg, ge_iff_le, gt_iff_lt, Nat.zero_add, Nat.add_zero, n_neg1, n_neg4, if_true, if_false, ite_true, ite_false, n_land1, not_true_eq_false, not_false_eq_true]
def pm_A (τ : ww_M) (s : ww_S) (d : ww_D1) (q : Nat → Bool) (n : Nat) : Prop := ∀ h, h < n → τ 74 h = nI (ww_bits (fun j => pl_ab s d h (ls_sl q j)) (fb_ct q 9))
theorem sm_lay3 {σ : ww_M} {s : ww_S} {d : ww_D1} {p2 : Int32} {n wo : Nat} (hM : ww_MO1 σ s d) (hN : pm_N σ (pl_q s wo)) (hn : n ≤ 6) : ∃ τ, ww_it (f_X7_layParts_b94 62 (nI n) p2) ww_F (nI (ww_bits (dLost d) (sNb s)), 0, σ) = some τ ∧ pm_A τ s d (pl_q s wo) n ∧ ∀ a, a ≠ 74 → τ a = σ a := by
  have hhr := hM.2.1.2.2.2.2.2.1
  refine ww_it_inv (f := f_X7_layParts_b94 62 (nI n) p2) (fun h x => x.1 = nI (ww_bits (fun b => dLost d b || pl_fl s d b h) (sNb s)) ∧ x.2.1 = nI h ∧ pm_A x.2.2 s d (pl_q s wo) h ∧ ∀ a, a ≠ 74 → x.2.2 a = σ a) (fun τ => pm_A τ s d (pl_q s wo) n ∧ ∀ a, a ≠ 74 → τ a = σ a) n (by omega) ⟨?_, rfl, fun h hh => absurd hh (Nat.not_lt_zero h), fun a ha => rfl⟩ (fun h hh x hx => ?_) (fun x hx => ?_)
  · show nI _ = nI _
    congr 1
    exact bt_cong (fun i _ => by simp [pl_fl])
  · obtain ⟨x1, x2, τ⟩ := x
    dsimp only at hx
    obtain ⟨rfl, rfl, k3, k4⟩ := hx
    refine Or.inl ⟨(nI (ww_bits (fun b => dLost d b || pl_fl s d b (h + 1)) (sNb s)), nI (h + 1), ww_up τ 74 h (nI (ww_bits (fun j => pl_ab s d h (ls_sl (pl_q s wo) j)) (fb_ct (pl_q s wo) 9)))), ?_, rfl, rfl, ?_, ?_⟩
    · have hMt : ww_MO1 τ s d := ww_MO1_fr hM (by rw [k4 62 (by omega)]) (by rw [k4 62 (by omega)]) (by rw [k4 62 (by omega)]) (k4 63 (by omega)) (k4 64 (by omega)) (k4 65 (by omega))
      have hNt : pm_N τ (pl_q s wo) := by
        unfold pm_N
        rw [k4 62 (by omega), k4 72 (by omega)]; exact hN
      have hMu : ww_MO1 (ww_up τ 74 h 0) s d := ww_MO1_fr hMt (by rw [ww_up_ne (by omega)]) (by rw [ww_up_ne (by omega)]) (by rw [ww_up_ne (by omega)]) (ww_up_ne (by omega)) (ww_up_ne (by omega)) (ww_up_ne (by omega))
      have e45 : τ 63 45 = nI (dHr d) := hMt.2.2.2.1.2.2.2
      have l1 := sm_lay3a (p1 := nI n) (p2 := p2) (x4 := nI h) hMu (H := dHr d + h) (by omega) (fun b => dLost d b || pl_fl s d b h)
      have e1 : ww_bits (fun b => (dLost d b || pl_fl s d b h) || ww_flt s d b (dHr d + h)) (sNb s) = ww_bits (fun b => dLost d b || pl_fl s d b (h + 1)) (sNb s) := bt_cong (fun i _ => by simp [pl_fl, Bool.or_assoc])
      rw [e1] at l1
      have l2 := sm_lay3b (p1 := nI n) (p2 := p2) hMt hNt (h := h) (by omega)
      unfold f_X7_layParts_b94 f_X7_layParts_j123 f_X7_layParts_j178 f_X7_layParts_j181 f_X7_layParts_j276
      simp only [show τ (62 + 1) = τ 63 from rfl, e45, show (62 + 12 : Nat) = 74 from rfl]
      simp (disch := omega) only [n_lit, n_le, n_lt, n_eq, n_in, n_ckt, n_ix, n_mul, n_add, n_sub, n_div, n_rem, n_b01, n_isb, n_lt0, n_le0, Option.bind_some, if_pos, if_neg, ge_iff_le, gt_iff_lt, Nat.zero_add, Nat.add_zero, n_neg1, n_neg4, if_true, if_false, ite_true, ite_false, n_land1, not_true_eq_false, not_false_eq_true]
      rw [show (0 : Int32) = nI 0 from rfl] at l1 l2
      simp only [l1, Option.bind_some, l2]
    · intro h' hh'
      show ww_up τ 74 h _ 74 h' = _
      rw [ww_up_eq]
      by_cases e : h' = h
      · subst e; exact pk_us
      · rw [pk_un e]; exact k3 h' (by omega)
    · intro a ha
      show ww_up τ 74 h _ a = σ a
      rw [ww_up_ne ha]; exact k4 a ha
  · obtain ⟨x1, x2, τ⟩ := x
    dsimp only at hx
    obtain ⟨rfl, rfl, k3, k4⟩ := hx
    refine ⟨τ, ?_, k3, k4⟩
    unfold f_X7_layParts_b94
    simp (disch := omega) only [n_lit, n_le, n_lt, n_eq, n_in, n_ckt, n_ix, n_mul, n_add, n_sub, n_div, n_rem, n_b01, n_isb, n_lt0, n_le0, Option.bind_some, if_pos, if_neg, ge_iff_le, gt_iff_lt, Nat.zero_add, Nat.add_zero, n_neg1, n_neg4, if_true, if_false, ite_true, ite_false, n_land1, not_true_eq_false, not_false_eq_true]
theorem sm_layParts {σ : ww_M} {s : ww_S} {d : ww_D1} {p2 : Int32} {n wo : Nat} (hM : ww_MO1 σ s d) (hn : n ≤ 6) (hp : ∀ b, b < 3 → (nI b = p2 ↔ b = wo)) : ∃ τ, f_X7_layParts σ 62 (nI n) p2 = some τ ∧ pm_N τ (pl_q s wo) ∧ pm_A τ s d (pl_q s wo) n ∧ (∀ a, a ≠ 62 → a ≠ 72 → a ≠ 74 → τ a = σ a) ∧ ∀ j, j ≠ 25 → τ 62 j = σ 62 j := by
  obtain ⟨τ1, a1, a2, a3, a4, a5⟩ := sm_lay1 (p1 := nI n) hM hp
  have hM1 : ww_MO1 τ1 s d := ww_MO1_fr hM (a5 2 (by omega)) (a5 3 (by omega)) (a5 5 (by omega)) (a4 63 (by omega) (by omega)) (a4 64 (by omega) (by omega)) (a4 65 (by omega) (by omega))
  have hN1 : pm_N τ1 (pl_q s wo) := ⟨a2, a3⟩
  obtain ⟨τ2, b1, b2, b3⟩ := sm_lay3 (p2 := p2) hM1 hN1 hn
  refine ⟨τ2, ?_, ?_, b2, fun a h1 h2 h3 => by rw [b3 a h3]; exact a4 a h1 h2, fun j hj => by rw [b3 62 (by omega)]; exact a5 j hj⟩
  · unfold f_X7_layParts f_X7_layParts_j7 f_X7_layParts_j55 f_X7_layParts_j60 f_X7_layParts_j91 f_X7_layParts_j94 f_X7_layParts_j282
    simp only [a1, Option.bind_some, sm_lay2 hM1, b1]
  · unfold pm_N
    rw [b3 62 (by omega), b3 72 (by omega)]; exact hN1
