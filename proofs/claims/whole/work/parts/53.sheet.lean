theorem ww_Rel_sheets {k : Nat} {σ τ : ww_M} {s : ww_S} {d : ww_D1} (h : ww_Rel k σ s d) (hc : ∀ a, a < 54 → τ a = σ a) (hc2 : ∀ a, 62 ≤ a → a < 77 → τ a = σ a) (hSh : ∀ j, j < 4 → ww_RSh (τ (54 + 2 * j) 1) (τ (54 + 2 * j) 2) (τ (55 + 2 * j)) (τ 77 j) (τ 78 j) (fun i => τ 79 (40 * j + i))) : ww_Rel (k + 1) τ s d := by
  have h0 := h
  obtain ⟨r1, r2, r3, r4, r5, r6, r7, r8, r9, r10, r11, r12, r13⟩ := h
  refine ww_Rel_rest h0 (fun a q1 q2 => hc a (by omega)) (by rw [hc 0 (by omega)]) (by rw [hc 48 (by omega)]) (by rw [hc 49 (by omega)]) (by rw [hc2 62 (by omega) (by omega)]; exact ⟨rfl, rfl, rfl⟩) ⟨hc2 _ (by omega) (by omega), hc2 _ (by omega) (by omega), hc2 _ (by omega) (by omega), hc2 _ (by omega) (by omega), hc2 _ (by omega) (by omega), hc2 _ (by omega) (by omega)⟩ (by rw [hc 1 (by omega), hc2 62 (by omega) (by omega), hc 2 (by omega), hc2 69 (by omega) (by omega)]; exact r6) (by rw [hc 3 (by omega), hc2 62 (by omega) (by omega)]; exact r7) (by rw [hc 45 (by omega), hc 46 (by omega), hc 47 (by omega), hc2 62 (by omega) (by omega), hc2 75 (by omega) (by omega)]; exact r8) hSh (by rw [hc 0 (by omega), hc2 62 (by omega) (by omega)]; exact r12)
theorem sm_sheetfill {j : Nat} (hj : j < 4) (p2 p3 : Int32) (τ : ww_M) : ww_it (f_X7_sheet_b56 62 (nI j) p2 p3) ww_F (nI 0, τ) = some (ww_upr τ 79 (fb_put (τ 79) (fun _ => nI 0) (40 * j) 40)) := by
  have key := ww_it_for (f := f_X7_sheet_b56 62 (nI j) p2 p3) (fun i => (nI i, ww_upr τ 79 (fb_put (τ 79) (fun _ => nI 0) (40 * j) i))) 40 (r := ww_upr τ 79 (fb_put (τ 79) (fun _ => nI 0) (40 * j) 40)) (by omega) (fun i hi => ?_) ?_
  · have e : ww_upr τ 79 (fb_put (τ 79) (fun _ => nI 0) (40 * j) 0) = τ := by
      rw [fb_put_0]
      funext a b
      by_cases c : a = 79
      · subst c; rw [ww_upr_eq]
      · rw [ww_upr_ne c]
    simp only [e] at key
    exact key
  · unfold f_X7_sheet_b56
    simp (disch := omega) only [n_lit, n_le, n_lt, n_eq, n_in, n_ckt, n_ix, n_mul, n_add, n_sub, n_div, n_rem, n_b01, n_isb, n_lt0, n_le0, Option.bind_some, if_pos, if_neg, ge_iff_le, gt_iff_lt, Nat.zero_add, Nat.add_zero, n_neg1, n_neg4, if_true, if_false, ite_true, ite_false, n_land1, not_true_eq_false, not_false_eq_true]
    rw [← fb_put_succ (τ 79) (fun _ => nI 0) (40 * j) i]
    have e : ww_up (ww_upr τ 79 (fb_put (τ 79) (fun _ => nI 0) (40 * j) i)) (62 + 17) (40 * j + i) (nI 0) = ww_upr τ 79 (upd (fb_put (τ 79) (fun x => nI 0) (40 * j) i) (40 * j + i) (nI 0)) := by
      funext a b
      by_cases c : a = 79
      · subst c; rw [ww_up_eq, ww_upr_eq, ww_upr_eq]
      · rw [ww_up_ne c, ww_upr_ne c, ww_upr_ne c]
    rw [e]
  · unfold f_X7_sheet_b56
    simp (disch := omega) only [n_lit, n_le, n_lt, n_eq, n_in, n_ckt, n_ix, n_mul, n_add, n_sub, n_div, n_rem, n_b01, n_isb, n_lt0, n_le0, Option.bind_some, if_pos, if_neg, ge_iff_le, gt_iff_lt, Nat.zero_add, Nat.add_zero, n_neg1, n_neg4, if_true, if_false, ite_true, ite_false, n_land1, not_true_eq_false, not_false_eq_true]
theorem st_sheet {k : Nat} {σ : ww_M} {s : ww_S} {d : ww_D1} (hk : k < 64) (h : ww_Rel k σ s d) (p1 p2 p3 : Int32) : ∃ (v : Int32) (σ1 : ww_M) (σ2 : ww_M) (s2 : ww_S) (d2 : ww_D1), f_X6_sheet σ p1 p2 p3 = some (v, σ1) ∧ f_X7_sheet σ1 62 p1 p2 p3 = some (v, σ2) ∧ ww_Rel (k + 1) σ2 s2 d2 := by
  have h0 := h
  obtain ⟨r1, r2, r3, r4, r5, r6, r7, r8, r9, r10, r11, r12, r13⟩ := h
  unfold f_X6_sheet f_X7_sheet
  simp only [ww_within, Option.bind_some, ww_b01, ww_inI (a := 0) (b := 3) 0 3 rfl rfl, ww_inI (a := 0) (b := 2) 0 2 rfl rfl]
  by_cases c : 0 ≤ p1 ∧ p1 ≤ 3
  · obtain ⟨j, -, hj, rfl⟩ := ww_btw (a := 0) (b := 3) (by omega) c (by omega)
    have hcc : ¬ ¬ (0 ≤ nI j ∧ nI j ≤ 3) := fun q => q c
    simp only [if_neg hcc]
    by_cases c2 : 0 ≤ p2 ∧ p2 ≤ 2
    · obtain ⟨t, -, ht, rfl⟩ := ww_btw (a := 0) (b := 2) (by omega) c2 (by omega)
      have hcc2 : ¬ ¬ (0 ≤ nI t ∧ nI t ≤ 2) := fun q => q c2
      simp only [if_neg hcc2]
      by_cases c3 : p3 ≤ 40
      · simp only [if_pos c3]
        by_cases c4 : 0 ≤ p3
        · simp only [if_pos c4]
          obtain ⟨n, -, hn, rfl⟩ := ww_btw (a := 0) (b := 40) (by omega) ⟨c4, c3⟩ (by omega)
          unfold f_X1_renew f_X7_sheet_j56 f_X7_sheet_j82
          simp only [n_in (show j < 4 by omega) (by omega), n_ckt, n_ix (show j < 2147483648 by omega), Option.bind_some, n_lit, sm_sheetfill (show j < 4 by omega)]
          refine ⟨_, _, _, s, d, rfl, rfl, ?_⟩
          refine ww_Rel_sheets h0 (fun a ha => by simp (disch := omega) only [ww_up_ne, ww_up_eq, ww_upr_ne, ww_upr_eq, ww_fill_ne, ww_fill_eq, ww_cpy_ne, ww_cpy_eq, pk_us, pk_un, ne_eq, not_false_eq_true]) (fun a q1 q2 => by simp (disch := omega) only [ww_up_ne, ww_up_eq, ww_upr_ne, ww_upr_eq, ww_fill_ne, ww_fill_eq, ww_cpy_ne, ww_cpy_eq, pk_us, pk_un, ne_eq, not_false_eq_true]) (fun i hi => ?_)
          by_cases e : i = j
          · subst e
            refine Or.inr ⟨n, t, hn, ht, by simp (disch := omega) only [ww_up_ne, ww_up_eq, ww_upr_ne, ww_upr_eq, ww_fill_ne, ww_fill_eq, ww_cpy_ne, ww_cpy_eq, pk_us, pk_un, ne_eq, not_false_eq_true], by simp (disch := omega) only [ww_up_ne, ww_up_eq, ww_upr_ne, ww_upr_eq, ww_fill_ne, ww_fill_eq, ww_cpy_ne, ww_cpy_eq, pk_us, pk_un, ne_eq, not_false_eq_true], by simp (disch := omega) only [ww_up_ne, ww_up_eq, ww_upr_ne, ww_upr_eq, ww_fill_ne, ww_fill_eq, ww_cpy_ne, ww_cpy_eq, pk_us, pk_un, ne_eq, not_false_eq_true], by simp (disch := omega) only [ww_up_ne, ww_up_eq, ww_upr_ne, ww_upr_eq, ww_fill_ne, ww_fill_eq, ww_cpy_ne, ww_cpy_eq, pk_us, pk_un, ne_eq, not_false_eq_true], fun x hx => ?_⟩
            simp only [show 55 + 2 * i = 54 + 2 * i + 1 by omega]
            simp (disch := omega) only [ww_up_ne, ww_up_eq, ww_upr_ne, ww_upr_eq, ww_fill_ne, ww_fill_eq, ww_cpy_ne, ww_cpy_eq, pk_us, pk_un, ne_eq, not_false_eq_true, if_pos, fb_put_in]
          · have hR := r11 i hi
            simp (disch := omega) only [ww_up_ne, ww_up_eq, ww_upr_ne, ww_upr_eq, ww_fill_ne, ww_fill_eq, ww_cpy_ne, ww_cpy_eq, pk_us, pk_un, ne_eq, not_false_eq_true]
            rcases hR with q | ⟨n1, t1, q1, q2, q3, q4, q5, q6, q7⟩
            · exact Or.inl q
            · refine Or.inr ⟨n1, t1, q1, q2, q3, q4, q5, q6, fun x hx => ?_⟩
              simp (disch := omega) only [ww_up_ne, ww_up_eq, ww_upr_ne, ww_upr_eq, ww_fill_ne, ww_fill_eq, ww_cpy_ne, ww_cpy_eq, pk_us, pk_un, ne_eq, not_false_eq_true, fb_put_out]
              exact q7 x hx
        · simp only [if_neg c4]
          exact ⟨-14, σ, σ, s, d, rfl, rfl, ww_Rel_up h0⟩
      · simp only [if_neg c3]
        exact ⟨-1, σ, σ, s, d, rfl, rfl, ww_Rel_up h0⟩
    · simp only [if_pos c2]
      exact ⟨-1, σ, σ, s, d, rfl, rfl, ww_Rel_up h0⟩
  · simp only [if_pos c]
    exact ⟨-1, σ, σ, s, d, rfl, rfl, ww_Rel_up h0⟩
