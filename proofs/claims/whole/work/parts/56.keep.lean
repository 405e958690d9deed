theorem st_keep {k : Nat} {σ : ww_M} {s : ww_S} {d : ww_D1} (hk : k < 64) (h : ww_Rel k σ s d) (p1 : Int32) : ∃ (v : Int32) (σ1 : ww_M) (σ2 : ww_M) (s2 : ww_S) (d2 : ww_D1), f_X6_keep σ p1 = some (v, σ1) ∧ f_X7_keep σ1 62 p1 = some (v, σ2) ∧ ww_Rel (k + 1) σ2 s2 d2 := by
  have h0 := h
  obtain ⟨r1, r2, r3, r4, r5, r6, r7, r8, ⟨n, q1, q2, q3⟩, ⟨kb, k1, k2, k3⟩, r11, r12, r13, r14⟩ := h
  unfold f_X6_keep f_X7_keep
  simp only [ww_within, Option.bind_some, ww_b01, ww_inI (a := 0) (b := 1) 0 1 rfl rfl]
  by_cases c : 0 ≤ p1 ∧ p1 ≤ 1
  · obtain ⟨j, -, hj, rfl⟩ := ww_btw (a := 0) (b := 1) (by omega) c (by omega)
    have hcc : ¬ ¬ (0 ≤ nI j ∧ nI j ≤ 1) := fun q => q c
    have m0 : ww_cp σ (25 + 10 * j) 4 0 5 = nI kb := by rw [ww_cp_ne (by omega)]; exact k2
    have e50 : (50 : Int32) * (nI j + 1) = nI (50 * (j + 1)) := by rw [nI_1]; exact pk_mul 50 _
    simp only [if_neg hcc, n_in (show j < 2 by omega) (by omega), n_ckt, n_ix (show j < 2147483648 by omega), ww_copyFrom, Option.bind_some, m0, k2, ww_bit (show j < 31 by omega) (show kb < 2 ^ 31 by omega), ww_shl1 (show j < 31 by omega), fa_or, e50]
    refine ⟨_, _, ww_up (ww_upr (ww_up (ww_cp σ (25 + 10 * j) 4) 0 5 (nI (kb ||| 2 ^ j))) 63 (fb_put (σ 63) (fun x => σ 63 (0 + x)) (50 * (j + 1)) 50)) 76 j 1, s, d, rfl, ?_, ?_⟩
    · rw [show (0 : Int32) = nI 0 from rfl, sm_copies (a := 0) (b := 50 * (j + 1)) (by omega) (by omega) (by omega)]
      have e63 : ww_up (ww_cp σ (25 + 10 * j) 4) 0 5 (nI (kb ||| 2 ^ j)) 63 = σ 63 := by rw [ww_up_ne (by omega), ww_cp_ne (by omega)]
      simp only [Option.bind_some, e63]
      have e76 : ww_upr (ww_up (ww_cp σ (25 + 10 * j) 4) 0 5 (nI (kb ||| 2 ^ j))) 63 (fb_put (σ 63) (fun k => σ 63 (0 + k)) (50 * (j + 1)) 50) (62 + 14) j = if kb.testBit j then 1 else 0 := by
        rw [ww_upr_ne (by omega), ww_up_ne (by omega), ww_cp_ne (by omega)]; exact (k3 j (by omega)).1
      rw [e76]
      cases kb.testBit j <;> rfl
    · refine ⟨r1, r2, ww_ClsA_ext r3 (fun a h1 h2 => ?_), ?_, ?_, ?_, ?_, ?_, ⟨n, by omega, ?_, ?_⟩, ⟨kb ||| 2 ^ j, ?_, ?_, fun i hi => ⟨?_, fun ht => ?_⟩⟩, fun i hi => ?_, ?_, ?_, ?_⟩
      · rw [ww_up_ne (by omega), ww_upr_ne (by omega), ww_up_ne (by omega), ww_cp_ne (by omega)]
      · simp (disch := omega) only [ww_up_ne, ww_up_eq, ww_upr_ne, ww_upr_eq, ww_fill_ne, ww_fill_eq, ww_cpy_ne, ww_cpy_eq, pk_us, pk_un, ne_eq, not_false_eq_true, ww_cp_ne]; exact r4
      · refine ww_ModD_page r1 r5 (fun x hx => ?_)
        simp (disch := omega) only [ww_up_ne, ww_up_eq, ww_upr_ne, ww_upr_eq, ww_fill_ne, ww_fill_eq, ww_cpy_ne, ww_cpy_eq, pk_us, pk_un, ne_eq, not_false_eq_true, fb_put_out]
      · simp (disch := omega) only [ww_up_ne, ww_up_eq, ww_upr_ne, ww_upr_eq, ww_fill_ne, ww_fill_eq, ww_cpy_ne, ww_cpy_eq, pk_us, pk_un, ne_eq, not_false_eq_true, ww_cp_ne]; exact r6
      · simp (disch := omega) only [ww_up_ne, ww_up_eq, ww_upr_ne, ww_upr_eq, ww_fill_ne, ww_fill_eq, ww_cpy_ne, ww_cpy_eq, pk_us, pk_un, ne_eq, not_false_eq_true, ww_cp_ne]; exact r7
      · simp (disch := omega) only [ww_up_ne, ww_up_eq, ww_upr_ne, ww_upr_eq, ww_fill_ne, ww_fill_eq, ww_cpy_ne, ww_cpy_eq, pk_us, pk_un, ne_eq, not_false_eq_true, ww_cp_ne]; exact r8
      · simp (disch := omega) only [ww_up_ne, ww_up_eq, ww_upr_ne, ww_upr_eq, ww_fill_ne, ww_fill_eq, ww_cpy_ne, ww_cpy_eq, pk_us, pk_un, ne_eq, not_false_eq_true, ww_cp_ne]; exact q2
      · simp (disch := omega) only [ww_up_ne, ww_up_eq, ww_upr_ne, ww_upr_eq, ww_fill_ne, ww_fill_eq, ww_cpy_ne, ww_cpy_eq, pk_us, pk_un, ne_eq, not_false_eq_true, ww_cp_ne]; exact q3
      · have : 2 ^ j < 2 ^ 2 := Nat.pow_lt_pow_right (by omega) (by omega)
        exact Nat.or_lt_two_pow (n := 2) (by omega) this
      · simp (disch := omega) only [ww_up_ne, ww_up_eq, ww_upr_ne, ww_upr_eq, ww_fill_ne, ww_fill_eq, ww_cpy_ne, ww_cpy_eq, pk_us, pk_un, ne_eq, not_false_eq_true]
      · rw [fb_bit_set]
        by_cases e : i = j
        · subst e; simp (disch := omega) only [ww_up_ne, ww_up_eq, ww_upr_ne, ww_upr_eq, ww_fill_ne, ww_fill_eq, ww_cpy_ne, ww_cpy_eq, pk_us, pk_un, ne_eq, not_false_eq_true]; simp
        · simp (disch := omega) only [ww_up_ne, ww_up_eq, ww_upr_ne, ww_upr_eq, ww_fill_ne, ww_fill_eq, ww_cpy_ne, ww_cpy_eq, pk_us, pk_un, ne_eq, not_false_eq_true, ww_cp_ne]
          simp [e]; exact (k3 i hi).1
      · rw [fb_bit_set] at ht
        by_cases e : i = j
        · subst e
          refine ⟨d, r2, ww_ClsA_ext (ww_cp_cls (o0 := 25 + 10 * i) (o1 := 4) r1 (by omega) r3) (fun a h1 h2 => by simp (disch := omega) only [ww_up_ne, ww_up_eq, ww_upr_ne, ww_upr_eq, ww_fill_ne, ww_fill_eq, ww_cpy_ne, ww_cpy_eq, pk_us, pk_un, ne_eq, not_false_eq_true]), ww_ModD_page r1 r5 (fun x hx => ?_)⟩
          simp (disch := omega) only [ww_up_ne, ww_up_eq, ww_upr_ne, ww_upr_eq, ww_fill_ne, ww_fill_eq, ww_cpy_ne, ww_cpy_eq, pk_us, pk_un, ne_eq, not_false_eq_true, fb_put_in]
          congr 1
          omega
        · simp [e] at ht
          obtain ⟨d2, e1, e2, e3⟩ := (k3 i hi).2 ht
          refine ⟨d2, e1, ww_ClsA_ext e2 (fun a h1 h2 => by simp (disch := omega) only [ww_up_ne, ww_up_eq, ww_upr_ne, ww_upr_eq, ww_fill_ne, ww_fill_eq, ww_cpy_ne, ww_cpy_eq, pk_us, pk_un, ne_eq, not_false_eq_true, ww_cp_ne]), ww_ModD_ext r1 e3 (fun x h1 h2 => ?_)⟩
          simp (disch := omega) only [ww_up_ne, ww_up_eq, ww_upr_ne, ww_upr_eq, ww_fill_ne, ww_fill_eq, ww_cpy_ne, ww_cpy_eq, pk_us, pk_un, ne_eq, not_false_eq_true, fb_put_out]
      · simp (disch := omega) only [ww_up_ne, ww_up_eq, ww_upr_ne, ww_upr_eq, ww_fill_ne, ww_fill_eq, ww_cpy_ne, ww_cpy_eq, pk_us, pk_un, ne_eq, not_false_eq_true, ww_cp_ne]; exact r11 i hi
      · simp (disch := omega) only [ww_up_ne, ww_up_eq, ww_upr_ne, ww_upr_eq, ww_fill_ne, ww_fill_eq, ww_cpy_ne, ww_cpy_eq, pk_us, pk_un, ne_eq, not_false_eq_true, ww_cp_ne]; exact r12
      · simp (disch := omega) only [ww_up_ne, ww_up_eq, ww_upr_ne, ww_upr_eq, ww_fill_ne, ww_fill_eq, ww_cpy_ne, ww_cpy_eq, pk_us, pk_un, ne_eq, not_false_eq_true, ww_cp_ne]; exact r13
      · simp (disch := omega) only [ww_up_ne, ww_up_eq, ww_upr_ne, ww_upr_eq, ww_fill_ne, ww_fill_eq, ww_cpy_ne, ww_cpy_eq, pk_us, pk_un, ne_eq, not_false_eq_true, ww_cp_ne]; exact r14
  · simp only [if_pos c]
    exact ⟨-1, σ, σ, s, d, rfl, rfl, ww_Rel_up h0⟩
theorem st_back {k : Nat} {σ : ww_M} {s : ww_S} {d : ww_D1} (hk : k < 64) (h : ww_Rel k σ s d) (p1 : Int32) : ∃ (v : Int32) (σ1 : ww_M) (σ2 : ww_M) (s2 : ww_S) (d2 : ww_D1), f_X6_back σ p1 = some (v, σ1) ∧ f_X7_back σ1 62 p1 = some (v, σ2) ∧ ww_Rel (k + 1) σ2 s2 d2 := by
  have h0 := h
  obtain ⟨r1, r2, r3, r4, r5, r6, r7, r8, r9, ⟨kb, k1, k2, k3⟩, -⟩ := h
  unfold f_X6_back f_X7_back
  simp only [ww_within, Option.bind_some, ww_b01, ww_inI (a := 0) (b := 1) 0 1 rfl rfl]
  by_cases c : 0 ≤ p1 ∧ p1 ≤ 1
  · obtain ⟨j, -, hj, rfl⟩ := ww_btw (a := 0) (b := 1) (by omega) c (by omega)
    have hcc : ¬ ¬ (0 ≤ nI j ∧ nI j ≤ 1) := fun q => q c
    have e50 : (50 : Int32) * (nI j + 1) = nI (50 * (j + 1)) := by rw [nI_1]; exact pk_mul 50 _
    simp only [if_neg hcc, n_in (show j < 2 by omega) (by omega), n_ckt, n_ix (show j < 2147483648 by omega), ww_copyFrom, Option.bind_some, k2, ww_bit (show j < 31 by omega) (show kb < 2 ^ 31 by omega), e50, ww_b01]
    obtain ⟨g1, g2⟩ := k3 j (by omega)
    cases ht : kb.testBit j
    · rw [ht] at g1
      refine ⟨-2, σ, σ, s, d, rfl, ?_, ww_Rel_up h0⟩
      rw [show σ (62 + 14) j = 0 from g1]
      rfl
    · rw [ht] at g1
      obtain ⟨d2, e1, e2, e3⟩ := g2 ht
      have hcl := ww_cp_cls (o0 := 4) (o1 := 25 + 10 * j) r1 (by omega) e2
      have e63 : ww_cp σ 4 (25 + 10 * j) 63 = σ 63 := by rw [ww_cp_ne (by omega)]
      refine ⟨nI (dHr d2), ww_cp σ 4 (25 + 10 * j), ww_upr (ww_cp σ 4 (25 + 10 * j)) 63 (fb_put (σ 63) (fun x => σ 63 (50 * (j + 1) + x)) 0 50), s, d2, ?_, ?_, ?_⟩
      · rw [hcl.2.1.2.2.2.1]; rfl
      · rw [show ww_cp σ 4 (25 + 10 * j) (62 + 14) j = 1 from by rw [ww_cp_ne (by omega)]; exact g1, show (0 : Int32) = nI 0 from rfl, sm_copies (a := 50 * (j + 1)) (b := 0) (by omega) (by omega) (by omega), e63, if_neg (by decide)]
        simp only [Option.bind_some]
        rw [ww_upr_eq, fb_put_in (by omega) (by omega)]
        have := e3.1.2.2.2
        rw [show 50 * (j + 1) + (45 - 0) = 50 * (j + 1) + 45 by omega, this]
      · refine ww_Rel_shore h0 (fun a q1 q2 => ?_) (fun x q1 q2 => ?_) e1 (ww_ClsA_ext hcl (fun a q1 q2 => ?_)) ?_
        · rw [ww_upr_ne q1, ww_cp_ne (by omega)]
        · simp (disch := omega) only [ww_up_ne, ww_up_eq, ww_upr_ne, ww_upr_eq, ww_fill_ne, ww_fill_eq, ww_cpy_ne, ww_cpy_eq, pk_us, pk_un, ne_eq, not_false_eq_true, fb_put_out]
        · simp (disch := omega) only [ww_up_ne, ww_up_eq, ww_upr_ne, ww_upr_eq, ww_fill_ne, ww_fill_eq, ww_cpy_ne, ww_cpy_eq, pk_us, pk_un, ne_eq, not_false_eq_true]
        · rw [ww_upr_eq]
          refine ww_ModD_page r1 e3 (fun x hx => ?_)
          rw [fb_put_in (by omega) (by omega)]
          congr 1
          omega
  · simp only [if_pos c]
    exact ⟨-1, σ, σ, s, d, rfl, rfl, ww_Rel_up h0⟩
