theorem ww_gd {j L q : Nat} (hL : L ≤ 320) (h : 5 * j + 5 ≤ L) (hq : q < 5) : ww_in (nI (5 * j + q)) L = true := ww_in_n (by omega) (by omega)
set_option maxHeartbeats 40000000 in
set_option maxRecDepth 100000 in
theorem ww_lawstep {L j : Nat} {xs : Nat → Int32} {σ : ww_M} {s : ww_S} {d : ww_D1} (hL : L ≤ 320) (h5 : 5 * j + 5 ≤ L) (h : ww_Rel j σ s d) : ∃ σ2 s2 d2, f_L_law_b18 L xs (nI (5 * j), σ) = some (.inl (nI (5 * (j + 1)), σ2)) ∧ ww_Rel (j + 1) σ2 s2 d2 := by
  have hk : j < 64 := by omega
  have g0 : ww_in (nI (5 * j)) L = true := ww_gd (q := 0) hL h5 (by omega)
  have e1 : nI (5 * j) + 1 = nI (5 * j + 1) := nI_1 _
  have e2 : nI (5 * j) + 2 = nI (5 * j + 2) := nI_add _ 2
  have e3 : nI (5 * j) + 3 = nI (5 * j + 3) := nI_add _ 3
  have e4 : nI (5 * j) + 4 = nI (5 * j + 4) := nI_add _ 4
  have e5 : nI (5 * j) + 5 = nI (5 * (j + 1)) := nI_add _ 5
  have g1 := ww_gd (q := 1) hL h5 (by omega)
  have g2 := ww_gd (q := 2) hL h5 (by omega)
  have g3 := ww_gd (q := 3) hL h5 (by omega)
  have g4 := ww_gd (q := 4) hL h5 (by omega)
  have c0 : ¬ (nI L - 5 < nI (5 * j)) := by
    rw [show nI L - 5 = nI (L - 5) from pk_sub (b := 5) (by omega)]
    exact nI_nlt (by omega) (by omega)
  unfold f_L_law_b18
  simp only [e1, e2, e3, e4, e5]
  rw [if_neg c0, ww_ck_t g0]
  generalize xs (ww_ix (nI (5 * j))) &&& 63 = op
  by_cases q0 : op = 0
  · rw [if_pos q0]
    obtain ⟨v, σ1, σ2, s2, d2, h1, h2, h3⟩ := st_feed hk h (xs (ww_ix (nI (5 * j + 1))))
    refine ⟨σ2, s2, d2, ?_, h3⟩
    simp only [ww_ck_t g1, h1, h2, Option.bind_some, if_true]
  rw [if_neg q0]
  by_cases q1 : op = 1
  · rw [if_pos q1]
    obtain ⟨v, σ1, σ2, s2, d2, h1, h2, h3⟩ := st_end hk h (xs (ww_ix (nI (5 * j + 1))))
    refine ⟨σ2, s2, d2, ?_, h3⟩
    simp only [ww_ck_t g1, h1, h2, Option.bind_some, if_true]
  rw [if_neg q1]
  by_cases q2 : op = 2
  · rw [if_pos q2]
    obtain ⟨v, σ1, σ2, s2, d2, h1, h2, h3⟩ := st_text hk h 
    refine ⟨σ2, s2, d2, ?_, h3⟩
    simp only [h1, h2, Option.bind_some, if_true]
  rw [if_neg q2]
  by_cases q3 : op = 3
  · rw [if_pos q3]
    obtain ⟨v, s2, d2, h1, h2, h3⟩ := st_fault hk h 
    refine ⟨σ, s2, d2, ?_, h3⟩
    simp only [h1, h2, Option.bind_some, if_true]
  rw [if_neg q3]
  by_cases q4 : op = 4
  · rw [if_pos q4]
    obtain ⟨v, s2, d2, h1, h2, h3⟩ := st_rule hk h (xs (ww_ix (nI (5 * j + 1))))
    refine ⟨σ, s2, d2, ?_, h3⟩
    simp only [ww_ck_t g1, h1, h2, Option.bind_some, if_true]
  rw [if_neg q4]
  by_cases q5 : op = 5
  · rw [if_pos q5]
    obtain ⟨v, s2, d2, h1, h2, h3⟩ := st_place hk h (xs (ww_ix (nI (5 * j + 1)))) (xs (ww_ix (nI (5 * j + 2))))
    refine ⟨σ, s2, d2, ?_, h3⟩
    simp only [ww_ck_t g1, ww_ck_t g2, h1, h2, Option.bind_some, if_true]
  rw [if_neg q5]
  by_cases q6 : op = 6
  · rw [if_pos q6]
    obtain ⟨v, s2, d2, h1, h2, h3⟩ := st_level hk h (xs (ww_ix (nI (5 * j + 1))))
    refine ⟨σ, s2, d2, ?_, h3⟩
    simp only [ww_ck_t g1, h1, h2, Option.bind_some, if_true]
  rw [if_neg q6]
  by_cases q7 : op = 7
  · rw [if_pos q7]
    obtain ⟨v, s2, d2, h1, h2, h3⟩ := st_beast hk h (xs (ww_ix (nI (5 * j + 1)))) (xs (ww_ix (nI (5 * j + 2))))
    refine ⟨σ, s2, d2, ?_, h3⟩
    simp only [ww_ck_t g1, ww_ck_t g2, h1, h2, Option.bind_some, if_true]
  rw [if_neg q7]
  by_cases q8 : op = 8
  · rw [if_pos q8]
    obtain ⟨v, s2, d2, h1, h2, h3⟩ := st_part hk h (xs (ww_ix (nI (5 * j + 1)))) (xs (ww_ix (nI (5 * j + 2))))
    refine ⟨σ, s2, d2, ?_, h3⟩
    simp only [ww_ck_t g1, ww_ck_t g2, h1, h2, Option.bind_some, if_true]
  rw [if_neg q8]
  by_cases q9 : op = 9
  · rw [if_pos q9]
    obtain ⟨v, σ1, σ2, s2, d2, h1, h2, h3⟩ := st_mark hk h (xs (ww_ix (nI (5 * j + 1)))) (xs (ww_ix (nI (5 * j + 2))))
    refine ⟨σ2, s2, d2, ?_, h3⟩
    simp only [ww_ck_t g1, ww_ck_t g2, h1, h2, Option.bind_some, if_true]
  rw [if_neg q9]
  by_cases q10 : op = 10
  · rw [if_pos q10]
    obtain ⟨v, σ1, σ2, s2, d2, h1, h2, h3⟩ := st_own hk h (xs (ww_ix (nI (5 * j + 1)))) (xs (ww_ix (nI (5 * j + 2))))
    refine ⟨σ2, s2, d2, ?_, h3⟩
    simp only [ww_ck_t g1, ww_ck_t g2, h1, h2, Option.bind_some, if_true]
  rw [if_neg q10]
  by_cases q11 : op = 11
  · rw [if_pos q11]
    obtain ⟨v, σ1, σ2, s2, d2, h1, h2, h3⟩ := st_law hk h (xs (ww_ix (nI (5 * j + 1))))
    refine ⟨σ2, s2, d2, ?_, h3⟩
    simp only [ww_ck_t g1, h1, h2, Option.bind_some, if_true]
  rw [if_neg q11]
  by_cases q12 : op = 12
  · rw [if_pos q12]
    obtain ⟨v, σ1, σ2, s2, d2, h1, h2, h3⟩ := st_rot hk h (xs (ww_ix (nI (5 * j + 1))))
    refine ⟨σ2, s2, d2, ?_, h3⟩
    simp only [ww_ck_t g1, h1, h2, Option.bind_some, if_true]
  rw [if_neg q12]
  by_cases q13 : op = 13
  · rw [if_pos q13]
    obtain ⟨v, σ1, σ2, s2, d2, h1, h2, h3⟩ := st_gangs hk h (xs (ww_ix (nI (5 * j + 1))))
    refine ⟨σ2, s2, d2, ?_, h3⟩
    simp only [ww_ck_t g1, h1, h2, Option.bind_some, if_true]
  rw [if_neg q13]
  by_cases q14 : op = 14
  · rw [if_pos q14]
    obtain ⟨v, σ1, σ2, s2, d2, h1, h2, h3⟩ := st_lump hk h (xs (ww_ix (nI (5 * j + 1)))) (xs (ww_ix (nI (5 * j + 2))))
    refine ⟨σ2, s2, d2, ?_, h3⟩
    simp only [ww_ck_t g1, ww_ck_t g2, h1, h2, Option.bind_some, if_true]
  rw [if_neg q14]
  by_cases q15 : op = 15
  · rw [if_pos q15]
    obtain ⟨v, σ1, σ2, s2, d2, h1, h2, h3⟩ := st_go hk h (xs (ww_ix (nI (5 * j + 1)))) (xs (ww_ix (nI (5 * j + 2))))
    refine ⟨σ2, s2, d2, ?_, h3⟩
    simp only [ww_ck_t g1, ww_ck_t g2, h1, h2, Option.bind_some, if_true]
  rw [if_neg q15]
  by_cases q16 : op = 16
  · rw [if_pos q16]
    obtain ⟨v, s2, d2, h1, h2, h3⟩ := st_wet hk h (xs (ww_ix (nI (5 * j + 1))))
    refine ⟨σ, s2, d2, ?_, h3⟩
    simp only [ww_ck_t g1, h1, h2, Option.bind_some, if_true]
  rw [if_neg q16]
  by_cases q17 : op = 17
  · rw [if_pos q17]
    obtain ⟨v, s2, d2, h1, h2, h3⟩ := st_floats hk h (xs (ww_ix (nI (5 * j + 1))))
    refine ⟨σ, s2, d2, ?_, h3⟩
    simp only [ww_ck_t g1, h1, h2, Option.bind_some, if_true]
  rw [if_neg q17]
  by_cases q18 : op = 18
  · rw [if_pos q18]
    obtain ⟨v, s2, d2, h1, h2, h3⟩ := st_has hk h (xs (ww_ix (nI (5 * j + 1))))
    refine ⟨σ, s2, d2, ?_, h3⟩
    simp only [ww_ck_t g1, h1, h2, Option.bind_some, if_true]
  rw [if_neg q18]
  by_cases q19 : op = 19
  · rw [if_pos q19]
    obtain ⟨v, σ1, σ2, s2, d2, h1, h2, h3⟩ := st_best hk h (xs (ww_ix (nI (5 * j + 1)))) (xs (ww_ix (nI (5 * j + 2))))
    refine ⟨σ2, s2, d2, ?_, h3⟩
    simp only [ww_ck_t g1, ww_ck_t g2, h1, h2, Option.bind_some, if_true]
  rw [if_neg q19]
  by_cases q20 : op = 20
  · rw [if_pos q20]
    obtain ⟨v, σ1, σ2, s2, d2, h1, h2, h3⟩ := st_worth hk h (xs (ww_ix (nI (5 * j + 1)))) (xs (ww_ix (nI (5 * j + 2))))
    refine ⟨σ2, s2, d2, ?_, h3⟩
    simp only [ww_ck_t g1, ww_ck_t g2, h1, h2, Option.bind_some, if_true]
  rw [if_neg q20]
  by_cases q21 : op = 21
  · rw [if_pos q21]
    obtain ⟨v, σ1, σ2, s2, d2, h1, h2, h3⟩ := st_salted hk h (xs (ww_ix (nI (5 * j + 1))))
    refine ⟨σ2, s2, d2, ?_, h3⟩
    simp only [ww_ck_t g1, h1, h2, Option.bind_some, if_true]
  rw [if_neg q21]
  by_cases q22 : op = 22
  · rw [if_pos q22]
    obtain ⟨v, s2, d2, h1, h2, h3⟩ := st_share hk h (xs (ww_ix (nI (5 * j + 1)))) (xs (ww_ix (nI (5 * j + 2))))
    refine ⟨σ, s2, d2, ?_, h3⟩
    simp only [ww_ck_t g1, ww_ck_t g2, h1, h2, Option.bind_some, if_true]
  rw [if_neg q22]
  by_cases q23 : op = 23
  · rw [if_pos q23]
    obtain ⟨v, σ1, σ2, s2, d2, h1, h2, h3⟩ := st_tell hk h (xs (ww_ix (nI (5 * j + 1)))) (xs (ww_ix (nI (5 * j + 2))))
    refine ⟨σ2, s2, d2, ?_, h3⟩
    simp only [ww_ck_t g1, ww_ck_t g2, h1, h2, Option.bind_some, if_true]
  rw [if_neg q23]
  by_cases q24 : op = 24
  · rw [if_pos q24]
    obtain ⟨v, σ1, σ2, s2, d2, h1, h2, h3⟩ := st_forget hk h (xs (ww_ix (nI (5 * j + 1))))
    refine ⟨σ2, s2, d2, ?_, h3⟩
    simp only [ww_ck_t g1, h1, h2, Option.bind_some, if_true]
  rw [if_neg q24]
  by_cases q25 : op = 25
  · rw [if_pos q25]
    obtain ⟨v, s2, d2, h1, h2, h3⟩ := st_laws hk h 
    refine ⟨σ, s2, d2, ?_, h3⟩
    simp only [h1, h2, Option.bind_some, if_true]
  rw [if_neg q25]
  by_cases q26 : op = 26
  · rw [if_pos q26]
    obtain ⟨v, σ1, σ2, s2, d2, h1, h2, h3⟩ := st_whose hk h (xs (ww_ix (nI (5 * j + 1))))
    refine ⟨σ2, s2, d2, ?_, h3⟩
    simp only [ww_ck_t g1, h1, h2, Option.bind_some, if_true]
  rw [if_neg q26]
  by_cases q27 : op = 27
  · rw [if_pos q27]
    obtain ⟨v, s2, d2, h1, h2, h3⟩ := st_strand hk h (xs (ww_ix (nI (5 * j + 1)))) (xs (ww_ix (nI (5 * j + 2))))
    refine ⟨σ, s2, d2, ?_, h3⟩
    simp only [ww_ck_t g1, ww_ck_t g2, h1, h2, Option.bind_some, if_true]
  rw [if_neg q27]
  by_cases q28 : op = 28
  · rw [if_pos q28]
    obtain ⟨v, s2, d2, h1, h2, h3⟩ := st_luck hk h (xs (ww_ix (nI (5 * j + 1)))) (xs (ww_ix (nI (5 * j + 2))))
    refine ⟨σ, s2, d2, ?_, h3⟩
    simp only [ww_ck_t g1, ww_ck_t g2, h1, h2, Option.bind_some, lg_cmp_eq, if_true]
  rw [if_neg q28]
  by_cases q29 : op = 29
  · rw [if_pos q29]
    obtain ⟨v, s2, d2, h1, h2, h3⟩ := st_open hk h 
    refine ⟨σ, s2, d2, ?_, h3⟩
    simp only [h1, h2, Option.bind_some, if_true]
  rw [if_neg q29]
  by_cases q30 : op = 30
  · rw [if_pos q30]
    obtain ⟨v, σ1, σ2, s2, d2, h1, h2, h3⟩ := st_drift hk h (xs (ww_ix (nI (5 * j + 1)))) (xs (ww_ix (nI (5 * j + 2)))) (xs (ww_ix (nI (5 * j + 3))))
    refine ⟨σ2, s2, d2, ?_, h3⟩
    simp only [ww_ck_t g1, ww_ck_t g2, ww_ck_t g3, h1, h2, Option.bind_some, if_true]
  rw [if_neg q30]
  by_cases q31 : op = 31
  · rw [if_pos q31]
    obtain ⟨v, σ1, σ2, s2, d2, h1, h2, h3⟩ := st_keep hk h (xs (ww_ix (nI (5 * j + 1))))
    refine ⟨σ2, s2, d2, ?_, h3⟩
    simp only [ww_ck_t g1, h1, h2, Option.bind_some, if_true]
  rw [if_neg q31]
  by_cases q32 : op = 32
  · rw [if_pos q32]
    obtain ⟨v, σ1, σ2, s2, d2, h1, h2, h3⟩ := st_back hk h (xs (ww_ix (nI (5 * j + 1))))
    refine ⟨σ2, s2, d2, ?_, h3⟩
    simp only [ww_ck_t g1, h1, h2, Option.bind_some, if_true]
  rw [if_neg q32]
  by_cases q33 : op = 33
  · rw [if_pos q33]
    obtain ⟨v, σ1, σ2, s2, d2, h1, h2, h3⟩ := st_sheet hk h (xs (ww_ix (nI (5 * j + 1)))) (xs (ww_ix (nI (5 * j + 2)))) (xs (ww_ix (nI (5 * j + 3))))
    refine ⟨σ2, s2, d2, ?_, h3⟩
    simp only [ww_ck_t g1, ww_ck_t g2, ww_ck_t g3, h1, h2, Option.bind_some, if_true]
  rw [if_neg q33]
  by_cases q34 : op = 34
  · rw [if_pos q34]
    obtain ⟨v, σ1, σ2, s2, d2, h1, h2, h3⟩ := st_lay hk h (xs (ww_ix (nI (5 * j + 1)))) (xs (ww_ix (nI (5 * j + 2)))) (xs (ww_ix (nI (5 * j + 3))))
    refine ⟨σ2, s2, d2, ?_, h3⟩
    simp only [ww_ck_t g1, ww_ck_t g2, ww_ck_t g3, h1, h2, Option.bind_some, if_true]
  rw [if_neg q34]
  by_cases q35 : op = 35
  · rw [if_pos q35]
    obtain ⟨v, σ1, σ2, s2, d2, h1, h2, h3⟩ := st_read hk h (xs (ww_ix (nI (5 * j + 1)))) (xs (ww_ix (nI (5 * j + 2)))) (xs (ww_ix (nI (5 * j + 3)))) (xs (ww_ix (nI (5 * j + 4))))
    refine ⟨σ2, s2, d2, ?_, h3⟩
    simp only [ww_ck_t g1, ww_ck_t g2, ww_ck_t g3, ww_ck_t g4, h1, h2, Option.bind_some, if_true]
  rw [if_neg q35]
  by_cases q36 : op = 36
  · rw [if_pos q36]
    obtain ⟨v, s2, d2, h1, h2, h3⟩ := st_torn hk h 
    refine ⟨σ, s2, d2, ?_, h3⟩
    simp only [h1, h2, Option.bind_some, if_true]
  rw [if_neg q36]
  by_cases q37 : op = 37
  · rw [if_pos q37]
    obtain ⟨v, s2, d2, h1, h2, h3⟩ := st_count hk h (xs (ww_ix (nI (5 * j + 1))))
    refine ⟨σ, s2, d2, ?_, h3⟩
    simp only [ww_ck_t g1, h1, h2, Option.bind_some, if_true]
  rw [if_neg q37]
  exact ⟨σ, s, d, rfl, ww_Rel_up h⟩
theorem ww_lawloop {L : Nat} {xs : Nat → Int32} (hL : L ≤ 320) : ∀ (n j fuel : Nat) (σ : ww_M) (s : ww_S) (d : ww_D1), L / 5 - j = n → j ≤ L / 5 → n < fuel → ww_Rel j σ s d → ∃ τ, ww_it (f_L_law_b18 L xs) fuel (nI (5 * j), σ) = some (.inl τ) := by
  intro n
  induction n with
  | zero =>
    intro j fuel σ s d hn hj hf h
    obtain ⟨f, rfl⟩ : ∃ f, fuel = f + 1 := ⟨fuel - 1, by omega⟩
    refine ⟨σ, ww_it_done ?_⟩
    have c0 : nI L - 5 < nI (5 * j) := by
      rw [fa_lt]
      have e1 : (nI L - 5).toInt = (L : Int) - 5 := pk_sub_toInt (a := L) (b := 5) (by omega) (by omega)
      rw [e1, nI_toInt (by omega)]
      omega
    unfold f_L_law_b18
    simp only [if_pos c0]
  | succ n ih =>
    intro j fuel σ s d hn hj hf h
    obtain ⟨f, rfl⟩ : ∃ f, fuel = f + 1 := ⟨fuel - 1, by omega⟩
    obtain ⟨σ2, s2, d2, h1, h2⟩ := ww_lawstep (xs := xs) hL (by omega) h
    obtain ⟨τ, h3⟩ := ih (j + 1) f σ2 s2 d2 (by omega) (by omega) (by omega) h2
    exact ⟨τ, ww_it_more h1 h3⟩
theorem ww_pure {L : Nat} (hL : L ≤ 320) (xs : Nat → Int32) : ∃ τ, f_L_law L xs ww_zAll = some (1, τ) := by
  obtain ⟨s, d, h⟩ := ww_Rel0
  obtain ⟨τ, h⟩ := ww_lawloop (xs := xs) hL (L / 5) 0 ww_F ww_zAll s d (by omega) (by omega) (by unfold ww_F; omega) h
  refine ⟨τ, ?_⟩
  unfold f_L_law f_L_law_j18
  have h' : ww_it (f_L_law_b18 L xs) ww_F (0, ww_zAll) = some (.inl τ) := h
  rw [h']
  rfl
