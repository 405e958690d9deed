theorem st_mark {k : Nat} {σ : ww_M} {s : ww_S} {d : ww_D1} (hk : k < 64) (h : ww_Rel k σ s d) (p1 p2 : Int32) : ∃ (v : Int32) (σ1 : ww_M) (σ2 : ww_M) (s2 : ww_S) (d2 : ww_D1), f_X6_mark σ p1 p2 = some (v, σ1) ∧ f_X7_mark σ1 62 p1 p2 = some (v, σ2) ∧ ww_Rel (k + 1) σ2 s2 d2 := by
  have h0 := h
  obtain ⟨r1, ⟨hd, e1, e2⟩, hC, r4, hM, -⟩ := h
  have hnp := r1.1
  have bad : ∃ τ, f_X7_mark_j25 σ 62 p1 p2 = some (-1, τ) ∧ ww_Rel (k + 1) τ s d := by
    obtain ⟨τ, g1, g2, g3, g4⟩ := sm_floatsNow r1 hd r4 hM
    refine ⟨τ, ?_, ?_⟩
    · unfold f_X7_mark_j25 f_X7_mark_j26 f_X7_sets
      rw [if_pos rfl]
      simp only [Option.bind_some, g1]
    · rw [ww_lose_id e2] at g2
      exact ww_Rel_shore h0 (fun a q1 q2 => g3 a q1) (fun j q1 q2 => g4 j q1) ⟨hd, e1, e2⟩ (ww_ClsA_ext hC (fun a q1 q2 => g3 a (by omega))) g2
  unfold f_X6_mark
  rw [sp_hasPlace hC, ww_within]
  simp only [Option.bind_some, ww_b01]
  rcases ww_rng p1 (n := sNp s) (by omega) with ⟨i, hi, rfl, c⟩ | c
  · by_cases c2 : 0 ≤ p2 ∧ p2 ≤ 9
    · obtain ⟨n, -, hn, rfl⟩ := ww_btw (a := 0) (b := 9) (by omega) c2 (by omega)
      have hdm : ww_okD s (dsMark d (ww_un (dMark d) i n)) := by
        obtain ⟨d1, d2, d3, d4, d5, d6, d7, d8, d9⟩ := hd
        refine ⟨d1, d2, d3, d4, d5, d6, fun j hj => ⟨(d7 j hj).1, ?_⟩, d8, d9⟩
        show ww_un (dMark d) i n j ≤ 9
        unfold ww_un
        split
        · exact hn
        · exact (d7 j hj).2
      obtain ⟨τ, g1, g2, g3⟩ := sp_lose r1 hdm (uc_mark r1 hC n (q := i))
      have hMt : ww_MS (ww_up τ 63 (2 * i + 1) (nI n)) s := by
        unfold ww_MS
        rw [ww_up_ne (by decide), ww_up_ne (by decide), ww_up_ne (by decide), g3 62 (by decide), g3 64 (by decide), g3 65 (by decide), ww_up_ne (by decide), ww_up_ne (by decide), ww_up_ne (by decide)]
        exact r4
      have hDt : ww_ModD (ww_up τ 63 (2 * i + 1) (nI n) 63) 0 s (dsMark d (ww_un (dMark d) i n)) := by
        rw [ww_up_eq, g3 63 (by decide), ww_up_ne (by decide)]
        have := um_mark (pg := 0) r1 hM n hi
        rw [Nat.zero_add] at this
        exact this
      obtain ⟨τ2, f1, f2, f3, f4⟩ := sm_floatsNow r1 hdm hMt hDt
      refine ⟨nI (dMark d i), τ, τ2, s, ww_lose s (dsMark d (ww_un (dMark d) i n)) (dHr d), ?_, ?_, ?_⟩
      · rw [if_neg (fun q => q c), if_neg (fun q => q c2)]
        simp only [ww_ck_t (ww_in_n (show i < 6 by omega) (by omega)), ww_ix_n (show i < 2147483648 by omega)]
        rw [g1, show σ (4 + 2) i = nI (dMark d i) from (hC.2.2.1 i hi).2]
        rfl
      · unfold f_X7_mark
        rw [sp_isPlace (σ := τ) (by rw [g3 62 (by decide), g3 64 (by decide), g3 65 (by decide), ww_up_ne (by decide), ww_up_ne (by decide), ww_up_ne (by decide)]; exact r4)]
        simp only [Option.bind_some, ww_b01, ww_inI (a := 0) (b := 9) 0 9 rfl rfl]
        rw [if_neg (fun q => q c), if_neg (fun q => q c2)]
        unfold f_X7_mark_j26
        rw [show (2 : Int32) * nI i + 1 = nI (2 * i + 1) from by rw [show (2 : Int32) * nI i = nI (2 * i) from pk_mul 2 i, nI_1], ww_sets (by omega), if_neg (by decide)]
        simp only [Option.bind_some, f1]
        have := (hM.2.2.1 i hi).2
        rw [Nat.zero_add] at this
        rw [g3 63 (by decide), ww_up_ne (by decide), this]
      · refine ww_Rel_shore h0 (fun a q1 q2 => ?_) (fun j q1 q2 => ?_) (ww_lose_ok hdm e1) (ww_ClsA_ext g2 (fun a q1 q2 => ?_)) f2
        · rw [f3 a q1, ww_up_ne q1, g3 a (by omega), ww_up_ne (by omega)]
        · rw [f4 j q1, ww_up_eq, pk_un (by omega), g3 63 (by decide), ww_up_ne (by decide)]
        · rw [f3 a (by omega), ww_up_ne (by omega)]
    · obtain ⟨τ, g1, g2⟩ := bad
      refine ⟨-1, σ, τ, s, d, by rw [if_neg (fun q => q c), if_pos c2], ?_, g2⟩
      unfold f_X7_mark
      rw [sp_isPlace r4]
      simp only [Option.bind_some, ww_b01, ww_inI (a := 0) (b := 9) 0 9 rfl rfl]
      rw [if_neg (fun q => q c), if_pos c2, g1]
  · obtain ⟨τ, g1, g2⟩ := bad
    refine ⟨-1, σ, τ, s, d, by rw [if_pos c], ?_, g2⟩
    unfold f_X7_mark
    rw [sp_isPlace r4]
    simp only [Option.bind_some, ww_b01]
    rw [if_pos c, g1]
