theorem st_own {k : Nat} {σ : ww_M} {s : ww_S} {d : ww_D1} (hk : k < 64) (h : ww_Rel k σ s d) (p1 p2 : Int32) : ∃ (v : Int32) (σ1 : ww_M) (σ2 : ww_M) (s2 : ww_S) (d2 : ww_D1), f_X6_own σ p1 p2 = some (v, σ1) ∧ f_X7_own σ1 62 p1 p2 = some (v, σ2) ∧ ww_Rel (k + 1) σ2 s2 d2 := by
  have h0 := h
  obtain ⟨r1, ⟨⟨d1, d2, d3, d4, d5, d6, d7, d8, d9⟩, e1, e2⟩, hC, r4, hM, r6⟩ := h
  have hnp := r1.1
  unfold f_X6_own
  rw [sp_hasPlace hC, ww_within]
  simp only [Option.bind_some, ww_b01]
  have bad : ∀ τ, f_X7_own_j25 τ 62 p1 p2 = some (-1, τ) := fun τ => by
    unfold f_X7_own_j25 f_X7_own_j26 f_X7_sets
    rw [if_pos rfl]; rfl
  rcases ww_rng p1 (n := sNp s) (by omega) with ⟨i, hi, rfl, c⟩ | c
  · by_cases c2 : 0 ≤ p2 ∧ p2 ≤ 3
    · obtain ⟨n, -, hn, rfl⟩ := ww_btw (a := 0) (b := 3) (by omega) c2 (by omega)
      refine ⟨nI (dOwn d i), ww_up σ 5 i (nI n), ww_up (ww_up σ 5 i (nI n)) 63 (2 * i) (nI n), s, dsOwn d (ww_un (dOwn d) i n), ?_, ?_, ?_⟩
      · rw [if_neg (fun q => q c), if_neg (fun q => q c2), ww_ck_t (ww_in_n (by omega) (by omega)), ww_ck_t (ww_in_n (by omega) (by omega)), ww_ix_n (by omega), show σ (4 + 1) i = nI (dOwn d i) from (hC.2.2.1 i hi).1]
      · unfold f_X7_own
        rw [sp_isPlace (σ := ww_up σ 5 i (nI n)) (by rw [ww_up_ne (show (62 : Nat) ≠ 5 by decide), ww_up_ne (show (64 : Nat) ≠ 5 by decide), ww_up_ne (show (65 : Nat) ≠ 5 by decide)]; exact r4)]
        simp only [Option.bind_some, ww_b01, ww_inI (a := 0) (b := 3) 0 3 rfl rfl]
        rw [if_neg (fun q => q c), if_neg (fun q => q c2)]
        unfold f_X7_own_j26
        rw [show (2 : Int32) * nI i = nI (2 * i) from pk_mul 2 i, ww_sets (by omega), if_neg (by decide)]
        simp only [Option.bind_some, ww_up_ne (show (63 : Nat) ≠ 5 by decide)]
        have := (hM.2.2.1 i hi).1
        rw [Nat.zero_add] at this
        rw [this]
      · refine ww_Rel_shore h0 (fun a q1 q2 => by rw [ww_up_ne q1, ww_up_ne (by omega)]) (fun j q1 q2 => by rw [ww_up_eq, pk_un (by omega), ww_up_ne (by decide)]) ⟨⟨d1, d2, d3, d4, d5, d6, fun j hj => ⟨?_, (d7 j hj).2⟩, d8, d9⟩, e1, e2⟩ (ww_ClsA_ext (uc_own r1 hC n) (fun a q1 q2 => ww_up_ne (by omega))) ?_
        · show ww_un (dOwn d) i n j ≤ 3
          unfold ww_un
          split
          · exact hn
          · exact (d7 j hj).1
        · rw [ww_up_eq, ww_up_ne (by decide)]
          have := um_own (pg := 0) r1 hM n hi
          rw [Nat.zero_add] at this
          exact this
    · refine ⟨-1, σ, σ, s, d, by rw [if_neg (fun q => q c), if_pos c2], ?_, ww_Rel_up h0⟩
      unfold f_X7_own
      rw [sp_isPlace r4]
      simp only [Option.bind_some, ww_b01, ww_inI (a := 0) (b := 3) 0 3 rfl rfl]
      rw [if_neg (fun q => q c), if_pos c2, bad]
  · refine ⟨-1, σ, σ, s, d, by rw [if_pos c], ?_, ww_Rel_up h0⟩
    unfold f_X7_own
    rw [sp_isPlace r4]
    simp only [Option.bind_some, ww_b01]
    rw [if_pos c, bad]
theorem st_lump {k : Nat} {σ : ww_M} {s : ww_S} {d : ww_D1} (hk : k < 64) (h : ww_Rel k σ s d) (p1 p2 : Int32) : ∃ (v : Int32) (σ1 : ww_M) (σ2 : ww_M) (s2 : ww_S) (d2 : ww_D1), f_X6_lump σ p1 p2 = some (v, σ1) ∧ f_X7_lump σ1 62 p1 p2 = some (v, σ2) ∧ ww_Rel (k + 1) σ2 s2 d2 := by
  have h0 := h
  obtain ⟨r1, ⟨⟨d1, d2, d3, d4, d5, d6, d7, d8, d9⟩, e1, e2⟩, hC, r4, hM, r6⟩ := h
  have hnb := r1.2.2.2.1
  unfold f_X6_lump
  by_cases cP : ww_isP s p1
  · obtain ⟨b, p, hb, hp, rfl⟩ := cP
    have h6 := r1.2.2.2.2.2.1 b hb
    rw [sp_slotOf_yes r1 hC hb hp, ww_within]
    simp only [Option.bind_some, ww_b01]
    have q1 : ¬ nI (3 * b + p) = -1 := fun e => by
      have := nI_pos' (n := 3 * b + p) (by omega)
      rw [e] at this
      exact absurd this (by decide)
    rw [if_neg q1]
    by_cases c2 : 0 ≤ p2 ∧ p2 ≤ 8
    · obtain ⟨n, -, hn, rfl⟩ := ww_btw (a := 0) (b := 8) (by omega) c2 (by omega)
      refine ⟨nI (dLu d b p), ww_up σ 12 (3 * b + p) (nI n), ww_up (ww_up σ 12 (3 * b + p) (nI n)) 63 (18 + 9 * b + 3 * p + 2) (nI n), s, dsLu d (ww_un2 (dLu d) b p n), ?_, ?_, ?_⟩
      · rw [if_neg (fun q => q c2), ww_ck_t (ww_in_n (by omega) (by omega)), ww_ck_t (ww_in_n (by omega) (by omega)), ww_ix_n (by omega), show σ (4 + 8) (3 * b + p) = nI (dLu d b p) from (hC.2.2.2.2.2.1 b hb p hp).2.2]
      · unfold f_X7_lump
        rw [sp_isPart_yes (σ := ww_up σ 12 (3 * b + p) (nI n)) r1 (by rw [ww_up_ne (show (62 : Nat) ≠ 12 by decide), ww_up_ne (show (64 : Nat) ≠ 12 by decide), ww_up_ne (show (65 : Nat) ≠ 12 by decide)]; exact r4) hb hp, sp_partAt (by omega) (by omega), ww_inI (a := 0) (b := 8) 0 8 rfl rfl]
        simp only [Option.bind_some]
        rw [if_neg (by decide), if_pos c2, show nI (18 + 9 * b + 3 * p) + 2 = nI (18 + 9 * b + 3 * p + 2) from nI_add _ 2, ww_sets (by omega), if_neg (by decide)]
        simp only [Option.bind_some, ww_up_ne (show (63 : Nat) ≠ 12 by decide)]
        have := (hM.2.2.2.1 b hb p hp).2.2
        rw [Nat.zero_add] at this
        rw [this]
      · refine ww_Rel_shore h0 (fun a q1 q2 => by rw [ww_up_ne q1, ww_up_ne (by omega)]) (fun j q1 q2 => by rw [ww_up_eq, pk_un (by omega), ww_up_ne (by decide)]) ⟨⟨d1, d2, d3, d4, d5, d6, d7, fun b1 hb1 p1 hp1 => ⟨(d8 b1 hb1 p1 hp1).1, (d8 b1 hb1 p1 hp1).2.1, ?_⟩, d9⟩, e1, e2⟩ (ww_ClsA_ext (uc_lu r1 hC n hb hp) (fun a q1 q2 => ww_up_ne (by omega))) ?_
        · show ww_un2 (dLu d) b p n b1 p1 ≤ 8
          unfold ww_un2
          split
          · exact hn
          · exact (d8 b1 hb1 p1 hp1).2.2
        · rw [ww_up_eq, ww_up_ne (by decide)]
          have := um_lu (pg := 0) r1 hM n hb hp
          rw [Nat.zero_add] at this
          exact this
    · refine ⟨-1, σ, σ, s, d, by rw [if_pos c2], ?_, ww_Rel_up h0⟩
      unfold f_X7_lump
      rw [sp_isPart_yes r1 r4 hb hp, sp_partAt (by omega) (by omega), ww_inI (a := 0) (b := 8) 0 8 rfl rfl]
      simp only [Option.bind_some]
      rw [if_neg (by decide), if_neg c2]
      rfl
  · rw [sp_slotOf_no r1 hC cP]
    refine ⟨-1, σ, σ, s, d, rfl, ?_, ww_Rel_up h0⟩
    unfold f_X7_lump
    rw [sp_isPart_no r1 r4 cP]
    rfl
theorem st_place {k : Nat} {σ : ww_M} {s : ww_S} {d : ww_D1} (hk : k < 64) (h : ww_Rel k σ s d) (p1 p2 : Int32) : ∃ (v : Int32) (s2 : ww_S) (d2 : ww_D1), f_X6_place σ p1 p2 = some v ∧ f_X7_place σ 62 p1 p2 = some v ∧ ww_Rel (k + 1) σ s2 d2 := by
  have h0 := ww_Rel_up h
  obtain ⟨r1, -, hC, r4, hM, r6⟩ := h
  have hnp := r1.1
  unfold f_X6_place f_X7_place
  rw [sp_hasPlace hC, sp_isPlace r4]
  simp only [Option.bind_some, ww_b01, ww_inI (a := 0) (b := 1) 0 1 rfl rfl]
  rcases ww_rng p1 (n := sNp s) (by omega) with ⟨i, hi, rfl, c⟩ | c
  · have m1 := (hM.2.2.1 i hi).1
    have m2 := (hM.2.2.1 i hi).2
    rw [Nat.zero_add] at m1 m2
    have hx : ww_in (nI i) 6 = true := ww_in_n (by omega) (by omega)
    have hcc : ¬ ¬ (0 ≤ nI i ∧ nI i ≤ nI (sNp s) - 1) := fun q => q c
    simp only [if_neg hcc, ww_ck_t hx]
    rw [ww_ix_n (show i < 2147483648 by omega), show σ (4 + 1) i = nI (dOwn d i) from (hC.2.2.1 i hi).1, show σ (4 + 2) i = nI (dMark d i) from (hC.2.2.1 i hi).2]
    by_cases c2 : 0 ≤ p2 ∧ p2 ≤ 1
    · obtain ⟨n, -, hn, rfl⟩ := ww_btw (a := 0) (b := 1) (by omega) c2 (by omega)
      have hc2 : ¬ ¬ (0 ≤ nI n ∧ nI n ≤ 1) := fun q => q c2
      simp only [if_neg hc2]
      rw [show (2 : Int32) * nI i = nI (2 * i) from pk_mul 2 i, nI_add, ww_ck_t (ww_in_n (by omega) (by omega)), ww_ix_n (by omega)]
      rcases (show n = 0 ∨ n = 1 by omega) with rfl | rfl
      · exact ⟨_, s, d, rfl, by rw [Nat.add_zero]; exact congrArg some m1, h0⟩
      · exact ⟨_, s, d, rfl, congrArg some m2, h0⟩
    · have q0 : ¬ p2 = 0 := fun e => c2 (by rw [e]; decide)
      have q1 : ¬ p2 = 1 := fun e => c2 (by rw [e]; decide)
      rw [if_neg q0, if_neg q1, if_pos c2]
      exact ⟨_, s, d, rfl, rfl, h0⟩
  · rw [if_pos c, if_pos c]
    exact ⟨_, s, d, rfl, rfl, h0⟩
theorem st_level {k : Nat} {σ : ww_M} {s : ww_S} {d : ww_D1} (hk : k < 64) (h : ww_Rel k σ s d) (p1 : Int32) : ∃ (v : Int32) (s2 : ww_S) (d2 : ww_D1), f_X6_level σ p1 = some v ∧ f_X7_level σ 62 p1 = some v ∧ ww_Rel (k + 1) σ s2 d2 := by
  have h0 := ww_Rel_up h
  obtain ⟨r1, -, hC, r4, hM, r6⟩ := h
  unfold f_X6_level f_X7_level
  rw [ww_within]
  simp only [Option.bind_some, ww_b01, ww_inI (a := 0) (b := 999) 0 999 rfl rfl]
  by_cases c : 0 ≤ p1 ∧ p1 ≤ 999
  · obtain ⟨n, -, hn, rfl⟩ := ww_btw (a := 0) (b := 999) (by omega) c (by omega)
    have hl1 := r1.2.1
    have hl2 := r1.2.2.1
    have hm : n % sNl s < sNl s := Nat.mod_lt _ (by omega)
    rw [if_neg (fun q => q c), if_neg (fun q => q c), sp_levelIn r1 hC (by omega), r4.2.1, ww_ck_t (show ww_nz (nI (sNl s)) = true from decide_eq_true (nI_ne0 (by omega) (by omega))), show ww_rem (nI n) (nI (sNl s)) = nI (n % sNl s) from pk_rem (by omega) (by omega) (by omega), ww_ck_t (ww_in_n (by omega) (by omega)), ww_ix_n (by omega)]
    exact ⟨_, s, d, rfl, congrArg some (r4.2.2.2.1 _ hm), h0⟩
  · rw [if_pos c, if_pos c]
    exact ⟨_, s, d, rfl, rfl, h0⟩
theorem st_has {k : Nat} {σ : ww_M} {s : ww_S} {d : ww_D1} (hk : k < 64) (h : ww_Rel k σ s d) (p1 : Int32) : ∃ (v : Int32) (s2 : ww_S) (d2 : ww_D1), f_X6_has σ p1 = some v ∧ f_X7_has σ 62 p1 = some v ∧ ww_Rel (k + 1) σ s2 d2 := by
  have h0 := ww_Rel_up h
  obtain ⟨r1, -, hC, r4, hM, r6⟩ := h
  unfold f_X6_has f_X7_has
  rw [ww_within]
  simp only [Option.bind_some, ww_b01, ww_inI (a := 0) (b := 3) 0 3 rfl rfl]
  by_cases c : 0 ≤ p1 ∧ p1 ≤ 3
  · obtain ⟨n, -, hn, rfl⟩ := ww_btw (a := 0) (b := 3) (by omega) c (by omega)
    have m := hM.2.2.2.2 n (by omega)
    rw [Nat.zero_add] at m
    rw [if_neg (fun q => q c), if_neg (fun q => q c), ww_ck_t (ww_in_n (by omega) (by omega)), ww_ix_n (by omega), show (46 : Int32) + nI n = nI (46 + n) from nI_add 46 n, ww_ck_t (ww_in_n (by omega) (by omega)), ww_ix_n (by omega)]
    exact ⟨_, s, d, congrArg some (hC.2.2.2.2.2.2 n (by omega)), congrArg some m, h0⟩
  · rw [if_pos c, if_pos c]
    exact ⟨_, s, d, rfl, rfl, h0⟩
