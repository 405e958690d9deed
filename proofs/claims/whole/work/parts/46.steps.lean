theorem ww_le_n {x : Int32} {n : Nat} (hn : n < 1000000) (c : 0 ≤ x ∧ x ≤ nI n) : ∃ m, m ≤ n ∧ x = nI m := by
  obtain ⟨m, -, h1, h2⟩ := ww_btw (a := 0) (b := n) (by omega) c (by omega)
  exact ⟨m, h1, h2⟩
theorem st_end {k : Nat} {σ : ww_M} {s : ww_S} {d : ww_D1} (hk : k < 64) (h : ww_Rel k σ s d) (p1 : Int32) : ∃ (v : Int32) (σ1 : ww_M) (σ2 : ww_M) (s2 : ww_S) (d2 : ww_D1), f_X6_end σ p1 = some (v, σ1) ∧ f_X7_end σ1 62 p1 = some (v, σ2) ∧ ww_Rel (k + 1) σ2 s2 d2 := by
  have h0 := h
  obtain ⟨r1, r2, r3, r4, r5, ⟨n, hn, t1, t2, t3⟩, r7, r8, r9, r10, r11, r12, r13⟩ := h
  unfold f_X6_end f_X7_end
  rw [ww_within, t1]
  simp only [Option.bind_some, ww_b01]
  by_cases c : 0 ≤ p1 ∧ p1 ≤ nI n
  · obtain ⟨m, hm, rfl⟩ := ww_le_n (by omega) c
    have e3 : ww_up σ 1 1 (nI m) 62 14 = nI n := by rw [ww_up_ne (by decide)]; exact t2
    refine ⟨nI n, ww_up σ 1 1 (nI m), ww_up (ww_up σ 1 1 (nI m)) 62 14 (nI m), s, d, by rw [if_neg (fun q => q c)], ?_, ?_⟩
    · rw [e3, ww_inI (a := 0) (b := (nI n).toInt64) 0 (nI n) rfl rfl]
      simp only [Option.bind_some, ww_b01]
      rw [if_neg (fun q => q c)]
    · refine ww_Rel_rest h0 (fun a q1 q2 => by rw [ww_up_ne (by omega), ww_up_ne (by omega)]) ?_ ?_ ?_ ?_ ?_ ?_ ?_ ?_ ?_ ?_
      · simp [ww_up_at]
      · simp [ww_up_at]
      · funext b; simp [ww_up_at]
      · simp [ww_up_at]
      · refine ⟨?_, ?_, ?_, ?_, ?_, ?_⟩ <;> (funext b; simp [ww_up_at])
      · refine ⟨m, by omega, by simp [ww_up_at], by simp [ww_up_at], fun i hi => ?_⟩
        obtain ⟨c, g1, g2, g3⟩ := t3 i (by omega)
        exact ⟨c, g1, by simp [ww_up_at]; exact g2, by simp [ww_up_at]; exact g3⟩
      · simp [ww_up_at]; exact r7
      · obtain ⟨m, u1, u2, u3, u4⟩ := r8
        refine ⟨m, u1, by simp [ww_up_at]; exact u2, by simp [ww_up_at]; exact u3, fun i hi => ?_⟩
        simp [ww_up_at]; exact u4 i hi
      · intro j hj
        have := r11 j hj
        rw [ww_up_ne (by omega), ww_up_ne (by omega), ww_up_ne (show 55 + 2 * j ≠ 62 by omega), ww_up_ne (by omega), ww_up_ne (show 77 ≠ 62 by omega), ww_up_ne (by omega), ww_up_ne (show 78 ≠ 62 by omega), ww_up_ne (by omega), ww_up_ne (show 79 ≠ 62 by omega), ww_up_ne (by omega)]
        exact this
      · simp [ww_up_at]; exact r12
  · refine ⟨-1, σ, σ, s, d, by rw [if_pos c], ?_, ww_Rel_up h0⟩
    rw [t2, ww_inI (a := 0) (b := (nI n).toInt64) 0 (nI n) rfl rfl]
    simp only [Option.bind_some, ww_b01]
    rw [if_pos c]
theorem st_forget {k : Nat} {σ : ww_M} {s : ww_S} {d : ww_D1} (hk : k < 64) (h : ww_Rel k σ s d) (p1 : Int32) : ∃ (v : Int32) (σ1 : ww_M) (σ2 : ww_M) (s2 : ww_S) (d2 : ww_D1), f_X6_forget σ p1 = some (v, σ1) ∧ f_X7_forget σ1 62 p1 = some (v, σ2) ∧ ww_Rel (k + 1) σ2 s2 d2 := by
  have h0 := h
  obtain ⟨r1, r2, r3, r4, r5, ⟨l, hl, s1, s2, s3⟩, r7, ⟨n, hn, t1, t2, t3⟩, r9, r10, r11, r12, r13⟩ := h
  unfold f_X6_forget f_X7_forget
  rw [ww_within, t1]
  simp only [Option.bind_some, ww_b01]
  by_cases c : 0 ≤ p1 ∧ p1 ≤ nI n
  · obtain ⟨m, hm, rfl⟩ := ww_le_n (by omega) c
    have e3 : ww_up σ 45 2 (nI m) 62 30 = nI n := by rw [ww_up_ne (by decide)]; exact t2
    refine ⟨nI n, ww_up σ 45 2 (nI m), ww_up (ww_up σ 45 2 (nI m)) 62 30 (nI m), s, d, by rw [if_neg (fun q => q c)], ?_, ?_⟩
    · rw [e3, ww_inI (a := 0) (b := (nI n).toInt64) 0 (nI n) rfl rfl]
      simp only [Option.bind_some, ww_b01]
      rw [if_neg (fun q => q c)]
    · refine ww_Rel_rest h0 (fun a q1 q2 => by rw [ww_up_ne (by omega), ww_up_ne (by omega)]) ?_ ?_ ?_ ?_ ?_ ?_ ?_ ?_ ?_ ?_
      · simp [ww_up_at]
      · simp [ww_up_at]
      · funext b; simp [ww_up_at]
      · simp [ww_up_at]
      · refine ⟨?_, ?_, ?_, ?_, ?_, ?_⟩ <;> (funext b; simp [ww_up_at])
      · refine ⟨l, hl, by simp [ww_up_at]; exact s1, by simp [ww_up_at]; exact s2, fun i hi => ?_⟩
        obtain ⟨c, g1, g2, g3⟩ := s3 i hi
        exact ⟨c, g1, by simp [ww_up_at]; exact g2, by simp [ww_up_at]; exact g3⟩
      · simp [ww_up_at]; exact r7
      · refine ⟨m, by omega, by simp [ww_up_at], by simp [ww_up_at], fun i hi => ?_⟩
        simp [ww_up_at]; exact t3 i (by omega)
      · intro j hj
        have := r11 j hj
        rw [ww_up_ne (by omega), ww_up_ne (by omega), ww_up_ne (show 55 + 2 * j ≠ 62 by omega), ww_up_ne (by omega), ww_up_ne (show 77 ≠ 62 by omega), ww_up_ne (by omega), ww_up_ne (show 78 ≠ 62 by omega), ww_up_ne (by omega), ww_up_ne (show 79 ≠ 62 by omega), ww_up_ne (by omega)]
        exact this
      · simp [ww_up_at]; exact r12
  · refine ⟨-1, σ, σ, s, d, by rw [if_pos c], ?_, ww_Rel_up h0⟩
    rw [t2, ww_inI (a := 0) (b := (nI n).toInt64) 0 (nI n) rfl rfl]
    simp only [Option.bind_some, ww_b01]
    rw [if_pos c]
theorem st_tell {k : Nat} {σ : ww_M} {s : ww_S} {d : ww_D1} (hk : k < 64) (h : ww_Rel k σ s d) (p1 p2 : Int32) : ∃ (v : Int32) (σ1 : ww_M) (σ2 : ww_M) (s2 : ww_S) (d2 : ww_D1), f_X6_tell σ p1 p2 = some (v, σ1) ∧ f_X7_tell σ1 62 p1 p2 = some (v, σ2) ∧ ww_Rel (k + 1) σ2 s2 d2 := by
  have h0 := h
  obtain ⟨r1, r2, r3, r4, r5, ⟨l, hl, s1, s2, s3⟩, r7, ⟨n, hn, t1, t2, t3⟩, r9, r10, r11, r12, r13⟩ := h
  unfold f_X6_tell f_X7_tell f_X3_add
  rw [ww_within, ww_within, ww_inI (a := 0) (b := 3) 0 3 rfl rfl, ww_inI (a := 0) (b := 99) 0 99 rfl rfl]
  simp only [Option.bind_some, ww_b01]
  by_cases c : 0 ≤ p1 ∧ p1 ≤ 3
  · have hcc : ¬ ¬ (0 ≤ p1 ∧ p1 ≤ 3) := fun q => q c
    simp only [if_neg hcc]
    by_cases c2 : 0 ≤ p2 ∧ p2 ≤ 99
    · have hcc2 : ¬ ¬ (0 ≤ p2 ∧ p2 ≤ 99) := fun q => q c2
      simp only [if_neg hcc2, t1]
      by_cases f : n < 6
      · have e1 : ww_up σ (45 + 1) n p1 45 2 = nI n := by rw [ww_up_ne (by decide)]; exact t1
        have e2 : ww_up (ww_up σ (45 + 1) n p1) (45 + 2) n p2 45 2 = nI n := by rw [ww_up_ne (by decide)]; exact e1
        rw [if_pos (show nI n < 6 from nI_lt (b := 6) f (by omega)), ww_ck_t (ww_in_n f (by omega)), ww_ix_n (by omega), e1, ww_ck_t (ww_in_n f (by omega)), ww_ix_n (by omega), e2, nI_1]
        simp only [Option.bind_some]
        rw [if_neg (by decide)]
        have e3 : ww_up (ww_up (ww_up σ (45 + 1) n p1) (45 + 2) n p2) 45 2 (nI (n + 1)) 45 2 = nI (n + 1) := by rw [ww_up_eq, pk_us]
        rw [e3]
        refine ⟨nI (n + 1), _, ww_up (ww_up (ww_up (ww_up (ww_up (ww_up σ (45 + 1) n p1) (45 + 2) n p2) 45 2 (nI (n + 1))) (62 + 13) (2 * n) p1) (62 + 13) (2 * n + 1) p2) 62 30 (nI (n + 1)), s, d, rfl, ?_, ?_⟩
        · generalize hσ : ww_up (ww_up (ww_up σ (45 + 1) n p1) (45 + 2) n p2) 45 2 (nI (n + 1)) = τ
          have g1 : τ 62 30 = nI n := by rw [← hσ]; simp [ww_up_at]; exact t2
          have g2 : ww_up τ (62 + 13) (2 * n) p1 62 30 = nI n := by simp [ww_up_at]; exact g1
          have g3 : ww_up (ww_up τ (62 + 13) (2 * n) p1) (62 + 13) (2 * n + 1) p2 62 30 = nI n := by simp [ww_up_at]; exact g1
          rw [g1, if_neg (show ¬ nI n = 6 from fun e => absurd ((nI_eq (b := 6) (by omega) (by omega)).mp e) (by omega)), show (2 : Int32) * nI n = nI (2 * n) from pk_mul 2 n, ww_ck_t (ww_in_n (by omega) (by omega)), ww_ix_n (by omega), g2, show (2 : Int32) * nI n = nI (2 * n) from pk_mul 2 n, nI_1, ww_ck_t (ww_in_n (by omega) (by omega)), ww_ix_n (by omega), g3, nI_1, ww_up_eq (ww_up (ww_up τ (62 + 13) (2 * n) p1) (62 + 13) (2 * n + 1) p2) 62, pk_us]
        · refine ww_Rel_rest h0 (fun a q1 q2 => by rw [ww_up_ne (by omega), ww_up_ne (by omega), ww_up_ne (by omega), ww_up_ne (by omega), ww_up_ne (by omega), ww_up_ne (by omega)]) ?_ ?_ ?_ ?_ ?_ ?_ ?_ ?_ ?_ ?_
          · simp [ww_up_at]
          · simp [ww_up_at]
          · funext b; simp [ww_up_at]
          · simp [ww_up_at]
          · refine ⟨?_, ?_, ?_, ?_, ?_, ?_⟩ <;> (funext b; simp [ww_up_at])
          · refine ⟨l, hl, by simp [ww_up_at]; exact s1, by simp [ww_up_at]; exact s2, fun i hi => ?_⟩
            obtain ⟨c, g1, g2, g3⟩ := s3 i hi
            exact ⟨c, g1, by simp [ww_up_at]; exact g2, by simp [ww_up_at]; exact g3⟩
          · simp [ww_up_at]; exact r7
          · refine ⟨n + 1, by omega, by simp [ww_up_at], by simp [ww_up_at], fun i hi => ?_⟩
            by_cases e : i = n
            · subst e
              refine ⟨?_, ?_⟩
              · simp [ww_up_at]
              · simp [ww_up_at]
            · have z1 : ¬ 2 * i = 2 * n + 1 := by omega
              have z2 : ¬ 2 * i = 2 * n := by omega
              have z3 : ¬ 2 * i + 1 = 2 * n + 1 := by omega
              have z4 : ¬ 2 * i + 1 = 2 * n := by omega
              refine ⟨?_, ?_⟩
              · simp only [ww_up_at, if_neg z1, if_neg z2, if_neg e]
                simp; exact (t3 i (by omega)).1
              · simp only [ww_up_at, if_neg z3, if_neg z4, if_neg e]
                simp; exact (t3 i (by omega)).2
          · intro j hj
            have := r11 j hj
            have q : ∀ a, 54 ≤ a → a ≠ 62 → a ≠ 75 → ww_up (ww_up (ww_up (ww_up (ww_up (ww_up σ (45 + 1) n p1) (45 + 2) n p2) 45 2 (nI (n + 1))) (62 + 13) (2 * n) p1) (62 + 13) (2 * n + 1) p2) 62 30 (nI (n + 1)) a = σ a := fun a z1 z2 z3 => by rw [ww_up_ne (by omega), ww_up_ne (by omega), ww_up_ne (by omega), ww_up_ne (by omega), ww_up_ne (by omega), ww_up_ne (by omega)]
            rw [q _ (by omega) (by omega) (by omega), q _ (by omega) (by omega) (by omega), q 77 (by omega) (by omega) (by omega), q 78 (by omega) (by omega) (by omega), q 79 (by omega) (by omega) (by omega)]
            exact this
          · simp [ww_up_at]; exact r12
      · have hn' : n = 6 := by omega
        subst hn'
        rw [if_neg (show ¬ nI 6 < 6 by decide)]
        refine ⟨-3, σ, σ, s, d, rfl, ?_, ww_Rel_up h0⟩
        rw [t2, if_pos (show nI 6 = 6 from rfl)]
    · simp only [if_pos c2]
      exact ⟨-1, σ, σ, s, d, rfl, rfl, ww_Rel_up h0⟩
  · simp only [if_pos c]
    exact ⟨-1, σ, σ, s, d, rfl, rfl, ww_Rel_up h0⟩
