/-- a change of what is neither shore nor image nor memo -/
theorem ww_Rel_rest {k : Nat} {σ τ : ww_M} {s : ww_S} {d : ww_D1} (h : ww_Rel k σ s d) (hc : ∀ a, 4 ≤ a → a ≤ 44 → τ a = σ a) (h0 : τ 0 5 = σ 0 5) (h48 : τ 48 8 = σ 48 8) (h49 : τ 49 = σ 49) (h62 : τ 62 3 = σ 62 3 ∧ τ 62 2 = σ 62 2 ∧ τ 62 5 = σ 62 5) (hm : τ 63 = σ 63 ∧ τ 64 = σ 64 ∧ τ 65 = σ 65 ∧ τ 70 = σ 70 ∧ τ 71 = σ 71 ∧ τ 76 = σ 76) (hT : ww_RT (τ 1 1) (τ 62 14) (τ 2) (τ 69)) (hF : τ 3 0 = τ 62 15) (hTo : ww_RTold (τ 45 2) (τ 62 30) (τ 46) (τ 47) (τ 75)) (hSh : ∀ j, j < 4 → ww_RSh (τ (54 + 2 * j) 1) (τ (54 + 2 * j) 2) (τ (55 + 2 * j)) (τ 77 j) (τ 78 j) (fun i => τ 79 (40 * j + i))) (h9 : τ 0 9 = τ 62 35) : ww_Rel (k + 1) τ s d := by
  obtain ⟨r1, r2, r3, r4, r5, r6, r7, r8, ⟨n, q1, q2, q3⟩, ⟨kb, k1, k2, k3⟩, r11, r12, r13, r14⟩ := h
  obtain ⟨m1, m2, m3, m4, m5, m6⟩ := hm
  refine ⟨r1, r2, ww_ClsA_ext r3 (fun a h1 h2 => hc a (by omega) (by omega)), ?_, by rw [m1]; exact r5, hT, hF, hTo, ⟨n, by omega, by rw [h48]; exact q2, by rw [h49]; exact q3⟩, ⟨kb, k1, by rw [h0]; exact k2, fun j hj => ⟨by rw [m6]; exact (k3 j hj).1, fun ht => ?_⟩⟩, hSh, h9, by rw [m4]; exact r13, by rw [m5]; exact r14⟩
  · rw [h62.1, h62.2.1, h62.2.2, m2, m3]; exact r4
  · obtain ⟨d2, e1, e2, e3⟩ := (k3 j hj).2 ht
    exact ⟨d2, e1, ww_ClsA_ext e2 (fun a h1 h2 => hc a (by omega) (by omega)), by rw [m1]; exact e3⟩
theorem st_feed {k : Nat} {σ : ww_M} {s : ww_S} {d : ww_D1} (hk : k < 64) (h : ww_Rel k σ s d) (p1 : Int32) : ∃ (v : Int32) (σ1 : ww_M) (σ2 : ww_M) (s2 : ww_S) (d2 : ww_D1), f_X6_feed σ p1 = some (v, σ1) ∧ f_X7_feed σ1 62 p1 = some (v, σ2) ∧ ww_Rel (k + 1) σ2 s2 d2 := by
  have h0 := h
  obtain ⟨r1, r2, r3, r4, r5, ⟨n, hn, t1, t2, t3⟩, r7, r8, r9, r10, r11, r12, r13⟩ := h
  unfold f_X6_feed f_X7_feed f_X4_add
  rw [ww_within, ww_inI (a := 0) (b := 127) 0 127 rfl rfl]
  simp only [Option.bind_some, ww_b01]
  by_cases c : 0 ≤ p1 ∧ p1 ≤ 127
  · obtain ⟨x, -, hx, rfl⟩ := ww_btw (a := 0) (b := 127) (by omega) c (by omega)
    have hcc : ¬ ¬ (0 ≤ nI x ∧ nI x ≤ 127) := fun q => q c
    simp only [if_neg hcc, t1]
    by_cases f : n < 160
    · have hb : vp_nar .byte (nI x).toInt8.toInt32 = nI x := by rw [fa_byte_small (by omega), vp_nar_byte, fa_byte_small (by omega)]
      rw [if_pos (show nI n < 160 from nI_lt (b := 160) f (by omega)), ww_ck_t (ww_in_n f (by omega)), ww_ix_n (by omega), hb]
      simp only [Option.bind_some]
      rw [if_neg (by decide)]
      have e1 : ww_up σ (1 + 1) n (nI x) 1 1 = nI n := by rw [ww_up_ne (by decide)]; exact t1
      rw [e1, nI_1]
      have e2 : ww_up (ww_up σ (1 + 1) n (nI x)) 1 1 (nI (n + 1)) 1 1 = nI (n + 1) := by rw [ww_up_eq, pk_us]
      rw [e2]
      refine ⟨nI (n + 1), _, ww_up (ww_up (ww_up (ww_up σ (1 + 1) n (nI x)) 1 1 (nI (n + 1))) (62 + 7) n (nI x)) 62 14 (nI (n + 1)), s, d, rfl, ?_, ?_⟩
      · have e3 : ww_up (ww_up σ (1 + 1) n (nI x)) 1 1 (nI (n + 1)) 62 14 = nI n := by rw [ww_up_ne (by decide), ww_up_ne (by decide)]; exact t2
        rw [e3, if_neg (show ¬ nI n = 160 from fun e => absurd ((nI_eq (b := 160) (by omega) (by omega)).mp e) (by omega)), ww_ck_t (ww_in_n f (by omega)), ww_ix_n (by omega)]
        have e4 : ww_up (ww_up (ww_up σ (1 + 1) n (nI x)) 1 1 (nI (n + 1))) (62 + 7) n (nI x) 62 14 = nI n := by rw [ww_up_ne (by decide)]; exact e3
        rw [e4, nI_1, ww_up_eq (ww_up (ww_up (ww_up σ (1 + 1) n (nI x)) 1 1 (nI (n + 1))) (62 + 7) n (nI x)) 62, pk_us]
      · refine ww_Rel_rest h0 (fun a q1 q2 => by rw [ww_up_ne (by omega), ww_up_ne (by omega), ww_up_ne (by omega), ww_up_ne (by omega)]) ?_ ?_ ?_ ?_ ?_ ?_ ?_ ?_ ?_ ?_
        · simp [ww_up_at]
        · simp [ww_up_at]
        · funext b; simp [ww_up_at]
        · simp [ww_up_at]
        · refine ⟨?_, ?_, ?_, ?_, ?_, ?_⟩ <;> (funext b; simp [ww_up_at])
        · refine ⟨n + 1, by omega, by simp [ww_up_at], by simp [ww_up_at], fun i hi => ?_⟩
          by_cases e : i = n
          · subst e; exact ⟨x, by omega, by simp [ww_up_at], by simp [ww_up_at]⟩
          · obtain ⟨c, g1, g2, g3⟩ := t3 i (by omega)
            exact ⟨c, g1, by simp [ww_up_at, e]; exact g2, by simp [ww_up_at, e]; exact g3⟩
        · simp [ww_up_at]; exact r7
        · obtain ⟨m, u1, u2, u3, u4⟩ := r8
          refine ⟨m, u1, by simp [ww_up_at]; exact u2, by simp [ww_up_at]; exact u3, fun i hi => ?_⟩
          simp [ww_up_at]; exact u4 i hi
        · intro j hj
          have := r11 j hj
          rw [ww_up_ne (by omega), ww_up_ne (by omega), ww_up_ne (by omega), ww_up_ne (by omega), ww_up_ne (show 55 + 2 * j ≠ 62 by omega), ww_up_ne (by omega), ww_up_ne (by omega), ww_up_ne (by omega), ww_up_ne (show 77 ≠ 62 by omega), ww_up_ne (by omega), ww_up_ne (by omega), ww_up_ne (by omega), ww_up_ne (show 78 ≠ 62 by omega), ww_up_ne (by omega), ww_up_ne (by omega), ww_up_ne (by omega), ww_up_ne (show 79 ≠ 62 by omega), ww_up_ne (by omega), ww_up_ne (by omega), ww_up_ne (by omega)]
          exact this
        · simp [ww_up_at]; exact r12
    · have hn' : n = 160 := by omega
      subst hn'
      rw [if_neg (show ¬ nI 160 < 160 by decide)]
      refine ⟨-3, σ, σ, s, d, rfl, ?_, ww_Rel_up h0⟩
      rw [t2, if_pos (show nI 160 = 160 from rfl)]
  · simp only [if_pos c]
    exact ⟨-1, σ, σ, s, d, rfl, rfl, ww_Rel_up h0⟩
