/-! ===== the model: water ===== -/
abbrev ww_MS (σ : ww_M) (s : ww_S) : Prop := ww_ModS (σ 62 3) (σ 62 2) (σ 62 5) (σ 64) (σ 65) s
theorem sm_isWet {σ : ww_M} {i h : Nat} {s : ww_S} {d : ww_D1} (hs : ww_okS s) (hd : ww_okD s d) (hM : ww_MS σ s) (hD : ww_ModD (σ 63) 0 s d) (hh : h < 100000) (hi : i < sNp s) : f_X7_isWet σ 62 (nI i) (nI h) = some (if ww_wet s d i h then 1 else 0) := by
  have hnp := hs.1
  have hl1 := hs.2.1
  have hl2 := hs.2.2.1
  have hm : h % sNl s < sNl s := Nat.mod_lt _ (by omega)
  have hl : sLvl s h ≤ 9 := hs.2.2.2.2.1 _ hm
  have hmk := (hd.2.2.2.2.2.2.1 i hi).2
  have m := (hD.2.2.1 i hi).2
  rw [Nat.zero_add] at m
  unfold f_X7_isWet
  rw [hM.2.1, ww_ck_t (show ww_nz (nI (sNl s)) = true from decide_eq_true (nI_ne0 (by omega) (by omega))), show ww_rem (nI h) (nI (sNl s)) = nI (h % sNl s) from pk_rem (by omega) (by omega) (by omega), ww_ck_t (ww_in_n (by omega) (by omega)), ww_ix_n (by omega), show (2 : Int32) * nI i + 1 = nI (2 * i + 1) from by rw [show (2 : Int32) * nI i = nI (2 * i) from pk_mul 2 i, nI_1], ww_ck_t (ww_in_n (by omega) (by omega)), ww_ix_n (by omega), show σ (62 + 2) (h % sNl s) = nI (sLvl s h) from hM.2.2.2.1 _ hm, show σ (62 + 1) (2 * i + 1) = nI (dMark d i) from m]
  by_cases c : dMark d i < sLvl s h
  · rw [if_neg (nI_ge c (by omega))]; simp [ww_wet, c]
  · rw [if_pos (nI_le (by omega) (by omega))]; simp [ww_wet, c]
theorem sm_floatsIn {σ : ww_M} {a n h : Nat} {s : ww_S} {d : ww_D1} (hs : ww_okS s) (hd : ww_okD s d) (hM : ww_MS σ s) (hD : ww_ModD (σ 63) 0 s d) (hh : h < 100000) (hn : a + n ≤ sNp s) : f_X7_floatsIn σ 62 (nI a) (nI n) (nI h) = some (if ww_flA s d a n h then 1 else 0) := by
  have hnp := hs.1
  unfold f_X7_floatsIn f_X7_floatsIn_j6 f_X7_floatsIn_j42
  have key : ww_it (f_X7_floatsIn_b6 σ 62 (nI a) (nI n) (nI h)) ww_F ((if ww_flA s d a 0 h then 1 else 0), nI (a + 0)) = some (if ww_flA s d a n h then 1 else 0) := by
    refine ww_it_for (fun i => ((if ww_flA s d a i h then 1 else 0), nI (a + i))) n (by omega) (fun i hi => ?_) ?_
    · unfold f_X7_floatsIn_b6
      simp only
      rw [nI_add, if_neg (nI_ge (by omega) (by omega)), sm_isWet hs hd hM hD hh (by omega), nI_1]
      have e : ww_flA s d a (i + 1) h = (ww_flA s d a i h && ww_wet s d (a + i) h) := by
        simp [ww_flA, List.range_succ, List.all_append]
      rw [e]
      cases h1 : ww_flA s d a i h
      · simp [Nat.add_assoc]
      · cases h2 : ww_wet s d (a + i) h <;> simp [Nat.add_assoc]
    · unfold f_X7_floatsIn_b6
      simp only
      rw [nI_add, if_pos (nI_le (Nat.le_refl _) (by omega))]
  have key' : ww_it (f_X7_floatsIn_b6 σ 62 (nI a) (nI n) (nI h)) ww_F (1, nI a) = some (if ww_flA s d a n h then 1 else 0) := by
    have e0 : ww_flA s d a 0 h = true := rfl
    rw [e0] at key
    exact key
  rw [key']
  simp only [Option.bind_some]
  cases ww_flA s d a n h <;> rfl
theorem sm_lostfor {s : ww_S} {d : ww_D1} {h i : Nat} (hi : i < 3) : dsLost (dsLost d (fun b => dLost d b || (decide (b < i) && ww_flt s d b h))) (fun b => decide (b = i) || (dLost d b || (decide (b < i) && ww_flt s d b h))) = dsLost d (fun b => decide (b = i) || (dLost d b || (decide (b < i) && ww_flt s d b h))) := rfl
theorem sm_floatsNow {σ : ww_M} {s : ww_S} {d : ww_D1} (hs : ww_okS s) (hd : ww_okD s d) (hM : ww_MS σ s) (hD : ww_ModD (σ 63) 0 s d) : ∃ τ, f_X7_floatsNow σ 62 = some τ ∧ ww_ModD (τ 63) 0 s (ww_lose s d (dHr d)) ∧ (∀ a, a ≠ 63 → τ a = σ a) ∧ ∀ j, 50 ≤ j → τ 63 j = σ 63 j := by
  have hnb := hs.2.2.2.1
  have hnp := hs.1
  have hr := hd.2.2.2.2.2.1
  unfold f_X7_floatsNow f_X7_floatsNow_j2 f_X7_floatsNow_j58
  have key : ∀ n i τ, n = sNb s - i → i ≤ sNb s → ww_ModD (τ 63) 0 s (dsLost d (fun b => dLost d b || (decide (b < i) && ww_flt s d b (dHr d)))) → (∀ a, a ≠ 63 → τ a = σ a) → (∀ j, 50 ≤ j → τ 63 j = σ 63 j) → ∀ fuel, n < fuel → ∃ τ', ww_it (f_X7_floatsNow_b2 62) fuel (nI i, τ) = some τ' ∧ ww_ModD (τ' 63) 0 s (ww_lose s d (dHr d)) ∧ (∀ a, a ≠ 63 → τ' a = σ a) ∧ ∀ j, 50 ≤ j → τ' 63 j = σ 63 j := by
    intro n
    induction n with
    | zero =>
      intro i τ hn hi h1 h2 h3 fuel hf
      obtain ⟨f, rfl⟩ : ∃ f, fuel = f + 1 := ⟨fuel - 1, by omega⟩
      have hi' : i = sNb s := by omega
      subst hi'
      refine ⟨τ, ww_it_done ?_, h1, h2, h3⟩
      unfold f_X7_floatsNow_b2
      simp only
      rw [h2 62 (by decide), hM.2.2.1, if_pos (nI_le (Nat.le_refl _) (by omega))]
    | succ n ih =>
      intro i τ hn hi h1 h2 h3 fuel hf
      obtain ⟨f, rfl⟩ : ∃ f, fuel = f + 1 := ⟨fuel - 1, by omega⟩
      have hin : i < sNb s := by omega
      have h6 := hs.2.2.2.2.2.1 i hin
      have hMt : ww_MS τ s := by
        unfold ww_MS
        rw [h2 62 (by decide), h2 64 (by decide), h2 65 (by decide)]; exact hM
      have hdi : ww_okD s (dsLost d (fun b => dLost d b || (decide (b < i) && ww_flt s d b (dHr d)))) := by
        obtain ⟨d1, d2, d3, d4, d5, d6, d7, d8, d9⟩ := hd
        refine ⟨d1, d2, d3, d4, d5, d6, d7, d8, fun b hb => ?_⟩
        show (dLost d b || (decide (b < i) && ww_flt s d b (dHr d))) = false
        have : ¬ b < i := by omega
        simp [this, d9 b hb]
      have hbody : f_X7_floatsNow_b2 62 (nI i, τ) = some (.inl (nI (i + 1), if ww_flt s d i (dHr d) then ww_up τ 63 (15 + i) 1 else τ)) := by
        unfold f_X7_floatsNow_b2
        simp only
        have e45 : τ (62 + 1) 45 = nI (dHr d) := h1.1.2.2.2
        rw [h2 62 (by decide), hM.2.2.1, if_neg (nI_ge hin (by omega)), show (2 : Int32) * nI i = nI (2 * i) from pk_mul 2 i, ww_ck_t (ww_in_n (by omega) (by omega)), nI_1, ww_ck_t (ww_in_n (by omega) (by omega)), ww_ix_n (by omega), ww_ix_n (by omega), show τ (62 + 3) (2 * i) = nI (sHd s i) from (hMt.2.2.2.2 i hin).1, show τ (62 + 3) (2 * i + 1) = nI (sPt s i) from (hMt.2.2.2.2 i hin).2, e45, sm_floatsIn hs hdi hMt h1 (by omega) (by omega)]
        have ef : ww_flA s (dsLost d (fun b => dLost d b || (decide (b < i) && ww_flt s d b (dHr d)))) (sHd s i) (sPt s i) (dHr d) = ww_flt s d i (dHr d) := rfl
        rw [ef]
        cases hq : ww_flt s d i (dHr d)
        · simp [nI_1]
        · simp only [Option.bind_some, if_true]
          rw [if_neg (by decide), show (15 : Int32) + nI i = nI (15 + i) from nI_add 15 i, ww_ck_t (ww_in_n (by omega) (by omega)), ww_ix_n (by omega), nI_1]
      have hstep : ww_ModD ((if ww_flt s d i (dHr d) then ww_up τ 63 (15 + i) 1 else τ) 63) 0 s (dsLost d (fun b => dLost d b || (decide (b < i + 1) && ww_flt s d b (dHr d)))) := by
        cases hq : ww_flt s d i (dHr d)
        · have e : (fun b => dLost d b || (decide (b < i + 1) && ww_flt s d b (dHr d))) = (fun b => dLost d b || (decide (b < i) && ww_flt s d b (dHr d))) := by
            funext b
            by_cases c : b = i
            · subst c; simp [hq]
            · have : (b < i + 1) ↔ (b < i) := by omega
              simp [this]
          rw [e]; exact h1
        · have e : (fun b => dLost d b || (decide (b < i + 1) && ww_flt s d b (dHr d))) = (fun b => decide (b = i) || (dLost d b || (decide (b < i) && ww_flt s d b (dHr d)))) := by
            funext b
            by_cases c : b = i
            · subst c; simp [hq]
            · have : (b < i + 1) ↔ (b < i) := by omega
              simp [this, c]
          rw [e]
          have := um_lost (pg := 0) hs h1 (q := i) (by omega)
          rw [Nat.zero_add] at this
          simp only [if_true]
          rw [ww_up_eq]
          exact this
      obtain ⟨τ', g1, g2⟩ := ih (i + 1) (if ww_flt s d i (dHr d) then ww_up τ 63 (15 + i) 1 else τ) (by omega) (by omega) hstep (fun a ha => by split <;> first | (rw [ww_up_ne ha]; exact h2 a ha) | exact h2 a ha) (fun j hj => by split <;> first | (rw [ww_up_eq, pk_un (by omega)]; exact h3 j hj) | exact h3 j hj) f (by omega)
      exact ⟨τ', ww_it_more hbody g1, g2⟩
  have h1 : ww_ModD (σ 63) 0 s (dsLost d (fun b => dLost d b || (decide (b < 0) && ww_flt s d b (dHr d)))) := by
    have e : (fun b => dLost d b || (decide (b < 0) && ww_flt s d b (dHr d))) = dLost d := by funext b; simp
    rw [e]; exact hD
  obtain ⟨τ, g1, g2⟩ := key (sNb s) 0 σ (by omega) (by omega) h1 (fun _ _ => rfl) (fun _ _ => rfl) ww_F (by unfold ww_F; omega)
  have g1' : ww_it (f_X7_floatsNow_b2 62) ww_F (0, σ) = some τ := g1
  rw [g1']
  exact ⟨τ, rfl, g2⟩
theorem ww_lose_ok {s : ww_S} {d : ww_D1} (hd : ww_okD s d) (h9 : dHr d ≤ 999) : ww_okH s (ww_lose s d (dHr d)) := by
  obtain ⟨d1, d2, d3, d4, d5, d6, d7, d8, d9⟩ := hd
  refine ⟨⟨d1, d2, d3, d4, d5, d6, d7, d8, fun b hb => ?_⟩, h9, fun b hb hf => ?_⟩
  · show (dLost d b || (decide (b < sNb s) && ww_flt s d b (dHr d))) = false
    have : ¬ b < sNb s := by omega
    simp [this, d9 b hb]
  · show (dLost d b || (decide (b < sNb s) && ww_flt s d b (dHr d))) = true
    have hf' : ww_flt s d b (dHr d) = true := hf
    simp [hb, hf']
/-- nothing floats that isn't lost: losing changes nothing -/
theorem ww_lose_id {s : ww_S} {d : ww_D1} (h : ∀ b, b < sNb s → ww_flt s d b (dHr d) = true → dLost d b = true) : ww_lose s d (dHr d) = d := by
  have e : (fun b => dLost d b || (decide (b < sNb s) && ww_flt s d b (dHr d))) = dLost d := by
    funext b
    by_cases c : b < sNb s
    · cases hf : ww_flt s d b (dHr d)
      · simp
      · simp [h b c hf]
    · simp [c]
  unfold ww_lose
  rw [e]
  rfl
theorem st_wet {k : Nat} {σ : ww_M} {s : ww_S} {d : ww_D1} (hk : k < 64) (h : ww_Rel k σ s d) (p1 : Int32) : ∃ (v : Int32) (s2 : ww_S) (d2 : ww_D1), f_X6_wet σ p1 = some v ∧ f_X7_wet σ 62 p1 = some v ∧ ww_Rel (k + 1) σ s2 d2 := by
  have h0 := ww_Rel_up h
  obtain ⟨r1, ⟨hd, -⟩, hC, hM, hD, r6⟩ := h
  have hnp := r1.1
  unfold f_X6_wet f_X7_wet
  rw [ww_within]
  simp only [Option.bind_some, ww_b01, ww_inI (a := 0) (b := 999) 0 999 rfl rfl]
  by_cases c : 0 ≤ p1 ∧ p1 ≤ 999
  · obtain ⟨n, -, hn, rfl⟩ := ww_btw (a := 0) (b := 999) (by omega) c (by omega)
    have hcc : ¬ ¬ (0 ≤ nI n ∧ nI n ≤ 999) := fun q => q c
    simp only [if_neg hcc]
    rw [sp_wetPlaces r1 hd hC (by omega)]
    refine ⟨_, s, d, rfl, ?_, h0⟩
    unfold f_X7_wet_j18 f_X7_wet_j51
    have key : ww_it (f_X7_wet_b18 σ 62 (nI n)) ww_F (nI (ww_bits (fun i => ww_wet s d i n) 0), nI 0) = some (nI (ww_bits (fun i => ww_wet s d i n) (sNp s))) := by
      refine ww_it_for (fun i => (nI (ww_bits (fun i => ww_wet s d i n) i), nI i)) (sNp s) (by omega) (fun i hi => ?_) ?_
      · unfold f_X7_wet_b18
        simp only
        rw [hM.1, if_neg (nI_ge hi (by omega)), sm_isWet r1 hd hM hD (by omega) hi, nI_1, ww_shl1 (by omega), fa_or, show nI (ww_bits (fun i => ww_wet s d i n) i) ||| 0 = nI (ww_bits (fun i => ww_wet s d i n) i ||| 0) from fa_or _ 0]
        have e := bt_or (fun i => ww_wet s d i n) i
        rw [← e]
        cases hq : ww_wet s d i n <;> simp [hq]
      · unfold f_X7_wet_b18
        simp only
        rw [hM.1, if_pos (nI_le (Nat.le_refl _) (by omega))]
    have key' : ww_it (f_X7_wet_b18 σ 62 (nI n)) ww_F (0, 0) = some (nI (ww_bits (fun i => ww_wet s d i n) (sNp s))) := key
    rw [key']
    rfl
  · simp only [if_pos c]
    exact ⟨_, s, d, rfl, rfl, h0⟩
