/-! ===== an hour ===== -/
def ww_wkD (s : ww_S) (d : ww_D1) (b p : Nat) : ww_D1 := dsWk d (ww_un2 (dWk d) b p (dWk d b p - 1))
def ww_wk1 (s : ww_S) (d : ww_D1) (x : Option (Nat × Nat)) : Nat × ww_D1 := match x with
  | none => (0, d)
  | some q => if dWk d q.1 q.2 ≤ 1 then (ww_wor d q.1 q.2 (dHr d) (dRot d), dsWon (ww_wkD s d q.1 q.2) (upd (dWon d) (ww_own s d (dLaw d) q.1 q.2) (dWon d (ww_own s d (dLaw d) q.1 q.2) + nI (ww_wor d q.1 q.2 (dHr d) (dRot d))))) else (0, ww_wkD s d q.1 q.2)
def ww_ow (s : ww_S) (d : ww_D1) (x : Option (Nat × Nat)) : Prop := ∀ q, x = some q → ww_vld s q.1 q.2 = true ∧ 1 ≤ dWk d q.1 q.2
theorem ww_okD_wk {s : ww_S} {d : ww_D1} {b p : Nat} (hd : ww_okD s d) : ww_okD s (ww_wkD s d b p) := by
  obtain ⟨d1, d2, d3, d4, d5, d6, d7, d8, d9⟩ := hd
  refine ⟨d1, d2, d3, d4, d5, d6, d7, fun b1 hb1 p1 hp1 => ⟨(d8 b1 hb1 p1 hp1).1, ?_, (d8 b1 hb1 p1 hp1).2.2⟩, d9⟩
  show ww_un2 (dWk d) b p (dWk d b p - 1) b1 p1 ≤ 3
  unfold ww_un2
  split
  · rename_i e
    obtain ⟨rfl, rfl⟩ := e
    have := (d8 _ hb1 _ hp1).2.1
    omega
  · exact (d8 b1 hb1 p1 hp1).2.1
theorem ww_okD_wk1 {s : ww_S} {d : ww_D1} {x : Option (Nat × Nat)} (hd : ww_okD s d) : ww_okD s (ww_wk1 s d x).2 := by
  cases x with
  | none => exact hd
  | some q =>
    simp only [ww_wk1]
    split
    · exact ww_okD_wk (b := q.1) (p := q.2) hd
    · exact ww_okD_wk hd
theorem ww_wk1_hr {s : ww_S} {d : ww_D1} {x : Option (Nat × Nat)} : dHr (ww_wk1 s d x).2 = dHr d := by
  cases x with
  | none => rfl
  | some q => simp only [ww_wk1]; split <;> rfl
theorem sp_workAt {σ : ww_M} {o : Nat} {s : ww_S} {d : ww_D1} {x : Option (Nat × Nat)} (h : ww_CL1 σ o s d) (hx : ww_ow s d x) : ∃ τ, f_X2_workAt σ o (ww_enC x) = some (nI (ww_wk1 s d x).1, τ) ∧ ww_ClsA τ o s (ww_wk1 s d x).2 ∧ ∀ a, a < o ∨ o + 10 ≤ a → τ a = σ a := by
  have h0 := h
  obtain ⟨hs, hd, hC⟩ := h
  cases x with
  | none =>
    refine ⟨σ, ?_, hC, fun a ha => rfl⟩
    unfold f_X2_workAt
    rw [show ww_enC none = -1 from rfl, sp_hasSlot_no]
    rfl
  | some q =>
    obtain ⟨b, p⟩ := q
    obtain ⟨hv, hw⟩ := hx _ rfl
    simp only at hv hw
    have h3 := ww_vld3 hs hv
    have q := ww_vld_iff.mp hv
    have hr := hd.2.2.2.2.2.1
    have hw3 := (hd.2.2.2.2.2.2.2.1 _ q.1 _ q.2).2.1
    have e7 := (hC.2.2.2.2.2.1 _ q.1 _ q.2).2.1
    have hC2 : ww_ClsA (ww_up σ (o + 7) (3 * b + p) (nI (dWk d b p - 1))) o s (ww_wkD s d b p) := uc_wk hs hC (dWk d b p - 1) q.1 q.2
    have hd2 := ww_okD_wk (b := b) (p := p) hd
    have hCL2 : ww_CL1 (ww_up σ (o + 7) (3 * b + p) (nI (dWk d b p - 1))) o s (ww_wkD s d b p) := ⟨hs, hd2, hC2⟩
    unfold f_X2_workAt
    simp only [ww_enC]
    rw [sp_hasSlot h0 (by omega), (n_dr3 h3.2).1, (n_dr3 h3.2).2, hv]
    simp only [Option.bind_some, if_true, if_neg (show ¬ (1 : Int32) = 0 by decide), n_in (show 3 * b + p < 9 by omega) (by omega), n_ckt, n_ix (show 3 * b + p < 2147483648 by omega), e7, show nI (dWk d b p) - 1 = nI (dWk d b p - 1) from pk_sub (b := 1) hw]
    rw [hC2.2.1.2.2.2.1, hC2.2.1.2.1, hC2.2.1.1, sp_worthIn hCL2 hv (by show dHr d < 100000; omega) hd2.2.1 hd2.2.2.1, sp_ownerBy hCL2 hv hd2.1]
    simp only [Option.bind_some]
    have ho := ww_own_le (law := dLaw d) hs hd2 hv
    have e9 : ww_up σ (o + 7) (3 * b + p) (nI (dWk d b p - 1)) (o + 7) (3 * b + p) = nI (dWk d b p - 1) := by rw [ww_up_eq, pk_us]
    rw [e9]
    have eo : ww_own s (ww_wkD s d b p) (dLaw (ww_wkD s d b p)) b p = ww_own s d (dLaw d) b p := rfl
    have ew : ww_wor (ww_wkD s d b p) b p (dHr (ww_wkD s d b p)) (dRot (ww_wkD s d b p)) = ww_wor d b p (dHr d) (dRot d) := rfl
    have ho' : ww_own s d (dLaw d) b p ≤ 3 := ho
    rw [eo, ew]
    by_cases c : dWk d b p ≤ 1
    · have hc1 : nI (dWk d b p - 1) ≤ 0 := nI_le (b := 0) (by omega) (by omega)
      rw [if_pos hc1, ww_ck_t (ww_in_n (by omega) (by omega)), ww_ck_t (ww_in_n (by omega) (by omega)), ww_ix_n (by omega)]
      simp only [ww_wk1, if_pos c]
      refine ⟨_, rfl, ?_, fun a ha => ?_⟩
      · have e10 : ww_up σ (o + 7) (3 * b + p) (nI (dWk d b p - 1)) (o + 9) (ww_own s d (dLaw d) b p) = dWon d (ww_own s d (dLaw d) b p) := hC2.2.2.2.2.2.2 _ (by omega)
        rw [e10]
        exact uc_won hs hC2 _
      · rw [ww_up_ne (by omega), ww_up_ne (by omega)]
    · have hc1 : ¬ nI (dWk d b p - 1) ≤ 0 := nI_ge (a := 0) (by omega) (by omega)
      rw [if_neg hc1]
      simp only [ww_wk1, if_neg c]
      exact ⟨_, rfl, hC2, fun a ha => ww_up_ne (by omega)⟩
theorem sm_works {σ : ww_M} {s : ww_S} {d : ww_D1} {x : Option (Nat × Nat)} (h : ww_MO1 σ s d) (hx : ww_ow s d x) : ∃ τ, f_X7_works σ 62 (ww_enM x) = some (nI (ww_wk1 s d x).1, τ) ∧ ww_ModD (τ 63) 0 s (ww_wk1 s d x).2 ∧ (∀ a, a ≠ 63 → τ a = σ a) ∧ ∀ j, 50 ≤ j → τ 63 j = σ 63 j := by
  have h0 := h
  obtain ⟨hs, hd, hM, hD⟩ := h
  cases x with
  | none => exact ⟨σ, rfl, hD, fun a ha => rfl, fun j hj => rfl⟩
  | some q =>
    obtain ⟨b, p⟩ := q
    obtain ⟨hv, hw⟩ := hx _ rfl
    simp only at hv hw
    have h3 := ww_vld3 hs hv
    have q := ww_vld_iff.mp hv
    have hr := hd.2.2.2.2.2.1
    have hw3 := (hd.2.2.2.2.2.2.2.1 _ q.1 _ q.2).2.1
    have e7 := (hD.2.2.2.1 _ q.1 _ q.2).2.1
    have hD2 := um_wk (pg := 0) hs hD (dWk d b p - 1) q.1 q.2
    rw [Nat.zero_add] at e7 hD2
    have hD2 : ww_ModD (ww_up σ 63 (18 + 9 * b + 3 * p + 1) (nI (dWk d b p - 1)) 63) 0 s (ww_wkD s d b p) := by rw [ww_up_eq]; exact hD2
    have hd2 := ww_okD_wk (b := b) (p := p) hd
    have hMS : ww_MS (ww_up σ 63 (18 + 9 * b + 3 * p + 1) (nI (dWk d b p - 1))) s := by
      unfold ww_MS
      rw [ww_up_ne (by decide), ww_up_ne (by decide), ww_up_ne (by decide)]; exact hM
    have hMO2 : ww_MO1 (ww_up σ 63 (18 + 9 * b + 3 * p + 1) (nI (dWk d b p - 1))) s (ww_wkD s d b p) := ⟨hs, hd2, hMS, hD2⟩
    have er : f_X7_rotNow (ww_up σ 63 (18 + 9 * b + 3 * p + 1) (nI (dWk d b p - 1))) 62 = some (nI (dRot d)) := by
      unfold f_X7_rotNow
      rw [show ww_up σ 63 (18 + 9 * b + 3 * p + 1) (nI (dWk d b p - 1)) (62 + 1) 13 = nI (dRot d) - 4 from hD2.1.2.1, Int32.sub_add_cancel]
    have hne : ¬ nI (10 * b + p) = -4 := by
      have := n_neg4 (n := 10 * b + p) (by omega)
      exact fun e => by rw [show nI (10 * b + p) = -nI 4 from e] at this; exact absurd this.symm (by simp)
    unfold f_X7_works
    rw [show ww_enM (some (b, p)) = nI (10 * b + p) from rfl, if_neg hne, sp_partAt h3.1 h3.2]
    simp only [Option.bind_some, show (62 : Nat) + 1 = 63 from rfl, nI_1, n_in (show 18 + 9 * b + 3 * p + 1 < 200 by omega) (by omega), n_ckt, n_ix (show 18 + 9 * b + 3 * p + 1 < 2147483648 by omega), e7, show nI (dWk d b p) - 1 = nI (dWk d b p - 1) from pk_sub (b := 1) hw]
    rw [er, show ww_up σ 63 (18 + 9 * b + 3 * p + 1) (nI (dWk d b p - 1)) 63 45 = nI (dHr d) from hD2.1.2.2.2, show ww_up σ 63 (18 + 9 * b + 3 * p + 1) (nI (dWk d b p - 1)) 63 12 = nI (dLaw d) from hD2.1.1, sm_whoseBy (law := dLaw d) hMO2 hv hd2.1]
    simp only [Option.bind_some]
    rw [sm_worthIn (rot := dRot d) hMO2 hv (by omega) hd2.2.1 hd2.2.2.1]
    simp only [Option.bind_some]
    have ho := ww_own_le (law := dLaw d) hs hd2 hv
    have e9 : ww_up σ 63 (18 + 9 * b + 3 * p + 1) (nI (dWk d b p - 1)) 63 (18 + 9 * b + 3 * p + 1) = nI (dWk d b p - 1) := by rw [ww_up_eq, pk_us]
    rw [e9]
    have eo : ww_own s (ww_wkD s d b p) (dLaw (ww_wkD s d b p)) b p = ww_own s d (dLaw d) b p := rfl
    have eo2 : ww_own s (ww_wkD s d b p) (dLaw d) b p = ww_own s d (dLaw d) b p := rfl
    have ew : ww_wor (ww_wkD s d b p) b p (dHr d) (dRot d) = ww_wor d b p (dHr d) (dRot d) := rfl
    have ew2 : ww_wor (ww_wkD s d b p) b p (dHr d) (dRot (ww_wkD s d b p)) = ww_wor d b p (dHr d) (dRot d) := rfl
    have ho' : ww_own s d (dLaw d) b p ≤ 3 := ho
    by_cases c : dWk d b p ≤ 1
    · have hc1 : nI (dWk d b p - 1) ≤ 0 := nI_le (b := 0) (by omega) (by omega)
      rw [if_pos hc1]
      simp only [ww_wk1, if_pos c, eo, eo2, ew, ew2]
      rw [show (46 : Int32) + nI (ww_own s d (dLaw d) b p) = nI (46 + ww_own s d (dLaw d) b p) from nI_add 46 _, ww_ck_t (ww_in_n (by omega) (by omega)), ww_ck_t (ww_in_n (by omega) (by omega)), ww_ix_n (by omega)]
      refine ⟨_, rfl, ?_, fun a ha => ?_, fun j hj => ?_⟩
      · have e10 := hD2.2.2.2.2 (ww_own s d (dLaw d) b p) (by omega)
        rw [Nat.zero_add] at e10
        have e11 : ww_up σ 63 (18 + 9 * b + 3 * p + 1) (nI (dWk d b p - 1)) 63 (46 + ww_own s d (dLaw d) b p) = dWon d (ww_own s d (dLaw d) b p) := e10
        rw [e11, ww_up_eq]
        have := um_won (pg := 0) hs hD2 (q := ww_own s d (dLaw d) b p) (dWon d (ww_own s d (dLaw d) b p) + nI (ww_wor d b p (dHr d) (dRot d))) (by omega)
        rw [Nat.zero_add] at this
        exact this
      · rw [ww_up_ne ha, ww_up_ne ha]
      · rw [ww_up_eq, pk_un (by omega), ww_up_eq, pk_un (by omega)]
    · have hc1 : ¬ nI (dWk d b p - 1) ≤ 0 := nI_ge (a := 0) (by omega) (by omega)
      rw [if_neg hc1]
      simp only [ww_wk1, if_neg c]
      exact ⟨_, rfl, hD2, fun a ha => ww_up_ne ha, fun j hj => by rw [ww_up_eq, pk_un (by omega)]⟩
