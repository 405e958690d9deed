/-! ===== parts, owners, shares: both sides over the abstract shore ===== -/
abbrev ww_CL1 (σ : ww_M) (o : Nat) (s : ww_S) (d : ww_D1) : Prop := ww_okS s ∧ ww_okD s d ∧ ww_ClsA σ o s d
abbrev ww_MO1 (σ : ww_M) (s : ww_S) (d : ww_D1) : Prop := ww_okS s ∧ ww_okD s d ∧ ww_MS σ s ∧ ww_ModD (σ 63) 0 s d
def ww_vld (s : ww_S) (b p : Nat) : Bool := decide (b < sNb s) && decide (p < sPt s b)
def ww_can (s : ww_S) (d : ww_D1) (b p : Nat) : Bool := decide (0 < dWk d b p) && !dLost d b && !ww_wet s d (sHd s b + p) (dHr d)
def ww_wor (d : ww_D1) (b p h rot : Nat) : Nat := dWo d b p - h / rot
theorem ww_vld_iff {s : ww_S} {b p : Nat} : ww_vld s b p = true ↔ b < sNb s ∧ p < sPt s b := by simp [ww_vld]
theorem ww_vld3 {s : ww_S} {b p : Nat} (hs : ww_okS s) (h : ww_vld s b p = true) : b < 3 ∧ p < 3 := by
  rw [ww_vld_iff] at h
  have h1 := hs.2.2.2.1
  have h2 := hs.2.2.2.2.2.1 b h.1
  omega
theorem n_dr10 {b p : Nat} (hp : p < 3) : (10 * b + p) / 10 = b ∧ (10 * b + p) % 10 = p := by omega
theorem n_dr3 {b p : Nat} (hp : p < 3) : (3 * b + p) / 3 = b ∧ (3 * b + p) % 3 = p := by omega
theorem sp_hasSlot {σ : ww_M} {o i : Nat} {s : ww_S} {d : ww_D1} (h : ww_CL1 σ o s d) (hi : i < 9) : f_X2_hasSlot σ o (nI i) = some (if ww_vld s (i / 3) (i % 3) then 1 else 0) := by
  obtain ⟨hs, hd, hC⟩ := h
  have hnb := hs.2.2.2.1
  unfold f_X2_hasSlot
  rw [ww_within, if_pos (show (0 : Int32) ≤ nI i ∧ nI i ≤ 8 from ⟨nI_pos' (by omega), nI_le (b := 8) (by omega) (by omega)⟩)]
  simp only [Option.bind_some, if_neg (show ¬ (1 : Int32) = 0 by decide)]
  have g1 : nI i / 3 = nI (i / 3) := pk_div (d := 3) (by omega) (by omega) (by omega)
  have g2 : ww_rem (nI i) 3 = nI (i % 3) := pk_rem (d := 3) (by omega) (by omega) (by omega)
  rw [g1, g2, sp_hasBeast hC]
  simp only [Option.bind_some, ww_b01]
  by_cases q : i / 3 < sNb s
  · have h6 := hs.2.2.2.2.2.1 _ q
    have q' := ww_rng_t (show sNb s < 1000000 by omega) q
    rw [if_neg (fun z => z q'), ww_ck_t (ww_in_n (by omega) (by omega)), ww_ix_n (by omega), (hC.2.2.2.2.1 _ q).2]
    by_cases w : i % 3 < sPt s (i / 3)
    · rw [if_neg (nI_ge w (by omega)), if_pos (ww_vld_iff.mpr ⟨q, w⟩)]
    · rw [if_pos (nI_le (by omega) (by omega)), if_neg (fun z => w (ww_vld_iff.mp z).2)]
  · rw [if_pos (ww_rng_f (by omega) (by omega) (by omega)), if_neg (fun z => q (ww_vld_iff.mp z).1)]
theorem sp_hasSlot_no {σ : ww_M} {o : Nat} : f_X2_hasSlot σ o (-1) = some 0 := by
  unfold f_X2_hasSlot
  rw [ww_within, if_neg (by decide)]
  rfl
theorem sm_isPart {σ : ww_M} {x : Nat} {s : ww_S} {d : ww_D1} (h : ww_MO1 σ s d) (hx : x < 30) : f_X7_isPart σ 62 (nI x) = some (if ww_vld s (x / 10) (x % 10) then 1 else 0) := by
  obtain ⟨hs, hd, hM, hD⟩ := h
  cases c : ww_vld s (x / 10) (x % 10)
  · rw [sp_isPart_no hs hM (fun ⟨b, p, h1, h2, h3⟩ => by
      have h6 := hs.2.2.2.2.2.1 b h1
      have h7 := hs.2.2.2.1
      have : x = 10 * b + p := (nI_eq (by omega) (by omega)).mp h3
      subst this
      rw [(n_dr10 (b := b) (show p < 3 by omega)).1, (n_dr10 (b := b) (show p < 3 by omega)).2, ww_vld_iff.mpr ⟨h1, h2⟩] at c
      exact absurd c (by decide))]
    rfl
  · have q := ww_vld_iff.mp c
    have := sp_isPart_yes hs hM q.1 q.2
    rw [Nat.div_add_mod] at this
    rw [this]; rfl
theorem sp_canWork {σ : ww_M} {o i : Nat} {s : ww_S} {d : ww_D1} (h : ww_CL1 σ o s d) (hi : i < 9) : f_X2_canWork σ o (nI i) = some (if ww_vld s (i / 3) (i % 3) && ww_can s d (i / 3) (i % 3) then 1 else 0) := by
  have h0 := h
  obtain ⟨hs, hd, hC⟩ := h
  have hnb := hs.2.2.2.1
  have hr := hd.2.2.2.2.2.1
  unfold f_X2_canWork f_X2_placeOf
  rw [sp_hasSlot h0 hi]
  simp only [Option.bind_some]
  cases c : ww_vld s (i / 3) (i % 3)
  · rfl
  · have q := ww_vld_iff.mp c
    have h6 := hs.2.2.2.2.2.1 _ q.1
    have hnp := hs.1
    have hw := (hd.2.2.2.2.2.2.2.1 _ q.1 _ q.2).2.1
    have e7 := (hC.2.2.2.2.2.1 _ q.1 _ q.2).2.1
    rw [Nat.div_add_mod] at e7
    have e15 := hC.2.1.2.2.2.1
    have e4 := (hC.2.2.2.2.1 _ q.1).1
    simp only [if_true, if_neg (show ¬ (1 : Int32) = 0 by decide), Bool.true_and]
    simp (disch := omega) only [n_lit, n_le, n_lt, n_eq, n_in, n_ckt, n_ix, n_mul, n_add, n_sub, n_div, n_rem, n_b01, n_isb, n_lt0, n_le0, Option.bind_some, if_pos, if_neg, ge_iff_le, gt_iff_lt, Nat.zero_add, Nat.add_zero, n_neg1, n_neg4, if_true, if_false, ite_true, ite_false, n_land1, not_true_eq_false, not_false_eq_true, e7, e15, e4, sp_isLost hC, sp_wetPlaces hs hd hC]
    unfold ww_can
    by_cases w : 0 < dWk d (i / 3) (i % 3)
    · cases hl : dLost d (i / 3)
      · have hW : ww_bits (fun i => ww_wet s d i (dHr d)) (sNp s) < 2 ^ 31 := Nat.lt_trans (bt_lt _ _) (Nat.pow_lt_pow_right (by omega) (by omega))
        have hb := ww_bit (i := sHd s (i / 3) + i % 3) (by omega) hW
        rw [show (1 : Int32) = nI 1 from rfl, show (0 : Int32) = nI 0 from rfl] at hb
        simp only [if_neg (show ¬ dWk d (i / 3) (i % 3) ≤ 0 by omega), if_pos rfl, hb, bt_test, show sHd s (i / 3) + i % 3 < sNp s by omega, decide_true, Bool.true_and]
        cases ww_wet s d (sHd s (i / 3) + i % 3) (dHr d) <;> simp [w, show ¬ nI 1 = nI 0 by decide, show ¬ nI 0 = nI 1 by decide] <;> rfl
      · simp [w, show ¬ nI 1 = nI 0 by decide]
    · simp [w, show dWk d (i / 3) (i % 3) ≤ 0 by omega]
theorem sm_canBe {σ : ww_M} {b p : Nat} {s : ww_S} {d : ww_D1} (h : ww_MO1 σ s d) (hv : ww_vld s b p = true) : f_X7_canBeWorked σ 62 (nI (10 * b + p)) = some (if ww_can s d b p then 1 else 0) := by
  obtain ⟨hs, hd, hM, hD⟩ := h
  have h3 := ww_vld3 hs hv
  have q := ww_vld_iff.mp hv
  have h6 := hs.2.2.2.2.2.1 _ q.1
  have hnp := hs.1
  have hr := hd.2.2.2.2.2.1
  have hw := (hd.2.2.2.2.2.2.2.1 _ q.1 _ q.2).2.1
  obtain ⟨g1, g2⟩ := ww_dr10 (n := 10 * b + p) (by omega)
  rw [(n_dr10 h3.2).1] at g1
  rw [(n_dr10 h3.2).2] at g2
  unfold f_X7_canBeWorked
  rw [sp_partAt h3.1 h3.2, g1, g2]
  have e1 := (hD.2.2.2.1 _ q.1 _ q.2).2.1
  rw [Nat.zero_add] at e1
  have e45 : σ 63 45 = nI (dHr d) := hD.1.2.2.2
  simp only [show σ (62 + 1) = σ 63 from rfl, show σ (62 + 3) = σ 65 from rfl]
  simp (disch := omega) only [n_lit, n_le, n_lt, n_eq, n_in, n_ckt, n_ix, n_mul, n_add, n_sub, n_div, n_rem, n_b01, n_isb, n_lt0, n_le0, Option.bind_some, if_pos, if_neg, ge_iff_le, gt_iff_lt, Nat.zero_add, Nat.add_zero, n_neg1, n_neg4, if_true, if_false, ite_true, ite_false, n_land1, not_true_eq_false, not_false_eq_true, e1, e45, (hM.2.2.2.2 b q.1).1, sm_isWet hs hd hM hD, sm_lost hD h3.1]
  unfold ww_can
  by_cases w : 0 < dWk d b p
  · cases dLost d b <;> cases ww_wet s d (sHd s b + p) (dHr d) <;> simp [w, show ¬ nI 1 = nI 0 by decide, show ¬ dWk d b p ≤ 0 by omega] <;> rfl
  · simp [w, show dWk d b p ≤ 0 by omega]
theorem sp_worthIn {σ : ww_M} {o b p h rot : Nat} {s : ww_S} {d : ww_D1} (hC : ww_CL1 σ o s d) (hv : ww_vld s b p = true) (hh : h < 100000) (h1 : 1 ≤ rot) (h2 : rot ≤ 9) : f_X2_worthIn σ o (nI (3 * b + p)) (nI h) (nI rot) = some (nI (ww_wor d b p h rot)) := by
  obtain ⟨hs, hd, hC⟩ := hC
  have h3 := ww_vld3 hs hv
  have q := ww_vld_iff.mp hv
  have e6 := (hC.2.2.2.2.2.1 _ q.1 _ q.2).1
  have hwo := (hd.2.2.2.2.2.2.2.1 _ q.1 _ q.2).1
  unfold f_X2_worthIn ww_wor ww_max
  have hdl : h / rot ≤ h := Nat.div_le_self _ _
  rw [ww_ck_t (show ww_nz (nI rot) = true from decide_eq_true (nI_ne0 (by omega) (by omega)))]
  simp (disch := omega) only [n_lit, n_le, n_lt, n_eq, n_in, n_ckt, n_ix, n_mul, n_add, n_sub, n_div, n_rem, n_b01, n_isb, n_lt0, n_le0, Option.bind_some, if_pos, if_neg, ge_iff_le, gt_iff_lt, Nat.zero_add, Nat.add_zero, n_neg1, n_neg4, if_true, if_false, ite_true, ite_false, n_land1, not_true_eq_false, not_false_eq_true, e6]
  have hz : (nI (dWo d b p) - nI (h / rot)).toInt = (dWo d b p : Int) - (h / rot : Nat) := pk_sub_toInt (by omega) (by omega)
  by_cases c : h / rot < dWo d b p
  · have : nI 0 < nI (dWo d b p) - nI (h / rot) := by
      rw [fa_lt, hz, nI_toInt (by omega)]; omega
    rw [if_pos this, n_sub (by omega)]
  · have : ¬ nI 0 < nI (dWo d b p) - nI (h / rot) := by
      rw [fa_lt, hz, nI_toInt (by omega)]; omega
    rw [if_neg this, show dWo d b p - h / rot = 0 by omega]
theorem sm_worthIn {σ : ww_M} {b p h rot : Nat} {s : ww_S} {d : ww_D1} (hM : ww_MO1 σ s d) (hv : ww_vld s b p = true) (hh : h < 100000) (h1 : 1 ≤ rot) (h2 : rot ≤ 9) : f_X7_worthIn σ 62 (nI (10 * b + p)) (nI h) (nI rot) = some (nI (ww_wor d b p h rot)) := by
  obtain ⟨hs, hd, hM, hD⟩ := hM
  have h3 := ww_vld3 hs hv
  have q := ww_vld_iff.mp hv
  have e1 := (hD.2.2.2.1 _ q.1 _ q.2).1
  rw [Nat.zero_add] at e1
  have hwo := (hd.2.2.2.2.2.2.2.1 _ q.1 _ q.2).1
  unfold f_X7_worthIn ww_wor
  have hdl : h / rot ≤ h := Nat.div_le_self _ _
  have hnz : ww_nz (nI rot) = true := decide_eq_true (nI_ne0 (by omega) (by omega))
  rw [sp_partAt h3.1 h3.2]
  simp only [show σ (62 + 1) = σ 63 from rfl]
  simp (disch := omega) only [n_lit, n_le, n_lt, n_eq, n_in, n_ckt, n_ix, n_mul, n_add, n_sub, n_div, n_rem, n_b01, n_isb, n_lt0, n_le0, Option.bind_some, if_pos, if_neg, ge_iff_le, gt_iff_lt, Nat.zero_add, Nat.add_zero, n_neg1, n_neg4, if_true, if_false, ite_true, ite_false, n_land1, not_true_eq_false, not_false_eq_true, e1, hnz]
  have hz : (nI (dWo d b p) - nI (h / rot)).toInt = (dWo d b p : Int) - (h / rot : Nat) := pk_sub_toInt (by omega) (by omega)
  by_cases c : h / rot ≤ dWo d b p
  · have : nI 0 ≤ nI (dWo d b p) - nI (h / rot) := by
      rw [fa_le, hz, nI_toInt (by omega)]; omega
    rw [if_pos this, n_sub (by omega)]
  · have : ¬ nI 0 ≤ nI (dWo d b p) - nI (h / rot) := by
      rw [fa_le, hz, nI_toInt (by omega)]; omega
    rw [if_neg this, show dWo d b p - h / rot = 0 by omega]
