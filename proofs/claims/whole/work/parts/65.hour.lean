def ww_hour (s : ww_S) (d : ww_D1) (x y : Option (Nat × Nat)) : ww_D1 := ww_lose s (dsHr (ww_wk1 s (ww_wk1 s d x).2 y).2 (dHr d + 1)) (dHr d + 1)
def ww_hwon (s : ww_S) (d : ww_D1) (x y : Option (Nat × Nat)) : Int32 := nI (ww_wk1 s d x).1 + nI (ww_wk1 s (ww_wk1 s d x).2 y).1
theorem ww_okD_hr {s : ww_S} {d : ww_D1} {h : Nat} (hd : ww_okD s d) (hh : h ≤ 5000) : ww_okD s (dsHr d h) := by
  obtain ⟨d1, d2, d3, d4, d5, d6, d7, d8, d9⟩ := hd
  exact ⟨d1, d2, d3, d4, d5, hh, d7, d8, d9⟩
theorem ww_okD_lose {s : ww_S} {d : ww_D1} {h : Nat} (hd : ww_okD s d) : ww_okD s (ww_lose s d h) := by
  obtain ⟨d1, d2, d3, d4, d5, d6, d7, d8, d9⟩ := hd
  refine ⟨d1, d2, d3, d4, d5, d6, d7, d8, fun b hb => ?_⟩
  show (dLost d b || (decide (b < sNb s) && ww_flt s d b h)) = false
  have : ¬ b < sNb s := by omega
  simp [this, d9 b hb]
theorem ww_okD_hour {s : ww_S} {d : ww_D1} {x y : Option (Nat × Nat)} (hd : ww_okD s d) (hh : dHr d < 4000) : ww_okD s (ww_hour s d x y) := ww_okD_lose (ww_okD_hr (ww_okD_wk1 (ww_okD_wk1 hd)) (by omega))
theorem ww_hour_hr {s : ww_S} {d : ww_D1} {x y : Option (Nat × Nat)} : dHr (ww_hour s d x y) = dHr d + 1 := rfl
theorem ww_okH_hour {s : ww_S} {d : ww_D1} {x y : Option (Nat × Nat)} (hd : ww_okD s d) (hh : dHr d < 999) : ww_okH s (ww_hour s d x y) := ww_lose_ok (d := dsHr (ww_wk1 s (ww_wk1 s d x).2 y).2 (dHr d + 1)) (ww_okD_hr (ww_okD_wk1 (ww_okD_wk1 hd)) (by omega)) (show dHr d + 1 ≤ 999 by omega)
theorem sp_hourGoes {σ : ww_M} {o : Nat} {s : ww_S} {d : ww_D1} {x y : Option (Nat × Nat)} (h : ww_CL1 σ o s d) (hx : ww_ow s d x) (hy : ww_ow s (ww_wk1 s d x).2 y) (hh : dHr d < 4000) : ∃ τ, f_X2_hourGoes σ o (ww_enC x) (ww_enC y) = some (ww_hwon s d x y, τ) ∧ ww_ClsA τ o s (ww_hour s d x y) ∧ ∀ a, a < o ∨ o + 10 ≤ a → τ a = σ a := by
  obtain ⟨τ1, a1, a2, a3⟩ := sp_workAt h hx
  obtain ⟨hs, hd, hC⟩ := h
  have hd1 : ww_okD s (ww_wk1 s d x).2 := ww_okD_wk1 hd
  obtain ⟨τ2, b1, b2, b3⟩ := sp_workAt (σ := τ1) ⟨hs, hd1, a2⟩ hy
  have hd2 : ww_okD s (ww_wk1 s (ww_wk1 s d x).2 y).2 := ww_okD_wk1 hd1
  have e15 : τ2 o 15 = nI (dHr d) := by rw [b2.2.1.2.2.2.1, ww_wk1_hr, ww_wk1_hr]
  have hd3 : ww_okD s (dsHr (ww_wk1 s (ww_wk1 s d x).2 y).2 (dHr d + 1)) := ww_okD_hr hd2 (by omega)
  obtain ⟨τ3, c1, c2, c3⟩ := sp_lose (σ := ww_up τ2 o 15 (nI (dHr d + 1))) hs hd3 (uc_hr hs b2 (dHr d + 1))
  refine ⟨τ3, ?_, c2, fun a ha => ?_⟩
  · unfold f_X2_hourGoes
    rw [a1]
    simp only [Option.bind_some]
    rw [b1]
    simp only [Option.bind_some]
    rw [e15, nI_1, c1]
    rfl
  · rw [c3 a (by omega), ww_up_ne (by omega), b3 a ha, a3 a ha]
theorem sm_hourGoes {σ : ww_M} {s : ww_S} {d : ww_D1} {x y : Option (Nat × Nat)} (h : ww_MO1 σ s d) (hx : ww_ow s d x) (hy : ww_ow s (ww_wk1 s d x).2 y) (hh : dHr d < 4000) : ∃ τ, f_X7_hourGoes σ 62 (ww_enM x) (ww_enM y) = some (ww_hwon s d x y, τ) ∧ ww_ModD (τ 63) 0 s (ww_hour s d x y) ∧ (∀ a, a ≠ 63 → τ a = σ a) ∧ ∀ j, 50 ≤ j → τ 63 j = σ 63 j := by
  obtain ⟨τ1, a1, a2, a3, a4⟩ := sm_works h hx
  obtain ⟨hs, hd, hM, hD⟩ := h
  have hd1 : ww_okD s (ww_wk1 s d x).2 := ww_okD_wk1 hd
  have hM1 : ww_MS τ1 s := by
    unfold ww_MS
    rw [a3 62 (by decide), a3 64 (by decide), a3 65 (by decide)]; exact hM
  obtain ⟨τ2, b1, b2, b3, b4⟩ := sm_works (σ := τ1) ⟨hs, hd1, hM1, a2⟩ hy
  have hd2 : ww_okD s (ww_wk1 s (ww_wk1 s d x).2 y).2 := ww_okD_wk1 hd1
  have e45 : τ2 63 45 = nI (dHr d) := by rw [show τ2 63 45 = _ from b2.1.2.2.2, ww_wk1_hr, ww_wk1_hr]
  have hd3 : ww_okD s (dsHr (ww_wk1 s (ww_wk1 s d x).2 y).2 (dHr d + 1)) := ww_okD_hr hd2 (by omega)
  have hM3 : ww_MS (ww_up τ2 63 45 (nI (dHr d + 1))) s := by
    unfold ww_MS
    rw [ww_up_ne (by decide), ww_up_ne (by decide), ww_up_ne (by decide), b3 62 (by decide), b3 64 (by decide), b3 65 (by decide)]; exact hM1
  have hD3 : ww_ModD (ww_up τ2 63 45 (nI (dHr d + 1)) 63) 0 s (dsHr (ww_wk1 s (ww_wk1 s d x).2 y).2 (dHr d + 1)) := by
    rw [ww_up_eq]
    exact um_hr (pg := 0) hs b2 (dHr d + 1)
  obtain ⟨τ3, c1, c2, c3, c4⟩ := sm_floatsNow hs hd3 hM3 hD3
  refine ⟨τ3, ?_, c2, fun a ha => ?_, fun j hj => ?_⟩
  · unfold f_X7_hourGoes
    rw [a1]
    simp only [Option.bind_some]
    rw [b1]
    simp only [Option.bind_some, show (62 : Nat) + 1 = 63 from rfl]
    rw [e45, nI_1, c1]
    rfl
  · rw [c3 a ha, ww_up_ne ha, b3 a ha, a3 a ha]
  · rw [c4 j hj, ww_up_eq, pk_un (by omega), b4 j hj, a4 j hj]
/-! ===== whether an hour can go ===== -/
def ww_bar (s : ww_S) (d : ww_D1) (x : Option (Nat × Nat)) : Bool := match x with
  | none => false
  | some q => !ww_can s d q.1 q.2
def ww_ref (s : ww_S) (d : ww_D1) (x y : Option (Nat × Nat)) : Int32 :=
  if x ≠ none ∧ x = y then -1 else if y ≠ none ∧ dGng d < 2 then -1 else if ww_bar s d x = true ∨ ww_bar s d y = true then -2 else if dHr d < 999 then 0 else -3
theorem ww_enM_4 {s : ww_S} {x : Option (Nat × Nat)} (hs : ww_okS s) (hx : ww_vo s x) : (ww_enM x = -4) = (x = none) := by
  cases x with
  | none => simp [ww_enM]
  | some q =>
    have h3 := ww_vld3 hs (hx q rfl)
    have := n_neg4 (n := 10 * q.1 + q.2) (by omega)
    simp only [ww_enM, reduceCtorEq]
    exact this
theorem ww_enM_inj {s : ww_S} {x y : Option (Nat × Nat)} (hs : ww_okS s) (hx : ww_vo s x) (hy : ww_vo s y) : (ww_enM x = ww_enM y) = (x = y) := by
  cases x with
  | none =>
    have e := ww_enM_4 hs hy
    apply propext
    constructor
    · intro q
      exact (e.mp q.symm).symm
    · intro q
      subst q
      rfl
  | some q =>
    cases y with
    | none =>
      rw [show ww_enM none = -4 from rfl, ww_enM_4 hs hx]
    | some r =>
      have h3 := ww_vld3 hs (hx q rfl)
      have h4 := ww_vld3 hs (hy r rfl)
      simp only [ww_enM]
      rw [n_eq (by omega) (by omega)]
      obtain ⟨q1, q2⟩ := q
      obtain ⟨r1, r2⟩ := r
      simp only [Option.some.injEq, Prod.mk.injEq]
      simp only at h3 h4
      apply propext
      omega
theorem sp_slotEn {σ : ww_M} {o : Nat} {s : ww_S} {d : ww_D1} {x : Option (Nat × Nat)} (h : ww_CL1 σ o s d) (hx : ww_vo s x) : f_X2_slotOf σ o (ww_enM x) = some (ww_enC x) := by
  cases x with
  | none => rfl
  | some q =>
    have := ww_vld_iff.mp (hx q rfl)
    exact sp_slotOf_yes h.1 h.2.2 this.1 this.2
theorem sp_unknown {σ : ww_M} {o : Nat} {s : ww_S} {d : ww_D1} {x : Option (Nat × Nat)} (h : ww_CL1 σ o s d) (hx : ww_vo s x) : f_X2_isUnknown σ o (ww_enM x) = some 0 := by
  unfold f_X2_isUnknown
  rw [sp_slotEn h hx]
  cases x with
  | none => rfl
  | some q =>
    have h3 := ww_vld3 h.1 (hx q rfl)
    have hne : ¬ ww_enM (some q) = -4 := by rw [ww_enM_4 h.1 hx]; simp
    rw [if_neg hne]
    have := n_neg1 (n := 3 * q.1 + q.2) (by omega)
    have hne2 : ¬ ww_enC (some q) = -1 := fun e => by
      rw [show ww_enC (some q) = nI (3 * q.1 + q.2) from rfl] at e
      rw [show nI (3 * q.1 + q.2) = -nI 1 from e] at this
      exact absurd this.symm (by simp)
    simp only [Option.bind_some, if_neg hne2]
theorem sp_unknown_no {σ : ww_M} {o : Nat} {s : ww_S} {d : ww_D1} {x : Int32} (h : ww_CL1 σ o s d) (h4 : x ≠ -4) (hx : ¬ ww_isP s x) : f_X2_isUnknown σ o x = some 1 := by
  unfold f_X2_isUnknown
  rw [if_neg h4, sp_slotOf_no h.1 h.2.2 hx]
  rfl
theorem sp_barred {σ : ww_M} {o : Nat} {s : ww_S} {d : ww_D1} {x : Option (Nat × Nat)} (h : ww_CL1 σ o s d) (hx : ww_vo s x) : f_X2_isBarred σ o (ww_enM x) = some (if ww_bar s d x then 1 else 0) := by
  unfold f_X2_isBarred
  rw [sp_slotEn h hx]
  cases x with
  | none => rfl
  | some q =>
    have hv := hx q rfl
    have h3 := ww_vld3 h.1 hv
    have hne : ¬ ww_enM (some q) = -4 := by rw [ww_enM_4 h.1 hx]; simp
    rw [if_neg hne]
    have hc := sp_canWork h (i := 3 * q.1 + q.2) (by omega)
    rw [(n_dr3 h3.2).1, (n_dr3 h3.2).2, hv] at hc
    simp only [Option.bind_some]
    rw [show ww_enC (some q) = nI (3 * q.1 + q.2) from rfl, hc]
    rw [show ww_bar s d (some q) = !ww_can s d q.1 q.2 from rfl]
    simp only [Option.bind_some]
    cases hq : ww_can s d q.1 q.2 <;> simp
theorem sp_refusal {σ : ww_M} {o : Nat} {s : ww_S} {d : ww_D1} {x y : Option (Nat × Nat)} (h : ww_CL1 σ o s d) (hx : ww_vo s x) (hy : ww_vo s y) : f_X2_refusal σ o (ww_enM x) (ww_enM y) = some (ww_ref s d x y) := by
  have hd := h.2.1
  have hr := hd.2.2.2.2.2.1
  have hg := hd.2.2.2.2.1
  unfold f_X2_refusal f_X2_refusal_j27 f_X2_refusal_j43
  rw [sp_unknown h hx, sp_unknown h hy, sp_barred h hx, sp_barred h hy, h.2.2.2.1.2.2.1, h.2.2.2.1.2.2.2.1]
  simp only [Option.bind_some, if_true]
  have e1 := ww_enM_4 h.1 hx
  have e2 := ww_enM_4 h.1 hy
  have e3 := ww_enM_inj h.1 hx hy
  have e4 : ((2 : Int32) ≤ nI (dGng d)) = (2 ≤ dGng d) := n_le (a := 2) (by omega) (by omega)
  have e5 : (nI (dHr d) < (999 : Int32)) = (dHr d < 999) := n_lt (b := 999) (by omega) (by omega)
  simp only [e1, e2, e3, e4, e5]
  unfold ww_ref
  by_cases c1 : x = none
  · subst c1
    by_cases c2 : y = none
    · subst c2
      by_cases c5 : dHr d < 999 <;> simp [c5, ww_bar]
    · by_cases c3 : dGng d < 2
      · simp [c2, c3, show ¬ 2 ≤ dGng d by omega]
      · cases hb : ww_bar s d y <;> by_cases c5 : dHr d < 999 <;> simp [c2, c3, c5, ww_bar, hb, show 2 ≤ dGng d by omega]
  · by_cases c4 : x = y
    · have c1' : ¬ y = none := fun hn => c1 (c4.trans hn)
      simp [c1', c4]
    · by_cases c2 : y = none
      · cases hb : ww_bar s d x <;> by_cases c5 : dHr d < 999 <;> simp [c1, c2, c5, ww_bar, hb]
      · by_cases c3 : dGng d < 2
        · simp [c1, c2, c3, c4, show ¬ 2 ≤ dGng d by omega]
        · cases hb : ww_bar s d y <;> cases hb2 : ww_bar s d x <;> by_cases c5 : dHr d < 999 <;> simp [c1, c2, c3, c4, c5, hb, hb2, show 2 ≤ dGng d by omega]
theorem sm_known {σ : ww_M} {s : ww_S} {d : ww_D1} {q : Nat × Nat} (h : ww_MO1 σ s d) (hx : ww_vo s (some q)) : f_X7_isPart σ 62 (ww_enM (some q)) = some 1 := by
  have := ww_vld_iff.mp (hx q rfl)
  exact sp_isPart_yes h.1 h.2.2.1 this.1 this.2
theorem sm_goes {σ : ww_M} {s : ww_S} {d : ww_D1} {x y : Option (Nat × Nat)} (h : ww_MO1 σ s d) (hh : dHr d ≤ 999) (hx : ww_vo s x) (hy : ww_vo s y) : f_X7_goes σ 62 (ww_enM x) (ww_enM y) = if ww_ref s d x y = 0 then f_X7_hourGoes σ 62 (ww_enM x) (ww_enM y) else some (ww_ref s d x y, σ) := by
  have hd := h.2.1
  have hg := hd.2.2.2.2.1
  have hg1 := hd.2.2.2.1
  have e1 := ww_enM_4 h.1 hx
  have e2 := ww_enM_4 h.1 hy
  have e3 := ww_enM_inj h.1 hx hy
  have e45 : σ 63 45 = nI (dHr d) := h.2.2.2.1.2.2.2
  have e14 : σ 63 14 = nI (dGng d) - 1 := h.2.2.2.1.2.2.1
  have e14' : (σ 63 14 = 0) = (dGng d < 2) := by
    rw [e14, show nI (dGng d) - 1 = nI (dGng d - 1) from pk_sub (b := 1) hg1, show (0 : Int32) = nI 0 from rfl, n_eq (by omega) (by omega)]
    apply propext; omega
  have e5 : (nI (dHr d) = (999 : Int32)) = ¬ (dHr d < 999) := by
    rw [show (999 : Int32) = nI 999 from rfl, n_eq (by omega) (by omega)]
    apply propext; omega
  have hb : ∀ z, ww_vo s z → z ≠ none → f_X7_canBeWorked σ 62 (ww_enM z) = some (if ww_bar s d z then 0 else 1) := fun z hz hn => by
    cases z with
    | none => exact absurd rfl hn
    | some q =>
      have := sm_canBe h (hz q rfl)
      rw [show ww_enM (some q) = nI (10 * q.1 + q.2) from rfl, this]
      rw [show ww_bar s d (some q) = !ww_can s d q.1 q.2 from rfl]
      cases hq : ww_can s d q.1 q.2 <;> simp
  have hk : ∀ z, ww_vo s z → z ≠ none → f_X7_isPart σ 62 (ww_enM z) = some 1 := fun z hz hn => by
    cases z with
    | none => exact absurd rfl hn
    | some q => exact sm_known h hz
  have hbind : ∀ E : Option (Int32 × ww_M), E.bind (fun v => some (v.1, v.2)) = E := fun E => by cases E <;> rfl
  unfold f_X7_goes f_X7_goes_j14 f_X7_goes_j45 f_X7_goes_j59 f_X7_goes_j76
  simp only [show (62 : Nat) + 1 = 63 from rfl, e1, e2, e3, e14', e45, e5, hbind]
  unfold ww_ref
  by_cases c1 : x = none
  · subst c1
    by_cases c2 : y = none
    · subst c2
      by_cases c5 : dHr d < 999 <;> simp [c5, ww_bar]
    · rw [hk y hy c2, hb y hy c2]
      by_cases c3 : dGng d < 2
      · simp [c2, c3]
      · cases hb : ww_bar s d y <;> by_cases c5 : dHr d < 999 <;> simp [c2, Ne.symm c2, c3, c5, ww_bar, hb]
  · rw [hk x hx c1, hb x hx c1]
    by_cases c2 : y = none
    · subst c2
      cases hb : ww_bar s d x <;> by_cases c5 : dHr d < 999 <;> simp [c1, c5, ww_bar, hb]
    · rw [hk y hy c2, hb y hy c2]
      by_cases c4 : x = y
      · subst c4
        simp [c1]
      · by_cases c3 : dGng d < 2
        · simp [c1, c2, c3, c4]
        · cases hb : ww_bar s d y <;> cases hb2 : ww_bar s d x <;> by_cases c5 : dHr d < 999 <;> simp [c1, c2, c3, c4, c5, hb, hb2]
