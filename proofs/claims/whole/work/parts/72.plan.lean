/-! ===== the plan of a shore ===== -/
def pl_fl (s : ww_S) (d : ww_D1) (b : Nat) : Nat → Bool
  | 0 => false
  | k + 1 => pl_fl s d b k || ww_flt s d b (dHr d + k)
def pl_ab (s : ww_S) (d : ww_D1) (k i : Nat) : Bool := ww_vld s (i / 3) (i % 3) && (!(dLost d (i / 3) || pl_fl s d (i / 3) (k + 1)) && !ww_wet s d (sHd s (i / 3) + i % 3) (dHr d + k))
def pl_g (s : ww_S) (d : ww_D1) (rot k i : Nat) : Nat := if ww_vld s (i / 3) (i % 3) = true then ww_wor d (i / 3) (i % 3) (dHr d + k) rot else 0
def pl_q (s : ww_S) (wo i : Nat) : Bool := ww_vld s (i / 3) (i % 3) && decide (i / 3 ≠ wo)
def pl_qc (s : ww_S) (d : ww_D1) (wo i : Nat) : Bool := pl_q s wo i && (!dLost d (i / 3) && decide (0 < dWk d (i / 3) (i % 3)))
def pl_wk (d : ww_D1) (i : Nat) : Nat := dWk d (i / 3) (i % 3)
def pl_two (d : ww_D1) : Bool := decide (dGng d = 2)
def pl_nu (i : Nat) : Nat := 10 * (i / 3) + i % 3
noncomputable def pl_pv (s : ww_S) (d : ww_D1) (rot : Nat) : Nat → Nat → (Nat → Nat) → Nat := pv (pl_ab s d) (pl_g s d rot) (pl_two d)
noncomputable def pl_V (s : ww_S) (d : ww_D1) (rot wo n : Nat) : Nat := pl_pv s d rot n 0 (ls_w0 (pl_q s wo) (pl_wk d))
theorem pl_Eqv (s : ww_S) (d : ww_D1) (wo : Nat) : pv_Eqv (pl_ab s d) (ls_w0 (pl_qc s d wo) (pl_wk d)) (ls_w0 (pl_q s wo) (pl_wk d)) := fun i hi => by
  cases hl : dLost d (i / 3)
  · left
    unfold ls_w0 pl_qc
    cases c1 : pl_q s wo i
    · simp
    · by_cases c2 : 0 < dWk d (i / 3) (i % 3)
      · simp [hi, hl, c2]
      · have e : pl_wk d i = 0 := by unfold pl_wk; omega
        simp [hi, hl, c2, e]
  · right
    intro k
    simp [pl_ab, hl]
theorem pl_gm (s : ww_S) (d : ww_D1) (rot : Nat) : ∀ k i, pl_g s d rot (k + 1) i ≤ pl_g s d rot k i := fun k i => by
  unfold pl_g ww_wor
  have := Nat.div_le_div_right (c := rot) (show dHr d + k ≤ dHr d + (k + 1) by omega)
  split <;> omega
theorem pl_g9 {s : ww_S} {d : ww_D1} (hd : ww_okD s d) (rot : Nat) : ∀ k i, pl_g s d rot k i ≤ 9 := fun k i => by
  unfold pl_g ww_wor
  split
  · rename_i hv
    have q := ww_vld_iff.mp hv
    exact Nat.le_trans (Nat.sub_le _ _) (hd.2.2.2.2.2.2.2.1 _ q.1 _ q.2).1
  · omega
theorem pl_gr (s : ww_S) (d : ww_D1) {r r' : Nat} (h : r ≤ r') (h1 : 0 < r) : ∀ k i, pl_g s d r k i ≤ pl_g s d r' k i := fun k i => by
  unfold pl_g ww_wor
  have := Nat.div_le_div_left (a := dHr d + k) h h1
  split <;> omega
theorem pl_ctn (n : Nat) : ∀ m, fb_ct (fun k => decide (k < n)) m ≤ n ∧ fb_ct (fun k => decide (k < n)) m ≤ m
  | 0 => ⟨Nat.zero_le _, Nat.le_refl _⟩
  | m + 1 => by
    have h := pl_ctn n m
    rw [fb_ct_succ]
    by_cases c : m < n
    · simp [c]; omega
    · simp [c]; omega
theorem pl_blk {s : ww_S} {b : Nat} {f : Nat → Bool} (hf : ∀ k, k < 3 → f k = ww_vld s b k) : fb_ct f 3 ≤ if b < sNb s then sPt s b else 0 := by
  by_cases c : b < sNb s
  · rw [if_pos c]
    refine Nat.le_trans (fb_ct_sub (q := fun k => decide (k < sPt s b)) (fun k hk h => ?_)) (pl_ctn (sPt s b) 3).1
    rw [hf k hk] at h
    exact decide_eq_true (ww_vld_iff.mp h).2
  · rw [if_neg c]
    exact Nat.le_of_eq (fb_ct_zero.mpr (fun k hk => by
      rw [hf k hk]
      exact Bool.eq_false_iff.mpr (fun z => c (ww_vld_iff.mp z).1)))
theorem pl_v6 {s : ww_S} (hs : ww_okS s) : fb_ct (fun i => ww_vld s (i / 3) (i % 3)) 9 ≤ 6 := by
  obtain ⟨o1, o2, o3, o4, o5, o6, o7⟩ := hs
  have e1 := fb_ct_split (fun i => ww_vld s (i / 3) (i % 3)) 3 6
  have e2 := fb_ct_split (fun k => ww_vld s ((3 + k) / 3) ((3 + k) % 3)) 3 3
  have h0 := pl_blk (s := s) (b := 0) (f := fun i => ww_vld s (i / 3) (i % 3)) (fun k hk => by
    show ww_vld s (k / 3) (k % 3) = _
    rw [show k / 3 = 0 by omega, show k % 3 = k by omega])
  have h1 := pl_blk (s := s) (b := 1) (f := fun k => ww_vld s ((3 + k) / 3) ((3 + k) % 3)) (fun k hk => by
    show ww_vld s ((3 + k) / 3) ((3 + k) % 3) = _
    rw [show (3 + k) / 3 = 1 by omega, show (3 + k) % 3 = k by omega])
  have h2 := pl_blk (s := s) (b := 2) (f := fun k => ww_vld s ((3 + (3 + k)) / 3) ((3 + (3 + k)) % 3)) (fun k hk => by
    show ww_vld s ((3 + (3 + k)) / 3) ((3 + (3 + k)) % 3) = _
    rw [show (3 + (3 + k)) / 3 = 2 by omega, show (3 + (3 + k)) % 3 = k by omega])
  have e1' : fb_ct (fun i => ww_vld s (i / 3) (i % 3)) 9 = _ := e1
  have e2' : fb_ct (fun k => ww_vld s ((3 + k) / 3) ((3 + k) % 3)) 6 = _ := e2
  rw [e1', e2']
  have key : (if 0 < sNb s then sPt s 0 else 0) + ((if 1 < sNb s then sPt s 1 else 0) + (if 2 < sNb s then sPt s 2 else 0)) ≤ 6 := by
    rcases (show sNb s = 0 ∨ sNb s = 1 ∨ sNb s = 2 ∨ sNb s = 3 by omega) with e | e | e | e
    · simp [e]
    · have a0 := o6 0 (by omega)
      simp [e]; omega
    · have a0 := o6 0 (by omega)
      have a1 := o6 1 (by omega)
      simp [e]; omega
    · have a0 := o6 0 (by omega)
      have a1 := o6 1 (by omega)
      have a2 := o6 2 (by omega)
      have b0 := o7 0 1 (by omega) (by omega) (by omega)
      have b1 := o7 0 2 (by omega) (by omega) (by omega)
      have b2 := o7 1 2 (by omega) (by omega) (by omega)
      simp [e]; omega
  omega
theorem pl_q6 {s : ww_S} (hs : ww_okS s) (wo : Nat) : fb_ct (pl_q s wo) 9 ≤ 6 := Nat.le_trans (fb_ct_sub (fun k _ h => by
  unfold pl_q at h
  exact (Bool.and_eq_true _ _ ▸ h).1)) (pl_v6 hs)
theorem pl_qc6 {s : ww_S} (hs : ww_okS s) (d : ww_D1) (wo : Nat) : fb_ct (pl_qc s d wo) 9 ≤ 6 := Nat.le_trans (fb_ct_sub (fun k _ h => by
  unfold pl_qc at h
  exact (Bool.and_eq_true _ _ ▸ h).1)) (pl_q6 hs wo)
theorem pl_q_iff {s : ww_S} {wo i : Nat} : pl_q s wo i = true ↔ ww_vld s (i / 3) (i % 3) = true ∧ i / 3 ≠ wo := by simp [pl_q]
theorem pl_qc_iff {s : ww_S} {d : ww_D1} {wo i : Nat} : pl_qc s d wo i = true ↔ pl_q s wo i = true ∧ dLost d (i / 3) = false ∧ 0 < dWk d (i / 3) (i % 3) := by simp [pl_qc]
theorem pl_wk3 {s : ww_S} {d : ww_D1} (hd : ww_okD s d) {i : Nat} (hv : ww_vld s (i / 3) (i % 3) = true) : pl_wk d i ≤ 3 := by
  have q := ww_vld_iff.mp hv
  exact (hd.2.2.2.2.2.2.2.1 _ q.1 _ q.2).2.1
theorem bt_or2 (p q : Nat → Bool) (n : Nat) : ww_bits p n ||| ww_bits q n = ww_bits (fun i => p i || q i) n := bt_eq (fun i => by
  rw [Nat.testBit_or, bt_test, bt_test, bt_test]
  cases decide (i < n) <;> rfl)
theorem bt_set (p : Nat → Bool) {n b : Nat} (hb : b < n) : ww_bits p n ||| 2 ^ b = ww_bits (fun i => p i || decide (i = b)) n := bt_eq (fun i => by
  rw [fb_bit_set, bt_test, bt_test]
  by_cases e : i = b
  · subst e; simp [hb]
  · simp [e])
theorem bt_31 (p : Nat → Bool) {n : Nat} (hn : n ≤ 6) : ww_bits p n < 64 := Nat.lt_of_lt_of_le (bt_lt p n) (Nat.pow_le_pow_right (n := 2) (by omega) hn)
theorem ww_MO1_fr {σ τ : ww_M} {s : ww_S} {d : ww_D1} (h : ww_MO1 σ s d) (h2 : τ 62 2 = σ 62 2) (h3 : τ 62 3 = σ 62 3) (h5 : τ 62 5 = σ 62 5) (h63 : τ 63 = σ 63) (h64 : τ 64 = σ 64) (h65 : τ 65 = σ 65) : ww_MO1 τ s d := by
  obtain ⟨a1, a2, a3, a4⟩ := h
  refine ⟨a1, a2, ?_, ?_⟩
  · show ww_ModS (τ 62 3) (τ 62 2) (τ 62 5) (τ 64) (τ 65) s
    rw [h2, h3, h5, h64, h65]; exact a3
  · rw [h63]; exact a4
/-! ===== the model: its parts ===== -/
def pm_v (s : ww_S) (wo y : Nat) : Bool := ww_vld s (y / 10) (y % 10) && decide (y / 10 ≠ wo)
theorem pm_ct {u : Nat → Nat → Bool} (hu : ∀ b p, 3 ≤ p → u b p = false) : fb_ct (fun y => u (y / 10) (y % 10)) 30 = fb_ct (fun i => u (i / 3) (i % 3)) 9 ∧ ∀ b p, b < 3 → p < 3 → fb_ct (fun y => u (y / 10) (y % 10)) (10 * b + p) = fb_ct (fun i => u (i / 3) (i % 3)) (3 * b + p) := by
  refine ⟨by simp [fb_ct, hu], fun b p hb hp => ?_⟩
  rcases (show b = 0 ∨ b = 1 ∨ b = 2 by omega) with rfl | rfl | rfl <;> rcases (show p = 0 ∨ p = 1 ∨ p = 2 by omega) with rfl | rfl | rfl <;> simp [fb_ct, hu]
theorem pm_ct30 {s : ww_S} (hs : ww_okS s) (wo : Nat) : fb_ct (pm_v s wo) 30 = fb_ct (pl_q s wo) 9 := (pm_ct (u := fun b p => ww_vld s b p && decide (b ≠ wo)) (fun b p hp => by simp [ww_vld_3 hs b p hp])).1
theorem pm_ctx {s : ww_S} (hs : ww_okS s) (wo : Nat) {b p : Nat} (hb : b < 3) (hp : p < 3) : fb_ct (pm_v s wo) (10 * b + p) = fb_ct (pl_q s wo) (3 * b + p) := (pm_ct (u := fun b p => ww_vld s b p && decide (b ≠ wo)) (fun b p hp => by simp [ww_vld_3 hs b p hp])).2 b p hb hp
theorem sm_lay1 {σ : ww_M} {s : ww_S} {d : ww_D1} {wo : Nat} {p1 p2 : Int32} (h : ww_MO1 σ s d) (hp : ∀ b, b < 3 → (nI b = p2 ↔ b = wo)) : ∃ τ, ww_it (f_X7_layParts_b7 62 p1 p2) ww_F (0, ww_up σ 62 25 0) = some τ ∧ τ 62 25 = nI (fb_ct (pl_q s wo) 9) ∧ (∀ j, j < fb_ct (pl_q s wo) 9 → τ 72 j = nI (pl_nu (ls_sl (pl_q s wo) j))) ∧ (∀ a, a ≠ 62 → a ≠ 72 → τ a = σ a) ∧ (∀ j, j ≠ 25 → τ 62 j = σ 62 j) := by
  have hs := h.1
  have h6 := pl_q6 hs wo
  have h30 := pm_ct30 hs wo
  have key := ww_it_inv (f := f_X7_layParts_b7 62 p1 p2) (x0 := (0, ww_up σ 62 25 0)) (fun i x => x.1 = nI i ∧ x.2 62 25 = nI (fb_ct (pm_v s wo) i) ∧ (∀ y, y < i → pm_v s wo y = true → x.2 72 (fb_ct (pm_v s wo) y) = nI y) ∧ (∀ a, a ≠ 62 → a ≠ 72 → x.2 a = σ a) ∧ (∀ j, j ≠ 25 → x.2 62 j = σ 62 j)) (fun τ => τ 62 25 = nI (fb_ct (pm_v s wo) 30) ∧ (∀ y, y < 30 → pm_v s wo y = true → τ 72 (fb_ct (pm_v s wo) y) = nI y) ∧ (∀ a, a ≠ 62 → a ≠ 72 → τ a = σ a) ∧ (∀ j, j ≠ 25 → τ 62 j = σ 62 j)) 30 (by omega) ⟨rfl, by dsimp only; rw [ww_up_eq, pk_us]; rfl, fun y hy => absurd hy (Nat.not_lt_zero y), fun a h1 h2 => ww_up_ne h1, fun j hj => by dsimp only; rw [ww_up_eq, pk_un hj]⟩ (fun i hi x hx => ?_) (fun x hx => ?_)
  · obtain ⟨τ, k1, k2, k3, k4, k5⟩ := key
    refine ⟨τ, k1, by rw [k2, h30], fun j hj => ?_, k4, k5⟩
    obtain ⟨a1, a2, a3⟩ := ls_in hj
    have a4 := pl_q_iff.mp a2
    have a5 := ww_vld3 hs a4.1
    have e := pm_ctx hs wo a5.1 a5.2
    rw [Nat.div_add_mod, a3] at e
    have := k3 (pl_nu (ls_sl (pl_q s wo) j)) (by unfold pl_nu; omega) (by
      unfold pm_v pl_nu
      rw [(n_dr10 a5.2).1, (n_dr10 a5.2).2, a4.1]
      simp [a4.2])
    unfold pl_nu at this ⊢
    rw [e] at this
    exact this
  · obtain ⟨i0, τ⟩ := x
    dsimp only at hx
    obtain ⟨rfl, k2, k3, k4, k5⟩ := hx
    have hM : ww_MO1 τ s d := ww_MO1_fr h (k5 2 (by omega)) (k5 3 (by omega)) (k5 5 (by omega)) (k4 63 (by omega) (by omega)) (k4 64 (by omega) (by omega)) (k4 65 (by omega) (by omega))
    have hP := sm_isPart hM hi
    have hcl : fb_ct (pm_v s wo) i ≤ 6 := by
      have := fb_ct_mono (pm_v s wo) (show i ≤ 30 by omega)
      omega
    refine Or.inl ?_
    have hno : pm_v s wo i = false → (nI (i + 1), τ).1 = nI (i + 1) ∧ τ 62 25 = nI (fb_ct (pm_v s wo) (i + 1)) ∧ (∀ y, y < i + 1 → pm_v s wo y = true → τ 72 (fb_ct (pm_v s wo) y) = nI y) ∧ (∀ a, a ≠ 62 → a ≠ 72 → τ a = σ a) ∧ (∀ j, j ≠ 25 → τ 62 j = σ 62 j) := fun e => ⟨rfl, by rw [fb_ct_succ, e]; exact k2, fun y hy hv => by
      by_cases e2 : y = i
      · subst e2; rw [e] at hv; exact absurd hv (by decide)
      · exact k3 y (by omega) hv, k4, k5⟩
    cases hv : ww_vld s (i / 10) (i % 10)
    · refine ⟨(nI (i + 1), τ), ?_, hno (by simp [pm_v, hv])⟩
      unfold f_X7_layParts_b7
      simp only [hP, hv]
      simp (disch := omega) only [n_lit, n_le, n_lt, n_eq, n_in, n_ckt, n_ix, n_mul, n_add, n_sub, n_div, n_rem, n_b01, n_isb, n_lt0, n_le0, Option.bind_some, if_pos, if_neg, ge_iff_le, gt_iff_lt, Nat.zero_add, Nat.add_zero, n_neg1, n_neg4, if_true, if_false, ite_true, ite_false, n_land1, not_true_eq_false, not_false_eq_true]
      simp
    · have h3 := ww_vld3 hs hv
      have hpi := hp (i / 10) h3.1
      by_cases e : i / 10 = wo
      · refine ⟨(nI (i + 1), τ), ?_, hno (by simp [pm_v, e])⟩
        have hpe := hpi.mpr e
        unfold f_X7_layParts_b7
        simp only [hP, hv]
        simp (disch := omega) only [n_lit, n_le, n_lt, n_eq, n_in, n_ckt, n_ix, n_mul, n_add, n_sub, n_div, n_rem, n_b01, n_isb, n_lt0, n_le0, Option.bind_some, if_pos, if_neg, ge_iff_le, gt_iff_lt, Nat.zero_add, Nat.add_zero, n_neg1, n_neg4, if_true, if_false, ite_true, ite_false, n_land1, not_true_eq_false, not_false_eq_true]
        try simp [hpe]
      · have hvi : pm_v s wo i = true := by simp [pm_v, hv, e]
        refine ⟨(nI (i + 1), ww_up (ww_up τ 72 (fb_ct (pm_v s wo) i) (nI i)) 62 25 (nI (fb_ct (pm_v s wo) i + 1))), ?_, rfl, ?_, ?_, ?_, ?_⟩
        · have hpe : ¬ nI (i / 10) = p2 := fun z => e (hpi.mp z)
          unfold f_X7_layParts_b7
          simp only [hP, hv, k2, ww_up_ne (show (62 : Nat) ≠ 62 + 10 by decide)]
          simp (disch := omega) only [n_lit, n_le, n_lt, n_eq, n_in, n_ckt, n_ix, n_mul, n_add, n_sub, n_div, n_rem, n_b01, n_isb, n_lt0, n_le0, Option.bind_some, if_pos, if_neg, ge_iff_le, gt_iff_lt, Nat.zero_add, Nat.add_zero, n_neg1, n_neg4, if_true, if_false, ite_true, ite_false, n_land1, not_true_eq_false, not_false_eq_true]
          try simp [hpe]
        · dsimp only
          rw [ww_up_eq, pk_us, fb_ct_succ, if_pos hvi]
        · intro y hy hvy
          show ww_up (ww_up τ 72 (fb_ct (pm_v s wo) i) (nI i)) 62 25 (nI (fb_ct (pm_v s wo) i + 1)) 72 (fb_ct (pm_v s wo) y) = nI y
          rw [ww_up_ne (show (72 : Nat) ≠ 62 by decide), ww_up_eq]
          by_cases e2 : y = i
          · subst e2; exact pk_us
          · have := ls_lt_ct hvy (show y < i by omega)
            rw [pk_un (by omega)]
            exact k3 y (by omega) hvy
        · intro a h1 h2
          show ww_up (ww_up τ 72 (fb_ct (pm_v s wo) i) (nI i)) 62 25 (nI (fb_ct (pm_v s wo) i + 1)) a = σ a
          rw [ww_up_ne h1, ww_up_ne h2]; exact k4 a h1 h2
        · intro j hj
          show ww_up (ww_up τ 72 (fb_ct (pm_v s wo) i) (nI i)) 62 25 (nI (fb_ct (pm_v s wo) i + 1)) 62 j = σ 62 j
          rw [ww_up_eq, pk_un hj, ww_up_ne (show (62 : Nat) ≠ 72 by decide)]; exact k5 j hj
  · obtain ⟨i0, τ⟩ := x
    dsimp only at hx
    obtain ⟨rfl, k2⟩ := hx
    refine ⟨τ, ?_, k2⟩
    unfold f_X7_layParts_b7
    simp (disch := omega) only [n_lit, n_le, n_lt, n_eq, n_in, n_ckt, n_ix, n_mul, n_add, n_sub, n_div, n_rem, n_b01, n_isb, n_lt0, n_le0, Option.bind_some, if_pos, if_neg, ge_iff_le, gt_iff_lt, Nat.zero_add, Nat.add_zero, n_neg1, n_neg4, if_true, if_false, ite_true, ite_false, n_land1, not_true_eq_false, not_false_eq_true]
