/-! ===== the checks behind all lines ===== -/
theorem sp_check {σ : ww_M} {s : ww_S} {d : ww_D1} {B : Nat → Bool} {n : Nat} (hC : dr_C σ s d B) (hok : dr_ok s d) (h11 : σ 1 1 = nI n) : ∃ f τ, f_X5_checkBeasts σ 3 1 14 = some τ ∧ ((f = 0 ∧ bd_6 s ∧ bd_7 s ∧ τ = σ) ∨ (f = 6 ∧ ¬ bd_6 s ∧ τ = ww_up (ww_up σ 3 0 (nI 6)) 3 1 (nI n)) ∨ (f = 7 ∧ bd_6 s ∧ ¬ bd_7 s ∧ τ = ww_up (ww_up σ 3 0 (nI 7)) 3 1 (nI n))) := by
  have hnb := hok.1.2.2
  have hnp := hok.1.1
  have e9 : σ 14 9 = nI (sNp s) := hC.1.1.1
  have e11 : σ 14 11 = nI (sNb s) := hC.1.1.2.2
  have eb : ∀ b, b < sNb s → σ 18 b = nI (sHd s b) ∧ σ 19 b = nI (sPt s b) := fun b hb => hC.1.2.2.2.2.1 b hb
  have l1 := ww_it_first (f := f_X5_checkBeasts_b2 3 1 14) (fun b => (nI b, σ)) (fun b => decide (sNp s < sHd s b + sPt s b)) (sNb s) (by omega) (fun _ => .inr (ww_up (ww_up σ 3 0 (nI 6)) 3 1 (nI n))) (.inl σ) (fun b hb hq => ?_) (fun b hb hq => ?_) ?_
  · by_cases z : fa_first (fun b => decide (sNp s < sHd s b + sPt s b)) (sNb s) < sNb s
    · rw [if_pos z] at l1
      have hy := fa_first_yes (fun b => decide (sNp s < sHd s b + sPt s b)) (sNb s) z
      have hy' : sNp s < sHd s (fa_first (fun b => decide (sNp s < sHd s b + sPt s b)) (sNb s)) + sPt s (fa_first (fun b => decide (sNp s < sHd s b + sPt s b)) (sNb s)) := of_decide_eq_true hy
      refine ⟨6, _, ?_, Or.inr (Or.inl ⟨rfl, fun w => ?_, rfl⟩)⟩
      · unfold f_X5_checkBeasts f_X5_checkBeasts_j2
        have l1' : ww_it (f_X5_checkBeasts_b2 3 1 14) ww_F (0, σ) = _ := l1
        rw [l1']
        rfl
      · have := w _ z
        omega
    · rw [if_neg z] at l1
      have h6 : bd_6 s := fun b hb => by
        have hl := fa_first_le (fun b => decide (sNp s < sHd s b + sPt s b)) (sNb s)
        have := fa_first_no (fun b => decide (sNp s < sHd s b + sPt s b)) (sNb s) b (by omega)
        have := of_decide_eq_false this
        omega
      have l2 := ww_it_first (f := f_X5_checkBeasts_b53 3 1 14) (fun b => (nI (bd_t s b), nI b, σ)) (fun b => decide (¬ bd_t s b &&& ww_bd (sHd s b) (sPt s b) = 0)) (sNb s) (by omega) (fun _ => .inr (ww_up (ww_up σ 3 0 (nI 7)) 3 1 (nI n))) (.inl σ) (fun b hb hq => ?_) (fun b hb hq => ?_) ?_
      · have hck : ∀ r, ww_it (f_X5_checkBeasts_b53 3 1 14) ww_F (nI (bd_t s 0), nI 0, σ) = some r → f_X5_checkBeasts σ 3 1 14 = (match r with | .inl b53 => f_X5_checkBeasts_j100 b53 3 1 14 | .inr g53 => some g53) := fun r hr => by
          unfold f_X5_checkBeasts f_X5_checkBeasts_j2
          have l1' : ww_it (f_X5_checkBeasts_b2 3 1 14) ww_F (0, σ) = _ := l1
          rw [l1']
          simp only [Option.bind_some]
          unfold f_X5_checkBeasts_j48 f_X5_checkBeasts_j53
          have hr' : ww_it (f_X5_checkBeasts_b53 3 1 14) ww_F (0, 0, σ) = some r := hr
          rw [hr']
          simp only [Option.bind_some]
          cases r <;> rfl
        by_cases z2 : fa_first (fun b => decide (¬ bd_t s b &&& ww_bd (sHd s b) (sPt s b) = 0)) (sNb s) < sNb s
        · rw [if_pos z2] at l2
          have hy := of_decide_eq_true (fa_first_yes (fun b => decide (¬ bd_t s b &&& ww_bd (sHd s b) (sPt s b) = 0)) (sNb s) z2)
          exact ⟨7, _, hck _ l2, Or.inr (Or.inr ⟨rfl, h6, fun w => hy (w _ z2), rfl⟩)⟩
        · rw [if_neg z2] at l2
          refine ⟨0, _, hck _ l2, Or.inl ⟨rfl, h6, fun b hb => ?_, rfl⟩⟩
          have hl := fa_first_le (fun b => decide (¬ bd_t s b &&& ww_bd (sHd s b) (sPt s b) = 0)) (sNb s)
          have := of_decide_eq_false (fa_first_no (fun b => decide (¬ bd_t s b &&& ww_bd (sHd s b) (sPt s b) = 0)) (sNb s) b (by omega))
          exact Classical.byContradiction this
      · have hq' := Classical.byContradiction (of_decide_eq_false hq)
        have h3 := hok.2.2.1 b hb
        obtain ⟨b1, b2⟩ := eb b hb
        unfold f_X5_checkBeasts_b53 f_X2_bodyOf f_X6_bodyAt
        simp only [e11, show (14 + 4 : Nat) = 18 from rfl, show (14 + 5 : Nat) = 19 from rfl]
        simp (disch := omega) only [n_lit, n_le, n_lt, n_eq, n_in, n_ckt, n_ix, n_mul, n_add, n_sub, n_div, n_rem, n_b01, n_isb, n_lt0, n_le0, Option.bind_some, if_pos, if_neg, ge_iff_le, gt_iff_lt, Nat.zero_add, Nat.add_zero, n_neg1, n_neg4, if_true, if_false, ite_true, ite_false, n_land1, not_true_eq_false, not_false_eq_true, b1, b2]
        rw [show ww_shl (ww_shl (nI 1) (nI (sPt s b)) - nI 1) (nI (sHd s b)) = nI (ww_bd (sHd s b) (sPt s b)) from ww_bdI (by omega) (by omega), fa_and, hq', if_pos rfl, fa_or]
        rfl
      · have hq' := of_decide_eq_true hq
        have h3 := hok.2.2.1 b hb
        have hlt := bd_t_lt hok b (by omega)
        have hle : bd_t s b &&& ww_bd (sHd s b) (sPt s b) ≤ bd_t s b := Nat.and_le_left
        obtain ⟨b1, b2⟩ := eb b hb
        unfold f_X5_checkBeasts_b53 f_X2_bodyOf f_X6_bodyAt f_X5_fail
        simp only [e11, show (14 + 4 : Nat) = 18 from rfl, show (14 + 5 : Nat) = 19 from rfl]
        simp (disch := omega) only [n_lit, n_le, n_lt, n_eq, n_in, n_ckt, n_ix, n_mul, n_add, n_sub, n_div, n_rem, n_b01, n_isb, n_lt0, n_le0, Option.bind_some, if_pos, if_neg, ge_iff_le, gt_iff_lt, Nat.zero_add, Nat.add_zero, n_neg1, n_neg4, if_true, if_false, ite_true, ite_false, n_land1, not_true_eq_false, not_false_eq_true, b1, b2]
        rw [show ww_shl (ww_shl (nI 1) (nI (sPt s b)) - nI 1) (nI (sHd s b)) = nI (ww_bd (sHd s b) (sPt s b)) from ww_bdI (by omega) (by omega), fa_and, if_neg (by rw [n_eq (by omega) (by omega)]; exact hq'), h11]
      · unfold f_X5_checkBeasts_b53
        simp only [e11]
        simp (disch := omega) only [n_lit, n_le, n_lt, n_eq, n_in, n_ckt, n_ix, n_mul, n_add, n_sub, n_div, n_rem, n_b01, n_isb, n_lt0, n_le0, Option.bind_some, if_pos, if_neg, ge_iff_le, gt_iff_lt, Nat.zero_add, Nat.add_zero, n_neg1, n_neg4, if_true, if_false, ite_true, ite_false, n_land1, not_true_eq_false, not_false_eq_true]
  · have hq' := of_decide_eq_false hq
    have h3 := hok.2.2.1 b hb
    obtain ⟨b1, b2⟩ := eb b hb
    unfold f_X5_checkBeasts_b2
    simp only [e11, e9, show (14 + 4 : Nat) = 18 from rfl, show (14 + 5 : Nat) = 19 from rfl]
    simp (disch := omega) only [n_lit, n_le, n_lt, n_eq, n_in, n_ckt, n_ix, n_mul, n_add, n_sub, n_div, n_rem, n_b01, n_isb, n_lt0, n_le0, Option.bind_some, if_pos, if_neg, ge_iff_le, gt_iff_lt, Nat.zero_add, Nat.add_zero, n_neg1, n_neg4, if_true, if_false, ite_true, ite_false, n_land1, not_true_eq_false, not_false_eq_true, b1, b2]
  · have hq' := of_decide_eq_true hq
    have h3 := hok.2.2.1 b hb
    obtain ⟨b1, b2⟩ := eb b hb
    unfold f_X5_checkBeasts_b2 f_X5_fail
    simp only [e11, e9, h11, show (14 + 4 : Nat) = 18 from rfl, show (14 + 5 : Nat) = 19 from rfl]
    simp (disch := omega) only [n_lit, n_le, n_lt, n_eq, n_in, n_ckt, n_ix, n_mul, n_add, n_sub, n_div, n_rem, n_b01, n_isb, n_lt0, n_le0, Option.bind_some, if_pos, if_neg, ge_iff_le, gt_iff_lt, Nat.zero_add, Nat.add_zero, n_neg1, n_neg4, if_true, if_false, ite_true, ite_false, n_land1, not_true_eq_false, not_false_eq_true, b1, b2]
  · unfold f_X5_checkBeasts_b2
    simp only [e11]
    simp (disch := omega) only [n_lit, n_le, n_lt, n_eq, n_in, n_ckt, n_ix, n_mul, n_add, n_sub, n_div, n_rem, n_b01, n_isb, n_lt0, n_le0, Option.bind_some, if_pos, if_neg, ge_iff_le, gt_iff_lt, Nat.zero_add, Nat.add_zero, n_neg1, n_neg4, if_true, if_false, ite_true, ite_false, n_land1, not_true_eq_false, not_false_eq_true]
def bd_w (s : ww_S) : Nat → Bool
  | 0 => false
  | b + 1 => bd_w s b || decide (¬ bd_t s b &&& ww_bd (sHd s b) (sPt s b) = 0)
theorem bd_w_iff (s : ww_S) : ∀ n, bd_w s n = false ↔ ∀ b, b < n → bd_t s b &&& ww_bd (sHd s b) (sPt s b) = 0
  | 0 => ⟨fun _ b hb => absurd hb (Nat.not_lt_zero b), fun _ => rfl⟩
  | n + 1 => by
    show (bd_w s n || decide (¬ bd_t s n &&& ww_bd (sHd s n) (sPt s n) = 0)) = false ↔ _
    rw [Bool.or_eq_false_iff, bd_w_iff s n]
    constructor
    · rintro ⟨h1, h2⟩ b hb
      by_cases e : b = n
      · subst e; exact Classical.byContradiction (of_decide_eq_false h2)
      · exact h1 b (by omega)
    · intro h
      exact ⟨fun b hb => h b (by omega), decide_eq_false (fun z => z (h n (by omega)))⟩
theorem sm_looks {μ : ww_M} {s : ww_S} {d : ww_D1} {B : Nat → Bool} {n : Nat} (hD : dr_M μ s d B) (hok : dr_ok s d) (h16 : μ 62 16 = 0) (h19 : μ 62 19 = nI n) : ∃ ν, f_X7_looksWhere μ 62 = some ν ∧ ((bd_6 s → bd_7 s → ν = μ) ∧ (¬ bd_6 s → ν = ww_up (ww_up μ 62 16 (nI 6)) 62 17 (nI n)) ∧ (bd_6 s → ¬ bd_7 s → ν = ww_up (ww_up μ 62 16 (nI 7)) 62 17 (nI n))) := by
  have hnb := hok.1.2.2
  have hnp := hok.1.1
  obtain ⟨⟨e9, e10, e11⟩, -, -, hb68, -⟩ := hD
  have l1 := ww_it_for (f := f_X7_looksWhere_b6 μ 62) (fun b => (nI (bd_t s b), (if bd_w s b = true then 1 else 0), nI b)) (sNb s) (r := (nI (bd_t s (sNb s)), (if bd_w s (sNb s) = true then 1 else 0))) (by omega) (fun b hb => ?_) ?_
  · have hlt := bd_t_lt hok (sNb s) (Nat.le_refl _)
    have hdv := Nat.div_le_self (bd_t s (sNb s)) (2 ^ sNp s)
    have h0 : f_X7_looksWhere μ 62 = f_X7_looksWhere_j67 μ 62 (nI (bd_t s (sNb s))) (if bd_w s (sNb s) = true then 1 else 0) := by
      unfold f_X7_looksWhere f_X7_looksWhere_j6
      have l1' : ww_it (f_X7_looksWhere_b6 μ 62) ww_F (0, 0, 0) = _ := l1
      rw [l1']
      rfl
    rw [h0]
    unfold f_X7_looksWhere_j67
    rw [if_pos h16, e9, ww_shrN (by omega) (by omega)]
    by_cases q6 : bd_6 s
    · rw [if_pos (show nI (bd_t s (sNb s) / 2 ^ sNp s) = 0 by rw [(bd_6_iff hok).mpr q6]; rfl)]
      unfold f_X7_looksWhere_j89
      rw [if_pos h16]
      by_cases q7 : bd_7 s
      · refine ⟨μ, ?_, fun _ _ => rfl, fun z => absurd q6 z, fun _ z => absurd q7 z⟩
        rw [(bd_w_iff s _).mpr q7]
        rfl
      · refine ⟨ww_up (ww_up μ 62 16 (nI 7)) 62 17 (nI n), ?_, fun _ z => absurd z q7, fun z => absurd q6 z, fun _ _ => rfl⟩
        have : bd_w s (sNb s) = true := by
          cases w : bd_w s (sNb s)
          · exact absurd ((bd_w_iff s _).mp w) q7
          · rfl
        rw [this, if_pos rfl, if_neg (by decide), sm_fails h16, h19]
        rfl
    · refine ⟨ww_up (ww_up μ 62 16 (nI 6)) 62 17 (nI n), ?_, fun z => absurd z q6, fun _ => rfl, fun z => absurd z q6⟩
      rw [if_neg (show ¬ nI (bd_t s (sNb s) / 2 ^ sNp s) = 0 by
        rw [show (0 : Int32) = nI 0 from rfl, n_eq (by omega) (by omega), bd_6_iff hok]; exact q6), sm_fails h16, h19]
      simp only [Option.bind_some]
      unfold f_X7_looksWhere_j89
      rw [if_neg (show ¬ ww_up (ww_up μ 62 16 6) 62 17 (nI n) 62 16 = 0 by
        rw [ww_up_eq, pk_un (by omega), ww_up_eq, pk_us]; decide)]
      rfl
  · have h3 := hok.2.2.1 b hb
    have hlt := bd_t_lt hok b (by omega)
    have hle : bd_t s b &&& ww_bd (sHd s b) (sPt s b) ≤ bd_t s b := Nat.and_le_left
    obtain ⟨b1, b2⟩ := hb68 b hb
    unfold f_X7_looksWhere_b6
    simp only [e11, show (62 + 6 : Nat) = 68 from rfl]
    simp (disch := omega) only [n_lit, n_le, n_lt, n_eq, n_in, n_ckt, n_ix, n_mul, n_add, n_sub, n_div, n_rem, n_b01, n_isb, n_lt0, n_le0, Option.bind_some, if_pos, if_neg, ge_iff_le, gt_iff_lt, Nat.zero_add, Nat.add_zero, n_neg1, n_neg4, if_true, if_false, ite_true, ite_false, n_land1, not_true_eq_false, not_false_eq_true, b1, b2]
    rw [show ww_shl (ww_shl (nI 1) (nI (sPt s b)) - nI 1) (nI (sHd s b)) = nI (ww_bd (sHd s b) (sPt s b)) from ww_bdI (by omega) (by omega), fa_and, fa_or]
    have n10 : ¬ nI 1 = nI 0 := by decide
    show _ = some (Sum.inl (nI (bd_t s b ||| ww_bd (sHd s b) (sPt s b)), (if (bd_w s b || decide (¬ bd_t s b &&& ww_bd (sHd s b) (sPt s b) = 0)) = true then nI 1 else nI 0), nI (b + 1)))
    cases w : bd_w s b
    · by_cases q : bd_t s b &&& ww_bd (sHd s b) (sPt s b) = 0
      · simp [q]
      · have q' : ¬ nI (bd_t s b &&& ww_bd (sHd s b) (sPt s b)) = nI 0 := by rw [n_eq (by omega) (by omega)]; exact q
        simp [q, q']
    · simp [n10]
  · unfold f_X7_looksWhere_b6
    simp only [e11]
    simp (disch := omega) only [n_lit, n_le, n_lt, n_eq, n_in, n_ckt, n_ix, n_mul, n_add, n_sub, n_div, n_rem, n_b01, n_isb, n_lt0, n_le0, Option.bind_some, if_pos, if_neg, ge_iff_le, gt_iff_lt, Nat.zero_add, Nat.add_zero, n_neg1, n_neg4, if_true, if_false, ite_true, ite_false, n_land1, not_true_eq_false, not_false_eq_true]
theorem sm_looks_br {μ : ww_M} {f nb : Nat} (h16 : μ 62 16 = nI f) (h1 : 1 ≤ f) (h2 : f < 100) (h11 : μ 62 11 = nI nb) (hnb : nb ≤ 3) : f_X7_looksWhere μ 62 = some μ := by
  have h0 : ¬ μ 62 16 = 0 := by rw [h16, show (0 : Int32) = nI 0 from rfl, n_eq (by omega) (by omega)]; omega
  obtain ⟨r, l1, -⟩ := ww_it_inv (f := f_X7_looksWhere_b6 μ 62) (x0 := (0, 0, 0)) (fun b x => x.2.2 = nI b) (fun _ => True) nb (by omega) rfl (fun b hb x hx => by
    obtain ⟨x1, x2, x3⟩ := x
    dsimp only at hx
    subst hx
    refine Or.inl ?_
    unfold f_X7_looksWhere_b6
    dsimp only
    rw [h11, if_neg (by rw [n_le (by omega) (by omega)]; omega), show (2 : Int32) * nI b = nI (2 * b) from n_mul 2 b, nI_1, n_in (show 2 * b + 1 < 6 by omega) (by omega), n_in (show 2 * b < 6 by omega) (by omega), n_ckt, n_ckt]
    split
    · split
      · exact ⟨_, rfl, nI_1 b⟩
      · exact ⟨_, rfl, nI_1 b⟩
    · exact ⟨_, rfl, nI_1 b⟩) (fun x hx => by
    obtain ⟨x1, x2, x3⟩ := x
    dsimp only at hx
    subst hx
    refine ⟨(x1, x2), ?_, trivial⟩
    unfold f_X7_looksWhere_b6
    dsimp only
    rw [h11, if_pos (nI_le (Nat.le_refl _) (by omega))])
  unfold f_X7_looksWhere f_X7_looksWhere_j6
  rw [l1]
  simp only [Option.bind_some]
  unfold f_X7_looksWhere_j67 f_X7_looksWhere_j89
  rw [if_neg h0, if_neg h0]
/-! ===== the beginnings ===== -/
def tx_s : ww_S := (0, 0, 0, fun _ => 0, fun _ => 0, fun _ => 0)
def tx_d : ww_D1 := (0, 4, 1, 0, fun _ => 0, fun _ => 0, fun _ _ => 0, fun _ _ => 0, fun _ _ => 0, fun _ => false, fun _ => 0)
theorem tx_ok : dr_ok tx_s tx_d := by
  have n0 : ∀ b : Nat, ¬ b < 0 := fun b => Nat.not_lt_zero b
  exact ⟨⟨by decide, by decide, by decide⟩, fun j hj => absurd hj (n0 j), fun b hb => absurd hb (n0 b), ⟨by decide, by decide, by decide, by decide, by decide, rfl⟩, fun i hi => absurd hi (n0 i), fun b hb => absurd hb (n0 b), fun b => rfl⟩
theorem tx_cls0 {σ : ww_M} {n : Nat} {y : Nat → Nat} (hT : tp_C σ n y) : ∃ σ0, f_X5_tellAll σ 3 1 14 = f_X5_tellAll_j30 σ0 3 1 14 0 ∧ tk_C σ0 n y 0 ∧ dr_C σ0 tx_s tx_d (fun _ => false) ∧ fr_C σ σ0 := by
  obtain ⟨σ', hσ'⟩ : ∃ X, X = ww_up (ww_up (ww_fill (ww_up (ww_up (ww_up (ww_up (ww_up (ww_up (ww_up (ww_up (ww_up (ww_up (ww_up σ 3 0 0) 3 2 0) 14 9 0) 14 10 1) 17 0 0) 14 11 0) 14 12 0) 14 13 4) 14 14 1) 14 15 0) 14 16 0) 23 4 0) 14 10 0) 1 2 0 := ⟨_, rfl⟩
  have f1 : fr_C σ σ' := by
    rw [hσ']
    refine ⟨fun a z1 z2 z3 => ?_, ?_⟩
    · rw [ww_up_ne z1, ww_up_ne (by omega), ww_fill_ne (by omega), ww_up_ne (by omega), ww_up_ne (by omega), ww_up_ne (by omega), ww_up_ne (by omega), ww_up_ne (by omega), ww_up_ne (by omega), ww_up_ne (by omega), ww_up_ne (by omega), ww_up_ne (by omega), ww_up_ne z2, ww_up_ne z2]
    · simp (disch := omega) only [ww_up_ne, ww_up_eq, ww_upr_ne, ww_upr_eq, ww_fill_ne, ww_fill_eq, ww_cpy_ne, ww_cpy_eq, pk_us, pk_un, ne_eq, not_false_eq_true]
  have hdr : dr_C σ' tx_s tx_d (fun _ => false) := by
    have n0 : ∀ b : Nat, ¬ b < 0 := fun b => Nat.not_lt_zero b
    refine ⟨⟨⟨?_, ?_, ?_⟩, ⟨?_, ?_, ?_, ?_, ?_⟩, fun i hi => absurd hi (n0 i), fun j hj => absurd hj (n0 j), fun b hb => absurd hb (n0 b), fun b hb => absurd hb (n0 b), fun k hk => ?_⟩, ⟨?_, 0, by omega, ?_, fun i _ => Nat.zero_testBit _⟩, fun _ => ?_⟩
    · rw [hσ']; simp (disch := omega) only [ww_up_ne, ww_up_eq, ww_upr_ne, ww_upr_eq, ww_fill_ne, ww_fill_eq, ww_cpy_ne, ww_cpy_eq, pk_us, pk_un, ne_eq, not_false_eq_true]; rfl
    · rw [hσ']; simp (disch := omega) only [ww_up_ne, ww_up_eq, ww_upr_ne, ww_upr_eq, ww_fill_ne, ww_fill_eq, ww_cpy_ne, ww_cpy_eq, pk_us, pk_un, ne_eq, not_false_eq_true]; rfl
    · rw [hσ']; simp (disch := omega) only [ww_up_ne, ww_up_eq, ww_upr_ne, ww_upr_eq, ww_fill_ne, ww_fill_eq, ww_cpy_ne, ww_cpy_eq, pk_us, pk_un, ne_eq, not_false_eq_true]; rfl
    · rw [hσ']; simp (disch := omega) only [ww_up_ne, ww_up_eq, ww_upr_ne, ww_upr_eq, ww_fill_ne, ww_fill_eq, ww_cpy_ne, ww_cpy_eq, pk_us, pk_un, ne_eq, not_false_eq_true]; rfl
    · rw [hσ']; simp (disch := omega) only [ww_up_ne, ww_up_eq, ww_upr_ne, ww_upr_eq, ww_fill_ne, ww_fill_eq, ww_cpy_ne, ww_cpy_eq, pk_us, pk_un, ne_eq, not_false_eq_true]; rfl
    · rw [hσ']; simp (disch := omega) only [ww_up_ne, ww_up_eq, ww_upr_ne, ww_upr_eq, ww_fill_ne, ww_fill_eq, ww_cpy_ne, ww_cpy_eq, pk_us, pk_un, ne_eq, not_false_eq_true]; rfl
    · rw [hσ']; simp (disch := omega) only [ww_up_ne, ww_up_eq, ww_upr_ne, ww_upr_eq, ww_fill_ne, ww_fill_eq, ww_cpy_ne, ww_cpy_eq, pk_us, pk_un, ne_eq, not_false_eq_true]; rfl
    · rw [hσ']; simp (disch := omega) only [ww_up_ne, ww_up_eq, ww_upr_ne, ww_upr_eq, ww_fill_ne, ww_fill_eq, ww_cpy_ne, ww_cpy_eq, pk_us, pk_un, ne_eq, not_false_eq_true]; rfl
    · rw [hσ']
      show ww_up (ww_up (ww_fill _ 23 4 0) 14 10 0) 1 2 0 23 k = 0
      rw [ww_up_ne (by omega), ww_up_ne (by omega), ww_fill_eq]
      exact if_pos hk
    · rw [hσ']; simp (disch := omega) only [ww_up_ne, ww_up_eq, ww_upr_ne, ww_upr_eq, ww_fill_ne, ww_fill_eq, ww_cpy_ne, ww_cpy_eq, pk_us, pk_un, ne_eq, not_false_eq_true]
    · rw [hσ']; simp (disch := omega) only [ww_up_ne, ww_up_eq, ww_upr_ne, ww_upr_eq, ww_fill_ne, ww_fill_eq, ww_cpy_ne, ww_cpy_eq, pk_us, pk_un, ne_eq, not_false_eq_true]; rfl
    · rw [hσ']; simp (disch := omega) only [ww_up_ne, ww_up_eq, ww_upr_ne, ww_upr_eq, ww_fill_ne, ww_fill_eq, ww_cpy_ne, ww_cpy_eq, pk_us, pk_un, ne_eq, not_false_eq_true]
  obtain ⟨σ0, s1, s2, s3, s4⟩ := sp_step (p := 0) (f1.tp hT) (Nat.zero_le _) (by rw [hσ']; simp (disch := omega) only [ww_up_ne, ww_up_eq, ww_upr_ne, ww_upr_eq, ww_fill_ne, ww_fill_eq, ww_cpy_ne, ww_cpy_eq, pk_us, pk_un, ne_eq, not_false_eq_true]; rfl)
  refine ⟨σ0, ?_, s2, dr_C_fr hdr s4, f1.trans ⟨fun a z1 _ _ => s4 a z1, s3⟩⟩
  unfold f_X5_tellAll f_X2_clear
  simp only [Option.bind_some]
  rw [show ww_up (ww_up (ww_fill (ww_up (ww_up (ww_up (ww_up (ww_up (ww_up (ww_up (ww_up (ww_up (ww_up (ww_up σ 3 0 0) 3 2 0) 14 9 0) 14 10 1) (14 + 3) 0 0) 14 11 0) 14 12 0) 14 13 4) 14 14 1) 14 15 0) 14 16 0) (14 + 9) 4 0) 14 10 0) 1 2 0 = σ' from hσ'.symm, s1]
  rfl
theorem tx_mod0 {μ : ww_M} {n : Nat} {y : Nat → Nat} (hT : tp_M μ n y) : ∃ μ0, f_X7_text μ 62 = f_X7_text_j57 μ0 62 0 ∧ tk_M μ0 n y 0 ∧ dr_M μ0 tx_s tx_d (fun _ => false) ∧ fr_M μ μ0 := by
  obtain ⟨X, hX⟩ : ∃ X, X = ww_up (ww_up (ww_up (ww_up (ww_up (ww_up μ 62 16 0) 62 18 0) 62 9 0) 62 10 0) 62 11 0) 62 12 0 := ⟨_, rfl⟩
  obtain ⟨ν, l1, l2, l3⟩ := ww_it_inv (f := f_X7_text_b34 62 0) (x0 := (0, X)) (fun i x => x.1 = nI i ∧ (∀ j, j < i → x.2 66 j = 0) ∧ ∀ a, a ≠ 66 → x.2 a = X a) (fun ν => (∀ j, j < 50 → ν 66 j = 0) ∧ ∀ a, a ≠ 66 → ν a = X a) 50 (by omega) ⟨rfl, fun j hj => absurd hj (Nat.not_lt_zero j), fun a _ => rfl⟩ (fun i hi x hx => by
    obtain ⟨x1, ν⟩ := x
    dsimp only at hx
    obtain ⟨rfl, k2, k3⟩ := hx
    refine Or.inl ⟨(nI (i + 1), ww_up ν 66 i 0), ?_, rfl, fun j hj => ?_, fun a ha => ?_⟩
    · unfold f_X7_text_b34
      simp (disch := omega) only [n_lit, n_le, n_lt, n_eq, n_in, n_ckt, n_ix, n_mul, n_add, n_sub, n_div, n_rem, n_b01, n_isb, n_lt0, n_le0, Option.bind_some, if_pos, if_neg, ge_iff_le, gt_iff_lt, Nat.zero_add, Nat.add_zero, n_neg1, n_neg4, if_true, if_false, ite_true, ite_false, n_land1, not_true_eq_false, not_false_eq_true]
    · show ww_up ν 66 i 0 66 j = 0
      rw [ww_up_eq]
      by_cases e : j = i
      · rw [e, pk_us]
      · rw [pk_un e]; exact k2 j (by omega)
    · show ww_up ν 66 i 0 a = X a
      rw [ww_up_ne ha]; exact k3 a ha) (fun x hx => by
    obtain ⟨x1, ν⟩ := x
    dsimp only at hx
    obtain ⟨rfl, k2, k3⟩ := hx
    refine ⟨ν, ?_, k2, k3⟩
    unfold f_X7_text_b34
    simp (disch := omega) only [n_lit, n_le, n_lt, n_eq, n_in, n_ckt, n_ix, n_mul, n_add, n_sub, n_div, n_rem, n_b01, n_isb, n_lt0, n_le0, Option.bind_some, if_pos, if_neg, ge_iff_le, gt_iff_lt, Nat.zero_add, Nat.add_zero, n_neg1, n_neg4, if_true, if_false, ite_true, ite_false, n_land1, not_true_eq_false, not_false_eq_true])
  have e62 : ν 62 = X 62 := l3 62 (by omega)
  have f1 : fr_M μ ν := by
    refine ⟨fun a z1 z2 z3 z4 => ?_, fun j hj => ?_⟩
    · rw [l3 a z2, hX, ww_up_ne z1, ww_up_ne z1, ww_up_ne z1, ww_up_ne z1, ww_up_ne z1, ww_up_ne z1]
    · rw [e62, hX]; simp (disch := omega) only [ww_up_ne, ww_up_eq, ww_upr_ne, ww_upr_eq, ww_fill_ne, ww_fill_eq, ww_cpy_ne, ww_cpy_eq, pk_us, pk_un, ne_eq, not_false_eq_true]
  have hdr : dr_M ν tx_s tx_d (fun _ => false) := by
    have n0 : ∀ b : Nat, ¬ b < 0 := fun b => Nat.not_lt_zero b
    refine ⟨⟨?_, ?_, ?_⟩, ⟨⟨?_, ?_, ?_, ?_⟩, fun b hb => ?_, fun i hi => absurd hi (n0 i), fun b hb => absurd hb (n0 b), fun k hk => ?_⟩, fun j hj => absurd hj (n0 j), fun b hb => absurd hb (n0 b), 0, by omega, ?_, fun i _ => Nat.zero_testBit _⟩
    · rw [e62, hX]; simp (disch := omega) only [ww_up_ne, ww_up_eq, ww_upr_ne, ww_upr_eq, ww_fill_ne, ww_fill_eq, ww_cpy_ne, ww_cpy_eq, pk_us, pk_un, ne_eq, not_false_eq_true]; rfl
    · rw [e62, hX]; simp (disch := omega) only [ww_up_ne, ww_up_eq, ww_upr_ne, ww_upr_eq, ww_fill_ne, ww_fill_eq, ww_cpy_ne, ww_cpy_eq, pk_us, pk_un, ne_eq, not_false_eq_true]; rfl
    · rw [e62, hX]; simp (disch := omega) only [ww_up_ne, ww_up_eq, ww_upr_ne, ww_upr_eq, ww_fill_ne, ww_fill_eq, ww_cpy_ne, ww_cpy_eq, pk_us, pk_un, ne_eq, not_false_eq_true]; rfl
    · rw [l2 _ (by omega)]; rfl
    · rw [l2 _ (by omega)]; rfl
    · rw [l2 _ (by omega)]; rfl
    · rw [l2 _ (by omega)]; rfl
    · rw [l2 _ (by omega)]; rfl
    · rw [l2 _ (by omega)]; rfl
    · rw [e62, hX]; simp (disch := omega) only [ww_up_ne, ww_up_eq, ww_upr_ne, ww_upr_eq, ww_fill_ne, ww_fill_eq, ww_cpy_ne, ww_cpy_eq, pk_us, pk_un, ne_eq, not_false_eq_true]; rfl
  obtain ⟨μ0, s1, s2, s3, s4⟩ := sm_step (p := 0) (f1.tp hT) (Nat.zero_le _) (by rw [e62, hX]; simp (disch := omega) only [ww_up_ne, ww_up_eq, ww_upr_ne, ww_upr_eq, ww_fill_ne, ww_fill_eq, ww_cpy_ne, ww_cpy_eq, pk_us, pk_un, ne_eq, not_false_eq_true]; rfl) (by rw [e62, hX]; simp (disch := omega) only [ww_up_ne, ww_up_eq, ww_upr_ne, ww_upr_eq, ww_fill_ne, ww_fill_eq, ww_cpy_ne, ww_cpy_eq, pk_us, pk_un, ne_eq, not_false_eq_true])
  refine ⟨μ0, ?_, s2, dr_M_fr hdr ⟨s3, s4⟩, f1.trans (fr_S.M ⟨s3, s4⟩)⟩
  unfold f_X7_text f_X7_text_j34
  rw [← hX, l1]
  simp only [Option.bind_some]
  unfold f_X7_text_j53
  rw [s1]
  rfl
