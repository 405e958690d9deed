/-! ===== the model: the table of mosts ===== -/
theorem ww_ngle {a : Nat} (h : a < 2147483648) : (-4 : Int32) ≤ nI a := by
  rw [fa_le, nI_toInt h]
  show (-4 : Int) ≤ a
  omega
theorem sm_most {τ : ww_M} {s : ww_S} {d : ww_D1} {rot wo n m h c : Nat} {p1 p2 p3 x4 : Int32} (hB : pm_B τ s d rot wo n) (hh : h < n) (hc : c < 4 ^ fb_ct (pl_q s wo) 9) (hR : pm_R τ s d rot wo m (h + 1)) : ww_it (f_X7_layBest_b77 τ 62 p1 p2 p3 x4 (nI h) (nI c)) ww_F (0, 0) = some (nI (pl_pv s d rot (m + 1) h (ls_W (pl_q s wo) c))) := by
  have hM := hB.1
  have hN := hB.2.1
  have h6 := pl_q6 hM.1 wo
  have hbd : pl_pv s d rot (m + 1) h (ls_W (pl_q s wo) c) ≤ 54 := ls_bd h6 (pl_g9 hM.2.1 rot)
  have key := ww_it_inv (f := f_X7_layBest_b77 τ 62 p1 p2 p3 x4 (nI h) (nI c)) (x0 := (0, 0)) (fun i x => x.2 = nI i ∧ ∃ M, x.1 = nI M ∧ M ≤ pl_pv s d rot (m + 1) h (ls_W (pl_q s wo) c) ∧ ∀ jx jy, jx ≤ fb_ct (pl_q s wo) 9 → jy ≤ fb_ct (pl_q s wo) 9 → 7 * jx + jy < i → pv_ok (pl_ab s d) (pl_two d) h (ls_W (pl_q s wo) c) (ls_sl (pl_q s wo) jx) (ls_sl (pl_q s wo) jy) → pv_val (pl_ab s d) (pl_g s d rot) (pl_two d) m h (ls_W (pl_q s wo) c) (ls_sl (pl_q s wo) jx) (ls_sl (pl_q s wo) jy) ≤ M) (fun r => r = nI (pl_pv s d rot (m + 1) h (ls_W (pl_q s wo) c))) 49 (by omega) ⟨rfl, 0, rfl, Nat.zero_le _, fun jx jy _ _ hj => absurd hj (Nat.not_lt_zero _)⟩ (fun i hi x hx => ?_) (fun x hx => ?_)
  · obtain ⟨r, k1, rfl⟩ := key
    exact k1
  · obtain ⟨x1, x2⟩ := x
    dsimp only at hx
    obtain ⟨rfl, M, rfl, hM1, hM2⟩ := hx
    obtain ⟨x, y, hx6, hy6, rfl⟩ : ∃ x y, x ≤ 6 ∧ y ≤ 6 ∧ i = 7 * x + y := ⟨i / 7, i % 7, by omega, by omega, by omega⟩
    have hch := sm_choice hM hN.1 h6 (show x ≤ 100 by omega) hy6
    refine Or.inl ?_
    -- what isn't better changes nothing
    have stay : ∀ v : Int32, v ≤ nI M → f_X7_layBest_j121 τ 62 p1 p2 p3 x4 (nI h) (nI c) (nI M) (nI (7 * x + y)) v = some (.inl (nI M, nI (7 * x + y + 1))) := fun v hv => by
      unfold f_X7_layBest_j121
      rw [if_pos hv]
      simp (disch := omega) only [n_lit, n_le, n_lt, n_eq, n_in, n_ckt, n_ix, n_mul, n_add, n_sub, n_div, n_rem, n_b01, n_isb, n_lt0, n_le0, Option.bind_some, if_pos, if_neg, ge_iff_le, gt_iff_lt, Nat.zero_add, Nat.add_zero, n_neg1, n_neg4, if_true, if_false, ite_true, ite_false, n_land1, not_true_eq_false, not_false_eq_true]
    have next : ∀ M', M ≤ M' → (x ≤ fb_ct (pl_q s wo) 9 → y ≤ fb_ct (pl_q s wo) 9 → pv_ok (pl_ab s d) (pl_two d) h (ls_W (pl_q s wo) c) (ls_sl (pl_q s wo) x) (ls_sl (pl_q s wo) y) → pv_val (pl_ab s d) (pl_g s d rot) (pl_two d) m h (ls_W (pl_q s wo) c) (ls_sl (pl_q s wo) x) (ls_sl (pl_q s wo) y) ≤ M') → ∀ jx jy, jx ≤ fb_ct (pl_q s wo) 9 → jy ≤ fb_ct (pl_q s wo) 9 → 7 * jx + jy < 7 * x + y + 1 → pv_ok (pl_ab s d) (pl_two d) h (ls_W (pl_q s wo) c) (ls_sl (pl_q s wo) jx) (ls_sl (pl_q s wo) jy) → pv_val (pl_ab s d) (pl_g s d rot) (pl_two d) m h (ls_W (pl_q s wo) c) (ls_sl (pl_q s wo) jx) (ls_sl (pl_q s wo) jy) ≤ M' := fun M' hMM hnew jx jy h1 h2 h3 h4 => by
      by_cases e : 7 * jx + jy < 7 * x + y
      · exact Nat.le_trans (hM2 jx jy h1 h2 e h4) hMM
      · obtain ⟨rfl, rfl⟩ : jx = x ∧ jy = y := by omega
        exact hnew h1 h2 h4
    by_cases c1 : x ≤ fb_ct (pl_q s wo) 9 ∧ y ≤ fb_ct (pl_q s wo) 9 ∧ (y = fb_ct (pl_q s wo) 9 ∨ (x < y ∧ pl_two d = true))
    · rw [if_pos c1] at hch
      obtain ⟨hx, hy, hmay⟩ := c1
      have hxy : y = fb_ct (pl_q s wo) 9 ∨ x ≠ y := by omega
      by_cases c2 : pv_can (pl_ab s d) h (ls_W (pl_q s wo) c) (ls_sl (pl_q s wo) x) ∧ pv_can (pl_ab s d) h (ls_W (pl_q s wo) c) (ls_sl (pl_q s wo) y)
      · have hbw := sm_byWork_yes hB hh hc hR hx hy hxy c2.1 c2.2
        have hok : pv_ok (pl_ab s d) (pl_two d) h (ls_W (pl_q s wo) c) (ls_sl (pl_q s wo) x) (ls_sl (pl_q s wo) y) := ⟨c2.1, c2.2, (ls_may hx hy).mpr hmay⟩
        have hge : _ ≤ pl_pv s d rot (m + 1) h (ls_W (pl_q s wo) c) := pv_ge (g := pl_g s d rot) (m := m) hok
        by_cases c3 : pv_val (pl_ab s d) (pl_g s d rot) (pl_two d) m h (ls_W (pl_q s wo) c) (ls_sl (pl_q s wo) x) (ls_sl (pl_q s wo) y) ≤ M
        · refine ⟨(nI M, nI (7 * x + y + 1)), ?_, rfl, M, rfl, hM1, next M (Nat.le_refl _) (fun _ _ _ => c3)⟩
          unfold f_X7_layBest_b77
          simp only [hch]
          simp (disch := omega) only [n_lit, n_le, n_lt, n_eq, n_in, n_ckt, n_ix, n_mul, n_add, n_sub, n_div, n_rem, n_b01, n_isb, n_lt0, n_le0, Option.bind_some, if_pos, if_neg, ge_iff_le, gt_iff_lt, Nat.zero_add, Nat.add_zero, n_neg1, n_neg4, if_true, if_false, ite_true, ite_false, n_land1, not_true_eq_false, not_false_eq_true, show (x + 9 * y) % 9 = x by omega, show (x + 9 * y) / 9 = y by omega, hbw]
          exact stay _ (nI_le c3 (by omega))
        · refine ⟨(nI (pv_val (pl_ab s d) (pl_g s d rot) (pl_two d) m h (ls_W (pl_q s wo) c) (ls_sl (pl_q s wo) x) (ls_sl (pl_q s wo) y)), nI (7 * x + y + 1)), ?_, rfl, _, rfl, hge, next _ (by omega) (fun _ _ _ => Nat.le_refl _)⟩
          unfold f_X7_layBest_b77 f_X7_layBest_j121
          simp only [hch]
          simp (disch := omega) only [n_lit, n_le, n_lt, n_eq, n_in, n_ckt, n_ix, n_mul, n_add, n_sub, n_div, n_rem, n_b01, n_isb, n_lt0, n_le0, Option.bind_some, if_pos, if_neg, ge_iff_le, gt_iff_lt, Nat.zero_add, Nat.add_zero, n_neg1, n_neg4, if_true, if_false, ite_true, ite_false, n_land1, not_true_eq_false, not_false_eq_true, show (x + 9 * y) % 9 = x by omega, show (x + 9 * y) / 9 = y by omega, hbw]
      · have hbw := sm_byWork_no hB hh hc hx hy c2
        refine ⟨(nI M, nI (7 * x + y + 1)), ?_, rfl, M, rfl, hM1, next M (Nat.le_refl _) (fun _ _ z => absurd ⟨z.1, z.2.1⟩ c2)⟩
        unfold f_X7_layBest_b77
        simp only [hch]
        simp (disch := omega) only [n_lit, n_le, n_lt, n_eq, n_in, n_ckt, n_ix, n_mul, n_add, n_sub, n_div, n_rem, n_b01, n_isb, n_lt0, n_le0, Option.bind_some, if_pos, if_neg, ge_iff_le, gt_iff_lt, Nat.zero_add, Nat.add_zero, n_neg1, n_neg4, if_true, if_false, ite_true, ite_false, n_land1, not_true_eq_false, not_false_eq_true, show (x + 9 * y) % 9 = x by omega, show (x + 9 * y) / 9 = y by omega, hbw]
        exact stay _ (ww_ngle (by omega))
    · rw [if_neg c1] at hch
      refine ⟨(nI M, nI (7 * x + y + 1)), ?_, rfl, M, rfl, hM1, next M (Nat.le_refl _) (fun h1 h2 z => absurd ⟨h1, h2, (ls_may h1 h2).mp z.2.2⟩ c1)⟩
      unfold f_X7_layBest_b77
      simp only [hch]
      simp (disch := omega) only [n_lit, n_le, n_lt, n_eq, n_in, n_ckt, n_ix, n_mul, n_add, n_sub, n_div, n_rem, n_b01, n_isb, n_lt0, n_le0, Option.bind_some, if_pos, if_neg, ge_iff_le, gt_iff_lt, Nat.zero_add, Nat.add_zero, n_neg1, n_neg4, if_true, if_false, ite_true, ite_false, n_land1, not_true_eq_false, not_false_eq_true]
      exact stay _ (ww_ngle (by omega))
  · obtain ⟨x1, x2⟩ := x
    dsimp only at hx
    obtain ⟨rfl, M, rfl, hM1, hM2⟩ := hx
    refine ⟨nI M, ?_, ?_⟩
    · unfold f_X7_layBest_b77
      simp (disch := omega) only [n_lit, n_le, n_lt, n_eq, n_in, n_ckt, n_ix, n_mul, n_add, n_sub, n_div, n_rem, n_b01, n_isb, n_lt0, n_le0, Option.bind_some, if_pos, if_neg, ge_iff_le, gt_iff_lt, Nat.zero_add, Nat.add_zero, n_neg1, n_neg4, if_true, if_false, ite_true, ite_false, n_land1, not_true_eq_false, not_false_eq_true]
    · congr 1
      refine Nat.le_antisymm hM1 (pv_le (fun x y ho => ?_))
      obtain ⟨jx, a1, rfl⟩ := ls_can_of ho.1
      obtain ⟨jy, a2, rfl⟩ := ls_can_of ho.2.1
      exact hM2 jx jy a1 a2 (by omega) ho
theorem pm_B_73 {τ ν : ww_M} {s : ww_S} {d : ww_D1} {rot wo n : Nat} (hB : pm_B τ s d rot wo n) (h : ∀ a, a ≠ 73 → ν a = τ a) : pm_B ν s d rot wo n := by
  obtain ⟨hM, hN, hA, hr⟩ := hB
  refine ⟨ww_MO1_fr hM (by rw [h 62 (by omega)]) (by rw [h 62 (by omega)]) (by rw [h 62 (by omega)]) (h 63 (by omega)) (h 64 (by omega)) (h 65 (by omega)), ?_, ?_, ?_⟩
  · unfold pm_N; rw [h 62 (by omega), h 72 (by omega)]; exact hN
  · unfold pm_A; rw [h 74 (by omega)]; exact hA
  · rw [h 62 (by omega)]; exact hr
theorem sm_row {τ : ww_M} {s : ww_S} {d : ww_D1} {rot wo n m h : Nat} {p1 p2 p3 : Int32} (hB : pm_B τ s d rot wo n) (hh : h < n) (hR : pm_R τ s d rot wo m (h + 1)) : ∃ ν, ww_it (f_X7_layBest_b64 62 p1 p2 p3 (nI (4 ^ fb_ct (pl_q s wo) 9)) (nI h)) ww_F (0, τ) = some ν ∧ pm_R ν s d rot wo (m + 1) h ∧ (∀ a, a ≠ 73 → ν a = τ a) ∧ ∀ i, 4096 * (h + 1) ≤ i → ν 73 i = τ 73 i := by
  have hM := hB.1
  have h6 := pl_q6 hM.1 wo
  have h4 := ls_4096 h6
  have hn := hB.2.2.2.2.1
  refine ww_it_inv (f := f_X7_layBest_b64 62 p1 p2 p3 (nI (4 ^ fb_ct (pl_q s wo) 9)) (nI h)) (x0 := (0, τ)) (fun i x => x.1 = nI i ∧ (∀ c, c < i → x.2 73 (4096 * h + c) = nI (pl_pv s d rot (m + 1) h (ls_W (pl_q s wo) c))) ∧ (∀ a, a ≠ 73 → x.2 a = τ a) ∧ ∀ i, 4096 * (h + 1) ≤ i → x.2 73 i = τ 73 i) (fun ν => pm_R ν s d rot wo (m + 1) h ∧ (∀ a, a ≠ 73 → ν a = τ a) ∧ ∀ i, 4096 * (h + 1) ≤ i → ν 73 i = τ 73 i) (4 ^ fb_ct (pl_q s wo) 9) (by omega) ⟨rfl, fun c hc => absurd hc (Nat.not_lt_zero c), fun a _ => rfl, fun i _ => rfl⟩ (fun i hi x hx => ?_) (fun x hx => ?_)
  · obtain ⟨x1, ν⟩ := x
    dsimp only at hx
    obtain ⟨rfl, k2, k3, k4⟩ := hx
    have hBv := pm_B_73 hB k3
    have hRv : pm_R ν s d rot wo m (h + 1) := fun c hc => by
      rw [k4 _ (by omega)]; exact hR c hc
    have l := sm_most (p1 := p1) (p2 := p2) (p3 := p3) (x4 := nI (4 ^ fb_ct (pl_q s wo) 9)) hBv hh hi hRv
    refine Or.inl ⟨(nI (i + 1), ww_up ν 73 (4096 * h + i) (nI (pl_pv s d rot (m + 1) h (ls_W (pl_q s wo) i)))), ?_, rfl, ?_, ?_, ?_⟩
    · unfold f_X7_layBest_b64 f_X7_layBest_j77 f_X7_layBest_j145
      rw [show (0 : Int32) = nI 0 from rfl] at l
      simp (disch := omega) only [n_lit, n_le, n_lt, n_eq, n_in, n_ckt, n_ix, n_mul, n_add, n_sub, n_div, n_rem, n_b01, n_isb, n_lt0, n_le0, Option.bind_some, if_pos, if_neg, ge_iff_le, gt_iff_lt, Nat.zero_add, Nat.add_zero, n_neg1, n_neg4, if_true, if_false, ite_true, ite_false, n_land1, not_true_eq_false, not_false_eq_true, l]
    · intro c hc
      show ww_up ν 73 (4096 * h + i) _ 73 (4096 * h + c) = _
      rw [ww_up_eq]
      by_cases e : c = i
      · subst e; exact pk_us
      · rw [pk_un (by omega)]; exact k2 c (by omega)
    · intro a ha
      show ww_up ν 73 (4096 * h + i) _ a = _
      rw [ww_up_ne ha]; exact k3 a ha
    · intro j hj
      show ww_up ν 73 (4096 * h + i) _ 73 j = _
      rw [ww_up_eq, pk_un (by omega)]; exact k4 j hj
  · obtain ⟨x1, ν⟩ := x
    dsimp only at hx
    obtain ⟨rfl, k2, k3, k4⟩ := hx
    refine ⟨ν, ?_, k2, k3, k4⟩
    unfold f_X7_layBest_b64
    simp (disch := omega) only [n_lit, n_le, n_lt, n_eq, n_in, n_ckt, n_ix, n_mul, n_add, n_sub, n_div, n_rem, n_b01, n_isb, n_lt0, n_le0, Option.bind_some, if_pos, if_neg, ge_iff_le, gt_iff_lt, Nat.zero_add, Nat.add_zero, n_neg1, n_neg4, if_true, if_false, ite_true, ite_false, n_land1, not_true_eq_false, not_false_eq_true]
theorem sm_row0 {τ : ww_M} {s : ww_S} {d : ww_D1} {rot wo n : Nat} {p2 p3 : Int32} (hB : pm_B τ s d rot wo n) : ∃ ν, ww_it (f_X7_layBest_b24 62 (nI n) p2 p3 (nI (4 ^ fb_ct (pl_q s wo) 9))) ww_F (0, τ) = some ν ∧ pm_R ν s d rot wo 0 n ∧ ∀ a, a ≠ 73 → ν a = τ a := by
  have hM := hB.1
  have h6 := pl_q6 hM.1 wo
  have h4 := ls_4096 h6
  have hn := hB.2.2.2.2.1
  refine ww_it_inv (f := f_X7_layBest_b24 62 (nI n) p2 p3 (nI (4 ^ fb_ct (pl_q s wo) 9))) (x0 := (0, τ)) (fun i x => x.1 = nI i ∧ (∀ c, c < i → x.2 73 (4096 * n + c) = nI 0) ∧ (∀ a, a ≠ 73 → x.2 a = τ a)) (fun ν => pm_R ν s d rot wo 0 n ∧ (∀ a, a ≠ 73 → ν a = τ a)) (4 ^ fb_ct (pl_q s wo) 9) (by omega) ⟨rfl, fun c hc => absurd hc (Nat.not_lt_zero c), fun a _ => rfl⟩ (fun i hi x hx => ?_) (fun x hx => ?_)
  · obtain ⟨x1, ν⟩ := x
    dsimp only at hx
    obtain ⟨rfl, k2, k3⟩ := hx
    refine Or.inl ⟨(nI (i + 1), ww_up ν 73 (4096 * n + i) (nI 0)), ?_, rfl, ?_, ?_⟩
    · unfold f_X7_layBest_b24
      simp (disch := omega) only [n_lit, n_le, n_lt, n_eq, n_in, n_ckt, n_ix, n_mul, n_add, n_sub, n_div, n_rem, n_b01, n_isb, n_lt0, n_le0, Option.bind_some, if_pos, if_neg, ge_iff_le, gt_iff_lt, Nat.zero_add, Nat.add_zero, n_neg1, n_neg4, if_true, if_false, ite_true, ite_false, n_land1, not_true_eq_false, not_false_eq_true]
    · intro c hc
      show ww_up ν 73 (4096 * n + i) _ 73 (4096 * n + c) = _
      rw [ww_up_eq]
      by_cases e : c = i
      · subst e; exact pk_us
      · rw [pk_un (by omega)]; exact k2 c (by omega)
    · intro a ha
      show ww_up ν 73 (4096 * n + i) _ a = _
      rw [ww_up_ne ha]; exact k3 a ha
  · obtain ⟨x1, ν⟩ := x
    dsimp only at hx
    obtain ⟨rfl, k2, k3⟩ := hx
    refine ⟨ν, ?_, fun c hc => k2 c hc, k3⟩
    unfold f_X7_layBest_b24
    simp (disch := omega) only [n_lit, n_le, n_lt, n_eq, n_in, n_ckt, n_ix, n_mul, n_add, n_sub, n_div, n_rem, n_b01, n_isb, n_lt0, n_le0, Option.bind_some, if_pos, if_neg, ge_iff_le, gt_iff_lt, Nat.zero_add, Nat.add_zero, n_neg1, n_neg4, if_true, if_false, ite_true, ite_false, n_land1, not_true_eq_false, not_false_eq_true]
def pm_T (τ : ww_M) (s : ww_S) (d : ww_D1) (rot wo n : Nat) : Prop := ∀ h, h ≤ n → pm_R τ s d rot wo (n - h) h
theorem sm_rows {τ : ww_M} {s : ww_S} {d : ww_D1} {rot wo n : Nat} {p2 p3 : Int32} (hB : pm_B τ s d rot wo n) (hR : pm_R τ s d rot wo 0 n) : ∃ ν, ww_it (f_X7_layBest_b56 62 (nI n) p2 p3 (nI (4 ^ fb_ct (pl_q s wo) 9))) ww_F (nI n - 1, τ) = some ν ∧ pm_T ν s d rot wo n ∧ ∀ a, a ≠ 73 → ν a = τ a := by
  have hM := hB.1
  have h6 := pl_q6 hM.1 wo
  have h4 := ls_4096 h6
  have hn := hB.2.2.2.2.1
  refine ww_it_inv (f := f_X7_layBest_b56 62 (nI n) p2 p3 (nI (4 ^ fb_ct (pl_q s wo) 9))) (x0 := (nI n - 1, τ)) (fun i x => x.1 = nI (n - i) - 1 ∧ (∀ h, n - i ≤ h → h ≤ n → pm_R x.2 s d rot wo (n - h) h) ∧ (∀ a, a ≠ 73 → x.2 a = τ a)) (fun ν => pm_T ν s d rot wo n ∧ (∀ a, a ≠ 73 → ν a = τ a)) n (by omega) ⟨rfl, fun h h1 h2 => ?_, fun a _ => rfl⟩ (fun i hi x hx => ?_) (fun x hx => ?_)
  · obtain rfl : h = n := by omega
    rw [Nat.sub_self]; exact hR
  · obtain ⟨x1, ν⟩ := x
    dsimp only at hx
    obtain ⟨rfl, k2, k3⟩ := hx
    have hBv := pm_B_73 hB k3
    obtain ⟨h, rfl⟩ : ∃ h, n = h + 1 + i := ⟨n - 1 - i, by omega⟩
    have e1 : h + 1 + i - i = h + 1 := by omega
    have e2 : nI (h + 1) - nI 1 = nI h := by rw [n_sub (by omega)]; rfl
    obtain ⟨μ, l1, l2, l3, l4⟩ := sm_row (p1 := nI (h + 1 + i)) (p2 := p2) (p3 := p3) hBv (show h < h + 1 + i by omega) (k2 (h + 1) (by omega) (by omega))
    refine Or.inl ⟨(nI (h + 1 + i - (i + 1)) - 1, μ), ?_, rfl, ?_, fun a ha => by show μ a = τ a; rw [l3 a ha]; exact k3 a ha⟩
    · unfold f_X7_layBest_b56 f_X7_layBest_j64 f_X7_layBest_j167
      rw [show (0 : Int32) = nI 0 from rfl] at l1
      simp only [e1, show (1 : Int32) = nI 1 from rfl, e2]
      simp (disch := omega) only [n_lit, n_le, n_lt, n_eq, n_in, n_ckt, n_ix, n_mul, n_add, n_sub, n_div, n_rem, n_b01, n_isb, n_lt0, n_le0, Option.bind_some, if_pos, if_neg, ge_iff_le, gt_iff_lt, Nat.zero_add, Nat.add_zero, n_neg1, n_neg4, if_true, if_false, ite_true, ite_false, n_land1, not_true_eq_false, not_false_eq_true, l1, show h + 1 + i - (i + 1) = h by omega]
      rw [Int32.sub_eq_add_neg]
    · intro h' h1 h2
      by_cases e : h' = h
      · subst e
        rw [show h' + 1 + i - h' = (h' + 1 + i - (h' + 1)) + 1 by omega]
        exact l2
      · intro c hc
        show μ 73 _ = _
        rw [l4 _ (by omega)]
        exact k2 h' (by omega) h2 c hc
  · obtain ⟨x1, ν⟩ := x
    dsimp only at hx
    obtain ⟨rfl, k2, k3⟩ := hx
    refine ⟨ν, ?_, fun h h2 => k2 h (by omega) h2, k3⟩
    unfold f_X7_layBest_b56
    dsimp only
    rw [Nat.sub_self, if_pos (by decide)]
theorem ls_cd_or {f : Nat → Nat} {j : Nat} (h : ∀ i, i < j → f i ≤ 3) : nI (ls_cd f j) ||| nI (f j * 4 ^ j) = nI (ls_cd f (j + 1)) := by
  have h1 := ls_cd_lt h
  rw [fa_or, Nat.or_comm]
  congr 1
  rw [← ww_2pow] at h1
  rw [← ww_2pow, Nat.mul_comm (f j), ← Nat.two_pow_add_eq_or_of_lt h1, Nat.add_comm]
  show _ = ls_cd f j + f j * 4 ^ j
  rw [← ww_2pow, Nat.mul_comm (f j)]
theorem sm_shlw {w k : Nat} (hk : k < 6) (hw : w ≤ 3) : ww_shl (nI w) (nI (2 * k)) = nI (w * 4 ^ k) := by
  have h4 := ls_pow6 hk
  have h5 := Nat.mul_le_mul hw h4
  rw [ww_shlN (by omega) (by rw [ww_2pow]; omega), ww_2pow]
theorem sm_leftNow {τ : ww_M} {s : ww_S} {d : ww_D1} {wo : Nat} (hM : ww_MO1 τ s d) (hN : pm_N τ (pl_q s wo)) : f_X7_leftNow τ 62 = some (nI (ls_cd (fun j => pl_wk d (ls_sl (pl_q s wo) j)) (fb_ct (pl_q s wo) 9))) := by
  have hs := hM.1
  have h6 := pl_q6 hs wo
  have hf : ∀ j, j < fb_ct (pl_q s wo) 9 → pl_wk d (ls_sl (pl_q s wo) j) ≤ 3 := fun j hj => pl_wk3 hM.2.1 (pl_q_iff.mp (ls_in hj).2.1).1
  unfold f_X7_leftNow f_X7_leftNow_j4 f_X7_leftNow_j41
  have key := ww_it_for (f := f_X7_leftNow_b4 τ 62) (fun j => (nI (ls_cd (fun j => pl_wk d (ls_sl (pl_q s wo) j)) j), nI j)) (fb_ct (pl_q s wo) 9) (r := nI (ls_cd (fun j => pl_wk d (ls_sl (pl_q s wo) j)) (fb_ct (pl_q s wo) 9))) (by omega) (fun j hj => ?_) ?_
  · have key' : ww_it (f_X7_leftNow_b4 τ 62) ww_F (0, 0) = _ := key
    rw [key']; rfl
  · have a2 := (ls_in hj).2.1
    have a4 := (pl_q_iff.mp a2).1
    have a5 := ww_vld3 hs a4
    have a6 := ww_vld_iff.mp a4
    have e72 : τ 72 j = nI (10 * (ls_sl (pl_q s wo) j / 3) + ls_sl (pl_q s wo) j % 3) := hN.2 j hj
    have e1 := (hM.2.2.2.2.2.2.1 _ a6.1 _ a6.2).2.1
    rw [Nat.zero_add] at e1
    have e1' : τ 63 (18 + 9 * (ls_sl (pl_q s wo) j / 3) + 3 * (ls_sl (pl_q s wo) j % 3) + 1) = nI (pl_wk d (ls_sl (pl_q s wo) j)) := e1
    have hor := ls_cd_or (f := fun j => pl_wk d (ls_sl (pl_q s wo) j)) (j := j) (fun i hi => hf i (by omega))
    unfold f_X7_leftNow_b4
    simp only [hN.1, show τ (62 + 10) = τ 72 from rfl, show τ (62 + 1) = τ 63 from rfl]
    simp (disch := omega) only [n_lit, n_le, n_lt, n_eq, n_in, n_ckt, n_ix, n_mul, n_add, n_sub, n_div, n_rem, n_b01, n_isb, n_lt0, n_le0, Option.bind_some, if_pos, if_neg, ge_iff_le, gt_iff_lt, Nat.zero_add, Nat.add_zero, n_neg1, n_neg4, if_true, if_false, ite_true, ite_false, n_land1, not_true_eq_false, not_false_eq_true, e72, sp_partAt a5.1 a5.2, e1', sm_shlw (show j < 6 by omega) (hf j hj)]
    rw [hor]
  · unfold f_X7_leftNow_b4
    simp only [hN.1]
    simp (disch := omega) only [n_lit, n_le, n_lt, n_eq, n_in, n_ckt, n_ix, n_mul, n_add, n_sub, n_div, n_rem, n_b01, n_isb, n_lt0, n_le0, Option.bind_some, if_pos, if_neg, ge_iff_le, gt_iff_lt, Nat.zero_add, Nat.add_zero, n_neg1, n_neg4, if_true, if_false, ite_true, ite_false, n_land1, not_true_eq_false, not_false_eq_true]
theorem sm_layBest {σ : ww_M} {s : ww_S} {d : ww_D1} {rot wo n : Nat} {p3 : Int32} (hM : ww_MO1 σ s d) (hn : n ≤ 6) (hr1 : 1 ≤ rot) (hr9 : rot ≤ 9) (hp : ∀ b, b < 3 → (nI b = p3 ↔ b = wo)) : ∃ τ, f_X7_layBest σ 62 (nI n) (nI rot) p3 = some (nI (pl_V s d rot wo n), τ) ∧ pm_B τ s d rot wo n ∧ pm_T τ s d rot wo n ∧ (∀ a, a ≠ 62 → a ≠ 72 → a ≠ 73 → a ≠ 74 → τ a = σ a) ∧ ∀ j, j ≠ 25 → j ≠ 28 → τ 62 j = σ 62 j := by
  obtain ⟨τ1, a1, a2, a3, a4, a5⟩ := sm_layParts hM hn hp
  have h6 := pl_q6 hM.1 wo
  have h4 := ls_4096 h6
  have hM1 : ww_MO1 (ww_up τ1 62 28 (nI rot)) s d := ww_MO1_fr hM (by rw [ww_up_eq, pk_un (by omega)]; exact a5 2 (by omega)) (by rw [ww_up_eq, pk_un (by omega)]; exact a5 3 (by omega)) (by rw [ww_up_eq, pk_un (by omega)]; exact a5 5 (by omega)) (by rw [ww_up_ne (by omega)]; exact a4 63 (by omega) (by omega) (by omega)) (by rw [ww_up_ne (by omega)]; exact a4 64 (by omega) (by omega) (by omega)) (by rw [ww_up_ne (by omega)]; exact a4 65 (by omega) (by omega) (by omega))
  have hN1 : pm_N (ww_up τ1 62 28 (nI rot)) (pl_q s wo) := by
    unfold pm_N
    rw [ww_up_eq, pk_un (by omega), ww_up_ne (by omega)]; exact a2
  have hA1 : pm_A (ww_up τ1 62 28 (nI rot)) s d (pl_q s wo) n := by
    unfold pm_A
    rw [ww_up_ne (by omega)]; exact a3
  have hB1 : pm_B (ww_up τ1 62 28 (nI rot)) s d rot wo n := ⟨hM1, hN1, hA1, by rw [ww_up_eq, pk_us], hn, hr1, hr9⟩
  obtain ⟨τ2, b1, b2, b3⟩ := sm_row0 (p2 := nI rot) (p3 := p3) hB1
  have hB2 := pm_B_73 hB1 b3
  obtain ⟨τ3, c1, c2, c3⟩ := sm_rows (p2 := nI rot) (p3 := p3) hB2 b2
  have hB3 := pm_B_73 hB2 c3
  have hleft := sm_leftNow hB3.1 hB3.2.1
  have hf : ∀ i, i < 9 → pl_q s wo i = true → pl_wk d i ≤ 3 := fun i _ hq => pl_wk3 hM.2.1 (pl_q_iff.mp hq).1
  have hcl : ls_cd (fun j => pl_wk d (ls_sl (pl_q s wo) j)) (fb_ct (pl_q s wo) 9) < 4 ^ fb_ct (pl_q s wo) 9 := ls_cd_lt (fun j hj => hf _ (ls_in hj).1 (ls_in hj).2.1)
  have hval := c2 0 (Nat.zero_le _) _ hcl
  rw [Nat.mul_zero, Nat.zero_add, Nat.sub_zero, ls_W_cd hf] at hval
  refine ⟨τ3, ?_, hB3, c2, ?_, ?_⟩
  · unfold f_X7_layBest
    rw [a1]
    simp only [Option.bind_some]
    have eN : ww_up τ1 62 28 (nI rot) 62 25 = nI (fb_ct (pl_q s wo) 9) := hN1.1
    rw [eN, show (2 : Int32) * nI (fb_ct (pl_q s wo) 9) = nI (2 * fb_ct (pl_q s wo) 9) from n_mul 2 _]
    have e4 : ww_shl 1 (nI (2 * fb_ct (pl_q s wo) 9)) = nI (4 ^ fb_ct (pl_q s wo) 9) := by
      have := ww_shl1 (i := 2 * fb_ct (pl_q s wo) 9) (by omega)
      rw [ww_2pow] at this
      exact this
    rw [e4]
    unfold f_X7_layBest_j24 f_X7_layBest_j51 f_X7_layBest_j56 f_X7_layBest_j173
    simp only [b1, Option.bind_some, c1, hleft, show τ3 (62 + 11) = τ3 73 from rfl]
    simp (disch := omega) only [n_lit, n_le, n_lt, n_eq, n_in, n_ckt, n_ix, n_mul, n_add, n_sub, n_div, n_rem, n_b01, n_isb, n_lt0, n_le0, Option.bind_some, if_pos, if_neg, ge_iff_le, gt_iff_lt, Nat.zero_add, Nat.add_zero, n_neg1, n_neg4, if_true, if_false, ite_true, ite_false, n_land1, not_true_eq_false, not_false_eq_true, hval]
    rfl
  · intro a h1 h2 h3 h4
    rw [c3 a h3, b3 a h3, ww_up_ne h1]; exact a4 a h1 h2 h4
  · intro j h1 h2
    rw [c3 62 (by omega), b3 62 (by omega), ww_up_eq, pk_un h2]; exact a5 j h1
