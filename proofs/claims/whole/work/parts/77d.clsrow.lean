/-! ===== the class: the first best row ===== -/
section PC3
variable {s : ww_S} {d : ww_D1} {rot wo n st k c : Nat}
theorem sp_canC_yes {τ : ww_M} {j : Nat} (hL : pc_L τ s d rot wo n) (hk : k < n) (hc : c < 4 ^ fb_ct (pl_qc s d wo) 9) (hj : j ≤ fb_ct (pl_qc s d wo) 9) (h : pv_can (pl_ab s d) k (ls_W (pl_qc s d wo) c) (ls_sl (pl_qc s d wo) j)) : f_X0_canChoose τ 48 (nI k) (nI c) (nI j) = some 1 := by
  have h6 := pl_qc6 hL.1.1 d wo
  have h4 := ls_4096 h6
  have hn := hL.2.2.2.2.2
  have kj := (ls_can hj).mp h
  unfold f_X0_canChoose f_X0_workIn
  simp only [hL.2.1.1, show τ (48 + 3) = τ 51 from rfl]
  by_cases e : j < fb_ct (pl_qc s d wo) 9
  · obtain ⟨k1, k2⟩ := kj e
    have ha := sp_able hL hk e
    rw [k1, if_pos rfl] at ha
    have hdl : c / 4 ^ j % 4 < 4 := Nat.mod_lt _ (by omega)
    simp (disch := omega) only [n_lit, n_le, n_lt, n_eq, n_in, n_ckt, n_ix, n_mul, n_add, n_sub, n_div, n_rem, n_b01, n_isb, n_lt0, n_le0, Option.bind_some, if_pos, if_neg, ge_iff_le, gt_iff_lt, Nat.zero_add, Nat.add_zero, n_neg1, n_neg4, if_true, if_false, ite_true, ite_false, n_land1, not_true_eq_false, not_false_eq_true, ha, sm_dig (show c < 4096 by omega) (show j < 6 by omega)]
  · obtain rfl : j = fb_ct (pl_qc s d wo) 9 := by omega
    rw [if_pos rfl]
theorem sp_canC_no {τ : ww_M} {j : Nat} (hL : pc_L τ s d rot wo n) (hk : k < n) (hc : c < 4 ^ fb_ct (pl_qc s d wo) 9) (hj : j ≤ fb_ct (pl_qc s d wo) 9) (h : ¬ pv_can (pl_ab s d) k (ls_W (pl_qc s d wo) c) (ls_sl (pl_qc s d wo) j)) : f_X0_canChoose τ 48 (nI k) (nI c) (nI j) = some 0 := by
  have h6 := pl_qc6 hL.1.1 d wo
  have h4 := ls_4096 h6
  have hn := hL.2.2.2.2.2
  rw [ls_can hj, Classical.not_imp] at h
  obtain ⟨e, h⟩ := h
  have ha := sp_able hL hk e
  have hdl : c / 4 ^ j % 4 < 4 := Nat.mod_lt _ (by omega)
  unfold f_X0_canChoose f_X0_workIn
  simp only [hL.2.1.1, show τ (48 + 3) = τ 51 from rfl]
  cases c1 : pl_ab s d k (ls_sl (pl_qc s d wo) j)
  · rw [c1] at ha
    simp (disch := omega) only [n_lit, n_le, n_lt, n_eq, n_in, n_ckt, n_ix, n_mul, n_add, n_sub, n_div, n_rem, n_b01, n_isb, n_lt0, n_le0, Option.bind_some, if_pos, if_neg, ge_iff_le, gt_iff_lt, Nat.zero_add, Nat.add_zero, n_neg1, n_neg4, if_true, if_false, ite_true, ite_false, n_land1, not_true_eq_false, not_false_eq_true, ha]
    simp [show ¬ nI 0 = nI 1 by decide]
  · rw [c1, if_pos rfl] at ha
    have c2 : ¬ 0 < c / 4 ^ j % 4 := fun z => h ⟨c1, z⟩
    simp (disch := omega) only [n_lit, n_le, n_lt, n_eq, n_in, n_ckt, n_ix, n_mul, n_add, n_sub, n_div, n_rem, n_b01, n_isb, n_lt0, n_le0, Option.bind_some, if_pos, if_neg, ge_iff_le, gt_iff_lt, Nat.zero_add, Nat.add_zero, n_neg1, n_neg4, if_true, if_false, ite_true, ite_false, n_land1, not_true_eq_false, not_false_eq_true, ha, sm_dig (show c < 4096 by omega) (show j < 6 by omega)]
/-- a pair by which as much is won as can be -/
def pc_T (s : ww_S) (d : ww_D1) (rot wo n k c x y : Nat) : Prop := pv_ok (pl_ab s d) (pl_two d) k (ls_W (pl_qc s d wo) c) (ls_sl (pl_qc s d wo) x) (ls_sl (pl_qc s d wo) y) ∧ pv_val (pl_ab s d) (pl_g s d rot) (pl_two d) (n - k - 1) k (ls_W (pl_qc s d wo) c) (ls_sl (pl_qc s d wo) x) (ls_sl (pl_qc s d wo) y) = pl_pv s d rot (n - k) k (ls_W (pl_qc s d wo) c)
theorem sp_first_in {τ : ww_M} {i t0 : Nat} (hI : pc_I τ s d rot wo n st) (hk : k < n) (hc : c < 4 ^ fb_ct (pl_qc s d wo) 9) (hi : i < fb_ct (pl_qc s d wo) 9) (hcan : pv_can (pl_ab s d) k (ls_W (pl_qc s d wo) c) (ls_sl (pl_qc s d wo) i)) (ht0 : t0 ≤ fb_ct (pl_qc s d wo) 9) (hmay : ∀ t, t0 ≤ t → t ≤ fb_ct (pl_qc s d wo) 9 → t = fb_ct (pl_qc s d wo) 9 ∨ (i < t ∧ pl_two d = true)) (hno : ∀ y, y < t0 → ¬ pc_T s d rot wo n k c i y) : ∃ r, ww_it (f_X0_firstBest_b54 48 (nI k) (nI c) (nI (pl_pv s d rot (n - k) k (ls_W (pl_qc s d wo) c))) (nI i)) ww_F (nI t0, τ) = some r ∧ ((∃ ν, r = .inl ν ∧ pc_I ν s d rot wo n st ∧ (∀ a, a ≠ 49 → ν a = τ a) ∧ ∀ y, y ≤ fb_ct (pl_qc s d wo) 9 → ¬ pc_T s d rot wo n k c i y) ∨ (∃ ν t, r = .inr (nI (7 * i + t), ν) ∧ pc_I ν s d rot wo n st ∧ (∀ a, a ≠ 49 → ν a = τ a) ∧ t ≤ fb_ct (pl_qc s d wo) 9 ∧ pc_T s d rot wo n k c i t ∧ ∀ y, y < t → ¬ pc_T s d rot wo n k c i y)) := by
  have hL := hI.1
  have h6 := pl_qc6 hL.1.1 d wo
  have hn := hL.2.2.2.2.2
  have hbd : pl_pv s d rot (n - k) k (ls_W (pl_qc s d wo) c) ≤ 54 := ls_bd h6 (pl_g9 hL.1.2.1 rot)
  have hS := sp_most (s := s) (d := d) (rot := rot) (wo := wo) (n := n) (st := st) 8 (k + 1) (by omega) (by omega)
  refine ww_it_inv (f := f_X0_firstBest_b54 48 (nI k) (nI c) (nI (pl_pv s d rot (n - k) k (ls_W (pl_qc s d wo) c))) (nI i)) (x0 := (nI t0, τ)) (fun u x => x.1 = nI (t0 + u) ∧ pc_I x.2 s d rot wo n st ∧ (∀ a, a ≠ 49 → x.2 a = τ a) ∧ ∀ y, y < t0 + u → ¬ pc_T s d rot wo n k c i y) (fun r => (∃ ν, r = .inl ν ∧ pc_I ν s d rot wo n st ∧ (∀ a, a ≠ 49 → ν a = τ a) ∧ ∀ y, y ≤ fb_ct (pl_qc s d wo) 9 → ¬ pc_T s d rot wo n k c i y) ∨ (∃ ν t, r = .inr (nI (7 * i + t), ν) ∧ pc_I ν s d rot wo n st ∧ (∀ a, a ≠ 49 → ν a = τ a) ∧ t ≤ fb_ct (pl_qc s d wo) 9 ∧ pc_T s d rot wo n k c i t ∧ ∀ y, y < t → ¬ pc_T s d rot wo n k c i y)) (fb_ct (pl_qc s d wo) 9 + 1 - t0) (by omega) ⟨rfl, hI, fun a _ => rfl, hno⟩ (fun u hu x hx => ?_) (fun x hx => ?_)
  · obtain ⟨x1, ν⟩ := x
    dsimp only at hx
    obtain ⟨rfl, k2, k3, k4⟩ := hx
    have e4 : ν 48 4 = nI (fb_ct (pl_qc s d wo) 9) := k2.1.2.1.1
    have ht : t0 + u ≤ fb_ct (pl_qc s d wo) 9 := by omega
    have hm := hmay (t0 + u) (by omega) ht
    have hnext : ¬ pc_T s d rot wo n k c i (t0 + u) → ∀ y, y < t0 + (u + 1) → ¬ pc_T s d rot wo n k c i y := fun h y hy => by
      by_cases e : y = t0 + u
      · rw [e]; exact h
      · exact k4 y (by omega)
    by_cases cc : pv_can (pl_ab s d) k (ls_W (pl_qc s d wo) c) (ls_sl (pl_qc s d wo) (t0 + u))
    · have c1 := sp_canC_yes k2.1 hk hc ht cc
      obtain ⟨μ, w1, w2, w3⟩ := sp_wonBy hS k2 hk hc (Nat.le_of_lt hi) ht (by omega) hcan cc
      have hok : pv_ok (pl_ab s d) (pl_two d) k (ls_W (pl_qc s d wo) c) (ls_sl (pl_qc s d wo) i) (ls_sl (pl_qc s d wo) (t0 + u)) := ⟨hcan, cc, (ls_may (Nat.le_of_lt hi) ht).mpr hm⟩
      have hge := pv_ge (g := pl_g s d rot) (m := n - k - 1) hok
      rw [show n - k - 1 + 1 = n - k by omega] at hge
      have hge' : _ ≤ pl_pv s d rot (n - k) k (ls_W (pl_qc s d wo) c) := hge
      rw [show (1 : Int32) = nI 1 from rfl] at c1
      by_cases e : pv_val (pl_ab s d) (pl_g s d rot) (pl_two d) (n - k - 1) k (ls_W (pl_qc s d wo) c) (ls_sl (pl_qc s d wo) i) (ls_sl (pl_qc s d wo) (t0 + u)) = pl_pv s d rot (n - k) k (ls_W (pl_qc s d wo) c)
      · refine Or.inr ⟨.inr (nI (7 * i + (t0 + u)), μ), ?_, Or.inr ⟨μ, t0 + u, rfl, w2, fun a ha => by rw [w3 a ha]; exact k3 a ha, ht, ⟨hok, e⟩, k4⟩⟩
        unfold f_X0_firstBest_b54
        simp only [e4]
        simp (disch := omega) only [n_lit, n_le, n_lt, n_eq, n_in, n_ckt, n_ix, n_mul, n_add, n_sub, n_div, n_rem, n_b01, n_isb, n_lt0, n_le0, Option.bind_some, if_pos, if_neg, ge_iff_le, gt_iff_lt, Nat.zero_add, Nat.add_zero, n_neg1, n_neg4, if_true, if_false, ite_true, ite_false, n_land1, not_true_eq_false, not_false_eq_true, c1, w1, e, Nat.mul_comm i 7]
      · refine Or.inl ⟨(nI (t0 + (u + 1)), μ), ?_, rfl, w2, fun a ha => by show μ a = τ a; rw [w3 a ha]; exact k3 a ha, hnext (fun z => e z.2)⟩
        unfold f_X0_firstBest_b54
        simp only [e4]
        simp (disch := omega) only [n_lit, n_le, n_lt, n_eq, n_in, n_ckt, n_ix, n_mul, n_add, n_sub, n_div, n_rem, n_b01, n_isb, n_lt0, n_le0, Option.bind_some, if_pos, if_neg, ge_iff_le, gt_iff_lt, Nat.zero_add, Nat.add_zero, n_neg1, n_neg4, if_true, if_false, ite_true, ite_false, n_land1, not_true_eq_false, not_false_eq_true, c1, w1, e, Nat.add_assoc]
    · have c1 := sp_canC_no k2.1 hk hc ht cc
      rw [show (0 : Int32) = nI 0 from rfl] at c1
      refine Or.inl ⟨(nI (t0 + (u + 1)), ν), ?_, rfl, k2, k3, hnext (fun z => cc z.1.2.1)⟩
      unfold f_X0_firstBest_b54
      simp only [e4]
      simp (disch := omega) only [n_lit, n_le, n_lt, n_eq, n_in, n_ckt, n_ix, n_mul, n_add, n_sub, n_div, n_rem, n_b01, n_isb, n_lt0, n_le0, Option.bind_some, if_pos, if_neg, ge_iff_le, gt_iff_lt, Nat.zero_add, Nat.add_zero, n_neg1, n_neg4, if_true, if_false, ite_true, ite_false, n_land1, not_true_eq_false, not_false_eq_true, c1, Nat.add_assoc]
  · obtain ⟨x1, ν⟩ := x
    dsimp only at hx
    obtain ⟨rfl, k2, k3, k4⟩ := hx
    have e4 : ν 48 4 = nI (fb_ct (pl_qc s d wo) 9) := k2.1.2.1.1
    refine ⟨.inl ν, ?_, Or.inl ⟨ν, rfl, k2, k3, fun y hy => k4 y (by omega)⟩⟩
    unfold f_X0_firstBest_b54
    simp only [e4]
    simp (disch := omega) only [n_lit, n_le, n_lt, n_eq, n_in, n_ckt, n_ix, n_mul, n_add, n_sub, n_div, n_rem, n_b01, n_isb, n_lt0, n_le0, Option.bind_some, if_pos, if_neg, ge_iff_le, gt_iff_lt, Nat.zero_add, Nat.add_zero, n_neg1, n_neg4, if_true, if_false, ite_true, ite_false, n_land1, not_true_eq_false, not_false_eq_true]
theorem sp_first_out {τ : ww_M} (hI : pc_I τ s d rot wo n st) (hk : k < n) (hc : c < 4 ^ fb_ct (pl_qc s d wo) 9) : ∃ r, ww_it (f_X0_firstBest_b10 48 (nI k) (nI c) (nI (pl_pv s d rot (n - k) k (ls_W (pl_qc s d wo) c)))) ww_F (0, τ) = some r ∧ ((∃ ν, r = .inl ν ∧ pc_I ν s d rot wo n st ∧ (∀ a, a ≠ 49 → ν a = τ a) ∧ ∀ x y, x < fb_ct (pl_qc s d wo) 9 → y ≤ fb_ct (pl_qc s d wo) 9 → ¬ pc_T s d rot wo n k c x y) ∨ (∃ ν x t, r = .inr (nI (7 * x + t), ν) ∧ pc_I ν s d rot wo n st ∧ (∀ a, a ≠ 49 → ν a = τ a) ∧ x < fb_ct (pl_qc s d wo) 9 ∧ t ≤ fb_ct (pl_qc s d wo) 9 ∧ pc_T s d rot wo n k c x t ∧ (∀ y, y < t → ¬ pc_T s d rot wo n k c x y) ∧ ∀ x' y, x' < x → y ≤ fb_ct (pl_qc s d wo) 9 → ¬ pc_T s d rot wo n k c x' y)) := by
  have hL := hI.1
  have h6 := pl_qc6 hL.1.1 d wo
  have hn := hL.2.2.2.2.2
  have hg1 := hL.1.2.1.2.2.2.1
  have hg2 := hL.1.2.1.2.2.2.2.1
  refine ww_it_inv (f := f_X0_firstBest_b10 48 (nI k) (nI c) (nI (pl_pv s d rot (n - k) k (ls_W (pl_qc s d wo) c)))) (x0 := (0, τ)) (fun i x => x.1 = nI i ∧ pc_I x.2 s d rot wo n st ∧ (∀ a, a ≠ 49 → x.2 a = τ a) ∧ ∀ x y, x < i → y ≤ fb_ct (pl_qc s d wo) 9 → ¬ pc_T s d rot wo n k c x y) (fun r => (∃ ν, r = .inl ν ∧ pc_I ν s d rot wo n st ∧ (∀ a, a ≠ 49 → ν a = τ a) ∧ ∀ x y, x < fb_ct (pl_qc s d wo) 9 → y ≤ fb_ct (pl_qc s d wo) 9 → ¬ pc_T s d rot wo n k c x y) ∨ (∃ ν x t, r = .inr (nI (7 * x + t), ν) ∧ pc_I ν s d rot wo n st ∧ (∀ a, a ≠ 49 → ν a = τ a) ∧ x < fb_ct (pl_qc s d wo) 9 ∧ t ≤ fb_ct (pl_qc s d wo) 9 ∧ pc_T s d rot wo n k c x t ∧ (∀ y, y < t → ¬ pc_T s d rot wo n k c x y) ∧ ∀ x' y, x' < x → y ≤ fb_ct (pl_qc s d wo) 9 → ¬ pc_T s d rot wo n k c x' y)) (fb_ct (pl_qc s d wo) 9) (by omega) ⟨rfl, hI, fun a _ => rfl, fun x y hx => absurd hx (Nat.not_lt_zero x)⟩ (fun i hi x hx => ?_) (fun x hx => ?_)
  · obtain ⟨x1, ν⟩ := x
    dsimp only at hx
    obtain ⟨rfl, k2, k3, k4⟩ := hx
    have e4 : ν 48 4 = nI (fb_ct (pl_qc s d wo) 9) := k2.1.2.1.1
    have e6 : ν 48 6 = nI (dGng d) := k2.1.2.2.2.2.1
    have hnext : (∀ y, y ≤ fb_ct (pl_qc s d wo) 9 → ¬ pc_T s d rot wo n k c i y) → ∀ x y, x < i + 1 → y ≤ fb_ct (pl_qc s d wo) 9 → ¬ pc_T s d rot wo n k c x y := fun h x y hx hy => by
      by_cases e : x = i
      · rw [e]; exact h y hy
      · exact k4 x y (by omega) hy
    by_cases cc : pv_can (pl_ab s d) k (ls_W (pl_qc s d wo) c) (ls_sl (pl_qc s d wo) i)
    · have c1 := sp_canC_yes k2.1 hk hc (Nat.le_of_lt hi) cc
      rw [show (1 : Int32) = nI 1 from rfl] at c1
      obtain ⟨t0, ht0, hstart, hmay, hno⟩ : ∃ t0, t0 ≤ fb_ct (pl_qc s d wo) 9 ∧ f_X0_firstBest_b10 48 (nI k) (nI c) (nI (pl_pv s d rot (n - k) k (ls_W (pl_qc s d wo) c))) (nI i, ν) = f_X0_firstBest_j54 ν 48 (nI k) (nI c) (nI (pl_pv s d rot (n - k) k (ls_W (pl_qc s d wo) c))) (nI i) (nI t0) ∧ (∀ t, t0 ≤ t → t ≤ fb_ct (pl_qc s d wo) 9 → t = fb_ct (pl_qc s d wo) 9 ∨ (i < t ∧ pl_two d = true)) ∧ (∀ y, y < t0 → ¬ pc_T s d rot wo n k c i y) := by
        rcases (show dGng d = 1 ∨ dGng d = 2 by omega) with eg | eg
        · refine ⟨fb_ct (pl_qc s d wo) 9, Nat.le_refl _, ?_, fun t h1 h2 => Or.inl (by omega), fun y hy z => ?_⟩
          · unfold f_X0_firstBest_b10 f_X0_firstBest_j52
            simp only [e4, e6, eg]
            simp (disch := omega) only [n_lit, n_le, n_lt, n_eq, n_in, n_ckt, n_ix, n_mul, n_add, n_sub, n_div, n_rem, n_b01, n_isb, n_lt0, n_le0, Option.bind_some, if_pos, if_neg, ge_iff_le, gt_iff_lt, Nat.zero_add, Nat.add_zero, n_neg1, n_neg4, if_true, if_false, ite_true, ite_false, n_land1, not_true_eq_false, not_false_eq_true, c1]
          · rcases (ls_may (Nat.le_of_lt hi) (Nat.le_of_lt hy)).mp z.1.2.2 with q | q
            · omega
            · have := q.2
              simp [pl_two, eg] at this
        · refine ⟨i + 1, by omega, ?_, fun t h1 h2 => Or.inr ⟨by omega, by simp [pl_two, eg]⟩, fun y hy z => ?_⟩
          · unfold f_X0_firstBest_b10 f_X0_firstBest_j52
            simp only [e4, e6, eg]
            simp (disch := omega) only [n_lit, n_le, n_lt, n_eq, n_in, n_ckt, n_ix, n_mul, n_add, n_sub, n_div, n_rem, n_b01, n_isb, n_lt0, n_le0, Option.bind_some, if_pos, if_neg, ge_iff_le, gt_iff_lt, Nat.zero_add, Nat.add_zero, n_neg1, n_neg4, if_true, if_false, ite_true, ite_false, n_land1, not_true_eq_false, not_false_eq_true, c1]
          · rcases (ls_may (Nat.le_of_lt hi) (show y ≤ fb_ct (pl_qc s d wo) 9 by omega)).mp z.1.2.2 with q | q
            · omega
            · omega
      obtain ⟨r, l1, l2⟩ := sp_first_in k2 hk hc hi cc ht0 hmay hno
      rcases l2 with ⟨μ, rfl, m2, m3, m4⟩ | ⟨μ, t, rfl, m2, m3, m4, m5, m6⟩
      · refine Or.inl ⟨(nI (i + 1), μ), ?_, rfl, m2, fun a ha => by show μ a = τ a; rw [m3 a ha]; exact k3 a ha, hnext m4⟩
        rw [hstart]
        unfold f_X0_firstBest_j54 f_X0_firstBest_j103
        rw [l1]
        simp only [Option.bind_some]
        rw [show nI i + 1 = nI (i + 1) from nI_1 i]
      · refine Or.inr ⟨.inr (nI (7 * i + t), μ), ?_, Or.inr ⟨μ, i, t, rfl, m2, fun a ha => by rw [m3 a ha]; exact k3 a ha, hi, m4, m5, m6, k4⟩⟩
        rw [hstart]
        unfold f_X0_firstBest_j54
        rw [l1]
        rfl
    · have c1 := sp_canC_no k2.1 hk hc (Nat.le_of_lt hi) cc
      rw [show (0 : Int32) = nI 0 from rfl] at c1
      refine Or.inl ⟨(nI (i + 1), ν), ?_, rfl, k2, k3, hnext (fun y hy z => cc z.1.1)⟩
      unfold f_X0_firstBest_b10 f_X0_firstBest_j103
      simp only [e4]
      simp (disch := omega) only [n_lit, n_le, n_lt, n_eq, n_in, n_ckt, n_ix, n_mul, n_add, n_sub, n_div, n_rem, n_b01, n_isb, n_lt0, n_le0, Option.bind_some, if_pos, if_neg, ge_iff_le, gt_iff_lt, Nat.zero_add, Nat.add_zero, n_neg1, n_neg4, if_true, if_false, ite_true, ite_false, n_land1, not_true_eq_false, not_false_eq_true, c1]
  · obtain ⟨x1, ν⟩ := x
    dsimp only at hx
    obtain ⟨rfl, k2, k3, k4⟩ := hx
    have e4 : ν 48 4 = nI (fb_ct (pl_qc s d wo) 9) := k2.1.2.1.1
    refine ⟨.inl ν, ?_, Or.inl ⟨ν, rfl, k2, k3, k4⟩⟩
    unfold f_X0_firstBest_b10
    simp only [e4]
    simp (disch := omega) only [n_lit, n_le, n_lt, n_eq, n_in, n_ckt, n_ix, n_mul, n_add, n_sub, n_div, n_rem, n_b01, n_isb, n_lt0, n_le0, Option.bind_some, if_pos, if_neg, ge_iff_le, gt_iff_lt, Nat.zero_add, Nat.add_zero, n_neg1, n_neg4, if_true, if_false, ite_true, ite_false, n_land1, not_true_eq_false, not_false_eq_true]
theorem pc_conv {x' y' : Nat} (hk : k < n) (ho : pv_ok (pl_ab s d) (pl_two d) k (ls_W (pl_qc s d wo) c) x' y') (hv : pv_val (pl_ab s d) (pl_g s d rot) (pl_two d) (n - k - 1) k (ls_W (pl_qc s d wo) c) x' y' = pv (pl_ab s d) (pl_g s d rot) (pl_two d) (n - k - 1 + 1) k (ls_W (pl_qc s d wo) c)) : ∃ jx jy, jx ≤ fb_ct (pl_qc s d wo) 9 ∧ jy ≤ fb_ct (pl_qc s d wo) 9 ∧ x' = ls_sl (pl_qc s d wo) jx ∧ y' = ls_sl (pl_qc s d wo) jy ∧ pc_T s d rot wo n k c jx jy := by
  obtain ⟨jx, a1, e1⟩ := ls_can_of ho.1
  obtain ⟨jy, a2, e2⟩ := ls_can_of ho.2.1
  rw [show n - k - 1 + 1 = n - k by omega] at hv
  refine ⟨jx, jy, a1, a2, e1, e2, ?_, ?_⟩
  · rw [← e1, ← e2]; exact ho
  · rw [← e1, ← e2]; exact hv
theorem pc_fstB {x t : Nat} (hk : k < n) (h6 : fb_ct (pl_qc s d wo) 9 ≤ 6) (hx : x ≤ fb_ct (pl_qc s d wo) 9) (ht : t ≤ fb_ct (pl_qc s d wo) 9) (hT : pc_T s d rot wo n k c x t) (h : ∀ jx jy, jx ≤ fb_ct (pl_qc s d wo) 9 → jy ≤ fb_ct (pl_qc s d wo) 9 → 7 * jx + jy < 7 * x + t → ¬ pc_T s d rot wo n k c jx jy) : pv_fst (pl_ab s d) (pl_g s d rot) (pl_two d) (n - k - 1) k (ls_W (pl_qc s d wo) c) (ls_sl (pl_qc s d wo) x) (ls_sl (pl_qc s d wo) t) := by
  refine ⟨⟨hT.1, ?_⟩, fun x' y' ho hv => ?_⟩
  · rw [show n - k - 1 + 1 = n - k by omega]; exact hT.2
  · obtain ⟨jx, jy, b1, b2, e1, e2, hT'⟩ := pc_conv hk ho hv
    rw [e1, e2]
    apply Nat.le_of_not_lt
    intro hlt
    rw [ls_pair h6 b1 b2 hx ht] at hlt
    exact h jx jy b1 b2 hlt hT'
theorem pc_fstA (hk : k < n) (h6 : fb_ct (pl_qc s d wo) 9 ≤ 6) (n4 : ∀ x y, x < fb_ct (pl_qc s d wo) 9 → y ≤ fb_ct (pl_qc s d wo) 9 → ¬ pc_T s d rot wo n k c x y) : pv_fst (pl_ab s d) (pl_g s d rot) (pl_two d) (n - k - 1) k (ls_W (pl_qc s d wo) c) (ls_sl (pl_qc s d wo) (fb_ct (pl_qc s d wo) 9)) (ls_sl (pl_qc s d wo) (fb_ct (pl_qc s d wo) 9)) := by
  have hlast : ∀ jx jy, jx ≤ fb_ct (pl_qc s d wo) 9 → jy ≤ fb_ct (pl_qc s d wo) 9 → pc_T s d rot wo n k c jx jy → jx = fb_ct (pl_qc s d wo) 9 ∧ jy = fb_ct (pl_qc s d wo) 9 := fun jx jy a1 a2 hT => by
    have ex : jx = fb_ct (pl_qc s d wo) 9 := by
      apply Nat.le_antisymm a1
      apply Nat.le_of_not_lt
      intro z
      exact n4 jx jy z a2 hT
    refine ⟨ex, ?_⟩
    rcases (ls_may a1 a2).mp hT.1.2.2 with q | q
    · exact q
    · have := q.1; omega
  obtain ⟨x, y, ho, hv⟩ := pv_att (ab := pl_ab s d) (g := pl_g s d rot) (two := pl_two d) (m := n - k - 1) (k := k) (w := ls_W (pl_qc s d wo) c)
  obtain ⟨jx, jy, a1, a2, e1, e2, hT⟩ := pc_conv hk ho hv
  obtain ⟨q1, q2⟩ := hlast jx jy a1 a2 hT
  rw [q1, q2] at hT
  refine pc_fstB hk h6 (Nat.le_refl _) (Nat.le_refl _) hT (fun jx jy b1 b2 hlt hT' => ?_)
  obtain ⟨q1, q2⟩ := hlast jx jy b1 b2 hT'
  rw [q1, q2] at hlt
  exact absurd hlt (Nat.lt_irrefl _)
theorem sp_first {τ : ww_M} (hI : pc_I τ s d rot wo n st) (hk : k < n) (hc : c < 4 ^ fb_ct (pl_qc s d wo) 9) : ∃ ν x y, f_X0_firstBest τ 48 (nI k) (nI c) = some (nI (7 * x + y), ν) ∧ pc_I ν s d rot wo n st ∧ (∀ a, a ≠ 49 → ν a = τ a) ∧ x ≤ fb_ct (pl_qc s d wo) 9 ∧ y ≤ fb_ct (pl_qc s d wo) 9 ∧ pv_fst (pl_ab s d) (pl_g s d rot) (pl_two d) (n - k - 1) k (ls_W (pl_qc s d wo) c) (ls_sl (pl_qc s d wo) x) (ls_sl (pl_qc s d wo) y) := by
  have hL := hI.1
  have h6 := pl_qc6 hL.1.1 d wo
  have hn := hL.2.2.2.2.2
  have hS := sp_most (s := s) (d := d) (rot := rot) (wo := wo) (n := n) (st := st) 8 k (by omega) (by omega)
  unfold f_X0_firstBest
  generalize f_X0_mostFrom 8 = mf at hS
  obtain ⟨ν0, m1, m2, m3⟩ := hS τ c hI hc
  rw [m1]
  simp only [Option.bind_some]
  obtain ⟨r, l1, l2⟩ := sp_first_out m2 hk hc
  unfold f_X0_firstBest_j10
  rw [l1]
  simp only [Option.bind_some]
  rcases l2 with ⟨ν, rfl, n2, n3, n4⟩ | ⟨ν, x, t, rfl, n2, n3, n4, n5, n6, n7, n8⟩
  · refine ⟨ν, fb_ct (pl_qc s d wo) 9, fb_ct (pl_qc s d wo) 9, ?_, n2, fun a ha => by rw [n3 a ha]; exact m3 a ha, Nat.le_refl _, Nat.le_refl _, pc_fstA hk h6 n4⟩
    have e4 : ν 48 4 = nI (fb_ct (pl_qc s d wo) 9) := n2.1.2.1.1
    unfold f_X0_firstBest_j109
    simp only [e4]
    simp (disch := omega) only [n_lit, n_le, n_lt, n_eq, n_in, n_ckt, n_ix, n_mul, n_add, n_sub, n_div, n_rem, n_b01, n_isb, n_lt0, n_le0, Option.bind_some, if_pos, if_neg, ge_iff_le, gt_iff_lt, Nat.zero_add, Nat.add_zero, n_neg1, n_neg4, if_true, if_false, ite_true, ite_false, n_land1, not_true_eq_false, not_false_eq_true, Nat.mul_comm (fb_ct (pl_qc s d wo) 9) 7]
  · refine ⟨ν, x, t, rfl, n2, fun a ha => by rw [n3 a ha]; exact m3 a ha, Nat.le_of_lt n4, n5, pc_fstB hk h6 (Nat.le_of_lt n4) n5 n6 (fun jx jy b1 b2 hlt => ?_)⟩
    by_cases q : jx < x
    · exact n8 jx jy q b2
    · have e : jx = x := by omega
      rw [e]
      exact n7 jy (by omega)
theorem sp_pnum {τ : ww_M} {j : Nat} (hL : pc_L τ s d rot wo n) (hj : j ≤ fb_ct (pl_qc s d wo) 9) : f_X0_partAt τ 48 (nI j) = some (pl_num (ls_sl (pl_qc s d wo) j)) := by
  have h6 := pl_qc6 hL.1.1 d wo
  unfold f_X0_partAt f_X6_numberOf pl_num
  simp only [hL.2.1.1, show τ (48 + 2) = τ 50 from rfl]
  by_cases e : j < fb_ct (pl_qc s d wo) 9
  · have h1 := ls_in e
    have e50 := hL.2.1.2 j e
    rw [if_pos h1.1]
    unfold pl_nu
    simp (disch := omega) only [n_lit, n_le, n_lt, n_eq, n_in, n_ckt, n_ix, n_mul, n_add, n_sub, n_div, n_rem, n_b01, n_isb, n_lt0, n_le0, Option.bind_some, if_pos, if_neg, ge_iff_le, gt_iff_lt, Nat.zero_add, Nat.add_zero, n_neg1, n_neg4, if_true, if_false, ite_true, ite_false, n_land1, not_true_eq_false, not_false_eq_true, e50, Nat.mul_comm (ls_sl (pl_qc s d wo) j / 3) 10]
  · rw [ls_out (show fb_ct (pl_qc s d wo) 9 ≤ j by omega)]
    simp (disch := omega) only [n_lit, n_le, n_lt, n_eq, n_in, n_ckt, n_ix, n_mul, n_add, n_sub, n_div, n_rem, n_b01, n_isb, n_lt0, n_le0, Option.bind_some, if_pos, if_neg, ge_iff_le, gt_iff_lt, Nat.zero_add, Nat.add_zero, n_neg1, n_neg4, if_true, if_false, ite_true, ite_false, n_land1, not_true_eq_false, not_false_eq_true]
theorem sp_bestAt {τ : ww_M} {w c0 : Nat} (hI : pc_I τ s d rot wo n st) (hw : w < 2 * n) (hc0 : c0 < 4 ^ fb_ct (pl_qc s d wo) 9) (h7 : τ 48 7 = nI c0) : ∃ ν x y, f_X0_bestAt τ 48 (nI w) = some (if w % 2 = 0 then pl_num x else pl_num y, ν) ∧ pv_at (pl_ab s d) (pl_g s d rot) (pl_two d) n (ls_W (pl_qc s d wo) c0) (w / 2) x y ∧ pc_I ν s d rot wo n st ∧ ∀ a, a ≠ 49 → ν a = τ a := by
  have hL := hI.1
  have h6 := pl_qc6 hL.1.1 d wo
  have h4 := ls_4096 h6
  have hn := hL.2.2.2.2.2
  have key := ww_it_inv (f := f_X0_bestAt_b7 48 (nI w)) (x0 := (nI c0, 0, τ)) (fun i x => x.2.1 = nI i ∧ (∃ c, x.1 = nI c ∧ c < 4 ^ fb_ct (pl_qc s d wo) 9 ∧ pv_run (pl_ab s d) (pl_g s d rot) (pl_two d) n (ls_W (pl_qc s d wo) c0) i (ls_W (pl_qc s d wo) c)) ∧ pc_I x.2.2 s d rot wo n st ∧ ∀ a, a ≠ 49 → x.2.2 a = τ a) (fun r => ∃ ν x y, r = .inr (if w % 2 = 0 then pl_num x else pl_num y, ν) ∧ pv_at (pl_ab s d) (pl_g s d rot) (pl_two d) n (ls_W (pl_qc s d wo) c0) (w / 2) x y ∧ pc_I ν s d rot wo n st ∧ ∀ a, a ≠ 49 → ν a = τ a) (w / 2) (by omega) ⟨rfl, ⟨c0, rfl, hc0, fun i hi => Or.inl rfl⟩, hI, fun a _ => rfl⟩ (fun i hi x hx => ?_) (fun x hx => ?_)
  · obtain ⟨r, k1, ν, x, y, rfl, k2, k3, k4⟩ := key
    refine ⟨ν, x, y, ?_, k2, k3, k4⟩
    unfold f_X0_bestAt f_X0_bestAt_j7
    rw [h7, k1]
    rfl
  · obtain ⟨x1, x2, ν⟩ := x
    dsimp only at hx
    obtain ⟨rfl, ⟨c, rfl, hc, hrun⟩, k3, k4⟩ := hx
    have e5 : ν 48 5 = nI n := k3.1.2.2.2.1
    obtain ⟨μ, x, y, f1, f2, f3, f4, f5, f6⟩ := sp_first k3 (show i < n by omega) hc
    have kx := (ls_can f4).mp f6.1.1.1
    have ky := (ls_can f5).mp f6.1.1.2.1
    have hxy : y = fb_ct (pl_qc s d wo) 9 ∨ x ≠ y := by
      rcases (ls_may f4 f5).mp f6.1.1.2.2 with e | e <;> omega
    have hd2 := ls_dn2 h6 hc f4 f5 hxy (fun e => (kx e).2) (fun e => (ky e).2)
    have a1 := sp_after (τ := μ) (c := c) f2.1.2.1.1 h6 f4 (fun e => ls_dig_le (kx e).2)
    have a2 := sp_after (τ := μ) (c := ls_af (fb_ct (pl_qc s d wo) 9) c x) f2.1.2.1.1 h6 f5 (fun e => by
      unfold ls_af
      by_cases e1 : x < fb_ct (pl_qc s d wo) 9
      · rw [if_pos e1]
        refine ls_dig_le ?_
        rw [ls_dig (by omega) (by omega) (by omega) (kx e1).2, if_neg (by omega)]
        exact (ky e).2
      · rw [if_neg e1]; exact ls_dig_le (ky e).2)
    refine Or.inl ⟨(nI (ls_af (fb_ct (pl_qc s d wo) 9) (ls_af (fb_ct (pl_qc s d wo) 9) c x) y), nI (i + 1), μ), ?_, rfl, ⟨_, rfl, Nat.lt_of_le_of_lt (ls_af_le _ _ _) (Nat.lt_of_le_of_lt (ls_af_le _ _ _) hc), ⟨_, _, _, hrun, f6, fun i hi => Or.inl (by rw [hd2])⟩⟩, f2, fun a ha => by show μ a = τ a; rw [f3 a ha]; exact k4 a ha⟩
    unfold f_X0_bestAt_b7
    simp only [e5]
    simp (disch := omega) only [n_lit, n_le, n_lt, n_eq, n_in, n_ckt, n_ix, n_mul, n_add, n_sub, n_div, n_rem, n_b01, n_isb, n_lt0, n_le0, Option.bind_some, if_pos, if_neg, ge_iff_le, gt_iff_lt, Nat.zero_add, Nat.add_zero, n_neg1, n_neg4, if_true, if_false, ite_true, ite_false, n_land1, not_true_eq_false, not_false_eq_true, f1, show (7 * x + y) / 7 = x by omega, show (7 * x + y) % 7 = y by omega, a1, a2]
  · obtain ⟨x1, x2, ν⟩ := x
    dsimp only at hx
    obtain ⟨rfl, ⟨c, rfl, hc, hrun⟩, k3, k4⟩ := hx
    have e5 : ν 48 5 = nI n := k3.1.2.2.2.1
    obtain ⟨μ, x, y, f1, f2, f3, f4, f5, f6⟩ := sp_first k3 (show w / 2 < n by omega) hc
    have p1 := sp_pnum f2.1 f4
    have p2 := sp_pnum f2.1 f5
    refine ⟨.inr (if w % 2 = 0 then pl_num (ls_sl (pl_qc s d wo) x) else pl_num (ls_sl (pl_qc s d wo) y), μ), ?_, μ, _, _, rfl, ⟨_, hrun, f6⟩, f2, fun a ha => by rw [f3 a ha]; exact k4 a ha⟩
    unfold f_X0_bestAt_b7 f_X0_bestAt_j58
    simp only [e5]
    simp (disch := omega) only [n_lit, n_le, n_lt, n_eq, n_in, n_ckt, n_ix, n_mul, n_add, n_sub, n_div, n_rem, n_b01, n_isb, n_lt0, n_le0, Option.bind_some, if_pos, if_neg, ge_iff_le, gt_iff_lt, Nat.zero_add, Nat.add_zero, n_neg1, n_neg4, if_true, if_false, ite_true, ite_false, n_land1, not_true_eq_false, not_false_eq_true, f1, show (7 * x + y) / 7 = x by omega, show (7 * x + y) % 7 = y by omega, p1, p2]
    by_cases e : w % 2 = 0
    · rw [if_pos e, if_pos e]
    · rw [if_neg e, if_neg e]
end PC3
