def ww_mo (cnt : Nat → Nat) : Nat → Nat × Nat
  | 0 => (0, 0)
  | o + 1 => if (ww_mo cnt o).1 < cnt o then (cnt o, o) else ww_mo cnt o
theorem ww_mo_le {cnt : Nat → Nat} {c : Nat} (h : ∀ o, cnt o ≤ c) : ∀ n, (ww_mo cnt n).1 ≤ c ∧ (ww_mo cnt n).2 ≤ n - 1
  | 0 => by simp [ww_mo]
  | n + 1 => by
    have h1 := ww_mo_le h n
    have h2 := h n
    simp only [ww_mo]
    split
    · exact ⟨h2, by omega⟩
    · exact ⟨h1.1, by omega⟩
def ww_oc (d : ww_D1) (a n o : Nat) : Nat := fb_ct (fun i => decide (dOwn d (a + i) = o)) n
def ww_own (s : ww_S) (d : ww_D1) (law b p : Nat) : Nat :=
  if law = 0 then dOwn d (sHd s b) else if law = 1 then dOwn d (sHd s b + sPt s b - 1) else if law = 2 then dOwn d (sHd s b + p) else (ww_mo (ww_oc d (sHd s b) (sPt s b)) 4).2
theorem sp_ownerOfMost {σ : ww_M} {o a n : Nat} {s : ww_S} {d : ww_D1} (h : ww_CL1 σ o s d) (h1 : 1 ≤ n) (h2 : a + n ≤ sNp s) : f_X2_ownerOfMost σ o (nI a) (nI (a + n - 1)) = some (nI (ww_mo (ww_oc d a n) 4).2) := by
  obtain ⟨hs, hd, hC⟩ := h
  have hnp := hs.1
  have hcl : ∀ x, ww_oc d a n x ≤ 6 := fun x => by
    have := fb_ct_le (fun i => decide (dOwn d (a + i) = x)) n
    unfold ww_oc; omega
  unfold f_X2_ownerOfMost f_X2_ownerOfMost_j8 f_X2_ownerOfMost_j66
  have key := ww_it_for (f := f_X2_ownerOfMost_b8 σ o (nI a) (nI (a + n - 1))) (fun x => (nI (ww_mo (ww_oc d a n) x).1, nI (ww_mo (ww_oc d a n) x).2, nI x)) 4 (r := nI (ww_mo (ww_oc d a n) 4).2) (by omega) (fun x hx => ?_) ?_
  · have key' : ww_it (f_X2_ownerOfMost_b8 σ o (nI a) (nI (a + n - 1))) ww_F (0, 0, 0) = some (nI (ww_mo (ww_oc d a n) 4).2) := key
    rw [key']
    rfl
  · have hm := ww_mo_le hcl x
    unfold f_X2_ownerOfMost_b8 f_X2_ownerOfMost_j20
    have inner := ww_it_for (f := f_X2_ownerOfMost_b20 σ o (nI a) (nI (a + n - 1)) (nI (ww_mo (ww_oc d a n) x).1) (nI (ww_mo (ww_oc d a n) x).2) (nI x)) (fun i => (nI (fb_ct (fun i => decide (dOwn d (a + i) = x)) i), nI (a + i))) n (r := nI (ww_oc d a n x)) (by omega) (fun i hi => ?_) ?_
    · rw [Nat.add_zero] at inner
      have inner' : ww_it (f_X2_ownerOfMost_b20 σ o (nI a) (nI (a + n - 1)) (nI (ww_mo (ww_oc d a n) x).1) (nI (ww_mo (ww_oc d a n) x).2) (nI x)) ww_F (0, nI a) = some (nI (ww_oc d a n x)) := inner
      simp only [inner', Option.bind_some]
      unfold f_X2_ownerOfMost_j47
      have := hcl x
      simp only [ww_mo]
      simp (disch := omega) only [n_lit, n_le, n_lt, n_eq, n_in, n_ckt, n_ix, n_mul, n_add, n_sub, n_div, n_rem, n_b01, n_isb, n_lt0, n_le0, Option.bind_some, if_pos, if_neg, ge_iff_le, gt_iff_lt, Nat.zero_add, Nat.add_zero, n_neg1, n_neg4, if_true, if_false, ite_true, ite_false, n_land1, not_true_eq_false, not_false_eq_true]
      by_cases c : (ww_mo (ww_oc d a n) x).1 < ww_oc d a n x
      · simp only [if_pos c, if_neg (show ¬ ww_oc d a n x ≤ (ww_mo (ww_oc d a n) x).1 by omega)]
      · simp only [if_neg c, if_pos (show ww_oc d a n x ≤ (ww_mo (ww_oc d a n) x).1 by omega)]
    · have e1 := (hC.2.2.1 (a + i) (by omega)).1
      have ho := (hd.2.2.2.2.2.2.1 (a + i) (by omega)).1
      unfold f_X2_ownerOfMost_b20
      simp only [fb_ct_succ]
      simp (disch := omega) only [n_lit, n_le, n_lt, n_eq, n_in, n_ckt, n_ix, n_mul, n_add, n_sub, n_div, n_rem, n_b01, n_isb, n_lt0, n_le0, Option.bind_some, if_pos, if_neg, ge_iff_le, gt_iff_lt, Nat.zero_add, Nat.add_zero, n_neg1, n_neg4, if_true, if_false, ite_true, ite_false, n_land1, not_true_eq_false, not_false_eq_true, e1]
      by_cases c : dOwn d (a + i) = x <;> simp [c, Nat.add_assoc]
    · unfold f_X2_ownerOfMost_b20
      simp (disch := omega) only [n_lit, n_le, n_lt, n_eq, n_in, n_ckt, n_ix, n_mul, n_add, n_sub, n_div, n_rem, n_b01, n_isb, n_lt0, n_le0, Option.bind_some, if_pos, if_neg, ge_iff_le, gt_iff_lt, Nat.zero_add, Nat.add_zero, n_neg1, n_neg4, if_true, if_false, ite_true, ite_false, n_land1, not_true_eq_false, not_false_eq_true]
      rfl
  · unfold f_X2_ownerOfMost_b8
    simp (disch := omega) only [n_lit, n_le, n_lt, n_eq, n_in, n_ckt, n_ix, n_mul, n_add, n_sub, n_div, n_rem, n_b01, n_isb, n_lt0, n_le0, Option.bind_some, if_pos, if_neg, ge_iff_le, gt_iff_lt, Nat.zero_add, Nat.add_zero, n_neg1, n_neg4, if_true, if_false, ite_true, ite_false, n_land1, not_true_eq_false, not_false_eq_true]
theorem sm_ownerOfMost {σ : ww_M} {a n : Nat} {p1 p2 : Int32} {s : ww_S} {d : ww_D1} (h : ww_MO1 σ s d) (h1 : 1 ≤ n) (h2 : a + n ≤ sNp s) : f_X7_whoseBy_j75 σ 62 p1 p2 (nI a) (nI n) 0 0 0 = some (nI (ww_mo (ww_oc d a n) 4).2) := by
  obtain ⟨hs, hd, hM, hD⟩ := h
  have hnp := hs.1
  have hcl : ∀ x, ww_oc d a n x ≤ 6 := fun x => by
    have := fb_ct_le (fun i => decide (dOwn d (a + i) = x)) n
    unfold ww_oc; omega
  unfold f_X7_whoseBy_j75 f_X7_whoseBy_j164
  have key := ww_it_for (f := f_X7_whoseBy_b75 σ 62 p1 p2 (nI a) (nI n)) (fun x => (nI (ww_mo (ww_oc d a n) x).2, nI (ww_mo (ww_oc d a n) x).1, nI x)) 4 (r := nI (ww_mo (ww_oc d a n) 4).2) (by omega) (fun x hx => ?_) ?_
  · have key' : ww_it (f_X7_whoseBy_b75 σ 62 p1 p2 (nI a) (nI n)) ww_F (0, 0, 0) = some (nI (ww_mo (ww_oc d a n) 4).2) := key
    rw [key']
    rfl
  · have hm := ww_mo_le hcl x
    unfold f_X7_whoseBy_b75 f_X7_whoseBy_j87
    have inner := ww_it_for (f := f_X7_whoseBy_b87 σ 62 p1 p2 (nI a) (nI n) (nI (ww_mo (ww_oc d a n) x).2) (nI (ww_mo (ww_oc d a n) x).1) (nI x)) (fun i => (nI (fb_ct (fun i => decide (dOwn d (a + i) = x)) i), nI (a + i))) n (r := nI (ww_oc d a n x)) (by omega) (fun i hi => ?_) ?_
    · rw [Nat.add_zero] at inner
      have inner' : ww_it (f_X7_whoseBy_b87 σ 62 p1 p2 (nI a) (nI n) (nI (ww_mo (ww_oc d a n) x).2) (nI (ww_mo (ww_oc d a n) x).1) (nI x)) ww_F (0, nI a) = some (nI (ww_oc d a n x)) := inner
      simp only [inner', Option.bind_some]
      unfold f_X7_whoseBy_j126 f_X7_whoseBy_j140
      have := hcl x
      simp only [ww_mo]
      simp (disch := omega) only [n_lit, n_le, n_lt, n_eq, n_in, n_ckt, n_ix, n_mul, n_add, n_sub, n_div, n_rem, n_b01, n_isb, n_lt0, n_le0, Option.bind_some, if_pos, if_neg, ge_iff_le, gt_iff_lt, Nat.zero_add, Nat.add_zero, n_neg1, n_neg4, if_true, if_false, ite_true, ite_false, n_land1, not_true_eq_false, not_false_eq_true]
      by_cases c : (ww_mo (ww_oc d a n) x).1 < ww_oc d a n x
      · simp only [if_pos c, if_neg (show ¬ ww_oc d a n x ≤ (ww_mo (ww_oc d a n) x).1 by omega)]
      · simp only [if_neg c, if_pos (show ww_oc d a n x ≤ (ww_mo (ww_oc d a n) x).1 by omega)]
    · have e1 := (hD.2.2.1 (a + i) (by omega)).1
      rw [Nat.zero_add] at e1
      have ho := (hd.2.2.2.2.2.2.1 (a + i) (by omega)).1
      unfold f_X7_whoseBy_b87
      simp only [fb_ct_succ, show σ (62 + 1) = σ 63 from rfl]
      simp (disch := omega) only [n_lit, n_le, n_lt, n_eq, n_in, n_ckt, n_ix, n_mul, n_add, n_sub, n_div, n_rem, n_b01, n_isb, n_lt0, n_le0, Option.bind_some, if_pos, if_neg, ge_iff_le, gt_iff_lt, Nat.zero_add, Nat.add_zero, n_neg1, n_neg4, if_true, if_false, ite_true, ite_false, n_land1, not_true_eq_false, not_false_eq_true, e1]
      by_cases c : dOwn d (a + i) = x <;> simp [c, Nat.add_assoc]
    · unfold f_X7_whoseBy_b87
      simp (disch := omega) only [n_lit, n_le, n_lt, n_eq, n_in, n_ckt, n_ix, n_mul, n_add, n_sub, n_div, n_rem, n_b01, n_isb, n_lt0, n_le0, Option.bind_some, if_pos, if_neg, ge_iff_le, gt_iff_lt, Nat.zero_add, Nat.add_zero, n_neg1, n_neg4, if_true, if_false, ite_true, ite_false, n_land1, not_true_eq_false, not_false_eq_true]
      rfl
  · unfold f_X7_whoseBy_b75
    simp (disch := omega) only [n_lit, n_le, n_lt, n_eq, n_in, n_ckt, n_ix, n_mul, n_add, n_sub, n_div, n_rem, n_b01, n_isb, n_lt0, n_le0, Option.bind_some, if_pos, if_neg, ge_iff_le, gt_iff_lt, Nat.zero_add, Nat.add_zero, n_neg1, n_neg4, if_true, if_false, ite_true, ite_false, n_land1, not_true_eq_false, not_false_eq_true]
theorem sp_ownerBy {σ : ww_M} {o b p law : Nat} {s : ww_S} {d : ww_D1} (h : ww_CL1 σ o s d) (hv : ww_vld s b p = true) (hl : law ≤ 3) : f_X2_ownerBy σ o (nI (3 * b + p)) (nI law) = some (nI (ww_own s d law b p)) := by
  have h0 := h
  obtain ⟨hs, hd, hC⟩ := h
  have h3 := ww_vld3 hs hv
  have q := ww_vld_iff.mp hv
  have h6 := hs.2.2.2.2.2.1 _ q.1
  have hnp := hs.1
  have g1 : nI (3 * b + p) / 3 = nI b := by rw [show nI (3 * b + p) / 3 = nI ((3 * b + p) / 3) from pk_div (d := 3) (by omega) (by omega) (by omega), (n_dr3 h3.2).1]
  have g2 : ww_rem (nI (3 * b + p)) 3 = nI p := by rw [show ww_rem (nI (3 * b + p)) 3 = nI ((3 * b + p) % 3) from pk_rem (d := 3) (by omega) (by omega) (by omega), (n_dr3 h3.2).2]
  have e4 := (hC.2.2.2.2.1 _ q.1).1
  have e5 := (hC.2.2.2.2.1 _ q.1).2
  unfold f_X2_ownerBy f_X2_placeOf ww_own
  rw [g1, g2]
  simp (disch := omega) only [n_lit, n_le, n_lt, n_eq, n_in, n_ckt, n_ix, n_mul, n_add, n_sub, n_div, n_rem, n_b01, n_isb, n_lt0, n_le0, Option.bind_some, if_pos, if_neg, ge_iff_le, gt_iff_lt, Nat.zero_add, Nat.add_zero, n_neg1, n_neg4, if_true, if_false, ite_true, ite_false, n_land1, not_true_eq_false, not_false_eq_true, e4, e5, sp_ownerOfMost h0, (hC.2.2.1 (sHd s b) (by omega)).1, (hC.2.2.1 (sHd s b + sPt s b - 1) (by omega)).1, (hC.2.2.1 (sHd s b + p) (by omega)).1]
  split
  · rfl
  · split
    · rfl
    · split <;> rfl
theorem sm_whoseBy {σ : ww_M} {b p law : Nat} {s : ww_S} {d : ww_D1} (h : ww_MO1 σ s d) (hv : ww_vld s b p = true) (hl : law ≤ 3) : f_X7_whoseBy σ 62 (nI (10 * b + p)) (nI law) = some (nI (ww_own s d law b p)) := by
  have h0 := h
  obtain ⟨hs, hd, hM, hD⟩ := h
  have h3 := ww_vld3 hs hv
  have q := ww_vld_iff.mp hv
  have h6 := hs.2.2.2.2.2.1 _ q.1
  have hnp := hs.1
  obtain ⟨g1, g2⟩ := ww_dr10 (n := 10 * b + p) (by omega)
  rw [(n_dr10 h3.2).1] at g1
  rw [(n_dr10 h3.2).2] at g2
  have e4 := (hM.2.2.2.2 _ q.1).1
  have e5 := (hM.2.2.2.2 _ q.1).2
  have w1 := (hD.2.2.1 (sHd s b) (by omega)).1
  have w2 := (hD.2.2.1 (sHd s b + (sPt s b - 1)) (by omega)).1
  have w3 := (hD.2.2.1 (sHd s b + p) (by omega)).1
  rw [Nat.zero_add] at w1 w2 w3
  unfold f_X7_whoseBy ww_own
  rw [g1, g2, show (0 : Int32) = nI 0 from rfl]
  have hm := sm_ownerOfMost (p1 := nI (10 * b + p)) (p2 := nI law) h0 h6.1 h6.2.2
  rw [show (0 : Int32) = nI 0 from rfl] at hm
  simp only [show σ (62 + 1) = σ 63 from rfl, show σ (62 + 3) = σ 65 from rfl]
  simp (disch := omega) only [n_lit, n_le, n_lt, n_eq, n_in, n_ckt, n_ix, n_mul, n_add, n_sub, n_div, n_rem, n_b01, n_isb, n_lt0, n_le0, Option.bind_some, if_pos, if_neg, ge_iff_le, gt_iff_lt, Nat.zero_add, Nat.add_zero, n_neg1, n_neg4, if_true, if_false, ite_true, ite_false, n_land1, not_true_eq_false, not_false_eq_true, e4, e5, hm, w1, w2, w3]
  rw [show sHd s b + (sPt s b - 1) = sHd s b + sPt s b - 1 by omega]
  by_cases c0 : law = 0
  · subst c0; rfl
  · by_cases c1 : law = 1
    · subst c1; rfl
    · by_cases c2 : law = 2
      · subst c2; rfl
      · rw [if_pos (show 3 ≤ law by omega), if_neg c0, if_neg c1, if_neg c2]
theorem ww_own_le {s : ww_S} {d : ww_D1} {law b p : Nat} (hs : ww_okS s) (hd : ww_okD s d) (hv : ww_vld s b p = true) : ww_own s d law b p ≤ 3 := by
  have q := ww_vld_iff.mp hv
  have h6 := hs.2.2.2.2.2.1 _ q.1
  have hm : (ww_mo (ww_oc d (sHd s b) (sPt s b)) 4).2 ≤ 3 := (ww_mo_le (c := sPt s b) (fun x => fb_ct_le _ _) 4).2
  unfold ww_own
  split
  · exact (hd.2.2.2.2.2.2.1 _ (by omega)).1
  · split
    · exact (hd.2.2.2.2.2.2.1 _ (by omega)).1
    · split
      · exact (hd.2.2.2.2.2.2.1 _ (by omega)).1
      · exact hm
