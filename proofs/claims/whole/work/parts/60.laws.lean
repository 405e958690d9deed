def ww_exB (s : ww_S) (d : ww_D1) (law n : Nat) (fo fw : Nat → Int32) : Bool := (List.range n).all (fun i => decide (nI (ww_sha s d law (fo i)) = fw i))
theorem ww_exB_iff {s : ww_S} {d : ww_D1} {law n : Nat} {fo fw : Nat → Int32} : ww_exB s d law n fo fw = true ↔ ∀ i, i < n → nI (ww_sha s d law (fo i)) = fw i := by
  simp [ww_exB]
theorem ww_exB_succ {s : ww_S} {d : ww_D1} {law n : Nat} {fo fw : Nat → Int32} : ww_exB s d law (n + 1) fo fw = (ww_exB s d law n fo fw && decide (nI (ww_sha s d law (fo n)) = fw n)) := by
  simp [ww_exB, List.range_succ, List.all_append]
theorem sp_explained {σ : ww_M} {n law : Nat} {s : ww_S} {d : ww_D1} (h : ww_CL1 σ 4 s d) (hl : law ≤ 3) (hn : n ≤ 6) (h2 : σ 45 2 = nI n) : f_X3_areExplained σ 45 4 (nI law) = some (if ww_exB s d law n (σ 46) (σ 47) then 1 else 0) := by
  unfold f_X3_areExplained f_X3_areExplained_j2 f_X3_areExplained_j38
  have key := ww_it_first (f := f_X3_areExplained_b2 σ 45 4 (nI law)) (fun i => nI i) (fun i => !decide (nI (ww_sha s d law (σ 46 i)) = σ 47 i)) n (by omega) (fun i => Sum.inr 0) (Sum.inl ()) (fun i hi hp => ?_) (fun i hi hp => ?_) ?_
  · rw [show (0 : Int32) = nI 0 from rfl] at *
    rw [key]
    simp only [Option.bind_some]
    by_cases c : fa_first (fun i => !decide (nI (ww_sha s d law (σ 46 i)) = σ 47 i)) n < n
    · have hy := fa_first_yes _ _ c
      have : ¬ ww_exB s d law n (σ 46) (σ 47) = true := fun z => by
        have := ww_exB_iff.mp z _ c
        simp [this] at hy
      simp only [if_pos c, if_neg this]
    · have e : fa_first (fun i => !decide (nI (ww_sha s d law (σ 46 i)) = σ 47 i)) n = n := by have := fa_first_le (fun i => !decide (nI (ww_sha s d law (σ 46 i)) = σ 47 i)) n; omega
      have : ww_exB s d law n (σ 46) (σ 47) = true := ww_exB_iff.mpr (fun i hi => by
        have := fa_first_no _ n i (by rw [e]; exact hi)
        simpa using this)
      simp only [if_neg c, if_pos this]
  · unfold f_X3_areExplained_b2
    have hp' : nI (ww_sha s d law (σ 46 i)) = σ 47 i := by simpa using hp
    simp only [show σ (45 + 1) = σ 46 from rfl, show σ (45 + 2) = σ 47 from rfl]
    simp (disch := omega) only [n_lit, n_le, n_lt, n_eq, n_in, n_ckt, n_ix, n_mul, n_add, n_sub, n_div, n_rem, n_b01, n_isb, n_lt0, n_le0, Option.bind_some, if_pos, if_neg, ge_iff_le, gt_iff_lt, Nat.zero_add, Nat.add_zero, n_neg1, n_neg4, if_true, if_false, ite_true, ite_false, n_land1, not_true_eq_false, not_false_eq_true, h2, sp_shareBy h hl, hp']
  · unfold f_X3_areExplained_b2
    have hp' : ¬ nI (ww_sha s d law (σ 46 i)) = σ 47 i := by simpa using hp
    simp only [show σ (45 + 1) = σ 46 from rfl, show σ (45 + 2) = σ 47 from rfl]
    simp (disch := omega) only [n_lit, n_le, n_lt, n_eq, n_in, n_ckt, n_ix, n_mul, n_add, n_sub, n_div, n_rem, n_b01, n_isb, n_lt0, n_le0, Option.bind_some, if_pos, if_neg, ge_iff_le, gt_iff_lt, Nat.zero_add, Nat.add_zero, n_neg1, n_neg4, if_true, if_false, ite_true, ite_false, n_land1, not_true_eq_false, not_false_eq_true, h2, sp_shareBy h hl, hp']
  · unfold f_X3_areExplained_b2
    simp (disch := omega) only [n_lit, n_le, n_lt, n_eq, n_in, n_ckt, n_ix, n_mul, n_add, n_sub, n_div, n_rem, n_b01, n_isb, n_lt0, n_le0, Option.bind_some, if_pos, if_neg, ge_iff_le, gt_iff_lt, Nat.zero_add, Nat.add_zero, n_neg1, n_neg4, if_true, if_false, ite_true, ite_false, n_land1, not_true_eq_false, not_false_eq_true, h2]
theorem sm_explains {σ : ww_M} {n law : Nat} {s : ww_S} {d : ww_D1} {fo fw : Nat → Int32} (h : ww_MO1 σ s d) (hl : law ≤ 3) (hn : n ≤ 6) (h2 : σ 62 30 = nI n) (hf : ∀ i, i < n → fo i = σ 75 (2 * i) ∧ fw i = σ 75 (2 * i + 1)) : f_X7_explains σ 62 (nI law) = some (if ww_exB s d law n fo fw then 1 else 0) := by
  unfold f_X7_explains f_X7_explains_j4 f_X7_explains_j54
  have key := ww_it_for (f := f_X7_explains_b4 σ 62 (nI law)) (fun i => ((if ww_exB s d law i fo fw then nI 1 else nI 0), nI i)) n (r := if ww_exB s d law n fo fw then nI 1 else nI 0) (by omega) (fun i hi => ?_) ?_
  · have e0 : ww_exB s d law 0 fo fw = true := rfl
    simp only [e0] at key
    have key' : ww_it (f_X7_explains_b4 σ 62 (nI law)) ww_F (1, 0) = some (if ww_exB s d law n fo fw then nI 1 else nI 0) := key
    rw [key']
    simp only [Option.bind_some]
    cases ww_exB s d law n fo fw <;> rfl
  · unfold f_X7_explains_b4
    obtain ⟨g1, g2⟩ := hf i hi
    simp only [show σ (62 + 13) = σ 75 from rfl, ww_exB_succ]
    simp (disch := omega) only [n_lit, n_le, n_lt, n_eq, n_in, n_ckt, n_ix, n_mul, n_add, n_sub, n_div, n_rem, n_b01, n_isb, n_lt0, n_le0, Option.bind_some, if_pos, if_neg, ge_iff_le, gt_iff_lt, Nat.zero_add, Nat.add_zero, n_neg1, n_neg4, if_true, if_false, ite_true, ite_false, n_land1, not_true_eq_false, not_false_eq_true, h2, ← g1, ← g2, sm_shareBy h hl]
    cases c1 : ww_exB s d law i fo fw
    · simp
    · by_cases c2 : nI (ww_sha s d law (fo i)) = fw i <;> simp [c2]
  · unfold f_X7_explains_b4
    simp (disch := omega) only [n_lit, n_le, n_lt, n_eq, n_in, n_ckt, n_ix, n_mul, n_add, n_sub, n_div, n_rem, n_b01, n_isb, n_lt0, n_le0, Option.bind_some, if_pos, if_neg, ge_iff_le, gt_iff_lt, Nat.zero_add, Nat.add_zero, n_neg1, n_neg4, if_true, if_false, ite_true, ite_false, n_land1, not_true_eq_false, not_false_eq_true, h2]
theorem st_laws {k : Nat} {σ : ww_M} {s : ww_S} {d : ww_D1} (hk : k < 64) (h : ww_Rel k σ s d) : ∃ (v : Int32) (s2 : ww_S) (d2 : ww_D1), f_X6_laws σ = some v ∧ f_X7_laws σ 62 = some v ∧ ww_Rel (k + 1) σ s2 d2 := by
  have h0 := ww_Rel_up h
  obtain ⟨r1, ⟨hd, -⟩, hC, hM, hD, -, -, ⟨n, t1, t2, t3, t4⟩, -⟩ := h
  refine ⟨nI (ww_bits (fun v => ww_exB s d v n (σ 46) (σ 47)) 4), s, d, ?_, ?_, h0⟩
  · unfold f_X6_laws f_X6_laws_j4 f_X6_laws_j36
    have key := ww_it_for (f := f_X6_laws_b4 σ) (fun i => (nI (ww_bits (fun v => ww_exB s d v n (σ 46) (σ 47)) i), nI i)) 4 (r := nI (ww_bits (fun v => ww_exB s d v n (σ 46) (σ 47)) 4)) (by omega) (fun i hi => ?_) ?_
    · exact Option.bind_eq_some_iff.mpr ⟨_, key, rfl⟩
    · unfold f_X6_laws_b4
      simp only
      rw [sp_explained ⟨r1, hd, hC⟩ (by omega) t1 t2, ww_shl1 (by omega), fa_or]
      simp (disch := omega) only [n_lit, n_le, n_lt, n_eq, n_in, n_ckt, n_ix, n_mul, n_add, n_sub, n_div, n_rem, n_b01, n_isb, n_lt0, n_le0, Option.bind_some, if_pos, if_neg, ge_iff_le, gt_iff_lt, Nat.zero_add, Nat.add_zero, n_neg1, n_neg4, if_true, if_false, ite_true, ite_false, n_land1, not_true_eq_false, not_false_eq_true]
      have e := bt_or (fun v => ww_exB s d v n (σ 46) (σ 47)) i
      rw [← e]
      cases ww_exB s d i n (σ 46) (σ 47) <;> simp
    · unfold f_X6_laws_b4
      simp (disch := omega) only [n_lit, n_le, n_lt, n_eq, n_in, n_ckt, n_ix, n_mul, n_add, n_sub, n_div, n_rem, n_b01, n_isb, n_lt0, n_le0, Option.bind_some, if_pos, if_neg, ge_iff_le, gt_iff_lt, Nat.zero_add, Nat.add_zero, n_neg1, n_neg4, if_true, if_false, ite_true, ite_false, n_land1, not_true_eq_false, not_false_eq_true]
  · unfold f_X7_laws f_X7_laws_j4 f_X7_laws_j33
    have key := ww_it_for (f := f_X7_laws_b4 σ 62) (fun i => (nI (ww_bits (fun v => ww_exB s d v n (σ 46) (σ 47)) i), nI i)) 4 (r := nI (ww_bits (fun v => ww_exB s d v n (σ 46) (σ 47)) 4)) (by omega) (fun i hi => ?_) ?_
    · exact Option.bind_eq_some_iff.mpr ⟨_, key, rfl⟩
    · unfold f_X7_laws_b4
      simp only
      rw [sm_explains ⟨r1, hd, hM, hD⟩ (by omega) t1 t3 t4, ww_shl1 (by omega), fa_or, show nI (ww_bits (fun v => ww_exB s d v n (σ 46) (σ 47)) i) ||| 0 = nI (ww_bits (fun v => ww_exB s d v n (σ 46) (σ 47)) i ||| 0) from fa_or _ 0]
      simp (disch := omega) only [n_lit, n_le, n_lt, n_eq, n_in, n_ckt, n_ix, n_mul, n_add, n_sub, n_div, n_rem, n_b01, n_isb, n_lt0, n_le0, Option.bind_some, if_pos, if_neg, ge_iff_le, gt_iff_lt, Nat.zero_add, Nat.add_zero, n_neg1, n_neg4, if_true, if_false, ite_true, ite_false, n_land1, not_true_eq_false, not_false_eq_true]
      have e := bt_or (fun v => ww_exB s d v n (σ 46) (σ 47)) i
      rw [← e]
      cases ww_exB s d i n (σ 46) (σ 47) <;> simp
    · unfold f_X7_laws_b4
      simp (disch := omega) only [n_lit, n_le, n_lt, n_eq, n_in, n_ckt, n_ix, n_mul, n_add, n_sub, n_div, n_rem, n_b01, n_isb, n_lt0, n_le0, Option.bind_some, if_pos, if_neg, ge_iff_le, gt_iff_lt, Nat.zero_add, Nat.add_zero, n_neg1, n_neg4, if_true, if_false, ite_true, ite_false, n_land1, not_true_eq_false, not_false_eq_true]
theorem ww_up_self {σ : ww_M} {k j : Nat} {v : Int32} (h : σ k j = v) : ww_up σ k j v = σ := by
  funext a b
  by_cases c : a = k
  · subst c
    rw [ww_up_eq]
    by_cases c2 : b = j
    · subst c2; rw [pk_us]; exact h.symm
    · rw [pk_un c2]
  · rw [ww_up_ne c]
theorem ww_up_twice (σ : ww_M) (k j : Nat) (v w : Int32) : ww_up (ww_up σ k j v) k j w = ww_up σ k j w := by
  funext a b
  by_cases c : a = k
  · subst c; rw [ww_up_eq, ww_up_eq, ww_up_eq, fa_upd_twice]
  · rw [ww_up_ne c, ww_up_ne c, ww_up_ne c]
theorem ww_un_self {f : Nat → Nat} {i : Nat} (n : Nat) : ww_un (ww_un f i n) i (f i) = f := by
  funext j
  unfold ww_un
  by_cases c : j = i
  · subst c; simp
  · simp [c]
theorem ww_un_twice {f : Nat → Nat} {i : Nat} (n m : Nat) : ww_un (ww_un f i n) i m = ww_un f i m := by
  funext j
  unfold ww_un
  by_cases c : j = i <;> simp [c]
theorem ww_okD_own {s : ww_S} {d : ww_D1} {i x : Nat} (hd : ww_okD s d) (hx : x ≤ 3) : ww_okD s (dsOwn d (ww_un (dOwn d) i x)) := by
  obtain ⟨d1, d2, d3, d4, d5, d6, d7, d8, d9⟩ := hd
  refine ⟨d1, d2, d3, d4, d5, d6, fun j hj => ⟨?_, (d7 j hj).2⟩, d8, d9⟩
  show ww_un (dOwn d) i x j ≤ 3
  unfold ww_un
  split
  · exact hx
  · exact (d7 j hj).1
theorem st_whose {k : Nat} {σ : ww_M} {s : ww_S} {d : ww_D1} (hk : k < 64) (h : ww_Rel k σ s d) (p1 : Int32) : ∃ (v : Int32) (σ1 : ww_M) (σ2 : ww_M) (s2 : ww_S) (d2 : ww_D1), f_X6_whose σ p1 = some (v, σ1) ∧ f_X7_whose σ1 62 p1 = some (v, σ2) ∧ ww_Rel (k + 1) σ2 s2 d2 := by
  have h0 := h
  obtain ⟨r1, ⟨hd, e1, e2⟩, hC, hM, hD, -, -, ⟨n, t1, t2, t3, t4⟩, -⟩ := h
  have hnp := r1.1
  unfold f_X6_whose
  rw [sp_hasPlace hC]
  simp only [Option.bind_some, ww_b01]
  rcases ww_rng p1 (n := sNp s) (by omega) with ⟨i, hi, rfl, c⟩ | c
  · have hcc : ¬ ¬ (0 ≤ nI i ∧ nI i ≤ nI (sNp s) - 1) := fun q => q c
    have hown : σ 5 i = nI (dOwn d i) := (hC.2.2.1 i hi).1
    have hm := (hD.2.2.1 i hi).1
    rw [Nat.zero_add] at hm
    refine ⟨nI (ww_bits (fun x => ww_exB s (dsOwn d (ww_un (dOwn d) i x)) (dLaw d) n (σ 46) (σ 47)) 4), σ, σ, s, d, ?_, ?_, ww_Rel_up h0⟩
    · rw [if_neg hcc, ww_ck_t (ww_in_n (by omega) (by omega)), ww_ix_n (by omega), show σ (4 + 1) i = nI (dOwn d i) from hown]
      unfold f_X6_whose_j28 f_X6_whose_j79
      have key := ww_it_inv (f := f_X6_whose_b28 (nI i) (nI (dOwn d i))) (fun j x => ∃ y, x = (nI (ww_bits (fun x => ww_exB s (dsOwn d (ww_un (dOwn d) i x)) (dLaw d) n (σ 46) (σ 47)) j), nI j, ww_up σ 5 i y)) (fun r => ∃ y, r = (nI (ww_bits (fun x => ww_exB s (dsOwn d (ww_un (dOwn d) i x)) (dLaw d) n (σ 46) (σ 47)) 4), ww_up σ 5 i y)) 4 (by omega) (x0 := (0, 0, σ)) ⟨nI (dOwn d i), by rw [ww_up_self hown]; rfl⟩ (fun j hj x hx => ?_) (fun x hx => ?_)
      · obtain ⟨r, g1, y, rfl⟩ := key
        rw [g1]
        simp only [Option.bind_some]
        rw [ww_ck_t (ww_in_n (by omega) (by omega)), ww_ix_n (by omega)]
        simp only [show (4 + 1 : Nat) = 5 from rfl, show (62 + 1 : Nat) = 63 from rfl]
        rw [ww_up_twice, ww_up_self hown]
      · obtain ⟨y, rfl⟩ := hx
        refine Or.inl ⟨_, ?_, nI j, rfl⟩
        have hmem : ww_up (ww_up σ 5 i y) 5 i (nI j) = ww_up σ 5 i (nI j) := ww_up_twice _ _ _ _ _
        unfold f_X6_whose_b28
        simp only [show (4 + 1 : Nat) = 5 from rfl, ww_ix_n (show i < 2147483648 by omega), hmem]
        have hcl : ww_ClsA (ww_up σ 5 i (nI j)) 4 s (dsOwn d (ww_un (dOwn d) i j)) := uc_own r1 hC j
        have hlaw : ww_up σ 5 i (nI j) 4 12 = nI (dLaw d) := by rw [ww_up_ne (by decide)]; exact hC.2.1.1
        have hex := sp_explained (σ := ww_up σ 5 i (nI j)) (law := dLaw d) (n := n) ⟨r1, ww_okD_own hd (by omega), hcl⟩ hd.1 t1 (by rw [ww_up_ne (by decide)]; exact t2)
        rw [ww_up_ne (show (46 : Nat) ≠ 5 by decide), ww_up_ne (show (47 : Nat) ≠ 5 by decide)] at hex
        rw [hlaw, hex, ww_shl1 (by omega), fa_or]
        simp (disch := omega) only [n_lit, n_le, n_lt, n_eq, n_in, n_ckt, n_ix, n_mul, n_add, n_sub, n_div, n_rem, n_b01, n_isb, n_lt0, n_le0, Option.bind_some, if_pos, if_neg, ge_iff_le, gt_iff_lt, Nat.zero_add, Nat.add_zero, n_neg1, n_neg4, if_true, if_false, ite_true, ite_false, n_land1, not_true_eq_false, not_false_eq_true]
        have e := bt_or (fun x => ww_exB s (dsOwn d (ww_un (dOwn d) i x)) (dLaw d) n (σ 46) (σ 47)) j
        rw [← e]
        cases ww_exB s (dsOwn d (ww_un (dOwn d) i j)) (dLaw d) n (σ 46) (σ 47) <;> simp
      · obtain ⟨y, rfl⟩ := hx
        refine ⟨_, ?_, y, rfl⟩
        unfold f_X6_whose_b28
        simp (disch := omega) only [n_lit, n_le, n_lt, n_eq, n_in, n_ckt, n_ix, n_mul, n_add, n_sub, n_div, n_rem, n_b01, n_isb, n_lt0, n_le0, Option.bind_some, if_pos, if_neg, ge_iff_le, gt_iff_lt, Nat.zero_add, Nat.add_zero, n_neg1, n_neg4, if_true, if_false, ite_true, ite_false, n_land1, not_true_eq_false, not_false_eq_true]
    · unfold f_X7_whose
      rw [sp_isPlace hM]
      simp only [Option.bind_some, ww_b01]
      rw [if_neg hcc, show (2 : Int32) * nI i = nI (2 * i) from pk_mul 2 i, ww_ck_t (ww_in_n (by omega) (by omega)), ww_ix_n (by omega), show σ (62 + 1) (2 * i) = nI (dOwn d i) from hm]
      unfold f_X7_whose_j24 f_X7_whose_j71
      have key := ww_it_inv (f := f_X7_whose_b24 62 (nI i) (nI (dOwn d i))) (fun j x => ∃ y, x = (nI (ww_bits (fun x => ww_exB s (dsOwn d (ww_un (dOwn d) i x)) (dLaw d) n (σ 46) (σ 47)) j), nI j, ww_up σ 63 (2 * i) y)) (fun r => ∃ y, r = (nI (ww_bits (fun x => ww_exB s (dsOwn d (ww_un (dOwn d) i x)) (dLaw d) n (σ 46) (σ 47)) 4), ww_up σ 63 (2 * i) y)) 4 (by omega) (x0 := (0, 0, σ)) ⟨nI (dOwn d i), by rw [ww_up_self hm]; rfl⟩ (fun j hj x hx => ?_) (fun x hx => ?_)
      · obtain ⟨r, g1, y, rfl⟩ := key
        rw [g1]
        simp only [Option.bind_some]
        rw [show (2 : Int32) * nI i = nI (2 * i) from pk_mul 2 i, ww_ck_t (ww_in_n (by omega) (by omega)), ww_ix_n (by omega)]
        simp only [show (4 + 1 : Nat) = 5 from rfl, show (62 + 1 : Nat) = 63 from rfl]
        rw [ww_up_twice, ww_up_self hm]
      · obtain ⟨y, rfl⟩ := hx
        refine Or.inl ⟨_, ?_, nI j, rfl⟩
        have hmem : ww_up (ww_up σ 63 (2 * i) y) 63 (2 * i) (nI j) = ww_up σ 63 (2 * i) (nI j) := ww_up_twice _ _ _ _ _
        unfold f_X7_whose_b24
        simp only [show (62 + 1 : Nat) = 63 from rfl, show (2 : Int32) * nI i = nI (2 * i) from pk_mul 2 i, ww_ix_n (show 2 * i < 2147483648 by omega), hmem]
        have hcl : ww_ModD (ww_up σ 63 (2 * i) (nI j) 63) 0 s (dsOwn d (ww_un (dOwn d) i j)) := by
          rw [ww_up_eq]
          have := um_own (pg := 0) r1 hD j hi
          rw [Nat.zero_add] at this
          exact this
        have hlaw : ww_up σ 63 (2 * i) (nI j) 63 12 = nI (dLaw d) := hcl.1.1
        have hMS : ww_MS (ww_up σ 63 (2 * i) (nI j)) s := by
          unfold ww_MS
          rw [ww_up_ne (by decide), ww_up_ne (by decide), ww_up_ne (by decide)]; exact hM
        have hex := sm_explains (σ := ww_up σ 63 (2 * i) (nI j)) (law := dLaw d) (n := n) (fo := σ 46) (fw := σ 47) ⟨r1, ww_okD_own hd (by omega), hMS, hcl⟩ hd.1 t1 (by rw [ww_up_ne (by decide)]; exact t3) (fun x hx => by rw [ww_up_ne (by decide)]; exact t4 x hx)
        rw [hlaw, hex, ww_shl1 (by omega), fa_or, show nI (ww_bits (fun x => ww_exB s (dsOwn d (ww_un (dOwn d) i x)) (dLaw d) n (σ 46) (σ 47)) j) ||| 0 = nI (ww_bits (fun x => ww_exB s (dsOwn d (ww_un (dOwn d) i x)) (dLaw d) n (σ 46) (σ 47)) j ||| 0) from fa_or _ 0]
        simp (disch := omega) only [n_lit, n_le, n_lt, n_eq, n_in, n_ckt, n_ix, n_mul, n_add, n_sub, n_div, n_rem, n_b01, n_isb, n_lt0, n_le0, Option.bind_some, if_pos, if_neg, ge_iff_le, gt_iff_lt, Nat.zero_add, Nat.add_zero, n_neg1, n_neg4, if_true, if_false, ite_true, ite_false, n_land1, not_true_eq_false, not_false_eq_true]
        have e := bt_or (fun x => ww_exB s (dsOwn d (ww_un (dOwn d) i x)) (dLaw d) n (σ 46) (σ 47)) j
        rw [← e]
        cases ww_exB s (dsOwn d (ww_un (dOwn d) i j)) (dLaw d) n (σ 46) (σ 47) <;> simp
      · obtain ⟨y, rfl⟩ := hx
        refine ⟨_, ?_, y, rfl⟩
        unfold f_X7_whose_b24
        simp (disch := omega) only [n_lit, n_le, n_lt, n_eq, n_in, n_ckt, n_ix, n_mul, n_add, n_sub, n_div, n_rem, n_b01, n_isb, n_lt0, n_le0, Option.bind_some, if_pos, if_neg, ge_iff_le, gt_iff_lt, Nat.zero_add, Nat.add_zero, n_neg1, n_neg4, if_true, if_false, ite_true, ite_false, n_land1, not_true_eq_false, not_false_eq_true]
  · refine ⟨-1, σ, σ, s, d, by rw [if_pos c], ?_, ww_Rel_up h0⟩
    unfold f_X7_whose
    rw [sp_isPlace hM]
    simp only [Option.bind_some, ww_b01]
    rw [if_pos c]
