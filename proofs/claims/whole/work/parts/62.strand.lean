def ww_bd (a n : Nat) : Nat := (2 ^ n - 1) * 2 ^ a
theorem ww_bd_lt {a n : Nat} (ha : a ≤ 6) (hn : n ≤ 3) : ww_bd a n < 2147483648 := by
  have p2 : 2 ^ n ≤ 2 ^ 3 := Nat.pow_le_pow_right (by omega) (by omega)
  have p3 : 2 ^ a ≤ 2 ^ 6 := Nat.pow_le_pow_right (by omega) (by omega)
  unfold ww_bd
  calc (2 ^ n - 1) * 2 ^ a ≤ 7 * 64 := Nat.mul_le_mul (by omega) p3
    _ < 2147483648 := by decide
theorem ww_bdI {a n : Nat} (ha : a ≤ 6) (hn : n ≤ 3) : ww_shl (ww_shl 1 (nI n) - 1) (nI a) = nI (ww_bd a n) := by
  have p1 : 1 ≤ 2 ^ n := Nat.one_le_two_pow
  have := ww_bd_lt ha hn
  unfold ww_bd at this
  rw [ww_shl1 (by omega), show nI (2 ^ n) - 1 = nI (2 ^ n - 1) from pk_sub (b := 1) p1, ww_shlN (by omega) (by omega)]
  rfl
def ww_tk (s : ww_S) (d : ww_D1) : Nat → Nat
  | 0 => 0
  | b + 1 => ww_tk s d b ||| (if dLost d b then 0 else ww_bd (sHd s b) (sPt s b))
theorem sp_taken {σ : ww_M} {o : Nat} {s : ww_S} {d : ww_D1} (h : ww_CL1 σ o s d) : f_X2_takenPlaces σ o = some (nI (ww_tk s d (sNb s))) := by
  obtain ⟨hs, hd, hC⟩ := h
  have hnb := hs.2.2.2.1
  unfold f_X2_takenPlaces f_X2_takenPlaces_j4 f_X2_takenPlaces_j34
  have key := ww_it_for (f := f_X2_takenPlaces_b4 σ o) (fun i => (nI (ww_tk s d i), nI i)) (sNb s) (r := nI (ww_tk s d (sNb s))) (by omega) (fun i hi => ?_) ?_
  · exact Option.bind_eq_some_iff.mpr ⟨_, key, rfl⟩
  · unfold f_X2_takenPlaces_b4
    simp only [ww_tk]
    rw [sp_isLost hC (by omega), sp_bodyOf hs hC hi]
    simp (disch := omega) only [n_lit, n_le, n_lt, n_eq, n_in, n_ckt, n_ix, n_mul, n_add, n_sub, n_div, n_rem, n_b01, n_isb, n_lt0, n_le0, Option.bind_some, if_pos, if_neg, ge_iff_le, gt_iff_lt, Nat.zero_add, Nat.add_zero, n_neg1, n_neg4, if_true, if_false, ite_true, ite_false, n_land1, not_true_eq_false, not_false_eq_true, hC.1.2.2, fa_or]
    cases dLost d i
    · simp; rfl
    · simp
  · unfold f_X2_takenPlaces_b4
    simp (disch := omega) only [n_lit, n_le, n_lt, n_eq, n_in, n_ckt, n_ix, n_mul, n_add, n_sub, n_div, n_rem, n_b01, n_isb, n_lt0, n_le0, Option.bind_some, if_pos, if_neg, ge_iff_le, gt_iff_lt, Nat.zero_add, Nat.add_zero, n_neg1, n_neg4, if_true, if_false, ite_true, ite_false, n_land1, not_true_eq_false, not_false_eq_true, hC.1.2.2]
def ww_str (s : ww_S) (d : ww_D1) (n h i : Nat) : Bool := ww_flA s d i n h && !ww_flA s d i n (h + 1) && decide (ww_tk s d (sNb s) &&& ww_bd i n = 0)
theorem st_strand {k : Nat} {σ : ww_M} {s : ww_S} {d : ww_D1} (hk : k < 64) (h : ww_Rel k σ s d) (p1 p2 : Int32) : ∃ (v : Int32) (s2 : ww_S) (d2 : ww_D1), f_X6_strand σ p1 p2 = some v ∧ f_X7_strand σ 62 p1 p2 = some v ∧ ww_Rel (k + 1) σ s2 d2 := by
  have h0 := ww_Rel_up h
  obtain ⟨r1, ⟨hd, -⟩, hC, hM, hD, -⟩ := h
  have hnp := r1.1
  have hnb := r1.2.2.2.1
  unfold f_X6_strand f_X7_strand
  simp only [ww_within, Option.bind_some, ww_b01, ww_inI (a := 1) (b := 3) 1 3 rfl rfl, ww_inI (a := 0) (b := 998) 0 998 rfl rfl]
  by_cases c : 1 ≤ p1 ∧ p1 ≤ 3
  · obtain ⟨n, hn1, hn, rfl⟩ := ww_btw (a := 1) (b := 3) (by omega) c (by omega)
    have hcc : ¬ ¬ (1 ≤ nI n ∧ nI n ≤ 3) := fun q => q c
    simp only [if_neg hcc]
    by_cases c2 : 0 ≤ p2 ∧ p2 ≤ 998
    · obtain ⟨t, -, ht, rfl⟩ := ww_btw (a := 0) (b := 998) (by omega) c2 (by omega)
      have hc2 : ¬ ¬ (0 ≤ nI t ∧ nI t ≤ 998) := fun q => q c2
      simp only [if_neg hc2, nI_1]
      rw [sp_wetPlaces r1 hd hC (by omega), sp_wetPlaces r1 hd hC (by omega), sp_taken ⟨r1, hd, hC⟩]
      simp only [Option.bind_some]
      have hm : ∃ m, m ≤ 6 ∧ (∀ i, i < m → i + n ≤ sNp s) ∧ sNp s < m + n := ⟨sNp s + 1 - n, by omega, fun i hi => by omega, by omega⟩
      obtain ⟨m, hm1, hm2, hm3⟩ := hm
      refine ⟨nI (ww_bits (ww_str s d n t) m), s, d, ?_, ?_, h0⟩
      · unfold f_X6_strand_j58 f_X6_strand_j146
        have key := ww_it_for (f := f_X6_strand_b58 σ (nI n) (nI t) (nI (ww_bits (fun i => ww_wet s d i t) (sNp s))) (nI (ww_bits (fun i => ww_wet s d i (t + 1)) (sNp s))) (nI (ww_tk s d (sNb s)))) (fun i => (nI (ww_bits (ww_str s d n t) i), nI i)) m (r := nI (ww_bits (ww_str s d n t) m)) (by omega) (fun i hi => ?_) ?_
        · exact Option.bind_eq_some_iff.mpr ⟨_, key, rfl⟩
        · have hin := hm2 i hi
          have hB := ww_bd_lt (a := i) (n := n) (by omega) (by omega)
          unfold f_X6_strand_b58 f_X6_bodyAt f_X6_strand_j94 f_X6_strand_j111
          simp only [ww_bdI (show i ≤ 6 by omega) (show n ≤ 3 by omega), Option.bind_some, fa_and, ww_shl1 (show i < 31 by omega), fa_or]
          have q1 := bt_float (s := s) (d := d) (a := i) (n := n) (h := t) (N := sNp s) (by omega)
          have q2 := bt_float (s := s) (d := d) (a := i) (n := n) (h := t + 1) (N := sNp s) (by omega)
          have l1 : ww_bits (fun i => ww_wet s d i t) (sNp s) &&& ww_bd i n < 2147483648 := Nat.lt_of_le_of_lt Nat.and_le_right hB
          have l2 : ww_bits (fun i => ww_wet s d i (t + 1)) (sNp s) &&& ww_bd i n < 2147483648 := Nat.lt_of_le_of_lt Nat.and_le_right hB
          have l3 : ww_tk s d (sNb s) &&& ww_bd i n < 2147483648 := Nat.lt_of_le_of_lt Nat.and_le_right hB
          have q1' : (ww_bits (fun i => ww_wet s d i t) (sNp s) &&& ww_bd i n = ww_bd i n) = (ww_flA s d i n t = true) := propext q1
          have q2' : (ww_bits (fun i => ww_wet s d i (t + 1)) (sNp s) &&& ww_bd i n = ww_bd i n) = (ww_flA s d i n (t + 1) = true) := propext q2
          simp (disch := omega) only [n_lit, n_le, n_lt, n_eq, n_in, n_ckt, n_ix, n_mul, n_add, n_sub, n_div, n_rem, n_b01, n_isb, n_lt0, n_le0, Option.bind_some, if_pos, if_neg, ge_iff_le, gt_iff_lt, Nat.zero_add, Nat.add_zero, n_neg1, n_neg4, if_true, if_false, ite_true, ite_false, n_land1, not_true_eq_false, not_false_eq_true, hC.1.1, q1', q2']
          have e := bt_or (ww_str s d n t) i
          rw [← e]
          unfold ww_str
          cases ww_flA s d i n t
          · simp
          · cases ww_flA s d i n (t + 1)
            · by_cases z : ww_tk s d (sNb s) &&& ww_bd i n = 0 <;> simp [z, show ¬ nI 1 = nI 0 by decide]
            · simp [show ¬ nI 1 = nI 0 by decide]
        · unfold f_X6_strand_b58
          simp (disch := omega) only [n_lit, n_le, n_lt, n_eq, n_in, n_ckt, n_ix, n_mul, n_add, n_sub, n_div, n_rem, n_b01, n_isb, n_lt0, n_le0, Option.bind_some, if_pos, if_neg, ge_iff_le, gt_iff_lt, Nat.zero_add, Nat.add_zero, n_neg1, n_neg4, if_true, if_false, ite_true, ite_false, n_land1, not_true_eq_false, not_false_eq_true, hC.1.1]
      · unfold f_X7_strand_j31 f_X7_strand_j92 f_X7_strand_j98 f_X7_strand_j177
        have key1 := ww_it_for (f := f_X7_strand_b31 σ 62 (nI n) (nI t)) (fun i => (nI (ww_tk s d i), nI i)) (sNb s) (r := nI (ww_tk s d (sNb s))) (by omega) (fun i hi => ?_) ?_
        · have key := ww_it_for (f := f_X7_strand_b98 σ 62 (nI n) (nI t) (nI (ww_tk s d (sNb s)))) (fun i => (nI (ww_bits (ww_str s d n t) i), nI i)) m (r := nI (ww_bits (ww_str s d n t) m)) (by omega) (fun i hi => ?_) ?_
          · exact Option.bind_eq_some_iff.mpr ⟨_, key1, Option.bind_eq_some_iff.mpr ⟨_, key, rfl⟩⟩
          · have hin := hm2 i hi
            have hB := ww_bd_lt (a := i) (n := n) (by omega) (by omega)
            have l3 : ww_tk s d (sNb s) &&& ww_bd i n < 2147483648 := Nat.lt_of_le_of_lt Nat.and_le_right hB
            unfold f_X7_strand_b98 f_X7_strand_j150 f_X7_strand_j151
            simp only [ww_bdI (show i ≤ 6 by omega) (show n ≤ 3 by omega), fa_and, ww_shl1 (show i < 31 by omega), fa_or, nI_1]
            rw [sm_floatsIn r1 hd hM hD (by omega) (by omega), sm_floatsIn r1 hd hM hD (by omega) (by omega)]
            simp (disch := omega) only [n_lit, n_le, n_lt, n_eq, n_in, n_ckt, n_ix, n_mul, n_add, n_sub, n_div, n_rem, n_b01, n_isb, n_lt0, n_le0, Option.bind_some, if_pos, if_neg, ge_iff_le, gt_iff_lt, Nat.zero_add, Nat.add_zero, n_neg1, n_neg4, if_true, if_false, ite_true, ite_false, n_land1, not_true_eq_false, not_false_eq_true, hM.1, fa_or]
            have e := bt_or (ww_str s d n t) i
            rw [← e]
            unfold ww_str
            cases ww_flA s d i n t
            · simp
            · cases ww_flA s d i n (t + 1)
              · by_cases z : ww_tk s d (sNb s) &&& ww_bd i n = 0 <;> simp [z, show ¬ nI 1 = nI 0 by decide]
              · simp [show ¬ nI 1 = nI 0 by decide]
          · unfold f_X7_strand_b98
            simp (disch := omega) only [n_lit, n_le, n_lt, n_eq, n_in, n_ckt, n_ix, n_mul, n_add, n_sub, n_div, n_rem, n_b01, n_isb, n_lt0, n_le0, Option.bind_some, if_pos, if_neg, ge_iff_le, gt_iff_lt, Nat.zero_add, Nat.add_zero, n_neg1, n_neg4, if_true, if_false, ite_true, ite_false, n_land1, not_true_eq_false, not_false_eq_true, hM.1]
        · have h6 := r1.2.2.2.2.2.1 i hi
          unfold f_X7_strand_b31
          simp only [show σ (62 + 1) = σ 63 from rfl, show σ (62 + 3) = σ 65 from rfl, ww_tk]
          have hb := ww_bdI (a := sHd s i) (n := sPt s i) (by omega) (by omega)
          rw [show (1 : Int32) = nI 1 from rfl] at hb
          simp (disch := omega) only [n_lit, n_le, n_lt, n_eq, n_in, n_ckt, n_ix, n_mul, n_add, n_sub, n_div, n_rem, n_b01, n_isb, n_lt0, n_le0, Option.bind_some, if_pos, if_neg, ge_iff_le, gt_iff_lt, Nat.zero_add, Nat.add_zero, n_neg1, n_neg4, if_true, if_false, ite_true, ite_false, n_land1, not_true_eq_false, not_false_eq_true, hM.2.2.1, (hM.2.2.2.2 i hi).1, (hM.2.2.2.2 i hi).2, hb, fa_or]
          rw [sm_lost hD (by omega)]
          cases dLost d i
          · simp [show ¬ (0 : Int32) = nI 1 by decide]
          · simp [show (1 : Int32) = nI 1 from rfl]
        · unfold f_X7_strand_b31
          simp (disch := omega) only [n_lit, n_le, n_lt, n_eq, n_in, n_ckt, n_ix, n_mul, n_add, n_sub, n_div, n_rem, n_b01, n_isb, n_lt0, n_le0, Option.bind_some, if_pos, if_neg, ge_iff_le, gt_iff_lt, Nat.zero_add, Nat.add_zero, n_neg1, n_neg4, if_true, if_false, ite_true, ite_false, n_land1, not_true_eq_false, not_false_eq_true, hM.2.2.1]
    · simp only [if_pos c2]
      exact ⟨_, s, d, rfl, rfl, h0⟩
  · simp only [if_pos c]
    exact ⟨_, s, d, rfl, rfl, h0⟩
