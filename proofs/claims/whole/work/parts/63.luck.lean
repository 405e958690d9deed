def ww_lk (d : ww_D1) (b : Nat) : Nat → Nat × Nat
  | 0 => (1, 1)
  | i + 1 => if 0 < dWk d b i ∧ dLost d b = false then ((ww_lk d b i).1 * 8, (ww_lk d b i).2 * (8 - dLu d b i)) else ww_lk d b i
theorem ww_lk_lost {d : ww_D1} {b : Nat} (h : dLost d b = true) : ∀ n, ww_lk d b n = (1, 1)
  | 0 => rfl
  | n + 1 => by simp [ww_lk, h, ww_lk_lost h n]
theorem ww_lk_ok {d : ww_D1} {b : Nat} : ∀ n, ∃ j, j ≤ n ∧ (ww_lk d b n).1 = 8 ^ j ∧ (ww_lk d b n).2 ≤ 8 ^ j
  | 0 => ⟨0, by omega, rfl, by simp [ww_lk]⟩
  | n + 1 => by
    obtain ⟨j, h1, h2, h3⟩ := ww_lk_ok (d := d) (b := b) n
    simp only [ww_lk]
    split
    · refine ⟨j + 1, by omega, by simp only [h2, Nat.pow_succ], ?_⟩
      rw [Nat.pow_succ]
      exact Nat.mul_le_mul h3 (by omega)
    · exact ⟨j, by omega, h2, h3⟩
theorem ww_lk_tab : ∀ j : Fin 4, ∀ w : Fin 513, w.val ≤ 8 ^ j.val → ∀ z : Fin 2, (f_X6_luck_j109 (fun _ _ => 0) 0 (nI z.val) (lN (8 ^ j.val)) (lN w.val)).isSome = true ∧ f_X7_luck_j111 (fun _ _ => 0) 0 0 (nI z.val) (lN w.val) (lN (8 ^ j.val)) = f_X6_luck_j109 (fun _ _ => 0) 0 (nI z.val) (lN (8 ^ j.val)) (lN w.val) := by decide +kernel
theorem ww_lk8 : ∀ l, l ≤ 8 → (nI (8 - l)).toInt64 = lN (8 - l) := by decide
theorem st_luck {k : Nat} {σ : ww_M} {s : ww_S} {d : ww_D1} (hk : k < 64) (h : ww_Rel k σ s d) (p1 p2 : Int32) : ∃ (v : Int64) (s2 : ww_S) (d2 : ww_D1), f_X6_luck σ p1 p2 = some v ∧ f_X7_luck σ 62 p1 p2 = some v ∧ ww_Rel (k + 1) σ s2 d2 := by
  have h0 := ww_Rel_up h
  obtain ⟨r1, ⟨hd, -⟩, hC, hM, hD, -⟩ := h
  have hnb := r1.2.2.2.1
  unfold f_X6_luck f_X7_luck
  rw [sp_hasBeast hC, sp_isBeast hM]
  simp only [ww_within, Option.bind_some, ww_b01, ww_inI (a := 0) (b := 1) 0 1 rfl rfl]
  rcases ww_rng p1 (n := sNb s) (by omega) with ⟨b, hb, rfl, c⟩ | c
  · have hcc : ¬ ¬ (0 ≤ nI b ∧ nI b ≤ nI (sNb s) - 1) := fun q => q c
    simp only [if_neg hcc]
    by_cases c2 : 0 ≤ p2 ∧ p2 ≤ 1
    · obtain ⟨z, -, hz, rfl⟩ := ww_btw (a := 0) (b := 1) (by omega) c2 (by omega)
      have hc2 : ¬ ¬ (0 ≤ nI z ∧ nI z ≤ 1) := fun q => q c2
      simp only [if_neg hc2]
      have h6 := r1.2.2.2.2.2.1 b hb
      have kC : ww_it (f_X6_luck_b32 σ (nI b) (nI z)) ww_F (1, 1, 0) = some (lN (ww_lk d b (sPt s b)).1, lN (ww_lk d b (sPt s b)).2) := by
        refine ww_it_for (f := f_X6_luck_b32 σ (nI b) (nI z)) (fun i => (lN (ww_lk d b i).1, lN (ww_lk d b i).2, nI i)) (sPt s b) (by omega) (fun i hi => ?_) ?_
        · unfold f_X6_luck_b32
          obtain ⟨e6, e7, e8⟩ := hC.2.2.2.2.2.1 _ hb _ hi
          obtain ⟨l6, l7, l8⟩ := hd.2.2.2.2.2.2.2.1 _ hb _ hi
          rw [Nat.mul_comm] at e7 e8
          simp only [ww_lk, show σ (4 + 5) = σ 9 from rfl, show σ (4 + 7) = σ 11 from rfl, show σ (4 + 8) = σ 12 from rfl]
          rw [sp_isLost hC (by omega)]
          have hl8 := ww_lk8 _ l8
          simp (disch := omega) only [n_lit, n_le, n_lt, n_eq, n_in, n_ckt, n_ix, n_mul, n_add, n_sub, n_div, n_rem, n_b01, n_isb, n_lt0, n_le0, Option.bind_some, if_pos, if_neg, ge_iff_le, gt_iff_lt, Nat.zero_add, Nat.add_zero, n_neg1, n_neg4, if_true, if_false, ite_true, ite_false, n_land1, not_true_eq_false, not_false_eq_true, show σ 9 b = nI (sPt s b) from (hC.2.2.2.2.1 b hb).2, show σ 11 (b * 3 + i) = nI (dWk d b i) from e7, show σ 12 (b * 3 + i) = nI (dLu d b i) from e8, hl8]
          cases hl : dLost d b
          · by_cases w : 0 < dWk d b i
            · simp only [if_neg (show ¬ dWk d b i ≤ 0 by omega), if_pos rfl, w, and_self, if_true]
              rw [lN_mul, show lN (ww_lk d b i).1 * 8 = lN ((ww_lk d b i).1 * 8) from lN_mul _ 8]
              simp
            · simp [w, show dWk d b i ≤ 0 by omega]
          · by_cases w : 0 < dWk d b i
            · simp [show ¬ dWk d b i ≤ 0 by omega, show ¬ nI 1 = nI 0 by decide]
            · simp [w, show dWk d b i ≤ 0 by omega]
        · unfold f_X6_luck_b32
          simp only [show σ (4 + 5) = σ 9 from rfl]
          simp (disch := omega) only [n_lit, n_le, n_lt, n_eq, n_in, n_ckt, n_ix, n_mul, n_add, n_sub, n_div, n_rem, n_b01, n_isb, n_lt0, n_le0, Option.bind_some, if_pos, if_neg, ge_iff_le, gt_iff_lt, Nat.zero_add, Nat.add_zero, n_neg1, n_neg4, if_true, if_false, ite_true, ite_false, n_land1, not_true_eq_false, not_false_eq_true, show σ 9 b = nI (sPt s b) from (hC.2.2.2.2.1 b hb).2]
      have kM : ww_it (f_X7_luck_b30 σ 62 (nI b) (nI z)) ww_F (1, 1, 0) = some (lN (ww_lk d b (sPt s b)).2, lN (ww_lk d b (sPt s b)).1) := by
        cases hl : dLost d b
        · refine ww_it_for (f := f_X7_luck_b30 σ 62 (nI b) (nI z)) (fun i => (lN (ww_lk d b i).2, lN (ww_lk d b i).1, nI i)) (sPt s b) (by omega) (fun i hi => ?_) ?_
          · unfold f_X7_luck_b30
            obtain ⟨e6, e7, e8⟩ := hD.2.2.2.1 _ hb _ hi
            obtain ⟨l6, l7, l8⟩ := hd.2.2.2.2.2.2.2.1 _ hb _ hi
            rw [Nat.zero_add] at e7 e8
            simp only [ww_lk, show σ (62 + 1) = σ 63 from rfl, show σ (62 + 3) = σ 65 from rfl]
            have hl8 := ww_lk8 _ l8
            have hlo := sm_lost hD (show b < 3 by omega)
            rw [hl] at hlo
            simp (disch := omega) only [n_lit, n_le, n_lt, n_eq, n_in, n_ckt, n_ix, n_mul, n_add, n_sub, n_div, n_rem, n_b01, n_isb, n_lt0, n_le0, Option.bind_some, if_pos, if_neg, ge_iff_le, gt_iff_lt, Nat.zero_add, Nat.add_zero, n_neg1, n_neg4, if_true, if_false, ite_true, ite_false, n_land1, not_true_eq_false, not_false_eq_true, (hM.2.2.2.2 b hb).2, sp_partAt (show b < 3 by omega) (show i < 3 by omega), e7, e8, hl8, hlo]
            by_cases w : 0 < dWk d b i
            · simp only [if_neg (show ¬ dWk d b i ≤ 0 by omega), hl, w, and_self, if_true]
              rw [lN_mul, show lN (ww_lk d b i).1 * 8 = lN ((ww_lk d b i).1 * 8) from lN_mul _ 8]
              simp
            · simp [w, show dWk d b i ≤ 0 by omega]
          · unfold f_X7_luck_b30
            simp only [show σ (62 + 3) = σ 65 from rfl]
            simp (disch := omega) only [n_lit, n_le, n_lt, n_eq, n_in, n_ckt, n_ix, n_mul, n_add, n_sub, n_div, n_rem, n_b01, n_isb, n_lt0, n_le0, Option.bind_some, if_pos, if_neg, ge_iff_le, gt_iff_lt, Nat.zero_add, Nat.add_zero, n_neg1, n_neg4, if_true, if_false, ite_true, ite_false, n_land1, not_true_eq_false, not_false_eq_true, (hM.2.2.2.2 b hb).2]
        · rw [ww_lk_lost hl]
          refine ww_it_for (f := f_X7_luck_b30 σ 62 (nI b) (nI z)) (fun i => ((1 : Int64), (1 : Int64), (0 : Int32))) 0 (by omega) (fun i hi => by omega) ?_
          unfold f_X7_luck_b30
          simp only [show σ (62 + 1) = σ 63 from rfl, show σ (62 + 3) = σ 65 from rfl]
          have hlo := sm_lost hD (show b < 3 by omega)
          rw [hl] at hlo
          simp (disch := omega) only [n_lit, n_le, n_lt, n_eq, n_in, n_ckt, n_ix, n_mul, n_add, n_sub, n_div, n_rem, n_b01, n_isb, n_lt0, n_le0, Option.bind_some, if_pos, if_neg, ge_iff_le, gt_iff_lt, Nat.zero_add, Nat.add_zero, n_neg1, n_neg4, if_true, if_false, ite_true, ite_false, n_land1, not_true_eq_false, not_false_eq_true, (hM.2.2.2.2 b hb).2, hlo]
          simp [show ¬ nI 1 = nI 0 by decide]
          rfl
      unfold f_X6_luck_j32 f_X7_luck_j30
      rw [kC, kM]
      simp only [Option.bind_some]
      obtain ⟨j, j1, j2, j3⟩ := ww_lk_ok (d := d) (b := b) (sPt s b)
      have j8 : 8 ^ j ≤ 8 ^ 3 := Nat.pow_le_pow_right (by omega) (by omega)
      obtain ⟨t1, t2⟩ := ww_lk_tab ⟨j, by omega⟩ ⟨(ww_lk d b (sPt s b)).2, by omega⟩ j3 ⟨z, by omega⟩
      rw [j2]
      obtain ⟨v, hv⟩ := Option.isSome_iff_exists.mp t1
      exact ⟨v, s, d, hv, t2.trans hv, h0⟩
    · simp only [if_pos c2]
      exact ⟨_, s, d, rfl, rfl, h0⟩
  · simp only [if_pos c]
    exact ⟨_, s, d, rfl, rfl, h0⟩
