/-! ===== the model: choices, what is won by one ===== -/
theorem sm_choice {τ : ww_M} {s : ww_S} {d : ww_D1} {N x y : Nat} (hM : ww_MO1 τ s d) (hN : τ 62 25 = nI N) (hN6 : N ≤ 6) (hx : x ≤ 100) (hy : y ≤ 6) : f_X7_choice τ 62 (nI (7 * x + y)) = some (if x ≤ N ∧ y ≤ N ∧ (y = N ∨ (x < y ∧ pl_two d = true)) then nI (x + 9 * y) else -1) := by
  have g14 : (τ 63 14 = nI 1) ↔ pl_two d = true := by
    have e : τ 63 14 = nI (dGng d) - 1 := hM.2.2.2.1.2.2.1
    have g1 := hM.2.1.2.2.2.1
    have g2 := hM.2.1.2.2.2.2.1
    rw [e]
    unfold pl_two
    rcases (show dGng d = 1 ∨ dGng d = 2 by omega) with e | e <;> rw [e] <;> decide
  have e1 : (7 * x + y) / 7 = x := by omega
  have e2 : (7 * x + y) % 7 = y := by omega
  unfold f_X7_choice f_X7_choice_j52 f_X7_choice_j56 f_X7_choice_j57
  simp only [hN, show τ (62 + 1) = τ 63 from rfl]
  simp (disch := omega) only [n_lit, n_le, n_lt, n_eq, n_in, n_ckt, n_ix, n_mul, n_add, n_sub, n_div, n_rem, n_b01, n_isb, n_lt0, n_le0, Option.bind_some, if_pos, if_neg, ge_iff_le, gt_iff_lt, Nat.zero_add, Nat.add_zero, n_neg1, n_neg4, if_true, if_false, ite_true, ite_false, n_land1, not_true_eq_false, not_false_eq_true, e1, e2]
  by_cases c1 : x ≤ N
  · rw [if_neg (show ¬ N < x by omega)]
    by_cases c2 : y ≤ N
    · rw [if_pos c2]
      by_cases c3 : y = N
      · rw [if_pos c3, if_pos ⟨c1, c2, Or.inl c3⟩]
      · rw [if_neg c3]
        by_cases c4 : x < y
        · rw [if_neg (show ¬ y ≤ x by omega)]
          by_cases c5 : τ 63 14 = nI 1
          · rw [if_pos c5, if_pos ⟨c1, c2, Or.inr ⟨c4, g14.mp c5⟩⟩]
          · rw [if_neg c5, if_neg (fun z => by
              rcases z.2.2 with q | q
              · exact c3 q
              · exact c5 (g14.mpr q.2))]
        · rw [if_pos (show y ≤ x by omega), if_neg (fun z => by
            rcases z.2.2 with q | q
            · exact c3 q
            · exact c4 q.1)]
    · rw [if_neg c2, if_neg (fun z => c2 z.2.1)]
  · rw [if_pos (show N < x by omega), if_neg (fun z => c1 z.1)]
theorem ww_2pow (k : Nat) : 2 ^ (2 * k) = 4 ^ k := by rw [Nat.pow_mul]
theorem sm_dig {c k : Nat} (hc : c < 4096) (hk : k < 6) : (ww_shr (nI c) (nI (2 * k)) &&& nI 3) = nI (c / 4 ^ k % 4) := by
  rw [ww_shrN (by omega) (by omega), ww_2pow]
  exact fa_mask _ 2
theorem sm_shl4 {k : Nat} (hk : k < 6) : ww_shl (nI 1) (nI (2 * k)) = nI (4 ^ k) := by
  have := ww_shl1 (i := 2 * k) (by omega)
  rw [ww_2pow] at this
  exact this
theorem ls_pow6 {k : Nat} (hk : k < 6) : 4 ^ k ≤ 1024 := by
  have := Nat.pow_le_pow_right (n := 4) (show 0 < 4 by omega) (show k ≤ 5 by omega)
  exact this
abbrev pm_B (τ : ww_M) (s : ww_S) (d : ww_D1) (rot wo n : Nat) : Prop := ww_MO1 τ s d ∧ pm_N τ (pl_q s wo) ∧ pm_A τ s d (pl_q s wo) n ∧ τ 62 28 = nI rot ∧ n ≤ 6 ∧ 1 ≤ rot ∧ rot ≤ 9
theorem sm_able {τ : ww_M} {s : ww_S} {d : ww_D1} {rot wo n h k : Nat} (hB : pm_B τ s d rot wo n) (hh : h < n) (hk : k < fb_ct (pl_q s wo) 9) : (ww_shr (τ 74 h) (nI k) &&& nI 1) = if pl_ab s d h (ls_sl (pl_q s wo) k) then nI 1 else nI 0 := by
  obtain ⟨hM, hN, hA, -⟩ := hB
  have h6 := pl_q6 hM.1 wo
  rw [hA h hh]
  have hl := bt_31 (fun j => pl_ab s d h (ls_sl (pl_q s wo) j)) h6
  have := ww_bit (a := ww_bits (fun j => pl_ab s d h (ls_sl (pl_q s wo) j)) (fb_ct (pl_q s wo) 9)) (i := k) (by omega) (by omega)
  rw [bt_test, decide_eq_true hk, Bool.true_and] at this
  exact this
theorem sm_bw_good {τ : ww_M} {s : ww_S} {d : ww_D1} {rot wo n h k c t w : Nat} {p3 p4 x8 : Int32} (hB : pm_B τ s d rot wo n) (hh : h < n) (hk : k ≤ fb_ct (pl_q s wo) 9) (hc : c < 4096) (hcan : k < fb_ct (pl_q s wo) 9 → pl_ab s d h (ls_sl (pl_q s wo) k) = true ∧ 0 < c / 4 ^ k % 4) (ht : k < fb_ct (pl_q s wo) 9 → 4 ^ k ≤ t) : f_X7_byWork_j29 τ 62 (nI h) (nI c) p3 p4 (nI t) (nI w) 1 x8 (nI k) = some (.inl (nI (ls_af (fb_ct (pl_q s wo) 9) t k), nI (w + (if k < fb_ct (pl_q s wo) 9 ∧ c / 4 ^ k % 4 = 1 then pl_g s d rot h (ls_sl (pl_q s wo) k) else 0)), 1, x8 + 1)) := by
  have hB0 := hB
  obtain ⟨hM, hN, hA, hr, hn, hr1, hr9⟩ := hB
  have h6 := pl_q6 hM.1 wo
  have hhr := hM.2.1.2.2.2.2.2.1
  have e45 : τ 63 45 = nI (dHr d) := hM.2.2.2.1.2.2.2
  unfold f_X7_byWork_j29 f_X7_byWork_j74 f_X7_byWork_j93 f_X7_digit ls_af
  simp only [hN.1, hr, show τ (62 + 10) = τ 72 from rfl, show τ (62 + 12) = τ 74 from rfl, show τ (62 + 1) = τ 63 from rfl, e45]
  by_cases e : k < fb_ct (pl_q s wo) 9
  · obtain ⟨c1, c2⟩ := hcan e
    have ha := sm_able hB0 hh e
    rw [c1, if_pos rfl] at ha
    obtain ⟨a1, a2, a3⟩ := ls_in e
    have a4 := (pl_q_iff.mp a2).1
    have hw := sm_worthIn hM a4 (h := dHr d + h) (by omega) hr1 hr9
    have e72 : τ 72 k = nI (10 * (ls_sl (pl_q s wo) k / 3) + ls_sl (pl_q s wo) k % 3) := hN.2 k e
    have hdl : c / 4 ^ k % 4 < 4 := Nat.mod_lt _ (by omega)
    have ht' := ht e
    simp (disch := omega) only [n_lit, n_le, n_lt, n_eq, n_in, n_ckt, n_ix, n_mul, n_add, n_sub, n_div, n_rem, n_b01, n_isb, n_lt0, n_le0, Option.bind_some, if_pos, if_neg, ge_iff_le, gt_iff_lt, Nat.zero_add, Nat.add_zero, n_neg1, n_neg4, if_true, if_false, ite_true, ite_false, n_land1, not_true_eq_false, not_false_eq_true, ha, sm_dig hc (show k < 6 by omega), sm_shl4 (show k < 6 by omega), e72, hw]
    by_cases e1 : c / 4 ^ k % 4 = 1
    · simp [e1, e, pl_g, a4]
    · simp [e1, e]
  · have e' : k = fb_ct (pl_q s wo) 9 := by omega
    simp (disch := omega) only [n_lit, n_le, n_lt, n_eq, n_in, n_ckt, n_ix, n_mul, n_add, n_sub, n_div, n_rem, n_b01, n_isb, n_lt0, n_le0, Option.bind_some, if_pos, if_neg, ge_iff_le, gt_iff_lt, Nat.zero_add, Nat.add_zero, n_neg1, n_neg4, if_true, if_false, ite_true, ite_false, n_land1, not_true_eq_false, not_false_eq_true]
theorem sm_bw_bad {τ : ww_M} {s : ww_S} {d : ww_D1} {rot wo n h k c : Nat} {t w p3 p4 x8 : Int32} (hB : pm_B τ s d rot wo n) (hh : h < n) (hc : c < 4096) (hk : k < fb_ct (pl_q s wo) 9) (hcan : ¬ (pl_ab s d h (ls_sl (pl_q s wo) k) = true ∧ 0 < c / 4 ^ k % 4)) : ∃ t' w', f_X7_byWork_j29 τ 62 (nI h) (nI c) p3 p4 t w 1 x8 (nI k) = some (.inl (t', w', 0, x8 + 1)) := by
  have hB0 := hB
  obtain ⟨hM, hN, hA, hr, hn, hr1, hr9⟩ := hB
  have h6 := pl_q6 hM.1 wo
  have hdl : c / 4 ^ k % 4 < 4 := Nat.mod_lt _ (by omega)
  have ha := sm_able hB0 hh hk
  refine ⟨t - 0, w + 0, ?_⟩
  unfold f_X7_byWork_j29 f_X7_byWork_j73 f_X7_byWork_j74 f_X7_byWork_j93 f_X7_digit
  simp only [hN.1, show τ (62 + 12) = τ 74 from rfl]
  cases c1 : pl_ab s d h (ls_sl (pl_q s wo) k)
  · rw [c1] at ha
    simp (disch := omega) only [n_lit, n_le, n_lt, n_eq, n_in, n_ckt, n_ix, n_mul, n_add, n_sub, n_div, n_rem, n_b01, n_isb, n_lt0, n_le0, Option.bind_some, if_pos, if_neg, ge_iff_le, gt_iff_lt, Nat.zero_add, Nat.add_zero, n_neg1, n_neg4, if_true, if_false, ite_true, ite_false, n_land1, not_true_eq_false, not_false_eq_true, ha]
    simp [show ¬ nI 0 = nI 1 by decide]
  · rw [c1, if_pos rfl] at ha
    have c2 : ¬ 0 < c / 4 ^ k % 4 := fun z => hcan ⟨c1, z⟩
    simp (disch := omega) only [n_lit, n_le, n_lt, n_eq, n_in, n_ckt, n_ix, n_mul, n_add, n_sub, n_div, n_rem, n_b01, n_isb, n_lt0, n_le0, Option.bind_some, if_pos, if_neg, ge_iff_le, gt_iff_lt, Nat.zero_add, Nat.add_zero, n_neg1, n_neg4, if_true, if_false, ite_true, ite_false, n_land1, not_true_eq_false, not_false_eq_true, ha, sm_dig hc (show k < 6 by omega)]
theorem sm_bw_zero {τ : ww_M} {p1 p2 p3 p4 t w x8 k : Int32} : ∃ t' w', f_X7_byWork_j29 τ 62 p1 p2 p3 p4 t w 0 x8 k = some (.inl (t', w', 0, x8 + 1)) := by
  unfold f_X7_byWork_j29 f_X7_byWork_j73 f_X7_byWork_j74 f_X7_byWork_j93
  by_cases e : τ 62 25 ≤ k
  · exact ⟨t, w, by rw [if_pos e]⟩
  · exact ⟨t - 0, w + 0, by rw [if_neg e, if_pos rfl, if_pos rfl, if_pos rfl]⟩
theorem sm_bw_it {τ : ww_M} {p1 p2 p3 p4 a b c a' b' c' a2 b2 c2 : Int32} (h1 : f_X7_byWork_j29 τ 62 p1 p2 p3 p4 a b c 0 p3 = some (.inl (a', b', c', 0 + 1))) (h2 : f_X7_byWork_j29 τ 62 p1 p2 p3 p4 a' b' c' (0 + 1) p4 = some (.inl (a2, b2, c2, 0 + 1 + 1))) : ww_it (f_X7_byWork_b12 τ 62 p1 p2 p3 p4) ww_F (a, b, c, 0) = some (a2, b2, c2) := by
  have e : ww_F = 9997 + 1 + 1 + 1 := rfl
  rw [e]
  refine ww_it_more (y := (a', b', c', 0 + 1)) ?_ (ww_it_more (y := (a2, b2, c2, 0 + 1 + 1)) ?_ (ww_it_done ?_))
  · unfold f_X7_byWork_b12
    dsimp only
    rw [if_neg (by decide), if_pos rfl]
    exact h1
  · unfold f_X7_byWork_b12
    dsimp only
    rw [if_neg (by decide), if_neg (by decide)]
    exact h2
  · unfold f_X7_byWork_b12
    dsimp only
    rw [if_pos (by decide)]
def pm_R (τ : ww_M) (s : ww_S) (d : ww_D1) (rot wo m h : Nat) : Prop := ∀ c, c < 4 ^ fb_ct (pl_q s wo) 9 → τ 73 (4096 * h + c) = nI (pl_pv s d rot m h (ls_W (pl_q s wo) c))
theorem sm_byWork_yes {τ : ww_M} {s : ww_S} {d : ww_D1} {rot wo n m h x y c : Nat} (hB : pm_B τ s d rot wo n) (hh : h < n) (hc : c < 4 ^ fb_ct (pl_q s wo) 9) (hR : pm_R τ s d rot wo m (h + 1)) (hx : x ≤ fb_ct (pl_q s wo) 9) (hy : y ≤ fb_ct (pl_q s wo) 9) (hxy : y = fb_ct (pl_q s wo) 9 ∨ x ≠ y) (cx : pv_can (pl_ab s d) h (ls_W (pl_q s wo) c) (ls_sl (pl_q s wo) x)) (cy : pv_can (pl_ab s d) h (ls_W (pl_q s wo) c) (ls_sl (pl_q s wo) y)) : f_X7_byWork τ 62 (nI h) (nI c) (nI x) (nI y) = some (nI (pv_val (pl_ab s d) (pl_g s d rot) (pl_two d) m h (ls_W (pl_q s wo) c) (ls_sl (pl_q s wo) x) (ls_sl (pl_q s wo) y))) := by
  have h6 := pl_q6 hB.1.1 wo
  have hn := hB.2.2.2.2.1
  have h4 := ls_4096 h6
  have kx := (ls_can hx).mp cx
  have ky := (ls_can hy).mp cy
  have s1 := sm_bw_good (p3 := nI x) (p4 := nI y) (x8 := 0) (w := 0) (t := c) hB hh hx (by omega) kx (fun e => ls_dig_le (kx e).2)
  have s2 := sm_bw_good (p3 := nI x) (p4 := nI y) (x8 := 0 + 1) (w := 0 + (if x < fb_ct (pl_q s wo) 9 ∧ c / 4 ^ x % 4 = 1 then pl_g s d rot h (ls_sl (pl_q s wo) x) else 0)) (t := ls_af (fb_ct (pl_q s wo) 9) c x) hB hh hy (by omega) ky (fun e => by
    unfold ls_af
    by_cases e1 : x < fb_ct (pl_q s wo) 9
    · rw [if_pos e1]
      refine ls_dig_le ?_
      rw [ls_dig (by omega) (by omega) (by omega) (kx e1).2, if_neg (by omega)]
      exact (ky e).2
    · rw [if_neg e1]; exact ls_dig_le (ky e).2)
  have s3 := sm_bw_it s1 s2
  rw [show nI 0 = (0 : Int32) from rfl] at s3
  have hlt : ls_af (fb_ct (pl_q s wo) 9) (ls_af (fb_ct (pl_q s wo) 9) c x) y < 4 ^ fb_ct (pl_q s wo) 9 := Nat.lt_of_le_of_lt (ls_af_le _ _ _) (Nat.lt_of_le_of_lt (ls_af_le _ _ _) hc)
  unfold f_X7_byWork f_X7_byWork_j12
  rw [s3]
  simp only [Option.bind_some]
  unfold f_X7_byWork_j150
  simp only [show τ (62 + 11) = τ 73 from rfl]
  simp (disch := omega) only [n_lit, n_le, n_lt, n_eq, n_in, n_ckt, n_ix, n_mul, n_add, n_sub, n_div, n_rem, n_b01, n_isb, n_lt0, n_le0, Option.bind_some, if_pos, if_neg, ge_iff_le, gt_iff_lt, Nat.zero_add, Nat.add_zero, n_neg1, n_neg4, if_true, if_false, ite_true, ite_false, n_land1, not_true_eq_false, not_false_eq_true, hR _ hlt]
  unfold pv_val
  rw [ls_dn2 h6 hc hx hy hxy (fun e => (kx e).2) (fun e => (ky e).2), ls_gn hx, ls_gn hy]
  rfl
theorem sm_byWork_no {τ : ww_M} {s : ww_S} {d : ww_D1} {rot wo n h x y c : Nat} (hB : pm_B τ s d rot wo n) (hh : h < n) (hc : c < 4 ^ fb_ct (pl_q s wo) 9) (hx : x ≤ fb_ct (pl_q s wo) 9) (hy : y ≤ fb_ct (pl_q s wo) 9) (hno : ¬ (pv_can (pl_ab s d) h (ls_W (pl_q s wo) c) (ls_sl (pl_q s wo) x) ∧ pv_can (pl_ab s d) h (ls_W (pl_q s wo) c) (ls_sl (pl_q s wo) y))) : f_X7_byWork τ 62 (nI h) (nI c) (nI x) (nI y) = some (-4) := by
  have h6 := pl_q6 hB.1.1 wo
  have h4 := ls_4096 h6
  have fin : ∀ {a b : Int32}, ww_it (f_X7_byWork_b12 τ 62 (nI h) (nI c) (nI x) (nI y)) ww_F (nI c, 0, 1, 0) = some (a, b, 0) → f_X7_byWork τ 62 (nI h) (nI c) (nI x) (nI y) = some (-4) := fun e => by
    unfold f_X7_byWork f_X7_byWork_j12
    rw [e]
    rfl
  by_cases cx : pv_can (pl_ab s d) h (ls_W (pl_q s wo) c) (ls_sl (pl_q s wo) x)
  · have cy : ¬ pv_can (pl_ab s d) h (ls_W (pl_q s wo) c) (ls_sl (pl_q s wo) y) := fun z => hno ⟨cx, z⟩
    have kx := (ls_can hx).mp cx
    have s1 := sm_bw_good (p3 := nI x) (p4 := nI y) (x8 := 0) (w := 0) (t := c) hB hh hx (by omega) kx (fun e => ls_dig_le (kx e).2)
    rw [ls_can hy, Classical.not_imp] at cy
    obtain ⟨t', w', s2⟩ := sm_bw_bad (p3 := nI x) (p4 := nI y) (x8 := 0 + 1) (t := nI (ls_af (fb_ct (pl_q s wo) 9) c x)) (w := nI (0 + (if x < fb_ct (pl_q s wo) 9 ∧ c / 4 ^ x % 4 = 1 then pl_g s d rot h (ls_sl (pl_q s wo) x) else 0))) hB hh (by omega) cy.1 cy.2
    exact fin (sm_bw_it s1 s2)
  · rw [ls_can hx, Classical.not_imp] at cx
    obtain ⟨t', w', s1⟩ := sm_bw_bad (p3 := nI x) (p4 := nI y) (x8 := 0) (t := nI c) (w := 0) hB hh (by omega) cx.1 cx.2
    obtain ⟨t2, w2, s2⟩ := sm_bw_zero (τ := τ) (p1 := nI h) (p2 := nI c) (p3 := nI x) (p4 := nI y) (t := t') (w := w') (x8 := 0 + 1) (k := nI y)
    exact fin (sm_bw_it s1 s2)
