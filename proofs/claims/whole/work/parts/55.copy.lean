/-! ===== copies of shores and pages ===== -/
def ww_cp9 (σ : ww_M) (o0 o1 : Nat) : ww_M := ww_cpy (ww_cpy (ww_cpy (ww_cpy (ww_cpy (ww_cpy (ww_cpy (ww_cpy (ww_cpy σ (o1 + 1) (o0 + 1) 6) (o1 + 2) (o0 + 2) 6) (o1 + 3) (o0 + 3) 6) (o1 + 4) (o0 + 4) 3) (o1 + 5) (o0 + 5) 3) (o1 + 6) (o0 + 6) 9) (o1 + 7) (o0 + 7) 9) (o1 + 8) (o0 + 8) 9) (o1 + 9) (o0 + 9) 4
def ww_cps (σ : ww_M) (o0 o1 k : Nat) : ww_M := ww_up σ o0 k (σ o1 k)
def ww_cp (σ : ww_M) (o0 o1 : Nat) : ww_M := ww_cps (ww_cps (ww_cps (ww_cps (ww_cps (ww_cps (ww_cps (ww_cps (ww_cp9 σ o0 o1) o0 o1 9) o0 o1 10) o0 o1 11) o0 o1 12) o0 o1 13) o0 o1 14) o0 o1 15) o0 o1 16
theorem ww_copyFrom (σ : ww_M) (o0 o1 : Nat) : f_X2_copyFrom σ o0 o1 = some (ww_cp σ o0 o1) := by
  unfold f_X2_copyFrom
  unfold ww_cp
  unfold ww_cps
  unfold ww_cp9
  rfl
theorem ww_cps_ne {σ : ww_M} {o0 o1 k a : Nat} (h : a ≠ o0) : ww_cps σ o0 o1 k a = σ a := ww_up_ne h
theorem ww_cps_eq (σ : ww_M) (o0 o1 k : Nat) : ww_cps σ o0 o1 k o0 = upd (σ o0) k (σ o1 k) := ww_up_eq _ _ _ _
theorem ww_cp_ne {σ : ww_M} {o0 o1 a : Nat} (h : a < o0 ∨ o0 + 10 ≤ a) : ww_cp σ o0 o1 a = σ a := by
  unfold ww_cp
  simp (disch := omega) only [ww_cps_ne]
  unfold ww_cp9
  simp (disch := omega) only [ww_up_ne, ww_up_eq, ww_upr_ne, ww_upr_eq, ww_fill_ne, ww_fill_eq, ww_cpy_ne, ww_cpy_eq, pk_us, pk_un, ne_eq, not_false_eq_true]
theorem ww_cp_cls {σ : ww_M} {o0 o1 : Nat} {s : ww_S} {d : ww_D1} (hs : ww_okS s) (hd : o0 + 10 ≤ o1 ∨ o1 + 10 ≤ o0) (h : ww_ClsA σ o1 s d) : ww_ClsA (ww_cp σ o0 o1) o0 s d := by
  obtain ⟨o1', o2, o3, o4, o5, o6, o7⟩ := hs
  obtain ⟨⟨c1, c2, c3⟩, ⟨c4, c5, c6, c7, c8⟩, c9, c10, c11, c12, c13⟩ := h
  have e0 : ∀ k, 9 ≤ k → k < 17 → ww_cp σ o0 o1 o0 k = σ o1 k := fun k h1 h2 => by
    unfold ww_cp
    simp (disch := omega) only [ww_cps_ne, ww_cps_eq]
    have q : ww_cp9 σ o0 o1 o1 = σ o1 := by
      unfold ww_cp9
      simp (disch := omega) only [ww_up_ne, ww_up_eq, ww_upr_ne, ww_upr_eq, ww_fill_ne, ww_fill_eq, ww_cpy_ne, ww_cpy_eq, pk_us, pk_un, ne_eq, not_false_eq_true]
    simp only [q]
    rcases (show k = 9 ∨ k = 10 ∨ k = 11 ∨ k = 12 ∨ k = 13 ∨ k = 14 ∨ k = 15 ∨ k = 16 by omega) with rfl | rfl | rfl | rfl | rfl | rfl | rfl | rfl <;> simp (disch := omega) only [ww_up_ne, ww_up_eq, ww_upr_ne, ww_upr_eq, ww_fill_ne, ww_fill_eq, ww_cpy_ne, ww_cpy_eq, pk_us, pk_un, ne_eq, not_false_eq_true]
  have e : ∀ a, 1 ≤ a → a < 10 → ww_cp σ o0 o1 (o0 + a) = ww_cp9 σ o0 o1 (o0 + a) := fun a h1 h2 => by
    unfold ww_cp
    simp (disch := omega) only [ww_cps_ne]
  have e1 : ww_cp σ o0 o1 (o0 + 1) = fun j => if j < 6 then σ (o1 + 1) j else σ (o0 + 1) j := by
    rw [e 1 (by omega) (by omega)]; unfold ww_cp9; simp (disch := omega) only [ww_up_ne, ww_up_eq, ww_upr_ne, ww_upr_eq, ww_fill_ne, ww_fill_eq, ww_cpy_ne, ww_cpy_eq, pk_us, pk_un, ne_eq, not_false_eq_true]
  have e2 : ww_cp σ o0 o1 (o0 + 2) = fun j => if j < 6 then σ (o1 + 2) j else σ (o0 + 2) j := by
    rw [e 2 (by omega) (by omega)]; unfold ww_cp9; simp (disch := omega) only [ww_up_ne, ww_up_eq, ww_upr_ne, ww_upr_eq, ww_fill_ne, ww_fill_eq, ww_cpy_ne, ww_cpy_eq, pk_us, pk_un, ne_eq, not_false_eq_true]
  have e3 : ww_cp σ o0 o1 (o0 + 3) = fun j => if j < 6 then σ (o1 + 3) j else σ (o0 + 3) j := by
    rw [e 3 (by omega) (by omega)]; unfold ww_cp9; simp (disch := omega) only [ww_up_ne, ww_up_eq, ww_upr_ne, ww_upr_eq, ww_fill_ne, ww_fill_eq, ww_cpy_ne, ww_cpy_eq, pk_us, pk_un, ne_eq, not_false_eq_true]
  have e4 : ww_cp σ o0 o1 (o0 + 4) = fun j => if j < 3 then σ (o1 + 4) j else σ (o0 + 4) j := by
    rw [e 4 (by omega) (by omega)]; unfold ww_cp9; simp (disch := omega) only [ww_up_ne, ww_up_eq, ww_upr_ne, ww_upr_eq, ww_fill_ne, ww_fill_eq, ww_cpy_ne, ww_cpy_eq, pk_us, pk_un, ne_eq, not_false_eq_true]
  have e5 : ww_cp σ o0 o1 (o0 + 5) = fun j => if j < 3 then σ (o1 + 5) j else σ (o0 + 5) j := by
    rw [e 5 (by omega) (by omega)]; unfold ww_cp9; simp (disch := omega) only [ww_up_ne, ww_up_eq, ww_upr_ne, ww_upr_eq, ww_fill_ne, ww_fill_eq, ww_cpy_ne, ww_cpy_eq, pk_us, pk_un, ne_eq, not_false_eq_true]
  have e6 : ww_cp σ o0 o1 (o0 + 6) = fun j => if j < 9 then σ (o1 + 6) j else σ (o0 + 6) j := by
    rw [e 6 (by omega) (by omega)]; unfold ww_cp9; simp (disch := omega) only [ww_up_ne, ww_up_eq, ww_upr_ne, ww_upr_eq, ww_fill_ne, ww_fill_eq, ww_cpy_ne, ww_cpy_eq, pk_us, pk_un, ne_eq, not_false_eq_true]
  have e7 : ww_cp σ o0 o1 (o0 + 7) = fun j => if j < 9 then σ (o1 + 7) j else σ (o0 + 7) j := by
    rw [e 7 (by omega) (by omega)]; unfold ww_cp9; simp (disch := omega) only [ww_up_ne, ww_up_eq, ww_upr_ne, ww_upr_eq, ww_fill_ne, ww_fill_eq, ww_cpy_ne, ww_cpy_eq, pk_us, pk_un, ne_eq, not_false_eq_true]
  have e8 : ww_cp σ o0 o1 (o0 + 8) = fun j => if j < 9 then σ (o1 + 8) j else σ (o0 + 8) j := by
    rw [e 8 (by omega) (by omega)]; unfold ww_cp9; simp (disch := omega) only [ww_up_ne, ww_up_eq, ww_upr_ne, ww_upr_eq, ww_fill_ne, ww_fill_eq, ww_cpy_ne, ww_cpy_eq, pk_us, pk_un, ne_eq, not_false_eq_true]
  have e9 : ww_cp σ o0 o1 (o0 + 9) = fun j => if j < 4 then σ (o1 + 9) j else σ (o0 + 9) j := by
    rw [e 9 (by omega) (by omega)]; unfold ww_cp9; simp (disch := omega) only [ww_up_ne, ww_up_eq, ww_upr_ne, ww_upr_eq, ww_fill_ne, ww_fill_eq, ww_cpy_ne, ww_cpy_eq, pk_us, pk_un, ne_eq, not_false_eq_true]
  unfold ww_ClsA
  rw [e1, e2, e3, e4, e5, e6, e7, e8, e9]
  refine ⟨⟨by rw [e0 _ (by omega) (by omega)]; exact c1, by rw [e0 _ (by omega) (by omega)]; exact c2, by rw [e0 _ (by omega) (by omega)]; exact c3⟩, ⟨by rw [e0 _ (by omega) (by omega)]; exact c4, by rw [e0 _ (by omega) (by omega)]; exact c5, by rw [e0 _ (by omega) (by omega)]; exact c6, by rw [e0 _ (by omega) (by omega)]; exact c7, by rw [e0 _ (by omega) (by omega)]; exact c8⟩, fun i hi => ?_, fun j hj => ?_, fun b hb => ?_, fun b hb p hp => ?_, fun k hk => ?_⟩
  · simp only [if_pos (show i < 6 by omega)]; exact c9 i hi
  · simp only [if_pos (show j < 6 by omega)]; exact c10 j hj
  · simp only [if_pos (show b < 3 by omega)]; exact c11 b hb
  · have := o6 b hb
    simp only [if_pos (show 3 * b + p < 9 by omega)]; exact c12 b hb p hp
  · simp only [if_pos hk]; exact c13 k hk
theorem ww_ModD_page {fs gs : Nat → Int32} {pg pg' : Nat} {s : ww_S} {d : ww_D1} (hs : ww_okS s) (h : ww_ModD fs pg s d) (he : ∀ j, j < 50 → gs (pg' + j) = fs (pg + j)) : ww_ModD gs pg' s d := by
  obtain ⟨o1, o2, o3, o4, o5, o6, o7⟩ := hs
  obtain ⟨⟨a1, a2, a3, a4⟩, a5, a6, a7, a8⟩ := h
  refine ⟨⟨by rw [he _ (by omega)]; exact a1, by rw [he _ (by omega)]; exact a2, by rw [he _ (by omega)]; exact a3, by rw [he _ (by omega)]; exact a4⟩, fun b hb => ?_, fun i hi => ?_, fun b hb p hp => ?_, fun k hk => ?_⟩
  · rw [Nat.add_assoc, he _ (by omega), ← Nat.add_assoc]; exact a5 b hb
  · rw [Nat.add_assoc pg' (2 * i) 1, he _ (by omega), he _ (by omega), ← Nat.add_assoc]; exact a6 i hi
  · have := o6 b hb
    rw [show pg' + 18 + 9 * b + 3 * p = pg' + (18 + 9 * b + 3 * p) by omega, show pg' + (18 + 9 * b + 3 * p) + 1 = pg' + (18 + 9 * b + 3 * p + 1) by omega, show pg' + (18 + 9 * b + 3 * p) + 2 = pg' + (18 + 9 * b + 3 * p + 2) by omega, he _ (by omega), he _ (by omega), he _ (by omega)]
    rw [show pg + (18 + 9 * b + 3 * p) = pg + 18 + 9 * b + 3 * p by omega, show pg + (18 + 9 * b + 3 * p + 1) = pg + 18 + 9 * b + 3 * p + 1 by omega, show pg + (18 + 9 * b + 3 * p + 2) = pg + 18 + 9 * b + 3 * p + 2 by omega]
    exact a7 b hb p hp
  · rw [Nat.add_assoc, he _ (by omega), ← Nat.add_assoc]; exact a8 k hk
theorem sm_copies {σ : ww_M} {a b : Nat} (ha : a ≤ 150) (hb : b ≤ 150) (hd : a + 50 ≤ b ∨ b + 50 ≤ a) : f_X7_copies σ 62 (nI a) (nI b) = some (ww_upr σ 63 (fb_put (σ 63) (fun k => σ 63 (a + k)) b 50)) := by
  unfold f_X7_copies f_X7_copies_j2 f_X7_copies_j30
  have key := ww_it_for (f := f_X7_copies_b2 62 (nI a) (nI b)) (fun i => (nI i, ww_upr σ 63 (fb_put (σ 63) (fun k => σ 63 (a + k)) b i))) 50 (r := ww_upr σ 63 (fb_put (σ 63) (fun k => σ 63 (a + k)) b 50)) (by omega) (fun i hi => ?_) ?_
  · have e : ww_upr σ 63 (fb_put (σ 63) (fun k => σ 63 (a + k)) b 0) = σ := by
      rw [fb_put_0]
      funext x y
      by_cases c : x = 63
      · subst c; rw [ww_upr_eq]
      · rw [ww_upr_ne c]
    simp only [e] at key
    have key' : ww_it (f_X7_copies_b2 62 (nI a) (nI b)) ww_F (0, σ) = some (ww_upr σ 63 (fb_put (σ 63) (fun k => σ 63 (a + k)) b 50)) := key
    rw [key']
    rfl
  · unfold f_X7_copies_b2
    simp (disch := omega) only [n_lit, n_le, n_lt, n_eq, n_in, n_ckt, n_ix, n_mul, n_add, n_sub, n_div, n_rem, n_b01, n_isb, n_lt0, n_le0, Option.bind_some, if_pos, if_neg, ge_iff_le, gt_iff_lt, Nat.zero_add, Nat.add_zero, n_neg1, n_neg4, if_true, if_false, ite_true, ite_false, n_land1, not_true_eq_false, not_false_eq_true]
    simp only [show (62 : Nat) + 1 = 63 from rfl]
    rw [ww_upr_eq, fb_put_out (f := σ 63) (show a + i < b ∨ b + i ≤ a + i by omega), ← fb_put_succ (σ 63) (fun k => σ 63 (a + k)) b i]
    have e : ww_up (ww_upr σ 63 (fb_put (σ 63) (fun k => σ 63 (a + k)) b i)) 63 (b + i) (σ 63 (a + i)) = ww_upr σ 63 (upd (fb_put (σ 63) (fun k => σ 63 (a + k)) b i) (b + i) (σ 63 (a + i))) := by
      funext x y
      by_cases c : x = 63
      · subst c; rw [ww_up_eq, ww_upr_eq, ww_upr_eq]
      · rw [ww_up_ne c, ww_upr_ne c, ww_upr_ne c]
    rw [e]
  · unfold f_X7_copies_b2
    simp (disch := omega) only [n_lit, n_le, n_lt, n_eq, n_in, n_ckt, n_ix, n_mul, n_add, n_sub, n_div, n_rem, n_b01, n_isb, n_lt0, n_le0, Option.bind_some, if_pos, if_neg, ge_iff_le, gt_iff_lt, Nat.zero_add, Nat.add_zero, n_neg1, n_neg4, if_true, if_false, ite_true, ite_false, n_land1, not_true_eq_false, not_false_eq_true]
