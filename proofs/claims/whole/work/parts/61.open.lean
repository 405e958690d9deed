theorem ww_bc64 : ∀ m, m < 64 → f_J6_bitCount_0f7a4 (nI m) = some (nI (fb_ct (fun i => m.testBit i) 6)) := by
  have : ∀ m : Fin 64, f_J6_bitCount_0f7a4 (nI m.val) = some (nI (fb_ct (fun i => m.val.testBit i) 6)) := by decide +kernel
  exact fun m hm => this ⟨m, hm⟩
theorem ww_bcN {p : Nat → Bool} {n : Nat} (hn : n ≤ 6) : f_J6_bitCount_0f7a4 (nI (ww_bits p n)) = some (nI (fb_ct p n)) := by
  have hl : ww_bits p n < 64 := Nat.lt_of_lt_of_le (bt_lt p n) (Nat.pow_le_pow_right (n := 2) (by omega) hn)
  rw [ww_bc64 _ hl]
  have e : fb_ct (fun i => (ww_bits p n).testBit i) 6 = fb_ct p n := by
    have e1 : fb_ct (fun i => (ww_bits p n).testBit i) 6 = fb_ct (fun i => decide (i < n) && p i) 6 := fb_ct_cong (fun k hk => bt_test p n k)
    rw [e1, show 6 = n + (6 - n) by omega, fb_ct_split]
    have e2 : fb_ct (fun i => decide (i < n) && p i) n = fb_ct p n := fb_ct_cong (fun k hk => by simp [hk])
    have e3 : fb_ct (fun k => decide (n + k < n) && p (n + k)) (6 - n) = 0 := fb_ct_zero.mpr (fun k hk => by rw [show decide (n + k < n) = false from decide_eq_false (by omega)]; rfl)
    rw [e2, e3, Nat.add_zero]
  rw [e]
theorem sm_lostMany {σ : ww_M} {s : ww_S} {d : ww_D1} (h : ww_MO1 σ s d) : f_X7_lostMany σ 62 = some (nI (fb_ct (dLost d) (sNb s))) := by
  obtain ⟨hs, hd, hM, hD⟩ := h
  have hnb := hs.2.2.2.1
  unfold f_X7_lostMany f_X7_lostMany_j4 f_X7_lostMany_j30
  have key := ww_it_for (f := f_X7_lostMany_b4 σ 62) (fun i => (nI (fb_ct (dLost d) i), nI i)) (sNb s) (r := nI (fb_ct (dLost d) (sNb s))) (by omega) (fun i hi => ?_) ?_
  · exact Option.bind_eq_some_iff.mpr ⟨_, key, rfl⟩
  · unfold f_X7_lostMany_b4
    simp only [show σ (62 + 1) = σ 63 from rfl, fb_ct_succ]
    simp (disch := omega) only [n_lit, n_le, n_lt, n_eq, n_in, n_ckt, n_ix, n_mul, n_add, n_sub, n_div, n_rem, n_b01, n_isb, n_lt0, n_le0, Option.bind_some, if_pos, if_neg, ge_iff_le, gt_iff_lt, Nat.zero_add, Nat.add_zero, n_neg1, n_neg4, if_true, if_false, ite_true, ite_false, n_land1, not_true_eq_false, not_false_eq_true, hM.2.2.1]
    rw [sm_lost hD (by omega)]
    cases dLost d i
    · simp
    · simp [nI_1]
  · unfold f_X7_lostMany_b4
    simp (disch := omega) only [n_lit, n_le, n_lt, n_eq, n_in, n_ckt, n_ix, n_mul, n_add, n_sub, n_div, n_rem, n_b01, n_isb, n_lt0, n_le0, Option.bind_some, if_pos, if_neg, ge_iff_le, gt_iff_lt, Nat.zero_add, Nat.add_zero, n_neg1, n_neg4, if_true, if_false, ite_true, ite_false, n_land1, not_true_eq_false, not_false_eq_true, hM.2.2.1]
theorem ww_lostN_ct {s : ww_S} {d : ww_D1} (hs : ww_okS s) (hd : ww_okD s d) : fb_ct (dLost d) 3 = fb_ct (dLost d) (sNb s) := by
  have hnb := hs.2.2.2.1
  have e : (3 : Nat) = sNb s + (3 - sNb s) := by omega
  rw [e, fb_ct_split]
  have e3 : fb_ct (fun k => dLost d (sNb s + k)) (3 - sNb s) = 0 := fb_ct_zero.mpr (fun k hk => hd.2.2.2.2.2.2.2.2 _ (by omega))
  rw [e3, Nat.add_zero]
def ww_cut (s : ww_S) (d : ww_D1) : Nat := ww_fo (ww_vld s) (fun b p a => if dWk d b p = 0 then a + 1 else a) 3 0 9
theorem sp_cut {σ : ww_M} {o : Nat} {s : ww_S} {d : ww_D1} (h : ww_CL1 σ o s d) : f_X2_cutParts σ o = some (nI (ww_cut s d)) := by
  have h0 := h
  obtain ⟨hs, hd, hC⟩ := h
  unfold f_X2_cutParts f_X2_cutParts_j4 f_X2_cutParts_j36 ww_cut
  have key := ww_it_for (f := f_X2_cutParts_b4 σ o) (fun i => (nI (ww_fo (ww_vld s) (fun b p a => if dWk d b p = 0 then a + 1 else a) 3 0 i), nI i)) 9 (r := nI (ww_fo (ww_vld s) (fun b p a => if dWk d b p = 0 then a + 1 else a) 3 0 9)) (by omega) (fun i hi => ?_) ?_
  · exact Option.bind_eq_some_iff.mpr ⟨_, key, rfl⟩
  · obtain ⟨b, p, hp, rfl⟩ : ∃ b p, p < 3 ∧ i = 3 * b + p := ⟨i / 3, i % 3, by omega, by omega⟩
    unfold f_X2_cutParts_b4
    simp only [ww_fo, (n_dr3 (b := b) hp).1, (n_dr3 (b := b) hp).2]
    rw [sp_hasSlot h0 hi, (n_dr3 (b := b) hp).1, (n_dr3 (b := b) hp).2]
    cases hv : ww_vld s b p
    · simp (disch := omega) only [n_lit, n_le, n_lt, n_eq, n_in, n_ckt, n_ix, n_mul, n_add, n_sub, n_div, n_rem, n_b01, n_isb, n_lt0, n_le0, Option.bind_some, if_pos, if_neg, ge_iff_le, gt_iff_lt, Nat.zero_add, Nat.add_zero, n_neg1, n_neg4, if_true, if_false, ite_true, ite_false, n_land1, not_true_eq_false, not_false_eq_true]
      simp
    · have q := ww_vld_iff.mp hv
      have e6 := (hC.2.2.2.2.2.1 _ q.1 _ q.2).2.1
      have hw := (hd.2.2.2.2.2.2.2.1 _ q.1 _ q.2).2.1
      simp (disch := omega) only [n_lit, n_le, n_lt, n_eq, n_in, n_ckt, n_ix, n_mul, n_add, n_sub, n_div, n_rem, n_b01, n_isb, n_lt0, n_le0, Option.bind_some, if_pos, if_neg, ge_iff_le, gt_iff_lt, Nat.zero_add, Nat.add_zero, n_neg1, n_neg4, if_true, if_false, ite_true, ite_false, n_land1, not_true_eq_false, not_false_eq_true, e6]
      by_cases c : dWk d b p = 0 <;> simp [c]
  · unfold f_X2_cutParts_b4
    simp (disch := omega) only [n_lit, n_le, n_lt, n_eq, n_in, n_ckt, n_ix, n_mul, n_add, n_sub, n_div, n_rem, n_b01, n_isb, n_lt0, n_le0, Option.bind_some, if_pos, if_neg, ge_iff_le, gt_iff_lt, Nat.zero_add, Nat.add_zero, n_neg1, n_neg4, if_true, if_false, ite_true, ite_false, n_land1, not_true_eq_false, not_false_eq_true]
theorem sm_cut {σ : ww_M} {s : ww_S} {d : ww_D1} (h : ww_MO1 σ s d) : f_X7_cutMany σ 62 = some (nI (ww_cut s d)) := by
  have h0 := h
  obtain ⟨hs, hd, hM, hD⟩ := h
  unfold f_X7_cutMany f_X7_cutMany_j4 f_X7_cutMany_j46 ww_cut
  rw [← ww_fo_eq (ww_vld_3 hs)]
  have key := ww_it_for (f := f_X7_cutMany_b4 σ 62) (fun i => (nI (ww_fo (ww_vld s) (fun b p a => if dWk d b p = 0 then a + 1 else a) 10 0 i), nI i)) 30 (r := nI (ww_fo (ww_vld s) (fun b p a => if dWk d b p = 0 then a + 1 else a) 10 0 30)) (by omega) (fun i hi => ?_) ?_
  · exact Option.bind_eq_some_iff.mpr ⟨_, key, rfl⟩
  · unfold f_X7_cutMany_b4
    simp only [ww_fo]
    rw [sm_isPart h0 hi]
    cases hv : ww_vld s (i / 10) (i % 10)
    · simp (disch := omega) only [n_lit, n_le, n_lt, n_eq, n_in, n_ckt, n_ix, n_mul, n_add, n_sub, n_div, n_rem, n_b01, n_isb, n_lt0, n_le0, Option.bind_some, if_pos, if_neg, ge_iff_le, gt_iff_lt, Nat.zero_add, Nat.add_zero, n_neg1, n_neg4, if_true, if_false, ite_true, ite_false, n_land1, not_true_eq_false, not_false_eq_true]
      simp
    · have h3 := ww_vld3 hs hv
      obtain ⟨b, p, hp, rfl⟩ : ∃ b p, p < 3 ∧ i = 10 * b + p := ⟨i / 10, i % 10, by omega, by omega⟩
      rw [(n_dr10 (b := b) hp).1, (n_dr10 (b := b) hp).2] at hv h3
      have q := ww_vld_iff.mp hv
      have e6 := (hD.2.2.2.1 _ q.1 _ q.2).2.1
      have hw := (hd.2.2.2.2.2.2.2.1 _ q.1 _ q.2).2.1
      rw [Nat.zero_add] at e6
      rw [sp_partAt h3.1 h3.2, (n_dr10 (b := b) hp).1, (n_dr10 (b := b) hp).2, show σ (62 + 1) = σ 63 from rfl]
      simp (disch := omega) only [n_lit, n_le, n_lt, n_eq, n_in, n_ckt, n_ix, n_mul, n_add, n_sub, n_div, n_rem, n_b01, n_isb, n_lt0, n_le0, Option.bind_some, if_pos, if_neg, ge_iff_le, gt_iff_lt, Nat.zero_add, Nat.add_zero, n_neg1, n_neg4, if_true, if_false, ite_true, ite_false, n_land1, not_true_eq_false, not_false_eq_true, e6]
      by_cases c : dWk d b p = 0 <;> simp [c]
  · unfold f_X7_cutMany_b4
    simp (disch := omega) only [n_lit, n_le, n_lt, n_eq, n_in, n_ckt, n_ix, n_mul, n_add, n_sub, n_div, n_rem, n_b01, n_isb, n_lt0, n_le0, Option.bind_some, if_pos, if_neg, ge_iff_le, gt_iff_lt, Nat.zero_add, Nat.add_zero, n_neg1, n_neg4, if_true, if_false, ite_true, ite_false, n_land1, not_true_eq_false, not_false_eq_true]
theorem st_count {k : Nat} {σ : ww_M} {s : ww_S} {d : ww_D1} (hk : k < 64) (h : ww_Rel k σ s d) (p1 : Int32) : ∃ (v : Int32) (s2 : ww_S) (d2 : ww_D1), f_X6_count σ p1 = some v ∧ f_X7_count σ 62 p1 = some v ∧ ww_Rel (k + 1) σ s2 d2 := by
  have h0 := ww_Rel_up h
  obtain ⟨r1, ⟨hd, -⟩, hC, hM, hD, ⟨nt, t0, t1, t2, -⟩, -, ⟨n, u1, u2, u3, -⟩, -, ⟨kb, k1, k2, k3⟩, r11, -⟩ := h
  have hl : f_J6_bitCount_0f7a4 (σ 4 16) = some (nI (fb_ct (dLost d) (sNb s))) := by
    rw [show σ 4 16 = nI (ww_lostN d) from hC.2.1.2.2.2.2]
    unfold ww_lostN
    rw [ww_bcN (by omega), ww_lostN_ct r1 hd]
  unfold f_X6_count f_X7_count
  rw [hl, sm_lostMany ⟨r1, hd, hM, hD⟩, sp_cut ⟨r1, hd, hC⟩, sm_cut ⟨r1, hd, hM, hD⟩, u2, u3, t1, t2]
  by_cases c0 : p1 = 0
  · simp only [if_pos c0]; exact ⟨_, s, d, rfl, rfl, h0⟩
  simp only [if_neg c0]
  by_cases c1 : p1 = 1
  · simp only [if_pos c1]
    rw [k2, ww_bc64 kb (by omega), show σ (62 + 14) 0 = _ from (k3 0 (by omega)).1]
    unfold f_X7_count_j59
    rw [show σ (62 + 14) 1 = _ from (k3 1 (by omega)).1]
    rcases (show kb = 0 ∨ kb = 1 ∨ kb = 2 ∨ kb = 3 by omega) with rfl | rfl | rfl | rfl
    · exact ⟨0, s, d, by decide, by decide, h0⟩
    · exact ⟨1, s, d, by decide, by decide, h0⟩
    · exact ⟨1, s, d, by decide, by decide, h0⟩
    · exact ⟨2, s, d, by decide, by decide, h0⟩
  simp only [if_neg c1]
  by_cases c2 : p1 = 2
  · simp only [if_pos c2]; exact ⟨_, s, d, rfl, rfl, h0⟩
  simp only [if_neg c2]
  by_cases c3 : p1 = 3
  · simp only [if_pos c3]
    have hR := r11 0 (by omega)
    rw [show ww_ix 0 = 0 from rfl, show ww_in 0 4 = true from rfl]
    simp only [n_ckt]
    rcases hR with ⟨q1, q2⟩ | ⟨m, t, q1, q2, q3, q4, q5, q6, q7⟩
    · rw [q1, show σ (62 + 15) 0 = -4 from q2]
      exact ⟨-4, s, d, rfl, rfl, h0⟩
    · rw [q3, show σ (62 + 15) 0 = nI t from q6, show σ (62 + 16) 0 = nI m from q4, if_pos (nI_pos' (show m < 2147483648 by omega))]
      refine ⟨_, s, d, rfl, ?_, h0⟩
      have := n_neg4 (n := t) (by omega)
      rw [if_neg (show ¬ nI t = -4 from fun e => by rw [show nI t = -nI 4 from e] at this; exact absurd this.symm (by simp))]
  simp only [if_neg c3]
  by_cases c4 : p1 = 4
  · simp only [if_pos c4]; exact ⟨_, s, d, rfl, rfl, h0⟩
  simp only [if_neg c4]
  by_cases c5 : p1 = 5
  · simp only [if_pos c5]; exact ⟨_, s, d, rfl, rfl, h0⟩
  simp only [if_neg c5]
  exact ⟨_, s, d, rfl, rfl, h0⟩
def ww_opn (s : ww_S) (d : ww_D1) (b p : Nat) (a : Option (Nat × Nat)) : Option (Nat × Nat) :=
  if ww_can s d b p then (match a with
    | none => some (b, p)
    | some q => if dLu d q.1 q.2 * dWk d b p < dLu d b p * dWk d q.1 q.2 then some (b, p) else some q) else a
def ww_enC (a : Option (Nat × Nat)) : Int32 := match a with
  | none => -1
  | some q => nI (3 * q.1 + q.2)
def ww_enM (a : Option (Nat × Nat)) : Int32 := match a with
  | none => -4
  | some q => nI (10 * q.1 + q.2)
def ww_vo (s : ww_S) (a : Option (Nat × Nat)) : Prop := ∀ q, a = some q → ww_vld s q.1 q.2 = true
theorem ww_vo_opn {s : ww_S} {d : ww_D1} : ∀ b p x, ww_vld s b p = true → ww_vo s x → ww_vo s (ww_opn s d b p x) := fun b p x hv hx => by
  unfold ww_opn
  split
  · cases x with
    | none => intro q e; injection e with e; subst e; exact hv
    | some y =>
      simp only
      split
      · intro q e; injection e with e; subst e; exact hv
      · exact hx
  · exact hx
theorem ww_opn_no {s : ww_S} {d : ww_D1} {b p : Nat} {a : Option (Nat × Nat)} (h : ww_can s d b p = false) : ww_opn s d b p a = a := by simp [ww_opn, h]
theorem ww_opn_1 {s : ww_S} {d : ww_D1} {b p : Nat} (h : ww_can s d b p = true) : ww_opn s d b p none = some (b, p) := by simp [ww_opn, h]
theorem ww_opn_2 {s : ww_S} {d : ww_D1} {b p : Nat} {q : Nat × Nat} (h : ww_can s d b p = true) : ww_opn s d b p (some q) = if dLu d q.1 q.2 * dWk d b p < dLu d b p * dWk d q.1 q.2 then some (b, p) else some q := by simp [ww_opn, h]
theorem st_open {k : Nat} {σ : ww_M} {s : ww_S} {d : ww_D1} (hk : k < 64) (h : ww_Rel k σ s d) : ∃ (v : Int32) (s2 : ww_S) (d2 : ww_D1), f_X6_open σ = some v ∧ f_X7_open σ 62 = some v ∧ ww_Rel (k + 1) σ s2 d2 := by
  have h0 := ww_Rel_up h
  obtain ⟨r1, ⟨hd, -⟩, hC, hM, hD, -⟩ := h
  have hCL : ww_CL1 σ 4 s d := ⟨r1, hd, hC⟩
  have hMO : ww_MO1 σ s d := ⟨r1, hd, hM, hD⟩
  have hmul : ∀ a b : Nat, a ≤ 8 → b ≤ 3 → a * b ≤ 24 := fun a b h1 h2 => Nat.mul_le_mul h1 h2
  refine ⟨ww_enM (ww_fo (ww_vld s) (ww_opn s d) 3 none 9), s, d, ?_, ?_, h0⟩
  · unfold f_X6_open f_X6_open_j4 f_X6_open_j46
    have key := ww_it_for (f := f_X6_open_b4 σ) (fun i => (ww_enC (ww_fo (ww_vld s) (ww_opn s d) 3 none i), nI i)) 9 (r := ww_enC (ww_fo (ww_vld s) (ww_opn s d) 3 none 9)) (by omega) (fun i hi => ?_) ?_
    · refine Option.bind_eq_some_iff.mpr ⟨_, key, ?_⟩
      have hvo := ww_fo_inv (v := ww_vld s) (g := ww_opn s d) (m := 3) (a := none) (ww_vo s) (fun q e => by simp at e) ww_vo_opn 9
      cases hx : ww_fo (ww_vld s) (ww_opn s d) 3 none 9 with
      | none => rfl
      | some q =>
        have h3 := ww_vld3 r1 (hvo q hx)
        simp only [ww_enC, ww_enM]
        unfold f_X6_numberOf
        simp (disch := omega) only [n_lit, n_le, n_lt, n_eq, n_in, n_ckt, n_ix, n_mul, n_add, n_sub, n_div, n_rem, n_b01, n_isb, n_lt0, n_le0, Option.bind_some, if_pos, if_neg, ge_iff_le, gt_iff_lt, Nat.zero_add, Nat.add_zero, n_neg1, n_neg4, if_true, if_false, ite_true, ite_false, n_land1, not_true_eq_false, not_false_eq_true, (n_dr3 (b := q.1) h3.2).1, (n_dr3 (b := q.1) h3.2).2]
        rw [show q.1 * 10 + q.2 = 10 * q.1 + q.2 by omega]
    · have hvo := ww_fo_inv (v := ww_vld s) (g := ww_opn s d) (m := 3) (a := none) (ww_vo s) (fun q e => by simp at e) ww_vo_opn i
      obtain ⟨b, p, hp, rfl⟩ : ∃ b p, p < 3 ∧ i = 3 * b + p := ⟨i / 3, i % 3, by omega, by omega⟩
      unfold f_X6_open_b4
      simp only [ww_fo, (n_dr3 (b := b) hp).1, (n_dr3 (b := b) hp).2]
      rw [sp_canWork hCL hi, (n_dr3 (b := b) hp).1, (n_dr3 (b := b) hp).2]
      cases hv : ww_vld s b p
      · simp (disch := omega) only [n_lit, n_le, n_lt, n_eq, n_in, n_ckt, n_ix, n_mul, n_add, n_sub, n_div, n_rem, n_b01, n_isb, n_lt0, n_le0, Option.bind_some, if_pos, if_neg, ge_iff_le, gt_iff_lt, Nat.zero_add, Nat.add_zero, n_neg1, n_neg4, if_true, if_false, ite_true, ite_false, n_land1, not_true_eq_false, not_false_eq_true]
        simp
      · simp only [Bool.true_and, if_true]
        cases hc : ww_can s d b p
        · rw [ww_opn_no hc]
          simp (disch := omega) only [n_lit, n_le, n_lt, n_eq, n_in, n_ckt, n_ix, n_mul, n_add, n_sub, n_div, n_rem, n_b01, n_isb, n_lt0, n_le0, Option.bind_some, if_pos, if_neg, ge_iff_le, gt_iff_lt, Nat.zero_add, Nat.add_zero, n_neg1, n_neg4, if_true, if_false, ite_true, ite_false, n_land1, not_true_eq_false, not_false_eq_true]
          simp
        · have q := ww_vld_iff.mp hv
          obtain ⟨e6, e7, e8⟩ := hC.2.2.2.2.2.1 _ q.1 _ q.2
          obtain ⟨l6, l7, l8⟩ := hd.2.2.2.2.2.2.2.1 _ q.1 _ q.2
          cases hx : ww_fo (ww_vld s) (ww_opn s d) 3 none (3 * b + p) with
          | none =>
            rw [ww_opn_1 hc]
            simp only [ww_enC]
            simp (disch := omega) only [n_lit, n_le, n_lt, n_eq, n_in, n_ckt, n_ix, n_mul, n_add, n_sub, n_div, n_rem, n_b01, n_isb, n_lt0, n_le0, Option.bind_some, if_pos, if_neg, ge_iff_le, gt_iff_lt, Nat.zero_add, Nat.add_zero, n_neg1, n_neg4, if_true, if_false, ite_true, ite_false, n_land1, not_true_eq_false, not_false_eq_true]
          | some y =>
            have hvy := hvo y hx
            have h3 := ww_vld3 r1 hvy
            have qy := ww_vld_iff.mp hvy
            obtain ⟨y6, y7, y8⟩ := hC.2.2.2.2.2.1 _ qy.1 _ qy.2
            obtain ⟨k6, k7, k8⟩ := hd.2.2.2.2.2.2.2.1 _ qy.1 _ qy.2
            have m1 := hmul _ _ l8 k7
            have m2 := hmul _ _ k8 l7
            rw [ww_opn_2 hc]
            simp only [ww_enC]
            unfold f_X2_isRicher
            simp (disch := omega) only [n_lit, n_le, n_lt, n_eq, n_in, n_ckt, n_ix, n_mul, n_add, n_sub, n_div, n_rem, n_b01, n_isb, n_lt0, n_le0, Option.bind_some, if_pos, if_neg, ge_iff_le, gt_iff_lt, Nat.zero_add, Nat.add_zero, n_neg1, n_neg4, if_true, if_false, ite_true, ite_false, n_land1, not_true_eq_false, not_false_eq_true, e7, e8, y7, y8]
            by_cases c : dLu d y.1 y.2 * dWk d b p < dLu d b p * dWk d y.1 y.2
            · simp [c, show ¬ dLu d b p * dWk d y.1 y.2 ≤ dLu d y.1 y.2 * dWk d b p by omega, show ¬ nI 1 = nI 0 by decide]
            · simp [c, show dLu d b p * dWk d y.1 y.2 ≤ dLu d y.1 y.2 * dWk d b p by omega]
    · unfold f_X6_open_b4
      simp (disch := omega) only [n_lit, n_le, n_lt, n_eq, n_in, n_ckt, n_ix, n_mul, n_add, n_sub, n_div, n_rem, n_b01, n_isb, n_lt0, n_le0, Option.bind_some, if_pos, if_neg, ge_iff_le, gt_iff_lt, Nat.zero_add, Nat.add_zero, n_neg1, n_neg4, if_true, if_false, ite_true, ite_false, n_land1, not_true_eq_false, not_false_eq_true]
  · unfold f_X7_open f_X7_open_j5 f_X7_open_j104
    rw [← ww_fo_eq (ww_vld_3 r1)]
    have key := ww_it_for (f := f_X7_open_b5 σ 62) (fun i => (ww_enM (ww_fo (ww_vld s) (ww_opn s d) 10 none i), nI i)) 30 (r := ww_enM (ww_fo (ww_vld s) (ww_opn s d) 10 none 30)) (by omega) (fun i hi => ?_) ?_
    · exact Option.bind_eq_some_iff.mpr ⟨_, key, rfl⟩
    · have hvo := ww_fo_inv (v := ww_vld s) (g := ww_opn s d) (m := 10) (a := none) (ww_vo s) (fun q e => by simp at e) ww_vo_opn i
      unfold f_X7_open_b5
      simp only [ww_fo]
      rw [sm_isPart hMO hi]
      cases hv : ww_vld s (i / 10) (i % 10)
      · simp (disch := omega) only [n_lit, n_le, n_lt, n_eq, n_in, n_ckt, n_ix, n_mul, n_add, n_sub, n_div, n_rem, n_b01, n_isb, n_lt0, n_le0, Option.bind_some, if_pos, if_neg, ge_iff_le, gt_iff_lt, Nat.zero_add, Nat.add_zero, n_neg1, n_neg4, if_true, if_false, ite_true, ite_false, n_land1, not_true_eq_false, not_false_eq_true]
        simp
      · have h3 := ww_vld3 r1 hv
        obtain ⟨b, p, hp, rfl⟩ : ∃ b p, p < 3 ∧ i = 10 * b + p := ⟨i / 10, i % 10, by omega, by omega⟩
        rw [(n_dr10 (b := b) hp).1, (n_dr10 (b := b) hp).2] at hv h3
        rw [sm_canBe hMO hv, (n_dr10 (b := b) hp).1, (n_dr10 (b := b) hp).2, show σ (62 + 1) = σ 63 from rfl]
        simp only [if_true]
        cases hc : ww_can s d b p
        · rw [ww_opn_no hc]
          simp (disch := omega) only [n_lit, n_le, n_lt, n_eq, n_in, n_ckt, n_ix, n_mul, n_add, n_sub, n_div, n_rem, n_b01, n_isb, n_lt0, n_le0, Option.bind_some, if_pos, if_neg, ge_iff_le, gt_iff_lt, Nat.zero_add, Nat.add_zero, n_neg1, n_neg4, if_true, if_false, ite_true, ite_false, n_land1, not_true_eq_false, not_false_eq_true]
          simp
        · have q := ww_vld_iff.mp hv
          obtain ⟨e6, e7, e8⟩ := hD.2.2.2.1 _ q.1 _ q.2
          obtain ⟨l6, l7, l8⟩ := hd.2.2.2.2.2.2.2.1 _ q.1 _ q.2
          rw [Nat.zero_add] at e6 e7 e8
          rw [sp_partAt h3.1 h3.2]
          cases hx : ww_fo (ww_vld s) (ww_opn s d) 10 none (10 * b + p) with
          | none =>
            rw [ww_opn_1 hc]
            simp only [ww_enM]
            unfold f_X7_open_j82 f_X7_open_j87
            simp (disch := omega) only [n_lit, n_le, n_lt, n_eq, n_in, n_ckt, n_ix, n_mul, n_add, n_sub, n_div, n_rem, n_b01, n_isb, n_lt0, n_le0, Option.bind_some, if_pos, if_neg, ge_iff_le, gt_iff_lt, Nat.zero_add, Nat.add_zero, n_neg1, n_neg4, if_true, if_false, ite_true, ite_false, n_land1, not_true_eq_false, not_false_eq_true]
          | some y =>
            have hvy := hvo y hx
            have h3y := ww_vld3 r1 hvy
            have qy := ww_vld_iff.mp hvy
            obtain ⟨y6, y7, y8⟩ := hD.2.2.2.1 _ qy.1 _ qy.2
            obtain ⟨k6, k7, k8⟩ := hd.2.2.2.2.2.2.2.1 _ qy.1 _ qy.2
            rw [Nat.zero_add] at y6 y7 y8
            have m1 := hmul _ _ l8 k7
            have m2 := hmul _ _ k8 l7
            rw [ww_opn_2 hc]
            simp only [ww_enM]
            rw [sp_partAt h3y.1 h3y.2]
            unfold f_X7_open_j82 f_X7_open_j87
            simp (disch := omega) only [n_lit, n_le, n_lt, n_eq, n_in, n_ckt, n_ix, n_mul, n_add, n_sub, n_div, n_rem, n_b01, n_isb, n_lt0, n_le0, Option.bind_some, if_pos, if_neg, ge_iff_le, gt_iff_lt, Nat.zero_add, Nat.add_zero, n_neg1, n_neg4, if_true, if_false, ite_true, ite_false, n_land1, not_true_eq_false, not_false_eq_true, e7, e8, y7, y8]
            by_cases c : dLu d y.1 y.2 * dWk d b p < dLu d b p * dWk d y.1 y.2
            · simp [c, show ¬ dLu d b p * dWk d y.1 y.2 ≤ dLu d y.1 y.2 * dWk d b p by omega, show ¬ nI 1 = nI 0 by decide]
            · simp [c, show dLu d b p * dWk d y.1 y.2 ≤ dLu d y.1 y.2 * dWk d b p by omega]
    · unfold f_X7_open_b5
      simp (disch := omega) only [n_lit, n_le, n_lt, n_eq, n_in, n_ckt, n_ix, n_mul, n_add, n_sub, n_div, n_rem, n_b01, n_isb, n_lt0, n_le0, Option.bind_some, if_pos, if_neg, ge_iff_le, gt_iff_lt, Nat.zero_add, Nat.add_zero, n_neg1, n_neg4, if_true, if_false, ite_true, ite_false, n_land1, not_true_eq_false, not_false_eq_true]
