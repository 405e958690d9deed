/-! ===== the class: its search with a memory ===== -/
def pc_M (τ : ww_M) (s : ww_S) (d : ww_D1) (rot wo n st : Nat) : Prop := ∀ i, i < 24576 → ∃ v, v < 64 * (st + 1) ∧ τ 49 i = nI v ∧ (v / 64 = st → v % 64 = pl_pv s d rot (n - i / 4096) (i / 4096) (ls_W (pl_qc s d wo) (i % 4096)))
abbrev pc_I (τ : ww_M) (s : ww_S) (d : ww_D1) (rot wo n st : Nat) : Prop := pc_L τ s d rot wo n ∧ τ 48 8 = nI st ∧ st < 10000 ∧ pc_M τ s d rot wo n st
theorem pc_L_49 {τ ν : ww_M} {s : ww_S} {d : ww_D1} {rot wo n : Nat} (h : pc_L τ s d rot wo n) (he : ∀ a, a ≠ 49 → ν a = τ a) : pc_L ν s d rot wo n := by
  obtain ⟨h1, h2, h3, h4, h5, h6⟩ := h
  refine ⟨ww_CL1_fr h1 (fun a q1 q2 => he a (by omega)), ?_, ?_, ?_, ?_, h6⟩
  · unfold pc_N; rw [he 48 (by omega), he 50 (by omega)]; exact h2
  · unfold pc_A; rw [he 51 (by omega), he 52 (by omega)]; exact h3
  · rw [he 48 (by omega)]; exact h4
  · rw [he 48 (by omega)]; exact h5
section PC
variable {s : ww_S} {d : ww_D1} {rot wo n st k c : Nat}
theorem sp_able {τ : ww_M} {j : Nat} (hL : pc_L τ s d rot wo n) (hk : k < n) (hj : j < fb_ct (pl_qc s d wo) 9) : (ww_shr (τ 51 k) (nI j) &&& nI 1) = if pl_ab s d k (ls_sl (pl_qc s d wo) j) then nI 1 else nI 0 := by
  have h6 := pl_qc6 hL.1.1 d wo
  rw [(hL.2.2.1 k hk).1]
  have hl := bt_31 (fun j => pl_ab s d k (ls_sl (pl_qc s d wo) j)) h6
  have := ww_bit (a := ww_bits (fun j => pl_ab s d k (ls_sl (pl_qc s d wo) j)) (fb_ct (pl_qc s d wo) 9)) (i := j) (by omega) (by omega)
  rw [bt_test, decide_eq_true hj, Bool.true_and] at this
  exact this
def pc_u (s : ww_S) (d : ww_D1) (rot wo n k c j : Nat) : Bool := pl_ab s d k (ls_sl (pl_qc s d wo) j) && (decide (0 < c / 4 ^ j % 4) && (decide (c / 4 ^ j % 4 ≤ n - k) && decide (0 < pl_g s d rot k (ls_sl (pl_qc s d wo) j))))
theorem sp_useful {τ : ww_M} (hL : pc_L τ s d rot wo n) (hk : k < n) (hc : c < 4 ^ fb_ct (pl_qc s d wo) 9) : f_X0_usefulIn τ 48 (nI k) (nI c) = some (nI (ww_bits (pc_u s d rot wo n k c) (fb_ct (pl_qc s d wo) 9))) := by
  have h6 := pl_qc6 hL.1.1 d wo
  have h4 := ls_4096 h6
  have hn := hL.2.2.2.2.2
  have hg9 := pl_g9 hL.1.2.1 rot
  unfold f_X0_usefulIn f_X0_usefulIn_j5 f_X0_usefulIn_j93
  have key := ww_it_for (f := f_X0_usefulIn_b5 τ 48 (nI k) (nI c)) (fun j => (nI (ww_bits (pc_u s d rot wo n k c) j), nI j)) (fb_ct (pl_qc s d wo) 9) (r := nI (ww_bits (pc_u s d rot wo n k c) (fb_ct (pl_qc s d wo) 9))) (by omega) (fun j hj => ?_) ?_
  · have key' : ww_it (f_X0_usefulIn_b5 τ 48 (nI k) (nI c)) ww_F (0, 0) = _ := key
    rw [key']; rfl
  · have ha := sp_able hL hk hj
    have e52 := (hL.2.2.1 k hk).2 j hj
    have hg := hg9 k (ls_sl (pl_qc s d wo) j)
    have hdl : c / 4 ^ j % 4 < 4 := Nat.mod_lt _ (by omega)
    have hor := bt_or (pc_u s d rot wo n k c) j
    unfold f_X0_usefulIn_b5 f_X0_usefulIn_j42 f_X0_workIn
    simp only [show τ (48 + 3) = τ 51 from rfl, show τ (48 + 4) = τ 52 from rfl, hL.2.1.1, hL.2.2.2.1]
    simp (disch := omega) only [n_lit, n_le, n_lt, n_eq, n_in, n_ckt, n_ix, n_mul, n_add, n_sub, n_div, n_rem, n_b01, n_isb, n_lt0, n_le0, Option.bind_some, if_pos, if_neg, ge_iff_le, gt_iff_lt, Nat.zero_add, Nat.add_zero, n_neg1, n_neg4, if_true, if_false, ite_true, ite_false, n_land1, not_true_eq_false, not_false_eq_true, ha, sm_dig (show c < 4096 by omega) (show j < 6 by omega), Nat.mul_comm k 6, e52, show ww_shl (nI 1) (nI j) = nI (2 ^ j) from ww_shl1 (by omega), fa_or]
    rw [← hor]
    unfold pc_u
    cases c1 : pl_ab s d k (ls_sl (pl_qc s d wo) j)
    · simp [show ¬ nI 0 = nI 1 by decide]
    · by_cases c2 : 0 < c / 4 ^ j % 4
      · by_cases c3 : c / 4 ^ j % 4 ≤ n - k
        · by_cases c4 : 0 < pl_g s d rot k (ls_sl (pl_qc s d wo) j)
          · simp [c2, c3, c4, show ¬ c / 4 ^ j % 4 ≤ 0 by omega, show ¬ n - k < c / 4 ^ j % 4 by omega, show ¬ pl_g s d rot k (ls_sl (pl_qc s d wo) j) ≤ 0 by omega, show ¬ nI 1 = nI 0 by decide]
          · simp [c2, c3, c4, show ¬ c / 4 ^ j % 4 ≤ 0 by omega, show ¬ n - k < c / 4 ^ j % 4 by omega, show pl_g s d rot k (ls_sl (pl_qc s d wo) j) ≤ 0 by omega, show ¬ nI 1 = nI 0 by decide]
        · simp [c2, c3, show ¬ c / 4 ^ j % 4 ≤ 0 by omega, show n - k < c / 4 ^ j % 4 by omega, show ¬ nI 1 = nI 0 by decide]
      · simp [c2, show c / 4 ^ j % 4 ≤ 0 by omega, show ¬ nI 1 = nI 0 by decide]
  · unfold f_X0_usefulIn_b5
    simp only [hL.2.1.1]
    simp (disch := omega) only [n_lit, n_le, n_lt, n_eq, n_in, n_ckt, n_ix, n_mul, n_add, n_sub, n_div, n_rem, n_b01, n_isb, n_lt0, n_le0, Option.bind_some, if_pos, if_neg, ge_iff_le, gt_iff_lt, Nat.zero_add, Nat.add_zero, n_neg1, n_neg4, if_true, if_false, ite_true, ite_false, n_land1, not_true_eq_false, not_false_eq_true]
theorem pc_us_iff {j : Nat} (hk : k < n) (hj : j < fb_ct (pl_qc s d wo) 9) : pv_us (pl_ab s d) (pl_g s d rot) (n - k - 1) k (ls_W (pl_qc s d wo) c) (ls_sl (pl_qc s d wo) j) ↔ pc_u s d rot wo n k c j = true := by
  have h1 := ls_in hj
  unfold pv_us pc_u
  rw [ls_W_sl hj]
  simp only [Bool.and_eq_true, decide_eq_true_eq]
  constructor
  · rintro ⟨a1, a2, a3, a4, a5⟩
    exact ⟨a2, a3, by omega, a5⟩
  · rintro ⟨a2, a3, a4, a5⟩
    exact ⟨h1.1, a2, a3, by omega, a5⟩
theorem pc_us_of {x : Nat} (h : pv_us (pl_ab s d) (pl_g s d rot) (n - k - 1) k (ls_W (pl_qc s d wo) c) x) : ∃ j, j < fb_ct (pl_qc s d wo) 9 ∧ x = ls_sl (pl_qc s d wo) j := by
  have hc : pv_can (pl_ab s d) k (ls_W (pl_qc s d wo) c) x := Or.inr ⟨h.1, h.2.1, h.2.2.1⟩
  obtain ⟨j, h1, rfl⟩ := ls_can_of hc
  refine ⟨j, ?_, rfl⟩
  have := pv_us9 h
  apply Nat.lt_of_not_le
  intro hz
  exact this (ls_out hz)
theorem pc_u_can {j : Nat} (hj : j < fb_ct (pl_qc s d wo) 9) (h : pc_u s d rot wo n k c j = true) : pv_can (pl_ab s d) k (ls_W (pl_qc s d wo) c) (ls_sl (pl_qc s d wo) j) := by
  rw [ls_can (Nat.le_of_lt hj)]
  unfold pc_u at h
  simp only [Bool.and_eq_true, decide_eq_true_eq] at h
  exact fun _ => ⟨h.1, h.2.1⟩
/-- what the search below answers -/
def pc_S (mf : ww_M → Nat → Int32 → Int32 → Option (Int32 × ww_M)) (s : ww_S) (d : ww_D1) (rot wo n st k : Nat) : Prop := ∀ τ c, pc_I τ s d rot wo n st → c < 4 ^ fb_ct (pl_qc s d wo) 9 → ∃ ν, mf τ 48 (nI k) (nI c) = some (nI (pl_pv s d rot (n - k) k (ls_W (pl_qc s d wo) c)), ν) ∧ pc_I ν s d rot wo n st ∧ ∀ a, a ≠ 49 → ν a = τ a
theorem sp_gainOf {τ : ww_M} {j : Nat} (hL : pc_L τ s d rot wo n) (hk : k < n) (hc : c < 4 ^ fb_ct (pl_qc s d wo) 9) (hj : j ≤ fb_ct (pl_qc s d wo) 9) : f_X0_gainOf τ 48 (nI k) (nI c) (nI j) = some (nI (pv_gn (pl_g s d rot) k (ls_W (pl_qc s d wo) c) (ls_sl (pl_qc s d wo) j))) := by
  have h6 := pl_qc6 hL.1.1 d wo
  have h4 := ls_4096 h6
  have hn := hL.2.2.2.2.2
  rw [ls_gn hj]
  unfold f_X0_gainOf f_X0_workIn
  simp only [show τ (48 + 4) = τ 52 from rfl, hL.2.1.1]
  by_cases e : j < fb_ct (pl_qc s d wo) 9
  · have e52 := (hL.2.2.1 k hk).2 j e
    have hdl : c / 4 ^ j % 4 < 4 := Nat.mod_lt _ (by omega)
    simp (disch := omega) only [n_lit, n_le, n_lt, n_eq, n_in, n_ckt, n_ix, n_mul, n_add, n_sub, n_div, n_rem, n_b01, n_isb, n_lt0, n_le0, Option.bind_some, if_pos, if_neg, ge_iff_le, gt_iff_lt, Nat.zero_add, Nat.add_zero, n_neg1, n_neg4, if_true, if_false, ite_true, ite_false, n_land1, not_true_eq_false, not_false_eq_true, sm_dig (show c < 4096 by omega) (show j < 6 by omega), Nat.mul_comm k 6, e52]
    by_cases e1 : c / 4 ^ j % 4 = 1
    · simp [e, e1]
    · simp [e, e1]
  · have e' : ¬ (j < fb_ct (pl_qc s d wo) 9 ∧ c / 4 ^ j % 4 = 1) := fun z => e z.1
    rw [if_neg e']
    simp (disch := omega) only [n_lit, n_le, n_lt, n_eq, n_in, n_ckt, n_ix, n_mul, n_add, n_sub, n_div, n_rem, n_b01, n_isb, n_lt0, n_le0, Option.bind_some, if_pos, if_neg, ge_iff_le, gt_iff_lt, Nat.zero_add, Nat.add_zero, n_neg1, n_neg4, if_true, if_false, ite_true, ite_false, n_land1, not_true_eq_false, not_false_eq_true]
theorem sp_after {τ : ww_M} {N j : Nat} (hN : τ 48 4 = nI N) (h6 : N ≤ 6) (hj : j ≤ N) (h : j < N → 4 ^ j ≤ c) : f_X0_after τ 48 (nI c) (nI j) = some (nI (ls_af N c j)) := by
  unfold f_X0_after ls_af
  rw [hN]
  by_cases e : j < N
  · have h' := h e
    rw [if_pos e]
    simp (disch := omega) only [n_lit, n_le, n_lt, n_eq, n_in, n_ckt, n_ix, n_mul, n_add, n_sub, n_div, n_rem, n_b01, n_isb, n_lt0, n_le0, Option.bind_some, if_pos, if_neg, ge_iff_le, gt_iff_lt, Nat.zero_add, Nat.add_zero, n_neg1, n_neg4, if_true, if_false, ite_true, ite_false, n_land1, not_true_eq_false, not_false_eq_true, sm_shl4 (show j < 6 by omega)]
  · rw [if_neg e]
    simp (disch := omega) only [n_lit, n_le, n_lt, n_eq, n_in, n_ckt, n_ix, n_mul, n_add, n_sub, n_div, n_rem, n_b01, n_isb, n_lt0, n_le0, Option.bind_some, if_pos, if_neg, ge_iff_le, gt_iff_lt, Nat.zero_add, Nat.add_zero, n_neg1, n_neg4, if_true, if_false, ite_true, ite_false, n_land1, not_true_eq_false, not_false_eq_true]
theorem sp_wonBy {mf : ww_M → Nat → Int32 → Int32 → Option (Int32 × ww_M)} {τ : ww_M} {x y : Nat} (hS : pc_S mf s d rot wo n st (k + 1)) (hI : pc_I τ s d rot wo n st) (hk : k < n) (hc : c < 4 ^ fb_ct (pl_qc s d wo) 9) (hx : x ≤ fb_ct (pl_qc s d wo) 9) (hy : y ≤ fb_ct (pl_qc s d wo) 9) (hxy : y = fb_ct (pl_qc s d wo) 9 ∨ x ≠ y) (cx : pv_can (pl_ab s d) k (ls_W (pl_qc s d wo) c) (ls_sl (pl_qc s d wo) x)) (cy : pv_can (pl_ab s d) k (ls_W (pl_qc s d wo) c) (ls_sl (pl_qc s d wo) y)) : ∃ ν, f_X0_wonBy mf τ 48 (nI k) (nI c) (nI x) (nI y) = some (nI (pv_val (pl_ab s d) (pl_g s d rot) (pl_two d) (n - k - 1) k (ls_W (pl_qc s d wo) c) (ls_sl (pl_qc s d wo) x) (ls_sl (pl_qc s d wo) y)), ν) ∧ pc_I ν s d rot wo n st ∧ ∀ a, a ≠ 49 → ν a = τ a := by
  have hL := hI.1
  have h6 := pl_qc6 hL.1.1 d wo
  have h4 := ls_4096 h6
  have kx := (ls_can hx).mp cx
  have ky := (ls_can hy).mp cy
  have hlt : ls_af (fb_ct (pl_qc s d wo) 9) (ls_af (fb_ct (pl_qc s d wo) 9) c x) y < 4 ^ fb_ct (pl_qc s d wo) 9 := Nat.lt_of_le_of_lt (ls_af_le _ _ _) (Nat.lt_of_le_of_lt (ls_af_le _ _ _) hc)
  obtain ⟨ν, m1, m2, m3⟩ := hS τ _ hI hlt
  refine ⟨ν, ?_, m2, m3⟩
  have a1 := sp_after (c := c) hL.2.1.1 h6 hx (fun e => ls_dig_le (kx e).2)
  have a2 := sp_after (c := ls_af (fb_ct (pl_qc s d wo) 9) c x) hL.2.1.1 h6 hy (fun e => by
    unfold ls_af
    by_cases e1 : x < fb_ct (pl_qc s d wo) 9
    · rw [if_pos e1]
      refine ls_dig_le ?_
      rw [ls_dig (by omega) (by omega) (by omega) (kx e1).2, if_neg (by omega)]
      exact (ky e).2
    · rw [if_neg e1]; exact ls_dig_le (ky e).2)
  unfold f_X0_wonBy
  rw [sp_gainOf hL hk hc hx, sp_gainOf hL hk hc hy]
  simp only [Option.bind_some, a1, a2, show nI k + 1 = nI (k + 1) from nI_1 k, m1]
  rw [nI_add, nI_add]
  unfold pv_val
  rw [ls_dn2 h6 hc hx hy hxy (fun e => (kx e).2) (fun e => (ky e).2), show n - (k + 1) = n - k - 1 by omega]
  rfl
theorem ww_maxN {a b : Nat} (ha : a < 2147483648) (hb : b < 2147483648) : ww_max (nI a) (nI b) = nI (if a < b then b else a) := by
  unfold ww_max
  simp only [n_lt ha hb]
  by_cases e : a < b
  · rw [if_pos e, if_pos e]
  · rw [if_neg e, if_neg e]
theorem pc_bit {j : Nat} {u : Nat → Bool} {N : Nat} (hN : N ≤ 6) (hj : j < N) : (ww_shr (nI (ww_bits u N)) (nI j) &&& nI 1) = if u j then nI 1 else nI 0 := by
  have hl := bt_31 u hN
  have := ww_bit (a := ww_bits u N) (i := j) (by omega) (by omega)
  rw [bt_test, decide_eq_true hj, Bool.true_and] at this
  exact this
abbrev pc_G (s : ww_S) (d : ww_D1) (rot wo n k c : Nat) (P : Nat → Nat → Prop) (M : Nat) : Prop := M ≤ pl_pv s d rot (n - k) k (ls_W (pl_qc s d wo) c) ∧ ∀ x y, P x y → pv_val (pl_ab s d) (pl_g s d rot) (pl_two d) (n - k - 1) k (ls_W (pl_qc s d wo) c) (ls_sl (pl_qc s d wo) x) (ls_sl (pl_qc s d wo) y) ≤ M
theorem sp_tried1 {mf : ww_M → Nat → Int32 → Int32 → Option (Int32 × ww_M)} {τ : ww_M} (hS : pc_S mf s d rot wo n st (k + 1)) (hI : pc_I τ s d rot wo n st) (hk : k < n) (hc : c < 4 ^ fb_ct (pl_qc s d wo) 9) : ∃ r, ww_it (f_X0_triedFrom_b49 mf 48 (nI k) (nI c) (nI (ww_bits (pc_u s d rot wo n k c) (fb_ct (pl_qc s d wo) 9))) 0) ww_F (0, 0, τ) = some r ∧ (∃ M, r.1 = nI M ∧ pc_G s d rot wo n k c (fun x y => x < fb_ct (pl_qc s d wo) 9 ∧ pc_u s d rot wo n k c x = true ∧ y = fb_ct (pl_qc s d wo) 9) M) ∧ pc_I r.2 s d rot wo n st ∧ ∀ a, a ≠ 49 → r.2 a = τ a := by
  have hL := hI.1
  have h6 := pl_qc6 hL.1.1 d wo
  have hn := hL.2.2.2.2.2
  have hbd : pl_pv s d rot (n - k) k (ls_W (pl_qc s d wo) c) ≤ 54 := ls_bd h6 (pl_g9 hL.1.2.1 rot)
  refine ww_it_inv (f := f_X0_triedFrom_b49 mf 48 (nI k) (nI c) (nI (ww_bits (pc_u s d rot wo n k c) (fb_ct (pl_qc s d wo) 9))) 0) (x0 := (0, 0, τ)) (fun i x => x.2.1 = nI i ∧ (∃ M, x.1 = nI M ∧ pc_G s d rot wo n k c (fun x y => x < i ∧ pc_u s d rot wo n k c x = true ∧ y = fb_ct (pl_qc s d wo) 9) M) ∧ pc_I x.2.2 s d rot wo n st ∧ ∀ a, a ≠ 49 → x.2.2 a = τ a) (fun r => (∃ M, r.1 = nI M ∧ pc_G s d rot wo n k c (fun x y => x < fb_ct (pl_qc s d wo) 9 ∧ pc_u s d rot wo n k c x = true ∧ y = fb_ct (pl_qc s d wo) 9) M) ∧ pc_I r.2 s d rot wo n st ∧ ∀ a, a ≠ 49 → r.2 a = τ a) (fb_ct (pl_qc s d wo) 9) (by omega) ⟨rfl, ⟨0, rfl, Nat.zero_le _, fun x y h => absurd h.1 (Nat.not_lt_zero x)⟩, hI, fun a _ => rfl⟩ (fun i hi x hx => ?_) (fun x hx => ?_)
  · obtain ⟨x1, x2, ν⟩ := x
    dsimp only at hx
    obtain ⟨rfl, ⟨M, rfl, hM1, hM2⟩, k3, k4⟩ := hx
    have e4 : ν 48 4 = nI (fb_ct (pl_qc s d wo) 9) := k3.1.2.1.1
    have hb := pc_bit (u := pc_u s d rot wo n k c) h6 hi
    refine Or.inl ?_
    cases c1 : pc_u s d rot wo n k c i
    · rw [c1] at hb
      refine ⟨(nI M, nI (i + 1), ν), ?_, rfl, ⟨M, rfl, hM1, fun x y h => hM2 x y ⟨?_, h.2⟩⟩, k3, k4⟩
      · unfold f_X0_triedFrom_b49 f_X0_triedFrom_j147
        simp only [e4]
        simp (disch := omega) only [n_lit, n_le, n_lt, n_eq, n_in, n_ckt, n_ix, n_mul, n_add, n_sub, n_div, n_rem, n_b01, n_isb, n_lt0, n_le0, Option.bind_some, if_pos, if_neg, ge_iff_le, gt_iff_lt, Nat.zero_add, Nat.add_zero, n_neg1, n_neg4, if_true, if_false, ite_true, ite_false, n_land1, not_true_eq_false, not_false_eq_true, hb]
        simp
      · have := h.1
        have h2 : x ≠ i := fun e => by
          have := h.2.1
          rw [e, c1] at this
          exact absurd this (by decide)
        omega
    · rw [c1] at hb
      obtain ⟨μ, w1, w2, w3⟩ := sp_wonBy hS k3 hk hc (Nat.le_of_lt hi) (Nat.le_refl _) (Or.inl rfl) (pc_u_can hi c1) (by rw [ls_out (Nat.le_refl _)]; exact Or.inl rfl)
      have hge := pv_ge (ab := pl_ab s d) (two := pl_two d) (g := pl_g s d rot) (m := n - k - 1) (k := k) (w := ls_W (pl_qc s d wo) c) (x := ls_sl (pl_qc s d wo) i) (y := ls_sl (pl_qc s d wo) (fb_ct (pl_qc s d wo) 9)) ⟨pc_u_can hi c1, by rw [ls_out (Nat.le_refl _)]; exact Or.inl rfl, by rw [ls_out (Nat.le_refl _)]; exact Or.inl rfl⟩
      rw [show n - k - 1 + 1 = n - k by omega] at hge
      have hge' : _ ≤ pl_pv s d rot (n - k) k (ls_W (pl_qc s d wo) c) := hge
      have e4m : μ 48 4 = nI (fb_ct (pl_qc s d wo) 9) := w2.1.2.1.1
      generalize hV : pv_val (pl_ab s d) (pl_g s d rot) (pl_two d) (n - k - 1) k (ls_W (pl_qc s d wo) c) (ls_sl (pl_qc s d wo) i) (ls_sl (pl_qc s d wo) (fb_ct (pl_qc s d wo) 9)) = V at w1 hge'
      refine ⟨(nI (if M < V then V else M), nI (i + 1), μ), ?_, rfl, ⟨_, rfl, ?_, fun x y h => ?_⟩, w2, fun a ha => by show μ a = τ a; rw [w3 a ha]; exact k4 a ha⟩
      · have hit : ∀ z : Int32, ww_it (f_X0_triedFrom_b100 mf 48 (nI k) (nI c) (nI (ww_bits (pc_u s d rot wo n k c) (fb_ct (pl_qc s d wo) 9))) (nI 0) (nI i)) ww_F (z, nI (i + 1), μ) = some (z, μ) := fun z => ww_it_done (by
          unfold f_X0_triedFrom_b100
          rw [if_pos (show nI 0 = 0 from rfl)])
        have hmx := ww_maxN (a := M) (b := V) (by omega) (by omega)
        unfold f_X0_triedFrom_b49 f_X0_triedFrom_j94 f_X0_triedFrom_j100 f_X0_triedFrom_j147
        simp only [e4]
        simp (disch := omega) only [n_lit, n_le, n_lt, n_eq, n_in, n_ckt, n_ix, n_mul, n_add, n_sub, n_div, n_rem, n_b01, n_isb, n_lt0, n_le0, Option.bind_some, if_pos, if_neg, ge_iff_le, gt_iff_lt, Nat.zero_add, Nat.add_zero, n_neg1, n_neg4, if_true, if_false, ite_true, ite_false, n_land1, not_true_eq_false, not_false_eq_true, hb, w1, hit, hmx]
        try simp [show ¬ nI 1 = nI 0 by decide]
      · by_cases e : M < V
        · rw [if_pos e]; exact hge'
        · rw [if_neg e]; exact hM1
      · obtain ⟨h1, h2, rfl⟩ := h
        by_cases e : x = i
        · subst e
          rw [hV]
          split <;> omega
        · have := hM2 x _ ⟨by omega, h2, rfl⟩
          split <;> omega
  · obtain ⟨x1, x2, ν⟩ := x
    dsimp only at hx
    obtain ⟨rfl, k2, k3, k4⟩ := hx
    refine ⟨(x1, ν), ?_, k2, k3, k4⟩
    have e4 : ν 48 4 = nI (fb_ct (pl_qc s d wo) 9) := k3.1.2.1.1
    unfold f_X0_triedFrom_b49
    simp only [e4]
    simp (disch := omega) only [n_lit, n_le, n_lt, n_eq, n_in, n_ckt, n_ix, n_mul, n_add, n_sub, n_div, n_rem, n_b01, n_isb, n_lt0, n_le0, Option.bind_some, if_pos, if_neg, ge_iff_le, gt_iff_lt, Nat.zero_add, Nat.add_zero, n_neg1, n_neg4, if_true, if_false, ite_true, ite_false, n_land1, not_true_eq_false, not_false_eq_true]
theorem sp_tried2i {mf : ww_M → Nat → Int32 → Int32 → Option (Int32 × ww_M)} {τ : ww_M} {i M : Nat} (hS : pc_S mf s d rot wo n st (k + 1)) (hI : pc_I τ s d rot wo n st) (hk : k < n) (hc : c < 4 ^ fb_ct (pl_qc s d wo) 9) (h2 : pl_two d = true) (hi : i < fb_ct (pl_qc s d wo) 9) (hu : pc_u s d rot wo n k c i = true) (hM : M ≤ pl_pv s d rot (n - k) k (ls_W (pl_qc s d wo) c)) : ∃ r, ww_it (f_X0_triedFrom_b100 mf 48 (nI k) (nI c) (nI (ww_bits (pc_u s d rot wo n k c) (fb_ct (pl_qc s d wo) 9))) 1 (nI i)) ww_F (nI M, nI (i + 1), τ) = some r ∧ (∃ M', r.1 = nI M' ∧ M ≤ M' ∧ pc_G s d rot wo n k c (fun x y => x = i ∧ i < y ∧ y < fb_ct (pl_qc s d wo) 9 ∧ pc_u s d rot wo n k c y = true) M') ∧ pc_I r.2 s d rot wo n st ∧ ∀ a, a ≠ 49 → r.2 a = τ a := by
  have hL := hI.1
  have h6 := pl_qc6 hL.1.1 d wo
  have hn := hL.2.2.2.2.2
  have hbd : pl_pv s d rot (n - k) k (ls_W (pl_qc s d wo) c) ≤ 54 := ls_bd h6 (pl_g9 hL.1.2.1 rot)
  refine ww_it_inv (f := f_X0_triedFrom_b100 mf 48 (nI k) (nI c) (nI (ww_bits (pc_u s d rot wo n k c) (fb_ct (pl_qc s d wo) 9))) 1 (nI i)) (x0 := (nI M, nI (i + 1), τ)) (fun t x => x.2.1 = nI (i + 1 + t) ∧ (∃ M', x.1 = nI M' ∧ M ≤ M' ∧ pc_G s d rot wo n k c (fun x y => x = i ∧ i < y ∧ y < i + 1 + t ∧ pc_u s d rot wo n k c y = true) M') ∧ pc_I x.2.2 s d rot wo n st ∧ ∀ a, a ≠ 49 → x.2.2 a = τ a) (fun r => (∃ M', r.1 = nI M' ∧ M ≤ M' ∧ pc_G s d rot wo n k c (fun x y => x = i ∧ i < y ∧ y < fb_ct (pl_qc s d wo) 9 ∧ pc_u s d rot wo n k c y = true) M') ∧ pc_I r.2 s d rot wo n st ∧ ∀ a, a ≠ 49 → r.2 a = τ a) (fb_ct (pl_qc s d wo) 9 - (i + 1)) (by omega) ⟨rfl, ⟨M, rfl, Nat.le_refl _, hM, fun x y h => by omega⟩, hI, fun a _ => rfl⟩ (fun t ht x hx => ?_) (fun x hx => ?_)
  · obtain ⟨x1, x2, ν⟩ := x
    dsimp only at hx
    obtain ⟨rfl, ⟨M', rfl, hMM, hM1, hM2⟩, k3, k4⟩ := hx
    have e4 : ν 48 4 = nI (fb_ct (pl_qc s d wo) 9) := k3.1.2.1.1
    have hj : i + 1 + t < fb_ct (pl_qc s d wo) 9 := by omega
    have hb := pc_bit (u := pc_u s d rot wo n k c) h6 hj
    refine Or.inl ?_
    cases c1 : pc_u s d rot wo n k c (i + 1 + t)
    · rw [c1] at hb
      refine ⟨(nI M', nI (i + 1 + (t + 1)), ν), ?_, rfl, ⟨M', rfl, hMM, hM1, fun x y h => hM2 x y ⟨h.1, h.2.1, ?_, h.2.2.2⟩⟩, k3, k4⟩
      · unfold f_X0_triedFrom_b100
        simp only [e4]
        simp (disch := omega) only [n_lit, n_le, n_lt, n_eq, n_in, n_ckt, n_ix, n_mul, n_add, n_sub, n_div, n_rem, n_b01, n_isb, n_lt0, n_le0, Option.bind_some, if_pos, if_neg, ge_iff_le, gt_iff_lt, Nat.zero_add, Nat.add_zero, n_neg1, n_neg4, if_true, if_false, ite_true, ite_false, n_land1, not_true_eq_false, not_false_eq_true, hb]
        simp [show ¬ nI 0 = nI 1 by decide, Nat.add_assoc]
      · have h1 := h.2.2.1
        have h2 : y ≠ i + 1 + t := fun e => by
          have := h.2.2.2
          rw [e, c1] at this
          exact absurd this (by decide)
        omega
    · rw [c1] at hb
      obtain ⟨μ, w1, w2, w3⟩ := sp_wonBy hS k3 hk hc (Nat.le_of_lt hi) (Nat.le_of_lt hj) (Or.inr (by omega)) (pc_u_can hi hu) (pc_u_can hj c1)
      have hge := pv_ge (ab := pl_ab s d) (two := pl_two d) (g := pl_g s d rot) (m := n - k - 1) (k := k) (w := ls_W (pl_qc s d wo) c) (x := ls_sl (pl_qc s d wo) i) (y := ls_sl (pl_qc s d wo) (i + 1 + t)) ⟨pc_u_can hi hu, pc_u_can hj c1, (ls_may (Nat.le_of_lt hi) (Nat.le_of_lt hj)).mpr (Or.inr ⟨by omega, h2⟩)⟩
      rw [show n - k - 1 + 1 = n - k by omega] at hge
      have hge' : _ ≤ pl_pv s d rot (n - k) k (ls_W (pl_qc s d wo) c) := hge
      generalize hV : pv_val (pl_ab s d) (pl_g s d rot) (pl_two d) (n - k - 1) k (ls_W (pl_qc s d wo) c) (ls_sl (pl_qc s d wo) i) (ls_sl (pl_qc s d wo) (i + 1 + t)) = V at w1 hge'
      refine ⟨(nI (if M' < V then V else M'), nI (i + 1 + (t + 1)), μ), ?_, rfl, ⟨_, rfl, ?_, ?_, fun x y h => ?_⟩, w2, fun a ha => by show μ a = τ a; rw [w3 a ha]; exact k4 a ha⟩
      · have hmx := ww_maxN (a := M') (b := V) (by omega) (by omega)
        unfold f_X0_triedFrom_b100
        simp only [e4]
        simp (disch := omega) only [n_lit, n_le, n_lt, n_eq, n_in, n_ckt, n_ix, n_mul, n_add, n_sub, n_div, n_rem, n_b01, n_isb, n_lt0, n_le0, Option.bind_some, if_pos, if_neg, ge_iff_le, gt_iff_lt, Nat.zero_add, Nat.add_zero, n_neg1, n_neg4, if_true, if_false, ite_true, ite_false, n_land1, not_true_eq_false, not_false_eq_true, hb, w1, hmx]
        simp [show ¬ nI 1 = nI 0 by decide, Nat.add_assoc]
      · split <;> omega
      · by_cases e : M' < V
        · rw [if_pos e]; exact hge'
        · rw [if_neg e]; exact hM1
      · obtain ⟨rfl, h1, h2, h3⟩ := h
        by_cases e : y = x + 1 + t
        · subst e
          rw [hV]
          split <;> omega
        · have := hM2 x y ⟨rfl, h1, by omega, h3⟩
          split <;> omega
  · obtain ⟨x1, x2, ν⟩ := x
    dsimp only at hx
    obtain ⟨rfl, k2, k3, k4⟩ := hx
    rw [show i + 1 + (fb_ct (pl_qc s d wo) 9 - (i + 1)) = fb_ct (pl_qc s d wo) 9 by omega] at k2 ⊢
    refine ⟨(x1, ν), ?_, k2, k3, k4⟩
    have e4 : ν 48 4 = nI (fb_ct (pl_qc s d wo) 9) := k3.1.2.1.1
    unfold f_X0_triedFrom_b100
    simp only [e4]
    simp (disch := omega) only [n_lit, n_le, n_lt, n_eq, n_in, n_ckt, n_ix, n_mul, n_add, n_sub, n_div, n_rem, n_b01, n_isb, n_lt0, n_le0, Option.bind_some, if_pos, if_neg, ge_iff_le, gt_iff_lt, Nat.zero_add, Nat.add_zero, n_neg1, n_neg4, if_true, if_false, ite_true, ite_false, n_land1, not_true_eq_false, not_false_eq_true]
theorem sp_tried2 {mf : ww_M → Nat → Int32 → Int32 → Option (Int32 × ww_M)} {τ : ww_M} (hS : pc_S mf s d rot wo n st (k + 1)) (hI : pc_I τ s d rot wo n st) (hk : k < n) (hc : c < 4 ^ fb_ct (pl_qc s d wo) 9) (h2 : pl_two d = true) : ∃ r, ww_it (f_X0_triedFrom_b49 mf 48 (nI k) (nI c) (nI (ww_bits (pc_u s d rot wo n k c) (fb_ct (pl_qc s d wo) 9))) 1) ww_F (0, 0, τ) = some r ∧ (∃ M, r.1 = nI M ∧ pc_G s d rot wo n k c (fun x y => x < fb_ct (pl_qc s d wo) 9 ∧ pc_u s d rot wo n k c x = true ∧ x < y ∧ y < fb_ct (pl_qc s d wo) 9 ∧ pc_u s d rot wo n k c y = true) M) ∧ pc_I r.2 s d rot wo n st ∧ ∀ a, a ≠ 49 → r.2 a = τ a := by
  have hL := hI.1
  have h6 := pl_qc6 hL.1.1 d wo
  have hn := hL.2.2.2.2.2
  have hbd : pl_pv s d rot (n - k) k (ls_W (pl_qc s d wo) c) ≤ 54 := ls_bd h6 (pl_g9 hL.1.2.1 rot)
  refine ww_it_inv (f := f_X0_triedFrom_b49 mf 48 (nI k) (nI c) (nI (ww_bits (pc_u s d rot wo n k c) (fb_ct (pl_qc s d wo) 9))) 1) (x0 := (0, 0, τ)) (fun i x => x.2.1 = nI i ∧ (∃ M, x.1 = nI M ∧ pc_G s d rot wo n k c (fun x y => x < i ∧ pc_u s d rot wo n k c x = true ∧ x < y ∧ y < fb_ct (pl_qc s d wo) 9 ∧ pc_u s d rot wo n k c y = true) M) ∧ pc_I x.2.2 s d rot wo n st ∧ ∀ a, a ≠ 49 → x.2.2 a = τ a) (fun r => (∃ M, r.1 = nI M ∧ pc_G s d rot wo n k c (fun x y => x < fb_ct (pl_qc s d wo) 9 ∧ pc_u s d rot wo n k c x = true ∧ x < y ∧ y < fb_ct (pl_qc s d wo) 9 ∧ pc_u s d rot wo n k c y = true) M) ∧ pc_I r.2 s d rot wo n st ∧ ∀ a, a ≠ 49 → r.2 a = τ a) (fb_ct (pl_qc s d wo) 9) (by omega) ⟨rfl, ⟨0, rfl, Nat.zero_le _, fun x y h => absurd h.1 (Nat.not_lt_zero x)⟩, hI, fun a _ => rfl⟩ (fun i hi x hx => ?_) (fun x hx => ?_)
  · obtain ⟨x1, x2, ν⟩ := x
    dsimp only at hx
    obtain ⟨rfl, ⟨M, rfl, hM1, hM2⟩, k3, k4⟩ := hx
    have e4 : ν 48 4 = nI (fb_ct (pl_qc s d wo) 9) := k3.1.2.1.1
    have hb := pc_bit (u := pc_u s d rot wo n k c) h6 hi
    refine Or.inl ?_
    cases c1 : pc_u s d rot wo n k c i
    · rw [c1] at hb
      refine ⟨(nI M, nI (i + 1), ν), ?_, rfl, ⟨M, rfl, hM1, fun x y h => hM2 x y ⟨?_, h.2⟩⟩, k3, k4⟩
      · unfold f_X0_triedFrom_b49 f_X0_triedFrom_j147
        simp only [e4]
        simp (disch := omega) only [n_lit, n_le, n_lt, n_eq, n_in, n_ckt, n_ix, n_mul, n_add, n_sub, n_div, n_rem, n_b01, n_isb, n_lt0, n_le0, Option.bind_some, if_pos, if_neg, ge_iff_le, gt_iff_lt, Nat.zero_add, Nat.add_zero, n_neg1, n_neg4, if_true, if_false, ite_true, ite_false, n_land1, not_true_eq_false, not_false_eq_true, hb]
        simp
      · have := h.1
        have h2 : x ≠ i := fun e => by
          have := h.2.1
          rw [e, c1] at this
          exact absurd this (by decide)
        omega
    · rw [c1] at hb
      obtain ⟨⟨r1, μ⟩, w1, ⟨M', hr, hMM, hG1, hG2⟩, w2, w3⟩ := sp_tried2i hS k3 hk hc h2 hi c1 hM1
      dsimp only at hr w2 w3
      subst hr
      refine ⟨(nI M', nI (i + 1), μ), ?_, rfl, ⟨M', rfl, hG1, fun x y h => ?_⟩, w2, fun a ha => by show μ a = τ a; rw [w3 a ha]; exact k4 a ha⟩
      · rw [show (1 : Int32) = nI 1 from rfl] at w1
        unfold f_X0_triedFrom_b49 f_X0_triedFrom_j94 f_X0_triedFrom_j100 f_X0_triedFrom_j147
        simp only [e4]
        simp (disch := omega) only [n_lit, n_le, n_lt, n_eq, n_in, n_ckt, n_ix, n_mul, n_add, n_sub, n_div, n_rem, n_b01, n_isb, n_lt0, n_le0, Option.bind_some, if_pos, if_neg, ge_iff_le, gt_iff_lt, Nat.zero_add, Nat.add_zero, n_neg1, n_neg4, if_true, if_false, ite_true, ite_false, n_land1, not_true_eq_false, not_false_eq_true, hb, w1]
        try simp [show ¬ nI 1 = nI 0 by decide]
      · obtain ⟨h1, h2, h3, h4, h5⟩ := h
        by_cases e : x = i
        · subst e
          exact hG2 x y ⟨rfl, h3, h4, h5⟩
        · exact Nat.le_trans (hM2 x y ⟨by omega, h2, h3, h4, h5⟩) hMM
  · obtain ⟨x1, x2, ν⟩ := x
    dsimp only at hx
    obtain ⟨rfl, k2, k3, k4⟩ := hx
    refine ⟨(x1, ν), ?_, k2, k3, k4⟩
    have e4 : ν 48 4 = nI (fb_ct (pl_qc s d wo) 9) := k3.1.2.1.1
    unfold f_X0_triedFrom_b49
    simp only [e4]
    simp (disch := omega) only [n_lit, n_le, n_lt, n_eq, n_in, n_ckt, n_ix, n_mul, n_add, n_sub, n_div, n_rem, n_b01, n_isb, n_lt0, n_le0, Option.bind_some, if_pos, if_neg, ge_iff_le, gt_iff_lt, Nat.zero_add, Nat.add_zero, n_neg1, n_neg4, if_true, if_false, ite_true, ite_false, n_land1, not_true_eq_false, not_false_eq_true]
end PC
