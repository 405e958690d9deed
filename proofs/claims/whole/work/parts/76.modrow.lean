/-! ===== the row of first best choices ===== -/
def pv_run (ab : Nat → Nat → Bool) (g : Nat → Nat → Nat) (two : Bool) (n : Nat) (w0 : Nat → Nat) : Nat → (Nat → Nat) → Prop
  | 0, w => pv_Eqv ab w0 w
  | h + 1, w => ∃ w' x y, pv_run ab g two n w0 h w' ∧ pv_fst ab g two (n - h - 1) h w' x y ∧ pv_Eqv ab (pv_dn (pv_dn w' x) y) w
theorem pv_run_one {ab : Nat → Nat → Bool} {g : Nat → Nat → Nat} {two : Bool} {n : Nat} {w0 w0' : Nat → Nat} (he : pv_Eqv ab w0 w0') : ∀ h w w', pv_run ab g two n w0 h w → pv_run ab g two n w0' h w' → pv_Eqv ab w w'
  | 0, w, w', a, b => (pv_Eqv.symm a).trans (he.trans b)
  | h + 1, w, w', ⟨v, x, y, a1, a2, a3⟩, ⟨v', x', y', b1, b2, b3⟩ => by
    have e := pv_run_one he h v v' a1 b1
    obtain ⟨rfl, rfl⟩ := pv_fst_one (pv_fst_cong e a2) b2
    exact a3.symm.trans (((e.dn _).dn _).trans b3)
def pv_at (ab : Nat → Nat → Bool) (g : Nat → Nat → Nat) (two : Bool) (n : Nat) (w0 : Nat → Nat) (K x y : Nat) : Prop := ∃ w, pv_run ab g two n w0 K w ∧ pv_fst ab g two (n - K - 1) K w x y
theorem pv_at_one {ab : Nat → Nat → Bool} {g : Nat → Nat → Nat} {two : Bool} {n K x y x' y' : Nat} {w0 w0' : Nat → Nat} (he : pv_Eqv ab w0 w0') (h : pv_at ab g two n w0 K x y) (h' : pv_at ab g two n w0' K x' y') : x = x' ∧ y = y' := by
  obtain ⟨w, a1, a2⟩ := h
  obtain ⟨w', b1, b2⟩ := h'
  exact pv_fst_one (pv_fst_cong (pv_run_one he K w w' a1 b1) a2) b2
def pl_num (x : Nat) : Int32 := if x < 9 then nI (pl_nu x) else -4
/-! ===== the model: the best row ===== -/
theorem sm_first {τ : ww_M} {s : ww_S} {d : ww_D1} {rot wo n h c : Nat} {p1 p2 : Int32} (hB : pm_B τ s d rot wo n) (hT : pm_T τ s d rot wo n) (hh : h < n) (hc : c < 4 ^ fb_ct (pl_q s wo) 9) : ∃ v r, f_X7_choice τ 62 0 = some v ∧ ww_it (f_X7_best_b88 τ 62 p1 p2 (nI c) (nI h)) ww_F (v, 0) = some r ∧ ∃ x y, x ≤ fb_ct (pl_q s wo) 9 ∧ y ≤ fb_ct (pl_q s wo) 9 ∧ r = nI (x + 9 * y) ∧ pv_fst (pl_ab s d) (pl_g s d rot) (pl_two d) (n - h - 1) h (ls_W (pl_q s wo) c) (ls_sl (pl_q s wo) x) (ls_sl (pl_q s wo) y) := by
  have hM := hB.1
  have hN := hB.2.1
  have hn := hB.2.2.2.2.1
  have h6 := pl_q6 hM.1 wo
  have h4 := ls_4096 h6
  have hR := hT (h + 1) (by omega)
  have hrow := hT h (by omega) c hc
  rw [show n - (h + 1) = n - h - 1 by omega] at hR
  rw [show n - h = (n - h - 1) + 1 by omega] at hrow
  have hbd : pl_pv s d rot ((n - h - 1) + 1) h (ls_W (pl_q s wo) c) ≤ 54 := ls_bd h6 (pl_g9 hM.2.1 rot)
  have hch : ∀ i, i < 60 → f_X7_choice τ 62 (nI i) = some (if i / 7 ≤ fb_ct (pl_q s wo) 9 ∧ i % 7 ≤ fb_ct (pl_q s wo) 9 ∧ (i % 7 = fb_ct (pl_q s wo) 9 ∨ (i / 7 < i % 7 ∧ pl_two d = true)) then nI (i / 7 + 9 * (i % 7)) else -1) := fun i hi => by
    have := sm_choice hM hN.1 h6 (show i / 7 ≤ 100 by omega) (show i % 7 ≤ 6 by omega)
    rw [Nat.div_add_mod] at this
    exact this
  have key := ww_it_inv (f := f_X7_best_b88 τ 62 p1 p2 (nI c) (nI h)) (x0 := (if 0 / 7 ≤ fb_ct (pl_q s wo) 9 ∧ 0 % 7 ≤ fb_ct (pl_q s wo) 9 ∧ (0 % 7 = fb_ct (pl_q s wo) 9 ∨ (0 / 7 < 0 % 7 ∧ pl_two d = true)) then nI (0 / 7 + 9 * (0 % 7)) else -1, 0)) (fun i x => x.2 = nI i ∧ f_X7_choice τ 62 (nI i) = some x.1 ∧ ∀ jx jy, jx ≤ fb_ct (pl_q s wo) 9 → jy ≤ fb_ct (pl_q s wo) 9 → 7 * jx + jy < i → pv_ok (pl_ab s d) (pl_two d) h (ls_W (pl_q s wo) c) (ls_sl (pl_q s wo) jx) (ls_sl (pl_q s wo) jy) → ¬ pv_val (pl_ab s d) (pl_g s d rot) (pl_two d) (n - h - 1) h (ls_W (pl_q s wo) c) (ls_sl (pl_q s wo) jx) (ls_sl (pl_q s wo) jy) = pl_pv s d rot ((n - h - 1) + 1) h (ls_W (pl_q s wo) c)) (fun r => ∃ x y, x ≤ fb_ct (pl_q s wo) 9 ∧ y ≤ fb_ct (pl_q s wo) 9 ∧ r = nI (x + 9 * y) ∧ pv_fst (pl_ab s d) (pl_g s d rot) (pl_two d) (n - h - 1) h (ls_W (pl_q s wo) c) (ls_sl (pl_q s wo) x) (ls_sl (pl_q s wo) y)) 49 (by omega) ⟨rfl, hch 0 (by omega), fun jx jy _ _ hj => absurd hj (Nat.not_lt_zero _)⟩ (fun i hi x hx => ?_) (fun x hx => ?_)
  · obtain ⟨r, k1, k2⟩ := key
    exact ⟨_, r, hch 0 (by omega), k1, k2⟩
  · obtain ⟨x1, x2⟩ := x
    dsimp only at hx
    obtain ⟨rfl, hx1, hx2⟩ := hx
    rw [hch i (by omega)] at hx1
    obtain rfl := Option.some.inj hx1
    obtain ⟨v', hnext⟩ : ∃ v', f_X7_choice τ 62 (nI (i + 1)) = some v' := ⟨_, hch (i + 1) (by omega)⟩
    have go : f_X7_best_j129 τ 62 p1 p2 (nI c) (nI h) (nI i) = some (.inl (v', nI (i + 1))) := by
      unfold f_X7_best_j129
      rw [show nI i + 1 = nI (i + 1) from nI_1 i, hnext]
      rfl
    have hinv : (i / 7 ≤ fb_ct (pl_q s wo) 9 → i % 7 ≤ fb_ct (pl_q s wo) 9 → pv_ok (pl_ab s d) (pl_two d) h (ls_W (pl_q s wo) c) (ls_sl (pl_q s wo) (i / 7)) (ls_sl (pl_q s wo) (i % 7)) → ¬ pv_val (pl_ab s d) (pl_g s d rot) (pl_two d) (n - h - 1) h (ls_W (pl_q s wo) c) (ls_sl (pl_q s wo) (i / 7)) (ls_sl (pl_q s wo) (i % 7)) = pl_pv s d rot ((n - h - 1) + 1) h (ls_W (pl_q s wo) c)) → ∀ jx jy, jx ≤ fb_ct (pl_q s wo) 9 → jy ≤ fb_ct (pl_q s wo) 9 → 7 * jx + jy < i + 1 → pv_ok (pl_ab s d) (pl_two d) h (ls_W (pl_q s wo) c) (ls_sl (pl_q s wo) jx) (ls_sl (pl_q s wo) jy) → ¬ pv_val (pl_ab s d) (pl_g s d rot) (pl_two d) (n - h - 1) h (ls_W (pl_q s wo) c) (ls_sl (pl_q s wo) jx) (ls_sl (pl_q s wo) jy) = pl_pv s d rot ((n - h - 1) + 1) h (ls_W (pl_q s wo) c) := fun hn jx jy h1 h2 h3 h4 => by
      by_cases e : 7 * jx + jy < i
      · exact hx2 jx jy h1 h2 e h4
      · obtain ⟨rfl, rfl⟩ : jx = i / 7 ∧ jy = i % 7 := by omega
        exact hn h1 h2 h4
    by_cases c1 : i / 7 ≤ fb_ct (pl_q s wo) 9 ∧ i % 7 ≤ fb_ct (pl_q s wo) 9 ∧ (i % 7 = fb_ct (pl_q s wo) 9 ∨ (i / 7 < i % 7 ∧ pl_two d = true))
    · have c1' := c1
      obtain ⟨hx, hy, hmay⟩ := c1
      have hxy : i % 7 = fb_ct (pl_q s wo) 9 ∨ i / 7 ≠ i % 7 := by omega
      by_cases c2 : pv_can (pl_ab s d) h (ls_W (pl_q s wo) c) (ls_sl (pl_q s wo) (i / 7)) ∧ pv_can (pl_ab s d) h (ls_W (pl_q s wo) c) (ls_sl (pl_q s wo) (i % 7))
      · have hbw := sm_byWork_yes hB hh hc hR hx hy hxy c2.1 c2.2
        have hok : pv_ok (pl_ab s d) (pl_two d) h (ls_W (pl_q s wo) c) (ls_sl (pl_q s wo) (i / 7)) (ls_sl (pl_q s wo) (i % 7)) := ⟨c2.1, c2.2, (ls_may hx hy).mpr hmay⟩
        have hge : _ ≤ pl_pv s d rot ((n - h - 1) + 1) h (ls_W (pl_q s wo) c) := pv_ge (g := pl_g s d rot) (m := n - h - 1) hok
        by_cases c3 : pv_val (pl_ab s d) (pl_g s d rot) (pl_two d) (n - h - 1) h (ls_W (pl_q s wo) c) (ls_sl (pl_q s wo) (i / 7)) (ls_sl (pl_q s wo) (i % 7)) = pl_pv s d rot ((n - h - 1) + 1) h (ls_W (pl_q s wo) c)
        · refine Or.inr ⟨nI (i / 7 + 9 * (i % 7)), ?_, i / 7, i % 7, hx, hy, rfl, ⟨hok, c3⟩, fun x' y' ho hv => ?_⟩
          · unfold f_X7_best_b88
            simp only [if_pos c1', show τ (62 + 11) = τ 73 from rfl]
            simp (disch := omega) only [n_lit, n_le, n_lt, n_eq, n_in, n_ckt, n_ix, n_mul, n_add, n_sub, n_div, n_rem, n_b01, n_isb, n_lt0, n_le0, Option.bind_some, if_pos, if_neg, ge_iff_le, gt_iff_lt, Nat.zero_add, Nat.add_zero, n_neg1, n_neg4, if_true, if_false, ite_true, ite_false, n_land1, not_true_eq_false, not_false_eq_true, show (i / 7 + 9 * (i % 7)) % 9 = i / 7 by omega, show (i / 7 + 9 * (i % 7)) / 9 = i % 7 by omega, hbw, hrow]
          · obtain ⟨jx, a1, rfl⟩ := ls_can_of ho.1
            obtain ⟨jy, a2, rfl⟩ := ls_can_of ho.2.1
            apply Nat.le_of_not_lt
            intro hlt
            rw [ls_pair h6 a1 a2 hx hy, Nat.div_add_mod] at hlt
            exact hx2 jx jy a1 a2 hlt ho hv
        · refine Or.inl ⟨(v', nI (i + 1)), ?_, rfl, hnext, hinv (fun _ _ _ => c3)⟩
          unfold f_X7_best_b88
          simp only [if_pos c1', show τ (62 + 11) = τ 73 from rfl]
          simp (disch := omega) only [n_lit, n_le, n_lt, n_eq, n_in, n_ckt, n_ix, n_mul, n_add, n_sub, n_div, n_rem, n_b01, n_isb, n_lt0, n_le0, Option.bind_some, if_pos, if_neg, ge_iff_le, gt_iff_lt, Nat.zero_add, Nat.add_zero, n_neg1, n_neg4, if_true, if_false, ite_true, ite_false, n_land1, not_true_eq_false, not_false_eq_true, show (i / 7 + 9 * (i % 7)) % 9 = i / 7 by omega, show (i / 7 + 9 * (i % 7)) / 9 = i % 7 by omega, hbw, hrow, c3]
          exact go
      · have hbw := sm_byWork_no hB hh hc hx hy c2
        refine Or.inl ⟨(v', nI (i + 1)), ?_, rfl, hnext, hinv (fun _ _ z => absurd ⟨z.1, z.2.1⟩ c2)⟩
        have e4 : ¬ (-nI 4 = nI (pl_pv s d rot ((n - h - 1) + 1) h (ls_W (pl_q s wo) c))) := fun e => by
          have h2 := n_neg4 (n := pl_pv s d rot ((n - h - 1) + 1) h (ls_W (pl_q s wo) c)) (by omega)
          exact (h2 ▸ e.symm : False)
        unfold f_X7_best_b88
        simp only [if_pos c1', show τ (62 + 11) = τ 73 from rfl]
        simp (disch := omega) only [n_lit, n_le, n_lt, n_eq, n_in, n_ckt, n_ix, n_mul, n_add, n_sub, n_div, n_rem, n_b01, n_isb, n_lt0, n_le0, Option.bind_some, if_pos, if_neg, ge_iff_le, gt_iff_lt, Nat.zero_add, Nat.add_zero, n_neg1, n_neg4, if_true, if_false, ite_true, ite_false, n_land1, not_true_eq_false, not_false_eq_true, show (i / 7 + 9 * (i % 7)) % 9 = i / 7 by omega, show (i / 7 + 9 * (i % 7)) / 9 = i % 7 by omega, hbw, hrow, e4]
        exact go
    · refine Or.inl ⟨(v', nI (i + 1)), ?_, rfl, hnext, hinv (fun h1 h2 z => absurd ⟨h1, h2, (ls_may h1 h2).mp z.2.2⟩ c1)⟩
      unfold f_X7_best_b88
      rw [if_neg c1, if_pos rfl]
      exact go
  · obtain ⟨x1, x2⟩ := x
    dsimp only at hx
    obtain ⟨rfl, hx1, hx2⟩ := hx
    exfalso
    obtain ⟨x, y, ho, hv⟩ := pv_att (ab := pl_ab s d) (g := pl_g s d rot) (two := pl_two d) (m := n - h - 1) (k := h) (w := ls_W (pl_q s wo) c)
    obtain ⟨jx, a1, rfl⟩ := ls_can_of ho.1
    obtain ⟨jy, a2, rfl⟩ := ls_can_of ho.2.1
    exact hx2 jx jy a1 a2 (by omega) ho hv
theorem sm_after {τ : ww_M} {N c x y : Nat} {p1 p2 x6 : Int32} (hN : τ 62 25 = nI N) (h6 : N ≤ 6) (hx : x ≤ N) (hy : y ≤ N) (hc : c < 4096) (h1 : x < N → 4 ^ x ≤ c) (h2 : y < N → 4 ^ y ≤ ls_af N c x) : f_X7_best_j143 τ 62 p1 p2 (nI c) (nI (x + 9 * y)) x6 = some (.inl (nI (ls_af N (ls_af N c x) y), nI (x + 9 * y), x6 + 1)) := by
  unfold f_X7_best_j143 f_X7_best_j170
  simp only [hN]
  have e1 : (x + 9 * y) % 9 = x := by omega
  have e2 : (x + 9 * y) / 9 = y := by omega
  unfold ls_af at h2 ⊢
  by_cases cx : x < N
  · have h1' := h1 cx
    rw [if_pos cx] at h2 ⊢
    by_cases cy : y < N
    · have h2' := h2 cy
      rw [if_pos cy]
      simp (disch := omega) only [n_lit, n_le, n_lt, n_eq, n_in, n_ckt, n_ix, n_mul, n_add, n_sub, n_div, n_rem, n_b01, n_isb, n_lt0, n_le0, Option.bind_some, if_pos, if_neg, ge_iff_le, gt_iff_lt, Nat.zero_add, Nat.add_zero, n_neg1, n_neg4, if_true, if_false, ite_true, ite_false, n_land1, not_true_eq_false, not_false_eq_true, e1, e2, sm_shl4 (show x < 6 by omega), sm_shl4 (show y < 6 by omega)]
    · rw [if_neg cy]
      simp (disch := omega) only [n_lit, n_le, n_lt, n_eq, n_in, n_ckt, n_ix, n_mul, n_add, n_sub, n_div, n_rem, n_b01, n_isb, n_lt0, n_le0, Option.bind_some, if_pos, if_neg, ge_iff_le, gt_iff_lt, Nat.zero_add, Nat.add_zero, n_neg1, n_neg4, if_true, if_false, ite_true, ite_false, n_land1, not_true_eq_false, not_false_eq_true, e1, e2, sm_shl4 (show x < 6 by omega), Nat.sub_zero]
  · rw [if_neg cx] at h2 ⊢
    by_cases cy : y < N
    · have h2' := h2 cy
      rw [if_pos cy]
      simp (disch := omega) only [n_lit, n_le, n_lt, n_eq, n_in, n_ckt, n_ix, n_mul, n_add, n_sub, n_div, n_rem, n_b01, n_isb, n_lt0, n_le0, Option.bind_some, if_pos, if_neg, ge_iff_le, gt_iff_lt, Nat.zero_add, Nat.add_zero, n_neg1, n_neg4, if_true, if_false, ite_true, ite_false, n_land1, not_true_eq_false, not_false_eq_true, e1, e2, sm_shl4 (show y < 6 by omega), Nat.sub_zero]
    · rw [if_neg cy]
      simp (disch := omega) only [n_lit, n_le, n_lt, n_eq, n_in, n_ckt, n_ix, n_mul, n_add, n_sub, n_div, n_rem, n_b01, n_isb, n_lt0, n_le0, Option.bind_some, if_pos, if_neg, ge_iff_le, gt_iff_lt, Nat.zero_add, Nat.add_zero, n_neg1, n_neg4, if_true, if_false, ite_true, ite_false, n_land1, not_true_eq_false, not_false_eq_true, e1, e2, Nat.sub_zero]
theorem sm_bestrow {τ : ww_M} {s : ww_S} {d : ww_D1} {rot wo n K c0 : Nat} {p1 p2 : Int32} (hB : pm_B τ s d rot wo n) (hT : pm_T τ s d rot wo n) (hK : K < n) (hp2 : (p2 - 10) / 2 = nI K) (hc0 : c0 < 4 ^ fb_ct (pl_q s wo) 9) : ∃ r, ww_it (f_X7_best_b66 τ 62 p1 p2) ww_F (nI c0, 0, 0) = some r ∧ ∃ x y, x ≤ fb_ct (pl_q s wo) 9 ∧ y ≤ fb_ct (pl_q s wo) 9 ∧ r = nI (x + 9 * y) ∧ pv_at (pl_ab s d) (pl_g s d rot) (pl_two d) n (ls_W (pl_q s wo) c0) K (ls_sl (pl_q s wo) x) (ls_sl (pl_q s wo) y) := by
  have hM := hB.1
  have hN := hB.2.1
  have hn := hB.2.2.2.2.1
  have h6 := pl_q6 hM.1 wo
  have h4 := ls_4096 h6
  refine ww_it_inv (f := f_X7_best_b66 τ 62 p1 p2) (x0 := (nI c0, 0, 0)) (fun i x => x.2.2 = nI i ∧ (∃ c, x.1 = nI c ∧ c < 4 ^ fb_ct (pl_q s wo) 9 ∧ pv_run (pl_ab s d) (pl_g s d rot) (pl_two d) n (ls_W (pl_q s wo) c0) i (ls_W (pl_q s wo) c)) ∧ (i = K + 1 → ∃ jx jy, jx ≤ fb_ct (pl_q s wo) 9 ∧ jy ≤ fb_ct (pl_q s wo) 9 ∧ x.2.1 = nI (jx + 9 * jy) ∧ pv_at (pl_ab s d) (pl_g s d rot) (pl_two d) n (ls_W (pl_q s wo) c0) K (ls_sl (pl_q s wo) jx) (ls_sl (pl_q s wo) jy))) (fun r => ∃ x y, x ≤ fb_ct (pl_q s wo) 9 ∧ y ≤ fb_ct (pl_q s wo) 9 ∧ r = nI (x + 9 * y) ∧ pv_at (pl_ab s d) (pl_g s d rot) (pl_two d) n (ls_W (pl_q s wo) c0) K (ls_sl (pl_q s wo) x) (ls_sl (pl_q s wo) y)) (K + 1) (by omega) ⟨rfl, ⟨c0, rfl, hc0, fun i hi => Or.inl rfl⟩, fun e => absurd e (by omega)⟩ (fun i hi x hx => ?_) (fun x hx => ?_)
  · obtain ⟨x1, x2, x3⟩ := x
    dsimp only at hx
    obtain ⟨rfl, ⟨c, rfl, hc, hrun⟩, -⟩ := hx
    obtain ⟨v, r, e1, e2, jx, jy, a1, a2, rfl, a3⟩ := sm_first (p1 := p1) (p2 := p2) hB hT (show i < n by omega) hc
    have kx := (ls_can a1).mp a3.1.1.1
    have ky := (ls_can a2).mp a3.1.1.2.1
    have hxy : jy = fb_ct (pl_q s wo) 9 ∨ jx ≠ jy := by
      rcases (ls_may a1 a2).mp a3.1.1.2.2 with e | e <;> omega
    have hd2 := ls_dn2 h6 hc a1 a2 hxy (fun e => (kx e).2) (fun e => (ky e).2)
    refine Or.inl ⟨(nI (ls_af (fb_ct (pl_q s wo) 9) (ls_af (fb_ct (pl_q s wo) 9) c jx) jy), nI (jx + 9 * jy), nI (i + 1)), ?_, rfl, ⟨_, rfl, Nat.lt_of_le_of_lt (ls_af_le _ _ _) (Nat.lt_of_le_of_lt (ls_af_le _ _ _) hc), ⟨_, _, _, hrun, a3, fun i hi => Or.inl (by rw [hd2])⟩⟩, fun e => ⟨jx, jy, a1, a2, rfl, ?_⟩⟩
    · have hf := sm_after (p1 := p1) (p2 := p2) (x6 := nI i) hN.1 h6 a1 a2 (show c < 4096 by omega) (fun e => ls_dig_le (kx e).2) (fun e => by
        unfold ls_af
        by_cases e1 : jx < fb_ct (pl_q s wo) 9
        · rw [if_pos e1]
          refine ls_dig_le ?_
          rw [ls_dig (by omega) (by omega) (by omega) (kx e1).2, if_neg (by omega)]
          exact (ky e).2
        · rw [if_neg e1]; exact ls_dig_le (ky e).2)
      unfold f_X7_best_b66 f_X7_best_j88
      rw [hp2]
      simp only [if_neg (nI_nlt (show i ≤ K by omega) (show K < 2147483648 by omega)), e1, Option.bind_some, e2, hf]
      rw [show nI i + 1 = nI (i + 1) from nI_1 i]
    · obtain rfl : i = K := by omega
      exact ⟨_, hrun, a3⟩
  · obtain ⟨x1, x2, x3⟩ := x
    dsimp only at hx
    obtain ⟨rfl, -, h2⟩ := hx
    refine ⟨x2, ?_, h2 rfl⟩
    unfold f_X7_best_b66
    rw [hp2, if_pos (by rw [n_lt (by omega) (by omega)]; omega)]
theorem sm_best {σ : ww_M} {s : ww_S} {d : ww_D1} {n w : Nat} (hM : ww_MO1 σ s d) (hn : n ≤ 6) (hw : w < 2 * n) : ∃ τ x y, f_X7_best_j36 σ 62 (nI n) (nI (10 + w)) = some (if w % 2 = 0 then pl_num x else pl_num y, τ) ∧ pv_at (pl_ab s d) (pl_g s d (dRot d)) (pl_two d) n (ls_w0 (pl_q s 7) (pl_wk d)) (w / 2) x y ∧ (∀ a, a ≠ 62 → a ≠ 72 → a ≠ 73 → a ≠ 74 → τ a = σ a) ∧ ∀ j, j ≠ 25 → j ≠ 28 → τ 62 j = σ 62 j := by
  have h6 := pl_q6 hM.1 7
  have hd := hM.2.1
  have erot : f_X7_rotNow σ 62 = some (nI (dRot d)) := by
    unfold f_X7_rotNow
    rw [show σ (62 + 1) 13 = nI (dRot d) - 4 from hM.2.2.2.1.2.1, Int32.sub_add_cancel]
  obtain ⟨τ, a1, hB, hT, a4, a5⟩ := sm_layBest (p3 := -4) (wo := 7) hM hn hd.2.1 hd.2.2.1 (fun b hb => by
    rcases (show b = 0 ∨ b = 1 ∨ b = 2 by omega) with rfl | rfl | rfl <;> decide)
  have hleft := sm_leftNow hB.1 hB.2.1
  have hf : ∀ i, i < 9 → pl_q s 7 i = true → pl_wk d i ≤ 3 := fun i _ hq => pl_wk3 hM.2.1 (pl_q_iff.mp hq).1
  have hcl : ls_cd (fun j => pl_wk d (ls_sl (pl_q s 7) j)) (fb_ct (pl_q s 7) 9) < 4 ^ fb_ct (pl_q s 7) 9 := ls_cd_lt (fun j hj => hf _ (ls_in hj).1 (ls_in hj).2.1)
  obtain ⟨r, b1, x, y, b2, b3, rfl, b4⟩ := sm_bestrow (p1 := nI n) (p2 := nI (10 + w)) (K := w / 2) hB hT (by omega) (by
    simp (disch := omega) only [n_lit, n_le, n_lt, n_eq, n_in, n_ckt, n_ix, n_mul, n_add, n_sub, n_div, n_rem, n_b01, n_isb, n_lt0, n_le0, Option.bind_some, if_pos, if_neg, ge_iff_le, gt_iff_lt, Nat.zero_add, Nat.add_zero, n_neg1, n_neg4, if_true, if_false, ite_true, ite_false, n_land1, not_true_eq_false, not_false_eq_true, show (10 + w - 10) / 2 = w / 2 by omega]) hcl
  rw [ls_W_cd hf] at b4
  refine ⟨τ, _, _, ?_, b4, a4, a5⟩
  have fin : ∀ x, x ≤ fb_ct (pl_q s 7) 9 → f_X7_best_j228 τ 62 (nI n) (nI (10 + w)) (nI x) = some (pl_num (ls_sl (pl_q s 7) x), τ) := fun x hx => by
    unfold f_X7_best_j228 pl_num
    simp only [hB.2.1.1, show τ (62 + 10) = τ 72 from rfl]
    by_cases e : x < fb_ct (pl_q s 7) 9
    · have := (ls_in e).1
      rw [if_pos this]
      simp (disch := omega) only [n_lit, n_le, n_lt, n_eq, n_in, n_ckt, n_ix, n_mul, n_add, n_sub, n_div, n_rem, n_b01, n_isb, n_lt0, n_le0, Option.bind_some, if_pos, if_neg, ge_iff_le, gt_iff_lt, Nat.zero_add, Nat.add_zero, n_neg1, n_neg4, if_true, if_false, ite_true, ite_false, n_land1, not_true_eq_false, not_false_eq_true, hB.2.1.2 x e]
    · rw [ls_out (by omega)]
      simp (disch := omega) only [n_lit, n_le, n_lt, n_eq, n_in, n_ckt, n_ix, n_mul, n_add, n_sub, n_div, n_rem, n_b01, n_isb, n_lt0, n_le0, Option.bind_some, if_pos, if_neg, ge_iff_le, gt_iff_lt, Nat.zero_add, Nat.add_zero, n_neg1, n_neg4, if_true, if_false, ite_true, ite_false, n_land1, not_true_eq_false, not_false_eq_true]
  unfold f_X7_best_j36
  rw [erot]
  simp only [Option.bind_some, a1, hleft]
  rw [if_neg (by rw [show (0 : Int32) = nI 0 from rfl, n_eq (by omega) (by omega)]; omega)]
  unfold f_X7_best_j66
  rw [b1]
  simp only [Option.bind_some]
  unfold f_X7_best_j209
  simp (disch := omega) only [n_lit, n_le, n_lt, n_eq, n_in, n_ckt, n_ix, n_mul, n_add, n_sub, n_div, n_rem, n_b01, n_isb, n_lt0, n_le0, Option.bind_some, if_pos, if_neg, ge_iff_le, gt_iff_lt, Nat.zero_add, Nat.add_zero, n_neg1, n_neg4, if_true, if_false, ite_true, ite_false, n_land1, not_true_eq_false, not_false_eq_true, show (x + 9 * y) % 9 = x by omega, show (x + 9 * y) / 9 = y by omega, show (10 + w) % 2 = w % 2 by omega, fin x b2, fin y b3]
  by_cases e : w % 2 = 0
  · rw [if_pos e, if_pos e]
  · rw [if_neg e, if_neg e]
