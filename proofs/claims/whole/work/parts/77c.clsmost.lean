/-! ===== the class: the most ===== -/
section PC2
variable {s : ww_S} {d : ww_D1} {rot wo n st k c : Nat}
theorem bt_zero {p : Nat → Bool} {n : Nat} : ww_bits p n = 0 ↔ ∀ i, i < n → p i = false := by
  constructor
  · intro h i hi
    have := bt_test p n i
    rw [h, Nat.zero_testBit, decide_eq_true hi, Bool.true_and] at this
    exact this.symm
  · intro h
    exact bt_eq (fun i => by
      rw [bt_test, Nat.zero_testBit]
      by_cases e : i < n
      · rw [h i e, Bool.and_false]
      · rw [decide_eq_false e, Bool.false_and])
abbrev pc_Q (E : Option (Int32 × ww_M)) (τ : ww_M) (s : ww_S) (d : ww_D1) (rot wo n st k c : Nat) : Prop := ∃ ν, E = some (nI (pl_pv s d rot (n - k) k (ls_W (pl_qc s d wo) c)), ν) ∧ pc_I ν s d rot wo n st ∧ ∀ a, a ≠ 49 → ν a = τ a
theorem sp_case0 {mf : ww_M → Nat → Int32 → Int32 → Option (Int32 × ww_M)} {τ : ww_M} {U : Nat} (hS : pc_S mf s d rot wo n st (k + 1)) (hI : pc_I τ s d rot wo n st) (hk : k < n) (hc : c < 4 ^ fb_ct (pl_qc s d wo) 9) (hU : U = ww_bits (pc_u s d rot wo n k c) (fb_ct (pl_qc s d wo) 9)) (e : U = 0) (x4 : Int32) : pc_Q (f_X0_triedFrom_j28 mf τ 48 (nI k) (nI c) (nI U) x4) τ s d rot wo n st k c := by
  have hsub : n - k - 1 + 1 = n - k := by omega
  obtain ⟨ν, m1, m2, m3⟩ := hS τ c hI hc
  refine ⟨ν, ?_, m2, m3⟩
  have hT := pv_T0 (ab := pl_ab s d) (g := pl_g s d rot) (two := pl_two d) (m := n - k - 1) (k := k) (w := ls_W (pl_qc s d wo) c) (pl_gm s d rot) (fun i hui => by
    obtain ⟨j, h1, rfl⟩ := pc_us_of hui
    rw [pc_us_iff hk h1, bt_zero.mp (hU.symm.trans e) j h1] at hui
    exact absurd hui (by decide))
  rw [hsub] at hT
  unfold f_X0_triedFrom_j28
  rw [e, if_pos (show nI 0 = 0 from rfl), show nI k + 1 = nI (k + 1) from nI_1 k, m1]
  simp only [Option.bind_some]
  rw [show n - (k + 1) = n - k - 1 by omega]
  unfold pl_pv
  rw [hT]
theorem sp_some1 {U : Nat} (hk : k < n) (hU : U = ww_bits (pc_u s d rot wo n k c) (fb_ct (pl_qc s d wo) 9)) (e : ¬ U = 0) : ∃ u, pv_us (pl_ab s d) (pl_g s d rot) (n - k - 1) k (ls_W (pl_qc s d wo) c) u := by
  apply Classical.byContradiction
  intro hno
  refine e (hU.trans (bt_zero.mpr (fun j hj => Bool.eq_false_iff.mpr (fun z => hno ⟨_, (pc_us_iff hk hj).mpr z⟩))))
theorem sp_case1 {mf : ww_M → Nat → Int32 → Int32 → Option (Int32 × ww_M)} {τ : ww_M} {U : Nat} (hS : pc_S mf s d rot wo n st (k + 1)) (hI : pc_I τ s d rot wo n st) (hk : k < n) (hc : c < 4 ^ fb_ct (pl_qc s d wo) 9) (hU : U = ww_bits (pc_u s d rot wo n k c) (fb_ct (pl_qc s d wo) 9)) (hU64 : U < 64) (h1 : pl_two d = false ∨ fb_ct (pc_u s d rot wo n k c) (fb_ct (pl_qc s d wo) 9) ≤ 1) : pc_Q (f_X0_triedFrom_j28 mf τ 48 (nI k) (nI c) (nI U) 0) τ s d rot wo n st k c := by
  have hsub : n - k - 1 + 1 = n - k := by omega
  by_cases e : U = 0
  · exact sp_case0 hS hI hk hc hU e 0
  · obtain ⟨⟨r1, ν⟩, w1, ⟨M, hr, hM1, hM2⟩, w2, w3⟩ := sp_tried1 hS hI hk hc
    rw [← hU] at w1
    dsimp only at hr w2 w3
    subst hr
    have hT := pv_T1 (ab := pl_ab s d) (g := pl_g s d rot) (two := pl_two d) (m := n - k - 1) (k := k) (w := ls_W (pl_qc s d wo) c) (B := M) (pl_gm s d rot) (sp_some1 hk hU e) (by
      rcases h1 with h1 | h1
      · exact Or.inl h1
      · refine Or.inr (fun u v hu hv => ?_)
        obtain ⟨a, a1, rfl⟩ := pc_us_of hu
        obtain ⟨b, b1, rfl⟩ := pc_us_of hv
        rw [pc_us_iff hk a1] at hu
        rw [pc_us_iff hk b1] at hv
        have ea : fb_ct (pc_u s d rot wo n k c) a < fb_ct (pc_u s d rot wo n k c) (fb_ct (pl_qc s d wo) 9) := ls_lt_ct hu a1
        have eb : fb_ct (pc_u s d rot wo n k c) b < fb_ct (pc_u s d rot wo n k c) (fb_ct (pl_qc s d wo) 9) := ls_lt_ct hv b1
        rw [fb_ct_kth_one hu hv (by omega)]) (fun u hu => by
      obtain ⟨a, a1, rfl⟩ := pc_us_of hu
      rw [pc_us_iff hk a1] at hu
      have := hM2 a _ ⟨a1, hu, rfl⟩
      rw [ls_out (j := fb_ct (pl_qc s d wo) 9) (Nat.le_refl _)] at this
      exact this)
    rw [hsub] at hT
    have hME : M = pl_pv s d rot (n - k) k (ls_W (pl_qc s d wo) c) := Nat.le_antisymm hM1 hT
    refine ⟨ν, ?_, w2, w3⟩
    unfold f_X0_triedFrom_j28 f_X0_triedFrom_j49 f_X0_triedFrom_j153
    have e' : ¬ nI U = 0 := by
      rw [show (0 : Int32) = nI 0 from rfl, n_eq (by omega) (by omega)]; exact e
    rw [if_neg e', w1, ← hME]
    rfl
theorem sp_case2 {mf : ww_M → Nat → Int32 → Int32 → Option (Int32 × ww_M)} {τ : ww_M} {U : Nat} (hS : pc_S mf s d rot wo n st (k + 1)) (hI : pc_I τ s d rot wo n st) (hk : k < n) (hc : c < 4 ^ fb_ct (pl_qc s d wo) 9) (hU : U = ww_bits (pc_u s d rot wo n k c) (fb_ct (pl_qc s d wo) 9)) (hU64 : U < 64) (h2 : pl_two d = true) (h1 : 1 < fb_ct (pc_u s d rot wo n k c) (fb_ct (pl_qc s d wo) 9)) : pc_Q (f_X0_triedFrom_j28 mf τ 48 (nI k) (nI c) (nI U) 1) τ s d rot wo n st k c := by
  have hsub : n - k - 1 + 1 = n - k := by omega
  have e : ¬ U = 0 := fun z => by
    have := fb_ct_zero.mpr (bt_zero.mp (hU.symm.trans z))
    omega
  obtain ⟨⟨r1, ν⟩, w1, ⟨M, hr, hM1, hM2⟩, w2, w3⟩ := sp_tried2 hS hI hk hc h2
  rw [← hU] at w1
  dsimp only at hr w2 w3
  subst hr
  obtain ⟨a, a1, a2, a3⟩ := fb_ct_kth (k := 0) (show 0 < fb_ct (pc_u s d rot wo n k c) (fb_ct (pl_qc s d wo) 9) by omega)
  obtain ⟨b, b1, b2, b3⟩ := fb_ct_kth (k := 1) h1
  have hab : a < b := by
    apply Nat.lt_of_not_le
    intro z
    have := fb_ct_mono (pc_u s d rot wo n k c) z
    omega
  have hT := pv_T2 (ab := pl_ab s d) (g := pl_g s d rot) (two := pl_two d) (m := n - k - 1) (k := k) (w := ls_W (pl_qc s d wo) c) (B := M) (pl_gm s d rot) (ls_mono hab a1) ((pc_us_iff hk a1).mpr a2) ((pc_us_iff hk b1).mpr b2) (fun u v huv hu hv => by
    obtain ⟨a, a1, rfl⟩ := pc_us_of hu
    obtain ⟨b, b1, rfl⟩ := pc_us_of hv
    rw [pc_us_iff hk a1] at hu
    rw [pc_us_iff hk b1] at hv
    rw [ls_lt_iff (Nat.le_of_lt a1) (Nat.le_of_lt b1)] at huv
    exact hM2 a b ⟨a1, hu, huv, b1, hv⟩)
  rw [hsub] at hT
  have hME : M = pl_pv s d rot (n - k) k (ls_W (pl_qc s d wo) c) := Nat.le_antisymm hM1 hT
  refine ⟨ν, ?_, w2, w3⟩
  unfold f_X0_triedFrom_j28 f_X0_triedFrom_j49 f_X0_triedFrom_j153
  have e' : ¬ nI U = 0 := by
    rw [show (0 : Int32) = nI 0 from rfl, n_eq (by omega) (by omega)]; exact e
  rw [if_neg e', w1, ← hME]
  rfl
theorem sp_tried {mf : ww_M → Nat → Int32 → Int32 → Option (Int32 × ww_M)} {τ : ww_M} (hS : pc_S mf s d rot wo n st (k + 1)) (hI : pc_I τ s d rot wo n st) (hk : k < n) (hc : c < 4 ^ fb_ct (pl_qc s d wo) 9) : pc_Q (f_X0_triedFrom mf τ 48 (nI k) (nI c)) τ s d rot wo n st k c := by
  have hL := hI.1
  have h6 := pl_qc6 hL.1.1 d wo
  have hu := sp_useful hL hk hc
  have e6 : τ 48 6 = nI (dGng d) := hL.2.2.2.2.1
  have hg1 := hL.1.2.1.2.2.2.1
  have hg2 := hL.1.2.1.2.2.2.2.1
  have hUl := bt_31 (pc_u s d rot wo n k c) h6
  have hbc := ww_bcN (p := pc_u s d rot wo n k c) h6
  have hcl : fb_ct (pc_u s d rot wo n k c) (fb_ct (pl_qc s d wo) 9) ≤ 6 := Nat.le_trans (fb_ct_le _ _) h6
  obtain ⟨U, hU⟩ : ∃ U, U = ww_bits (pc_u s d rot wo n k c) (fb_ct (pl_qc s d wo) 9) := ⟨_, rfl⟩
  obtain ⟨F, hF⟩ : ∃ F, F = fb_ct (pc_u s d rot wo n k c) (fb_ct (pl_qc s d wo) 9) := ⟨_, rfl⟩
  rw [← hU] at hu hUl
  rw [← hU, ← hF] at hbc
  rw [← hF] at hcl
  unfold f_X0_triedFrom f_X0_triedFrom_j27
  rw [hu]
  simp only [Option.bind_some, e6]
  rcases (show dGng d = 1 ∨ dGng d = 2 by omega) with eg | eg
  · have q1 : nI (dGng d) ≤ 1 := by rw [eg]; decide
    rw [if_pos q1]
    exact sp_case1 hS hI hk hc hU hUl (Or.inl (by simp [pl_two, eg]))
  · have q1 : ¬ nI (dGng d) ≤ 1 := by rw [eg]; decide
    rw [if_neg q1, hbc]
    simp only [Option.bind_some]
    by_cases e1 : F ≤ 1
    · have q2 : nI F ≤ 1 := nI_le (b := 1) e1 (by omega)
      rw [if_pos q2]
      exact sp_case1 hS hI hk hc hU hUl (Or.inr (hF ▸ e1))
    · have q2 : ¬ nI F ≤ 1 := by
        rw [show (1 : Int32) = nI 1 from rfl, n_le (by omega) (by omega)]; exact e1
      rw [if_neg q2]
      exact sp_case2 hS hI hk hc hU hUl (by simp [pl_two, eg]) (by omega)
theorem sp_mostS {mf : ww_M → Nat → Int32 → Int32 → Option (Int32 × ww_M)} (hS : k < n → pc_S mf s d rot wo n st (k + 1)) (hkn : k ≤ n) : pc_S (f_X0_mostFromS mf) s d rot wo n st k := fun τ c hI hc => by
  have hL := hI.1
  have h6 := pl_qc6 hL.1.1 d wo
  have h4 := ls_4096 h6
  have hn := hL.2.2.2.2.2
  have h5 : τ 48 5 = nI n := hL.2.2.2.1
  unfold f_X0_mostFromS
  rw [h5]
  by_cases hk : k < n
  · rw [if_pos (nI_lt hk (by omega))]
    have hst := hI.2.2.1
    have e8 := hI.2.1
    obtain ⟨v, v1, v2, v3⟩ := hI.2.2.2 (4096 * k + c) (by omega)
    rw [show (4096 * k + c) / 4096 = k by omega, show (4096 * k + c) % 4096 = c by omega] at v3
    have hbd : pl_pv s d rot (n - k) k (ls_W (pl_qc s d wo) c) ≤ 54 := ls_bd h6 (pl_g9 hL.1.2.1 rot)
    simp only [e8, show τ (48 + 1) = τ 49 from rfl, show (48 + 1 : Nat) = 49 from rfl]
    by_cases e : v / 64 = st
    · refine ⟨τ, ?_, hI, fun a _ => rfl⟩
      rw [← v3 e]
      simp (disch := omega) only [n_lit, n_le, n_lt, n_eq, n_in, n_ckt, n_ix, n_mul, n_add, n_sub, n_div, n_rem, n_b01, n_isb, n_lt0, n_le0, Option.bind_some, if_pos, if_neg, ge_iff_le, gt_iff_lt, Nat.zero_add, Nat.add_zero, n_neg1, n_neg4, if_true, if_false, ite_true, ite_false, n_land1, not_true_eq_false, not_false_eq_true, Nat.mul_comm k 4096, v2, e]
    · obtain ⟨ν, t1, t2, t3⟩ := sp_tried (hS hk) hI hk hc
      refine ⟨ww_up ν 49 (4096 * k + c) (nI (64 * st + pl_pv s d rot (n - k) k (ls_W (pl_qc s d wo) c))), ?_, ?_, ?_⟩
      · simp (disch := omega) only [n_lit, n_le, n_lt, n_eq, n_in, n_ckt, n_ix, n_mul, n_add, n_sub, n_div, n_rem, n_b01, n_isb, n_lt0, n_le0, Option.bind_some, if_pos, if_neg, ge_iff_le, gt_iff_lt, Nat.zero_add, Nat.add_zero, n_neg1, n_neg4, if_true, if_false, ite_true, ite_false, n_land1, not_true_eq_false, not_false_eq_true, Nat.mul_comm k 4096, v2, e, t1, Nat.mul_comm st 64, ww_up_eq, pk_us, show (64 * st + pl_pv s d rot (n - k) k (ls_W (pl_qc s d wo) c)) % 64 = pl_pv s d rot (n - k) k (ls_W (pl_qc s d wo) c) by omega]
      · refine ⟨pc_L_49 t2.1 (fun a ha => ww_up_ne ha), by rw [ww_up_ne (by omega)]; exact t2.2.1, t2.2.2.1, fun i hi => ?_⟩
        by_cases ei : i = 4096 * k + c
        · subst ei
          refine ⟨64 * st + pl_pv s d rot (n - k) k (ls_W (pl_qc s d wo) c), by omega, by rw [ww_up_eq, pk_us], fun _ => ?_⟩
          rw [show (4096 * k + c) / 4096 = k by omega, show (4096 * k + c) % 4096 = c by omega]
          omega
        · obtain ⟨v', u1, u2, u3⟩ := t2.2.2.2 i hi
          exact ⟨v', u1, by rw [ww_up_eq, pk_un ei]; exact u2, u3⟩
      · intro a ha
        rw [ww_up_ne ha]; exact t3 a ha
  · obtain rfl : k = n := by omega
    refine ⟨τ, ?_, hI, fun a _ => rfl⟩
    rw [if_neg (nI_nlt (Nat.le_refl _) (by omega)), Nat.sub_self]
    rfl
theorem sp_most : ∀ (f k : Nat), k ≤ n → n - k < f → pc_S (f_X0_mostFrom f) s d rot wo n st k
  | 0, k, _, h => absurd h (Nat.not_lt_zero _)
  | f + 1, k, hk, h => sp_mostS (fun hk2 => sp_most f (k + 1) (by omega) (by omega)) hk
end PC2
theorem sp_mostBy {σ : ww_M} {s : ww_S} {d : ww_D1} {rot wo n st : Nat} {p4 : Int32} (h : ww_CL1 σ 4 s d) (hn : n ≤ 6) (hr1 : 1 ≤ rot) (hr9 : rot ≤ 9) (hp : ∀ b, b < 3 → (nI b = p4 ↔ b = wo)) (hst : st < 9000) (h8 : σ 48 8 = nI st) (hm : ∀ i, i < 24576 → ∃ v, v < 64 * (st + 1) ∧ σ 49 i = nI v) : ∃ ν, f_X0_mostBy σ 48 4 (nI n) (nI rot) p4 = some (nI (pl_V s d rot wo n), ν) ∧ pc_I ν s d rot wo n (st + 1) ∧ ν 48 7 = nI (ls_cd (fun j => pl_wk d (ls_sl (pl_qc s d wo) j)) (fb_ct (pl_qc s d wo) 9)) ∧ ∀ a, a < 48 ∨ 53 ≤ a → ν a = σ a := by
  obtain ⟨τ, a1, a2, a3, a4, a5⟩ := sp_load h hn hr1 hr9 hp
  have hI : pc_I τ s d rot wo n (st + 1) := by
    refine ⟨a2, by rw [a4, h8, nI_1], by omega, fun i hi => ?_⟩
    obtain ⟨v, v1, v2⟩ := hm i hi
    exact ⟨v, by omega, by rw [a5 49 (by omega)]; exact v2, fun e => by omega⟩
  have hf : ∀ i, i < 9 → pl_qc s d wo i = true → pl_wk d i ≤ 3 := fun i _ hq => pl_wk3 h.2.1 (pl_q_iff.mp (pl_qc_iff.mp hq).1).1
  have hcl : ls_cd (fun j => pl_wk d (ls_sl (pl_qc s d wo) j)) (fb_ct (pl_qc s d wo) 9) < 4 ^ fb_ct (pl_qc s d wo) 9 := ls_cd_lt (fun j hj => hf _ (ls_in hj).1 (ls_in hj).2.1)
  obtain ⟨ν, b1, b2, b3⟩ := sp_most (s := s) (d := d) (rot := rot) (wo := wo) (n := n) (st := st + 1) 8 0 (Nat.zero_le _) (by omega) τ _ hI hcl
  refine ⟨ν, ?_, b2, by rw [b3 48 (by omega)]; exact a3, fun a ha => by rw [b3 a (by omega)]; exact a5 a (by omega)⟩
  unfold f_X0_mostBy
  rw [a1]
  simp only [Option.bind_some, a3]
  rw [show nI 0 = (0 : Int32) from rfl] at b1
  rw [b1]
  simp only [Option.bind_some]
  rw [ls_W_cd hf, Nat.sub_zero]
  unfold pl_V pl_pv
  rw [pv_cong (pl_Eqv s d wo)]
