/-! ===== best, worth, salted ===== -/
theorem ww_Rel_plan {k : Nat} {σ τ : ww_M} {s : ww_S} {d : ww_D1} (h : ww_Rel k σ s d) (hc : ∀ a, (a < 48 ∨ 53 ≤ a) → a ≠ 62 → a ≠ 72 → a ≠ 73 → a ≠ 74 → τ a = σ a) (h62 : ∀ j, j ≠ 25 → j ≠ 28 → τ 62 j = σ 62 j) (hm : ww_Rmemo (k + 1) (τ 48 8) (τ 49)) : ww_Rel (k + 1) τ s d := by
  obtain ⟨r1, r2, r3, r4, r5, r6, r7, r8, -, ⟨kb, k1, k2, k3⟩, r11, r12, r13, r14⟩ := h
  have q : ∀ a, (a < 48 ∨ (53 ≤ a ∧ a < 62) ∨ (63 ≤ a ∧ a < 72) ∨ 75 ≤ a) → τ a = σ a := fun a ha => hc a (by omega) (by omega) (by omega) (by omega) (by omega)
  have h63 : τ 63 = σ 63 := q 63 (by omega)
  refine ⟨r1, r2, ww_ClsA_ext r3 (fun a _ _ => q a (by omega)), ?_, ?_, ?_, ?_, ?_, hm, ⟨kb, k1, ?_, fun j hj => ⟨?_, fun ht => ?_⟩⟩, fun j hj => ?_, ?_, ?_, ?_⟩
  · rw [h62 3 (by omega) (by omega), h62 2 (by omega) (by omega), h62 5 (by omega) (by omega), q 64 (by omega), q 65 (by omega)]; exact r4
  · rw [h63]; exact r5
  · rw [q 1 (by omega), q 2 (by omega), h62 14 (by omega) (by omega), q 69 (by omega)]; exact r6
  · rw [q 3 (by omega), h62 15 (by omega) (by omega)]; exact r7
  · rw [q 45 (by omega), q 46 (by omega), q 47 (by omega), h62 30 (by omega) (by omega), q 75 (by omega)]; exact r8
  · rw [q 0 (by omega)]; exact k2
  · rw [q 76 (by omega)]; exact (k3 j hj).1
  · obtain ⟨d2, e1, e2, e3⟩ := (k3 j hj).2 ht
    exact ⟨d2, e1, ww_ClsA_ext e2 (fun a _ _ => q a (by omega)), by rw [h63]; exact e3⟩
  · rw [q (54 + 2 * j) (by omega), q (55 + 2 * j) (by omega), q 77 (by omega), q 78 (by omega), q 79 (by omega)]; exact r11 j hj
  · rw [q 0 (by omega), h62 35 (by omega) (by omega)]; exact r12
  · rw [q 70 (by omega)]; exact r13
  · rw [q 71 (by omega)]; exact r14
theorem pc_memo {ν : ww_M} {s : ww_S} {d : ww_D1} {rot wo n st : Nat} (h : pc_I ν s d rot wo n st) : ν 48 8 = nI st ∧ ∀ i, i < 24576 → ∃ v, v < 64 * (st + 1) ∧ ν 49 i = nI v := ⟨h.2.1, fun i hi => by
  obtain ⟨v, v1, v2, -⟩ := h.2.2.2 i hi
  exact ⟨v, v1, v2⟩⟩
theorem ww_no7 : ∀ b, b < 3 → (nI b = -4 ↔ b = 7) := fun b hb => by
  rcases (show b = 0 ∨ b = 1 ∨ b = 2 by omega) with rfl | rfl | rfl <;> decide
theorem ww_no7c : ∀ b, b < 3 → (nI b = -1 ↔ b = 7) := fun b hb => by
  rcases (show b = 0 ∨ b = 1 ∨ b = 2 by omega) with rfl | rfl | rfl <;> decide
theorem ww_w10 {x : Int32} {n : Nat} (hn : n ≤ 6) (h : nI 10 ≤ x ∧ x ≤ nI (9 + 2 * n)) : ∃ w, w < 2 * n ∧ x = nI (10 + w) := by
  have h1 := (fa_le _ _).mp h.1
  have h2 := (fa_le _ _).mp h.2
  rw [nI_toInt (by omega)] at h1
  rw [nI_toInt (by omega)] at h2
  refine ⟨x.toInt.toNat - 10, by omega, ?_⟩
  rw [fa_eq, nI_toInt (by omega)]
  omega
theorem sm_rotNow {σ : ww_M} {s : ww_S} {d : ww_D1} (hM : ww_MO1 σ s d) : f_X7_rotNow σ 62 = some (nI (dRot d)) := by
  unfold f_X7_rotNow
  rw [show σ (62 + 1) 13 = nI (dRot d) - 4 from hM.2.2.2.1.2.1, Int32.sub_add_cancel]
/-- both sides after a plan of the class -/
theorem ww_MO1_cls {σ ν : ww_M} {s : ww_S} {d : ww_D1} (h : ww_MO1 σ s d) (hc : ∀ a, a < 48 ∨ 53 ≤ a → ν a = σ a) : ww_MO1 ν s d := ww_MO1_fr h (by rw [hc 62 (by omega)]) (by rw [hc 62 (by omega)]) (by rw [hc 62 (by omega)]) (hc 63 (by omega)) (hc 64 (by omega)) (hc 65 (by omega))
theorem st_best {k : Nat} {σ : ww_M} {s : ww_S} {d : ww_D1} (hk : k < 64) (h : ww_Rel k σ s d) (p1 p2 : Int32) : ∃ (v : Int32) (σ1 : ww_M) (σ2 : ww_M) (s2 : ww_S) (d2 : ww_D1), f_X6_best σ p1 p2 = some (v, σ1) ∧ f_X7_best σ1 62 p1 p2 = some (v, σ2) ∧ ww_Rel (k + 1) σ2 s2 d2 := by
  have h0 := h
  obtain ⟨r1, ⟨hd, e1, e2⟩, hC, r4, hD, r6, r7, r8, ⟨st, q1, q2, q3⟩, r10⟩ := h
  have hCL : ww_CL1 σ 4 s d := ⟨r1, hd, hC⟩
  have hMO : ww_MO1 σ s d := ⟨r1, hd, r4, hD⟩
  unfold f_X6_best f_X7_best
  rw [ww_within]
  simp only [Option.bind_some, ww_b01, ww_inI (x := p1) (a := 0) (b := 6) 0 6 rfl rfl]
  by_cases c : 0 ≤ p1 ∧ p1 ≤ 6
  · obtain ⟨n, -, hn, rfl⟩ := ww_btw (a := 0) (b := 6) (by omega) c (by omega)
    have c' : ¬ ¬ (0 ≤ nI n ∧ nI n ≤ 6) := fun q => q c
    rw [if_neg c']
    simp only [if_neg c']
    have h13 : σ 4 13 = nI (dRot d) := hC.2.1.2.1
    obtain ⟨ν, a1, a2, a3, a4⟩ := sp_mostBy (p4 := -1) (wo := 7) hCL hn hd.2.1 hd.2.2.1 ww_no7c (by omega) q2 q3
    have hMv := ww_MO1_cls hMO a4
    have hmm := pc_memo a2
    have j33 : f_X6_best_j33 σ (nI n) p2 = if p2 = 0 then some (nI (pl_V s d (dRot d) 7 n), ν) else (f_X0_bestAt ν 48 (p2 - 10)).bind (fun v70 => some (v70.1, v70.2)) := by
      unfold f_X6_best_j33
      rw [h13, a1]
      rfl
    by_cases c2 : p2 = 0
    · obtain ⟨τ, b1, b2, b3, b4, b5⟩ := sm_layBest (p3 := -4) (wo := 7) hMv hn hd.2.1 hd.2.2.1 ww_no7
      refine ⟨nI (pl_V s d (dRot d) 7 n), ν, τ, s, d, ?_, ?_, ?_⟩
      · rw [if_pos c2, j33, if_pos c2]
      · rw [if_pos c2]
        unfold f_X7_best_j36
        rw [sm_rotNow hMv]
        simp only [Option.bind_some, b1, if_pos c2]
      · refine ww_Rel_plan h0 (fun a z1 z2 z3 z4 z5 => by rw [b4 a z2 z3 z4 z5]; exact a4 a z1) (fun j z1 z2 => by rw [b5 j z1 z2, a4 62 (by omega)]) ⟨st + 1, by omega, ?_, ?_⟩
        · rw [b4 48 (by omega) (by omega) (by omega) (by omega)]; exact hmm.1
        · rw [b4 49 (by omega) (by omega) (by omega) (by omega)]; exact hmm.2
    · rw [if_neg c2]
      simp only [if_neg c2]
      rw [ww_within]
      have e9 : (9 : Int32) + 2 * nI n = nI (9 + 2 * n) := by
        rw [show (2 : Int32) * nI n = nI (2 * n) from n_mul 2 n, show (9 : Int32) = nI 9 from rfl, n_add]
      rw [e9]
      simp only [Option.bind_some, ww_b01, ww_inI (x := p2) (a := 10) (b := (nI (9 + 2 * n)).toInt64) 10 (nI (9 + 2 * n)) rfl rfl]
      by_cases c3 : 10 ≤ p2 ∧ p2 ≤ nI (9 + 2 * n)
      · have c3' : ¬ ¬ (10 ≤ p2 ∧ p2 ≤ nI (9 + 2 * n)) := fun q => q c3
        simp only [if_neg c3']
        obtain ⟨w, hw, rfl⟩ := ww_w10 hn c3
        have hf : ∀ i, i < 9 → pl_qc s d 7 i = true → pl_wk d i ≤ 3 := fun i _ hq => pl_wk3 hd (pl_q_iff.mp (pl_qc_iff.mp hq).1).1
        have hcl : ls_cd (fun j => pl_wk d (ls_sl (pl_qc s d 7) j)) (fb_ct (pl_qc s d 7) 9) < 4 ^ fb_ct (pl_qc s d 7) 9 := ls_cd_lt (fun j hj => hf _ (ls_in hj).1 (ls_in hj).2.1)
        obtain ⟨μ, x, y, f1, f2, f3, f4⟩ := sp_bestAt a2 hw hcl a3
        rw [ls_W_cd hf] at f2
        have hmm2 := pc_memo f3
        have hMm : ww_MO1 μ s d := ww_MO1_cls hMv (fun a ha => f4 a (by omega))
        obtain ⟨τ, x', y', g1, g2, g3, g4⟩ := sm_best hMm hn hw
        obtain ⟨rfl, rfl⟩ := pv_at_one (pl_Eqv s d 7) f2 g2
        refine ⟨if w % 2 = 0 then pl_num x else pl_num y, μ, τ, s, d, ?_, g1, ?_⟩
        · rw [j33, if_neg c2, show nI (10 + w) - 10 = nI w from by rw [show (10 : Int32) = nI 10 from rfl, n_sub (by omega)]; congr 1; omega, f1]
          rfl
        · refine ww_Rel_plan h0 (fun a z1 z2 z3 z4 z5 => by rw [g3 a z2 z3 z4 z5, f4 a (by omega)]; exact a4 a z1) (fun j z1 z2 => by rw [g4 j z1 z2, f4 62 (by omega), a4 62 (by omega)]) ⟨st + 1, by omega, ?_, ?_⟩
          · rw [g3 48 (by omega) (by omega) (by omega) (by omega)]; exact hmm2.1
          · rw [g3 49 (by omega) (by omega) (by omega) (by omega)]; exact hmm2.2
      · rw [if_pos c3]
        simp only [if_pos c3]
        exact ⟨-1, σ, σ, s, d, rfl, rfl, ww_Rel_up h0⟩
  · rw [if_pos c]
    simp only [if_pos c]
    exact ⟨-1, σ, σ, s, d, rfl, rfl, ww_Rel_up h0⟩
theorem st_worth {k : Nat} {σ : ww_M} {s : ww_S} {d : ww_D1} (hk : k < 64) (h : ww_Rel k σ s d) (p1 p2 : Int32) : ∃ (v : Int32) (σ1 : ww_M) (σ2 : ww_M) (s2 : ww_S) (d2 : ww_D1), f_X6_worth σ p1 p2 = some (v, σ1) ∧ f_X7_worth σ1 62 p1 p2 = some (v, σ2) ∧ ww_Rel (k + 1) σ2 s2 d2 := by
  have h0 := h
  obtain ⟨r1, ⟨hd, e1, e2⟩, hC, r4, hD, r6, r7, r8, ⟨st, q1, q2, q3⟩, r10⟩ := h
  have hCL : ww_CL1 σ 4 s d := ⟨r1, hd, hC⟩
  have hMO : ww_MO1 σ s d := ⟨r1, hd, r4, hD⟩
  have hnb := r1.2.2.2.1
  have h13 : σ 4 13 = nI (dRot d) := hC.2.1.2.1
  unfold f_X6_worth
  rw [sp_hasBeast hC, ww_within]
  simp only [Option.bind_some, ww_b01]
  have bad : ∀ τ : ww_M, ww_MS τ s → (¬ (0 ≤ p1 ∧ p1 ≤ nI (sNb s) - 1) ∨ ¬ (0 ≤ p2 ∧ p2 ≤ 6)) → f_X7_worth τ 62 p1 p2 = some (-1, τ) := fun τ hm z => by
    unfold f_X7_worth
    rw [sp_isBeast hm]
    simp only [Option.bind_some, ww_b01, ww_inI (x := p2) (a := 0) (b := 6) 0 6 rfl rfl]
    by_cases z1 : 0 ≤ p1 ∧ p1 ≤ nI (sNb s) - 1
    · have z2 : ¬ (0 ≤ p2 ∧ p2 ≤ 6) := by
        rcases z with z | z
        · exact absurd z1 z
        · exact z
      rw [if_neg (fun q => q z1), if_pos z2]
    · rw [if_pos z1]
  rcases ww_rng p1 (n := sNb s) (by omega) with ⟨b, hb, rfl, c⟩ | c
  · by_cases c2 : 0 ≤ p2 ∧ p2 ≤ 6
    · obtain ⟨n, -, hn, rfl⟩ := ww_btw (a := 0) (b := 6) (by omega) c2 (by omega)
      have hbb : ∀ b', b' < 3 → (nI b' = nI b ↔ b' = b) := fun b' hb' => by rw [n_eq (by omega) (by omega)]
      obtain ⟨ν, a1, a2, a3, a4⟩ := sp_mostBy (p4 := -1) (wo := 7) hCL hn hd.2.1 hd.2.2.1 ww_no7c (by omega) q2 q3
      have hmm := pc_memo a2
      obtain ⟨ν2, b1, b2, b3, b4⟩ := sp_mostBy (p4 := nI b) (wo := b) a2.1.1 hn hd.2.1 hd.2.2.1 hbb (by omega) hmm.1 hmm.2
      have hmm2 := pc_memo b2
      have hMv : ww_MO1 ν2 s d := ww_MO1_cls hMO (fun a ha => by rw [b4 a ha]; exact a4 a ha)
      obtain ⟨τ1, g1, g2, g3, g4, g5⟩ := sm_layBest (p3 := -4) (wo := 7) hMv hn hd.2.1 hd.2.2.1 ww_no7
      obtain ⟨τ2, l1, l2, l3, l4, l5⟩ := sm_layBest (p3 := nI b) (wo := b) g2.1 hn hd.2.1 hd.2.2.1 hbb
      refine ⟨nI (pl_V s d (dRot d) 7 n) - nI (pl_V s d (dRot d) b n), ν2, τ2, s, d, ?_, ?_, ?_⟩
      · rw [if_neg (fun q => q c), if_neg (fun q => q c2), h13, a1]
        simp only [Option.bind_some]
        rw [show ν 4 13 = nI (dRot d) from a2.1.1.2.2.2.1.2.1, b1]
        rfl
      · unfold f_X7_worth
        rw [sp_isBeast hMv.2.2.1]
        simp only [Option.bind_some, ww_b01, ww_inI (a := 0) (b := 6) 0 6 rfl rfl]
        rw [if_neg (fun q => q c), if_neg (fun q => q c2), sm_rotNow hMv]
        simp only [Option.bind_some, g1, sm_rotNow g2.1, l1]
      · refine ww_Rel_plan h0 (fun a z1 z2 z3 z4 z5 => by rw [l4 a z2 z3 z4 z5, g4 a z2 z3 z4 z5, b4 a z1]; exact a4 a z1) (fun j z1 z2 => by rw [l5 j z1 z2, g5 j z1 z2, b4 62 (by omega), a4 62 (by omega)]) ⟨st + 1 + 1, by omega, ?_, ?_⟩
        · rw [l4 48 (by omega) (by omega) (by omega) (by omega), g4 48 (by omega) (by omega) (by omega) (by omega)]; exact hmm2.1
        · rw [l4 49 (by omega) (by omega) (by omega) (by omega), g4 49 (by omega) (by omega) (by omega) (by omega)]; exact hmm2.2
    · refine ⟨-1, σ, σ, s, d, ?_, bad σ r4 (Or.inr c2), ww_Rel_up h0⟩
      rw [if_neg (fun q => q c), if_pos c2]
  · refine ⟨-1, σ, σ, s, d, ?_, bad σ r4 (Or.inl c), ww_Rel_up h0⟩
    rw [if_pos c]
/-! salted -/
theorem pl_Vm {s : ww_S} {d : ww_D1} {r r' wo n : Nat} (h : r ≤ r') (h1 : 0 < r) : pl_V s d r wo n ≤ pl_V s d r' wo n := pv_mono (pl_gr s d h h1) _ _ _
theorem pl_Vb {s : ww_S} {d : ww_D1} {r wo n : Nat} (hs : ww_okS s) (hd : ww_okD s d) : pl_V s d r wo n ≤ 54 := by
  have hf : ∀ i, i < 9 → pl_q s wo i = true → pl_wk d i ≤ 3 := fun i _ hq => pl_wk3 hd (pl_q_iff.mp hq).1
  unfold pl_V
  rw [← ls_W_cd hf]
  exact ls_bd (pl_q6 hs wo) (pl_g9 hd r)
theorem pl_R (s : ww_S) (d : ww_D1) (n : Nat) : ∃ R, 1 ≤ R ∧ R ≤ 9 ∧ pl_V s d R 7 n = pl_V s d 9 7 n ∧ ∀ r, 1 ≤ r → r ≤ 9 → (pl_V s d r 7 n = pl_V s d 9 7 n ↔ R ≤ r) := by
  obtain ⟨i, h1, h2, h3⟩ := fb_first (p := fun i => pl_V s d (i + 1) 7 n = pl_V s d 9 7 n) (n := 9) ⟨8, by omega, rfl⟩
  refine ⟨i + 1, by omega, by omega, h2, fun r r1 r2 => ⟨fun e => ?_, fun e => ?_⟩⟩
  · apply Nat.le_of_not_lt
    intro z
    refine h3 (r - 1) (by omega) ?_
    show pl_V s d (r - 1 + 1) 7 n = _
    rw [show r - 1 + 1 = r by omega]; exact e
  · have a := pl_Vm (s := s) (d := d) (wo := 7) (n := n) e (by omega)
    have b := pl_Vm (s := s) (d := d) (wo := 7) (n := n) r2 (by omega)
    omega
theorem st_salted {k : Nat} {σ : ww_M} {s : ww_S} {d : ww_D1} (hk : k < 64) (h : ww_Rel k σ s d) (p1 : Int32) : ∃ (v : Int32) (σ1 : ww_M) (σ2 : ww_M) (s2 : ww_S) (d2 : ww_D1), f_X6_salted σ p1 = some (v, σ1) ∧ f_X7_salted σ1 62 p1 = some (v, σ2) ∧ ww_Rel (k + 1) σ2 s2 d2 := by
  have h0 := h
  obtain ⟨r1, ⟨hd, e1, e2⟩, hC, r4, hD, r6, r7, r8, ⟨st, q1, q2, q3⟩, r10⟩ := h
  have hCL : ww_CL1 σ 4 s d := ⟨r1, hd, hC⟩
  have hMO : ww_MO1 σ s d := ⟨r1, hd, r4, hD⟩
  unfold f_X6_salted f_X7_salted
  rw [ww_within]
  simp only [Option.bind_some, ww_b01, ww_inI (x := p1) (a := 0) (b := 6) 0 6 rfl rfl]
  by_cases c : 0 ≤ p1 ∧ p1 ≤ 6
  · obtain ⟨n, -, hn, rfl⟩ := ww_btw (a := 0) (b := 6) (by omega) c (by omega)
    have c' : ¬ ¬ (0 ≤ nI n ∧ nI n ≤ 6) := fun q => q c
    rw [if_neg c']
    simp only [if_neg c']
    obtain ⟨R, R1, R9, R2, R3⟩ := pl_R s d n
    have hVb : ∀ r, pl_V s d r 7 n ≤ 54 := fun r => pl_Vb r1 hd
    obtain ⟨ν, a1, a2, a3, a4⟩ := sp_mostBy (rot := 9) (p4 := -1) (wo := 7) hCL hn (by omega) (by omega) ww_no7c (by omega) q2 q3
    have hmm := pc_memo a2
    have cls := ww_it_inv (f := f_X6_salted_b37 (nI n) (nI (pl_V s d 9 7 n))) (x0 := (1, 9, 0, ν)) (fun i x => ∃ lo hi τ, x = (nI lo, nI hi, nI i, τ) ∧ (1 ≤ lo ∧ lo ≤ R ∧ R ≤ hi ∧ hi ≤ 9 ∧ hi + i ≤ lo + 8) ∧ ww_CL1 τ 4 s d ∧ (τ 48 8 = nI (st + 1 + i) ∧ ∀ j, j < 24576 → ∃ v, v < 64 * (st + 1 + i + 1) ∧ τ 49 j = nI v) ∧ ∀ a, a < 48 ∨ 53 ≤ a → τ a = σ a) (fun r => ∃ i τ, r = (nI R, τ) ∧ i ≤ 9 ∧ (τ 48 8 = nI (st + 1 + i) ∧ ∀ j, j < 24576 → ∃ v, v < 64 * (st + 1 + i + 1) ∧ τ 49 j = nI v) ∧ ∀ a, a < 48 ∨ 53 ≤ a → τ a = σ a) 9 (by omega) ⟨1, 9, ν, rfl, by omega, a2.1.1, hmm, a4⟩ (fun i hi x hx => ?_) (fun x hx => ?_)
    · obtain ⟨r, w1, i, σ1, rfl, w2, w3, w4⟩ := cls
      have hMv : ww_MO1 σ1 s d := ww_MO1_cls hMO w4
      obtain ⟨τ1, g1, g2, g3, g4, g5⟩ := sm_layBest (rot := 9) (p3 := -4) (wo := 7) hMv hn (by omega) (by omega) ww_no7
      have mod := ww_it_inv (f := f_X7_salted_b26 62 (nI n) (nI (pl_V s d 9 7 n))) (x0 := (1, τ1)) (fun i x => ∃ τ, x = (nI (1 + i), τ) ∧ ww_MO1 τ s d ∧ (∀ a, a ≠ 62 → a ≠ 72 → a ≠ 73 → a ≠ 74 → τ a = σ1 a) ∧ ∀ j, j ≠ 25 → j ≠ 28 → τ 62 j = σ1 62 j) (fun r => ∃ τ, r = (nI R, τ) ∧ (∀ a, a ≠ 62 → a ≠ 72 → a ≠ 73 → a ≠ 74 → τ a = σ1 a) ∧ ∀ j, j ≠ 25 → j ≠ 28 → τ 62 j = σ1 62 j) (R - 1) (by omega) ⟨τ1, rfl, g2.1, g4, g5⟩ (fun i hi x hx => ?_) (fun x hx => ?_)
      · obtain ⟨r, y1, τ, rfl, y2, y3⟩ := mod
        refine ⟨nI R, σ1, τ, s, d, ?_, ?_, ?_⟩
        · rw [show (9 : Int32) = nI 9 from rfl, a1]
          simp only [Option.bind_some]
          unfold f_X6_salted_j37 f_X6_salted_j95
          rw [show nI 9 = (9 : Int32) from rfl, w1]
          rfl
        · rw [show (9 : Int32) = nI 9 from rfl, g1]
          simp only [Option.bind_some]
          unfold f_X7_salted_j26 f_X7_salted_j44
          rw [y1]
          rfl
        · refine ww_Rel_plan h0 (fun a z1 z2 z3 z4 z5 => by rw [y2 a z2 z3 z4 z5]; exact w4 a z1) (fun j z1 z2 => by rw [y3 j z1 z2, w4 62 (by omega)]) ⟨st + 1 + i, by omega, ?_, ?_⟩
          · rw [y2 48 (by omega) (by omega) (by omega) (by omega)]; exact w3.1
          · rw [y2 49 (by omega) (by omega) (by omega) (by omega)]; exact w3.2
      · obtain ⟨τ, rfl, t1, t2, t3⟩ := hx
        obtain ⟨τ', u1, u2, u3, u4, u5⟩ := sm_layBest (rot := 1 + i) (p3 := -4) (wo := 7) t1 hn (by omega) (by omega) ww_no7
        refine Or.inl ⟨(nI (1 + (i + 1)), τ'), ?_, τ', rfl, u2.1, fun a z2 z3 z4 z5 => by rw [u4 a z2 z3 z4 z5]; exact t2 a z2 z3 z4 z5, fun j z1 z2 => by rw [u5 j z1 z2]; exact t3 j z1 z2⟩
        unfold f_X7_salted_b26
        rw [u1]
        simp only [Option.bind_some]
        have ne : ¬ nI (pl_V s d (1 + i) 7 n) = nI (pl_V s d 9 7 n) := by
          have := hVb (1 + i)
          have := hVb 9
          rw [n_eq (by omega) (by omega), R3 _ (by omega) (by omega)]
          omega
        rw [if_neg ne, nI_1, Nat.add_assoc]
      · obtain ⟨τ, rfl, t1, t2, t3⟩ := hx
        rw [show 1 + (R - 1) = R by omega]
        obtain ⟨τ', u1, u2, u3, u4, u5⟩ := sm_layBest (rot := R) (p3 := -4) (wo := 7) t1 hn (by omega) (by omega) ww_no7
        refine ⟨(nI R, τ'), ?_, τ', rfl, fun a z2 z3 z4 z5 => by rw [u4 a z2 z3 z4 z5]; exact t2 a z2 z3 z4 z5, fun j z1 z2 => by rw [u5 j z1 z2]; exact t3 j z1 z2⟩
        unfold f_X7_salted_b26
        rw [u1]
        simp only [Option.bind_some]
        rw [R2, if_pos rfl]
    · obtain ⟨lo, hi', τ, rfl, ⟨b1, b2, b3, b4, b5⟩, hCt, hmt, hft⟩ := hx
      by_cases e : hi' ≤ lo
      · refine Or.inr ⟨(nI R, τ), ?_, i, τ, rfl, by omega, hmt, hft⟩
        obtain rfl : lo = R := by omega
        unfold f_X6_salted_b37
        simp (disch := omega) only [n_lit, n_le, n_lt, n_eq, n_in, n_ckt, n_ix, n_mul, n_add, n_sub, n_div, n_rem, n_b01, n_isb, n_lt0, n_le0, Option.bind_some, if_pos, if_neg, ge_iff_le, gt_iff_lt, Nat.zero_add, Nat.add_zero, n_neg1, n_neg4, if_true, if_false, ite_true, ite_false, n_land1, not_true_eq_false, not_false_eq_true]
      · obtain ⟨τ', u1, u2, u3, u4⟩ := sp_mostBy (rot := (lo + hi') / 2) (p4 := -1) (wo := 7) hCt hn (by omega) (by omega) ww_no7c (show st + 1 + i < 9000 by omega) hmt.1 hmt.2
        have hm' := pc_memo u2
        rw [Nat.add_assoc (st + 1)] at hm'
        have v1 := hVb ((lo + hi') / 2)
        have v2 := hVb 9
        have hR := R3 ((lo + hi') / 2) (by omega) (by omega)
        rw [show (-1 : Int32) = -nI 1 from rfl] at u1
        by_cases e2 : R ≤ (lo + hi') / 2
        · have e3 := hR.mpr e2
          refine Or.inl ⟨(nI lo, nI ((lo + hi') / 2), nI (i + 1), τ'), ?_, lo, (lo + hi') / 2, τ', rfl, by omega, u2.1.1, hm', fun a ha => by rw [u4 a ha]; exact hft a ha⟩
          unfold f_X6_salted_b37
          simp (disch := omega) only [n_lit, n_le, n_lt, n_eq, n_in, n_ckt, n_ix, n_mul, n_add, n_sub, n_div, n_rem, n_b01, n_isb, n_lt0, n_le0, Option.bind_some, if_pos, if_neg, ge_iff_le, gt_iff_lt, Nat.zero_add, Nat.add_zero, n_neg1, n_neg4, if_true, if_false, ite_true, ite_false, n_land1, not_true_eq_false, not_false_eq_true, u1, e3]
        · have e3 : ¬ pl_V s d ((lo + hi') / 2) 7 n = pl_V s d 9 7 n := fun z => e2 (hR.mp z)
          refine Or.inl ⟨(nI ((lo + hi') / 2 + 1), nI hi', nI (i + 1), τ'), ?_, (lo + hi') / 2 + 1, hi', τ', rfl, by omega, u2.1.1, hm', fun a ha => by rw [u4 a ha]; exact hft a ha⟩
          unfold f_X6_salted_b37
          simp (disch := omega) only [n_lit, n_le, n_lt, n_eq, n_in, n_ckt, n_ix, n_mul, n_add, n_sub, n_div, n_rem, n_b01, n_isb, n_lt0, n_le0, Option.bind_some, if_pos, if_neg, ge_iff_le, gt_iff_lt, Nat.zero_add, Nat.add_zero, n_neg1, n_neg4, if_true, if_false, ite_true, ite_false, n_land1, not_true_eq_false, not_false_eq_true, u1, e3]
    · obtain ⟨lo, hi', τ, rfl, ⟨b1, b2, b3, b4, b5⟩, -⟩ := hx
      omega
  · rw [if_pos c]
    simp only [if_pos c]
    exact ⟨-1, σ, σ, s, d, rfl, rfl, ww_Rel_up h0⟩
