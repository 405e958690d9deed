theorem ww_Rel_torn {k : Nat} {σ : ww_M} {s : ww_S} {d : ww_D1} (h : ww_Rel k σ s d) (v : Int32) : ww_Rel k (ww_up (ww_up σ 0 9 v) 62 35 v) s d := by
  obtain ⟨r1, r2, r3, r4, r5, r6, r7, r8, ⟨n, q1, q2, q3⟩, ⟨kb, k1, k2, k3⟩, r11, r12, r13, r14⟩ := h
  refine ⟨r1, r2, ww_ClsA_ext r3 (fun a h1 h2 => ?_), ?_, ?_, ?_, ?_, ?_, ⟨n, q1, ?_, ?_⟩, ⟨kb, k1, ?_, fun j hj => ⟨?_, fun ht => ?_⟩⟩, fun j hj => ?_, ?_, ?_, ?_⟩
  · simp (disch := omega) only [ww_up_ne, ww_up_eq, ww_upr_ne, ww_upr_eq, ww_fill_ne, ww_fill_eq, ww_cpy_ne, ww_cpy_eq, pk_us, pk_un, ne_eq, not_false_eq_true]
  · simp (disch := omega) only [ww_up_ne, ww_up_eq, ww_upr_ne, ww_upr_eq, ww_fill_ne, ww_fill_eq, ww_cpy_ne, ww_cpy_eq, pk_us, pk_un, ne_eq, not_false_eq_true]; exact r4
  · simp (disch := omega) only [ww_up_ne, ww_up_eq, ww_upr_ne, ww_upr_eq, ww_fill_ne, ww_fill_eq, ww_cpy_ne, ww_cpy_eq, pk_us, pk_un, ne_eq, not_false_eq_true]; exact r5
  · simp (disch := omega) only [ww_up_ne, ww_up_eq, ww_upr_ne, ww_upr_eq, ww_fill_ne, ww_fill_eq, ww_cpy_ne, ww_cpy_eq, pk_us, pk_un, ne_eq, not_false_eq_true]; exact r6
  · simp (disch := omega) only [ww_up_ne, ww_up_eq, ww_upr_ne, ww_upr_eq, ww_fill_ne, ww_fill_eq, ww_cpy_ne, ww_cpy_eq, pk_us, pk_un, ne_eq, not_false_eq_true]; exact r7
  · simp (disch := omega) only [ww_up_ne, ww_up_eq, ww_upr_ne, ww_upr_eq, ww_fill_ne, ww_fill_eq, ww_cpy_ne, ww_cpy_eq, pk_us, pk_un, ne_eq, not_false_eq_true]; exact r8
  · simp (disch := omega) only [ww_up_ne, ww_up_eq, ww_upr_ne, ww_upr_eq, ww_fill_ne, ww_fill_eq, ww_cpy_ne, ww_cpy_eq, pk_us, pk_un, ne_eq, not_false_eq_true]; exact q2
  · simp (disch := omega) only [ww_up_ne, ww_up_eq, ww_upr_ne, ww_upr_eq, ww_fill_ne, ww_fill_eq, ww_cpy_ne, ww_cpy_eq, pk_us, pk_un, ne_eq, not_false_eq_true]; exact q3
  · simp (disch := omega) only [ww_up_ne, ww_up_eq, ww_upr_ne, ww_upr_eq, ww_fill_ne, ww_fill_eq, ww_cpy_ne, ww_cpy_eq, pk_us, pk_un, ne_eq, not_false_eq_true]; exact k2
  · simp (disch := omega) only [ww_up_ne, ww_up_eq, ww_upr_ne, ww_upr_eq, ww_fill_ne, ww_fill_eq, ww_cpy_ne, ww_cpy_eq, pk_us, pk_un, ne_eq, not_false_eq_true]; exact (k3 j hj).1
  · obtain ⟨d2, e1, e2, e3⟩ := (k3 j hj).2 ht
    refine ⟨d2, e1, ww_ClsA_ext e2 (fun a h1 h2 => ?_), ?_⟩
    · simp (disch := omega) only [ww_up_ne, ww_up_eq, ww_upr_ne, ww_upr_eq, ww_fill_ne, ww_fill_eq, ww_cpy_ne, ww_cpy_eq, pk_us, pk_un, ne_eq, not_false_eq_true]
    · simp (disch := omega) only [ww_up_ne, ww_up_eq, ww_upr_ne, ww_upr_eq, ww_fill_ne, ww_fill_eq, ww_cpy_ne, ww_cpy_eq, pk_us, pk_un, ne_eq, not_false_eq_true]; exact e3
  · simp (disch := omega) only [ww_up_ne, ww_up_eq, ww_upr_ne, ww_upr_eq, ww_fill_ne, ww_fill_eq, ww_cpy_ne, ww_cpy_eq, pk_us, pk_un, ne_eq, not_false_eq_true]; exact r11 j hj
  · simp (disch := omega) only [ww_up_ne, ww_up_eq, ww_upr_ne, ww_upr_eq, ww_fill_ne, ww_fill_eq, ww_cpy_ne, ww_cpy_eq, pk_us, pk_un, ne_eq, not_false_eq_true]
  · simp (disch := omega) only [ww_up_ne, ww_up_eq, ww_upr_ne, ww_upr_eq, ww_fill_ne, ww_fill_eq, ww_cpy_ne, ww_cpy_eq, pk_us, pk_un, ne_eq, not_false_eq_true]; exact r13
  · simp (disch := omega) only [ww_up_ne, ww_up_eq, ww_upr_ne, ww_upr_eq, ww_fill_ne, ww_fill_eq, ww_cpy_ne, ww_cpy_eq, pk_us, pk_un, ne_eq, not_false_eq_true]; exact r14
theorem ww_wk1_le {s : ww_S} {d : ww_D1} {x : Option (Nat × Nat)} (hd : ww_okD s d) (hx : ww_ow s d x) : (ww_wk1 s d x).1 ≤ 9 := by
  cases x with
  | none => exact Nat.zero_le _
  | some q =>
    have hv := ww_vld_iff.mp (hx q rfl).1
    have h9 := (hd.2.2.2.2.2.2.2.1 _ hv.1 _ hv.2).1
    simp only [ww_wk1]
    split
    · exact Nat.le_trans (Nat.sub_le _ _) h9
    · exact Nat.zero_le _
theorem ww_ref_neg {s : ww_S} {d : ww_D1} {x y : Option (Nat × Nat)} (h : ¬ ww_ref s d x y = 0) : ¬ (0 : Int32) ≤ ww_ref s d x y := by
  unfold ww_ref at h ⊢
  split
  · decide
  · split
    · decide
    · split
      · decide
      · split
        · rename_i h1 h2 h3 h4
          rw [if_neg h1, if_neg h2, if_neg h3, if_pos h4] at h
          exact absurd rfl h
        · decide
theorem ww_rdrng {x : Int32} {i N : Nat} (hi : i ≤ 20) (hN : N ≤ 40) : ((0 : Int64) ≤ x.toInt64 + (nI i).toInt64 ∧ x.toInt64 + (nI i).toInt64 ≤ (nI N - 1).toInt64) ↔ (0 ≤ x + nI i ∧ x + nI i ≤ nI N - 1) := by
  have hr := fb_rng x
  have ei : (nI i).toInt = (i : Int) := nI_toInt (by omega)
  have eN : (nI N - 1).toInt = (N : Int) - 1 := by
    have e1 : (1 : Int32).toInt = 1 := by decide
    have e2 : (nI N).toInt = (N : Int) := nI_toInt (by omega)
    rw [fb_subI (by rw [e1, e2]; omega) (by rw [e1, e2]; omega), e1, e2]
  have e64 : (x.toInt64 + (nI i).toInt64).toInt = x.toInt + i := by
    rw [fb_addL (by rw [Int32.toInt_toInt64, Int32.toInt_toInt64, ei]; omega) (by rw [Int32.toInt_toInt64, Int32.toInt_toInt64, ei]; omega), Int32.toInt_toInt64, Int32.toInt_toInt64, ei]
  have z64 : (0 : Int64).toInt = 0 := by decide
  have z32 : (0 : Int32).toInt = 0 := by decide
  rw [fa_le64, fa_le64, fa_le, fa_le, e64, Int32.toInt_toInt64, eN, z64, z32]
  by_cases c : x.toInt + i < 2147483648
  · rw [fb_addI (by rw [ei]; omega) (by rw [ei]; omega), ei]
  · have ea : (x + nI i).toInt = x.toInt + i - 4294967296 := by
      rw [Int32.toInt_add, ei, Int.bmod_def]
      have em : (x.toInt + (i : Int)) % ((2 ^ 32 : Nat) : Int) = x.toInt + i := Int.emod_eq_of_lt (by omega) (by omega)
      rw [em]
      split
      · omega
      · omega
    rw [ea]
    constructor
    · intro h; omega
    · intro h; omega
/-- what both find at a cell -/
theorem ww_rdfault {τ ν : ww_M} {j i n : Nat} {p2 p3 : Int32} (hj : j < 4) (hi : i < n) (hn : n ≤ 20) (hR : ww_RSh (τ (54 + 2 * j) 1) (τ (54 + 2 * j) 2) (τ (55 + 2 * j)) (ν 77 j) (ν 78 j) (fun i => ν 79 (40 * j + i))) : ∃ fl, fl ≤ 3 ∧ f_X1_faultAt τ (54 + 2 * j) p2 (p3 + nI i) = some (nI fl) ∧ f_X7_read_b53 62 (nI j) p2 p3 (nI n) (0, nI i, ν) = f_X7_read_j121 ν 62 (nI j) p2 p3 (nI n) (nI i) (nI fl) ∧ (fl = 0 → ∃ m, m < 40 ∧ p3 + nI i = nI m ∧ (40 * nI j + p3) + nI i = nI (40 * j + m) ∧ τ (55 + 2 * j) m = ν 79 (40 * j + m)) := by
  have hb : f_X7_read_b53 62 (nI j) p2 p3 (nI n) (0, nI i, ν) = (if ν 77 j = -4 then f_X7_read_j121 ν 62 (nI j) p2 p3 (nI n) (nI i) 1 else (if ν 77 j = p2 then (f_X7_in (p3.toInt64 + (nI i).toInt64) 0 ((ν 78 j - 1).toInt64)).bind (fun v110 => (if v110 = 0 then f_X7_read_j121 ν 62 (nI j) p2 p3 (nI n) (nI i) 2 else f_X7_read_j121 ν 62 (nI j) p2 p3 (nI n) (nI i) 0)) else f_X7_read_j121 ν 62 (nI j) p2 p3 (nI n) (nI i) 3)) := by
    unfold f_X7_read_b53
    simp only [if_neg (show ¬ nI n ≤ nI i by rw [n_le (by omega) (by omega)]; omega), if_true, n_in hj (by omega), n_ckt, n_ix (show j < 2147483648 by omega), show (62 : Nat) + 15 = 77 from rfl, show (62 : Nat) + 16 = 78 from rfl]
  rw [hb]
  unfold f_X1_faultAt
  rcases hR with ⟨e1, e2⟩ | ⟨N, t, q1, q2, q3, q4, q5, q6, q7⟩
  · refine ⟨1, by omega, ?_, ?_, fun e => by omega⟩
    · rw [e1, if_neg (by decide)]; rfl
    · rw [e2, if_pos rfl]; rfl
  · have n4 : ¬ nI t = (-4 : Int32) := fun e => by
      have := n_neg4 (n := t) (by omega)
      rw [show nI t = -nI 4 from e] at this
      exact absurd this.symm (by simp)
    rw [q3, q5, q6, q4, if_pos (nI_pos' (show N < 2147483648 by omega)), if_neg n4]
    by_cases ct : nI t = p2
    · rw [if_pos ct, if_pos ct, ww_within, ww_inL]
      simp only [Option.bind_some, ww_b01]
      have hiff := ww_rdrng (x := p3) (i := i) (N := N) (by omega) q1
      by_cases cr : 0 ≤ p3 + nI i ∧ p3 + nI i ≤ nI N - 1
      · refine ⟨0, by omega, ?_, ?_, fun _ => ?_⟩
        · rw [if_neg (fun q => q cr)]; rfl
        · rw [if_neg (fun q => q (hiff.mpr cr))]; rfl
        · rcases ww_rng (p3 + nI i) (n := N) (by omega) with ⟨m, hm, em, -⟩ | hno
          · refine ⟨m, by omega, em, ?_, q7 m hm⟩
            rw [Int32.add_assoc, em, show (40 : Int32) = nI 40 from rfl, n_mul, n_add]
          · exact absurd cr hno
      · refine ⟨2, by omega, ?_, ?_, fun e => by omega⟩
        · rw [if_pos cr]; rfl
        · rw [if_pos (fun q => cr (hiff.mp q))]; rfl
    · rw [if_neg ct, if_neg ct]
      exact ⟨3, by omega, rfl, rfl, fun e => by omega⟩
abbrev ww_rdQ (σ μ : ww_M) (s : ww_S) (d : ww_D1) (r r' : (Int32 × Int32 × ww_M) ⊕ (Int32 × ww_M)) : Prop :=
  (∃ fl w τ ν d', r = .inl (fl, w, τ) ∧ r' = .inl (fl, w, ν) ∧ ww_okH s d' ∧ ww_ClsA τ 4 s d' ∧ ww_ModD (ν 63) 0 s d' ∧ (∀ a, a < 4 ∨ 14 ≤ a → τ a = σ a) ∧ (∀ a, a ≠ 63 → ν a = μ a) ∧ ∀ j, 50 ≤ j → ν 63 j = μ 63 j) ∨
  (∃ v τ ν, r = .inr (v, τ) ∧ r' = .inr (v, ν) ∧ ww_ClsA τ 4 s d ∧ ww_ModD (ν 63) 0 s d ∧ (∀ a, a < 4 ∨ 14 ≤ a → τ a = σ a) ∧ (∀ a, a ≠ 63 → ν a = μ a) ∧ ∀ j, 50 ≤ j → ν 63 j = μ 63 j)
theorem ww_readloop {σ μ : ww_M} {s : ww_S} {d : ww_D1} {n j : Nat} {p2 p3 : Int32} (hs : ww_okS s) (hd : ww_okH s d) (hC : ww_ClsA σ 4 s d) (hC2 : ww_ClsA σ 14 s d) (hM : ww_MS μ s) (hD : ww_ModD (μ 63) 0 s d) (hD2 : ww_ModD (μ 63) 150 s d) (hj : j < 4) (hn : n ≤ 20) (hR : ww_RSh (σ (54 + 2 * j) 1) (σ (54 + 2 * j) 2) (σ (55 + 2 * j)) (μ 77 j) (μ 78 j) (fun i => μ 79 (40 * j + i))) : ∃ r r', ww_it (f_X6_read_b56 (nI j) p2 p3 (nI n)) ww_F (0, 0, σ) = some r ∧ ww_it (f_X7_read_b53 62 (nI j) p2 p3 (nI n)) ww_F (0, 0, μ) = some r' ∧ ww_rdQ σ μ s d r r' := by
  refine ww_it_two (fun i x y => ∃ τ ν d', ww_okH s d' ∧ ww_ClsA τ 4 s d' ∧ ww_ModD (ν 63) 0 s d' ∧ (∀ a, a < 4 ∨ 14 ≤ a → τ a = σ a) ∧ (∀ a, a ≠ 63 → ν a = μ a) ∧ (∀ j, 50 ≤ j → ν 63 j = μ 63 j) ∧ ((i ≤ n ∧ x = (0, nI i, τ) ∧ y = (0, nI i, ν)) ∨ (∃ fl w, ¬ fl = 0 ∧ x = (fl, w, τ) ∧ y = (fl, w, ν)))) (ww_rdQ σ μ s d) (n + 1) (by omega) ⟨σ, μ, d, hd, hC, hD, fun _ _ => rfl, fun _ _ => rfl, fun _ _ => rfl, Or.inl ⟨Nat.zero_le _, rfl, rfl⟩⟩ ?_
  rintro i hi x y ⟨τ, ν, d', e1, e2, e3, e4, e5, e6, ⟨hin, rfl, rfl⟩ | ⟨fl, w, hf, rfl, rfl⟩⟩
  · by_cases c : i = n
    · subst c
      refine Or.inr ⟨.inl (0, nI i, τ), .inl (0, nI i, ν), ?_, ?_, Or.inl ⟨0, nI i, τ, ν, d', rfl, rfl, e1, e2, e3, e4, e5, e6⟩⟩
      · unfold f_X6_read_b56
        rw [if_pos (by rw [n_le (by omega) (by omega)]; omega)]
      · unfold f_X7_read_b53
        rw [if_pos (by rw [n_le (by omega) (by omega)]; omega)]
    · have hin2 : i < n := by omega
      have hR2 : ww_RSh (τ (54 + 2 * j) 1) (τ (54 + 2 * j) 2) (τ (55 + 2 * j)) (ν 77 j) (ν 78 j) (fun i => ν 79 (40 * j + i)) := by
        rw [e4 (54 + 2 * j) (by omega), e4 (55 + 2 * j) (by omega), e5 77 (by omega), e5 78 (by omega), e5 79 (by omega)]; exact hR
      obtain ⟨fl, hfl, f1, f2, f3⟩ := ww_rdfault (p2 := p2) (p3 := p3) hj hin2 hn hR2
      have hb : f_X6_read_b56 (nI j) p2 p3 (nI n) (0, nI i, τ) = (if nI fl = 0 then ww_ck (ww_in (p3 + nI i) 40) ((f_X2_refusal τ 4 (τ (54 + 2 * j + 1) (ww_ix (p3 + nI i))) (-4)).bind (fun v105 => (if v105 = 0 then (f_X2_slotOf τ 4 (τ (54 + 2 * j + 1) (ww_ix (p3 + nI i)))).bind (fun v138 => (f_X2_hourGoes τ 4 v138 (-1)).bind (fun v142 => some (.inl (nI fl, nI i + 1, v142.2)))) else (f_X2_copyFrom τ 4 14).bind (fun v119 => some (.inr (.inr ((-20) - nI i, v119))))))) else some (.inl (nI fl, nI i, τ))) := by
        unfold f_X6_read_b56
        simp only [if_neg (show ¬ nI n ≤ nI i by rw [n_le (by omega) (by omega)]; omega), if_true, n_ix (show j < 2147483648 by omega), f1, Option.bind_some]
      rw [hb, f2]
      unfold f_X7_read_j121
      by_cases c0 : fl = 0
      · obtain ⟨m, m1, m2, m3, m4⟩ := f3 c0
        subst c0
        have z0 : nI 0 = (0 : Int32) := rfl
        rw [if_pos z0, if_pos z0, m2, m3, n_in m1 (by omega), n_in (show 40 * j + m < 160 by omega) (by omega), n_ix (show m < 2147483648 by omega), n_ix (show 40 * j + m < 2147483648 by omega), show 54 + 2 * j + 1 = 55 + 2 * j by omega, m4, show (62 : Nat) + 17 = 79 from rfl]
        simp only [n_ckt]
        generalize ν 79 (40 * j + m) = x
        have hCL : ww_CL1 τ 4 s d' := ⟨hs, e1.1, e2⟩
        have hMS : ww_MS ν s := by
          unfold ww_MS
          rw [e5 62 (by omega), e5 64 (by omega), e5 65 (by omega)]; exact hM
        have hMO : ww_MO1 ν s d' := ⟨hs, e1.1, hMS, e3⟩
        have bad : ∀ v : Int32, ¬ v = 0 → ¬ (0 : Int32) ≤ v → f_X2_refusal τ 4 x (-4) = some v → f_X7_goes ν 62 x (-4) = some (v, ν) → ∃ r r', ((f_X2_refusal τ 4 x (-4)).bind (fun v105 => (if v105 = 0 then (f_X2_slotOf τ 4 x).bind (fun v138 => (f_X2_hourGoes τ 4 v138 (-1)).bind (fun v142 => some (.inl (nI 0, nI i + 1, v142.2)))) else (f_X2_copyFrom τ 4 14).bind (fun v119 => some (.inr (.inr ((-20) - nI i, v119)))))) : Option ((Int32 × Int32 × ww_M) ⊕ ((Int32 × Int32 × ww_M) ⊕ (Int32 × ww_M)))) = some (.inr r) ∧ ((f_X7_goes ν 62 x (-4)).bind (fun v145 => (if 0 ≤ v145.1 then some (.inl (nI 0, nI i + 1, v145.2)) else (f_X7_copies v145.2 62 150 0).bind (fun v156 => some (.inr (.inr ((-20) - nI i, v156)))))) : Option ((Int32 × Int32 × ww_M) ⊕ ((Int32 × Int32 × ww_M) ⊕ (Int32 × ww_M)))) = some (.inr r') ∧ ww_rdQ σ μ s d r r' := fun v hv hv2 g1 g2 => by
          rw [g1, g2]
          simp only [Option.bind_some, if_neg hv, if_neg hv2, ww_copyFrom]
          rw [show (150 : Int32) = nI 150 from rfl, show (0 : Int32) = nI 0 from rfl, sm_copies (a := 150) (b := 0) (by omega) (by omega) (by omega)]
          simp only [Option.bind_some]
          refine ⟨_, _, rfl, rfl, Or.inr ⟨_, _, _, rfl, rfl, ww_cp_cls (o0 := 4) (o1 := 14) hs (by omega) (ww_ClsA_ext hC2 (fun a h1 h2 => e4 a (by omega))), ?_, fun a ha => by rw [ww_cp_ne (by omega), e4 a ha], fun a ha => by rw [ww_upr_ne ha, e5 a ha], fun j hj => by rw [ww_upr_eq, fb_put_out (by omega), e6 j hj]⟩⟩
          rw [ww_upr_eq]
          refine ww_ModD_page hs hD2 (fun y hy => ?_)
          rw [fb_put_in (by omega) (by omega), e6 _ (by omega)]
          exact congrArg (μ 63) (by omega)
        rcases ww_kn_or s x with hx | hx
        · obtain ⟨q, hq, rfl⟩ := hx
          have hv0 : ww_vo s none := fun q e => by simp at e
          have g1 : f_X2_refusal τ 4 (ww_enM q) (-4) = some (ww_ref s d' q none) := sp_refusal hCL hq hv0
          have g2 : f_X7_goes ν 62 (ww_enM q) (-4) = if ww_ref s d' q none = 0 then f_X7_hourGoes ν 62 (ww_enM q) (-4) else some (ww_ref s d' q none, ν) := sm_goes hMO e1.2.1 hq hv0
          by_cases cr : ww_ref s d' q none = 0
          · rw [if_pos cr] at g2
            rw [g1, g2]
            simp only [Option.bind_some, if_pos cr]
            rw [sp_slotEn hCL hq]
            simp only [Option.bind_some]
            obtain ⟨k1, k2, k3, k4⟩ := ww_ref0 cr
            have ox := ww_ow_bar hq k2
            have oy : ww_ow s (ww_wk1 s d' q).2 none := fun q e => by simp at e
            obtain ⟨τ', a1, a2, a3⟩ := sp_hourGoes hCL ox oy (by omega)
            obtain ⟨ν', b1, b2, b3, b4⟩ := sm_hourGoes hMO ox oy (by omega)
            have a1' : f_X2_hourGoes τ 4 (ww_enC q) (-1) = _ := a1
            have b1' : f_X7_hourGoes ν 62 (ww_enM q) (-4) = _ := b1
            have hw := ww_wk1_le e1.1 ox
            have hpos : (0 : Int32) ≤ ww_hwon s d' q none := by
              have : ww_hwon s d' q none = nI ((ww_wk1 s d' q).1 + 0) := n_add _ _
              rw [this]
              exact nI_pos' (by omega)
            rw [a1', b1']
            simp only [Option.bind_some, if_pos hpos, nI_1]
            refine Or.inl ⟨by omega, _, _, rfl, rfl, τ', ν', _, ww_okH_hour e1.1 k4, a2, b2, fun a ha => by rw [a3 a (by omega), e4 a ha], fun a ha => by rw [b3 a ha, e5 a ha], fun j hj => by rw [b4 j hj, e6 j hj], Or.inl ⟨by omega, rfl, rfl⟩⟩
          · rw [if_neg cr] at g2
            exact Or.inr (bad _ cr (ww_ref_neg cr) g1 g2)
        · exact Or.inr (bad (-1) (by decide) (by decide) (sp_refusal_bad1 hCL hx) (sm_goes_bad1 hMO hx))
      · have hf0 : ¬ nI fl = 0 := by
          rw [show (0 : Int32) = nI 0 from rfl, n_eq (by omega) (by omega)]; exact c0
        rw [if_neg hf0, if_neg hf0]
        exact Or.inl ⟨by omega, _, _, rfl, rfl, τ, ν, d', e1, e2, e3, e4, e5, e6, Or.inr ⟨nI fl, nI i, hf0, rfl, rfl⟩⟩
  · refine Or.inr ⟨.inl (fl, w, τ), .inl (fl, w, ν), ?_, ?_, Or.inl ⟨fl, w, τ, ν, d', rfl, rfl, e1, e2, e3, e4, e5, e6⟩⟩
    · unfold f_X6_read_b56
      simp only [if_neg hf]
      split <;> rfl
    · unfold f_X7_read_b53
      simp only [if_neg hf]
      split <;> rfl
theorem st_read {k : Nat} {σ : ww_M} {s : ww_S} {d : ww_D1} (hk : k < 64) (h : ww_Rel k σ s d) (p1 p2 p3 p4 : Int32) : ∃ (v : Int32) (σ1 : ww_M) (σ2 : ww_M) (s2 : ww_S) (d2 : ww_D1), f_X6_read σ p1 p2 p3 p4 = some (v, σ1) ∧ f_X7_read σ1 62 p1 p2 p3 p4 = some (v, σ2) ∧ ww_Rel (k + 1) σ2 s2 d2 := by
  have h0 := h
  obtain ⟨r1, hH, hC, hM, hD, -, -, -, -, -, r11, -⟩ := h
  unfold f_X6_read f_X7_read
  simp only [ww_within, Option.bind_some, ww_b01, ww_inI (a := 0) (b := 3) 0 3 rfl rfl, ww_inI (a := 0) (b := 2) 0 2 rfl rfl, ww_inI (a := 0) (b := 20) 0 20 rfl rfl]
  by_cases c1 : 0 ≤ p1 ∧ p1 ≤ 3
  · obtain ⟨j, -, hj, rfl⟩ := ww_btw (a := 0) (b := 3) (by omega) c1 (by omega)
    simp only [if_neg (show ¬ ¬ (0 ≤ nI j ∧ nI j ≤ 3) from fun q => q c1)]
    by_cases c2 : 0 ≤ p2 ∧ p2 ≤ 2
    · simp only [if_neg (show ¬ ¬ (0 ≤ p2 ∧ p2 ≤ 2) from fun q => q c2)]
      by_cases c4 : 0 ≤ p4 ∧ p4 ≤ 20
      · obtain ⟨n, -, hn, rfl⟩ := ww_btw (a := 0) (b := 20) (by omega) c4 (by omega)
        simp only [if_neg (show ¬ ¬ (0 ≤ nI n ∧ nI n ≤ 20) from fun q => q c4), n_in (show j < 4 by omega) (by omega), n_ckt, ww_copyFrom, Option.bind_some]
        have hC4 : ww_ClsA (ww_cp σ 14 4) 4 s d := ww_ClsA_ext hC (fun a h1 h2 => ww_cp_ne (by omega))
        have hC14 : ww_ClsA (ww_cp σ 14 4) 14 s d := ww_cp_cls (o0 := 14) (o1 := 4) r1 (by omega) hC
        have cpu : ∀ a, 24 ≤ a → ww_cp σ 14 4 a = σ a := fun a ha => ww_cp_ne (by omega)
        have loop : ∀ τ : ww_M, (∀ a, 24 ≤ a → τ a = σ a) → ∃ r r', ww_it (f_X6_read_b56 (nI j) p2 p3 (nI n)) ww_F (0, 0, ww_cp σ 14 4) = some r ∧ ww_it (f_X7_read_b53 62 (nI j) p2 p3 (nI n)) ww_F (0, 0, ww_upr τ 63 (fb_put (τ 63) (fun x => τ 63 (0 + x)) 150 50)) = some r' ∧ ww_rdQ (ww_cp σ 14 4) (ww_upr τ 63 (fb_put (τ 63) (fun x => τ 63 (0 + x)) 150 50)) s d r r' := fun τ hu => by
          refine ww_readloop r1 hH hC4 hC14 ?_ ?_ ?_ (by omega) hn ?_
          · unfold ww_MS
            rw [ww_upr_ne (by decide), ww_upr_ne (by decide), ww_upr_ne (by decide), hu 62 (by omega), hu 64 (by omega), hu 65 (by omega)]; exact hM
          · rw [ww_upr_eq, hu 63 (by omega)]
            exact ww_ModD_ext r1 hD (fun j j1 j2 => fb_put_out (by omega))
          · rw [ww_upr_eq, hu 63 (by omega)]
            refine ww_ModD_page r1 hD (fun x hx => ?_)
            rw [fb_put_in (by omega) (by omega)]
            exact congrArg (σ 63) (by omega)
          · rw [cpu _ (by omega), cpu _ (by omega), ww_upr_ne (by decide), ww_upr_ne (by decide), ww_upr_ne (by decide), hu 77 (by omega), hu 78 (by omega), hu 79 (by omega)]
            exact r11 j (by omega)
        obtain ⟨r, r0, g1, -, g2⟩ := loop (ww_cp σ 14 4) cpu
        have cpy150 : ∀ τ : ww_M, f_X7_copies τ 62 0 150 = some (ww_upr τ 63 (fb_put (τ 63) (fun x => τ 63 (0 + x)) 150 50)) := fun τ => sm_copies (a := 0) (b := 150) (by omega) (by omega) (by omega)
        rcases g2 with ⟨fl, w, τ, ν0, d0, rfl, -, -, -, -, e4, -⟩ | ⟨v, τ, ν0, rfl, -, -, -, e4, -⟩
        · have hu : ∀ a, 24 ≤ a → ww_up τ 0 9 fl a = σ a := fun a ha => by rw [ww_up_ne (by omega), e4 a (by omega), cpu a ha]
          obtain ⟨q, r', t1, t2, t3⟩ := loop (ww_up τ 0 9 fl) hu
          have eq : (.inl (fl, w, τ) : (Int32 × Int32 × ww_M) ⊕ (Int32 × ww_M)) = q := by rw [g1] at t1; exact Option.some.inj t1
          subst eq
          rcases t3 with ⟨fl', w', τ', ν, d', q1, rfl, q3, q4, q5, q6, q7, q8⟩ | ⟨v, τ', ν, q1, -⟩
          · injection q1 with q1
            injection q1 with a1 q1
            injection q1 with a2 a3
            subst a1 a2 a3
            refine ⟨w, ww_up τ 0 9 fl, ww_up ν 62 35 fl, s, d', ?_, ?_, ?_⟩
            · unfold f_X6_read_j56
              rw [g1]; rfl
            · rw [cpy150]
              simp only [Option.bind_some]
              unfold f_X7_read_j53
              rw [t2]; rfl
            · have hA : ∀ a, a ≠ 63 → ν a = ww_up τ 0 9 fl a := fun a ha => by rw [q7 a ha, ww_upr_ne ha]
              have hB : ww_up ν 62 35 fl = ww_up (ww_up (ww_up ν 0 9 (σ 0 9)) 0 9 fl) 62 35 fl := by
                rw [ww_up_twice, ww_up_self (show ν 0 9 = fl from by rw [hA 0 (by omega), ww_up_eq]; exact pk_us)]
              rw [hB]
              refine ww_Rel_torn (ww_Rel_shore h0 (fun a u1 u2 => ?_) (fun x u1 u2 => ?_) q3 (ww_ClsA_ext q4 (fun a u1 u2 => ?_)) ?_) fl
              · by_cases ca : a = 0
                · subst ca
                  rw [ww_up_eq, hA 0 (by omega), ww_up_eq, fa_upd_twice, e4 0 (by omega), ww_cp_ne (by omega)]
                  exact fa_upd_same rfl
                · rw [ww_up_ne ca, hA a u1, ww_up_ne ca, e4 a (by omega), ww_cp_ne (by omega)]
              · rw [ww_up_ne (by omega), q8 x (by omega), ww_upr_eq, fb_put_out (by omega), hu 63 (by omega)]
              · rw [ww_up_ne (by omega), hA a (by omega), ww_up_ne (by omega)]
              · rw [ww_up_ne (by omega)]; exact q5
          · exact absurd q1 (by simp)
        · have hu : ∀ a, 24 ≤ a → τ a = σ a := fun a ha => by rw [e4 a (by omega), cpu a ha]
          obtain ⟨q, r', t1, t2, t3⟩ := loop τ hu
          have eq : (.inr (v, τ) : (Int32 × Int32 × ww_M) ⊕ (Int32 × ww_M)) = q := by rw [g1] at t1; exact Option.some.inj t1
          subst eq
          rcases t3 with ⟨fl', w', τ', ν, d', q1, -⟩ | ⟨v', τ', ν, q1, rfl, q4, q5, q6, q7, q8⟩
          · exact absurd q1 (by simp)
          · injection q1 with q1
            injection q1 with a1 a2
            subst a1 a2
            refine ⟨v, τ, ν, s, d, ?_, ?_, ?_⟩
            · unfold f_X6_read_j56
              rw [g1]; rfl
            · rw [cpy150]
              simp only [Option.bind_some]
              unfold f_X7_read_j53
              rw [t2]; rfl
            · refine ww_Rel_shore h0 (fun a u1 u2 => ?_) (fun x u1 u2 => ?_) hH (ww_ClsA_ext q4 (fun a u1 u2 => ?_)) q5
              · rw [q7 a u1, ww_upr_ne u1, e4 a (by omega), ww_cp_ne (by omega)]
              · rw [q8 x (by omega), ww_upr_eq, fb_put_out (by omega), hu 63 (by omega)]
              · rw [q7 a (by omega), ww_upr_ne (by omega)]
      · simp only [if_pos c4]
        exact ⟨-1, σ, σ, s, d, rfl, rfl, ww_Rel_up h0⟩
    · simp only [if_pos c2]
      exact ⟨-1, σ, σ, s, d, rfl, rfl, ww_Rel_up h0⟩
  · simp only [if_pos c1]
    exact ⟨-1, σ, σ, s, d, rfl, rfl, ww_Rel_up h0⟩
