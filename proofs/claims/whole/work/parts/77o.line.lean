/-! ===== a line, both sides ===== -/
def rl_f (L : Nat) (s : ww_S) (B : Nat → Bool) : Nat := if L = 1 then (if sNp s < 6 then 0 else 5) else if L = 6 then (if sNb s < 3 then 0 else 5) else if L = 2 then 0 else if B (L - 3) = true then 4 else 0
theorem rl_f1 (s : ww_S) (B : Nat → Bool) : rl_f 1 s B = if sNp s < 6 then 0 else 5 := by simp [rl_f]
theorem rl_f6 (s : ww_S) (B : Nat → Bool) : rl_f 6 s B = if sNb s < 3 then 0 else 5 := by simp [rl_f]
theorem rl_f3 (s : ww_S) (B : Nat → Bool) : rl_f 3 s B = if B 0 = true then 4 else 0 := by simp [rl_f]
theorem rl_f4 (s : ww_S) (B : Nat → Bool) : rl_f 4 s B = if B 1 = true then 4 else 0 := by simp [rl_f]
theorem rl_f5 (s : ww_S) (B : Nat → Bool) : rl_f 5 s B = if B 2 = true then 4 else 0 := by simp [rl_f]
def rl_B (L : Nat) (B : Nat → Bool) : Nat → Bool := fun i => B i || decide (i + 3 = L)
theorem sp_refused {σ : ww_M} {s : ww_S} {d : ww_D1} {B : Nat → Bool} {L : Nat} (hok : dr_ok s d) (hC : dr_C σ s d B) (h1 : 1 ≤ L) (h6 : L ≤ 6) : ∃ τ, f_X5_refusedName σ 3 14 (nI L) = some (nI (rl_f L s B), τ) ∧ dr_C τ s d (rl_B L B) ∧ ∀ a, a ≠ 3 → τ a = σ a := by
  obtain ⟨hC1, ⟨c0, C, hC64, hC2, hCb⟩, hC17⟩ := hC
  have e9 : σ 14 9 = nI (sNp s) := hC1.1.1
  have e11 : σ 14 11 = nI (sNb s) := hC1.1.2.2
  have hnp := hok.1.1
  have hnb := hok.1.2.2
  have same : (∀ i, i < 3 → i + 3 ≠ L) → dr_C σ s d (rl_B L B) := fun z => ⟨hC1, ⟨c0, C, hC64, hC2, fun i hi => by
    unfold rl_B
    rw [hCb i hi, decide_eq_false (z i hi), Bool.or_false]⟩, hC17⟩
  by_cases e1 : L = 1
  · subst e1
    refine ⟨σ, ?_, same (fun i _ => by omega), fun _ _ => rfl⟩
    unfold f_X5_refusedName rl_f
    rw [if_pos (show nI 1 = 1 from rfl), e9, if_pos rfl]
    by_cases q : sNp s < 6
    · rw [if_pos (show nI (sNp s) < 6 from nI_lt (b := 6) q (by omega)), if_pos q]; rfl
    · rw [if_neg (show ¬ nI (sNp s) < 6 by rw [show (6 : Int32) = nI 6 from rfl, n_lt (by omega) (by omega)]; exact q), if_neg q]; rfl
  · by_cases e6 : L = 6
    · subst e6
      refine ⟨σ, ?_, same (fun i _ => by omega), fun _ _ => rfl⟩
      unfold f_X5_refusedName
      rw [rl_f6, if_neg (show ¬ nI 6 = 1 by decide), if_pos (show nI 6 = 6 from rfl), e11]
      by_cases q : sNb s < 3
      · rw [if_pos (show nI (sNb s) < 3 from nI_lt (b := 3) q (by omega)), if_pos q]; rfl
      · rw [if_neg (show ¬ nI (sNb s) < 3 by rw [show (3 : Int32) = nI 3 from rfl, n_lt (by omega) (by omega)]; exact q), if_neg q]; rfl
    · by_cases e2 : L = 2
      · subst e2
        refine ⟨σ, rfl, same (fun i _ => by omega), fun _ _ => rfl⟩
      · have hbit : (ww_shr (nI C) (nI L) &&& 1) = if B (L - 3) = true then 1 else 0 := by
          rw [ww_bit (by omega) (by omega), ← hCb (L - 3) (by omega), show 3 + (L - 3) = L by omega]
        have hor : nI C ||| ww_shl 1 (nI L) = nI (C ||| 2 ^ L) := by rw [ww_shl1 (by omega), fa_or]
        refine ⟨ww_up σ 3 2 (nI (C ||| 2 ^ L)), ?_, ⟨ww_ClsA_ext hC1 (fun a _ _ => ww_up_ne (by omega)), ⟨by rw [ww_up_eq, pk_un (by omega)]; exact c0, C ||| 2 ^ L, ?_, by rw [ww_up_eq, pk_us], fun i hi => ?_⟩, by rw [ww_up_ne (by omega)]; exact hC17⟩, fun a ha => ww_up_ne ha⟩
        · unfold f_X5_refusedName rl_f
          rw [if_neg (show ¬ nI L = 1 by rw [show (1 : Int32) = nI 1 from rfl, n_eq (by omega) (by omega)]; exact e1), if_neg (show ¬ nI L = 6 by rw [show (6 : Int32) = nI 6 from rfl, n_eq (by omega) (by omega)]; exact e6), if_neg (show ¬ nI L = 2 by rw [show (2 : Int32) = nI 2 from rfl, n_eq (by omega) (by omega)]; exact e2), hC2, hbit, hor, if_neg e1, if_neg e6, if_neg e2]
          cases B (L - 3)
          · simp; rfl
          · simp; rfl
        · have : 2 ^ L < 2 ^ 6 := Nat.pow_lt_pow_right (by omega) (by omega)
          exact Nat.or_lt_two_pow (n := 6) (by omega) this
        · rw [fb_bit_set, hCb i hi]
          unfold rl_B
          rw [Nat.add_comm 3 i]
theorem sm_readName {μ : ww_M} {n : Nat} {y : Nat → Nat} {p : Nat} {s : ww_S} {d : ww_D1} {B : Nat → Bool} (hT : tp_M μ n y) (hp : p ≤ n) (hM : tk_M μ n y p) (hK : tk_K n y p ≠ 4) (hD : dr_M μ s d B) (hok : dr_ok s d) (h70 : μ 70 = ww_zModel 8) (h71 : μ 71 = ww_zModel 9) (hL : wn_line n y p ≠ 0) : ∃ ν, f_X7_readLine μ 62 = f_X7_readLine_j87 ν 62 (nI (wn_line n y p - 1)) ∧ ((rl_f (wn_line n y p) s B = 0 ∧ ν = μ) ∨ (rl_f (wn_line n y p) s B ≠ 0 ∧ ν = ww_up (ww_up μ 62 16 (nI (rl_f (wn_line n y p) s B))) 62 17 (nI (tk_S n y p)))) := by
  have hN := sm_nameHere hT hp hM hK h70 h71
  rw [if_neg hL] at hN
  obtain ⟨m18, m19, m3, -⟩ := hM
  obtain ⟨m16, m20⟩ := m3 hK
  obtain ⟨⟨e9, e10, e11⟩, -, -, -, C, hC64, hC2, hCb⟩ := hD
  have hnp := hok.1.1
  have hnb := hok.1.2.2
  have h6 := wn_line_le n y p
  have hbit : ∀ k, k < 3 → (ww_shr (μ 62 12) (nI (2 + k)) &&& 1) = if B k = true then 1 else 0 := fun k hk => by
    rw [hC2, ww_bit (by omega) (by omega), hCb k hk]
  have hfail : ∀ f : Nat, f_X7_fails μ 62 (nI f) = some (ww_up (ww_up μ 62 16 (nI f)) 62 17 (nI (tk_S n y p))) := fun f => by rw [sm_fails m16, m19]
  unfold f_X7_readLine
  rw [hN]
  simp only [Option.bind_some]
  generalize wn_line n y p = L at hL h6
  rcases (show L = 1 ∨ L = 6 ∨ L = 2 ∨ L = 3 ∨ L = 4 ∨ L = 5 by omega) with rfl | rfl | rfl | rfl | rfl | rfl
  · rw [show f_X7_in (nI (1 - 1)).toInt64 0 5 = some 1 from by decide +kernel, show f_X7_in (nI (1 - 1)).toInt64 2 4 = some 0 from by decide +kernel]
    simp only [Option.bind_some]
    rw [if_neg (by decide), if_pos (show nI (1 - 1) = 0 from rfl), e9]
    rw [rl_f1]
    by_cases q : sNp s < 6
    · refine ⟨μ, ?_, Or.inl ⟨by rw [if_pos q], rfl⟩⟩
      rw [if_neg (show ¬ nI (sNp s) = 6 by rw [show (6 : Int32) = nI 6 from rfl, n_eq (by omega) (by omega)]; omega)]
      unfold f_X7_readLine_j48 f_X7_readLine_j66
      rw [if_neg (by decide), if_pos rfl]
    · refine ⟨_, ?_, Or.inr ⟨by rw [if_neg q]; omega, rfl⟩⟩
      rw [if_pos (show nI (sNp s) = 6 by rw [show sNp s = 6 by omega]; rfl), if_neg q]
      unfold f_X7_readLine_j61 f_X7_readLine_j66
      rw [show (5 : Int32) = nI 5 from rfl, hfail]
      simp only [Option.bind_some, if_true]
  · rw [show f_X7_in (nI (6 - 1)).toInt64 0 5 = some 1 from by decide +kernel, show f_X7_in (nI (6 - 1)).toInt64 2 4 = some 0 from by decide +kernel]
    simp only [Option.bind_some]
    rw [if_neg (by decide), if_neg (by decide)]
    unfold f_X7_readLine_j48
    rw [if_pos (show nI (6 - 1) = 5 from rfl), e11]
    rw [rl_f6]
    by_cases q : sNb s < 3
    · refine ⟨μ, ?_, Or.inl ⟨by rw [if_pos q], rfl⟩⟩
      rw [if_neg (show ¬ nI (sNb s) = 3 by rw [show (3 : Int32) = nI 3 from rfl, n_eq (by omega) (by omega)]; omega)]
      unfold f_X7_readLine_j66
      rw [if_pos rfl]
    · refine ⟨_, ?_, Or.inr ⟨by rw [if_neg q]; omega, rfl⟩⟩
      rw [if_pos (show nI (sNb s) = 3 by rw [show sNb s = 3 by omega]; rfl), if_neg q]
      unfold f_X7_readLine_j61 f_X7_readLine_j66
      rw [show (5 : Int32) = nI 5 from rfl, hfail]
      simp only [Option.bind_some, if_true]
  · rw [show f_X7_in (nI (2 - 1)).toInt64 0 5 = some 1 from by decide +kernel, show f_X7_in (nI (2 - 1)).toInt64 2 4 = some 0 from by decide +kernel]
    simp only [Option.bind_some]
    refine ⟨μ, ?_, Or.inl ⟨rfl, rfl⟩⟩
    rw [if_neg (by decide), if_neg (by decide)]
    unfold f_X7_readLine_j48 f_X7_readLine_j66
    rw [if_neg (by decide), if_pos rfl]
  · rw [show f_X7_in (nI (3 - 1)).toInt64 0 5 = some 1 from by decide +kernel, show f_X7_in (nI (3 - 1)).toInt64 2 4 = some 1 from by decide +kernel]
    simp only [Option.bind_some]
    rw [if_neg (by decide), if_neg (by decide)]
    unfold f_X7_readLine_j48 f_X7_readLine_j66
    rw [if_neg (by decide), if_neg (by decide), show nI (3 - 1) = nI (2 + 0) from rfl, hbit 0 (by omega)]
    rw [rl_f3]
    cases q : B 0
    · exact ⟨μ, by simp, Or.inl ⟨by simp, rfl⟩⟩
    · refine ⟨_, ?_, Or.inr ⟨by simp, rfl⟩⟩
      rw [if_pos rfl, if_pos rfl, show (4 : Int32) = nI 4 from rfl, hfail]
      simp
  · rw [show f_X7_in (nI (4 - 1)).toInt64 0 5 = some 1 from by decide +kernel, show f_X7_in (nI (4 - 1)).toInt64 2 4 = some 1 from by decide +kernel]
    simp only [Option.bind_some]
    rw [if_neg (by decide), if_neg (by decide)]
    unfold f_X7_readLine_j48 f_X7_readLine_j66
    rw [if_neg (by decide), if_neg (by decide), show nI (4 - 1) = nI (2 + 1) from rfl, hbit 1 (by omega)]
    rw [rl_f4]
    cases q : B 1
    · exact ⟨μ, by simp, Or.inl ⟨by simp, rfl⟩⟩
    · refine ⟨_, ?_, Or.inr ⟨by simp, rfl⟩⟩
      rw [if_pos rfl, if_pos rfl, show (4 : Int32) = nI 4 from rfl, hfail]
      simp
  · rw [show f_X7_in (nI (5 - 1)).toInt64 0 5 = some 1 from by decide +kernel, show f_X7_in (nI (5 - 1)).toInt64 2 4 = some 1 from by decide +kernel]
    simp only [Option.bind_some]
    rw [if_neg (by decide), if_neg (by decide)]
    unfold f_X7_readLine_j48 f_X7_readLine_j66
    rw [if_neg (by decide), if_neg (by decide), show nI (5 - 1) = nI (2 + 2) from rfl, hbit 2 (by omega)]
    rw [rl_f5]
    cases q : B 2
    · exact ⟨μ, by simp, Or.inl ⟨by simp, rfl⟩⟩
    · refine ⟨_, ?_, Or.inr ⟨by simp, rfl⟩⟩
      rw [if_pos rfl, if_pos rfl, show (4 : Int32) = nI 4 from rfl, hfail]
      simp
def rl_ok (σ μ : ww_M) (n : Nat) (y : Nat → Nat) (p : Nat) : Prop := ∃ τ ν s d B q, f_X5_readLine σ 3 1 14 = some (1, τ) ∧ f_X7_readLine μ 62 = some ν ∧ (p < q ∧ q ≤ n) ∧ τ 1 2 = nI q ∧ tk_M ν n y q ∧ dr_C τ s d B ∧ dr_M ν s d B ∧ dr_ok s d ∧ fr_C σ τ ∧ fr_M μ ν
def rl_bad (σ μ : ww_M) : Prop := ∃ τ f at', f_X5_readLine σ 3 1 14 = some (0, τ) ∧ (τ 3 0 = nI f ∧ τ 3 1 = nI at' ∧ fr_C σ τ) ∧ (1 ≤ f ∧ f ≤ 5 ∧ at' ≤ 160) ∧ ∃ ν, f_X7_readLine μ 62 = some ν ∧ ν 62 16 = nI f ∧ ν 62 17 = nI at' ∧ (∃ nb, nb ≤ 3 ∧ ν 62 11 = nI nb) ∧ fr_M μ ν
theorem ln_any {σ μ : ww_M} {n : Nat} {y : Nat → Nat} {p : Nat} {s : ww_S} {d : ww_D1} {B B2 : Nat → Bool} {L : Nat} (h1 : 1 ≤ L) (h6 : L ≤ 6) (hf : rl_f L s B2 = 0) (hT : tp_C σ n y) (hTm : tp_M μ n y) (hp : p ≤ n) (h2 : σ 1 2 = nI p) (hM : tk_M μ n y p) (hC : dr_C σ s d B) (hD : dr_M μ s d B) (hok : dr_ok s d) : ln_ok L σ μ n y p B ∨ ln_bad L σ μ := by
  rcases (show L = 1 ∨ L = 2 ∨ L = 3 ∨ L = 4 ∨ L = 5 ∨ L = 6 by omega) with rfl | rfl | rfl | rfl | rfl | rfl
  · refine ln_sand hT hTm hp h2 hM hC hD hok ?_
    rw [rl_f1] at hf
    split at hf
    · assumption
    · omega
  · exact ln_tide hT hTm hp h2 hM hC hD hok
  · exact ln_law hT hTm hp h2 hM hC hD hok
  · exact ln_rot hT hTm hp h2 hM hC hD hok
  · exact ln_gangs hT hTm hp h2 hM hC hD hok
  · refine ln_whale hT hTm hp h2 hM hC hD hok ?_
    rw [rl_f6] at hf
    split at hf
    · assumption
    · omega
theorem rl_line {σ μ : ww_M} {n : Nat} {y : Nat → Nat} {p : Nat} {s : ww_S} {d : ww_D1} {B : Nat → Bool} (hT : tp_C σ n y) (hTm : tp_M μ n y) (hp : p ≤ n) (hCt : tk_C σ n y p) (hM : tk_M μ n y p) (hK0 : tk_K n y p ≠ 0) (hK4 : tk_K n y p ≠ 4) (hC : dr_C σ s d B) (hD : dr_M μ s d B) (hok : dr_ok s d) (h70 : μ 70 = ww_zModel 8) (h71 : μ 71 = ww_zModel 9) : rl_ok σ μ n y p ∨ rl_bad σ μ := by
  have hn := hT.2.1
  have hSl := tk_S_le y hp
  have hS1 := tk_S_ge n y p
  have hNg := tk_N_gt hp hK0
  have hNl := (tk_N_ge y hp).2
  have hline := sp_lineOf hT hp hCt
  have hL6 := wn_line_le n y p
  obtain ⟨m16, m20⟩ := hM.2.2.1 hK4
  have e11 : μ 62 11 = nI (sNb s) := hD.1.2.2
  have hnb := hok.1.2.2
  by_cases hL : wn_line n y p = 0
  · obtain ⟨τ', f1, f2, f3, f4⟩ := sp_failTok (σ := σ) hCt (fr_C.refl σ)
    have ee : tk_e n y p = 2 := by unfold tk_e; rw [if_neg hK4]
    rw [ee] at f2
    refine Or.inr ⟨τ', 2, tk_S n y p, ?_, ⟨f2, f3, f4⟩, ⟨by omega, by omega, by omega⟩, ww_up (ww_up μ 62 16 (nI 2)) 62 17 (nI (tk_S n y p)), ?_, by simp (disch := omega) only [ww_up_ne, ww_up_eq, ww_upr_ne, ww_upr_eq, ww_fill_ne, ww_fill_eq, ww_cpy_ne, ww_cpy_eq, pk_us, pk_un, ne_eq, not_false_eq_true], by simp (disch := omega) only [ww_up_ne, ww_up_eq, ww_upr_ne, ww_upr_eq, ww_fill_ne, ww_fill_eq, ww_cpy_ne, ww_cpy_eq, pk_us, pk_un, ne_eq, not_false_eq_true], ⟨sNb s, hnb, by simp (disch := omega) only [ww_up_ne, ww_up_eq, ww_upr_ne, ww_upr_eq, ww_fill_ne, ww_fill_eq, ww_cpy_ne, ww_cpy_eq, pk_us, pk_un, ne_eq, not_false_eq_true]; exact e11⟩, (fr_S_fail μ _ _).M⟩
    · unfold f_X5_readLine
      rw [hline, hL]
      simp only [Option.bind_some]
      rw [if_pos (show nI 0 = 0 from rfl), f1]
      rfl
    · have hN := sm_nameHere hTm hp hM hK4 h70 h71
      rw [if_pos hL] at hN
      unfold f_X7_readLine
      rw [hN]
      simp only [Option.bind_some]
      rw [show f_X7_in (-4 : Int32).toInt64 0 5 = some 0 from by decide +kernel]
      simp only [Option.bind_some, if_true]
      rw [sm_fails m16, hM.2.1]
      rfl
  · have h1 : 1 ≤ wn_line n y p := by omega
    obtain ⟨σ1, r1, r2, r3⟩ := sp_refused hok hC h1 hL6
    obtain ⟨ν0, q1, q2⟩ := sm_readName hTm hp hM hK4 hD hok h70 h71 hL
    have f1 : fr_C σ σ1 := ⟨fun a z1 z2 z3 => r3 a z2, by rw [r3 1 (by omega)]⟩
    have s12 : σ1 1 2 = nI (tk_N n y p) := by rw [r3 1 (by omega)]; exact hCt.1
    have s14 : σ1 1 4 = nI (tk_S n y p) := by rw [r3 1 (by omega)]; exact hCt.2.2.1
    have cl0 : ¬ nI (wn_line n y p) = 0 := by rw [show (0 : Int32) = nI 0 from rfl, n_eq (by omega) (by omega)]; exact hL
    generalize wn_line n y p = L at hline hL6 hL h1 r1 r2 q1 q2 cl0
    rcases q2 with ⟨hf, rfl⟩ | ⟨hf, hν0⟩
    · -- the name may stand
      rw [hf] at r1
      obtain ⟨C, hC64, hC2, hCb⟩ := hD.2.2.2.2
      obtain ⟨μ1, hμ1⟩ : ∃ X, X = ww_up ν0 62 12 (nI (C ||| 2 ^ (L - 1))) := ⟨_, rfl⟩
      have fm1 : fr_M ν0 μ1 := by
        rw [hμ1]
        exact ⟨fun a z1 z2 z3 z4 => ww_up_ne z1, fun j hj => by rw [ww_up_eq, pk_un (by omega)]⟩
      have n62 : ∀ i, i ≠ 12 → μ1 62 i = ν0 62 i := fun i hi => by rw [hμ1, ww_up_eq, pk_un hi]
      have hD1 : dr_M μ1 s d (rl_B L B) := by
        unfold dr_M
        rw [n62 9 (by omega), n62 10 (by omega), n62 11 (by omega), hμ1, ww_up_ne (show (66 : Nat) ≠ 62 by omega), ww_up_ne (show (67 : Nat) ≠ 62 by omega), ww_up_ne (show (68 : Nat) ≠ 62 by omega)]
        refine ⟨hD.1, hD.2.1, hD.2.2.1, hD.2.2.2.1, C ||| 2 ^ (L - 1), ?_, by rw [ww_up_eq, pk_us], fun i hi => ?_⟩
        · have : 2 ^ (L - 1) < 2 ^ 6 := Nat.pow_lt_pow_right (by omega) (by omega)
          exact Nat.or_lt_two_pow (n := 6) (by omega) this
        · rw [fb_bit_set, hCb i hi]
          unfold rl_B
          congr 1
          by_cases e : i + 3 = L
          · rw [decide_eq_true e, decide_eq_true (show 2 + i = L - 1 by omega)]
          · rw [decide_eq_false e, decide_eq_false (show ¬ 2 + i = L - 1 by omega)]
      obtain ⟨μ2, t1, t2, t3, t4⟩ := sm_step (fm1.tp hTm) hNl (by rw [n62 18 (by omega)]; exact hM.1) (by rw [n62 16 (by omega)]; exact m16)
      have fS : fr_S μ1 μ2 := ⟨t3, t4⟩
      have fm2 := fm1.trans fS.M
      have h87 : f_X7_readLine ν0 62 = if μ2 62 16 ≤ 0 then md_B μ2 (nI (L - 1)) else some μ2 := by
        rw [q1, md_j87, hC2, ww_shl1 (by omega), fa_or, ← hμ1, t1]
        rfl
      have hrd : ∀ τ v, cl_R L 0 σ1 (.inr (v, τ)) → f_X5_readLine σ 3 1 14 = some (v, τ) := fun τ v hr => by
        unfold f_X5_readLine
        rw [hline]
        simp only [Option.bind_some]
        rw [if_neg cl0, r1]
        simp only [Option.bind_some]
        rw [if_pos (show nI 0 = 0 from rfl)]
        unfold f_X5_readLine_j42
        rw [show (0 : Int32) = nI 0 from rfl, hr ww_F (by unfold ww_F; omega)]
        rfl
      by_cases k4 : tk_K n y (tk_N n y p) = 4
      · obtain ⟨z1, z2⟩ := t2.2.2.2.2 k4
        obtain ⟨τ', c1, c2, c3, c4⟩ := sp_b_tok (L := L) (j := 0) (f1.tp hT) hNl s12 (by omega) (fun z => by omega) (fun z => by omega)
        have ee : tk_e n y (tk_N n y p) = 1 := by unfold tk_e; rw [if_pos k4]
        have hSl2 := tk_S_le y hNl
        rw [ee] at c2
        refine Or.inr ⟨τ', 1, tk_S n y (tk_N n y p), hrd τ' 0 c1, ⟨c2, c3, f1.trans c4⟩, ⟨by omega, by omega, by omega⟩, μ2, ?_, z1, z2, ⟨sNb s, hnb, by rw [t3 11 (by omega), n62 11 (by omega)]; exact e11⟩, fm2⟩
        rw [h87, z1, if_neg (by decide)]
      · obtain ⟨z1, z2⟩ := t2.2.2.1 k4
        rw [z1, if_pos (by decide)] at h87
        rcases ln_any (B2 := B) h1 hL6 hf (f1.tp hT) (fm2.tp hTm) hNl s12 t2 r2 (dr_M_fr hD1 fS) hok with ⟨τ, ν, s', d', q, w1, w2, ⟨w3, w4⟩, w5, w6, w7, w8, w9, w10, w11⟩ | ⟨f, at', ⟨τ, w1, w2, w3, w4⟩, w5, ν, w6, w7, w8, w9, w10⟩
        · exact Or.inl ⟨τ, ν, s', d', _, q, hrd τ 1 w1, h87.trans w2, ⟨by omega, w4⟩, w5, w6, w7, w8, w9, f1.trans w10, fm2.trans w11⟩
        · exact Or.inr ⟨τ, f, at', hrd τ 0 w1, ⟨w2, w3, f1.trans w4⟩, w5, ν, h87.trans w6, w7, w8, w9, fm2.trans w10⟩
    · -- a name too many
      have hf5 : 1 ≤ rl_f L s B ∧ rl_f L s B ≤ 5 := by
        refine ⟨by omega, ?_⟩
        unfold rl_f
        repeat' split
        all_goals omega
      have v16 : ν0 62 16 = nI (rl_f L s B) := by rw [hν0]; simp (disch := omega) only [ww_up_ne, ww_up_eq, ww_upr_ne, ww_upr_eq, ww_fill_ne, ww_fill_eq, ww_cpy_ne, ww_cpy_eq, pk_us, pk_un, ne_eq, not_false_eq_true]
      have v17 : ν0 62 17 = nI (tk_S n y p) := by rw [hν0]; simp (disch := omega) only [ww_up_ne, ww_up_eq, ww_upr_ne, ww_upr_eq, ww_fill_ne, ww_fill_eq, ww_cpy_ne, ww_cpy_eq, pk_us, pk_un, ne_eq, not_false_eq_true]
      have v11 : ν0 62 11 = nI (sNb s) := by rw [hν0]; simp (disch := omega) only [ww_up_ne, ww_up_eq, ww_upr_ne, ww_upr_eq, ww_fill_ne, ww_fill_eq, ww_cpy_ne, ww_cpy_eq, pk_us, pk_un, ne_eq, not_false_eq_true]; exact e11
      have fv : fr_M μ ν0 := by rw [hν0]; exact (fr_S_fail μ _ _).M
      obtain ⟨ν1, hν1⟩ : ∃ X, X = ww_up ν0 62 12 ((ν0 62 12) ||| (ww_shl 1 (nI (L - 1)))) := ⟨_, rfl⟩
      have w16 : ν1 62 16 = nI (rl_f L s B) := by rw [hν1, ww_up_eq, pk_un (by omega)]; exact v16
      refine Or.inr ⟨ww_up (ww_up σ1 3 0 (nI (rl_f L s B))) 3 1 (nI (tk_S n y p)), rl_f L s B, tk_S n y p, ?_, ⟨by simp (disch := omega) only [ww_up_ne, ww_up_eq, ww_upr_ne, ww_upr_eq, ww_fill_ne, ww_fill_eq, ww_cpy_ne, ww_cpy_eq, pk_us, pk_un, ne_eq, not_false_eq_true], by simp (disch := omega) only [ww_up_ne, ww_up_eq, ww_upr_ne, ww_upr_eq, ww_fill_ne, ww_fill_eq, ww_cpy_ne, ww_cpy_eq, pk_us, pk_un, ne_eq, not_false_eq_true], f1.trans ⟨fun a z1 z2 z3 => by rw [ww_up_ne z2, ww_up_ne z2], by simp (disch := omega) only [ww_up_ne, ww_up_eq, ww_upr_ne, ww_upr_eq, ww_fill_ne, ww_fill_eq, ww_cpy_ne, ww_cpy_eq, pk_us, pk_un, ne_eq, not_false_eq_true]⟩⟩, ⟨hf5.1, hf5.2, by omega⟩, ν1, ?_, w16, by rw [hν1, ww_up_eq, pk_un (by omega)]; exact v17, ⟨sNb s, hnb, by rw [hν1, ww_up_eq, pk_un (by omega)]; exact v11⟩, fv.trans (by
        rw [hν1]
        exact ⟨fun a z1 z2 z3 z4 => ww_up_ne z1, fun j hj => by rw [ww_up_eq, pk_un (by omega)]⟩)⟩
      · unfold f_X5_readLine
        rw [hline]
        simp only [Option.bind_some]
        rw [if_neg cl0, r1]
        simp only [Option.bind_some]
        rw [if_neg (show ¬ nI (rl_f L s B) = 0 by rw [show (0 : Int32) = nI 0 from rfl, n_eq (by omega) (by omega)]; omega), s14]
        rfl
      · rw [q1, md_j87, ← hν1, sm_step_br w16 hf5.1 (by omega)]
        simp only [Option.bind_some]
        rw [w16, if_neg (by rw [show (0 : Int32) = nI 0 from rfl, n_le (by omega) (by omega)]; omega)]
