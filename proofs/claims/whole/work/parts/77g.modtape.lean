/-! ===== the model's tokens ===== -/
def tk_M (ν : ww_M) (n : Nat) (y : Nat → Nat) (p : Nat) : Prop := ν 62 18 = nI (tk_N n y p) ∧ ν 62 19 = nI (tk_S n y p) ∧ (tk_K n y p ≠ 4 → ν 62 16 = 0 ∧ ν 62 20 = nI (tk_K n y p)) ∧ (tk_K n y p = 2 → ν 62 21 = nI (tk_V n y p)) ∧ (tk_K n y p = 4 → ν 62 16 = 1 ∧ ν 62 17 = nI (tk_S n y p))
theorem sm_byteAt {τ : ww_M} {n k : Nat} {y : Nat → Nat} (hT : tp_M τ n y) (hk : k < n) : f_X7_byteAt τ 62 (nI k) = some (nI (y k)) := by
  obtain ⟨t1, t2, t3⟩ := hT
  unfold f_X7_byteAt
  rw [t1, if_neg (by rw [n_le (by omega) (by omega)]; omega), n_in (show k < 160 by omega) (by omega), n_ckt, n_ix (by omega)]
  exact congrArg some (t3 k hk).2
theorem sm_byteEnd {τ : ww_M} {n : Nat} {y : Nat → Nat} (hT : tp_M τ n y) : f_X7_byteAt τ 62 (nI n) = some (-4) := by
  obtain ⟨t1, t2, t3⟩ := hT
  unfold f_X7_byteAt
  rw [t1, if_pos (nI_le (Nat.le_refl _) (by omega))]
theorem sm_letter {c : Nat} (h : c < 128) : f_X7_in (nI c).toInt64 97 122 = some (if tk_L c = true then 1 else 0) := by
  unfold tk_L
  rw [ww_inI (a := 97) (b := 122) 97 122 rfl rfl]
  simp (disch := omega) only [n_lit, n_le, n_lt, n_eq, n_in, n_ckt, n_ix, n_mul, n_add, n_sub, n_div, n_rem, n_b01, n_isb, n_lt0, n_le0, Option.bind_some, if_pos, if_neg, ge_iff_le, gt_iff_lt, Nat.zero_add, Nat.add_zero, n_neg1, n_neg4, if_true, if_false, ite_true, ite_false, n_land1, not_true_eq_false, not_false_eq_true]
  simp
theorem sm_figure {c : Nat} (h : c < 128) : f_X7_in (nI c).toInt64 48 57 = some (if tk_F c = true then 1 else 0) := by
  unfold tk_F
  rw [ww_inI (a := 48) (b := 57) 48 57 rfl rfl]
  simp (disch := omega) only [n_lit, n_le, n_lt, n_eq, n_in, n_ckt, n_ix, n_mul, n_add, n_sub, n_div, n_rem, n_b01, n_isb, n_lt0, n_le0, Option.bind_some, if_pos, if_neg, ge_iff_le, gt_iff_lt, Nat.zero_add, Nat.add_zero, n_neg1, n_neg4, if_true, if_false, ite_true, ite_false, n_land1, not_true_eq_false, not_false_eq_true]
  simp
theorem sm_noletter : f_X7_in (-4 : Int32).toInt64 97 122 = some 0 := by
  rw [ww_inI (a := 97) (b := 122) 97 122 rfl rfl, if_neg (by decide)]
theorem sm_nofigure : f_X7_in (-4 : Int32).toInt64 48 57 = some 0 := by
  rw [ww_inI (a := 48) (b := 57) 48 57 rfl rfl, if_neg (by decide)]
theorem tp_M_fr {μ ν : ww_M} {n : Nat} {y : Nat → Nat} (h : tp_M μ n y) (h14 : ν 62 14 = μ 62 14) (h69 : ν 69 = μ 69) : tp_M ν n y := by
  unfold tp_M
  rw [h14, h69]; exact h
def tk_vm (y : Nat → Nat) (p : Nat) : Nat → Int32
  | 0 => 0
  | i + 1 => if i < 2 then 10 * tk_vm y p i + nI (y (p + i)) - 48 else tk_vm y p i
theorem tk_vm_V {n : Nat} {y : Nat → Nat} {p : Nat} (h : p ≤ n) (hK : tk_K n y p = 2) : tk_vm y (tk_S n y p) (tk_N n y p - tk_S n y p) = nI (tk_V n y p) := by
  have h1 := tk_vc_V h hK
  obtain ⟨-, h2, -⟩ := tk_V_lt h hK
  have e1 : tk_vm y (tk_S n y p) 1 = tk_vc y (tk_S n y p) 1 := by
    show (if 0 < 2 then (10 : Int32) * 0 + nI (y (tk_S n y p + 0)) - 48 else 0) = 0 * 10 + nI (y (tk_S n y p + 0)) - 48
    rw [if_pos (by omega)]; rfl
  rcases h2 with e | e
  · rw [e] at h1 ⊢; rw [e1]; exact h1
  · rw [e] at h1 ⊢
    show (if 1 < 2 then (10 : Int32) * tk_vm y (tk_S n y p) 1 + nI (y (tk_S n y p + 1)) - 48 else _) = _
    rw [if_pos (by omega), e1, Int32.mul_comm]
    exact h1
theorem sm_step_br {μ : ww_M} {f : Nat} (h : μ 62 16 = nI f) (h1 : 1 ≤ f) (h2 : f < 100) : f_X7_step μ 62 = some μ := by
  unfold f_X7_step
  rw [h, if_neg (by rw [show (0 : Int32) = nI 0 from rfl, n_le (by omega) (by omega)]; omega)]
theorem sm_step {μ : ww_M} {n : Nat} {y : Nat → Nat} {p : Nat} (hT : tp_M μ n y) (hp : p ≤ n) (h18 : μ 62 18 = nI p) (h16 : μ 62 16 = 0) : ∃ ν, f_X7_step μ 62 = some ν ∧ tk_M ν n y p ∧ (∀ j, j < 16 ∨ 21 < j → ν 62 j = μ 62 j) ∧ ∀ a, a ≠ 62 → ν a = μ a := by
  have t2 := hT.2.1
  have t3 := hT.2.2
  have hSl := tk_S_le y hp
  have l0 : ww_it (f_X7_step_b8 62) ww_F μ = some (ww_up μ 62 18 (nI (tk_S n y p))) := by
    refine ww_run (f := f_X7_step_b8 62) μ 62 18 (fun i => decide (y i = 32)) hp t2 h18 (fun i hi1 hi2 => ?_) ?_
    · obtain ⟨b1, -⟩ := t3 i hi2
      have hTu : tp_M (ww_up μ 62 18 (nI i)) n y := tp_M_fr hT (by simp (disch := omega) only [ww_up_ne, ww_up_eq, ww_upr_ne, ww_upr_eq, ww_fill_ne, ww_fill_eq, ww_cpy_ne, ww_cpy_eq, pk_us, pk_un, ne_eq, not_false_eq_true]) (by simp (disch := omega) only [ww_up_ne, ww_up_eq, ww_upr_ne, ww_upr_eq, ww_fill_ne, ww_fill_eq, ww_cpy_ne, ww_cpy_eq, pk_us, pk_un, ne_eq, not_false_eq_true])
      unfold f_X7_step_b8
      simp (disch := omega) only [ww_up_ne, ww_up_eq, ww_upr_ne, ww_upr_eq, ww_fill_ne, ww_fill_eq, ww_cpy_ne, ww_cpy_eq, pk_us, pk_un, ne_eq, not_false_eq_true]
      rw [sm_byteAt hTu hi2]
      simp only [Option.bind_some]
      by_cases e : y i = 32
      · rw [if_pos (show nI (y i) = 32 by rw [e]; rfl), ww_up_twice, nI_1]; simp [e]
      · rw [if_neg (show ¬ nI (y i) = 32 by rw [show (32 : Int32) = nI 32 from rfl, n_eq (by omega) (by omega)]; exact e)]; simp [e]
    · have hTu : tp_M (ww_up μ 62 18 (nI n)) n y := tp_M_fr hT (by simp (disch := omega) only [ww_up_ne, ww_up_eq, ww_upr_ne, ww_upr_eq, ww_fill_ne, ww_fill_eq, ww_cpy_ne, ww_cpy_eq, pk_us, pk_un, ne_eq, not_false_eq_true]) (by simp (disch := omega) only [ww_up_ne, ww_up_eq, ww_upr_ne, ww_upr_eq, ww_fill_ne, ww_fill_eq, ww_cpy_ne, ww_cpy_eq, pk_us, pk_un, ne_eq, not_false_eq_true])
      unfold f_X7_step_b8
      simp (disch := omega) only [ww_up_ne, ww_up_eq, ww_upr_ne, ww_upr_eq, ww_fill_ne, ww_fill_eq, ww_cpy_ne, ww_cpy_eq, pk_us, pk_un, ne_eq, not_false_eq_true]
      rw [sm_byteEnd hTu]
      rfl
  have hst : f_X7_step μ 62 = f_X7_step_j34 (ww_up μ 62 18 (nI (tk_S n y p))) 62 := by
    unfold f_X7_step f_X7_step_j8
    rw [h16, if_pos (by decide), l0]; rfl
  rw [hst]
  generalize hS : tk_S n y p = S at hSl
  obtain ⟨X1, hX1⟩ : ∃ X, X = ww_up (ww_up μ 62 18 (nI S)) 62 19 (nI S) := ⟨_, rfl⟩
  obtain ⟨X, hX⟩ : ∃ X, X = ww_up X1 62 21 0 := ⟨_, rfl⟩
  have xf : ∀ a, a ≠ 62 → X a = μ a := fun a ha => by rw [hX, hX1, ww_up_ne ha, ww_up_ne ha, ww_up_ne ha]
  have xj : ∀ j, j < 16 ∨ 21 < j → X 62 j = μ 62 j := fun j hj => by rw [hX, hX1]; simp (disch := omega) only [ww_up_ne, ww_up_eq, ww_upr_ne, ww_upr_eq, ww_fill_ne, ww_fill_eq, ww_cpy_ne, ww_cpy_eq, pk_us, pk_un, ne_eq, not_false_eq_true]
  have x16 : X 62 16 = 0 := by rw [hX, hX1]; simp (disch := omega) only [ww_up_ne, ww_up_eq, ww_upr_ne, ww_upr_eq, ww_fill_ne, ww_fill_eq, ww_cpy_ne, ww_cpy_eq, pk_us, pk_un, ne_eq, not_false_eq_true, h16]
  have x18 : X 62 18 = nI S := by rw [hX, hX1]; simp (disch := omega) only [ww_up_ne, ww_up_eq, ww_upr_ne, ww_upr_eq, ww_fill_ne, ww_fill_eq, ww_cpy_ne, ww_cpy_eq, pk_us, pk_un, ne_eq, not_false_eq_true]
  have x19 : X 62 19 = nI S := by rw [hX, hX1]; simp (disch := omega) only [ww_up_ne, ww_up_eq, ww_upr_ne, ww_upr_eq, ww_fill_ne, ww_fill_eq, ww_cpy_ne, ww_cpy_eq, pk_us, pk_un, ne_eq, not_false_eq_true]
  have x21 : X 62 21 = 0 := by rw [hX, hX1]; simp (disch := omega) only [ww_up_ne, ww_up_eq, ww_upr_ne, ww_upr_eq, ww_fill_ne, ww_fill_eq, ww_cpy_ne, ww_cpy_eq, pk_us, pk_un, ne_eq, not_false_eq_true]
  have hTx : tp_M X n y := tp_M_fr hT (xj 14 (by omega)) (xf 69 (by omega))
  have hT1 : tp_M X1 n y := tp_M_fr hT (by rw [hX1]; simp (disch := omega) only [ww_up_ne, ww_up_eq, ww_upr_ne, ww_upr_eq, ww_fill_ne, ww_fill_eq, ww_cpy_ne, ww_cpy_eq, pk_us, pk_un, ne_eq, not_false_eq_true]) (by rw [hX1]; simp (disch := omega) only [ww_up_ne, ww_up_eq, ww_upr_ne, ww_upr_eq, ww_fill_ne, ww_fill_eq, ww_cpy_ne, ww_cpy_eq, pk_us, pk_un, ne_eq, not_false_eq_true])
  have hj : f_X7_step_j34 (ww_up μ 62 18 (nI S)) 62 = (f_X7_byteAt X1 62 (nI S)).bind (fun v47 => (if v47 = (-4) then some (ww_up X 62 20 0) else (f_X7_in v47.toInt64 97 122).bind (fun v78 => (if v78 = 0 then (f_X7_in v47.toInt64 48 57).bind (fun v134 => (if v134 = 0 then (if v47 = 59 then some (ww_up (ww_up X 62 20 3) 62 18 (nI S + 1)) else (f_X7_fails (ww_up (ww_up X 62 20 3) 62 18 (nI S + 1)) 62 1).bind (fun v266 => some v266)) else f_X7_step_j140 X 62)) else f_X7_step_j84 X 62)))) := by
    unfold f_X7_step_j34
    have e : ww_up μ 62 18 (nI S) 62 18 = nI S := by simp (disch := omega) only [ww_up_ne, ww_up_eq, ww_upr_ne, ww_upr_eq, ww_fill_ne, ww_fill_eq, ww_cpy_ne, ww_cpy_eq, pk_us, pk_un, ne_eq, not_false_eq_true]
    have e1 : X1 62 18 = nI S := by rw [hX1]; simp (disch := omega) only [ww_up_ne, ww_up_eq, ww_upr_ne, ww_upr_eq, ww_fill_ne, ww_fill_eq, ww_cpy_ne, ww_cpy_eq, pk_us, pk_un, ne_eq, not_false_eq_true]
    have e3 : ∀ v, ww_up X 62 20 v 62 18 = nI S := fun v => by
      rw [ww_up_eq, pk_un (by omega)]; exact x18
    simp only [e, ← hX1, e1, ← hX, e3]
  rw [hj]
  have fin : ∀ τ : ww_M, τ 62 16 = 0 → τ 62 19 = nI S → f_X7_fails τ 62 1 = some (ww_up (ww_up τ 62 16 1) 62 17 (nI S)) := fun τ z1 z2 => by
    unfold f_X7_fails
    rw [if_pos z1, show ww_up τ 62 16 1 62 19 = nI S by simp (disch := omega) only [ww_up_ne, ww_up_eq, ww_upr_ne, ww_upr_eq, ww_fill_ne, ww_fill_eq, ww_cpy_ne, ww_cpy_eq, pk_us, pk_un, ne_eq, not_false_eq_true, z2]]
  by_cases hn : n ≤ S
  · obtain rfl : S = n := by omega
    have eN : tk_N S y p = S := by unfold tk_N; rw [hS, if_pos hn]
    have eK : tk_K S y p = 0 := by unfold tk_K; rw [hS, if_pos hn]
    refine ⟨ww_up X 62 20 0, ?_, ⟨?_, ?_, fun _ => ⟨?_, ?_⟩, fun z => by omega, fun z => by omega⟩, ?_, ?_⟩
    · rw [sm_byteEnd hT1]; rfl
    · simp (disch := omega) only [ww_up_ne, ww_up_eq, ww_upr_ne, ww_upr_eq, ww_fill_ne, ww_fill_eq, ww_cpy_ne, ww_cpy_eq, pk_us, pk_un, ne_eq, not_false_eq_true, x18, eN]
    · simp (disch := omega) only [ww_up_ne, ww_up_eq, ww_upr_ne, ww_upr_eq, ww_fill_ne, ww_fill_eq, ww_cpy_ne, ww_cpy_eq, pk_us, pk_un, ne_eq, not_false_eq_true, x19, hS]
    · simp (disch := omega) only [ww_up_ne, ww_up_eq, ww_upr_ne, ww_upr_eq, ww_fill_ne, ww_fill_eq, ww_cpy_ne, ww_cpy_eq, pk_us, pk_un, ne_eq, not_false_eq_true, x16]
    · simp (disch := omega) only [ww_up_ne, ww_up_eq, ww_upr_ne, ww_upr_eq, ww_fill_ne, ww_fill_eq, ww_cpy_ne, ww_cpy_eq, pk_us, pk_un, ne_eq, not_false_eq_true]; rw [eK]; rfl
    · intro j hj'; simp (disch := omega) only [ww_up_ne, ww_up_eq, ww_upr_ne, ww_upr_eq, ww_fill_ne, ww_fill_eq, ww_cpy_ne, ww_cpy_eq, pk_us, pk_un, ne_eq, not_false_eq_true]; exact xj j hj'
    · intro a ha; rw [ww_up_ne ha]; exact xf a ha
  · have hSn : S < n := by omega
    obtain ⟨b1, -⟩ := t3 S hSn
    rw [sm_byteAt hT1 hSn]
    simp only [Option.bind_some]
    have n4 : ¬ nI (y S) = -4 := fun z => by
      have := n_neg4 (n := y S) (by omega)
      exact (this ▸ z : False)
    rw [if_neg n4, sm_letter b1, sm_figure b1]
    simp only [Option.bind_some]
    cases cL : tk_L (y S)
    · cases cF : tk_F (y S)
      · have eN : tk_N n y p = S + 1 := by unfold tk_N; simp only [hS]; rw [if_neg hn, if_neg (by rw [cL]; decide), if_neg (by rw [cF]; decide)]
        have eK : tk_K n y p = if y S = 59 then 3 else 4 := by unfold tk_K; simp only [hS]; rw [if_neg hn, if_neg (by rw [cL]; decide), if_neg (by rw [cF]; decide)]
        simp only [Bool.false_eq_true, if_false, if_true]
        rw [nI_1]
        by_cases e : y S = 59
        · rw [if_pos e] at eK
          refine ⟨ww_up (ww_up X 62 20 3) 62 18 (nI (S + 1)), ?_, ⟨?_, ?_, fun _ => ⟨?_, ?_⟩, fun z => by omega, fun z => by omega⟩, ?_, ?_⟩
          · rw [e, if_pos (show nI 59 = 59 from rfl)]
          · simp (disch := omega) only [ww_up_ne, ww_up_eq, ww_upr_ne, ww_upr_eq, ww_fill_ne, ww_fill_eq, ww_cpy_ne, ww_cpy_eq, pk_us, pk_un, ne_eq, not_false_eq_true, eN]
          · simp (disch := omega) only [ww_up_ne, ww_up_eq, ww_upr_ne, ww_upr_eq, ww_fill_ne, ww_fill_eq, ww_cpy_ne, ww_cpy_eq, pk_us, pk_un, ne_eq, not_false_eq_true, x19, hS]
          · simp (disch := omega) only [ww_up_ne, ww_up_eq, ww_upr_ne, ww_upr_eq, ww_fill_ne, ww_fill_eq, ww_cpy_ne, ww_cpy_eq, pk_us, pk_un, ne_eq, not_false_eq_true, x16]
          · simp (disch := omega) only [ww_up_ne, ww_up_eq, ww_upr_ne, ww_upr_eq, ww_fill_ne, ww_fill_eq, ww_cpy_ne, ww_cpy_eq, pk_us, pk_un, ne_eq, not_false_eq_true]; rw [eK]; rfl
          · intro j hj'; simp (disch := omega) only [ww_up_ne, ww_up_eq, ww_upr_ne, ww_upr_eq, ww_fill_ne, ww_fill_eq, ww_cpy_ne, ww_cpy_eq, pk_us, pk_un, ne_eq, not_false_eq_true]; exact xj j hj'
          · intro a ha; rw [ww_up_ne ha, ww_up_ne ha]; exact xf a ha
        · rw [if_neg e] at eK
          have e59 : ¬ nI (y S) = 59 := by rw [show (59 : Int32) = nI 59 from rfl, n_eq (by omega) (by omega)]; exact e
          refine ⟨ww_up (ww_up (ww_up (ww_up X 62 20 3) 62 18 (nI (S + 1))) 62 16 1) 62 17 (nI S), ?_, ⟨?_, ?_, fun z => absurd eK z, fun z => by omega, fun _ => ⟨?_, ?_⟩⟩, ?_, ?_⟩
          · rw [if_neg e59, fin _ (by simp (disch := omega) only [ww_up_ne, ww_up_eq, ww_upr_ne, ww_upr_eq, ww_fill_ne, ww_fill_eq, ww_cpy_ne, ww_cpy_eq, pk_us, pk_un, ne_eq, not_false_eq_true, x16]) (by simp (disch := omega) only [ww_up_ne, ww_up_eq, ww_upr_ne, ww_upr_eq, ww_fill_ne, ww_fill_eq, ww_cpy_ne, ww_cpy_eq, pk_us, pk_un, ne_eq, not_false_eq_true, x19])]; rfl
          · simp (disch := omega) only [ww_up_ne, ww_up_eq, ww_upr_ne, ww_upr_eq, ww_fill_ne, ww_fill_eq, ww_cpy_ne, ww_cpy_eq, pk_us, pk_un, ne_eq, not_false_eq_true, eN]
          · simp (disch := omega) only [ww_up_ne, ww_up_eq, ww_upr_ne, ww_upr_eq, ww_fill_ne, ww_fill_eq, ww_cpy_ne, ww_cpy_eq, pk_us, pk_un, ne_eq, not_false_eq_true, x19, hS]
          · simp (disch := omega) only [ww_up_ne, ww_up_eq, ww_upr_ne, ww_upr_eq, ww_fill_ne, ww_fill_eq, ww_cpy_ne, ww_cpy_eq, pk_us, pk_un, ne_eq, not_false_eq_true]
          · simp (disch := omega) only [ww_up_ne, ww_up_eq, ww_upr_ne, ww_upr_eq, ww_fill_ne, ww_fill_eq, ww_cpy_ne, ww_cpy_eq, pk_us, pk_un, ne_eq, not_false_eq_true, hS]
          · intro j hj'; simp (disch := omega) only [ww_up_ne, ww_up_eq, ww_upr_ne, ww_upr_eq, ww_fill_ne, ww_fill_eq, ww_cpy_ne, ww_cpy_eq, pk_us, pk_un, ne_eq, not_false_eq_true]; exact xj j hj'
          · intro a ha; rw [ww_up_ne ha, ww_up_ne ha, ww_up_ne ha, ww_up_ne ha]; exact xf a ha
      · have eN : tk_N n y p = tk_r (fun i => tk_F (y i)) n S := by unfold tk_N; simp only [hS]; rw [if_neg hn, if_neg (by rw [cL]; decide), if_pos cF]
        have eK : tk_K n y p = if tk_N n y p - S ≤ 2 then 2 else 4 := by rw [eN]; unfold tk_K; simp only [hS]; rw [if_neg hn, if_neg (by rw [cL]; decide), if_pos cF]
        have hNl := (tk_N_ge y hp).2
        have hNg := (tk_N_ge y hp).1
        rw [hS] at hNg
        have l1 : ww_it (f_X7_step_b140 62) ww_F X = some (ww_up (ww_up X 62 21 (tk_vm y S (tk_r (fun i => tk_F (y i)) n S - S))) 62 18 (nI (tk_r (fun i => tk_F (y i)) n S))) := by
          refine ww_run2 (f := f_X7_step_b140 62) X 62 21 18 (tk_vm y S) (fun i => tk_F (y i)) (by omega) t2 x18 (by rw [x21]; rfl) (by omega) (fun i hi => ?_) ?_
          · obtain ⟨c1, -⟩ := t3 (S + i) hi
            have hTu : tp_M (ww_up (ww_up X 62 21 (tk_vm y S i)) 62 18 (nI (S + i))) n y := tp_M_fr hTx (by simp (disch := omega) only [ww_up_ne, ww_up_eq, ww_upr_ne, ww_upr_eq, ww_fill_ne, ww_fill_eq, ww_cpy_ne, ww_cpy_eq, pk_us, pk_un, ne_eq, not_false_eq_true]) (by simp (disch := omega) only [ww_up_ne, ww_up_eq, ww_upr_ne, ww_upr_eq, ww_fill_ne, ww_fill_eq, ww_cpy_ne, ww_cpy_eq, pk_us, pk_un, ne_eq, not_false_eq_true])
            unfold f_X7_step_b140
            simp (disch := omega) only [ww_up_ne, ww_up_eq, ww_upr_ne, ww_upr_eq, ww_fill_ne, ww_fill_eq, ww_cpy_ne, ww_cpy_eq, pk_us, pk_un, ne_eq, not_false_eq_true, x19]
            rw [sm_byteAt hTu hi]
            simp only [Option.bind_some]
            rw [sm_figure c1]
            simp only [Option.bind_some]
            cases cc : tk_F (y (S + i))
            · simp
            · simp only [if_true, if_neg (show ¬ (1 : Int32) = 0 by decide)]
              rw [n_sub (by omega), show S + i - S = i by omega]
              rw [ww_up4 _ (show (21 : Nat) ≠ 18 by omega), ww_up4 _ (show (21 : Nat) ≠ 18 by omega), nI_1, Nat.add_assoc]
              by_cases e : i < 2
              · rw [if_neg (show ¬ (2 : Int32) ≤ nI i by rw [show (2 : Int32) = nI 2 from rfl, n_le (by omega) (by omega)]; omega)]
                have : tk_vm y S (i + 1) = 10 * tk_vm y S i + nI (y (S + i)) - 48 := if_pos e
                rw [this]
              · rw [if_pos (show (2 : Int32) ≤ nI i from nI_le (a := 2) (by omega) (by omega))]
                have : tk_vm y S (i + 1) = tk_vm y S i := if_neg e
                rw [this]
          · have hTu : tp_M (ww_up (ww_up X 62 21 (tk_vm y S (n - S))) 62 18 (nI n)) n y := tp_M_fr hTx (by simp (disch := omega) only [ww_up_ne, ww_up_eq, ww_upr_ne, ww_upr_eq, ww_fill_ne, ww_fill_eq, ww_cpy_ne, ww_cpy_eq, pk_us, pk_un, ne_eq, not_false_eq_true]) (by simp (disch := omega) only [ww_up_ne, ww_up_eq, ww_upr_ne, ww_upr_eq, ww_fill_ne, ww_fill_eq, ww_cpy_ne, ww_cpy_eq, pk_us, pk_un, ne_eq, not_false_eq_true])
            unfold f_X7_step_b140
            simp (disch := omega) only [ww_up_ne, ww_up_eq, ww_upr_ne, ww_upr_eq, ww_fill_ne, ww_fill_eq, ww_cpy_ne, ww_cpy_eq, pk_us, pk_un, ne_eq, not_false_eq_true, x19]
            rw [sm_byteEnd hTu]
            simp only [Option.bind_some]
            rw [sm_nofigure]
            rfl
        rw [← eN] at l1
        simp only [Bool.false_eq_true, if_false, if_true, if_neg (show ¬ (1 : Int32) = 0 by decide)]
        unfold f_X7_step_j140
        rw [l1]
        simp only [Option.bind_some]
        unfold f_X7_step_j217
        simp (disch := omega) only [ww_up_ne, ww_up_eq, ww_upr_ne, ww_upr_eq, ww_fill_ne, ww_fill_eq, ww_cpy_ne, ww_cpy_eq, pk_us, pk_un, ne_eq, not_false_eq_true, x19]
        rw [n_sub hNg]
        by_cases e : tk_N n y p - S ≤ 2
        · rw [if_pos e] at eK
          have hv := tk_vm_V hp eK
          rw [hS] at hv
          refine ⟨ww_up (ww_up (ww_up X 62 21 (tk_vm y S (tk_N n y p - S))) 62 18 (nI (tk_N n y p))) 62 20 2, ?_, ⟨?_, ?_, fun _ => ⟨?_, ?_⟩, fun z => ?_, fun z => by omega⟩, ?_, ?_⟩
          · rw [if_pos (show nI (tk_N n y p - S) ≤ 2 from nI_le (b := 2) e (by omega))]
          · simp (disch := omega) only [ww_up_ne, ww_up_eq, ww_upr_ne, ww_upr_eq, ww_fill_ne, ww_fill_eq, ww_cpy_ne, ww_cpy_eq, pk_us, pk_un, ne_eq, not_false_eq_true]
          · simp (disch := omega) only [ww_up_ne, ww_up_eq, ww_upr_ne, ww_upr_eq, ww_fill_ne, ww_fill_eq, ww_cpy_ne, ww_cpy_eq, pk_us, pk_un, ne_eq, not_false_eq_true, x19, hS]
          · simp (disch := omega) only [ww_up_ne, ww_up_eq, ww_upr_ne, ww_upr_eq, ww_fill_ne, ww_fill_eq, ww_cpy_ne, ww_cpy_eq, pk_us, pk_un, ne_eq, not_false_eq_true, x16]
          · simp (disch := omega) only [ww_up_ne, ww_up_eq, ww_upr_ne, ww_upr_eq, ww_fill_ne, ww_fill_eq, ww_cpy_ne, ww_cpy_eq, pk_us, pk_un, ne_eq, not_false_eq_true]; rw [eK]; rfl
          · simp (disch := omega) only [ww_up_ne, ww_up_eq, ww_upr_ne, ww_upr_eq, ww_fill_ne, ww_fill_eq, ww_cpy_ne, ww_cpy_eq, pk_us, pk_un, ne_eq, not_false_eq_true]; exact hv
          · intro j hj'; simp (disch := omega) only [ww_up_ne, ww_up_eq, ww_upr_ne, ww_upr_eq, ww_fill_ne, ww_fill_eq, ww_cpy_ne, ww_cpy_eq, pk_us, pk_un, ne_eq, not_false_eq_true]; exact xj j hj'
          · intro a ha; rw [ww_up_ne ha, ww_up_ne ha, ww_up_ne ha]; exact xf a ha
        · rw [if_neg e] at eK
          refine ⟨ww_up (ww_up (ww_up (ww_up (ww_up X 62 21 (tk_vm y S (tk_N n y p - S))) 62 18 (nI (tk_N n y p))) 62 20 2) 62 16 1) 62 17 (nI S), ?_, ⟨?_, ?_, fun z => absurd eK z, fun z => by omega, fun _ => ⟨?_, ?_⟩⟩, ?_, ?_⟩
          · rw [if_neg (show ¬ nI (tk_N n y p - S) ≤ 2 by rw [show (2 : Int32) = nI 2 from rfl, n_le (by omega) (by omega)]; exact e), fin _ (by simp (disch := omega) only [ww_up_ne, ww_up_eq, ww_upr_ne, ww_upr_eq, ww_fill_ne, ww_fill_eq, ww_cpy_ne, ww_cpy_eq, pk_us, pk_un, ne_eq, not_false_eq_true, x16]) (by simp (disch := omega) only [ww_up_ne, ww_up_eq, ww_upr_ne, ww_upr_eq, ww_fill_ne, ww_fill_eq, ww_cpy_ne, ww_cpy_eq, pk_us, pk_un, ne_eq, not_false_eq_true, x19])]
            rfl
          · simp (disch := omega) only [ww_up_ne, ww_up_eq, ww_upr_ne, ww_upr_eq, ww_fill_ne, ww_fill_eq, ww_cpy_ne, ww_cpy_eq, pk_us, pk_un, ne_eq, not_false_eq_true]
          · simp (disch := omega) only [ww_up_ne, ww_up_eq, ww_upr_ne, ww_upr_eq, ww_fill_ne, ww_fill_eq, ww_cpy_ne, ww_cpy_eq, pk_us, pk_un, ne_eq, not_false_eq_true, x19, hS]
          · simp (disch := omega) only [ww_up_ne, ww_up_eq, ww_upr_ne, ww_upr_eq, ww_fill_ne, ww_fill_eq, ww_cpy_ne, ww_cpy_eq, pk_us, pk_un, ne_eq, not_false_eq_true]
          · simp (disch := omega) only [ww_up_ne, ww_up_eq, ww_upr_ne, ww_upr_eq, ww_fill_ne, ww_fill_eq, ww_cpy_ne, ww_cpy_eq, pk_us, pk_un, ne_eq, not_false_eq_true, hS]
          · intro j hj'; simp (disch := omega) only [ww_up_ne, ww_up_eq, ww_upr_ne, ww_upr_eq, ww_fill_ne, ww_fill_eq, ww_cpy_ne, ww_cpy_eq, pk_us, pk_un, ne_eq, not_false_eq_true]; exact xj j hj'
          · intro a ha; rw [ww_up_ne ha, ww_up_ne ha, ww_up_ne ha, ww_up_ne ha, ww_up_ne ha]; exact xf a ha
    · have eN : tk_N n y p = tk_r (fun i => tk_L (y i)) n S := by unfold tk_N; simp only [hS]; rw [if_neg hn, if_pos cL]
      have eK : tk_K n y p = 1 := by unfold tk_K; simp only [hS]; rw [if_neg hn, if_pos cL]
      have hNl := (tk_N_ge y hp).2
      have l1 : ww_it (f_X7_step_b84 62) ww_F X = some (ww_up X 62 18 (nI (tk_r (fun i => tk_L (y i)) n S))) := by
        refine ww_run (f := f_X7_step_b84 62) X 62 18 (fun i => tk_L (y i)) (by omega) t2 x18 (fun i hi1 hi2 => ?_) ?_
        · obtain ⟨c1, -⟩ := t3 i hi2
          have hTu : tp_M (ww_up X 62 18 (nI i)) n y := tp_M_fr hTx (by simp (disch := omega) only [ww_up_ne, ww_up_eq, ww_upr_ne, ww_upr_eq, ww_fill_ne, ww_fill_eq, ww_cpy_ne, ww_cpy_eq, pk_us, pk_un, ne_eq, not_false_eq_true]) (by simp (disch := omega) only [ww_up_ne, ww_up_eq, ww_upr_ne, ww_upr_eq, ww_fill_ne, ww_fill_eq, ww_cpy_ne, ww_cpy_eq, pk_us, pk_un, ne_eq, not_false_eq_true])
          unfold f_X7_step_b84
          simp (disch := omega) only [ww_up_ne, ww_up_eq, ww_upr_ne, ww_upr_eq, ww_fill_ne, ww_fill_eq, ww_cpy_ne, ww_cpy_eq, pk_us, pk_un, ne_eq, not_false_eq_true]
          rw [sm_byteAt hTu hi2]
          simp only [Option.bind_some]
          rw [sm_letter c1]
          simp only [Option.bind_some]
          cases cc : tk_L (y i)
          · simp
          · simp only [if_true, if_neg (show ¬ (1 : Int32) = 0 by decide)]
            rw [ww_up_twice, nI_1]
        · have hTu : tp_M (ww_up X 62 18 (nI n)) n y := tp_M_fr hTx (by simp (disch := omega) only [ww_up_ne, ww_up_eq, ww_upr_ne, ww_upr_eq, ww_fill_ne, ww_fill_eq, ww_cpy_ne, ww_cpy_eq, pk_us, pk_un, ne_eq, not_false_eq_true]) (by simp (disch := omega) only [ww_up_ne, ww_up_eq, ww_upr_ne, ww_upr_eq, ww_fill_ne, ww_fill_eq, ww_cpy_ne, ww_cpy_eq, pk_us, pk_un, ne_eq, not_false_eq_true])
          unfold f_X7_step_b84
          simp (disch := omega) only [ww_up_ne, ww_up_eq, ww_upr_ne, ww_upr_eq, ww_fill_ne, ww_fill_eq, ww_cpy_ne, ww_cpy_eq, pk_us, pk_un, ne_eq, not_false_eq_true]
          rw [sm_byteEnd hTu]
          simp only [Option.bind_some]
          rw [sm_noletter]
          rfl
      rw [← eN] at l1
      refine ⟨ww_up (ww_up X 62 18 (nI (tk_N n y p))) 62 20 1, ?_, ⟨?_, ?_, fun _ => ⟨?_, ?_⟩, fun z => by omega, fun z => by omega⟩, ?_, ?_⟩
      · simp only [if_true, if_neg (show ¬ (1 : Int32) = 0 by decide)]
        unfold f_X7_step_j84 f_X7_step_j118
        rw [l1]
        rfl
      · simp (disch := omega) only [ww_up_ne, ww_up_eq, ww_upr_ne, ww_upr_eq, ww_fill_ne, ww_fill_eq, ww_cpy_ne, ww_cpy_eq, pk_us, pk_un, ne_eq, not_false_eq_true]
      · simp (disch := omega) only [ww_up_ne, ww_up_eq, ww_upr_ne, ww_upr_eq, ww_fill_ne, ww_fill_eq, ww_cpy_ne, ww_cpy_eq, pk_us, pk_un, ne_eq, not_false_eq_true, x19, hS]
      · simp (disch := omega) only [ww_up_ne, ww_up_eq, ww_upr_ne, ww_upr_eq, ww_fill_ne, ww_fill_eq, ww_cpy_ne, ww_cpy_eq, pk_us, pk_un, ne_eq, not_false_eq_true, x16]
      · simp (disch := omega) only [ww_up_ne, ww_up_eq, ww_upr_ne, ww_upr_eq, ww_fill_ne, ww_fill_eq, ww_cpy_ne, ww_cpy_eq, pk_us, pk_un, ne_eq, not_false_eq_true]; rw [eK]; rfl
      · intro j hj'; simp (disch := omega) only [ww_up_ne, ww_up_eq, ww_upr_ne, ww_upr_eq, ww_fill_ne, ww_fill_eq, ww_cpy_ne, ww_cpy_eq, pk_us, pk_un, ne_eq, not_false_eq_true]; exact xj j hj'
      · intro a ha; rw [ww_up_ne ha, ww_up_ne ha]; exact xf a ha
