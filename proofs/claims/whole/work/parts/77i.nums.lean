/-! ===== numbers and ends of lines, both sides ===== -/
def tk_g (n : Nat) (y : Nat → Nat) (p lo hi : Nat) : Prop := tk_K n y p = 2 ∧ lo ≤ tk_V n y p ∧ tk_V n y p ≤ hi
def tk_f (n : Nat) (y : Nat → Nat) (p : Nat) : Nat := if tk_K n y p = 4 then 1 else if tk_K n y p = 2 then 3 else 2
def tk_e (n : Nat) (y : Nat → Nat) (p : Nat) : Nat := if tk_K n y p = 4 then 1 else 2
def fr_C (σ τ : ww_M) : Prop := (∀ a, a ≠ 1 → a ≠ 3 → (a < 14 ∨ 24 ≤ a) → τ a = σ a) ∧ τ 1 1 = σ 1 1
def fr_M (μ ν : ww_M) : Prop := (∀ a, a ≠ 62 → a ≠ 66 → a ≠ 67 → a ≠ 68 → ν a = μ a) ∧ ∀ j, j ≤ 8 ∨ j = 13 ∨ j = 14 ∨ j = 15 ∨ 21 < j → ν 62 j = μ 62 j
theorem fr_C.refl (σ : ww_M) : fr_C σ σ := ⟨fun _ _ _ _ => rfl, rfl⟩
theorem fr_C.trans {σ τ ν : ww_M} (h1 : fr_C σ τ) (h2 : fr_C τ ν) : fr_C σ ν := ⟨fun a z1 z2 z3 => (h2.1 a z1 z2 z3).trans (h1.1 a z1 z2 z3), h2.2.trans h1.2⟩
theorem fr_M.refl (μ : ww_M) : fr_M μ μ := ⟨fun _ _ _ _ _ => rfl, fun _ _ => rfl⟩
theorem fr_M.trans {σ τ ν : ww_M} (h1 : fr_M σ τ) (h2 : fr_M τ ν) : fr_M σ ν := ⟨fun a z1 z2 z3 z4 => (h2.1 a z1 z2 z3 z4).trans (h1.1 a z1 z2 z3 z4), fun j hj => (h2.2 j hj).trans (h1.2 j hj)⟩
theorem fr_C.tp {σ τ : ww_M} {n : Nat} {y : Nat → Nat} (h : fr_C σ τ) (hT : tp_C σ n y) : tp_C τ n y := by
  unfold tp_C
  rw [h.2, h.1 2 (by omega) (by omega) (by omega)]; exact hT
theorem fr_M.tp {σ τ : ww_M} {n : Nat} {y : Nat → Nat} (h : fr_M σ τ) (hT : tp_M σ n y) : tp_M τ n y := tp_M_fr hT (h.2 14 (by omega)) (h.1 69 (by omega) (by omega) (by omega) (by omega))
/-- the class's loop over a line's numbers -/
def cl_R (L j : Nat) (σ : ww_M) (r : ww_M ⊕ (Int32 × ww_M)) : Prop := ∀ fuel, 12 - j ≤ fuel → ww_it (f_X5_readLine_b42 3 1 14 (nI L)) fuel (nI j, σ) = some r
theorem cl_R_go {L j : Nat} {σ τ : ww_M} {r : ww_M ⊕ (Int32 × ww_M)} (hj : j ≤ 10) (h : f_X5_readLine_b42 3 1 14 (nI L) (nI j, σ) = some (.inl (nI (j + 1), τ))) (h2 : cl_R L (j + 1) τ r) : cl_R L j σ r := fun fuel hf => by
  obtain ⟨f', rfl⟩ : ∃ f', fuel = f' + 1 := ⟨fuel - 1, by omega⟩
  exact ww_it_more h (h2 f' (by omega))
theorem cl_R_done {L j : Nat} {σ : ww_M} {r : ww_M ⊕ (Int32 × ww_M)} (hj : j ≤ 10) (h : f_X5_readLine_b42 3 1 14 (nI L) (nI j, σ) = some (.inr r)) : cl_R L j σ r := fun fuel hf => by
  obtain ⟨f', rfl⟩ : ∃ f', fuel = f' + 1 := ⟨fuel - 1, by omega⟩
  exact ww_it_done h
/-- the class found a fault -/
def cl_F (L j : Nat) (σ : ww_M) (f at' : Nat) : Prop := ∃ τ, cl_R L j σ (.inr (0, τ)) ∧ τ 3 0 = nI f ∧ τ 3 1 = nI at' ∧ fr_C σ τ
section CLS
variable {σ : ww_M} {n : Nat} {y : Nat → Nat} {p L j : Nat}
theorem sp_failTok {τ : ww_M} (hC : tk_C τ n y p) (hf : fr_C σ τ) : ∃ τ', f_X5_failAtToken τ 3 1 = some (0, τ') ∧ τ' 3 0 = nI (tk_e n y p) ∧ τ' 3 1 = nI (tk_S n y p) ∧ fr_C σ τ' := by
  have hKl := tk_K_le n y p
  obtain ⟨c2, c3, c4, c5⟩ := hC
  refine ⟨ww_up (ww_up τ 3 0 (nI (tk_e n y p))) 3 1 (nI (tk_S n y p)), ?_, ?_, ?_, ?_⟩
  · unfold f_X5_failAtToken f_X5_failAtToken_j14 f_X5_fail tk_e
    rw [c3, c4]
    by_cases e : tk_K n y p = 4
    · rw [if_pos (show nI (tk_K n y p) = 4 by rw [e]; rfl), if_pos e]; rfl
    · rw [if_neg (show ¬ nI (tk_K n y p) = 4 by rw [show (4 : Int32) = nI 4 from rfl, n_eq (by omega) (by omega)]; exact e), if_neg e]; rfl
  · simp (disch := omega) only [ww_up_ne, ww_up_eq, ww_upr_ne, ww_upr_eq, ww_fill_ne, ww_fill_eq, ww_cpy_ne, ww_cpy_eq, pk_us, pk_un, ne_eq, not_false_eq_true]
  · simp (disch := omega) only [ww_up_ne, ww_up_eq, ww_upr_ne, ww_upr_eq, ww_fill_ne, ww_fill_eq, ww_cpy_ne, ww_cpy_eq, pk_us, pk_un, ne_eq, not_false_eq_true]
  · refine hf.trans ⟨fun a z1 z2 z3 => by rw [ww_up_ne z2, ww_up_ne z2], by simp (disch := omega) only [ww_up_ne, ww_up_eq, ww_upr_ne, ww_upr_eq, ww_fill_ne, ww_fill_eq, ww_cpy_ne, ww_cpy_eq, pk_us, pk_un, ne_eq, not_false_eq_true]⟩
theorem sp_b_stop (hT : tp_C σ n y) (hp : p ≤ n) (h2 : σ 1 2 = nI p) (hj : j ≤ 10) (hK : tk_K n y p = 3) (hms : f_X5_mayStop (nI L) (nI j) = some 1) : ∃ τ, cl_R L j σ (.inr (1, τ)) ∧ tk_C τ n y p ∧ τ 1 1 = σ 1 1 ∧ ∀ a, a ≠ 1 → τ a = σ a := by
  obtain ⟨τ, s1, s2, s3, s4⟩ := sp_step hT hp h2
  refine ⟨τ, cl_R_done hj ?_, s2, s3, s4⟩
  unfold f_X5_readLine_b42
  dsimp only
  rw [if_neg (show ¬ (10 : Int32) < nI j from nI_nlt (a := 10) (by omega) (by omega)), s1]
  simp only [Option.bind_some]
  rw [if_pos (show τ 1 3 = 3 by rw [s2.2.1, hK]; rfl), hms]
  rfl
theorem sp_b_72 (hT : tp_C σ n y) (hp : p ≤ n) (h2 : σ 1 2 = nI p) (hj : j ≤ 10) (hms : tk_K n y p = 3 → f_X5_mayStop (nI L) (nI j) = some 0) : ∃ τ, f_X5_readLine_b42 3 1 14 (nI L) (nI j, σ) = f_X5_readLine_j72 τ 3 1 14 (nI L) (nI j) ∧ tk_C τ n y p ∧ τ 1 1 = σ 1 1 ∧ ∀ a, a ≠ 1 → τ a = σ a := by
  have hKl := tk_K_le n y p
  obtain ⟨τ, s1, s2, s3, s4⟩ := sp_step hT hp h2
  refine ⟨τ, ?_, s2, s3, s4⟩
  unfold f_X5_readLine_b42
  dsimp only
  rw [if_neg (show ¬ (10 : Int32) < nI j from nI_nlt (a := 10) (by omega) (by omega)), s1]
  simp only [Option.bind_some]
  by_cases e : tk_K n y p = 3
  · rw [if_pos (show τ 1 3 = 3 by rw [s2.2.1, e]; rfl), hms e]
    rfl
  · rw [if_neg (show ¬ τ 1 3 = 3 by rw [s2.2.1, show (3 : Int32) = nI 3 from rfl, n_eq (by omega) (by omega)]; exact e)]
/-- no number may stand here, or none does -/
theorem sp_b_tok (hT : tp_C σ n y) (hp : p ≤ n) (h2 : σ 1 2 = nI p) (hj : j ≤ 10) (hms : tk_K n y p = 3 → f_X5_mayStop (nI L) (nI j) = some 0) (hmg : tk_K n y p = 2 → f_X5_mayGoOn (nI L) (nI j) = some 0) : cl_F L j σ (tk_e n y p) (tk_S n y p) := by
  have hKl := tk_K_le n y p
  obtain ⟨τ, s1, s2, s3, s4⟩ := sp_b_72 hT hp h2 hj hms
  obtain ⟨τ', f1, f2, f3, f4⟩ := sp_failTok (σ := σ) s2 ⟨fun a z1 _ _ => s4 a z1, s3⟩
  refine ⟨τ', cl_R_done hj ?_, f2, f3, f4⟩
  have hj89 : f_X5_readLine_j89 τ 3 1 14 (nI L) = some (.inr (.inr (0, τ'))) := by
    unfold f_X5_readLine_j89
    rw [f1]; rfl
  rw [s1]
  unfold f_X5_readLine_j72
  by_cases e : tk_K n y p = 2
  · rw [if_pos (show τ 1 3 = 2 by rw [s2.2.1, e]; rfl), hmg e]
    simp only [Option.bind_some, if_true]
    exact hj89
  · rw [if_neg (show ¬ τ 1 3 = 2 by rw [s2.2.1, show (2 : Int32) = nI 2 from rfl, n_eq (by omega) (by omega)]; exact e)]
    exact hj89
/-- a number: too many, out of its bounds, or taken -/
theorem sp_b_num (hT : tp_C σ n y) (hp : p ≤ n) (h2 : σ 1 2 = nI p) (hj : j ≤ 10) (hK : tk_K n y p = 2) (hmg : f_X5_mayGoOn (nI L) (nI j) = some 1) : ∃ τ, tk_C τ n y p ∧ τ 1 1 = σ 1 1 ∧ (∀ a, a ≠ 1 → τ a = σ a) ∧ f_X5_readLine_b42 3 1 14 (nI L) (nI j, σ) = (f_X5_isTooMany τ 14 (nI L) (nI j)).bind (fun v99 => (if v99 = 0 then (f_X5_lowest (nI L) (nI j)).bind (fun v122 => (if nI (tk_V n y p) < v122 then f_X5_readLine_j141 τ 3 1 14 (nI L) else (f_X5_highest (nI L) (nI j)).bind (fun v135 => (if nI (tk_V n y p) ≤ v135 then (f_X5_put τ 14 (nI L) (nI j) (nI (tk_V n y p))).bind (fun v159 => some (.inl (nI (j + 1), v159))) else f_X5_readLine_j141 τ 3 1 14 (nI L))))) else (f_X5_fail τ 3 5 (nI (tk_S n y p))).bind (fun v111 => ww_ck (ww_isb v111.1) (some (.inr (.inr (v111.1, v111.2))))))) := by
  obtain ⟨τ, s1, s2, s3, s4⟩ := sp_b_72 (L := L) hT hp h2 hj (fun e => by omega)
  refine ⟨τ, s2, s3, s4, ?_⟩
  rw [s1]
  unfold f_X5_readLine_j72
  rw [if_pos (show τ 1 3 = 2 by rw [s2.2.1, hK]; rfl), hmg]
  simp only [Option.bind_some]
  rw [if_neg (by decide), s2.2.2.2 hK, s2.2.2.1, nI_1]
theorem sp_b_5 (hT : tp_C σ n y) (hp : p ≤ n) (h2 : σ 1 2 = nI p) (hj : j ≤ 10) (hK : tk_K n y p = 2) (hmg : f_X5_mayGoOn (nI L) (nI j) = some 1) (htm : ∀ τ : ww_M, τ 14 = σ 14 → f_X5_isTooMany τ 14 (nI L) (nI j) = some 1) : cl_F L j σ 5 (tk_S n y p) := by
  obtain ⟨τ, s2, s3, s4, s1⟩ := sp_b_num hT hp h2 hj hK hmg
  refine ⟨ww_up (ww_up τ 3 0 (nI 5)) 3 1 (nI (tk_S n y p)), cl_R_done hj ?_, by simp (disch := omega) only [ww_up_ne, ww_up_eq, ww_upr_ne, ww_upr_eq, ww_fill_ne, ww_fill_eq, ww_cpy_ne, ww_cpy_eq, pk_us, pk_un, ne_eq, not_false_eq_true], by simp (disch := omega) only [ww_up_ne, ww_up_eq, ww_upr_ne, ww_upr_eq, ww_fill_ne, ww_fill_eq, ww_cpy_ne, ww_cpy_eq, pk_us, pk_un, ne_eq, not_false_eq_true], ?_⟩
  · rw [s1, htm τ (s4 14 (by omega))]
    rfl
  · exact ⟨fun a z1 z2 z3 => by rw [ww_up_ne z2, ww_up_ne z2]; exact s4 a z1, by simp (disch := omega) only [ww_up_ne, ww_up_eq, ww_upr_ne, ww_upr_eq, ww_fill_ne, ww_fill_eq, ww_cpy_ne, ww_cpy_eq, pk_us, pk_un, ne_eq, not_false_eq_true]; exact s3⟩
theorem sp_b_3 {lo hi : Nat} (hT : tp_C σ n y) (hp : p ≤ n) (h2 : σ 1 2 = nI p) (hj : j ≤ 10) (hK : tk_K n y p = 2) (hmg : f_X5_mayGoOn (nI L) (nI j) = some 1) (htm : ∀ τ : ww_M, τ 14 = σ 14 → f_X5_isTooMany τ 14 (nI L) (nI j) = some 0) (hlo : f_X5_lowest (nI L) (nI j) = some (nI lo)) (hhi : f_X5_highest (nI L) (nI j) = some (nI hi)) (hl100 : lo < 100) (hh100 : hi < 100) (hbad : ¬ (lo ≤ tk_V n y p ∧ tk_V n y p ≤ hi)) : cl_F L j σ 3 (tk_S n y p) := by
  have hV := (tk_V_lt hp hK).1
  obtain ⟨τ, s2, s3, s4, s1⟩ := sp_b_num hT hp h2 hj hK hmg
  refine ⟨ww_up (ww_up τ 3 0 (nI 3)) 3 1 (nI (tk_S n y p)), cl_R_done hj ?_, by simp (disch := omega) only [ww_up_ne, ww_up_eq, ww_upr_ne, ww_upr_eq, ww_fill_ne, ww_fill_eq, ww_cpy_ne, ww_cpy_eq, pk_us, pk_un, ne_eq, not_false_eq_true], by simp (disch := omega) only [ww_up_ne, ww_up_eq, ww_upr_ne, ww_upr_eq, ww_fill_ne, ww_fill_eq, ww_cpy_ne, ww_cpy_eq, pk_us, pk_un, ne_eq, not_false_eq_true], ?_⟩
  · have h141 : f_X5_readLine_j141 τ 3 1 14 (nI L) = some (.inr (.inr (0, ww_up (ww_up τ 3 0 (nI 3)) 3 1 (nI (tk_S n y p))))) := by
      unfold f_X5_readLine_j141
      rw [s2.2.2.1]
      rfl
    rw [s1, htm τ (s4 14 (by omega)), hlo, hhi]
    simp only [Option.bind_some, if_true]
    by_cases e : tk_V n y p < lo
    · rw [if_pos (nI_lt e (by omega))]
      exact h141
    · rw [if_neg (by rw [n_lt (by omega) (by omega)]; exact e), if_neg (by rw [n_le (by omega) (by omega)]; omega)]
      exact h141
  · exact ⟨fun a z1 z2 z3 => by rw [ww_up_ne z2, ww_up_ne z2]; exact s4 a z1, by simp (disch := omega) only [ww_up_ne, ww_up_eq, ww_upr_ne, ww_upr_eq, ww_fill_ne, ww_fill_eq, ww_cpy_ne, ww_cpy_eq, pk_us, pk_un, ne_eq, not_false_eq_true]; exact s3⟩
theorem sp_b_go {lo hi : Nat} (hT : tp_C σ n y) (hp : p ≤ n) (h2 : σ 1 2 = nI p) (hj : j ≤ 10) (hK : tk_g n y p lo hi) (hmg : f_X5_mayGoOn (nI L) (nI j) = some 1) (htm : ∀ τ : ww_M, τ 14 = σ 14 → f_X5_isTooMany τ 14 (nI L) (nI j) = some 0) (hlo : f_X5_lowest (nI L) (nI j) = some (nI lo)) (hhi : f_X5_highest (nI L) (nI j) = some (nI hi)) (hl100 : lo < 100) (hh100 : hi < 100) : ∃ τ, tk_C τ n y p ∧ τ 1 1 = σ 1 1 ∧ (∀ a, a ≠ 1 → τ a = σ a) ∧ f_X5_readLine_b42 3 1 14 (nI L) (nI j, σ) = (f_X5_put τ 14 (nI L) (nI j) (nI (tk_V n y p))).bind (fun v159 => some (.inl (nI (j + 1), v159))) := by
  obtain ⟨hK, g1, g2⟩ := hK
  have hV := (tk_V_lt hp hK).1
  obtain ⟨τ, s2, s3, s4, s1⟩ := sp_b_num hT hp h2 hj hK hmg
  refine ⟨τ, s2, s3, s4, ?_⟩
  rw [s1, htm τ (s4 14 (by omega)), hlo, hhi]
  simp only [Option.bind_some, if_true]
  rw [if_neg (by rw [n_lt (by omega) (by omega)]; omega), if_pos (nI_le g2 (by omega))]
/-- where a number must stand -/
theorem sp_b_bad {lo hi : Nat} (hT : tp_C σ n y) (hp : p ≤ n) (h2 : σ 1 2 = nI p) (hj : j ≤ 10) (hms : f_X5_mayStop (nI L) (nI j) = some 0) (hmg : f_X5_mayGoOn (nI L) (nI j) = some 1) (htm : ∀ τ : ww_M, τ 14 = σ 14 → f_X5_isTooMany τ 14 (nI L) (nI j) = some 0) (hlo : f_X5_lowest (nI L) (nI j) = some (nI lo)) (hhi : f_X5_highest (nI L) (nI j) = some (nI hi)) (hl100 : lo < 100) (hh100 : hi < 100) (hbad : ¬ tk_g n y p lo hi) : cl_F L j σ (tk_f n y p) (tk_S n y p) := by
  by_cases e : tk_K n y p = 2
  · have := sp_b_3 hT hp h2 hj e hmg htm hlo hhi hl100 hh100 (fun z => hbad ⟨e, z⟩)
    unfold tk_f
    rw [if_neg (by omega), if_pos e]; exact this
  · have := sp_b_tok hT hp h2 hj (fun _ => hms) (fun z => absurd z e)
    unfold tk_f
    rw [if_neg e]; exact this
end CLS
/-! the model -/
section MOD
variable {μ : ww_M} {n : Nat} {y : Nat → Nat} {p : Nat}
theorem sm_num_br {f : Nat} {lo hi : Int32} (h : μ 62 16 = nI f) (h1 : 1 ≤ f) (h2 : f < 100) : f_X7_number μ 62 lo hi = some (lo, μ) := by
  have h0 : ¬ μ 62 16 = 0 := by rw [h, show (0 : Int32) = nI 0 from rfl, n_eq (by omega) (by omega)]; omega
  unfold f_X7_number f_X7_number_j20 f_X7_number_j47 f_X7_number_j62
  rw [if_neg h0, if_neg h0, if_neg h0, sm_step_br h h1 h2]
  rfl
theorem sm_fails {f : Int32} (h : μ 62 16 = 0) : f_X7_fails μ 62 f = some (ww_up (ww_up μ 62 16 f) 62 17 (μ 62 19)) := by
  unfold f_X7_fails
  rw [if_pos h]
  simp (disch := omega) only [ww_up_ne, ww_up_eq, ww_upr_ne, ww_upr_eq, ww_fill_ne, ww_fill_eq, ww_cpy_ne, ww_cpy_eq, pk_us, pk_un, ne_eq, not_false_eq_true]
theorem sm_fails_br {f : Nat} {g : Int32} (h : μ 62 16 = nI f) (h1 : 1 ≤ f) (h2 : f < 100) : f_X7_fails μ 62 g = some μ := by
  have h0 : ¬ μ 62 16 = 0 := by rw [h, show (0 : Int32) = nI 0 from rfl, n_eq (by omega) (by omega)]; omega
  unfold f_X7_fails
  rw [if_neg h0]
/-- only the reader's own cells have changed -/
def fr_S (μ ν : ww_M) : Prop := (∀ j, j < 16 ∨ 21 < j → ν 62 j = μ 62 j) ∧ ∀ a, a ≠ 62 → ν a = μ a
theorem fr_S.refl (μ : ww_M) : fr_S μ μ := ⟨fun _ _ => rfl, fun _ _ => rfl⟩
theorem fr_S.trans {σ τ ν : ww_M} (h1 : fr_S σ τ) (h2 : fr_S τ ν) : fr_S σ ν := ⟨fun j hj => (h2.1 j hj).trans (h1.1 j hj), fun a z => (h2.2 a z).trans (h1.2 a z)⟩
theorem fr_S.M {μ ν : ww_M} (h : fr_S μ ν) : fr_M μ ν := ⟨fun a z _ _ _ => h.2 a z, fun j hj => h.1 j (by omega)⟩
theorem fr_S_fail (μ : ww_M) (f g : Int32) : fr_S μ (ww_up (ww_up μ 62 16 f) 62 17 g) := ⟨fun j hj => by simp (disch := omega) only [ww_up_ne, ww_up_eq, ww_upr_ne, ww_upr_eq, ww_fill_ne, ww_fill_eq, ww_cpy_ne, ww_cpy_eq, pk_us, pk_un, ne_eq, not_false_eq_true], fun a z => by rw [ww_up_ne z, ww_up_ne z]⟩
theorem sm_num_go {lo hi : Nat} (hT : tp_M μ n y) (hp : p ≤ n) (hM : tk_M μ n y p) (hh100 : hi < 100) (hg : tk_g n y p lo hi) : ∃ ν, f_X7_number μ 62 (nI lo) (nI hi) = some (nI (tk_V n y p), ν) ∧ tk_M ν n y (tk_N n y p) ∧ fr_S μ ν := by
  obtain ⟨hK, g1, g2⟩ := hg
  obtain ⟨m18, m19, m3, m4, -⟩ := hM
  obtain ⟨m16, m20⟩ := m3 (by omega)
  have m21 := m4 hK
  have hV := (tk_V_lt hp hK).1
  obtain ⟨ν, s1, s2, s3, s4⟩ := sm_step hT (tk_N_ge y hp).2 m18 m16
  refine ⟨ν, ?_, s2, s3, s4⟩
  unfold f_X7_number f_X7_number_j20 f_X7_number_j47 f_X7_number_j62
  rw [if_pos m16, if_pos (show μ 62 20 = 2 by rw [m20, hK]; rfl), if_pos m16, m21]
  have hin : f_X7_in (nI (tk_V n y p)).toInt64 (nI lo).toInt64 (nI hi).toInt64 = some 1 := by
    rw [ww_inI (nI lo) (nI hi) rfl rfl, if_pos ⟨nI_le g1 (by omega), nI_le g2 (by omega)⟩]
  rw [hin]
  simp only [Option.bind_some]
  rw [if_neg (by decide), if_pos m16, s1]
  rfl
theorem sm_num_bad {lo hi : Nat} (hp : p ≤ n) (hM : tk_M μ n y p) (hl100 : lo < 100) (hh100 : hi < 100) (hg : ¬ tk_g n y p lo hi) : ∃ ν, f_X7_number μ 62 (nI lo) (nI hi) = some (nI lo, ν) ∧ ν 62 16 = nI (tk_f n y p) ∧ ν 62 17 = nI (tk_S n y p) ∧ fr_S μ ν := by
  obtain ⟨m18, m19, m3, m4, m5⟩ := hM
  have hKl := tk_K_le n y p
  by_cases e4 : tk_K n y p = 4
  · obtain ⟨m16, m17⟩ := m5 e4
    refine ⟨μ, sm_num_br (f := 1) m16 (by omega) (by omega), ?_, m17, fr_S.refl μ⟩
    unfold tk_f; rw [if_pos e4]; exact m16
  · obtain ⟨m16, m20⟩ := m3 e4
    have rest : ∀ (f : Nat) (ν : ww_M), 1 ≤ f → f < 100 → ν = ww_up (ww_up μ 62 16 (nI f)) 62 17 (nI (tk_S n y p)) → f_X7_number_j47 ν 62 (nI lo) (nI hi) = some (nI lo, ν) ∧ ¬ ν 62 16 = 0 ∧ ν 62 16 = nI f ∧ ν 62 17 = nI (tk_S n y p) ∧ fr_S μ ν := fun f ν f1 f2 e => by
      have h16 : ν 62 16 = nI f := by rw [e]; simp (disch := omega) only [ww_up_ne, ww_up_eq, ww_upr_ne, ww_upr_eq, ww_fill_ne, ww_fill_eq, ww_cpy_ne, ww_cpy_eq, pk_us, pk_un, ne_eq, not_false_eq_true]
      have h0 : ¬ ν 62 16 = 0 := by rw [h16, show (0 : Int32) = nI 0 from rfl, n_eq (by omega) (by omega)]; omega
      refine ⟨?_, h0, h16, by rw [e]; simp (disch := omega) only [ww_up_ne, ww_up_eq, ww_upr_ne, ww_upr_eq, ww_fill_ne, ww_fill_eq, ww_cpy_ne, ww_cpy_eq, pk_us, pk_un, ne_eq, not_false_eq_true], by rw [e]; exact fr_S_fail μ _ _⟩
      unfold f_X7_number_j47 f_X7_number_j62
      rw [if_neg h0, sm_step_br h16 f1 f2]
      rfl
    by_cases e2 : tk_K n y p = 2
    · have m21 := m4 e2
      have hV := (tk_V_lt hp e2).1
      obtain ⟨r1, r2, r3, r4, r5⟩ := rest 3 _ (by omega) (by omega) rfl
      refine ⟨_, ?_, ?_, r4, r5⟩
      · unfold f_X7_number f_X7_number_j20
        rw [if_pos m16, if_pos (show μ 62 20 = 2 by rw [m20, e2]; rfl), if_pos m16, m21, ww_inI (nI lo) (nI hi) rfl rfl, if_neg (fun z => hg ⟨e2, by
          have z1 := z.1
          have z2 := z.2
          rw [n_le (by omega) (by omega)] at z1 z2
          exact ⟨z1, z2⟩⟩)]
        simp only [Option.bind_some, if_true]
        rw [sm_fails m16, m19]
        exact r1
      · unfold tk_f; rw [if_neg e4, if_pos e2]; exact r3
    · obtain ⟨r1, r2, r3, r4, r5⟩ := rest 2 _ (by omega) (by omega) rfl
      refine ⟨_, ?_, ?_, r4, r5⟩
      · unfold f_X7_number f_X7_number_j20
        rw [if_pos m16, if_neg (show ¬ μ 62 20 = 2 by rw [m20, show (2 : Int32) = nI 2 from rfl, n_eq (by omega) (by omega)]; exact e2), sm_fails m16, m19]
        simp only [Option.bind_some]
        rw [show (2 : Int32) = nI 2 from rfl, if_neg r2]
        exact r1
      · unfold tk_f; rw [if_neg e4, if_neg e2]; exact r3
theorem tk_f_5 (n : Nat) (y : Nat → Nat) (p : Nat) : 1 ≤ tk_f n y p ∧ tk_f n y p ≤ 5 := by
  unfold tk_f
  repeat' split
  all_goals omega
theorem tk_e_5 (n : Nat) (y : Nat → Nat) (p : Nat) : 1 ≤ tk_e n y p ∧ tk_e n y p ≤ 5 := by
  unfold tk_e
  split <;> omega
theorem sm_end_ok (hT : tp_M μ n y) (hp : p ≤ n) (hM : tk_M μ n y p) (hK : tk_K n y p = 3) : ∃ ν, f_X7_readLine_j194 μ 62 = some ν ∧ tk_M ν n y (tk_N n y p) ∧ fr_S μ ν := by
  obtain ⟨m18, m19, m3, m4, -⟩ := hM
  obtain ⟨m16, m20⟩ := m3 (by omega)
  obtain ⟨ν, s1, s2, s3, s4⟩ := sm_step hT (tk_N_ge y hp).2 m18 m16
  refine ⟨ν, ?_, s2, s3, s4⟩
  unfold f_X7_readLine_j194 f_X7_readLine_j214
  rw [if_pos m16, if_pos (show μ 62 20 = 3 by rw [m20, hK]; rfl), s1]
  rfl
theorem sm_end_br {f : Nat} (h : μ 62 16 = nI f) (h1 : 1 ≤ f) (h2 : f < 100) : f_X7_readLine_j194 μ 62 = some μ := by
  have h0 : ¬ μ 62 16 = 0 := by rw [h, show (0 : Int32) = nI 0 from rfl, n_eq (by omega) (by omega)]; omega
  unfold f_X7_readLine_j194 f_X7_readLine_j214
  rw [if_neg h0, sm_step_br h h1 h2]
  rfl
theorem sm_end_bad (hM : tk_M μ n y p) (hK : tk_K n y p ≠ 3) : ∃ ν, f_X7_readLine_j194 μ 62 = some ν ∧ ν 62 16 = nI (tk_e n y p) ∧ ν 62 17 = nI (tk_S n y p) ∧ fr_S μ ν := by
  obtain ⟨m18, m19, m3, m4, m5⟩ := hM
  have hKl := tk_K_le n y p
  unfold tk_e
  by_cases e4 : tk_K n y p = 4
  · obtain ⟨m16, m17⟩ := m5 e4
    exact ⟨μ, sm_end_br (f := 1) m16 (by omega) (by omega), by rw [if_pos e4]; exact m16, m17, fr_S.refl μ⟩
  · obtain ⟨m16, m20⟩ := m3 e4
    refine ⟨ww_up (ww_up μ 62 16 (nI 2)) 62 17 (nI (tk_S n y p)), ?_, by rw [if_neg e4]; simp (disch := omega) only [ww_up_ne, ww_up_eq, ww_upr_ne, ww_upr_eq, ww_fill_ne, ww_fill_eq, ww_cpy_ne, ww_cpy_eq, pk_us, pk_un, ne_eq, not_false_eq_true], by simp (disch := omega) only [ww_up_ne, ww_up_eq, ww_upr_ne, ww_upr_eq, ww_fill_ne, ww_fill_eq, ww_cpy_ne, ww_cpy_eq, pk_us, pk_un, ne_eq, not_false_eq_true], fr_S_fail μ _ _⟩
    unfold f_X7_readLine_j194 f_X7_readLine_j214
    rw [if_pos m16, if_neg (show ¬ μ 62 20 = 3 by rw [m20, show (3 : Int32) = nI 3 from rfl, n_eq (by omega) (by omega)]; exact hK), sm_fails m16, m19]
    simp only [Option.bind_some]
    rw [show (2 : Int32) = nI 2 from rfl, sm_step_br (f := 2) (by simp (disch := omega) only [ww_up_ne, ww_up_eq, ww_upr_ne, ww_upr_eq, ww_fill_ne, ww_fill_eq, ww_cpy_ne, ww_cpy_eq, pk_us, pk_un, ne_eq, not_false_eq_true]) (by omega) (by omega)]
    rfl
end MOD
