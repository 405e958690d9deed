/-! ===== the tape: tokens ===== -/
def tk_r (P : Nat → Bool) (n p : Nat) : Nat := p + fa_first (fun i => !P (p + i)) (n - p)
theorem tk_r_ge (P : Nat → Bool) (n p : Nat) : p ≤ tk_r P n p := Nat.le_add_right _ _
theorem tk_r_le {P : Nat → Bool} {n p : Nat} (h : p ≤ n) : tk_r P n p ≤ n := by
  have := fa_first_le (fun i => !P (p + i)) (n - p)
  unfold tk_r; omega
theorem tk_r_in {P : Nat → Bool} {n p i : Nat} (h1 : p ≤ i) (h2 : i < tk_r P n p) : P i = true := by
  have := fa_first_no (fun i => !P (p + i)) (n - p) (i - p) (by unfold tk_r at h2; omega)
  simp only [show p + (i - p) = i by omega, Bool.not_eq_false'] at this
  exact this
theorem tk_r_gt {P : Nat → Bool} {n p : Nat} (h : p < n) (hP : P p = true) : p < tk_r P n p := by
  apply Nat.lt_of_not_le
  intro hz
  have e : fa_first (fun i => !P (p + i)) (n - p) = 0 := by unfold tk_r at hz; omega
  have := fa_first_yes (fun i => !P (p + i)) (n - p) (by omega)
  rw [e] at this
  simp [hP] at this
/-- a loop that goes over a run of bytes -/
theorem ww_run {f : ww_M → Option (ww_M ⊕ ww_M)} (X : ww_M) (c sl : Nat) (P : Nat → Bool) {n p : Nat} (hp : p ≤ n) (hn : n ≤ 160) (hX : X c sl = nI p) (hs : ∀ i, p ≤ i → i < n → f (ww_up X c sl (nI i)) = if P i = true then some (.inl (ww_up X c sl (nI (i + 1)))) else some (.inr (ww_up X c sl (nI i)))) (he : f (ww_up X c sl (nI n)) = some (.inr (ww_up X c sl (nI n)))) : ww_it f ww_F X = some (ww_up X c sl (nI (tk_r P n p))) := by
  have key := ww_it_first (f := f) (fun i => ww_up X c sl (nI (p + i))) (fun i => !P (p + i)) (n - p) (by omega) (fun i => ww_up X c sl (nI (p + i))) (ww_up X c sl (nI (p + (n - p)))) (fun i hi hP => ?_) (fun i hi hP => ?_) ?_
  · have e0 : ww_up X c sl (nI (p + 0)) = X := by rw [Nat.add_zero]; exact ww_up_self hX
    simp only [e0] at key
    rw [key]
    congr 1
    unfold tk_r
    by_cases z : fa_first (fun i => !P (p + i)) (n - p) < n - p
    · rw [if_pos z]
    · have := fa_first_le (fun i => !P (p + i)) (n - p)
      rw [if_neg z, show fa_first (fun i => !P (p + i)) (n - p) = n - p by omega]
  · have hP' : P (p + i) = true := by simpa using hP
    rw [hs (p + i) (by omega) (by omega), if_pos hP', Nat.add_assoc]
  · have hP' : ¬ P (p + i) = true := by simpa using hP
    rw [hs (p + i) (by omega) (by omega), if_neg hP']
  · rw [show p + (n - p) = n by omega]; exact he
/-- the same with a value -/
theorem ww_run2 {f : ww_M → Option (ww_M ⊕ ww_M)} (X : ww_M) (c sv sl : Nat) (V : Nat → Int32) (P : Nat → Bool) {n p : Nat} (hp : p ≤ n) (hn : n ≤ 160) (hX : X c sl = nI p) (hV : X c sv = V 0) (hne : sv ≠ sl) (hs : ∀ i, p + i < n → f (ww_up (ww_up X c sv (V i)) c sl (nI (p + i))) = if P (p + i) = true then some (.inl (ww_up (ww_up X c sv (V (i + 1))) c sl (nI (p + (i + 1))))) else some (.inr (ww_up (ww_up X c sv (V i)) c sl (nI (p + i))))) (he : f (ww_up (ww_up X c sv (V (n - p))) c sl (nI n)) = some (.inr (ww_up (ww_up X c sv (V (n - p))) c sl (nI n)))) : ww_it f ww_F X = some (ww_up (ww_up X c sv (V (tk_r P n p - p))) c sl (nI (tk_r P n p))) := by
  have key := ww_it_first (f := f) (fun i => ww_up (ww_up X c sv (V i)) c sl (nI (p + i))) (fun i => !P (p + i)) (n - p) (by omega) (fun i => ww_up (ww_up X c sv (V i)) c sl (nI (p + i))) (ww_up (ww_up X c sv (V (n - p))) c sl (nI (p + (n - p)))) (fun i hi hP => ?_) (fun i hi hP => ?_) ?_
  · have e0 : ww_up (ww_up X c sv (V 0)) c sl (nI (p + 0)) = X := by
      rw [Nat.add_zero, ww_up_self hV, ww_up_self hX]
    simp only [e0] at key
    rw [key]
    congr 1
    unfold tk_r
    rw [Nat.add_sub_cancel_left]
    by_cases z : fa_first (fun i => !P (p + i)) (n - p) < n - p
    · rw [if_pos z]
    · have := fa_first_le (fun i => !P (p + i)) (n - p)
      rw [if_neg z, show fa_first (fun i => !P (p + i)) (n - p) = n - p by omega]
  · have hP' : P (p + i) = true := by simpa using hP
    rw [hs i (by omega), if_pos hP']
  · have hP' : ¬ P (p + i) = true := by simpa using hP
    rw [hs i (by omega), if_neg hP']
  · rw [show p + (n - p) = n by omega]; exact he
theorem ww_up4 (X : ww_M) {c sv sl : Nat} (hne : sv ≠ sl) (a b a' b' : Int32) : ww_up (ww_up (ww_up (ww_up X c sv a) c sl b) c sv a') c sl b' = ww_up (ww_up X c sv a') c sl b' := by
  funext x y
  simp only [ww_up_at]
  by_cases h1 : x = c
  · by_cases h2 : y = sl
    · simp [h1, h2]
    · by_cases h3 : y = sv
      · simp [h1, h2, h3]
      · simp [h1, h2, h3]
  · simp [h1]
def tk_L (c : Nat) : Bool := decide (97 ≤ c) && decide (c ≤ 122)
def tk_F (c : Nat) : Bool := decide (48 ≤ c) && decide (c ≤ 57)
def tk_S (n : Nat) (y : Nat → Nat) (p : Nat) : Nat := tk_r (fun i => decide (y i = 32)) n p
def tk_N (n : Nat) (y : Nat → Nat) (p : Nat) : Nat := if n ≤ tk_S n y p then tk_S n y p else if tk_L (y (tk_S n y p)) = true then tk_r (fun i => tk_L (y i)) n (tk_S n y p) else if tk_F (y (tk_S n y p)) = true then tk_r (fun i => tk_F (y i)) n (tk_S n y p) else tk_S n y p + 1
def tk_K (n : Nat) (y : Nat → Nat) (p : Nat) : Nat := if n ≤ tk_S n y p then 0 else if tk_L (y (tk_S n y p)) = true then 1 else if tk_F (y (tk_S n y p)) = true then (if tk_r (fun i => tk_F (y i)) n (tk_S n y p) - tk_S n y p ≤ 2 then 2 else 4) else if y (tk_S n y p) = 59 then 3 else 4
def tk_V (n : Nat) (y : Nat → Nat) (p : Nat) : Nat := if tk_N n y p - tk_S n y p = 1 then y (tk_S n y p) - 48 else 10 * (y (tk_S n y p) - 48) + (y (tk_S n y p + 1) - 48)
def tp_C (σ : ww_M) (n : Nat) (y : Nat → Nat) : Prop := σ 1 1 = nI n ∧ n ≤ 160 ∧ ∀ i, i < n → y i < 128 ∧ σ 2 i = nI (y i)
def tp_M (μ : ww_M) (n : Nat) (y : Nat → Nat) : Prop := μ 62 14 = nI n ∧ n ≤ 160 ∧ ∀ i, i < n → y i < 128 ∧ μ 69 i = nI (y i)
theorem tk_S_ge (n : Nat) (y : Nat → Nat) (p : Nat) : p ≤ tk_S n y p := tk_r_ge _ _ _
theorem tk_S_le {n : Nat} (y : Nat → Nat) {p : Nat} (h : p ≤ n) : tk_S n y p ≤ n := tk_r_le h
theorem tk_N_ge {n : Nat} (y : Nat → Nat) {p : Nat} (h : p ≤ n) : tk_S n y p ≤ tk_N n y p ∧ tk_N n y p ≤ n := by
  have h1 := tk_S_le y h
  unfold tk_N
  split
  · omega
  · split
    · exact ⟨tk_r_ge _ _ _, tk_r_le h1⟩
    · split
      · exact ⟨tk_r_ge _ _ _, tk_r_le h1⟩
      · omega
theorem tk_N_gt {n : Nat} {y : Nat → Nat} {p : Nat} (h : p ≤ n) (hK : tk_K n y p ≠ 0) : tk_S n y p < tk_N n y p ∧ tk_S n y p < n := by
  have h1 := tk_S_le y h
  have h2 : ¬ n ≤ tk_S n y p := fun z => hK (by unfold tk_K; rw [if_pos z])
  refine ⟨?_, by omega⟩
  unfold tk_N
  rw [if_neg h2]
  split
  · rename_i h3
    exact tk_r_gt (P := fun i => tk_L (y i)) (by omega) h3
  · split
    · rename_i h3
      exact tk_r_gt (P := fun i => tk_F (y i)) (by omega) h3
    · omega
theorem tk_K_le (n : Nat) (y : Nat → Nat) (p : Nat) : tk_K n y p ≤ 4 := by
  unfold tk_K
  repeat' split
  all_goals omega
theorem tk_K0 {n : Nat} {y : Nat → Nat} {p : Nat} (h : p ≤ n) (hK : tk_K n y p = 0) : tk_S n y p = n := by
  have h1 := tk_S_le y h
  by_cases z : n ≤ tk_S n y p
  · omega
  · exfalso
    unfold tk_K at hK
    rw [if_neg z] at hK
    repeat' split at hK
    all_goals omega
theorem tk_V_lt {n : Nat} {y : Nat → Nat} {p : Nat} (h : p ≤ n) (hK : tk_K n y p = 2) : tk_V n y p < 100 ∧ (tk_N n y p - tk_S n y p = 1 ∨ tk_N n y p - tk_S n y p = 2) ∧ tk_F (y (tk_S n y p)) = true ∧ tk_N n y p = tk_r (fun i => tk_F (y i)) n (tk_S n y p) := by
  have h0 := tk_N_gt (y := y) h (by omega)
  have h2 : ¬ n ≤ tk_S n y p := by omega
  have e1 : ¬ tk_L (y (tk_S n y p)) = true := fun z => by
    unfold tk_K at hK
    rw [if_neg h2, if_pos z] at hK
    omega
  have e2 : tk_F (y (tk_S n y p)) = true := by
    apply Classical.byContradiction
    intro z
    unfold tk_K at hK
    rw [if_neg h2, if_neg e1, if_neg z] at hK
    split at hK <;> omega
  have eN : tk_N n y p = tk_r (fun i => tk_F (y i)) n (tk_S n y p) := by
    unfold tk_N
    rw [if_neg h2, if_neg e1, if_pos e2]
  have e3 : tk_N n y p - tk_S n y p ≤ 2 := by
    rw [eN]
    apply Classical.byContradiction
    intro z
    unfold tk_K at hK
    rw [if_neg h2, if_neg e1, if_pos e2, if_neg z] at hK
    omega
  have f1 : 48 ≤ y (tk_S n y p) ∧ y (tk_S n y p) ≤ 57 := by simpa [tk_F] using e2
  refine ⟨?_, by omega, e2, eN⟩
  unfold tk_V
  split
  · omega
  · rename_i z
    have := tk_r_in (P := fun i => tk_F (y i)) (n := n) (p := tk_S n y p) (i := tk_S n y p + 1) (by omega) (by omega)
    have f2 : 48 ≤ y (tk_S n y p + 1) ∧ y (tk_S n y p + 1) ≤ 57 := by simpa [tk_F] using this
    omega
theorem sp_letter {c : Nat} (h : c < 128) : f_X4_isLetter (nI c) = some (if tk_L c = true then 1 else 0) := by
  unfold f_X4_isLetter tk_L
  rw [ww_within]
  simp only [Option.bind_some, ww_ck_t ww_isb01]
  simp (disch := omega) only [n_lit, n_le, n_lt, n_eq, n_in, n_ckt, n_ix, n_mul, n_add, n_sub, n_div, n_rem, n_b01, n_isb, n_lt0, n_le0, Option.bind_some, if_pos, if_neg, ge_iff_le, gt_iff_lt, Nat.zero_add, Nat.add_zero, n_neg1, n_neg4, if_true, if_false, ite_true, ite_false, n_land1, not_true_eq_false, not_false_eq_true]
  simp
theorem sp_figure {c : Nat} (h : c < 128) : f_X4_isFigure (nI c) = some (if tk_F c = true then 1 else 0) := by
  unfold f_X4_isFigure tk_F
  rw [ww_within]
  simp only [Option.bind_some, ww_ck_t ww_isb01]
  simp (disch := omega) only [n_lit, n_le, n_lt, n_eq, n_in, n_ckt, n_ix, n_mul, n_add, n_sub, n_div, n_rem, n_b01, n_isb, n_lt0, n_le0, Option.bind_some, if_pos, if_neg, ge_iff_le, gt_iff_lt, Nat.zero_add, Nat.add_zero, n_neg1, n_neg4, if_true, if_false, ite_true, ite_false, n_land1, not_true_eq_false, not_false_eq_true]
  simp
/-- a class's token -/
def tk_C (τ : ww_M) (n : Nat) (y : Nat → Nat) (p : Nat) : Prop := τ 1 2 = nI (tk_N n y p) ∧ τ 1 3 = nI (tk_K n y p) ∧ τ 1 4 = nI (tk_S n y p) ∧ (tk_K n y p = 2 → τ 1 5 = nI (tk_V n y p))
def tk_vc (y : Nat → Nat) (p : Nat) : Nat → Int32
  | 0 => 0
  | i + 1 => tk_vc y p i * 10 + nI (y (p + i)) - 48
theorem tk_vc_V {n : Nat} {y : Nat → Nat} {p : Nat} (h : p ≤ n) (hK : tk_K n y p = 2) : tk_vc y (tk_S n y p) (tk_N n y p - tk_S n y p) = nI (tk_V n y p) := by
  obtain ⟨h1, h2, h3, h4⟩ := tk_V_lt h hK
  have f1 : 48 ≤ y (tk_S n y p) ∧ y (tk_S n y p) ≤ 57 := by simpa [tk_F] using h3
  have v1 : tk_vc y (tk_S n y p) 1 = nI (y (tk_S n y p) - 48) := by
    show (0 : Int32) * 10 + nI (y (tk_S n y p + 0)) - 48 = _
    rw [Nat.add_zero]
    simp (disch := omega) only [n_lit, n_le, n_lt, n_eq, n_in, n_ckt, n_ix, n_mul, n_add, n_sub, n_div, n_rem, n_b01, n_isb, n_lt0, n_le0, Option.bind_some, if_pos, if_neg, ge_iff_le, gt_iff_lt, Nat.zero_add, Nat.add_zero, n_neg1, n_neg4, if_true, if_false, ite_true, ite_false, n_land1, not_true_eq_false, not_false_eq_true]
    simp [n_sub f1.1]
  rcases h2 with e | e
  · unfold tk_V
    rw [if_pos e, e]; exact v1
  · have := tk_r_in (P := fun i => tk_F (y i)) (n := n) (p := tk_S n y p) (i := tk_S n y p + 1) (by omega) (by omega)
    have f2 : 48 ≤ y (tk_S n y p + 1) ∧ y (tk_S n y p + 1) ≤ 57 := by simpa [tk_F] using this
    unfold tk_V
    rw [if_neg (by omega), e]
    show tk_vc y (tk_S n y p) 1 * 10 + nI (y (tk_S n y p + 1)) - 48 = _
    rw [v1]
    simp (disch := omega) only [n_lit, n_le, n_lt, n_eq, n_in, n_ckt, n_ix, n_mul, n_add, n_sub, n_div, n_rem, n_b01, n_isb, n_lt0, n_le0, Option.bind_some, if_pos, if_neg, ge_iff_le, gt_iff_lt, Nat.zero_add, Nat.add_zero, n_neg1, n_neg4, if_true, if_false, ite_true, ite_false, n_land1, not_true_eq_false, not_false_eq_true]
    congr 1
    omega
theorem sp_step {σ : ww_M} {n : Nat} {y : Nat → Nat} {p : Nat} (hT : tp_C σ n y) (hp : p ≤ n) (h2 : σ 1 2 = nI p) : ∃ τ, f_X4_step σ 1 = some τ ∧ tk_C τ n y p ∧ τ 1 1 = σ 1 1 ∧ ∀ a, a ≠ 1 → τ a = σ a := by
  obtain ⟨t1, t2, t3⟩ := hT
  have hSl := tk_S_le y hp
  have l0 : ww_it (f_X4_step_b0 1) ww_F σ = some (ww_up σ 1 2 (nI (tk_S n y p))) := by
    refine ww_run (f := f_X4_step_b0 1) σ 1 2 (fun i => decide (y i = 32)) hp t2 h2 (fun i hi1 hi2 => ?_) ?_
    · obtain ⟨b1, b2⟩ := t3 i hi2
      unfold f_X4_step_b0
      simp (disch := omega) only [ww_up_ne, ww_up_eq, ww_upr_ne, ww_upr_eq, ww_fill_ne, ww_fill_eq, ww_cpy_ne, ww_cpy_eq, pk_us, pk_un, ne_eq, not_false_eq_true, t1, show (1 + 1 : Nat) = 2 from rfl]
      simp (disch := omega) only [n_lit, n_le, n_lt, n_eq, n_in, n_ckt, n_ix, n_mul, n_add, n_sub, n_div, n_rem, n_b01, n_isb, n_lt0, n_le0, Option.bind_some, if_pos, if_neg, ge_iff_le, gt_iff_lt, Nat.zero_add, Nat.add_zero, n_neg1, n_neg4, if_true, if_false, ite_true, ite_false, n_land1, not_true_eq_false, not_false_eq_true, t1, b2, ww_up_twice]
      by_cases e : y i = 32
      · simp [e]
      · simp [e]
    · unfold f_X4_step_b0
      simp (disch := omega) only [ww_up_ne, ww_up_eq, ww_upr_ne, ww_upr_eq, ww_fill_ne, ww_fill_eq, ww_cpy_ne, ww_cpy_eq, pk_us, pk_un, ne_eq, not_false_eq_true, t1]
      simp (disch := omega) only [n_lit, n_le, n_lt, n_eq, n_in, n_ckt, n_ix, n_mul, n_add, n_sub, n_div, n_rem, n_b01, n_isb, n_lt0, n_le0, Option.bind_some, if_pos, if_neg, ge_iff_le, gt_iff_lt, Nat.zero_add, Nat.add_zero, n_neg1, n_neg4, if_true, if_false, ite_true, ite_false, n_land1, not_true_eq_false, not_false_eq_true, t1]
  have hst : f_X4_step σ 1 = f_X4_step_j38 (ww_up σ 1 2 (nI (tk_S n y p))) 1 := by
    unfold f_X4_step f_X4_step_j0
    rw [l0]; rfl
  rw [hst]
  generalize hS : tk_S n y p = S at hSl
  obtain ⟨X, hX⟩ : ∃ X, X = ww_up (ww_up σ 1 2 (nI S)) 1 4 (nI S) := ⟨_, rfl⟩
  have x1 : X 1 1 = nI n := by rw [hX]; simp (disch := omega) only [ww_up_ne, ww_up_eq, ww_upr_ne, ww_upr_eq, ww_fill_ne, ww_fill_eq, ww_cpy_ne, ww_cpy_eq, pk_us, pk_un, ne_eq, not_false_eq_true, t1]
  have x2 : X 1 2 = nI S := by rw [hX]; simp (disch := omega) only [ww_up_ne, ww_up_eq, ww_upr_ne, ww_upr_eq, ww_fill_ne, ww_fill_eq, ww_cpy_ne, ww_cpy_eq, pk_us, pk_un, ne_eq, not_false_eq_true]
  have x4 : X 1 4 = nI S := by rw [hX]; simp (disch := omega) only [ww_up_ne, ww_up_eq, ww_upr_ne, ww_upr_eq, ww_fill_ne, ww_fill_eq, ww_cpy_ne, ww_cpy_eq, pk_us, pk_un, ne_eq, not_false_eq_true]
  have xb : ∀ i, i < n → X 2 i = nI (y i) := fun i hi => by rw [hX]; simp (disch := omega) only [ww_up_ne, ww_up_eq, ww_upr_ne, ww_upr_eq, ww_fill_ne, ww_fill_eq, ww_cpy_ne, ww_cpy_eq, pk_us, pk_un, ne_eq, not_false_eq_true]; exact (t3 i hi).2
  have xf : ∀ a, a ≠ 1 → X a = σ a := fun a ha => by rw [hX]; simp (disch := omega) only [ww_up_ne, ww_up_eq, ww_upr_ne, ww_upr_eq, ww_fill_ne, ww_fill_eq, ww_cpy_ne, ww_cpy_eq, pk_us, pk_un, ne_eq, not_false_eq_true]
  have hj : f_X4_step_j38 (ww_up σ 1 2 (nI S)) 1 = (if nI S < nI n then ww_ck (ww_in (nI S) 160) ((f_X4_isLetter (X 2 (ww_ix (nI S)))).bind (fun v74 => (if v74 = 0 then ww_ck (ww_in (nI S) 160) ((f_X4_isFigure (X 2 (ww_ix (nI S)))).bind (fun v96 => (if v96 = 0 then ww_ck (ww_in (nI S) 160) ((if (X 2 (ww_ix (nI S))) = 59 then some (ww_up (ww_up X 1 3 3) 1 2 (nI S + 1)) else some (ww_up (ww_up X 1 3 4) 1 2 (nI S + 1)))) else (f_X4_stepNumber X 1).bind (fun v103 => some v103)))) else (f_X4_stepName X 1).bind (fun v81 => some v81)))) else some (ww_up X 1 3 0)) := by
    unfold f_X4_step_j38
    have e : ww_up σ 1 2 (nI S) 1 2 = nI S := by simp (disch := omega) only [ww_up_ne, ww_up_eq, ww_upr_ne, ww_upr_eq, ww_fill_ne, ww_fill_eq, ww_cpy_ne, ww_cpy_eq, pk_us, pk_un, ne_eq, not_false_eq_true]
    simp only [e, ← hX, x1, x2, show (1 + 1 : Nat) = 2 from rfl]
    have e3 : ∀ v, ww_up X 1 3 v 1 2 = nI S := fun v => by
      rw [ww_up_eq, pk_un (by omega)]; exact x2
    simp only [e3]
  rw [hj]
  by_cases hn : n ≤ S
  · refine ⟨ww_up X 1 3 0, ?_, ⟨?_, ?_, ?_, ?_⟩, ?_, ?_⟩
    · rw [if_neg (nI_nlt hn (by omega))]
    · rw [ww_up_eq, pk_un (by omega), x2]
      unfold tk_N; rw [hS, if_pos hn]
    · rw [ww_up_eq, pk_us]
      unfold tk_K; rw [hS, if_pos hn]; rfl
    · rw [ww_up_eq, pk_un (by omega), x4, hS]
    · intro z; unfold tk_K at z; rw [hS, if_pos hn] at z; omega
    · rw [ww_up_eq, pk_un (by omega), x1, t1]
    · intro a ha; rw [ww_up_ne ha]; exact xf a ha
  · have hSn : S < n := by omega
    obtain ⟨b1, -⟩ := t3 S hSn
    have b2 := xb S hSn
    rw [if_pos (nI_lt hSn (by omega)), n_in (show S < 160 by omega) (by omega), n_ckt, n_ix (by omega), b2, sp_letter b1, sp_figure b1]
    simp only [Option.bind_some, n_ckt]
    cases cL : tk_L (y S)
    · cases cF : tk_F (y S)
      · -- a sign
        have eN : tk_N n y p = S + 1 := by unfold tk_N; simp only [hS]; rw [if_neg hn, if_neg (by rw [cL]; decide), if_neg (by rw [cF]; decide)]
        have eK : tk_K n y p = if y S = 59 then 3 else 4 := by unfold tk_K; simp only [hS]; rw [if_neg hn, if_neg (by rw [cL]; decide), if_neg (by rw [cF]; decide)]
        refine ⟨ww_up (ww_up X 1 3 (nI (tk_K n y p))) 1 2 (nI (S + 1)), ?_, ⟨?_, ?_, ?_, ?_⟩, ?_, ?_⟩
        · rw [eK]
          simp only [Bool.false_eq_true, if_false, if_true]
          rw [show (59 : Int32) = nI 59 from rfl, nI_1]
          by_cases e : y S = 59
          · simp [e]; rfl
          · have : ¬ nI (y S) = nI 59 := by rw [n_eq (by omega) (by omega)]; exact e
            simp [e, this]; rfl
        · rw [ww_up_eq, pk_us, eN]
        · simp (disch := omega) only [ww_up_ne, ww_up_eq, ww_upr_ne, ww_upr_eq, ww_fill_ne, ww_fill_eq, ww_cpy_ne, ww_cpy_eq, pk_us, pk_un, ne_eq, not_false_eq_true]
        · simp (disch := omega) only [ww_up_ne, ww_up_eq, ww_upr_ne, ww_upr_eq, ww_fill_ne, ww_fill_eq, ww_cpy_ne, ww_cpy_eq, pk_us, pk_un, ne_eq, not_false_eq_true, x4, hS]
        · intro z; rw [eK] at z; split at z <;> omega
        · simp (disch := omega) only [ww_up_ne, ww_up_eq, ww_upr_ne, ww_upr_eq, ww_fill_ne, ww_fill_eq, ww_cpy_ne, ww_cpy_eq, pk_us, pk_un, ne_eq, not_false_eq_true, x1, t1]
        · intro a ha; rw [ww_up_ne ha, ww_up_ne ha]; exact xf a ha
      · -- a number
        have eN : tk_N n y p = tk_r (fun i => tk_F (y i)) n S := by unfold tk_N; simp only [hS]; rw [if_neg hn, if_neg (by rw [cL]; decide), if_pos cF]
        have eK : tk_K n y p = if tk_N n y p - S ≤ 2 then 2 else 4 := by rw [eN]; unfold tk_K; simp only [hS]; rw [if_neg hn, if_neg (by rw [cL]; decide), if_pos cF]
        have hNl := (tk_N_ge y hp).2
        have hNg := (tk_N_ge y hp).1
        rw [hS] at hNg
        have l1 : ww_it (f_X4_stepNumber_b5 1) ww_F (ww_up X 1 5 0) = some (ww_up (ww_up (ww_up X 1 5 0) 1 5 (tk_vc y S (tk_r (fun i => tk_F (y i)) n S - S))) 1 2 (nI (tk_r (fun i => tk_F (y i)) n S))) := by
          refine ww_run2 (f := f_X4_stepNumber_b5 1) (ww_up X 1 5 0) 1 5 2 (tk_vc y S) (fun i => tk_F (y i)) (by omega) t2 (by simp (disch := omega) only [ww_up_ne, ww_up_eq, ww_upr_ne, ww_upr_eq, ww_fill_ne, ww_fill_eq, ww_cpy_ne, ww_cpy_eq, pk_us, pk_un, ne_eq, not_false_eq_true, x2]) (by simp (disch := omega) only [ww_up_ne, ww_up_eq, ww_upr_ne, ww_upr_eq, ww_fill_ne, ww_fill_eq, ww_cpy_ne, ww_cpy_eq, pk_us, pk_un, ne_eq, not_false_eq_true]; rfl) (by omega) (fun i hi => ?_) ?_
          · obtain ⟨c1, -⟩ := t3 (S + i) hi
            have c2 := xb (S + i) hi
            unfold f_X4_stepNumber_b5
            simp (disch := omega) only [ww_up_ne, ww_up_eq, ww_upr_ne, ww_upr_eq, ww_fill_ne, ww_fill_eq, ww_cpy_ne, ww_cpy_eq, pk_us, pk_un, ne_eq, not_false_eq_true, x1, show (1 + 1 : Nat) = 2 from rfl]
            rw [if_neg (by rw [n_le (by omega) (by omega)]; omega), n_in (show S + i < 160 by omega) (by omega), n_ckt, n_ix (by omega), c2, sp_figure c1]
            simp only [Option.bind_some, n_ckt]
            cases cc : tk_F (y (S + i))
            · simp
            · simp only [if_true, if_neg (show ¬ (1 : Int32) = 0 by decide)]
              rw [ww_up4 _ (show (5 : Nat) ≠ 2 by omega), nI_1, Nat.add_assoc]
              rfl
          · unfold f_X4_stepNumber_b5
            simp (disch := omega) only [ww_up_ne, ww_up_eq, ww_upr_ne, ww_upr_eq, ww_fill_ne, ww_fill_eq, ww_cpy_ne, ww_cpy_eq, pk_us, pk_un, ne_eq, not_false_eq_true, x1]
            rw [if_pos (nI_le (Nat.le_refl _) (by omega))]
        rw [← eN] at l1
        refine ⟨ww_up (ww_up (ww_up (ww_up X 1 5 0) 1 5 (tk_vc y S (tk_N n y p - S))) 1 2 (nI (tk_N n y p))) 1 3 (nI (tk_K n y p)), ?_, ⟨?_, ?_, ?_, ?_⟩, ?_, ?_⟩
        · simp only [Bool.false_eq_true, if_false, if_true, if_neg (show ¬ (1 : Int32) = 0 by decide)]
          unfold f_X4_stepNumber f_X4_stepNumber_j5
          rw [l1]
          simp only [Option.bind_some]
          unfold f_X4_stepNumber_j68
          simp (disch := omega) only [ww_up_ne, ww_up_eq, ww_upr_ne, ww_upr_eq, ww_fill_ne, ww_fill_eq, ww_cpy_ne, ww_cpy_eq, pk_us, pk_un, ne_eq, not_false_eq_true, x4]
          rw [n_sub hNg, eK]
          by_cases e : tk_N n y p - S ≤ 2
          · rw [if_pos (show nI (tk_N n y p - S) ≤ 2 from nI_le (b := 2) e (by omega)), if_pos e]; rfl
          · rw [if_neg (show ¬ nI (tk_N n y p - S) ≤ 2 by rw [show (2 : Int32) = nI 2 from rfl, n_le (by omega) (by omega)]; exact e), if_neg e]; rfl
        · simp (disch := omega) only [ww_up_ne, ww_up_eq, ww_upr_ne, ww_upr_eq, ww_fill_ne, ww_fill_eq, ww_cpy_ne, ww_cpy_eq, pk_us, pk_un, ne_eq, not_false_eq_true]
        · simp (disch := omega) only [ww_up_ne, ww_up_eq, ww_upr_ne, ww_upr_eq, ww_fill_ne, ww_fill_eq, ww_cpy_ne, ww_cpy_eq, pk_us, pk_un, ne_eq, not_false_eq_true]
        · simp (disch := omega) only [ww_up_ne, ww_up_eq, ww_upr_ne, ww_upr_eq, ww_fill_ne, ww_fill_eq, ww_cpy_ne, ww_cpy_eq, pk_us, pk_un, ne_eq, not_false_eq_true, x4, hS]
        · intro z
          simp (disch := omega) only [ww_up_ne, ww_up_eq, ww_upr_ne, ww_upr_eq, ww_fill_ne, ww_fill_eq, ww_cpy_ne, ww_cpy_eq, pk_us, pk_un, ne_eq, not_false_eq_true]
          have := tk_vc_V hp z
          rw [hS] at this
          exact this
        · simp (disch := omega) only [ww_up_ne, ww_up_eq, ww_upr_ne, ww_upr_eq, ww_fill_ne, ww_fill_eq, ww_cpy_ne, ww_cpy_eq, pk_us, pk_un, ne_eq, not_false_eq_true, x1, t1]
        · intro a ha; rw [ww_up_ne ha, ww_up_ne ha, ww_up_ne ha, ww_up_ne ha]; exact xf a ha
    · -- a name
      have eN : tk_N n y p = tk_r (fun i => tk_L (y i)) n S := by unfold tk_N; simp only [hS]; rw [if_neg hn, if_pos cL]
      have eK : tk_K n y p = 1 := by unfold tk_K; simp only [hS]; rw [if_neg hn, if_pos cL]
      have hNl := (tk_N_ge y hp).2
      have l1 : ww_it (f_X4_stepName_b5 1) ww_F (ww_up X 1 3 1) = some (ww_up (ww_up X 1 3 1) 1 2 (nI (tk_r (fun i => tk_L (y i)) n S))) := by
        refine ww_run (f := f_X4_stepName_b5 1) (ww_up X 1 3 1) 1 2 (fun i => tk_L (y i)) (by omega) t2 (by simp (disch := omega) only [ww_up_ne, ww_up_eq, ww_upr_ne, ww_upr_eq, ww_fill_ne, ww_fill_eq, ww_cpy_ne, ww_cpy_eq, pk_us, pk_un, ne_eq, not_false_eq_true, x2]) (fun i hi1 hi2 => ?_) ?_
        · obtain ⟨c1, -⟩ := t3 i hi2
          have c2 := xb i hi2
          unfold f_X4_stepName_b5
          simp (disch := omega) only [ww_up_ne, ww_up_eq, ww_upr_ne, ww_upr_eq, ww_fill_ne, ww_fill_eq, ww_cpy_ne, ww_cpy_eq, pk_us, pk_un, ne_eq, not_false_eq_true, x1, show (1 + 1 : Nat) = 2 from rfl]
          rw [if_neg (by rw [n_le (by omega) (by omega)]; omega), n_in (show i < 160 by omega) (by omega), n_ckt, n_ix (by omega), c2, sp_letter c1]
          simp only [Option.bind_some]
          cases cc : tk_L (y i)
          · simp
          · simp only [if_true, if_neg (show ¬ (1 : Int32) = 0 by decide)]
            rw [ww_up_twice, nI_1]
        · unfold f_X4_stepName_b5
          simp (disch := omega) only [ww_up_ne, ww_up_eq, ww_upr_ne, ww_upr_eq, ww_fill_ne, ww_fill_eq, ww_cpy_ne, ww_cpy_eq, pk_us, pk_un, ne_eq, not_false_eq_true, x1]
          rw [if_pos (nI_le (Nat.le_refl _) (by omega))]
      rw [← eN] at l1
      refine ⟨ww_up (ww_up X 1 3 1) 1 2 (nI (tk_N n y p)), ?_, ⟨?_, ?_, ?_, ?_⟩, ?_, ?_⟩
      · simp only [if_true, if_neg (show ¬ (1 : Int32) = 0 by decide)]
        unfold f_X4_stepName f_X4_stepName_j5 f_X4_stepName_j44
        rw [l1]
        rfl
      · simp (disch := omega) only [ww_up_ne, ww_up_eq, ww_upr_ne, ww_upr_eq, ww_fill_ne, ww_fill_eq, ww_cpy_ne, ww_cpy_eq, pk_us, pk_un, ne_eq, not_false_eq_true]
      · simp (disch := omega) only [ww_up_ne, ww_up_eq, ww_upr_ne, ww_upr_eq, ww_fill_ne, ww_fill_eq, ww_cpy_ne, ww_cpy_eq, pk_us, pk_un, ne_eq, not_false_eq_true]
        rw [eK]; rfl
      · simp (disch := omega) only [ww_up_ne, ww_up_eq, ww_upr_ne, ww_upr_eq, ww_fill_ne, ww_fill_eq, ww_cpy_ne, ww_cpy_eq, pk_us, pk_un, ne_eq, not_false_eq_true, x4, hS]
      · intro z; omega
      · simp (disch := omega) only [ww_up_ne, ww_up_eq, ww_upr_ne, ww_upr_eq, ww_fill_ne, ww_fill_eq, ww_cpy_ne, ww_cpy_eq, pk_us, pk_un, ne_eq, not_false_eq_true, x1, t1]
      · intro a ha; rw [ww_up_ne ha, ww_up_ne ha]; exact xf a ha
