/-! ===== names ===== -/
def wn_l (k : Nat) : Nat := [4, 4, 3, 3, 5, 5].getD k 0
def wn_c (k i : Nat) : Nat := ([[115, 97, 110, 100], [116, 105, 100, 101], [108, 97, 119], [114, 111, 116], [103, 97, 110, 103, 115], [119, 104, 97, 108, 101]].getD k []).getD i 0
def wn_u (k : Nat) : Nat := [0, 4, 8, 11, 14, 19, 24].getD k 0
theorem wn_l5 {k : Nat} (hk : k < 6) : 3 ≤ wn_l k ∧ wn_l k ≤ 5 ∧ wn_u (k + 1) = wn_u k + wn_l k ∧ wn_u (k + 1) ≤ 24 := by
  rcases (show k = 0 ∨ k = 1 ∨ k = 2 ∨ k = 3 ∨ k = 4 ∨ k = 5 by omega) with rfl | rfl | rfl | rfl | rfl | rfl <;> decide
theorem wn_slen {k : Nat} (hk : k < 6) : ww_slen k = nI (wn_l k) ∧ ww_sl.getD k 0 = wn_l k := by
  rcases (show k = 0 ∨ k = 1 ∨ k = 2 ∨ k = 3 ∨ k = 4 ∨ k = 5 by omega) with rfl | rfl | rfl | rfl | rfl | rfl <;> decide
theorem wn_schr {k i : Nat} (hk : k < 6) (hi : i < wn_l k) : ww_schr k i = nI (wn_c k i) ∧ wn_c k i < 128 := by
  have h5 := wn_l5 hk
  have : ∀ k : Fin 6, ∀ i : Fin 5, i.val < wn_l k.val → ww_schr k.val i.val = nI (wn_c k.val i.val) ∧ wn_c k.val i.val < 128 := by decide +kernel
  exact this ⟨k, hk⟩ ⟨i, by omega⟩ hi
theorem wn_cut {k : Nat} (hk : k < 7) : ww_zModel 8 k = nI (wn_u k) := by
  rcases (show k = 0 ∨ k = 1 ∨ k = 2 ∨ k = 3 ∨ k = 4 ∨ k = 5 ∨ k = 6 by omega) with rfl | rfl | rfl | rfl | rfl | rfl | rfl <;> decide +kernel
theorem wn_let {k i : Nat} (hk : k < 6) (hi : i < wn_l k) : ww_zModel 9 (wn_u k + i) = nI (wn_c k i) := by
  have h5 := wn_l5 hk
  have : ∀ k : Fin 6, ∀ i : Fin 5, i.val < wn_l k.val → ww_zModel 9 (wn_u k.val + i.val) = nI (wn_c k.val i.val) := by decide +kernel
  exact this ⟨k, hk⟩ ⟨i, by omega⟩ hi
def wn_e (n : Nat) (y : Nat → Nat) (p k : Nat) : Bool := (List.range (wn_l k)).all (fun i => decide (y (tk_S n y p + i) = wn_c k i))
theorem wn_e_iff {n : Nat} {y : Nat → Nat} {p k : Nat} : wn_e n y p k = true ↔ ∀ i, i < wn_l k → y (tk_S n y p + i) = wn_c k i := by
  simp [wn_e]
def wn_m (n : Nat) (y : Nat → Nat) (p k : Nat) : Bool := decide (tk_K n y p = 1) && (decide (tk_N n y p - tk_S n y p = wn_l k) && wn_e n y p k)
theorem sp_isName {σ : ww_M} {n : Nat} {y : Nat → Nat} {p k : Nat} (hT : tp_C σ n y) (hp : p ≤ n) (hC : tk_C σ n y p) (hk : k < 6) : f_X4_isName σ 1 k = some (if wn_m n y p k = true then 1 else 0) := by
  obtain ⟨t1, t2, t3⟩ := hT
  obtain ⟨c2, c3, c4, -⟩ := hC
  have hKl := tk_K_le n y p
  have hN := tk_N_ge y hp
  have h5 := wn_l5 hk
  obtain ⟨s1, s2⟩ := wn_slen hk
  unfold f_X4_isName wn_m
  rw [c2, c3, c4, s1, n_sub hN.1]
  by_cases e1 : tk_K n y p = 1
  · rw [if_pos (show nI (tk_K n y p) = 1 by rw [e1]; rfl)]
    by_cases e2 : tk_N n y p - tk_S n y p = wn_l k
    · rw [if_pos (by rw [e2])]
      have key := ww_it_inv (f := f_X4_isName_b28 σ 1 k) (x0 := 0) (fun i x => x = nI i ∧ ∀ j, j < i → y (tk_S n y p + j) = wn_c k j) (fun r => (match r with | .inl _ => f_X4_isName_j63 σ 1 k | .inr g28 => some g28) = some (if wn_e n y p k = true then 1 else 0)) (wn_l k) (by omega) ⟨rfl, fun j hj => absurd hj (Nat.not_lt_zero j)⟩ (fun i hi x hx => ?_) (fun x hx => ?_)
      · obtain ⟨r, k1, k2⟩ := key
        unfold f_X4_isName_j28
        rw [k1]
        simp only [Option.bind_some]
        simp only [e1, e2, decide_true, Bool.true_and]
        exact k2
      · obtain ⟨rfl, hx⟩ := hx
        obtain ⟨b1, b2⟩ := t3 (tk_S n y p + i) (by omega)
        obtain ⟨q1, q2⟩ := wn_schr hk hi
        have hb : f_X4_isName_b28 σ 1 k (nI i) = if y (tk_S n y p + i) = wn_c k i then some (.inl (nI (i + 1))) else some (.inr (.inr 0)) := by
          unfold f_X4_isName_b28 ww_sin
          rw [s1, s2, c4]
          simp (disch := omega) only [n_lit, n_le, n_lt, n_eq, n_in, n_ckt, n_ix, n_mul, n_add, n_sub, n_div, n_rem, n_b01, n_isb, n_lt0, n_le0, Option.bind_some, if_pos, if_neg, ge_iff_le, gt_iff_lt, Nat.zero_add, Nat.add_zero, n_neg1, n_neg4, if_true, if_false, ite_true, ite_false, n_land1, not_true_eq_false, not_false_eq_true, show σ (1 + 1) = σ 2 from rfl, b2, q1]
        by_cases e3 : y (tk_S n y p + i) = wn_c k i
        · refine Or.inl ⟨nI (i + 1), by rw [hb, if_pos e3], rfl, fun j hj => ?_⟩
          by_cases ej : j = i
          · rw [ej]; exact e3
          · exact hx j (by omega)
        · refine Or.inr ⟨.inr 0, by rw [hb, if_neg e3], ?_⟩
          have : wn_e n y p k = false := Bool.eq_false_iff.mpr (fun z => e3 (wn_e_iff.mp z i hi))
          rw [this]; rfl
      · obtain ⟨rfl, hx⟩ := hx
        refine ⟨.inl (), ?_, ?_⟩
        · unfold f_X4_isName_b28
          rw [s1, if_pos (nI_le (Nat.le_refl _) (by omega))]
        · rw [wn_e_iff.mpr hx]; rfl
    · rw [if_neg (by rw [n_eq (by omega) (by omega)]; exact e2)]
      simp [e2]
  · rw [if_neg (by rw [show (1 : Int32) = nI 1 from rfl, n_eq (by omega) (by omega)]; exact e1)]
    simp [e1]
def wn_line (n : Nat) (y : Nat → Nat) (p : Nat) : Nat := if wn_m n y p 0 = true then 1 else if wn_m n y p 1 = true then 2 else if wn_m n y p 2 = true then 3 else if wn_m n y p 3 = true then 4 else if wn_m n y p 4 = true then 5 else if wn_m n y p 5 = true then 6 else 0
theorem wn_ff (n : Nat) (y : Nat → Nat) (p : Nat) : wn_line n y p = if fa_first (wn_m n y p) 6 < 6 then fa_first (wn_m n y p) 6 + 1 else 0 := by
  unfold wn_line
  generalize wn_m n y p = m
  cases h0 : m 0 <;> cases h1 : m 1 <;> cases h2 : m 2 <;> cases h3 : m 3 <;> cases h4 : m 4 <;> cases h5 : m 5 <;> simp [fa_first, h0, h1, h2, h3, h4, h5]
theorem wn_line_le (n : Nat) (y : Nat → Nat) (p : Nat) : wn_line n y p ≤ 6 := by
  unfold wn_line
  repeat' split
  all_goals omega
theorem wn_line_K {n : Nat} {y : Nat → Nat} {p : Nat} (h : wn_line n y p ≠ 0) : tk_K n y p = 1 := by
  apply Classical.byContradiction
  intro z
  have hm : ∀ k, wn_m n y p k = false := fun k => by simp [wn_m, z]
  exact h (by simp [wn_line, hm])
theorem sp_lineOf {σ : ww_M} {n : Nat} {y : Nat → Nat} {p : Nat} (hT : tp_C σ n y) (hp : p ≤ n) (hC : tk_C σ n y p) : f_X5_lineOf σ 1 = some (nI (wn_line n y p)) := by
  unfold f_X5_lineOf wn_line
  rw [sp_isName hT hp hC (show 0 < 6 by omega), sp_isName hT hp hC (show 1 < 6 by omega), sp_isName hT hp hC (show 2 < 6 by omega), sp_isName hT hp hC (show 3 < 6 by omega), sp_isName hT hp hC (show 4 < 6 by omega), sp_isName hT hp hC (show 5 < 6 by omega)]
  simp only [Option.bind_some]
  cases wn_m n y p 0
  · cases wn_m n y p 1
    · cases wn_m n y p 2
      · cases wn_m n y p 3
        · cases wn_m n y p 4
          · cases wn_m n y p 5
            · rfl
            · rfl
          · rfl
        · rfl
      · rfl
    · rfl
  · rfl
theorem sm_nameHere {μ : ww_M} {n : Nat} {y : Nat → Nat} {p : Nat} (hT : tp_M μ n y) (hp : p ≤ n) (hM : tk_M μ n y p) (hK : tk_K n y p ≠ 4) (h70 : μ 70 = ww_zModel 8) (h71 : μ 71 = ww_zModel 9) : f_X7_nameHere μ 62 = some (if wn_line n y p = 0 then -4 else nI (wn_line n y p - 1)) := by
  obtain ⟨m18, m19, m3, -⟩ := hM
  obtain ⟨m16, m20⟩ := m3 hK
  have hKl := tk_K_le n y p
  have hN := tk_N_ge y hp
  by_cases e1 : tk_K n y p = 1
  · have inner : ∀ k, k < 6 → f_X7_nameHere_b2 μ 62 (nI k) = if wn_m n y p k = true then some (.inr (.inr (nI k))) else some (.inl (nI (k + 1))) := fun k hk => by
      have h5 := wn_l5 hk
      have g1 : μ (62 + 8) (k + 1) = nI (wn_u (k + 1)) := by
        rw [show μ (62 + 8) = μ 70 from rfl, h70]; exact wn_cut (by omega)
      have g2 : μ (62 + 8) k = nI (wn_u k) := by
        rw [show μ (62 + 8) = μ 70 from rfl, h70]; exact wn_cut (by omega)
      have j106 : ∀ b : Bool, f_X7_nameHere_j106 μ 62 (nI k) (if b = true then 1 else 0) = if b = true then some (.inr (.inr (nI k))) else some (.inl (nI (k + 1))) := fun b => by
        unfold f_X7_nameHere_j106
        cases b
        · simp [nI_1]
        · simp
      have h0 : f_X7_nameHere_b2 μ 62 (nI k) = if tk_N n y p - tk_S n y p = wn_l k then f_X7_nameHere_j48 μ 62 (nI k) 1 else f_X7_nameHere_j48 μ 62 (nI k) 0 := by
        unfold f_X7_nameHere_b2
        rw [m18, m19, m20, e1]
        simp (disch := omega) only [n_lit, n_le, n_lt, n_eq, n_in, n_ckt, n_ix, n_mul, n_add, n_sub, n_div, n_rem, n_b01, n_isb, n_lt0, n_le0, Option.bind_some, if_pos, if_neg, ge_iff_le, gt_iff_lt, Nat.zero_add, Nat.add_zero, n_neg1, n_neg4, if_true, if_false, ite_true, ite_false, n_land1, not_true_eq_false, not_false_eq_true, g1, g2]
        rw [show wn_u (k + 1) - wn_u k = wn_l k by omega]
        have := hT.2.1
        simp (disch := omega) only [n_lit, n_le, n_lt, n_eq, n_in, n_ckt, n_ix, n_mul, n_add, n_sub, n_div, n_rem, n_b01, n_isb, n_lt0, n_le0, Option.bind_some, if_pos, if_neg, ge_iff_le, gt_iff_lt, Nat.zero_add, Nat.add_zero, n_neg1, n_neg4, if_true, if_false, ite_true, ite_false, n_land1, not_true_eq_false, not_false_eq_true]
      rw [h0]
      by_cases e2 : tk_N n y p - tk_S n y p = wn_l k
      · rw [if_pos e2]
        unfold f_X7_nameHere_j48 f_X7_nameHere_j51
        have key := ww_it_inv (f := f_X7_nameHere_b51 μ 62 (nI k)) (x0 := (1, 0)) (fun i x => (x = (1, nI i) ∧ ∀ j, j < i → y (tk_S n y p + j) = wn_c k j) ∨ (x.1 = 0 ∧ wn_e n y p k = false)) (fun r => r = if wn_e n y p k = true then 1 else 0) (wn_l k) (by omega) (Or.inl ⟨rfl, fun j hj => absurd hj (Nat.not_lt_zero j)⟩) (fun i hi x hx => ?_) (fun x hx => ?_)
        · obtain ⟨r, k1, rfl⟩ := key
          rw [k1]
          simp only [Option.bind_some]
          rw [j106]
          have : wn_m n y p k = wn_e n y p k := by simp [wn_m, e1, e2]
          rw [this]
        · rcases hx with ⟨rfl, hx⟩ | ⟨hx1, hx2⟩
          · have q2 := (wn_schr hk hi).2
            obtain ⟨b1, -⟩ := hT.2.2 (tk_S n y p + i) (by omega)
            have g3 : μ (62 + 9) (wn_u k + i) = nI (wn_c k i) := by
              rw [show μ (62 + 9) = μ 71 from rfl, h71]; exact wn_let hk hi
            have hby := sm_byteAt hT (k := tk_S n y p + i) (by omega)
            have hb : f_X7_nameHere_b51 μ 62 (nI k) (1, nI i) = if y (tk_S n y p + i) = wn_c k i then some (.inl (1, nI (i + 1))) else some (.inl (0, nI (i + 1))) := by
              unfold f_X7_nameHere_b51
              dsimp only
              rw [m18, m19]
              simp (disch := omega) only [n_lit, n_le, n_lt, n_eq, n_in, n_ckt, n_ix, n_mul, n_add, n_sub, n_div, n_rem, n_b01, n_isb, n_lt0, n_le0, Option.bind_some, if_pos, if_neg, ge_iff_le, gt_iff_lt, Nat.zero_add, Nat.add_zero, n_neg1, n_neg4, if_true, if_false, ite_true, ite_false, n_land1, not_true_eq_false, not_false_eq_true, hby, g2, g3]
            by_cases e3 : y (tk_S n y p + i) = wn_c k i
            · refine Or.inl ⟨(1, nI (i + 1)), by rw [hb, if_pos e3], Or.inl ⟨rfl, fun j hj => ?_⟩⟩
              by_cases ej : j = i
              · rw [ej]; exact e3
              · exact hx j (by omega)
            · exact Or.inl ⟨(0, nI (i + 1)), by rw [hb, if_neg e3], Or.inr ⟨rfl, Bool.eq_false_iff.mpr (fun z => e3 (wn_e_iff.mp z i hi))⟩⟩
          · refine Or.inr ⟨0, ?_, by rw [hx2]; rfl⟩
            unfold f_X7_nameHere_b51
            rw [if_pos hx1, hx1]
        · rcases hx with ⟨rfl, hx⟩ | ⟨hx1, hx2⟩
          · refine ⟨1, ?_, by rw [wn_e_iff.mpr hx]; rfl⟩
            unfold f_X7_nameHere_b51
            dsimp only
            rw [if_neg (by decide), m18, m19, n_sub hN.1, e2, if_pos (nI_le (Nat.le_refl _) (by omega))]
          · refine ⟨0, ?_, by rw [hx2]; rfl⟩
            unfold f_X7_nameHere_b51
            rw [if_pos hx1, hx1]
      · rw [if_neg e2]
        unfold f_X7_nameHere_j48 f_X7_nameHere_j51
        have : ww_it (f_X7_nameHere_b51 μ 62 (nI k)) ww_F (0, 0) = some 0 := ww_it_done (by
          unfold f_X7_nameHere_b51
          rw [if_pos rfl])
        rw [this]
        have e3 := j106 false
        simp only [Bool.false_eq_true, if_false] at e3
        simp only [Option.bind_some]
        rw [e3]
        simp [wn_m, e2]
    have six : f_X7_nameHere_b2 μ 62 (nI 6) = some (.inr (.inl ())) := by
      unfold f_X7_nameHere_b2
      rw [if_pos (by decide)]
    have key := ww_it_first (f := f_X7_nameHere_b2 μ 62) (fun i => nI i) (wn_m n y p) 6 (by omega) (fun i => .inr (nI i)) (.inl ()) (fun i hi hm => by rw [inner i hi, if_neg (by rw [hm]; decide)]) (fun i hi hm => by rw [inner i hi, if_pos hm]) six
    unfold f_X7_nameHere f_X7_nameHere_j2 f_X7_nameHere_j118
    have key' : ww_it (f_X7_nameHere_b2 μ 62) ww_F 0 = _ := key
    rw [key']
    simp only [Option.bind_some]
    rw [wn_ff]
    by_cases z : fa_first (wn_m n y p) 6 < 6
    · simp only [if_pos z]
      rw [if_neg (by omega)]
      rfl
    · simp only [if_neg z]
      rfl
  · have hm : ∀ k, wn_m n y p k = false := fun k => by simp [wn_m, e1]
    have e0 : wn_line n y p = 0 := by simp [wn_line, hm]
    rw [if_pos e0]
    unfold f_X7_nameHere f_X7_nameHere_j2 f_X7_nameHere_j118
    have : ww_it (f_X7_nameHere_b2 μ 62) ww_F 0 = some (.inl ()) := ww_it_done (by
      unfold f_X7_nameHere_b2
      rw [if_neg (by decide), m20, if_neg (by rw [show (1 : Int32) = nI 1 from rfl, n_eq (by omega) (by omega)]; exact e1)])
    rw [this]
    rfl
