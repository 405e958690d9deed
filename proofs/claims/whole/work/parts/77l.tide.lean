/-! ===== tide ===== -/
def mt_R (k : Nat) (x1 : Int32) (μ : ww_M) (r : ww_M ⊕ ww_M) : Prop := ∀ fuel, k ≤ fuel → ww_it (f_X7_readTide_b2 62) fuel (x1, μ) = some r
theorem mt_R_go {k : Nat} {x x' : Int32} {μ μ' : ww_M} {r : ww_M ⊕ ww_M} (h : f_X7_readTide_b2 62 (x, μ) = some (.inl (x', μ'))) (h2 : mt_R k x' μ' r) : mt_R (k + 1) x μ r := fun fuel hf => by
  obtain ⟨f', rfl⟩ : ∃ f', fuel = f' + 1 := ⟨fuel - 1, by omega⟩
  exact ww_it_more h (h2 f' (by omega))
theorem mt_R_done {k : Nat} {x : Int32} {μ : ww_M} {r : ww_M ⊕ ww_M} (h : f_X7_readTide_b2 62 (x, μ) = some (.inr r)) : mt_R (k + 1) x μ r := fun fuel hf => by
  obtain ⟨f', rfl⟩ : ∃ f', fuel = f' + 1 := ⟨fuel - 1, by omega⟩
  exact ww_it_done h
def td_o (m : ww_M ⊕ ww_M) : ww_M := match m with
  | .inl a => a
  | .inr a => a
def td_ok (k j : Nat) (x1 : Int32) (σ μ : ww_M) (n : Nat) (y : Nat → Nat) (p : Nat) (B : Nat → Bool) : Prop := ∃ τ ν s d q m, cl_R 2 j σ (.inr (1, τ)) ∧ (mt_R k x1 μ m ∧ f_X7_readLine_j194 (td_o m) 62 = some ν) ∧ (p ≤ q ∧ q ≤ n) ∧ τ 1 2 = nI q ∧ tk_M ν n y q ∧ dr_C τ s d B ∧ dr_M ν s d B ∧ dr_ok s d ∧ fr_C σ τ ∧ fr_M μ ν
def td_bad (k j : Nat) (x1 : Int32) (σ μ : ww_M) : Prop := ∃ f at', cl_F 2 j σ f at' ∧ (1 ≤ f ∧ f ≤ 5 ∧ at' ≤ 160) ∧ ∃ ν m, (mt_R k x1 μ m ∧ f_X7_readLine_j194 (td_o m) 62 = some ν) ∧ ν 62 16 = nI f ∧ ν 62 17 = nI at' ∧ (∃ nb, nb ≤ 3 ∧ ν 62 11 = nI nb) ∧ fr_M μ ν
def sAddL (s : ww_S) (v : Nat) : ww_S := (s.1, sNl s + 1, s.2.2.1, ww_un (sLev s) (sNl s) v, s.2.2.2.2)
theorem mt_br {k f : Nat} {x : Int32} {μ : ww_M} (h : μ 62 16 = nI f) (h1 : 1 ≤ f) (h2 : f < 100) : mt_R (k + 1) x μ (.inl μ) := mt_R_done (by
  have h0 : ¬ μ 62 16 = 0 := by rw [h, show (0 : Int32) = nI 0 from rfl, n_eq (by omega) (by omega)]; omega
  unfold f_X7_readTide_b2
  rw [if_neg h0])
theorem dr_tide_C {σ τ : ww_M} {s : ww_S} {d : ww_D1} {v : Nat} (h : ww_ClsA σ 14 s d) (e14 : τ 14 = upd (σ 14) 10 (nI (sNl s + 1))) (e17 : τ 17 = upd (σ 17) (sNl s) (nI v)) (he : ∀ a, a = 15 ∨ a = 16 ∨ (18 ≤ a ∧ a < 24) → τ a = σ a) : ww_ClsA τ 14 (sAddL s v) d := by
  obtain ⟨⟨c1, c2, c3⟩, ⟨c4, c5, c6, c7, c8⟩, c9, c10, c11, c12, c13⟩ := h
  unfold ww_ClsA
  rw [e14, show τ (14 + 1) = _ from he 15 (by omega), show τ (14 + 2) = _ from he 16 (by omega), show τ (14 + 3) = _ from e17, show τ (14 + 4) = _ from he 18 (by omega), show τ (14 + 5) = _ from he 19 (by omega), show τ (14 + 6) = _ from he 20 (by omega), show τ (14 + 7) = _ from he 21 (by omega), show τ (14 + 8) = _ from he 22 (by omega), show τ (14 + 9) = _ from he 23 (by omega)]
  refine ⟨⟨by rw [pk_un (by decide)]; exact c1, pk_us, by rw [pk_un (by decide)]; exact c3⟩, ⟨by rw [pk_un (by decide)]; exact c4, by rw [pk_un (by decide)]; exact c5, by rw [pk_un (by decide)]; exact c6, by rw [pk_un (by decide)]; exact c7, by rw [pk_un (by decide)]; exact c8⟩, c9, fun j hj => ?_, c11, c12, c13⟩
  have hj' : j < sNl s + 1 := hj
  show upd (σ 17) (sNl s) (nI v) j = nI (ww_un (sLev s) (sNl s) v j)
  unfold ww_un
  by_cases e : j = sNl s
  · rw [e, pk_us, if_pos rfl]
  · rw [pk_un e, if_neg e]; exact c10 j (by omega)
theorem ln_tide_go {n : Nat} {y : Nat → Nat} {d : ww_D1} {B : Nat → Bool} : ∀ (r j : Nat) (σ μ : ww_M) (p : Nat) (s : ww_S) (x1 : Int32), sNl s + r = 6 → j ≤ sNl s → x1 = (if j = 0 then 1 else 0) → tp_C σ n y → tp_M μ n y → p ≤ n → σ 1 2 = nI p → tk_M μ n y p → dr_C σ s d B → dr_M μ s d B → dr_ok s d → td_ok (r + 3) j x1 σ μ n y p B ∨ td_bad (r + 3) j x1 σ μ := by
  intro r
  induction r with
  | zero =>
    intro j σ μ p s x1 hr hj hx hT hTm hp h2 hM hC hD hok
    have hn := hT.2.1
    have hKl := tk_K_le n y p
    have hS := tk_S_le y hp
    have hS1 := tk_S_ge n y p
    have hp1 := tk_N_ge y hp
    have e11 : μ 62 11 = nI (sNb s) := hD.1.2.2
    have e10 : μ 62 10 = nI (sNl s) := hD.1.2.1
    have hnb := hok.1.2.2
    have s10 : σ 14 10 = nI (sNl s) := hC.1.1.2.1
    have hms0 : j = 0 → f_X5_mayStop (nI 2) (nI j) = some 0 := fun e => by subst e; rfl
    by_cases k4 : tk_K n y p = 4
    · obtain ⟨m16, m17⟩ := hM.2.2.2.2 k4
      have hb := sp_b_tok (L := 2) (j := j) hT hp h2 (by omega) (fun z => by omega) (fun z => by omega)
      refine Or.inr ⟨_, _, hb, ⟨(tk_e_5 _ _ _).1, (tk_e_5 _ _ _).2, by omega⟩, μ, .inl μ, ⟨mt_br (f := 1) m16 (by omega) (by omega), sm_end_br (f := 1) m16 (by omega) (by omega)⟩, ?_, m17, ⟨sNb s, hnb, e11⟩, fr_M.refl μ⟩
      unfold tk_e; rw [if_pos k4]; exact m16
    · obtain ⟨m16, m20⟩ := hM.2.2.1 k4
      -- the model takes another number where it must or may
      have j21 : (j = 0 ∨ tk_K n y p = 2) → f_X7_readTide_b2 62 (x1, μ) = f_X7_readTide_j21 μ 62 := fun z => by
        unfold f_X7_readTide_b2
        rw [if_pos m16]
        by_cases ej : j = 0
        · rw [if_neg (show ¬ (x1, μ).1 = 0 by rw [hx, if_pos ej]; show ¬ (1 : Int32) = 0; decide)]
        · rw [if_pos (show (x1, μ).1 = 0 by rw [hx, if_neg ej]), if_pos (show μ 62 20 = 2 by
            rw [m20]
            rcases z with z | z
            · exact absurd z ej
            · rw [z]; rfl)]
      have jend : j ≠ 0 → tk_K n y p ≠ 2 → f_X7_readTide_b2 62 (x1, μ) = some (.inr (.inl μ)) := fun ej z => by
        unfold f_X7_readTide_b2
        rw [if_pos m16, if_pos (show (x1, μ).1 = 0 by rw [hx, if_neg ej]), if_neg (show ¬ μ 62 20 = 2 by
          rw [m20, show (2 : Int32) = nI 2 from rfl, n_eq (by omega) (by omega)]; exact z)]
      -- a number that isn't good breaks
      have jbad : (j = 0 ∨ tk_K n y p = 2) → ¬ (tk_K n y p = 2 ∧ sNl s = 6) → ¬ tk_g n y p 0 9 → ∃ ν, mt_R (0 + 3) x1 μ (.inl ν) ∧ ν 62 16 = nI (tk_f n y p) ∧ ν 62 17 = nI (tk_S n y p) ∧ ν 62 11 = nI (sNb s) ∧ fr_M μ ν := fun z1 z2 z3 => by
        obtain ⟨μ1, b1, b2, b3, b4⟩ := sm_num_bad (lo := 0) (hi := 9) hp hM (by omega) (by omega) z3
        have hf5 := tk_f_5 n y p
        have h10 : μ1 62 10 = nI (sNl s) := by rw [b4.1 10 (by omega)]; exact e10
        have j46 : f_X7_readTide_j21 μ 62 = f_X7_readTide_j46 μ 62 0 := by
          unfold f_X7_readTide_j21
          by_cases q : tk_K n y p = 2
          · rw [if_pos (show μ 62 20 = 2 by rw [m20, q]; rfl), e10, if_neg (show ¬ nI (sNl s) = 6 by rw [show (6 : Int32) = nI 6 from rfl, n_eq (by omega) (by omega)]; exact fun w => z2 ⟨q, w⟩)]
          · rw [if_neg (show ¬ μ 62 20 = 2 by rw [m20, show (2 : Int32) = nI 2 from rfl, n_eq (by omega) (by omega)]; exact q)]
        have b1' : f_X7_number μ 62 0 9 = some (0, μ1) := b1
        by_cases q : sNl s = 6
        · refine ⟨μ1, mt_R_go (x' := 0) (μ' := μ1) ?_ (mt_br (k := 0 + 1) b2 hf5.1 (by omega)), b2, b3, by rw [b4.1 11 (by omega)]; exact e11, b4.M⟩
          rw [j21 z1, j46]
          unfold f_X7_readTide_j46
          rw [b1']
          simp only [Option.bind_some]
          rw [h10, q, if_pos (by decide)]
        · refine ⟨ww_up (ww_up μ1 67 (sNl s) 0) 62 10 (nI (sNl s + 1)), mt_R_go (x' := 0) (μ' := ww_up (ww_up μ1 67 (sNl s) 0) 62 10 (nI (sNl s + 1))) ?_ (mt_br (k := 0 + 1) (f := tk_f n y p) (by rw [ww_up_eq, pk_un (by omega), ww_up_ne (by omega)]; exact b2) hf5.1 (by omega)), by rw [ww_up_eq, pk_un (by omega), ww_up_ne (by omega)]; exact b2, by rw [ww_up_eq, pk_un (by omega), ww_up_ne (by omega)]; exact b3, by rw [ww_up_eq, pk_un (by omega), ww_up_ne (by omega), b4.1 11 (by omega)]; exact e11, b4.M.trans ⟨fun a w1 w2 w3 w4 => by rw [ww_up_ne w1, ww_up_ne w3], fun i hi => by rw [ww_up_eq, pk_un (by omega), ww_up_ne (by omega)]⟩⟩
          rw [j21 z1, j46]
          unfold f_X7_readTide_j46
          rw [b1']
          simp only [Option.bind_some]
          rw [h10, if_neg (show ¬ (6 : Int32) ≤ nI (sNl s) by rw [show (6 : Int32) = nI 6 from rfl, n_le (by omega) (by omega)]; omega), n_in (show sNl s < 6 by omega) (by omega), n_ckt, n_ix (by omega)]
          have : ww_up μ1 (62 + 5) (sNl s) 0 62 10 = nI (sNl s) := by rw [ww_up_ne (by omega)]; exact h10
          rw [this, nI_1]
      by_cases k2 : tk_K n y p = 2
      · have hb := sp_b_5 (L := 2) (j := j) hT hp h2 (by omega) k2 rfl (fun τ ht => by
          unfold f_X5_isTooMany
          rw [if_pos (show nI 2 = 2 from rfl), ht, s10, if_pos (show (6 : Int32) ≤ nI (sNl s) from nI_le (a := 6) (by omega) (by omega))])
        refine Or.inr ⟨_, _, hb, ⟨by omega, by omega, by omega⟩, ww_up (ww_up μ 62 16 (nI 5)) 62 17 (nI (tk_S n y p)), .inr (ww_up (ww_up μ 62 16 (nI 5)) 62 17 (nI (tk_S n y p))), ⟨mt_R_done ?_, sm_end_br (f := 5) (by show ww_up (ww_up μ 62 16 (nI 5)) 62 17 (nI (tk_S n y p)) 62 16 = _; simp (disch := omega) only [ww_up_ne, ww_up_eq, ww_upr_ne, ww_upr_eq, ww_fill_ne, ww_fill_eq, ww_cpy_ne, ww_cpy_eq, pk_us, pk_un, ne_eq, not_false_eq_true]) (by omega) (by omega)⟩, by simp (disch := omega) only [ww_up_ne, ww_up_eq, ww_upr_ne, ww_upr_eq, ww_fill_ne, ww_fill_eq, ww_cpy_ne, ww_cpy_eq, pk_us, pk_un, ne_eq, not_false_eq_true], by simp (disch := omega) only [ww_up_ne, ww_up_eq, ww_upr_ne, ww_upr_eq, ww_fill_ne, ww_fill_eq, ww_cpy_ne, ww_cpy_eq, pk_us, pk_un, ne_eq, not_false_eq_true], ⟨sNb s, hnb, by simp (disch := omega) only [ww_up_ne, ww_up_eq, ww_upr_ne, ww_upr_eq, ww_fill_ne, ww_fill_eq, ww_cpy_ne, ww_cpy_eq, pk_us, pk_un, ne_eq, not_false_eq_true]; exact e11⟩, (fr_S_fail μ _ _).M⟩
        rw [j21 (Or.inr k2)]
        unfold f_X7_readTide_j21
        rw [if_pos (show μ 62 20 = 2 by rw [m20, k2]; rfl), e10, if_pos (show nI (sNl s) = 6 by rw [show sNl s = 6 by omega]; rfl), sm_fails m16, hM.2.1]
        rfl
      · by_cases j0 : j = 0
        · have hb := sp_b_tok (L := 2) (j := j) hT hp h2 (by omega) (fun _ => hms0 j0) (fun z => absurd z k2)
          obtain ⟨ν, c1, c2, c3, c4, c5⟩ := jbad (Or.inl j0) (fun z => k2 z.1) (fun z => k2 z.1)
          have hf5 := tk_f_5 n y p
          have ef : tk_f n y p = tk_e n y p := by unfold tk_f tk_e; rw [if_neg k4, if_neg k2, if_neg k4]
          rw [ef] at c2
          exact Or.inr ⟨_, _, hb, ⟨(tk_e_5 _ _ _).1, (tk_e_5 _ _ _).2, by omega⟩, ν, .inl ν, ⟨c1, sm_end_br c2 (tk_e_5 _ _ _).1 (by have := (tk_e_5 n y p).2; omega)⟩, c2, c3, ⟨sNb s, hnb, c4⟩, c5⟩
        · by_cases k3 : tk_K n y p = 3
          · have hms : f_X5_mayStop (nI 2) (nI j) = some 1 := by
              unfold f_X5_mayStop
              rw [if_neg (by decide), if_pos (show nI 2 = 2 from rfl), if_neg (show ¬ nI j ≤ 0 by rw [show (0 : Int32) = nI 0 from rfl, n_le (by omega) (by omega)]; omega)]
            obtain ⟨τ3, c1, c2, c3, c4⟩ := sp_b_stop (L := 2) (j := j) hT hp h2 (by omega) k3 hms
            obtain ⟨ν3, d1, d2, d3⟩ := sm_end_ok hTm hp hM k3
            exact Or.inl ⟨τ3, ν3, s, d, _, .inl μ, c1, ⟨mt_R_done (jend j0 k2), d1⟩, ⟨by omega, hp1.2⟩, c2.1, d2, dr_C_fr hC c4, dr_M_fr hD d3, hok, ⟨fun a z1 _ _ => c4 a z1, c3⟩, d3.M⟩
          · have hb := sp_b_tok (L := 2) (j := j) hT hp h2 (by omega) (fun z => absurd z k3) (fun z => absurd z k2)
            obtain ⟨ν3, d1, d2, d3, d4⟩ := sm_end_bad hM k3
            exact Or.inr ⟨_, _, hb, ⟨(tk_e_5 _ _ _).1, (tk_e_5 _ _ _).2, by omega⟩, ν3, .inl μ, ⟨mt_R_done (jend j0 k2), d1⟩, d2, d3, ⟨sNb s, hnb, by rw [d4.1 11 (by omega)]; exact e11⟩, d4.M⟩
  | succ r ih =>
    intro j σ μ p s x1 hr hj hx hT hTm hp h2 hM hC hD hok
    have hn := hT.2.1
    have hKl := tk_K_le n y p
    have hS := tk_S_le y hp
    have hS1 := tk_S_ge n y p
    have hp1 := tk_N_ge y hp
    have e11 : μ 62 11 = nI (sNb s) := hD.1.2.2
    have e10 : μ 62 10 = nI (sNl s) := hD.1.2.1
    have hnb := hok.1.2.2
    have s10 : σ 14 10 = nI (sNl s) := hC.1.1.2.1
    have hms0 : j = 0 → f_X5_mayStop (nI 2) (nI j) = some 0 := fun e => by subst e; rfl
    by_cases k4 : tk_K n y p = 4
    · obtain ⟨m16, m17⟩ := hM.2.2.2.2 k4
      have hb := sp_b_tok (L := 2) (j := j) hT hp h2 (by omega) (fun z => by omega) (fun z => by omega)
      refine Or.inr ⟨_, _, hb, ⟨(tk_e_5 _ _ _).1, (tk_e_5 _ _ _).2, by omega⟩, μ, .inl μ, ⟨mt_br (f := 1) m16 (by omega) (by omega), sm_end_br (f := 1) m16 (by omega) (by omega)⟩, ?_, m17, ⟨sNb s, hnb, e11⟩, fr_M.refl μ⟩
      unfold tk_e; rw [if_pos k4]; exact m16
    · obtain ⟨m16, m20⟩ := hM.2.2.1 k4
      -- the model takes another number where it must or may
      have j21 : (j = 0 ∨ tk_K n y p = 2) → f_X7_readTide_b2 62 (x1, μ) = f_X7_readTide_j21 μ 62 := fun z => by
        unfold f_X7_readTide_b2
        rw [if_pos m16]
        by_cases ej : j = 0
        · rw [if_neg (show ¬ (x1, μ).1 = 0 by rw [hx, if_pos ej]; show ¬ (1 : Int32) = 0; decide)]
        · rw [if_pos (show (x1, μ).1 = 0 by rw [hx, if_neg ej]), if_pos (show μ 62 20 = 2 by
            rw [m20]
            rcases z with z | z
            · exact absurd z ej
            · rw [z]; rfl)]
      have jend : j ≠ 0 → tk_K n y p ≠ 2 → f_X7_readTide_b2 62 (x1, μ) = some (.inr (.inl μ)) := fun ej z => by
        unfold f_X7_readTide_b2
        rw [if_pos m16, if_pos (show (x1, μ).1 = 0 by rw [hx, if_neg ej]), if_neg (show ¬ μ 62 20 = 2 by
          rw [m20, show (2 : Int32) = nI 2 from rfl, n_eq (by omega) (by omega)]; exact z)]
      -- a number that isn't good breaks
      have jbad : (j = 0 ∨ tk_K n y p = 2) → ¬ (tk_K n y p = 2 ∧ sNl s = 6) → ¬ tk_g n y p 0 9 → ∃ ν, mt_R ((r + 1) + 3) x1 μ (.inl ν) ∧ ν 62 16 = nI (tk_f n y p) ∧ ν 62 17 = nI (tk_S n y p) ∧ ν 62 11 = nI (sNb s) ∧ fr_M μ ν := fun z1 z2 z3 => by
        obtain ⟨μ1, b1, b2, b3, b4⟩ := sm_num_bad (lo := 0) (hi := 9) hp hM (by omega) (by omega) z3
        have hf5 := tk_f_5 n y p
        have h10 : μ1 62 10 = nI (sNl s) := by rw [b4.1 10 (by omega)]; exact e10
        have j46 : f_X7_readTide_j21 μ 62 = f_X7_readTide_j46 μ 62 0 := by
          unfold f_X7_readTide_j21
          by_cases q : tk_K n y p = 2
          · rw [if_pos (show μ 62 20 = 2 by rw [m20, q]; rfl), e10, if_neg (show ¬ nI (sNl s) = 6 by rw [show (6 : Int32) = nI 6 from rfl, n_eq (by omega) (by omega)]; exact fun w => z2 ⟨q, w⟩)]
          · rw [if_neg (show ¬ μ 62 20 = 2 by rw [m20, show (2 : Int32) = nI 2 from rfl, n_eq (by omega) (by omega)]; exact q)]
        have b1' : f_X7_number μ 62 0 9 = some (0, μ1) := b1
        by_cases q : sNl s = 6
        · refine ⟨μ1, mt_R_go (x' := 0) (μ' := μ1) ?_ (mt_br (k := (r + 1) + 1) b2 hf5.1 (by omega)), b2, b3, by rw [b4.1 11 (by omega)]; exact e11, b4.M⟩
          rw [j21 z1, j46]
          unfold f_X7_readTide_j46
          rw [b1']
          simp only [Option.bind_some]
          rw [h10, q, if_pos (by decide)]
        · refine ⟨ww_up (ww_up μ1 67 (sNl s) 0) 62 10 (nI (sNl s + 1)), mt_R_go (x' := 0) (μ' := ww_up (ww_up μ1 67 (sNl s) 0) 62 10 (nI (sNl s + 1))) ?_ (mt_br (k := (r + 1) + 1) (f := tk_f n y p) (by rw [ww_up_eq, pk_un (by omega), ww_up_ne (by omega)]; exact b2) hf5.1 (by omega)), by rw [ww_up_eq, pk_un (by omega), ww_up_ne (by omega)]; exact b2, by rw [ww_up_eq, pk_un (by omega), ww_up_ne (by omega)]; exact b3, by rw [ww_up_eq, pk_un (by omega), ww_up_ne (by omega), b4.1 11 (by omega)]; exact e11, b4.M.trans ⟨fun a w1 w2 w3 w4 => by rw [ww_up_ne w1, ww_up_ne w3], fun i hi => by rw [ww_up_eq, pk_un (by omega), ww_up_ne (by omega)]⟩⟩
          rw [j21 z1, j46]
          unfold f_X7_readTide_j46
          rw [b1']
          simp only [Option.bind_some]
          rw [h10, if_neg (show ¬ (6 : Int32) ≤ nI (sNl s) by rw [show (6 : Int32) = nI 6 from rfl, n_le (by omega) (by omega)]; omega), n_in (show sNl s < 6 by omega) (by omega), n_ckt, n_ix (by omega)]
          have : ww_up μ1 (62 + 5) (sNl s) 0 62 10 = nI (sNl s) := by rw [ww_up_ne (by omega)]; exact h10
          rw [this, nI_1]
      by_cases k2 : tk_K n y p = 2
      · have htm : ∀ τ : ww_M, τ 14 = σ 14 → f_X5_isTooMany τ 14 (nI 2) (nI j) = some 0 := fun τ ht => by
          unfold f_X5_isTooMany f_X5_isTooMany_j14
          rw [if_pos (show nI 2 = 2 from rfl), ht, s10, if_neg (show ¬ (6 : Int32) ≤ nI (sNl s) by rw [show (6 : Int32) = nI 6 from rfl, n_le (by omega) (by omega)]; omega), if_neg (by decide)]
        by_cases g0 : tk_g n y p 0 9
        · obtain ⟨τ1, a1, a2, a3, a4⟩ := sp_b_go (L := 2) (j := j) (lo := 0) (hi := 9) hT hp h2 (by omega) g0 rfl htm rfl rfl (by omega) (by omega)
          obtain ⟨μ1, b1, b2, b3⟩ := sm_num_go (lo := 0) (hi := 9) hTm hp hM (by omega) g0
          have t10 : τ1 14 10 = nI (sNl s) := by rw [a3 14 (by omega)]; exact s10
          obtain ⟨σ1, hσ1⟩ : ∃ X, X = ww_up (ww_up τ1 17 (sNl s) (nI (tk_V n y p))) 14 10 (nI (sNl s + 1)) := ⟨_, rfl⟩
          have put0 : f_X5_put τ1 14 (nI 2) (nI j) (nI (tk_V n y p)) = some σ1 := by
            unfold f_X5_put f_X2_putLevel
            rw [if_neg (by decide), if_pos (show nI 2 = 2 from rfl), t10, ww_within, if_pos ⟨nI_pos' (by omega), nI_le (b := 5) (by omega) (by omega)⟩]
            simp only [Option.bind_some]
            rw [if_neg (by decide), n_in (show sNl s < 6 by omega) (by omega), n_ckt, n_ix (by omega), show ww_up τ1 (14 + 3) (sNl s) (nI (tk_V n y p)) 14 10 = nI (sNl s) by rw [ww_up_ne (by omega)]; exact t10, nI_1, hσ1]
            rfl
          rw [put0] at a4
          have f1 : fr_C σ σ1 := by
            rw [hσ1]
            exact ⟨fun a z1 z2 z3 => by rw [ww_up_ne (by omega), ww_up_ne (by omega)]; exact a3 a z1, by rw [ww_up_ne (by omega), ww_up_ne (by omega)]; exact a2⟩
          have s2 : σ1 1 2 = nI (tk_N n y p) := by rw [hσ1, ww_up_ne (by omega), ww_up_ne (by omega)]; exact a1.1
          have h10 : μ1 62 10 = nI (sNl s) := by rw [b3.1 10 (by omega)]; exact e10
          obtain ⟨ν1, hν1⟩ : ∃ X, X = ww_up (ww_up μ1 67 (sNl s) (nI (tk_V n y p))) 62 10 (nI (sNl s + 1)) := ⟨_, rfl⟩
          have n62 : ∀ i, i ≠ 10 → ν1 62 i = μ1 62 i := fun i hi => by rw [hν1, ww_up_eq, pk_un hi, ww_up_ne (by omega)]
          have fm1 : fr_M μ ν1 := b3.M.trans ⟨fun a w1 w2 w3 w4 => by rw [hν1, ww_up_ne w1, ww_up_ne w3], fun i hi => n62 i (by omega)⟩
          have nM : tk_M ν1 n y (tk_N n y p) := by
            unfold tk_M
            rw [n62 18 (by omega), n62 19 (by omega), n62 16 (by omega), n62 20 (by omega), n62 21 (by omega), n62 17 (by omega)]; exact b2
          have hstep : f_X7_readTide_b2 62 (x1, μ) = some (.inl (0, ν1)) := by
            rw [j21 (Or.inr k2)]
            unfold f_X7_readTide_j21
            rw [if_pos (show μ 62 20 = 2 by rw [m20, k2]; rfl), e10, if_neg (show ¬ nI (sNl s) = 6 by rw [show (6 : Int32) = nI 6 from rfl, n_eq (by omega) (by omega)]; omega)]
            unfold f_X7_readTide_j46
            rw [show f_X7_number μ 62 0 9 = some (nI (tk_V n y p), μ1) from b1]
            simp only [Option.bind_some]
            rw [h10, if_neg (show ¬ (6 : Int32) ≤ nI (sNl s) by rw [show (6 : Int32) = nI 6 from rfl, n_le (by omega) (by omega)]; omega), n_in (show sNl s < 6 by omega) (by omega), n_ckt, n_ix (by omega), show ww_up μ1 (62 + 5) (sNl s) (nI (tk_V n y p)) 62 10 = nI (sNl s) by rw [ww_up_ne (by omega)]; exact h10, nI_1, hν1]
          have hC1 : dr_C σ1 (sAddL s (tk_V n y p)) d B := by
            refine ⟨dr_tide_C hC.1 ?_ ?_ (fun a ha => ?_), ?_, fun z => absurd (show sNl s + 1 = 0 from z) (by omega)⟩
            · rw [hσ1, ww_up_eq, ww_up_ne (by omega), a3 14 (by omega)]
            · rw [hσ1, ww_up_ne (by omega), ww_up_eq, a3 17 (by omega)]
            · rw [hσ1, ww_up_ne (by omega), ww_up_ne (by omega), a3 a (by omega)]
            · rw [hσ1, ww_up_ne (by omega), ww_up_ne (by omega), a3 3 (by omega)]; exact hC.2.1
          have hD1 : dr_M ν1 (sAddL s (tk_V n y p)) d B := by
            refine ⟨⟨?_, ?_, ?_⟩, ?_, fun i hi => ?_, fun b hb => ?_, ?_⟩
            · rw [n62 9 (by omega), b3.1 9 (by omega)]; exact hD.1.1
            · rw [hν1, ww_up_eq, pk_us]; rfl
            · rw [n62 11 (by omega), b3.1 11 (by omega)]; exact hD.1.2.2
            · rw [hν1, ww_up_ne (by omega), ww_up_ne (by omega), b3.2 66 (by omega)]; exact hD.2.1
            · have hi' : i < sNl s + 1 := hi
              show ν1 67 i = nI (ww_un (sLev s) (sNl s) (tk_V n y p) i)
              unfold ww_un
              rw [hν1, ww_up_ne (by omega), ww_up_eq]
              by_cases e : i = sNl s
              · rw [e, pk_us, if_pos rfl]
              · rw [pk_un e, if_neg e, b3.2 67 (by omega)]; exact hD.2.2.1 i (by omega)
            · rw [hν1, ww_up_ne (by omega), ww_up_ne (by omega), b3.2 68 (by omega)]; exact hD.2.2.2.1 b hb
            · rw [n62 12 (by omega), b3.1 12 (by omega)]; exact hD.2.2.2.2
          have hok1 : dr_ok (sAddL s (tk_V n y p)) d := by
            obtain ⟨⟨o1, o2, o3⟩, o4, o5⟩ := hok
            refine ⟨⟨o1, show sNl s + 1 ≤ 6 by omega, o3⟩, fun i hi => ?_, o5⟩
            have hi' : i < sNl s + 1 := hi
            show ww_un (sLev s) (sNl s) (tk_V n y p) i ≤ 9
            unfold ww_un
            by_cases e : i = sNl s
            · rw [if_pos e]; exact g0.2.2
            · rw [if_neg e]; exact o4 i (by omega)
          rcases ih (j + 1) σ1 ν1 (tk_N n y p) (sAddL s (tk_V n y p)) 0 (show sNl s + 1 + r = 6 by omega) (show j + 1 ≤ sNl s + 1 by omega) (by rw [if_neg (by omega)]) (f1.tp hT) (fm1.tp hTm) hp1.2 s2 nM hC1 hD1 hok1 with ⟨τ, ν, s', d', q, m, q1, ⟨q2, q3⟩, ⟨q4, q5⟩, q6, q7, q8, q9, q10, q11, q12⟩ | ⟨f, at', ⟨τ, q1, q2, q3, q4⟩, q5, ν, m, ⟨q6, q7⟩, q8, q9, q10, q11⟩
          · exact Or.inl ⟨τ, ν, s', d', q, m, cl_R_go (by omega) a4 q1, ⟨mt_R_go hstep q2, q3⟩, ⟨by omega, q5⟩, q6, q7, q8, q9, q10, f1.trans q11, fm1.trans q12⟩
          · exact Or.inr ⟨f, at', ⟨τ, cl_R_go (by omega) a4 q1, q2, q3, f1.trans q4⟩, q5, ν, m, ⟨mt_R_go hstep q6, q7⟩, q8, q9, q10, fm1.trans q11⟩
        · have hb := sp_b_3 (L := 2) (j := j) (lo := 0) (hi := 9) hT hp h2 (by omega) k2 rfl htm rfl rfl (by omega) (by omega) (fun z => g0 ⟨k2, z⟩)
          obtain ⟨ν, c1, c2, c3, c4, c5⟩ := jbad (Or.inr k2) (fun z => by omega) g0
          have ef : tk_f n y p = 3 := by unfold tk_f; rw [if_neg k4, if_pos k2]
          rw [ef] at c2
          exact Or.inr ⟨_, _, hb, ⟨by omega, by omega, by omega⟩, ν, .inl ν, ⟨c1, sm_end_br c2 (by omega) (by omega)⟩, c2, c3, ⟨sNb s, hnb, c4⟩, c5⟩
      · by_cases j0 : j = 0
        · have hb := sp_b_tok (L := 2) (j := j) hT hp h2 (by omega) (fun _ => hms0 j0) (fun z => absurd z k2)
          obtain ⟨ν, c1, c2, c3, c4, c5⟩ := jbad (Or.inl j0) (fun z => k2 z.1) (fun z => k2 z.1)
          have hf5 := tk_f_5 n y p
          have ef : tk_f n y p = tk_e n y p := by unfold tk_f tk_e; rw [if_neg k4, if_neg k2, if_neg k4]
          rw [ef] at c2
          exact Or.inr ⟨_, _, hb, ⟨(tk_e_5 _ _ _).1, (tk_e_5 _ _ _).2, by omega⟩, ν, .inl ν, ⟨c1, sm_end_br c2 (tk_e_5 _ _ _).1 (by have := (tk_e_5 n y p).2; omega)⟩, c2, c3, ⟨sNb s, hnb, c4⟩, c5⟩
        · by_cases k3 : tk_K n y p = 3
          · have hms : f_X5_mayStop (nI 2) (nI j) = some 1 := by
              unfold f_X5_mayStop
              rw [if_neg (by decide), if_pos (show nI 2 = 2 from rfl), if_neg (show ¬ nI j ≤ 0 by rw [show (0 : Int32) = nI 0 from rfl, n_le (by omega) (by omega)]; omega)]
            obtain ⟨τ3, c1, c2, c3, c4⟩ := sp_b_stop (L := 2) (j := j) hT hp h2 (by omega) k3 hms
            obtain ⟨ν3, d1, d2, d3⟩ := sm_end_ok hTm hp hM k3
            exact Or.inl ⟨τ3, ν3, s, d, _, .inl μ, c1, ⟨mt_R_done (jend j0 k2), d1⟩, ⟨by omega, hp1.2⟩, c2.1, d2, dr_C_fr hC c4, dr_M_fr hD d3, hok, ⟨fun a z1 _ _ => c4 a z1, c3⟩, d3.M⟩
          · have hb := sp_b_tok (L := 2) (j := j) hT hp h2 (by omega) (fun z => absurd z k3) (fun z => absurd z k2)
            obtain ⟨ν3, d1, d2, d3, d4⟩ := sm_end_bad hM k3
            exact Or.inr ⟨_, _, hb, ⟨(tk_e_5 _ _ _).1, (tk_e_5 _ _ _).2, by omega⟩, ν3, .inl μ, ⟨mt_R_done (jend j0 k2), d1⟩, d2, d3, ⟨sNb s, hnb, by rw [d4.1 11 (by omega)]; exact e11⟩, d4.M⟩
theorem ln_tide {σ μ : ww_M} {n : Nat} {y : Nat → Nat} {p : Nat} {s : ww_S} {d : ww_D1} {B : Nat → Bool} (hT : tp_C σ n y) (hTm : tp_M μ n y) (hp : p ≤ n) (h2 : σ 1 2 = nI p) (hM : tk_M μ n y p) (hC : dr_C σ s d B) (hD : dr_M μ s d B) (hok : dr_ok s d) : ln_ok 2 σ μ n y p B ∨ ln_bad 2 σ μ := by
  have hnl := hok.1.2.1
  have hmod : ∀ m, mt_R (6 - sNl s + 3) 1 μ m → md_B μ (nI (2 - 1)) = f_X7_readLine_j194 (td_o m) 62 := fun m hm => by
    unfold md_B
    rw [if_neg (by decide), if_pos (show nI (2 - 1) = 1 from rfl)]
    unfold f_X7_readTide f_X7_readTide_j2 f_X7_readTide_j86
    rw [hm ww_F (by unfold ww_F; omega)]
    cases m <;> rfl
  rcases ln_tide_go (n := n) (y := y) (d := d) (B := B) (6 - sNl s) 0 σ μ p s 1 (by omega) (by omega) rfl hT hTm hp h2 hM hC hD hok with ⟨τ, ν, s', d', q, m, q1, ⟨q2, q3⟩, q4⟩ | ⟨f, at', q1, q5, ν, m, ⟨q6, q7⟩, q8⟩
  · exact Or.inl ⟨τ, ν, s', d', q, q1, (hmod m q2).trans q3, q4⟩
  · exact Or.inr ⟨f, at', q1, q5, ν, (hmod m q6).trans q7, q8⟩
