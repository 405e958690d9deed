/-! ===== whale: the loop over its parts ===== -/
theorem sp_b_bad' {σ : ww_M} {n : Nat} {y : Nat → Nat} {p L j lo hi : Nat} (hT : tp_C σ n y) (hp : p ≤ n) (h2 : σ 1 2 = nI p) (hj : j ≤ 10) (hms : tk_K n y p = 3 → f_X5_mayStop (nI L) (nI j) = some 0) (hmg : f_X5_mayGoOn (nI L) (nI j) = some 1) (htm : ∀ τ : ww_M, τ 14 = σ 14 → f_X5_isTooMany τ 14 (nI L) (nI j) = some 0) (hlo : f_X5_lowest (nI L) (nI j) = some (nI lo)) (hhi : f_X5_highest (nI L) (nI j) = some (nI hi)) (hl100 : lo < 100) (hh100 : hi < 100) (hbad : ¬ tk_g n y p lo hi) : cl_F L j σ (tk_f n y p) (tk_S n y p) := by
  by_cases e : tk_K n y p = 2
  · have := sp_b_3 hT hp h2 hj e hmg htm hlo hhi hl100 hh100 (fun z => hbad ⟨e, z⟩)
    unfold tk_f
    rw [if_neg (by omega), if_pos e]; exact this
  · have := sp_b_tok hT hp h2 hj hms (fun z => absurd z e)
    unfold tk_f
    rw [if_neg e]; exact this
theorem tk_M_66 {μ : ww_M} {n : Nat} {y : Nat → Nat} {p j : Nat} {v : Int32} (h : tk_M μ n y p) : tk_M (ww_up μ 66 j v) n y p := by
  unfold tk_M; rw [ww_up_ne (show (62 : Nat) ≠ 66 by decide)]; exact h
theorem tk_M_68 {μ : ww_M} {n : Nat} {y : Nat → Nat} {p j : Nat} {v : Int32} (h : tk_M μ n y p) : tk_M (ww_up μ 68 j v) n y p := by
  unfold tk_M; rw [ww_up_ne (show (62 : Nat) ≠ 68 by decide)]; exact h
theorem wm_59 {nb P : Nat} {μ μ1 μ2 μ3 : ww_M} {v1 v2 v3 : Int32} (hnb : nb < 3) (hP : P < 3) (h1 : f_X7_number μ 62 (nI 0) (nI 9) = some (v1, μ1)) (h2 : f_X7_number (ww_up μ1 66 (18 + 9 * nb + 3 * P) v1) 62 (nI 1) (nI 3) = some (v2, μ2)) (h3 : f_X7_number (ww_up μ2 66 (18 + 9 * nb + 3 * P + 1) v2) 62 (nI 0) (nI 8) = some (v3, μ3)) : f_X7_readWhale_j59 μ 62 (nI nb) (nI P) = some (.inl (nI (P + 1), ww_up μ3 66 (18 + 9 * nb + 3 * P + 2) v3)) := by
  have e : (18 : Int32) + 9 * nI nb + 3 * nI P = nI (18 + 9 * nb + 3 * P) := by
    rw [show (9 : Int32) * nI nb = nI (9 * nb) from n_mul 9 nb, show (3 : Int32) * nI P = nI (3 * P) from n_mul 3 P, show (18 : Int32) = nI 18 from rfl, n_add, n_add]
  unfold f_X7_readWhale_j59
  rw [show f_X7_number μ 62 0 9 = _ from h1]
  simp only [Option.bind_some]
  rw [e, n_in (show 18 + 9 * nb + 3 * P < 50 by omega) (by omega), n_ckt, n_ix (by omega), show f_X7_number (ww_up μ1 (62 + 4) (18 + 9 * nb + 3 * P) v1) 62 1 3 = _ from h2]
  simp only [Option.bind_some]
  rw [nI_1, n_in (show 18 + 9 * nb + 3 * P + 1 < 50 by omega) (by omega), n_ckt, n_ix (by omega), show f_X7_number (ww_up μ2 (62 + 4) (18 + 9 * nb + 3 * P + 1) v2) 62 0 8 = _ from h3]
  simp only [Option.bind_some]
  rw [show nI (18 + 9 * nb + 3 * P) + 2 = nI (18 + 9 * nb + 3 * P + 2) from n_add _ 2, n_in (show 18 + 9 * nb + 3 * P + 2 < 50 by omega) (by omega), n_ckt, n_ix (by omega), nI_1]
theorem wh_C_up {P nb v0 v1 v2 v3 : Nat} {wo wk lu : Nat → Nat} {σ0 σ τ : ww_M} (hw : wh_C P nb v0 wo wk lu σ0 σ) (e20 : τ 20 = upd (σ 20) (3 * nb + P) (nI v1)) (e21 : τ 21 = upd (σ 21) (3 * nb + P) (nI v2)) (e22 : τ 22 = upd (σ 22) (3 * nb + P) (nI v3)) (e19 : ∀ b, b ≠ nb → τ 19 b = σ 19 b) (e19n : τ 19 nb = nI (P + 1)) (ha : ∀ a, a = 3 ∨ (14 ≤ a ∧ a < 19) ∨ a = 23 → τ a = σ a) : wh_C (P + 1) nb v0 (ww_un wo P v1) (ww_un wk P v2) (ww_un lu P v3) σ0 τ := by
  obtain ⟨w14, wa, w18, w19, w19n, wp, wn⟩ := hw
  refine ⟨by rw [ha 14 (by omega)]; exact w14, fun a h => by rw [ha a (by omega)]; exact wa a h, by rw [ha 18 (by omega)]; exact w18, fun b hb => by rw [e19 b (by omega)]; exact w19 b hb, e19n, fun i hi => ?_, fun q hq => ?_⟩
  · rw [e20, e21, e22, pk_un (by omega), pk_un (by omega), pk_un (by omega)]; exact wp i hi
  · unfold ww_un
    by_cases e : q = P
    · rw [if_pos e, if_pos e, if_pos e, e20, e21, e22, e, pk_us, pk_us, pk_us]; exact ⟨rfl, rfl, rfl⟩
    · rw [if_neg e, if_neg e, if_neg e, e20, e21, e22, pk_un (by omega), pk_un (by omega), pk_un (by omega)]; exact wn q (by omega)
theorem wh_M_up {P nb v0 v1 v2 v3 : Nat} {wo wk lu : Nat → Nat} {μ0 μ ν : ww_M} (hP : P < 3) (hw : wh_M P nb v0 wo wk lu μ0 μ) (e66 : ν 66 = upd (upd (upd (μ 66) (18 + 9 * nb + 3 * P) (nI v1)) (18 + 9 * nb + 3 * P + 1) (nI v2)) (18 + 9 * nb + 3 * P + 2) (nI v3)) (e67 : ν 67 = μ 67) (e68 : ν 68 = μ 68) (e62 : ∀ j, j < 16 → ν 62 j = μ 62 j) : wh_M (P + 1) nb v0 (ww_un wo P v1) (ww_un wk P v2) (ww_un lu P v3) μ0 ν := by
  obtain ⟨w62, w66, w66n, w67, w68⟩ := hw
  refine ⟨fun j hj => by rw [e62 j (by omega)]; exact w62 j hj, fun j hj => ?_, fun q hq => ?_, by rw [e67]; exact w67, by rw [e68]; exact w68⟩
  · rw [e66, pk_un (by omega), pk_un (by omega), pk_un (by omega)]; exact w66 j hj
  · unfold ww_un
    by_cases e : q = P
    · subst e
      rw [if_pos rfl, if_pos rfl, if_pos rfl, e66, pk_us, pk_un (by omega), pk_un (by omega), pk_us, pk_un (by omega), pk_us]
      exact ⟨rfl, rfl, rfl⟩
    · rw [if_neg e, if_neg e, if_neg e, e66, pk_un (by omega), pk_un (by omega), pk_un (by omega), pk_un (by omega), pk_un (by omega), pk_un (by omega), pk_un (by omega), pk_un (by omega), pk_un (by omega)]
      exact w66n q (by omega)
section WH
variable {n : Nat} {y : Nat → Nat} {s : ww_S} {d : ww_D1} {B : Nat → Bool} {σ0 μ0 : ww_M} {v0 : Nat}
/-- no number follows: an end, or a fault -/
theorem ln_whale_end {P k : Nat} {σ μ : ww_M} {p : Nat} {wo wk lu : Nat → Nat} (hC0 : dr_C σ0 s d B) (hD0 : dr_M μ0 s d B) (hok : dr_ok s d) (hnb : sNb s < 3) (hv0 : v0 ≤ 5) (hP1 : 1 ≤ P) (hP3 : P ≤ 3) (hw : wh_C P (sNb s) v0 wo wk lu σ0 σ) (hwM : wh_M P (sNb s) v0 wo wk lu μ0 μ) (hbd : ∀ q, q < P → wo q ≤ 9 ∧ wk q ≤ 3 ∧ lu q ≤ 8) (hT : tp_C σ n y) (hTm : tp_M μ n y) (hp : p ≤ n) (h2 : σ 1 2 = nI p) (hM : tk_M μ n y p) (k2 : tk_K n y p ≠ 2) : wd_ok (k + 1) (3 * P + 1) (sNb s) (nI P) σ μ n y p B ∨ wd_bad (k + 1) (3 * P + 1) (sNb s) (nI P) σ μ := by
  have hn := hT.2.1
  have hKl := tk_K_le n y p
  have hS := tk_S_le y hp
  have hS1 := tk_S_ge n y p
  have hp1 := tk_N_ge y hp
  have e11 : μ 62 11 = nI (sNb s) := by rw [hwM.1 11 (by omega)]; exact hD0.1.2.2
  by_cases k4 : tk_K n y p = 4
  · obtain ⟨m16, m17⟩ := hM.2.2.2.2 k4
    have hb := sp_b_tok (L := 6) (j := 3 * P + 1) hT hp h2 (by omega) (fun z => by omega) (fun z => by omega)
    have ee : tk_e n y p = 1 := by unfold tk_e; rw [if_pos k4]
    obtain ⟨ν, m, c1, c2, c3, c4, c5⟩ := mw_br (k := k) (P := P) (f := 1) hnb m16 (by omega) (by omega) m17 e11
    rw [ee] at hb
    exact Or.inr ⟨_, _, hb, ⟨by omega, by omega, by omega⟩, ν, m, c1, c2, c3, c4, c5⟩
  · obtain ⟨m16, m20⟩ := hM.2.2.1 k4
    have hend : mw_R (k + 1) (sNb s) (nI P) μ (.inl (nI P, μ)) := mw_R_done (by
      unfold f_X7_readWhale_b21
      dsimp only
      rw [if_pos m16, if_neg (show ¬ nI P = 0 by rw [show (0 : Int32) = nI 0 from rfl, n_eq (by omega) (by omega)]; omega), if_neg (show ¬ μ 62 20 = 2 by rw [m20, show (2 : Int32) = nI 2 from rfl, n_eq (by omega) (by omega)]; exact k2)])
    obtain ⟨ν1, hν1⟩ : ∃ X, X = ww_up (ww_up μ 68 (2 * sNb s + 1) (nI P)) 62 11 (nI (sNb s + 1)) := ⟨_, rfl⟩
    have hmo : mw_o (sNb s) (.inl (nI P, μ)) = some ν1 := by rw [hν1]; exact mw_119 hnb e11
    have fm1 : fr_M μ ν1 := by rw [hν1]; exact fr_119 _ _ _ _
    have n62 : ∀ i, i ≠ 11 → ν1 62 i = μ 62 i := fun i hi => by rw [hν1, ww_up_eq, pk_un hi, ww_up_ne (by omega)]
    have nM : tk_M ν1 n y p := by
      unfold tk_M
      rw [n62 18 (by omega), n62 19 (by omega), n62 16 (by omega), n62 20 (by omega), n62 21 (by omega), n62 17 (by omega)]; exact hM
    have n11 : ν1 62 11 = nI (sNb s + 1) := by rw [hν1, ww_up_eq, pk_us]
    by_cases k3 : tk_K n y p = 3
    · obtain ⟨τ3, c1, c2, c3, c4⟩ := sp_b_stop (L := 6) (j := 3 * P + 1) hT hp h2 (by omega) k3 (wf_s hP1 hP3)
      obtain ⟨ν3, d1, d2, d3⟩ := sm_end_ok (fm1.tp hTm) hp nM k3
      refine Or.inl ⟨τ3, ν3, sAddB s v0 P, dAddB d (sNb s) wo wk lu, _, .inl (nI P, μ), c1, ⟨hend, ?_⟩, ⟨by omega, hp1.2⟩, c2.1, d2, dr_C_fr (dr_whale_C hok hC0 hw) c4, dr_M_fr (dr_whale_M hok hnb hP3 hD0 hwM hν1) d3, dr_whale_ok hok hnb hP1 hP3 hv0 hbd, ⟨fun a z1 _ _ => c4 a z1, c3⟩, fm1.trans d3.M⟩
      rw [hmo]; exact d1
    · have hb := sp_b_tok (L := 6) (j := 3 * P + 1) hT hp h2 (by omega) (fun z => absurd z k3) (fun z => absurd z k2)
      obtain ⟨ν3, d1, d2, d3, d4⟩ := sm_end_bad nM k3
      refine Or.inr ⟨_, _, hb, ⟨(tk_e_5 _ _ _).1, (tk_e_5 _ _ _).2, by omega⟩, ν3, .inl (nI P, μ), ⟨hend, ?_⟩, d2, d3, ⟨sNb s + 1, by omega, by rw [d4.1 11 (by omega)]; exact n11⟩, fm1.trans d4.M⟩
      rw [hmo]; exact d1
theorem ln_whale_go (hC0 : dr_C σ0 s d B) (hD0 : dr_M μ0 s d B) (hok : dr_ok s d) (hnb : sNb s < 3) (hv0 : v0 ≤ 5) : ∀ (r P : Nat) (σ μ : ww_M) (p : Nat) (wo wk lu : Nat → Nat), P + r = 3 → wh_C P (sNb s) v0 wo wk lu σ0 σ → wh_M P (sNb s) v0 wo wk lu μ0 μ → (∀ q, q < P → wo q ≤ 9 ∧ wk q ≤ 3 ∧ lu q ≤ 8) → tp_C σ n y → tp_M μ n y → p ≤ n → σ 1 2 = nI p → tk_M μ n y p → wd_ok (r + 3) (3 * P + 1) (sNb s) (nI P) σ μ n y p B ∨ wd_bad (r + 3) (3 * P + 1) (sNb s) (nI P) σ μ := by
  intro r
  induction r with
  | zero =>
    intro P σ μ p wo wk lu hr hw hwM hbd hT hTm hp h2 hM
    by_cases k2 : tk_K n y p = 2
    · have hS := tk_S_le y hp
      have hn := hT.2.1
      obtain ⟨m16, m20⟩ := hM.2.2.1 (by omega)
      have e11 : μ 62 11 = nI (sNb s) := by rw [hwM.1 11 (by omega)]; exact hD0.1.2.2
      obtain rfl : P = 3 := by omega
      have hb := sp_b_5 (L := 6) (j := 3 * 3 + 1) hT hp h2 (by omega) k2 rfl (fun τ _ => rfl)
      refine Or.inr ⟨_, _, hb, ⟨by omega, by omega, by omega⟩, ww_up (ww_up μ 62 16 (nI 5)) 62 17 (nI (tk_S n y p)), .inr (ww_up (ww_up μ 62 16 (nI 5)) 62 17 (nI (tk_S n y p))), ⟨mw_R_done ?_, sm_end_br (f := 5) (by simp (disch := omega) only [ww_up_ne, ww_up_eq, ww_upr_ne, ww_upr_eq, ww_fill_ne, ww_fill_eq, ww_cpy_ne, ww_cpy_eq, pk_us, pk_un, ne_eq, not_false_eq_true]) (by omega) (by omega)⟩, by simp (disch := omega) only [ww_up_ne, ww_up_eq, ww_upr_ne, ww_upr_eq, ww_fill_ne, ww_fill_eq, ww_cpy_ne, ww_cpy_eq, pk_us, pk_un, ne_eq, not_false_eq_true], by simp (disch := omega) only [ww_up_ne, ww_up_eq, ww_upr_ne, ww_upr_eq, ww_fill_ne, ww_fill_eq, ww_cpy_ne, ww_cpy_eq, pk_us, pk_un, ne_eq, not_false_eq_true], ⟨sNb s, by omega, by simp (disch := omega) only [ww_up_ne, ww_up_eq, ww_upr_ne, ww_upr_eq, ww_fill_ne, ww_fill_eq, ww_cpy_ne, ww_cpy_eq, pk_us, pk_un, ne_eq, not_false_eq_true]; exact e11⟩, (fr_S_fail μ _ _).M⟩
      unfold f_X7_readWhale_b21
      dsimp only
      rw [if_pos m16, if_neg (by decide), if_pos (show μ 62 20 = 2 by rw [m20, k2]; rfl)]
      unfold f_X7_readWhale_j40
      rw [if_pos (show μ 62 20 = 2 by rw [m20, k2]; rfl), if_pos (show nI 3 = 3 from rfl), sm_fails m16, hM.2.1]
      rfl
    · exact ln_whale_end hC0 hD0 hok hnb hv0 (by omega) (by omega) hw hwM hbd hT hTm hp h2 hM k2
  | succ r ih =>
    intro P σ μ p wo wk lu hr hw hwM hbd hT hTm hp h2 hM
    have hP : P < 3 := by omega
    by_cases z : P = 0 ∨ tk_K n y p = 2
    · have hn := hT.2.1
      have hKl := tk_K_le n y p
      have hS := tk_S_le y hp
      have hS1 := tk_S_ge n y p
      have hp1 := tk_N_ge y hp
      have e11 : μ 62 11 = nI (sNb s) := by rw [hwM.1 11 (by omega)]; exact hD0.1.2.2
      obtain ⟨w1a, w1b, w1c, w1d⟩ := wf_1 hP
      obtain ⟨w2a, w2b, w2c, w2d⟩ := wf_2 hP
      obtain ⟨w3a, w3b, w3c, w3d⟩ := wf_3 hP
      by_cases k4 : tk_K n y p = 4
      · -- the model is broken already
        obtain ⟨m16, m17⟩ := hM.2.2.2.2 k4
        have hP0 : P = 0 := by omega
        have hb := sp_b_tok (L := 6) (j := 3 * P + 1) hT hp h2 (by omega) (fun z => by omega) (fun z => by omega)
        have ee : tk_e n y p = 1 := by unfold tk_e; rw [if_pos k4]
        obtain ⟨ν, m, c1, c2, c3, c4, c5⟩ := mw_br (k := r + 3) (P := P) (f := 1) hnb m16 (by omega) (by omega) m17 e11
        rw [ee] at hb
        exact Or.inr ⟨_, _, hb, ⟨by omega, by omega, by omega⟩, ν, m, c1, c2, c3, c4, c5⟩
      · obtain ⟨m16, m20⟩ := hM.2.2.1 k4
        have h59 : f_X7_readWhale_b21 62 (nI (sNb s)) (nI P, μ) = f_X7_readWhale_j59 μ 62 (nI (sNb s)) (nI P) := by
          have h40 : f_X7_readWhale_j40 μ 62 (nI (sNb s)) (nI P) = f_X7_readWhale_j59 μ 62 (nI (sNb s)) (nI P) := by
            unfold f_X7_readWhale_j40
            rw [if_neg (show ¬ nI P = 3 by rw [show (3 : Int32) = nI 3 from rfl, n_eq (by omega) (by omega)]; omega)]
            split <;> rfl
          unfold f_X7_readWhale_b21
          dsimp only
          rw [if_pos m16]
          by_cases e : P = 0
          · rw [if_pos (show nI P = 0 by rw [e]; rfl)]; exact h40
          · rw [if_neg (show ¬ nI P = 0 by rw [show (0 : Int32) = nI 0 from rfl, n_eq (by omega) (by omega)]; exact e), if_pos (show μ 62 20 = 2 by
              rw [m20]
              rcases z with z | z
              · exact absurd z e
              · rw [z]; rfl)]
            exact h40
        by_cases g1 : tk_g n y p 0 9
        · obtain ⟨τ1, a1, a2, a3, a4⟩ := sp_b_go (L := 6) (j := 3 * P + 1) hT hp h2 (by omega) g1 rfl (fun τ _ => w1a τ) w1b w1c (by omega) (by omega)
          have t11 : τ1 14 11 = nI (sNb s + 1) := by rw [a3 14 (by omega), hw.1, pk_us]
          obtain ⟨σ1, hσ1⟩ : ∃ X, X = ww_up (ww_up τ1 20 (3 * sNb s + P) (nI (tk_V n y p))) 19 (sNb s) (nI (P + 1)) := ⟨_, rfl⟩
          rw [wf_put (c := 20) hP hnb t11 (Or.inl ⟨rfl, rfl⟩), ← hσ1] at a4
          have f1 : fr_C σ σ1 := by
            rw [hσ1]
            exact ⟨fun a z1 z2 z3 => by rw [ww_up_ne (by omega), ww_up_ne (by omega)]; exact a3 a z1, by rw [ww_up_ne (by omega), ww_up_ne (by omega)]; exact a2⟩
          have s2 : σ1 1 2 = nI (tk_N n y p) := by rw [hσ1, ww_up_ne (by omega), ww_up_ne (by omega)]; exact a1.1
          obtain ⟨μ1, b1, b2, b3⟩ := sm_num_go (lo := 0) (hi := 9) hTm hp hM (by omega) g1
          obtain ⟨ν1, hν1⟩ : ∃ X, X = ww_up μ1 66 (18 + 9 * sNb s + 3 * P) (nI (tk_V n y p)) := ⟨_, rfl⟩
          have fm1 : fr_M μ ν1 := by rw [hν1]; exact b3.M.trans (fr_66 _ _ _)
          have nM1 : tk_M ν1 n y (tk_N n y p) := by rw [hν1]; exact tk_M_66 b2
          have n11 : ν1 62 11 = nI (sNb s) := by rw [hν1, ww_up_ne (by omega), b3.1 11 (by omega)]; exact e11
          have hp2 := tk_N_ge y hp1.2
          have hS2 := tk_S_ge n y (tk_N n y p)
          have hSl2 := tk_S_le y hp1.2
          by_cases g2 : tk_g n y (tk_N n y p) 1 3
          · obtain ⟨τ2, a5, a6, a7, a8⟩ := sp_b_go (L := 6) (j := 3 * P + 2) (f1.tp hT) hp1.2 s2 (by omega) g2 rfl (fun τ _ => w2a τ) w2b w2c (by omega) (by omega)
            have t112 : τ2 14 11 = nI (sNb s + 1) := by rw [a7 14 (by omega), hσ1, ww_up_ne (by omega), ww_up_ne (by omega)]; exact t11
            obtain ⟨σ2, hσ2⟩ : ∃ X, X = ww_up (ww_up τ2 21 (3 * sNb s + P) (nI (tk_V n y (tk_N n y p)))) 19 (sNb s) (nI (P + 1)) := ⟨_, rfl⟩
            rw [wf_put (c := 21) hP hnb t112 (Or.inr (Or.inl ⟨rfl, rfl⟩)), ← hσ2] at a8
            have f2 : fr_C σ σ2 := f1.trans (by
              rw [hσ2]
              exact ⟨fun a z1 z2 z3 => by rw [ww_up_ne (by omega), ww_up_ne (by omega)]; exact a7 a z1, by rw [ww_up_ne (by omega), ww_up_ne (by omega)]; exact a6⟩)
            have s3 : σ2 1 2 = nI (tk_N n y (tk_N n y p)) := by rw [hσ2, ww_up_ne (by omega), ww_up_ne (by omega)]; exact a5.1
            obtain ⟨μ2, b4, b5, b6⟩ := sm_num_go (lo := 1) (hi := 3) (fm1.tp hTm) hp1.2 nM1 (by omega) g2
            obtain ⟨ν2, hν2⟩ : ∃ X, X = ww_up μ2 66 (18 + 9 * sNb s + 3 * P + 1) (nI (tk_V n y (tk_N n y p))) := ⟨_, rfl⟩
            have fm2 : fr_M μ ν2 := by rw [hν2]; exact fm1.trans (b6.M.trans (fr_66 _ _ _))
            have nM2 : tk_M ν2 n y (tk_N n y (tk_N n y p)) := by rw [hν2]; exact tk_M_66 b5
            have n112 : ν2 62 11 = nI (sNb s) := by rw [hν2, ww_up_ne (by omega), b6.1 11 (by omega)]; exact n11
            have hp3 := tk_N_ge y hp2.2
            have hS3 := tk_S_ge n y (tk_N n y (tk_N n y p))
            have hSl3 := tk_S_le y hp2.2
            by_cases g3 : tk_g n y (tk_N n y (tk_N n y p)) 0 8
            · obtain ⟨τ3, a9, a10, a11, a12⟩ := sp_b_go (L := 6) (j := 3 * P + 3) (f2.tp hT) hp2.2 s3 (by omega) g3 rfl (fun τ _ => w3a τ) w3b w3c (by omega) (by omega)
              have t113 : τ3 14 11 = nI (sNb s + 1) := by rw [a11 14 (by omega), hσ2, ww_up_ne (by omega), ww_up_ne (by omega)]; exact t112
              obtain ⟨σ3, hσ3⟩ : ∃ X, X = ww_up (ww_up τ3 22 (3 * sNb s + P) (nI (tk_V n y (tk_N n y (tk_N n y p))))) 19 (sNb s) (nI (P + 1)) := ⟨_, rfl⟩
              rw [wf_put (c := 22) hP hnb t113 (Or.inr (Or.inr ⟨rfl, rfl⟩)), ← hσ3] at a12
              have f3 : fr_C σ σ3 := f2.trans (by
                rw [hσ3]
                exact ⟨fun a z1 z2 z3 => by rw [ww_up_ne (by omega), ww_up_ne (by omega)]; exact a11 a z1, by rw [ww_up_ne (by omega), ww_up_ne (by omega)]; exact a10⟩)
              have s4 : σ3 1 2 = nI (tk_N n y (tk_N n y (tk_N n y p))) := by rw [hσ3, ww_up_ne (by omega), ww_up_ne (by omega)]; exact a9.1
              obtain ⟨μ3, b7, b8, b9⟩ := sm_num_go (lo := 0) (hi := 8) (fm2.tp hTm) hp2.2 nM2 (by omega) g3
              obtain ⟨ν3, hν3⟩ : ∃ X, X = ww_up μ3 66 (18 + 9 * sNb s + 3 * P + 2) (nI (tk_V n y (tk_N n y (tk_N n y p)))) := ⟨_, rfl⟩
              have fm3 : fr_M μ ν3 := by rw [hν3]; exact fm2.trans (b9.M.trans (fr_66 _ _ _))
              have nM3 : tk_M ν3 n y (tk_N n y (tk_N n y (tk_N n y p))) := by rw [hν3]; exact tk_M_66 b8
              have hstep : f_X7_readWhale_b21 62 (nI (sNb s)) (nI P, μ) = some (.inl (nI (P + 1), ν3)) := by
                rw [h59, wm_59 hnb hP b1 (by rw [← hν1]; exact b4) (by rw [← hν2]; exact b7), hν3]
              have hwC3 := wh_C_up (τ := σ3) (v1 := tk_V n y p) (v2 := tk_V n y (tk_N n y p)) (v3 := tk_V n y (tk_N n y (tk_N n y p))) hw (by
                rw [hσ3, ww_up_ne (by omega), ww_up_ne (by omega), a11 20 (by omega), hσ2, ww_up_ne (by omega), ww_up_ne (by omega), a7 20 (by omega), hσ1, ww_up_ne (by omega), ww_up_eq, a3 20 (by omega)]) (by
                rw [hσ3, ww_up_ne (by omega), ww_up_ne (by omega), a11 21 (by omega), hσ2, ww_up_ne (by omega), ww_up_eq, a7 21 (by omega), hσ1, ww_up_ne (by omega), ww_up_ne (by omega), a3 21 (by omega)]) (by
                rw [hσ3, ww_up_ne (by omega), ww_up_eq, a11 22 (by omega), hσ2, ww_up_ne (by omega), ww_up_ne (by omega), a7 22 (by omega), hσ1, ww_up_ne (by omega), ww_up_ne (by omega), a3 22 (by omega)]) (fun b hb => by
                rw [hσ3, ww_up_eq, pk_un hb, ww_up_ne (by omega), a11 19 (by omega), hσ2, ww_up_eq, pk_un hb, ww_up_ne (by omega), a7 19 (by omega), hσ1, ww_up_eq, pk_un hb, ww_up_ne (by omega), a3 19 (by omega)]) (by
                rw [hσ3, ww_up_eq, pk_us]) (fun a ha => by
                rw [hσ3, ww_up_ne (by omega), ww_up_ne (by omega), a11 a (by omega), hσ2, ww_up_ne (by omega), ww_up_ne (by omega), a7 a (by omega), hσ1, ww_up_ne (by omega), ww_up_ne (by omega), a3 a (by omega)])
              have hwM3 := wh_M_up (ν := ν3) (v1 := tk_V n y p) (v2 := tk_V n y (tk_N n y p)) (v3 := tk_V n y (tk_N n y (tk_N n y p))) hP hwM (by
                rw [hν3, ww_up_eq, b9.2 66 (by omega), hν2, ww_up_eq, b6.2 66 (by omega), hν1, ww_up_eq, b3.2 66 (by omega)]) (by
                rw [hν3, ww_up_ne (by omega), b9.2 67 (by omega), hν2, ww_up_ne (by omega), b6.2 67 (by omega), hν1, ww_up_ne (by omega), b3.2 67 (by omega)]) (by
                rw [hν3, ww_up_ne (by omega), b9.2 68 (by omega), hν2, ww_up_ne (by omega), b6.2 68 (by omega), hν1, ww_up_ne (by omega), b3.2 68 (by omega)]) (fun j hj => by
                rw [hν3, ww_up_ne (by omega), b9.1 j (by omega), hν2, ww_up_ne (by omega), b6.1 j (by omega), hν1, ww_up_ne (by omega), b3.1 j (by omega)])
              have hcls : ∀ r, cl_R 6 (3 * (P + 1) + 1) σ3 r → cl_R 6 (3 * P + 1) σ r := fun r hr => by
                rw [show 3 * (P + 1) + 1 = 3 * P + 3 + 1 by omega] at hr
                exact cl_R_go (by omega) a4 (cl_R_go (j := 3 * P + 2) (by omega) a8 (cl_R_go (j := 3 * P + 3) (by omega) a12 hr))
              rcases ih (P + 1) σ3 ν3 _ _ _ _ (by omega) hwC3 hwM3 (fun q hq => by
                unfold ww_un
                by_cases e : q = P
                · rw [if_pos e, if_pos e, if_pos e]; exact ⟨g1.2.2, g2.2.2, g3.2.2⟩
                · rw [if_neg e, if_neg e, if_neg e]; exact hbd q (by omega)) (f3.tp hT) (fm3.tp hTm) hp3.2 s4 nM3 with ⟨τ, ν, s', d', q, m, q1, ⟨q2, q3⟩, ⟨q4, q5⟩, q6, q7, q8, q9, q10, q11, q12⟩ | ⟨f, at', ⟨τ, q1, q2, q3, q4⟩, q5, ν, m, ⟨q6, q7⟩, q8, q9, q10, q11⟩
              · exact Or.inl ⟨τ, ν, s', d', q, m, hcls _ q1, ⟨mw_R_go hstep q2, q3⟩, ⟨by omega, q5⟩, q6, q7, q8, q9, q10, f3.trans q11, fm3.trans q12⟩
              · exact Or.inr ⟨f, at', ⟨τ, hcls _ q1, q2, q3, f3.trans q4⟩, q5, ν, m, ⟨mw_R_go hstep q6, q7⟩, q8, q9, q10, fm3.trans q11⟩
            · obtain ⟨τ', c1, c2, c3, c4⟩ := sp_b_bad' (L := 6) (j := 3 * P + 3) (f2.tp hT) hp2.2 s3 (by omega) (fun _ => w3d) rfl (fun τ _ => w3a τ) w3b w3c (by omega) (by omega) g3
              obtain ⟨μ3, b7, b8, b9, b10⟩ := sm_num_bad (lo := 0) (hi := 8) hp2.2 nM2 (by omega) (by omega) g3
              have hf5 := tk_f_5 n y (tk_N n y (tk_N n y p))
              obtain ⟨ν, m, d1, d2, d3, d4, d5⟩ := mw_br (k := r + 2) (P := P + 1) (μ := ww_up μ3 66 (18 + 9 * sNb s + 3 * P + 2) (nI 0)) hnb (by rw [ww_up_ne (by omega)]; exact b8) hf5.1 (by omega) (by rw [ww_up_ne (by omega)]; exact b9) (by rw [ww_up_ne (by omega), b10.1 11 (by omega)]; exact n112)
              exact Or.inr ⟨_, _, ⟨τ', cl_R_go (by omega) a4 (cl_R_go (j := 3 * P + 2) (by omega) a8 c1), c2, c3, f2.trans c4⟩, ⟨hf5.1, hf5.2, by omega⟩, ν, m, ⟨mw_R_go (h59.trans (wm_59 hnb hP b1 (by rw [← hν1]; exact b4) (by rw [← hν2]; exact b7))) d1.1, d1.2⟩, d2, d3, d4, fm2.trans (b10.M.trans ((fr_66 _ _ _).trans d5))⟩
          · obtain ⟨τ', c1, c2, c3, c4⟩ := sp_b_bad' (L := 6) (j := 3 * P + 2) (f1.tp hT) hp1.2 s2 (by omega) (fun _ => w2d) rfl (fun τ _ => w2a τ) w2b w2c (by omega) (by omega) g2
            obtain ⟨μ2, b4, b5, b6, b7⟩ := sm_num_bad (lo := 1) (hi := 3) hp1.2 nM1 (by omega) (by omega) g2
            have hf5 := tk_f_5 n y (tk_N n y p)
            have h16 : ww_up μ2 66 (18 + 9 * sNb s + 3 * P + 1) (nI 1) 62 16 = nI (tk_f n y (tk_N n y p)) := by rw [ww_up_ne (by omega)]; exact b5
            obtain ⟨ν, m, d1, d2, d3, d4, d5⟩ := mw_br (k := r + 2) (P := P + 1) (μ := ww_up (ww_up μ2 66 (18 + 9 * sNb s + 3 * P + 1) (nI 1)) 66 (18 + 9 * sNb s + 3 * P + 2) (nI 0)) hnb (by rw [ww_up_ne (by omega)]; exact h16) hf5.1 (by omega) (by rw [ww_up_ne (by omega), ww_up_ne (by omega)]; exact b6) (by rw [ww_up_ne (by omega), ww_up_ne (by omega), b7.1 11 (by omega)]; exact n11)
            exact Or.inr ⟨_, _, ⟨τ', cl_R_go (by omega) a4 c1, c2, c3, f1.trans c4⟩, ⟨hf5.1, hf5.2, by omega⟩, ν, m, ⟨mw_R_go (h59.trans (wm_59 hnb hP b1 (by rw [← hν1]; exact b4) (sm_num_br h16 hf5.1 (by omega)))) d1.1, d1.2⟩, d2, d3, d4, fm1.trans (b7.M.trans ((fr_66 _ _ _).trans ((fr_66 _ _ _).trans d5)))⟩
        · obtain ⟨τ', c1, c2, c3, c4⟩ := sp_b_bad' (L := 6) (j := 3 * P + 1) hT hp h2 (by omega) (fun w => w1d (by omega)) rfl (fun τ _ => w1a τ) w1b w1c (by omega) (by omega) g1
          obtain ⟨μ1, b1, b2, b3, b4⟩ := sm_num_bad (lo := 0) (hi := 9) hp hM (by omega) (by omega) g1
          have hf5 := tk_f_5 n y p
          have h16 : ww_up μ1 66 (18 + 9 * sNb s + 3 * P) (nI 0) 62 16 = nI (tk_f n y p) := by rw [ww_up_ne (by omega)]; exact b2
          have h16b : ww_up (ww_up μ1 66 (18 + 9 * sNb s + 3 * P) (nI 0)) 66 (18 + 9 * sNb s + 3 * P + 1) (nI 1) 62 16 = nI (tk_f n y p) := by rw [ww_up_ne (by omega)]; exact h16
          obtain ⟨ν, m, d1, d2, d3, d4, d5⟩ := mw_br (k := r + 2) (P := P + 1) (μ := ww_up (ww_up (ww_up μ1 66 (18 + 9 * sNb s + 3 * P) (nI 0)) 66 (18 + 9 * sNb s + 3 * P + 1) (nI 1)) 66 (18 + 9 * sNb s + 3 * P + 2) (nI 0)) hnb (by rw [ww_up_ne (by omega)]; exact h16b) hf5.1 (by omega) (by rw [ww_up_ne (by omega), ww_up_ne (by omega), ww_up_ne (by omega)]; exact b3) (by rw [ww_up_ne (by omega), ww_up_ne (by omega), ww_up_ne (by omega), b4.1 11 (by omega)]; exact e11)
          exact Or.inr ⟨_, _, ⟨τ', c1, c2, c3, c4⟩, ⟨hf5.1, hf5.2, by omega⟩, ν, m, ⟨mw_R_go (h59.trans (wm_59 hnb hP b1 (sm_num_br h16 hf5.1 (by omega)) (sm_num_br h16b hf5.1 (by omega)))) d1.1, d1.2⟩, d2, d3, d4, b4.M.trans ((fr_66 _ _ _).trans ((fr_66 _ _ _).trans ((fr_66 _ _ _).trans d5)))⟩
    · exact ln_whale_end hC0 hD0 hok hnb hv0 (by omega) (by omega) hw hwM hbd hT hTm hp h2 hM (fun w => z (Or.inr w))
end WH
theorem ln_whale {σ μ : ww_M} {n : Nat} {y : Nat → Nat} {p : Nat} {s : ww_S} {d : ww_D1} {B : Nat → Bool} (hT : tp_C σ n y) (hTm : tp_M μ n y) (hp : p ≤ n) (h2 : σ 1 2 = nI p) (hM : tk_M μ n y p) (hC : dr_C σ s d B) (hD : dr_M μ s d B) (hok : dr_ok s d) (hnb : sNb s < 3) : ln_ok 6 σ μ n y p B ∨ ln_bad 6 σ μ := by
  have hn := hT.2.1
  have hp1 := tk_N_ge y hp
  have hS1 := tk_S_ge n y p
  have hSl := tk_S_le y hp
  have e11 : μ 62 11 = nI (sNb s) := hD.1.2.2
  have hmod : ∀ (v : Int32) (μ1 : ww_M) (m : (Int32 × ww_M) ⊕ ww_M), f_X7_number μ 62 (nI 0) (nI 5) = some (v, μ1) → mw_R 6 (sNb s) (nI 0) (ww_up μ1 68 (2 * sNb s) v) m → md_B μ (nI (6 - 1)) = (mw_o (sNb s) m).bind (fun v => f_X7_readLine_j194 v 62) := fun v μ1 m z1 z2 => by
    unfold md_B
    rw [if_neg (by decide), if_neg (by decide), if_pos (show nI (6 - 1) = 5 from rfl)]
    unfold f_X7_readWhale
    rw [show f_X7_number μ 62 0 5 = _ from z1]
    simp only [Option.bind_some]
    rw [e11, show (2 : Int32) * nI (sNb s) = nI (2 * sNb s) from n_mul 2 _, n_in (show 2 * sNb s < 6 by omega) (by omega), n_ckt, n_ix (by omega)]
    unfold f_X7_readWhale_j21
    rw [show (0 : Int32) = nI 0 from rfl, show (62 + 6 : Nat) = 68 from rfl, z2 ww_F (by unfold ww_F; omega)]
    cases m <;> rfl
  by_cases g0 : tk_g n y p 0 5
  · obtain ⟨τ1, a1, a2, a3, a4⟩ := sp_b_go (L := 6) (j := 0) (lo := 0) (hi := 5) hT hp h2 (by omega) g0 rfl (fun τ _ => rfl) rfl rfl (by omega) (by omega)
    have t11 : τ1 14 11 = nI (sNb s) := by rw [a3 14 (by omega)]; exact hC.1.1.2.2
    obtain ⟨σ1, hσ1⟩ : ∃ X, X = ww_up (ww_up (ww_up τ1 18 (sNb s) (nI (tk_V n y p))) 19 (sNb s) 0) 14 11 (nI (sNb s + 1)) := ⟨_, rfl⟩
    have put0 : f_X5_put τ1 14 (nI 6) (nI 0) (nI (tk_V n y p)) = some σ1 := by
      have h0 : f_X5_put τ1 14 (nI 6) (nI 0) (nI (tk_V n y p)) = (f_X2_putWhale τ1 14 (nI 0) (nI (tk_V n y p))).bind (fun v80 => some v80) := rfl
      rw [h0]
      unfold f_X2_putWhale
      rw [if_pos (show nI 0 = 0 from rfl), t11, if_neg (show ¬ (3 : Int32) ≤ nI (sNb s) by rw [show (3 : Int32) = nI 3 from rfl, n_le (by omega) (by omega)]; omega), n_in hnb (by omega), n_ckt, n_ix (by omega), show ww_up τ1 (14 + 4) (sNb s) (nI (tk_V n y p)) 14 11 = nI (sNb s) by rw [ww_up_ne (by omega)]; exact t11, n_in hnb (by omega), n_ckt, n_ix (by omega), show ww_up (ww_up τ1 (14 + 4) (sNb s) (nI (tk_V n y p))) (14 + 5) (sNb s) 0 14 11 = nI (sNb s) by rw [ww_up_ne (by omega), ww_up_ne (by omega)]; exact t11, nI_1, hσ1]
      rfl
    rw [put0] at a4
    have f1 : fr_C σ σ1 := by
      rw [hσ1]
      exact ⟨fun a z1 z2 z3 => by rw [ww_up_ne (by omega), ww_up_ne (by omega), ww_up_ne (by omega)]; exact a3 a z1, by rw [ww_up_ne (by omega), ww_up_ne (by omega), ww_up_ne (by omega)]; exact a2⟩
    have s2 : σ1 1 2 = nI (tk_N n y p) := by rw [hσ1, ww_up_ne (by omega), ww_up_ne (by omega), ww_up_ne (by omega)]; exact a1.1
    obtain ⟨μ1, b1, b2, b3⟩ := sm_num_go (lo := 0) (hi := 5) hTm hp hM (by omega) g0
    obtain ⟨ν1, hν1⟩ : ∃ X, X = ww_up μ1 68 (2 * sNb s) (nI (tk_V n y p)) := ⟨_, rfl⟩
    have fm1 : fr_M μ ν1 := by rw [hν1]; exact b3.M.trans (fr_68 _ _ _)
    have nM1 : tk_M ν1 n y (tk_N n y p) := by rw [hν1]; exact tk_M_68 b2
    have hwC : wh_C 0 (sNb s) (tk_V n y p) (fun _ => 0) (fun _ => 0) (fun _ => 0) σ σ1 := by
      refine ⟨?_, fun a ha => ?_, ?_, fun b hb => ?_, ?_, fun i hi => ?_, fun q hq => absurd hq (Nat.not_lt_zero q)⟩
      · rw [hσ1, ww_up_eq, ww_up_ne (by omega), ww_up_ne (by omega), a3 14 (by omega)]
      · rw [hσ1, ww_up_ne (by omega), ww_up_ne (by omega), ww_up_ne (by omega), a3 a (by omega)]
      · rw [hσ1, ww_up_ne (by omega), ww_up_ne (by omega), ww_up_eq, a3 18 (by omega)]
      · rw [hσ1, ww_up_ne (by omega), ww_up_eq, pk_un (by omega), ww_up_ne (by omega), a3 19 (by omega)]
      · rw [hσ1, ww_up_ne (by omega), ww_up_eq, pk_us]; rfl
      · rw [hσ1, ww_up_ne (by omega), ww_up_ne (by omega), ww_up_ne (by omega), a3 20 (by omega), ww_up_ne (by omega), ww_up_ne (by omega), ww_up_ne (by omega), a3 21 (by omega), ww_up_ne (by omega), ww_up_ne (by omega), ww_up_ne (by omega), a3 22 (by omega)]
        exact ⟨rfl, rfl, rfl⟩
    have hwM : wh_M 0 (sNb s) (tk_V n y p) (fun _ => 0) (fun _ => 0) (fun _ => 0) μ ν1 := by
      refine ⟨fun j hj => ?_, fun j hj => ?_, fun q hq => absurd hq (Nat.not_lt_zero q), ?_, ?_⟩
      · rw [hν1, ww_up_ne (by omega), b3.1 j (by omega)]
      · rw [hν1, ww_up_ne (by omega), b3.2 66 (by omega)]
      · rw [hν1, ww_up_ne (by omega), b3.2 67 (by omega)]
      · rw [hν1, ww_up_eq, b3.2 68 (by omega)]
    rcases ln_whale_go hC hD hok hnb g0.2.2 3 0 σ1 ν1 (tk_N n y p) _ _ _ (by omega) hwC hwM (fun q hq => absurd hq (Nat.not_lt_zero q)) (f1.tp hT) (fm1.tp hTm) hp1.2 s2 nM1 with ⟨τ, ν, s', d', q, m, q1, ⟨q2, q3⟩, ⟨q4, q5⟩, q6, q7, q8, q9, q10, q11, q12⟩ | ⟨f, at', ⟨τ, q1, q2, q3, q4⟩, q5, ν, m, ⟨q6, q7⟩, q8, q9, q10, q11⟩
    · exact Or.inl ⟨τ, ν, s', d', q, cl_R_go (by omega) a4 q1, (hmod _ _ m b1 (by rw [← hν1]; exact q2)).trans q3, ⟨by omega, q5⟩, q6, q7, q8, q9, q10, f1.trans q11, fm1.trans q12⟩
    · exact Or.inr ⟨f, at', ⟨τ, cl_R_go (by omega) a4 q1, q2, q3, f1.trans q4⟩, q5, ν, (hmod _ _ m b1 (by rw [← hν1]; exact q6)).trans q7, q8, q9, q10, fm1.trans q11⟩
  · obtain ⟨τ', c1, c2, c3, c4⟩ := sp_b_bad' (L := 6) (j := 0) (lo := 0) (hi := 5) hT hp h2 (by omega) (fun _ => rfl) rfl (fun τ _ => rfl) rfl rfl (by omega) (by omega) g0
    obtain ⟨μ1, b1, b2, b3, b4⟩ := sm_num_bad (lo := 0) (hi := 5) hp hM (by omega) (by omega) g0
    have hf5 := tk_f_5 n y p
    obtain ⟨ν, m, d1, d2, d3, d4, d5⟩ := mw_br (k := 5) (P := 0) (μ := ww_up μ1 68 (2 * sNb s) (nI 0)) hnb (by rw [ww_up_ne (by omega)]; exact b2) hf5.1 (by omega) (by rw [ww_up_ne (by omega)]; exact b3) (by rw [ww_up_ne (by omega), b4.1 11 (by omega)]; exact e11)
    exact Or.inr ⟨_, _, ⟨τ', c1, c2, c3, c4⟩, ⟨hf5.1, hf5.2, by omega⟩, ν, (hmod _ _ m b1 d1.1).trans d1.2, d2, d3, d4, b4.M.trans ((fr_68 _ _ _).trans d5)⟩
