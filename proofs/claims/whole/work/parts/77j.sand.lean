/-! ===== drafts, lines ===== -/
def dr_C (σ : ww_M) (s : ww_S) (d : ww_D1) (B : Nat → Bool) : Prop := ww_ClsA σ 14 s d ∧ (σ 3 0 = 0 ∧ ∃ C, C < 64 ∧ σ 3 2 = nI C ∧ ∀ i, i < 3 → C.testBit (3 + i) = B i) ∧ (sNl s = 0 → σ 17 0 = 0)
def dr_M (μ : ww_M) (s : ww_S) (d : ww_D1) (B : Nat → Bool) : Prop := (μ 62 9 = nI (sNp s) ∧ μ 62 10 = nI (sNl s) ∧ μ 62 11 = nI (sNb s)) ∧ ww_ModD (μ 66) 0 s d ∧ (∀ j, j < sNl s → μ 67 j = nI (sLev s j)) ∧ (∀ b, b < sNb s → μ 68 (2 * b) = nI (sHd s b) ∧ μ 68 (2 * b + 1) = nI (sPt s b)) ∧ ∃ C, C < 64 ∧ μ 62 12 = nI C ∧ ∀ i, i < 3 → C.testBit (2 + i) = B i
def dr_ok (s : ww_S) (d : ww_D1) : Prop := (sNp s ≤ 6 ∧ sNl s ≤ 6 ∧ sNb s ≤ 3) ∧ (∀ j, j < sNl s → sLev s j ≤ 9) ∧ (∀ b, b < sNb s → 1 ≤ sPt s b ∧ sPt s b ≤ 3 ∧ sHd s b ≤ 5) ∧ (dLaw d ≤ 3 ∧ 1 ≤ dRot d ∧ dRot d ≤ 9 ∧ 1 ≤ dGng d ∧ dGng d ≤ 2 ∧ dHr d = 0) ∧ (∀ i, i < sNp s → dOwn d i ≤ 3 ∧ dMark d i ≤ 9) ∧ (∀ b, b < sNb s → ∀ p, p < sPt s b → dWo d b p ≤ 9 ∧ dWk d b p ≤ 3 ∧ dLu d b p ≤ 8) ∧ ∀ b, dLost d b = false
theorem dr_C_fr {σ τ : ww_M} {s : ww_S} {d : ww_D1} {B : Nat → Bool} (h : dr_C σ s d B) (hf : ∀ a, a ≠ 1 → τ a = σ a) : dr_C τ s d B := by
  unfold dr_C
  rw [hf 3 (by omega), hf 17 (by omega)]
  exact ⟨ww_ClsA_ext h.1 (fun a _ _ => hf a (by omega)), h.2⟩
theorem dr_M_fr {μ ν : ww_M} {s : ww_S} {d : ww_D1} {B : Nat → Bool} (h : dr_M μ s d B) (hf : fr_S μ ν) : dr_M ν s d B := by
  unfold dr_M
  rw [hf.2 66 (by omega), hf.2 67 (by omega), hf.2 68 (by omega), hf.1 9 (by omega), hf.1 10 (by omega), hf.1 11 (by omega), hf.1 12 (by omega)]
  exact h
/-- what the model does with a line once its name is taken -/
def md_B (μ : ww_M) (x1 : Int32) : Option ww_M := (if x1 = 0 then (f_X7_number μ 62 0 3).bind (fun v128 => ww_ck (ww_in (2 * (μ 62 9)) 50) ((f_X7_number (ww_up v128.2 66 (ww_ix (2 * (μ 62 9))) v128.1) 62 0 9).bind (fun v148 => ww_ck (ww_in ((2 * ((ww_up v128.2 66 (ww_ix (2 * (μ 62 9))) v128.1) 62 9)) + 1) 50) (f_X7_readLine_j194 (ww_up (ww_up v148.2 66 (ww_ix ((2 * ((ww_up v128.2 66 (ww_ix (2 * (μ 62 9))) v128.1) 62 9)) + 1)) v148.1) 62 9 (((ww_up v148.2 66 (ww_ix ((2 * ((ww_up v128.2 66 (ww_ix (2 * (μ 62 9))) v128.1) 62 9)) + 1)) v148.1) 62 9) + 1)) 62)))) else (if x1 = 1 then (f_X7_readTide μ 62).bind (fun v171 => f_X7_readLine_j194 v171 62) else (if x1 = 5 then (f_X7_readWhale μ 62).bind (fun v183 => f_X7_readLine_j194 v183 62) else (f_X7_readOnce μ 62 x1).bind (fun v191 => f_X7_readLine_j194 v191 62))))
theorem md_j87 (σ : ww_M) (x1 : Int32) : f_X7_readLine_j87 σ 62 x1 = (f_X7_step (ww_up σ 62 12 ((σ 62 12) ||| (ww_shl 1 x1))) 62).bind (fun v100 => (if (v100 62 16) ≤ 0 then md_B v100 x1 else some v100)) := rfl
/-- a line's outcome, both sides -/
def ln_ok (L : Nat) (σ μ : ww_M) (n : Nat) (y : Nat → Nat) (p : Nat) (B : Nat → Bool) : Prop := ∃ τ ν s d q, cl_R L 0 σ (.inr (1, τ)) ∧ md_B μ (nI (L - 1)) = some ν ∧ (p ≤ q ∧ q ≤ n) ∧ τ 1 2 = nI q ∧ tk_M ν n y q ∧ dr_C τ s d B ∧ dr_M ν s d B ∧ dr_ok s d ∧ fr_C σ τ ∧ fr_M μ ν
def ln_bad (L : Nat) (σ μ : ww_M) : Prop := ∃ f at', cl_F L 0 σ f at' ∧ (1 ≤ f ∧ f ≤ 5 ∧ at' ≤ 160) ∧ ∃ ν, md_B μ (nI (L - 1)) = some ν ∧ ν 62 16 = nI f ∧ ν 62 17 = nI at' ∧ (∃ nb, nb ≤ 3 ∧ ν 62 11 = nI nb) ∧ fr_M μ ν
def sAddP (s : ww_S) : ww_S := (sNp s + 1, s.2)
theorem dr_sand_C {σ τ : ww_M} {s : ww_S} {d : ww_D1} {v0 v1 : Nat} (h : ww_ClsA σ 14 s d) (e14 : τ 14 = upd (σ 14) 9 (nI (sNp s + 1))) (e15 : τ 15 = upd (σ 15) (sNp s) (nI v0)) (e16 : τ 16 = upd (σ 16) (sNp s) (nI v1)) (he : ∀ a, 17 ≤ a → a < 24 → τ a = σ a) : ww_ClsA τ 14 (sAddP s) (dsMark (dsOwn d (ww_un (dOwn d) (sNp s) v0)) (ww_un (dMark d) (sNp s) v1)) := by
  obtain ⟨⟨c1, c2, c3⟩, ⟨c4, c5, c6, c7, c8⟩, c9, c10, c11, c12, c13⟩ := h
  unfold ww_ClsA
  rw [e14, show τ (14 + 1) = _ from e15, show τ (14 + 2) = _ from e16, show τ (14 + 3) = _ from he 17 (by omega) (by omega), show τ (14 + 4) = _ from he 18 (by omega) (by omega), show τ (14 + 5) = _ from he 19 (by omega) (by omega), show τ (14 + 6) = _ from he 20 (by omega) (by omega), show τ (14 + 7) = _ from he 21 (by omega) (by omega), show τ (14 + 8) = _ from he 22 (by omega) (by omega), show τ (14 + 9) = _ from he 23 (by omega) (by omega)]
  refine ⟨⟨pk_us, by rw [pk_un (by decide)]; exact c2, by rw [pk_un (by decide)]; exact c3⟩, ⟨by rw [pk_un (by decide)]; exact c4, by rw [pk_un (by decide)]; exact c5, by rw [pk_un (by decide)]; exact c6, by rw [pk_un (by decide)]; exact c7, by rw [pk_un (by decide)]; exact c8⟩, fun i hi => ?_, c10, c11, c12, c13⟩
  have hi' : i < sNp s + 1 := hi
  show upd (σ 15) (sNp s) (nI v0) i = nI (ww_un (dOwn d) (sNp s) v0 i) ∧ upd (σ 16) (sNp s) (nI v1) i = nI (ww_un (dMark d) (sNp s) v1 i)
  unfold ww_un
  by_cases e : i = sNp s
  · rw [e, pk_us, pk_us, if_pos rfl, if_pos rfl]; exact ⟨rfl, rfl⟩
  · rw [pk_un e, pk_un e, if_neg e, if_neg e]
    exact c9 i (by omega)
theorem dr_sand_M {f g : Nat → Int32} {s : ww_S} {d : ww_D1} {v0 v1 : Nat} (hok : dr_ok s d) (hnp : sNp s < 6) (h : ww_ModD f 0 s d) (eg : g = upd (upd f (2 * sNp s) (nI v0)) (2 * sNp s + 1) (nI v1)) : ww_ModD g 0 (sAddP s) (dsMark (dsOwn d (ww_un (dOwn d) (sNp s) v0)) (ww_un (dMark d) (sNp s) v1)) := by
  obtain ⟨⟨a1, a2, a3, a4⟩, a5, a6, a7, a8⟩ := h
  have u : ∀ j, 12 ≤ j → g j = f j := fun j hj => by rw [eg, pk_un (by omega), pk_un (by omega)]
  refine ⟨⟨?_, ?_, ?_, ?_⟩, fun b hb => ?_, fun i hi => ?_, fun b hb p hp => ?_, fun k hk => ?_⟩
  · rw [u _ (by omega)]; exact a1
  · rw [u _ (by omega)]; exact a2
  · rw [u _ (by omega)]; exact a3
  · rw [u _ (by omega)]; exact a4
  · rw [u _ (by omega)]; exact a5 b hb
  · have hi' : i < sNp s + 1 := hi
    show g (0 + 2 * i) = nI (ww_un (dOwn d) (sNp s) v0 i) ∧ g (0 + 2 * i + 1) = nI (ww_un (dMark d) (sNp s) v1 i)
    unfold ww_un
    rw [Nat.zero_add]
    by_cases e : i = sNp s
    · subst e
      rw [if_pos rfl, if_pos rfl, eg, pk_us, pk_un (by omega), pk_us]; exact ⟨rfl, rfl⟩
    · rw [if_neg e, if_neg e, eg, pk_un (by omega), pk_un (by omega), pk_un (by omega), pk_un (by omega)]
      have := a6 i (by omega)
      rw [Nat.zero_add] at this
      exact this
  · rw [u _ (by omega), u _ (by omega), u _ (by omega)]; exact a7 b hb p hp
  · rw [u _ (by omega)]; exact a8 k hk
theorem ln_sand {σ μ : ww_M} {n : Nat} {y : Nat → Nat} {p : Nat} {s : ww_S} {d : ww_D1} {B : Nat → Bool} (hT : tp_C σ n y) (hTm : tp_M μ n y) (hp : p ≤ n) (h2 : σ 1 2 = nI p) (hM : tk_M μ n y p) (hC : dr_C σ s d B) (hD : dr_M μ s d B) (hok : dr_ok s d) (hnp : sNp s < 6) : ln_ok 1 σ μ n y p B ∨ ln_bad 1 σ μ := by
  have hn := hT.2.1
  have hp1 := tk_N_ge y hp
  have hS1 := tk_S_ge n y p
  have e9 : μ 62 9 = nI (sNp s) := hD.1.1
  have e11 : μ 62 11 = nI (sNb s) := hD.1.2.2
  have hnb := hok.1.2.2
  have i0 : ww_in (2 * nI (sNp s)) 50 = true ∧ ww_ix (2 * nI (sNp s)) = 2 * sNp s := by
    rw [show (2 : Int32) * nI (sNp s) = nI (2 * sNp s) from n_mul 2 _]
    exact ⟨n_in (by omega) (by omega), n_ix (by omega)⟩
  have i1 : ww_in (2 * nI (sNp s) + 1) 50 = true ∧ ww_ix (2 * nI (sNp s) + 1) = 2 * sNp s + 1 := by
    rw [show (2 : Int32) * nI (sNp s) = nI (2 * sNp s) from n_mul 2 _, nI_1]
    exact ⟨n_in (by omega) (by omega), n_ix (by omega)⟩
  -- the model, number by number
  have mB : ∀ (v0 v1 : Int32) (μ1 μ2 : ww_M), f_X7_number μ 62 (nI 0) (nI 3) = some (v0, μ1) → μ1 62 9 = nI (sNp s) → f_X7_number (ww_up μ1 66 (2 * sNp s) v0) 62 (nI 0) (nI 9) = some (v1, μ2) → μ2 62 9 = nI (sNp s) → md_B μ (nI (1 - 1)) = f_X7_readLine_j194 (ww_up (ww_up μ2 66 (2 * sNp s + 1) v1) 62 9 (nI (sNp s + 1))) 62 := fun v0 v1 μ1 μ2 z1 z2 z3 z4 => by
    unfold md_B
    rw [if_pos (show nI (1 - 1) = 0 from rfl), show (0 : Int32) = nI 0 from rfl, show (3 : Int32) = nI 3 from rfl, show (9 : Int32) = nI 9 from rfl, z1]
    simp only [Option.bind_some]
    rw [e9, i0.1, i0.2, n_ckt, z3]
    simp only [Option.bind_some]
    rw [show ww_up μ1 66 (2 * sNp s) v0 62 9 = nI (sNp s) by rw [ww_up_ne (by omega)]; exact z2, i1.1, i1.2, n_ckt, show ww_up μ2 66 (2 * sNp s + 1) v1 62 9 = nI (sNp s) by rw [ww_up_ne (by omega)]; exact z4, nI_1]
  have fr66 : ∀ (ν : ww_M) (j : Nat) (v : Int32), fr_M ν (ww_up ν 66 j v) := fun ν j v => ⟨fun a z1 z2 z3 z4 => ww_up_ne z2, fun j hj => by rw [ww_up_ne (by omega)]⟩
  have fr9 : ∀ (ν : ww_M) (v : Int32), fr_M ν (ww_up ν 62 9 v) := fun ν v => ⟨fun a z1 z2 z3 z4 => ww_up_ne z1, fun j hj => by rw [ww_up_eq, pk_un (by omega)]⟩
  by_cases g0 : tk_g n y p 0 3
  · obtain ⟨τ1, a1, a2, a3, a4⟩ := sp_b_go (L := 1) (j := 0) (lo := 0) (hi := 3) hT hp h2 (by omega) g0 rfl (fun τ _ => rfl) rfl rfl (by omega) (by omega)
    obtain ⟨μ1, b1, b2, b3⟩ := sm_num_go (lo := 0) (hi := 3) hTm hp hM (by omega) g0
    have hV0 := g0.2.2
    obtain ⟨σ1, hσ1⟩ : ∃ X, X = ww_up (ww_up τ1 15 (sNp s) (nI (tk_V n y p))) 14 9 (nI (sNp s + 1)) := ⟨_, rfl⟩
    have t9 : τ1 14 9 = nI (sNp s) := by rw [a3 14 (by omega)]; exact hC.1.1.1
    have put0 : f_X5_put τ1 14 (nI 1) (nI 0) (nI (tk_V n y p)) = some σ1 := by
      unfold f_X5_put f_X2_putSand
      rw [if_pos (show nI 1 = 1 from rfl), if_pos (show nI 0 = 0 from rfl), t9, if_neg (show ¬ (6 : Int32) ≤ nI (sNp s) by rw [show (6 : Int32) = nI 6 from rfl, n_le (by omega) (by omega)]; omega), n_in hnp (by omega), n_ckt, n_ix (by omega), show ww_up τ1 (14 + 1) (sNp s) (nI (tk_V n y p)) 14 9 = nI (sNp s) by rw [ww_up_ne (by omega)]; exact t9, nI_1, hσ1]
      rfl
    rw [put0] at a4
    have f1 : fr_C σ σ1 := by
      rw [hσ1]
      exact ⟨fun a z1 z2 z3 => by rw [ww_up_ne (by omega), ww_up_ne (by omega)]; exact a3 a z1, by rw [ww_up_ne (by omega), ww_up_ne (by omega)]; exact a2⟩
    have s2 : σ1 1 2 = nI (tk_N n y p) := by rw [hσ1, ww_up_ne (by omega), ww_up_ne (by omega)]; exact a1.1
    have m9 : μ1 62 9 = nI (sNp s) := by rw [b3.1 9 (by omega)]; exact e9
    obtain ⟨ν1, hν1⟩ : ∃ X, X = ww_up μ1 66 (2 * sNp s) (nI (tk_V n y p)) := ⟨_, rfl⟩
    have fm1 : fr_M μ ν1 := by rw [hν1]; exact b3.M.trans (fr66 _ _ _)
    have n11 : ν1 62 11 = nI (sNb s) := by rw [hν1, ww_up_ne (by omega), b3.1 11 (by omega)]; exact e11
    have nM : tk_M ν1 n y (tk_N n y p) := by
      unfold tk_M; rw [hν1, ww_up_ne (by omega)]; exact b2
    have hp2 := tk_N_ge y hp1.2
    by_cases g1 : tk_g n y (tk_N n y p) 0 9
    · obtain ⟨τ2, a5, a6, a7, a8⟩ := sp_b_go (L := 1) (j := 1) (lo := 0) (hi := 9) (f1.tp hT) hp1.2 s2 (by omega) g1 rfl (fun τ _ => rfl) rfl rfl (by omega) (by omega)
      obtain ⟨μ2, b4, b5, b6⟩ := sm_num_go (lo := 0) (hi := 9) (fm1.tp hTm) hp1.2 nM (by omega) g1
      have hV1 := g1.2.2
      have t92 : τ2 14 9 = nI (sNp s + 1) := by rw [a7 14 (by omega), hσ1, ww_up_eq, pk_us]
      obtain ⟨σ2, hσ2⟩ : ∃ X, X = ww_up τ2 16 (sNp s) (nI (tk_V n y (tk_N n y p))) := ⟨_, rfl⟩
      have put1 : f_X5_put τ2 14 (nI 1) (nI 1) (nI (tk_V n y (tk_N n y p))) = some σ2 := by
        unfold f_X5_put f_X2_putSand f_X2_putSand_j36
        rw [if_pos (show nI 1 = 1 from rfl), if_neg (show ¬ nI 1 = 0 by decide), t92, ww_within, if_pos ⟨nI_le (a := 1) (by omega) (by omega), nI_le (b := 6) (by omega) (by omega)⟩]
        simp only [Option.bind_some]
        rw [if_neg (by decide), show nI (sNp s + 1) - 1 = nI (sNp s) from by rw [show (1 : Int32) = nI 1 from rfl, n_sub (by omega)]; rfl, n_in hnp (by omega), n_ckt, n_ix (by omega), hσ2]
        rfl
      rw [put1] at a8
      have f2 : fr_C σ σ2 := f1.trans (by
        rw [hσ2]
        exact ⟨fun a z1 z2 z3 => by rw [ww_up_ne (by omega)]; exact a7 a z1, by rw [ww_up_ne (by omega)]; exact a6⟩)
      have s3 : σ2 1 2 = nI (tk_N n y (tk_N n y p)) := by rw [hσ2, ww_up_ne (by omega)]; exact a5.1
      have m92 : μ2 62 9 = nI (sNp s) := by rw [b6.1 9 (by omega), hν1, ww_up_ne (by omega)]; exact m9
      have hmB := mB _ _ μ1 μ2 b1 m9 (by rw [← hν1]; exact b4) m92
      obtain ⟨ν2, hν2⟩ : ∃ X, X = ww_up (ww_up μ2 66 (2 * sNp s + 1) (nI (tk_V n y (tk_N n y p)))) 62 9 (nI (sNp s + 1)) := ⟨_, rfl⟩
      rw [← hν2] at hmB
      have fm2 : fr_M μ ν2 := by rw [hν2]; exact fm1.trans (b6.M.trans ((fr66 _ _ _).trans (fr9 _ _)))
      have n112 : ν2 62 11 = nI (sNb s) := by rw [hν2, ww_up_eq, pk_un (by omega), ww_up_ne (by omega), b6.1 11 (by omega)]; exact n11
      have nM2 : tk_M ν2 n y (tk_N n y (tk_N n y p)) := by
        have : ∀ j, j ≠ 9 → ν2 62 j = μ2 62 j := fun j hj => by rw [hν2, ww_up_eq, pk_un hj, ww_up_ne (by omega)]
        unfold tk_M
        rw [this 18 (by omega), this 19 (by omega), this 16 (by omega), this 20 (by omega), this 21 (by omega), this 17 (by omega)]; exact b5
      by_cases eK : tk_K n y (tk_N n y (tk_N n y p)) = 3
      · obtain ⟨τ3, c1, c2, c3, c4⟩ := sp_b_stop (L := 1) (j := 2) (f2.tp hT) hp2.2 s3 (by omega) eK rfl
        obtain ⟨ν3, d1, d2, d3⟩ := sm_end_ok (fm2.tp hTm) hp2.2 nM2 eK
        have hp3 := tk_N_ge y hp2.2
        have hS2 := tk_S_ge n y (tk_N n y p)
        have hS3 := tk_S_ge n y (tk_N n y (tk_N n y p))
        refine Or.inl ⟨τ3, ν3, sAddP s, dsMark (dsOwn d (ww_un (dOwn d) (sNp s) (tk_V n y p))) (ww_un (dMark d) (sNp s) (tk_V n y (tk_N n y p))), _, cl_R_go (by omega) a4 (cl_R_go (by omega) a8 c1), hmB.trans d1, ⟨by omega, hp3.2⟩, c2.1, d2, dr_C_fr (σ := σ2) ⟨?_, ?_, ?_⟩ c4, dr_M_fr (μ := ν2) ⟨⟨?_, ?_, ?_⟩, ?_, ?_, ?_, ?_⟩ d3, ?_, f2.trans ⟨fun a z1 _ _ => c4 a z1, c3⟩, fm2.trans d3.M⟩
        · refine dr_sand_C hC.1 ?_ ?_ ?_ (fun a z1 z2 => ?_)
          · rw [hσ2, ww_up_ne (by omega), a7 14 (by omega), hσ1, ww_up_eq, ww_up_ne (by omega), a3 14 (by omega)]
          · rw [hσ2, ww_up_ne (by omega), a7 15 (by omega), hσ1, ww_up_ne (by omega), ww_up_eq, a3 15 (by omega)]
          · rw [hσ2, ww_up_eq, a7 16 (by omega), hσ1, ww_up_ne (by omega), ww_up_ne (by omega), a3 16 (by omega)]
          · rw [hσ2, ww_up_ne (by omega), a7 a (by omega), hσ1, ww_up_ne (by omega), ww_up_ne (by omega), a3 a (by omega)]
        · rw [hσ2, ww_up_ne (by omega), a7 3 (by omega), hσ1, ww_up_ne (by omega), ww_up_ne (by omega), a3 3 (by omega)]
          exact hC.2.1
        · rw [hσ2, ww_up_ne (by omega), a7 17 (by omega), hσ1, ww_up_ne (by omega), ww_up_ne (by omega), a3 17 (by omega)]
          exact hC.2.2
        · rw [hν2, ww_up_eq, pk_us]; rfl
        · rw [hν2, ww_up_eq, pk_un (by omega), ww_up_ne (by omega), b6.1 10 (by omega), hν1, ww_up_ne (by omega), b3.1 10 (by omega)]; exact hD.1.2.1
        · exact n112
        · refine dr_sand_M hok hnp hD.2.1 ?_
          rw [hν2, ww_up_ne (by omega), ww_up_eq, b6.2 66 (by omega), hν1, ww_up_eq, b3.2 66 (by omega)]
        · intro j hj
          rw [hν2, ww_up_ne (by omega), ww_up_ne (by omega), b6.2 67 (by omega), hν1, ww_up_ne (by omega), b3.2 67 (by omega)]
          exact hD.2.2.1 j hj
        · intro b hb
          rw [hν2, ww_up_ne (by omega), ww_up_ne (by omega), b6.2 68 (by omega), hν1, ww_up_ne (by omega), b3.2 68 (by omega)]
          exact hD.2.2.2.1 b hb
        · rw [hν2, ww_up_eq, pk_un (by omega), ww_up_ne (by omega), b6.1 12 (by omega), hν1, ww_up_ne (by omega), b3.1 12 (by omega)]
          exact hD.2.2.2.2
        · obtain ⟨⟨o1, o2, o3⟩, o4, o5, o6, o7, o8, o9⟩ := hok
          refine ⟨⟨show sNp s + 1 ≤ 6 by omega, o2, o3⟩, o4, o5, o6, fun i hi => ?_, o8, o9⟩
          have hi' : i < sNp s + 1 := hi
          show ww_un (dOwn d) (sNp s) (tk_V n y p) i ≤ 3 ∧ ww_un (dMark d) (sNp s) (tk_V n y (tk_N n y p)) i ≤ 9
          unfold ww_un
          by_cases e : i = sNp s
          · rw [if_pos e, if_pos e]; exact ⟨hV0, hV1⟩
          · rw [if_neg e, if_neg e]; exact o7 i (by omega)
      · obtain ⟨τ', c1, c2, c3, c4⟩ := sp_b_tok (L := 1) (j := 2) (f2.tp hT) hp2.2 s3 (by omega) (fun z => absurd z eK) (fun _ => rfl)
        obtain ⟨ν3, d1, d2, d3, d4⟩ := sm_end_bad nM2 eK
        have hS := tk_S_le y hp2.2
        refine Or.inr ⟨_, _, ⟨τ', cl_R_go (by omega) a4 (cl_R_go (by omega) a8 c1), c2, c3, f2.trans c4⟩, ⟨(tk_e_5 _ _ _).1, (tk_e_5 _ _ _).2, by omega⟩, ν3, hmB.trans d1, d2, d3, ⟨sNb s, hnb, by rw [d4.1 11 (by omega)]; exact n112⟩, fm2.trans d4.M⟩
    · obtain ⟨τ', c1, c2, c3, c4⟩ := sp_b_bad (L := 1) (j := 1) (lo := 0) (hi := 9) (f1.tp hT) hp1.2 s2 (by omega) rfl rfl (fun τ _ => rfl) rfl rfl (by omega) (by omega) g1
      obtain ⟨μ2, b4, b5, b6, b7⟩ := sm_num_bad (lo := 0) (hi := 9) hp1.2 nM (by omega) (by omega) g1
      have hf5 := tk_f_5 n y (tk_N n y p)
      have m92 : μ2 62 9 = nI (sNp s) := by rw [b7.1 9 (by omega), hν1, ww_up_ne (by omega)]; exact m9
      have hmB := mB _ _ μ1 μ2 b1 m9 (by rw [← hν1]; exact b4) m92
      have h16 : ww_up (ww_up μ2 66 (2 * sNp s + 1) (nI 0)) 62 9 (nI (sNp s + 1)) 62 16 = nI (tk_f n y (tk_N n y p)) := by
        rw [ww_up_eq, pk_un (by omega), ww_up_ne (by omega)]; exact b5
      rw [sm_end_br h16 hf5.1 (by omega)] at hmB
      have hS := tk_S_le y hp1.2
      refine Or.inr ⟨_, _, ⟨τ', cl_R_go (by omega) a4 c1, c2, c3, f1.trans c4⟩, ⟨hf5.1, hf5.2, by omega⟩, _, hmB, h16, ?_, ⟨sNb s, hnb, ?_⟩, fm1.trans (b7.M.trans ((fr66 _ _ _).trans (fr9 _ _)))⟩
      · rw [ww_up_eq, pk_un (by omega), ww_up_ne (by omega)]; exact b6
      · rw [ww_up_eq, pk_un (by omega), ww_up_ne (by omega), b7.1 11 (by omega)]; exact n11
  · obtain ⟨τ', c1, c2, c3, c4⟩ := sp_b_bad (L := 1) (j := 0) (lo := 0) (hi := 3) hT hp h2 (by omega) rfl rfl (fun τ _ => rfl) rfl rfl (by omega) (by omega) g0
    obtain ⟨μ1, b1, b2, b3, b4⟩ := sm_num_bad (lo := 0) (hi := 3) hp hM (by omega) (by omega) g0
    have hf5 := tk_f_5 n y p
    have m9 : μ1 62 9 = nI (sNp s) := by rw [b4.1 9 (by omega)]; exact e9
    have h16a : ww_up μ1 66 (2 * sNp s) (nI 0) 62 16 = nI (tk_f n y p) := by rw [ww_up_ne (by omega)]; exact b2
    have hmB := mB _ _ μ1 _ b1 m9 (sm_num_br h16a hf5.1 (by omega)) (by rw [ww_up_ne (by omega)]; exact m9)
    have h16 : ww_up (ww_up (ww_up μ1 66 (2 * sNp s) (nI 0)) 66 (2 * sNp s + 1) (nI 0)) 62 9 (nI (sNp s + 1)) 62 16 = nI (tk_f n y p) := by
      rw [ww_up_eq, pk_un (by omega), ww_up_ne (by omega)]; exact h16a
    rw [sm_end_br h16 hf5.1 (by omega)] at hmB
    have hS := tk_S_le y hp
    refine Or.inr ⟨_, _, ⟨τ', c1, c2, c3, c4⟩, ⟨hf5.1, hf5.2, by omega⟩, _, hmB, h16, ?_, ⟨sNb s, hnb, ?_⟩, b4.M.trans ((fr66 _ _ _).trans ((fr66 _ _ _).trans (fr9 _ _)))⟩
    · rw [ww_up_eq, pk_un (by omega), ww_up_ne (by omega), ww_up_ne (by omega)]; exact b3
    · rw [ww_up_eq, pk_un (by omega), ww_up_ne (by omega), ww_up_ne (by omega), b4.1 11 (by omega)]; exact e11
