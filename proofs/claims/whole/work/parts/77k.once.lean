/-! ===== law, rot, gangs ===== -/
theorem ln_once {σ μ : ww_M} {n : Nat} {y : Nat → Nat} {p : Nat} {s : ww_S} {d : ww_D1} {B : Nat → Bool} {L lo hi cs : Nat} (mv : Int32 → Int32) (d' : Nat → ww_D1) (hms0 : f_X5_mayStop (nI L) (nI 0) = some 0) (hmg0 : f_X5_mayGoOn (nI L) (nI 0) = some 1) (htm : ∀ τ : ww_M, f_X5_isTooMany τ 14 (nI L) (nI 0) = some 0) (hlo : f_X5_lowest (nI L) (nI 0) = some (nI lo)) (hhi : f_X5_highest (nI L) (nI 0) = some (nI hi)) (hl100 : lo < 100) (hh100 : hi < 100) (hms1 : f_X5_mayStop (nI L) (nI 1) = some 1) (hmg1 : f_X5_mayGoOn (nI L) (nI 1) = some 0) (hput : ∀ (τ : ww_M) (v : Nat), f_X5_put τ 14 (nI L) (nI 0) (nI v) = some (ww_up τ 14 cs (nI v))) (hmod : ∀ μ : ww_M, md_B μ (nI (L - 1)) = (f_X7_number μ 62 (nI lo) (nI hi)).bind (fun v => f_X7_readLine_j194 (ww_up v.2 66 cs (mv v.1)) 62)) (hdC : ∀ (σ τ : ww_M) (v : Nat), ww_ClsA σ 14 s d → τ 14 = upd (σ 14) cs (nI v) → (∀ a, 15 ≤ a → a < 24 → τ a = σ a) → ww_ClsA τ 14 s (d' v)) (hdM : ∀ (f : Nat → Int32) (v : Nat), ww_ModD f 0 s d → ww_ModD (upd f cs (mv (nI v))) 0 s (d' v)) (hdo : ∀ v, lo ≤ v → v ≤ hi → dr_ok s (d' v)) (hT : tp_C σ n y) (hTm : tp_M μ n y) (hp : p ≤ n) (h2 : σ 1 2 = nI p) (hM : tk_M μ n y p) (hC : dr_C σ s d B) (hD : dr_M μ s d B) (hok : dr_ok s d) : ln_ok L σ μ n y p B ∨ ln_bad L σ μ := by
  have hn := hT.2.1
  have hp1 := tk_N_ge y hp
  have hS1 := tk_S_ge n y p
  have e11 : μ 62 11 = nI (sNb s) := hD.1.2.2
  have hnb := hok.1.2.2
  have fr66 : ∀ (ν : ww_M) (j : Nat) (v : Int32), fr_M ν (ww_up ν 66 j v) := fun ν j v => ⟨fun a z1 z2 z3 z4 => ww_up_ne z2, fun j hj => by rw [ww_up_ne (by omega)]⟩
  by_cases g0 : tk_g n y p lo hi
  · obtain ⟨τ1, a1, a2, a3, a4⟩ := sp_b_go (L := L) (j := 0) hT hp h2 (by omega) g0 hmg0 (fun τ _ => htm τ) hlo hhi hl100 hh100
    obtain ⟨μ1, b1, b2, b3⟩ := sm_num_go hTm hp hM hh100 g0
    obtain ⟨σ1, hσ1⟩ : ∃ X, X = ww_up τ1 14 cs (nI (tk_V n y p)) := ⟨_, rfl⟩
    rw [hput, ← hσ1] at a4
    have f1 : fr_C σ σ1 := by
      rw [hσ1]
      exact ⟨fun a z1 z2 z3 => by rw [ww_up_ne (by omega)]; exact a3 a z1, by rw [ww_up_ne (by omega)]; exact a2⟩
    have s2 : σ1 1 2 = nI (tk_N n y p) := by rw [hσ1, ww_up_ne (by omega)]; exact a1.1
    obtain ⟨ν1, hν1⟩ : ∃ X, X = ww_up μ1 66 cs (mv (nI (tk_V n y p))) := ⟨_, rfl⟩
    have fm1 : fr_M μ ν1 := by rw [hν1]; exact b3.M.trans (fr66 _ _ _)
    have n11 : ν1 62 11 = nI (sNb s) := by rw [hν1, ww_up_ne (by omega), b3.1 11 (by omega)]; exact e11
    have nM : tk_M ν1 n y (tk_N n y p) := by
      unfold tk_M; rw [hν1, ww_up_ne (by omega)]; exact b2
    have hmB : md_B μ (nI (L - 1)) = f_X7_readLine_j194 ν1 62 := by
      rw [hmod, b1]
      simp only [Option.bind_some]
      rw [← hν1]
    have hp2 := tk_N_ge y hp1.2
    have hS2 := tk_S_ge n y (tk_N n y p)
    by_cases eK : tk_K n y (tk_N n y p) = 3
    · obtain ⟨τ3, c1, c2, c3, c4⟩ := sp_b_stop (L := L) (j := 1) (f1.tp hT) hp1.2 s2 (by omega) eK hms1
      obtain ⟨ν3, d1, d2, d3⟩ := sm_end_ok (fm1.tp hTm) hp1.2 nM eK
      refine Or.inl ⟨τ3, ν3, s, d' (tk_V n y p), _, cl_R_go (by omega) a4 c1, hmB.trans d1, ⟨by omega, hp2.2⟩, c2.1, d2, dr_C_fr (σ := σ1) ⟨?_, ?_, ?_⟩ c4, dr_M_fr (μ := ν1) ⟨⟨?_, ?_, ?_⟩, ?_, ?_, ?_, ?_⟩ d3, hdo _ g0.2.1 g0.2.2, f1.trans ⟨fun a z1 _ _ => c4 a z1, c3⟩, fm1.trans d3.M⟩
      · refine hdC σ σ1 _ hC.1 ?_ (fun a z1 z2 => ?_)
        · rw [hσ1, ww_up_eq, a3 14 (by omega)]
        · rw [hσ1, ww_up_ne (by omega), a3 a (by omega)]
      · rw [hσ1, ww_up_ne (by omega), a3 3 (by omega)]
        exact hC.2.1
      · rw [hσ1, ww_up_ne (by omega), a3 17 (by omega)]
        exact hC.2.2
      · rw [hν1, ww_up_ne (by omega), b3.1 9 (by omega)]; exact hD.1.1
      · rw [hν1, ww_up_ne (by omega), b3.1 10 (by omega)]; exact hD.1.2.1
      · exact n11
      · rw [hν1, ww_up_eq, b3.2 66 (by omega)]
        exact hdM _ _ hD.2.1
      · intro j hj
        rw [hν1, ww_up_ne (by omega), b3.2 67 (by omega)]
        exact hD.2.2.1 j hj
      · intro b hb
        rw [hν1, ww_up_ne (by omega), b3.2 68 (by omega)]
        exact hD.2.2.2.1 b hb
      · rw [hν1, ww_up_ne (by omega), b3.1 12 (by omega)]
        exact hD.2.2.2.2
    · obtain ⟨τ', c1, c2, c3, c4⟩ := sp_b_tok (L := L) (j := 1) (f1.tp hT) hp1.2 s2 (by omega) (fun z => absurd z eK) (fun _ => hmg1)
      obtain ⟨ν3, d1, d2, d3, d4⟩ := sm_end_bad nM eK
      have hS := tk_S_le y hp1.2
      exact Or.inr ⟨_, _, ⟨τ', cl_R_go (by omega) a4 c1, c2, c3, f1.trans c4⟩, ⟨(tk_e_5 _ _ _).1, (tk_e_5 _ _ _).2, by omega⟩, ν3, hmB.trans d1, d2, d3, ⟨sNb s, hnb, by rw [d4.1 11 (by omega)]; exact n11⟩, fm1.trans d4.M⟩
  · obtain ⟨τ', c1, c2, c3, c4⟩ := sp_b_bad (L := L) (j := 0) hT hp h2 (by omega) hms0 hmg0 (fun τ _ => htm τ) hlo hhi hl100 hh100 g0
    obtain ⟨μ1, b1, b2, b3, b4⟩ := sm_num_bad hp hM hl100 hh100 g0
    have hf5 := tk_f_5 n y p
    have h16 : ww_up μ1 66 cs (mv (nI lo)) 62 16 = nI (tk_f n y p) := by rw [ww_up_ne (by omega)]; exact b2
    have hmB : md_B μ (nI (L - 1)) = some (ww_up μ1 66 cs (mv (nI lo))) := by
      rw [hmod, b1]
      simp only [Option.bind_some]
      exact sm_end_br h16 hf5.1 (by omega)
    have hS := tk_S_le y hp
    refine Or.inr ⟨_, _, ⟨τ', c1, c2, c3, c4⟩, ⟨hf5.1, hf5.2, by omega⟩, _, hmB, h16, ?_, ⟨sNb s, hnb, ?_⟩, b4.M.trans (fr66 _ _ _)⟩
    · rw [ww_up_ne (by omega)]; exact b3
    · rw [ww_up_ne (by omega), b4.1 11 (by omega)]; exact e11
theorem dr_once_M {f g : Nat → Int32} {s : ww_S} {d d' : ww_D1} (hok : dr_ok s d) (h : ww_ModD f 0 s d) (u : ∀ j, j < 12 ∨ 15 ≤ j → g j = f j) (e1 : g 12 = nI (dLaw d') ∧ g 13 = nI (dRot d') - 4 ∧ g 14 = nI (dGng d') - 1) (e2 : d'.2.2.2 = d.2.2.2) : ww_ModD g 0 s d' := by
  obtain ⟨⟨a1, a2, a3, a4⟩, a5, a6, a7, a8⟩ := h
  have hr : dHr d' = dHr d := congrArg (fun z => z.1) e2
  have ho : dOwn d' = dOwn d := congrArg (fun z => z.2.1) e2
  have hm : dMark d' = dMark d := congrArg (fun z => z.2.2.1) e2
  have hwo : dWo d' = dWo d := congrArg (fun z => z.2.2.2.1) e2
  have hwk : dWk d' = dWk d := congrArg (fun z => z.2.2.2.2.1) e2
  have hlu : dLu d' = dLu d := congrArg (fun z => z.2.2.2.2.2.1) e2
  have hlo : dLost d' = dLost d := congrArg (fun z => z.2.2.2.2.2.2.1) e2
  have hwn : dWon d' = dWon d := congrArg (fun z => z.2.2.2.2.2.2.2) e2
  have hnp := hok.1.1
  unfold ww_ModD
  rw [hr, ho, hm, hwo, hwk, hlu, hlo, hwn]
  refine ⟨⟨e1.1, e1.2.1, e1.2.2, ?_⟩, fun b hb => ?_, fun i hi => ?_, fun b hb p hp => ?_, fun k hk => ?_⟩
  · rw [u _ (by omega)]; exact a4
  · rw [u _ (by omega)]; exact a5 b hb
  · rw [u _ (by omega), u _ (by omega)]; exact a6 i hi
  · rw [u _ (by omega), u _ (by omega), u _ (by omega)]; exact a7 b hb p hp
  · rw [u _ (by omega)]; exact a8 k hk
theorem dr_once_C {σ τ : ww_M} {s : ww_S} {d d' : ww_D1} (h : ww_ClsA σ 14 s d) (u : ∀ j, j ≠ 12 → j ≠ 13 → j ≠ 14 → τ 14 j = σ 14 j) (e1 : τ 14 12 = nI (dLaw d') ∧ τ 14 13 = nI (dRot d') ∧ τ 14 14 = nI (dGng d')) (he : ∀ a, 15 ≤ a → a < 24 → τ a = σ a) (e2 : d'.2.2.2 = d.2.2.2) : ww_ClsA τ 14 s d' := by
  obtain ⟨⟨c1, c2, c3⟩, ⟨c4, c5, c6, c7, c8⟩, c9, c10, c11, c12, c13⟩ := h
  have hr : dHr d' = dHr d := congrArg (fun z => z.1) e2
  have ho : dOwn d' = dOwn d := congrArg (fun z => z.2.1) e2
  have hm : dMark d' = dMark d := congrArg (fun z => z.2.2.1) e2
  have hwo : dWo d' = dWo d := congrArg (fun z => z.2.2.2.1) e2
  have hwk : dWk d' = dWk d := congrArg (fun z => z.2.2.2.2.1) e2
  have hlu : dLu d' = dLu d := congrArg (fun z => z.2.2.2.2.2.1) e2
  have hlo : dLost d' = dLost d := congrArg (fun z => z.2.2.2.2.2.2.1) e2
  have hwn : dWon d' = dWon d := congrArg (fun z => z.2.2.2.2.2.2.2) e2
  unfold ww_ClsA ww_Cls ww_lostN
  rw [show τ (14 + 1) = _ from he 15 (by omega) (by omega), show τ (14 + 2) = _ from he 16 (by omega) (by omega), show τ (14 + 3) = _ from he 17 (by omega) (by omega), show τ (14 + 4) = _ from he 18 (by omega) (by omega), show τ (14 + 5) = _ from he 19 (by omega) (by omega), show τ (14 + 6) = _ from he 20 (by omega) (by omega), show τ (14 + 7) = _ from he 21 (by omega) (by omega), show τ (14 + 8) = _ from he 22 (by omega) (by omega), show τ (14 + 9) = _ from he 23 (by omega) (by omega), hr, ho, hm, hwo, hwk, hlu, hlo, hwn, u 9 (by omega) (by omega) (by omega), u 10 (by omega) (by omega) (by omega), u 11 (by omega) (by omega) (by omega), u 15 (by omega) (by omega) (by omega), u 16 (by omega) (by omega) (by omega)]
  exact ⟨⟨c1, c2, c3⟩, ⟨e1.1, e1.2.1, e1.2.2, c7, c8⟩, c9, c10, c11, c12, c13⟩
section ONCE
variable {σ μ : ww_M} {n : Nat} {y : Nat → Nat} {p : Nat} {s : ww_S} {d : ww_D1} {B : Nat → Bool}
theorem ln_law (hT : tp_C σ n y) (hTm : tp_M μ n y) (hp : p ≤ n) (h2 : σ 1 2 = nI p) (hM : tk_M μ n y p) (hC : dr_C σ s d B) (hD : dr_M μ s d B) (hok : dr_ok s d) : ln_ok 3 σ μ n y p B ∨ ln_bad 3 σ μ := by
  refine ln_once (L := 3) (lo := 0) (hi := 3) (cs := 12) (fun v => v) (fun v => dsLaw d v) rfl rfl (fun τ => rfl) rfl rfl (by omega) (by omega) rfl rfl (fun τ v => rfl) (fun μ => ?_) (fun σ τ v h e1 e2 => ?_) (fun f v h => ?_) (fun v h1 h2 => ?_) hT hTm hp h2 hM hC hD hok
  · unfold md_B f_X7_readOnce
    rw [if_neg (by decide), if_neg (by decide), if_neg (by decide), if_pos (show nI (3 - 1) = 2 from rfl)]
    show ((f_X7_number μ 62 0 3).bind _).bind _ = (f_X7_number μ 62 0 3).bind _
    rw [Option.bind_assoc]
    rfl
  · refine dr_once_C h (fun j z1 z2 z3 => by rw [e1, pk_un z1]) ⟨by rw [e1, pk_us]; rfl, by rw [e1, pk_un (by omega)]; exact h.2.1.2.1, by rw [e1, pk_un (by omega)]; exact h.2.1.2.2.1⟩ e2 rfl
  · refine dr_once_M hok h (fun j hj => by rw [pk_un (by omega)]) ⟨by rw [pk_us]; rfl, by rw [pk_un (by omega)]; exact h.1.2.1, by rw [pk_un (by omega)]; exact h.1.2.2.1⟩ rfl
  · obtain ⟨o1, o4, o5, o6, o7⟩ := hok
    exact ⟨o1, o4, o5, ⟨h2, o6.2⟩, o7⟩
theorem ln_rot (hT : tp_C σ n y) (hTm : tp_M μ n y) (hp : p ≤ n) (h2 : σ 1 2 = nI p) (hM : tk_M μ n y p) (hC : dr_C σ s d B) (hD : dr_M μ s d B) (hok : dr_ok s d) : ln_ok 4 σ μ n y p B ∨ ln_bad 4 σ μ := by
  refine ln_once (L := 4) (lo := 1) (hi := 9) (cs := 13) (fun v => v - 4) (fun v => dsRot d v) rfl rfl (fun τ => rfl) rfl rfl (by omega) (by omega) rfl rfl (fun τ v => rfl) (fun μ => ?_) (fun σ τ v h e1 e2 => ?_) (fun f v h => ?_) (fun v h1 h2 => ?_) hT hTm hp h2 hM hC hD hok
  · unfold md_B f_X7_readOnce
    rw [if_neg (by decide), if_neg (by decide), if_neg (by decide), if_neg (by decide), if_pos (show nI (4 - 1) = 3 from rfl)]
    show ((f_X7_number μ 62 1 9).bind _).bind _ = (f_X7_number μ 62 1 9).bind _
    rw [Option.bind_assoc]
    rfl
  · refine dr_once_C h (fun j z1 z2 z3 => by rw [e1, pk_un z2]) ⟨by rw [e1, pk_un (by omega)]; exact h.2.1.1, by rw [e1, pk_us]; rfl, by rw [e1, pk_un (by omega)]; exact h.2.1.2.2.1⟩ e2 rfl
  · refine dr_once_M hok h (fun j hj => by rw [pk_un (by omega)]) ⟨by rw [pk_un (by omega)]; exact h.1.1, by rw [pk_us]; rfl, by rw [pk_un (by omega)]; exact h.1.2.2.1⟩ rfl
  · obtain ⟨o1, o4, o5, o6, o7⟩ := hok
    exact ⟨o1, o4, o5, ⟨o6.1, h1, h2, o6.2.2.2⟩, o7⟩
theorem ln_gangs (hT : tp_C σ n y) (hTm : tp_M μ n y) (hp : p ≤ n) (h2 : σ 1 2 = nI p) (hM : tk_M μ n y p) (hC : dr_C σ s d B) (hD : dr_M μ s d B) (hok : dr_ok s d) : ln_ok 5 σ μ n y p B ∨ ln_bad 5 σ μ := by
  refine ln_once (L := 5) (lo := 1) (hi := 2) (cs := 14) (fun v => v - 1) (fun v => dsGng d v) rfl rfl (fun τ => rfl) rfl rfl (by omega) (by omega) rfl rfl (fun τ v => rfl) (fun μ => ?_) (fun σ τ v h e1 e2 => ?_) (fun f v h => ?_) (fun v h1 h2 => ?_) hT hTm hp h2 hM hC hD hok
  · unfold md_B f_X7_readOnce
    rw [if_neg (by decide), if_neg (by decide), if_neg (by decide), if_neg (by decide), if_neg (by decide)]
    show ((f_X7_number μ 62 1 2).bind _).bind _ = (f_X7_number μ 62 1 2).bind _
    rw [Option.bind_assoc]
    rfl
  · refine dr_once_C h (fun j z1 z2 z3 => by rw [e1, pk_un z3]) ⟨by rw [e1, pk_un (by omega)]; exact h.2.1.1, by rw [e1, pk_un (by omega)]; exact h.2.1.2.1, by rw [e1, pk_us]; rfl⟩ e2 rfl
  · refine dr_once_M hok h (fun j hj => by rw [pk_un (by omega)]) ⟨by rw [pk_un (by omega)]; exact h.1.1, by rw [pk_un (by omega)]; exact h.1.2.1, by rw [pk_us]; rfl⟩ rfl
  · obtain ⟨o1, o4, o5, o6, o7⟩ := hok
    exact ⟨o1, o4, o5, ⟨o6.1, o6.2.1, o6.2.2.1, h1, h2, o6.2.2.2.2.2⟩, o7⟩
end ONCE
