/-! ===== whale ===== -/
def mw_R (k : Nat) (nb : Nat) (x2 : Int32) (μ : ww_M) (r : (Int32 × ww_M) ⊕ ww_M) : Prop := ∀ fuel, k ≤ fuel → ww_it (f_X7_readWhale_b21 62 (nI nb)) fuel (x2, μ) = some r
theorem mw_R_go {k nb : Nat} {x x' : Int32} {μ μ' : ww_M} {r : (Int32 × ww_M) ⊕ ww_M} (h : f_X7_readWhale_b21 62 (nI nb) (x, μ) = some (.inl (x', μ'))) (h2 : mw_R k nb x' μ' r) : mw_R (k + 1) nb x μ r := fun fuel hf => by
  obtain ⟨f', rfl⟩ : ∃ f', fuel = f' + 1 := ⟨fuel - 1, by omega⟩
  exact ww_it_more h (h2 f' (by omega))
theorem mw_R_done {k nb : Nat} {x : Int32} {μ : ww_M} {r : (Int32 × ww_M) ⊕ ww_M} (h : f_X7_readWhale_b21 62 (nI nb) (x, μ) = some (.inr r)) : mw_R (k + 1) nb x μ r := fun fuel hf => by
  obtain ⟨f', rfl⟩ : ∃ f', fuel = f' + 1 := ⟨fuel - 1, by omega⟩
  exact ww_it_done h
def mw_o (nb : Nat) (m : (Int32 × ww_M) ⊕ ww_M) : Option ww_M := match m with
  | .inl b => f_X7_readWhale_j119 b.2 62 (nI nb) b.1
  | .inr g => some g
theorem mw_119 {nb : Nat} {μ : ww_M} {x : Int32} (hnb : nb < 3) (h : μ 62 11 = nI nb) : f_X7_readWhale_j119 μ 62 (nI nb) x = some (ww_up (ww_up μ 68 (2 * nb + 1) x) 62 11 (nI (nb + 1))) := by
  unfold f_X7_readWhale_j119
  rw [show (2 : Int32) * nI nb + 1 = nI (2 * nb + 1) from by rw [show (2 : Int32) * nI nb = nI (2 * nb) from n_mul 2 nb, nI_1], n_in (show 2 * nb + 1 < 6 by omega) (by omega), n_ckt, n_ix (by omega), show ww_up μ (62 + 6) (2 * nb + 1) x 62 11 = nI nb by rw [ww_up_ne (by omega)]; exact h, nI_1]
theorem fr_119 (ν : ww_M) (j : Nat) (x v : Int32) : fr_M ν (ww_up (ww_up ν 68 j x) 62 11 v) := ⟨fun a z1 z2 z3 z4 => by rw [ww_up_ne z1, ww_up_ne z4], fun j hj => by rw [ww_up_eq, pk_un (by omega), ww_up_ne (by omega)]⟩
theorem fr_66 (ν : ww_M) (j : Nat) (v : Int32) : fr_M ν (ww_up ν 66 j v) := ⟨fun a z1 z2 z3 z4 => ww_up_ne z2, fun j hj => by rw [ww_up_ne (by omega)]⟩
theorem fr_68 (ν : ww_M) (j : Nat) (v : Int32) : fr_M ν (ww_up ν 68 j v) := ⟨fun a z1 z2 z3 z4 => ww_up_ne z4, fun j hj => by rw [ww_up_ne (by omega)]⟩
def wd_ok (k j nb : Nat) (x2 : Int32) (σ μ : ww_M) (n : Nat) (y : Nat → Nat) (p : Nat) (B : Nat → Bool) : Prop := ∃ τ ν s d q m, cl_R 6 j σ (.inr (1, τ)) ∧ (mw_R k nb x2 μ m ∧ (mw_o nb m).bind (fun v => f_X7_readLine_j194 v 62) = some ν) ∧ (p ≤ q ∧ q ≤ n) ∧ τ 1 2 = nI q ∧ tk_M ν n y q ∧ dr_C τ s d B ∧ dr_M ν s d B ∧ dr_ok s d ∧ fr_C σ τ ∧ fr_M μ ν
def wd_bad (k j nb : Nat) (x2 : Int32) (σ μ : ww_M) : Prop := ∃ f at', cl_F 6 j σ f at' ∧ (1 ≤ f ∧ f ≤ 5 ∧ at' ≤ 160) ∧ ∃ ν m, (mw_R k nb x2 μ m ∧ (mw_o nb m).bind (fun v => f_X7_readLine_j194 v 62) = some ν) ∧ ν 62 16 = nI f ∧ ν 62 17 = nI at' ∧ (∃ nb, nb ≤ 3 ∧ ν 62 11 = nI nb) ∧ fr_M μ ν
/-- once it is broken -/
theorem mw_br {k nb f at' P : Nat} {μ : ww_M} (hnb : nb < 3) (h16 : μ 62 16 = nI f) (h1 : 1 ≤ f) (h2 : f < 100) (h17 : μ 62 17 = nI at') (h11 : μ 62 11 = nI nb) : ∃ ν m, (mw_R (k + 1) nb (nI P) μ m ∧ (mw_o nb m).bind (fun v => f_X7_readLine_j194 v 62) = some ν) ∧ ν 62 16 = nI f ∧ ν 62 17 = nI at' ∧ (∃ nb, nb ≤ 3 ∧ ν 62 11 = nI nb) ∧ fr_M μ ν := by
  have h0 : ¬ μ 62 16 = 0 := by rw [h16, show (0 : Int32) = nI 0 from rfl, n_eq (by omega) (by omega)]; omega
  have e16 : ww_up (ww_up μ 68 (2 * nb + 1) (nI P)) 62 11 (nI (nb + 1)) 62 16 = nI f := by
    rw [ww_up_eq, pk_un (by omega), ww_up_ne (by omega)]; exact h16
  refine ⟨ww_up (ww_up μ 68 (2 * nb + 1) (nI P)) 62 11 (nI (nb + 1)), .inl (nI P, μ), ⟨mw_R_done ?_, ?_⟩, e16, ?_, ⟨nb + 1, by omega, ?_⟩, fr_119 _ _ _ _⟩
  · unfold f_X7_readWhale_b21
    rw [if_neg h0]
  · show (f_X7_readWhale_j119 μ 62 (nI nb) (nI P)).bind _ = _
    rw [mw_119 hnb h11]
    exact sm_end_br e16 h1 h2
  · rw [ww_up_eq, pk_un (by omega), ww_up_ne (by omega)]; exact h17
  · rw [ww_up_eq, pk_us]
def wh_C (P nb v0 : Nat) (wo wk lu : Nat → Nat) (σ0 σ : ww_M) : Prop := σ 14 = upd (σ0 14) 11 (nI (nb + 1)) ∧ (∀ a, a = 15 ∨ a = 16 ∨ a = 17 ∨ a = 23 ∨ a = 3 → σ a = σ0 a) ∧ σ 18 = upd (σ0 18) nb (nI v0) ∧ (∀ b, b < nb → σ 19 b = σ0 19 b) ∧ σ 19 nb = nI P ∧ (∀ i, i < 3 * nb → σ 20 i = σ0 20 i ∧ σ 21 i = σ0 21 i ∧ σ 22 i = σ0 22 i) ∧ ∀ q, q < P → σ 20 (3 * nb + q) = nI (wo q) ∧ σ 21 (3 * nb + q) = nI (wk q) ∧ σ 22 (3 * nb + q) = nI (lu q)
def wh_M (P nb v0 : Nat) (wo wk lu : Nat → Nat) (μ0 μ : ww_M) : Prop := (∀ j, j = 9 ∨ j = 10 ∨ j = 11 ∨ j = 12 → μ 62 j = μ0 62 j) ∧ (∀ j, j < 18 + 9 * nb ∨ 27 + 9 * nb ≤ j → μ 66 j = μ0 66 j) ∧ (∀ q, q < P → μ 66 (18 + 9 * nb + 3 * q) = nI (wo q) ∧ μ 66 (18 + 9 * nb + 3 * q + 1) = nI (wk q) ∧ μ 66 (18 + 9 * nb + 3 * q + 2) = nI (lu q)) ∧ μ 67 = μ0 67 ∧ μ 68 = upd (μ0 68) (2 * nb) (nI v0)
def sAddB (s : ww_S) (v0 P : Nat) : ww_S := (s.1, s.2.1, sNb s + 1, s.2.2.2.1, ww_un (sHd s) (sNb s) v0, ww_un (sPt s) (sNb s) P)
def ww_ub (f : Nat → Nat → Nat) (nb : Nat) (g : Nat → Nat) : Nat → Nat → Nat := fun b p => if b = nb then g p else f b p
def dAddB (d : ww_D1) (nb : Nat) (wo wk lu : Nat → Nat) : ww_D1 := (d.1, d.2.1, d.2.2.1, d.2.2.2.1, d.2.2.2.2.1, d.2.2.2.2.2.1, ww_ub (dWo d) nb wo, ww_ub (dWk d) nb wk, ww_ub (dLu d) nb lu, d.2.2.2.2.2.2.2.2.2)
theorem dr_whale_C {σ0 σ : ww_M} {s : ww_S} {d : ww_D1} {B : Nat → Bool} {P v0 : Nat} {wo wk lu : Nat → Nat} (hok : dr_ok s d) (h : dr_C σ0 s d B) (hw : wh_C P (sNb s) v0 wo wk lu σ0 σ) : dr_C σ (sAddB s v0 P) (dAddB d (sNb s) wo wk lu) B := by
  obtain ⟨w14, wa, w18, w19, w19n, wp, wn⟩ := hw
  obtain ⟨⟨⟨c1, c2, c3⟩, ⟨c4, c5, c6, c7, c8⟩, c9, c10, c11, c12, c13⟩, hrest⟩ := h
  refine ⟨?_, by rw [wa 3 (by omega)]; exact hrest.1, by rw [wa 17 (by omega)]; exact hrest.2⟩
  unfold ww_ClsA
  rw [w14, show σ (14 + 1) = _ from wa 15 (by omega), show σ (14 + 2) = _ from wa 16 (by omega), show σ (14 + 3) = _ from wa 17 (by omega), show σ (14 + 4) = _ from w18, show σ (14 + 9) = _ from wa 23 (by omega)]
  refine ⟨⟨by rw [pk_un (by decide)]; exact c1, by rw [pk_un (by decide)]; exact c2, pk_us⟩, ⟨by rw [pk_un (by decide)]; exact c4, by rw [pk_un (by decide)]; exact c5, by rw [pk_un (by decide)]; exact c6, by rw [pk_un (by decide)]; exact c7, by rw [pk_un (by decide)]; exact c8⟩, c9, c10, fun b hb => ?_, fun b hb p hp => ?_, c13⟩
  · have hb' : b < sNb s + 1 := hb
    show upd (σ0 18) (sNb s) (nI v0) b = nI (ww_un (sHd s) (sNb s) v0 b) ∧ σ 19 b = nI (ww_un (sPt s) (sNb s) P b)
    unfold ww_un
    by_cases e : b = sNb s
    · rw [e, pk_us, if_pos rfl, if_pos rfl]; exact ⟨rfl, w19n⟩
    · rw [pk_un e, if_neg e, if_neg e, w19 b (by omega)]; exact c11 b (by omega)
  · have hb' : b < sNb s + 1 := hb
    have hp' : p < ww_un (sPt s) (sNb s) P b := hp
    show σ 20 (3 * b + p) = nI (ww_ub (dWo d) (sNb s) wo b p) ∧ σ 21 (3 * b + p) = nI (ww_ub (dWk d) (sNb s) wk b p) ∧ σ 22 (3 * b + p) = nI (ww_ub (dLu d) (sNb s) lu b p)
    unfold ww_ub
    unfold ww_un at hp'
    by_cases e : b = sNb s
    · rw [if_pos e] at hp'
      rw [if_pos e, if_pos e, if_pos e, e]
      exact wn p hp'
    · rw [if_neg e] at hp'
      rw [if_neg e, if_neg e, if_neg e]
      have h3 := hok.2.2.1 b (by omega)
      obtain ⟨q1, q2, q3⟩ := wp (3 * b + p) (by omega)
      rw [q1, q2, q3]
      exact c12 b (by omega) p hp'
theorem dr_whale_M {μ0 μ ν : ww_M} {s : ww_S} {d : ww_D1} {B : Nat → Bool} {P v0 : Nat} {wo wk lu : Nat → Nat} (hok : dr_ok s d) (hnb : sNb s < 3) (hP : P ≤ 3) (h : dr_M μ0 s d B) (hw : wh_M P (sNb s) v0 wo wk lu μ0 μ) (eν : ν = ww_up (ww_up μ 68 (2 * sNb s + 1) (nI P)) 62 11 (nI (sNb s + 1))) : dr_M ν (sAddB s v0 P) (dAddB d (sNb s) wo wk lu) B := by
  obtain ⟨w62, w66, w66n, w67, w68⟩ := hw
  obtain ⟨⟨e9, e10, e11⟩, ⟨⟨a1, a2, a3, a4⟩, a5, a6, a7, a8⟩, hl, hb, hB⟩ := h
  have n66 : ν 66 = μ 66 := by rw [eν, ww_up_ne (by omega), ww_up_ne (by omega)]
  have hnp := hok.1.1
  refine ⟨⟨?_, ?_, ?_⟩, ?_, fun j hj => ?_, fun b hb' => ?_, ?_⟩
  · rw [eν, ww_up_eq, pk_un (by omega), ww_up_ne (by omega), w62 9 (by omega)]; exact e9
  · rw [eν, ww_up_eq, pk_un (by omega), ww_up_ne (by omega), w62 10 (by omega)]; exact e10
  · rw [eν, ww_up_eq, pk_us]; rfl
  · rw [n66]
    refine ⟨⟨?_, ?_, ?_, ?_⟩, fun b hb => ?_, fun i hi => ?_, fun b hb p hp => ?_, fun k hk => ?_⟩
    · rw [w66 _ (by omega)]; exact a1
    · rw [w66 _ (by omega)]; exact a2
    · rw [w66 _ (by omega)]; exact a3
    · rw [w66 _ (by omega)]; exact a4
    · rw [w66 _ (by omega)]; exact a5 b hb
    · have hi' : i < sNp s := hi
      rw [w66 _ (by omega), w66 _ (by omega)]; exact a6 i hi
    · have hb' : b < sNb s + 1 := hb
      have hp' : p < ww_un (sPt s) (sNb s) P b := hp
      show μ 66 (0 + 18 + 9 * b + 3 * p) = nI (ww_ub (dWo d) (sNb s) wo b p) ∧ μ 66 (0 + 18 + 9 * b + 3 * p + 1) = nI (ww_ub (dWk d) (sNb s) wk b p) ∧ μ 66 (0 + 18 + 9 * b + 3 * p + 2) = nI (ww_ub (dLu d) (sNb s) lu b p)
      unfold ww_ub
      unfold ww_un at hp'
      by_cases e : b = sNb s
      · rw [if_pos e] at hp'
        rw [if_pos e, if_pos e, if_pos e, e, Nat.zero_add]
        exact w66n p hp'
      · rw [if_neg e] at hp'
        rw [if_neg e, if_neg e, if_neg e]
        have h3 := hok.2.2.1 b (by omega)
        rw [w66 _ (by omega), w66 _ (by omega), w66 _ (by omega)]
        exact a7 b (by omega) p hp'
    · rw [w66 _ (by omega)]; exact a8 k hk
  · rw [eν, ww_up_ne (by omega), ww_up_ne (by omega), w67]; exact hl j hj
  · have hb2 : b < sNb s + 1 := hb'
    show ν 68 (2 * b) = nI (ww_un (sHd s) (sNb s) v0 b) ∧ ν 68 (2 * b + 1) = nI (ww_un (sPt s) (sNb s) P b)
    unfold ww_un
    rw [eν, ww_up_ne (by omega), ww_up_eq, w68]
    by_cases e : b = sNb s
    · rw [if_pos e, if_pos e, e, pk_us, pk_un (by omega), pk_us]; exact ⟨rfl, rfl⟩
    · rw [if_neg e, if_neg e, pk_un (by omega), pk_un (by omega), pk_un (by omega), pk_un (by omega)]
      exact hb b (by omega)
  · rw [eν, ww_up_eq, pk_un (by omega), ww_up_ne (by omega), w62 12 (by omega)]; exact hB
theorem dr_whale_ok {s : ww_S} {d : ww_D1} {P v0 : Nat} {wo wk lu : Nat → Nat} (hok : dr_ok s d) (hnb : sNb s < 3) (h1 : 1 ≤ P) (h3 : P ≤ 3) (hv0 : v0 ≤ 5) (hb : ∀ q, q < P → wo q ≤ 9 ∧ wk q ≤ 3 ∧ lu q ≤ 8) : dr_ok (sAddB s v0 P) (dAddB d (sNb s) wo wk lu) := by
  obtain ⟨⟨o1, o2, o3⟩, o4, o5, o6, o7, o8, o9⟩ := hok
  refine ⟨⟨o1, o2, show sNb s + 1 ≤ 3 by omega⟩, o4, fun b hb' => ?_, o6, o7, fun b hb' p hp => ?_, o9⟩
  · have hb2 : b < sNb s + 1 := hb'
    show 1 ≤ ww_un (sPt s) (sNb s) P b ∧ ww_un (sPt s) (sNb s) P b ≤ 3 ∧ ww_un (sHd s) (sNb s) v0 b ≤ 5
    unfold ww_un
    by_cases e : b = sNb s
    · rw [if_pos e, if_pos e]; exact ⟨h1, h3, hv0⟩
    · rw [if_neg e, if_neg e]; exact o5 b (by omega)
  · have hb2 : b < sNb s + 1 := hb'
    have hp' : p < ww_un (sPt s) (sNb s) P b := hp
    show ww_ub (dWo d) (sNb s) wo b p ≤ 9 ∧ ww_ub (dWk d) (sNb s) wk b p ≤ 3 ∧ ww_ub (dLu d) (sNb s) lu b p ≤ 8
    unfold ww_ub
    unfold ww_un at hp'
    by_cases e : b = sNb s
    · rw [if_pos e] at hp'
      rw [if_pos e, if_pos e, if_pos e]; exact hb p hp'
    · rw [if_neg e] at hp'
      rw [if_neg e, if_neg e, if_neg e]; exact o8 b (by omega) p hp'
/-! the class's small functions of a whale -/
theorem wf_1 {P : Nat} (h : P < 3) : (∀ τ : ww_M, f_X5_isTooMany τ 14 (nI 6) (nI (3 * P + 1)) = some 0) ∧ f_X5_lowest (nI 6) (nI (3 * P + 1)) = some (nI 0) ∧ f_X5_highest (nI 6) (nI (3 * P + 1)) = some (nI 9) ∧ (P = 0 → f_X5_mayStop (nI 6) (nI (3 * P + 1)) = some 0) := by
  rcases (show P = 0 ∨ P = 1 ∨ P = 2 by omega) with rfl | rfl | rfl <;> exact ⟨fun τ => rfl, rfl, rfl, fun e => by first | rfl | omega⟩
theorem wf_2 {P : Nat} (h : P < 3) : (∀ τ : ww_M, f_X5_isTooMany τ 14 (nI 6) (nI (3 * P + 2)) = some 0) ∧ f_X5_lowest (nI 6) (nI (3 * P + 2)) = some (nI 1) ∧ f_X5_highest (nI 6) (nI (3 * P + 2)) = some (nI 3) ∧ f_X5_mayStop (nI 6) (nI (3 * P + 2)) = some 0 := by
  rcases (show P = 0 ∨ P = 1 ∨ P = 2 by omega) with rfl | rfl | rfl <;> exact ⟨fun τ => rfl, rfl, rfl, rfl⟩
theorem wf_3 {P : Nat} (h : P < 3) : (∀ τ : ww_M, f_X5_isTooMany τ 14 (nI 6) (nI (3 * P + 3)) = some 0) ∧ f_X5_lowest (nI 6) (nI (3 * P + 3)) = some (nI 0) ∧ f_X5_highest (nI 6) (nI (3 * P + 3)) = some (nI 8) ∧ f_X5_mayStop (nI 6) (nI (3 * P + 3)) = some 0 := by
  rcases (show P = 0 ∨ P = 1 ∨ P = 2 by omega) with rfl | rfl | rfl <;> exact ⟨fun τ => rfl, rfl, rfl, rfl⟩
theorem wf_s {P : Nat} (h1 : 1 ≤ P) (h3 : P ≤ 3) : f_X5_mayStop (nI 6) (nI (3 * P + 1)) = some 1 := by
  rcases (show P = 1 ∨ P = 2 ∨ P = 3 by omega) with rfl | rfl | rfl <;> rfl
theorem wf_put {τ : ww_M} {P nb v t c : Nat} (hP : P < 3) (hnb : nb < 3) (h11 : τ 14 11 = nI (nb + 1)) (ht : (t = 1 ∧ c = 20) ∨ (t = 2 ∧ c = 21) ∨ (t = 3 ∧ c = 22)) : f_X5_put τ 14 (nI 6) (nI (3 * P + t)) (nI v) = some (ww_up (ww_up τ c (3 * nb + P) (nI v)) 19 nb (nI (P + 1))) := by
  have h0 : f_X5_put τ 14 (nI 6) (nI (3 * P + t)) (nI v) = (f_X2_putWhale τ 14 (nI (3 * P + t)) (nI v)).bind (fun v80 => some v80) := rfl
  rw [h0]
  unfold f_X2_putWhale f_X2_putWhale_j45
  have e0 : ¬ nI (3 * P + t) = 0 := by rw [show (0 : Int32) = nI 0 from rfl, n_eq (by omega) (by omega)]; omega
  have e1 : nI (nb + 1) - 1 = nI nb := by rw [show (1 : Int32) = nI 1 from rfl, n_sub (by omega)]; rfl
  have e2 : (nI (3 * P + t) - 1) / 3 = nI P := by
    rw [show (1 : Int32) = nI 1 from rfl, n_sub (by omega), show (3 : Int32) = nI 3 from rfl, n_div (by omega) (by omega) (by omega)]
    congr 1
    omega
  have e3 : nI nb * 3 + nI P = nI (3 * nb + P) := by
    rw [show (3 : Int32) = nI 3 from rfl, n_mul, n_add]
    congr 1
    omega
  have e4 : ww_rem (nI (3 * P + t)) 3 = nI (t % 3) := by
    rw [show (3 : Int32) = nI 3 from rfl, n_rem (by omega) (by omega) (by omega)]
    congr 1
    omega
  rw [if_neg e0, h11, ww_within, if_pos ⟨nI_le (a := 1) (by omega) (by omega), nI_le (b := 3) (by omega) (by omega)⟩]
  simp only [Option.bind_some]
  rw [if_neg (by decide), ww_within, if_pos ⟨nI_le (a := 1) (by omega) (by omega), nI_le (b := 9) (by omega) (by omega)⟩]
  simp only [Option.bind_some]
  rw [if_neg (by decide), e1, e2, e3, e4, n_in (show 3 * nb + P < 9 by omega) (by omega), n_in (show nb < 3 from hnb) (by omega), n_ix (show 3 * nb + P < 2147483648 by omega), n_ix (show nb < 2147483648 by omega), nI_1]
  rcases ht with ⟨rfl, rfl⟩ | ⟨rfl, rfl⟩ | ⟨rfl, rfl⟩
  · rfl
  · rfl
  · rfl
