theorem ww_ref0 {s : ww_S} {d : ww_D1} {x y : Option (Nat × Nat)} (h : ww_ref s d x y = 0) : ¬ (x ≠ none ∧ x = y) ∧ ww_bar s d x = false ∧ ww_bar s d y = false ∧ dHr d < 999 := by
  unfold ww_ref at h
  by_cases c1 : x ≠ none ∧ x = y
  · rw [if_pos c1] at h; exact absurd h (by decide)
  · rw [if_neg c1] at h
    by_cases c2 : y ≠ none ∧ dGng d < 2
    · rw [if_pos c2] at h; exact absurd h (by decide)
    · rw [if_neg c2] at h
      by_cases c3 : ww_bar s d x = true ∨ ww_bar s d y = true
      · rw [if_pos c3] at h; exact absurd h (by decide)
      · rw [if_neg c3] at h
        by_cases c4 : dHr d < 999
        · refine ⟨c1, ?_, ?_, c4⟩
          · cases hb : ww_bar s d x
            · rfl
            · exact absurd (Or.inl hb) c3
          · cases hb : ww_bar s d y
            · rfl
            · exact absurd (Or.inr hb) c3
        · rw [if_neg c4] at h; exact absurd h (by decide)
theorem ww_ow_bar {s : ww_S} {d : ww_D1} {x : Option (Nat × Nat)} (hv : ww_vo s x) (hb : ww_bar s d x = false) : ww_ow s d x := fun q hq => by
  subst hq
  refine ⟨hv q rfl, ?_⟩
  have : ww_can s d q.1 q.2 = true := by simpa [ww_bar] using hb
  unfold ww_can at this
  simp at this
  omega
theorem ww_ow_next {s : ww_S} {d : ww_D1} {x y : Option (Nat × Nat)} (hne : ¬ (x ≠ none ∧ x = y)) (hy : ww_ow s d y) : ww_ow s (ww_wk1 s d x).2 y := fun q hq => by
  subst hq
  refine ⟨(hy q rfl).1, ?_⟩
  have h1 := (hy q rfl).2
  cases x with
  | none => exact h1
  | some r =>
    have hr : r ≠ q := fun e => hne ⟨by simp, by rw [e]⟩
    have e : dWk (ww_wk1 s d (some r)).2 q.1 q.2 = dWk d q.1 q.2 := by
      have : ¬ (q.1 = r.1 ∧ q.2 = r.2) := fun z => hr (Prod.ext z.1.symm z.2.symm)
      have e2 : dWk (ww_wkD s d r.1 r.2) q.1 q.2 = dWk d q.1 q.2 := by
        show ww_un2 (dWk d) r.1 r.2 (dWk d r.1 r.2 - 1) q.1 q.2 = _
        unfold ww_un2
        rw [if_neg this]
      simp only [ww_wk1]
      split
      · exact e2
      · exact e2
    rw [e]; exact h1
def ww_kn (s : ww_S) (x : Int32) : Prop := ∃ q, ww_vo s q ∧ x = ww_enM q
theorem ww_kn_or (s : ww_S) (x : Int32) : ww_kn s x ∨ (x ≠ -4 ∧ ¬ ww_isP s x) := by
  by_cases c : x = -4
  · exact Or.inl ⟨none, fun q e => by simp at e, c⟩
  · by_cases c2 : ww_isP s x
    · obtain ⟨b, p, hb, hp, rfl⟩ := c2
      exact Or.inl ⟨some (b, p), fun q e => by injection e with e; subst e; exact ww_vld_iff.mpr ⟨hb, hp⟩, rfl⟩
    · exact Or.inr ⟨c, c2⟩
theorem sm_goes_bad1 {σ : ww_M} {s : ww_S} {d : ww_D1} {x y : Int32} (h : ww_MO1 σ s d) (hx : x ≠ -4 ∧ ¬ ww_isP s x) : f_X7_goes σ 62 x y = some (-1, σ) := by
  unfold f_X7_goes
  rw [if_neg hx.1, sp_isPart_no h.1 h.2.2.1 hx.2]
  rfl
theorem sm_goes_bad2 {σ : ww_M} {s : ww_S} {d : ww_D1} {x y : Int32} (h : ww_MO1 σ s d) (hx : ww_kn s x) (hy : y ≠ -4 ∧ ¬ ww_isP s y) : f_X7_goes σ 62 x y = some (-1, σ) := by
  have e : f_X7_goes_j14 σ 62 x y = some (-1, σ) := by
    unfold f_X7_goes_j14
    rw [if_neg hy.1, sp_isPart_no h.1 h.2.2.1 hy.2]
    rfl
  obtain ⟨q, hq, rfl⟩ := hx
  unfold f_X7_goes
  rw [e]
  cases q with
  | none => rfl
  | some r =>
    have hne : ¬ ww_enM (some r) = -4 := by rw [ww_enM_4 h.1 hq]; simp
    rw [if_neg hne, sm_known h hq]
    rfl
theorem sp_refusal_bad1 {σ : ww_M} {o : Nat} {s : ww_S} {d : ww_D1} {x y : Int32} (h : ww_CL1 σ o s d) (hx : x ≠ -4 ∧ ¬ ww_isP s x) : f_X2_refusal σ o x y = some (-1) := by
  unfold f_X2_refusal
  rw [sp_unknown_no h hx.1 hx.2]
  rfl
theorem sp_refusal_bad2 {σ : ww_M} {o : Nat} {s : ww_S} {d : ww_D1} {x y : Int32} (h : ww_CL1 σ o s d) (hx : ww_kn s x) (hy : y ≠ -4 ∧ ¬ ww_isP s y) : f_X2_refusal σ o x y = some (-1) := by
  obtain ⟨q, hq, rfl⟩ := hx
  unfold f_X2_refusal
  rw [sp_unknown h hq, sp_unknown_no h hy.1 hy.2]
  rfl
theorem st_go {k : Nat} {σ : ww_M} {s : ww_S} {d : ww_D1} (hk : k < 64) (h : ww_Rel k σ s d) (p1 p2 : Int32) : ∃ (v : Int32) (σ1 : ww_M) (σ2 : ww_M) (s2 : ww_S) (d2 : ww_D1), f_X6_go σ p1 p2 = some (v, σ1) ∧ f_X7_go σ1 62 p1 p2 = some (v, σ2) ∧ ww_Rel (k + 1) σ2 s2 d2 := by
  have h0 := h
  obtain ⟨r1, ⟨hd, hh, e2⟩, hC, hM, hD, -⟩ := h
  have hCL : ww_CL1 σ 4 s d := ⟨r1, hd, hC⟩
  have hMO : ww_MO1 σ s d := ⟨r1, hd, hM, hD⟩
  unfold f_X6_go f_X7_go
  rcases ww_kn_or s p1 with hx | hx
  · rcases ww_kn_or s p2 with hy | hy
    · obtain ⟨x, hx, rfl⟩ := hx
      obtain ⟨y, hy, rfl⟩ := hy
      rw [sp_refusal hCL hx hy]
      simp only [Option.bind_some]
      by_cases c : ww_ref s d x y = 0
      · rw [if_pos c, sp_slotEn hCL hx, sp_slotEn hCL hy]
        simp only [Option.bind_some]
        obtain ⟨g1, g2, g3, g4⟩ := ww_ref0 c
        have ox := ww_ow_bar hx g2
        have oy := ww_ow_next g1 (ww_ow_bar hy g3)
        obtain ⟨τ, a1, a2, a3⟩ := sp_hourGoes hCL ox oy (by omega)
        have hMO2 : ww_MO1 τ s d := ⟨r1, hd, by unfold ww_MS; rw [a3 62 (by omega), a3 64 (by omega), a3 65 (by omega)]; exact hM, by rw [a3 63 (by omega)]; exact hD⟩
        obtain ⟨τ2, b1, b2, b3, b4⟩ := sm_hourGoes hMO2 ox oy (by omega)
        refine ⟨ww_hwon s d x y, τ, τ2, s, ww_hour s d x y, by rw [a1]; rfl, ?_, ?_⟩
        · rw [sm_goes hMO2 hh hx hy, if_pos c, b1]; rfl
        · refine ww_Rel_shore h0 (fun a q1 q2 => ?_) (fun j q1 q2 => ?_) (ww_okH_hour hd g4) (ww_ClsA_ext a2 (fun a q1 q2 => b3 a (by omega))) b2
          · rw [b3 a q1, a3 a (by omega)]
          · rw [b4 j q1, a3 63 (by omega)]
      · refine ⟨ww_ref s d x y, σ, σ, s, d, by rw [if_neg c], ?_, ww_Rel_up h0⟩
        rw [sm_goes hMO hh hx hy, if_neg c]; rfl
    · refine ⟨-1, σ, σ, s, d, ?_, ?_, ww_Rel_up h0⟩
      · rw [sp_refusal_bad2 hCL hx hy]; rfl
      · rw [sm_goes_bad2 hMO hx hy]; rfl
  · refine ⟨-1, σ, σ, s, d, ?_, ?_, ww_Rel_up h0⟩
    · rw [sp_refusal_bad1 hCL hx]; rfl
    · rw [sm_goes_bad1 hMO hx]; rfl
