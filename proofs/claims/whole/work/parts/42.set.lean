theorem st_law {k : Nat} {σ : ww_M} {s : ww_S} {d : ww_D1} (hk : k < 64) (h : ww_Rel k σ s d) (p1 : Int32) : ∃ (v : Int32) (σ1 : ww_M) (σ2 : ww_M) (s2 : ww_S) (d2 : ww_D1), f_X6_law σ p1 = some (v, σ1) ∧ f_X7_law σ1 62 p1 = some (v, σ2) ∧ ww_Rel (k + 1) σ2 s2 d2 := by
  have h0 := h
  obtain ⟨r1, ⟨⟨d1, d2, d3, d4, d5, d6, d7, d8, d9⟩, e1, e2⟩, hC, r4, hM, r6⟩ := h
  unfold f_X6_law f_X7_law
  rw [ww_within]
  simp only [Option.bind_some, ww_b01, ww_inI (x := p1) (a := 0) (b := 3) 0 3 rfl rfl]
  by_cases c : 0 ≤ p1 ∧ p1 ≤ 3
  · obtain ⟨n, -, hn, rfl⟩ := ww_btw (a := 0) (b := 3) (by omega) c (by omega)
    refine ⟨σ 4 12, ww_up σ 4 12 (nI n), ww_up (ww_up σ 4 12 (nI n)) 63 12 (nI n), s, dsLaw d n, ?_, ?_, ?_⟩
    · rw [if_neg (fun q => q c)]
    · rw [if_pos c, show (12 : Int32) = nI 12 from rfl, ww_sets (by omega), if_neg (by decide)]
      simp only [Option.bind_some, ww_up_ne (show (63 : Nat) ≠ 4 by decide)]
      rw [hC.2.1.1, show σ 63 12 = nI (dLaw d) from hM.1.1]
    · refine ww_Rel_shore h0 (fun a q1 q2 => by rw [ww_up_ne q1, ww_up_ne (by omega)]) (fun j q1 q2 => by rw [ww_up_eq, pk_un (by omega), ww_up_ne (by decide)]) ⟨⟨hn, d2, d3, d4, d5, d6, d7, d8, d9⟩, e1, e2⟩ (ww_ClsA_ext (uc_law r1 hC n) (fun a q1 q2 => ww_up_ne (by omega))) ?_
      rw [ww_up_eq, ww_up_ne (by decide)]
      exact um_law (pg := 0) r1 hM n
  · exact ⟨-1, σ, σ, s, d, by rw [if_pos c], by rw [if_neg c]; rfl, ww_Rel_up h0⟩
