theorem st_text {k : Nat} {σ : ww_M} {s : ww_S} {d : ww_D1} (hk : k < 64) (h : ww_Rel k σ s d) : ∃ (v : Int32) (σ1 : ww_M) (σ2 : ww_M) (s2 : ww_S) (d2 : ww_D1), f_X6_text σ = some (v, σ1) ∧ f_X7_text σ1 62 = some (v, σ2) ∧ ww_Rel (k + 1) σ2 s2 d2 := by
  sorry
theorem st_best {k : Nat} {σ : ww_M} {s : ww_S} {d : ww_D1} (hk : k < 64) (h : ww_Rel k σ s d) (p1 p2 : Int32) : ∃ (v : Int32) (σ1 : ww_M) (σ2 : ww_M) (s2 : ww_S) (d2 : ww_D1), f_X6_best σ p1 p2 = some (v, σ1) ∧ f_X7_best σ1 62 p1 p2 = some (v, σ2) ∧ ww_Rel (k + 1) σ2 s2 d2 := by
  sorry
theorem st_worth {k : Nat} {σ : ww_M} {s : ww_S} {d : ww_D1} (hk : k < 64) (h : ww_Rel k σ s d) (p1 p2 : Int32) : ∃ (v : Int32) (σ1 : ww_M) (σ2 : ww_M) (s2 : ww_S) (d2 : ww_D1), f_X6_worth σ p1 p2 = some (v, σ1) ∧ f_X7_worth σ1 62 p1 p2 = some (v, σ2) ∧ ww_Rel (k + 1) σ2 s2 d2 := by
  sorry
theorem st_salted {k : Nat} {σ : ww_M} {s : ww_S} {d : ww_D1} (hk : k < 64) (h : ww_Rel k σ s d) (p1 : Int32) : ∃ (v : Int32) (σ1 : ww_M) (σ2 : ww_M) (s2 : ww_S) (d2 : ww_D1), f_X6_salted σ p1 = some (v, σ1) ∧ f_X7_salted σ1 62 p1 = some (v, σ2) ∧ ww_Rel (k + 1) σ2 s2 d2 := by
  sorry
theorem st_drift {k : Nat} {σ : ww_M} {s : ww_S} {d : ww_D1} (hk : k < 64) (h : ww_Rel k σ s d) (p1 p2 p3 : Int32) : ∃ (v : Int32) (σ1 : ww_M) (σ2 : ww_M) (s2 : ww_S) (d2 : ww_D1), f_X6_drift σ p1 p2 p3 = some (v, σ1) ∧ f_X7_drift σ1 62 p1 p2 p3 = some (v, σ2) ∧ ww_Rel (k + 1) σ2 s2 d2 := by
  sorry
theorem st_read {k : Nat} {σ : ww_M} {s : ww_S} {d : ww_D1} (hk : k < 64) (h : ww_Rel k σ s d) (p1 p2 p3 p4 : Int32) : ∃ (v : Int32) (σ1 : ww_M) (σ2 : ww_M) (s2 : ww_S) (d2 : ww_D1), f_X6_read σ p1 p2 p3 p4 = some (v, σ1) ∧ f_X7_read σ1 62 p1 p2 p3 p4 = some (v, σ2) ∧ ww_Rel (k + 1) σ2 s2 d2 := by
  sorry
