theorem st_text {k : Nat} {σ : ww_M} {s : ww_S} {d : ww_D1} (hk : k < 64) (h : ww_Rel k σ s d) : ∃ (v : Int32) (σ1 : ww_M) (σ2 : ww_M) (s2 : ww_S) (d2 : ww_D1), f_X6_text σ = some (v, σ1) ∧ f_X7_text σ1 62 = some (v, σ2) ∧ ww_Rel (k + 1) σ2 s2 d2 := by
  sorry
theorem st_beast {k : Nat} {σ : ww_M} {s : ww_S} {d : ww_D1} (hk : k < 64) (h : ww_Rel k σ s d) (p1 p2 : Int32) : ∃ (v : Int32) (s2 : ww_S) (d2 : ww_D1), f_X6_beast σ p1 p2 = some v ∧ f_X7_beast σ 62 p1 p2 = some v ∧ ww_Rel (k + 1) σ s2 d2 := by
  sorry
theorem st_part {k : Nat} {σ : ww_M} {s : ww_S} {d : ww_D1} (hk : k < 64) (h : ww_Rel k σ s d) (p1 p2 : Int32) : ∃ (v : Int32) (s2 : ww_S) (d2 : ww_D1), f_X6_part σ p1 p2 = some v ∧ f_X7_part σ 62 p1 p2 = some v ∧ ww_Rel (k + 1) σ s2 d2 := by
  sorry
theorem st_mark {k : Nat} {σ : ww_M} {s : ww_S} {d : ww_D1} (hk : k < 64) (h : ww_Rel k σ s d) (p1 p2 : Int32) : ∃ (v : Int32) (σ1 : ww_M) (σ2 : ww_M) (s2 : ww_S) (d2 : ww_D1), f_X6_mark σ p1 p2 = some (v, σ1) ∧ f_X7_mark σ1 62 p1 p2 = some (v, σ2) ∧ ww_Rel (k + 1) σ2 s2 d2 := by
  sorry
theorem st_go {k : Nat} {σ : ww_M} {s : ww_S} {d : ww_D1} (hk : k < 64) (h : ww_Rel k σ s d) (p1 p2 : Int32) : ∃ (v : Int32) (σ1 : ww_M) (σ2 : ww_M) (s2 : ww_S) (d2 : ww_D1), f_X6_go σ p1 p2 = some (v, σ1) ∧ f_X7_go σ1 62 p1 p2 = some (v, σ2) ∧ ww_Rel (k + 1) σ2 s2 d2 := by
  sorry
theorem st_floats {k : Nat} {σ : ww_M} {s : ww_S} {d : ww_D1} (hk : k < 64) (h : ww_Rel k σ s d) (p1 : Int32) : ∃ (v : Int32) (s2 : ww_S) (d2 : ww_D1), f_X6_floats σ p1 = some v ∧ f_X7_floats σ 62 p1 = some v ∧ ww_Rel (k + 1) σ s2 d2 := by
  sorry
theorem st_best {k : Nat} {σ : ww_M} {s : ww_S} {d : ww_D1} (hk : k < 64) (h : ww_Rel k σ s d) (p1 p2 : Int32) : ∃ (v : Int32) (σ1 : ww_M) (σ2 : ww_M) (s2 : ww_S) (d2 : ww_D1), f_X6_best σ p1 p2 = some (v, σ1) ∧ f_X7_best σ1 62 p1 p2 = some (v, σ2) ∧ ww_Rel (k + 1) σ2 s2 d2 := by
  sorry
theorem st_worth {k : Nat} {σ : ww_M} {s : ww_S} {d : ww_D1} (hk : k < 64) (h : ww_Rel k σ s d) (p1 p2 : Int32) : ∃ (v : Int32) (σ1 : ww_M) (σ2 : ww_M) (s2 : ww_S) (d2 : ww_D1), f_X6_worth σ p1 p2 = some (v, σ1) ∧ f_X7_worth σ1 62 p1 p2 = some (v, σ2) ∧ ww_Rel (k + 1) σ2 s2 d2 := by
  sorry
theorem st_salted {k : Nat} {σ : ww_M} {s : ww_S} {d : ww_D1} (hk : k < 64) (h : ww_Rel k σ s d) (p1 : Int32) : ∃ (v : Int32) (σ1 : ww_M) (σ2 : ww_M) (s2 : ww_S) (d2 : ww_D1), f_X6_salted σ p1 = some (v, σ1) ∧ f_X7_salted σ1 62 p1 = some (v, σ2) ∧ ww_Rel (k + 1) σ2 s2 d2 := by
  sorry
theorem st_share {k : Nat} {σ : ww_M} {s : ww_S} {d : ww_D1} (hk : k < 64) (h : ww_Rel k σ s d) (p1 p2 : Int32) : ∃ (v : Int32) (s2 : ww_S) (d2 : ww_D1), f_X6_share σ p1 p2 = some v ∧ f_X7_share σ 62 p1 p2 = some v ∧ ww_Rel (k + 1) σ s2 d2 := by
  sorry
theorem st_laws {k : Nat} {σ : ww_M} {s : ww_S} {d : ww_D1} (hk : k < 64) (h : ww_Rel k σ s d) : ∃ (v : Int32) (s2 : ww_S) (d2 : ww_D1), f_X6_laws σ = some v ∧ f_X7_laws σ 62 = some v ∧ ww_Rel (k + 1) σ s2 d2 := by
  sorry
theorem st_whose {k : Nat} {σ : ww_M} {s : ww_S} {d : ww_D1} (hk : k < 64) (h : ww_Rel k σ s d) (p1 : Int32) : ∃ (v : Int32) (σ1 : ww_M) (σ2 : ww_M) (s2 : ww_S) (d2 : ww_D1), f_X6_whose σ p1 = some (v, σ1) ∧ f_X7_whose σ1 62 p1 = some (v, σ2) ∧ ww_Rel (k + 1) σ2 s2 d2 := by
  sorry
theorem st_strand {k : Nat} {σ : ww_M} {s : ww_S} {d : ww_D1} (hk : k < 64) (h : ww_Rel k σ s d) (p1 p2 : Int32) : ∃ (v : Int32) (s2 : ww_S) (d2 : ww_D1), f_X6_strand σ p1 p2 = some v ∧ f_X7_strand σ 62 p1 p2 = some v ∧ ww_Rel (k + 1) σ s2 d2 := by
  sorry
theorem st_luck {k : Nat} {σ : ww_M} {s : ww_S} {d : ww_D1} (hk : k < 64) (h : ww_Rel k σ s d) (p1 p2 : Int32) : ∃ (v : Int64) (s2 : ww_S) (d2 : ww_D1), f_X6_luck σ p1 p2 = some v ∧ f_X7_luck σ 62 p1 p2 = some v ∧ ww_Rel (k + 1) σ s2 d2 := by
  sorry
theorem st_open {k : Nat} {σ : ww_M} {s : ww_S} {d : ww_D1} (hk : k < 64) (h : ww_Rel k σ s d) : ∃ (v : Int32) (s2 : ww_S) (d2 : ww_D1), f_X6_open σ = some v ∧ f_X7_open σ 62 = some v ∧ ww_Rel (k + 1) σ s2 d2 := by
  sorry
theorem st_drift {k : Nat} {σ : ww_M} {s : ww_S} {d : ww_D1} (hk : k < 64) (h : ww_Rel k σ s d) (p1 p2 p3 : Int32) : ∃ (v : Int32) (σ1 : ww_M) (σ2 : ww_M) (s2 : ww_S) (d2 : ww_D1), f_X6_drift σ p1 p2 p3 = some (v, σ1) ∧ f_X7_drift σ1 62 p1 p2 p3 = some (v, σ2) ∧ ww_Rel (k + 1) σ2 s2 d2 := by
  sorry
theorem st_keep {k : Nat} {σ : ww_M} {s : ww_S} {d : ww_D1} (hk : k < 64) (h : ww_Rel k σ s d) (p1 : Int32) : ∃ (v : Int32) (σ1 : ww_M) (σ2 : ww_M) (s2 : ww_S) (d2 : ww_D1), f_X6_keep σ p1 = some (v, σ1) ∧ f_X7_keep σ1 62 p1 = some (v, σ2) ∧ ww_Rel (k + 1) σ2 s2 d2 := by
  sorry
theorem st_back {k : Nat} {σ : ww_M} {s : ww_S} {d : ww_D1} (hk : k < 64) (h : ww_Rel k σ s d) (p1 : Int32) : ∃ (v : Int32) (σ1 : ww_M) (σ2 : ww_M) (s2 : ww_S) (d2 : ww_D1), f_X6_back σ p1 = some (v, σ1) ∧ f_X7_back σ1 62 p1 = some (v, σ2) ∧ ww_Rel (k + 1) σ2 s2 d2 := by
  sorry
theorem st_sheet {k : Nat} {σ : ww_M} {s : ww_S} {d : ww_D1} (hk : k < 64) (h : ww_Rel k σ s d) (p1 p2 p3 : Int32) : ∃ (v : Int32) (σ1 : ww_M) (σ2 : ww_M) (s2 : ww_S) (d2 : ww_D1), f_X6_sheet σ p1 p2 p3 = some (v, σ1) ∧ f_X7_sheet σ1 62 p1 p2 p3 = some (v, σ2) ∧ ww_Rel (k + 1) σ2 s2 d2 := by
  sorry
theorem st_lay {k : Nat} {σ : ww_M} {s : ww_S} {d : ww_D1} (hk : k < 64) (h : ww_Rel k σ s d) (p1 p2 p3 : Int32) : ∃ (v : Int32) (σ1 : ww_M) (σ2 : ww_M) (s2 : ww_S) (d2 : ww_D1), f_X6_lay σ p1 p2 p3 = some (v, σ1) ∧ f_X7_lay σ1 62 p1 p2 p3 = some (v, σ2) ∧ ww_Rel (k + 1) σ2 s2 d2 := by
  sorry
theorem st_read {k : Nat} {σ : ww_M} {s : ww_S} {d : ww_D1} (hk : k < 64) (h : ww_Rel k σ s d) (p1 p2 p3 p4 : Int32) : ∃ (v : Int32) (σ1 : ww_M) (σ2 : ww_M) (s2 : ww_S) (d2 : ww_D1), f_X6_read σ p1 p2 p3 p4 = some (v, σ1) ∧ f_X7_read σ1 62 p1 p2 p3 p4 = some (v, σ2) ∧ ww_Rel (k + 1) σ2 s2 d2 := by
  sorry
theorem st_count {k : Nat} {σ : ww_M} {s : ww_S} {d : ww_D1} (hk : k < 64) (h : ww_Rel k σ s d) (p1 : Int32) : ∃ (v : Int32) (s2 : ww_S) (d2 : ww_D1), f_X6_count σ p1 = some v ∧ f_X7_count σ 62 p1 = some v ∧ ww_Rel (k + 1) σ s2 d2 := by
  sorry
