/-! ===== steps that only look, and frames ===== -/
theorem ww_ModD_ext {fs gs : Nat → Int32} {pg : Nat} {s : ww_S} {d : ww_D1} (hs : ww_okS s) (h : ww_ModD fs pg s d) (he : ∀ j, pg ≤ j → j < pg + 50 → gs j = fs j) : ww_ModD gs pg s d := by
  obtain ⟨o1, o2, o3, o4, o5, o6, o7⟩ := hs
  obtain ⟨⟨a1, a2, a3, a4⟩, a5, a6, a7, a8⟩ := h
  refine ⟨⟨?_, ?_, ?_, ?_⟩, fun b hb => ?_, fun i hi => ?_, fun b hb p hp => ?_, fun k hk => ?_⟩
  · rw [he _ (by omega) (by omega)]; exact a1
  · rw [he _ (by omega) (by omega)]; exact a2
  · rw [he _ (by omega) (by omega)]; exact a3
  · rw [he _ (by omega) (by omega)]; exact a4
  · rw [he _ (by omega) (by omega)]; exact a5 b hb
  · rw [he _ (by omega) (by omega), he _ (by omega) (by omega)]; exact a6 i hi
  · have := o6 b hb
    rw [he _ (by omega) (by omega), he _ (by omega) (by omega), he _ (by omega) (by omega)]; exact a7 b hb p hp
  · rw [he _ (by omega) (by omega)]; exact a8 k hk
def ww_okH (s : ww_S) (d : ww_D1) : Prop := ww_okD s d ∧ dHr d ≤ 999 ∧ ∀ b, b < sNb s → ww_flt s d b (dHr d) = true → dLost d b = true
theorem ww_ClsA_ext {σ τ : ww_M} {o : Nat} {s : ww_S} {d : ww_D1} (h : ww_ClsA σ o s d) (he : ∀ a, o ≤ a → a < o + 10 → τ a = σ a) : ww_ClsA τ o s d := by
  unfold ww_ClsA at h ⊢
  rw [he o (by omega) (by omega), he (o + 1) (by omega) (by omega), he (o + 2) (by omega) (by omega), he (o + 3) (by omega) (by omega), he (o + 4) (by omega) (by omega), he (o + 5) (by omega) (by omega), he (o + 6) (by omega) (by omega), he (o + 7) (by omega) (by omega), he (o + 8) (by omega) (by omega), he (o + 9) (by omega) (by omega)]
  exact h
/-- a change of the shore alone (and of what is scratch) -/
theorem ww_Rel_shore {k : Nat} {σ τ : ww_M} {s : ww_S} {d d' : ww_D1} (h : ww_Rel k σ s d) (hc : ∀ a, a ≠ 63 → (a < 4 ∨ 24 ≤ a) → τ a = σ a) (h63 : ∀ j, 50 ≤ j → j < 150 → τ 63 j = σ 63 j) (hok : ww_okH s d') (hC : ww_ClsA τ 4 s d') (hM : ww_ModD (τ 63) 0 s d') : ww_Rel (k + 1) τ s d' := by
  obtain ⟨r1, r2, r3, r4, r5, r6, r7, r8, ⟨n, q1, q2, q3⟩, ⟨kb, k1, k2, k3⟩, r11, r12, r13, r14⟩ := h
  refine ⟨r1, hok, hC, ?_, hM, ?_, ?_, ?_, ⟨n, by omega, ?_, ?_⟩, ⟨kb, k1, ?_, fun j hj => ⟨?_, fun ht => ?_⟩⟩, fun j hj => ?_, ?_, ?_, ?_⟩
  · rw [hc 62 (by omega) (by omega), hc 64 (by omega) (by omega), hc 65 (by omega) (by omega)]; exact r4
  · rw [hc 1 (by omega) (by omega), hc 2 (by omega) (by omega), hc 62 (by omega) (by omega), hc 69 (by omega) (by omega)]; exact r6
  · rw [hc 3 (by omega) (by omega), hc 62 (by omega) (by omega)]; exact r7
  · rw [hc 45 (by omega) (by omega), hc 46 (by omega) (by omega), hc 47 (by omega) (by omega), hc 62 (by omega) (by omega), hc 75 (by omega) (by omega)]; exact r8
  · rw [hc 48 (by omega) (by omega)]; exact q2
  · rw [hc 49 (by omega) (by omega)]; exact q3
  · rw [hc 0 (by omega) (by omega)]; exact k2
  · rw [hc 76 (by omega) (by omega)]; exact (k3 j hj).1
  · obtain ⟨d2, e1, e2, e3⟩ := (k3 j hj).2 ht
    exact ⟨d2, e1, ww_ClsA_ext e2 (fun a h1 h2 => hc a (by omega) (by omega)), ww_ModD_ext r1 e3 (fun a h1 h2 => h63 a (by omega) (by omega))⟩
  · rw [hc (54 + 2 * j) (by omega) (by omega), hc (55 + 2 * j) (by omega) (by omega), hc 77 (by omega) (by omega), hc 78 (by omega) (by omega), hc 79 (by omega) (by omega)]; exact r11 j hj
  · rw [hc 0 (by omega) (by omega), hc 62 (by omega) (by omega)]; exact r12
  · rw [hc 70 (by omega) (by omega)]; exact r13
  · rw [hc 71 (by omega) (by omega)]; exact r14
theorem ww_Rel_up {k : Nat} {σ : ww_M} {s : ww_S} {d : ww_D1} (h : ww_Rel k σ s d) : ww_Rel (k + 1) σ s d := by
  obtain ⟨r1, r2, r3, r4, r5, r6, r7, r8, ⟨n, q1, q2, q3⟩, r10⟩ := h
  exact ⟨r1, r2, r3, r4, r5, r6, r7, r8, ⟨n, by omega, q2, q3⟩, r10⟩
theorem ww_two {α : Type} {k : Nat} {σ : ww_M} {s : ww_S} {d : ww_D1} {E F : Option α} (e : F = E) (hE : E.isSome = true) (h : ww_Rel k σ s d) : ∃ (v : α) (s2 : ww_S) (d2 : ww_D1), E = some v ∧ F = some v ∧ ww_Rel k σ s2 d2 := by
  obtain ⟨v, hv⟩ := Option.isSome_iff_exists.mp hE
  exact ⟨v, s, d, hv, e.trans hv, h⟩
theorem st_fault {k : Nat} {σ : ww_M} {s : ww_S} {d : ww_D1} (hk : k < 64) (h : ww_Rel k σ s d) : ∃ (v : Int32) (s2 : ww_S) (d2 : ww_D1), f_X6_fault σ = some v ∧ f_X7_fault σ 62 = some v ∧ ww_Rel (k + 1) σ s2 d2 := by
  refine ⟨σ 3 0, s, d, rfl, ?_, ww_Rel_up h⟩
  obtain ⟨r1, r2, r3, r4, r5, r6, r7, r8⟩ := h
  unfold f_X7_fault
  rw [r7]
theorem st_torn {k : Nat} {σ : ww_M} {s : ww_S} {d : ww_D1} (hk : k < 64) (h : ww_Rel k σ s d) : ∃ (v : Int32) (s2 : ww_S) (d2 : ww_D1), f_X6_torn σ = some v ∧ f_X7_torn σ 62 = some v ∧ ww_Rel (k + 1) σ s2 d2 := by
  refine ⟨σ 0 9, s, d, rfl, ?_, ww_Rel_up h⟩
  obtain ⟨r1, r2, r3, r4, r5, r6, r7, r8, r9, r10, r11, r12, r13⟩ := h
  unfold f_X7_torn
  rw [r12]
theorem st_rule {k : Nat} {σ : ww_M} {s : ww_S} {d : ww_D1} (hk : k < 64) (h : ww_Rel k σ s d) (p1 : Int32) : ∃ (v : Int32) (s2 : ww_S) (d2 : ww_D1), f_X6_rule σ p1 = some v ∧ f_X7_rule σ 62 p1 = some v ∧ ww_Rel (k + 1) σ s2 d2 := by
  have h0 := ww_Rel_up h
  obtain ⟨r1, r2, ⟨⟨c1, c2, c3⟩, ⟨c4, c5, c6, c7, c8⟩, c9⟩, ⟨m1, m2, m3, m4⟩, ⟨⟨m5, m6, m7, m8⟩, m9⟩, r6⟩ := h
  have n1 : σ 63 13 = nI (dRot d) - 4 := m6
  have n2 : σ 63 14 = nI (dGng d) - 1 := m7
  have n3 : σ 63 12 = nI (dLaw d) := m5
  have n4 : σ 63 45 = nI (dHr d) := m8
  have e1 : f_X7_rotNow σ 62 = some (nI (dRot d)) := by
    unfold f_X7_rotNow
    rw [show σ (62 + 1) 13 = nI (dRot d) - 4 from n1, Int32.sub_add_cancel]
  unfold f_X6_rule f_X7_rule
  simp only [c1, c2, c3, c4, c5, c6, c7, m1, m2, m3, e1, Option.bind_some, show σ (62 + 1) 12 = _ from n3, show σ (62 + 1) 14 = _ from n2, show σ (62 + 1) 45 = _ from n4, Int32.sub_add_cancel]
  exact ww_two rfl (by (repeat' split) <;> rfl) h0
theorem ww_sets {σ : ww_M} {j : Nat} {g x : Int32} (hj : j < 200) : f_X7_sets σ 62 g (nI j) x = if g = 0 then some (-1, σ) else some (σ 63 j, ww_up σ 63 j x) := by
  unfold f_X7_sets
  rw [ww_ck_t (ww_in_n hj (by omega)), ww_ck_t (ww_in_n hj (by omega)), ww_ix_n (by omega)]
