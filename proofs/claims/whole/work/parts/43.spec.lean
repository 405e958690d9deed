/-! ===== small functions of both sides over the abstract shore ===== -/
theorem ww_rng (x : Int32) {n : Nat} (hn : n < 1000000) : (∃ i, i < n ∧ x = nI i ∧ (0 ≤ x ∧ x ≤ nI n - 1)) ∨ ¬ (0 ≤ x ∧ x ≤ nI n - 1) := by
  by_cases c : 0 ≤ x ∧ x ≤ nI n - 1
  · refine Or.inl ?_
    have h1 := (fa_le _ _).mp c.1
    have h2 := (fa_le _ _).mp c.2
    have e1 : (nI n - 1).toInt = (n : Int) - 1 := pk_sub_toInt (a := n) (b := 1) (by omega) (by omega)
    have e0 : (0 : Int32).toInt = 0 := rfl
    rw [e1] at h2
    rw [e0] at h1
    refine ⟨x.toInt.toNat, by omega, ?_, c⟩
    rw [fa_eq, nI_toInt (by omega)]
    omega
  · exact Or.inr c
theorem ww_rng_t {i n : Nat} (hn : n < 1000000) (h : i < n) : 0 ≤ nI i ∧ nI i ≤ nI n - 1 := by
  have e1 : (nI n - 1).toInt = (n : Int) - 1 := pk_sub_toInt (a := n) (b := 1) (by omega) (by omega)
  have e0 : (0 : Int32).toInt = 0 := rfl
  rw [fa_le, fa_le, e1, e0, nI_toInt (by omega)]
  omega
theorem ww_rng_f {i n : Nat} (hn : n < 1000000) (hi : i < 2147483648) (h : n ≤ i) : ¬ (0 ≤ nI i ∧ nI i ≤ nI n - 1) := by
  have e1 : (nI n - 1).toInt = (n : Int) - 1 := pk_sub_toInt (a := n) (b := 1) (by omega) (by omega)
  have e0 : (0 : Int32).toInt = 0 := rfl
  rw [fa_le, fa_le, e1, e0, nI_toInt (by omega)]
  omega
theorem ww_isb01 {c : Prop} [Decidable c] : ww_isb (if c then 1 else 0) = true := by
  by_cases h : c <;> simp [h] <;> rfl
theorem sp_hasPlace {σ : ww_M} {o : Nat} {s : ww_S} {d : ww_D1} (hC : ww_ClsA σ o s d) (x : Int32) : f_X2_hasPlace σ o x = some (if 0 ≤ x ∧ x ≤ nI (sNp s) - 1 then 1 else 0) := by
  unfold f_X2_hasPlace
  rw [hC.1.1, ww_within]
  simp only [Option.bind_some, ww_ck_t ww_isb01]
theorem sp_hasBeast {σ : ww_M} {o : Nat} {s : ww_S} {d : ww_D1} (hC : ww_ClsA σ o s d) (x : Int32) : f_X2_hasBeast σ o x = some (if 0 ≤ x ∧ x ≤ nI (sNb s) - 1 then 1 else 0) := by
  unfold f_X2_hasBeast
  rw [hC.1.2.2, ww_within]
  simp only [Option.bind_some, ww_ck_t ww_isb01]
theorem sp_isPlace {σ : ww_M} {s : ww_S} (hM : ww_ModS (σ 62 3) (σ 62 2) (σ 62 5) (σ 64) (σ 65) s) (x : Int32) : f_X7_isPlace σ 62 x = some (if 0 ≤ x ∧ x ≤ nI (sNp s) - 1 then 1 else 0) := by
  unfold f_X7_isPlace
  rw [hM.1, ww_inI (a := 0) (b := (nI (sNp s) - 1).toInt64) 0 (nI (sNp s) - 1) rfl rfl]
  simp only [Option.bind_some, ww_ck_t ww_isb01]
theorem sp_isBeast {σ : ww_M} {s : ww_S} (hM : ww_ModS (σ 62 3) (σ 62 2) (σ 62 5) (σ 64) (σ 65) s) (x : Int32) : f_X7_isBeast σ 62 x = some (if 0 ≤ x ∧ x ≤ nI (sNb s) - 1 then 1 else 0) := by
  unfold f_X7_isBeast
  rw [hM.2.2.1, ww_inI (a := 0) (b := (nI (sNb s) - 1).toInt64) 0 (nI (sNb s) - 1) rfl rfl]
  simp only [Option.bind_some, ww_ck_t ww_isb01]
def ww_isP (s : ww_S) (x : Int32) : Prop := ∃ b p, b < sNb s ∧ p < sPt s b ∧ x = nI (10 * b + p)
theorem ww_dr10 {n : Nat} (h : n < 2147483648) : nI n / 10 = nI (n / 10) ∧ ww_rem (nI n) 10 = nI (n % 10) := ⟨pk_div (d := 10) h (by omega) (by omega), pk_rem (d := 10) h (by omega) (by omega)⟩
theorem sp_slotOf_yes {σ : ww_M} {o b p : Nat} {s : ww_S} {d : ww_D1} (hs : ww_okS s) (hC : ww_ClsA σ o s d) (hb : b < sNb s) (hp : p < sPt s b) : f_X2_slotOf σ o (nI (10 * b + p)) = some (nI (3 * b + p)) := by
  have h6 := hs.2.2.2.2.2.1 b hb
  have hnb := hs.2.2.2.1
  unfold f_X2_slotOf
  obtain ⟨e1, e2⟩ := ww_dr10 (n := 10 * b + p) (by omega)
  rw [show (10 * b + p) / 10 = b by omega] at e1
  rw [show (10 * b + p) % 10 = p by omega] at e2
  rw [if_neg (nI_pos (by omega)), e1, e2, sp_hasBeast hC]
  simp only [Option.bind_some, ww_b01]
  rw [if_neg (fun q => q (ww_rng_t (by omega) hb)), ww_ck_t (ww_in_n (by omega) (by omega)), ww_ix_n (by omega), (hC.2.2.2.2.1 b hb).2, if_neg (nI_ge hp (by omega))]
  rw [show nI b * 3 = nI (b * 3) from pk_mul b 3, nI_add]
  congr 2
  omega
theorem sp_slotOf_no {σ : ww_M} {o : Nat} {s : ww_S} {d : ww_D1} (hs : ww_okS s) (hC : ww_ClsA σ o s d) {x : Int32} (hx : ¬ ww_isP s x) : f_X2_slotOf σ o x = some (-1) := by
  have hnb := hs.2.2.2.1
  unfold f_X2_slotOf
  by_cases c : x < 0
  · rw [if_pos c]
  · obtain ⟨n, hn, rfl⟩ := nI_of c
    obtain ⟨e1, e2⟩ := ww_dr10 (n := n) hn
    rw [if_neg c, e1, e2, sp_hasBeast hC]
    simp only [Option.bind_some, ww_b01]
    by_cases q : n / 10 < sNb s
    · have h6 := hs.2.2.2.2.2.1 _ q
      rw [if_neg (fun z => z (ww_rng_t (by omega) q)), ww_ck_t (ww_in_n (by omega) (by omega)), ww_ix_n (by omega), (hC.2.2.2.2.1 _ q).2]
      by_cases w : n % 10 < sPt s (n / 10)
      · exact absurd ⟨n / 10, n % 10, q, w, by rw [Nat.div_add_mod]⟩ hx
      · rw [if_pos (nI_le (by omega) (by omega))]
    · rw [if_pos (ww_rng_f (by omega) (by omega) (by omega))]
theorem sp_isPart_yes {σ : ww_M} {b p : Nat} {s : ww_S} (hs : ww_okS s) (hM : ww_ModS (σ 62 3) (σ 62 2) (σ 62 5) (σ 64) (σ 65) s) (hb : b < sNb s) (hp : p < sPt s b) : f_X7_isPart σ 62 (nI (10 * b + p)) = some 1 := by
  have h6 := hs.2.2.2.2.2.1 b hb
  have hnb := hs.2.2.2.1
  unfold f_X7_isPart
  obtain ⟨e1, e2⟩ := ww_dr10 (n := 10 * b + p) (by omega)
  rw [show (10 * b + p) / 10 = b by omega] at e1
  rw [show (10 * b + p) % 10 = p by omega] at e2
  rw [if_neg (nI_pos (by omega)), e1, e2, sp_isBeast hM]
  simp only [Option.bind_some, ww_b01]
  rw [if_neg (fun q => q (ww_rng_t (by omega) hb)), show (2 : Int32) * nI b + 1 = nI (2 * b + 1) from by rw [show (2 : Int32) * nI b = nI (2 * b) from pk_mul 2 b, nI_1], ww_ck_t (ww_in_n (by omega) (by omega)), ww_ix_n (by omega), show σ (62 + 3) (2 * b + 1) = nI (sPt s b) from (hM.2.2.2.2 b hb).2, if_neg (nI_ge hp (by omega))]
theorem sp_isPart_no {σ : ww_M} {s : ww_S} (hs : ww_okS s) (hM : ww_ModS (σ 62 3) (σ 62 2) (σ 62 5) (σ 64) (σ 65) s) {x : Int32} (hx : ¬ ww_isP s x) : f_X7_isPart σ 62 x = some 0 := by
  have hnb := hs.2.2.2.1
  unfold f_X7_isPart
  by_cases c : x < 0
  · rw [if_pos c]
  · obtain ⟨n, hn, rfl⟩ := nI_of c
    obtain ⟨e1, e2⟩ := ww_dr10 (n := n) hn
    rw [if_neg c, e1, e2, sp_isBeast hM]
    simp only [Option.bind_some, ww_b01]
    by_cases q : n / 10 < sNb s
    · have h6 := hs.2.2.2.2.2.1 _ q
      rw [if_neg (fun z => z (ww_rng_t (by omega) q)), show (2 : Int32) * nI (n / 10) + 1 = nI (2 * (n / 10) + 1) from by rw [show (2 : Int32) * nI (n / 10) = nI (2 * (n / 10)) from pk_mul 2 _, nI_1], ww_ck_t (ww_in_n (by omega) (by omega)), ww_ix_n (by omega), show σ (62 + 3) (2 * (n / 10) + 1) = nI (sPt s (n / 10)) from (hM.2.2.2.2 _ q).2]
      by_cases w : n % 10 < sPt s (n / 10)
      · exact absurd ⟨n / 10, n % 10, q, w, by rw [Nat.div_add_mod]⟩ hx
      · rw [if_pos (nI_le (by omega) (by omega))]
    · rw [if_pos (ww_rng_f (by omega) (by omega) (by omega))]
theorem sp_partAt {b p : Nat} (hb : b < 3) (hp : p < 3) : f_X7_partAt (nI (10 * b + p)) = some (nI (18 + 9 * b + 3 * p)) := by
  unfold f_X7_partAt
  obtain ⟨e1, e2⟩ := ww_dr10 (n := 10 * b + p) (by omega)
  rw [show (10 * b + p) / 10 = b by omega] at e1
  rw [show (10 * b + p) % 10 = p by omega] at e2
  rw [e1, e2, show (9 : Int32) * nI b = nI (9 * b) from pk_mul 9 b, show (3 : Int32) * nI p = nI (3 * p) from pk_mul 3 p, show (18 : Int32) + nI (9 * b) = nI (18 + 9 * b) from nI_add 18 _, nI_add]
theorem sp_levelIn {σ : ww_M} {o h : Nat} {s : ww_S} {d : ww_D1} (hs : ww_okS s) (hC : ww_ClsA σ o s d) (hh : h < 100000) : f_X2_levelIn σ o (nI h) = some (nI (sLvl s h)) := by
  obtain ⟨o1, o2, o3, o4, o5, o6, o7⟩ := hs
  unfold f_X2_levelIn f_J9_floorMod_7cf53
  have hm : h % sNl s < sNl s := Nat.mod_lt _ (by omega)
  have er : ww_rem (nI h) (nI (sNl s)) = nI (h % sNl s) := pk_rem (by omega) (by omega) (by omega)
  have ex : 0 ≤ (nI h ^^^ nI (sNl s)) := by
    rw [fb_xorI]
    have : h ^^^ sNl s < 2 ^ 17 := Nat.xor_lt_two_pow (by omega) (by omega)
    exact nI_pos' (by omega)
  rw [hC.1.2.1, if_neg (show ¬ nI (sNl s) < 1 from nI_nlt (b := 1) (by omega) (by omega)), if_pos (show nI (sNl s) ≤ 6 from nI_le (b := 6) (by omega) (by omega)), ww_ck_t (show ww_nz (nI (sNl s)) = true from decide_eq_true (nI_ne0 (by omega) (by omega))), if_pos ex, er]
  simp only [Option.bind_some]
  rw [ww_ck_t (ww_in_n (by omega) (by omega)), ww_ix_n (by omega), hC.2.2.2.1 _ hm]
  rfl
theorem st_rot {k : Nat} {σ : ww_M} {s : ww_S} {d : ww_D1} (hk : k < 64) (h : ww_Rel k σ s d) (p1 : Int32) : ∃ (v : Int32) (σ1 : ww_M) (σ2 : ww_M) (s2 : ww_S) (d2 : ww_D1), f_X6_rot σ p1 = some (v, σ1) ∧ f_X7_rot σ1 62 p1 = some (v, σ2) ∧ ww_Rel (k + 1) σ2 s2 d2 := by
  have h0 := h
  obtain ⟨r1, ⟨⟨d1, d2, d3, d4, d5, d6, d7, d8, d9⟩, e1, e2⟩, hC, r4, hM, r6⟩ := h
  unfold f_X6_rot f_X7_rot
  rw [ww_within]
  simp only [Option.bind_some, ww_b01, ww_inI (x := p1) (a := 1) (b := 9) 1 9 rfl rfl]
  by_cases c : 1 ≤ p1 ∧ p1 ≤ 9
  · obtain ⟨n, hn1, hn, rfl⟩ := ww_btw (a := 1) (b := 9) (by omega) c (by omega)
    refine ⟨σ 4 13, ww_up σ 4 13 (nI n), ww_up (ww_up σ 4 13 (nI n)) 63 13 (nI n - 4), s, dsRot d n, ?_, ?_, ?_⟩
    · rw [if_neg (fun q => q c)]
    · rw [if_neg (fun q => q c), show (13 : Int32) = nI 13 from rfl, ww_sets (by omega), if_neg (by decide)]
      simp only [Option.bind_some, ww_up_ne (show (63 : Nat) ≠ 4 by decide)]
      rw [hC.2.1.2.1, show σ 63 13 = nI (dRot d) - 4 from hM.1.2.1, Int32.add_comm, Int32.sub_add_cancel]
    · refine ww_Rel_shore h0 (fun a q1 q2 => by rw [ww_up_ne q1, ww_up_ne (by omega)]) (fun j q1 q2 => by rw [ww_up_eq, pk_un (by omega), ww_up_ne (by decide)]) ⟨⟨d1, hn1, hn, d4, d5, d6, d7, d8, d9⟩, e1, e2⟩ (ww_ClsA_ext (uc_rot r1 hC n) (fun a q1 q2 => ww_up_ne (by omega))) ?_
      rw [ww_up_eq, ww_up_ne (by decide)]
      exact um_rot (pg := 0) r1 hM n
  · exact ⟨-1, σ, σ, s, d, by rw [if_pos c], by rw [if_pos c], ww_Rel_up h0⟩
theorem st_gangs {k : Nat} {σ : ww_M} {s : ww_S} {d : ww_D1} (hk : k < 64) (h : ww_Rel k σ s d) (p1 : Int32) : ∃ (v : Int32) (σ1 : ww_M) (σ2 : ww_M) (s2 : ww_S) (d2 : ww_D1), f_X6_gangs σ p1 = some (v, σ1) ∧ f_X7_gangs σ1 62 p1 = some (v, σ2) ∧ ww_Rel (k + 1) σ2 s2 d2 := by
  have h0 := h
  obtain ⟨r1, ⟨⟨d1, d2, d3, d4, d5, d6, d7, d8, d9⟩, e1, e2⟩, hC, r4, hM, r6⟩ := h
  unfold f_X6_gangs f_X7_gangs
  rw [ww_within]
  simp only [Option.bind_some, ww_b01, ww_inI (x := p1) (a := 1) (b := 2) 1 2 rfl rfl]
  by_cases c : 1 ≤ p1 ∧ p1 ≤ 2
  · obtain ⟨n, hn1, hn, rfl⟩ := ww_btw (a := 1) (b := 2) (by omega) c (by omega)
    refine ⟨σ 4 14, ww_up σ 4 14 (nI n), ww_up (ww_up σ 4 14 (nI n)) 63 14 (nI n - 1), s, dsGng d n, ?_, ?_, ?_⟩
    · rw [if_neg (fun q => q c)]
    · rw [if_neg (fun q => q c), show (14 : Int32) = nI 14 from rfl, ww_sets (by omega), if_neg (by decide)]
      simp only [Option.bind_some, ww_up_ne (show (63 : Nat) ≠ 4 by decide)]
      rw [hC.2.1.2.2.1, show σ 63 14 = nI (dGng d) - 1 from hM.1.2.2.1, Int32.add_comm, Int32.sub_add_cancel]
    · refine ww_Rel_shore h0 (fun a q1 q2 => by rw [ww_up_ne q1, ww_up_ne (by omega)]) (fun j q1 q2 => by rw [ww_up_eq, pk_un (by omega), ww_up_ne (by decide)]) ⟨⟨d1, d2, d3, hn1, hn, d6, d7, d8, d9⟩, e1, e2⟩ (ww_ClsA_ext (uc_gng r1 hC n) (fun a q1 q2 => ww_up_ne (by omega))) ?_
      rw [ww_up_eq, ww_up_ne (by decide)]
      exact um_gng (pg := 0) r1 hM n
  · exact ⟨-1, σ, σ, s, d, by rw [if_pos c], by rw [if_pos c], ww_Rel_up h0⟩
