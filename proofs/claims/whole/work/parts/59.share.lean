/-! ===== folds over parts ===== -/
def ww_fo {α : Type} (v : Nat → Nat → Bool) (g : Nat → Nat → α → α) (m : Nat) (a : α) : Nat → α
  | 0 => a
  | n + 1 => if v (n / m) (n % m) then g (n / m) (n % m) (ww_fo v g m a n) else ww_fo v g m a n
theorem ww_fo_eq {α : Type} {v : Nat → Nat → Bool} {g : Nat → Nat → α → α} {a : α} (hv : ∀ b p, 3 ≤ p → v b p = false) : ww_fo v g 10 a 30 = ww_fo v g 3 a 9 := by
  simp [ww_fo, hv]
theorem ww_fo_inv {α : Type} {v : Nat → Nat → Bool} {g : Nat → Nat → α → α} {m : Nat} {a : α} (P : α → Prop) (h0 : P a) (hg : ∀ b p x, v b p = true → P x → P (g b p x)) : ∀ n, P (ww_fo v g m a n)
  | 0 => h0
  | n + 1 => by
    have ih := ww_fo_inv (m := m) P h0 hg n
    simp only [ww_fo]
    split
    · exact hg _ _ _ (by assumption) ih
    · exact ih
theorem ww_vld_3 {s : ww_S} (hs : ww_okS s) : ∀ b p, 3 ≤ p → ww_vld s b p = false := fun b p hp => by
  cases c : ww_vld s b p
  · rfl
  · have := ww_vld3 hs c; omega
def ww_sha (s : ww_S) (d : ww_D1) (law : Nat) (o : Int32) : Nat := ww_fo (ww_vld s) (fun b p a => if nI (ww_own s d law b p) = o then a + dWo d b p else a) 3 0 9
theorem sp_shareBy {σ : ww_M} {o law : Nat} {s : ww_S} {d : ww_D1} (h : ww_CL1 σ o s d) (hl : law ≤ 3) (w : Int32) : f_X2_shareBy σ o w (nI law) = some (nI (ww_sha s d law w)) := by
  have h0 := h
  obtain ⟨hs, hd, hC⟩ := h
  unfold f_X2_shareBy f_X2_shareBy_j5 f_X2_shareBy_j48 ww_sha
  have key := ww_it_for (f := f_X2_shareBy_b5 σ o w (nI law)) (fun i => (nI (ww_fo (ww_vld s) (fun b p a => if nI (ww_own s d law b p) = w then a + dWo d b p else a) 3 0 i), nI i)) 9 (r := nI (ww_fo (ww_vld s) (fun b p a => if nI (ww_own s d law b p) = w then a + dWo d b p else a) 3 0 9)) (by omega) (fun i hi => ?_) ?_
  · exact Option.bind_eq_some_iff.mpr ⟨_, key, rfl⟩
  · obtain ⟨b, p, hp, rfl⟩ : ∃ b p, p < 3 ∧ i = 3 * b + p := ⟨i / 3, i % 3, by omega, by omega⟩
    unfold f_X2_shareBy_b5
    simp only [ww_fo, (n_dr3 (b := b) hp).1, (n_dr3 (b := b) hp).2]
    rw [sp_hasSlot h0 hi, (n_dr3 (b := b) hp).1, (n_dr3 (b := b) hp).2]
    cases hv : ww_vld s b p
    · simp (disch := omega) only [n_lit, n_le, n_lt, n_eq, n_in, n_ckt, n_ix, n_mul, n_add, n_sub, n_div, n_rem, n_b01, n_isb, n_lt0, n_le0, Option.bind_some, if_pos, if_neg, ge_iff_le, gt_iff_lt, Nat.zero_add, Nat.add_zero, n_neg1, n_neg4, if_true, if_false, ite_true, ite_false, n_land1, not_true_eq_false, not_false_eq_true]
      simp
    · have q := ww_vld_iff.mp hv
      have e6 := (hC.2.2.2.2.2.1 _ q.1 _ q.2).1
      rw [sp_ownerBy h0 hv hl]
      simp (disch := omega) only [n_lit, n_le, n_lt, n_eq, n_in, n_ckt, n_ix, n_mul, n_add, n_sub, n_div, n_rem, n_b01, n_isb, n_lt0, n_le0, Option.bind_some, if_pos, if_neg, ge_iff_le, gt_iff_lt, Nat.zero_add, Nat.add_zero, n_neg1, n_neg4, if_true, if_false, ite_true, ite_false, n_land1, not_true_eq_false, not_false_eq_true, e6]
      by_cases c : nI (ww_own s d law b p) = w <;> simp [c]
  · unfold f_X2_shareBy_b5
    simp (disch := omega) only [n_lit, n_le, n_lt, n_eq, n_in, n_ckt, n_ix, n_mul, n_add, n_sub, n_div, n_rem, n_b01, n_isb, n_lt0, n_le0, Option.bind_some, if_pos, if_neg, ge_iff_le, gt_iff_lt, Nat.zero_add, Nat.add_zero, n_neg1, n_neg4, if_true, if_false, ite_true, ite_false, n_land1, not_true_eq_false, not_false_eq_true]
theorem sm_shareBy {σ : ww_M} {law : Nat} {s : ww_S} {d : ww_D1} (h : ww_MO1 σ s d) (hl : law ≤ 3) (w : Int32) : f_X7_shareBy σ 62 w (nI law) = some (nI (ww_sha s d law w)) := by
  have h0 := h
  obtain ⟨hs, hd, hM, hD⟩ := h
  unfold f_X7_shareBy f_X7_shareBy_j5 f_X7_shareBy_j55 ww_sha
  rw [← ww_fo_eq (ww_vld_3 hs)]
  have key := ww_it_for (f := f_X7_shareBy_b5 σ 62 w (nI law)) (fun i => (nI (ww_fo (ww_vld s) (fun b p a => if nI (ww_own s d law b p) = w then a + dWo d b p else a) 10 0 i), nI i)) 30 (r := nI (ww_fo (ww_vld s) (fun b p a => if nI (ww_own s d law b p) = w then a + dWo d b p else a) 10 0 30)) (by omega) (fun i hi => ?_) ?_
  · exact Option.bind_eq_some_iff.mpr ⟨_, key, rfl⟩
  · unfold f_X7_shareBy_b5
    simp only [ww_fo]
    rw [sm_isPart h0 hi]
    cases hv : ww_vld s (i / 10) (i % 10)
    · simp (disch := omega) only [n_lit, n_le, n_lt, n_eq, n_in, n_ckt, n_ix, n_mul, n_add, n_sub, n_div, n_rem, n_b01, n_isb, n_lt0, n_le0, Option.bind_some, if_pos, if_neg, ge_iff_le, gt_iff_lt, Nat.zero_add, Nat.add_zero, n_neg1, n_neg4, if_true, if_false, ite_true, ite_false, n_land1, not_true_eq_false, not_false_eq_true]
      simp
    · have h3 := ww_vld3 hs hv
      obtain ⟨b, p, hp, rfl⟩ : ∃ b p, p < 3 ∧ i = 10 * b + p := ⟨i / 10, i % 10, by omega, by omega⟩
      rw [(n_dr10 (b := b) hp).1, (n_dr10 (b := b) hp).2] at hv h3
      have q := ww_vld_iff.mp hv
      have e6 := (hD.2.2.2.1 _ q.1 _ q.2).1
      rw [Nat.zero_add] at e6
      rw [sm_whoseBy h0 hv hl, sp_partAt h3.1 h3.2, (n_dr10 (b := b) hp).1, (n_dr10 (b := b) hp).2, show σ (62 + 1) = σ 63 from rfl]
      simp (disch := omega) only [n_lit, n_le, n_lt, n_eq, n_in, n_ckt, n_ix, n_mul, n_add, n_sub, n_div, n_rem, n_b01, n_isb, n_lt0, n_le0, Option.bind_some, if_pos, if_neg, ge_iff_le, gt_iff_lt, Nat.zero_add, Nat.add_zero, n_neg1, n_neg4, if_true, if_false, ite_true, ite_false, n_land1, not_true_eq_false, not_false_eq_true, e6]
      by_cases c : nI (ww_own s d law b p) = w <;> simp [c]
  · unfold f_X7_shareBy_b5
    simp (disch := omega) only [n_lit, n_le, n_lt, n_eq, n_in, n_ckt, n_ix, n_mul, n_add, n_sub, n_div, n_rem, n_b01, n_isb, n_lt0, n_le0, Option.bind_some, if_pos, if_neg, ge_iff_le, gt_iff_lt, Nat.zero_add, Nat.add_zero, n_neg1, n_neg4, if_true, if_false, ite_true, ite_false, n_land1, not_true_eq_false, not_false_eq_true]
theorem st_share {k : Nat} {σ : ww_M} {s : ww_S} {d : ww_D1} (hk : k < 64) (h : ww_Rel k σ s d) (p1 p2 : Int32) : ∃ (v : Int32) (s2 : ww_S) (d2 : ww_D1), f_X6_share σ p1 p2 = some v ∧ f_X7_share σ 62 p1 p2 = some v ∧ ww_Rel (k + 1) σ s2 d2 := by
  have h0 := ww_Rel_up h
  obtain ⟨r1, ⟨hd, -⟩, hC, hM, hD, -⟩ := h
  unfold f_X6_share f_X7_share
  simp only [ww_within, Option.bind_some, ww_b01, ww_inI (a := 0) (b := 3) 0 3 rfl rfl]
  by_cases c : 0 ≤ p1 ∧ p1 ≤ 3
  · have hcc : ¬ ¬ (0 ≤ p1 ∧ p1 ≤ 3) := fun q => q c
    simp only [if_neg hcc]
    by_cases c2 : 0 ≤ p2 ∧ p2 ≤ 3
    · obtain ⟨n, -, hn, rfl⟩ := ww_btw (a := 0) (b := 3) (by omega) c2 (by omega)
      have hc2 : ¬ ¬ (0 ≤ nI n ∧ nI n ≤ 3) := fun q => q c2
      simp only [if_neg hc2, sp_shareBy ⟨r1, hd, hC⟩ hn, sm_shareBy ⟨r1, hd, hM, hD⟩ hn, Option.bind_some]
      exact ⟨_, s, d, rfl, rfl, h0⟩
    · simp only [if_pos c2]
      exact ⟨_, s, d, rfl, rfl, h0⟩
  · simp only [if_pos c]
    exact ⟨_, s, d, rfl, rfl, h0⟩
theorem st_part {k : Nat} {σ : ww_M} {s : ww_S} {d : ww_D1} (hk : k < 64) (h : ww_Rel k σ s d) (p1 p2 : Int32) : ∃ (v : Int32) (s2 : ww_S) (d2 : ww_D1), f_X6_part σ p1 p2 = some v ∧ f_X7_part σ 62 p1 p2 = some v ∧ ww_Rel (k + 1) σ s2 d2 := by
  have h0 := ww_Rel_up h
  obtain ⟨r1, ⟨hd, hh, -⟩, hC, hM, hD, -⟩ := h
  have hCL : ww_CL1 σ 4 s d := ⟨r1, hd, hC⟩
  have hMO : ww_MO1 σ s d := ⟨r1, hd, hM, hD⟩
  unfold f_X6_part f_X7_part
  by_cases cP : ww_isP s p1
  · obtain ⟨b, p, hb, hp, rfl⟩ := cP
    have hv : ww_vld s b p = true := ww_vld_iff.mpr ⟨hb, hp⟩
    have h3 := ww_vld3 r1 hv
    obtain ⟨m1, m2, m3⟩ := hD.2.2.2.1 b hb p hp
    obtain ⟨c1, c2, c3⟩ := hC.2.2.2.2.2.1 b hb p hp
    rw [Nat.zero_add] at m1 m2 m3
    rw [sp_slotOf_yes r1 hC hb hp, sp_isPart_yes r1 hM hb hp]
    simp only [Option.bind_some, ww_inI (a := 0) (b := 5) 0 5 rfl rfl, ww_b01, if_neg (show ¬ (1 : Int32) = 0 by decide)]
    have q1 : ¬ nI (3 * b + p) = -1 := fun e => by
      have := nI_pos' (n := 3 * b + p) (by omega)
      rw [e] at this
      exact absurd this (by decide)
    rw [if_neg q1]
    by_cases c2 : 0 ≤ p2 ∧ p2 ≤ 5
    · obtain ⟨n, -, hn, rfl⟩ := ww_btw (a := 0) (b := 5) (by omega) c2 (by omega)
      have hc2 : ¬ ¬ (0 ≤ nI n ∧ nI n ≤ 5) := fun q => q c2
      simp only [if_neg hc2]
      have hwi := sp_worthIn hCL hv (h := dHr d) (rot := dRot d) (by omega) hd.2.1 hd.2.2.1
      have hmi := sm_worthIn hMO hv (h := dHr d) (rot := dRot d) (by omega) hd.2.1 hd.2.2.1
      have hcw := sp_canWork hCL (i := 3 * b + p) (by omega)
      rw [(n_dr3 h3.2).1, (n_dr3 h3.2).2, hv] at hcw
      have hcm := sm_canBe hMO hv
      have ho := sp_ownerBy hCL hv hd.1
      have hom := sm_whoseBy hMO hv hd.1
      have er : f_X7_rotNow σ 62 = some (nI (dRot d)) := by
        unfold f_X7_rotNow
        rw [show σ (62 + 1) 13 = nI (dRot d) - 4 from hD.1.2.1, Int32.sub_add_cancel]
      rw [show σ 4 15 = nI (dHr d) from hC.2.1.2.2.2.1, show σ 4 13 = nI (dRot d) from hC.2.1.2.1, show σ 4 12 = nI (dLaw d) from hC.2.1.1, hwi, hcw, ho, er, show σ (62 + 1) = σ 63 from rfl, show σ 63 45 = nI (dHr d) from hD.1.2.2.2, show σ 63 12 = nI (dLaw d) from hD.1.1, sp_partAt h3.1 h3.2, hcm, hom]
      simp only [Option.bind_some, hmi]
      rw [show σ (4 + 6) = σ 10 from rfl, show σ (4 + 7) = σ 11 from rfl, show σ (4 + 8) = σ 12 from rfl]
      rcases (show n = 0 ∨ n = 1 ∨ n = 2 ∨ n = 3 ∨ n = 4 ∨ n = 5 by omega) with rfl | rfl | rfl | rfl | rfl | rfl
      · exact ⟨nI (dWo d b p), s, d, by simp (disch := omega) only [n_lit, n_le, n_lt, n_eq, n_in, n_ckt, n_ix, n_mul, n_add, n_sub, n_div, n_rem, n_b01, n_isb, n_lt0, n_le0, Option.bind_some, if_pos, if_neg, ge_iff_le, gt_iff_lt, Nat.zero_add, Nat.add_zero, n_neg1, n_neg4, if_true, if_false, ite_true, ite_false, n_land1, not_true_eq_false, not_false_eq_true]; exact congrArg some c1, by simp (disch := omega) only [n_lit, n_le, n_lt, n_eq, n_in, n_ckt, n_ix, n_mul, n_add, n_sub, n_div, n_rem, n_b01, n_isb, n_lt0, n_le0, Option.bind_some, if_pos, if_neg, ge_iff_le, gt_iff_lt, Nat.zero_add, Nat.add_zero, n_neg1, n_neg4, if_true, if_false, ite_true, ite_false, n_land1, not_true_eq_false, not_false_eq_true]; exact congrArg some m1, h0⟩
      · exact ⟨nI (dWk d b p), s, d, by simp (disch := omega) only [n_lit, n_le, n_lt, n_eq, n_in, n_ckt, n_ix, n_mul, n_add, n_sub, n_div, n_rem, n_b01, n_isb, n_lt0, n_le0, Option.bind_some, if_pos, if_neg, ge_iff_le, gt_iff_lt, Nat.zero_add, Nat.add_zero, n_neg1, n_neg4, if_true, if_false, ite_true, ite_false, n_land1, not_true_eq_false, not_false_eq_true]; exact congrArg some ‹_›, by simp (disch := omega) only [n_lit, n_le, n_lt, n_eq, n_in, n_ckt, n_ix, n_mul, n_add, n_sub, n_div, n_rem, n_b01, n_isb, n_lt0, n_le0, Option.bind_some, if_pos, if_neg, ge_iff_le, gt_iff_lt, Nat.zero_add, Nat.add_zero, n_neg1, n_neg4, if_true, if_false, ite_true, ite_false, n_land1, not_true_eq_false, not_false_eq_true]; exact congrArg some m2, h0⟩
      · exact ⟨nI (dLu d b p), s, d, by simp (disch := omega) only [n_lit, n_le, n_lt, n_eq, n_in, n_ckt, n_ix, n_mul, n_add, n_sub, n_div, n_rem, n_b01, n_isb, n_lt0, n_le0, Option.bind_some, if_pos, if_neg, ge_iff_le, gt_iff_lt, Nat.zero_add, Nat.add_zero, n_neg1, n_neg4, if_true, if_false, ite_true, ite_false, n_land1, not_true_eq_false, not_false_eq_true]; exact congrArg some c3, by simp (disch := omega) only [n_lit, n_le, n_lt, n_eq, n_in, n_ckt, n_ix, n_mul, n_add, n_sub, n_div, n_rem, n_b01, n_isb, n_lt0, n_le0, Option.bind_some, if_pos, if_neg, ge_iff_le, gt_iff_lt, Nat.zero_add, Nat.add_zero, n_neg1, n_neg4, if_true, if_false, ite_true, ite_false, n_land1, not_true_eq_false, not_false_eq_true]; exact congrArg some m3, h0⟩
      · exact ⟨nI (ww_wor d b p (dHr d) (dRot d)), s, d, by simp (disch := omega) only [n_lit, n_le, n_lt, n_eq, n_in, n_ckt, n_ix, n_mul, n_add, n_sub, n_div, n_rem, n_b01, n_isb, n_lt0, n_le0, Option.bind_some, if_pos, if_neg, ge_iff_le, gt_iff_lt, Nat.zero_add, Nat.add_zero, n_neg1, n_neg4, if_true, if_false, ite_true, ite_false, n_land1, not_true_eq_false, not_false_eq_true], by simp (disch := omega) only [n_lit, n_le, n_lt, n_eq, n_in, n_ckt, n_ix, n_mul, n_add, n_sub, n_div, n_rem, n_b01, n_isb, n_lt0, n_le0, Option.bind_some, if_pos, if_neg, ge_iff_le, gt_iff_lt, Nat.zero_add, Nat.add_zero, n_neg1, n_neg4, if_true, if_false, ite_true, ite_false, n_land1, not_true_eq_false, not_false_eq_true], h0⟩
      · refine ⟨if ww_can s d b p then 1 else 0, s, d, ?_, ?_, h0⟩
        · simp (disch := omega) only [n_lit, n_le, n_lt, n_eq, n_in, n_ckt, n_ix, n_mul, n_add, n_sub, n_div, n_rem, n_b01, n_isb, n_lt0, n_le0, Option.bind_some, if_pos, if_neg, ge_iff_le, gt_iff_lt, Nat.zero_add, Nat.add_zero, n_neg1, n_neg4, if_true, if_false, ite_true, ite_false, n_land1, not_true_eq_false, not_false_eq_true]
          cases ww_can s d b p <;> rfl
        · simp (disch := omega) only [n_lit, n_le, n_lt, n_eq, n_in, n_ckt, n_ix, n_mul, n_add, n_sub, n_div, n_rem, n_b01, n_isb, n_lt0, n_le0, Option.bind_some, if_pos, if_neg, ge_iff_le, gt_iff_lt, Nat.zero_add, Nat.add_zero, n_neg1, n_neg4, if_true, if_false, ite_true, ite_false, n_land1, not_true_eq_false, not_false_eq_true]
          cases ww_can s d b p <;> rfl
      · exact ⟨nI (ww_own s d (dLaw d) b p), s, d, by simp (disch := omega) only [n_lit, n_le, n_lt, n_eq, n_in, n_ckt, n_ix, n_mul, n_add, n_sub, n_div, n_rem, n_b01, n_isb, n_lt0, n_le0, Option.bind_some, if_pos, if_neg, ge_iff_le, gt_iff_lt, Nat.zero_add, Nat.add_zero, n_neg1, n_neg4, if_true, if_false, ite_true, ite_false, n_land1, not_true_eq_false, not_false_eq_true], by simp (disch := omega) only [n_lit, n_le, n_lt, n_eq, n_in, n_ckt, n_ix, n_mul, n_add, n_sub, n_div, n_rem, n_b01, n_isb, n_lt0, n_le0, Option.bind_some, if_pos, if_neg, ge_iff_le, gt_iff_lt, Nat.zero_add, Nat.add_zero, n_neg1, n_neg4, if_true, if_false, ite_true, ite_false, n_land1, not_true_eq_false, not_false_eq_true], h0⟩
    · simp only [if_pos c2]
      have q : ∀ m : Nat, m ≤ 5 → ¬ p2 = nI m := fun m hm e => c2 (by rw [e]; exact ⟨nI_pos' (by omega), nI_le (b := 5) hm (by omega)⟩)
      rw [if_neg (show ¬ p2 = 0 from q 0 (by omega)), if_neg (show ¬ p2 = 1 from q 1 (by omega)), if_neg (show ¬ p2 = 2 from q 2 (by omega)), if_neg (show ¬ p2 = 3 from q 3 (by omega)), if_neg (show ¬ p2 = 4 from q 4 (by omega)), if_neg (show ¬ p2 = 5 from q 5 (by omega))]
      exact ⟨_, s, d, rfl, rfl, h0⟩
  · rw [sp_slotOf_no r1 hC cP, sp_isPart_no r1 hM cP]
    exact ⟨_, s, d, rfl, rfl, h0⟩
