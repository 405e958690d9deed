theorem ww_b24 (x : Int32) : ww_shr (ww_shl x 24) 24 = x.toInt8.toInt32 := by
  apply Int32.toBitVec_inj.1
  have e1 : (ww_shr (ww_shl x 24) 24).toBitVec = (x.toBitVec <<< (24 : Nat)).sshiftRight 24 := rfl
  have e2 : x.toInt8.toInt32.toBitVec = (x.toBitVec.signExtend 8).signExtend 32 := rfl
  rw [e1, e2]
  apply BitVec.eq_of_getLsbD_eq
  intro i hi
  by_cases c : i < 8
  · rw [BitVec.getLsbD_sshiftRight, BitVec.getLsbD_signExtend, BitVec.getLsbD_signExtend, if_pos c, if_pos (show 24 + i < 32 by omega), BitVec.getLsbD_shiftLeft, show 24 + i - 24 = i by omega]
    simp [hi, show ¬ 32 ≤ i by omega, show 24 + i < 32 by omega, show i < 8 by omega, show ¬ (24 + i < 24) by omega]
  · rw [BitVec.getLsbD_sshiftRight, BitVec.getLsbD_signExtend, if_neg c, if_neg (show ¬ 24 + i < 32 by omega), BitVec.msb_eq_getLsbD_last, BitVec.msb_eq_getLsbD_last, BitVec.getLsbD_shiftLeft, BitVec.getLsbD_signExtend]
    simp [hi, show ¬ 32 ≤ i by omega]
theorem ww_b16 (x : Int32) : ww_shr (ww_shl x 16) 16 = x.toInt16.toInt32 := by
  apply Int32.toBitVec_inj.1
  have e1 : (ww_shr (ww_shl x 16) 16).toBitVec = (x.toBitVec <<< (16 : Nat)).sshiftRight 16 := rfl
  have e2 : x.toInt16.toInt32.toBitVec = (x.toBitVec.signExtend 16).signExtend 32 := rfl
  rw [e1, e2]
  apply BitVec.eq_of_getLsbD_eq
  intro i hi
  by_cases c : i < 16
  · rw [BitVec.getLsbD_sshiftRight, BitVec.getLsbD_signExtend, BitVec.getLsbD_signExtend, if_pos c, if_pos (show 16 + i < 32 by omega), BitVec.getLsbD_shiftLeft, show 16 + i - 16 = i by omega]
    simp [hi, show ¬ 32 ≤ i by omega, show 16 + i < 32 by omega, show i < 16 by omega, show ¬ (16 + i < 16) by omega]
  · rw [BitVec.getLsbD_sshiftRight, BitVec.getLsbD_signExtend, if_neg c, if_neg (show ¬ 16 + i < 32 by omega), BitVec.msb_eq_getLsbD_last, BitVec.msb_eq_getLsbD_last, BitVec.getLsbD_shiftLeft, BitVec.getLsbD_signExtend]
    simp [hi, show ¬ 32 ≤ i by omega]
theorem st_lay {k : Nat} {σ : ww_M} {s : ww_S} {d : ww_D1} (hk : k < 64) (h : ww_Rel k σ s d) (p1 p2 p3 : Int32) : ∃ (v : Int32) (σ1 : ww_M) (σ2 : ww_M) (s2 : ww_S) (d2 : ww_D1), f_X6_lay σ p1 p2 p3 = some (v, σ1) ∧ f_X7_lay σ1 62 p1 p2 p3 = some (v, σ2) ∧ ww_Rel (k + 1) σ2 s2 d2 := by
  have h0 := h
  obtain ⟨r1, r2, r3, r4, r5, r6, r7, r8, r9, r10, r11, r12, r13⟩ := h
  clear r1 r2 r3 r4 r5 r6 r7 r8 r9 r10 r12 r13
  unfold f_X6_lay f_X7_lay f_X1_faultAt f_X1_put
  simp only [ww_within, Option.bind_some, ww_b01, ww_inI (a := 0) (b := 3) 0 3 rfl rfl]
  by_cases c : 0 ≤ p1 ∧ p1 ≤ 3
  · obtain ⟨j, -, hj, rfl⟩ := ww_btw (a := 0) (b := 3) (by omega) c (by omega)
    have hcc : ¬ ¬ (0 ≤ nI j ∧ nI j ≤ 3) := fun q => q c
    simp only [if_neg hcc, n_in (show j < 4 by omega) (by omega), n_ckt, n_ix (show j < 2147483648 by omega), if_true]
    rcases r11 j (by omega) with ⟨q1, q2⟩ | ⟨n, t, q1, q2, q3, q4, q5, q6, q7⟩
    · rw [q1, if_neg (show ¬ (0 : Int32) ≤ -1 by decide)]
      refine ⟨-11, σ, σ, s, d, rfl, ?_, ww_Rel_up h0⟩
      rw [show σ (62 + 15) j = -4 from q2]
      rfl
    · have hin : ∀ x, x < n → ww_in (nI x) 40 = true := fun x hx => n_in (by omega) (by omega)
      rw [q3, if_pos (nI_pos' (show n < 2147483648 by omega))]
      have q6' : ¬ σ (62 + 15) j = -4 := by
        rw [show σ (62 + 15) j = nI t from q6]
        have := n_neg4 (n := t) (by omega)
        exact fun e => by rw [show nI t = -nI 4 from e] at this; exact absurd this.symm (by simp)
      rcases ww_rng p2 (n := n) (by omega) with ⟨i, hi, rfl, c2⟩ | c2
      · have hc2 : ¬ ¬ (0 ≤ nI i ∧ nI i ≤ nI n - 1) := fun q => q c2
        simp only [if_neg hc2, if_true, hin i hi, n_ckt, n_ix (show i < 2147483648 by omega), Option.bind_some]
        have fin : ∀ x : Int32, ww_Rel (k + 1) (ww_up (ww_up σ (54 + 2 * j + 1) i x) 79 (40 * j + i) x) s d := fun x => by
          refine ww_Rel_sheets h0 (fun a ha => by simp (disch := omega) only [ww_up_ne, ww_up_eq, ww_upr_ne, ww_upr_eq, ww_fill_ne, ww_fill_eq, ww_cpy_ne, ww_cpy_eq, pk_us, pk_un, ne_eq, not_false_eq_true]) (fun a z1 z2 => by simp (disch := omega) only [ww_up_ne, ww_up_eq, ww_upr_ne, ww_upr_eq, ww_fill_ne, ww_fill_eq, ww_cpy_ne, ww_cpy_eq, pk_us, pk_un, ne_eq, not_false_eq_true]) (fun i2 hi2 => ?_)
          by_cases e : i2 = j
          · subst e
            refine Or.inr ⟨n, t, q1, q2, by simp (disch := omega) only [ww_up_ne, ww_up_eq, ww_upr_ne, ww_upr_eq, ww_fill_ne, ww_fill_eq, ww_cpy_ne, ww_cpy_eq, pk_us, pk_un, ne_eq, not_false_eq_true]; exact q3, by simp (disch := omega) only [ww_up_ne, ww_up_eq, ww_upr_ne, ww_upr_eq, ww_fill_ne, ww_fill_eq, ww_cpy_ne, ww_cpy_eq, pk_us, pk_un, ne_eq, not_false_eq_true]; exact q4, by simp (disch := omega) only [ww_up_ne, ww_up_eq, ww_upr_ne, ww_upr_eq, ww_fill_ne, ww_fill_eq, ww_cpy_ne, ww_cpy_eq, pk_us, pk_un, ne_eq, not_false_eq_true]; exact q5, by simp (disch := omega) only [ww_up_ne, ww_up_eq, ww_upr_ne, ww_upr_eq, ww_fill_ne, ww_fill_eq, ww_cpy_ne, ww_cpy_eq, pk_us, pk_un, ne_eq, not_false_eq_true]; exact q6, fun y hy => ?_⟩
            simp only [show 55 + 2 * i2 = 54 + 2 * i2 + 1 by omega]
            simp (disch := omega) only [ww_up_ne, ww_up_eq, ww_upr_ne, ww_upr_eq, ww_fill_ne, ww_fill_eq, ww_cpy_ne, ww_cpy_eq, pk_us, pk_un, ne_eq, not_false_eq_true]
            by_cases ey : y = i
            · subst ey; simp (disch := omega) only [ww_up_ne, ww_up_eq, ww_upr_ne, ww_upr_eq, ww_fill_ne, ww_fill_eq, ww_cpy_ne, ww_cpy_eq, pk_us, pk_un, ne_eq, not_false_eq_true]
            · simp (disch := omega) only [ww_up_ne, ww_up_eq, ww_upr_ne, ww_upr_eq, ww_fill_ne, ww_fill_eq, ww_cpy_ne, ww_cpy_eq, pk_us, pk_un, ne_eq, not_false_eq_true]
              have := q7 y hy
              rw [show 55 + 2 * i2 = 54 + 2 * i2 + 1 by omega] at this
              exact this
          · have hR := r11 i2 hi2
            simp (disch := omega) only [ww_up_ne, ww_up_eq, ww_upr_ne, ww_upr_eq, ww_fill_ne, ww_fill_eq, ww_cpy_ne, ww_cpy_eq, pk_us, pk_un, ne_eq, not_false_eq_true]
            rcases hR with q | ⟨n1, t1, w1, w2, w3, w4, w5, w6, w7⟩
            · exact Or.inl q
            · refine Or.inr ⟨n1, t1, w1, w2, w3, w4, w5, w6, fun x hx => ?_⟩
              simp (disch := omega) only [ww_up_ne, ww_up_eq, ww_upr_ne, ww_upr_eq, ww_fill_ne, ww_fill_eq, ww_cpy_ne, ww_cpy_eq, pk_us, pk_un, ne_eq, not_false_eq_true]
              exact w7 x hx
        have m77 : ∀ x : Int32, ww_up σ (54 + 2 * j + 1) i x (62 + 15) j = nI t := fun x => by rw [ww_up_ne (by omega)]; exact q6
        have m78 : ∀ x : Int32, ww_up σ (54 + 2 * j + 1) i x (62 + 16) j = nI n := fun x => by rw [ww_up_ne (by omega)]; exact q4
        have hIn : f_X7_in (nI i).toInt64 0 ((nI n - 1).toInt64) = some 1 := by
          rw [ww_inI (a := 0) 0 (nI n - 1) rfl rfl, if_pos c2]
        have ht4 : ¬ nI t = -4 := by rw [← show σ (62 + 15) j = nI t from q6]; exact q6'
        have hidx : (40 : Int32) * nI j + nI i = nI (40 * j + i) := by rw [show (40 : Int32) * nI j = nI (40 * j) from pk_mul 40 j, nI_add]
        rcases (show t = 0 ∨ t = 1 ∨ t = 2 by omega) with rfl | rfl | rfl
        · refine ⟨1, ww_up σ (54 + 2 * j + 1) i p3.toInt8.toInt32, _, s, d, ?_, ?_, fin p3.toInt8.toInt32⟩
          · rw [q5]; rfl
          · simp only [m77, m78, if_neg ht4, hIn, Option.bind_some]
            rw [if_neg (by decide), if_pos (show nI 0 = 0 from rfl), hidx, ww_ck_t (ww_in_n (by omega) (by omega)), ww_ix_n (by omega), ww_b24]
        · refine ⟨1, ww_up σ (54 + 2 * j + 1) i p3.toInt16.toInt32, _, s, d, ?_, ?_, fin p3.toInt16.toInt32⟩
          · rw [q5]; rfl
          · simp only [m77, m78, if_neg ht4, hIn, Option.bind_some]
            rw [if_neg (by decide), if_neg (show ¬ nI 1 = 0 by decide), if_pos (show nI 1 = 1 from rfl), hidx, ww_ck_t (ww_in_n (by omega) (by omega)), ww_ix_n (by omega), ww_b16]
        · refine ⟨1, ww_up σ (54 + 2 * j + 1) i p3, _, s, d, ?_, ?_, fin p3⟩
          · rw [q5]; rfl
          · simp only [m77, m78, if_neg ht4, hIn, Option.bind_some]
            rw [if_neg (by decide), if_neg (show ¬ nI 2 = 0 by decide), if_neg (show ¬ nI 2 = 1 by decide), hidx, ww_ck_t (ww_in_n (by omega) (by omega)), ww_ix_n (by omega)]
      · simp only [if_pos c2]
        refine ⟨-12, σ, σ, s, d, rfl, ?_, ww_Rel_up h0⟩
        rw [if_neg q6', show σ (62 + 16) j = nI n from q4, ww_inI (a := 0) 0 (nI n - 1) rfl rfl, if_neg c2]
        rfl
  · simp only [if_pos c]
    exact ⟨-1, σ, σ, s, d, rfl, rfl, ww_Rel_up h0⟩
