/-! ===== text ===== -/
theorem ww_Rel_txB {k : Nat} {σ σ1 σ2 : ww_M} {s : ww_S} {d : ww_D1} {v v' : Int32} {f at' : Nat} (h : ww_Rel k σ s d) (hc : tx_cB σ v σ1 f at') (hm : tx_mB σ1 v' σ2 f at') : ww_Rel (k + 1) σ2 s d := by
  obtain ⟨r1, r2, r3, r4, r5, r6, r7, r8, ⟨n, q1, q2, q3⟩, ⟨kb, k1, k2, k3⟩, r11, r12, r13, r14⟩ := h
  obtain ⟨-, c3, c1, ca⟩ := hc
  obtain ⟨-, m15, m14, mj, ma⟩ := hm
  have u : ∀ a, a ≠ 1 → a ≠ 3 → (a < 14 ∨ 24 ≤ a) → a ≠ 62 → a ≠ 66 → a ≠ 67 → a ≠ 68 → σ2 a = σ a := fun a z1 z2 z3 z4 z5 z6 z7 => (ma a z4 z5 z6 z7).trans (ca a z1 z2 z3)
  have w : ∀ j, j ≤ 8 ∨ j = 13 ∨ 21 < j → σ2 62 j = σ 62 j := fun j hj => by rw [mj j hj, ca 62 (by omega) (by omega) (by omega)]
  refine ⟨r1, r2, ww_ClsA_ext r3 (fun a z1 z2 => u a (by omega) (by omega) (by omega) (by omega) (by omega) (by omega) (by omega)), ?_, ?_, ⟨0, by omega, ?_, ?_, fun i hi => absurd hi (Nat.not_lt_zero i)⟩, ?_, ?_, ⟨n, by omega, ?_, ?_⟩, ⟨kb, k1, ?_, fun j hj => ⟨?_, fun ht => ?_⟩⟩, fun j hj => ?_, ?_, ?_, ?_⟩
  · rw [w 3 (by omega), w 2 (by omega), w 5 (by omega), u 64 (by omega) (by omega) (by omega) (by omega) (by omega) (by omega) (by omega), u 65 (by omega) (by omega) (by omega) (by omega) (by omega) (by omega) (by omega)]; exact r4
  · rw [u 63 (by omega) (by omega) (by omega) (by omega) (by omega) (by omega) (by omega)]; exact r5
  · rw [ma 1 (by omega) (by omega) (by omega) (by omega)]; exact c1
  · exact m14
  · rw [ma 3 (by omega) (by omega) (by omega) (by omega), c3, m15]
  · rw [u 45 (by omega) (by omega) (by omega) (by omega) (by omega) (by omega) (by omega), u 46 (by omega) (by omega) (by omega) (by omega) (by omega) (by omega) (by omega), u 47 (by omega) (by omega) (by omega) (by omega) (by omega) (by omega) (by omega), w 30 (by omega), u 75 (by omega) (by omega) (by omega) (by omega) (by omega) (by omega) (by omega)]; exact r8
  · rw [u 48 (by omega) (by omega) (by omega) (by omega) (by omega) (by omega) (by omega)]; exact q2
  · rw [u 49 (by omega) (by omega) (by omega) (by omega) (by omega) (by omega) (by omega)]; exact q3
  · rw [u 0 (by omega) (by omega) (by omega) (by omega) (by omega) (by omega) (by omega)]; exact k2
  · rw [u 76 (by omega) (by omega) (by omega) (by omega) (by omega) (by omega) (by omega)]; exact (k3 j hj).1
  · obtain ⟨d2, e1, e2, e3⟩ := (k3 j hj).2 ht
    exact ⟨d2, e1, ww_ClsA_ext e2 (fun a z1 z2 => u a (by omega) (by omega) (by omega) (by omega) (by omega) (by omega) (by omega)), by rw [u 63 (by omega) (by omega) (by omega) (by omega) (by omega) (by omega) (by omega)]; exact e3⟩
  · rw [u (54 + 2 * j) (by omega) (by omega) (by omega) (by omega) (by omega) (by omega) (by omega), u (55 + 2 * j) (by omega) (by omega) (by omega) (by omega) (by omega) (by omega) (by omega), u 77 (by omega) (by omega) (by omega) (by omega) (by omega) (by omega) (by omega), u 78 (by omega) (by omega) (by omega) (by omega) (by omega) (by omega) (by omega), u 79 (by omega) (by omega) (by omega) (by omega) (by omega) (by omega) (by omega)]; exact r11 j hj
  · rw [u 0 (by omega) (by omega) (by omega) (by omega) (by omega) (by omega) (by omega), w 35 (by omega)]; exact r12
  · rw [u 70 (by omega) (by omega) (by omega) (by omega) (by omega) (by omega) (by omega)]; exact r13
  · rw [u 71 (by omega) (by omega) (by omega) (by omega) (by omega) (by omega) (by omega)]; exact r14
theorem ww_Rel_txG {k : Nat} {σ σ1 σ2 : ww_M} {s s' : ww_S} {d d' : ww_D1} {v v' l l' : Int32} (h : ww_Rel k σ s d) (hc : tx_cG σ v σ1 l s' d') (hm : tx_mG σ1 v' σ2 l' s' d') (hS : ww_okS (tx_s1 s')) (hH : ww_okH (tx_s1 s') (ww_lose (tx_s1 s') d' (dHr d'))) : ww_Rel (k + 1) σ2 (tx_s1 s') (ww_lose (tx_s1 s') d' (dHr d')) := by
  obtain ⟨r1, r2, r3, r4, r5, r6, r7, r8, ⟨n, q1, q2, q3⟩, -, r11, r12, r13, r14⟩ := h
  obtain ⟨-, cC, c30, c11, ⟨c452, c05⟩, c45, c0, ca⟩ := hc
  obtain ⟨-, mS, mD, m15, m14, m30, m35, ⟨m760, m761⟩, ma⟩ := hm
  have u : ∀ a, (24 ≤ a ∧ a < 62) ∨ 69 ≤ a → a ≠ 45 → a ≠ 76 → σ2 a = σ a := fun a z1 z2 z3 => (ma a (by omega) z3).trans (ca a (by omega) (by omega) (by omega) z2 (by omega))
  refine ⟨hS, hH, ww_ClsA_ext cC (fun a z1 z2 => ma a (by omega) (by omega)), mS, mD, ⟨0, by omega, ?_, ?_, fun i hi => absurd hi (Nat.not_lt_zero i)⟩, ?_, ⟨0, by omega, ?_, ?_, fun i hi => absurd hi (Nat.not_lt_zero i)⟩, ⟨n, by omega, ?_, ?_⟩, ⟨0, by omega, ?_, fun j hj => ⟨?_, fun ht => ?_⟩⟩, fun j hj => ?_, ?_, ?_, ?_⟩
  · rw [ma 1 (by omega) (by omega)]; exact c11
  · exact m14
  · rw [ma 3 (by omega) (by omega), c30, m15]
  · rw [ma 45 (by omega) (by omega)]; exact c452
  · exact m30
  · rw [u 48 (by omega) (by omega) (by omega)]; exact q2
  · rw [u 49 (by omega) (by omega) (by omega)]; exact q3
  · rw [ma 0 (by omega) (by omega)]; exact c05
  · rw [Nat.zero_testBit]
    rcases (show j = 0 ∨ j = 1 by omega) with rfl | rfl
    · exact m760
    · exact m761
  · rw [Nat.zero_testBit] at ht
    exact absurd ht (by decide)
  · rw [u (54 + 2 * j) (by omega) (by omega) (by omega), u (55 + 2 * j) (by omega) (by omega) (by omega), u 77 (by omega) (by omega) (by omega), u 78 (by omega) (by omega) (by omega), u 79 (by omega) (by omega) (by omega)]; exact r11 j hj
  · rw [ma 0 (by omega) (by omega), c0 9 (by omega), m35, ca 62 (by omega) (by omega) (by omega) (by omega) (by omega)]; exact r12
  · rw [u 70 (by omega) (by omega) (by omega)]; exact r13
  · rw [u 71 (by omega) (by omega) (by omega)]; exact r14
theorem st_text {k : Nat} {σ : ww_M} {s : ww_S} {d : ww_D1} (hk : k < 64) (h : ww_Rel k σ s d) : ∃ (v : Int32) (σ1 : ww_M) (σ2 : ww_M) (s2 : ww_S) (d2 : ww_D1), f_X6_text σ = some (v, σ1) ∧ f_X7_text σ1 62 = some (v, σ2) ∧ ww_Rel (k + 1) σ2 s2 d2 := by
  have hR := h
  obtain ⟨r1, r2, r3, r4, r5, ⟨n, hn, t1, t2, t3⟩, r7, r8, r9, r10, r11, r12, r13, r14⟩ := h
  obtain ⟨y, hy⟩ : ∃ y : Nat → Nat, y = fun i => ww_ix (σ 2 i) := ⟨_, rfl⟩
  have hyi : ∀ i, i < n → y i < 128 ∧ σ 2 i = nI (y i) ∧ σ 69 i = nI (y i) := fun i hi => by
    obtain ⟨c, c1, c2, c3⟩ := t3 i hi
    have e : y i = c := by rw [hy]; show ww_ix (σ 2 i) = c; rw [c2]; exact ww_ix_n (by omega)
    rw [e]; exact ⟨c1, c2, c3⟩
  have hT : tp_C σ n y := ⟨t1, hn, fun i hi => ⟨(hyi i hi).1, (hyi i hi).2.1⟩⟩
  have hTm : ∀ M : ww_M, M 62 = σ 62 → M 69 = σ 69 → tp_M M n y := fun M e1 e2 => ⟨by rw [e1]; exact t2, hn, fun i hi => ⟨(hyi i hi).1, by rw [e2]; exact (hyi i hi).2.2⟩⟩
  obtain ⟨σ0, a1, a2, a3, a4⟩ := tx_cls0 hT
  have both : ∀ M : ww_M, M 62 = σ 62 → M 69 = σ 69 → M 70 = σ 70 → M 71 = σ 71 → ∃ (l : Int32) (τ : ww_M) (l' : Int32) (μ : ww_M), ww_it (f_X5_tellAll_b30 3 1 14) ww_F (0, σ0) = some (l, τ) ∧ f_X7_text M 62 = f_X7_text_j81 μ 62 l' ∧ ((l = l' ∧ ∃ s d B, dr_C τ s d B ∧ dr_M μ s d B ∧ dr_ok s d ∧ μ 62 16 = 0 ∧ μ 62 19 = nI n) ∨ (∃ f at', (1 ≤ f ∧ f ≤ 5 ∧ at' ≤ 160) ∧ τ 3 0 = nI f ∧ τ 3 1 = nI at' ∧ μ 62 16 = nI f ∧ μ 62 17 = nI at' ∧ ∃ nb, nb ≤ 3 ∧ μ 62 11 = nI nb)) ∧ fr_C σ τ ∧ fr_M M μ := fun M e1 e2 e3 e4 => by
    obtain ⟨μ0, b1, b2, b3, b4⟩ := tx_mod0 (hTm M e1 e2)
    obtain ⟨⟨l, τ⟩, ⟨l', μ⟩, c1, c2, c3⟩ := tl_loop (a4.tp hT) (b4.tp (hTm M e1 e2)) (by rw [b4.1 70 (by omega) (by omega) (by omega) (by omega), e3]; exact r13) (by rw [b4.1 71 (by omega) (by omega) (by omega) (by omega), e4]; exact r14) ⟨rfl, rfl, 0, tx_s, tx_d, _, ⟨Nat.le_refl _, Nat.zero_le _⟩, a2, b2, a3, b3, tx_ok, fr_C.refl _, fr_M.refl _⟩
    refine ⟨l, τ, l', μ, c1, ?_, ?_⟩
    · rw [b1]
      unfold f_X7_text_j57
      rw [c2]
      rfl
    · rcases c3 with ⟨g1, s', d', B', g2, g3, g4, g5, g6, g7, g8⟩ | ⟨f, at', g1, g2, g3, g4, g5, g6, g7, g8⟩
      · exact ⟨Or.inl ⟨g1, s', d', B', g2, g3, g4, g5, g6⟩, a4.trans g7, b4.trans g8⟩
      · exact ⟨Or.inr ⟨f, at', g1, g2, g3, g4, g5, g6⟩, a4.trans g7, b4.trans g8⟩
  -- what the class does
  have cls : ∃ v σ1, f_X6_text σ = some (v, σ1) ∧ tx_K σ σ1 := by
    obtain ⟨l, τ, l', μ, c1, -, c3, c4, -⟩ := both σ rfl rfl rfl rfl
    rcases c3 with ⟨-, s', d', B', g2, -, g4, -⟩ | ⟨f, at', g1, g2, g3, -⟩
    · obtain ⟨v, σ1, w1, -, w3⟩ := tx_cls_good (n := n) a1 c1 g2 g4 (by rw [c4.2]; exact t1) c4
      exact ⟨v, σ1, w1, w3⟩
    · obtain ⟨v, σ1, w1, w2⟩ := tx_cls_bad a1 c1 ⟨g1.1, g1.2.1⟩ g2 g3 c4
      exact ⟨v, σ1, w1, fun a z1 z2 => w2.2.2.2 a (by omega) (by omega) (by omega)⟩
  obtain ⟨v, σ1, hv, hK⟩ := cls
  -- and the model behind it
  obtain ⟨l, τ, l', μ, c1, c2, c3, c4, c5⟩ := both σ1 (hK 62 (by omega) (by omega)) (hK 69 (by omega) (by omega)) (hK 70 (by omega) (by omega)) (hK 71 (by omega) (by omega))
  rcases c3 with ⟨rfl, s', d', B', g2, g3, g4, g5, g6⟩ | ⟨f, at', g1, g2, g3, g4', g5, nb, g6, g7⟩
  · obtain ⟨v2, σ2, w1, ⟨wG, w6, w7⟩, -⟩ := tx_cls_good (n := n) a1 c1 g2 g4 (by rw [c4.2]; exact t1) c4
    have heq : v2 = v ∧ σ2 = σ1 := by
      rw [hv] at w1
      have := Option.some.inj w1
      exact ⟨(congrArg Prod.fst this).symm, (congrArg Prod.snd this).symm⟩
    obtain ⟨rfl, rfl⟩ := heq
    obtain ⟨v3, ν, x1, xG, x6, x7⟩ := tx_mod_good (l := l) c5 g3 g4 g5 g6 (fun _ _ => trivial)
    by_cases q6 : bd_6 s'
    · by_cases q7 : bd_7 s'
      · have hc := wG q6 q7
        have hm := xG q6 q7
        have hS := tx_okS g4 q6 q7
        have hH : ww_okH (tx_s1 s') (ww_lose (tx_s1 s') d' (dHr d')) := ww_lose_ok (tx_okD g4) (by rw [g4.2.2.2.1.2.2.2.2.2]; omega)
        refine ⟨v2, σ2, ν, tx_s1 s', _, hv, ?_, ww_Rel_txG hR hc hm hS hH⟩
        rw [c2, x1, hm.1, hc.1]
      · have hc := w7 q6 q7
        have hm := x7 q6 q7
        refine ⟨v2, σ2, ν, s, d, hv, ?_, ww_Rel_txB hR hc hm⟩
        rw [c2, x1, hm.1, hc.1]
    · have hc := w6 q6
      have hm := x6 q6
      refine ⟨v2, σ2, ν, s, d, hv, ?_, ww_Rel_txB hR hc hm⟩
      rw [c2, x1, hm.1, hc.1]
  · obtain ⟨v2, σ2, w1, hc⟩ := tx_cls_bad a1 c1 ⟨g1.1, g1.2.1⟩ g2 g3 c4
    have heq : v2 = v ∧ σ2 = σ1 := by
      rw [hv] at w1
      have := Option.some.inj w1
      exact ⟨(congrArg Prod.fst this).symm, (congrArg Prod.snd this).symm⟩
    obtain ⟨rfl, rfl⟩ := heq
    obtain ⟨v3, ν, x1, hm⟩ := tx_mod_bad (l := l') c5 ⟨g1.1, g1.2.1⟩ g4' g5 g7 g6
    refine ⟨v2, σ2, ν, s, d, hv, ?_, ww_Rel_txB hR hc hm⟩
    rw [c2, x1, hm.1, hc.1]
