/-! ===== the loop over lines, both sides ===== -/
theorem ww_it_twoB {α β γ δ : Type} {f : α → Option (α ⊕ β)} {g : γ → Option (γ ⊕ δ)} (I : Nat → α → γ → Prop) (Q : β → δ → Prop) (n : Nat) (hn : n < 9990) {x0 : α} {y0 : γ} (h0 : I 0 x0 y0) (hs : ∀ i, i ≤ n → ∀ x y, I i x y → (i < n ∧ ∃ x' y', f x = some (.inl x') ∧ g y = some (.inl y') ∧ I (i + 1) x' y') ∨ (∃ r r', f x = some (.inr r) ∧ (g y = some (.inr r') ∨ ∃ y', g y = some (.inl y') ∧ g y' = some (.inr r')) ∧ Q r r')) : ∃ r r', ww_it f ww_F x0 = some r ∧ ww_it g ww_F y0 = some r' ∧ Q r r' := by
  have key : ∀ k i x y, k = n - i → i ≤ n → I i x y → ∀ fuel, k + 2 < fuel → ∃ r r', ww_it f fuel x = some r ∧ ww_it g fuel y = some r' ∧ Q r r' := by
    intro k
    induction k with
    | zero =>
      intro i x y hk hi hI fuel hf
      obtain ⟨f', rfl⟩ : ∃ f', fuel = f' + 1 + 1 := ⟨fuel - 2, by omega⟩
      rcases hs i hi x y hI with ⟨h1, -⟩ | ⟨r, r', h1, h2, h3⟩
      · omega
      · rcases h2 with h2 | ⟨y', h2, h4⟩
        · exact ⟨r, r', ww_it_done h1, ww_it_done h2, h3⟩
        · exact ⟨r, r', ww_it_done h1, ww_it_more h2 (ww_it_done h4), h3⟩
    | succ k ih =>
      intro i x y hk hi hI fuel hf
      obtain ⟨f', rfl⟩ : ∃ f', fuel = f' + 1 + 1 := ⟨fuel - 2, by omega⟩
      rcases hs i hi x y hI with ⟨h1, x', y', h2, h3, h4⟩ | ⟨r, r', h1, h2, h3⟩
      · obtain ⟨r, r', g1, g2, g3⟩ := ih (i + 1) x' y' (by omega) (by omega) h4 (f' + 1) (by omega)
        exact ⟨r, r', ww_it_more h2 g1, ww_it_more h3 g2, g3⟩
      · rcases h2 with h2 | ⟨y', h2, h4⟩
        · exact ⟨r, r', ww_it_done h1, ww_it_done h2, h3⟩
        · exact ⟨r, r', ww_it_done h1, ww_it_more h2 (ww_it_done h4), h3⟩
  exact key n 0 x0 y0 rfl (Nat.zero_le _) h0 ww_F (by unfold ww_F; omega)
def tl_I (n : Nat) (y : Nat → Nat) (σ0 μ0 : ww_M) (i : Nat) (a b : Int32 × ww_M) : Prop := a.1 = nI i ∧ b.1 = nI i ∧ ∃ p s d B, (i ≤ p ∧ p ≤ n) ∧ tk_C a.2 n y p ∧ tk_M b.2 n y p ∧ dr_C a.2 s d B ∧ dr_M b.2 s d B ∧ dr_ok s d ∧ fr_C σ0 a.2 ∧ fr_M μ0 b.2
def tl_good (n : Nat) (σ0 μ0 : ww_M) (a b : Int32 × ww_M) : Prop := a.1 = b.1 ∧ ∃ s d B, dr_C a.2 s d B ∧ dr_M b.2 s d B ∧ dr_ok s d ∧ b.2 62 16 = 0 ∧ b.2 62 19 = nI n ∧ fr_C σ0 a.2 ∧ fr_M μ0 b.2
def tl_bad (σ0 μ0 : ww_M) (a b : Int32 × ww_M) : Prop := ∃ f at', (1 ≤ f ∧ f ≤ 5 ∧ at' ≤ 160) ∧ a.2 3 0 = nI f ∧ a.2 3 1 = nI at' ∧ b.2 62 16 = nI f ∧ b.2 62 17 = nI at' ∧ (∃ nb, nb ≤ 3 ∧ b.2 62 11 = nI nb) ∧ fr_C σ0 a.2 ∧ fr_M μ0 b.2
theorem tl_loop {n : Nat} {y : Nat → Nat} {σ0 μ0 : ww_M} (hT : tp_C σ0 n y) (hTm : tp_M μ0 n y) (h70 : μ0 70 = ww_zModel 8) (h71 : μ0 71 = ww_zModel 9) (h0 : tl_I n y σ0 μ0 0 (0, σ0) (0, μ0)) : ∃ r r', ww_it (f_X5_tellAll_b30 3 1 14) ww_F (0, σ0) = some r ∧ ww_it (f_X7_text_b57 62) ww_F (0, μ0) = some r' ∧ (tl_good n σ0 μ0 r r' ∨ tl_bad σ0 μ0 r r') := by
  have hn := hT.2.1
  refine ww_it_twoB (f := f_X5_tellAll_b30 3 1 14) (g := f_X7_text_b57 62) (tl_I n y σ0 μ0) (fun r r' => tl_good n σ0 μ0 r r' ∨ tl_bad σ0 μ0 r r') 160 (by omega) h0 (fun i hi x z hI => ?_)
  obtain ⟨x1, σ⟩ := x
  obtain ⟨z1, μ⟩ := z
  unfold tl_I at hI
  dsimp only at hI
  obtain ⟨rfl, rfl, p, s, d, B, ⟨hip, hp⟩, hCt, hMt, hC, hD, hok, fC, fM⟩ := hI
  have hKl := tk_K_le n y p
  have hSl := tk_S_le y hp
  have hS1 := tk_S_ge n y p
  have hTs := fC.tp hT
  have hTu := fM.tp hTm
  have e11 : μ 62 11 = nI (sNb s) := hD.1.2.2
  by_cases k0 : tk_K n y p = 0
  · refine Or.inr ⟨(nI i, σ), (nI i, μ), ?_, Or.inl ?_, Or.inl ⟨rfl, s, d, B, hC, hD, hok, (hMt.2.2.1 (by omega)).1, ?_, fC, fM⟩⟩
    · unfold f_X5_tellAll_b30
      dsimp only
      by_cases q : (160 : Int32) ≤ nI i
      · rw [if_pos q]
      · rw [if_neg q, if_pos (show σ 1 3 = 0 by rw [hCt.2.1, k0]; rfl)]
    · unfold f_X7_text_b57
      dsimp only
      rw [if_pos (hMt.2.2.1 (by omega)).1, if_pos (show μ 62 20 = 0 by rw [(hMt.2.2.1 (by omega)).2, k0]; rfl)]
    · show μ 62 19 = nI n
      rw [hMt.2.1, tk_K0 hp k0]
  · have hNg := tk_N_gt hp k0
    have hi160 : i < 160 := by omega
    have clsk : ∀ E : Option ((Int32 × ww_M) ⊕ (Int32 × ww_M)), f_X5_tellAll_b30 3 1 14 (nI i, σ) = E ↔ (f_X5_readLine σ 3 1 14).bind (fun v47 => (if v47.1 = 0 then some (.inr (nI i, v47.2)) else (f_X4_step v47.2 1).bind (fun v57 => some (.inl (nI i + 1, v57))))) = E := fun E => by
      unfold f_X5_tellAll_b30
      dsimp only
      rw [if_neg (show ¬ (160 : Int32) ≤ nI i by rw [show (160 : Int32) = nI 160 from rfl, n_le (by omega) (by omega)]; omega), if_neg (show ¬ σ 1 3 = 0 by rw [hCt.2.1, show (0 : Int32) = nI 0 from rfl, n_eq (by omega) (by omega)]; exact k0)]
    by_cases k4 : tk_K n y p = 4
    · obtain ⟨m16, m17⟩ := hMt.2.2.2.2 k4
      obtain ⟨τ', f1, f2, f3, f4⟩ := sp_failTok (σ := σ) hCt (fr_C.refl σ)
      have ee : tk_e n y p = 1 := by unfold tk_e; rw [if_pos k4]
      have hL : wn_line n y p = 0 := by
        apply Classical.byContradiction
        intro w
        have := wn_line_K w
        omega
      rw [ee] at f2
      refine Or.inr ⟨(nI i, τ'), (nI i, μ), ?_, Or.inl ?_, Or.inr ⟨1, tk_S n y p, ⟨by omega, by omega, by omega⟩, f2, f3, m16, m17, ⟨sNb s, hok.1.2.2, e11⟩, fC.trans f4, fM⟩⟩
      · rw [clsk]
        unfold f_X5_readLine
        rw [sp_lineOf hTs hp hCt, hL]
        simp only [Option.bind_some]
        rw [if_pos (show nI 0 = 0 from rfl), f1]
        rfl
      · unfold f_X7_text_b57
        dsimp only
        rw [if_neg (show ¬ μ 62 16 = 0 by rw [m16]; decide)]
    · obtain ⟨m16, m20⟩ := hMt.2.2.1 k4
      have modk : ∀ ν, f_X7_readLine μ 62 = some ν → f_X7_text_b57 62 (nI i, μ) = some (.inl (nI (i + 1), ν)) := fun ν hν => by
        unfold f_X7_text_b57
        dsimp only
        rw [if_pos m16, if_neg (show ¬ μ 62 20 = 0 by rw [m20, show (0 : Int32) = nI 0 from rfl, n_eq (by omega) (by omega)]; exact k0), hν]
        simp only [Option.bind_some]
        rw [nI_1]
      rcases rl_line hTs hTu hp hCt hMt k0 k4 hC hD hok (by rw [fM.1 70 (by omega) (by omega) (by omega) (by omega)]; exact h70) (by rw [fM.1 71 (by omega) (by omega) (by omega) (by omega)]; exact h71) with ⟨τ, ν, s', d', B', q, w1, w2, ⟨w3, w4⟩, w5, w6, w7, w8, w9, w10, w11⟩ | ⟨τ, f, at', w1, ⟨w2, w3, w4⟩, w5, ν, w6, w7, w8, w9, w10⟩
      · obtain ⟨τ2, s1, s2, s3, s4⟩ := sp_step ((fC.trans w10).tp hT) w4 w5
        refine Or.inl ⟨hi160, (nI (i + 1), τ2), (nI (i + 1), ν), ?_, modk ν w2, rfl, rfl, q, s', d', B', ⟨by omega, w4⟩, s2, w6, dr_C_fr w7 s4, w8, w9, (fC.trans w10).trans ⟨fun a z1 _ _ => s4 a z1, s3⟩, fM.trans w11⟩
        rw [clsk, w1]
        simp only [Option.bind_some]
        rw [if_neg (by decide), s1, nI_1]
        rfl
      · refine Or.inr ⟨(nI i, τ), (nI (i + 1), ν), ?_, Or.inr ⟨(nI (i + 1), ν), modk ν w6, ?_⟩, Or.inr ⟨f, at', w5, w2, w3, w7, w8, w9, fC.trans w4, fM.trans w10⟩⟩
        · rw [clsk, w1]
          rfl
        · unfold f_X7_text_b57
          dsimp only
          rw [if_neg (show ¬ ν 62 16 = 0 by rw [w7, show (0 : Int32) = nI 0 from rfl, n_eq (by omega) (by omega)]; omega)]
/-! ===== where the beasts lie ===== -/
def bd_t (s : ww_S) : Nat → Nat
  | 0 => 0
  | b + 1 => bd_t s b ||| ww_bd (sHd s b) (sPt s b)
theorem bd_bit (a n i : Nat) : (ww_bd a n).testBit i = (decide (a ≤ i) && decide (i < a + n)) := bt_body n a i
theorem bd_t_bit (s : ww_S) (i : Nat) : ∀ b, (bd_t s b).testBit i = true ↔ ∃ c, c < b ∧ sHd s c ≤ i ∧ i < sHd s c + sPt s c
  | 0 => by
    rw [bd_t, Nat.zero_testBit]
    exact ⟨fun h => absurd h (by decide), fun ⟨c, h, _⟩ => absurd h (Nat.not_lt_zero c)⟩
  | b + 1 => by
    rw [bd_t, Nat.testBit_or, Bool.or_eq_true, bd_t_bit s i b, bd_bit, Bool.and_eq_true, decide_eq_true_eq, decide_eq_true_eq]
    constructor
    · rintro (⟨c, h1, h2⟩ | h)
      · exact ⟨c, by omega, h2⟩
      · exact ⟨b, by omega, h⟩
    · rintro ⟨c, h1, h2⟩
      by_cases e : c = b
      · subst e; exact Or.inr h2
      · exact Or.inl ⟨c, by omega, h2⟩
theorem bd_t_lt {s : ww_S} {d : ww_D1} (hok : dr_ok s d) : ∀ b, b ≤ sNb s → bd_t s b < 2 ^ 9
  | 0, _ => by show 0 < 2 ^ 9; decide
  | b + 1, h => by
    have h1 := bd_t_lt hok b (by omega)
    have h2 := hok.2.2.1 b (by omega)
    have h3 := ww_bd_lt (a := sHd s b) (n := sPt s b) (by omega) (by omega)
    have h4 : ww_bd (sHd s b) (sPt s b) < 2 ^ 9 := by
      apply Nat.lt_of_not_le
      intro z
      have : ∃ i, i ≥ 9 ∧ (ww_bd (sHd s b) (sPt s b)).testBit i = true := Nat.exists_ge_and_testBit_of_ge_two_pow z
      obtain ⟨i, h5, h6⟩ := this
      rw [bd_bit, Bool.and_eq_true, decide_eq_true_eq, decide_eq_true_eq] at h6
      omega
    exact Nat.or_lt_two_pow h1 h4
theorem bd_and {x y : Nat} : x &&& y = 0 ↔ ∀ i, ¬ (x.testBit i = true ∧ y.testBit i = true) := by
  constructor
  · intro h i hi
    have : (x &&& y).testBit i = true := by rw [Nat.testBit_and, hi.1, hi.2]; rfl
    rw [h, Nat.zero_testBit] at this
    exact absurd this (by decide)
  · intro h
    refine bt_eq (fun i => ?_)
    rw [Nat.testBit_and, Nat.zero_testBit]
    cases h1 : x.testBit i
    · rfl
    · cases h2 : y.testBit i
      · rfl
      · exact absurd ⟨h1, h2⟩ (h i)
def bd_6 (s : ww_S) : Prop := ∀ b, b < sNb s → sHd s b + sPt s b ≤ sNp s
def bd_7 (s : ww_S) : Prop := ∀ b, b < sNb s → bd_t s b &&& ww_bd (sHd s b) (sPt s b) = 0
theorem bd_6_iff {s : ww_S} {d : ww_D1} (hok : dr_ok s d) : bd_t s (sNb s) / 2 ^ sNp s = 0 ↔ bd_6 s := by
  rw [Nat.div_eq_zero_iff]
  constructor
  · intro h b hb
    have h2 := hok.2.2.1 b hb
    have h3 : bd_t s (sNb s) < 2 ^ sNp s := by
      rcases h with h | h
      · exact absurd h (Nat.pos_iff_ne_zero.mp (Nat.pow_pos (by omega)))
      · exact h
    apply Nat.le_of_not_lt
    intro z
    have e1 : (bd_t s (sNb s)).testBit (sHd s b + sPt s b - 1) = true := (bd_t_bit s _ _).mpr ⟨b, hb, by omega, by omega⟩
    have e2 : bd_t s (sNb s) < 2 ^ (sHd s b + sPt s b - 1) := Nat.lt_of_lt_of_le h3 (Nat.pow_le_pow_right (by omega) (by omega))
    rw [Nat.testBit_lt_two_pow e2] at e1
    exact absurd e1 (by decide)
  · intro h
    refine Or.inr ?_
    apply Nat.lt_of_not_le
    intro z
    obtain ⟨i, h5, h6⟩ := Nat.exists_ge_and_testBit_of_ge_two_pow z
    obtain ⟨c, c1, c2, c3⟩ := (bd_t_bit s i _).mp h6
    have := h c c1
    omega
theorem bd_7_dis {s : ww_S} (h : bd_7 s) {d : ww_D1} (hok : dr_ok s d) : ∀ b c, b < sNb s → c < sNb s → b ≠ c → sHd s b + sPt s b ≤ sHd s c ∨ sHd s c + sPt s c ≤ sHd s b := by
  have key : ∀ b c, b < c → c < sNb s → sHd s b + sPt s b ≤ sHd s c ∨ sHd s c + sPt s c ≤ sHd s b := fun b c hbc hc => by
    have h1 := bd_and.mp (h c hc)
    have hb := hok.2.2.1 b (by omega)
    have hcc := hok.2.2.1 c hc
    apply Classical.byContradiction
    intro z
    -- the later of the two heads lies in both
    by_cases q : sHd s b ≤ sHd s c
    · refine h1 (sHd s c) ⟨(bd_t_bit s _ _).mpr ⟨b, hbc, by omega, by omega⟩, ?_⟩
      rw [bd_bit, Bool.and_eq_true, decide_eq_true_eq, decide_eq_true_eq]; omega
    · refine h1 (sHd s b) ⟨(bd_t_bit s _ _).mpr ⟨b, hbc, by omega, by omega⟩, ?_⟩
      rw [bd_bit, Bool.and_eq_true, decide_eq_true_eq, decide_eq_true_eq]; omega
  intro b c hb hc hn
  by_cases e : b < c
  · exact key b c e hc
  · exact (key c b (by omega) hb).symm
