/-! ===== bits ===== -/
theorem bt_lt (p : Nat → Bool) : ∀ n, ww_bits p n < 2 ^ n
  | 0 => by simp [ww_bits]
  | n + 1 => by
    have := bt_lt p n
    simp only [ww_bits, Nat.pow_succ]
    split <;> omega
theorem bt_or (p : Nat → Bool) (n : Nat) : ww_bits p n ||| (if p n then 2 ^ n else 0) = ww_bits p (n + 1) := by
  simp only [ww_bits]
  split
  · have h := Nat.two_pow_add_eq_or_of_lt (bt_lt p n) 1
    rw [Nat.mul_one] at h
    rw [Nat.or_comm, ← h, Nat.add_comm]
  · simp
theorem bt_test (p : Nat → Bool) : ∀ n i, (ww_bits p n).testBit i = (decide (i < n) && p i)
  | 0, i => by simp [ww_bits]
  | n + 1, i => by
    rw [← bt_or, Nat.testBit_or, bt_test p n i]
    by_cases h : i = n
    · subst h
      cases hp : p i <;> simp
    · cases hp : p n
      · simp
        by_cases h2 : i < n
        · simp [h2]; intro _; omega
        · have : ¬ i < n + 1 := by omega
          simp [h2, this]
      · simp [Nat.testBit_two_pow, Ne.symm h]
        by_cases h2 : i < n
        · simp [h2]; intro _; omega
        · have : ¬ i < n + 1 := by omega
          simp [h2, this]
theorem bt_cong {p q : Nat → Bool} : ∀ {n : Nat}, (∀ i, i < n → p i = q i) → ww_bits p n = ww_bits q n
  | 0, _ => rfl
  | n + 1, h => by
    simp only [ww_bits]
    rw [bt_cong (fun i hi => h i (by omega)), h n (by omega)]
theorem bt_eq {a b : Nat} (h : ∀ i, a.testBit i = b.testBit i) : a = b := Nat.eq_of_testBit_eq h
theorem ww_sl5 : ∀ n, n < 32 → ((nI n &&& 31).toBitVec.smod 32).toNat = n := by decide
theorem ww_shlN {a i : Nat} (hi : i < 31) (h : a * 2 ^ i < 2 ^ 32) : ww_shl (nI a) (nI i) = nI (a * 2 ^ i) := pk_shlN _ i (ww_sl5 i (by omega)) h
theorem ww_shl1 {i : Nat} (hi : i < 31) : ww_shl 1 (nI i) = nI (2 ^ i) := by
  have h2 : 2 ^ i < 2 ^ 32 := Nat.pow_lt_pow_right (by omega) (by omega)
  have := ww_shlN (a := 1) hi (by rw [Nat.one_mul]; exact h2)
  rw [Nat.one_mul] at this
  exact this
theorem ww_shrN {a i : Nat} (hi : i < 31) (h : a < 2 ^ 31) : ww_shr (nI a) (nI i) = nI (a / 2 ^ i) := pk_shrN h _ i (ww_sl5 i (by omega))
theorem ww_bit {a i : Nat} (hi : i < 31) (h : a < 2 ^ 31) : (ww_shr (nI a) (nI i) &&& 1) = if a.testBit i then 1 else 0 := by
  rw [ww_shrN hi h]
  have e : nI (a / 2 ^ i) &&& nI (2 ^ 1 - 1) = nI (a / 2 ^ i % 2 ^ 1) := fa_mask _ _
  have e2 : nI (a / 2 ^ i) &&& 1 = nI (a / 2 ^ i % 2) := e
  rw [e2, Nat.testBit_eq_decide_div_mod_eq]
  rcases Nat.mod_two_eq_zero_or_one (a / 2 ^ i) with h | h <;> rw [h] <;> rfl
theorem bt_body (n k i : Nat) : ((2 ^ n - 1) * 2 ^ k).testBit i = (decide (k ≤ i) && decide (i < k + n)) := by
  rw [← Nat.shiftLeft_eq, Nat.testBit_shiftLeft, Nat.testBit_two_pow_sub_one]
  by_cases h : k ≤ i
  · simp [h]; omega
  · simp [h]
theorem bt_sub {W B : Nat} : W &&& B = B ↔ ∀ i, B.testBit i = true → W.testBit i = true := by
  constructor
  · intro h i hi
    have := congrArg (fun x => x.testBit i) h
    simp [Nat.testBit_and, hi] at this
    exact this
  · intro h
    apply bt_eq
    intro i
    rw [Nat.testBit_and]
    cases hb : B.testBit i
    · simp
    · simp [h i hb]
/-- wet from a place on over n places -/
def ww_flA (s : ww_S) (d : ww_D1) (a n h : Nat) : Bool := (List.range n).all (fun p => ww_wet s d (a + p) h)
theorem ww_flA_iff {s : ww_S} {d : ww_D1} {a n h : Nat} : ww_flA s d a n h = true ↔ ∀ p, p < n → ww_wet s d (a + p) h = true := by
  simp [ww_flA, List.all_eq_true]
theorem bt_float {s : ww_S} {d : ww_D1} {a n h N : Nat} (hN : a + n ≤ N) : (ww_bits (fun i => ww_wet s d i h) N &&& ((2 ^ n - 1) * 2 ^ a) = (2 ^ n - 1) * 2 ^ a) ↔ ww_flA s d a n h = true := by
  rw [bt_sub, ww_flA_iff]
  constructor
  · intro q p hp
    have := q (a + p) (by rw [bt_body]; simp; omega)
    rw [bt_test] at this
    simp at this
    exact this.2
  · intro q i hi
    rw [bt_body] at hi
    simp at hi
    rw [bt_test]
    have := q (i - a) (by omega)
    rw [show a + (i - a) = i by omega] at this
    simp [this]; omega
/-! ===== the class's shore: water ===== -/
theorem sp_wetPlaces {σ : ww_M} {o h : Nat} {s : ww_S} {d : ww_D1} (hs : ww_okS s) (hd : ww_okD s d) (hC : ww_ClsA σ o s d) (hh : h < 100000) : f_X2_wetPlaces σ o (nI h) = some (nI (ww_bits (fun i => ww_wet s d i h) (sNp s))) := by
  unfold f_X2_wetPlaces f_X2_wetPlaces_j11 f_X2_wetPlaces_j44
  rw [sp_levelIn hs hC hh]
  simp only [Option.bind_some]
  have hnp := hs.1
  have hl : sLvl s h ≤ 9 := hs.2.2.2.2.1 _ (Nat.mod_lt _ (by have := hs.2.1; omega))
  have key : ww_it (f_X2_wetPlaces_b11 σ o (nI h) (nI (sLvl s h))) ww_F (nI (ww_bits (fun i => ww_wet s d i h) 0), nI 0) = some (nI (ww_bits (fun i => ww_wet s d i h) (sNp s))) := by
    refine ww_it_for (fun i => (nI (ww_bits (fun i => ww_wet s d i h) i), nI i)) (sNp s) (by omega) (fun i hi => ?_) ?_
    · unfold f_X2_wetPlaces_b11
      have hm := (hd.2.2.2.2.2.2.1 i hi).2
      simp only
      rw [hC.1.1, if_neg (nI_ge hi (by omega)), ww_ck_t (ww_in_n (by omega) (by omega)), ww_ix_n (by omega), (hC.2.2.1 i hi).2, nI_1, ww_shl1 (by omega), fa_or]
      by_cases c : dMark d i < sLvl s h
      · have e := bt_or (fun i => ww_wet s d i h) i
        rw [if_neg (nI_ge c (by omega)), ← e]
        simp [ww_wet, c]
      · rw [if_pos (nI_le (by omega) (by omega))]
        simp [ww_bits, ww_wet, c]
    · unfold f_X2_wetPlaces_b11
      simp only
      rw [hC.1.1, if_pos (nI_le (Nat.le_refl _) (by omega))]
  have key' : ww_it (f_X2_wetPlaces_b11 σ o (nI h) (nI (sLvl s h))) ww_F (0, 0) = some (nI (ww_bits (fun i => ww_wet s d i h) (sNp s))) := key
  rw [key']
  rfl
theorem sp_bodyOf {σ : ww_M} {o b : Nat} {s : ww_S} {d : ww_D1} (hs : ww_okS s) (hC : ww_ClsA σ o s d) (hb : b < sNb s) : f_X2_bodyOf σ o (nI b) = some (nI ((2 ^ sPt s b - 1) * 2 ^ sHd s b)) := by
  have h6 := hs.2.2.2.2.2.1 b hb
  have hnb := hs.2.2.2.1
  have hnp := hs.1
  unfold f_X2_bodyOf f_X6_bodyAt
  rw [ww_ck_t (ww_in_n (by omega) (by omega)), ww_ck_t (ww_in_n (by omega) (by omega)), ww_ix_n (by omega), (hC.2.2.2.2.1 b hb).1, (hC.2.2.2.2.1 b hb).2, ww_shl1 (by omega)]
  simp only [Option.bind_some]
  have p1 : 1 ≤ 2 ^ sPt s b := Nat.one_le_two_pow
  have p2 : 2 ^ sPt s b ≤ 2 ^ 3 := Nat.pow_le_pow_right (by omega) (by omega)
  have p3 : 2 ^ sHd s b ≤ 2 ^ 6 := Nat.pow_le_pow_right (by omega) (by omega)
  rw [show nI (2 ^ sPt s b) - 1 = nI (2 ^ sPt s b - 1) from pk_sub (b := 1) p1, ww_shlN (by omega)]
  calc (2 ^ sPt s b - 1) * 2 ^ sHd s b ≤ 7 * 64 := Nat.mul_le_mul (by omega) p3
    _ < 2 ^ 32 := by decide
theorem ww_flt_A (s : ww_S) (d : ww_D1) (b h : Nat) : ww_flt s d b h = ww_flA s d (sHd s b) (sPt s b) h := rfl
theorem sp_floating {σ : ww_M} {o h : Nat} {s : ww_S} {d : ww_D1} (hs : ww_okS s) (hd : ww_okD s d) (hC : ww_ClsA σ o s d) (hh : h < 100000) : f_X2_floatingBeasts σ o (nI h) = some (nI (ww_bits (fun b => ww_flt s d b h) (sNb s))) := by
  unfold f_X2_floatingBeasts f_X2_floatingBeasts_j11 f_X2_floatingBeasts_j50
  rw [sp_wetPlaces hs hd hC hh]
  simp only [Option.bind_some]
  have hnp := hs.1
  have hnb := hs.2.2.2.1
  have key : ww_it (f_X2_floatingBeasts_b11 σ o (nI h) (nI (ww_bits (fun i => ww_wet s d i h) (sNp s)))) ww_F (nI (ww_bits (fun b => ww_flt s d b h) 0), nI 0) = some (nI (ww_bits (fun b => ww_flt s d b h) (sNb s))) := by
    refine ww_it_for (fun i => (nI (ww_bits (fun b => ww_flt s d b h) i), nI i)) (sNb s) (by omega) (fun i hi => ?_) ?_
    · have h6 := hs.2.2.2.2.2.1 i hi
      unfold f_X2_floatingBeasts_b11
      simp only
      rw [hC.1.2.2, if_neg (nI_ge hi (by omega)), sp_bodyOf hs hC hi]
      simp only [Option.bind_some]
      rw [nI_1, ww_shl1 (by omega), fa_or, fa_and]
      have p2 : 2 ^ sPt s i ≤ 2 ^ 3 := Nat.pow_le_pow_right (by omega) (by omega)
      have p3 : 2 ^ sHd s i ≤ 2 ^ 6 := Nat.pow_le_pow_right (by omega) (by omega)
      have hB : (2 ^ sPt s i - 1) * 2 ^ sHd s i < 2 ^ 31 := by
        calc (2 ^ sPt s i - 1) * 2 ^ sHd s i ≤ 7 * 64 := Nat.mul_le_mul (by omega) p3
          _ < 2 ^ 31 := by decide
      have hW : ww_bits (fun i => ww_wet s d i h) (sNp s) &&& ((2 ^ sPt s i - 1) * 2 ^ sHd s i) < 2 ^ 31 := Nat.lt_of_le_of_lt Nat.and_le_right hB
      have hq := bt_float (s := s) (d := d) (a := sHd s i) (n := sPt s i) (h := h) (N := sNp s) (by omega)
      have e := bt_or (fun b => ww_flt s d b h) i
      by_cases c : ww_flA s d (sHd s i) (sPt s i) h = true
      · rw [if_pos (by rw [hq.mpr c]), ← e]
        simp [ww_flt_A, c]
      · rw [if_neg (fun z => c (hq.mp ((nI_eq hW hB).mp z)))]
        simp [ww_bits, ww_flt_A, c]
    · unfold f_X2_floatingBeasts_b11
      simp only
      rw [hC.1.2.2, if_pos (nI_le (Nat.le_refl _) (by omega))]
  have key' : ww_it (f_X2_floatingBeasts_b11 σ o (nI h) (nI (ww_bits (fun i => ww_wet s d i h) (sNp s)))) ww_F (0, 0) = some (nI (ww_bits (fun b => ww_flt s d b h) (sNb s))) := key
  rw [key']
  rfl
/-- what is lost now, and what floats -/
def ww_lose (s : ww_S) (d : ww_D1) (h : Nat) : ww_D1 := dsLost d (fun b => dLost d b || (decide (b < sNb s) && ww_flt s d b h))
theorem sp_lose {σ : ww_M} {o : Nat} {s : ww_S} {d : ww_D1} (hs : ww_okS s) (hd : ww_okD s d) (hC : ww_ClsA σ o s d) : ∃ τ, f_X2_loseFloating σ o = some τ ∧ ww_ClsA τ o s (ww_lose s d (dHr d)) ∧ ∀ a, a ≠ o → τ a = σ a := by
  have hnb := hs.2.2.2.1
  unfold f_X2_loseFloating
  rw [hC.2.1.2.2.2.1, sp_floating hs hd hC (by have := hd.2.2.2.2.2.1; omega)]
  simp only [Option.bind_some]
  refine ⟨_, rfl, ?_, fun a ha => ww_up_ne ha⟩
  rw [hC.2.1.2.2.2.2, fa_or]
  have e : ww_lostN d ||| ww_bits (fun b => ww_flt s d b (dHr d)) (sNb s) = ww_bits (fun b => dLost d b || (decide (b < sNb s) && ww_flt s d b (dHr d))) 3 := by
    apply bt_eq
    intro i
    unfold ww_lostN
    rw [Nat.testBit_or, bt_test, bt_test, bt_test]
    by_cases c : i < 3
    · simp [c]
    · have : ¬ i < sNb s := by omega
      simp [c, this]
  rw [e]
  exact uc_lost hs hC _
