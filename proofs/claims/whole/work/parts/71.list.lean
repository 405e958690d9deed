/-! ===== a list of slots: its j-th one, its codes ===== -/
def ls_sl (q : Nat → Bool) (j : Nat) : Nat := fa_first (fun i => q i && decide (fb_ct q i = j)) 9
theorem ls_yes {q : Nat → Bool} {j : Nat} (hc : ls_sl q j < 9) : q (ls_sl q j) = true ∧ fb_ct q (ls_sl q j) = j := by
  have hy := fa_first_yes (fun i => q i && decide (fb_ct q i = j)) 9 hc
  have hy' : (q (ls_sl q j) && decide (fb_ct q (ls_sl q j) = j)) = true := hy
  rw [Bool.and_eq_true, decide_eq_true_eq] at hy'
  exact hy'
theorem ls_in {q : Nat → Bool} {j : Nat} (h : j < fb_ct q 9) : ls_sl q j < 9 ∧ q (ls_sl q j) = true ∧ fb_ct q (ls_sl q j) = j := by
  obtain ⟨i, h1, h2, h3⟩ := fb_ct_kth h
  have hp : (q i && decide (fb_ct q i = j)) = true := by simp [h2, h3]
  have hlt : ls_sl q j < 9 := by
    apply Nat.lt_of_not_le
    intro hc
    have := fa_first_no (fun i => q i && decide (fb_ct q i = j)) 9 i (by unfold ls_sl at hc; omega)
    rw [hp] at this
    exact absurd this (by decide)
  exact ⟨hlt, ls_yes hlt⟩
theorem ls_lt_ct {q : Nat → Bool} {i n : Nat} (h : q i = true) (hi : i < n) : fb_ct q i < fb_ct q n := by
  have h1 := fb_ct_mono q (show i + 1 ≤ n by omega)
  rw [fb_ct_succ, if_pos h] at h1
  omega
theorem ls_out {q : Nat → Bool} {j : Nat} (h : fb_ct q 9 ≤ j) : ls_sl q j = 9 := by
  have hl : ls_sl q j ≤ 9 := fa_first_le _ 9
  apply Nat.le_antisymm hl
  apply Nat.le_of_not_lt
  intro hc
  have hy := ls_yes hc
  have := ls_lt_ct hy.1 hc
  omega
theorem ls_le (q : Nat → Bool) (j : Nat) : ls_sl q j ≤ 9 := fa_first_le _ 9
theorem ls_of {q : Nat → Bool} {x : Nat} (h : x < 9) (hq : q x = true) : ls_sl q (fb_ct q x) = x := by
  have h1 := ls_in (ls_lt_ct hq h)
  exact fb_ct_kth_one h1.2.1 hq h1.2.2
theorem ls_mono {q : Nat → Bool} {i j : Nat} (hij : i < j) (hi : i < fb_ct q 9) : ls_sl q i < ls_sl q j := by
  have h1 := ls_in hi
  by_cases c : j < fb_ct q 9
  · have h2 := ls_in c
    apply Nat.lt_of_not_le
    intro hc
    have := fb_ct_mono q hc
    omega
  · rw [ls_out (j := j) (by omega)]; exact h1.1
theorem ls_lt_iff {q : Nat → Bool} {i j : Nat} (hi : i ≤ fb_ct q 9) (hj : j ≤ fb_ct q 9) : ls_sl q i < ls_sl q j ↔ i < j := by
  constructor
  · intro h
    apply Nat.lt_of_not_le
    intro c
    by_cases e : i = j
    · subst e; omega
    · have := ls_mono (q := q) (show j < i by omega) (by omega)
      omega
  · intro h
    exact ls_mono h (by omega)
theorem ls_inj {q : Nat → Bool} {i j : Nat} (hi : i ≤ fb_ct q 9) (hj : j ≤ fb_ct q 9) (h : ls_sl q i = ls_sl q j) : i = j := by
  have h1 := ls_lt_iff hi hj
  have h2 := ls_lt_iff hj hi
  omega
theorem ls_9 {q : Nat → Bool} {j : Nat} (hj : j ≤ fb_ct q 9) : ls_sl q j = 9 ↔ j = fb_ct q 9 := by
  constructor
  · intro h
    by_cases c : j < fb_ct q 9
    · have := ls_in c; omega
    · omega
  · intro h
    exact ls_out (by omega)
theorem ls_pair {q : Nat → Bool} {i j i' j' : Nat} (h6 : fb_ct q 9 ≤ 6) (hi : i ≤ fb_ct q 9) (hj : j ≤ fb_ct q 9) (hi' : i' ≤ fb_ct q 9) (hj' : j' ≤ fb_ct q 9) : 10 * ls_sl q i + ls_sl q j < 10 * ls_sl q i' + ls_sl q j' ↔ 7 * i + j < 7 * i' + j' := by
  have h1 := ls_lt_iff hi hi'
  have h2 := ls_lt_iff hi' hi
  have h3 := ls_lt_iff hj hj'
  have e1 := ls_le q j
  have e2 := ls_le q j'
  omega
def ls_W (q : Nat → Bool) (c : Nat) : Nat → Nat := fun i => if i < 9 ∧ q i = true then c / 4 ^ fb_ct q i % 4 else 0
theorem ls_W_sl {q : Nat → Bool} {j : Nat} (h : j < fb_ct q 9) (c : Nat) : ls_W q c (ls_sl q j) = c / 4 ^ j % 4 := by
  obtain ⟨h1, h2, h3⟩ := ls_in h
  unfold ls_W
  rw [if_pos ⟨h1, h2⟩, h3]
theorem ls_W_9 {q : Nat → Bool} {c x : Nat} (h : 9 ≤ x) : ls_W q c x = 0 := by
  unfold ls_W
  rw [if_neg (by omega)]
theorem ls_dig {i j c : Nat} (hi : i < 6) (hj : j < 6) (hc : c < 4096) (h : 0 < c / 4 ^ i % 4) : (c - 4 ^ i) / 4 ^ j % 4 = if j = i then c / 4 ^ i % 4 - 1 else c / 4 ^ j % 4 := by
  rcases (show i = 0 ∨ i = 1 ∨ i = 2 ∨ i = 3 ∨ i = 4 ∨ i = 5 by omega) with rfl | rfl | rfl | rfl | rfl | rfl <;>
  rcases (show j = 0 ∨ j = 1 ∨ j = 2 ∨ j = 3 ∨ j = 4 ∨ j = 5 by omega) with rfl | rfl | rfl | rfl | rfl | rfl <;>
  simp only [Nat.reducePow, Nat.reduceEqDiff, if_true, if_false] at h ⊢ <;> omega
theorem ls_dig_le {i c : Nat} (h : 0 < c / 4 ^ i % 4) : 4 ^ i ≤ c := by
  apply Nat.le_of_not_lt
  intro hc
  rw [Nat.div_eq_of_lt hc] at h
  exact absurd h (by decide)
theorem ls_4096 {N : Nat} (h : N ≤ 6) : 4 ^ N ≤ 4096 := Nat.pow_le_pow_right (n := 4) (by omega) h
theorem ls_W_dn {q : Nat → Bool} {j c : Nat} (h6 : fb_ct q 9 ≤ 6) (h : j < fb_ct q 9) (hc : c < 4 ^ fb_ct q 9) (hd : 0 < c / 4 ^ j % 4) : pv_dn (ls_W q c) (ls_sl q j) = ls_W q (c - 4 ^ j) := by
  obtain ⟨h1, h2, h3⟩ := ls_in h
  have h4 := ls_4096 h6
  funext i
  by_cases e : i = ls_sl q j
  · subst e
    rw [pv_dn_self h1, ls_W_sl h, ls_W_sl h, ls_dig (by omega) (by omega) (by omega) hd, if_pos rfl]
  · rw [pv_dn_ne e]
    unfold ls_W
    by_cases c1 : i < 9 ∧ q i = true
    · rw [if_pos c1, if_pos c1]
      have hi : fb_ct q i < fb_ct q 9 := ls_lt_ct c1.2 c1.1
      rw [ls_dig (i := j) (by omega) (by omega) (by omega) hd, if_neg]
      intro e2
      exact e (fb_ct_kth_one c1.2 h2 (by omega))
    · rw [if_neg c1, if_neg c1]
def ls_af (N c j : Nat) : Nat := if j < N then c - 4 ^ j else c
theorem ls_af_le (N c j : Nat) : ls_af N c j ≤ c := by
  unfold ls_af
  split
  · exact Nat.sub_le _ _
  · exact Nat.le_refl _
theorem ls_W_af {q : Nat → Bool} {j c : Nat} (h6 : fb_ct q 9 ≤ 6) (h : j ≤ fb_ct q 9) (hc : c < 4 ^ fb_ct q 9) (hd : j < fb_ct q 9 → 0 < c / 4 ^ j % 4) : pv_dn (ls_W q c) (ls_sl q j) = ls_W q (ls_af (fb_ct q 9) c j) := by
  unfold ls_af
  by_cases e : j < fb_ct q 9
  · rw [if_pos e]; exact ls_W_dn h6 e hc (hd e)
  · rw [if_neg e, ls_out (by omega), pv_dn_9]
/-- a code out of its digits -/
def ls_cd (f : Nat → Nat) : Nat → Nat
  | 0 => 0
  | j + 1 => ls_cd f j + f j * 4 ^ j
theorem ls_cd_lt {f : Nat → Nat} {n : Nat} (h : ∀ j, j < n → f j ≤ 3) : ls_cd f n < 4 ^ n := by
  induction n with
  | zero => simp [ls_cd]
  | succ n ih =>
    have h1 := ih (fun j hj => h j (by omega))
    have h2 := Nat.mul_le_mul_right (4 ^ n) (h n (by omega))
    unfold ls_cd
    rw [Nat.pow_succ]
    omega
theorem ls_cd_dig {f : Nat → Nat} {n j : Nat} (h : ∀ j, j < n → f j ≤ 3) (hj : j < n) : ls_cd f n / 4 ^ j % 4 = f j := by
  induction n with
  | zero => omega
  | succ n ih =>
    have h1 := ls_cd_lt (fun j hj => h j (Nat.lt_succ_of_lt hj))
    have h3 := h n (by omega)
    unfold ls_cd
    by_cases e : j = n
    · subst e
      rw [Nat.add_mul_div_right _ _ (Nat.pow_pos (by omega)), Nat.div_eq_of_lt h1, Nat.zero_add]
      exact Nat.mod_eq_of_lt (by omega)
    · have h2 := ih (fun j hj => h j (by omega)) (by omega)
      have e4 : f n * 4 ^ n = (f n * 4 ^ (n - j - 1) * 4) * 4 ^ j := by
        rw [Nat.mul_assoc, Nat.mul_assoc]
        congr 1
        rw [← Nat.mul_assoc, ← Nat.pow_succ, ← Nat.pow_add]
        congr 1
        omega
      rw [e4, Nat.add_mul_div_right _ _ (Nat.pow_pos (by omega)), Nat.add_mul_mod_self_right]
      exact h2
def ls_w0 (q : Nat → Bool) (f : Nat → Nat) : Nat → Nat := fun i => if i < 9 ∧ q i = true then f i else 0
theorem ls_W_cd {q : Nat → Bool} {f : Nat → Nat} (hf : ∀ i, i < 9 → q i = true → f i ≤ 3) : ls_W q (ls_cd (fun j => f (ls_sl q j)) (fb_ct q 9)) = ls_w0 q f := by
  funext i
  unfold ls_W ls_w0
  by_cases c : i < 9 ∧ q i = true
  · rw [if_pos c, if_pos c, ls_cd_dig (fun j hj => by
      have h := ls_in hj
      exact hf _ h.1 h.2.1) (ls_lt_ct c.2 c.1), ls_of c.1 c.2]
  · rw [if_neg c, if_neg c]
section LSP
variable {ab : Nat → Nat → Bool} {g : Nat → Nat → Nat} {two : Bool} {q : Nat → Bool} {k c m : Nat}
theorem ls_can {j : Nat} (h : j ≤ fb_ct q 9) : pv_can ab k (ls_W q c) (ls_sl q j) ↔ (j < fb_ct q 9 → ab k (ls_sl q j) = true ∧ 0 < c / 4 ^ j % 4) := by
  by_cases e : j < fb_ct q 9
  · have h1 := ls_in e
    rw [← ls_W_sl e c]
    constructor
    · rintro (h2 | ⟨-, h2⟩) -
      · omega
      · exact h2
    · intro h2
      exact Or.inr ⟨h1.1, h2 e⟩
  · rw [ls_out (by omega)]
    exact ⟨fun _ h => absurd h e, fun _ => Or.inl rfl⟩
theorem ls_can_of {x : Nat} (h : pv_can ab k (ls_W q c) x) : ∃ j, j ≤ fb_ct q 9 ∧ x = ls_sl q j := by
  rcases h with rfl | ⟨h1, h2, h3⟩
  · exact ⟨fb_ct q 9, Nat.le_refl _, (ls_out (Nat.le_refl _)).symm⟩
  · have hq : q x = true := by
      unfold ls_W at h3
      split at h3
      · rename_i e; exact e.2
      · omega
    exact ⟨fb_ct q x, Nat.le_of_lt (ls_lt_ct hq h1), (ls_of h1 hq).symm⟩
theorem ls_may {i j : Nat} (hi : i ≤ fb_ct q 9) (hj : j ≤ fb_ct q 9) : pv_may two (ls_sl q i) (ls_sl q j) ↔ (j = fb_ct q 9 ∨ (i < j ∧ two = true)) := by
  unfold pv_may
  rw [ls_9 hj, ls_lt_iff hi hj]
theorem ls_gn {j : Nat} (h : j ≤ fb_ct q 9) : pv_gn g k (ls_W q c) (ls_sl q j) = if j < fb_ct q 9 ∧ c / 4 ^ j % 4 = 1 then g k (ls_sl q j) else 0 := by
  by_cases e : j < fb_ct q 9
  · have h1 := ls_in e
    unfold pv_gn
    rw [ls_W_sl e]
    by_cases e2 : c / 4 ^ j % 4 = 1
    · rw [if_pos ⟨h1.1, e2⟩, if_pos ⟨e, e2⟩]
    · rw [if_neg (fun z => e2 z.2), if_neg (fun z => e2 z.2)]
  · rw [ls_out (by omega), pv_gn_9, if_neg (fun z => e z.1)]
theorem ls_dn2 {i j : Nat} (h6 : fb_ct q 9 ≤ 6) (hc : c < 4 ^ fb_ct q 9) (hi : i ≤ fb_ct q 9) (hj : j ≤ fb_ct q 9) (hij : j = fb_ct q 9 ∨ i ≠ j) (hdi : i < fb_ct q 9 → 0 < c / 4 ^ i % 4) (hdj : j < fb_ct q 9 → 0 < c / 4 ^ j % 4) : pv_dn (pv_dn (ls_W q c) (ls_sl q i)) (ls_sl q j) = ls_W q (ls_af (fb_ct q 9) (ls_af (fb_ct q 9) c i) j) := by
  have h4 := ls_4096 h6
  rw [ls_W_af h6 hi hc hdi]
  refine ls_W_af h6 hj (Nat.lt_of_le_of_lt (ls_af_le _ _ _) hc) (fun h => ?_)
  unfold ls_af
  by_cases e : i < fb_ct q 9
  · rw [if_pos e, ls_dig (by omega) (by omega) (by omega) (hdi e), if_neg (by omega)]
    exact hdj h
  · rw [if_neg e]; exact hdj h
theorem ls_cnt (c : Nat) : fb_ct (fun i => decide (0 < ls_W q c i)) 9 ≤ fb_ct q 9 := fb_ct_sub (fun k hk h => by
  unfold ls_W at h
  by_cases e : k < 9 ∧ q k = true
  · exact e.2
  · rw [if_neg e] at h
    exact absurd h (by decide))
theorem ls_bd (h6 : fb_ct q 9 ≤ 6) (h9 : ∀ k i, g k i ≤ 9) : pv ab g two m k (ls_W q c) ≤ 54 := by
  have h1 := pv_bd (ab := ab) (two := two) h9 m k (ls_W q c)
  have h2 := ls_cnt (q := q) c
  omega
/-! ===== the first best pair ===== -/
def pv_fst (ab : Nat → Nat → Bool) (g : Nat → Nat → Nat) (two : Bool) (m k : Nat) (w : Nat → Nat) (x y : Nat) : Prop := (pv_ok ab two k w x y ∧ pv_val ab g two m k w x y = pv ab g two (m + 1) k w) ∧ ∀ x' y', pv_ok ab two k w x' y' → pv_val ab g two m k w x' y' = pv ab g two (m + 1) k w → 10 * x + y ≤ 10 * x' + y'
theorem pv_fst_one {w : Nat → Nat} {x y x' y' : Nat} (h : pv_fst ab g two m k w x y) (h' : pv_fst ab g two m k w x' y') : x = x' ∧ y = y' := by
  have h1 := h.2 _ _ h'.1.1 h'.1.2
  have h2 := h'.2 _ _ h.1.1 h.1.2
  have e1 := pv_can_le h.1.1.2.1
  have e2 := pv_can_le h'.1.1.2.1
  omega
theorem pv_fst_cong {w w' : Nat → Nat} {x y : Nat} (he : pv_Eqv ab w w') (h : pv_fst ab g two m k w x y) : pv_fst ab g two m k w' x y := by
  refine ⟨⟨he.ok h.1.1, ?_⟩, fun x' y' ho hv => ?_⟩
  · rw [← pv_val_cong he h.1.1, ← pv_cong he]; exact h.1.2
  · refine h.2 x' y' (he.symm.ok ho) ?_
    rw [pv_cong he, ← hv]
    exact (pv_val_cong he.symm ho).symm
end LSP
