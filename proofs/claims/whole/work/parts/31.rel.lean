/-! ===== pure: memory, tests, loops ===== -/
theorem ww_up_ne {σ : ww_M} {k j a : Nat} {v : Int32} (h : a ≠ k) : ww_up σ k j v a = σ a := by
  funext b; simp [ww_up, h]
theorem ww_up_eq (σ : ww_M) (k j : Nat) (v : Int32) : ww_up σ k j v k = upd (σ k) j v := by
  funext b; simp [ww_up, upd]
theorem ww_up_at (σ : ww_M) (k j a b : Nat) (v : Int32) : ww_up σ k j v a b = if a = k then (if b = j then v else σ a b) else σ a b := rfl
theorem ww_upr_ne {σ : ww_M} {k a : Nat} {f : Nat → Int32} (h : a ≠ k) : ww_upr σ k f a = σ a := by
  funext b; simp [ww_upr, h]
theorem ww_upr_eq (σ : ww_M) (k : Nat) (f : Nat → Int32) : ww_upr σ k f k = f := by
  funext b; simp [ww_upr]
theorem ww_cpy_ne {σ : ww_M} {x y n a : Nat} (h : a ≠ y) : ww_cpy σ x y n a = σ a := ww_upr_ne h
theorem ww_cpy_eq (σ : ww_M) (x y n : Nat) : ww_cpy σ x y n y = fun j => if j < n then σ x j else σ y j := ww_upr_eq _ _ _
theorem ww_fill_ne {σ : ww_M} {k n a : Nat} {x : Int32} (h : a ≠ k) : ww_fill σ k n x a = σ a := ww_upr_ne h
theorem ww_fill_eq (σ : ww_M) (k n : Nat) (x : Int32) : ww_fill σ k n x k = fun j => if j < n then x else σ k j := ww_upr_eq _ _ _
theorem ww_ck_t {α : Type} {b : Bool} {E : Option α} (h : b = true) : ww_ck b E = E := by subst h; rfl
theorem ww_in_n {j n : Nat} (h : j < n) (hn : n < 2147483648) : ww_in (nI j) n = true := (ww_in_nI h hn).1
theorem ww_ix_n {j : Nat} (h : j < 2147483648) : ww_ix (nI j) = j := nI_clamp h
theorem ww_within (x a b : Int32) : f_X6_within x a b = some (if a ≤ x ∧ x ≤ b then 1 else 0) := by
  unfold f_X6_within
  by_cases h1 : x < a
  · rw [if_pos h1, if_neg (fun h => (fa_of_lt h1).2.1 h.1)]
  · rw [if_neg h1]
    by_cases h2 : b < x
    · rw [if_pos h2, if_neg (fun h => (fa_of_lt h2).2.1 h.2)]
    · rw [if_neg h2, if_pos ⟨fa_of_nlt h1, fa_of_nlt h2⟩]
theorem ww_inL (x a b : Int64) : f_X7_in x a b = some (if a ≤ x ∧ x ≤ b then 1 else 0) := by
  unfold f_X7_in
  simp only [lg_cmp_lt, lg_cmp_gt]
  by_cases h1 : x < a
  · rw [if_pos h1, if_neg (fun h => by have := (fa_lt64 _ _).mp h1; have := (fa_le64 _ _).mp h.1; omega)]
  · rw [if_neg h1]
    by_cases h2 : b < x
    · rw [if_pos h2, if_neg (fun h => by have := (fa_lt64 _ _).mp h2; have := (fa_le64 _ _).mp h.2; omega)]
    · rw [if_neg h2, if_pos]
      have q1 : ¬ x.toInt < a.toInt := fun e => h1 ((fa_lt64 _ _).mpr e)
      have q2 : ¬ b.toInt < x.toInt := fun e => h2 ((fa_lt64 _ _).mpr e)
      exact ⟨(fa_le64 _ _).mpr (by omega), (fa_le64 _ _).mpr (by omega)⟩
/-- the model's test of an int between two ints -/
theorem ww_inI {x : Int32} {a b : Int64} (a' b' : Int32) (ha : a'.toInt64 = a) (hb : b'.toInt64 = b) : f_X7_in x.toInt64 a b = some (if a' ≤ x ∧ x ≤ b' then 1 else 0) := by
  rw [ww_inL, ← ha, ← hb]
  simp only [fa_wide_le]
theorem ww_b01 {c : Prop} [Decidable c] : ((if c then (1 : Int32) else 0) = 0) = ¬ c := by
  by_cases h : c <;> simp [h]
/-- an int between two small numbers is a number between them -/
theorem ww_btw {x : Int32} {a b : Nat} (hb : b < 2147483648) (h : nI a ≤ x ∧ x ≤ nI b) (ha : a ≤ b) : ∃ n, a ≤ n ∧ n ≤ b ∧ x = nI n := by
  have h1 := (fa_le _ _).mp h.1
  have h2 := (fa_le _ _).mp h.2
  rw [nI_toInt (by omega)] at h1
  rw [nI_toInt (by omega)] at h2
  refine ⟨x.toInt.toNat, by omega, by omega, ?_⟩
  rw [fa_eq, nI_toInt (by omega)]
  omega
theorem ww_btw' {n a b : Nat} (hb : b < 2147483648) (h1 : a ≤ n) (h2 : n ≤ b) : nI a ≤ nI n ∧ nI n ≤ nI b := ⟨nI_le h1 (by omega), nI_le h2 hb⟩
/-- a counting loop -/
def ww_rep {α : Type} (g : Nat → α → α) : Nat → α → α
  | 0, a => a
  | n + 1, a => g n (ww_rep g n a)
theorem ww_it_more {α β : Type} {f : α → Option (α ⊕ β)} {x y : α} {r : β} {n : Nat} (h : f x = some (.inl y)) (h2 : ww_it f n y = some r) : ww_it f (n + 1) x = some r := by
  simp [ww_it, h, h2]
theorem ww_it_done {α β : Type} {f : α → Option (α ⊕ β)} {x : α} {r : β} {n : Nat} (h : f x = some (.inr r)) : ww_it f (n + 1) x = some r := by
  simp [ww_it, h]
/-- a loop whose state after i rounds is S i, and that ends after n rounds -/
theorem ww_it_for {α β : Type} {f : α → Option (α ⊕ β)} (S : Nat → α) (n : Nat) {r : β} (hn : n < 9999) (hs : ∀ i, i < n → f (S i) = some (.inl (S (i + 1)))) (he : f (S n) = some (.inr r)) : ww_it f ww_F (S 0) = some r := by
  have key : ∀ k, k ≤ n → ww_it f (ww_F - (n - k)) (S (n - k)) = some r := by
    intro k
    induction k with
    | zero =>
      intro _
      have e : ww_F - (n - 0) = (ww_F - n - 1) + 1 := by unfold ww_F; omega
      rw [e]
      exact ww_it_done he
    | succ k ih =>
      intro hk
      have e : ww_F - (n - (k + 1)) = (ww_F - (n - k)) + 1 := by unfold ww_F; omega
      rw [e]
      refine ww_it_more (hs (n - (k + 1)) (by omega)) ?_
      rw [show n - (k + 1) + 1 = n - k by omega]
      exact ih (by omega)
  have := key n (Nat.le_refl _)
  rw [Nat.sub_self] at this
  exact this
/-! ===== the abstract shore: what is told once, what changes ===== -/
abbrev ww_S : Type := Nat × Nat × Nat × (Nat → Nat) × (Nat → Nat) × (Nat → Nat)
def sNp (s : ww_S) : Nat := s.1
def sNl (s : ww_S) : Nat := s.2.1
def sNb (s : ww_S) : Nat := s.2.2.1
def sLev (s : ww_S) : Nat → Nat := s.2.2.2.1
def sHd (s : ww_S) : Nat → Nat := s.2.2.2.2.1
def sPt (s : ww_S) : Nat → Nat := s.2.2.2.2.2
abbrev ww_D1 : Type := Nat × Nat × Nat × Nat × (Nat → Nat) × (Nat → Nat) × (Nat → Nat → Nat) × (Nat → Nat → Nat) × (Nat → Nat → Nat) × (Nat → Bool) × (Nat → Int32)
def dLaw (d : ww_D1) : Nat := d.1
def dRot (d : ww_D1) : Nat := d.2.1
def dGng (d : ww_D1) : Nat := d.2.2.1
def dHr (d : ww_D1) : Nat := d.2.2.2.1
def dOwn (d : ww_D1) : Nat → Nat := d.2.2.2.2.1
def dMark (d : ww_D1) : Nat → Nat := d.2.2.2.2.2.1
def dWo (d : ww_D1) : Nat → Nat → Nat := d.2.2.2.2.2.2.1
def dWk (d : ww_D1) : Nat → Nat → Nat := d.2.2.2.2.2.2.2.1
def dLu (d : ww_D1) : Nat → Nat → Nat := d.2.2.2.2.2.2.2.2.1
def dLost (d : ww_D1) : Nat → Bool := d.2.2.2.2.2.2.2.2.2.1
def dWon (d : ww_D1) : Nat → Int32 := d.2.2.2.2.2.2.2.2.2.2
def ww_okS (s : ww_S) : Prop := sNp s ≤ 6 ∧ 1 ≤ sNl s ∧ sNl s ≤ 6 ∧ sNb s ≤ 3 ∧ (∀ j, j < sNl s → sLev s j ≤ 9) ∧ (∀ b, b < sNb s → 1 ≤ sPt s b ∧ sPt s b ≤ 3 ∧ sHd s b + sPt s b ≤ sNp s) ∧ (∀ b c, b < sNb s → c < sNb s → b ≠ c → sHd s b + sPt s b ≤ sHd s c ∨ sHd s c + sPt s c ≤ sHd s b)
def ww_okD (s : ww_S) (d : ww_D1) : Prop := dLaw d ≤ 3 ∧ 1 ≤ dRot d ∧ dRot d ≤ 9 ∧ 1 ≤ dGng d ∧ dGng d ≤ 2 ∧ dHr d ≤ 5000 ∧ (∀ i, i < sNp s → dOwn d i ≤ 3 ∧ dMark d i ≤ 9) ∧ (∀ b, b < sNb s → ∀ p, p < sPt s b → dWo d b p ≤ 9 ∧ dWk d b p ≤ 3 ∧ dLu d b p ≤ 8) ∧ (∀ b, sNb s ≤ b → dLost d b = false)
def sLvl (s : ww_S) (h : Nat) : Nat := sLev s (h % sNl s)
def ww_wet (s : ww_S) (d : ww_D1) (i h : Nat) : Bool := decide (dMark d i < sLvl s h)
def ww_flt (s : ww_S) (d : ww_D1) (b h : Nat) : Bool := (List.range (sPt s b)).all (fun p => ww_wet s d (sHd s b + p) h)
/-- bits of a test -/
def ww_bits (p : Nat → Bool) : Nat → Nat
  | 0 => 0
  | n + 1 => ww_bits p n + (if p n then 2 ^ n else 0)
def ww_lostN (d : ww_D1) : Nat := ww_bits (dLost d) 3
/-- the class's shore -/
def ww_Cls (f0 f1 f2 f3 f4 f5 f6 f7 f8 f9 : Nat → Int32) (s : ww_S) (d : ww_D1) : Prop :=
  (f0 9 = nI (sNp s) ∧ f0 10 = nI (sNl s) ∧ f0 11 = nI (sNb s)) ∧ (f0 12 = nI (dLaw d) ∧ f0 13 = nI (dRot d) ∧ f0 14 = nI (dGng d) ∧ f0 15 = nI (dHr d) ∧ f0 16 = nI (ww_lostN d)) ∧ (∀ i, i < sNp s → f1 i = nI (dOwn d i) ∧ f2 i = nI (dMark d i)) ∧ (∀ j, j < sNl s → f3 j = nI (sLev s j)) ∧ (∀ b, b < sNb s → f4 b = nI (sHd s b) ∧ f5 b = nI (sPt s b)) ∧ (∀ b, b < sNb s → ∀ p, p < sPt s b → f6 (3 * b + p) = nI (dWo d b p) ∧ f7 (3 * b + p) = nI (dWk d b p) ∧ f8 (3 * b + p) = nI (dLu d b p)) ∧ (∀ k, k < 4 → f9 k = dWon d k)
def ww_ClsA (σ : ww_M) (o : Nat) (s : ww_S) (d : ww_D1) : Prop := ww_Cls (σ o) (σ (o + 1)) (σ (o + 2)) (σ (o + 3)) (σ (o + 4)) (σ (o + 5)) (σ (o + 6)) (σ (o + 7)) (σ (o + 8)) (σ (o + 9)) s d
/-- the model's: what is told once -/
def ww_ModS (vp vl vb : Int32) (fl fb : Nat → Int32) (s : ww_S) : Prop := vp = nI (sNp s) ∧ vl = nI (sNl s) ∧ vb = nI (sNb s) ∧ (∀ j, j < sNl s → fl j = nI (sLev s j)) ∧ (∀ b, b < sNb s → fb (2 * b) = nI (sHd s b) ∧ fb (2 * b + 1) = nI (sPt s b))
/-- the model's page -/
def ww_ModD (fs : Nat → Int32) (pg : Nat) (s : ww_S) (d : ww_D1) : Prop :=
  (fs (pg + 12) = nI (dLaw d) ∧ fs (pg + 13) = nI (dRot d) - 4 ∧ fs (pg + 14) = nI (dGng d) - 1 ∧ fs (pg + 45) = nI (dHr d)) ∧ (∀ b, b < 3 → fs (pg + 15 + b) = if dLost d b then 1 else 0) ∧ (∀ i, i < sNp s → fs (pg + 2 * i) = nI (dOwn d i) ∧ fs (pg + 2 * i + 1) = nI (dMark d i)) ∧ (∀ b, b < sNb s → ∀ p, p < sPt s b → fs (pg + 18 + 9 * b + 3 * p) = nI (dWo d b p) ∧ fs (pg + 18 + 9 * b + 3 * p + 1) = nI (dWk d b p) ∧ fs (pg + 18 + 9 * b + 3 * p + 2) = nI (dLu d b p)) ∧ (∀ k, k < 4 → fs (pg + 46 + k) = dWon d k)
/-! ===== the relation ===== -/
def ww_RT (vc vm : Int32) (fc fm : Nat → Int32) : Prop := ∃ n, n ≤ 160 ∧ vc = nI n ∧ vm = nI n ∧ ∀ i, i < n → ∃ c, c < 128 ∧ fc i = nI c ∧ fm i = nI c
def ww_RTold (vc vm : Int32) (fo fw fm : Nat → Int32) : Prop := ∃ n, n ≤ 6 ∧ vc = nI n ∧ vm = nI n ∧ ∀ i, i < n → fo i = fm (2 * i) ∧ fw i = fm (2 * i + 1)
def ww_RSh (lc sc : Int32) (cc : Nat → Int32) (lm sm : Int32) (cm : Nat → Int32) : Prop := (sc = -1 ∧ lm = -4) ∨ ∃ n t, n ≤ 40 ∧ t ≤ 2 ∧ sc = nI n ∧ sm = nI n ∧ lc = nI t ∧ lm = nI t ∧ ∀ i, i < n → cc i = cm i
def ww_Rmemo (k : Nat) (st : Int32) (f : Nat → Int32) : Prop := ∃ n, n ≤ 20 * k ∧ st = nI n ∧ ∀ i, i < 24576 → ∃ v, v < 64 * (n + 1) ∧ f i = nI v
/-- k: how many calls there were -/
def ww_Rel (k : Nat) (σ : ww_M) (s : ww_S) (d : ww_D1) : Prop :=
  ww_okS s ∧ (ww_okD s d ∧ dHr d ≤ 999 ∧ ∀ b, b < sNb s → ww_flt s d b (dHr d) = true → dLost d b = true) ∧ ww_ClsA σ 4 s d ∧ ww_ModS (σ 62 3) (σ 62 2) (σ 62 5) (σ 64) (σ 65) s ∧ ww_ModD (σ 63) 0 s d ∧ ww_RT (σ 1 1) (σ 62 14) (σ 2) (σ 69) ∧ σ 3 0 = σ 62 15 ∧ ww_RTold (σ 45 2) (σ 62 30) (σ 46) (σ 47) (σ 75) ∧ ww_Rmemo k (σ 48 8) (σ 49) ∧
  (∃ kb, kb < 4 ∧ σ 0 5 = nI kb ∧ ∀ j, j < 2 → (σ 76 j = if kb.testBit j then 1 else 0) ∧ (kb.testBit j = true → ∃ d2, (ww_okD s d2 ∧ dHr d2 ≤ 999 ∧ ∀ b, b < sNb s → ww_flt s d2 b (dHr d2) = true → dLost d2 b = true) ∧ ww_ClsA σ (25 + 10 * j) s d2 ∧ ww_ModD (σ 63) (50 * (j + 1)) s d2)) ∧
  (∀ j, j < 4 → ww_RSh (σ (54 + 2 * j) 1) (σ (54 + 2 * j) 2) (σ (55 + 2 * j)) (σ 77 j) (σ 78 j) (fun i => σ 79 (40 * j + i))) ∧ σ 0 9 = σ 62 35 ∧ σ 70 = ww_zModel 8 ∧ σ 71 = ww_zModel 9
