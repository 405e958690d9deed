/-! ===== small numbers: what simp needs ===== -/
theorem n_lit (n : Nat) : (OfNat.ofNat n : Int32) = nI n := rfl
theorem n_le {a b : Nat} (ha : a < 2147483648) (hb : b < 2147483648) : (nI a ≤ nI b) = (a ≤ b) := by
  rw [fa_le, nI_toInt ha, nI_toInt hb]; simp
theorem n_lt {a b : Nat} (ha : a < 2147483648) (hb : b < 2147483648) : (nI a < nI b) = (a < b) := by
  rw [fa_lt, nI_toInt ha, nI_toInt hb]; simp
theorem n_eq {a b : Nat} (ha : a < 2147483648) (hb : b < 2147483648) : (nI a = nI b) = (a = b) := propext (nI_eq ha hb)
theorem n_in {j n : Nat} (h : j < n) (hn : n < 2147483648) : ww_in (nI j) n = true := ww_in_n h hn
theorem n_ckt {α : Type} {E : Option α} : ww_ck true E = E := rfl
theorem n_ix {j : Nat} (h : j < 2147483648) : ww_ix (nI j) = j := ww_ix_n h
theorem n_mul (a b : Nat) : nI a * nI b = nI (a * b) := pk_mul a b
theorem n_add (a b : Nat) : nI a + nI b = nI (a + b) := nI_add a b
theorem n_sub {a b : Nat} (h : b ≤ a) : nI a - nI b = nI (a - b) := pk_sub h
theorem n_div {a d : Nat} (h : a < 2147483648) (h1 : 0 < d) (h2 : d < 2147483648) : nI a / nI d = nI (a / d) := pk_div h h1 h2
theorem n_rem {a d : Nat} (h : a < 2147483648) (h1 : 0 < d) (h2 : d < 2147483648) : ww_rem (nI a) (nI d) = nI (a % d) := pk_rem h h1 h2
theorem n_b01 {c : Prop} [Decidable c] : ((if c then nI 1 else nI 0) = nI 0) = ¬ c := ww_b01
theorem n_isb {c : Prop} [Decidable c] : ww_isb (if c then nI 1 else nI 0) = true := ww_isb01
theorem n_lt0 {n : Nat} (h : n < 2147483648) : (nI n < nI 0) = False := eq_false (nI_pos h)
theorem n_le0 {n : Nat} (h : n < 2147483648) : (nI 0 ≤ nI n) = True := eq_true (nI_pos' h)
theorem n_neg1 {n : Nat} (h : n < 2147483648) : (nI n = -nI 1) = False := eq_false (fun e => by
  have := nI_pos' h; rw [e] at this; exact absurd this (by decide))
theorem n_neg4 {n : Nat} (h : n < 2147483648) : (nI n = -nI 4) = False := eq_false (fun e => by
  have := nI_pos' h; rw [e] at this; exact absurd this (by decide))
theorem n_land1 (a : Nat) : nI a &&& nI 1 = nI (a % 2) := by
  have e : nI a &&& nI (2 ^ 1 - 1) = nI (a % 2 ^ 1) := fa_mask _ _
  exact e
/-- a loop that may end early -/
theorem ww_it_inv {α β : Type} {f : α → Option (α ⊕ β)} (I : Nat → α → Prop) (Q : β → Prop) (n : Nat) (hn : n < 9999) {x0 : α} (h0 : I 0 x0) (hs : ∀ i, i < n → ∀ x, I i x → (∃ y, f x = some (.inl y) ∧ I (i + 1) y) ∨ (∃ r, f x = some (.inr r) ∧ Q r)) (he : ∀ x, I n x → ∃ r, f x = some (.inr r) ∧ Q r) : ∃ r, ww_it f ww_F x0 = some r ∧ Q r := by
  have key : ∀ k i x, k = n - i → i ≤ n → I i x → ∀ fuel, k < fuel → ∃ r, ww_it f fuel x = some r ∧ Q r := by
    intro k
    induction k with
    | zero =>
      intro i x hk hi hI fuel hf
      obtain ⟨f', rfl⟩ : ∃ f', fuel = f' + 1 := ⟨fuel - 1, by omega⟩
      have : i = n := by omega
      subst this
      obtain ⟨r, h1, h2⟩ := he x hI
      exact ⟨r, ww_it_done h1, h2⟩
    | succ k ih =>
      intro i x hk hi hI fuel hf
      obtain ⟨f', rfl⟩ : ∃ f', fuel = f' + 1 := ⟨fuel - 1, by omega⟩
      rcases hs i (by omega) x hI with ⟨y, h1, h2⟩ | ⟨r, h1, h2⟩
      · obtain ⟨r, g1, g2⟩ := ih (i + 1) y (by omega) (by omega) h2 f' (by omega)
        exact ⟨r, ww_it_more h1 g1, g2⟩
      · exact ⟨r, ww_it_done h1, h2⟩
  exact key n 0 x0 (by omega) (by omega) h0 ww_F (by unfold ww_F; omega)
/-- a search -/
theorem ww_it_first {α β : Type} {f : α → Option (α ⊕ β)} (S : Nat → α) (p : Nat → Bool) (n : Nat) (hn : n < 9999) (r : Nat → β) (r0 : β) (hs : ∀ i, i < n → p i = false → f (S i) = some (.inl (S (i + 1)))) (hy : ∀ i, i < n → p i = true → f (S i) = some (.inr (r i))) (he : f (S n) = some (.inr r0)) : ww_it f ww_F (S 0) = some (if fa_first p n < n then r (fa_first p n) else r0) := by
  by_cases c : fa_first p n < n
  · rw [if_pos c]
    exact ww_it_for S (fa_first p n) (by omega) (fun i hi => hs i (by omega) (fa_first_no p n i hi)) (hy _ c (fa_first_yes p n c))
  · rw [if_neg c]
    have e : fa_first p n = n := by have := fa_first_le p n; omega
    exact ww_it_for S n (by omega) (fun i hi => hs i hi (fa_first_no p n i (by omega))) he
