/-! ===== the best row, by itself: slots 0 to 8, 9 is none ===== -/
def pv_mx (f : Nat → Nat) : Nat → Nat
  | 0 => 0
  | n + 1 => if pv_mx f n < f n then f n else pv_mx f n
theorem pv_mx_ge {f : Nat → Nat} : ∀ {n i : Nat}, i < n → f i ≤ pv_mx f n
  | 0, i, h => absurd h (Nat.not_lt_zero i)
  | n + 1, i, h => by
    unfold pv_mx
    by_cases c : i = n
    · subst c; split <;> omega
    · have := pv_mx_ge (f := f) (n := n) (i := i) (by omega)
      split <;> omega
theorem pv_mx_le {f : Nat → Nat} {B : Nat} : ∀ {n : Nat}, (∀ i, i < n → f i ≤ B) → pv_mx f n ≤ B
  | 0, _ => Nat.zero_le _
  | n + 1, h => by
    unfold pv_mx
    have h1 := h n (by omega)
    have h2 := pv_mx_le (f := f) (B := B) (n := n) (fun i hi => h i (by omega))
    split <;> omega
def pv_dn (w : Nat → Nat) (x : Nat) : Nat → Nat := fun i => if i = x ∧ x < 9 then w i - 1 else w i
def pv_can (ab : Nat → Nat → Bool) (k : Nat) (w : Nat → Nat) (x : Nat) : Prop := x = 9 ∨ (x < 9 ∧ ab k x = true ∧ 0 < w x)
def pv_may (two : Bool) (x y : Nat) : Prop := y = 9 ∨ (x < y ∧ two = true)
def pv_ok (ab : Nat → Nat → Bool) (two : Bool) (k : Nat) (w : Nat → Nat) (x y : Nat) : Prop := pv_can ab k w x ∧ pv_can ab k w y ∧ pv_may two x y
def pv_gn (g : Nat → Nat → Nat) (k : Nat) (w : Nat → Nat) (x : Nat) : Nat := if x < 9 ∧ w x = 1 then g k x else 0
noncomputable def pv (ab : Nat → Nat → Bool) (g : Nat → Nat → Nat) (two : Bool) : Nat → Nat → (Nat → Nat) → Nat
  | 0, _, _ => 0
  | m + 1, k, w => pv_mx (fun c => @ite Nat (pv_ok ab two k w (c / 10) (c % 10)) (Classical.propDecidable _) (pv_gn g k w (c / 10) + pv_gn g k w (c % 10) + pv ab g two m (k + 1) (pv_dn (pv_dn w (c / 10)) (c % 10))) 0) 100
section PV
variable {ab : Nat → Nat → Bool} {g : Nat → Nat → Nat} {two : Bool} {m k B : Nat} {w : Nat → Nat}
noncomputable def pv_val (ab : Nat → Nat → Bool) (g : Nat → Nat → Nat) (two : Bool) (m k : Nat) (w : Nat → Nat) (x y : Nat) : Nat := pv_gn g k w x + pv_gn g k w y + pv ab g two m (k + 1) (pv_dn (pv_dn w x) y)
theorem pv_can_le {x : Nat} (h : pv_can ab k w x) : x ≤ 9 := by
  rcases h with h | h <;> omega
theorem pv_ge {x y : Nat} (h : pv_ok ab two k w x y) : pv_val ab g two m k w x y ≤ pv ab g two (m + 1) k w := by
  have h1 := pv_can_le h.1
  have h2 := pv_can_le h.2.1
  have e1 : (10 * x + y) / 10 = x := by omega
  have e2 : (10 * x + y) % 10 = y := by omega
  have := pv_mx_ge (f := fun c => @ite Nat (pv_ok ab two k w (c / 10) (c % 10)) (Classical.propDecidable _) (pv_gn g k w (c / 10) + pv_gn g k w (c % 10) + pv ab g two m (k + 1) (pv_dn (pv_dn w (c / 10)) (c % 10))) 0) (n := 100) (i := 10 * x + y) (by omega)
  have h' : pv_ok ab two k w ((10 * x + y) / 10) ((10 * x + y) % 10) := by rw [e1, e2]; exact h
  simp only [if_pos h', e1, e2] at this
  exact this
theorem pv_le (h : ∀ x y, pv_ok ab two k w x y → pv_val ab g two m k w x y ≤ B) : pv ab g two (m + 1) k w ≤ B := by
  unfold pv
  refine pv_mx_le (fun c hc => ?_)
  by_cases q : pv_ok ab two k w (c / 10) (c % 10)
  · simp only [if_pos q]; exact h _ _ q
  · simp only [if_neg q]; exact Nat.zero_le _
theorem pv_ok99 : pv_ok ab two k w 9 9 := ⟨Or.inl rfl, Or.inl rfl, Or.inl rfl⟩
theorem pv_att : ∃ x y, pv_ok ab two k w x y ∧ pv_val ab g two m k w x y = pv ab g two (m + 1) k w := by
  apply Classical.byContradiction
  intro hn
  have h1 : ∀ x y, pv_ok ab two k w x y → pv_val ab g two m k w x y ≤ pv ab g two (m + 1) k w - 1 := fun x y ho => by
    have a := pv_ge (g := g) (m := m) ho
    have b : pv_val ab g two m k w x y ≠ pv ab g two (m + 1) k w := fun e => hn ⟨x, y, ho, e⟩
    omega
  have h2 := pv_le h1
  have h3 := pv_ge (g := g) (m := m) (pv_ok99 (ab := ab) (two := two) (k := k) (w := w))
  have h4 : pv_val ab g two m k w 9 9 ≠ pv ab g two (m + 1) k w := fun e => hn ⟨9, 9, pv_ok99, e⟩
  omega
theorem pv_dn_9 : pv_dn w 9 = w := by
  funext i
  unfold pv_dn
  rw [if_neg (by omega)]
theorem pv_dn_self {x : Nat} (h : x < 9) : pv_dn w x x = w x - 1 := by
  unfold pv_dn
  rw [if_pos ⟨rfl, h⟩]
theorem pv_dn_ne {x i : Nat} (h : i ≠ x) : pv_dn w x i = w i := by
  unfold pv_dn
  rw [if_neg (by omega)]
theorem pv_dn_le (x i : Nat) : pv_dn w x i ≤ w i := by
  unfold pv_dn
  split <;> omega
theorem pv_dn_comm (x y : Nat) : pv_dn (pv_dn w x) y = pv_dn (pv_dn w y) x := by
  funext i
  by_cases hxy : x = y
  · subst hxy; rfl
  · by_cases c1 : i = x
    · subst c1; rw [pv_dn_ne hxy]; unfold pv_dn; simp [hxy]
    · by_cases c2 : i = y
      · subst c2; rw [pv_dn_ne (w := pv_dn w i) c1]; unfold pv_dn; simp [c1]
      · rw [pv_dn_ne c2, pv_dn_ne c1, pv_dn_ne c1, pv_dn_ne c2]
theorem pv_val_symm (x y : Nat) : pv_val ab g two m k w x y = pv_val ab g two m k w y x := by
  unfold pv_val
  rw [pv_dn_comm, Nat.add_comm (pv_gn g k w x)]
theorem pv_gn_9 : pv_gn g k w 9 = 0 := by
  unfold pv_gn
  rw [if_neg (by omega)]
theorem pv_gn_ne {x u : Nat} (h : x ≠ u) : pv_gn g k (pv_dn w u) x = pv_gn g k w x := by
  unfold pv_gn
  rw [pv_dn_ne h]
theorem pv_val_9 (x : Nat) : pv_val ab g two m k w x 9 = pv_gn g k w x + pv ab g two m (k + 1) (pv_dn w x) := by
  unfold pv_val
  rw [pv_dn_9, pv_gn_9, Nat.add_zero]
theorem pv_val_99 : pv_val ab g two m k w 9 9 = pv ab g two m (k + 1) w := by
  rw [pv_val_9, pv_gn_9, pv_dn_9, Nat.zero_add]
theorem pv_gn_mono (hg : ∀ k i, g (k + 1) i ≤ g k i) {w' : Nat → Nat} {u : Nat} (h : w' u = w u) : pv_gn g (k + 1) w' u ≤ pv_gn g k w u := by
  unfold pv_gn
  rw [h]
  split
  · exact hg k u
  · exact Nat.zero_le _
theorem pv_ok_ne {x y : Nat} (h : pv_ok ab two k w x y) : y = 9 ∨ x ≠ y := by
  rcases h.2.2 with h | h
  · exact Or.inl h
  · exact Or.inr (by omega)
theorem pv_can_dn {x u : Nat} (h : pv_can ab k w x) (hx : x = 9 ∨ x ≠ u) : pv_can ab k (pv_dn w u) x := by
  rcases h with h | ⟨h1, h2, h3⟩
  · exact Or.inl h
  · exact Or.inr ⟨h1, h2, by rw [pv_dn_ne (by omega)]; exact h3⟩
theorem pv_can_up {x u : Nat} (h : pv_can ab k (pv_dn w u) x) : pv_can ab k w x := by
  rcases h with h | ⟨h1, h2, h3⟩
  · exact Or.inl h
  · exact Or.inr ⟨h1, h2, by have := pv_dn_le (w := w) u x; omega⟩
/-- to work is never worse -/
theorem pv_A (hg : ∀ k i, g (k + 1) i ≤ g k i) : ∀ (m k : Nat) (w : Nat → Nat) (u : Nat), u < 9 → 0 < w u → pv ab g two m k w ≤ pv_gn g k w u + pv ab g two m k (pv_dn w u)
  | 0, k, w, u, _, _ => Nat.zero_le _
  | m + 1, k, w, u, hu, hw => by
    refine pv_le (fun x y ho => ?_)
    by_cases cx : u = x
    · subst cx
      have hy : y = 9 ∨ y ≠ u := by rcases pv_ok_ne ho with h | h <;> omega
      have ho2 : pv_ok ab two k (pv_dn w u) y 9 := ⟨pv_can_dn ho.2.1 hy, Or.inl rfl, Or.inl rfl⟩
      have h1 := pv_ge (g := g) (m := m) ho2
      rw [pv_val_9] at h1
      have e : pv_gn g k (pv_dn w u) y = pv_gn g k w y := pv_gn_ne (by omega)
      rw [e] at h1
      unfold pv_val
      omega
    · by_cases cy : u = y
      · subst cy
        have hx : x = 9 ∨ x ≠ u := by omega
        have ho2 : pv_ok ab two k (pv_dn w u) x 9 := ⟨pv_can_dn ho.1 hx, Or.inl rfl, Or.inl rfl⟩
        have h1 := pv_ge (g := g) (m := m) ho2
        rw [pv_val_9] at h1
        have e : pv_gn g k (pv_dn w u) x = pv_gn g k w x := pv_gn_ne (by omega)
        rw [e] at h1
        unfold pv_val
        rw [pv_dn_comm]
        omega
      · have ho2 : pv_ok ab two k (pv_dn w u) x y := ⟨pv_can_dn ho.1 (by omega), pv_can_dn ho.2.1 (by omega), ho.2.2⟩
        have h1 := pv_ge (g := g) (m := m) ho2
        unfold pv_val at h1 ⊢
        have e1 : pv_gn g k (pv_dn w u) x = pv_gn g k w x := pv_gn_ne (by omega)
        have e2 : pv_gn g k (pv_dn w u) y = pv_gn g k w y := pv_gn_ne (by omega)
        rw [e1, e2, pv_dn_comm (w := w) u x, pv_dn_comm (w := pv_dn w x) u y] at h1
        have e3 : pv_dn (pv_dn w x) y u = w u := by rw [pv_dn_ne cy, pv_dn_ne cx]
        have h2 := pv_A hg m (k + 1) (pv_dn (pv_dn w x) y) u hu (by rw [e3]; exact hw)
        have h3 := pv_gn_mono hg (k := k) (w := w) e3
        omega
/-- what is of no use -/
theorem pv_D (hg : ∀ k i, g (k + 1) i ≤ g k i) : ∀ (m k : Nat) (w : Nat → Nat) (u : Nat), u < 9 → 0 < w u → (g k u = 0 ∨ m + 1 < w u) → pv ab g two m k (pv_dn w u) ≤ pv ab g two m k w
  | 0, k, w, u, _, _, _ => Nat.le_refl _
  | m + 1, k, w, u, hu, hw, hz => by
    refine pv_le (fun x y ho => ?_)
    have ho2 : pv_ok ab two k w x y := ⟨pv_can_up ho.1, pv_can_up ho.2.1, ho.2.2⟩
    refine Nat.le_trans ?_ (pv_ge (g := g) (m := m) ho2)
    have hgn : ∀ z, pv_gn g k (pv_dn w u) z ≤ pv_gn g k w z := fun z => by
      by_cases c : z = u
      · subst c
        unfold pv_gn
        rw [pv_dn_self hu]
        split
        · rename_i q
          rcases hz with hz | hz
          · omega
          · omega
        · exact Nat.zero_le _
      · rw [pv_gn_ne c]; exact Nat.le_refl _
    have h1 := hgn x
    have h2 := hgn y
    have hg1 := hg k u
    have key : 0 < pv_dn (pv_dn w x) y u ∧ (g (k + 1) u = 0 ∨ m + 1 < pv_dn (pv_dn w x) y u) := by
      by_cases cx : u = x
      · subst cx
        have hy : u ≠ y := by rcases pv_ok_ne ho with h | h <;> omega
        rw [pv_dn_ne hy, pv_dn_self hu]
        rcases ho.1 with q | ⟨-, -, q⟩
        · omega
        · rw [pv_dn_self hu] at q
          omega
      · by_cases cy : u = y
        · subst cy
          rw [pv_dn_self hu, pv_dn_ne cx]
          rcases ho.2.1 with q | ⟨-, -, q⟩
          · omega
          · rw [pv_dn_self hu] at q
            omega
        · rw [pv_dn_ne cy, pv_dn_ne cx]
          omega
    have h3 := pv_D hg m (k + 1) (pv_dn (pv_dn w x) y) u hu key.1 key.2
    unfold pv_val
    rw [pv_dn_comm (w := w) u x, pv_dn_comm (w := pv_dn w x) u y]
    omega
def pv_us (ab : Nat → Nat → Bool) (g : Nat → Nat → Nat) (m k : Nat) (w : Nat → Nat) (i : Nat) : Prop := i < 9 ∧ ab k i = true ∧ 0 < w i ∧ w i ≤ m + 1 ∧ 0 < g k i
theorem pv_drop (hg : ∀ k i, g (k + 1) i ≤ g k i) {x y : Nat} (hc : pv_can ab k w x) (hn : y = 9 ∨ x ≠ y) (hu : ¬ pv_us ab g m k w x) : pv_val ab g two m k w x y ≤ pv_val ab g two m k w 9 y := by
  rcases hc with rfl | ⟨h1, h2, h3⟩
  · exact Nat.le_refl _
  · have hz : g k x = 0 ∨ m + 1 < w x := by
      by_cases c : g k x = 0
      · exact Or.inl c
      · refine Or.inr (Nat.lt_of_not_le (fun q => hu ⟨h1, h2, h3, q, by omega⟩))
    have hxy : x ≠ y := by omega
    have e0 : pv_gn g k w x = 0 := by
      unfold pv_gn
      split
      · rename_i q
        rcases hz with hz | hz
        · exact hz
        · omega
      · rfl
    have hg1 := hg k x
    have h4 := pv_D (ab := ab) (two := two) hg m (k + 1) (pv_dn w y) x h1 (by rw [pv_dn_ne hxy]; exact h3) (by rw [pv_dn_ne hxy]; omega)
    unfold pv_val
    rw [e0, pv_gn_9, pv_dn_9, pv_dn_comm]
    omega
theorem pv_reduce (hg : ∀ k i, g (k + 1) i ≤ g k i) {x y : Nat} (ho : pv_ok ab two k w x y) : ∃ x' y', (x' = 9 ∨ (x' = x ∧ pv_us ab g m k w x)) ∧ (y' = 9 ∨ (y' = y ∧ pv_us ab g m k w y)) ∧ pv_val ab g two m k w x y ≤ pv_val ab g two m k w x' y' := by
  have hne := pv_ok_ne ho
  have s1 : ∃ x', (x' = 9 ∨ (x' = x ∧ pv_us ab g m k w x)) ∧ pv_val ab g two m k w x y ≤ pv_val ab g two m k w x' y := by
    by_cases c : pv_us ab g m k w x
    · exact ⟨x, Or.inr ⟨rfl, c⟩, Nat.le_refl _⟩
    · exact ⟨9, Or.inl rfl, pv_drop hg ho.1 hne c⟩
  obtain ⟨x', a1, a2⟩ := s1
  by_cases c : pv_us ab g m k w y
  · exact ⟨x', y, a1, Or.inr ⟨rfl, c⟩, a2⟩
  · refine ⟨x', 9, a1, Or.inl rfl, Nat.le_trans a2 ?_⟩
    rw [pv_val_symm x' y, pv_val_symm x' 9]
    refine pv_drop hg ho.2.1 ?_ c
    rcases a1 with rfl | ⟨rfl, q⟩
    · exact Or.inl rfl
    · have := q.1
      have := pv_can_le ho.2.1
      omega
theorem pv_add (hg : ∀ k i, g (k + 1) i ≤ g k i) {x z : Nat} (hz : pv_us ab g m k w z) (hne : z ≠ x) : pv_val ab g two m k w x 9 ≤ pv_val ab g two m k w x z := by
  rw [pv_val_9]
  have e : pv_dn w x z = w z := pv_dn_ne hne
  have h1 := pv_A (ab := ab) (two := two) hg m (k + 1) (pv_dn w x) z hz.1 (by rw [e]; exact hz.2.2.1)
  have h2 := pv_gn_mono hg (k := k) (w := w) e
  unfold pv_val
  omega
theorem pv_us9 {i : Nat} (h : pv_us ab g m k w i) : i ≠ 9 := by
  have := h.1; omega
theorem pv_T0 (hg : ∀ k i, g (k + 1) i ≤ g k i) (hu : ∀ i, ¬ pv_us ab g m k w i) : pv ab g two (m + 1) k w = pv ab g two m (k + 1) w := by
  apply Nat.le_antisymm
  · refine pv_le (fun x y ho => ?_)
    obtain ⟨x', y', h1, h2, h3⟩ := pv_reduce (m := m) hg ho
    rcases h1 with rfl | ⟨-, h1⟩
    · rcases h2 with rfl | ⟨-, h2⟩
      · rw [pv_val_99] at h3; exact h3
      · exact absurd h2 (hu _)
    · exact absurd h1 (hu _)
  · have := pv_ge (g := g) (m := m) (pv_ok99 (ab := ab) (two := two) (k := k) (w := w))
    rw [pv_val_99] at this
    exact this
theorem pv_T1 (hg : ∀ k i, g (k + 1) i ≤ g k i) (hu : ∃ u, pv_us ab g m k w u) (h1 : two = false ∨ ∀ u v, pv_us ab g m k w u → pv_us ab g m k w v → u = v) (hB : ∀ u, pv_us ab g m k w u → pv_val ab g two m k w u 9 ≤ B) : pv ab g two (m + 1) k w ≤ B := by
  refine pv_le (fun x y ho => ?_)
  obtain ⟨x', y', a1, a2, a3⟩ := pv_reduce (m := m) hg ho
  refine Nat.le_trans a3 ?_
  obtain ⟨u, hu⟩ := hu
  rcases a1 with rfl | ⟨rfl, a1⟩
  · rcases a2 with rfl | ⟨rfl, a2⟩
    · have := pv_add (two := two) hg hu (pv_us9 hu)
      rw [pv_val_symm 9 u] at this
      exact Nat.le_trans this (hB u hu)
    · rw [pv_val_symm]; exact hB _ a2
  · rcases a2 with rfl | ⟨rfl, a2⟩
    · exact hB _ a1
    · exfalso
      have n9 := pv_us9 a2
      rcases ho.2.2 with q | ⟨q1, q2⟩
      · exact n9 q
      · rcases h1 with h1 | h1
        · rw [h1] at q2; exact absurd q2 (by decide)
        · have := h1 _ _ a1 a2
          omega
theorem pv_T2 (hg : ∀ k i, g (k + 1) i ≤ g k i) {u v : Nat} (huv : u < v) (hu : pv_us ab g m k w u) (hv : pv_us ab g m k w v) (hB : ∀ u v, u < v → pv_us ab g m k w u → pv_us ab g m k w v → pv_val ab g two m k w u v ≤ B) : pv ab g two (m + 1) k w ≤ B := by
  have hB2 : ∀ u v, u ≠ v → pv_us ab g m k w u → pv_us ab g m k w v → pv_val ab g two m k w u v ≤ B := fun u v hn h1 h2 => by
    by_cases c : u < v
    · exact hB u v c h1 h2
    · rw [pv_val_symm]; exact hB v u (by omega) h2 h1
  have h1B : ∀ x, pv_us ab g m k w x → pv_val ab g two m k w x 9 ≤ B := fun x hx => by
    by_cases c : x = u
    · exact Nat.le_trans (pv_add hg hv (by omega)) (hB2 _ _ (by omega) hx hv)
    · exact Nat.le_trans (pv_add hg hu (fun e => c e.symm)) (hB2 _ _ c hx hu)
  refine pv_le (fun x y ho => ?_)
  obtain ⟨x', y', a1, a2, a3⟩ := pv_reduce (m := m) hg ho
  refine Nat.le_trans a3 ?_
  rcases a1 with rfl | ⟨rfl, a1⟩
  · rcases a2 with rfl | ⟨rfl, a2⟩
    · have := pv_add (two := two) hg hu (pv_us9 hu)
      rw [pv_val_symm 9 u] at this
      exact Nat.le_trans this (h1B u hu)
    · rw [pv_val_symm]; exact h1B _ a2
  · rcases a2 with rfl | ⟨rfl, a2⟩
    · exact h1B _ a1
    · have n9 := pv_us9 a2
      rcases ho.2.2 with q | ⟨q1, q2⟩
      · exact absurd q n9
      · exact hB _ _ q1 a1 a2
/-! ===== alike ===== -/
def pv_Eqv (ab : Nat → Nat → Bool) (w w' : Nat → Nat) : Prop := ∀ i, i < 9 → w i = w' i ∨ ∀ k, ab k i = false
theorem pv_Eqv.symm {w' : Nat → Nat} (h : pv_Eqv ab w w') : pv_Eqv ab w' w := fun i hi => (h i hi).elim (fun e => Or.inl e.symm) Or.inr
theorem pv_Eqv.trans {w' w2 : Nat → Nat} (h : pv_Eqv ab w w') (h2 : pv_Eqv ab w' w2) : pv_Eqv ab w w2 := fun i hi => by
  rcases h i hi with a | a
  · rcases h2 i hi with b | b
    · exact Or.inl (a.trans b)
    · exact Or.inr b
  · exact Or.inr a
theorem pv_Eqv.dn {w' : Nat → Nat} (h : pv_Eqv ab w w') (x : Nat) : pv_Eqv ab (pv_dn w x) (pv_dn w' x) := fun i hi => by
  rcases h i hi with a | a
  · left; unfold pv_dn; rw [a]
  · exact Or.inr a
theorem pv_Eqv.at {w' : Nat → Nat} (h : pv_Eqv ab w w') {x : Nat} (h9 : x < 9) (ha : ab k x = true) : w x = w' x := by
  rcases h x h9 with a | a
  · exact a
  · rw [a k] at ha; exact absurd ha (by decide)
theorem pv_Eqv.can {w' : Nat → Nat} (h : pv_Eqv ab w w') {x : Nat} (hc : pv_can ab k w x) : pv_can ab k w' x := by
  rcases hc with q | ⟨q1, q2, q3⟩
  · exact Or.inl q
  · exact Or.inr ⟨q1, q2, by rw [← h.at q1 q2]; exact q3⟩
theorem pv_Eqv.ok {w' : Nat → Nat} (h : pv_Eqv ab w w') {x y : Nat} (hc : pv_ok ab two k w x y) : pv_ok ab two k w' x y := ⟨h.can hc.1, h.can hc.2.1, hc.2.2⟩
theorem pv_Eqv.gn {w' : Nat → Nat} (h : pv_Eqv ab w w') {x : Nat} (hc : pv_can ab k w x) : pv_gn g k w x = pv_gn g k w' x := by
  rcases hc with q | ⟨q1, q2, q3⟩
  · subst q; rw [pv_gn_9, pv_gn_9]
  · unfold pv_gn; rw [h.at q1 q2]
theorem pv_cong_le : ∀ (m k : Nat) (w w' : Nat → Nat), pv_Eqv ab w w' → pv ab g two m k w ≤ pv ab g two m k w'
  | 0, _, _, _, _ => Nat.le_refl _
  | m + 1, k, w, w', h => by
    refine pv_le (fun x y ho => ?_)
    refine Nat.le_trans ?_ (pv_ge (g := g) (m := m) (h.ok ho))
    have := pv_cong_le m (k + 1) _ _ ((h.dn x).dn y)
    unfold pv_val
    rw [h.gn ho.1, h.gn ho.2.1]
    omega
theorem pv_cong {w' : Nat → Nat} (h : pv_Eqv ab w w') : pv ab g two m k w = pv ab g two m k w' := Nat.le_antisymm (pv_cong_le _ _ _ _ h) (pv_cong_le _ _ _ _ h.symm)
theorem pv_val_cong {w' : Nat → Nat} (h : pv_Eqv ab w w') {x y : Nat} (ho : pv_ok ab two k w x y) : pv_val ab g two m k w x y = pv_val ab g two m k w' x y := by
  unfold pv_val
  rw [h.gn ho.1, h.gn ho.2.1, pv_cong ((h.dn x).dn y)]
theorem pv_mono {g' : Nat → Nat → Nat} (hg : ∀ k i, g k i ≤ g' k i) : ∀ (m k : Nat) (w : Nat → Nat), pv ab g two m k w ≤ pv ab g' two m k w
  | 0, _, _ => Nat.le_refl _
  | m + 1, k, w => by
    refine pv_le (fun x y ho => ?_)
    refine Nat.le_trans ?_ (pv_ge (g := g') (m := m) ho)
    have h1 := pv_mono hg m (k + 1) (pv_dn (pv_dn w x) y)
    have h2 : ∀ z, pv_gn g k w z ≤ pv_gn g' k w z := fun z => by
      unfold pv_gn
      split
      · exact hg k z
      · exact Nat.le_refl _
    have := h2 x
    have := h2 y
    unfold pv_val
    omega
theorem pv_bd1 (h9 : ∀ k i, g k i ≤ 9) {x : Nat} (hc : pv_can ab k w x) : pv_gn g k w x + 9 * fb_ct (fun i => decide (0 < pv_dn w x i)) 9 ≤ 9 * fb_ct (fun i => decide (0 < w i)) 9 := by
  rcases hc with rfl | ⟨q1, q2, q3⟩
  · rw [pv_gn_9, pv_dn_9]; omega
  · by_cases c : w x = 1
    · have e : fb_ct (fun i => decide (0 < pv_dn w x i)) 9 = fb_ct (fun i => if i = x then false else decide (0 < w i)) 9 := fb_ct_cong (fun i hi => by
        by_cases e : i = x
        · subst e; rw [pv_dn_self q1, c]; simp
        · rw [pv_dn_ne e]; simp [e])
      have e2 : fb_ct (fun i => if i = x then false else decide (0 < w i)) 9 + 1 = fb_ct (fun i => decide (0 < w i)) 9 := by
        have e2 := fb_ct_upd (fun i => decide (0 < w i)) false (i := x) (n := 9) q1
        simp only [decide_eq_true q3, if_true] at e2
        simpa using e2
      have e3 : pv_gn g k w x ≤ 9 := by
        unfold pv_gn
        split
        · exact h9 _ _
        · omega
      rw [e]
      omega
    · have e : fb_ct (fun i => decide (0 < pv_dn w x i)) 9 = fb_ct (fun i => decide (0 < w i)) 9 := fb_ct_cong (fun i hi => by
        by_cases e : i = x
        · subst e; rw [pv_dn_self q1]; rw [decide_eq_true q3]; exact decide_eq_true (by omega)
        · rw [pv_dn_ne e])
      have e3 : pv_gn g k w x = 0 := by
        unfold pv_gn
        rw [if_neg (by omega)]
      rw [e, e3]
      omega
theorem pv_bd (h9 : ∀ k i, g k i ≤ 9) : ∀ (m k : Nat) (w : Nat → Nat), pv ab g two m k w ≤ 9 * fb_ct (fun i => decide (0 < w i)) 9
  | 0, _, _ => Nat.zero_le _
  | m + 1, k, w => by
    refine pv_le (fun x y ho => ?_)
    have h1 := pv_bd1 h9 ho.1
    have hy : pv_can ab k (pv_dn w x) y := by
      rcases pv_ok_ne ho with q | q
      · exact Or.inl q
      · exact pv_can_dn ho.2.1 (Or.inr (fun e => q e.symm))
    have h2 := pv_bd1 h9 hy
    have h3 := pv_bd h9 m (k + 1) (pv_dn (pv_dn w x) y)
    have e : pv_gn g k (pv_dn w x) y = pv_gn g k w y := by
      rcases pv_ok_ne ho with q | q
      · subst q; rw [pv_gn_9, pv_gn_9]
      · exact pv_gn_ne (fun e => q e.symm)
    unfold pv_val
    omega
end PV
