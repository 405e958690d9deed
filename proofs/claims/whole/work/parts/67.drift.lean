/-! ===== two loops side by side ===== -/
theorem ww_it_two {α β γ δ : Type} {f : α → Option (α ⊕ β)} {g : γ → Option (γ ⊕ δ)} (I : Nat → α → γ → Prop) (Q : β → δ → Prop) (n : Nat) (hn : n < 9999) {x0 : α} {y0 : γ} (h0 : I 0 x0 y0) (hs : ∀ i, i ≤ n → ∀ x y, I i x y → (i < n ∧ ∃ x' y', f x = some (.inl x') ∧ g y = some (.inl y') ∧ I (i + 1) x' y') ∨ (∃ r r', f x = some (.inr r) ∧ g y = some (.inr r') ∧ Q r r')) : ∃ r r', ww_it f ww_F x0 = some r ∧ ww_it g ww_F y0 = some r' ∧ Q r r' := by
  have key : ∀ k i x y, k = n - i → i ≤ n → I i x y → ∀ fuel, k < fuel → ∃ r r', ww_it f fuel x = some r ∧ ww_it g fuel y = some r' ∧ Q r r' := by
    intro k
    induction k with
    | zero =>
      intro i x y hk hi hI fuel hf
      obtain ⟨f', rfl⟩ : ∃ f', fuel = f' + 1 := ⟨fuel - 1, by omega⟩
      rcases hs i hi x y hI with ⟨h1, -⟩ | ⟨r, r', h1, h2, h3⟩
      · omega
      · exact ⟨r, r', ww_it_done h1, ww_it_done h2, h3⟩
    | succ k ih =>
      intro i x y hk hi hI fuel hf
      obtain ⟨f', rfl⟩ : ∃ f', fuel = f' + 1 := ⟨fuel - 1, by omega⟩
      rcases hs i hi x y hI with ⟨h1, x', y', h2, h3, h4⟩ | ⟨r, r', h1, h2, h3⟩
      · obtain ⟨r, r', g1, g2, g3⟩ := ih (i + 1) x' y' (by omega) (by omega) h4 f' (by omega)
        exact ⟨r, r', ww_it_more h2 g1, ww_it_more h3 g2, g3⟩
      · exact ⟨r, r', ww_it_done h1, ww_it_done h2, h3⟩
  exact key n 0 x0 y0 (by omega) (by omega) h0 ww_F (by unfold ww_F; omega)
/-! ===== the r-th part that can be worked ===== -/
def ww_cw (s : ww_S) (d : ww_D1) (b p : Nat) : Bool := ww_vld s b p && ww_can s d b p
def ww_pkg (s : ww_S) (d : ww_D1) (r b p : Nat) (a : Nat × Option (Nat × Nat)) : Nat × Option (Nat × Nat) := if ww_can s d b p then (a.1 + 1, if a.1 = r then some (b, p) else a.2) else a
def ww_pkf (s : ww_S) (d : ww_D1) (r m n : Nat) : Nat × Option (Nat × Nat) := ww_fo (ww_vld s) (ww_pkg s d r) m (0, none) n
section PK
variable {s : ww_S} {d : ww_D1} {r m n : Nat}
theorem ww_cw_iff {b p : Nat} : ww_cw s d b p = true ↔ ww_vld s b p = true ∧ ww_can s d b p = true := by simp [ww_cw]
theorem ww_pkf_yes (h : ww_cw s d (n / m) (n % m) = true) : ww_pkf s d r m (n + 1) = ((ww_pkf s d r m n).1 + 1, if (ww_pkf s d r m n).1 = r then some (n / m, n % m) else (ww_pkf s d r m n).2) := by
  have h' := ww_cw_iff.mp h
  simp only [ww_pkf, ww_fo, h'.1, ww_pkg, h'.2, if_true]
  rfl
theorem ww_pkf_no (h : ww_cw s d (n / m) (n % m) = false) : ww_pkf s d r m (n + 1) = ww_pkf s d r m n := by
  simp only [ww_pkf, ww_fo]
  cases hv : ww_vld s (n / m) (n % m)
  · simp
  · have : ww_can s d (n / m) (n % m) = false := by simpa [ww_cw, hv] using h
    simp [ww_pkg, this]
theorem ww_pkf_cnt (r' : Nat) : ∀ n, (ww_pkf s d r m n).1 = (ww_pkf s d r' m n).1
  | 0 => rfl
  | n + 1 => by
    have ih := ww_pkf_cnt r' n
    cases h : ww_cw s d (n / m) (n % m)
    · rw [ww_pkf_no h, ww_pkf_no h]; exact ih
    · rw [ww_pkf_yes h, ww_pkf_yes h]; show _ + 1 = _ + 1; rw [ih]
theorem ww_pkf_le : ∀ n, (ww_pkf s d r m n).1 ≤ n
  | 0 => Nat.le_refl _
  | n + 1 => by
    have ih := ww_pkf_le n
    cases h : ww_cw s d (n / m) (n % m)
    · rw [ww_pkf_no h]; omega
    · rw [ww_pkf_yes h]; show _ + 1 ≤ _; omega
theorem ww_pkf_stay (h : r < (ww_pkf s d r m n).1) : ∀ k, (ww_pkf s d r m (n + k)).2 = (ww_pkf s d r m n).2 ∧ r < (ww_pkf s d r m (n + k)).1
  | 0 => ⟨rfl, h⟩
  | k + 1 => by
    have ih := ww_pkf_stay h k
    rw [show n + (k + 1) = n + k + 1 by omega]
    cases h2 : ww_cw s d ((n + k) / m) ((n + k) % m)
    · rw [ww_pkf_no h2]; exact ih
    · rw [ww_pkf_yes h2, if_neg (by omega)]; exact ⟨ih.1, by show r < _ + 1; omega⟩
theorem ww_pkf_ok : ∀ n, ∀ q, (ww_pkf s d r m n).2 = some q → ww_cw s d q.1 q.2 = true
  | 0 => fun q e => by simp [ww_pkf, ww_fo] at e
  | n + 1 => fun q e => by
    have ih := ww_pkf_ok n
    cases h : ww_cw s d (n / m) (n % m)
    · rw [ww_pkf_no h] at e; exact ih q e
    · rw [ww_pkf_yes h] at e
      by_cases c : (ww_pkf s d r m n).1 = r
      · rw [if_pos c] at e
        injection e with e
        subst e
        exact h
      · rw [if_neg c] at e; exact ih q e
theorem ww_pkf_10 (hs : ww_okS s) : ww_pkf s d r 10 30 = ww_pkf s d r 3 9 := ww_fo_eq (ww_vld_3 hs)
theorem ww_pkf_ow : ww_ow s d (ww_pkf s d r 3 9).2 := fun q hq => by
  have h := ww_cw_iff.mp (ww_pkf_ok 9 q hq)
  refine ⟨h.1, ?_⟩
  have h2 := h.2
  unfold ww_can at h2
  simp at h2
  omega
end PK
theorem sp_workableParts {σ : ww_M} {o : Nat} {s : ww_S} {d : ww_D1} (h : ww_CL1 σ o s d) (r : Nat) : f_X2_workableParts σ o = some (nI (ww_pkf s d r 3 9).1) := by
  unfold f_X2_workableParts f_X2_workableParts_j4 f_X2_workableParts_j27
  have key := ww_it_for (f := f_X2_workableParts_b4 σ o) (fun i => (nI (ww_pkf s d r 3 i).1, nI i)) 9 (r := nI (ww_pkf s d r 3 9).1) (by omega) (fun i hi => ?_) ?_
  · exact Option.bind_eq_some_iff.mpr ⟨_, key, rfl⟩
  · unfold f_X2_workableParts_b4
    have hw := sp_canWork h hi
    cases c : ww_cw s d (i / 3) (i % 3)
    · rw [ww_pkf_no c]
      unfold ww_cw at c
      rw [c] at hw
      simp only [hw]
      simp (disch := omega) only [n_lit, n_le, n_lt, n_eq, n_in, n_ckt, n_ix, n_mul, n_add, n_sub, n_div, n_rem, n_b01, n_isb, n_lt0, n_le0, Option.bind_some, if_pos, if_neg, ge_iff_le, gt_iff_lt, Nat.zero_add, Nat.add_zero, n_neg1, n_neg4, if_true, if_false, ite_true, ite_false, n_land1, not_true_eq_false, not_false_eq_true]
      simp
    · rw [ww_pkf_yes c]
      unfold ww_cw at c
      rw [c] at hw
      simp only [hw]
      simp (disch := omega) only [n_lit, n_le, n_lt, n_eq, n_in, n_ckt, n_ix, n_mul, n_add, n_sub, n_div, n_rem, n_b01, n_isb, n_lt0, n_le0, Option.bind_some, if_pos, if_neg, ge_iff_le, gt_iff_lt, Nat.zero_add, Nat.add_zero, n_neg1, n_neg4, if_true, if_false, ite_true, ite_false, n_land1, not_true_eq_false, not_false_eq_true]
  · unfold f_X2_workableParts_b4
    simp (disch := omega) only [n_lit, n_le, n_lt, n_eq, n_in, n_ckt, n_ix, n_mul, n_add, n_sub, n_div, n_rem, n_b01, n_isb, n_lt0, n_le0, Option.bind_some, if_pos, if_neg, ge_iff_le, gt_iff_lt, Nat.zero_add, Nat.add_zero, n_neg1, n_neg4, if_true, if_false, ite_true, ite_false, n_land1, not_true_eq_false, not_false_eq_true]
theorem sp_workableSlot {σ : ww_M} {o : Nat} {s : ww_S} {d : ww_D1} (h : ww_CL1 σ o s d) {r : Nat} (hr : r < 1000) : f_X2_workableSlot σ o (nI r) = some (ww_enC (ww_pkf s d r 3 9).2) := by
  unfold f_X2_workableSlot f_X2_workableSlot_j4 f_X2_workableSlot_j34
  have key := ww_it_inv (f := f_X2_workableSlot_b4 σ o (nI r)) (x0 := (0, 0)) (fun i x => x = (nI (ww_pkf s d r 3 i).1, nI i) ∧ (ww_pkf s d r 3 i).2 = none) (fun res => (match res with | .inl _ => some (-1 : Int32) | .inr g => some g) = some (ww_enC (ww_pkf s d r 3 9).2)) 9 (by omega) ⟨rfl, rfl⟩ (fun i hi x hx => ?_) (fun x hx => ?_)
  · obtain ⟨res, k1, k2⟩ := key
    rw [k1]; exact k2
  · obtain ⟨rfl, hn⟩ := hx
    have hle := ww_pkf_le (s := s) (d := d) (r := r) (m := 3) i
    have hw := sp_canWork h hi
    cases c : ww_cw s d (i / 3) (i % 3)
    · refine Or.inl ⟨(nI (ww_pkf s d r 3 i).1, nI (i + 1)), ?_, ?_⟩
      · have c' := c
        unfold ww_cw at c'
        rw [c'] at hw
        unfold f_X2_workableSlot_b4
        simp only [hw]
        simp (disch := omega) only [n_lit, n_le, n_lt, n_eq, n_in, n_ckt, n_ix, n_mul, n_add, n_sub, n_div, n_rem, n_b01, n_isb, n_lt0, n_le0, Option.bind_some, if_pos, if_neg, ge_iff_le, gt_iff_lt, Nat.zero_add, Nat.add_zero, n_neg1, n_neg4, if_true, if_false, ite_true, ite_false, n_land1, not_true_eq_false, not_false_eq_true]
        simp
      · rw [ww_pkf_no c]; exact ⟨rfl, hn⟩
    · have c' := c
      unfold ww_cw at c'
      rw [c'] at hw
      by_cases e : (ww_pkf s d r 3 i).1 = r
      · refine Or.inr ⟨.inr (nI i), ?_, ?_⟩
        · unfold f_X2_workableSlot_b4
          simp only [hw]
          simp (disch := omega) only [n_lit, n_le, n_lt, n_eq, n_in, n_ckt, n_ix, n_mul, n_add, n_sub, n_div, n_rem, n_b01, n_isb, n_lt0, n_le0, Option.bind_some, if_pos, if_neg, ge_iff_le, gt_iff_lt, Nat.zero_add, Nat.add_zero, n_neg1, n_neg4, if_true, if_false, ite_true, ite_false, n_land1, not_true_eq_false, not_false_eq_true]
        · have h1 := ww_pkf_yes (r := r) c
          rw [if_pos e] at h1
          have h2 := ww_pkf_stay (s := s) (d := d) (r := r) (m := 3) (n := i + 1) (by rw [h1]; show r < _ + 1; omega) (9 - (i + 1))
          rw [show i + 1 + (9 - (i + 1)) = 9 by omega, h1] at h2
          rw [h2.1]
          show some (nI i) = some (nI (3 * (i / 3) + i % 3))
          rw [Nat.div_add_mod]
      · refine Or.inl ⟨(nI ((ww_pkf s d r 3 i).1 + 1), nI (i + 1)), ?_, ?_⟩
        · unfold f_X2_workableSlot_b4
          simp only [hw]
          simp (disch := omega) only [n_lit, n_le, n_lt, n_eq, n_in, n_ckt, n_ix, n_mul, n_add, n_sub, n_div, n_rem, n_b01, n_isb, n_lt0, n_le0, Option.bind_some, if_pos, if_neg, ge_iff_le, gt_iff_lt, Nat.zero_add, Nat.add_zero, n_neg1, n_neg4, if_true, if_false, ite_true, ite_false, n_land1, not_true_eq_false, not_false_eq_true]
        · rw [ww_pkf_yes c, if_neg e]; exact ⟨rfl, hn⟩
  · obtain ⟨rfl, hn⟩ := hx
    refine ⟨.inl (), ?_, ?_⟩
    · unfold f_X2_workableSlot_b4
      simp (disch := omega) only [n_lit, n_le, n_lt, n_eq, n_in, n_ckt, n_ix, n_mul, n_add, n_sub, n_div, n_rem, n_b01, n_isb, n_lt0, n_le0, Option.bind_some, if_pos, if_neg, ge_iff_le, gt_iff_lt, Nat.zero_add, Nat.add_zero, n_neg1, n_neg4, if_true, if_false, ite_true, ite_false, n_land1, not_true_eq_false, not_false_eq_true]
    · rw [hn]; rfl
theorem sm_isCan {σ : ww_M} {s : ww_S} {d : ww_D1} (h : ww_MO1 σ s d) {i : Nat} (hi : i < 30) : (f_X7_isPart σ 62 (nI i) = some 0 ∧ ww_cw s d (i / 10) (i % 10) = false) ∨ (f_X7_isPart σ 62 (nI i) = some 1 ∧ f_X7_canBeWorked σ 62 (nI i) = some (if ww_cw s d (i / 10) (i % 10) then 1 else 0)) := by
  have h1 := sm_isPart h hi
  cases hv : ww_vld s (i / 10) (i % 10)
  · rw [hv] at h1
    exact Or.inl ⟨h1, by simp [ww_cw, hv]⟩
  · rw [hv] at h1
    refine Or.inr ⟨h1, ?_⟩
    have h2 := sm_canBe h hv
    rw [Nat.div_add_mod] at h2
    rw [h2]
    simp [ww_cw, hv]
theorem sm_partBy {σ : ww_M} {s : ww_S} {d : ww_D1} (h : ww_MO1 σ s d) {r : Nat} (hr : r < 1000) : f_X7_partBy σ 62 (nI r) = some (ww_enM (ww_pkf s d r 3 9).2) := by
  rw [← ww_pkf_10 h.1]
  unfold f_X7_partBy f_X7_partBy_j4 f_X7_partBy_j42
  have key := ww_it_inv (f := f_X7_partBy_b4 σ 62 (nI r)) (x0 := (0, 0)) (fun i x => x = (nI (ww_pkf s d r 10 i).1, nI i) ∧ (ww_pkf s d r 10 i).2 = none) (fun res => (match res with | .inl x2 => (if 0 ≤ nI r then some (-4 : Int32) else some x2) | .inr g => some g) = some (ww_enM (ww_pkf s d r 10 30).2)) 30 (by omega) ⟨rfl, rfl⟩ (fun i hi x hx => ?_) (fun x hx => ?_)
  · obtain ⟨res, k1, k2⟩ := key
    rw [k1]; exact k2
  · obtain ⟨rfl, hn⟩ := hx
    have hle := ww_pkf_le (s := s) (d := d) (r := r) (m := 10) i
    rcases sm_isCan h hi with ⟨g1, g2⟩ | ⟨g1, g2⟩
    · refine Or.inl ⟨(nI (ww_pkf s d r 10 i).1, nI (i + 1)), ?_, ?_⟩
      · unfold f_X7_partBy_b4
        simp only [g1]
        simp (disch := omega) only [n_lit, n_le, n_lt, n_eq, n_in, n_ckt, n_ix, n_mul, n_add, n_sub, n_div, n_rem, n_b01, n_isb, n_lt0, n_le0, Option.bind_some, if_pos, if_neg, ge_iff_le, gt_iff_lt, Nat.zero_add, Nat.add_zero, n_neg1, n_neg4, if_true, if_false, ite_true, ite_false, n_land1, not_true_eq_false, not_false_eq_true]
      · rw [ww_pkf_no g2]; exact ⟨rfl, hn⟩
    · cases c : ww_cw s d (i / 10) (i % 10)
      · rw [c] at g2
        refine Or.inl ⟨(nI (ww_pkf s d r 10 i).1, nI (i + 1)), ?_, ?_⟩
        · unfold f_X7_partBy_b4
          simp only [g1, g2]
          simp (disch := omega) only [n_lit, n_le, n_lt, n_eq, n_in, n_ckt, n_ix, n_mul, n_add, n_sub, n_div, n_rem, n_b01, n_isb, n_lt0, n_le0, Option.bind_some, if_pos, if_neg, ge_iff_le, gt_iff_lt, Nat.zero_add, Nat.add_zero, n_neg1, n_neg4, if_true, if_false, ite_true, ite_false, n_land1, not_true_eq_false, not_false_eq_true]
          simp
        · rw [ww_pkf_no c]; exact ⟨rfl, hn⟩
      · rw [c] at g2
        by_cases e : (ww_pkf s d r 10 i).1 = r
        · refine Or.inr ⟨.inr (nI i), ?_, ?_⟩
          · unfold f_X7_partBy_b4
            simp only [g1, g2]
            simp (disch := omega) only [n_lit, n_le, n_lt, n_eq, n_in, n_ckt, n_ix, n_mul, n_add, n_sub, n_div, n_rem, n_b01, n_isb, n_lt0, n_le0, Option.bind_some, if_pos, if_neg, ge_iff_le, gt_iff_lt, Nat.zero_add, Nat.add_zero, n_neg1, n_neg4, if_true, if_false, ite_true, ite_false, n_land1, not_true_eq_false, not_false_eq_true]
          · have h1 := ww_pkf_yes (r := r) c
            rw [if_pos e] at h1
            have h2 := ww_pkf_stay (s := s) (d := d) (r := r) (m := 10) (n := i + 1) (by rw [h1]; show r < _ + 1; omega) (30 - (i + 1))
            rw [show i + 1 + (30 - (i + 1)) = 30 by omega, h1] at h2
            rw [h2.1]
            show some (nI i) = some (nI (10 * (i / 10) + i % 10))
            rw [Nat.div_add_mod]
        · refine Or.inl ⟨(nI ((ww_pkf s d r 10 i).1 + 1), nI (i + 1)), ?_, ?_⟩
          · unfold f_X7_partBy_b4
            simp only [g1, g2]
            simp (disch := omega) only [n_lit, n_le, n_lt, n_eq, n_in, n_ckt, n_ix, n_mul, n_add, n_sub, n_div, n_rem, n_b01, n_isb, n_lt0, n_le0, Option.bind_some, if_pos, if_neg, ge_iff_le, gt_iff_lt, Nat.zero_add, Nat.add_zero, n_neg1, n_neg4, if_true, if_false, ite_true, ite_false, n_land1, not_true_eq_false, not_false_eq_true]
          · rw [ww_pkf_yes c, if_neg e]; exact ⟨rfl, hn⟩
  · obtain ⟨rfl, hn⟩ := hx
    refine ⟨.inl (nI (ww_pkf s d r 10 30).1), ?_, ?_⟩
    · unfold f_X7_partBy_b4
      simp (disch := omega) only [n_lit, n_le, n_lt, n_eq, n_in, n_ckt, n_ix, n_mul, n_add, n_sub, n_div, n_rem, n_b01, n_isb, n_lt0, n_le0, Option.bind_some, if_pos, if_neg, ge_iff_le, gt_iff_lt, Nat.zero_add, Nat.add_zero, n_neg1, n_neg4, if_true, if_false, ite_true, ite_false, n_land1, not_true_eq_false, not_false_eq_true]
    · rw [hn]
      show (if 0 ≤ nI r then some (-4 : Int32) else some _) = some (-4)
      rw [if_pos (nI_pos' (by omega))]
theorem sm_partBy_cnt {σ : ww_M} {s : ww_S} {d : ww_D1} (h : ww_MO1 σ s d) (r : Nat) : f_X7_partBy σ 62 (-1) = some (nI (ww_pkf s d r 3 9).1) := by
  rw [← ww_pkf_10 h.1]
  unfold f_X7_partBy f_X7_partBy_j4 f_X7_partBy_j42
  have key := ww_it_for (f := f_X7_partBy_b4 σ 62 (-1)) (fun i => (nI (ww_pkf s d r 10 i).1, nI i)) 30 (r := .inl (nI (ww_pkf s d r 10 30).1)) (by omega) (fun i hi => ?_) ?_
  · exact Option.bind_eq_some_iff.mpr ⟨_, key, if_neg (show ¬ (0 : Int32) ≤ -1 by decide)⟩
  · have hle := ww_pkf_le (s := s) (d := d) (r := r) (m := 10) i
    unfold f_X7_partBy_b4
    rcases sm_isCan h hi with ⟨g1, g2⟩ | ⟨g1, g2⟩
    · rw [ww_pkf_no g2]
      simp only [g1]
      simp (disch := omega) only [n_lit, n_le, n_lt, n_eq, n_in, n_ckt, n_ix, n_mul, n_add, n_sub, n_div, n_rem, n_b01, n_isb, n_lt0, n_le0, Option.bind_some, if_pos, if_neg, ge_iff_le, gt_iff_lt, Nat.zero_add, Nat.add_zero, n_neg1, n_neg4, if_true, if_false, ite_true, ite_false, n_land1, not_true_eq_false, not_false_eq_true]
    · cases c : ww_cw s d (i / 10) (i % 10)
      · rw [c] at g2
        rw [ww_pkf_no c]
        simp only [g1, g2]
        simp (disch := omega) only [n_lit, n_le, n_lt, n_eq, n_in, n_ckt, n_ix, n_mul, n_add, n_sub, n_div, n_rem, n_b01, n_isb, n_lt0, n_le0, Option.bind_some, if_pos, if_neg, ge_iff_le, gt_iff_lt, Nat.zero_add, Nat.add_zero, n_neg1, n_neg4, if_true, if_false, ite_true, ite_false, n_land1, not_true_eq_false, not_false_eq_true]
        simp
      · rw [c] at g2
        rw [ww_pkf_yes c]
        simp only [g1, g2]
        simp (disch := omega) only [n_lit, n_le, n_lt, n_eq, n_in, n_ckt, n_ix, n_mul, n_add, n_sub, n_div, n_rem, n_b01, n_isb, n_lt0, n_le0, Option.bind_some, if_pos, if_neg, ge_iff_le, gt_iff_lt, Nat.zero_add, Nat.add_zero, n_neg1, n_neg4, if_true, if_false, ite_true, ite_false, n_land1, not_true_eq_false, not_false_eq_true]
  · unfold f_X7_partBy_b4
    simp (disch := omega) only [n_lit, n_le, n_lt, n_eq, n_in, n_ckt, n_ix, n_mul, n_add, n_sub, n_div, n_rem, n_b01, n_isb, n_lt0, n_le0, Option.bind_some, if_pos, if_neg, ge_iff_le, gt_iff_lt, Nat.zero_add, Nat.add_zero, n_neg1, n_neg4, if_true, if_false, ite_true, ite_false, n_land1, not_true_eq_false, not_false_eq_true]
/-! ===== the seed ===== -/
def ww_drn (z : Int32) : Nat := z.toBitVec.toNat / 65536 % 32768
theorem ww_drn_u (z : Int32) : (ww_ushr z 16 &&& 32767) = nI (ww_drn z) := by
  apply Int32.toBitVec_inj.1
  have e1 : (ww_ushr z 16 &&& 32767).toBitVec = (z.toBitVec >>> (16 : Nat)) &&& 32767#32 := rfl
  have e2 : (nI (ww_drn z)).toBitVec = BitVec.ofNat 32 (ww_drn z) := rfl
  rw [e1, e2]
  apply BitVec.eq_of_toNat_eq
  rw [BitVec.toNat_and, BitVec.toNat_ushiftRight, BitVec.toNat_ofNat, BitVec.toNat_ofNat, Nat.shiftRight_eq_div_pow]
  have e3 : (32767 % 2 ^ 32 : Nat) = 2 ^ 15 - 1 := by decide
  rw [e3, Nat.and_two_pow_sub_one_eq_mod]
  unfold ww_drn
  omega
theorem ww_drn_s (z : Int32) : (ww_shr z 16 &&& 32767) = nI (ww_drn z) := by
  rw [← ww_drn_u]
  apply Int32.toBitVec_inj.1
  have e1 : (ww_shr z 16 &&& 32767).toBitVec = (z.toBitVec.sshiftRight 16) &&& 32767#32 := rfl
  have e2 : (ww_ushr z 16 &&& 32767).toBitVec = (z.toBitVec >>> (16 : Nat)) &&& 32767#32 := rfl
  rw [e1, e2]
  apply BitVec.eq_of_getLsbD_eq
  intro i hi
  rw [BitVec.getLsbD_and, BitVec.getLsbD_and]
  by_cases c : i < 15
  · rw [BitVec.getLsbD_sshiftRight, BitVec.getLsbD_ushiftRight, if_pos (by omega)]
    simp [show ¬ 32 ≤ i by omega]
  · have : (32767#32 : BitVec 32).getLsbD i = false := by
      have hall : ∀ j : Fin 32, 15 ≤ j.val → (32767#32 : BitVec 32).getLsbD j.val = false := by decide
      exact hall ⟨i, hi⟩ (show 15 ≤ i by omega)
    rw [this, Bool.and_false, Bool.and_false]
theorem ww_nz_n {n : Nat} (h : 0 < n) (h2 : n < 2147483648) : ww_nz (nI n) = true := by
  unfold ww_nz
  apply decide_eq_true
  intro e
  have := (n_eq (a := n) (b := 0) h2 (by omega)).mp e
  omega
def ww_dpk (s : ww_S) (d : ww_D1) (st : Int32) : Option (Nat × Nat) := (ww_pkf s d (ww_drn (st * 1103515245 + 12345) % ((ww_pkf s d 0 3 9).1 + 1)) 3 9).2
theorem sp_driftstep {τ : ww_M} {s : ww_S} {d : ww_D1} {i n : Nat} {p1 p3 won st : Int32} (h : ww_CL1 τ 14 s d) (hi : i < n) (hn : n ≤ 60) (hh : dHr d < 4000) : ∃ τ', f_X6_drift_b41 p1 (nI n) p3 (won, st, nI i, τ) = some (.inl (won + ww_hwon s d (ww_dpk s d st) none, st * 1103515245 + 12345, nI (i + 1), τ')) ∧ ww_ClsA τ' 14 s (ww_hour s d (ww_dpk s d st) none) ∧ ∀ a, a < 14 ∨ 24 ≤ a → τ' a = τ a := by
  have hle := ww_pkf_le (s := s) (d := d) (r := 0) (m := 3) 9
  have hx : ww_ow s d (ww_dpk s d st) := ww_pkf_ow
  obtain ⟨τ', a1, a2, a3⟩ := sp_hourGoes (y := none) h hx (fun q e => by simp at e) hh
  refine ⟨τ', ?_, a2, fun a ha => a3 a (by omega)⟩
  have hm : ww_drn (st * 1103515245 + 12345) < 32768 := Nat.mod_lt _ (by omega)
  have hr : ww_rem (ww_ushr (st * 1103515245 + 12345) 16 &&& 32767) (nI (ww_pkf s d 0 3 9).1 + 1) = nI (ww_drn (st * 1103515245 + 12345) % ((ww_pkf s d 0 3 9).1 + 1)) := by
    rw [ww_drn_u, nI_1, n_rem (by omega) (by omega) (by omega)]
  have hml : ww_drn (st * 1103515245 + 12345) % ((ww_pkf s d 0 3 9).1 + 1) < (ww_pkf s d 0 3 9).1 + 1 := Nat.mod_lt _ (by omega)
  have hsl := sp_workableSlot h (r := ww_drn (st * 1103515245 + 12345) % ((ww_pkf s d 0 3 9).1 + 1)) (by omega)
  unfold f_X6_drift_b41 f_X6_drift_j91
  simp only [sp_workableParts h 0, Option.bind_some, hr]
  rw [if_neg (show ¬ nI n ≤ nI i by rw [n_le (by omega) (by omega)]; omega), hsl]
  simp only [Option.bind_some]
  have e9 : f_X2_hourGoes τ 14 (ww_enC (ww_pkf s d (ww_drn (st * 1103515245 + 12345) % ((ww_pkf s d 0 3 9).1 + 1)) 3 9).2) (-1) = _ := a1
  rw [e9, nI_1, nI_1, ww_nz_n (by omega) (by omega), if_pos (show (1 : Int32) ≤ nI ((ww_pkf s d 0 3 9).1 + 1) from by rw [show (1 : Int32) = nI 1 from rfl, n_le (by omega) (by omega)]; omega)]
  rfl
theorem sm_driftstep {τ : ww_M} {s : ww_S} {d : ww_D1} {i n : Nat} {p1 p3 won st : Int32} (h : ww_MO1 τ s d) (hi : i < n) (hn : n ≤ 60) (hh : dHr d < 4000) : ∃ τ', f_X7_drift_b41 62 p1 (nI n) p3 (st, won, nI i, τ) = some (.inl (st * 1103515245 + 12345, won + ww_hwon s d (ww_dpk s d st) none, nI (i + 1), τ')) ∧ ww_ModD (τ' 63) 0 s (ww_hour s d (ww_dpk s d st) none) ∧ (∀ a, a ≠ 63 → τ' a = τ a) ∧ ∀ j, 50 ≤ j → τ' 63 j = τ 63 j := by
  have hle := ww_pkf_le (s := s) (d := d) (r := 0) (m := 3) 9
  have hx : ww_ow s d (ww_dpk s d st) := ww_pkf_ow
  obtain ⟨τ', a1, a2, a3, a4⟩ := sm_hourGoes (y := none) h hx (fun q e => by simp at e) hh
  refine ⟨τ', ?_, a2, a3, a4⟩
  have hm : ww_drn (st * 1103515245 + 12345) < 32768 := Nat.mod_lt _ (by omega)
  have hr : ww_rem (ww_shr (st * 1103515245 + 12345) 16 &&& 32767) (nI (ww_pkf s d 0 3 9).1 + 1) = nI (ww_drn (st * 1103515245 + 12345) % ((ww_pkf s d 0 3 9).1 + 1)) := by
    rw [ww_drn_s, nI_1, n_rem (by omega) (by omega) (by omega)]
  have hml : ww_drn (st * 1103515245 + 12345) % ((ww_pkf s d 0 3 9).1 + 1) < (ww_pkf s d 0 3 9).1 + 1 := Nat.mod_lt _ (by omega)
  have hsl := sm_partBy h (r := ww_drn (st * 1103515245 + 12345) % ((ww_pkf s d 0 3 9).1 + 1)) (by omega)
  unfold f_X7_drift_b41
  simp only [sm_partBy_cnt h 0, Option.bind_some, hr]
  rw [if_neg (show ¬ nI n ≤ nI i by rw [n_le (by omega) (by omega)]; omega), hsl]
  simp only [Option.bind_some]
  have e9 : f_X7_hourGoes τ 62 (ww_enM (ww_pkf s d (ww_drn (st * 1103515245 + 12345) % ((ww_pkf s d 0 3 9).1 + 1)) 3 9).2) (-4) = _ := a1
  rw [e9, nI_1, nI_1, ww_nz_n (by omega) (by omega)]
  rfl
theorem ww_driftloop {σ μ : ww_M} {s : ww_S} {d : ww_D1} {n : Nat} {p1 p3 : Int32} (h : ww_CL1 σ 14 s d) (hm : ww_MO1 μ s d) (hn : n ≤ 60) (hh : dHr d ≤ 999) : ∃ r r', ww_it (f_X6_drift_b41 p1 (nI n) p3) ww_F (0, p1, 0, σ) = some r ∧ ww_it (f_X7_drift_b41 62 p1 (nI n) p3) ww_F (p1, 0, 0, μ) = some r' ∧ (r.1 = r'.1 ∧ ∃ d', ww_CL1 r.2 14 s d' ∧ ww_MO1 r'.2 s d' ∧ (∀ a, a < 14 ∨ 24 ≤ a → r.2 a = σ a) ∧ (∀ a, a ≠ 63 → r'.2 a = μ a) ∧ ∀ j, 50 ≤ j → r'.2 63 j = μ 63 j) := by
  refine ww_it_two (fun i x y => ∃ won st τ ν d', x = (won, st, nI i, τ) ∧ y = (st, won, nI i, ν) ∧ dHr d' = dHr d + i ∧ ww_CL1 τ 14 s d' ∧ ww_MO1 ν s d' ∧ (∀ a, a < 14 ∨ 24 ≤ a → τ a = σ a) ∧ (∀ a, a ≠ 63 → ν a = μ a) ∧ ∀ j, 50 ≤ j → ν 63 j = μ 63 j) _ n (by omega) ⟨0, p1, σ, μ, d, rfl, rfl, rfl, h, hm, fun _ _ => rfl, fun _ _ => rfl, fun _ _ => rfl⟩ ?_
  rintro i hi x y ⟨won, st, τ, ν, d', rfl, rfl, e1, e2, e3, e4, e5, e6⟩
  by_cases c : i < n
  · obtain ⟨τ', a1, a2, a3⟩ := sp_driftstep (p1 := p1) (p3 := p3) (won := won) (st := st) e2 c hn (by omega)
    obtain ⟨ν', b1, b2, b3, b4⟩ := sm_driftstep (p1 := p1) (p3 := p3) (won := won) (st := st) e3 c hn (by omega)
    have ok : ww_okD s (ww_hour s d' (ww_dpk s d' st) none) := ww_okD_hour e2.2.1 (by omega)
    refine Or.inl ⟨c, _, _, a1, b1, _, _, _, _, _, rfl, rfl, ?_, ⟨e2.1, ok, a2⟩, ⟨e2.1, ok, ?_, b2⟩, fun a ha => by rw [a3 a ha, e4 a ha], fun a ha => by rw [b3 a ha, e5 a ha], fun j hj => by rw [b4 j hj, e6 j hj]⟩
    · rw [ww_hour_hr]; omega
    · unfold ww_MS
      rw [b3 62 (by decide), b3 64 (by decide), b3 65 (by decide)]; exact e3.2.2.1
  · have e : i = n := by omega
    subst e
    refine Or.inr ⟨(won, τ), (won, ν), ?_, ?_, rfl, d', e2, e3, e4, e5, e6⟩
    · unfold f_X6_drift_b41
      rw [if_pos (by rw [n_le (by omega) (by omega)]; omega)]
    · unfold f_X7_drift_b41
      rw [if_pos (by rw [n_le (by omega) (by omega)]; omega)]
theorem st_drift {k : Nat} {σ : ww_M} {s : ww_S} {d : ww_D1} (hk : k < 64) (h : ww_Rel k σ s d) (p1 p2 p3 : Int32) : ∃ (v : Int32) (σ1 : ww_M) (σ2 : ww_M) (s2 : ww_S) (d2 : ww_D1), f_X6_drift σ p1 p2 p3 = some (v, σ1) ∧ f_X7_drift σ1 62 p1 p2 p3 = some (v, σ2) ∧ ww_Rel (k + 1) σ2 s2 d2 := by
  have h0 := h
  obtain ⟨r1, ⟨hd, hh, e2⟩, hC, hM, hD, -⟩ := h
  unfold f_X6_drift f_X7_drift
  simp only [ww_within, Option.bind_some, ww_b01, ww_inI (a := 0) (b := 1) 0 1 rfl rfl, ww_inI (a := 1) (b := 60) 1 60 rfl rfl]
  by_cases c : 1 ≤ p2 ∧ p2 ≤ 60
  · obtain ⟨n, hn1, hn2, rfl⟩ := ww_btw (a := 1) (b := 60) (by omega) c (by omega)
    have hcc : ¬ ¬ (1 ≤ nI n ∧ nI n ≤ 60) := fun q => q c
    simp only [if_neg hcc]
    by_cases c3 : 0 ≤ p3 ∧ p3 ≤ 1
    · have hcc3 : ¬ ¬ (0 ≤ p3 ∧ p3 ≤ 1) := fun q => q c3
      simp only [if_neg hcc3, ww_copyFrom, Option.bind_some]
      have hcl : ww_CL1 (ww_cp σ 14 4) 14 s d := ⟨r1, hd, ww_cp_cls (o0 := 14) (o1 := 4) r1 (by omega) hC⟩
      have mo : ∀ τ : ww_M, (∀ a, a < 14 ∨ 24 ≤ a → τ a = ww_cp σ 14 4 a) → ww_MO1 (ww_upr τ 63 (fb_put (τ 63) (fun x => τ 63 (0 + x)) 150 50)) s d := fun τ ht => by
        have hu : ∀ a, 24 ≤ a → τ a = σ a := fun a ha => by rw [ht a (by omega), ww_cp_ne (by omega)]
        refine ⟨r1, hd, ?_, ?_⟩
        · unfold ww_MS
          rw [ww_upr_ne (by decide), ww_upr_ne (by decide), ww_upr_ne (by decide), hu 62 (by omega), hu 64 (by omega), hu 65 (by omega)]; exact hM
        · rw [ww_upr_eq, hu 63 (by omega)]
          exact ww_ModD_ext r1 hD (fun j j1 j2 => fb_put_out (by omega))
      obtain ⟨r, r', g1, g2, g3, d1, g4, g5, g6, g7⟩ := ww_driftloop (p1 := p1) (p3 := p3) hcl (mo _ (fun _ _ => rfl)) hn2 hh
      obtain ⟨q, q', t1, t2, t3, d2, t4, t5, t6, t7, t8⟩ := ww_driftloop (p1 := p1) (p3 := p3) hcl (mo r.2 g6) hn2 hh
      have eq : r = q := by rw [g1] at t1; exact Option.some.inj t1
      subst eq
      have eb : f_J6_bitCount_0f7a4 (r.2 14 16) = some (nI (fb_ct (dLost d2) (sNb s))) := by
        rw [show r.2 14 16 = nI (ww_lostN d2) from t4.2.2.2.1.2.2.2.2]
        unfold ww_lostN
        rw [ww_bcN (by omega), ww_lostN_ct r1 t4.2.1]
      have em := sm_lostMany t5
      have e150 : (0 : Int32) = nI 0 ∧ (150 : Int32) = nI 150 := ⟨rfl, rfl⟩
      have u63 : r.2 63 = σ 63 := by rw [g6 63 (by omega), ww_cp_ne (by omega)]
      have fin : ww_Rel (k + 1) (ww_upr q'.2 63 (fb_put (q'.2 63) (fun x => q'.2 63 (150 + x)) 0 50)) s d := by
        refine ww_Rel_shore h0 (fun a q1 q2 => ?_) (fun j j1 j2 => ?_) ⟨hd, hh, e2⟩ (ww_ClsA_ext hC (fun a q1 q2 => ?_)) ?_
        · rw [ww_upr_ne q1, t7 a q1, ww_upr_ne q1]
          by_cases ca : 14 ≤ a ∧ a < 24
          · omega
          · rw [g6 a (by omega), ww_cp_ne (by omega)]
        · rw [ww_upr_eq, fb_put_out (by omega), t8 j (by omega), ww_upr_eq, fb_put_out (by omega), u63]
        · rw [ww_upr_ne (by omega), t7 a (by omega), ww_upr_ne (by omega), g6 a (by omega), ww_cp_ne (by omega)]
        · rw [ww_upr_eq]
          refine ww_ModD_page r1 hD (fun j hj => ?_)
          rw [fb_put_in (by omega) (by omega), t8 _ (by omega), ww_upr_eq, fb_put_in (by omega) (by omega), u63]
          exact congrArg (σ 63) (by omega)
      refine ⟨if p3 = 0 then r.1 else nI (fb_ct (dLost d2) (sNb s)), r.2, _, s, d, ?_, ?_, fin⟩
      · unfold f_X6_drift_j41 f_X6_drift_j121
        rw [g1]
        simp only [Option.bind_some, eb]
        by_cases c0 : p3 = 0
        · simp only [if_pos c0]
        · simp only [if_neg c0]
      · rw [e150.1, e150.2, sm_copies (a := 0) (b := 150) (by omega) (by omega) (by omega)]
        simp only [Option.bind_some]
        unfold f_X7_drift_j41 f_X7_drift_j97
        rw [show nI 0 = 0 from rfl, show nI 150 = 150 from rfl] at *
        rw [t2]
        simp only [Option.bind_some, em]
        rw [show (150 : Int32) = nI 150 from rfl, show (0 : Int32) = nI 0 from rfl, sm_copies (a := 150) (b := 0) (by omega) (by omega) (by omega)]
        simp only [Option.bind_some]
        by_cases c0 : p3 = nI 0
        · simp only [if_pos c0]; rw [t3]
        · simp only [if_neg c0]
    · simp only [if_pos c3]
      exact ⟨-1, σ, σ, s, d, rfl, rfl, ww_Rel_up h0⟩
  · simp only [if_pos c]
    exact ⟨-1, σ, σ, s, d, rfl, rfl, ww_Rel_up h0⟩
