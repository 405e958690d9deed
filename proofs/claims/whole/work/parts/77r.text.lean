/-! ===== a text as a whole ===== -/
def tx_s1 (s : ww_S) : ww_S := (s.1, (if sNl s = 0 then 1 else sNl s), s.2.2.1, (if sNl s = 0 then (fun _ => 0) else sLev s), s.2.2.2.2)
theorem tx_nl (s : ww_S) : sNl (tx_s1 s) = if sNl s = 0 then 1 else sNl s := rfl
theorem tx_lev (s : ww_S) : sLev (tx_s1 s) = if sNl s = 0 then (fun _ => 0) else sLev s := rfl
theorem tx_okS {s : ww_S} {d : ww_D1} (hok : dr_ok s d) (h6 : bd_6 s) (h7 : bd_7 s) : ww_okS (tx_s1 s) := by
  have hd := bd_7_dis h7 hok
  obtain ⟨⟨o1, o2, o3⟩, o4, o5, o6, o7, o8, o9⟩ := hok
  refine ⟨o1, ?_, ?_, o3, fun j hj => ?_, fun b hb => ⟨(o5 b hb).1, (o5 b hb).2.1, h6 b hb⟩, hd⟩
  · rw [tx_nl]; split <;> omega
  · rw [tx_nl]; split <;> omega
  · rw [tx_nl] at hj
    rw [tx_lev]
    by_cases e : sNl s = 0
    · rw [if_pos e]; exact Nat.zero_le _
    · rw [if_neg e] at hj ⊢; exact o4 j hj
theorem tx_okD {s : ww_S} {d : ww_D1} (hok : dr_ok s d) : ww_okD (tx_s1 s) d := by
  obtain ⟨⟨o1, o2, o3⟩, o4, o5, ⟨p1, p2, p3, p4, p5, p6⟩, o7, o8, o9⟩ := hok
  exact ⟨p1, p2, p3, p4, p5, by omega, o7, o8, fun b _ => o9 b⟩
theorem tx_C1 {σ τ : ww_M} {s : ww_S} {d : ww_D1} {B : Nat → Bool} (hC : dr_C σ s d B) (h14 : τ 14 = upd (σ 14) 10 (nI (if sNl s = 0 then 1 else sNl s))) (he : ∀ a, 15 ≤ a → a < 24 → τ a = σ a) : ww_ClsA τ 14 (tx_s1 s) d := by
  obtain ⟨⟨⟨c1, c2, c3⟩, ⟨c4, c5, c6, c7, c8⟩, c9, c10, c11, c12, c13⟩, -, h17⟩ := hC
  unfold ww_ClsA
  rw [h14, show τ (14 + 1) = _ from he 15 (by omega) (by omega), show τ (14 + 2) = _ from he 16 (by omega) (by omega), show τ (14 + 3) = _ from he 17 (by omega) (by omega), show τ (14 + 4) = _ from he 18 (by omega) (by omega), show τ (14 + 5) = _ from he 19 (by omega) (by omega), show τ (14 + 6) = _ from he 20 (by omega) (by omega), show τ (14 + 7) = _ from he 21 (by omega) (by omega), show τ (14 + 8) = _ from he 22 (by omega) (by omega), show τ (14 + 9) = _ from he 23 (by omega) (by omega)]
  refine ⟨⟨by rw [pk_un (by decide)]; exact c1, by rw [pk_us, tx_nl], by rw [pk_un (by decide)]; exact c3⟩, ⟨by rw [pk_un (by decide)]; exact c4, by rw [pk_un (by decide)]; exact c5, by rw [pk_un (by decide)]; exact c6, by rw [pk_un (by decide)]; exact c7, by rw [pk_un (by decide)]; exact c8⟩, c9, fun j hj => ?_, c11, c12, c13⟩
  rw [tx_nl] at hj
  rw [tx_lev]
  by_cases e : sNl s = 0
  · rw [if_pos e] at hj ⊢
    have : j = 0 := by omega
    subst this
    exact h17 e
  · rw [if_neg e] at hj ⊢; exact c10 j hj
/-- what the class answers to a text -/
def tx_K (σ σ1 : ww_M) : Prop := ∀ a, 24 ≤ a → a ≠ 45 → σ1 a = σ a
def tx_cB (σ : ww_M) (v : Int32) (σ1 : ww_M) (f at' : Nat) : Prop := v = -10 - nI at' ∧ σ1 3 0 = nI f ∧ σ1 1 1 = 0 ∧ ∀ a, a ≠ 1 → a ≠ 3 → (a < 14 ∨ 24 ≤ a) → σ1 a = σ a
def tx_cG (σ : ww_M) (v : Int32) (σ1 : ww_M) (l : Int32) (s : ww_S) (d : ww_D1) : Prop := v = l ∧ ww_ClsA σ1 4 (tx_s1 s) (ww_lose (tx_s1 s) d (dHr d)) ∧ σ1 3 0 = 0 ∧ σ1 1 1 = 0 ∧ (σ1 45 2 = 0 ∧ σ1 0 5 = 0) ∧ (∀ j, j ≠ 2 → σ1 45 j = σ 45 j) ∧ (∀ j, j ≠ 5 → σ1 0 j = σ 0 j) ∧ ∀ a, a ≠ 0 → a ≠ 1 → a ≠ 3 → a ≠ 45 → (a < 4 ∨ 24 ≤ a) → σ1 a = σ a
theorem tx_76 {τ : ww_M} {x : Int32} : ∃ τ2, f_X5_tellAll_j76 τ 3 1 14 x = some (x, τ2) ∧ (τ2 = if τ 14 10 = 0 then ww_up τ 14 10 1 else τ) ∧ ∀ a, a ≠ 14 → τ2 a = τ a := by
  unfold f_X5_tellAll_j76
  by_cases e : τ 14 10 = 0
  · rw [if_pos e]; exact ⟨_, rfl, by rw [if_pos e], fun a ha => ww_up_ne ha⟩
  · rw [if_neg e]; exact ⟨_, rfl, by rw [if_neg e], fun a _ => rfl⟩
theorem tx_cls_bad {σ σ0 τ : ww_M} {l : Int32} {f at' : Nat} (h0 : f_X5_tellAll σ 3 1 14 = f_X5_tellAll_j30 σ0 3 1 14 0) (hr : ww_it (f_X5_tellAll_b30 3 1 14) ww_F (0, σ0) = some (l, τ)) (hf : 1 ≤ f ∧ f ≤ 5) (e30 : τ 3 0 = nI f) (e31 : τ 3 1 = nI at') (hfr : fr_C σ τ) : ∃ v σ1, f_X6_text σ = some (v, σ1) ∧ tx_cB σ v σ1 f at' := by
  obtain ⟨τ2, b1, -, b3⟩ := tx_76 (τ := τ) (x := l)
  have n0 : ¬ nI f = 0 := by rw [show (0 : Int32) = nI 0 from rfl, n_eq (by omega) (by omega)]; omega
  have u30 : ww_up τ2 1 1 0 3 0 = nI f := by rw [ww_up_ne (by omega), b3 3 (by omega)]; exact e30
  have u31 : ww_up τ2 1 1 0 3 1 = nI at' := by rw [ww_up_ne (by omega), b3 3 (by omega)]; exact e31
  refine ⟨-10 - nI at', ww_up τ2 1 1 0, ?_, rfl, u30, by rw [ww_up_eq, pk_us], fun a z1 z2 z3 => by rw [ww_up_ne z1, b3 a (by omega)]; exact hfr.1 a z1 z2 z3⟩
  unfold f_X6_text
  rw [h0]
  unfold f_X5_tellAll_j30
  rw [hr]
  simp only [Option.bind_some]
  unfold f_X5_tellAll_j63
  rw [if_neg (by rw [e30]; exact n0), b1]
  simp only [Option.bind_some]
  rw [if_neg (by rw [u30]; exact n0), u31]
theorem tx_cls_good {σ σ0 τ : ww_M} {l : Int32} {n : Nat} {s : ww_S} {d : ww_D1} {B : Nat → Bool} (h0 : f_X5_tellAll σ 3 1 14 = f_X5_tellAll_j30 σ0 3 1 14 0) (hr : ww_it (f_X5_tellAll_b30 3 1 14) ww_F (0, σ0) = some (l, τ)) (hC : dr_C τ s d B) (hok : dr_ok s d) (h11 : τ 1 1 = nI n) (hfr : fr_C σ τ) : ∃ v σ1, f_X6_text σ = some (v, σ1) ∧ ((bd_6 s → bd_7 s → tx_cG σ v σ1 l s d) ∧ (¬ bd_6 s → tx_cB σ v σ1 6 n) ∧ (bd_6 s → ¬ bd_7 s → tx_cB σ v σ1 7 n)) ∧ tx_K σ σ1 := by
  have e30 : τ 3 0 = 0 := hC.2.1.1
  obtain ⟨f, τ', c1, c2⟩ := sp_check hC hok h11
  obtain ⟨τ2, b1, b2, b3⟩ := tx_76 (τ := τ') (x := l)
  have htx : f_X6_text σ = (if ((ww_up τ2 1 1 0) 3 0) = 0 then (f_X2_copyFrom (ww_up τ2 1 1 0) 4 14).bind (fun v53 => (f_X2_loseFloating v53 4).bind (fun v60 => some (l, ww_up (ww_up v60 45 2 0) 0 5 0))) else some ((-10) - ((ww_up τ2 1 1 0) 3 1), ww_up τ2 1 1 0)) := by
    unfold f_X6_text
    rw [h0]
    unfold f_X5_tellAll_j30
    rw [hr]
    simp only [Option.bind_some]
    unfold f_X5_tellAll_j63
    rw [if_pos e30, c1]
    simp only [Option.bind_some]
    rw [b1]
    rfl
  have bad : ∀ g : Nat, 1 ≤ g → g < 100 → τ' = ww_up (ww_up τ 3 0 (nI g)) 3 1 (nI n) → ∃ v σ1, f_X6_text σ = some (v, σ1) ∧ tx_cB σ v σ1 g n := fun g g1 g2 e => by
    have u30 : ww_up τ2 1 1 0 3 0 = nI g := by rw [ww_up_ne (by omega), b3 3 (by omega), e]; simp (disch := omega) only [ww_up_ne, ww_up_eq, ww_upr_ne, ww_upr_eq, ww_fill_ne, ww_fill_eq, ww_cpy_ne, ww_cpy_eq, pk_us, pk_un, ne_eq, not_false_eq_true]
    have u31 : ww_up τ2 1 1 0 3 1 = nI n := by rw [ww_up_ne (by omega), b3 3 (by omega), e]; simp (disch := omega) only [ww_up_ne, ww_up_eq, ww_upr_ne, ww_upr_eq, ww_fill_ne, ww_fill_eq, ww_cpy_ne, ww_cpy_eq, pk_us, pk_un, ne_eq, not_false_eq_true]
    refine ⟨-10 - nI n, ww_up τ2 1 1 0, ?_, rfl, u30, by rw [ww_up_eq, pk_us], fun a z1 z2 z3 => by rw [ww_up_ne z1, b3 a (by omega), e, ww_up_ne z2, ww_up_ne z2]; exact hfr.1 a z1 z2 z3⟩
    rw [htx, if_neg (by rw [u30, show (0 : Int32) = nI 0 from rfl, n_eq (by omega) (by omega)]; omega), u31]
  rcases c2 with ⟨-, q6, q7, e⟩ | ⟨-, q6, e⟩ | ⟨-, q6, q7, e⟩
  · subst e
    have e10 : τ' 14 10 = nI (sNl s) := hC.1.1.2.1
    have hnl := hok.1.2.1
    have t14 : τ2 14 = upd (τ' 14) 10 (nI (if sNl s = 0 then 1 else sNl s)) := by
      rw [b2]
      by_cases z : sNl s = 0
      · rw [if_pos (by rw [e10, z]; rfl), ww_up_eq, if_pos z]; rfl
      · rw [if_neg (by rw [e10, show (0 : Int32) = nI 0 from rfl, n_eq (by omega) (by omega)]; exact z), if_neg z, fa_upd_same e10]
    have hS := tx_okS hok q6 q7
    have hDk := tx_okD hok
    have hC14 : ww_ClsA (ww_up τ2 1 1 0) 14 (tx_s1 s) d := ww_ClsA_ext (tx_C1 hC t14 (fun a z1 z2 => b3 a (by omega))) (fun a z1 z2 => ww_up_ne (by omega))
    have hC4 := ww_cp_cls (o0 := 4) (o1 := 14) hS (by omega) hC14
    obtain ⟨τ3, l1, l2, l3⟩ := sp_lose hS hDk hC4
    have u : ∀ a, a ≠ 1 → (a < 4 ∨ 24 ≤ a) → τ3 a = τ' a := fun a z1 z2 => by
      rw [l3 a (by omega), ww_cp_ne (by omega), ww_up_ne z1, b3 a (by omega)]
    have hres : f_X6_text σ = some (l, ww_up (ww_up τ3 45 2 0) 0 5 0) := by
      rw [htx, if_pos (by rw [ww_up_ne (by omega), b3 3 (by omega)]; exact e30), ww_copyFrom]
      simp only [Option.bind_some]
      rw [l1]
      rfl
    refine ⟨_, _, hres, ⟨fun _ _ => ⟨rfl, ww_ClsA_ext l2 (fun a z1 z2 => by rw [ww_up_ne (by omega), ww_up_ne (by omega)]), ?_, ?_, ⟨?_, ?_⟩, fun j hj => ?_, fun j hj => ?_, fun a z0 z1 z3 z45 zz => ?_⟩, fun z => absurd q6 z, fun _ z => absurd q7 z⟩, fun a z1 z2 => ?_⟩
    · rw [ww_up_ne (by omega), ww_up_ne (by omega), u 3 (by omega) (by omega)]; exact e30
    · rw [ww_up_ne (by omega), ww_up_ne (by omega), l3 1 (by omega), ww_cp_ne (by omega), ww_up_eq, pk_us]
    · rw [ww_up_ne (by omega), ww_up_eq, pk_us]
    · rw [ww_up_eq, pk_us]
    · rw [ww_up_ne (by omega), ww_up_eq, pk_un hj, u 45 (by omega) (by omega), hfr.1 45 (by omega) (by omega) (by omega)]
    · rw [ww_up_eq, pk_un hj, ww_up_ne (by omega), u 0 (by omega) (by omega), hfr.1 0 (by omega) (by omega) (by omega)]
    · rw [ww_up_ne z0, ww_up_ne z45, u a z1 zz, hfr.1 a z1 z3 (by omega)]
    · rw [ww_up_ne (by omega), ww_up_ne z2, u a (by omega) (by omega), hfr.1 a (by omega) (by omega) (by omega)]
  · obtain ⟨v, σ1, w1, w2⟩ := bad 6 (by omega) (by omega) e
    exact ⟨v, σ1, w1, ⟨fun z => absurd z q6, fun _ => w2, fun z => absurd z q6⟩, fun a z1 z2 => w2.2.2.2 a (by omega) (by omega) (by omega)⟩
  · obtain ⟨v, σ1, w1, w2⟩ := bad 7 (by omega) (by omega) e
    exact ⟨v, σ1, w1, ⟨fun _ z => absurd z q7, fun z => absurd q6 z, fun _ _ => w2⟩, fun a z1 z2 => w2.2.2.2 a (by omega) (by omega) (by omega)⟩
/-! the model -/
theorem tx_copy {ν : ww_M} {nl : Nat} {x1 : Int32} (h10 : ν 62 10 = nI nl) (hnl : nl ≤ 6) : ∃ κ, ww_it (f_X7_text_b115 62 x1) ww_F (0, ν) = some κ ∧ (∀ j, j < 50 → κ 63 j = ν 66 j) ∧ (∀ j, 50 ≤ j → κ 63 j = ν 63 j) ∧ (∀ j, j < 6 → κ 65 j = ν 68 j ∧ κ 64 j = if j < nl then ν 67 j else 0) ∧ ∀ a, a ≠ 63 → a ≠ 64 → a ≠ 65 → κ a = ν a := by
  have key := ww_it_inv (f := f_X7_text_b115 62 x1) (x0 := (0, ν)) (fun k x => x.1 = nI k ∧ (∀ j, j < k → x.2 63 j = ν 66 j) ∧ (∀ j, k ≤ j → x.2 63 j = ν 63 j) ∧ (∀ j, j < 6 → j < k → x.2 65 j = ν 68 j ∧ x.2 64 j = if j < nl then ν 67 j else 0) ∧ ∀ a, a ≠ 63 → a ≠ 64 → a ≠ 65 → x.2 a = ν a) (fun κ => (∀ j, j < 50 → κ 63 j = ν 66 j) ∧ (∀ j, 50 ≤ j → κ 63 j = ν 63 j) ∧ (∀ j, j < 6 → κ 65 j = ν 68 j ∧ κ 64 j = if j < nl then ν 67 j else 0) ∧ ∀ a, a ≠ 63 → a ≠ 64 → a ≠ 65 → κ a = ν a) 50 (by omega) ⟨rfl, fun j hj => absurd hj (Nat.not_lt_zero j), fun j _ => rfl, fun j _ hj => absurd hj (Nat.not_lt_zero j), fun a _ _ _ => rfl⟩ (fun k hk x hx => ?_) (fun x hx => ?_)
  · exact key
  · obtain ⟨x0, κ⟩ := x
    dsimp only at hx
    obtain ⟨rfl, k1, k2, k3, k4⟩ := hx
    have hm : k % 6 < 6 := Nat.mod_lt _ (by omega)
    refine Or.inl ⟨(nI (k + 1), ww_up (ww_up (ww_up κ 63 k (ν 66 k)) 65 (k % 6) (ν 68 (k % 6))) 64 (k % 6) (if k % 6 < nl then ν 67 (k % 6) else 0)), ?_, rfl, fun j hj => ?_, fun j hj => ?_, fun j j6 hj => ?_, fun a z1 z2 z3 => ?_⟩
    · have e66 : κ 66 k = ν 66 k := by rw [k4 66 (by omega) (by omega) (by omega)]
      have e68 : κ 68 (k % 6) = ν 68 (k % 6) := by rw [k4 68 (by omega) (by omega) (by omega)]
      have e67 : κ 67 (k % 6) = ν 67 (k % 6) := by rw [k4 67 (by omega) (by omega) (by omega)]
      have e10 : κ 62 10 = nI nl := by rw [k4 62 (by omega) (by omega) (by omega)]; exact h10
      unfold f_X7_text_b115
      simp only [show (62 + 1 : Nat) = 63 from rfl, show (62 + 2 : Nat) = 64 from rfl, show (62 + 3 : Nat) = 65 from rfl, show (62 + 4 : Nat) = 66 from rfl, show (62 + 5 : Nat) = 67 from rfl, show (62 + 6 : Nat) = 68 from rfl]
      simp (disch := omega) only [n_lit, n_le, n_lt, n_eq, n_in, n_ckt, n_ix, n_mul, n_add, n_sub, n_div, n_rem, n_b01, n_isb, n_lt0, n_le0, Option.bind_some, if_pos, if_neg, ge_iff_le, gt_iff_lt, Nat.zero_add, Nat.add_zero, n_neg1, n_neg4, if_true, if_false, ite_true, ite_false, n_land1, not_true_eq_false, not_false_eq_true]
      simp (disch := omega) only [ww_up_ne, ww_up_eq, ww_upr_ne, ww_upr_eq, ww_fill_ne, ww_fill_eq, ww_cpy_ne, ww_cpy_eq, pk_us, pk_un, ne_eq, not_false_eq_true, e66, e68, e67, e10]
      by_cases q : k % 6 < nl
      · rw [if_neg (by rw [n_le (by omega) (by omega)]; omega), if_pos q]
      · rw [if_pos (nI_le (by omega) (by omega)), if_neg q]
    · dsimp only
      rw [ww_up_ne (by omega), ww_up_ne (by omega), ww_up_eq]
      by_cases e : j = k
      · rw [e, pk_us]
      · rw [pk_un e]; exact k1 j (by omega)
    · dsimp only
      rw [ww_up_ne (by omega), ww_up_ne (by omega), ww_up_eq, pk_un (by omega)]; exact k2 j (by omega)
    · show ww_up (ww_up (ww_up κ 63 k (ν 66 k)) 65 (k % 6) (ν 68 (k % 6))) 64 (k % 6) (if k % 6 < nl then ν 67 (k % 6) else 0) 65 j = _ ∧ ww_up (ww_up (ww_up κ 63 k (ν 66 k)) 65 (k % 6) (ν 68 (k % 6))) 64 (k % 6) (if k % 6 < nl then ν 67 (k % 6) else 0) 64 j = _
      rw [ww_up_ne (show (65 : Nat) ≠ 64 by omega), ww_up_eq, ww_up_eq]
      by_cases e : j = k % 6
      · rw [e, pk_us, pk_us]; exact ⟨rfl, rfl⟩
      · rw [pk_un e, pk_un e, ww_up_ne (show (63 : Nat) + 2 ≠ 63 by omega), ww_up_ne (by omega), ww_up_ne (by omega)]
        exact k3 j j6 (by omega)
    · dsimp only
      rw [ww_up_ne z2, ww_up_ne z3, ww_up_ne z1]; exact k4 a z1 z2 z3
  · obtain ⟨x0, κ⟩ := x
    dsimp only at hx
    obtain ⟨rfl, k1, k2, k3, k4⟩ := hx
    refine ⟨κ, ?_, k1, k2, fun j hj => k3 j hj (by omega), k4⟩
    unfold f_X7_text_b115
    simp (disch := omega) only [n_lit, n_le, n_lt, n_eq, n_in, n_ckt, n_ix, n_mul, n_add, n_sub, n_div, n_rem, n_b01, n_isb, n_lt0, n_le0, Option.bind_some, if_pos, if_neg, ge_iff_le, gt_iff_lt, Nat.zero_add, Nat.add_zero, n_neg1, n_neg4, if_true, if_false, ite_true, ite_false, n_land1, not_true_eq_false, not_false_eq_true]
def tx_mB (μ : ww_M) (v : Int32) (ν : ww_M) (f at' : Nat) : Prop := v = -10 - nI at' ∧ ν 62 15 = nI f ∧ ν 62 14 = 0 ∧ (∀ j, j ≤ 8 ∨ j = 13 ∨ 21 < j → ν 62 j = μ 62 j) ∧ ∀ a, a ≠ 62 → a ≠ 66 → a ≠ 67 → a ≠ 68 → ν a = μ a
def tx_mG (μ : ww_M) (v : Int32) (ν : ww_M) (l : Int32) (s : ww_S) (d : ww_D1) : Prop := v = l ∧ ww_MS ν (tx_s1 s) ∧ ww_ModD (ν 63) 0 (tx_s1 s) (ww_lose (tx_s1 s) d (dHr d)) ∧ ν 62 15 = 0 ∧ ν 62 14 = 0 ∧ ν 62 30 = 0 ∧ ν 62 35 = μ 62 35 ∧ (ν 76 0 = 0 ∧ ν 76 1 = 0) ∧ ∀ a, a < 62 ∨ 69 ≤ a → a ≠ 76 → ν a = μ a
theorem tx_j81B {μ ν : ww_M} {l : Int32} {f at' : Nat} (hl : f_X7_looksWhere μ 62 = some ν) (h1 : 1 ≤ f) (h2 : f < 100) (h16 : ν 62 16 = nI f) (h17 : ν 62 17 = nI at') : f_X7_text_j81 μ 62 l = some (-10 - nI at', ww_up (ww_up ν 62 14 0) 62 15 (nI f)) := by
  unfold f_X7_text_j81
  rw [hl]
  simp only [Option.bind_some]
  have e16 : ww_up ν 62 14 0 62 16 = nI f := by simp (disch := omega) only [ww_up_ne, ww_up_eq, ww_upr_ne, ww_upr_eq, ww_fill_ne, ww_fill_eq, ww_cpy_ne, ww_cpy_eq, pk_us, pk_un, ne_eq, not_false_eq_true]; exact h16
  rw [e16]
  have e16' : ww_up (ww_up ν 62 14 0) 62 15 (nI f) 62 16 = nI f := by simp (disch := omega) only [ww_up_ne, ww_up_eq, ww_upr_ne, ww_upr_eq, ww_fill_ne, ww_fill_eq, ww_cpy_ne, ww_cpy_eq, pk_us, pk_un, ne_eq, not_false_eq_true]; exact h16
  have e17' : ww_up (ww_up ν 62 14 0) 62 15 (nI f) 62 17 = nI at' := by simp (disch := omega) only [ww_up_ne, ww_up_eq, ww_upr_ne, ww_upr_eq, ww_fill_ne, ww_fill_eq, ww_cpy_ne, ww_cpy_eq, pk_us, pk_un, ne_eq, not_false_eq_true]; exact h17
  rw [if_neg (by rw [e16', show (0 : Int32) = nI 0 from rfl, n_le (by omega) (by omega)]; omega), e17']
theorem tx_mod_bad {μ M : ww_M} {l : Int32} {f at' nb : Nat} (hfr : fr_M M μ) (hf : 1 ≤ f ∧ f ≤ 5) (h16 : μ 62 16 = nI f) (h17 : μ 62 17 = nI at') (h11 : μ 62 11 = nI nb) (hnb : nb ≤ 3) : ∃ v ν, f_X7_text_j81 μ 62 l = some (v, ν) ∧ tx_mB M v ν f at' := by
  refine ⟨_, _, tx_j81B (sm_looks_br h16 hf.1 (by omega) h11 hnb) hf.1 (by omega) h16 h17, rfl, by simp (disch := omega) only [ww_up_ne, ww_up_eq, ww_upr_ne, ww_upr_eq, ww_fill_ne, ww_fill_eq, ww_cpy_ne, ww_cpy_eq, pk_us, pk_un, ne_eq, not_false_eq_true], by simp (disch := omega) only [ww_up_ne, ww_up_eq, ww_upr_ne, ww_upr_eq, ww_fill_ne, ww_fill_eq, ww_cpy_ne, ww_cpy_eq, pk_us, pk_un, ne_eq, not_false_eq_true], fun j hj => ?_, fun a z1 z2 z3 z4 => ?_⟩
  · simp (disch := omega) only [ww_up_ne, ww_up_eq, ww_upr_ne, ww_upr_eq, ww_fill_ne, ww_fill_eq, ww_cpy_ne, ww_cpy_eq, pk_us, pk_un, ne_eq, not_false_eq_true]; exact hfr.2 j (by omega)
  · rw [ww_up_ne z1, ww_up_ne z1]; exact hfr.1 a z1 z2 z3 z4
theorem tx_mod_good {μ M : ww_M} {l : Int32} {n : Nat} {s : ww_S} {d : ww_D1} {B : Nat → Bool} (hfr : fr_M M μ) (hD : dr_M μ s d B) (hok : dr_ok s d) (h16 : μ 62 16 = 0) (h19 : μ 62 19 = nI n) (h50 : ∀ j, 50 ≤ j → True) : ∃ v ν, f_X7_text_j81 μ 62 l = some (v, ν) ∧ ((bd_6 s → bd_7 s → tx_mG M v ν l s d) ∧ (¬ bd_6 s → tx_mB M v ν 6 n) ∧ (bd_6 s → ¬ bd_7 s → tx_mB M v ν 7 n)) := by
  obtain ⟨ν, l1, l2, l3, l4⟩ := sm_looks hD hok h16 h19
  have bad : ∀ g : Nat, 1 ≤ g → g < 100 → ν = ww_up (ww_up μ 62 16 (nI g)) 62 17 (nI n) → ∃ v κ, f_X7_text_j81 μ 62 l = some (v, κ) ∧ tx_mB M v κ g n := fun g g1 g2 e => by
    refine ⟨_, _, tx_j81B l1 g1 g2 (by rw [e]; simp (disch := omega) only [ww_up_ne, ww_up_eq, ww_upr_ne, ww_upr_eq, ww_fill_ne, ww_fill_eq, ww_cpy_ne, ww_cpy_eq, pk_us, pk_un, ne_eq, not_false_eq_true]) (by rw [e]; simp (disch := omega) only [ww_up_ne, ww_up_eq, ww_upr_ne, ww_upr_eq, ww_fill_ne, ww_fill_eq, ww_cpy_ne, ww_cpy_eq, pk_us, pk_un, ne_eq, not_false_eq_true]), rfl, by simp (disch := omega) only [ww_up_ne, ww_up_eq, ww_upr_ne, ww_upr_eq, ww_fill_ne, ww_fill_eq, ww_cpy_ne, ww_cpy_eq, pk_us, pk_un, ne_eq, not_false_eq_true], by simp (disch := omega) only [ww_up_ne, ww_up_eq, ww_upr_ne, ww_upr_eq, ww_fill_ne, ww_fill_eq, ww_cpy_ne, ww_cpy_eq, pk_us, pk_un, ne_eq, not_false_eq_true], fun j hj => ?_, fun a z1 z2 z3 z4 => ?_⟩
    · rw [e]; simp (disch := omega) only [ww_up_ne, ww_up_eq, ww_upr_ne, ww_upr_eq, ww_fill_ne, ww_fill_eq, ww_cpy_ne, ww_cpy_eq, pk_us, pk_un, ne_eq, not_false_eq_true]; exact hfr.2 j (by omega)
    · rw [ww_up_ne z1, ww_up_ne z1, e, ww_up_ne z1, ww_up_ne z1]; exact hfr.1 a z1 z2 z3 z4
  by_cases q6 : bd_6 s
  · by_cases q7 : bd_7 s
    · have e := l2 q6 q7
      subst e
      obtain ⟨⟨e9, e10, e11⟩, hMd, hlev, hbst, -⟩ := hD
      have hnl := hok.1.2.1
      have hnb := hok.1.2.2
      obtain ⟨X, hX⟩ : ∃ X, X = ww_up (ww_up ν 62 14 0) 62 15 0 := ⟨_, rfl⟩
      have x62 : ∀ j, j ≠ 14 → j ≠ 15 → X 62 j = ν 62 j := fun j z1 z2 => by rw [hX, ww_up_eq, pk_un z2, ww_up_eq, pk_un z1]
      have xa : ∀ a, a ≠ 62 → X a = ν a := fun a z => by rw [hX, ww_up_ne z, ww_up_ne z]
      obtain ⟨κ, c1, c2, c3, c4, c5⟩ := tx_copy (ν := X) (x1 := l) (by rw [x62 10 (by omega) (by omega)]; exact e10) hnl
      have hS := tx_okS hok q6 q7
      have hDk := tx_okD hok
      obtain ⟨Y, hY⟩ : ∃ Y, Y = ww_up (ww_up (ww_up (ww_up (ww_up (ww_up κ 62 3 (nI (sNp s))) 62 2 (nI (if sNl s = 0 then 1 else sNl s))) 62 5 (nI (sNb s))) 62 30 0) 76 0 0) 76 1 0 := ⟨_, rfl⟩
      have k62 : κ 62 = X 62 := c5 62 (by omega) (by omega) (by omega)
      have hMS : ww_MS Y (tx_s1 s) := by
        unfold ww_MS
        refine ⟨?_, ?_, ?_, fun j hj => ?_, fun b hb => ?_⟩
        · rw [hY]; simp (disch := omega) only [ww_up_ne, ww_up_eq, ww_upr_ne, ww_upr_eq, ww_fill_ne, ww_fill_eq, ww_cpy_ne, ww_cpy_eq, pk_us, pk_un, ne_eq, not_false_eq_true]; rfl
        · rw [hY]; simp (disch := omega) only [ww_up_ne, ww_up_eq, ww_upr_ne, ww_upr_eq, ww_fill_ne, ww_fill_eq, ww_cpy_ne, ww_cpy_eq, pk_us, pk_un, ne_eq, not_false_eq_true]; rw [tx_nl]
        · rw [hY]; simp (disch := omega) only [ww_up_ne, ww_up_eq, ww_upr_ne, ww_upr_eq, ww_fill_ne, ww_fill_eq, ww_cpy_ne, ww_cpy_eq, pk_us, pk_un, ne_eq, not_false_eq_true]; rfl
        · rw [hY]; simp (disch := omega) only [ww_up_ne, ww_up_eq, ww_upr_ne, ww_upr_eq, ww_fill_ne, ww_fill_eq, ww_cpy_ne, ww_cpy_eq, pk_us, pk_un, ne_eq, not_false_eq_true]
          rw [tx_nl] at hj
          rw [tx_lev]
          have hj6 : j < 6 := by
            by_cases z : sNl s = 0
            · rw [if_pos z] at hj; omega
            · rw [if_neg z] at hj; omega
          rw [(c4 j hj6).2]
          by_cases z : sNl s = 0
          · rw [if_pos z, if_neg (by omega)]; rfl
          · rw [if_neg z] at hj
            rw [if_neg z, if_pos hj, xa 67 (by omega)]; exact hlev j hj
        · have hb' : b < sNb s := hb
          rw [hY]; simp (disch := omega) only [ww_up_ne, ww_up_eq, ww_upr_ne, ww_upr_eq, ww_fill_ne, ww_fill_eq, ww_cpy_ne, ww_cpy_eq, pk_us, pk_un, ne_eq, not_false_eq_true]
          rw [(c4 (2 * b) (by omega)).1, (c4 (2 * b + 1) (by omega)).1, xa 68 (by omega)]; exact hbst b hb'
      have hMdY : ww_ModD (Y 63) 0 (tx_s1 s) d := by
        have h0 : ww_ModD (ν 66) 0 (tx_s1 s) d := hMd
        refine ww_ModD_ext hS h0 (fun j z1 z2 => ?_)
        rw [hY]; simp (disch := omega) only [ww_up_ne, ww_up_eq, ww_upr_ne, ww_upr_eq, ww_fill_ne, ww_fill_eq, ww_cpy_ne, ww_cpy_eq, pk_us, pk_un, ne_eq, not_false_eq_true]
        rw [c2 j (by omega), xa 66 (by omega)]
      obtain ⟨Z, f1, f2, f3, f4⟩ := sm_floatsNow hS hDk hMS hMdY
      have hres : f_X7_text_j81 ν 62 l = some (l, Z) := by
        unfold f_X7_text_j81
        rw [l1]
        simp only [Option.bind_some]
        rw [show ww_up ν 62 14 0 62 16 = 0 by simp (disch := omega) only [ww_up_ne, ww_up_eq, ww_upr_ne, ww_upr_eq, ww_fill_ne, ww_fill_eq, ww_cpy_ne, ww_cpy_eq, pk_us, pk_un, ne_eq, not_false_eq_true]; exact h16, ← hX, if_pos (show X 62 16 ≤ 0 by rw [x62 16 (by omega) (by omega), h16]; decide)]
        unfold f_X7_text_j115
        rw [c1]
        simp only [Option.bind_some]
        unfold f_X7_text_j190
        have g9 : κ 62 9 = nI (sNp s) := by rw [k62, x62 9 (by omega) (by omega)]; exact e9
        have g10 : ww_up κ 62 3 (nI (sNp s)) 62 10 = nI (sNl s) := by simp (disch := omega) only [ww_up_ne, ww_up_eq, ww_upr_ne, ww_upr_eq, ww_fill_ne, ww_fill_eq, ww_cpy_ne, ww_cpy_eq, pk_us, pk_un, ne_eq, not_false_eq_true]; rw [k62, x62 10 (by omega) (by omega)]; exact e10
        have g11 : ∀ v, ww_up (ww_up κ 62 3 (nI (sNp s))) 62 2 v 62 11 = nI (sNb s) := fun v => by simp (disch := omega) only [ww_up_ne, ww_up_eq, ww_upr_ne, ww_upr_eq, ww_fill_ne, ww_fill_eq, ww_cpy_ne, ww_cpy_eq, pk_us, pk_un, ne_eq, not_false_eq_true]; rw [k62, x62 11 (by omega) (by omega)]; exact e11
        rw [g9, g10]
        have h215 : f_X7_text_j215 (ww_up κ 62 3 (nI (sNp s))) 62 l (nI (if sNl s = 0 then 1 else sNl s)) = some (l, Z) := by
          unfold f_X7_text_j215
          rw [g11, show (62 + 14 : Nat) = 76 from rfl, show vp_nar .boolean 0 = (0 : Int32) from rfl, ← hY, f1]
          rfl
        by_cases z : sNl s = 0
        · rw [if_pos z] at h215
          rw [if_neg (show ¬ (1 : Int32) ≤ nI (sNl s) by rw [z]; decide)]
          exact h215
        · rw [if_neg z] at h215
          rw [if_pos (show (1 : Int32) ≤ nI (sNl s) from nI_le (a := 1) (by omega) (by omega))]
          exact h215
      refine ⟨l, Z, hres, fun _ _ => ⟨rfl, ?_, f2, ?_, ?_, ?_, ?_, ⟨?_, ?_⟩, fun a z1 z2 => ?_⟩, fun z => absurd q6 z, fun _ z => absurd q7 z⟩
      · unfold ww_MS
        rw [f3 62 (by omega), f3 64 (by omega), f3 65 (by omega)]; exact hMS
      · rw [f3 62 (by omega), hY]; simp (disch := omega) only [ww_up_ne, ww_up_eq, ww_upr_ne, ww_upr_eq, ww_fill_ne, ww_fill_eq, ww_cpy_ne, ww_cpy_eq, pk_us, pk_un, ne_eq, not_false_eq_true]; rw [k62, hX]; simp (disch := omega) only [ww_up_ne, ww_up_eq, ww_upr_ne, ww_upr_eq, ww_fill_ne, ww_fill_eq, ww_cpy_ne, ww_cpy_eq, pk_us, pk_un, ne_eq, not_false_eq_true]
      · rw [f3 62 (by omega), hY]; simp (disch := omega) only [ww_up_ne, ww_up_eq, ww_upr_ne, ww_upr_eq, ww_fill_ne, ww_fill_eq, ww_cpy_ne, ww_cpy_eq, pk_us, pk_un, ne_eq, not_false_eq_true]; rw [k62, hX]; simp (disch := omega) only [ww_up_ne, ww_up_eq, ww_upr_ne, ww_upr_eq, ww_fill_ne, ww_fill_eq, ww_cpy_ne, ww_cpy_eq, pk_us, pk_un, ne_eq, not_false_eq_true]
      · rw [f3 62 (by omega), hY]; simp (disch := omega) only [ww_up_ne, ww_up_eq, ww_upr_ne, ww_upr_eq, ww_fill_ne, ww_fill_eq, ww_cpy_ne, ww_cpy_eq, pk_us, pk_un, ne_eq, not_false_eq_true]
      · rw [f3 62 (by omega), hY]; simp (disch := omega) only [ww_up_ne, ww_up_eq, ww_upr_ne, ww_upr_eq, ww_fill_ne, ww_fill_eq, ww_cpy_ne, ww_cpy_eq, pk_us, pk_un, ne_eq, not_false_eq_true]; rw [k62, x62 35 (by omega) (by omega)]; exact hfr.2 35 (by omega)
      · rw [f3 76 (by omega), hY]; simp (disch := omega) only [ww_up_ne, ww_up_eq, ww_upr_ne, ww_upr_eq, ww_fill_ne, ww_fill_eq, ww_cpy_ne, ww_cpy_eq, pk_us, pk_un, ne_eq, not_false_eq_true]
      · rw [f3 76 (by omega), hY]; simp (disch := omega) only [ww_up_ne, ww_up_eq, ww_upr_ne, ww_upr_eq, ww_fill_ne, ww_fill_eq, ww_cpy_ne, ww_cpy_eq, pk_us, pk_un, ne_eq, not_false_eq_true]
      · rw [f3 a (by omega), hY, ww_up_ne z2, ww_up_ne z2, ww_up_ne (by omega), ww_up_ne (by omega), ww_up_ne (by omega), ww_up_ne (by omega), c5 a (by omega) (by omega) (by omega), xa a (by omega)]
        exact hfr.1 a (by omega) (by omega) (by omega) (by omega)
    · obtain ⟨v, κ, w1, w2⟩ := bad 7 (by omega) (by omega) (l4 q6 q7)
      exact ⟨v, κ, w1, fun _ z => absurd z q7, fun z => absurd q6 z, fun _ _ => w2⟩
  · obtain ⟨v, κ, w1, w2⟩ := bad 6 (by omega) (by omega) (l3 q6)
    exact ⟨v, κ, w1, fun z => absurd z q6, fun _ => w2, fun z => absurd z q6⟩
