/-! ===== setters ===== -/
def dsLaw (d : ww_D1) (n : Nat) : ww_D1 := (n, d.2)
def dsRot (d : ww_D1) (n : Nat) : ww_D1 := (d.1, n, d.2.2)
def dsGng (d : ww_D1) (n : Nat) : ww_D1 := (d.1, d.2.1, n, d.2.2.2)
def dsHr (d : ww_D1) (n : Nat) : ww_D1 := (d.1, d.2.1, d.2.2.1, n, d.2.2.2.2)
def dsOwn (d : ww_D1) (f : Nat → Nat) : ww_D1 := (d.1, d.2.1, d.2.2.1, d.2.2.2.1, f, d.2.2.2.2.2)
def dsMark (d : ww_D1) (f : Nat → Nat) : ww_D1 := (d.1, d.2.1, d.2.2.1, d.2.2.2.1, d.2.2.2.2.1, f, d.2.2.2.2.2.2)
def dsWk (d : ww_D1) (f : Nat → Nat → Nat) : ww_D1 := (d.1, d.2.1, d.2.2.1, d.2.2.2.1, d.2.2.2.2.1, d.2.2.2.2.2.1, d.2.2.2.2.2.2.1, f, d.2.2.2.2.2.2.2.2)
def dsLu (d : ww_D1) (f : Nat → Nat → Nat) : ww_D1 := (d.1, d.2.1, d.2.2.1, d.2.2.2.1, d.2.2.2.2.1, d.2.2.2.2.2.1, d.2.2.2.2.2.2.1, d.2.2.2.2.2.2.2.1, f, d.2.2.2.2.2.2.2.2.2)
def dsLost (d : ww_D1) (f : Nat → Bool) : ww_D1 := (d.1, d.2.1, d.2.2.1, d.2.2.2.1, d.2.2.2.2.1, d.2.2.2.2.2.1, d.2.2.2.2.2.2.1, d.2.2.2.2.2.2.2.1, d.2.2.2.2.2.2.2.2.1, f, d.2.2.2.2.2.2.2.2.2.2)
def dsWon (d : ww_D1) (f : Nat → Int32) : ww_D1 := (d.1, d.2.1, d.2.2.1, d.2.2.2.1, d.2.2.2.2.1, d.2.2.2.2.2.1, d.2.2.2.2.2.2.1, d.2.2.2.2.2.2.2.1, d.2.2.2.2.2.2.2.2.1, d.2.2.2.2.2.2.2.2.2.1, f)
def ww_un (f : Nat → Nat) (i n : Nat) : Nat → Nat := fun j => if j = i then n else f j
def ww_un2 (f : Nat → Nat → Nat) (b p n : Nat) : Nat → Nat → Nat := fun x y => if x = b ∧ y = p then n else f x y
theorem pk_us' {f : Nat → Int32} {k j : Nat} {x : Int32} (h : j = k) : upd f k x j = x := by subst h; exact pk_us
theorem um_law {fs : Nat → Int32} {pg : Nat} {s : ww_S} {d : ww_D1} (hs : ww_okS s) (h : ww_ModD fs pg s d) (n : Nat) : ww_ModD (upd fs (pg + 12) (nI n)) pg s (dsLaw d n) := by
  obtain ⟨o1, o2, o3, o4, o5, o6, o7⟩ := hs
  obtain ⟨⟨a1, a2, a3, a4⟩, a5, a6, a7, a8⟩ := h
  exact ⟨⟨pk_us, by rw [pk_un (by omega)]; exact a2, by rw [pk_un (by omega)]; exact a3, by rw [pk_un (by omega)]; exact a4⟩, fun b hb => by rw [pk_un (by omega)]; exact a5 b hb, fun i hi => by rw [pk_un (by omega), pk_un (by omega)]; exact a6 i hi, fun b hb p hp => by have := o6 b hb; rw [pk_un (by omega), pk_un (by omega), pk_un (by omega)]; exact a7 b hb p hp, fun k hk => by rw [pk_un (by omega)]; exact a8 k hk⟩
theorem um_rot {fs : Nat → Int32} {pg : Nat} {s : ww_S} {d : ww_D1} (hs : ww_okS s) (h : ww_ModD fs pg s d) (n : Nat) : ww_ModD (upd fs (pg + 13) (nI n - 4)) pg s (dsRot d n) := by
  obtain ⟨o1, o2, o3, o4, o5, o6, o7⟩ := hs
  obtain ⟨⟨a1, a2, a3, a4⟩, a5, a6, a7, a8⟩ := h
  exact ⟨⟨by rw [pk_un (by omega)]; exact a1, pk_us, by rw [pk_un (by omega)]; exact a3, by rw [pk_un (by omega)]; exact a4⟩, fun b hb => by rw [pk_un (by omega)]; exact a5 b hb, fun i hi => by rw [pk_un (by omega), pk_un (by omega)]; exact a6 i hi, fun b hb p hp => by have := o6 b hb; rw [pk_un (by omega), pk_un (by omega), pk_un (by omega)]; exact a7 b hb p hp, fun k hk => by rw [pk_un (by omega)]; exact a8 k hk⟩
theorem um_gng {fs : Nat → Int32} {pg : Nat} {s : ww_S} {d : ww_D1} (hs : ww_okS s) (h : ww_ModD fs pg s d) (n : Nat) : ww_ModD (upd fs (pg + 14) (nI n - 1)) pg s (dsGng d n) := by
  obtain ⟨o1, o2, o3, o4, o5, o6, o7⟩ := hs
  obtain ⟨⟨a1, a2, a3, a4⟩, a5, a6, a7, a8⟩ := h
  exact ⟨⟨by rw [pk_un (by omega)]; exact a1, by rw [pk_un (by omega)]; exact a2, pk_us, by rw [pk_un (by omega)]; exact a4⟩, fun b hb => by rw [pk_un (by omega)]; exact a5 b hb, fun i hi => by rw [pk_un (by omega), pk_un (by omega)]; exact a6 i hi, fun b hb p hp => by have := o6 b hb; rw [pk_un (by omega), pk_un (by omega), pk_un (by omega)]; exact a7 b hb p hp, fun k hk => by rw [pk_un (by omega)]; exact a8 k hk⟩
theorem um_hr {fs : Nat → Int32} {pg : Nat} {s : ww_S} {d : ww_D1} (hs : ww_okS s) (h : ww_ModD fs pg s d) (n : Nat) : ww_ModD (upd fs (pg + 45) (nI n)) pg s (dsHr d n) := by
  obtain ⟨o1, o2, o3, o4, o5, o6, o7⟩ := hs
  obtain ⟨⟨a1, a2, a3, a4⟩, a5, a6, a7, a8⟩ := h
  exact ⟨⟨by rw [pk_un (by omega)]; exact a1, by rw [pk_un (by omega)]; exact a2, by rw [pk_un (by omega)]; exact a3, pk_us⟩, fun b hb => by rw [pk_un (by omega)]; exact a5 b hb, fun i hi => by rw [pk_un (by omega), pk_un (by omega)]; exact a6 i hi, fun b hb p hp => by have := o6 b hb; rw [pk_un (by omega), pk_un (by omega), pk_un (by omega)]; exact a7 b hb p hp, fun k hk => by rw [pk_un (by omega)]; exact a8 k hk⟩
theorem um_own {fs : Nat → Int32} {pg : Nat} {s : ww_S} {d : ww_D1} (hs : ww_okS s) (h : ww_ModD fs pg s d) {q : Nat} (n : Nat) (hq : q < sNp s) : ww_ModD (upd fs (pg + 2 * q) (nI n)) pg s (dsOwn d (ww_un (dOwn d) q n)) := by
  obtain ⟨o1, o2, o3, o4, o5, o6, o7⟩ := hs
  obtain ⟨⟨a1, a2, a3, a4⟩, a5, a6, a7, a8⟩ := h
  exact ⟨⟨by rw [pk_un (by omega)]; exact a1, by rw [pk_un (by omega)]; exact a2, by rw [pk_un (by omega)]; exact a3, by rw [pk_un (by omega)]; exact a4⟩, fun b hb => by rw [pk_un (by omega)]; exact a5 b hb, fun i hi => by
    by_cases e : i = q
    · subst e; rw [pk_us, pk_un (by omega)]; exact ⟨by show nI n = nI (ww_un (dOwn d) i n i); simp [ww_un], (a6 i hi).2⟩
    · rw [pk_un (by omega), pk_un (by omega)]; exact ⟨by show _ = nI (ww_un (dOwn d) q n i); simp [ww_un, e]; exact (a6 i hi).1, (a6 i hi).2⟩, fun b hb p hp => by have := o6 b hb; rw [pk_un (by omega), pk_un (by omega), pk_un (by omega)]; exact a7 b hb p hp, fun k hk => by rw [pk_un (by omega)]; exact a8 k hk⟩
theorem um_mark {fs : Nat → Int32} {pg : Nat} {s : ww_S} {d : ww_D1} (hs : ww_okS s) (h : ww_ModD fs pg s d) {q : Nat} (n : Nat) (hq : q < sNp s) : ww_ModD (upd fs (pg + 2 * q + 1) (nI n)) pg s (dsMark d (ww_un (dMark d) q n)) := by
  obtain ⟨o1, o2, o3, o4, o5, o6, o7⟩ := hs
  obtain ⟨⟨a1, a2, a3, a4⟩, a5, a6, a7, a8⟩ := h
  exact ⟨⟨by rw [pk_un (by omega)]; exact a1, by rw [pk_un (by omega)]; exact a2, by rw [pk_un (by omega)]; exact a3, by rw [pk_un (by omega)]; exact a4⟩, fun b hb => by rw [pk_un (by omega)]; exact a5 b hb, fun i hi => by
    by_cases e : i = q
    · subst e; rw [pk_us, pk_un (by omega)]; exact ⟨(a6 i hi).1, by show nI n = nI (ww_un (dMark d) i n i); simp [ww_un]⟩
    · rw [pk_un (by omega), pk_un (by omega)]; exact ⟨(a6 i hi).1, by show _ = nI (ww_un (dMark d) q n i); simp [ww_un, e]; exact (a6 i hi).2⟩, fun b hb p hp => by have := o6 b hb; rw [pk_un (by omega), pk_un (by omega), pk_un (by omega)]; exact a7 b hb p hp, fun k hk => by rw [pk_un (by omega)]; exact a8 k hk⟩
theorem um_lost {fs : Nat → Int32} {pg : Nat} {s : ww_S} {d : ww_D1} (hs : ww_okS s) (h : ww_ModD fs pg s d) {q : Nat} (hq : q < 3) : ww_ModD (upd fs (pg + 15 + q) (1)) pg s (dsLost d (fun b => decide (b = q) || dLost d b)) := by
  obtain ⟨o1, o2, o3, o4, o5, o6, o7⟩ := hs
  obtain ⟨⟨a1, a2, a3, a4⟩, a5, a6, a7, a8⟩ := h
  exact ⟨⟨by rw [pk_un (by omega)]; exact a1, by rw [pk_un (by omega)]; exact a2, by rw [pk_un (by omega)]; exact a3, by rw [pk_un (by omega)]; exact a4⟩, fun b hb => by
    by_cases e : b = q
    · subst e; rw [pk_us]; show (1 : Int32) = if (decide (b = b) || dLost d b) = true then 1 else 0; simp
    · rw [pk_un (by omega)]; show _ = if (decide (b = q) || dLost d b) = true then (1 : Int32) else 0; simp [e]; exact a5 b hb, fun i hi => by rw [pk_un (by omega), pk_un (by omega)]; exact a6 i hi, fun b hb p hp => by have := o6 b hb; rw [pk_un (by omega), pk_un (by omega), pk_un (by omega)]; exact a7 b hb p hp, fun k hk => by rw [pk_un (by omega)]; exact a8 k hk⟩
theorem um_wk {fs : Nat → Int32} {pg : Nat} {s : ww_S} {d : ww_D1} (hs : ww_okS s) (h : ww_ModD fs pg s d) {qb qp : Nat} (n : Nat) (hqb : qb < sNb s) (hqp : qp < sPt s qb) : ww_ModD (upd fs (pg + 18 + 9 * qb + 3 * qp + 1) (nI n)) pg s (dsWk d (ww_un2 (dWk d) qb qp n)) := by
  obtain ⟨o1, o2, o3, o4, o5, o6, o7⟩ := hs
  obtain ⟨⟨a1, a2, a3, a4⟩, a5, a6, a7, a8⟩ := h
  have := o6 qb hqb
  exact ⟨⟨by rw [pk_un (by omega)]; exact a1, by rw [pk_un (by omega)]; exact a2, by rw [pk_un (by omega)]; exact a3, by rw [pk_un (by omega)]; exact a4⟩, fun b hb => by rw [pk_un (by omega)]; exact a5 b hb, fun i hi => by rw [pk_un (by omega), pk_un (by omega)]; exact a6 i hi, fun b hb p hp => by
    have hb6 := o6 b hb
    have hq6 := o6 qb hqb
    by_cases e : b = qb ∧ p = qp
    · obtain ⟨rfl, rfl⟩ := e
      rw [pk_us, pk_un (by omega), pk_un (by omega)]; exact ⟨(a7 b hb p hp).1, by show nI n = nI (ww_un2 (dWk d) b p n b p); simp [ww_un2], (a7 b hb p hp).2.2⟩
    · have e2 : ¬ (9 * b + 3 * p = 9 * qb + 3 * qp) := fun z => e (by omega)
      rw [pk_un (by omega), pk_un (by omega), pk_un (by omega)]
      exact ⟨(a7 b hb p hp).1, by show _ = nI (ww_un2 (dWk d) qb qp n b p); simp only [ww_un2, if_neg e]; exact (a7 b hb p hp).2.1, (a7 b hb p hp).2.2⟩, fun k hk => by rw [pk_un (by omega)]; exact a8 k hk⟩
theorem um_lu {fs : Nat → Int32} {pg : Nat} {s : ww_S} {d : ww_D1} (hs : ww_okS s) (h : ww_ModD fs pg s d) {qb qp : Nat} (n : Nat) (hqb : qb < sNb s) (hqp : qp < sPt s qb) : ww_ModD (upd fs (pg + 18 + 9 * qb + 3 * qp + 2) (nI n)) pg s (dsLu d (ww_un2 (dLu d) qb qp n)) := by
  obtain ⟨o1, o2, o3, o4, o5, o6, o7⟩ := hs
  obtain ⟨⟨a1, a2, a3, a4⟩, a5, a6, a7, a8⟩ := h
  have := o6 qb hqb
  exact ⟨⟨by rw [pk_un (by omega)]; exact a1, by rw [pk_un (by omega)]; exact a2, by rw [pk_un (by omega)]; exact a3, by rw [pk_un (by omega)]; exact a4⟩, fun b hb => by rw [pk_un (by omega)]; exact a5 b hb, fun i hi => by rw [pk_un (by omega), pk_un (by omega)]; exact a6 i hi, fun b hb p hp => by
    have hb6 := o6 b hb
    have hq6 := o6 qb hqb
    by_cases e : b = qb ∧ p = qp
    · obtain ⟨rfl, rfl⟩ := e
      rw [pk_us, pk_un (by omega), pk_un (by omega)]; exact ⟨(a7 b hb p hp).1, (a7 b hb p hp).2.1, by show nI n = nI (ww_un2 (dLu d) b p n b p); simp [ww_un2]⟩
    · have e2 : ¬ (9 * b + 3 * p = 9 * qb + 3 * qp) := fun z => e (by omega)
      rw [pk_un (by omega), pk_un (by omega), pk_un (by omega)]
      exact ⟨(a7 b hb p hp).1, (a7 b hb p hp).2.1, by show _ = nI (ww_un2 (dLu d) qb qp n b p); simp only [ww_un2, if_neg e]; exact (a7 b hb p hp).2.2⟩, fun k hk => by rw [pk_un (by omega)]; exact a8 k hk⟩
theorem um_won {fs : Nat → Int32} {pg : Nat} {s : ww_S} {d : ww_D1} (hs : ww_okS s) (h : ww_ModD fs pg s d) {q : Nat} (x : Int32) (hq : q < 4) : ww_ModD (upd fs (pg + 46 + q) (x)) pg s (dsWon d (upd (dWon d) q x)) := by
  obtain ⟨o1, o2, o3, o4, o5, o6, o7⟩ := hs
  obtain ⟨⟨a1, a2, a3, a4⟩, a5, a6, a7, a8⟩ := h
  exact ⟨⟨by rw [pk_un (by omega)]; exact a1, by rw [pk_un (by omega)]; exact a2, by rw [pk_un (by omega)]; exact a3, by rw [pk_un (by omega)]; exact a4⟩, fun b hb => by rw [pk_un (by omega)]; exact a5 b hb, fun i hi => by rw [pk_un (by omega), pk_un (by omega)]; exact a6 i hi, fun b hb p hp => by have := o6 b hb; rw [pk_un (by omega), pk_un (by omega), pk_un (by omega)]; exact a7 b hb p hp, fun k hk => by
    by_cases e : k = q
    · subst e; rw [pk_us]; show x = upd (dWon d) k x k; rw [pk_us]
    · rw [pk_un (by omega)]; show _ = upd (dWon d) q x k; rw [pk_un e]; exact a8 k hk⟩
theorem uc_law {σ : ww_M} {o : Nat} {s : ww_S} {d : ww_D1} (hs : ww_okS s) (h : ww_ClsA σ o s d) (n : Nat) : ww_ClsA (ww_up σ (o) 12 (nI n)) o s (dsLaw d n) := by
  obtain ⟨o1, o2, o3, o4, o5, o6, o7⟩ := hs
  obtain ⟨⟨c1, c2, c3⟩, ⟨c4, c5, c6, c7, c8⟩, c9, c10, c11, c12, c13⟩ := h
  unfold ww_ClsA
  rw [ww_up_eq, ww_up_ne (show o + 1 ≠ o by omega), ww_up_ne (show o + 2 ≠ o by omega), ww_up_ne (show o + 3 ≠ o by omega), ww_up_ne (show o + 4 ≠ o by omega), ww_up_ne (show o + 5 ≠ o by omega), ww_up_ne (show o + 6 ≠ o by omega), ww_up_ne (show o + 7 ≠ o by omega), ww_up_ne (show o + 8 ≠ o by omega), ww_up_ne (show o + 9 ≠ o by omega)]
  exact ⟨⟨by rw [pk_un (by decide)]; exact c1, by rw [pk_un (by decide)]; exact c2, by rw [pk_un (by decide)]; exact c3⟩, ⟨pk_us, by rw [pk_un (by decide)]; exact c5, by rw [pk_un (by decide)]; exact c6, by rw [pk_un (by decide)]; exact c7, by rw [pk_un (by decide)]; exact c8⟩, c9, c10, c11, c12, c13⟩
theorem uc_rot {σ : ww_M} {o : Nat} {s : ww_S} {d : ww_D1} (hs : ww_okS s) (h : ww_ClsA σ o s d) (n : Nat) : ww_ClsA (ww_up σ (o) 13 (nI n)) o s (dsRot d n) := by
  obtain ⟨o1, o2, o3, o4, o5, o6, o7⟩ := hs
  obtain ⟨⟨c1, c2, c3⟩, ⟨c4, c5, c6, c7, c8⟩, c9, c10, c11, c12, c13⟩ := h
  unfold ww_ClsA
  rw [ww_up_eq, ww_up_ne (show o + 1 ≠ o by omega), ww_up_ne (show o + 2 ≠ o by omega), ww_up_ne (show o + 3 ≠ o by omega), ww_up_ne (show o + 4 ≠ o by omega), ww_up_ne (show o + 5 ≠ o by omega), ww_up_ne (show o + 6 ≠ o by omega), ww_up_ne (show o + 7 ≠ o by omega), ww_up_ne (show o + 8 ≠ o by omega), ww_up_ne (show o + 9 ≠ o by omega)]
  exact ⟨⟨by rw [pk_un (by decide)]; exact c1, by rw [pk_un (by decide)]; exact c2, by rw [pk_un (by decide)]; exact c3⟩, ⟨by rw [pk_un (by decide)]; exact c4, pk_us, by rw [pk_un (by decide)]; exact c6, by rw [pk_un (by decide)]; exact c7, by rw [pk_un (by decide)]; exact c8⟩, c9, c10, c11, c12, c13⟩
theorem uc_gng {σ : ww_M} {o : Nat} {s : ww_S} {d : ww_D1} (hs : ww_okS s) (h : ww_ClsA σ o s d) (n : Nat) : ww_ClsA (ww_up σ (o) 14 (nI n)) o s (dsGng d n) := by
  obtain ⟨o1, o2, o3, o4, o5, o6, o7⟩ := hs
  obtain ⟨⟨c1, c2, c3⟩, ⟨c4, c5, c6, c7, c8⟩, c9, c10, c11, c12, c13⟩ := h
  unfold ww_ClsA
  rw [ww_up_eq, ww_up_ne (show o + 1 ≠ o by omega), ww_up_ne (show o + 2 ≠ o by omega), ww_up_ne (show o + 3 ≠ o by omega), ww_up_ne (show o + 4 ≠ o by omega), ww_up_ne (show o + 5 ≠ o by omega), ww_up_ne (show o + 6 ≠ o by omega), ww_up_ne (show o + 7 ≠ o by omega), ww_up_ne (show o + 8 ≠ o by omega), ww_up_ne (show o + 9 ≠ o by omega)]
  exact ⟨⟨by rw [pk_un (by decide)]; exact c1, by rw [pk_un (by decide)]; exact c2, by rw [pk_un (by decide)]; exact c3⟩, ⟨by rw [pk_un (by decide)]; exact c4, by rw [pk_un (by decide)]; exact c5, pk_us, by rw [pk_un (by decide)]; exact c7, by rw [pk_un (by decide)]; exact c8⟩, c9, c10, c11, c12, c13⟩
theorem uc_hr {σ : ww_M} {o : Nat} {s : ww_S} {d : ww_D1} (hs : ww_okS s) (h : ww_ClsA σ o s d) (n : Nat) : ww_ClsA (ww_up σ (o) 15 (nI n)) o s (dsHr d n) := by
  obtain ⟨o1, o2, o3, o4, o5, o6, o7⟩ := hs
  obtain ⟨⟨c1, c2, c3⟩, ⟨c4, c5, c6, c7, c8⟩, c9, c10, c11, c12, c13⟩ := h
  unfold ww_ClsA
  rw [ww_up_eq, ww_up_ne (show o + 1 ≠ o by omega), ww_up_ne (show o + 2 ≠ o by omega), ww_up_ne (show o + 3 ≠ o by omega), ww_up_ne (show o + 4 ≠ o by omega), ww_up_ne (show o + 5 ≠ o by omega), ww_up_ne (show o + 6 ≠ o by omega), ww_up_ne (show o + 7 ≠ o by omega), ww_up_ne (show o + 8 ≠ o by omega), ww_up_ne (show o + 9 ≠ o by omega)]
  exact ⟨⟨by rw [pk_un (by decide)]; exact c1, by rw [pk_un (by decide)]; exact c2, by rw [pk_un (by decide)]; exact c3⟩, ⟨by rw [pk_un (by decide)]; exact c4, by rw [pk_un (by decide)]; exact c5, by rw [pk_un (by decide)]; exact c6, pk_us, by rw [pk_un (by decide)]; exact c8⟩, c9, c10, c11, c12, c13⟩
theorem uc_lost {σ : ww_M} {o : Nat} {s : ww_S} {d : ww_D1} (hs : ww_okS s) (h : ww_ClsA σ o s d) (f : Nat → Bool) : ww_ClsA (ww_up σ (o) 16 (nI (ww_bits f 3))) o s (dsLost d f) := by
  obtain ⟨o1, o2, o3, o4, o5, o6, o7⟩ := hs
  obtain ⟨⟨c1, c2, c3⟩, ⟨c4, c5, c6, c7, c8⟩, c9, c10, c11, c12, c13⟩ := h
  unfold ww_ClsA
  rw [ww_up_eq, ww_up_ne (show o + 1 ≠ o by omega), ww_up_ne (show o + 2 ≠ o by omega), ww_up_ne (show o + 3 ≠ o by omega), ww_up_ne (show o + 4 ≠ o by omega), ww_up_ne (show o + 5 ≠ o by omega), ww_up_ne (show o + 6 ≠ o by omega), ww_up_ne (show o + 7 ≠ o by omega), ww_up_ne (show o + 8 ≠ o by omega), ww_up_ne (show o + 9 ≠ o by omega)]
  exact ⟨⟨by rw [pk_un (by decide)]; exact c1, by rw [pk_un (by decide)]; exact c2, by rw [pk_un (by decide)]; exact c3⟩, ⟨by rw [pk_un (by decide)]; exact c4, by rw [pk_un (by decide)]; exact c5, by rw [pk_un (by decide)]; exact c6, by rw [pk_un (by decide)]; exact c7, pk_us⟩, c9, c10, c11, c12, c13⟩
theorem uc_own {σ : ww_M} {o : Nat} {s : ww_S} {d : ww_D1} (hs : ww_okS s) (h : ww_ClsA σ o s d) {q : Nat} (n : Nat) : ww_ClsA (ww_up σ (o + 1) q (nI n)) o s (dsOwn d (ww_un (dOwn d) q n)) := by
  obtain ⟨o1, o2, o3, o4, o5, o6, o7⟩ := hs
  obtain ⟨⟨c1, c2, c3⟩, ⟨c4, c5, c6, c7, c8⟩, c9, c10, c11, c12, c13⟩ := h
  unfold ww_ClsA
  rw [ww_up_eq, ww_up_ne (show o ≠ o + 1 by omega), ww_up_ne (show o + 2 ≠ o + 1 by omega), ww_up_ne (show o + 3 ≠ o + 1 by omega), ww_up_ne (show o + 4 ≠ o + 1 by omega), ww_up_ne (show o + 5 ≠ o + 1 by omega), ww_up_ne (show o + 6 ≠ o + 1 by omega), ww_up_ne (show o + 7 ≠ o + 1 by omega), ww_up_ne (show o + 8 ≠ o + 1 by omega), ww_up_ne (show o + 9 ≠ o + 1 by omega)]
  exact ⟨⟨c1, c2, c3⟩, ⟨c4, c5, c6, c7, c8⟩, fun i hi => ⟨by
    show upd (σ (o + 1)) q (nI n) i = nI (ww_un (dOwn d) q n i)
    by_cases e : i = q
    · subst e; rw [pk_us]; simp [ww_un]
    · rw [pk_un e]; simp [ww_un, e]; exact (c9 i hi).1, (c9 i hi).2⟩, c10, c11, c12, c13⟩
theorem uc_mark {σ : ww_M} {o : Nat} {s : ww_S} {d : ww_D1} (hs : ww_okS s) (h : ww_ClsA σ o s d) {q : Nat} (n : Nat) : ww_ClsA (ww_up σ (o + 2) q (nI n)) o s (dsMark d (ww_un (dMark d) q n)) := by
  obtain ⟨o1, o2, o3, o4, o5, o6, o7⟩ := hs
  obtain ⟨⟨c1, c2, c3⟩, ⟨c4, c5, c6, c7, c8⟩, c9, c10, c11, c12, c13⟩ := h
  unfold ww_ClsA
  rw [ww_up_eq, ww_up_ne (show o ≠ o + 2 by omega), ww_up_ne (show o + 1 ≠ o + 2 by omega), ww_up_ne (show o + 3 ≠ o + 2 by omega), ww_up_ne (show o + 4 ≠ o + 2 by omega), ww_up_ne (show o + 5 ≠ o + 2 by omega), ww_up_ne (show o + 6 ≠ o + 2 by omega), ww_up_ne (show o + 7 ≠ o + 2 by omega), ww_up_ne (show o + 8 ≠ o + 2 by omega), ww_up_ne (show o + 9 ≠ o + 2 by omega)]
  exact ⟨⟨c1, c2, c3⟩, ⟨c4, c5, c6, c7, c8⟩, fun i hi => ⟨(c9 i hi).1, by
    show upd (σ (o + 2)) q (nI n) i = nI (ww_un (dMark d) q n i)
    by_cases e : i = q
    · subst e; rw [pk_us]; simp [ww_un]
    · rw [pk_un e]; simp [ww_un, e]; exact (c9 i hi).2⟩, c10, c11, c12, c13⟩
theorem uc_wk {σ : ww_M} {o : Nat} {s : ww_S} {d : ww_D1} (hs : ww_okS s) (h : ww_ClsA σ o s d) {qb qp : Nat} (n : Nat) (hqb : qb < sNb s) (hqp : qp < sPt s qb) : ww_ClsA (ww_up σ (o + 7) (3 * qb + qp) (nI n)) o s (dsWk d (ww_un2 (dWk d) qb qp n)) := by
  obtain ⟨o1, o2, o3, o4, o5, o6, o7⟩ := hs
  obtain ⟨⟨c1, c2, c3⟩, ⟨c4, c5, c6, c7, c8⟩, c9, c10, c11, c12, c13⟩ := h
  unfold ww_ClsA
  rw [ww_up_eq, ww_up_ne (show o ≠ o + 7 by omega), ww_up_ne (show o + 1 ≠ o + 7 by omega), ww_up_ne (show o + 2 ≠ o + 7 by omega), ww_up_ne (show o + 3 ≠ o + 7 by omega), ww_up_ne (show o + 4 ≠ o + 7 by omega), ww_up_ne (show o + 5 ≠ o + 7 by omega), ww_up_ne (show o + 6 ≠ o + 7 by omega), ww_up_ne (show o + 8 ≠ o + 7 by omega), ww_up_ne (show o + 9 ≠ o + 7 by omega)]
  exact ⟨⟨c1, c2, c3⟩, ⟨c4, c5, c6, c7, c8⟩, c9, c10, c11, fun b hb p hp => ⟨(c12 b hb p hp).1, by
    show upd (σ (o + 7)) (3 * qb + qp) (nI n) (3 * b + p) = nI (ww_un2 (dWk d) qb qp n b p)
    have hb6 := o6 b hb
    have hq6 := o6 qb hqb
    by_cases e : b = qb ∧ p = qp
    · obtain ⟨rfl, rfl⟩ := e; rw [pk_us]; simp [ww_un2]
    · have e2 : ¬ (3 * b + p = 3 * qb + qp) := fun z => e (by omega)
      rw [pk_un e2]; simp only [ww_un2, if_neg e]; exact (c12 b hb p hp).2.1, (c12 b hb p hp).2.2⟩, c13⟩
theorem uc_lu {σ : ww_M} {o : Nat} {s : ww_S} {d : ww_D1} (hs : ww_okS s) (h : ww_ClsA σ o s d) {qb qp : Nat} (n : Nat) (hqb : qb < sNb s) (hqp : qp < sPt s qb) : ww_ClsA (ww_up σ (o + 8) (3 * qb + qp) (nI n)) o s (dsLu d (ww_un2 (dLu d) qb qp n)) := by
  obtain ⟨o1, o2, o3, o4, o5, o6, o7⟩ := hs
  obtain ⟨⟨c1, c2, c3⟩, ⟨c4, c5, c6, c7, c8⟩, c9, c10, c11, c12, c13⟩ := h
  unfold ww_ClsA
  rw [ww_up_eq, ww_up_ne (show o ≠ o + 8 by omega), ww_up_ne (show o + 1 ≠ o + 8 by omega), ww_up_ne (show o + 2 ≠ o + 8 by omega), ww_up_ne (show o + 3 ≠ o + 8 by omega), ww_up_ne (show o + 4 ≠ o + 8 by omega), ww_up_ne (show o + 5 ≠ o + 8 by omega), ww_up_ne (show o + 6 ≠ o + 8 by omega), ww_up_ne (show o + 7 ≠ o + 8 by omega), ww_up_ne (show o + 9 ≠ o + 8 by omega)]
  exact ⟨⟨c1, c2, c3⟩, ⟨c4, c5, c6, c7, c8⟩, c9, c10, c11, fun b hb p hp => ⟨(c12 b hb p hp).1, (c12 b hb p hp).2.1, by
    show upd (σ (o + 8)) (3 * qb + qp) (nI n) (3 * b + p) = nI (ww_un2 (dLu d) qb qp n b p)
    have hb6 := o6 b hb
    have hq6 := o6 qb hqb
    by_cases e : b = qb ∧ p = qp
    · obtain ⟨rfl, rfl⟩ := e; rw [pk_us]; simp [ww_un2]
    · have e2 : ¬ (3 * b + p = 3 * qb + qp) := fun z => e (by omega)
      rw [pk_un e2]; simp only [ww_un2, if_neg e]; exact (c12 b hb p hp).2.2⟩, c13⟩
theorem uc_won {σ : ww_M} {o : Nat} {s : ww_S} {d : ww_D1} (hs : ww_okS s) (h : ww_ClsA σ o s d) {q : Nat} (x : Int32) : ww_ClsA (ww_up σ (o + 9) q (x)) o s (dsWon d (upd (dWon d) q x)) := by
  obtain ⟨o1, o2, o3, o4, o5, o6, o7⟩ := hs
  obtain ⟨⟨c1, c2, c3⟩, ⟨c4, c5, c6, c7, c8⟩, c9, c10, c11, c12, c13⟩ := h
  unfold ww_ClsA
  rw [ww_up_eq, ww_up_ne (show o ≠ o + 9 by omega), ww_up_ne (show o + 1 ≠ o + 9 by omega), ww_up_ne (show o + 2 ≠ o + 9 by omega), ww_up_ne (show o + 3 ≠ o + 9 by omega), ww_up_ne (show o + 4 ≠ o + 9 by omega), ww_up_ne (show o + 5 ≠ o + 9 by omega), ww_up_ne (show o + 6 ≠ o + 9 by omega), ww_up_ne (show o + 7 ≠ o + 9 by omega), ww_up_ne (show o + 8 ≠ o + 9 by omega)]
  exact ⟨⟨c1, c2, c3⟩, ⟨c4, c5, c6, c7, c8⟩, c9, c10, c11, c12, fun k hk => by
    show upd (σ (o + 9)) q x k = upd (dWon d) q x k
    by_cases e : k = q
    · subst e; rw [pk_us, pk_us]
    · rw [pk_un e, pk_un e]; exact c13 k hk⟩
