/-! ===== words ===== -/
def ww_nest : Cond → Bool
  | .fieldLinkNest .. => true
  | .methodLinkNest .. => true
  | _ => false
def ww_T : List Cond := lw_tbl.filter goodWord
def ww_N : List Cond := lw_tbl.filter ww_nest
theorem ww_Ti {w : Cond} (i : Nat) (h : lw_tbl[i]? = some w) (hg : goodWord w = true) : w ∈ ww_T := List.mem_filter.mpr ⟨List.mem_of_getElem? h, hg⟩
theorem ww_Ni {w : Cond} (i : Nat) (h : lw_tbl[i]? = some w) (hg : ww_nest w = true) : w ∈ ww_N := List.mem_filter.mpr ⟨List.mem_of_getElem? h, hg⟩
theorem ww_Tg : GoodIn ww_T ww_T := fun _ h => ⟨h, good_of_word (List.mem_filter.mp h).2⟩
theorem ww_Ng {w : Cond} (h : w ∈ ww_N) : ww_nest w = true := (List.mem_filter.mp h).2
/-! ===== the static world ===== -/
abbrev ww_M : Type := Nat → Nat → Int32
abbrev ww_L : Type := (Nat × List (Option Nat)) ⊕ (Nat × Nat) ⊕ (Nat × Nat × Nat × Nat)
def ww_up (σ : ww_M) (k j : Nat) (v : Int32) : ww_M := fun a b => if a = k then (if b = j then v else σ a b) else σ a b
def ww_upr (σ : ww_M) (k : Nat) (f : Nat → Int32) : ww_M := fun a b => if a = k then f b else σ a b
def ww_fld (ad : Nat → Nat) (f : Nat → Int32) (j : Nat) (x : Option Nat) : Value := match x with
  | some r => .ref (ad r)
  | none => .int (f j)
def ww_fs (ad : Nat → Nat) (f : Nat → Int32) (fs : List (Option Nat)) : List Value := fs.mapIdx (fun j x => ww_fld ad f j x)
def ww_cell (ad : Nat → Nat) (cA : Nat → ClassId) (f : Nat → Int32) (L : ww_L) : va_E := match L with
  | .inl (ci, fs) => .inr (ci, ww_fs ad f fs)
  | .inr (.inl (t, n)) => .inl (cA t, n, .inl f)
  | .inr (.inr (t, n, b, d)) => .inl (cA t, n, .inr (.inr (.inr (.inr (fun i => some (ad (b + d * i)))))))
def ww_W (G : List ww_L) (ad : Nat → Nat) (cA : Nat → ClassId) (σ : ww_M) : va_W := G.mapIdx (fun k L => (ad k, ww_cell ad cA (σ k) L))
theorem ww_W_get {G : List ww_L} {ad : Nat → Nat} {cA : Nat → ClassId} {σ : ww_M} {k : Nat} {L : ww_L} (h : G[k]? = some L) : (ww_W G ad cA σ)[k]? = some (ad k, ww_cell ad cA (σ k) L) := by
  simp [ww_W, List.getElem?_mapIdx, h]
theorem ww_W_at {G : List ww_L} {ad : Nat → Nat} {cA : Nat → ClassId} {σ : ww_M} {k : Nat} {q : Nat × va_E} (h : (ww_W G ad cA σ)[k]? = some q) : k < G.length ∧ q.1 = ad k := by
  simp only [ww_W, List.getElem?_mapIdx, Option.map_eq_some_iff] at h
  obtain ⟨L, h1, h2⟩ := h
  exact ⟨(List.getElem?_eq_some_iff.mp h1).1, by rw [← h2]⟩
theorem ww_fs_set {ad : Nat → Nat} {f : Nat → Int32} {fs : List (Option Nat)} {j : Nat} {v : Int32} (h : fs[j]? = some none) : (ww_fs ad f fs).set j (.int v) = ww_fs ad (fun b => if b = j then v else f b) fs := by
  apply List.ext_getElem?
  intro i
  rw [List.getElem?_set]
  by_cases hij : j = i
  · subst hij
    have hl : j < fs.length := (List.getElem?_eq_some_iff.mp h).1
    simp only [ww_fs, List.getElem?_mapIdx, h, Option.map_some, ww_fld, List.length_mapIdx, hl, if_true]
  · rw [if_neg hij]
    simp only [ww_fs, List.getElem?_mapIdx]
    cases hx : fs[i]? with
    | none => rfl
    | some x =>
      cases x with
      | none => simp [ww_fld, Ne.symm hij]
      | some r => simp [ww_fld]
theorem ww_W_set {G : List ww_L} {ad : Nat → Nat} {cA : Nat → ClassId} {σ τ : ww_M} {k : Nat} {L : ww_L} {e : va_E} (h : G[k]? = some L) (he : ww_cell ad cA (τ k) L = e) (ho : ∀ a, a ≠ k → τ a = σ a) : (ww_W G ad cA σ).set k (ad k, e) = ww_W G ad cA τ := by
  apply List.ext_getElem?
  intro i
  rw [List.getElem?_set]
  have hl : k < G.length := (List.getElem?_eq_some_iff.mp h).1
  by_cases hij : k = i
  · subst hij
    rw [ww_W_get (σ := τ) h, he]
    simp [ww_W, hl]
  · rw [if_neg hij]
    simp only [ww_W, List.getElem?_mapIdx]
    cases hx : G[i]? with
    | none => rfl
    | some x => simp only [Option.map_some]; rw [ho i (Ne.symm hij)]
theorem ww_W_put {G : List ww_L} {ad : Nat → Nat} {cA : Nat → ClassId} {σ : ww_M} {k j ci : Nat} {fs : List (Option Nat)} {v : Int32} (h : G[k]? = some (.inl (ci, fs))) (hj : fs[j]? = some none) : (ww_W G ad cA σ).set k (ad k, .inr (ci, (ww_fs ad (σ k) fs).set j (.int v))) = ww_W G ad cA (ww_up σ k j v) := by
  refine ww_W_set h ?_ (fun a ha => by funext b; simp [ww_up, ha])
  rw [ww_fs_set hj]
  simp only [ww_cell]
  congr 3
  funext b
  simp [ww_up]
theorem ww_W_row {G : List ww_L} {ad : Nat → Nat} {cA : Nat → ClassId} {σ : ww_M} {k t n : Nat} {f : Nat → Int32} (h : G[k]? = some (.inr (.inl (t, n)))) : (ww_W G ad cA σ).set k (ad k, .inl (cA t, n, .inl f)) = ww_W G ad cA (ww_upr σ k f) := by
  refine ww_W_set h ?_ (fun a ha => by funext b; simp [ww_upr, ha])
  have e : ww_upr σ k f k = f := by funext b; simp [ww_upr]
  simp [ww_cell, e]
theorem ww_up_row (σ : ww_M) (k j : Nat) (v : Int32) : ww_upr σ k (upd (σ k) j v) = ww_up σ k j v := by
  funext a b
  by_cases ha : a = k
  · subst ha; simp [ww_upr, ww_up, upd]
  · simp [ww_upr, ww_up, ha]
def ww_at (G : List ww_L) (o : Nat) (L : List ww_L) : Prop := ∀ i x, L[i]? = some x → G[o + i]? = some x
abbrev ww_tys (cA : Nat → ClassId) : List (ClassId × FieldType) := [(cA 0, .int), (cA 1, .byte), (cA 2, .boolean), (cA 3, .object RX1), (cA 4, .object RX2)]
/-! ===== strings: sand tide law rot gangs whale ===== -/
def ww_sl : List Nat := [4, 4, 3, 3, 5, 5]
def ww_sb : List (List Int32) := [[115, 97, 110, 100], [116, 105, 100, 101], [108, 97, 119], [114, 111, 116], [103, 97, 110, 103, 115], [119, 104, 97, 108, 101]]
/-! ===== what is known beside the world: D, cA, adV, adK ===== -/
abbrev ww_Y : Type := va_G × (Nat → ClassId) × (Nat → Nat) × (Nat → Nat)
def ww_RS (Y : ww_Y) (U : State) : Prop := vk_R RX5 91 "sand" (Y.2.2.2 0) U ∧ vk_R RX5 97 "tide" (Y.2.2.2 1) U ∧ vk_R RX5 99 "law" (Y.2.2.2 2) U ∧ vk_R RX5 101 "rot" (Y.2.2.2 3) U ∧ vk_R RX5 103 "gangs" (Y.2.2.2 4) U ∧ vk_R RX5 105 "whale" (Y.2.2.2 5) U
theorem ww_RS.same {Y : ww_Y} {U V : State} (hv : U.vm = V.vm) (h : ww_RS Y U) : ww_RS Y V := by
  obtain ⟨h0, h1, h2, h3, h4, h5⟩ := h
  exact ⟨h0.same hv.symm, h1.same hv.symm, h2.same hv.symm, h3.same hv.symm, h4.same hv.symm, h5.same hv.symm⟩
theorem ww_RS.warm {Y : ww_Y} {s U : State} (hW : s.WarmedH U.vm) (h : ww_RS Y s) : ww_RS Y U := by
  obtain ⟨h0, h1, h2, h3, h4, h5⟩ := h
  exact ⟨h0.warm hW, h1.warm hW, h2.warm hW, h3.warm hW, h4.warm hW, h5.warm hW⟩
def ww_Ev (Y : ww_Y) (A : Nat → Prop) (U : State) (H : Heap) : Prop := va_K Y.1 vwCl (ww_tys Y.2.1) U ∧ (∀ w ∈ ww_N, va_Nw w U) ∧ vk_S 6 ww_sl ww_sb Y.2.2.2 Y.2.2.1 A U H ∧ (va_Z "java/lang/String" "COMPACT_STRINGS" "Z" (.int 1) A U H ∧ va_Zq "jdk/internal/util/Preconditions" "SIOOBE_FORMATTER" "Ljava/util/function/BiFunction;" A U H) ∧ ww_RS Y U
def ww_AA (G : List ww_L) (ad : Nat → Nat) (sz : Nat) : Nat → Prop := fun q => (∃ k, k < G.length ∧ q = ad k) ∨ sz ≤ q
def ww_Rm (h : Nat) : Room := { frames := h, cells := 0, slots := 0, locals := 40 * h }
abbrev ww_R : Type := Option Value × ww_M
def ww_Qr (Y : ww_Y) (ad : Nat → Nat) (G : List ww_L) (A : Nat → Prop) (r : ww_R) : Array Value → State → Outcome → State → Prop := fun _ st oc t => oc = .returned r.1 ∧ va_P Y.1 vwCl (ww_W G ad Y.2.1 r.2) t.heap ∧ va_F A st t
def ww_Pc (Y : ww_Y) (ad : Nat → Nat) (G : List ww_L) (sz : Nat) (σ : ww_M) : State → Prop := fun U => U.heap.size = sz ∧ va_P Y.1 vwCl (ww_W G ad Y.2.1 σ) U.heap ∧ ww_Ev Y (ww_AA G ad sz) U U.heap ∧ ∀ i j, i < G.length → j < G.length → ad i = ad j → i = j
/-- a method's contract: from memory sg, with the answer and the memory that the pure function tells -/
def ww_Cn (l : Launch) (Y : ww_Y) (ad : Nat → Nat) (G : List ww_L) (y : MethodName) (cc : ByteArray) (nL : Nat) (ret : Option FieldType) (h : Nat) (av : List Value) (σ : ww_M) (o : Option ww_R) : Prop :=
  ∀ (sz : Nat) (r : ww_R), o = some r → Met l y (.code y cc nL ret :: ww_T) (ww_Rm h) (va_Pc av (ww_Pc Y ad G sz σ)) (ww_Qr Y ad G (ww_AA G ad sz) r) 0 0 (ww_AA G ad sz)
/-- what is fixed in a walk -/
abbrev ww_X : Type := Program × Launch × Env × Room × State × MethodId × Array Value × List Frame × Method × Code × Nat × Nat × (ww_R → State → Prop) × (Nat → Prop)
def ww_V (X : ww_X) (Y : ww_Y) (ad : Nat → Nat) (G : List ww_L) (nL : Nat) (σ : ww_M) (pc : Nat) (lv : List (Nat × Value)) (st : List Value) (o : Option ww_R) : Prop := match X with
  | (p, l, e, R, s, m, args, below, meth, c, cells, slots, Qf, A) => ∀ (H : Heap) (locs : List Loc) (ls : Array Slot) (r : ww_R), o = some r → va_P Y.1 vwCl (ww_W G ad Y.2.1 σ) H → va_S A s.heap H locs → lv_has ls nL lv → W p l e R s m args below meth c H locs cells slots (Qf r) (F0 m pc ls st)
def ww_C (X : ww_X) (l0 : Launch) (Y : ww_Y) (ad : Nat → Nat) (G : List ww_L) (h : Nat) (cc : ByteArray) (nL : Nat) (own : String) : Prop := match X with
  | (p, l, e, R, s, m, args, below, meth, c, cells, slots, Qf, A) => l = l0 ∧ (h ≤ R.frames ∧ 40 * h ≤ R.locals ∧ cells ≤ R.cells ∧ slots ≤ R.slots) ∧ p.tables.exec = Jvm.exec ∧ c.code = cc ∧ c.maxLocals = nL ∧ s.vm.findClass own = some m.cls ∧ (∀ w ∈ ww_T, w.before args s = true) ∧ ww_Ev Y A s s.heap ∧ (∀ i j, i < G.length → j < G.length → ad i = ad j → i = j) ∧ (∀ k, k < G.length → A (ad k)) ∧ (∀ q, s.heap.size ≤ q → A q)
def ww_CR (X : ww_X) (Y : ww_Y) (ad : Nat → Nat) (G : List ww_L) (ret : Option FieldType) : Prop := match X with
  | (p, l, e, R, s, m, args, below, meth, c, cells, slots, Qf, A) => meth.sig.returnType = ret ∧ meth.locks = false ∧ Qf = fun r => MQ below (ww_Qr Y ad G A r) args s cells slots A
theorem ww_D {G : List ww_L} {ad : Nat → Nat} {cA : Nat → ClassId} {σ : ww_M} {A : Nat → Prop} (hI : ∀ i j, i < G.length → j < G.length → ad i = ad j → i = j) (hA : ∀ k, k < G.length → A (ad k)) : va_D A (ww_W G ad cA σ) := by
  refine ⟨fun i j p q h1 h2 e => ?_, fun k q h => ?_⟩
  · obtain ⟨a1, a2⟩ := ww_W_at h1
    obtain ⟨b1, b2⟩ := ww_W_at h2
    exact hI i j a1 b1 (by rw [← a2, ← b2]; exact e)
  · obtain ⟨a1, a2⟩ := ww_W_at h
    rw [a2]
    exact hA k a1
theorem ww_Ev.warm {Y : ww_Y} {A B : Nat → Prop} {s U : State} {H H1 : Heap} (hW : s.WarmedH U.vm) (h : ww_Ev Y A s H) (hq : ∀ a : Nat, a < H.size → ¬ A a → H1[a]? = H[a]?) (hAB : ∀ q, q < H1.size → B q → A q) (hAB' : ∀ q, B q → A q) : ww_Ev Y B U H1 := by
  obtain ⟨h1, h2, h3, h4, h5⟩ := h
  refine ⟨va_K.moved hW.alike h1, fun w hw => ?_, ((h3.moved hW.alike).kept hq).narrow hAB', ?_, h5.warm hW⟩
  · have hg := ww_Ng hw
    have hz := h2 w hw
    cases w <;> first | exact va_Nw.warmF hW hz | exact va_Nw.warmM hW hz | cases hg
  · exact ⟨((h4.1.moved hW.alike).kept hq).narrow hAB', ((h4.2.moved hW.alike).kept hq).narrow hAB'⟩
/-! ===== rows that leave the memory ===== -/
section WROWS
variable {X : ww_X} {l0 : Launch} {Y : ww_Y} {ad : Nat → Nat} {G : List ww_L} {h nL pc : Nat} {cc : ByteArray} {own : String} {σ : ww_M} {lv lv' : List (Nat × Value)} {st : List Value} {o : Option ww_R}
theorem ww_eq {o' : Option ww_R} (e : o = o') (k : ww_V X Y ad G nL σ pc lv st o') : ww_V X Y ad G nL σ pc lv st o := e ▸ k
theorem ww_none (e : o = none) : ww_V X Y ad G nL σ pc lv st o := by
  subst e
  obtain ⟨p, l, e, R, s, m, args, below, meth, c, cells, slots, Qf, A⟩ := X
  intro H locs ls r hr
  cases hr
theorem ww_lv (ks : List Nat) (he : lv_pick lv ks = lv') (k : ww_V X Y ad G nL σ pc lv' st o) : ww_V X Y ad G nL σ pc lv st o := by
  obtain ⟨p, l, e, R, s, m, args, below, meth, c, cells, slots, Qf, A⟩ := X
  intro H locs ls r hr hP hS hl
  exact k H locs ls r hr hP hS (lv_sub hl ks he)
end WROWS
