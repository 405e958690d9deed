/-! ===== numbers as the machine has them ===== -/
def ww_rem (x y : Int32) : Int32 := x - x / y * y
def ww_remL (x y : Int64) : Int64 := x - x / y * y
def ww_shl (x y : Int32) : Int32 := x <<< (y &&& 31)
def ww_shr (x y : Int32) : Int32 := x >>> (y &&& 31)
def ww_ushr (x y : Int32) : Int32 := (x.toUInt32 >>> (y.toUInt32 &&& Int32.toUInt32 31)).toInt32
def ww_max (x y : Int32) : Int32 := if x < y then y else x
def ww_min (x y : Int32) : Int32 := if y < x then y else x
def ww_nz (y : Int32) : Bool := decide (¬ y = 0)
def ww_lnz (y : Int64) : Bool := decide (¬ y = 0)
def ww_in (i : Int32) (n : Nat) : Bool := decide (¬ (i < 0 ∨ n ≤ i.toNatClampNeg))
def ww_ix (i : Int32) : Nat := i.toNatClampNeg
def ww_isb (x : Int32) : Bool := decide (x = 0 ∨ x = 1)
def ww_ck {α : Type} (b : Bool) (E : Option α) : Option α := match b with
  | true => E
  | false => none
theorem ww_ck_some {α β : Type} {b : Bool} {E : Option α} {K : α → Option β} {r : β} (h : (ww_ck b E).bind K = some r) : b = true ∧ E.bind K = some r := by
  cases b with
  | true => exact ⟨rfl, h⟩
  | false => cases h
theorem ww_in_p {i : Int32} {n : Nat} (h : ww_in i n = true) : vp_in i n := by
  show ¬ (i < 0 ∨ n ≤ i.toNatClampNeg)
  exact of_decide_eq_true h
theorem ww_isb_n {x : Int32} (h : ww_isb x = true) : narrow .boolean (.int x) = .int x := by
  rcases of_decide_eq_true h with rfl | rfl <;> rfl
/-- a loop: its body goes on (inl) or is through (inr) -/
def ww_it {α β : Type} (f : α → Option (α ⊕ β)) : Nat → α → Option β
  | 0, _ => none
  | n + 1, x => match f x with
    | none => none
    | some (.inl y) => ww_it f n y
    | some (.inr b) => some b
def ww_F : Nat := 10000
section WROWS
variable {X : ww_X} {l0 : Launch} {Y : ww_Y} {ad : Nat → Nat} {G : List ww_L} {h nL pc : Nat} {cc : ByteArray} {own : String} {σ : ww_M} {lv lv' : List (Nat × Value)} {st : List Value} {o : Option ww_R} {α β : Type} {K : α → Option ww_R}
theorem ww_iconst (hC : ww_C X l0 Y ad G h cc nL own) {n : Int} (hd : decode cc pc = .ok (.iconst n, 1)) {v : Int32} (hv : Int32.ofInt n = v) (kk : ww_V X Y ad G nL σ (pc + 1) lv (.int v :: st) o) : ww_V X Y ad G nL σ pc lv st o := by
  obtain ⟨p, l, e, R, s, m, args, below, meth, c, cells, slots, Qf, A⟩ := X
  obtain ⟨rfl, ⟨hRf, hRl, hRc, hRs⟩, hx, hb, hml, hown, hts, hEv, hI, hAk, hA⟩ := hC
  intro H locs ls r hr hP hS hl
  exact lv_iconst hx hb hd hv (kk H locs ls r hr hP hS hl)
theorem ww_bipush (hC : ww_C X l0 Y ad G h cc nL own) {n : Int} (hd : decode cc pc = .ok (.bipush n, 2)) {v : Int32} (hv : (Int8.ofInt n).toInt32 = v) (kk : ww_V X Y ad G nL σ (pc + 2) lv (.int v :: st) o) : ww_V X Y ad G nL σ pc lv st o := by
  obtain ⟨p, l, e, R, s, m, args, below, meth, c, cells, slots, Qf, A⟩ := X
  obtain ⟨rfl, ⟨hRf, hRl, hRc, hRs⟩, hx, hb, hml, hown, hts, hEv, hI, hAk, hA⟩ := hC
  intro H locs ls r hr hP hS hl
  exact lv_bipush hx hb hd hv (kk H locs ls r hr hP hS hl)
theorem ww_sipush (hC : ww_C X l0 Y ad G h cc nL own) {n : Int} (hd : decode cc pc = .ok (.sipush n, 3)) {v : Int32} (hv : (Int16.ofInt n).toInt32 = v) (kk : ww_V X Y ad G nL σ (pc + 3) lv (.int v :: st) o) : ww_V X Y ad G nL σ pc lv st o := by
  obtain ⟨p, l, e, R, s, m, args, below, meth, c, cells, slots, Qf, A⟩ := X
  obtain ⟨rfl, ⟨hRf, hRl, hRc, hRs⟩, hx, hb, hml, hown, hts, hEv, hI, hAk, hA⟩ := hC
  intro H locs ls r hr hP hS hl
  exact lv_sipush hx hb hd hv (kk H locs ls r hr hP hS hl)
theorem ww_lconst (hC : ww_C X l0 Y ad G h cc nL own) {n : Fin 2} (hd : decode cc pc = .ok (.lconst n, 1)) {v : Int64} (hv : Int64.ofNat (n : Nat) = v) (kk : ww_V X Y ad G nL σ (pc + 1) lv (.long v :: st) o) : ww_V X Y ad G nL σ pc lv st o := by
  obtain ⟨p, l, e, R, s, m, args, below, meth, c, cells, slots, Qf, A⟩ := X
  obtain ⟨rfl, ⟨hRf, hRl, hRc, hRs⟩, hx, hb, hml, hown, hts, hEv, hI, hAk, hA⟩ := hC
  intro H locs ls r hr hP hS hl
  exact lv_lconst hx hb hd hv (kk H locs ls r hr hP hS hl)
theorem ww_ldc (hC : ww_C X l0 Y ad G h cc nL own) {n : Nat} {v : Int32} (hd : decode cc pc = .ok (.ldc n, 2)) (hw : Cond.constant own n v ∈ ww_T) (kk : ww_V X Y ad G nL σ (pc + 2) lv (.int v :: st) o) : ww_V X Y ad G nL σ pc lv st o := by
  obtain ⟨p, l, e, R, s, m, args, below, meth, c, cells, slots, Qf, A⟩ := X
  obtain ⟨rfl, ⟨hRf, hRl, hRc, hRs⟩, hx, hb, hml, hown, hts, hEv, hI, hAk, hA⟩ := hC
  intro H locs ls r hr hP hS hl
  exact lv_ldc hx hb hown (hts _ hw) hd (kk H locs ls r hr hP hS hl)
theorem ww_ldcw (hC : ww_C X l0 Y ad G h cc nL own) {n : Nat} {v : Int32} (hd : decode cc pc = .ok (.ldc_w n, 3)) (hw : Cond.constant own n v ∈ ww_T) (kk : ww_V X Y ad G nL σ (pc + 3) lv (.int v :: st) o) : ww_V X Y ad G nL σ pc lv st o := by
  obtain ⟨p, l, e, R, s, m, args, below, meth, c, cells, slots, Qf, A⟩ := X
  obtain ⟨rfl, ⟨hRf, hRl, hRc, hRs⟩, hx, hb, hml, hown, hts, hEv, hI, hAk, hA⟩ := hC
  intro H locs ls r hr hP hS hl
  exact lv_ldcw hx hb hown (hts _ hw) hd (kk H locs ls r hr hP hS hl)
theorem ww_ldc2 (hC : ww_C X l0 Y ad G h cc nL own) {n : Nat} {v : Int64} (hd : decode cc pc = .ok (.ldc2_w n, 3)) (hw : Cond.constantLong own n v ∈ ww_T) (kk : ww_V X Y ad G nL σ (pc + 3) lv (.long v :: st) o) : ww_V X Y ad G nL σ pc lv st o := by
  obtain ⟨p, l, e, R, s, m, args, below, meth, c, cells, slots, Qf, A⟩ := X
  obtain ⟨rfl, ⟨hRf, hRl, hRc, hRs⟩, hx, hb, hml, hown, hts, hEv, hI, hAk, hA⟩ := hC
  intro H locs ls r hr hP hS hl
  exact lv_ldc2 hx hb hown (hts _ hw) hd (kk H locs ls r hr hP hS hl)
theorem ww_iload_n (hC : ww_C X l0 Y ad G h cc nL own) {n : Fin 4} {i : Nat} {x : Int32} (j : Nat) (hj : lv[j]? = some (i, .int x)) (hd : decode cc pc = .ok (.iload_n n, 1)) (hi : (n : Nat) = i) (kk : ww_V X Y ad G nL σ (pc + 1) lv (.int x :: st) o) : ww_V X Y ad G nL σ pc lv st o := by
  obtain ⟨p, l, e, R, s, m, args, below, meth, c, cells, slots, Qf, A⟩ := X
  obtain ⟨rfl, ⟨hRf, hRl, hRc, hRs⟩, hx, hb, hml, hown, hts, hEv, hI, hAk, hA⟩ := hC
  intro H locs ls r hr hP hS hl
  exact lv_iload_n hx hb hd hi (lv_at hl j hj) (kk H locs ls r hr hP hS hl)
theorem ww_iload (hC : ww_C X l0 Y ad G h cc nL own) {i : Nat} {x : Int32} (j : Nat) (hj : lv[j]? = some (i, .int x)) (hd : decode cc pc = .ok (.iload i, 2)) (kk : ww_V X Y ad G nL σ (pc + 2) lv (.int x :: st) o) : ww_V X Y ad G nL σ pc lv st o := by
  obtain ⟨p, l, e, R, s, m, args, below, meth, c, cells, slots, Qf, A⟩ := X
  obtain ⟨rfl, ⟨hRf, hRl, hRc, hRs⟩, hx, hb, hml, hown, hts, hEv, hI, hAk, hA⟩ := hC
  intro H locs ls r hr hP hS hl
  exact lv_iload hx hb hd (lv_at hl j hj) (kk H locs ls r hr hP hS hl)
theorem ww_istore_n (hC : ww_C X l0 Y ad G h cc nL own) {n : Fin 4} {i : Nat} {x : Int32} (hd : decode cc pc = .ok (.istore_n n, 1)) (hi : (n : Nat) = i) (hn : i < nL) (hl2 : (i, Value.int x) :: lv.filter (fun q => !(q.1 == i) && !(q.1 + 1 == i && q.2.category == 2)) = lv') (kk : ww_V X Y ad G nL σ (pc + 1) lv' st o) : ww_V X Y ad G nL σ pc lv (.int x :: st) o := by
  obtain ⟨p, l, e, R, s, m, args, below, meth, c, cells, slots, Qf, A⟩ := X
  obtain ⟨rfl, ⟨hRf, hRl, hRc, hRs⟩, hx, hb, hml, hown, hts, hEv, hI, hAk, hA⟩ := hC
  intro H locs ls r hr hP hS hl
  exact lv_istore_n hx hb hd hi hl hn hl2 (fun ls hl => kk H locs ls r hr hP hS hl)
theorem ww_istore (hC : ww_C X l0 Y ad G h cc nL own) {i : Nat} {x : Int32} (hd : decode cc pc = .ok (.istore i, 2)) (hn : i < nL) (hl2 : (i, Value.int x) :: lv.filter (fun q => !(q.1 == i) && !(q.1 + 1 == i && q.2.category == 2)) = lv') (kk : ww_V X Y ad G nL σ (pc + 2) lv' st o) : ww_V X Y ad G nL σ pc lv (.int x :: st) o := by
  obtain ⟨p, l, e, R, s, m, args, below, meth, c, cells, slots, Qf, A⟩ := X
  obtain ⟨rfl, ⟨hRf, hRl, hRc, hRs⟩, hx, hb, hml, hown, hts, hEv, hI, hAk, hA⟩ := hC
  intro H locs ls r hr hP hS hl
  exact lv_istore hx hb hd hl hn hl2 (fun ls hl => kk H locs ls r hr hP hS hl)
theorem ww_lload_n (hC : ww_C X l0 Y ad G h cc nL own) {n : Fin 4} {i : Nat} {x : Int64} (j : Nat) (hj : lv[j]? = some (i, .long x)) (hd : decode cc pc = .ok (.lload_n n, 1)) (hi : (n : Nat) = i) (kk : ww_V X Y ad G nL σ (pc + 1) lv (.long x :: st) o) : ww_V X Y ad G nL σ pc lv st o := by
  obtain ⟨p, l, e, R, s, m, args, below, meth, c, cells, slots, Qf, A⟩ := X
  obtain ⟨rfl, ⟨hRf, hRl, hRc, hRs⟩, hx, hb, hml, hown, hts, hEv, hI, hAk, hA⟩ := hC
  intro H locs ls r hr hP hS hl
  exact lv_lload_n hx hb hd hi (lv_at hl j hj) (kk H locs ls r hr hP hS hl)
theorem ww_lload (hC : ww_C X l0 Y ad G h cc nL own) {i : Nat} {x : Int64} (j : Nat) (hj : lv[j]? = some (i, .long x)) (hd : decode cc pc = .ok (.lload i, 2)) (kk : ww_V X Y ad G nL σ (pc + 2) lv (.long x :: st) o) : ww_V X Y ad G nL σ pc lv st o := by
  obtain ⟨p, l, e, R, s, m, args, below, meth, c, cells, slots, Qf, A⟩ := X
  obtain ⟨rfl, ⟨hRf, hRl, hRc, hRs⟩, hx, hb, hml, hown, hts, hEv, hI, hAk, hA⟩ := hC
  intro H locs ls r hr hP hS hl
  exact lv_lload hx hb hd (lv_at hl j hj) (kk H locs ls r hr hP hS hl)
theorem ww_lstore_n (hC : ww_C X l0 Y ad G h cc nL own) {n : Fin 4} {i : Nat} {x : Int64} (hd : decode cc pc = .ok (.lstore_n n, 1)) (hi : (n : Nat) = i) (hn : i + 1 < nL) (hl2 : (i, Value.long x) :: lv.filter (fun q => !(q.1 == i) && (!(q.1 == i + 1) && !(q.1 + 1 == i && q.2.category == 2))) = lv') (kk : ww_V X Y ad G nL σ (pc + 1) lv' st o) : ww_V X Y ad G nL σ pc lv (.long x :: st) o := by
  obtain ⟨p, l, e, R, s, m, args, below, meth, c, cells, slots, Qf, A⟩ := X
  obtain ⟨rfl, ⟨hRf, hRl, hRc, hRs⟩, hx, hb, hml, hown, hts, hEv, hI, hAk, hA⟩ := hC
  intro H locs ls r hr hP hS hl
  exact lv_lstore_n hx hb hd hi hl hn hl2 (fun ls hl => kk H locs ls r hr hP hS hl)
theorem ww_lstore (hC : ww_C X l0 Y ad G h cc nL own) {i : Nat} {x : Int64} (hd : decode cc pc = .ok (.lstore i, 2)) (hn : i + 1 < nL) (hl2 : (i, Value.long x) :: lv.filter (fun q => !(q.1 == i) && (!(q.1 == i + 1) && !(q.1 + 1 == i && q.2.category == 2))) = lv') (kk : ww_V X Y ad G nL σ (pc + 2) lv' st o) : ww_V X Y ad G nL σ pc lv (.long x :: st) o := by
  obtain ⟨p, l, e, R, s, m, args, below, meth, c, cells, slots, Qf, A⟩ := X
  obtain ⟨rfl, ⟨hRf, hRl, hRc, hRs⟩, hx, hb, hml, hown, hts, hEv, hI, hAk, hA⟩ := hC
  intro H locs ls r hr hP hS hl
  exact lv_lstore hx hb hd hl hn hl2 (fun ls hl => kk H locs ls r hr hP hS hl)
theorem ww_aload_n (hC : ww_C X l0 Y ad G h cc nL own) {n : Fin 4} {i : Nat} {x : Nat} (j : Nat) (hj : lv[j]? = some (i, .ref x)) (hd : decode cc pc = .ok (.aload_n n, 1)) (hi : (n : Nat) = i) (kk : ww_V X Y ad G nL σ (pc + 1) lv (.ref x :: st) o) : ww_V X Y ad G nL σ pc lv st o := by
  obtain ⟨p, l, e, R, s, m, args, below, meth, c, cells, slots, Qf, A⟩ := X
  obtain ⟨rfl, ⟨hRf, hRl, hRc, hRs⟩, hx, hb, hml, hown, hts, hEv, hI, hAk, hA⟩ := hC
  intro H locs ls r hr hP hS hl
  exact lv_aload_n hx hb hd hi (lv_at hl j hj) (kk H locs ls r hr hP hS hl)
theorem ww_aload (hC : ww_C X l0 Y ad G h cc nL own) {i : Nat} {x : Nat} (j : Nat) (hj : lv[j]? = some (i, .ref x)) (hd : decode cc pc = .ok (.aload i, 2)) (kk : ww_V X Y ad G nL σ (pc + 2) lv (.ref x :: st) o) : ww_V X Y ad G nL σ pc lv st o := by
  obtain ⟨p, l, e, R, s, m, args, below, meth, c, cells, slots, Qf, A⟩ := X
  obtain ⟨rfl, ⟨hRf, hRl, hRc, hRs⟩, hx, hb, hml, hown, hts, hEv, hI, hAk, hA⟩ := hC
  intro H locs ls r hr hP hS hl
  exact lv_aload hx hb hd (lv_at hl j hj) (kk H locs ls r hr hP hS hl)
theorem ww_astore_n (hC : ww_C X l0 Y ad G h cc nL own) {n : Fin 4} {i : Nat} {x : Nat} (hd : decode cc pc = .ok (.astore_n n, 1)) (hi : (n : Nat) = i) (hn : i < nL) (hl2 : (i, Value.ref x) :: lv.filter (fun q => !(q.1 == i) && !(q.1 + 1 == i && q.2.category == 2)) = lv') (kk : ww_V X Y ad G nL σ (pc + 1) lv' st o) : ww_V X Y ad G nL σ pc lv (.ref x :: st) o := by
  obtain ⟨p, l, e, R, s, m, args, below, meth, c, cells, slots, Qf, A⟩ := X
  obtain ⟨rfl, ⟨hRf, hRl, hRc, hRs⟩, hx, hb, hml, hown, hts, hEv, hI, hAk, hA⟩ := hC
  intro H locs ls r hr hP hS hl
  exact lv_astore_n hx hb hd hi hl hn hl2 (fun ls hl => kk H locs ls r hr hP hS hl)
theorem ww_astore (hC : ww_C X l0 Y ad G h cc nL own) {i : Nat} {x : Nat} (hd : decode cc pc = .ok (.astore i, 2)) (hn : i < nL) (hl2 : (i, Value.ref x) :: lv.filter (fun q => !(q.1 == i) && !(q.1 + 1 == i && q.2.category == 2)) = lv') (kk : ww_V X Y ad G nL σ (pc + 2) lv' st o) : ww_V X Y ad G nL σ pc lv (.ref x :: st) o := by
  obtain ⟨p, l, e, R, s, m, args, below, meth, c, cells, slots, Qf, A⟩ := X
  obtain ⟨rfl, ⟨hRf, hRl, hRc, hRs⟩, hx, hb, hml, hown, hts, hEv, hI, hAk, hA⟩ := hC
  intro H locs ls r hr hP hS hl
  exact lv_astore hx hb hd hl hn hl2 (fun ls hl => kk H locs ls r hr hP hS hl)
theorem ww_iinc (hC : ww_C X l0 Y ad G h cc nL own) {i : Nat} {n : Int} {x v : Int32} (j : Nat) (hj : lv[j]? = some (i, .int x)) (hd : decode cc pc = .ok (.iinc i n, 3)) (hv : x + Int32.ofInt n = v) (hn : i < nL) (hl2 : (i, Value.int v) :: lv.filter (fun q => !(q.1 == i) && !(q.1 + 1 == i && q.2.category == 2)) = lv') (kk : ww_V X Y ad G nL σ (pc + 3) lv' st o) : ww_V X Y ad G nL σ pc lv st o := by
  obtain ⟨p, l, e, R, s, m, args, below, meth, c, cells, slots, Qf, A⟩ := X
  obtain ⟨rfl, ⟨hRf, hRl, hRc, hRs⟩, hx, hb, hml, hown, hts, hEv, hI, hAk, hA⟩ := hC
  intro H locs ls r hr hP hS hl
  exact lv_iinc hx hb hd hl hj hv hn hl2 (fun ls hl => kk H locs ls r hr hP hS hl)
theorem ww_iadd (hC : ww_C X l0 Y ad G h cc nL own) {x y : Int32} (hd : decode cc pc = .ok (.iadd, 1)) (kk : ww_V X Y ad G nL σ (pc + 1) lv (.int (x + y) :: st) o) : ww_V X Y ad G nL σ pc lv (.int y :: .int x :: st) o := by
  obtain ⟨p, l, e, R, s, m, args, below, meth, c, cells, slots, Qf, A⟩ := X
  obtain ⟨rfl, ⟨hRf, hRl, hRc, hRs⟩, hx, hb, hml, hown, hts, hEv, hI, hAk, hA⟩ := hC
  intro H locs ls r hr hP hS hl
  exact lv_iadd hx hb hd (kk H locs ls r hr hP hS hl)
theorem ww_isub (hC : ww_C X l0 Y ad G h cc nL own) {x y : Int32} (hd : decode cc pc = .ok (.isub, 1)) (kk : ww_V X Y ad G nL σ (pc + 1) lv (.int (x - y) :: st) o) : ww_V X Y ad G nL σ pc lv (.int y :: .int x :: st) o := by
  obtain ⟨p, l, e, R, s, m, args, below, meth, c, cells, slots, Qf, A⟩ := X
  obtain ⟨rfl, ⟨hRf, hRl, hRc, hRs⟩, hx, hb, hml, hown, hts, hEv, hI, hAk, hA⟩ := hC
  intro H locs ls r hr hP hS hl
  exact lv_isub hx hb hd (kk H locs ls r hr hP hS hl)
theorem ww_imul (hC : ww_C X l0 Y ad G h cc nL own) {x y : Int32} (hd : decode cc pc = .ok (.imul, 1)) (kk : ww_V X Y ad G nL σ (pc + 1) lv (.int (x * y) :: st) o) : ww_V X Y ad G nL σ pc lv (.int y :: .int x :: st) o := by
  obtain ⟨p, l, e, R, s, m, args, below, meth, c, cells, slots, Qf, A⟩ := X
  obtain ⟨rfl, ⟨hRf, hRl, hRc, hRs⟩, hx, hb, hml, hown, hts, hEv, hI, hAk, hA⟩ := hC
  intro H locs ls r hr hP hS hl
  exact lv_imul hx hb hd (kk H locs ls r hr hP hS hl)
theorem ww_iand (hC : ww_C X l0 Y ad G h cc nL own) {x y : Int32} (hd : decode cc pc = .ok (.iand, 1)) (kk : ww_V X Y ad G nL σ (pc + 1) lv (.int (x &&& y) :: st) o) : ww_V X Y ad G nL σ pc lv (.int y :: .int x :: st) o := by
  obtain ⟨p, l, e, R, s, m, args, below, meth, c, cells, slots, Qf, A⟩ := X
  obtain ⟨rfl, ⟨hRf, hRl, hRc, hRs⟩, hx, hb, hml, hown, hts, hEv, hI, hAk, hA⟩ := hC
  intro H locs ls r hr hP hS hl
  exact lv_iand hx hb hd (kk H locs ls r hr hP hS hl)
theorem ww_ior (hC : ww_C X l0 Y ad G h cc nL own) {x y : Int32} (hd : decode cc pc = .ok (.ior, 1)) (kk : ww_V X Y ad G nL σ (pc + 1) lv (.int (x ||| y) :: st) o) : ww_V X Y ad G nL σ pc lv (.int y :: .int x :: st) o := by
  obtain ⟨p, l, e, R, s, m, args, below, meth, c, cells, slots, Qf, A⟩ := X
  obtain ⟨rfl, ⟨hRf, hRl, hRc, hRs⟩, hx, hb, hml, hown, hts, hEv, hI, hAk, hA⟩ := hC
  intro H locs ls r hr hP hS hl
  exact lv_ior hx hb hd (kk H locs ls r hr hP hS hl)
theorem ww_ixor (hC : ww_C X l0 Y ad G h cc nL own) {x y : Int32} (hd : decode cc pc = .ok (.ixor, 1)) (kk : ww_V X Y ad G nL σ (pc + 1) lv (.int (x ^^^ y) :: st) o) : ww_V X Y ad G nL σ pc lv (.int y :: .int x :: st) o := by
  obtain ⟨p, l, e, R, s, m, args, below, meth, c, cells, slots, Qf, A⟩ := X
  obtain ⟨rfl, ⟨hRf, hRl, hRc, hRs⟩, hx, hb, hml, hown, hts, hEv, hI, hAk, hA⟩ := hC
  intro H locs ls r hr hP hS hl
  exact lv_ixor hx hb hd (kk H locs ls r hr hP hS hl)
theorem ww_ishl (hC : ww_C X l0 Y ad G h cc nL own) {x y : Int32} (hd : decode cc pc = .ok (.ishl, 1)) (kk : ww_V X Y ad G nL σ (pc + 1) lv (.int (ww_shl x y) :: st) o) : ww_V X Y ad G nL σ pc lv (.int y :: .int x :: st) o := by
  obtain ⟨p, l, e, R, s, m, args, below, meth, c, cells, slots, Qf, A⟩ := X
  obtain ⟨rfl, ⟨hRf, hRl, hRc, hRs⟩, hx, hb, hml, hown, hts, hEv, hI, hAk, hA⟩ := hC
  intro H locs ls r hr hP hS hl
  exact lv_ishl hx hb hd (kk H locs ls r hr hP hS hl)
theorem ww_ishr (hC : ww_C X l0 Y ad G h cc nL own) {x y : Int32} (hd : decode cc pc = .ok (.ishr, 1)) (kk : ww_V X Y ad G nL σ (pc + 1) lv (.int (ww_shr x y) :: st) o) : ww_V X Y ad G nL σ pc lv (.int y :: .int x :: st) o := by
  obtain ⟨p, l, e, R, s, m, args, below, meth, c, cells, slots, Qf, A⟩ := X
  obtain ⟨rfl, ⟨hRf, hRl, hRc, hRs⟩, hx, hb, hml, hown, hts, hEv, hI, hAk, hA⟩ := hC
  intro H locs ls r hr hP hS hl
  exact lv_ishr hx hb hd (kk H locs ls r hr hP hS hl)
theorem ww_iushr (hC : ww_C X l0 Y ad G h cc nL own) {x y : Int32} (hd : decode cc pc = .ok (.iushr, 1)) (kk : ww_V X Y ad G nL σ (pc + 1) lv (.int (ww_ushr x y) :: st) o) : ww_V X Y ad G nL σ pc lv (.int y :: .int x :: st) o := by
  obtain ⟨p, l, e, R, s, m, args, below, meth, c, cells, slots, Qf, A⟩ := X
  obtain ⟨rfl, ⟨hRf, hRl, hRc, hRs⟩, hx, hb, hml, hown, hts, hEv, hI, hAk, hA⟩ := hC
  intro H locs ls r hr hP hS hl
  exact lv_iushr hx hb hd rfl (kk H locs ls r hr hP hS hl)
theorem ww_ladd (hC : ww_C X l0 Y ad G h cc nL own) {x y : Int64} (hd : decode cc pc = .ok (.ladd, 1)) (kk : ww_V X Y ad G nL σ (pc + 1) lv (.long (x + y) :: st) o) : ww_V X Y ad G nL σ pc lv (.long y :: .long x :: st) o := by
  obtain ⟨p, l, e, R, s, m, args, below, meth, c, cells, slots, Qf, A⟩ := X
  obtain ⟨rfl, ⟨hRf, hRl, hRc, hRs⟩, hx, hb, hml, hown, hts, hEv, hI, hAk, hA⟩ := hC
  intro H locs ls r hr hP hS hl
  exact lv_ladd hx hb hd (kk H locs ls r hr hP hS hl)
theorem ww_lsub (hC : ww_C X l0 Y ad G h cc nL own) {x y : Int64} (hd : decode cc pc = .ok (.lsub, 1)) (kk : ww_V X Y ad G nL σ (pc + 1) lv (.long (x - y) :: st) o) : ww_V X Y ad G nL σ pc lv (.long y :: .long x :: st) o := by
  obtain ⟨p, l, e, R, s, m, args, below, meth, c, cells, slots, Qf, A⟩ := X
  obtain ⟨rfl, ⟨hRf, hRl, hRc, hRs⟩, hx, hb, hml, hown, hts, hEv, hI, hAk, hA⟩ := hC
  intro H locs ls r hr hP hS hl
  exact lv_lsub hx hb hd (kk H locs ls r hr hP hS hl)
theorem ww_lmul (hC : ww_C X l0 Y ad G h cc nL own) {x y : Int64} (hd : decode cc pc = .ok (.lmul, 1)) (kk : ww_V X Y ad G nL σ (pc + 1) lv (.long (x * y) :: st) o) : ww_V X Y ad G nL σ pc lv (.long y :: .long x :: st) o := by
  obtain ⟨p, l, e, R, s, m, args, below, meth, c, cells, slots, Qf, A⟩ := X
  obtain ⟨rfl, ⟨hRf, hRl, hRc, hRs⟩, hx, hb, hml, hown, hts, hEv, hI, hAk, hA⟩ := hC
  intro H locs ls r hr hP hS hl
  exact lv_lmul hx hb hd (kk H locs ls r hr hP hS hl)
theorem ww_lcmp (hC : ww_C X l0 Y ad G h cc nL own) {x y : Int64} (hd : decode cc pc = .ok (.lcmp, 1)) (kk : ww_V X Y ad G nL σ (pc + 1) lv (.int (lg_cmp x y) :: st) o) : ww_V X Y ad G nL σ pc lv (.long y :: .long x :: st) o := by
  obtain ⟨p, l, e, R, s, m, args, below, meth, c, cells, slots, Qf, A⟩ := X
  obtain ⟨rfl, ⟨hRf, hRl, hRc, hRs⟩, hx, hb, hml, hown, hts, hEv, hI, hAk, hA⟩ := hC
  intro H locs ls r hr hP hS hl
  exact W.lcmp hx hb hd (kk H locs ls r hr hP hS hl)
theorem ww_idiv_c (hC : ww_C X l0 Y ad G h cc nL own) {x y : Int32} (hd : decode cc pc = .ok (.idiv, 1)) (hy : ¬ y = 0) (kk : ww_V X Y ad G nL σ (pc + 1) lv (.int (x / y) :: st) o) : ww_V X Y ad G nL σ pc lv (.int y :: .int x :: st) o := by
  obtain ⟨p, l, e, R, s, m, args, below, meth, c, cells, slots, Qf, A⟩ := X
  obtain ⟨rfl, ⟨hRf, hRl, hRc, hRs⟩, hx, hb, hml, hown, hts, hEv, hI, hAk, hA⟩ := hC
  intro H locs ls r hr hP hS hl
  exact lv_idiv hx hb hd hy (kk H locs ls r hr hP hS hl)
theorem ww_irem_c (hC : ww_C X l0 Y ad G h cc nL own) {x y : Int32} (hd : decode cc pc = .ok (.irem, 1)) (hy : ¬ y = 0) (kk : ww_V X Y ad G nL σ (pc + 1) lv (.int (ww_rem x y) :: st) o) : ww_V X Y ad G nL σ pc lv (.int y :: .int x :: st) o := by
  obtain ⟨p, l, e, R, s, m, args, below, meth, c, cells, slots, Qf, A⟩ := X
  obtain ⟨rfl, ⟨hRf, hRl, hRc, hRs⟩, hx, hb, hml, hown, hts, hEv, hI, hAk, hA⟩ := hC
  intro H locs ls r hr hP hS hl
  exact lv_irem hx hb hd hy (kk H locs ls r hr hP hS hl)
theorem ww_ldiv_c (hC : ww_C X l0 Y ad G h cc nL own) {x y : Int64} (hd : decode cc pc = .ok (.ldiv, 1)) (hy : ¬ y = 0) (kk : ww_V X Y ad G nL σ (pc + 1) lv (.long (x / y) :: st) o) : ww_V X Y ad G nL σ pc lv (.long y :: .long x :: st) o := by
  obtain ⟨p, l, e, R, s, m, args, below, meth, c, cells, slots, Qf, A⟩ := X
  obtain ⟨rfl, ⟨hRf, hRl, hRc, hRs⟩, hx, hb, hml, hown, hts, hEv, hI, hAk, hA⟩ := hC
  intro H locs ls r hr hP hS hl
  exact lv_ldiv hx hb hd hy (kk H locs ls r hr hP hS hl)
theorem ww_lrem_c (hC : ww_C X l0 Y ad G h cc nL own) {x y : Int64} (hd : decode cc pc = .ok (.lrem, 1)) (hy : ¬ y = 0) (kk : ww_V X Y ad G nL σ (pc + 1) lv (.long (ww_remL x y) :: st) o) : ww_V X Y ad G nL σ pc lv (.long y :: .long x :: st) o := by
  obtain ⟨p, l, e, R, s, m, args, below, meth, c, cells, slots, Qf, A⟩ := X
  obtain ⟨rfl, ⟨hRf, hRl, hRc, hRs⟩, hx, hb, hml, hown, hts, hEv, hI, hAk, hA⟩ := hC
  intro H locs ls r hr hP hS hl
  exact lv_lrem hx hb hd hy (kk H locs ls r hr hP hS hl)
theorem ww_idiv (hC : ww_C X l0 Y ad G h cc nL own) {E : Option α} {x y : Int32} (hd : decode cc pc = .ok (.idiv, 1)) (kk : ww_V X Y ad G nL σ (pc + 1) lv (.int (x / y) :: st) (E.bind K)) : ww_V X Y ad G nL σ pc lv (.int y :: .int x :: st) ((ww_ck (ww_nz y) E).bind K) := by
  obtain ⟨p, l, e, R, s, m, args, below, meth, c, cells, slots, Qf, A⟩ := X
  obtain ⟨rfl, ⟨hRf, hRl, hRc, hRs⟩, hx, hb, hml, hown, hts, hEv, hI, hAk, hA⟩ := hC
  intro H locs ls r hr hP hS hl
  obtain ⟨hg, hr⟩ := ww_ck_some hr
  exact lv_idiv hx hb hd (of_decide_eq_true hg) (kk H locs ls r hr hP hS hl)
theorem ww_irem (hC : ww_C X l0 Y ad G h cc nL own) {E : Option α} {x y : Int32} (hd : decode cc pc = .ok (.irem, 1)) (kk : ww_V X Y ad G nL σ (pc + 1) lv (.int (ww_rem x y) :: st) (E.bind K)) : ww_V X Y ad G nL σ pc lv (.int y :: .int x :: st) ((ww_ck (ww_nz y) E).bind K) := by
  obtain ⟨p, l, e, R, s, m, args, below, meth, c, cells, slots, Qf, A⟩ := X
  obtain ⟨rfl, ⟨hRf, hRl, hRc, hRs⟩, hx, hb, hml, hown, hts, hEv, hI, hAk, hA⟩ := hC
  intro H locs ls r hr hP hS hl
  obtain ⟨hg, hr⟩ := ww_ck_some hr
  exact lv_irem hx hb hd (of_decide_eq_true hg) (kk H locs ls r hr hP hS hl)
theorem ww_ldiv (hC : ww_C X l0 Y ad G h cc nL own) {E : Option α} {x y : Int64} (hd : decode cc pc = .ok (.ldiv, 1)) (kk : ww_V X Y ad G nL σ (pc + 1) lv (.long (x / y) :: st) (E.bind K)) : ww_V X Y ad G nL σ pc lv (.long y :: .long x :: st) ((ww_ck (ww_lnz y) E).bind K) := by
  obtain ⟨p, l, e, R, s, m, args, below, meth, c, cells, slots, Qf, A⟩ := X
  obtain ⟨rfl, ⟨hRf, hRl, hRc, hRs⟩, hx, hb, hml, hown, hts, hEv, hI, hAk, hA⟩ := hC
  intro H locs ls r hr hP hS hl
  obtain ⟨hg, hr⟩ := ww_ck_some hr
  exact lv_ldiv hx hb hd (of_decide_eq_true hg) (kk H locs ls r hr hP hS hl)
theorem ww_lrem (hC : ww_C X l0 Y ad G h cc nL own) {E : Option α} {x y : Int64} (hd : decode cc pc = .ok (.lrem, 1)) (kk : ww_V X Y ad G nL σ (pc + 1) lv (.long (ww_remL x y) :: st) (E.bind K)) : ww_V X Y ad G nL σ pc lv (.long y :: .long x :: st) ((ww_ck (ww_lnz y) E).bind K) := by
  obtain ⟨p, l, e, R, s, m, args, below, meth, c, cells, slots, Qf, A⟩ := X
  obtain ⟨rfl, ⟨hRf, hRl, hRc, hRs⟩, hx, hb, hml, hown, hts, hEv, hI, hAk, hA⟩ := hC
  intro H locs ls r hr hP hS hl
  obtain ⟨hg, hr⟩ := ww_ck_some hr
  exact lv_lrem hx hb hd (of_decide_eq_true hg) (kk H locs ls r hr hP hS hl)
theorem ww_i2b (hC : ww_C X l0 Y ad G h cc nL own) {x : Int32} (hd : decode cc pc = .ok (.i2b, 1)) (kk : ww_V X Y ad G nL σ (pc + 1) lv (.int x.toInt8.toInt32 :: st) o) : ww_V X Y ad G nL σ pc lv (.int x :: st) o := by
  obtain ⟨p, l, e, R, s, m, args, below, meth, c, cells, slots, Qf, A⟩ := X
  obtain ⟨rfl, ⟨hRf, hRl, hRc, hRs⟩, hx, hb, hml, hown, hts, hEv, hI, hAk, hA⟩ := hC
  intro H locs ls r hr hP hS hl
  exact lv_i2b hx hb hd rfl (kk H locs ls r hr hP hS hl)
theorem ww_i2s (hC : ww_C X l0 Y ad G h cc nL own) {x : Int32} (hd : decode cc pc = .ok (.i2s, 1)) (kk : ww_V X Y ad G nL σ (pc + 1) lv (.int x.toInt16.toInt32 :: st) o) : ww_V X Y ad G nL σ pc lv (.int x :: st) o := by
  obtain ⟨p, l, e, R, s, m, args, below, meth, c, cells, slots, Qf, A⟩ := X
  obtain ⟨rfl, ⟨hRf, hRl, hRc, hRs⟩, hx, hb, hml, hown, hts, hEv, hI, hAk, hA⟩ := hC
  intro H locs ls r hr hP hS hl
  exact lv_i2s hx hb hd rfl (kk H locs ls r hr hP hS hl)
theorem ww_i2l (hC : ww_C X l0 Y ad G h cc nL own) {x : Int32} (hd : decode cc pc = .ok (.i2l, 1)) (kk : ww_V X Y ad G nL σ (pc + 1) lv (.long x.toInt64 :: st) o) : ww_V X Y ad G nL σ pc lv (.int x :: st) o := by
  obtain ⟨p, l, e, R, s, m, args, below, meth, c, cells, slots, Qf, A⟩ := X
  obtain ⟨rfl, ⟨hRf, hRl, hRc, hRs⟩, hx, hb, hml, hown, hts, hEv, hI, hAk, hA⟩ := hC
  intro H locs ls r hr hP hS hl
  exact lv_i2l hx hb hd rfl (kk H locs ls r hr hP hS hl)
theorem ww_dup (hC : ww_C X l0 Y ad G h cc nL own) {x : Value} (hd : decode cc pc = .ok (.dup, 1)) (hx1 : x.category = 1) (kk : ww_V X Y ad G nL σ (pc + 1) lv (x :: x :: st) o) : ww_V X Y ad G nL σ pc lv (x :: st) o := by
  obtain ⟨p, l, e, R, s, m, args, below, meth, c, cells, slots, Qf, A⟩ := X
  obtain ⟨rfl, ⟨hRf, hRl, hRc, hRs⟩, hx, hb, hml, hown, hts, hEv, hI, hAk, hA⟩ := hC
  intro H locs ls r hr hP hS hl
  exact lv_dup hx hb hd hx1 (kk H locs ls r hr hP hS hl)
theorem ww_dup2 (hC : ww_C X l0 Y ad G h cc nL own) {x y : Value} (hd : decode cc pc = .ok (.dup2, 1)) (hx1 : x.category = 1) (hy1 : y.category = 1) (kk : ww_V X Y ad G nL σ (pc + 1) lv (x :: y :: x :: y :: st) o) : ww_V X Y ad G nL σ pc lv (x :: y :: st) o := by
  obtain ⟨p, l, e, R, s, m, args, below, meth, c, cells, slots, Qf, A⟩ := X
  obtain ⟨rfl, ⟨hRf, hRl, hRc, hRs⟩, hx, hb, hml, hown, hts, hEv, hI, hAk, hA⟩ := hC
  intro H locs ls r hr hP hS hl
  exact lv_dup2_11 hx hb hd hx1 hy1 (kk H locs ls r hr hP hS hl)
theorem ww_pop (hC : ww_C X l0 Y ad G h cc nL own) {x : Value} (hd : decode cc pc = .ok (.pop, 1)) (hx1 : x.category = 1) (kk : ww_V X Y ad G nL σ (pc + 1) lv st o) : ww_V X Y ad G nL σ pc lv (x :: st) o := by
  obtain ⟨p, l, e, R, s, m, args, below, meth, c, cells, slots, Qf, A⟩ := X
  obtain ⟨rfl, ⟨hRf, hRl, hRc, hRs⟩, hx, hb, hml, hown, hts, hEv, hI, hAk, hA⟩ := hC
  intro H locs ls r hr hP hS hl
  exact lv_pop hx hb hd hx1 (kk H locs ls r hr hP hS hl)
theorem ww_goto (hC : ww_C X l0 Y ad G h cc nL own) {off : Int} {tgt : Nat} (hd : decode cc pc = .ok (.goto off, 3)) (ht : (pc : Int) + off = (tgt : Int)) (kk : ww_V X Y ad G nL σ tgt lv st o) : ww_V X Y ad G nL σ pc lv st o := by
  obtain ⟨p, l, e, R, s, m, args, below, meth, c, cells, slots, Qf, A⟩ := X
  obtain ⟨rfl, ⟨hRf, hRl, hRc, hRs⟩, hx, hb, hml, hown, hts, hEv, hI, hAk, hA⟩ := hC
  intro H locs ls r hr hP hS hl
  exact lv_goto hx hb hd ht (kk H locs ls r hr hP hS hl)
theorem ww_if_eq (hC : ww_C X l0 Y ad G h cc nL own) {E1 E2 : Option α} {x : Int32} {off : Int} {tgt : Nat} (hd : decode cc pc = .ok (.ifCond .eq off, 3)) (ht : (pc : Int) + off = (tgt : Int)) (kt : ww_V X Y ad G nL σ tgt lv st (E1.bind K)) (kf : ww_V X Y ad G nL σ (pc + 3) lv st (E2.bind K)) : ww_V X Y ad G nL σ pc lv (.int x :: st) ((if x = 0 then E1 else E2).bind K) := by
  obtain ⟨p, l, e, R, s, m, args, below, meth, c, cells, slots, Qf, A⟩ := X
  obtain ⟨rfl, ⟨hRf, hRl, hRc, hRs⟩, hx, hb, hml, hown, hts, hEv, hI, hAk, hA⟩ := hC
  intro H locs ls r hr hP hS hl
  exact lv_if_eq hx hb hd ht (fun q => kt H locs ls r (by rw [if_pos q] at hr; exact hr) hP hS hl) (fun q => kf H locs ls r (by rw [if_neg q] at hr; exact hr) hP hS hl)
theorem ww_if_ne (hC : ww_C X l0 Y ad G h cc nL own) {E1 E2 : Option α} {x : Int32} {off : Int} {tgt : Nat} (hd : decode cc pc = .ok (.ifCond .ne off, 3)) (ht : (pc : Int) + off = (tgt : Int)) (kt : ww_V X Y ad G nL σ tgt lv st (E2.bind K)) (kf : ww_V X Y ad G nL σ (pc + 3) lv st (E1.bind K)) : ww_V X Y ad G nL σ pc lv (.int x :: st) ((if x = 0 then E1 else E2).bind K) := by
  obtain ⟨p, l, e, R, s, m, args, below, meth, c, cells, slots, Qf, A⟩ := X
  obtain ⟨rfl, ⟨hRf, hRl, hRc, hRs⟩, hx, hb, hml, hown, hts, hEv, hI, hAk, hA⟩ := hC
  intro H locs ls r hr hP hS hl
  exact lv_if_ne hx hb hd ht (fun q => kt H locs ls r (by rw [if_neg q] at hr; exact hr) hP hS hl) (fun q => kf H locs ls r (by rw [if_pos q] at hr; exact hr) hP hS hl)
theorem ww_if_lt (hC : ww_C X l0 Y ad G h cc nL own) {E1 E2 : Option α} {x : Int32} {off : Int} {tgt : Nat} (hd : decode cc pc = .ok (.ifCond .lt off, 3)) (ht : (pc : Int) + off = (tgt : Int)) (kt : ww_V X Y ad G nL σ tgt lv st (E1.bind K)) (kf : ww_V X Y ad G nL σ (pc + 3) lv st (E2.bind K)) : ww_V X Y ad G nL σ pc lv (.int x :: st) ((if x < 0 then E1 else E2).bind K) := by
  obtain ⟨p, l, e, R, s, m, args, below, meth, c, cells, slots, Qf, A⟩ := X
  obtain ⟨rfl, ⟨hRf, hRl, hRc, hRs⟩, hx, hb, hml, hown, hts, hEv, hI, hAk, hA⟩ := hC
  intro H locs ls r hr hP hS hl
  exact lv_if_lt hx hb hd ht (fun q => kt H locs ls r (by rw [if_pos q] at hr; exact hr) hP hS hl) (fun q => kf H locs ls r (by rw [if_neg q] at hr; exact hr) hP hS hl)
theorem ww_if_ge (hC : ww_C X l0 Y ad G h cc nL own) {E1 E2 : Option α} {x : Int32} {off : Int} {tgt : Nat} (hd : decode cc pc = .ok (.ifCond .ge off, 3)) (ht : (pc : Int) + off = (tgt : Int)) (kt : ww_V X Y ad G nL σ tgt lv st (E1.bind K)) (kf : ww_V X Y ad G nL σ (pc + 3) lv st (E2.bind K)) : ww_V X Y ad G nL σ pc lv (.int x :: st) ((if 0 ≤ x then E1 else E2).bind K) := by
  obtain ⟨p, l, e, R, s, m, args, below, meth, c, cells, slots, Qf, A⟩ := X
  obtain ⟨rfl, ⟨hRf, hRl, hRc, hRs⟩, hx, hb, hml, hown, hts, hEv, hI, hAk, hA⟩ := hC
  intro H locs ls r hr hP hS hl
  exact lv_if_ge hx hb hd ht (fun q => kt H locs ls r (by rw [if_pos q] at hr; exact hr) hP hS hl) (fun q => kf H locs ls r (by rw [if_neg q] at hr; exact hr) hP hS hl)
theorem ww_if_gt (hC : ww_C X l0 Y ad G h cc nL own) {E1 E2 : Option α} {x : Int32} {off : Int} {tgt : Nat} (hd : decode cc pc = .ok (.ifCond .gt off, 3)) (ht : (pc : Int) + off = (tgt : Int)) (kt : ww_V X Y ad G nL σ tgt lv st (E1.bind K)) (kf : ww_V X Y ad G nL σ (pc + 3) lv st (E2.bind K)) : ww_V X Y ad G nL σ pc lv (.int x :: st) ((if 0 < x then E1 else E2).bind K) := by
  obtain ⟨p, l, e, R, s, m, args, below, meth, c, cells, slots, Qf, A⟩ := X
  obtain ⟨rfl, ⟨hRf, hRl, hRc, hRs⟩, hx, hb, hml, hown, hts, hEv, hI, hAk, hA⟩ := hC
  intro H locs ls r hr hP hS hl
  exact lv_if_gt hx hb hd ht (fun q => kt H locs ls r (by rw [if_pos q] at hr; exact hr) hP hS hl) (fun q => kf H locs ls r (by rw [if_neg q] at hr; exact hr) hP hS hl)
theorem ww_if_le (hC : ww_C X l0 Y ad G h cc nL own) {E1 E2 : Option α} {x : Int32} {off : Int} {tgt : Nat} (hd : decode cc pc = .ok (.ifCond .le off, 3)) (ht : (pc : Int) + off = (tgt : Int)) (kt : ww_V X Y ad G nL σ tgt lv st (E1.bind K)) (kf : ww_V X Y ad G nL σ (pc + 3) lv st (E2.bind K)) : ww_V X Y ad G nL σ pc lv (.int x :: st) ((if x ≤ 0 then E1 else E2).bind K) := by
  obtain ⟨p, l, e, R, s, m, args, below, meth, c, cells, slots, Qf, A⟩ := X
  obtain ⟨rfl, ⟨hRf, hRl, hRc, hRs⟩, hx, hb, hml, hown, hts, hEv, hI, hAk, hA⟩ := hC
  intro H locs ls r hr hP hS hl
  exact lv_if_le hx hb hd ht (fun q => kt H locs ls r (by rw [if_pos q] at hr; exact hr) hP hS hl) (fun q => kf H locs ls r (by rw [if_neg q] at hr; exact hr) hP hS hl)
theorem ww_icmp_eq (hC : ww_C X l0 Y ad G h cc nL own) {E1 E2 : Option α} {x y : Int32} {off : Int} {tgt : Nat} (hd : decode cc pc = .ok (.if_icmp .eq off, 3)) (ht : (pc : Int) + off = (tgt : Int)) (kt : ww_V X Y ad G nL σ tgt lv st (E1.bind K)) (kf : ww_V X Y ad G nL σ (pc + 3) lv st (E2.bind K)) : ww_V X Y ad G nL σ pc lv (.int y :: .int x :: st) ((if x = y then E1 else E2).bind K) := by
  obtain ⟨p, l, e, R, s, m, args, below, meth, c, cells, slots, Qf, A⟩ := X
  obtain ⟨rfl, ⟨hRf, hRl, hRc, hRs⟩, hx, hb, hml, hown, hts, hEv, hI, hAk, hA⟩ := hC
  intro H locs ls r hr hP hS hl
  exact lv_icmp_eq hx hb hd ht (fun q => kt H locs ls r (by rw [if_pos q] at hr; exact hr) hP hS hl) (fun q => kf H locs ls r (by rw [if_neg q] at hr; exact hr) hP hS hl)
theorem ww_icmp_ne (hC : ww_C X l0 Y ad G h cc nL own) {E1 E2 : Option α} {x y : Int32} {off : Int} {tgt : Nat} (hd : decode cc pc = .ok (.if_icmp .ne off, 3)) (ht : (pc : Int) + off = (tgt : Int)) (kt : ww_V X Y ad G nL σ tgt lv st (E2.bind K)) (kf : ww_V X Y ad G nL σ (pc + 3) lv st (E1.bind K)) : ww_V X Y ad G nL σ pc lv (.int y :: .int x :: st) ((if x = y then E1 else E2).bind K) := by
  obtain ⟨p, l, e, R, s, m, args, below, meth, c, cells, slots, Qf, A⟩ := X
  obtain ⟨rfl, ⟨hRf, hRl, hRc, hRs⟩, hx, hb, hml, hown, hts, hEv, hI, hAk, hA⟩ := hC
  intro H locs ls r hr hP hS hl
  exact lv_icmp_ne hx hb hd ht (fun q => kt H locs ls r (by rw [if_neg q] at hr; exact hr) hP hS hl) (fun q => kf H locs ls r (by rw [if_pos q] at hr; exact hr) hP hS hl)
theorem ww_icmp_lt (hC : ww_C X l0 Y ad G h cc nL own) {E1 E2 : Option α} {x y : Int32} {off : Int} {tgt : Nat} (hd : decode cc pc = .ok (.if_icmp .lt off, 3)) (ht : (pc : Int) + off = (tgt : Int)) (kt : ww_V X Y ad G nL σ tgt lv st (E1.bind K)) (kf : ww_V X Y ad G nL σ (pc + 3) lv st (E2.bind K)) : ww_V X Y ad G nL σ pc lv (.int y :: .int x :: st) ((if x < y then E1 else E2).bind K) := by
  obtain ⟨p, l, e, R, s, m, args, below, meth, c, cells, slots, Qf, A⟩ := X
  obtain ⟨rfl, ⟨hRf, hRl, hRc, hRs⟩, hx, hb, hml, hown, hts, hEv, hI, hAk, hA⟩ := hC
  intro H locs ls r hr hP hS hl
  exact lv_icmp_lt hx hb hd ht (fun q => kt H locs ls r (by rw [if_pos q] at hr; exact hr) hP hS hl) (fun q => kf H locs ls r (by rw [if_neg q] at hr; exact hr) hP hS hl)
theorem ww_icmp_ge (hC : ww_C X l0 Y ad G h cc nL own) {E1 E2 : Option α} {x y : Int32} {off : Int} {tgt : Nat} (hd : decode cc pc = .ok (.if_icmp .ge off, 3)) (ht : (pc : Int) + off = (tgt : Int)) (kt : ww_V X Y ad G nL σ tgt lv st (E1.bind K)) (kf : ww_V X Y ad G nL σ (pc + 3) lv st (E2.bind K)) : ww_V X Y ad G nL σ pc lv (.int y :: .int x :: st) ((if y ≤ x then E1 else E2).bind K) := by
  obtain ⟨p, l, e, R, s, m, args, below, meth, c, cells, slots, Qf, A⟩ := X
  obtain ⟨rfl, ⟨hRf, hRl, hRc, hRs⟩, hx, hb, hml, hown, hts, hEv, hI, hAk, hA⟩ := hC
  intro H locs ls r hr hP hS hl
  exact lv_icmp_ge hx hb hd ht (fun q => kt H locs ls r (by rw [if_pos q] at hr; exact hr) hP hS hl) (fun q => kf H locs ls r (by rw [if_neg q] at hr; exact hr) hP hS hl)
theorem ww_icmp_gt (hC : ww_C X l0 Y ad G h cc nL own) {E1 E2 : Option α} {x y : Int32} {off : Int} {tgt : Nat} (hd : decode cc pc = .ok (.if_icmp .gt off, 3)) (ht : (pc : Int) + off = (tgt : Int)) (kt : ww_V X Y ad G nL σ tgt lv st (E1.bind K)) (kf : ww_V X Y ad G nL σ (pc + 3) lv st (E2.bind K)) : ww_V X Y ad G nL σ pc lv (.int y :: .int x :: st) ((if y < x then E1 else E2).bind K) := by
  obtain ⟨p, l, e, R, s, m, args, below, meth, c, cells, slots, Qf, A⟩ := X
  obtain ⟨rfl, ⟨hRf, hRl, hRc, hRs⟩, hx, hb, hml, hown, hts, hEv, hI, hAk, hA⟩ := hC
  intro H locs ls r hr hP hS hl
  exact lv_icmp_gt hx hb hd ht (fun q => kt H locs ls r (by rw [if_pos q] at hr; exact hr) hP hS hl) (fun q => kf H locs ls r (by rw [if_neg q] at hr; exact hr) hP hS hl)
theorem ww_icmp_le (hC : ww_C X l0 Y ad G h cc nL own) {E1 E2 : Option α} {x y : Int32} {off : Int} {tgt : Nat} (hd : decode cc pc = .ok (.if_icmp .le off, 3)) (ht : (pc : Int) + off = (tgt : Int)) (kt : ww_V X Y ad G nL σ tgt lv st (E1.bind K)) (kf : ww_V X Y ad G nL σ (pc + 3) lv st (E2.bind K)) : ww_V X Y ad G nL σ pc lv (.int y :: .int x :: st) ((if x ≤ y then E1 else E2).bind K) := by
  obtain ⟨p, l, e, R, s, m, args, below, meth, c, cells, slots, Qf, A⟩ := X
  obtain ⟨rfl, ⟨hRf, hRl, hRc, hRs⟩, hx, hb, hml, hown, hts, hEv, hI, hAk, hA⟩ := hC
  intro H locs ls r hr hP hS hl
  exact lv_icmp_le hx hb hd ht (fun q => kt H locs ls r (by rw [if_pos q] at hr; exact hr) hP hS hl) (fun q => kf H locs ls r (by rw [if_neg q] at hr; exact hr) hP hS hl)
theorem ww_tab (hC : ww_C X l0 Y ad G h cc nL own) {E1 E2 : Option α} {x : Int32} (v : Int32) {dflt lo hi : Int} {offs : Array Int} {len : Nat} {off : Int} {tgt : Nat} (hd : decode cc pc = .ok (.tableswitch dflt lo hi offs, len)) (h1 : ¬ v.toInt < lo) (h2 : ¬ hi < v.toInt) (ho : offs[(v.toInt - lo).toNat]? = some off) (ht : (pc : Int) + off = (tgt : Int)) (k1 : ww_V X Y ad G nL σ tgt lv st (E1.bind K)) (k2 : ¬ x = v → ww_V X Y ad G nL σ pc lv (.int x :: st) (E2.bind K)) : ww_V X Y ad G nL σ pc lv (.int x :: st) ((if x = v then E1 else E2).bind K) := by
  by_cases q : x = v
  · rw [if_pos q]
    subst q
    obtain ⟨p, l, e, R, s, m, args, below, meth, c, cells, slots, Qf, A⟩ := X
    obtain ⟨rfl, ⟨hRf, hRl, hRc, hRs⟩, hx, hb, hml, hown, hts, hEv, hI, hAk, hA⟩ := hC
    intro H locs ls r hr hP hS hl
    exact lv_tableIn hx hb hd h1 h2 ho ht (k1 H locs ls r hr hP hS hl)
  · rw [if_neg q]
    exact k2 q
theorem ww_tabD (hC : ww_C X l0 Y ad G h cc nL own) {x : Int32} {dflt lo hi : Int} {offs : Array Int} {len : Nat} {tgt : Nat} (hd : decode cc pc = .ok (.tableswitch dflt lo hi offs, len)) (hq : x.toInt < lo ∨ hi < x.toInt) (ht : (pc : Int) + dflt = (tgt : Int)) (kk : ww_V X Y ad G nL σ tgt lv st o) : ww_V X Y ad G nL σ pc lv (.int x :: st) o := by
  obtain ⟨p, l, e, R, s, m, args, below, meth, c, cells, slots, Qf, A⟩ := X
  obtain ⟨rfl, ⟨hRf, hRl, hRc, hRs⟩, hx, hb, hml, hown, hts, hEv, hI, hAk, hA⟩ := hC
  intro H locs ls r hr hP hS hl
  exact lv_tableOut hx hb hd hq ht (kk H locs ls r hr hP hS hl)
theorem ww_look (hC : ww_C X l0 Y ad G h cc nL own) {E1 E2 : Option α} {x : Int32} (v : Int32) {dflt : Int} {ps : Array (Int × Int)} {len : Nat} {off : Int} {tgt : Nat} (hd : decode cc pc = .ok (.lookupswitch dflt ps, len)) (hp : (ps.toList.zip (ps.toList.drop 1)).all (fun (a, next) => a.1 < next.1) = true) (ho : Op.lookupswitch.offset ps.toList dflt v.toInt = off) (ht : (pc : Int) + off = (tgt : Int)) (k1 : ww_V X Y ad G nL σ tgt lv st (E1.bind K)) (k2 : ¬ x = v → ww_V X Y ad G nL σ pc lv (.int x :: st) (E2.bind K)) : ww_V X Y ad G nL σ pc lv (.int x :: st) ((if x = v then E1 else E2).bind K) := by
  by_cases q : x = v
  · rw [if_pos q]
    subst q
    obtain ⟨p, l, e, R, s, m, args, below, meth, c, cells, slots, Qf, A⟩ := X
    obtain ⟨rfl, ⟨hRf, hRl, hRc, hRs⟩, hx, hb, hml, hown, hts, hEv, hI, hAk, hA⟩ := hC
    intro H locs ls r hr hP hS hl
    exact lv_lookup hx hb hd hp ho ht (k1 H locs ls r hr hP hS hl)
  · rw [if_neg q]
    exact k2 q
theorem ww_lookD (hC : ww_C X l0 Y ad G h cc nL own) {x : Int32} {dflt : Int} {ps : Array (Int × Int)} {len : Nat} {tgt : Nat} (hd : decode cc pc = .ok (.lookupswitch dflt ps, len)) (hp : (ps.toList.zip (ps.toList.drop 1)).all (fun (a, next) => a.1 < next.1) = true) (ho : Op.lookupswitch.offset ps.toList dflt x.toInt = dflt) (ht : (pc : Int) + dflt = (tgt : Int)) (kk : ww_V X Y ad G nL σ tgt lv st o) : ww_V X Y ad G nL σ pc lv (.int x :: st) o := by
  obtain ⟨p, l, e, R, s, m, args, below, meth, c, cells, slots, Qf, A⟩ := X
  obtain ⟨rfl, ⟨hRf, hRl, hRc, hRs⟩, hx, hb, hml, hown, hts, hEv, hI, hAk, hA⟩ := hC
  intro H locs ls r hr hP hS hl
  exact lv_lookup hx hb hd hp ho ht (kk H locs ls r hr hP hS hl)
theorem ww_nei {x v : Int32} (q : ¬ x = v) : x.toInt ≠ v.toInt := fun e => q (Int32.toInt_inj.mp e)
theorem ww_mmax (hC : ww_C X l0 Y ad G h cc nL own) {x y : Int32} {n : Nat} (hd : decode cc pc = .ok (.invokestatic n, 3)) (hlk : Cond.methodLink own n Lib.Math.max.name ∈ ww_T) (hst : Cond.static Lib.Math.max.name ∈ ww_T) (hin : Cond.initialized "java/lang/Math" ∈ ww_T) (hco : Cond.code Lib.Math.max.name Lib.Math.max.code 2 (some .int) ∈ ww_T) (hh : 1 ≤ h) (hs8 : (st.map fun v => v.category).sum ≤ 8) (kk : ww_V X Y ad G nL σ (pc + 3) lv (.int (ww_max x y) :: st) o) : ww_V X Y ad G nL σ pc lv (.int y :: .int x :: st) o := by
  obtain ⟨p, l, e, R, s, m, args, below, meth, c, cells, slots, Qf, A⟩ := X
  obtain ⟨rfl, ⟨hRf, hRl, hRc, hRs⟩, hx, hb, hml, hown, hts, hEv, hI, hAk, hA⟩ := hC
  intro H locs ls r hr hP hS hl
  exact va_mmax hx hb (by rw [hml]; exact hl.1.symm) hown (hts _ hlk) (hts _ hst) (hts _ hin) (hts _ hco) (by omega) (by omega) hRc hRs hd (kk H locs ls r hr hP hS hl)
theorem ww_mmin (hC : ww_C X l0 Y ad G h cc nL own) {x y : Int32} {n : Nat} (hd : decode cc pc = .ok (.invokestatic n, 3)) (hlk : Cond.methodLink own n Lib.Math.min.name ∈ ww_T) (hst : Cond.static Lib.Math.min.name ∈ ww_T) (hin : Cond.initialized "java/lang/Math" ∈ ww_T) (hco : Cond.code Lib.Math.min.name Lib.Math.min.code 2 (some .int) ∈ ww_T) (hh : 1 ≤ h) (hs8 : (st.map fun v => v.category).sum ≤ 8) (kk : ww_V X Y ad G nL σ (pc + 3) lv (.int (ww_min x y) :: st) o) : ww_V X Y ad G nL σ pc lv (.int y :: .int x :: st) o := by
  obtain ⟨p, l, e, R, s, m, args, below, meth, c, cells, slots, Qf, A⟩ := X
  obtain ⟨rfl, ⟨hRf, hRl, hRc, hRs⟩, hx, hb, hml, hown, hts, hEv, hI, hAk, hA⟩ := hC
  intro H locs ls r hr hP hS hl
  exact va_mmin hx hb (by rw [hml]; exact hl.1.symm) hown (hts _ hlk) (hts _ hst) (hts _ hin) (hts _ hco) (by omega) (by omega) hRc hRs hd (kk H locs ls r hr hP hS hl)
theorem ww_getr (hC : ww_C X l0 Y ad G h cc nL own) {k ci n N j : Nat} {fs : List (Option Nat)} {Cl ref : String} {T : u_T} (hG : G[k]? = some (.inl (ci, fs))) (hc : vwCl[ci]? = some (Cl, T, N)) (hin : ∀ w ∈ u_ws Cl T N, w ∈ ww_T) (hj : j < N) (hlk : Cond.fieldLink own n ref (T j).2.1 (T j).2.2.1 ∈ ww_T) (hrf : (T j).1 = ref) {q : Nat} (hf : fs[j]? = some (some q)) (hd : decode cc pc = .ok (.getfield n, 3)) (kk : ww_V X Y ad G nL σ (pc + 3) lv (.ref (ad q) :: st) o) : ww_V X Y ad G nL σ pc lv (.ref (ad k) :: st) o := by
  obtain ⟨p, l, e, R, s, m, args, below, meth, c, cells, slots, Qf, A⟩ := X
  obtain ⟨rfl, ⟨hRf, hRl, hRc, hRs⟩, hx, hb, hml, hown, hts, hEv, hI, hAk, hA⟩ := hC
  intro H locs ls r hr hP hS hl
  exact va_get hx hb hts hin hown hEv.1 hP k (ww_W_get hG) hc j hj (hts _ hlk) (fun _ h9 => by rw [← hrf]; exact h9) (by simp [ww_fs, List.getElem?_mapIdx, hf, ww_fld]) hd (kk H locs ls r hr hP hS hl)
theorem ww_geti (hC : ww_C X l0 Y ad G h cc nL own) {k ci n N j : Nat} {fs : List (Option Nat)} {Cl ref : String} {T : u_T} (hG : G[k]? = some (.inl (ci, fs))) (hc : vwCl[ci]? = some (Cl, T, N)) (hin : ∀ w ∈ u_ws Cl T N, w ∈ ww_T) (hj : j < N) (hlk : Cond.fieldLink own n ref (T j).2.1 (T j).2.2.1 ∈ ww_T) (hrf : (T j).1 = ref) (hf : fs[j]? = some none) (hd : decode cc pc = .ok (.getfield n, 3)) (kk : ww_V X Y ad G nL σ (pc + 3) lv (.int (σ k j) :: st) o) : ww_V X Y ad G nL σ pc lv (.ref (ad k) :: st) o := by
  obtain ⟨p, l, e, R, s, m, args, below, meth, c, cells, slots, Qf, A⟩ := X
  obtain ⟨rfl, ⟨hRf, hRl, hRc, hRs⟩, hx, hb, hml, hown, hts, hEv, hI, hAk, hA⟩ := hC
  intro H locs ls r hr hP hS hl
  exact va_get hx hb hts hin hown hEv.1 hP k (ww_W_get hG) hc j hj (hts _ hlk) (fun _ h9 => by rw [← hrf]; exact h9) (by simp [ww_fs, List.getElem?_mapIdx, hf, ww_fld]) hd (kk H locs ls r hr hP hS hl)
theorem ww_puti (hC : ww_C X l0 Y ad G h cc nL own) {k ci n N j : Nat} {fs : List (Option Nat)} {Cl ref : String} {T : u_T} (hG : G[k]? = some (.inl (ci, fs))) (hc : vwCl[ci]? = some (Cl, T, N)) (hin : ∀ w ∈ u_ws Cl T N, w ∈ ww_T) (hj : j < N) (hlk : Cond.fieldLink own n ref (T j).2.1 (T j).2.2.1 ∈ ww_T) (hrf : (T j).1 = ref) (ty0 : Nat → FieldType) (hty : ∀ k, k < N → parseFieldDescriptor (T k).2.2.1 = some (ty0 k)) (hnm : ∀ a, a < N → ∀ b, b < N → a ≠ b → (T a).2.1 ≠ (T b).2.1) (hf : fs[j]? = some none) {x : Int32} (hfin : (T j).2.2.2 = false) (hdI : parseFieldDescriptor (T j).2.2.1 = some .int) (hd : decode cc pc = .ok (.putfield n, 3)) (kk : ww_V X Y ad G nL (ww_up σ k j x) (pc + 3) lv st o) : ww_V X Y ad G nL σ pc lv (.int x :: .ref (ad k) :: st) o := by
  obtain ⟨p, l, e, R, s, m, args, below, meth, c, cells, slots, Qf, A⟩ := X
  obtain ⟨rfl, ⟨hRf, hRl, hRc, hRs⟩, hx, hb, hml, hown, hts, hEv, hI, hAk, hA⟩ := hC
  intro H locs ls r hr hP hS hl
  refine va_put hx hb hts hin ty0 hty hnm hown hEv.1 hP (ww_D hI hAk) hS k (ww_W_get hG) hc j hj (hts _ hlk) (fun _ h9 => by rw [← hrf]; exact h9) hfin hdI rfl rfl (by simp [ww_fs]; exact (List.getElem?_eq_some_iff.mp hf).1) hd (fun H1 locs1 hP1 _ hS1 => ?_)
  rw [ww_W_put hG hf] at hP1
  exact kk H1 locs1 ls r hr hP1 hS1 hl
theorem ww_getrN (hC : ww_C X l0 Y ad G h cc nL own) {k ci n N j : Nat} {fs : List (Option Nat)} {Cl ref : String} {T : u_T} (hG : G[k]? = some (.inl (ci, fs))) (hc : vwCl[ci]? = some (Cl, T, N)) (hin : ∀ w ∈ u_ws Cl T N, w ∈ ww_T) (hj : j < N) {host : String} (hlk : Cond.fieldLinkNest own n ref (T j).2.1 (T j).2.2.1 host ∈ ww_N) (hrf : (T j).1 = ref) {q : Nat} (hf : fs[j]? = some (some q)) (hd : decode cc pc = .ok (.getfield n, 3)) (kk : ww_V X Y ad G nL σ (pc + 3) lv (.ref (ad q) :: st) o) : ww_V X Y ad G nL σ pc lv (.ref (ad k) :: st) o := by
  obtain ⟨p, l, e, R, s, m, args, below, meth, c, cells, slots, Qf, A⟩ := X
  obtain ⟨rfl, ⟨hRf, hRl, hRc, hRs⟩, hx, hb, hml, hown, hts, hEv, hI, hAk, hA⟩ := hC
  intro H locs ls r hr hP hS hl
  exact va_getN hx hb hts hin hown hEv.1 hP k (ww_W_get hG) hc j hj (va_Nw.use rfl (hEv.2.1 _ hlk)) (fun _ h9 => by rw [← hrf]; exact h9) (by simp [ww_fs, List.getElem?_mapIdx, hf, ww_fld]) hd (kk H locs ls r hr hP hS hl)
theorem ww_getiN (hC : ww_C X l0 Y ad G h cc nL own) {k ci n N j : Nat} {fs : List (Option Nat)} {Cl ref : String} {T : u_T} (hG : G[k]? = some (.inl (ci, fs))) (hc : vwCl[ci]? = some (Cl, T, N)) (hin : ∀ w ∈ u_ws Cl T N, w ∈ ww_T) (hj : j < N) {host : String} (hlk : Cond.fieldLinkNest own n ref (T j).2.1 (T j).2.2.1 host ∈ ww_N) (hrf : (T j).1 = ref) (hf : fs[j]? = some none) (hd : decode cc pc = .ok (.getfield n, 3)) (kk : ww_V X Y ad G nL σ (pc + 3) lv (.int (σ k j) :: st) o) : ww_V X Y ad G nL σ pc lv (.ref (ad k) :: st) o := by
  obtain ⟨p, l, e, R, s, m, args, below, meth, c, cells, slots, Qf, A⟩ := X
  obtain ⟨rfl, ⟨hRf, hRl, hRc, hRs⟩, hx, hb, hml, hown, hts, hEv, hI, hAk, hA⟩ := hC
  intro H locs ls r hr hP hS hl
  exact va_getN hx hb hts hin hown hEv.1 hP k (ww_W_get hG) hc j hj (va_Nw.use rfl (hEv.2.1 _ hlk)) (fun _ h9 => by rw [← hrf]; exact h9) (by simp [ww_fs, List.getElem?_mapIdx, hf, ww_fld]) hd (kk H locs ls r hr hP hS hl)
theorem ww_putiN (hC : ww_C X l0 Y ad G h cc nL own) {k ci n N j : Nat} {fs : List (Option Nat)} {Cl ref : String} {T : u_T} (hG : G[k]? = some (.inl (ci, fs))) (hc : vwCl[ci]? = some (Cl, T, N)) (hin : ∀ w ∈ u_ws Cl T N, w ∈ ww_T) (hj : j < N) {host : String} (hlk : Cond.fieldLinkNest own n ref (T j).2.1 (T j).2.2.1 host ∈ ww_N) (hrf : (T j).1 = ref) (ty0 : Nat → FieldType) (hty : ∀ k, k < N → parseFieldDescriptor (T k).2.2.1 = some (ty0 k)) (hnm : ∀ a, a < N → ∀ b, b < N → a ≠ b → (T a).2.1 ≠ (T b).2.1) (hf : fs[j]? = some none) {x : Int32} (hfin : (T j).2.2.2 = false) (hdI : parseFieldDescriptor (T j).2.2.1 = some .int) (hd : decode cc pc = .ok (.putfield n, 3)) (kk : ww_V X Y ad G nL (ww_up σ k j x) (pc + 3) lv st o) : ww_V X Y ad G nL σ pc lv (.int x :: .ref (ad k) :: st) o := by
  obtain ⟨p, l, e, R, s, m, args, below, meth, c, cells, slots, Qf, A⟩ := X
  obtain ⟨rfl, ⟨hRf, hRl, hRc, hRs⟩, hx, hb, hml, hown, hts, hEv, hI, hAk, hA⟩ := hC
  intro H locs ls r hr hP hS hl
  refine va_putN hx hb hts hin ty0 hty hnm hown hEv.1 hP (ww_D hI hAk) hS k (ww_W_get hG) hc j hj (va_Nw.use rfl (hEv.2.1 _ hlk)) (fun _ h9 => by rw [← hrf]; exact h9) hfin hdI rfl rfl (by simp [ww_fs]; exact (List.getElem?_eq_some_iff.mp hf).1) hd (fun H1 locs1 hP1 _ hS1 => ?_)
  rw [ww_W_put hG hf] at hP1
  exact kk H1 locs1 ls r hr hP1 hS1 hl
theorem ww_iald (hC : ww_C X l0 Y ad G h cc nL own) {E : Option α} {k n : Nat} {i : Int32} (hG : G[k]? = some (.inr (.inl (0, n)))) (hd : decode cc pc = .ok (.iaload, 1)) (kk : ww_V X Y ad G nL σ (pc + 1) lv (.int (σ k (ww_ix i)) :: st) (E.bind K)) : ww_V X Y ad G nL σ pc lv (.int i :: .ref (ad k) :: st) ((ww_ck (ww_in i n) E).bind K) := by
  obtain ⟨p, l, e, R, s, m, args, below, meth, c, cells, slots, Qf, A⟩ := X
  obtain ⟨rfl, ⟨hRf, hRl, hRc, hRs⟩, hx, hb, hml, hown, hts, hEv, hI, hAk, hA⟩ := hC
  intro H locs ls r hr hP hS hl
  obtain ⟨hg, hr⟩ := ww_ck_some hr
  exact va_iald hx hb hEv.1 hP k 0 (ww_W_get hG) rfl (ww_in_p hg) hd (kk H locs ls r hr hP hS hl)
theorem ww_bald (hC : ww_C X l0 Y ad G h cc nL own) {E : Option α} {k n : Nat} {i : Int32} (hG : G[k]? = some (.inr (.inl (1, n)))) (hd : decode cc pc = .ok (.baload, 1)) (kk : ww_V X Y ad G nL σ (pc + 1) lv (.int (σ k (ww_ix i)) :: st) (E.bind K)) : ww_V X Y ad G nL σ pc lv (.int i :: .ref (ad k) :: st) ((ww_ck (ww_in i n) E).bind K) := by
  obtain ⟨p, l, e, R, s, m, args, below, meth, c, cells, slots, Qf, A⟩ := X
  obtain ⟨rfl, ⟨hRf, hRl, hRc, hRs⟩, hx, hb, hml, hown, hts, hEv, hI, hAk, hA⟩ := hC
  intro H locs ls r hr hP hS hl
  obtain ⟨hg, hr⟩ := ww_ck_some hr
  exact va_bald hx hb hEv.1 hP k 1 (ww_W_get hG) rfl (ww_in_p hg) hd (kk H locs ls r hr hP hS hl)
theorem ww_zald (hC : ww_C X l0 Y ad G h cc nL own) {E : Option α} {k n : Nat} {i : Int32} (hG : G[k]? = some (.inr (.inl (2, n)))) (hd : decode cc pc = .ok (.baload, 1)) (kk : ww_V X Y ad G nL σ (pc + 1) lv (.int (σ k (ww_ix i)) :: st) (E.bind K)) : ww_V X Y ad G nL σ pc lv (.int i :: .ref (ad k) :: st) ((ww_ck (ww_in i n) E).bind K) := by
  obtain ⟨p, l, e, R, s, m, args, below, meth, c, cells, slots, Qf, A⟩ := X
  obtain ⟨rfl, ⟨hRf, hRl, hRc, hRs⟩, hx, hb, hml, hown, hts, hEv, hI, hAk, hA⟩ := hC
  intro H locs ls r hr hP hS hl
  obtain ⟨hg, hr⟩ := ww_ck_some hr
  exact va_zald hx hb hEv.1 hP k 2 (ww_W_get hG) rfl (ww_in_p hg) hd (kk H locs ls r hr hP hS hl)
theorem ww_iast (hC : ww_C X l0 Y ad G h cc nL own) {E : Option α} {k n : Nat} {i x : Int32} (hG : G[k]? = some (.inr (.inl (0, n)))) (hd : decode cc pc = .ok (.iastore, 1)) (kk : ww_V X Y ad G nL (ww_up σ k (ww_ix i) x) (pc + 1) lv st (E.bind K)) : ww_V X Y ad G nL σ pc lv (.int x :: .int i :: .ref (ad k) :: st) ((ww_ck (ww_in i n) E).bind K) := by
  obtain ⟨p, l, e, R, s, m, args, below, meth, c, cells, slots, Qf, A⟩ := X
  obtain ⟨rfl, ⟨hRf, hRl, hRc, hRs⟩, hx, hb, hml, hown, hts, hEv, hI, hAk, hA⟩ := hC
  intro H locs ls r hr hP hS hl
  obtain ⟨hg, hr⟩ := ww_ck_some hr
  refine va_iast hx hb hEv.1 hP (ww_D hI hAk) hS k 0 (ww_W_get hG) rfl (ww_in_p hg) hd (fun H1 locs1 hP1 _ hS1 => ?_)
  rw [ww_W_row hG, ww_up_row] at hP1
  exact kk H1 locs1 ls r hr hP1 hS1 hl
theorem ww_bast (hC : ww_C X l0 Y ad G h cc nL own) {E : Option α} {k n : Nat} {i x : Int32} (hG : G[k]? = some (.inr (.inl (1, n)))) (hd : decode cc pc = .ok (.bastore, 1)) (kk : ww_V X Y ad G nL (ww_up σ k (ww_ix i) (vp_nar .byte x)) (pc + 1) lv st (E.bind K)) : ww_V X Y ad G nL σ pc lv (.int x :: .int i :: .ref (ad k) :: st) ((ww_ck (ww_in i n) E).bind K) := by
  obtain ⟨p, l, e, R, s, m, args, below, meth, c, cells, slots, Qf, A⟩ := X
  obtain ⟨rfl, ⟨hRf, hRl, hRc, hRs⟩, hx, hb, hml, hown, hts, hEv, hI, hAk, hA⟩ := hC
  intro H locs ls r hr hP hS hl
  obtain ⟨hg, hr⟩ := ww_ck_some hr
  refine va_bast hx hb hEv.1 hP (ww_D hI hAk) hS k 1 (ww_W_get hG) rfl (ww_in_p hg) hd (fun H1 locs1 hP1 _ hS1 => ?_)
  rw [ww_W_row hG, ww_up_row] at hP1
  exact kk H1 locs1 ls r hr hP1 hS1 hl
theorem ww_zast (hC : ww_C X l0 Y ad G h cc nL own) {E : Option α} {k n : Nat} {i x : Int32} (hG : G[k]? = some (.inr (.inl (2, n)))) (hd : decode cc pc = .ok (.bastore, 1)) (kk : ww_V X Y ad G nL (ww_up σ k (ww_ix i) (vp_nar .boolean x)) (pc + 1) lv st (E.bind K)) : ww_V X Y ad G nL σ pc lv (.int x :: .int i :: .ref (ad k) :: st) ((ww_ck (ww_in i n) E).bind K) := by
  obtain ⟨p, l, e, R, s, m, args, below, meth, c, cells, slots, Qf, A⟩ := X
  obtain ⟨rfl, ⟨hRf, hRl, hRc, hRs⟩, hx, hb, hml, hown, hts, hEv, hI, hAk, hA⟩ := hC
  intro H locs ls r hr hP hS hl
  obtain ⟨hg, hr⟩ := ww_ck_some hr
  refine va_zast hx hb hEv.1 hP (ww_D hI hAk) hS k 2 (ww_W_get hG) rfl (ww_in_p hg) hd (fun H1 locs1 hP1 _ hS1 => ?_)
  rw [ww_W_row hG, ww_up_row] at hP1
  exact kk H1 locs1 ls r hr hP1 hS1 hl
theorem ww_alen (hC : ww_C X l0 Y ad G h cc nL own) {k n t : Nat} {ty : FieldType} {v : Int32} (hG : G[k]? = some (.inr (.inl (t, n)))) (ht : ∀ cA : Nat → ClassId, (ww_tys cA)[t]? = some (cA t, ty)) (hv : Int32.ofNat n = v) (hd : decode cc pc = .ok (.arraylength, 1)) (kk : ww_V X Y ad G nL σ (pc + 1) lv (.int v :: st) o) : ww_V X Y ad G nL σ pc lv (.ref (ad k) :: st) o := by
  obtain ⟨p, l, e, R, s, m, args, below, meth, c, cells, slots, Qf, A⟩ := X
  obtain ⟨rfl, ⟨hRf, hRl, hRc, hRs⟩, hx, hb, hml, hown, hts, hEv, hI, hAk, hA⟩ := hC
  intro H locs ls r hr hP hS hl
  exact va_alen hx hb hEv.1 hP k t (ww_W_get hG) (ht _) hv hd (kk H locs ls r hr hP hS hl)
theorem ww_alenR (hC : ww_C X l0 Y ad G h cc nL own) {k n t b s2 : Nat} {ty : FieldType} {v : Int32} (hG : G[k]? = some (.inr (.inr (t, n, b, s2)))) (ht : ∀ cA : Nat → ClassId, (ww_tys cA)[t]? = some (cA t, ty)) (hv : Int32.ofNat n = v) (hd : decode cc pc = .ok (.arraylength, 1)) (kk : ww_V X Y ad G nL σ (pc + 1) lv (.int v :: st) o) : ww_V X Y ad G nL σ pc lv (.ref (ad k) :: st) o := by
  obtain ⟨p, l, e, R, s, m, args, below, meth, c, cells, slots, Qf, A⟩ := X
  obtain ⟨rfl, ⟨hRf, hRl, hRc, hRs⟩, hx, hb, hml, hown, hts, hEv, hI, hAk, hA⟩ := hC
  intro H locs ls r hr hP hS hl
  exact va_alen hx hb hEv.1 hP k t (ww_W_get hG) (ht _) hv hd (kk H locs ls r hr hP hS hl)
theorem ww_aald (hC : ww_C X l0 Y ad G h cc nL own) {E : Option α} {k n t b s2 : Nat} {i : Int32} {Cl : String} (hG : G[k]? = some (.inr (.inr (t, n, b, s2)))) (ht : ∀ cA : Nat → ClassId, (ww_tys cA)[t]? = some (cA t, .object Cl)) (hd : decode cc pc = .ok (.aaload, 1)) (kk : ww_in i n = true → ww_V X Y ad G nL σ (pc + 1) lv (.ref (ad (b + s2 * ww_ix i)) :: st) (E.bind K)) : ww_V X Y ad G nL σ pc lv (.int i :: .ref (ad k) :: st) ((ww_ck (ww_in i n) E).bind K) := by
  obtain ⟨p, l, e, R, s, m, args, below, meth, c, cells, slots, Qf, A⟩ := X
  obtain ⟨rfl, ⟨hRf, hRl, hRc, hRs⟩, hx, hb, hml, hown, hts, hEv, hI, hAk, hA⟩ := hC
  intro H locs ls r hr hP hS hl
  obtain ⟨hg, hr⟩ := ww_ck_some hr
  exact va_aldq hx hb hEv.1 hP k t (ww_W_get hG) (ht _) (ww_in_p hg) hd (kk hg H locs ls r hr hP hS hl)
theorem ww_iald_c (hC : ww_C X l0 Y ad G h cc nL own) {k n j : Nat} {i : Int32} (hG : G[k]? = some (.inr (.inl (0, n)))) (hi : ww_in i n = true) (hj : ww_ix i = j) (hd : decode cc pc = .ok (.iaload, 1)) (kk : ww_V X Y ad G nL σ (pc + 1) lv (.int (σ k j) :: st) o) : ww_V X Y ad G nL σ pc lv (.int i :: .ref (ad k) :: st) o := by
  obtain ⟨p, l, e, R, s, m, args, below, meth, c, cells, slots, Qf, A⟩ := X
  obtain ⟨rfl, ⟨hRf, hRl, hRc, hRs⟩, hx, hb, hml, hown, hts, hEv, hI, hAk, hA⟩ := hC
  intro H locs ls r hr hP hS hl
  subst hj
  exact va_iald hx hb hEv.1 hP k 0 (ww_W_get hG) rfl (ww_in_p hi) hd (kk H locs ls r hr hP hS hl)
theorem ww_bald_c (hC : ww_C X l0 Y ad G h cc nL own) {k n j : Nat} {i : Int32} (hG : G[k]? = some (.inr (.inl (1, n)))) (hi : ww_in i n = true) (hj : ww_ix i = j) (hd : decode cc pc = .ok (.baload, 1)) (kk : ww_V X Y ad G nL σ (pc + 1) lv (.int (σ k j) :: st) o) : ww_V X Y ad G nL σ pc lv (.int i :: .ref (ad k) :: st) o := by
  obtain ⟨p, l, e, R, s, m, args, below, meth, c, cells, slots, Qf, A⟩ := X
  obtain ⟨rfl, ⟨hRf, hRl, hRc, hRs⟩, hx, hb, hml, hown, hts, hEv, hI, hAk, hA⟩ := hC
  intro H locs ls r hr hP hS hl
  subst hj
  exact va_bald hx hb hEv.1 hP k 1 (ww_W_get hG) rfl (ww_in_p hi) hd (kk H locs ls r hr hP hS hl)
theorem ww_zald_c (hC : ww_C X l0 Y ad G h cc nL own) {k n j : Nat} {i : Int32} (hG : G[k]? = some (.inr (.inl (2, n)))) (hi : ww_in i n = true) (hj : ww_ix i = j) (hd : decode cc pc = .ok (.baload, 1)) (kk : ww_V X Y ad G nL σ (pc + 1) lv (.int (σ k j) :: st) o) : ww_V X Y ad G nL σ pc lv (.int i :: .ref (ad k) :: st) o := by
  obtain ⟨p, l, e, R, s, m, args, below, meth, c, cells, slots, Qf, A⟩ := X
  obtain ⟨rfl, ⟨hRf, hRl, hRc, hRs⟩, hx, hb, hml, hown, hts, hEv, hI, hAk, hA⟩ := hC
  intro H locs ls r hr hP hS hl
  subst hj
  exact va_zald hx hb hEv.1 hP k 2 (ww_W_get hG) rfl (ww_in_p hi) hd (kk H locs ls r hr hP hS hl)
theorem ww_iast_c (hC : ww_C X l0 Y ad G h cc nL own) {k n j : Nat} {i x : Int32} (hG : G[k]? = some (.inr (.inl (0, n)))) (hi : ww_in i n = true) (hj : ww_ix i = j) (hd : decode cc pc = .ok (.iastore, 1)) (kk : ww_V X Y ad G nL (ww_up σ k j x) (pc + 1) lv st o) : ww_V X Y ad G nL σ pc lv (.int x :: .int i :: .ref (ad k) :: st) o := by
  obtain ⟨p, l, e, R, s, m, args, below, meth, c, cells, slots, Qf, A⟩ := X
  obtain ⟨rfl, ⟨hRf, hRl, hRc, hRs⟩, hx, hb, hml, hown, hts, hEv, hI, hAk, hA⟩ := hC
  intro H locs ls r hr hP hS hl
  subst hj
  refine va_iast hx hb hEv.1 hP (ww_D hI hAk) hS k 0 (ww_W_get hG) rfl (ww_in_p hi) hd (fun H1 locs1 hP1 _ hS1 => ?_)
  rw [ww_W_row hG, ww_up_row] at hP1
  exact kk H1 locs1 ls r hr hP1 hS1 hl
theorem ww_bast_c (hC : ww_C X l0 Y ad G h cc nL own) {k n j : Nat} {i x : Int32} (hG : G[k]? = some (.inr (.inl (1, n)))) (hi : ww_in i n = true) (hj : ww_ix i = j) (hd : decode cc pc = .ok (.bastore, 1)) (kk : ww_V X Y ad G nL (ww_up σ k j (vp_nar .byte x)) (pc + 1) lv st o) : ww_V X Y ad G nL σ pc lv (.int x :: .int i :: .ref (ad k) :: st) o := by
  obtain ⟨p, l, e, R, s, m, args, below, meth, c, cells, slots, Qf, A⟩ := X
  obtain ⟨rfl, ⟨hRf, hRl, hRc, hRs⟩, hx, hb, hml, hown, hts, hEv, hI, hAk, hA⟩ := hC
  intro H locs ls r hr hP hS hl
  subst hj
  refine va_bast hx hb hEv.1 hP (ww_D hI hAk) hS k 1 (ww_W_get hG) rfl (ww_in_p hi) hd (fun H1 locs1 hP1 _ hS1 => ?_)
  rw [ww_W_row hG, ww_up_row] at hP1
  exact kk H1 locs1 ls r hr hP1 hS1 hl
theorem ww_zast_c (hC : ww_C X l0 Y ad G h cc nL own) {k n j : Nat} {i x : Int32} (hG : G[k]? = some (.inr (.inl (2, n)))) (hi : ww_in i n = true) (hj : ww_ix i = j) (hd : decode cc pc = .ok (.bastore, 1)) (kk : ww_V X Y ad G nL (ww_up σ k j (vp_nar .boolean x)) (pc + 1) lv st o) : ww_V X Y ad G nL σ pc lv (.int x :: .int i :: .ref (ad k) :: st) o := by
  obtain ⟨p, l, e, R, s, m, args, below, meth, c, cells, slots, Qf, A⟩ := X
  obtain ⟨rfl, ⟨hRf, hRl, hRc, hRs⟩, hx, hb, hml, hown, hts, hEv, hI, hAk, hA⟩ := hC
  intro H locs ls r hr hP hS hl
  subst hj
  refine va_zast hx hb hEv.1 hP (ww_D hI hAk) hS k 2 (ww_W_get hG) rfl (ww_in_p hi) hd (fun H1 locs1 hP1 _ hS1 => ?_)
  rw [ww_W_row hG, ww_up_row] at hP1
  exact kk H1 locs1 ls r hr hP1 hS1 hl
theorem ww_ldcS0 (hC : ww_C X l0 Y ad G h cc nL RX5) (hd : decode cc pc = .ok (.ldc 91, 2)) (kk : ww_V X Y ad G nL σ (pc + 2) lv (.ref (Y.2.2.2 0) :: st) o) : ww_V X Y ad G nL σ pc lv st o := by
  obtain ⟨p, l, e, R, s, m, args, below, meth, c, cells, slots, Qf, A⟩ := X
  obtain ⟨rfl, ⟨hRf, hRl, hRc, hRs⟩, hx, hb, hml, hown, hts, hEv, hI, hAk, hA⟩ := hC
  intro H locs ls r hr hP hS hl
  exact va_ldcS (tx := "sand") hx hb hown hEv.2.2.2.2.1 hd (kk H locs ls r hr hP hS hl)
theorem ww_ldcS1 (hC : ww_C X l0 Y ad G h cc nL RX5) (hd : decode cc pc = .ok (.ldc 97, 2)) (kk : ww_V X Y ad G nL σ (pc + 2) lv (.ref (Y.2.2.2 1) :: st) o) : ww_V X Y ad G nL σ pc lv st o := by
  obtain ⟨p, l, e, R, s, m, args, below, meth, c, cells, slots, Qf, A⟩ := X
  obtain ⟨rfl, ⟨hRf, hRl, hRc, hRs⟩, hx, hb, hml, hown, hts, hEv, hI, hAk, hA⟩ := hC
  intro H locs ls r hr hP hS hl
  exact va_ldcS (tx := "tide") hx hb hown hEv.2.2.2.2.2.1 hd (kk H locs ls r hr hP hS hl)
theorem ww_ldcS2 (hC : ww_C X l0 Y ad G h cc nL RX5) (hd : decode cc pc = .ok (.ldc 99, 2)) (kk : ww_V X Y ad G nL σ (pc + 2) lv (.ref (Y.2.2.2 2) :: st) o) : ww_V X Y ad G nL σ pc lv st o := by
  obtain ⟨p, l, e, R, s, m, args, below, meth, c, cells, slots, Qf, A⟩ := X
  obtain ⟨rfl, ⟨hRf, hRl, hRc, hRs⟩, hx, hb, hml, hown, hts, hEv, hI, hAk, hA⟩ := hC
  intro H locs ls r hr hP hS hl
  exact va_ldcS (tx := "law") hx hb hown hEv.2.2.2.2.2.2.1 hd (kk H locs ls r hr hP hS hl)
theorem ww_ldcS3 (hC : ww_C X l0 Y ad G h cc nL RX5) (hd : decode cc pc = .ok (.ldc 101, 2)) (kk : ww_V X Y ad G nL σ (pc + 2) lv (.ref (Y.2.2.2 3) :: st) o) : ww_V X Y ad G nL σ pc lv st o := by
  obtain ⟨p, l, e, R, s, m, args, below, meth, c, cells, slots, Qf, A⟩ := X
  obtain ⟨rfl, ⟨hRf, hRl, hRc, hRs⟩, hx, hb, hml, hown, hts, hEv, hI, hAk, hA⟩ := hC
  intro H locs ls r hr hP hS hl
  exact va_ldcS (tx := "rot") hx hb hown hEv.2.2.2.2.2.2.2.1 hd (kk H locs ls r hr hP hS hl)
theorem ww_ldcS4 (hC : ww_C X l0 Y ad G h cc nL RX5) (hd : decode cc pc = .ok (.ldc 103, 2)) (kk : ww_V X Y ad G nL σ (pc + 2) lv (.ref (Y.2.2.2 4) :: st) o) : ww_V X Y ad G nL σ pc lv st o := by
  obtain ⟨p, l, e, R, s, m, args, below, meth, c, cells, slots, Qf, A⟩ := X
  obtain ⟨rfl, ⟨hRf, hRl, hRc, hRs⟩, hx, hb, hml, hown, hts, hEv, hI, hAk, hA⟩ := hC
  intro H locs ls r hr hP hS hl
  exact va_ldcS (tx := "gangs") hx hb hown hEv.2.2.2.2.2.2.2.2.1 hd (kk H locs ls r hr hP hS hl)
theorem ww_ldcS5 (hC : ww_C X l0 Y ad G h cc nL RX5) (hd : decode cc pc = .ok (.ldc 105, 2)) (kk : ww_V X Y ad G nL σ (pc + 2) lv (.ref (Y.2.2.2 5) :: st) o) : ww_V X Y ad G nL σ pc lv st o := by
  obtain ⟨p, l, e, R, s, m, args, below, meth, c, cells, slots, Qf, A⟩ := X
  obtain ⟨rfl, ⟨hRf, hRl, hRc, hRs⟩, hx, hb, hml, hown, hts, hEv, hI, hAk, hA⟩ := hC
  intro H locs ls r hr hP hS hl
  exact va_ldcS (tx := "whale") hx hb hown hEv.2.2.2.2.2.2.2.2.2 hd (kk H locs ls r hr hP hS hl)
end WROWS
