/-! ===== constructors: an explicit world that grows ===== -/
def ww_fsr (ad : Nat → Nat) (f : Nat → Int32) : Nat → List (Option Nat) → List Value
  | _, [] => []
  | n, x :: xs => ww_fld ad f n x :: ww_fsr ad f (n + 1) xs
def ww_cellr (ad : Nat → Nat) (cA : Nat → ClassId) (f : Nat → Int32) (L : ww_L) : va_E := match L with
  | .inl (ci, fs) => .inr (ci, ww_fsr ad f 0 fs)
  | .inr (.inl (t, n)) => .inl (cA t, n, .inl f)
  | .inr (.inr (t, n, b, d)) => .inl (cA t, n, .inr (.inr (.inr (.inr (fun i => some (ad (b + d * i)))))))
def ww_Wr (ad : Nat → Nat) (cA : Nat → ClassId) (σ : ww_M) : Nat → List ww_L → va_W
  | _, [] => []
  | n, L :: Ls => (ad n, ww_cellr ad cA (σ n) L) :: ww_Wr ad cA σ (n + 1) Ls
theorem ww_fsr_get (ad : Nat → Nat) (f : Nat → Int32) : ∀ (fs : List (Option Nat)) (n i : Nat), (ww_fsr ad f n fs)[i]? = (fs[i]?).map (fun x => ww_fld ad f (n + i) x)
  | [], _, _ => by simp [ww_fsr]
  | x :: xs, n, 0 => by simp [ww_fsr]
  | x :: xs, n, i + 1 => by
    simp only [ww_fsr, List.getElem?_cons_succ]
    rw [ww_fsr_get ad f xs (n + 1) i]
    congr 2
    funext y
    rw [show n + 1 + i = n + (i + 1) by omega]
theorem ww_fsr_eq (ad : Nat → Nat) (f : Nat → Int32) (fs : List (Option Nat)) : ww_fsr ad f 0 fs = ww_fs ad f fs := by
  apply List.ext_getElem?
  intro i
  rw [ww_fsr_get, Nat.zero_add]
  simp [ww_fs, List.getElem?_mapIdx]
theorem ww_cellr_eq (ad : Nat → Nat) (cA : Nat → ClassId) (f : Nat → Int32) (L : ww_L) : ww_cellr ad cA f L = ww_cell ad cA f L := by
  match L with
  | .inl (ci, fs) => simp [ww_cellr, ww_cell, ww_fsr_eq]
  | .inr (.inl (t, n)) => rfl
  | .inr (.inr (t, n, b, d)) => rfl
theorem ww_Wr_get (ad : Nat → Nat) (cA : Nat → ClassId) (σ : ww_M) : ∀ (G : List ww_L) (n i : Nat), (ww_Wr ad cA σ n G)[i]? = (G[i]?).map (fun L => (ad (n + i), ww_cell ad cA (σ (n + i)) L))
  | [], _, _ => by simp [ww_Wr]
  | L :: Ls, n, 0 => by simp [ww_Wr, ww_cellr_eq]
  | L :: Ls, n, i + 1 => by
    simp only [ww_Wr, List.getElem?_cons_succ]
    rw [ww_Wr_get ad cA σ Ls (n + 1) i]
    congr 2
    funext y
    rw [show n + 1 + i = n + (i + 1) by omega]
theorem ww_Wr_eq (G : List ww_L) (ad : Nat → Nat) (cA : Nat → ClassId) (σ : ww_M) : ww_Wr ad cA σ 0 G = ww_W G ad cA σ := by
  apply List.ext_getElem?
  intro i
  rw [ww_Wr_get, Nat.zero_add]
  simp [ww_W, List.getElem?_mapIdx]
def ww_U (X : ww_X) (Y : ww_Y) (r0 : ww_R) (ws : va_W) (nL cells slots pc : Nat) (lv : List (Nat × Value)) (st : List Value) : Prop := match X with
  | (p, l, e, R, s, m, args, below, meth, c, _, _, Qf, A) => ∀ (H : Heap) (locs : List Loc) (ls : Array Slot), va_P Y.1 vwCl ws H → va_D A ws → va_S A s.heap H locs → lv_has ls nL lv → W p l e R s m args below meth c H locs cells slots (Qf r0) (F0 m pc ls st)
/-- the room, and that it is a constructor -/
def ww_CI (X : ww_X) (mc ms : Nat) (ini : Prop) : Prop := match X with
  | (p, l, e, R, s, m, args, below, meth, c, _, _, Qf, A) => mc ≤ R.cells ∧ ms ≤ R.slots ∧ (ini → meth.name = "<init>")
/-- a constructor's contract: out of the object's empty cell the block L with memory sg -/
def ww_Rc (h mc ms : Nat) : Room := { frames := h, cells := mc, slots := ms, locals := 40 * h }
def ww_Qc (Y : ww_Y) (L : List ww_L) (σ : ww_M) (h0 : Nat) (A : Nat → Prop) : Array Value → State → Outcome → State → Prop := fun _ st oc t => oc = .returned none ∧ (∃ f : Nat → Nat, f 0 = h0 ∧ va_P Y.1 vwCl (ww_Wr f Y.2.1 σ 0 L) t.heap ∧ va_D A (ww_Wr f Y.2.1 σ 0 L)) ∧ va_F A st t
def ww_AOx (X : ww_X) (Cl : String) : Prop := match X with
  | (p, l, e, R, s, m, args, below, meth, c, _, _, Qf, A) => va_AO Cl s
def ww_BBx (X : ww_X) (B : State → Prop) : Prop := match X with
  | (p, l, e, R, s, m, args, below, meth, c, _, _, Qf, A) => ∀ U : State, s.vm.Alike U.vm → B U
def ww_QQx (X : ww_X) (Y : ww_Y) (L : List ww_L) (σ : ww_M) (h0 mc ms : Nat) (B : State → Prop) : Prop := match X with
  | (p, l, e, R, s, m, args, below, meth, c, _, _, Qf, A) => (meth.sig.returnType = none ∧ meth.locks = false ∧ Qf = fun _ => MQ below (ww_Qc Y L σ h0 A) args s mc ms A) ∧ B s
section UROWS
variable {X : ww_X} {l0 : Launch} {Y : ww_Y} {ad : Nat → Nat} {G : List ww_L} {h nL pc mc ms cells slots : Nat} {cc : ByteArray} {own : String} {r0 : ww_R} {lv lv' : List (Nat × Value)} {st : List Value} {ws ws' : va_W} {ini : Prop}
theorem uw_ws (e : ws = ws') (kk : ww_U X Y r0 ws' nL cells slots pc lv st) : ww_U X Y r0 ws nL cells slots pc lv st := e ▸ kk
theorem uw_lv (ks : List Nat) (he : lv_pick lv ks = lv') (kk : ww_U X Y r0 ws nL cells slots pc lv' st) : ww_U X Y r0 ws nL cells slots pc lv st := by
  obtain ⟨p, l, e, R, s, m, args, below, meth, c, cells0, slots0, Qf, A⟩ := X
  intro H locs ls hP hD hS hl
  exact kk H locs ls hP hD hS (lv_sub hl ks he)
theorem uw_iconst (hC : ww_C X l0 Y ad G h cc nL own) {n : Int} (hd : decode cc pc = .ok (.iconst n, 1)) {v : Int32} (hv : Int32.ofInt n = v) (kk : ww_U X Y r0 ws nL cells slots (pc + 1) lv (.int v :: st)) : ww_U X Y r0 ws nL cells slots pc lv st := by
  obtain ⟨p, l, e, R, s, m, args, below, meth, c, cells0, slots0, Qf, A⟩ := X
  obtain ⟨rfl, ⟨hRf, hRl, hRc, hRs⟩, hx, hb, hml, hown, hts, hEv, hI, hAk, hA⟩ := hC
  intro H locs ls hP hD hS hl
  exact lv_iconst hx hb hd hv (kk H locs ls hP hD hS hl)
theorem uw_bipush (hC : ww_C X l0 Y ad G h cc nL own) {n : Int} (hd : decode cc pc = .ok (.bipush n, 2)) {v : Int32} (hv : (Int8.ofInt n).toInt32 = v) (kk : ww_U X Y r0 ws nL cells slots (pc + 2) lv (.int v :: st)) : ww_U X Y r0 ws nL cells slots pc lv st := by
  obtain ⟨p, l, e, R, s, m, args, below, meth, c, cells0, slots0, Qf, A⟩ := X
  obtain ⟨rfl, ⟨hRf, hRl, hRc, hRs⟩, hx, hb, hml, hown, hts, hEv, hI, hAk, hA⟩ := hC
  intro H locs ls hP hD hS hl
  exact lv_bipush hx hb hd hv (kk H locs ls hP hD hS hl)
theorem uw_sipush (hC : ww_C X l0 Y ad G h cc nL own) {n : Int} (hd : decode cc pc = .ok (.sipush n, 3)) {v : Int32} (hv : (Int16.ofInt n).toInt32 = v) (kk : ww_U X Y r0 ws nL cells slots (pc + 3) lv (.int v :: st)) : ww_U X Y r0 ws nL cells slots pc lv st := by
  obtain ⟨p, l, e, R, s, m, args, below, meth, c, cells0, slots0, Qf, A⟩ := X
  obtain ⟨rfl, ⟨hRf, hRl, hRc, hRs⟩, hx, hb, hml, hown, hts, hEv, hI, hAk, hA⟩ := hC
  intro H locs ls hP hD hS hl
  exact lv_sipush hx hb hd hv (kk H locs ls hP hD hS hl)
theorem uw_iload_n (hC : ww_C X l0 Y ad G h cc nL own) {n : Fin 4} {i : Nat} {x : Int32} (j : Nat) (hj : lv[j]? = some (i, .int x)) (hd : decode cc pc = .ok (.iload_n n, 1)) (hi : (n : Nat) = i) (kk : ww_U X Y r0 ws nL cells slots (pc + 1) lv (.int x :: st)) : ww_U X Y r0 ws nL cells slots pc lv st := by
  obtain ⟨p, l, e, R, s, m, args, below, meth, c, cells0, slots0, Qf, A⟩ := X
  obtain ⟨rfl, ⟨hRf, hRl, hRc, hRs⟩, hx, hb, hml, hown, hts, hEv, hI, hAk, hA⟩ := hC
  intro H locs ls hP hD hS hl
  exact lv_iload_n hx hb hd hi (lv_at hl j hj) (kk H locs ls hP hD hS hl)
theorem uw_istore_n (hC : ww_C X l0 Y ad G h cc nL own) {n : Fin 4} {i : Nat} {x : Int32} (hd : decode cc pc = .ok (.istore_n n, 1)) (hi : (n : Nat) = i) (hn : i < nL) (hl2 : (i, Value.int x) :: lv.filter (fun q => !(q.1 == i) && !(q.1 + 1 == i && q.2.category == 2)) = lv') (kk : ww_U X Y r0 ws nL cells slots (pc + 1) lv' st) : ww_U X Y r0 ws nL cells slots pc lv (.int x :: st) := by
  obtain ⟨p, l, e, R, s, m, args, below, meth, c, cells0, slots0, Qf, A⟩ := X
  obtain ⟨rfl, ⟨hRf, hRl, hRc, hRs⟩, hx, hb, hml, hown, hts, hEv, hI, hAk, hA⟩ := hC
  intro H locs ls hP hD hS hl
  exact lv_istore_n hx hb hd hi hl hn hl2 (fun ls hl => kk H locs ls hP hD hS hl)
theorem uw_aload_n (hC : ww_C X l0 Y ad G h cc nL own) {n : Fin 4} {i : Nat} {x : Nat} (j : Nat) (hj : lv[j]? = some (i, .ref x)) (hd : decode cc pc = .ok (.aload_n n, 1)) (hi : (n : Nat) = i) (kk : ww_U X Y r0 ws nL cells slots (pc + 1) lv (.ref x :: st)) : ww_U X Y r0 ws nL cells slots pc lv st := by
  obtain ⟨p, l, e, R, s, m, args, below, meth, c, cells0, slots0, Qf, A⟩ := X
  obtain ⟨rfl, ⟨hRf, hRl, hRc, hRs⟩, hx, hb, hml, hown, hts, hEv, hI, hAk, hA⟩ := hC
  intro H locs ls hP hD hS hl
  exact lv_aload_n hx hb hd hi (lv_at hl j hj) (kk H locs ls hP hD hS hl)
theorem uw_astore_n (hC : ww_C X l0 Y ad G h cc nL own) {n : Fin 4} {i : Nat} {x : Nat} (hd : decode cc pc = .ok (.astore_n n, 1)) (hi : (n : Nat) = i) (hn : i < nL) (hl2 : (i, Value.ref x) :: lv.filter (fun q => !(q.1 == i) && !(q.1 + 1 == i && q.2.category == 2)) = lv') (kk : ww_U X Y r0 ws nL cells slots (pc + 1) lv' st) : ww_U X Y r0 ws nL cells slots pc lv (.ref x :: st) := by
  obtain ⟨p, l, e, R, s, m, args, below, meth, c, cells0, slots0, Qf, A⟩ := X
  obtain ⟨rfl, ⟨hRf, hRl, hRc, hRs⟩, hx, hb, hml, hown, hts, hEv, hI, hAk, hA⟩ := hC
  intro H locs ls hP hD hS hl
  exact lv_astore_n hx hb hd hi hl hn hl2 (fun ls hl => kk H locs ls hP hD hS hl)
theorem uw_iinc (hC : ww_C X l0 Y ad G h cc nL own) {i : Nat} {n : Int} {x v : Int32} (j : Nat) (hj : lv[j]? = some (i, .int x)) (hd : decode cc pc = .ok (.iinc i n, 3)) (hv : x + Int32.ofInt n = v) (hn : i < nL) (hl2 : (i, Value.int v) :: lv.filter (fun q => !(q.1 == i) && !(q.1 + 1 == i && q.2.category == 2)) = lv') (kk : ww_U X Y r0 ws nL cells slots (pc + 3) lv' st) : ww_U X Y r0 ws nL cells slots pc lv st := by
  obtain ⟨p, l, e, R, s, m, args, below, meth, c, cells0, slots0, Qf, A⟩ := X
  obtain ⟨rfl, ⟨hRf, hRl, hRc, hRs⟩, hx, hb, hml, hown, hts, hEv, hI, hAk, hA⟩ := hC
  intro H locs ls hP hD hS hl
  exact lv_iinc hx hb hd hl hj hv hn hl2 (fun ls hl => kk H locs ls hP hD hS hl)
theorem uw_dup (hC : ww_C X l0 Y ad G h cc nL own) {x : Value} (hd : decode cc pc = .ok (.dup, 1)) (hx1 : x.category = 1) (kk : ww_U X Y r0 ws nL cells slots (pc + 1) lv (x :: x :: st)) : ww_U X Y r0 ws nL cells slots pc lv (x :: st) := by
  obtain ⟨p, l, e, R, s, m, args, below, meth, c, cells0, slots0, Qf, A⟩ := X
  obtain ⟨rfl, ⟨hRf, hRl, hRc, hRs⟩, hx, hb, hml, hown, hts, hEv, hI, hAk, hA⟩ := hC
  intro H locs ls hP hD hS hl
  exact lv_dup hx hb hd hx1 (kk H locs ls hP hD hS hl)
theorem uw_goto (hC : ww_C X l0 Y ad G h cc nL own) {off : Int} {tgt : Nat} (hd : decode cc pc = .ok (.goto off, 3)) (ht : (pc : Int) + off = (tgt : Int)) (kk : ww_U X Y r0 ws nL cells slots tgt lv st) : ww_U X Y r0 ws nL cells slots pc lv st := by
  obtain ⟨p, l, e, R, s, m, args, below, meth, c, cells0, slots0, Qf, A⟩ := X
  obtain ⟨rfl, ⟨hRf, hRl, hRc, hRs⟩, hx, hb, hml, hown, hts, hEv, hI, hAk, hA⟩ := hC
  intro H locs ls hP hD hS hl
  exact lv_goto hx hb hd ht (kk H locs ls hP hD hS hl)
theorem uw_ge_t (hC : ww_C X l0 Y ad G h cc nL own) {x y : Int32} {off : Int} {tgt : Nat} (hd : decode cc pc = .ok (.if_icmp .ge off, 3)) (ht : (pc : Int) + off = (tgt : Int)) (hq : y ≤ x) (kk : ww_U X Y r0 ws nL cells slots tgt lv st) : ww_U X Y r0 ws nL cells slots pc lv (.int y :: .int x :: st) := by
  obtain ⟨p, l, e, R, s, m, args, below, meth, c, cells0, slots0, Qf, A⟩ := X
  obtain ⟨rfl, ⟨hRf, hRl, hRc, hRs⟩, hx, hb, hml, hown, hts, hEv, hI, hAk, hA⟩ := hC
  intro H locs ls hP hD hS hl
  exact lv_icmp_ge hx hb hd ht (fun _ => kk H locs ls hP hD hS hl) (fun q => absurd hq q)
theorem uw_ge_f (hC : ww_C X l0 Y ad G h cc nL own) {x y : Int32} {off : Int} {tgt : Nat} (hd : decode cc pc = .ok (.if_icmp .ge off, 3)) (ht : (pc : Int) + off = (tgt : Int)) (hq : ¬ y ≤ x) (kk : ww_U X Y r0 ws nL cells slots (pc + 3) lv st) : ww_U X Y r0 ws nL cells slots pc lv (.int y :: .int x :: st) := by
  obtain ⟨p, l, e, R, s, m, args, below, meth, c, cells0, slots0, Qf, A⟩ := X
  obtain ⟨rfl, ⟨hRf, hRl, hRc, hRs⟩, hx, hb, hml, hown, hts, hEv, hI, hAk, hA⟩ := hC
  intro H locs ls hP hD hS hl
  exact lv_icmp_ge hx hb hd ht (fun q => absurd q hq) (fun _ => kk H locs ls hP hD hS hl)
theorem uw_obj (hC : ww_C X l0 Y ad G h cc nL own) {n a : Nat} (h1 : Cond.methodLink own n Lib.objectInit ∈ ww_T) (h2 : Cond.instanceMethod Lib.objectInit ∈ ww_T) (h3 : Cond.code Lib.objectInit ⟨#[0xb1]⟩ 1 none ∈ ww_T) (hh : 1 ≤ h) (hs8 : (st.map fun v => v.category).sum ≤ 8) (hd : decode cc pc = .ok (.invokespecial n, 3)) (kk : ww_U X Y r0 ws nL cells slots (pc + 3) lv st) : ww_U X Y r0 ws nL cells slots pc lv (.ref a :: st) := by
  obtain ⟨p, l, e, R, s, m, args, below, meth, c, cells0, slots0, Qf, A⟩ := X
  obtain ⟨rfl, ⟨hRf, hRl, hRc, hRs⟩, hx, hb, hml, hown, hts, hEv, hI, hAk, hA⟩ := hC
  intro H locs ls hP hD hS hl
  refine W.objInit hx hb hown (hts _ h1) (hts _ h2) (hts _ h3) rfl (by rw [hml]; exact hl.1) rfl hd (by omega) (by show 2 * 0 + _ + 12 ≤ _; omega) ?_
  exact W.eq (g2 := F0 m (pc + 3) ls st) rfl (kk H locs ls hP hD hS hl)
theorem uw_newa (hC : ww_C X l0 Y ad G h cc nL own) (hI1 : ww_CI X mc ms ini) {atype : ArrayType} {ty : FieldType} {t N : Nat} {n : Int32} (harr : Cond.arrayClass ty ∈ ww_T) (hty : newarray.typeOf atype = ty) (ht : ∀ cA : Nat → ClassId, (ww_tys cA)[t]? = some (cA t, ty)) (hra : ∀ (U : State) (c : ClassId), va_RA U c ty → U.vm.findClass ("[" ++ ty.toString) = some c) (ha : ∀ cA : ClassId, vp_cell cA (N, .inl (fun _ => 0)) = arrV cA N (fun _ => defaultValue ty)) (hn : ¬ n < 0) (hN : n.toNatClampNeg = N) (hby : N * componentBytes ty ≤ 536870912) (hc1 : cells + 1 ≤ mc) (hs1 : slots + N ≤ ms) (hd : decode cc pc = .ok (.newarray atype, 2)) (kk : ∀ q : Nat, ww_U X Y r0 (ws ++ [(q, .inl (Y.2.1 t, N, .inl (fun _ => 0)))]) nL (cells + 1) (slots + N) (pc + 2) lv (.ref q :: st)) : ww_U X Y r0 ws nL cells slots pc lv (.int n :: st) := by
  obtain ⟨p, l, e, R, s, m, args, below, meth, c, cells0, slots0, Qf, A⟩ := X
  obtain ⟨rfl, ⟨hRf, hRl, hRc, hRs⟩, hx, hb, hml, hown, hts, hEv, hI, hAk, hA⟩ := hC
  intro H locs ls hP hD hS hl
  obtain ⟨hRc2, hRs2, -⟩ := hI1
  refine va_newa hx hb (by rw [hty]; exact hts _ harr) hty hEv.1 hP hD hS hA ha hn hN hby (by omega) (by omega) hd (fun q cA H1 hK1 hP1 hD1 hS1 => ?_)
  have e1 := hra s cA (hK1.2 (ww_tys Y.2.1).length (cA, ty) (by simp)).2
  have e2 := hra s (Y.2.1 t) (hEv.1.2 t _ (ht _)).2
  have e3 : cA = Y.2.1 t := Option.some.inj (e1.symm.trans e2)
  rw [e3] at hP1 hD1
  exact kk q H1 locs ls hP1 hD1 hS1 hl
theorem uw_newq (hC : ww_C X l0 Y ad G h cc nL own) (hI1 : ww_CI X mc ms ini) {Cl : String} {t N ix : Nat} {n : Int32} (hao : ww_AOx X Cl) (hlk : Cond.classLink own ix Cl ∈ ww_T) (ht : ∀ cA : Nat → ClassId, (ww_tys cA)[t]? = some (cA t, .object Cl)) (hn : ¬ n < 0) (hN : n.toNatClampNeg = N) (hby : N * 4 ≤ 536870912) (hc1 : cells + 1 ≤ mc) (hs1 : slots + N ≤ ms) (hd : decode cc pc = .ok (.anewarray ix, 3)) (kk : ∀ q : Nat, ww_U X Y r0 (ws ++ [(q, .inl (Y.2.1 t, N, .inr (.inr (.inr (.inr (fun _ => none))))))]) nL (cells + 1) (slots + N) (pc + 3) lv (.ref q :: st)) : ww_U X Y r0 ws nL cells slots pc lv (.int n :: st) := by
  obtain ⟨p, l, e, R, s, m, args, below, meth, c, cells0, slots0, Qf, A⟩ := X
  obtain ⟨rfl, ⟨hRf, hRl, hRc, hRs⟩, hx, hb, hml, hown, hts, hEv, hI, hAk, hA⟩ := hC
  intro H locs ls hP hD hS hl
  obtain ⟨hRc2, hRs2, -⟩ := hI1
  refine va_newq hx hb hown (hts _ hlk) hao hEv.1 hP hD hS hA hn hN hby (by omega) (by omega) hd (fun q cA H1 hK1 hP1 hD1 hS1 => ?_)
  obtain ⟨_, _, _, _, _, e1⟩ := (hK1.2 (ww_tys Y.2.1).length (cA, .object Cl) (by simp)).2
  obtain ⟨_, _, _, _, _, e2⟩ := (hEv.1.2 t _ (ht _)).2
  have e3 : cA = Y.2.1 t := Option.some.inj (e1.symm.trans e2)
  rw [e3] at hP1 hD1
  exact kk q H1 locs ls hP1 hD1 hS1 hl
theorem uw_new (hC : ww_C X l0 Y ad G h cc nL own) (hI1 : ww_CI X mc ms ini) {Cl : String} {T : u_T} {N ci ix : Nat} {fs : List Value} (hin : ∀ w ∈ u_ws Cl T N, w ∈ ww_T) (ty : Nat → FieldType) (hty : ∀ k, k < N → parseFieldDescriptor (T k).2.2.1 = some (ty k)) (hc : vwCl[ci]? = some (Cl, T, N)) (h1 : Cond.classLink own ix Cl ∈ ww_T) (h2 : Cond.instantiable Cl N ∈ ww_T) (h3 : Cond.initialized Cl ∈ ww_T) (hfs : ∀ j, j < N → defaultValue (ty j) = vp_V fs j) (hc1 : cells + 1 ≤ mc) (hs1 : slots + N ≤ ms) (hd : decode cc pc = .ok (.new ix, 3)) (kk : ∀ q : Nat, ww_U X Y r0 (ws ++ [(q, .inr (ci, fs))]) nL (cells + 1) (slots + N) (pc + 3) lv (.ref q :: st)) : ww_U X Y r0 ws nL cells slots pc lv st := by
  obtain ⟨p, l, e, R, s, m, args, below, meth, c, cells0, slots0, Qf, A⟩ := X
  obtain ⟨rfl, ⟨hRf, hRl, hRc, hRs⟩, hx, hb, hml, hown, hts, hEv, hI, hAk, hA⟩ := hC
  intro H locs ls hP hD hS hl
  obtain ⟨hRc2, hRs2, -⟩ := hI1
  exact va_new hx hb hts hin ty hty hown (hts _ h1) (hts _ h2) (hts _ h3) hEv.1 hP hD hS hA hc hfs (by omega) (by omega) hd (fun q H1 hP1 hD1 hS1 => kk q H1 locs ls hP1 hD1 hS1 hl)
theorem uw_putF (hC : ww_C X l0 Y ad G h cc nL own) (hI1 : ww_CI X mc ms True) {a ci ix N : Nat} {fs : List Value} {Cl : String} {T : u_T} {v : Value} {ty : FieldType} (q0 j : Nat) (he : ws[q0]? = some (a, .inr (ci, fs))) (hc : vwCl[ci]? = some (Cl, T, N)) (hin : ∀ w ∈ u_ws Cl T N, w ∈ ww_T) (hj : j < N) (hlk : Cond.fieldLink own ix Cl (T j).2.1 (T j).2.2.1 ∈ ww_T) (hrf : (T j).1 = Cl) (ty0 : Nat → FieldType) (hty : ∀ k, k < N → parseFieldDescriptor (T k).2.2.1 = some (ty0 k)) (hnm : ∀ a, a < N → ∀ b, b < N → a ≠ b → (T a).2.1 ≠ (T b).2.1) (hdI : parseFieldDescriptor (T j).2.2.1 = some ty) (hna : narrow ty v = v) (hfi : fits ty v = true) (hl9 : j < fs.length) (hfin : (T j).2.2.2 = true) (hdc : (T j).1 = own) (hd : decode cc pc = .ok (.putfield ix, 3)) (kk : ww_U X Y r0 (ws.set q0 (a, .inr (ci, fs.set j v))) nL cells slots (pc + 3) lv st) : ww_U X Y r0 ws nL cells slots pc lv (v :: .ref a :: st) := by
  obtain ⟨p, l, e, R, s, m, args, below, meth, c, cells0, slots0, Qf, A⟩ := X
  obtain ⟨rfl, ⟨hRf, hRl, hRc, hRs⟩, hx, hb, hml, hown, hts, hEv, hI, hAk, hA⟩ := hC
  intro H locs ls hP hD hS hl
  obtain ⟨hRc2, hRs2, hin2⟩ := hI1
  exact va_putF hx hb hts hin ty0 hty hnm hown hEv.1 hP hD hS q0 he hc j hj (hts _ hlk) (fun _ h9 => by rw [← hrf]; exact h9) hfin (hin2 trivial) hdc hdI hna hfi hl9 hd (fun H1 locs1 hP1 hD1 hS1 => kk H1 locs1 ls hP1 hD1 hS1 hl)
theorem uw_put (hC : ww_C X l0 Y ad G h cc nL own) {a ci ix N : Nat} {fs : List Value} {Cl : String} {T : u_T} {v : Value} {ty : FieldType} (q0 j : Nat) (he : ws[q0]? = some (a, .inr (ci, fs))) (hc : vwCl[ci]? = some (Cl, T, N)) (hin : ∀ w ∈ u_ws Cl T N, w ∈ ww_T) (hj : j < N) (hlk : Cond.fieldLink own ix Cl (T j).2.1 (T j).2.2.1 ∈ ww_T) (hrf : (T j).1 = Cl) (ty0 : Nat → FieldType) (hty : ∀ k, k < N → parseFieldDescriptor (T k).2.2.1 = some (ty0 k)) (hnm : ∀ a, a < N → ∀ b, b < N → a ≠ b → (T a).2.1 ≠ (T b).2.1) (hdI : parseFieldDescriptor (T j).2.2.1 = some ty) (hna : narrow ty v = v) (hfi : fits ty v = true) (hl9 : j < fs.length) (hfin : (T j).2.2.2 = false) (hd : decode cc pc = .ok (.putfield ix, 3)) (kk : ww_U X Y r0 (ws.set q0 (a, .inr (ci, fs.set j v))) nL cells slots (pc + 3) lv st) : ww_U X Y r0 ws nL cells slots pc lv (v :: .ref a :: st) := by
  obtain ⟨p, l, e, R, s, m, args, below, meth, c, cells0, slots0, Qf, A⟩ := X
  obtain ⟨rfl, ⟨hRf, hRl, hRc, hRs⟩, hx, hb, hml, hown, hts, hEv, hI, hAk, hA⟩ := hC
  intro H locs ls hP hD hS hl
  exact va_put hx hb hts hin ty0 hty hnm hown hEv.1 hP hD hS q0 he hc j hj (hts _ hlk) (fun _ h9 => by rw [← hrf]; exact h9) hfin hdI hna hfi hl9 hd (fun H1 locs1 hP1 hD1 hS1 => kk H1 locs1 ls hP1 hD1 hS1 hl)
theorem uw_get (hC : ww_C X l0 Y ad G h cc nL own) {a ci ix N : Nat} {fs : List Value} {Cl : String} {T : u_T} {v : Value} (q0 j : Nat) (he : ws[q0]? = some (a, .inr (ci, fs))) (hc : vwCl[ci]? = some (Cl, T, N)) (hin : ∀ w ∈ u_ws Cl T N, w ∈ ww_T) (hj : j < N) (hlk : Cond.fieldLink own ix Cl (T j).2.1 (T j).2.2.1 ∈ ww_T) (hrf : (T j).1 = Cl) (hv : fs[j]? = some v) (hd : decode cc pc = .ok (.getfield ix, 3)) (kk : ww_U X Y r0 ws nL cells slots (pc + 3) lv (v :: st)) : ww_U X Y r0 ws nL cells slots pc lv (.ref a :: st) := by
  obtain ⟨p, l, e, R, s, m, args, below, meth, c, cells0, slots0, Qf, A⟩ := X
  obtain ⟨rfl, ⟨hRf, hRl, hRc, hRs⟩, hx, hb, hml, hown, hts, hEv, hI, hAk, hA⟩ := hC
  intro H locs ls hP hD hS hl
  exact va_get hx hb hts hin hown hEv.1 hP q0 he hc j hj (hts _ hlk) (fun _ h9 => by rw [← hrf]; exact h9) hv hd (kk H locs ls hP hD hS hl)
theorem uw_iast (hC : ww_C X l0 Y ad G h cc nL own) {a N j : Nat} {f : Nat → Int32} {i x : Int32} (q0 : Nat) (he : ws[q0]? = some (a, .inl (Y.2.1 0, N, .inl f))) (hi : vp_in i N) (hj : i.toNatClampNeg = j) (hd : decode cc pc = .ok (.iastore, 1)) (kk : ww_U X Y r0 (ws.set q0 (a, .inl (Y.2.1 0, N, .inl (upd f j x)))) nL cells slots (pc + 1) lv st) : ww_U X Y r0 ws nL cells slots pc lv (.int x :: .int i :: .ref a :: st) := by
  obtain ⟨p, l, e, R, s, m, args, below, meth, c, cells0, slots0, Qf, A⟩ := X
  obtain ⟨rfl, ⟨hRf, hRl, hRc, hRs⟩, hx, hb, hml, hown, hts, hEv, hI, hAk, hA⟩ := hC
  intro H locs ls hP hD hS hl
  subst hj
  exact va_iast hx hb hEv.1 hP hD hS q0 0 he rfl hi hd (fun H1 locs1 hP1 hD1 hS1 => kk H1 locs1 ls hP1 hD1 hS1 hl)
theorem uw_aast (hC : ww_C X l0 Y ad G h cc nL own) {a ci N j v t : Nat} {r : vw_C} {vs : List Value} {f : Nat → Option Nat} {i : Int32} (q0 qk : Nat) (he : ws[q0]? = some (a, .inl (Y.2.1 t, N, .inr (.inr (.inr (.inr f)))))) (ht : ∀ cA : Nat → ClassId, (ww_tys cA)[t]? = some (cA t, .object r.1)) (hv : ws[qk]? = some (v, .inr (ci, vs))) (hc : vwCl[ci]? = some r) (hi : vp_in i N) (hj : i.toNatClampNeg = j) (hd : decode cc pc = .ok (.aastore, 1)) (kk : ww_U X Y r0 (ws.set q0 (a, .inl (Y.2.1 t, N, .inr (.inr (.inr (.inr (va_up f j (some v)))))))) nL cells slots (pc + 1) lv st) : ww_U X Y r0 ws nL cells slots pc lv (.ref v :: .int i :: .ref a :: st) := by
  obtain ⟨p, l, e, R, s, m, args, below, meth, c, cells0, slots0, Qf, A⟩ := X
  obtain ⟨rfl, ⟨hRf, hRl, hRc, hRs⟩, hx, hb, hml, hown, hts, hEv, hI, hAk, hA⟩ := hC
  intro H locs ls hP hD hS hl
  subst hj
  exact va_astq hx hb hEv.1 hP hD hS q0 t qk ci he (ht _) hv hc hi hd (fun H1 locs1 hP1 hD1 hS1 => kk H1 locs1 ls hP1 hD1 hS1 hl)
theorem uw_alenR (hC : ww_C X l0 Y ad G h cc nL own) {a t N : Nat} {f : Nat → Option Nat} {ty : FieldType} {v : Int32} (q0 : Nat) (he : ws[q0]? = some (a, .inl (Y.2.1 t, N, .inr (.inr (.inr (.inr f)))))) (ht : ∀ cA : Nat → ClassId, (ww_tys cA)[t]? = some (cA t, ty)) (hv : Int32.ofNat N = v) (hd : decode cc pc = .ok (.arraylength, 1)) (kk : ww_U X Y r0 ws nL cells slots (pc + 1) lv (.int v :: st)) : ww_U X Y r0 ws nL cells slots pc lv (.ref a :: st) := by
  obtain ⟨p, l, e, R, s, m, args, below, meth, c, cells0, slots0, Qf, A⟩ := X
  obtain ⟨rfl, ⟨hRf, hRl, hRc, hRs⟩, hx, hb, hml, hown, hts, hEv, hI, hAk, hA⟩ := hC
  intro H locs ls hP hD hS hl
  exact va_alen hx hb hEv.1 hP q0 t he (ht _) hv hd (kk H locs ls hP hD hS hl)
/-- the world in the static form: on as ww_V -/
theorem uw_toV {σ : ww_M} {ad1 : Nat → Nat} {G1 : List ww_L} (hw : ws = ww_Wr ad1 Y.2.1 σ 0 G1) (kk : match X with | (p, l, e, R, s, m, args, below, meth, c, _, _, Qf, A) => va_D A ws → ww_V (p, l, e, R, s, m, args, below, meth, c, cells, slots, Qf, A) Y ad1 G1 nL σ pc lv st (some r0)) : ww_U X Y r0 ws nL cells slots pc lv st := by
  obtain ⟨p, l, e, R, s, m, args, below, meth, c, cells0, slots0, Qf, A⟩ := X
  intro H locs ls hP hD hS hl
  exact kk hD H locs ls r0 rfl (by rw [← ww_Wr_eq, ← hw]; exact hP) hS hl
end UROWS
theorem ww_inj {G : List ww_L} {ad : Nat → Nat} {cA : Nat → ClassId} {σ : ww_M} {A : Nat → Prop} (hD : va_D A (ww_W G ad cA σ)) : (∀ i j, i < G.length → j < G.length → ad i = ad j → i = j) ∧ ∀ k, k < G.length → A (ad k) := by
  refine ⟨fun i j hi hj e => ?_, fun k hk => ?_⟩
  · exact hD.1 i j _ _ (ww_W_get (List.getElem?_eq_getElem hi)) (ww_W_get (List.getElem?_eq_getElem hj)) e
  · exact hD.2 k _ (ww_W_get (List.getElem?_eq_getElem hk))
def ww_Ci (l : Launch) (Y : ww_Y) (y : MethodName) (cc : ByteArray) (nL h mc ms : Nat) (e0 : va_E) (L : List ww_L) (σ : ww_M) (B : State → Prop) : Prop :=
  ∀ (sz h0 : Nat), Met l y (.code y cc nL none :: ww_T) (ww_Rc h mc ms) (va_Pc [.ref h0] (fun U => (U.heap.size = sz ∧ va_P Y.1 vwCl [(h0, e0)] U.heap ∧ ww_Ev Y (va_A [(h0, e0)] sz) U U.heap) ∧ B U)) (ww_Qc Y L σ h0 (va_A [(h0, e0)] sz)) mc ms (va_A [(h0, e0)] sz)
theorem uw_met {l : Launch} {Y : ww_Y} {y : MethodName} {cc : ByteArray} {nL h mc ms : Nat} {e0 : va_E} {L : List ww_L} {σ : ww_M} {B : State → Prop} (hy : plainFor y = true) (hyn : y.name = "<init>") (hav : 1 ≤ nL)
    (body : ∀ (X : ww_X) (h0 : Nat), ww_C X l Y (fun _ => 0) [] h cc nL y.cls → ww_CI X mc ms True → ww_QQx X Y L σ h0 mc ms B → ww_U X Y (none, σ) [(h0, e0)] nL 0 0 0 [(0, .ref h0)] []) : ww_Ci l Y y cc nL h mc ms e0 L σ B := by
  intro sz h0
  refine va_MetF (cc := cc) (maxL := nL) (ret := none) hy rfl ?_
  intro p e s m args below meth c s₁ Bd hml hv
  obtain ⟨rfl, ⟨hsz, hP, hEv⟩, hB⟩ := hv
  subst hsz
  have hts := atoms_spec (ws := .code y cc nL none :: ww_T) Bd.pre
  have hname : meth.name = "<init>" := by rw [← hyn]; exact (name_of_methodNamed Bd.named Bd.method).1
  have hb := body (p, l, e, (headSpec (.code y cc nL none :: ww_T) (ww_Rc h mc ms)).room, s, m, [Value.ref h0].toArray, below, meth, c, 0, 0, (fun _ => MQ below (ww_Qc Y L σ h0 (va_A [(h0, e0)] s.heap.size)) [Value.ref h0].toArray s mc ms (va_A [(h0, e0)] s.heap.size)), va_A [(h0, e0)] s.heap.size) h0
    ⟨rfl, ⟨Nat.le_refl _, Nat.le_refl _, Nat.zero_le _, Nat.zero_le _⟩, Bd.exec, Bd.bytes, hml, findClass_of_methodNamed Bd.named, fun w hw => hts w (List.mem_cons_of_mem _ hw), hEv, fun i j hi => absurd hi (Nat.not_lt_zero _), fun k hk => absurd hk (Nat.not_lt_zero _), fun q hq => Or.inr hq⟩
    ⟨Nat.le_refl _, Nat.le_refl _, fun _ => hname⟩ ⟨⟨Bd.returns, Bd.notSynchronized, rfl⟩, hB⟩
  rw [lg_entry_eq]
  refine hb s.heap [] _ hP ⟨fun i j p q h1 h2 _ => ?_, fun k q hk => va_A.in hk⟩ va_S.rf (lv_entry [.ref h0] hav)
  have l1 : i < 1 := (List.getElem?_eq_some_iff.mp h1).1
  have l2 : j < 1 := (List.getElem?_eq_some_iff.mp h2).1
  omega
section UCALL
variable {X : ww_X} {l0 : Launch} {Y : ww_Y} {ad : Nat → Nat} {G : List ww_L} {h nL pc mc ms cells slots : Nat} {cc : ByteArray} {own : String} {r0 : ww_R} {lv : List (Nat × Value)} {st st0 : List Value} {ws : va_W} {ini : Prop}
theorem uw_ret (hC : ww_C X l0 Y ad G h cc nL own) {L : List ww_L} {σ : ww_M} {h0 : Nat} {B : State → Prop} (hQ : ww_QQx X Y L σ h0 cells slots B) (f : Nat → Nat) (hf : f 0 = h0) (hw : ws = ww_Wr f Y.2.1 σ 0 L) (hd : decode cc pc = .ok (.return_, 1)) : ww_U X Y r0 ws nL cells slots pc lv [] := by
  obtain ⟨p, l, e, R, s, m, args, below, meth, c, cells0, slots0, Qf, A⟩ := X
  obtain ⟨rfl, ⟨hRf, hRl, hRc, hRs⟩, hx, hb, hml, hown, hts, hEv, hI, hAk, hA⟩ := hC
  obtain ⟨⟨hr1, hlk, rfl⟩, -⟩ := hQ
  subst hw
  intro H locs ls hP hD hS hl
  exact W.vret hx hb hr1 (fun t ht _ => ⟨rfl, ⟨f, hf, by rw [ht]; exact hP, hD⟩, hS.F ht⟩) hS.2.2 hd (hlocks := hlk)
theorem uw_after {p : Program} {l : Launch} {e : Env} {R : Room} {s : State} {m : MethodId} {args : Array Value} {below : List Frame} {meth : Method} {c : Code} {H : Heap} {locs : List Loc} {ls : Array Slot} {A : Nat → Prop} {Q : State → Prop} {a : Array Value} {q : Nat} {e0 : va_E} {L : List ww_L} {σ : ww_M} {mcc msc : Nat}
    (hP : va_P Y.1 vwCl (ws ++ [(q, e0)]) H) (hD : va_D A (ws ++ [(q, e0)])) (hS : va_S A s.heap H locs) (hA : ∀ q, s.heap.size ≤ q → A q)
    (run : va_Run p l e R s m args below meth c H locs cells slots mcc msc (F0 m pc ls st0) st (ww_Qc Y L σ q (va_A [(q, e0)] H.size) a) (va_A [(q, e0)] H.size))
    (kk : ∀ (f : Nat → Nat) (H1 : Heap) (locs1 : List Loc), f 0 = q → va_P Y.1 vwCl (ws ++ ww_Wr f Y.2.1 σ 0 L) H1 → va_D A (ws ++ ww_Wr f Y.2.1 σ 0 L) → va_S A s.heap H1 locs1 → W p l e R s m args below meth c H1 locs1 (cells + mcc) (slots + msc) Q (F0 m (pc + 3) ls st)) : W p l e R s m args below meth c H locs cells slots Q (F0 m pc ls st0) := by
  have hAq : A q := hD.2 ws.length (q, e0) (by simp)
  have hf : ∀ x, va_A [(q, e0)] H.size x → A x := by
    intro x h
    rcases h with ⟨k, e, h⟩ | h
    · have hz : k < 1 := (List.getElem?_eq_some_iff.mp h).1
      rw [show k = 0 by omega] at h
      cases h
      exact hAq
    · exact hA x (Nat.le_trans hS.1 h)
  intro T hT X
  obtain ⟨v, st₀, t, T', Lx, h0, X', hL, e1, e2, ⟨hv, ⟨f, hf0, hP1, hD1⟩, hz, hk⟩, stp⟩ := run T hT X
  rw [h0] at hz hk
  have hv' : v = none := by injection hv
  subst hv'
  have apart : ∀ (k : Nat) (x : Nat × va_E), ws[k]? = some x → x.1 < H.size ∧ ¬ va_A [(q, e0)] H.size x.1 := by
    intro k x hx
    have hkl := (List.getElem?_eq_some_iff.mp hx).1
    have hx' : (ws ++ [(q, e0)])[k]? = some x := by rw [List.getElem?_append_left hkl]; exact hx
    have hlt := (hP k x hx').lt
    refine ⟨hlt, fun h => ?_⟩
    rcases h with ⟨k2, e, h⟩ | h
    · have hz : k2 < 1 := (List.getElem?_eq_some_iff.mp h).1
      rw [show k2 = 0 by omega] at h
      have hq : x.1 = q := by cases h; rfl
      have := hD.1 k ws.length x (q, e0) hx' (by simp) hq
      omega
    · omega
  have hPw : va_P Y.1 vwCl ws T'.heap := fun k x hx => by
    have hkl := (List.getElem?_eq_some_iff.mp hx).1
    have hx' : (ws ++ [(q, e0)])[k]? = some x := by rw [List.getElem?_append_left hkl]; exact hx
    obtain ⟨g1, g2⟩ := apart k x hx
    exact (hP k x hx').kept (by rw [e1]; exact hk x.1 g1 g2)
  have hDw : va_D A ws := ⟨fun i j x y hx hy e => hD.1 i j x y (by rw [List.getElem?_append_left (List.getElem?_eq_some_iff.mp hx).1]; exact hx) (by rw [List.getElem?_append_left (List.getElem?_eq_some_iff.mp hy).1]; exact hy) e, fun k x hx => hD.2 k x (by rw [List.getElem?_append_left (List.getElem?_eq_some_iff.mp hx).1]; exact hx)⟩
  obtain ⟨t2, a1, b1⟩ := kk f T'.heap (locs ++ Lx) hf0 (va_P.app hPw (by rw [e1]; exact hP1)) (va_D.app hDw (hD1.weaken (fun k x _ h => hf x.1 h)) (fun i j x y hx hy hxy => (apart i x hx).2 (by rw [hxy]; exact hD1.2 j y hy))) ⟨Nat.le_trans hS.1 (by rw [e1]; exact hz), fun x h1 h2 => by rw [e1, hk x (Nat.lt_of_lt_of_le h1 hS.1) (fun z => h2 (hf x z))]; exact hS.2.1 x h1 h2, fun x hx => by
      rcases List.mem_append.mp hx with h | h
      · exact hS.2.2 x h
      · exact hf _ (hL x h)⟩ T' rfl X'
  exact ⟨t2, stp t2 a1, b1⟩
def ww_mI (y : MethodName) (bytes : ByteArray) (maxL : Nat) : Prop := Cond.code y bytes maxL none ∈ ww_T ∧ Cond.initialized y.cls ∈ ww_T ∧ Cond.instanceMethod y ∈ ww_T ∧ y.name = "<init>" ∧ (y.cls ≠ "java/lang/invoke/MethodHandle" ∧ y.cls ≠ "java/lang/invoke/VarHandle" ∧ (parseMethodDescriptor y.desc).map (fun d => d.parameters.length) = some 0)
theorem uw_initN (hC : ww_C X l0 Y ad G h cc nL own) (hI1 : ww_CI X mc ms ini) {y : MethodName} {host : String} {bytes : ByteArray} {maxL h' index q mcc msc : Nat} {e0 : va_E} {L : List ww_L} {σ : ww_M} {B : State → Prop} (hM : ww_Ci l0 Y y bytes maxL h' mcc msc e0 L σ B) (hBlind : ∀ {a : Array Value} {U : State} {g : JFrame} {mk : MethodId}, B U → B (U.calling g mk a)) (hBB : ww_BBx X B) (hm : ww_mI y bytes maxL) (hlk : Cond.methodLinkNest own index y host ∈ ww_N) (hh : h' + 1 ≤ h) (hL : maxL ≤ 21) (hs8 : (st.map fun v => v.category).sum ≤ 8) (hc1 : cells + mcc ≤ mc) (hs1 : slots + msc ≤ ms) (hd : decode cc pc = .ok (.invokespecial index, 3))
    (kk : ∀ f : Nat → Nat, f 0 = q → ww_U X Y r0 (ws ++ ww_Wr f Y.2.1 σ 0 L) nL (cells + mcc) (slots + msc) (pc + 3) lv st) : ww_U X Y r0 (ws ++ [(q, e0)]) nL cells slots pc lv (.ref q :: st) := by
  obtain ⟨p, l, e, R, s, m, args, below, meth, c, cells0, slots0, Qf, A⟩ := X
  obtain ⟨rfl, ⟨hRf, hRl, hRc, hRs⟩, hx, hb, hml, hown, hts, hEv, hI, hAk, hA⟩ := hC
  intro H locs ls hP hD hS hl
  obtain ⟨hRc2, hRs2, -⟩ := hI1
  have hM' := hM H.size q
  obtain ⟨m1, m2, m3, m4, m5⟩ := hm
  have hf : ∀ x, va_A [(q, e0)] H.size x → A x := by
    intro x h
    rcases h with ⟨k, e, h⟩ | h
    · have hz : k < 1 := (List.getElem?_eq_some_iff.mp h).1
      rw [show k = 0 by omega] at h
      cases h
      exact hD.2 ws.length (q, e0) (by simp)
    · exact hA x (Nat.le_trans hS.1 h)
  have hPq : va_P Y.1 vwCl [(q, e0)] H := fun k x hx => by
    have hz : k < 1 := (List.getElem?_eq_some_iff.mp hx).1
    rw [show k = 0 by omega] at hx
    exact hP ws.length x (by rw [List.getElem?_append_right (Nat.le_refl _), Nat.sub_self]; exact hx)
  refine uw_after (a := [Value.ref q].toArray) hP hD hS hA (va_runIN (As := []) (rest := st) ⟨hx, hb, hml, hown, hts⟩ hM' ⟨va_cnB 0 hts (ww_good m1) rfl rfl rfl (hEv.2.1 _ hlk) (hts _ m2) m5 ⟨by show h' + 1 ≤ _; omega, by show 8 + (maxL + 11) + 40 * h' ≤ _; omega⟩, m4, hts _ m3⟩ ⟨?_, fun U hU hW => ⟨rfl, ⟨by rw [hU], by rw [hU]; exact hPq, by rw [hU]; exact hEv.warm hW hS.2.1 (fun x _ z => hf x z) hf⟩, hBB U hW.alike⟩⟩ rfl rfl hl.1 rfl (lv_room hs8) hd ⟨by omega, by omega⟩) (fun f H1 locs1 hf0 hP1 hD1 hS1 => kk f hf0 H1 locs1 ls hP1 hD1 hS1 hl)
  intro a U g mk qq
  obtain ⟨q0, ⟨q1, qP, qE⟩, qB⟩ := qq
  have qE2 : ww_Ev Y (va_A [(q, e0)] H.size) (U.calling g mk a) U.heap := ww_Ev.same (U := U) (V := U.calling g mk a) rfl qE
  exact ⟨q0, ⟨q1, qP, qE2⟩, hBlind qB⟩
theorem uw_init (hC : ww_C X l0 Y ad G h cc nL own) (hI1 : ww_CI X mc ms ini) {y : MethodName} {bytes : ByteArray} {maxL h' index q mcc msc : Nat} {e0 : va_E} {L : List ww_L} {σ : ww_M} {B : State → Prop} (hM : ww_Ci l0 Y y bytes maxL h' mcc msc e0 L σ B) (hBlind : ∀ {a : Array Value} {U : State} {g : JFrame} {mk : MethodId}, B U → B (U.calling g mk a)) (hBB : ww_BBx X B) (hm : ww_mI y bytes maxL) (hlk : Cond.methodLink own index y ∈ ww_T) (hh : h' + 1 ≤ h) (hL : maxL ≤ 21) (hs8 : (st.map fun v => v.category).sum ≤ 8) (hc1 : cells + mcc ≤ mc) (hs1 : slots + msc ≤ ms) (hd : decode cc pc = .ok (.invokespecial index, 3))
    (kk : ∀ f : Nat → Nat, f 0 = q → ww_U X Y r0 (ws ++ ww_Wr f Y.2.1 σ 0 L) nL (cells + mcc) (slots + msc) (pc + 3) lv st) : ww_U X Y r0 (ws ++ [(q, e0)]) nL cells slots pc lv (.ref q :: st) := by
  obtain ⟨p, l, e, R, s, m, args, below, meth, c, cells0, slots0, Qf, A⟩ := X
  obtain ⟨rfl, ⟨hRf, hRl, hRc, hRs⟩, hx, hb, hml, hown, hts, hEv, hI, hAk, hA⟩ := hC
  intro H locs ls hP hD hS hl
  obtain ⟨hRc2, hRs2, -⟩ := hI1
  have hM' := hM H.size q
  obtain ⟨m1, m2, m3, m4, m5⟩ := hm
  have hf : ∀ x, va_A [(q, e0)] H.size x → A x := by
    intro x h
    rcases h with ⟨k, e, h⟩ | h
    · have hz : k < 1 := (List.getElem?_eq_some_iff.mp h).1
      rw [show k = 0 by omega] at h
      cases h
      exact hD.2 ws.length (q, e0) (by simp)
    · exact hA x (Nat.le_trans hS.1 h)
  have hPq : va_P Y.1 vwCl [(q, e0)] H := fun k x hx => by
    have hz : k < 1 := (List.getElem?_eq_some_iff.mp hx).1
    rw [show k = 0 by omega] at hx
    exact hP ws.length x (by rw [List.getElem?_append_right (Nat.le_refl _), Nat.sub_self]; exact hx)
  refine uw_after (a := [Value.ref q].toArray) hP hD hS hA (va_runI (As := []) (rest := st) ⟨hx, hb, hml, hown, hts⟩ hM' ⟨callB_of 0 hts (ww_good m1) rfl rfl rfl (hts _ m2) (hts _ hlk) m5 ⟨by show h' + 1 ≤ _; omega, by show 8 + (maxL + 11) + 40 * h' ≤ _; omega⟩, m4, hts _ m3⟩ ⟨?_, fun U hU hW => ⟨rfl, ⟨by rw [hU], by rw [hU]; exact hPq, by rw [hU]; exact hEv.warm hW hS.2.1 (fun x _ z => hf x z) hf⟩, hBB U hW.alike⟩⟩ rfl rfl hl.1 rfl (lv_room hs8) hd ⟨by omega, by omega⟩) (fun f H1 locs1 hf0 hP1 hD1 hS1 => kk f hf0 H1 locs1 ls hP1 hD1 hS1 hl)
  intro a U g mk qq
  obtain ⟨q0, ⟨q1, qP, qE⟩, qB⟩ := qq
  have qE2 : ww_Ev Y (va_A [(q, e0)] H.size) (U.calling g mk a) U.heap := ww_Ev.same (U := U) (V := U.calling g mk a) rfl qE
  exact ⟨q0, ⟨q1, qP, qE2⟩, hBlind qB⟩
theorem ww_arrV_cong {cA : ClassId} {N : Nat} {f g : Nat → Value} (h : ∀ i, i < N → f i = g i) : arrV cA N f = arrV cA N g := by
  unfold arrV
  congr 1
  apply Array.ext
  · simp
  · intro i h1 h2
    have hi : i < N := by simpa using h1
    simp [h i hi]
theorem uw_refs {a N k : Nat} {cA : ClassId} {f : Nat → Option Nat} (g : Nat → Option Nat) (he : ws[k]? = some (a, .inl (cA, N, .inr (.inr (.inr (.inr f)))))) (hfg : ∀ i, i < N → f i = g i) (kk : ww_U X Y r0 (ws.set k (a, .inl (cA, N, .inr (.inr (.inr (.inr g)))))) nL cells slots pc lv st) : ww_U X Y r0 ws nL cells slots pc lv st := by
  obtain ⟨p, l, e, R, s, m, args, below, meth, c, cells0, slots0, Qf, A⟩ := X
  intro H locs ls hP hD hS hl
  refine kk H locs ls (fun j q hq => ?_) (hD.set he) hS hl
  rw [List.getElem?_set] at hq
  by_cases hj : k = j
  · subst hj
    have hkl := (List.getElem?_eq_some_iff.mp he).1
    rw [if_pos rfl, if_pos hkl] at hq
    cases hq
    have h1 := hP k _ he
    show H[a]? = some (vp_cell cA (N, .inr (.inr (.inr (.inr g)))))
    have h2 : H[a]? = some (vp_cell cA (N, .inr (.inr (.inr (.inr f))))) := h1
    rw [h2]
    congr 1
    rw [vp_cell_q, vp_cell_q]
    exact ww_arrV_cong (fun i hi => by rw [hfg i hi])
  · rw [if_neg hj] at hq
    exact hP j q hq
end UCALL
