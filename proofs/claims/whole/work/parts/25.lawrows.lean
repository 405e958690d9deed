def R_law : String := "WeighedWhalesLaw"
def lw_P (b : Addr) (xs : List Int32) (args : Array Value) (s : State) : Prop := args = #[.ref b] ∧ s.IntsAt b xs ∧ xs.length ≤ 320 ∧ (Jvm.Cond.and given_1 narrow_1).before args s = true
def lw_Q (_ : Array Value) (s : State) (o : Outcome) (t : State) : Prop := o = .returned (some (.int 1)) ∧ Framed s o t [] 600000 7302249
def lw_Z (below : List Frame) (a : Array Value) (s : State) : State → Prop := fun t => ∃ o, t.status = .running ∧ Ended t below o ∧ lw_Q a s o t
/-- the law's own end, with 1 on the stack, nothing written that was there before, its room as the claim has it -/
theorem lw_ret {p : Program} {l : Launch} {e : Env} {s : State} {m : MethodId} {below : List Frame} {meth : Method} {c : Code} {b : Nat} (hx : p.tables.exec = Jvm.exec) (hb : c.code = code) (hr : meth.sig.returnType = ret) (hlocks : meth.locks = false) {pc : Nat} {H : Heap} {ls : Array Slot} (hdg : decode code pc = .ok (.ireturn, 1)) : W p l e room_1 s m #[Value.ref b] below meth c H [] 600000 7302249 (lw_Z below #[Value.ref b] s) (F0 m pc ls [.int 1]) := by
  intro T hT X
  obtain ⟨fs, hret, hrun, hended, hW, hframe⟩ := X.leave (v := some (.int 1)) (hlocks := hlocks) (fun h => by rw [hr] at h; cases h)
  have hmeth' : T.vm.method? m = some meth := X.method'
  refine ⟨T.setFrames fs, ?_, .returned (some (.int 1)), hrun, hended, rfl, ⟨_, rfl⟩, hW, hframe⟩
  jvm_step X.here [X.here.top, hx, hb, hdg, hmeth', hr, ret, narrow_b1]
  (try refine ⟨rfl, ?_⟩); (try refine ⟨rfl, ?_⟩)
  first | (intro acts; rw [hret _ acts rfl rfl rfl]) | rw [hret _ _ rfl rfl rfl]
  exact Steps.refl _
/-- what holds at the law's entry: the machine, the code, the tables' words (any of lw_tbl by 'hts w (by decide +kernel)'), the script of L ints xs at the cell b, what the Statement gives of the start (any of its parts by flat_of_before) -/
def lw_At (p : Program) (s : State) (m : MethodId) (meth : Method) (c : Code) (b L : Nat) (xs : Nat → Int32) : Prop :=
  p.tables.exec = Jvm.exec ∧ c.code = code ∧ meth.sig.returnType = ret ∧ c.maxLocals = 4 ∧ s.vm.findClass R_law = some m.cls ∧ (∀ w ∈ lw_tbl, w.before #[Value.ref b] s = true) ∧ va_X b L xs s s.heap ∧ b < s.heap.size ∧ meth.locks = false ∧ (Jvm.Cond.and given_1 narrow_1).before #[Value.ref b] s = true
def ww_CX (X : ww_X) (b L : Nat) (xs : Nat → Int32) : Prop := match X with
  | (p, l, e, R, s, m, args, below, meth, c, cells, slots, Qf, A) => va_X b L xs s s.heap ∧ b < s.heap.size ∧ ¬ A b
def ww_CL (X : ww_X) (b : Nat) : Prop := match X with
  | (p, l, e, R, s, m, args, below, meth, c, cells, slots, Qf, A) => R = room_1 ∧ args = #[Value.ref b] ∧ meth.sig.returnType = ret ∧ meth.locks = false ∧ cells ≤ 600000 ∧ slots ≤ 7302249 ∧ (Qf = fun r t => r.1 = some (Value.int 1) → lw_Z below #[Value.ref b] s t) ∧ (A = fun q => s.heap.size ≤ q)
section WLAW
variable {X : ww_X} {l0 : Launch} {Y : ww_Y} {ad : Nat → Nat} {G : List ww_L} {h nL pc b L : Nat} {xs : Nat → Int32} {cc : ByteArray} {own : String} {σ : ww_M} {lv : List (Nat × Value)} {st : List Value} {o : Option ww_R} {α : Type} {K : α → Option ww_R}
theorem ww_xlen (hC : ww_C X l0 Y ad G h cc nL own) (hX : ww_CX X b L xs) (hd : decode cc pc = .ok (.arraylength, 1)) (kk : ww_V X Y ad G nL σ (pc + 1) lv (.int (nI L) :: st) o) : ww_V X Y ad G nL σ pc lv (.ref b :: st) o := by
  obtain ⟨p, l, e, R, s, m, args, below, meth, c, cells, slots, Qf, A⟩ := X
  obtain ⟨rfl, ⟨hRf, hRl, hRc, hRs⟩, hx, hb, hml, hown, hts, hEv, hI, hAk, hA⟩ := hC
  obtain ⟨x1, x2, x3⟩ := hX
  intro H locs ls r hr hP hS hl
  exact va_slen hx hb x1 x2 x3 hS hd (kk H locs ls r hr hP hS hl)
theorem ww_xld (hC : ww_C X l0 Y ad G h cc nL own) (hX : ww_CX X b L xs) {E : Option α} {i : Int32} (hd : decode cc pc = .ok (.iaload, 1)) (kk : ww_V X Y ad G nL σ (pc + 1) lv (.int (xs (ww_ix i)) :: st) (E.bind K)) : ww_V X Y ad G nL σ pc lv (.int i :: .ref b :: st) ((ww_ck (ww_in i L) E).bind K) := by
  obtain ⟨p, l, e, R, s, m, args, below, meth, c, cells, slots, Qf, A⟩ := X
  obtain ⟨rfl, ⟨hRf, hRl, hRc, hRs⟩, hx, hb, hml, hown, hts, hEv, hI, hAk, hA⟩ := hC
  obtain ⟨x1, x2, x3⟩ := hX
  intro H locs ls r hr hP hS hl
  obtain ⟨hg, hr⟩ := ww_ck_some hr
  exact va_sld hx hb x1 x2 x3 hS (ww_in_p hg) hd (kk H locs ls r hr hP hS hl)
theorem ww_lret1 (hC : ww_C X l0 Y ad G h code nL own) (hL : ww_CL X b) (hd : decode code pc = .ok (.ireturn, 1)) (ho : o = some (some (.int 1), σ)) : ww_V X Y ad G nL σ pc lv [.int 1] o := by
  obtain ⟨p, l, e, R, s, m, args, below, meth, c, cells, slots, Qf, A⟩ := X
  obtain ⟨rfl, ⟨hRf, hRl, hRc, hRs⟩, hx, hb, hml, hown, hts, hEv, hI, hAk, hA⟩ := hC
  obtain ⟨rfl, rfl, c3, c4, c5, c6, rfl, rfl⟩ := hL
  intro H locs ls r hr hP hS hl
  refine va_forget hS.2.2 ?_
  refine W.widen (k := 600000) (n := 7302249) c5 c6 ?_
  intro T hT X
  obtain ⟨t, a1, b1⟩ := lw_ret (p := p) (l := l) (e := e) (s := s) (m := m) (below := below) (meth := meth) (c := c) (b := b) (H := H) (ls := ls) hx hb c3 c4 hd T hT X
  exact ⟨t, a1, fun _ => b1⟩
theorem ww_lret0 (hC : ww_C X l0 Y ad G h code nL own) (hL : ww_CL X b) (hd : decode code pc = .ok (.ireturn, 1)) (ho : o = some (some (.int 0), σ)) : ww_V X Y ad G nL σ pc lv [.int 0] o := by
  obtain ⟨p, l, e, R, s, m, args, below, meth, c, cells, slots, Qf, A⟩ := X
  obtain ⟨rfl, ⟨hRf, hRl, hRc, hRs⟩, hx, hb, hml, hown, hts, hEv, hI, hAk, hA⟩ := hC
  obtain ⟨rfl, rfl, c3, c4, c5, c6, rfl, rfl⟩ := hL
  intro H locs ls r hr hP hS hl
  cases hr.symm.trans ho
  intro T hT X
  refine ⟨_, Steps.refl _, fun h => ?_⟩
  exact absurd (Value.int.inj (Option.some.inj h)) (by decide)
end WLAW
