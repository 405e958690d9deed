/-! ===== loops, returns, calls, entry ===== -/
def ww_kk {α β : Type} (f : α → Option (α ⊕ β)) (K : β → Option ww_R) (n : Nat) : α ⊕ β → Option ww_R
  | .inl y => (ww_it f n y).bind K
  | .inr b => K b
theorem ww_it_succ {α β : Type} (f : α → Option (α ⊕ β)) (K : β → Option ww_R) (n : Nat) (a : α) : (ww_it f (n + 1) a).bind K = (f a).bind (ww_kk f K n) := by
  cases e : f a with
  | none => simp [ww_it, e]
  | some x => cases x <;> simp [ww_it, e, ww_kk]
section WLOOP
variable {X : ww_X} {l0 : Launch} {Y : ww_Y} {ad : Nat → Nat} {G : List ww_L} {h nL pc : Nat} {cc : ByteArray} {own : String} {σ : ww_M} {lv lv' : List (Nat × Value)} {st : List Value} {o : Option ww_R} {α β γ : Type}
theorem ww_loop {f : α → Option (α ⊕ β)} {K : β → Option ww_R} (σf : α → ww_M) (lvf : α → List (Nat × Value)) (σe : β → ww_M) (lve : β → List (Nat × Value)) (pe : Nat)
    (hexit : ∀ b, ww_V X Y ad G nL (σe b) pe (lve b) st (K b))
    (hs : ∀ (a : α) (KK : α ⊕ β → Option ww_R), (∀ a', ww_V X Y ad G nL (σf a') pc (lvf a') st (KK (.inl a'))) → (∀ b, ww_V X Y ad G nL (σe b) pe (lve b) st (KK (.inr b))) → ww_V X Y ad G nL (σf a) pc (lvf a) st ((f a).bind KK)) :
    ∀ (n : Nat) (a : α), ww_V X Y ad G nL (σf a) pc (lvf a) st ((ww_it f n a).bind K) := by
  intro n
  induction n with
  | zero => intro a; exact ww_none rfl
  | succ n ih =>
    intro a
    exact ww_eq (ww_it_succ f K n a) (hs a (ww_kk f K n) ih hexit)
theorem ww_loopR {f : α → Option (α ⊕ (β ⊕ γ))} {K : β ⊕ γ → Option ww_R} (σf : α → ww_M) (lvf : α → List (Nat × Value)) (σe : β → ww_M) (lve : β → List (Nat × Value)) (pe : Nat)
    (hexit : ∀ b, ww_V X Y ad G nL (σe b) pe (lve b) st (K (.inl b)))
    (hs : ∀ (a : α) (KK : α ⊕ (β ⊕ γ) → Option ww_R), (∀ a', ww_V X Y ad G nL (σf a') pc (lvf a') st (KK (.inl a'))) → (∀ b, ww_V X Y ad G nL (σe b) pe (lve b) st (KK (.inr (.inl b)))) → (∀ g, KK (.inr (.inr g)) = K (.inr g)) → ww_V X Y ad G nL (σf a) pc (lvf a) st ((f a).bind KK)) :
    ∀ (n : Nat) (a : α), ww_V X Y ad G nL (σf a) pc (lvf a) st ((ww_it f n a).bind K) := by
  intro n
  induction n with
  | zero => intro a; exact ww_none rfl
  | succ n ih =>
    intro a
    exact ww_eq (ww_it_succ f K n a) (hs a (ww_kk f K n) ih hexit (fun _ => rfl))
theorem ww_assoc {f : Option α} {E : α → Option β} {K : β → Option ww_R} (k : ww_V X Y ad G nL σ pc lv st (f.bind (fun a => (E a).bind K))) : ww_V X Y ad G nL σ pc lv st ((f.bind E).bind K) := by
  refine ww_eq ?_ k
  cases f <;> rfl
theorem ww_ireturn (hC : ww_C X l0 Y ad G h cc nL own) (hR : ww_CR X Y ad G (some .int)) (hd : decode cc pc = .ok (.ireturn, 1)) {x : Int32} (ho : o = some (some (.int x), σ)) : ww_V X Y ad G nL σ pc lv [.int x] o := by
  obtain ⟨p, l, e, R, s, m, args, below, meth, c, cells, slots, Qf, A⟩ := X
  obtain ⟨rfl, ⟨hRf, hRl, hRc, hRs⟩, hx, hb, hml, hown, hts, hEv, hI, hAk, hA⟩ := hC
  obtain ⟨hr1, hlk, rfl⟩ := hR
  intro H locs ls r hr hP hS hl
  cases hr.symm.trans ho
  exact W.iret hx hb hr1 (fun t ht _ => ⟨rfl, by rw [ht]; exact hP, hS.F ht⟩) hS.2.2 hd (hlocks := hlk)
theorem ww_zreturn (hC : ww_C X l0 Y ad G h cc nL own) {ty : FieldType} (hR : ww_CR X Y ad G (some ty)) (hd : decode cc pc = .ok (.ireturn, 1)) {x : Int32} (hn : narrow ty (.int x) = .int x) (ho : o = some (some (.int x), σ)) : ww_V X Y ad G nL σ pc lv [.int x] o := by
  obtain ⟨p, l, e, R, s, m, args, below, meth, c, cells, slots, Qf, A⟩ := X
  obtain ⟨rfl, ⟨hRf, hRl, hRc, hRs⟩, hx, hb, hml, hown, hts, hEv, hI, hAk, hA⟩ := hC
  obtain ⟨hr1, hlk, rfl⟩ := hR
  intro H locs ls r hr hP hS hl
  cases hr.symm.trans ho
  exact W.zret hx hb hr1 hn (fun t ht _ => ⟨rfl, by rw [ht]; exact hP, hS.F ht⟩) hS.2.2 hd (hlocks := hlk)
theorem ww_zreturnG (hC : ww_C X l0 Y ad G h cc nL own) (hR : ww_CR X Y ad G (some .boolean)) (hd : decode cc pc = .ok (.ireturn, 1)) {x : Int32} {E : Option α} {K : α → Option ww_R} (ho : E.bind K = some (some (.int x), σ)) : ww_V X Y ad G nL σ pc lv [.int x] ((ww_ck (ww_isb x) E).bind K) := by
  cases hq : ww_isb x with
  | true => exact ww_zreturn hC hR hd (ww_isb_n hq) ho
  | false => exact ww_none rfl
theorem ww_lreturn (hC : ww_C X l0 Y ad G h cc nL own) (hR : ww_CR X Y ad G (some .long)) (hd : decode cc pc = .ok (.lreturn, 1)) {x : Int64} (ho : o = some (some (.long x), σ)) : ww_V X Y ad G nL σ pc lv [.long x] o := by
  obtain ⟨p, l, e, R, s, m, args, below, meth, c, cells, slots, Qf, A⟩ := X
  obtain ⟨rfl, ⟨hRf, hRl, hRc, hRs⟩, hx, hb, hml, hown, hts, hEv, hI, hAk, hA⟩ := hC
  obtain ⟨hr1, hlk, rfl⟩ := hR
  intro H locs ls r hr hP hS hl
  cases hr.symm.trans ho
  exact W.lret hx hb hr1 (fun t ht _ => ⟨rfl, by rw [ht]; exact hP, hS.F ht⟩) hS.2.2 hd (hlocks := hlk)
theorem ww_return (hC : ww_C X l0 Y ad G h cc nL own) (hR : ww_CR X Y ad G none) (hd : decode cc pc = .ok (.return_, 1)) (ho : o = some (none, σ)) : ww_V X Y ad G nL σ pc lv [] o := by
  obtain ⟨p, l, e, R, s, m, args, below, meth, c, cells, slots, Qf, A⟩ := X
  obtain ⟨rfl, ⟨hRf, hRl, hRc, hRs⟩, hx, hb, hml, hown, hts, hEv, hI, hAk, hA⟩ := hC
  obtain ⟨hr1, hlk, rfl⟩ := hR
  intro H locs ls r hr hP hS hl
  cases hr.symm.trans ho
  exact W.vret hx hb hr1 (fun t ht _ => ⟨rfl, by rw [ht]; exact hP, hS.F ht⟩) hS.2.2 hd (hlocks := hlk)
end WLOOP
theorem ww_Ev.same {Y : ww_Y} {A : Nat → Prop} {U V : State} {H : Heap} (hv : U.vm = V.vm) (h : ww_Ev Y A U H) : ww_Ev Y A V H := by
  obtain ⟨h1, h2, h3, h4, h5⟩ := h
  have ha : U.vm.Alike V.vm := by rw [← hv]; exact Vm.Alike.refl U.vm
  refine ⟨va_K.moved ha h1, fun w hw => ?_, h3.moved ha, ⟨h4.1.moved ha, h4.2.moved ha⟩, ww_RS.same hv h5⟩
  have hg := ww_Ng hw
  have hz := h2 w hw
  exact va_Nw.same (by cases w <;> first | rfl | cases hg) hv hz
theorem ww_blind (Y : ww_Y) (ad : Nat → Nat) (G : List ww_L) (sz : Nat) (σ : ww_M) (av : List Value) : FrameBlind (va_Pc av (ww_Pc Y ad G sz σ)) := by
  intro a U g mk q
  obtain ⟨q0, q1, qP, qE, qI⟩ := q
  have qE2 : ww_Ev Y (ww_AA G ad sz) (U.calling g mk a) U.heap := ww_Ev.same (U := U) (V := U.calling g mk a) rfl qE
  exact ⟨q0, q1, qP, qE2, qI⟩
/-- the body gives the contract -/
theorem ww_met {l : Launch} {Y : ww_Y} {ad : Nat → Nat} {G : List ww_L} {y : MethodName} {cc : ByteArray} {nL : Nat} {ret : Option FieldType} {h : Nat} {av : List Value} {σ : ww_M} {o : Option ww_R} (hy : plainFor y = true) (hav : (lg_sl av).length ≤ nL)
    (body : ∀ X : ww_X, ww_C X l Y ad G h cc nL y.cls → ww_CR X Y ad G ret → ww_V X Y ad G nL σ 0 (lv_args 0 av) [] o) : ww_Cn l Y ad G y cc nL ret h av σ o := by
  intro sz r hr
  refine va_MetF (cc := cc) (maxL := nL) (ret := ret) hy rfl ?_
  intro p e s m args below meth c s₁ B hml hv
  obtain ⟨rfl, hsz, hP, hEv, hI⟩ := hv
  subst hsz
  have hts := atoms_spec (ws := .code y cc nL ret :: ww_T) B.pre
  have hb := body (p, l, e, (headSpec (.code y cc nL ret :: ww_T) (ww_Rm h)).room, s, m, av.toArray, below, meth, c, 0, 0, (fun r => MQ below (ww_Qr Y ad G (ww_AA G ad s.heap.size) r) av.toArray s 0 0 (ww_AA G ad s.heap.size)), ww_AA G ad s.heap.size)
    ⟨rfl, ⟨Nat.le_refl _, Nat.le_refl _, Nat.zero_le _, Nat.zero_le _⟩, B.exec, B.bytes, hml, findClass_of_methodNamed B.named, fun w hw => hts w (List.mem_cons_of_mem _ hw), hEv, hI, fun k hk => Or.inl ⟨k, hk, rfl⟩, fun q hq => Or.inr hq⟩
    ⟨B.returns, B.notSynchronized, rfl⟩
  rw [lg_entry_eq]
  exact hb s.heap [] _ r hr hP va_S.rf (lv_entry av hav)
def ww_mV (y : MethodName) (bytes : ByteArray) (maxL : Nat) (ret : Option FieldType) (n : Nat) : Prop := Cond.code y bytes maxL ret ∈ ww_T ∧ Cond.initialized y.cls ∈ ww_T ∧ Cond.instanceMethod y ∈ ww_T ∧ Cond.selects y.cls y y ∈ ww_T ∧ (y.cls ≠ "java/lang/invoke/MethodHandle" ∧ y.cls ≠ "java/lang/invoke/VarHandle" ∧ (parseMethodDescriptor y.desc).map (fun d => d.parameters.length) = some n)
def ww_mS (y : MethodName) (bytes : ByteArray) (maxL : Nat) (ret : Option FieldType) (n : Nat) : Prop := Cond.code y bytes maxL ret ∈ ww_T ∧ Cond.initialized y.cls ∈ ww_T ∧ Cond.static y ∈ ww_T ∧ (y.cls ≠ "java/lang/invoke/MethodHandle" ∧ y.cls ≠ "java/lang/invoke/VarHandle" ∧ (parseMethodDescriptor y.desc).map (fun d => d.parameters.length) = some n)
theorem ww_good {y : MethodName} {bytes : ByteArray} {maxL : Nat} {ret : Option FieldType} (h : Cond.code y bytes maxL ret ∈ ww_T) : GoodIn ww_T (Cond.code y bytes maxL ret :: ww_T) := fun w hw => (List.mem_cons.mp hw).elim (fun e => by rw [e]; exact ww_Tg _ h) (fun q => ww_Tg _ q)
theorem ww_AAin {G : List ww_L} {ad : Nat → Nat} {A : Nat → Prop} {H0 H : Heap} {locs : List Loc} (hS : va_S A H0 H locs) (hAk : ∀ k, k < G.length → A (ad k)) (hA : ∀ q, H0.size ≤ q → A q) : ∀ q, ww_AA G ad H.size q → A q := by
  intro q h
  rcases h with ⟨k, hk, rfl⟩ | h
  · exact hAk k hk
  · exact hA q (Nat.le_trans hS.1 h)
section WCALL
variable {X : ww_X} {l0 : Launch} {Y : ww_Y} {ad : Nat → Nat} {G : List ww_L} {h nL pc : Nat} {cc : ByteArray} {own : String} {σ : ww_M} {lv : List (Nat × Value)} {st st0 : List Value} {α β : Type}
theorem ww_after {p : Program} {l : Launch} {e : Env} {R : Room} {s : State} {m : MethodId} {args : Array Value} {below : List Frame} {meth : Method} {c : Code} {cells slots : Nat} {H : Heap} {locs : List Loc} {ls : Array Slot} {A : Nat → Prop} {Q : State → Prop} {a : Array Value} {r : ww_R}
    (hS : va_S A s.heap H locs) (hf : ∀ q, ww_AA G ad H.size q → A q)
    (run : va_Run p l e R s m args below meth c H locs cells slots 0 0 (F0 m pc ls st0) st (ww_Qr Y ad G (ww_AA G ad H.size) r a) (ww_AA G ad H.size))
    (kk : ∀ (H1 : Heap) (locs1 : List Loc), va_P Y.1 vwCl (ww_W G ad Y.2.1 r.2) H1 → va_S A s.heap H1 locs1 → W p l e R s m args below meth c H1 locs1 cells slots Q (F0 m (pc + 3) ls (r.1.toList ++ st))) : W p l e R s m args below meth c H locs cells slots Q (F0 m pc ls st0) := by
  intro T hT X
  obtain ⟨v, st₀, t, T', L, h0, X', hL, e1, e2, ⟨hv, hP1, hz, hk⟩, stp⟩ := run T hT X
  rw [h0] at hz hk
  have hv' : v = r.1 := by injection hv
  subst hv'
  obtain ⟨t2, a1, b1⟩ := kk T'.heap (locs ++ L) (by rw [e1]; exact hP1) ⟨Nat.le_trans hS.1 (by rw [e1]; exact hz), fun q h1 h2 => by rw [e1, hk q (Nat.lt_of_lt_of_le h1 hS.1) (fun z => h2 (hf q z))]; exact hS.2.1 q h1 h2, fun q hq => by
      rcases List.mem_append.mp hq with h | h
      · exact hS.2.2 q h
      · exact hf _ (hL q h)⟩ T' rfl X'
  exact ⟨t2, stp t2 a1, b1⟩
theorem ww_bind_some {f : Option α} {E : α → Option β} {K : β → Option ww_R} {r : ww_R} (hr : (f.bind E).bind K = some r) : ∃ a, f = some a ∧ (E a).bind K = some r := by
  cases f with
  | none => cases hr
  | some a => exact ⟨a, rfl, hr⟩
theorem ww_callV (hC : ww_C X l0 Y ad G h cc nL own) {f : Option α} {kc : α → ww_R} {E : α → Option β} {K : β → Option ww_R} {y : MethodName} {bytes : ByteArray} {maxL h' b ci N index : Nat} {ret : Option FieldType} {T : u_T} {fs : List (Option Nat)} {As : List Value}
    (hM : ww_Cn l0 Y ad G y bytes maxL ret h' (.ref (ad b) :: As) σ (f.bind (fun a => some (kc a)))) (hm : ww_mV y bytes maxL ret As.length) (hlk : Cond.methodLink own index y ∈ ww_T) (hG : G[b]? = some (.inl (ci, fs))) (hc : vwCl[ci]? = some (y.cls, T, N)) (hh : h' + 1 ≤ h) (hL : maxL ≤ 21) (hs8 : (st.map fun v => v.category).sum ≤ 8) (hst : st0 = As.reverse ++ .ref (ad b) :: st) (hd : decode cc pc = .ok (.invokevirtual index, 3))
    (kk : ∀ a, ww_V X Y ad G nL (kc a).2 (pc + 3) lv ((kc a).1.toList ++ st) ((E a).bind K)) : ww_V X Y ad G nL σ pc lv st0 ((f.bind E).bind K) := by
  obtain ⟨p, l, e, R, s, m, args, below, meth, c, cells, slots, Qf, A⟩ := X
  obtain ⟨rfl, ⟨hRf, hRl, hRc, hRs⟩, hx, hb, hml, hown, hts, hEv, hI, hAk, hA⟩ := hC
  intro H locs ls r hr hP hS hl
  obtain ⟨a, ha, hr⟩ := ww_bind_some hr
  have hM' := hM H.size (kc a) (by rw [ha]; rfl)
  have hf := ww_AAin (G := G) (ad := ad) hS hAk hA
  obtain ⟨m1, m2, m3, m4, m5⟩ := hm
  have hgood : GoodIn ww_T (wsV own index y.cls y (Cond.code y bytes maxL ret :: ww_T)) := by
    intro w hw
    rcases List.mem_append.mp hw with q | q
    · have q2 : w = .methodLink own index y ∨ w = .instanceMethod y ∨ w = .selects y.cls y y ∨ w = .initialized y.cls := by simpa using q
      rcases q2 with rfl | rfl | rfl | rfl
      · exact ww_Tg _ hlk
      · exact ww_Tg _ m3
      · exact ww_Tg _ m4
      · exact ww_Tg _ m2
    · exact ww_good m1 w q
  refine ww_after (a := (Value.ref (ad b) :: As).toArray) (r := kc a) hS hf (va_runV (As := As) (rest := st) ⟨hx, hb, hml, hown, hts⟩ hM' (cwV As.length hts hgood rfl rfl rfl ⟨rfl, m5⟩ ⟨by show h' + 1 ≤ _; omega, by show 8 + (maxL + 11) + 40 * h' ≤ _; omega⟩) ⟨ww_blind _ _ _ _ _ _, va_recv hEv.1 hP hc (ww_W_get hG), fun U hU hW => ⟨rfl, by rw [hU], by rw [hU]; exact hP, by rw [hU]; exact hEv.warm hW hS.2.1 (fun q _ z => hf q z) hf, hI⟩⟩ rfl rfl hl.1 hst (lv_room hs8) hd ⟨hRc, hRs⟩) ?_
  intro H1 locs1 hP1 hS1
  exact kk a H1 locs1 ls r hr hP1 hS1 hl
theorem ww_callS (hC : ww_C X l0 Y ad G h cc nL own) {f : Option α} {kc : α → ww_R} {E : α → Option β} {K : β → Option ww_R} {y : MethodName} {bytes : ByteArray} {maxL h' index : Nat} {ret : Option FieldType} {As : List Value}
    (hM : ww_Cn l0 Y ad G y bytes maxL ret h' As σ (f.bind (fun a => some (kc a)))) (hm : ww_mS y bytes maxL ret As.length) (hlk : Cond.methodLink own index y ∈ ww_T) (hh : h' + 1 ≤ h) (hL : maxL ≤ 21) (hs8 : (st.map fun v => v.category).sum ≤ 8) (hst : st0 = As.reverse ++ st) (hd : decode cc pc = .ok (.invokestatic index, 3))
    (kk : ∀ a, ww_V X Y ad G nL (kc a).2 (pc + 3) lv ((kc a).1.toList ++ st) ((E a).bind K)) : ww_V X Y ad G nL σ pc lv st0 ((f.bind E).bind K) := by
  obtain ⟨p, l, e, R, s, m, args, below, meth, c, cells, slots, Qf, A⟩ := X
  obtain ⟨rfl, ⟨hRf, hRl, hRc, hRs⟩, hx, hb, hml, hown, hts, hEv, hI, hAk, hA⟩ := hC
  intro H locs ls r hr hP hS hl
  obtain ⟨a, ha, hr⟩ := ww_bind_some hr
  have hM' := hM H.size (kc a) (by rw [ha]; rfl)
  have hf := ww_AAin (G := G) (ad := ad) hS hAk hA
  obtain ⟨m1, m2, m3, m5⟩ := hm
  refine ww_after (a := As.toArray) (r := kc a) hS hf (va_runS (As := As) (rest := st) ⟨hx, hb, hml, hown, hts⟩ hM' ⟨callB_of As.length hts (ww_good m1) rfl rfl rfl (hts _ m2) (hts _ hlk) m5 ⟨by show h' + 1 ≤ _; omega, by show 8 + (maxL + 11) + 40 * h' ≤ _; omega⟩, hts _ m3⟩ ⟨ww_blind _ _ _ _ _ _, fun U hU hW => ⟨rfl, by rw [hU], by rw [hU]; exact hP, by rw [hU]; exact hEv.warm hW hS.2.1 (fun q _ z => hf q z) hf, hI⟩⟩ rfl rfl hl.1 hst (lv_room hs8) hd ⟨hRc, hRs⟩) ?_
  intro H1 locs1 hP1 hS1
  exact kk a H1 locs1 ls r hr hP1 hS1 hl
theorem ww_callSN (hC : ww_C X l0 Y ad G h cc nL own) {f : Option α} {kc : α → ww_R} {E : α → Option β} {K : β → Option ww_R} {y : MethodName} {host : String} {bytes : ByteArray} {maxL h' index : Nat} {ret : Option FieldType} {As : List Value}
    (hM : ww_Cn l0 Y ad G y bytes maxL ret h' As σ (f.bind (fun a => some (kc a)))) (hm : ww_mS y bytes maxL ret As.length) (hlk : Cond.methodLinkNest own index y host ∈ ww_N) (hh : h' + 1 ≤ h) (hL : maxL ≤ 21) (hs8 : (st.map fun v => v.category).sum ≤ 8) (hst : st0 = As.reverse ++ st) (hd : decode cc pc = .ok (.invokestatic index, 3))
    (kk : ∀ a, ww_V X Y ad G nL (kc a).2 (pc + 3) lv ((kc a).1.toList ++ st) ((E a).bind K)) : ww_V X Y ad G nL σ pc lv st0 ((f.bind E).bind K) := by
  obtain ⟨p, l, e, R, s, m, args, below, meth, c, cells, slots, Qf, A⟩ := X
  obtain ⟨rfl, ⟨hRf, hRl, hRc, hRs⟩, hx, hb, hml, hown, hts, hEv, hI, hAk, hA⟩ := hC
  intro H locs ls r hr hP hS hl
  obtain ⟨a, ha, hr⟩ := ww_bind_some hr
  have hM' := hM H.size (kc a) (by rw [ha]; rfl)
  have hf := ww_AAin (G := G) (ad := ad) hS hAk hA
  obtain ⟨m1, m2, m3, m5⟩ := hm
  refine ww_after (a := As.toArray) (r := kc a) hS hf (va_runSN (As := As) (rest := st) ⟨hx, hb, hml, hown, hts⟩ hM' ⟨va_cnB As.length hts (ww_good m1) rfl rfl rfl (hEv.2.1 _ hlk) (hts _ m2) m5 ⟨by show h' + 1 ≤ _; omega, by show 8 + (maxL + 11) + 40 * h' ≤ _; omega⟩, hts _ m3, trivial⟩ ⟨ww_blind _ _ _ _ _ _, fun U hU hW => ⟨rfl, by rw [hU], by rw [hU]; exact hP, by rw [hU]; exact hEv.warm hW hS.2.1 (fun q _ z => hf q z) hf, hI⟩⟩ rfl rfl hl.1 hst (lv_room hs8) hd ⟨hRc, hRs⟩) ?_
  intro H1 locs1 hP1 hS1
  exact kk a H1 locs1 ls r hr hP1 hS1 hl
end WCALL
def ww_ri (σ : ww_M) (x : Int32) : Option ww_R := some (some (.int x), σ)
def ww_rl (σ : ww_M) (x : Int64) : Option ww_R := some (some (.long x), σ)
def ww_rw (q : Int32 × ww_M) : Option ww_R := some (some (.int q.1), q.2)
def ww_rv (τ : ww_M) : Option ww_R := some (none, τ)
section WCALL2
variable {X : ww_X} {l0 : Launch} {Y : ww_Y} {ad : Nat → Nat} {G : List ww_L} {h nL pc : Nat} {cc : ByteArray} {own : String} {σ : ww_M} {lv : List (Nat × Value)} {st st0 : List Value} {β : Type}
theorem ww_callVi (hC : ww_C X l0 Y ad G h cc nL own) {f : Option (Int32)} {E : (Int32) → Option β} {K : β → Option ww_R} {y : MethodName} {bytes : ByteArray} {maxL h' b ci N index : Nat} {ret : Option FieldType} {T : u_T} {fs : List (Option Nat)} {As : List Value} (hM : ww_Cn l0 Y ad G y bytes maxL ret h' (.ref (ad b) :: As) σ (f.bind (ww_ri σ))) (hm : ww_mV y bytes maxL ret As.length) (hlk : Cond.methodLink own index y ∈ ww_T) (hG : G[b]? = some (.inl (ci, fs))) (hc : vwCl[ci]? = some (y.cls, T, N)) (hh : h' + 1 ≤ h) (hL : maxL ≤ 21) (hs8 : (st.map fun v => v.category).sum ≤ 8) (hst : st0 = As.reverse ++ .ref (ad b) :: st) (hd : decode cc pc = .ok (.invokevirtual index, 3)) (kk : ∀ a, ww_V X Y ad G nL σ (pc + 3) lv (.int a :: st) ((E a).bind K)) : ww_V X Y ad G nL σ pc lv st0 ((f.bind E).bind K) :=
  ww_callV (kc := fun x => (some (.int x), σ)) hC hM hm hlk hG hc hh hL hs8 hst hd kk
theorem ww_callSi (hC : ww_C X l0 Y ad G h cc nL own) {f : Option (Int32)} {E : (Int32) → Option β} {K : β → Option ww_R} {y : MethodName} {bytes : ByteArray} {maxL h' index : Nat} {ret : Option FieldType} {As : List Value} (hM : ww_Cn l0 Y ad G y bytes maxL ret h' As σ (f.bind (ww_ri σ))) (hm : ww_mS y bytes maxL ret As.length) (hlk : Cond.methodLink own index y ∈ ww_T) (hh : h' + 1 ≤ h) (hL : maxL ≤ 21) (hs8 : (st.map fun v => v.category).sum ≤ 8) (hst : st0 = As.reverse ++ st) (hd : decode cc pc = .ok (.invokestatic index, 3)) (kk : ∀ a, ww_V X Y ad G nL σ (pc + 3) lv (.int a :: st) ((E a).bind K)) : ww_V X Y ad G nL σ pc lv st0 ((f.bind E).bind K) :=
  ww_callS (kc := fun x => (some (.int x), σ)) hC hM hm hlk hh hL hs8 hst hd kk
theorem ww_callSNi (hC : ww_C X l0 Y ad G h cc nL own) {f : Option (Int32)} {E : (Int32) → Option β} {K : β → Option ww_R} {y : MethodName} {bytes : ByteArray} {host : String} {maxL h' index : Nat} {ret : Option FieldType} {As : List Value} (hM : ww_Cn l0 Y ad G y bytes maxL ret h' As σ (f.bind (ww_ri σ))) (hm : ww_mS y bytes maxL ret As.length) (hlk : Cond.methodLinkNest own index y host ∈ ww_N) (hh : h' + 1 ≤ h) (hL : maxL ≤ 21) (hs8 : (st.map fun v => v.category).sum ≤ 8) (hst : st0 = As.reverse ++ st) (hd : decode cc pc = .ok (.invokestatic index, 3)) (kk : ∀ a, ww_V X Y ad G nL σ (pc + 3) lv (.int a :: st) ((E a).bind K)) : ww_V X Y ad G nL σ pc lv st0 ((f.bind E).bind K) :=
  ww_callSN (kc := fun x => (some (.int x), σ)) hC hM hm hlk hh hL hs8 hst hd kk
theorem ww_callVl (hC : ww_C X l0 Y ad G h cc nL own) {f : Option (Int64)} {E : (Int64) → Option β} {K : β → Option ww_R} {y : MethodName} {bytes : ByteArray} {maxL h' b ci N index : Nat} {ret : Option FieldType} {T : u_T} {fs : List (Option Nat)} {As : List Value} (hM : ww_Cn l0 Y ad G y bytes maxL ret h' (.ref (ad b) :: As) σ (f.bind (ww_rl σ))) (hm : ww_mV y bytes maxL ret As.length) (hlk : Cond.methodLink own index y ∈ ww_T) (hG : G[b]? = some (.inl (ci, fs))) (hc : vwCl[ci]? = some (y.cls, T, N)) (hh : h' + 1 ≤ h) (hL : maxL ≤ 21) (hs8 : (st.map fun v => v.category).sum ≤ 8) (hst : st0 = As.reverse ++ .ref (ad b) :: st) (hd : decode cc pc = .ok (.invokevirtual index, 3)) (kk : ∀ a, ww_V X Y ad G nL σ (pc + 3) lv (.long a :: st) ((E a).bind K)) : ww_V X Y ad G nL σ pc lv st0 ((f.bind E).bind K) :=
  ww_callV (kc := fun x => (some (.long x), σ)) hC hM hm hlk hG hc hh hL hs8 hst hd kk
theorem ww_callSl (hC : ww_C X l0 Y ad G h cc nL own) {f : Option (Int64)} {E : (Int64) → Option β} {K : β → Option ww_R} {y : MethodName} {bytes : ByteArray} {maxL h' index : Nat} {ret : Option FieldType} {As : List Value} (hM : ww_Cn l0 Y ad G y bytes maxL ret h' As σ (f.bind (ww_rl σ))) (hm : ww_mS y bytes maxL ret As.length) (hlk : Cond.methodLink own index y ∈ ww_T) (hh : h' + 1 ≤ h) (hL : maxL ≤ 21) (hs8 : (st.map fun v => v.category).sum ≤ 8) (hst : st0 = As.reverse ++ st) (hd : decode cc pc = .ok (.invokestatic index, 3)) (kk : ∀ a, ww_V X Y ad G nL σ (pc + 3) lv (.long a :: st) ((E a).bind K)) : ww_V X Y ad G nL σ pc lv st0 ((f.bind E).bind K) :=
  ww_callS (kc := fun x => (some (.long x), σ)) hC hM hm hlk hh hL hs8 hst hd kk
theorem ww_callSNl (hC : ww_C X l0 Y ad G h cc nL own) {f : Option (Int64)} {E : (Int64) → Option β} {K : β → Option ww_R} {y : MethodName} {bytes : ByteArray} {host : String} {maxL h' index : Nat} {ret : Option FieldType} {As : List Value} (hM : ww_Cn l0 Y ad G y bytes maxL ret h' As σ (f.bind (ww_rl σ))) (hm : ww_mS y bytes maxL ret As.length) (hlk : Cond.methodLinkNest own index y host ∈ ww_N) (hh : h' + 1 ≤ h) (hL : maxL ≤ 21) (hs8 : (st.map fun v => v.category).sum ≤ 8) (hst : st0 = As.reverse ++ st) (hd : decode cc pc = .ok (.invokestatic index, 3)) (kk : ∀ a, ww_V X Y ad G nL σ (pc + 3) lv (.long a :: st) ((E a).bind K)) : ww_V X Y ad G nL σ pc lv st0 ((f.bind E).bind K) :=
  ww_callSN (kc := fun x => (some (.long x), σ)) hC hM hm hlk hh hL hs8 hst hd kk
theorem ww_callVw (hC : ww_C X l0 Y ad G h cc nL own) {f : Option (Int32 × ww_M)} {E : (Int32 × ww_M) → Option β} {K : β → Option ww_R} {y : MethodName} {bytes : ByteArray} {maxL h' b ci N index : Nat} {ret : Option FieldType} {T : u_T} {fs : List (Option Nat)} {As : List Value} (hM : ww_Cn l0 Y ad G y bytes maxL ret h' (.ref (ad b) :: As) σ (f.bind ww_rw)) (hm : ww_mV y bytes maxL ret As.length) (hlk : Cond.methodLink own index y ∈ ww_T) (hG : G[b]? = some (.inl (ci, fs))) (hc : vwCl[ci]? = some (y.cls, T, N)) (hh : h' + 1 ≤ h) (hL : maxL ≤ 21) (hs8 : (st.map fun v => v.category).sum ≤ 8) (hst : st0 = As.reverse ++ .ref (ad b) :: st) (hd : decode cc pc = .ok (.invokevirtual index, 3)) (kk : ∀ a, ww_V X Y ad G nL a.2 (pc + 3) lv (.int a.1 :: st) ((E a).bind K)) : ww_V X Y ad G nL σ pc lv st0 ((f.bind E).bind K) :=
  ww_callV (kc := fun q => (some (.int q.1), q.2)) hC hM hm hlk hG hc hh hL hs8 hst hd kk
theorem ww_callSw (hC : ww_C X l0 Y ad G h cc nL own) {f : Option (Int32 × ww_M)} {E : (Int32 × ww_M) → Option β} {K : β → Option ww_R} {y : MethodName} {bytes : ByteArray} {maxL h' index : Nat} {ret : Option FieldType} {As : List Value} (hM : ww_Cn l0 Y ad G y bytes maxL ret h' As σ (f.bind ww_rw)) (hm : ww_mS y bytes maxL ret As.length) (hlk : Cond.methodLink own index y ∈ ww_T) (hh : h' + 1 ≤ h) (hL : maxL ≤ 21) (hs8 : (st.map fun v => v.category).sum ≤ 8) (hst : st0 = As.reverse ++ st) (hd : decode cc pc = .ok (.invokestatic index, 3)) (kk : ∀ a, ww_V X Y ad G nL a.2 (pc + 3) lv (.int a.1 :: st) ((E a).bind K)) : ww_V X Y ad G nL σ pc lv st0 ((f.bind E).bind K) :=
  ww_callS (kc := fun q => (some (.int q.1), q.2)) hC hM hm hlk hh hL hs8 hst hd kk
theorem ww_callSNw (hC : ww_C X l0 Y ad G h cc nL own) {f : Option (Int32 × ww_M)} {E : (Int32 × ww_M) → Option β} {K : β → Option ww_R} {y : MethodName} {bytes : ByteArray} {host : String} {maxL h' index : Nat} {ret : Option FieldType} {As : List Value} (hM : ww_Cn l0 Y ad G y bytes maxL ret h' As σ (f.bind ww_rw)) (hm : ww_mS y bytes maxL ret As.length) (hlk : Cond.methodLinkNest own index y host ∈ ww_N) (hh : h' + 1 ≤ h) (hL : maxL ≤ 21) (hs8 : (st.map fun v => v.category).sum ≤ 8) (hst : st0 = As.reverse ++ st) (hd : decode cc pc = .ok (.invokestatic index, 3)) (kk : ∀ a, ww_V X Y ad G nL a.2 (pc + 3) lv (.int a.1 :: st) ((E a).bind K)) : ww_V X Y ad G nL σ pc lv st0 ((f.bind E).bind K) :=
  ww_callSN (kc := fun q => (some (.int q.1), q.2)) hC hM hm hlk hh hL hs8 hst hd kk
theorem ww_callVv (hC : ww_C X l0 Y ad G h cc nL own) {f : Option (ww_M)} {E : (ww_M) → Option β} {K : β → Option ww_R} {y : MethodName} {bytes : ByteArray} {maxL h' b ci N index : Nat} {ret : Option FieldType} {T : u_T} {fs : List (Option Nat)} {As : List Value} (hM : ww_Cn l0 Y ad G y bytes maxL ret h' (.ref (ad b) :: As) σ (f.bind ww_rv)) (hm : ww_mV y bytes maxL ret As.length) (hlk : Cond.methodLink own index y ∈ ww_T) (hG : G[b]? = some (.inl (ci, fs))) (hc : vwCl[ci]? = some (y.cls, T, N)) (hh : h' + 1 ≤ h) (hL : maxL ≤ 21) (hs8 : (st.map fun v => v.category).sum ≤ 8) (hst : st0 = As.reverse ++ .ref (ad b) :: st) (hd : decode cc pc = .ok (.invokevirtual index, 3)) (kk : ∀ a, ww_V X Y ad G nL a (pc + 3) lv st ((E a).bind K)) : ww_V X Y ad G nL σ pc lv st0 ((f.bind E).bind K) :=
  ww_callV (kc := fun τ => (none, τ)) hC hM hm hlk hG hc hh hL hs8 hst hd kk
theorem ww_callSv (hC : ww_C X l0 Y ad G h cc nL own) {f : Option (ww_M)} {E : (ww_M) → Option β} {K : β → Option ww_R} {y : MethodName} {bytes : ByteArray} {maxL h' index : Nat} {ret : Option FieldType} {As : List Value} (hM : ww_Cn l0 Y ad G y bytes maxL ret h' As σ (f.bind ww_rv)) (hm : ww_mS y bytes maxL ret As.length) (hlk : Cond.methodLink own index y ∈ ww_T) (hh : h' + 1 ≤ h) (hL : maxL ≤ 21) (hs8 : (st.map fun v => v.category).sum ≤ 8) (hst : st0 = As.reverse ++ st) (hd : decode cc pc = .ok (.invokestatic index, 3)) (kk : ∀ a, ww_V X Y ad G nL a (pc + 3) lv st ((E a).bind K)) : ww_V X Y ad G nL σ pc lv st0 ((f.bind E).bind K) :=
  ww_callS (kc := fun τ => (none, τ)) hC hM hm hlk hh hL hs8 hst hd kk
theorem ww_callSNv (hC : ww_C X l0 Y ad G h cc nL own) {f : Option (ww_M)} {E : (ww_M) → Option β} {K : β → Option ww_R} {y : MethodName} {bytes : ByteArray} {host : String} {maxL h' index : Nat} {ret : Option FieldType} {As : List Value} (hM : ww_Cn l0 Y ad G y bytes maxL ret h' As σ (f.bind ww_rv)) (hm : ww_mS y bytes maxL ret As.length) (hlk : Cond.methodLinkNest own index y host ∈ ww_N) (hh : h' + 1 ≤ h) (hL : maxL ≤ 21) (hs8 : (st.map fun v => v.category).sum ≤ 8) (hst : st0 = As.reverse ++ st) (hd : decode cc pc = .ok (.invokestatic index, 3)) (kk : ∀ a, ww_V X Y ad G nL a (pc + 3) lv st ((E a).bind K)) : ww_V X Y ad G nL σ pc lv st0 ((f.bind E).bind K) :=
  ww_callSN (kc := fun τ => (none, τ)) hC hM hm hlk hh hL hs8 hst hd kk
end WCALL2
