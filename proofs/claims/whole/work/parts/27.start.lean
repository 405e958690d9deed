theorem sw_238 : Cond.instantiable RX0 9 ∈ ww_T := ww_Tt1 180 (by decide +kernel) rfl
theorem sw_273 : Cond.instantiable RX1 3 ∈ ww_T := ww_Tt1 215 (by decide +kernel) rfl
theorem sw_134 : Cond.instantiable RX2 17 ∈ ww_T := ww_Tt1 76 (by decide +kernel) rfl
theorem sw_221 : Cond.instantiable RX3 3 ∈ ww_T := ww_Tt1 163 (by decide +kernel) rfl
theorem sw_84 : Cond.instantiable RX4 6 ∈ ww_T := ww_Tt1 26 (by decide +kernel) rfl
theorem sw_116 : Cond.instantiable RX5 3 ∈ ww_T := ww_Tt1 58 (by decide +kernel) rfl
theorem sw_76 : Cond.instantiable RX6 10 ∈ ww_T := ww_Tt1 18 (by decide +kernel) rfl
theorem sw_871 : Cond.instantiable RX7 36 ∈ ww_T := ww_Tt4 93 (by decide +kernel) rfl
theorem sw_59 : Cond.initialized RX6 ∈ ww_T := ww_Tt1 1 (by decide +kernel) rfl
theorem sw_67 : Cond.initialized RX7 ∈ ww_T := ww_Tt1 9 (by decide +kernel) rfl
theorem sw_75 : Cond.classLink RL 7 RX6 ∈ ww_T := ww_Tt1 17 (by decide +kernel) rfl
theorem sw_870 : Cond.classLink RL 10 RX7 ∈ ww_T := ww_Tt4 92 (by decide +kernel) rfl
theorem sw_77 : Cond.methodLink RL 9 yX6_init ∈ ww_T := ww_Tt1 19 (by decide +kernel) rfl
theorem sw_872 : Cond.methodLink RL 12 yX7_init ∈ ww_T := ww_Tt4 94 (by decide +kernel) rfl
theorem sw_218 : Cond.arrayClass .int ∈ ww_T := ww_Tt1 160 (by decide +kernel) rfl
theorem sw_114 : Cond.arrayClass .byte ∈ ww_T := ww_Tt1 56 (by decide +kernel) rfl
theorem sw_985 : Cond.arrayClass .boolean ∈ ww_T := ww_Tt4 207 (by decide +kernel) rfl
theorem dL_law_0 : decode cL_law 0 = .ok (.new 7, 3) := by decide +kernel
theorem dL_law_3 : decode cL_law 3 = .ok (.dup, 1) := by decide +kernel
theorem dL_law_4 : decode cL_law 4 = .ok (.invokespecial 9, 3) := by decide +kernel
theorem dL_law_7 : decode cL_law 7 = .ok (.astore_n 1, 1) := by decide +kernel
theorem dL_law_8 : decode cL_law 8 = .ok (.new 10, 3) := by decide +kernel
theorem dL_law_11 : decode cL_law 11 = .ok (.dup, 1) := by decide +kernel
theorem dL_law_12 : decode cL_law 12 = .ok (.invokespecial 12, 3) := by decide +kernel
theorem dL_law_15 : decode cL_law 15 = .ok (.astore_n 2, 1) := by decide +kernel
theorem uw_toV2 {X : ww_X} {Y : ww_Y} {r0 : ww_R} {ws : va_W} {nL cells slots pc : Nat} {lv : List (Nat × Value)} {st : List Value} {σ : ww_M} {ad1 : Nat → Nat} {G1 : List ww_L} (hw : ws = ww_Wr ad1 Y.2.1 σ 0 G1) (kk : match X with | (p, l, e, R, s, m, args, below, meth, c, _, _, Qf, A) => va_D A (ww_W G1 ad1 Y.2.1 σ) → ww_V (p, l, e, R, s, m, args, below, meth, c, cells, slots, Qf, A) Y ad1 G1 nL σ pc lv st (some r0)) : ww_U X Y r0 ws nL cells slots pc lv st := by
  obtain ⟨p, l, e, R, s, m, args, below, meth, c, cells0, slots0, Qf, A⟩ := X
  refine uw_toV hw ?_
  exact fun hD => kk (by rw [← ww_Wr_eq, ← hw]; exact hD)
def ww_zAll : ww_M := fun a => if a < 62 then ww_zTop a else ww_zModel (a - 62)
def ww_GG : List ww_L := ww_LTop ++ ww_LModel 62
theorem ww_GG_T : ww_at ww_GG 0 ww_LTop := fun i x hx => by
  rw [Nat.zero_add]
  show (ww_LTop ++ ww_LModel 62)[i]? = some x
  rw [List.getElem?_append_left (List.getElem?_eq_some_iff.mp hx).1]
  exact hx
theorem ww_GG_M : ww_at ww_GG 62 (ww_LModel 62) := fun i x hx => by
  show (ww_LTop ++ ww_LModel 62)[62 + i]? = some x
  rw [List.getElem?_append_right (by show 62 ≤ 62 + i; omega)]
  show (ww_LModel 62)[62 + i - 62]? = some x
  rw [Nat.add_sub_cancel_left]
  exact hx
theorem ww_ArrT {s : State} {cA comp : ClassId} {k : Class} {ty : FieldType} (h2 : s.vm.classes[cA]? = some k) (h3 : k.kind = .array comp ty) : ArrOfT s cA ty := fun n z => ⟨fun k h => (by cases h), k, h2, comp, h3⟩
def ww_tm (i : Nat) : Term := .string "WeighedWhales$Teller" (([91, 97, 99, 101, 103, 105] : List Nat).getD i 0)
theorem ww_k1 : ∀ i, i < 6 → Cond.exactly (ww_tm i) "java/lang/String" ∈ flatC (Jvm.Cond.and given_1 narrow_1) := by decide +kernel
theorem ww_k2 : ∀ i, i < 6 → Cond.eq (.field (ww_tm i) "java/lang/String" "coder" "B") (.int 0) ∈ flatC (Jvm.Cond.and given_1 narrow_1) := by decide +kernel
theorem ww_k3 : ∀ i, i < 6 → Cond.arrayOf (.field (ww_tm i) "java/lang/String" "value" "[B") .byte ∈ flatC (Jvm.Cond.and given_1 narrow_1) := by decide +kernel
theorem ww_k4 : ∀ i, i < 6 → Cond.eq (.length (.field (ww_tm i) "java/lang/String" "value" "[B")) (.int (Int32.ofNat (ww_sl.getD i 0))) ∈ flatC (Jvm.Cond.and given_1 narrow_1) := by decide +kernel
theorem ww_k5 : ∀ i, i < 6 → ∀ j, j < ww_sl.getD i 0 → Cond.eq (.elem (.field (ww_tm i) "java/lang/String" "value" "[B") (.int (Int32.ofNat j))) (.int ((ww_sb.getD i []).getD j 0)) ∈ flatC (Jvm.Cond.and given_1 narrow_1) := by decide +kernel
theorem ww_k6 : ∀ i, i < 6 → ∀ j, j < 6 → i ≠ j → (Cond.not (Cond.eq (ww_tm i) (ww_tm j)) ∈ flatC (Jvm.Cond.and given_1 narrow_1) ∨ Cond.not (Cond.eq (ww_tm j) (ww_tm i)) ∈ flatC (Jvm.Cond.and given_1 narrow_1)) := by decide +kernel
theorem ww_k7 : Cond.eq (.static "java/lang/String" "COMPACT_STRINGS" "Z") (.int 1) ∈ flatC (Jvm.Cond.and given_1 narrow_1) := by decide +kernel
theorem ww_k8 : Cond.isRef (.static "jdk/internal/util/Preconditions" "SIOOBE_FORMATTER" "Ljava/util/function/BiFunction;") ∈ flatC (Jvm.Cond.and given_1 narrow_1) := by decide +kernel
theorem rw_91 : Cond.stringRef RX5 91 "sand" ∈ lw_tbl := List.mem_append_right _ (show _ ∈ tables_1 from (List.mem_append_right _ (List.mem_append_left _ (List.mem_of_getElem? (i := 81) (by decide +kernel)))))
theorem rw_97 : Cond.stringRef RX5 97 "tide" ∈ lw_tbl := List.mem_append_right _ (show _ ∈ tables_1 from (List.mem_append_right _ (List.mem_append_left _ (List.mem_of_getElem? (i := 134) (by decide +kernel)))))
theorem rw_99 : Cond.stringRef RX5 99 "law" ∈ lw_tbl := List.mem_append_right _ (show _ ∈ tables_1 from (List.mem_append_right _ (List.mem_append_left _ (List.mem_of_getElem? (i := 135) (by decide +kernel)))))
theorem rw_101 : Cond.stringRef RX5 101 "rot" ∈ lw_tbl := List.mem_append_right _ (show _ ∈ tables_1 from (List.mem_append_right _ (List.mem_append_left _ (List.mem_of_getElem? (i := 136) (by decide +kernel)))))
theorem rw_103 : Cond.stringRef RX5 103 "gangs" ∈ lw_tbl := List.mem_append_right _ (show _ ∈ tables_1 from (List.mem_append_right _ (List.mem_append_left _ (List.mem_of_getElem? (i := 137) (by decide +kernel)))))
theorem rw_105 : Cond.stringRef RX5 105 "whale" ∈ lw_tbl := List.mem_append_right _ (show _ ∈ tables_1 from (List.mem_append_right _ (List.mem_append_left _ (List.mem_of_getElem? (i := 138) (by decide +kernel)))))
theorem rw_cs : Cond.laysStatic "java/lang/String" "COMPACT_STRINGS" "Z" ∈ lw_tbl := List.mem_append_right _ (show _ ∈ tables_1 from (List.mem_append_right _ (List.mem_append_left _ (List.mem_of_getElem? (i := 95) (by decide +kernel)))))
theorem rw_fo : Cond.laysStatic "jdk/internal/util/Preconditions" "SIOOBE_FORMATTER" "Ljava/util/function/BiFunction;" ∈ lw_tbl := List.mem_append_right _ (show _ ∈ tables_1 from (List.mem_append_right _ (List.mem_append_left _ (List.mem_of_getElem? (i := 111) (by decide +kernel)))))
theorem rw_i1 : Cond.initialized "java/lang/String" ∈ lw_tbl := List.mem_append_right _ (show _ ∈ tables_1 from (List.mem_append_left _ (List.mem_of_getElem? (i := 10) (by decide +kernel))))
theorem rw_i2 : Cond.initialized "jdk/internal/util/Preconditions" ∈ lw_tbl := List.mem_append_right _ (show _ ∈ tables_1 from (List.mem_append_left _ (List.mem_of_getElem? (i := 12) (by decide +kernel))))
theorem rw_aoX2 : Cond.arrayOver (.object RX2) ∈ lw_tbl := List.mem_append_right _ (show _ ∈ tables_1 from (List.mem_append_left _ (List.mem_of_getElem? (i := 161) (by decide +kernel))))
theorem rw_aoX1 : Cond.arrayOver (.object RX1) ∈ lw_tbl := List.mem_append_right _ (show _ ∈ tables_1 from (List.mem_append_left _ (List.mem_of_getElem? (i := 214) (by decide +kernel))))
set_option maxHeartbeats 40000000 in
set_option maxRecDepth 100000 in
theorem ww_start {p : Program} {e : Env} {s : State} {m : MethodId} {below : List Frame} {meth : Method} {c : Code} (l : Launch) {b L : Nat} {xs : Nat → Int32} (C0 : lw_At p s m meth c b L xs) {τ : ww_M} (hpure : f_L_law L xs ww_zAll = some (1, τ)) : W p l e room_1 s m #[Value.ref b] below meth c s.heap [] 0 0 (lw_Z below #[Value.ref b] s) (entryFrame m ([Value.ref b] : List Value).toArray 4) := by
  obtain ⟨hx, hb, hr, hml, hown, hts, hX, hbl, hlocks, hgv⟩ := id C0
  have hgf := flat_of_before _ hgv
  have hT : ∀ w ∈ ww_T, w.before #[Value.ref b] s = true := fun w hw => hts w (List.mem_filter.mp hw).1
  have hA : ∀ q : Nat, s.heap.size ≤ q → (fun q : Nat => s.heap.size ≤ q) q := fun _ h => h
  have hA0 : ∀ a : Nat, a < s.heap.size → ¬ (fun q : Nat => s.heap.size ≤ q) a := fun a h => Nat.not_le.mpr h
  have hbA : ¬ (fun q : Nat => s.heap.size ≤ q) b := Nat.not_le.mpr hbl
  obtain ⟨c0, iS0, hKn0⟩ := u_known (C := RX0) (T := TX0) (N := 9) (n := 9) hT inT_X0 (hT _ sw_238)
  obtain ⟨c1, iS1, hKn1⟩ := u_known (C := RX1) (T := TX1) (N := 3) (n := 3) hT inT_X1 (hT _ sw_273)
  obtain ⟨c2, iS2, hKn2⟩ := u_known (C := RX2) (T := TX2) (N := 17) (n := 17) hT inT_X2 (hT _ sw_134)
  obtain ⟨c3, iS3, hKn3⟩ := u_known (C := RX3) (T := TX3) (N := 3) (n := 3) hT inT_X3 (hT _ sw_221)
  obtain ⟨c4, iS4, hKn4⟩ := u_known (C := RX4) (T := TX4) (N := 6) (n := 6) hT inT_X4 (hT _ sw_84)
  obtain ⟨c5, iS5, hKn5⟩ := u_known (C := RX5) (T := TX5) (N := 3) (n := 3) hT inT_X5 (hT _ sw_116)
  obtain ⟨c6, iS6, hKn6⟩ := u_known (C := RX6) (T := TX6) (N := 10) (n := 10) hT inT_X6 (hT _ sw_76)
  obtain ⟨c7, iS7, hKn7⟩ := u_known (C := RX7) (T := TX7) (N := 36) (n := 36) hT inT_X7 (hT _ sw_871)
  obtain ⟨a0, k0, m0, u0, v0, w0⟩ := Cond.arrayClass_spec (hT _ sw_218)
  obtain ⟨a1, k1, m1, u1, v1, w1⟩ := Cond.arrayClass_spec (hT _ sw_114)
  obtain ⟨a2, k2, m2, u2, v2, w2⟩ := Cond.arrayClass_spec (hT _ sw_985)
  have haoX1 : va_AO RX1 s := va_AO.of (hts _ rw_aoX1)
  obtain ⟨m3, a3, k3, u3, -, v3, w3, z3⟩ := Cond.arrayOver_spec haoX1
  have haoX2 : va_AO RX2 s := va_AO.of (hts _ rw_aoX2)
  obtain ⟨m4, a4, k4, u4, -, v4, w4, z4⟩ := Cond.arrayOver_spec haoX2
  obtain ⟨adK, adV, hSk, hev⟩ := vk_Sof (A := fun q : Nat => s.heap.size ≤ q) (len := ww_sl) (byt := ww_sb) (N := 6) (tm := ww_tm) (by decide) (fun i hi => hgf _ (ww_k1 i hi)) (fun i hi => hgf _ (ww_k2 i hi)) (fun i hi => hgf _ (ww_k3 i hi)) (fun i hi => hgf _ (ww_k4 i hi)) (fun i hi j hj => hgf _ (ww_k5 i hi j hj)) (fun i j hi hj hn => (ww_k6 i hi j hj hn).imp (fun h => hgf _ h) (fun h => hgf _ h)) hA0
  have hK : va_K ((fun k => match k with | 0 => c0 | 1 => c1 | 2 => c2 | 3 => c3 | 4 => c4 | 5 => c5 | 6 => c6 | _ => c7), (fun k => match k with | 0 => iS0 | 1 => iS1 | 2 => iS2 | 3 => iS3 | 4 => iS4 | 5 => iS5 | 6 => iS6 | _ => iS7)) vwCl (ww_tys (fun k => match k with | 0 => a0 | 1 => a1 | 2 => a2 | 3 => a3 | _ => a4)) s := by
    refine ⟨fun k q hq => ?_, fun k q hq => ?_⟩
    · match k, hq with
      | 0, hq => cases hq; exact hKn0
      | 1, hq => cases hq; exact hKn1
      | 2, hq => cases hq; exact hKn2
      | 3, hq => cases hq; exact hKn3
      | 4, hq => cases hq; exact hKn4
      | 5, hq => cases hq; exact hKn5
      | 6, hq => cases hq; exact hKn6
      | 7, hq => cases hq; exact hKn7
      | k + 8, hq => simp [vwCl] at hq
    · match k, hq with
      | 0, hq => cases hq; exact ⟨ww_ArrT v0 w0, u0⟩
      | 1, hq => cases hq; exact ⟨ww_ArrT v1 w1, u1⟩
      | 2, hq => cases hq; exact ⟨ww_ArrT v2 w2, u2⟩
      | 3, hq => cases hq; exact ⟨ww_ArrT v3 w3, ⟨k3, m3, v3, w3, u3, z3⟩⟩
      | 4, hq => cases hq; exact ⟨ww_ArrT v4 w4, ⟨k4, m4, v4, w4, u4, z4⟩⟩
      | k + 5, hq => simp [ww_tys] at hq
  have hZ := va_Zof (A := fun q : Nat => s.heap.size ≤ q) (hts _ rw_cs) (hts _ rw_i1) (va_eqt (hgf _ ww_k7)) hA0
  have hZq := va_Zqof (A := fun q : Nat => s.heap.size ≤ q) (hts _ rw_fo) (hts _ rw_i2) (hgf _ ww_k8) hA0
  generalize hD9 : (((fun k => match k with | 0 => c0 | 1 => c1 | 2 => c2 | 3 => c3 | 4 => c4 | 5 => c5 | 6 => c6 | _ => c7), (fun k => match k with | 0 => iS0 | 1 => iS1 | 2 => iS2 | 3 => iS3 | 4 => iS4 | 5 => iS5 | 6 => iS6 | _ => iS7)) : va_G) = D at hK
  generalize hc9 : (fun k : Nat => match k with | 0 => a0 | 1 => a1 | 2 => a2 | 3 => a3 | _ => a4) = cA at hK
  have hEv : ww_Ev (D, cA, adV, adK) (fun q : Nat => s.heap.size ≤ q) s s.heap := ⟨hK, fun w hw => va_Nw.of (by have hg := ww_Ng hw; cases w <;> first | rfl | cases hg) (hts w (List.mem_filter.mp hw).1), hSk, ⟨hZ, hZq⟩, ⟨vk_R.of (hts _ rw_91) (hev 0 (by decide)), vk_R.of (hts _ rw_97) (hev 1 (by decide)), vk_R.of (hts _ rw_99) (hev 2 (by decide)), vk_R.of (hts _ rw_101) (hev 3 (by decide)), vk_R.of (hts _ rw_103) (hev 4 (by decide)), vk_R.of (hts _ rw_105) (hev 5 (by decide))⟩⟩
  generalize hY9 : ((D, cA, adV, adK) : ww_Y) = Y at hEv
  have key : ww_U (p, l, e, room_1, s, m, #[Value.ref b], below, meth, c, 0, 0, (fun r t => r.1 = some (Value.int 1) → lw_Z below #[Value.ref b] s t), (fun q : Nat => s.heap.size ≤ q)) Y (some (.int 1), τ) [] 4 0 0 0 [(0, .ref b)] [] := by
    have hC : ww_C (p, l, e, room_1, s, m, #[Value.ref b], below, meth, c, 0, 0, (fun r t => r.1 = some (Value.int 1) → lw_Z below #[Value.ref b] s t), (fun q : Nat => s.heap.size ≤ q)) l Y (fun _ => 0) [] 100 cL_law 4 RL := ⟨rfl, ⟨by decide, by decide, by decide, by decide⟩, hx, hb, hml, hown, hT, hEv, fun i j hi => absurd hi (Nat.not_lt_zero _), fun k hk => absurd hk (Nat.not_lt_zero _), hA⟩
    have hI : ww_CI (p, l, e, room_1, s, m, #[Value.ref b], below, meth, c, 0, 0, (fun r t => r.1 = some (Value.int 1) → lw_Z below #[Value.ref b] s t), (fun q : Nat => s.heap.size ≤ q)) 600000 7302249 False := ⟨Nat.le_refl _, Nat.le_refl _, fun h => h.elim⟩
    have hBB : ww_BBx (p, l, e, room_1, s, m, #[Value.ref b], below, meth, c, 0, 0, (fun r t => r.1 = some (Value.int 1) → lw_Z below #[Value.ref b] s t), (fun q : Nat => s.heap.size ≤ q)) (fun U => va_AO RX1 U ∧ va_AO RX2 U) := fun U hU => ⟨haoX1.moved hU, haoX2.moved hU⟩
    have hBt := ww_BBt (p, l, e, room_1, s, m, #[Value.ref b], below, meth, c, 0, 0, (fun r t => r.1 = some (Value.int 1) → lw_Z below #[Value.ref b] s t), (fun q : Nat => s.heap.size ≤ q))
    refine uw_new (pc := 0) (Cl := RX6) (T := TX6) (N := 10) (ci := 6) (fs := [.null, .null, .null, .null, .null, .int 0, .null, .null, .null, .int 0]) hC hI inT_X6 tyX6 tyX6_ok rfl sw_75 sw_76 sw_59 (by decide) (by decide) (by decide) dL_law_0 (fun q1 => ?_)
    refine uw_dup (pc := 3) hC dL_law_3 rfl ?_
    refine uw_init (pc := 4) (ws := []) (st := [.ref q1]) hC hI (ci_X6 (l := l) (Y := Y)) (fun h9 => ⟨h9.1.moved (Vm.Alike.refl _), h9.2.moved (Vm.Alike.refl _)⟩) hBB mi_X6 sw_77 (by omega) (by decide) (Nat.le_of_ble_eq_true rfl) (by decide) (by decide) dL_law_4 (fun f1 hf1 => ?_)
    subst hf1
    refine uw_astore_n (pc := 7) (lv' := [(1, .ref (f1 0)), (0, .ref b)]) hC dL_law_7 rfl (by decide) rfl ?_
    refine uw_new (pc := 8) (Cl := RX7) (T := TX7) (N := 36) (ci := 7) (fs := [.null, .null, .int 0, .int 0, .null, .int 0, .null, .null, .null, .int 0, .int 0, .int 0, .int 0, .null, .int 0, .int 0, .int 0, .int 0, .int 0, .int 0, .int 0, .int 0, .null, .null, .null, .int 0, .null, .null, .int 0, .null, .int 0, .null, .null, .null, .null, .int 0]) hC hI inT_X7 tyX7 tyX7_ok rfl sw_870 sw_871 sw_67 (by decide) (by decide) (by decide) dL_law_8 (fun q2 => ?_)
    refine uw_dup (pc := 11) hC dL_law_11 rfl ?_
    refine uw_init (pc := 12) (st := [.ref q2]) hC hI (ci_X7 (l := l) (Y := Y)) (fun h9 => h9) hBt mi_X7 sw_872 (by omega) (by decide) (Nat.le_of_ble_eq_true rfl) (by decide) (by decide) dL_law_12 (fun f2 hf2 => ?_)
    subst hf2
    refine uw_astore_n (pc := 15) (lv' := [(2, .ref (f2 0)), (1, .ref (f1 0)), (0, .ref b)]) hC dL_law_15 rfl (by decide) rfl ?_
    refine uw_refs (k := 24) (fun i => some ((fun k => if k < 62 then f1 k else f2 (k - 62)) (25 + 10 * i))) rfl (fun i hi => by match i, hi with | 0, _ => rfl | 1, _ => rfl) ?_
    refine uw_refs (k := 53) (fun i => some ((fun k => if k < 62 then f1 k else f2 (k - 62)) (54 + 2 * i))) rfl (fun i hi => by match i, hi with | 0, _ => rfl | 1, _ => rfl | 2, _ => rfl | 3, _ => rfl) ?_
    refine uw_toV2 (σ := ww_zAll) (ad1 := fun k => if k < 62 then f1 k else f2 (k - 62)) (G1 := ww_GG) rfl ?_
    intro hD
    obtain ⟨hj, hk⟩ := ww_inj hD
    have hC2 : ww_C (p, l, e, room_1, s, m, #[Value.ref b], below, meth, c, 80, 54664, (fun r t => r.1 = some (Value.int 1) → lw_Z below #[Value.ref b] s t), (fun q : Nat => s.heap.size ≤ q)) l Y (fun k => if k < 62 then f1 k else f2 (k - 62)) ww_GG 100 cL_law 4 RL := ⟨rfl, ⟨by decide, by decide, by decide, by decide⟩, hx, hb, hml, hown, hT, hEv, hj, hk, hA⟩
    refine ww_eq (o' := (f_L_law L xs ww_zAll).bind ww_rw) (by rw [hpure]; rfl) ?_
    exact w_law (b := b) hC2 ⟨hX, hbl, hbA⟩ ⟨rfl, rfl, hr, hlocks, by decide, by decide, rfl, rfl⟩ ww_GG_T ww_GG_M ww_zAll
  rw [lg_entry_eq]
  have hw := key s.heap [] _ (fun k q h => by simp at h) ⟨fun i j p q h => by simp at h, fun k q h => by simp at h⟩ va_S.rf (lv_entry ([.ref b]) (n := 4) (Nat.le_of_ble_eq_true rfl))
  intro T hT X
  obtain ⟨t, a1, b1⟩ := hw T hT X
  exact ⟨t, a1, b1 rfl⟩
