def ww_zTop0 : ww_M := fun a => match a with
  | 54 => fun j => match j with
    | 2 => -1
    | _ => 0
  | 56 => fun j => match j with
    | 2 => -1
    | _ => 0
  | 58 => fun j => match j with
    | 2 => -1
    | _ => 0
  | 60 => fun j => match j with
    | 2 => -1
    | _ => 0
  | _ => fun _ => 0
def ww_zTop : ww_M := (f_X2_clear ww_zTop0 4).getD ww_z
theorem ww_zTop_eq : f_X2_clear ww_zTop0 4 = some ww_zTop := rfl
def ww_XC (X : ww_X) (mc ms : Nat) : Prop := match X with
  | (p, l, e, R, s, m, args, below, meth, c, cells, slots, Qf, A) => cells = mc ∧ slots = ms
theorem ww_cret {X : ww_X} {l0 : Launch} {Y : ww_Y} {ad : Nat → Nat} {G : List ww_L} {h nL pc mc ms h0 : Nat} {cc : ByteArray} {own : String} {σ : ww_M} {lv : List (Nat × Value)} {o : Option ww_R} {B : State → Prop} (hC : ww_C X l0 Y ad G h cc nL own) (hQ : ww_QQx X Y G σ h0 mc ms B) (hX : ww_XC X mc ms) (hf : ad 0 = h0) (hd : decode cc pc = .ok (.return_, 1)) (ho : o = some (none, σ)) : ww_V X Y ad G nL σ pc lv [] o := by
  obtain ⟨p, l, e, R, s, m, args, below, meth, c, cells, slots, Qf, A⟩ := X
  obtain ⟨rfl, ⟨hRf, hRl, hRc, hRs⟩, hx, hb, hml, hown, hts, hEv, hI, hAk, hA⟩ := hC
  obtain ⟨⟨hr1, hlk, rfl⟩, -⟩ := hQ
  obtain ⟨rfl, rfl⟩ := hX
  intro H locs ls r hr hP hS hl
  exact W.vret hx hb hr1 (fun t ht _ => ⟨rfl, ⟨ad, hf, by rw [ht, ww_Wr_eq]; exact hP, by rw [ww_Wr_eq]; exact ww_D hI hAk⟩, hS.F ht⟩) hS.2.2 hd (hlocks := hlk)
theorem dX6_init_0 : decode cX6_init 0 = .ok (.aload_n 0, 1) := by decide +kernel
theorem dX6_init_1 : decode cX6_init 1 = .ok (.invokespecial 3, 3) := by decide +kernel
theorem dX6_init_4 : decode cX6_init 4 = .ok (.aload_n 0, 1) := by decide +kernel
theorem dX6_init_5 : decode cX6_init 5 = .ok (.new 9, 3) := by decide +kernel
theorem dX6_init_8 : decode cX6_init 8 = .ok (.dup, 1) := by decide +kernel
theorem dX6_init_9 : decode cX6_init 9 = .ok (.invokespecial 11, 3) := by decide +kernel
theorem dX6_init_12 : decode cX6_init 12 = .ok (.putfield 12, 3) := by decide +kernel
theorem dX6_init_15 : decode cX6_init 15 = .ok (.aload_n 0, 1) := by decide +kernel
theorem dX6_init_16 : decode cX6_init 16 = .ok (.new 16, 3) := by decide +kernel
theorem dX6_init_19 : decode cX6_init 19 = .ok (.dup, 1) := by decide +kernel
theorem dX6_init_20 : decode cX6_init 20 = .ok (.invokespecial 18, 3) := by decide +kernel
theorem dX6_init_23 : decode cX6_init 23 = .ok (.putfield 19, 3) := by decide +kernel
theorem dX6_init_26 : decode cX6_init 26 = .ok (.aload_n 0, 1) := by decide +kernel
theorem dX6_init_27 : decode cX6_init 27 = .ok (.new 23, 3) := by decide +kernel
theorem dX6_init_30 : decode cX6_init 30 = .ok (.dup, 1) := by decide +kernel
theorem dX6_init_31 : decode cX6_init 31 = .ok (.invokespecial 25, 3) := by decide +kernel
theorem dX6_init_34 : decode cX6_init 34 = .ok (.putfield 26, 3) := by decide +kernel
theorem dX6_init_37 : decode cX6_init 37 = .ok (.aload_n 0, 1) := by decide +kernel
theorem dX6_init_38 : decode cX6_init 38 = .ok (.new 23, 3) := by decide +kernel
theorem dX6_init_41 : decode cX6_init 41 = .ok (.dup, 1) := by decide +kernel
theorem dX6_init_42 : decode cX6_init 42 = .ok (.invokespecial 25, 3) := by decide +kernel
theorem dX6_init_45 : decode cX6_init 45 = .ok (.putfield 30, 3) := by decide +kernel
theorem dX6_init_48 : decode cX6_init 48 = .ok (.aload_n 0, 1) := by decide +kernel
theorem dX6_init_49 : decode cX6_init 49 = .ok (.iconst 2, 1) := by decide +kernel
theorem dX6_init_50 : decode cX6_init 50 = .ok (.anewarray 23, 3) := by decide +kernel
theorem dX6_init_53 : decode cX6_init 53 = .ok (.putfield 33, 3) := by decide +kernel
theorem dX6_init_56 : decode cX6_init 56 = .ok (.iconst 0, 1) := by decide +kernel
theorem dX6_init_57 : decode cX6_init 57 = .ok (.istore_n 1, 1) := by decide +kernel
theorem dX6_init_58 : decode cX6_init 58 = .ok (.iload_n 1, 1) := by decide +kernel
theorem dX6_init_59 : decode cX6_init 59 = .ok (.aload_n 0, 1) := by decide +kernel
theorem dX6_init_60 : decode cX6_init 60 = .ok (.getfield 33, 3) := by decide +kernel
theorem dX6_init_63 : decode cX6_init 63 = .ok (.arraylength, 1) := by decide +kernel
theorem dX6_init_64 : decode cX6_init 64 = .ok (.if_icmp .ge 22, 3) := by decide +kernel
theorem dX6_init_67 : decode cX6_init 67 = .ok (.aload_n 0, 1) := by decide +kernel
theorem dX6_init_68 : decode cX6_init 68 = .ok (.getfield 33, 3) := by decide +kernel
theorem dX6_init_71 : decode cX6_init 71 = .ok (.iload_n 1, 1) := by decide +kernel
theorem dX6_init_72 : decode cX6_init 72 = .ok (.new 23, 3) := by decide +kernel
theorem dX6_init_75 : decode cX6_init 75 = .ok (.dup, 1) := by decide +kernel
theorem dX6_init_76 : decode cX6_init 76 = .ok (.invokespecial 25, 3) := by decide +kernel
theorem dX6_init_79 : decode cX6_init 79 = .ok (.aastore, 1) := by decide +kernel
theorem dX6_init_80 : decode cX6_init 80 = .ok (.iinc 1 1, 3) := by decide +kernel
theorem dX6_init_83 : decode cX6_init 83 = .ok (.goto (-25), 3) := by decide +kernel
theorem dX6_init_86 : decode cX6_init 86 = .ok (.aload_n 0, 1) := by decide +kernel
theorem dX6_init_87 : decode cX6_init 87 = .ok (.new 37, 3) := by decide +kernel
theorem dX6_init_90 : decode cX6_init 90 = .ok (.dup, 1) := by decide +kernel
theorem dX6_init_91 : decode cX6_init 91 = .ok (.invokespecial 39, 3) := by decide +kernel
theorem dX6_init_94 : decode cX6_init 94 = .ok (.putfield 40, 3) := by decide +kernel
theorem dX6_init_97 : decode cX6_init 97 = .ok (.aload_n 0, 1) := by decide +kernel
theorem dX6_init_98 : decode cX6_init 98 = .ok (.new 44, 3) := by decide +kernel
theorem dX6_init_101 : decode cX6_init 101 = .ok (.dup, 1) := by decide +kernel
theorem dX6_init_102 : decode cX6_init 102 = .ok (.invokespecial 46, 3) := by decide +kernel
theorem dX6_init_105 : decode cX6_init 105 = .ok (.putfield 47, 3) := by decide +kernel
theorem dX6_init_108 : decode cX6_init 108 = .ok (.aload_n 0, 1) := by decide +kernel
theorem dX6_init_109 : decode cX6_init 109 = .ok (.iconst 4, 1) := by decide +kernel
theorem dX6_init_110 : decode cX6_init 110 = .ok (.anewarray 51, 3) := by decide +kernel
theorem dX6_init_113 : decode cX6_init 113 = .ok (.putfield 53, 3) := by decide +kernel
theorem dX6_init_116 : decode cX6_init 116 = .ok (.iconst 0, 1) := by decide +kernel
theorem dX6_init_117 : decode cX6_init 117 = .ok (.istore_n 1, 1) := by decide +kernel
theorem dX6_init_118 : decode cX6_init 118 = .ok (.iload_n 1, 1) := by decide +kernel
theorem dX6_init_119 : decode cX6_init 119 = .ok (.aload_n 0, 1) := by decide +kernel
theorem dX6_init_120 : decode cX6_init 120 = .ok (.getfield 53, 3) := by decide +kernel
theorem dX6_init_123 : decode cX6_init 123 = .ok (.arraylength, 1) := by decide +kernel
theorem dX6_init_124 : decode cX6_init 124 = .ok (.if_icmp .ge 22, 3) := by decide +kernel
theorem dX6_init_127 : decode cX6_init 127 = .ok (.aload_n 0, 1) := by decide +kernel
theorem dX6_init_128 : decode cX6_init 128 = .ok (.getfield 53, 3) := by decide +kernel
theorem dX6_init_131 : decode cX6_init 131 = .ok (.iload_n 1, 1) := by decide +kernel
theorem dX6_init_132 : decode cX6_init 132 = .ok (.new 51, 3) := by decide +kernel
theorem dX6_init_135 : decode cX6_init 135 = .ok (.dup, 1) := by decide +kernel
theorem dX6_init_136 : decode cX6_init 136 = .ok (.invokespecial 57, 3) := by decide +kernel
theorem dX6_init_139 : decode cX6_init 139 = .ok (.aastore, 1) := by decide +kernel
theorem dX6_init_140 : decode cX6_init 140 = .ok (.iinc 1 1, 3) := by decide +kernel
theorem dX6_init_143 : decode cX6_init 143 = .ok (.goto (-25), 3) := by decide +kernel
theorem dX6_init_146 : decode cX6_init 146 = .ok (.aload_n 0, 1) := by decide +kernel
theorem dX6_init_147 : decode cX6_init 147 = .ok (.getfield 26, 3) := by decide +kernel
theorem dX6_init_150 : decode cX6_init 150 = .ok (.invokevirtual 58, 3) := by decide +kernel
theorem dX6_init_153 : decode cX6_init 153 = .ok (.return_, 1) := by decide +kernel
theorem cw_80 : Cond.methodLink RX6 3 Lib.objectInit ∈ ww_T := ww_Tt1 22 (by decide +kernel) rfl
theorem cw_83 : Cond.classLink RX6 9 RX4 ∈ ww_T := ww_Tt1 25 (by decide +kernel) rfl
theorem cw_84 : Cond.instantiable RX4 6 ∈ ww_T := ww_Tt1 26 (by decide +kernel) rfl
theorem cw_85 : Cond.methodLinkNest RX6 11 yX4_init "WeighedWhales" ∈ ww_N := ww_Nt1 27 (by decide +kernel) rfl
theorem cw_298 : Cond.fieldLink RX6 12 RX6 "tape" "LWeighedWhales$Tape;" ∈ ww_T := ww_Tt2 0 (by decide +kernel) rfl
theorem cw_115 : Cond.classLink RX6 16 RX5 ∈ ww_T := ww_Tt1 57 (by decide +kernel) rfl
theorem cw_116 : Cond.instantiable RX5 3 ∈ ww_T := ww_Tt1 58 (by decide +kernel) rfl
theorem cw_117 : Cond.methodLinkNest RX6 18 yX5_init "WeighedWhales" ∈ ww_N := ww_Nt1 59 (by decide +kernel) rfl
theorem cw_299 : Cond.fieldLink RX6 19 RX6 "teller" "LWeighedWhales$Teller;" ∈ ww_T := ww_Tt2 1 (by decide +kernel) rfl
theorem cw_133 : Cond.classLink RX6 23 RX2 ∈ ww_T := ww_Tt1 75 (by decide +kernel) rfl
theorem cw_134 : Cond.instantiable RX2 17 ∈ ww_T := ww_Tt1 76 (by decide +kernel) rfl
theorem cw_135 : Cond.methodLinkNest RX6 25 yX2_init "WeighedWhales" ∈ ww_N := ww_Nt1 77 (by decide +kernel) rfl
theorem cw_300 : Cond.fieldLink RX6 26 RX6 "now" "LWeighedWhales$Shore;" ∈ ww_T := ww_Tt2 2 (by decide +kernel) rfl
theorem cw_301 : Cond.fieldLink RX6 30 RX6 "spare" "LWeighedWhales$Shore;" ∈ ww_T := ww_Tt2 3 (by decide +kernel) rfl
theorem cw_302 : Cond.fieldLink RX6 33 RX6 "images" "[LWeighedWhales$Shore;" ∈ ww_T := ww_Tt2 4 (by decide +kernel) rfl
theorem cw_220 : Cond.classLink RX6 37 RX3 ∈ ww_T := ww_Tt1 162 (by decide +kernel) rfl
theorem cw_221 : Cond.instantiable RX3 3 ∈ ww_T := ww_Tt1 163 (by decide +kernel) rfl
theorem cw_222 : Cond.methodLinkNest RX6 39 yX3_init "WeighedWhales" ∈ ww_N := ww_Nt1 164 (by decide +kernel) rfl
theorem cw_304 : Cond.fieldLink RX6 40 RX6 "tales" "LWeighedWhales$Tales;" ∈ ww_T := ww_Tt2 6 (by decide +kernel) rfl
theorem cw_237 : Cond.classLink RX6 44 RX0 ∈ ww_T := ww_Tt1 179 (by decide +kernel) rfl
theorem cw_238 : Cond.instantiable RX0 9 ∈ ww_T := ww_Tt1 180 (by decide +kernel) rfl
theorem cw_239 : Cond.methodLinkNest RX6 46 yX0_init "WeighedWhales" ∈ ww_N := ww_Nt1 181 (by decide +kernel) rfl
theorem cw_305 : Cond.fieldLink RX6 47 RX6 "planner" "LWeighedWhales$Planner;" ∈ ww_T := ww_Tt2 7 (by decide +kernel) rfl
theorem cw_271 : Cond.classLink RX6 51 RX1 ∈ ww_T := ww_Tt1 213 (by decide +kernel) rfl
theorem cw_306 : Cond.fieldLink RX6 53 RX6 "sheets" "[LWeighedWhales$Sheet;" ∈ ww_T := ww_Tt2 8 (by decide +kernel) rfl
theorem cw_273 : Cond.instantiable RX1 3 ∈ ww_T := ww_Tt1 215 (by decide +kernel) rfl
theorem cw_274 : Cond.methodLinkNest RX6 57 yX1_init "WeighedWhales" ∈ ww_N := ww_Nt1 216 (by decide +kernel) rfl
theorem cw_79 : Cond.code yX6_init cX6_init 2 none ∈ ww_T := ww_Tt1 21 (by decide +kernel) rfl
theorem cw_59 : Cond.initialized RX6 ∈ ww_T := ww_Tt1 1 (by decide +kernel) rfl
theorem cw_78 : Cond.instanceMethod yX6_init ∈ ww_T := ww_Tt1 20 (by decide +kernel) rfl
theorem mi_X6 : ww_mI yX6_init cX6_init 2 := ⟨cw_79, cw_59, cw_78, rfl, by decide +kernel⟩
theorem cw_291 : Cond.methodLink RX6 58 yX2_clear ∈ ww_T := ww_Tt1 233 (by decide +kernel) rfl
set_option maxHeartbeats 8000000 in
set_option maxRecDepth 100000 in
theorem uw_clear {X : ww_X} {l : Launch} {Y : ww_Y} {h0 : Nat} {ws : va_W} {B : State → Prop} (hC : ww_C X l Y (fun _ => 0) [] 4 cX6_init 2 RX6) (hI : ww_CI X 61 25283 True) (hQ : ww_QQx X Y ww_LTop ww_zTop h0 61 25283 B) (ad : Nat → Nat) (hf : ad 0 = h0) (hw : ws = ww_Wr ad Y.2.1 ww_zTop0 0 ww_LTop) : ww_U X Y (none, ww_zTop) ws 2 61 25283 146 [(1, .int 4), (0, .ref h0)] [] := by
  obtain ⟨p, l, e, R, s, m, args, below, meth, c, cells0, slots0, Qf, A⟩ := X
  refine uw_toV hw ?_
  intro hD
  rw [hw, ww_Wr_eq] at hD
  subst hf
  obtain ⟨hj, hk⟩ := ww_inj hD
  have hT : ww_at ww_LTop 0 ww_LTop := fun i x hx => by rw [Nat.zero_add]; exact hx
  have hC : ww_C (p, l, e, R, s, m, args, below, meth, c, 61, 25283, Qf, A) l Y ad ww_LTop 4 cX6_init 2 RX6 := by
    obtain ⟨rfl, ⟨hRf, hRl, hRc, hRs⟩, hx, hb, hml, hown, hts, hEv, hI0, hAk, hA⟩ := hC
    obtain ⟨i1, i2, -⟩ := hI
    exact ⟨rfl, ⟨hRf, hRl, i1, i2⟩, hx, hb, hml, hown, hts, hEv, hj, hk, hA⟩
  have hX : ww_XC (p, l, e, R, s, m, args, below, meth, c, 61, 25283, Qf, A) 61 25283 := ⟨rfl, rfl⟩
  have hQ : ww_QQx (p, l, e, R, s, m, args, below, meth, c, 61, 25283, Qf, A) Y ww_LTop ww_zTop (ad 0) 61 25283 B := hQ
  generalize (p, l, e, R, s, m, args, below, meth, c, 61, 25283, Qf, A) = X at hC hX hQ ⊢
  refine ww_eq (o' := ((f_X2_clear ww_zTop0 4).bind (fun τ => some τ)).bind ww_rv) rfl ?_
  refine ww_aload_n (pc := 146) hC 1 rfl dX6_init_146 rfl ?_
  refine ww_getr (pc := 147) (Cl := RX6) (T := TX6) (N := 10) (j := 2) (ref := RX6) hC (hT 0 _ rfl) rfl inT_X6 (by decide) cw_300 rfl rfl dX6_init_147 ?_
  refine ww_eq (o' := ((some ()).bind (fun _ : Unit => some ww_zTop)).bind ww_rv) rfl ?_
  refine ww_callV (kc := fun _ => (none, ww_zTop)) (f := some ()) (pc := 150) (st := []) (As := []) hC (c_X2_clear 4 (ww_top_now hT) ww_zTop0) mm_X2_clear cw_291 ((ww_top_now hT) 0 _ rfl) rfl (by omega) (by decide) (Nat.le_of_ble_eq_true rfl) rfl dX6_init_150 (fun _ => ?_)
  exact ww_cret (pc := 153) hC hQ hX rfl dX6_init_153 rfl
set_option maxHeartbeats 8000000 in
set_option maxRecDepth 100000 in
theorem ci_X6 {l : Launch} {Y : ww_Y} : ww_Ci l Y yX6_init cX6_init 2 4 61 25283 (.inr (6, [.null, .null, .null, .null, .null, .int 0, .null, .null, .null, .int 0])) ww_LTop ww_zTop (fun U => va_AO RX1 U ∧ va_AO RX2 U) := by
  refine uw_met (by decide +kernel) rfl (by decide) ?_
  intro X h0 hC hI hQ
  have hC : ww_C X l Y (fun _ => 0) [] 4 cX6_init 2 RX6 := hC
  have haX1 : ww_AOx X RX1 := by
    obtain ⟨p, l, e, R, s, m, args, below, meth, c, cells0, slots0, Qf, A⟩ := X
    exact hQ.2.1
  have haX2 : ww_AOx X RX2 := by
    obtain ⟨p, l, e, R, s, m, args, below, meth, c, cells0, slots0, Qf, A⟩ := X
    exact hQ.2.2
  refine uw_aload_n (pc := 0) hC 0 rfl dX6_init_0 rfl ?_
  refine uw_obj (pc := 1) hC cw_80 cw_81 cw_82 (by omega) (Nat.le_of_ble_eq_true rfl) dX6_init_1 ?_
  refine uw_aload_n (pc := 4) hC 0 rfl dX6_init_4 rfl ?_
  refine uw_new (pc := 5) (Cl := RX4) (T := TX4) (N := 6) (ci := 4) (fs := [.null, .int 0, .int 0, .int 0, .int 0, .int 0]) hC hI inT_X4 tyX4 tyX4_ok rfl cw_83 cw_84 cw_60 (by decide) (by decide) (by decide) dX6_init_5 (fun q1 => ?_)
  refine uw_dup (pc := 8) hC dX6_init_8 rfl ?_
  refine uw_initN (pc := 9) (st := [.ref q1, .ref h0]) hC hI (ci_X4 (l := l) (Y := Y)) (fun h9 => h9) (ww_BBt X) mi_X4 cw_85 (by omega) (by decide) (Nat.le_of_ble_eq_true rfl) (by decide) (by decide) dX6_init_9 (fun f1 hf1 => ?_)
  subst hf1
  refine uw_putF (pc := 12) (Cl := RX6) (T := TX6) (N := 10) hC hI 0 0 rfl rfl inT_X6 (by decide) cw_298 rfl tyX6 tyX6_ok nmX6 (tyX6_ok 0 (by decide)) rfl rfl (Nat.le_of_ble_eq_true rfl) rfl rfl dX6_init_12 ?_
  refine uw_ws (ws' := ([(h0, .inr (6, [.ref (f1 0), .null, .null, .null, .null, .int 0, .null, .null, .null, .int 0]))] ++ ww_Wr f1 Y.2.1 ww_z 0 (ww_LTape 0))) rfl ?_
  refine uw_aload_n (pc := 15) hC 0 rfl dX6_init_15 rfl ?_
  refine uw_new (pc := 16) (Cl := RX5) (T := TX5) (N := 3) (ci := 5) (fs := [.int 0, .int 0, .int 0]) hC hI inT_X5 tyX5 tyX5_ok rfl cw_115 cw_116 cw_61 (by decide) (by decide) (by decide) dX6_init_16 (fun q2 => ?_)
  refine uw_dup (pc := 19) hC dX6_init_19 rfl ?_
  refine uw_initN (pc := 20) (st := [.ref q2, .ref h0]) hC hI (ci_X5 (l := l) (Y := Y)) (fun h9 => h9) (ww_BBt X) mi_X5 cw_117 (by omega) (by decide) (Nat.le_of_ble_eq_true rfl) (by decide) (by decide) dX6_init_20 (fun f2 hf2 => ?_)
  subst hf2
  refine uw_putF (pc := 23) (Cl := RX6) (T := TX6) (N := 10) hC hI 0 1 rfl rfl inT_X6 (by decide) cw_299 rfl tyX6 tyX6_ok nmX6 (tyX6_ok 1 (by decide)) rfl rfl (Nat.le_of_ble_eq_true rfl) rfl rfl dX6_init_23 ?_
  refine uw_ws (ws' := (([(h0, .inr (6, [.ref (f1 0), .ref (f2 0), .null, .null, .null, .int 0, .null, .null, .null, .int 0]))] ++ ww_Wr f1 Y.2.1 ww_z 0 (ww_LTape 0)) ++ ww_Wr f2 Y.2.1 ww_z 0 (ww_LTeller 0))) rfl ?_
  refine uw_aload_n (pc := 26) hC 0 rfl dX6_init_26 rfl ?_
  refine uw_new (pc := 27) (Cl := RX2) (T := TX2) (N := 17) (ci := 2) (fs := [.null, .null, .null, .null, .null, .null, .null, .null, .null, .int 0, .int 0, .int 0, .int 0, .int 0, .int 0, .int 0, .int 0]) hC hI inT_X2 tyX2 tyX2_ok rfl cw_133 cw_134 cw_62 (by decide) (by decide) (by decide) dX6_init_27 (fun q3 => ?_)
  refine uw_dup (pc := 30) hC dX6_init_30 rfl ?_
  refine uw_initN (pc := 31) (st := [.ref q3, .ref h0]) hC hI (ci_X2 (l := l) (Y := Y)) (fun h9 => h9) (ww_BBt X) mi_X2 cw_135 (by omega) (by decide) (Nat.le_of_ble_eq_true rfl) (by decide) (by decide) dX6_init_31 (fun f3 hf3 => ?_)
  subst hf3
  refine uw_putF (pc := 34) (Cl := RX6) (T := TX6) (N := 10) hC hI 0 2 rfl rfl inT_X6 (by decide) cw_300 rfl tyX6 tyX6_ok nmX6 (tyX6_ok 2 (by decide)) rfl rfl (Nat.le_of_ble_eq_true rfl) rfl rfl dX6_init_34 ?_
  refine uw_ws (ws' := ((([(h0, .inr (6, [.ref (f1 0), .ref (f2 0), .ref (f3 0), .null, .null, .int 0, .null, .null, .null, .int 0]))] ++ ww_Wr f1 Y.2.1 ww_z 0 (ww_LTape 0)) ++ ww_Wr f2 Y.2.1 ww_z 0 (ww_LTeller 0)) ++ ww_Wr f3 Y.2.1 ww_z 0 (ww_LShore 0))) rfl ?_
  refine uw_aload_n (pc := 37) hC 0 rfl dX6_init_37 rfl ?_
  refine uw_new (pc := 38) (Cl := RX2) (T := TX2) (N := 17) (ci := 2) (fs := [.null, .null, .null, .null, .null, .null, .null, .null, .null, .int 0, .int 0, .int 0, .int 0, .int 0, .int 0, .int 0, .int 0]) hC hI inT_X2 tyX2 tyX2_ok rfl cw_133 cw_134 cw_62 (by decide) (by decide) (by decide) dX6_init_38 (fun q4 => ?_)
  refine uw_dup (pc := 41) hC dX6_init_41 rfl ?_
  refine uw_initN (pc := 42) (st := [.ref q4, .ref h0]) hC hI (ci_X2 (l := l) (Y := Y)) (fun h9 => h9) (ww_BBt X) mi_X2 cw_135 (by omega) (by decide) (Nat.le_of_ble_eq_true rfl) (by decide) (by decide) dX6_init_42 (fun f4 hf4 => ?_)
  subst hf4
  refine uw_putF (pc := 45) (Cl := RX6) (T := TX6) (N := 10) hC hI 0 3 rfl rfl inT_X6 (by decide) cw_301 rfl tyX6 tyX6_ok nmX6 (tyX6_ok 3 (by decide)) rfl rfl (Nat.le_of_ble_eq_true rfl) rfl rfl dX6_init_45 ?_
  refine uw_ws (ws' := (((([(h0, .inr (6, [.ref (f1 0), .ref (f2 0), .ref (f3 0), .ref (f4 0), .null, .int 0, .null, .null, .null, .int 0]))] ++ ww_Wr f1 Y.2.1 ww_z 0 (ww_LTape 0)) ++ ww_Wr f2 Y.2.1 ww_z 0 (ww_LTeller 0)) ++ ww_Wr f3 Y.2.1 ww_z 0 (ww_LShore 0)) ++ ww_Wr f4 Y.2.1 ww_z 0 (ww_LShore 0))) rfl ?_
  refine uw_aload_n (pc := 48) hC 0 rfl dX6_init_48 rfl ?_
  refine uw_iconst (pc := 49) (v := 2) hC dX6_init_49 rfl ?_
  refine uw_newq (pc := 50) (t := 4) (N := 2) hC hI haX2 cw_133 (fun _ => rfl) (by decide) (by decide) (by decide) (by decide) (by decide) dX6_init_50 (fun q5 => ?_)
  refine uw_ws (ws' := ((((([(h0, .inr (6, [.ref (f1 0), .ref (f2 0), .ref (f3 0), .ref (f4 0), .null, .int 0, .null, .null, .null, .int 0]))] ++ ww_Wr f1 Y.2.1 ww_z 0 (ww_LTape 0)) ++ ww_Wr f2 Y.2.1 ww_z 0 (ww_LTeller 0)) ++ ww_Wr f3 Y.2.1 ww_z 0 (ww_LShore 0)) ++ ww_Wr f4 Y.2.1 ww_z 0 (ww_LShore 0)) ++ [(q5, .inl (Y.2.1 4, 2, .inr (.inr (.inr (.inr (fun _ => none))))))])) rfl ?_
  refine uw_putF (pc := 53) (Cl := RX6) (T := TX6) (N := 10) hC hI 0 4 rfl rfl inT_X6 (by decide) cw_302 rfl tyX6 tyX6_ok nmX6 (tyX6_ok 4 (by decide)) rfl rfl (Nat.le_of_ble_eq_true rfl) rfl rfl dX6_init_53 ?_
  refine uw_ws (ws' := ((((([(h0, .inr (6, [.ref (f1 0), .ref (f2 0), .ref (f3 0), .ref (f4 0), .ref q5, .int 0, .null, .null, .null, .int 0]))] ++ ww_Wr f1 Y.2.1 ww_z 0 (ww_LTape 0)) ++ ww_Wr f2 Y.2.1 ww_z 0 (ww_LTeller 0)) ++ ww_Wr f3 Y.2.1 ww_z 0 (ww_LShore 0)) ++ ww_Wr f4 Y.2.1 ww_z 0 (ww_LShore 0)) ++ [(q5, .inl (Y.2.1 4, 2, .inr (.inr (.inr (.inr (fun _ => none))))))])) rfl ?_
  refine uw_iconst (pc := 56) (v := 0) hC dX6_init_56 rfl ?_
  refine uw_istore_n (pc := 57) (lv' := [(1, .int 0), (0, .ref h0)]) hC dX6_init_57 rfl (by decide) rfl ?_
  refine uw_iload_n (pc := 58) hC 0 rfl dX6_init_58 rfl ?_
  refine uw_aload_n (pc := 59) hC 1 rfl dX6_init_59 rfl ?_
  refine uw_get (pc := 60) (Cl := RX6) (T := TX6) (N := 10) hC 0 4 rfl rfl inT_X6 (by decide) cw_302 rfl rfl dX6_init_60 ?_
  refine uw_alenR (pc := 63) (t := 4) (v := 2) hC 24 rfl (fun _ => rfl) rfl dX6_init_63 ?_
  refine uw_ge_f (pc := 64) (tgt := 86) hC dX6_init_64 (by decide) (by decide) ?_
  refine uw_aload_n (pc := 67) hC 1 rfl dX6_init_67 rfl ?_
  refine uw_get (pc := 68) (Cl := RX6) (T := TX6) (N := 10) hC 0 4 rfl rfl inT_X6 (by decide) cw_302 rfl rfl dX6_init_68 ?_
  refine uw_iload_n (pc := 71) hC 0 rfl dX6_init_71 rfl ?_
  refine uw_new (pc := 72) (Cl := RX2) (T := TX2) (N := 17) (ci := 2) (fs := [.null, .null, .null, .null, .null, .null, .null, .null, .null, .int 0, .int 0, .int 0, .int 0, .int 0, .int 0, .int 0, .int 0]) hC hI inT_X2 tyX2 tyX2_ok rfl cw_133 cw_134 cw_62 (by decide) (by decide) (by decide) dX6_init_72 (fun q6 => ?_)
  refine uw_dup (pc := 75) hC dX6_init_75 rfl ?_
  refine uw_initN (pc := 76) (st := [.ref q6, .int 0, .ref q5]) hC hI (ci_X2 (l := l) (Y := Y)) (fun h9 => h9) (ww_BBt X) mi_X2 cw_135 (by omega) (by decide) (Nat.le_of_ble_eq_true rfl) (by decide) (by decide) dX6_init_76 (fun f6 hf6 => ?_)
  subst hf6
  refine uw_aast (pc := 79) (j := 0) (t := 4) hC 24 25 rfl (fun _ => rfl) rfl rfl (by unfold vp_in; decide) (by decide) dX6_init_79 ?_
  refine uw_ws (ws' := (((((([(h0, .inr (6, [.ref (f1 0), .ref (f2 0), .ref (f3 0), .ref (f4 0), .ref q5, .int 0, .null, .null, .null, .int 0]))] ++ ww_Wr f1 Y.2.1 ww_z 0 (ww_LTape 0)) ++ ww_Wr f2 Y.2.1 ww_z 0 (ww_LTeller 0)) ++ ww_Wr f3 Y.2.1 ww_z 0 (ww_LShore 0)) ++ ww_Wr f4 Y.2.1 ww_z 0 (ww_LShore 0)) ++ [(q5, .inl (Y.2.1 4, 2, .inr (.inr (.inr (.inr (va_up (fun _ => none) 0 (some (f6 0))))))))]) ++ ww_Wr f6 Y.2.1 ww_z 0 (ww_LShore 0))) rfl ?_
  refine uw_iinc (pc := 80) (v := 1) (lv' := [(1, .int 1), (0, .ref h0)]) hC 0 rfl dX6_init_80 (by decide) (by decide) rfl ?_
  refine uw_goto (pc := 83) (tgt := 58) hC dX6_init_83 (by decide) ?_
  refine uw_iload_n (pc := 58) hC 0 rfl dX6_init_58 rfl ?_
  refine uw_aload_n (pc := 59) hC 1 rfl dX6_init_59 rfl ?_
  refine uw_get (pc := 60) (Cl := RX6) (T := TX6) (N := 10) hC 0 4 rfl rfl inT_X6 (by decide) cw_302 rfl rfl dX6_init_60 ?_
  refine uw_alenR (pc := 63) (t := 4) (v := 2) hC 24 rfl (fun _ => rfl) rfl dX6_init_63 ?_
  refine uw_ge_f (pc := 64) (tgt := 86) hC dX6_init_64 (by decide) (by decide) ?_
  refine uw_aload_n (pc := 67) hC 1 rfl dX6_init_67 rfl ?_
  refine uw_get (pc := 68) (Cl := RX6) (T := TX6) (N := 10) hC 0 4 rfl rfl inT_X6 (by decide) cw_302 rfl rfl dX6_init_68 ?_
  refine uw_iload_n (pc := 71) hC 0 rfl dX6_init_71 rfl ?_
  refine uw_new (pc := 72) (Cl := RX2) (T := TX2) (N := 17) (ci := 2) (fs := [.null, .null, .null, .null, .null, .null, .null, .null, .null, .int 0, .int 0, .int 0, .int 0, .int 0, .int 0, .int 0, .int 0]) hC hI inT_X2 tyX2 tyX2_ok rfl cw_133 cw_134 cw_62 (by decide) (by decide) (by decide) dX6_init_72 (fun q7 => ?_)
  refine uw_dup (pc := 75) hC dX6_init_75 rfl ?_
  refine uw_initN (pc := 76) (st := [.ref q7, .int 1, .ref q5]) hC hI (ci_X2 (l := l) (Y := Y)) (fun h9 => h9) (ww_BBt X) mi_X2 cw_135 (by omega) (by decide) (Nat.le_of_ble_eq_true rfl) (by decide) (by decide) dX6_init_76 (fun f7 hf7 => ?_)
  subst hf7
  refine uw_aast (pc := 79) (j := 1) (t := 4) hC 24 35 rfl (fun _ => rfl) rfl rfl (by unfold vp_in; decide) (by decide) dX6_init_79 ?_
  refine uw_ws (ws' := ((((((([(h0, .inr (6, [.ref (f1 0), .ref (f2 0), .ref (f3 0), .ref (f4 0), .ref q5, .int 0, .null, .null, .null, .int 0]))] ++ ww_Wr f1 Y.2.1 ww_z 0 (ww_LTape 0)) ++ ww_Wr f2 Y.2.1 ww_z 0 (ww_LTeller 0)) ++ ww_Wr f3 Y.2.1 ww_z 0 (ww_LShore 0)) ++ ww_Wr f4 Y.2.1 ww_z 0 (ww_LShore 0)) ++ [(q5, .inl (Y.2.1 4, 2, .inr (.inr (.inr (.inr (va_up (va_up (fun _ => none) 0 (some (f6 0))) 1 (some (f7 0))))))))]) ++ ww_Wr f6 Y.2.1 ww_z 0 (ww_LShore 0)) ++ ww_Wr f7 Y.2.1 ww_z 0 (ww_LShore 0))) rfl ?_
  refine uw_iinc (pc := 80) (v := 2) (lv' := [(1, .int 2), (0, .ref h0)]) hC 0 rfl dX6_init_80 (by decide) (by decide) rfl ?_
  refine uw_goto (pc := 83) (tgt := 58) hC dX6_init_83 (by decide) ?_
  refine uw_iload_n (pc := 58) hC 0 rfl dX6_init_58 rfl ?_
  refine uw_aload_n (pc := 59) hC 1 rfl dX6_init_59 rfl ?_
  refine uw_get (pc := 60) (Cl := RX6) (T := TX6) (N := 10) hC 0 4 rfl rfl inT_X6 (by decide) cw_302 rfl rfl dX6_init_60 ?_
  refine uw_alenR (pc := 63) (t := 4) (v := 2) hC 24 rfl (fun _ => rfl) rfl dX6_init_63 ?_
  refine uw_ge_t (pc := 64) (tgt := 86) hC dX6_init_64 (by decide) (by decide) ?_
  refine uw_aload_n (pc := 86) hC 1 rfl dX6_init_86 rfl ?_
  refine uw_new (pc := 87) (Cl := RX3) (T := TX3) (N := 3) (ci := 3) (fs := [.null, .null, .int 0]) hC hI inT_X3 tyX3 tyX3_ok rfl cw_220 cw_221 cw_63 (by decide) (by decide) (by decide) dX6_init_87 (fun q8 => ?_)
  refine uw_dup (pc := 90) hC dX6_init_90 rfl ?_
  refine uw_initN (pc := 91) (st := [.ref q8, .ref h0]) hC hI (ci_X3 (l := l) (Y := Y)) (fun h9 => h9) (ww_BBt X) mi_X3 cw_222 (by omega) (by decide) (Nat.le_of_ble_eq_true rfl) (by decide) (by decide) dX6_init_91 (fun f8 hf8 => ?_)
  subst hf8
  refine uw_putF (pc := 94) (Cl := RX6) (T := TX6) (N := 10) hC hI 0 6 rfl rfl inT_X6 (by decide) cw_304 rfl tyX6 tyX6_ok nmX6 (tyX6_ok 6 (by decide)) rfl rfl (Nat.le_of_ble_eq_true rfl) rfl rfl dX6_init_94 ?_
  refine uw_ws (ws' := (((((((([(h0, .inr (6, [.ref (f1 0), .ref (f2 0), .ref (f3 0), .ref (f4 0), .ref q5, .int 0, .ref (f8 0), .null, .null, .int 0]))] ++ ww_Wr f1 Y.2.1 ww_z 0 (ww_LTape 0)) ++ ww_Wr f2 Y.2.1 ww_z 0 (ww_LTeller 0)) ++ ww_Wr f3 Y.2.1 ww_z 0 (ww_LShore 0)) ++ ww_Wr f4 Y.2.1 ww_z 0 (ww_LShore 0)) ++ [(q5, .inl (Y.2.1 4, 2, .inr (.inr (.inr (.inr (va_up (va_up (fun _ => none) 0 (some (f6 0))) 1 (some (f7 0))))))))]) ++ ww_Wr f6 Y.2.1 ww_z 0 (ww_LShore 0)) ++ ww_Wr f7 Y.2.1 ww_z 0 (ww_LShore 0)) ++ ww_Wr f8 Y.2.1 ww_z 0 (ww_LTales 0))) rfl ?_
  refine uw_aload_n (pc := 97) hC 1 rfl dX6_init_97 rfl ?_
  refine uw_new (pc := 98) (Cl := RX0) (T := TX0) (N := 9) (ci := 0) (fs := [.null, .null, .null, .null, .int 0, .int 0, .int 0, .int 0, .int 0]) hC hI inT_X0 tyX0 tyX0_ok rfl cw_237 cw_238 cw_64 (by decide) (by decide) (by decide) dX6_init_98 (fun q9 => ?_)
  refine uw_dup (pc := 101) hC dX6_init_101 rfl ?_
  refine uw_initN (pc := 102) (st := [.ref q9, .ref h0]) hC hI (ci_X0 (l := l) (Y := Y)) (fun h9 => h9) (ww_BBt X) mi_X0 cw_239 (by omega) (by decide) (Nat.le_of_ble_eq_true rfl) (by decide) (by decide) dX6_init_102 (fun f9 hf9 => ?_)
  subst hf9
  refine uw_putF (pc := 105) (Cl := RX6) (T := TX6) (N := 10) hC hI 0 7 rfl rfl inT_X6 (by decide) cw_305 rfl tyX6 tyX6_ok nmX6 (tyX6_ok 7 (by decide)) rfl rfl (Nat.le_of_ble_eq_true rfl) rfl rfl dX6_init_105 ?_
  refine uw_ws (ws' := ((((((((([(h0, .inr (6, [.ref (f1 0), .ref (f2 0), .ref (f3 0), .ref (f4 0), .ref q5, .int 0, .ref (f8 0), .ref (f9 0), .null, .int 0]))] ++ ww_Wr f1 Y.2.1 ww_z 0 (ww_LTape 0)) ++ ww_Wr f2 Y.2.1 ww_z 0 (ww_LTeller 0)) ++ ww_Wr f3 Y.2.1 ww_z 0 (ww_LShore 0)) ++ ww_Wr f4 Y.2.1 ww_z 0 (ww_LShore 0)) ++ [(q5, .inl (Y.2.1 4, 2, .inr (.inr (.inr (.inr (va_up (va_up (fun _ => none) 0 (some (f6 0))) 1 (some (f7 0))))))))]) ++ ww_Wr f6 Y.2.1 ww_z 0 (ww_LShore 0)) ++ ww_Wr f7 Y.2.1 ww_z 0 (ww_LShore 0)) ++ ww_Wr f8 Y.2.1 ww_z 0 (ww_LTales 0)) ++ ww_Wr f9 Y.2.1 ww_z 0 (ww_LPlanner 0))) rfl ?_
  refine uw_aload_n (pc := 108) hC 1 rfl dX6_init_108 rfl ?_
  refine uw_iconst (pc := 109) (v := 4) hC dX6_init_109 rfl ?_
  refine uw_newq (pc := 110) (t := 3) (N := 4) hC hI haX1 cw_271 (fun _ => rfl) (by decide) (by decide) (by decide) (by decide) (by decide) dX6_init_110 (fun q10 => ?_)
  refine uw_ws (ws' := (((((((((([(h0, .inr (6, [.ref (f1 0), .ref (f2 0), .ref (f3 0), .ref (f4 0), .ref q5, .int 0, .ref (f8 0), .ref (f9 0), .null, .int 0]))] ++ ww_Wr f1 Y.2.1 ww_z 0 (ww_LTape 0)) ++ ww_Wr f2 Y.2.1 ww_z 0 (ww_LTeller 0)) ++ ww_Wr f3 Y.2.1 ww_z 0 (ww_LShore 0)) ++ ww_Wr f4 Y.2.1 ww_z 0 (ww_LShore 0)) ++ [(q5, .inl (Y.2.1 4, 2, .inr (.inr (.inr (.inr (va_up (va_up (fun _ => none) 0 (some (f6 0))) 1 (some (f7 0))))))))]) ++ ww_Wr f6 Y.2.1 ww_z 0 (ww_LShore 0)) ++ ww_Wr f7 Y.2.1 ww_z 0 (ww_LShore 0)) ++ ww_Wr f8 Y.2.1 ww_z 0 (ww_LTales 0)) ++ ww_Wr f9 Y.2.1 ww_z 0 (ww_LPlanner 0)) ++ [(q10, .inl (Y.2.1 3, 4, .inr (.inr (.inr (.inr (fun _ => none))))))])) rfl ?_
  refine uw_putF (pc := 113) (Cl := RX6) (T := TX6) (N := 10) hC hI 0 8 rfl rfl inT_X6 (by decide) cw_306 rfl tyX6 tyX6_ok nmX6 (tyX6_ok 8 (by decide)) rfl rfl (Nat.le_of_ble_eq_true rfl) rfl rfl dX6_init_113 ?_
  refine uw_ws (ws' := (((((((((([(h0, .inr (6, [.ref (f1 0), .ref (f2 0), .ref (f3 0), .ref (f4 0), .ref q5, .int 0, .ref (f8 0), .ref (f9 0), .ref q10, .int 0]))] ++ ww_Wr f1 Y.2.1 ww_z 0 (ww_LTape 0)) ++ ww_Wr f2 Y.2.1 ww_z 0 (ww_LTeller 0)) ++ ww_Wr f3 Y.2.1 ww_z 0 (ww_LShore 0)) ++ ww_Wr f4 Y.2.1 ww_z 0 (ww_LShore 0)) ++ [(q5, .inl (Y.2.1 4, 2, .inr (.inr (.inr (.inr (va_up (va_up (fun _ => none) 0 (some (f6 0))) 1 (some (f7 0))))))))]) ++ ww_Wr f6 Y.2.1 ww_z 0 (ww_LShore 0)) ++ ww_Wr f7 Y.2.1 ww_z 0 (ww_LShore 0)) ++ ww_Wr f8 Y.2.1 ww_z 0 (ww_LTales 0)) ++ ww_Wr f9 Y.2.1 ww_z 0 (ww_LPlanner 0)) ++ [(q10, .inl (Y.2.1 3, 4, .inr (.inr (.inr (.inr (fun _ => none))))))])) rfl ?_
  refine uw_iconst (pc := 116) (v := 0) hC dX6_init_116 rfl ?_
  refine uw_istore_n (pc := 117) (lv' := [(1, .int 0), (0, .ref h0)]) hC dX6_init_117 rfl (by decide) rfl ?_
  refine uw_iload_n (pc := 118) hC 0 rfl dX6_init_118 rfl ?_
  refine uw_aload_n (pc := 119) hC 1 rfl dX6_init_119 rfl ?_
  refine uw_get (pc := 120) (Cl := RX6) (T := TX6) (N := 10) hC 0 8 rfl rfl inT_X6 (by decide) cw_306 rfl rfl dX6_init_120 ?_
  refine uw_alenR (pc := 123) (t := 3) (v := 4) hC 53 rfl (fun _ => rfl) rfl dX6_init_123 ?_
  refine uw_ge_f (pc := 124) (tgt := 146) hC dX6_init_124 (by decide) (by decide) ?_
  refine uw_aload_n (pc := 127) hC 1 rfl dX6_init_127 rfl ?_
  refine uw_get (pc := 128) (Cl := RX6) (T := TX6) (N := 10) hC 0 8 rfl rfl inT_X6 (by decide) cw_306 rfl rfl dX6_init_128 ?_
  refine uw_iload_n (pc := 131) hC 0 rfl dX6_init_131 rfl ?_
  refine uw_new (pc := 132) (Cl := RX1) (T := TX1) (N := 3) (ci := 1) (fs := [.null, .int 0, .int 0]) hC hI inT_X1 tyX1 tyX1_ok rfl cw_271 cw_273 cw_65 (by decide) (by decide) (by decide) dX6_init_132 (fun q11 => ?_)
  refine uw_dup (pc := 135) hC dX6_init_135 rfl ?_
  refine uw_initN (pc := 136) (st := [.ref q11, .int 0, .ref q10]) hC hI (ci_X1 (l := l) (Y := Y)) (fun h9 => h9) (ww_BBt X) mi_X1 cw_274 (by omega) (by decide) (Nat.le_of_ble_eq_true rfl) (by decide) (by decide) dX6_init_136 (fun f11 hf11 => ?_)
  subst hf11
  refine uw_aast (pc := 139) (j := 0) (t := 3) hC 53 54 rfl (fun _ => rfl) rfl rfl (by unfold vp_in; decide) (by decide) dX6_init_139 ?_
  refine uw_ws (ws' := ((((((((((([(h0, .inr (6, [.ref (f1 0), .ref (f2 0), .ref (f3 0), .ref (f4 0), .ref q5, .int 0, .ref (f8 0), .ref (f9 0), .ref q10, .int 0]))] ++ ww_Wr f1 Y.2.1 ww_z 0 (ww_LTape 0)) ++ ww_Wr f2 Y.2.1 ww_z 0 (ww_LTeller 0)) ++ ww_Wr f3 Y.2.1 ww_z 0 (ww_LShore 0)) ++ ww_Wr f4 Y.2.1 ww_z 0 (ww_LShore 0)) ++ [(q5, .inl (Y.2.1 4, 2, .inr (.inr (.inr (.inr (va_up (va_up (fun _ => none) 0 (some (f6 0))) 1 (some (f7 0))))))))]) ++ ww_Wr f6 Y.2.1 ww_z 0 (ww_LShore 0)) ++ ww_Wr f7 Y.2.1 ww_z 0 (ww_LShore 0)) ++ ww_Wr f8 Y.2.1 ww_z 0 (ww_LTales 0)) ++ ww_Wr f9 Y.2.1 ww_z 0 (ww_LPlanner 0)) ++ [(q10, .inl (Y.2.1 3, 4, .inr (.inr (.inr (.inr (va_up (fun _ => none) 0 (some (f11 0))))))))]) ++ ww_Wr f11 Y.2.1 ww_zSheet 0 (ww_LSheet 0))) rfl ?_
  refine uw_iinc (pc := 140) (v := 1) (lv' := [(1, .int 1), (0, .ref h0)]) hC 0 rfl dX6_init_140 (by decide) (by decide) rfl ?_
  refine uw_goto (pc := 143) (tgt := 118) hC dX6_init_143 (by decide) ?_
  refine uw_iload_n (pc := 118) hC 0 rfl dX6_init_118 rfl ?_
  refine uw_aload_n (pc := 119) hC 1 rfl dX6_init_119 rfl ?_
  refine uw_get (pc := 120) (Cl := RX6) (T := TX6) (N := 10) hC 0 8 rfl rfl inT_X6 (by decide) cw_306 rfl rfl dX6_init_120 ?_
  refine uw_alenR (pc := 123) (t := 3) (v := 4) hC 53 rfl (fun _ => rfl) rfl dX6_init_123 ?_
  refine uw_ge_f (pc := 124) (tgt := 146) hC dX6_init_124 (by decide) (by decide) ?_
  refine uw_aload_n (pc := 127) hC 1 rfl dX6_init_127 rfl ?_
  refine uw_get (pc := 128) (Cl := RX6) (T := TX6) (N := 10) hC 0 8 rfl rfl inT_X6 (by decide) cw_306 rfl rfl dX6_init_128 ?_
  refine uw_iload_n (pc := 131) hC 0 rfl dX6_init_131 rfl ?_
  refine uw_new (pc := 132) (Cl := RX1) (T := TX1) (N := 3) (ci := 1) (fs := [.null, .int 0, .int 0]) hC hI inT_X1 tyX1 tyX1_ok rfl cw_271 cw_273 cw_65 (by decide) (by decide) (by decide) dX6_init_132 (fun q12 => ?_)
  refine uw_dup (pc := 135) hC dX6_init_135 rfl ?_
  refine uw_initN (pc := 136) (st := [.ref q12, .int 1, .ref q10]) hC hI (ci_X1 (l := l) (Y := Y)) (fun h9 => h9) (ww_BBt X) mi_X1 cw_274 (by omega) (by decide) (Nat.le_of_ble_eq_true rfl) (by decide) (by decide) dX6_init_136 (fun f12 hf12 => ?_)
  subst hf12
  refine uw_aast (pc := 139) (j := 1) (t := 3) hC 53 56 rfl (fun _ => rfl) rfl rfl (by unfold vp_in; decide) (by decide) dX6_init_139 ?_
  refine uw_ws (ws' := (((((((((((([(h0, .inr (6, [.ref (f1 0), .ref (f2 0), .ref (f3 0), .ref (f4 0), .ref q5, .int 0, .ref (f8 0), .ref (f9 0), .ref q10, .int 0]))] ++ ww_Wr f1 Y.2.1 ww_z 0 (ww_LTape 0)) ++ ww_Wr f2 Y.2.1 ww_z 0 (ww_LTeller 0)) ++ ww_Wr f3 Y.2.1 ww_z 0 (ww_LShore 0)) ++ ww_Wr f4 Y.2.1 ww_z 0 (ww_LShore 0)) ++ [(q5, .inl (Y.2.1 4, 2, .inr (.inr (.inr (.inr (va_up (va_up (fun _ => none) 0 (some (f6 0))) 1 (some (f7 0))))))))]) ++ ww_Wr f6 Y.2.1 ww_z 0 (ww_LShore 0)) ++ ww_Wr f7 Y.2.1 ww_z 0 (ww_LShore 0)) ++ ww_Wr f8 Y.2.1 ww_z 0 (ww_LTales 0)) ++ ww_Wr f9 Y.2.1 ww_z 0 (ww_LPlanner 0)) ++ [(q10, .inl (Y.2.1 3, 4, .inr (.inr (.inr (.inr (va_up (va_up (fun _ => none) 0 (some (f11 0))) 1 (some (f12 0))))))))]) ++ ww_Wr f11 Y.2.1 ww_zSheet 0 (ww_LSheet 0)) ++ ww_Wr f12 Y.2.1 ww_zSheet 0 (ww_LSheet 0))) rfl ?_
  refine uw_iinc (pc := 140) (v := 2) (lv' := [(1, .int 2), (0, .ref h0)]) hC 0 rfl dX6_init_140 (by decide) (by decide) rfl ?_
  refine uw_goto (pc := 143) (tgt := 118) hC dX6_init_143 (by decide) ?_
  refine uw_iload_n (pc := 118) hC 0 rfl dX6_init_118 rfl ?_
  refine uw_aload_n (pc := 119) hC 1 rfl dX6_init_119 rfl ?_
  refine uw_get (pc := 120) (Cl := RX6) (T := TX6) (N := 10) hC 0 8 rfl rfl inT_X6 (by decide) cw_306 rfl rfl dX6_init_120 ?_
  refine uw_alenR (pc := 123) (t := 3) (v := 4) hC 53 rfl (fun _ => rfl) rfl dX6_init_123 ?_
  refine uw_ge_f (pc := 124) (tgt := 146) hC dX6_init_124 (by decide) (by decide) ?_
  refine uw_aload_n (pc := 127) hC 1 rfl dX6_init_127 rfl ?_
  refine uw_get (pc := 128) (Cl := RX6) (T := TX6) (N := 10) hC 0 8 rfl rfl inT_X6 (by decide) cw_306 rfl rfl dX6_init_128 ?_
  refine uw_iload_n (pc := 131) hC 0 rfl dX6_init_131 rfl ?_
  refine uw_new (pc := 132) (Cl := RX1) (T := TX1) (N := 3) (ci := 1) (fs := [.null, .int 0, .int 0]) hC hI inT_X1 tyX1 tyX1_ok rfl cw_271 cw_273 cw_65 (by decide) (by decide) (by decide) dX6_init_132 (fun q13 => ?_)
  refine uw_dup (pc := 135) hC dX6_init_135 rfl ?_
  refine uw_initN (pc := 136) (st := [.ref q13, .int 2, .ref q10]) hC hI (ci_X1 (l := l) (Y := Y)) (fun h9 => h9) (ww_BBt X) mi_X1 cw_274 (by omega) (by decide) (Nat.le_of_ble_eq_true rfl) (by decide) (by decide) dX6_init_136 (fun f13 hf13 => ?_)
  subst hf13
  refine uw_aast (pc := 139) (j := 2) (t := 3) hC 53 58 rfl (fun _ => rfl) rfl rfl (by unfold vp_in; decide) (by decide) dX6_init_139 ?_
  refine uw_ws (ws' := ((((((((((((([(h0, .inr (6, [.ref (f1 0), .ref (f2 0), .ref (f3 0), .ref (f4 0), .ref q5, .int 0, .ref (f8 0), .ref (f9 0), .ref q10, .int 0]))] ++ ww_Wr f1 Y.2.1 ww_z 0 (ww_LTape 0)) ++ ww_Wr f2 Y.2.1 ww_z 0 (ww_LTeller 0)) ++ ww_Wr f3 Y.2.1 ww_z 0 (ww_LShore 0)) ++ ww_Wr f4 Y.2.1 ww_z 0 (ww_LShore 0)) ++ [(q5, .inl (Y.2.1 4, 2, .inr (.inr (.inr (.inr (va_up (va_up (fun _ => none) 0 (some (f6 0))) 1 (some (f7 0))))))))]) ++ ww_Wr f6 Y.2.1 ww_z 0 (ww_LShore 0)) ++ ww_Wr f7 Y.2.1 ww_z 0 (ww_LShore 0)) ++ ww_Wr f8 Y.2.1 ww_z 0 (ww_LTales 0)) ++ ww_Wr f9 Y.2.1 ww_z 0 (ww_LPlanner 0)) ++ [(q10, .inl (Y.2.1 3, 4, .inr (.inr (.inr (.inr (va_up (va_up (va_up (fun _ => none) 0 (some (f11 0))) 1 (some (f12 0))) 2 (some (f13 0))))))))]) ++ ww_Wr f11 Y.2.1 ww_zSheet 0 (ww_LSheet 0)) ++ ww_Wr f12 Y.2.1 ww_zSheet 0 (ww_LSheet 0)) ++ ww_Wr f13 Y.2.1 ww_zSheet 0 (ww_LSheet 0))) rfl ?_
  refine uw_iinc (pc := 140) (v := 3) (lv' := [(1, .int 3), (0, .ref h0)]) hC 0 rfl dX6_init_140 (by decide) (by decide) rfl ?_
  refine uw_goto (pc := 143) (tgt := 118) hC dX6_init_143 (by decide) ?_
  refine uw_iload_n (pc := 118) hC 0 rfl dX6_init_118 rfl ?_
  refine uw_aload_n (pc := 119) hC 1 rfl dX6_init_119 rfl ?_
  refine uw_get (pc := 120) (Cl := RX6) (T := TX6) (N := 10) hC 0 8 rfl rfl inT_X6 (by decide) cw_306 rfl rfl dX6_init_120 ?_
  refine uw_alenR (pc := 123) (t := 3) (v := 4) hC 53 rfl (fun _ => rfl) rfl dX6_init_123 ?_
  refine uw_ge_f (pc := 124) (tgt := 146) hC dX6_init_124 (by decide) (by decide) ?_
  refine uw_aload_n (pc := 127) hC 1 rfl dX6_init_127 rfl ?_
  refine uw_get (pc := 128) (Cl := RX6) (T := TX6) (N := 10) hC 0 8 rfl rfl inT_X6 (by decide) cw_306 rfl rfl dX6_init_128 ?_
  refine uw_iload_n (pc := 131) hC 0 rfl dX6_init_131 rfl ?_
  refine uw_new (pc := 132) (Cl := RX1) (T := TX1) (N := 3) (ci := 1) (fs := [.null, .int 0, .int 0]) hC hI inT_X1 tyX1 tyX1_ok rfl cw_271 cw_273 cw_65 (by decide) (by decide) (by decide) dX6_init_132 (fun q14 => ?_)
  refine uw_dup (pc := 135) hC dX6_init_135 rfl ?_
  refine uw_initN (pc := 136) (st := [.ref q14, .int 3, .ref q10]) hC hI (ci_X1 (l := l) (Y := Y)) (fun h9 => h9) (ww_BBt X) mi_X1 cw_274 (by omega) (by decide) (Nat.le_of_ble_eq_true rfl) (by decide) (by decide) dX6_init_136 (fun f14 hf14 => ?_)
  subst hf14
  refine uw_aast (pc := 139) (j := 3) (t := 3) hC 53 60 rfl (fun _ => rfl) rfl rfl (by unfold vp_in; decide) (by decide) dX6_init_139 ?_
  refine uw_ws (ws' := (((((((((((((([(h0, .inr (6, [.ref (f1 0), .ref (f2 0), .ref (f3 0), .ref (f4 0), .ref q5, .int 0, .ref (f8 0), .ref (f9 0), .ref q10, .int 0]))] ++ ww_Wr f1 Y.2.1 ww_z 0 (ww_LTape 0)) ++ ww_Wr f2 Y.2.1 ww_z 0 (ww_LTeller 0)) ++ ww_Wr f3 Y.2.1 ww_z 0 (ww_LShore 0)) ++ ww_Wr f4 Y.2.1 ww_z 0 (ww_LShore 0)) ++ [(q5, .inl (Y.2.1 4, 2, .inr (.inr (.inr (.inr (va_up (va_up (fun _ => none) 0 (some (f6 0))) 1 (some (f7 0))))))))]) ++ ww_Wr f6 Y.2.1 ww_z 0 (ww_LShore 0)) ++ ww_Wr f7 Y.2.1 ww_z 0 (ww_LShore 0)) ++ ww_Wr f8 Y.2.1 ww_z 0 (ww_LTales 0)) ++ ww_Wr f9 Y.2.1 ww_z 0 (ww_LPlanner 0)) ++ [(q10, .inl (Y.2.1 3, 4, .inr (.inr (.inr (.inr (va_up (va_up (va_up (va_up (fun _ => none) 0 (some (f11 0))) 1 (some (f12 0))) 2 (some (f13 0))) 3 (some (f14 0))))))))]) ++ ww_Wr f11 Y.2.1 ww_zSheet 0 (ww_LSheet 0)) ++ ww_Wr f12 Y.2.1 ww_zSheet 0 (ww_LSheet 0)) ++ ww_Wr f13 Y.2.1 ww_zSheet 0 (ww_LSheet 0)) ++ ww_Wr f14 Y.2.1 ww_zSheet 0 (ww_LSheet 0))) rfl ?_
  refine uw_iinc (pc := 140) (v := 4) (lv' := [(1, .int 4), (0, .ref h0)]) hC 0 rfl dX6_init_140 (by decide) (by decide) rfl ?_
  refine uw_goto (pc := 143) (tgt := 118) hC dX6_init_143 (by decide) ?_
  refine uw_iload_n (pc := 118) hC 0 rfl dX6_init_118 rfl ?_
  refine uw_aload_n (pc := 119) hC 1 rfl dX6_init_119 rfl ?_
  refine uw_get (pc := 120) (Cl := RX6) (T := TX6) (N := 10) hC 0 8 rfl rfl inT_X6 (by decide) cw_306 rfl rfl dX6_init_120 ?_
  refine uw_alenR (pc := 123) (t := 3) (v := 4) hC 53 rfl (fun _ => rfl) rfl dX6_init_123 ?_
  refine uw_ge_t (pc := 124) (tgt := 146) hC dX6_init_124 (by decide) (by decide) ?_
  refine uw_refs (k := 24) (fun i => some ((fun k => [h0, f1 0, f1 1, f2 0, f3 0, f3 1, f3 2, f3 3, f3 4, f3 5, f3 6, f3 7, f3 8, f3 9, f4 0, f4 1, f4 2, f4 3, f4 4, f4 5, f4 6, f4 7, f4 8, f4 9, q5, f6 0, f6 1, f6 2, f6 3, f6 4, f6 5, f6 6, f6 7, f6 8, f6 9, f7 0, f7 1, f7 2, f7 3, f7 4, f7 5, f7 6, f7 7, f7 8, f7 9, f8 0, f8 1, f8 2, f9 0, f9 1, f9 2, f9 3, f9 4, q10, f11 0, f11 1, f12 0, f12 1, f13 0, f13 1, f14 0, f14 1].getD k 0) (25 + 10 * i))) rfl (fun i hi => by match i, hi with | 0, _ => rfl | 1, _ => rfl) ?_
  refine uw_refs (k := 53) (fun i => some ((fun k => [h0, f1 0, f1 1, f2 0, f3 0, f3 1, f3 2, f3 3, f3 4, f3 5, f3 6, f3 7, f3 8, f3 9, f4 0, f4 1, f4 2, f4 3, f4 4, f4 5, f4 6, f4 7, f4 8, f4 9, q5, f6 0, f6 1, f6 2, f6 3, f6 4, f6 5, f6 6, f6 7, f6 8, f6 9, f7 0, f7 1, f7 2, f7 3, f7 4, f7 5, f7 6, f7 7, f7 8, f7 9, f8 0, f8 1, f8 2, f9 0, f9 1, f9 2, f9 3, f9 4, q10, f11 0, f11 1, f12 0, f12 1, f13 0, f13 1, f14 0, f14 1].getD k 0) (54 + 2 * i))) rfl (fun i hi => by match i, hi with | 0, _ => rfl | 1, _ => rfl | 2, _ => rfl | 3, _ => rfl) ?_
  exact uw_clear hC hI hQ (fun k => [h0, f1 0, f1 1, f2 0, f3 0, f3 1, f3 2, f3 3, f3 4, f3 5, f3 6, f3 7, f3 8, f3 9, f4 0, f4 1, f4 2, f4 3, f4 4, f4 5, f4 6, f4 7, f4 8, f4 9, q5, f6 0, f6 1, f6 2, f6 3, f6 4, f6 5, f6 6, f6 7, f6 8, f6 9, f7 0, f7 1, f7 2, f7 3, f7 4, f7 5, f7 6, f7 7, f7 8, f7 9, f8 0, f8 1, f8 2, f9 0, f9 1, f9 2, f9 3, f9 4, q10, f11 0, f11 1, f12 0, f12 1, f13 0, f13 1, f14 0, f14 1].getD k 0) rfl rfl
