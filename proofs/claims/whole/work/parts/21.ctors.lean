theorem cw_81 : Cond.instanceMethod Lib.objectInit ∈ ww_T := ww_Tt1 23 (by decide +kernel) rfl
theorem cw_82 : Cond.code Lib.objectInit ⟨#[0xb1]⟩ 1 none ∈ ww_T := ww_Tt1 24 (by decide +kernel) rfl
theorem cw_218 : Cond.arrayClass .int ∈ ww_T := ww_Tt1 160 (by decide +kernel) rfl
theorem cw_114 : Cond.arrayClass .byte ∈ ww_T := ww_Tt1 56 (by decide +kernel) rfl
theorem cw_985 : Cond.arrayClass .boolean ∈ ww_T := ww_Tt4 207 (by decide +kernel) rfl
def ww_z : ww_M := fun _ _ => 0
def ww_zSheet : ww_M := fun a => match a with
  | 0 => fun j => match j with
    | 2 => -1
    | _ => 0
  | _ => fun _ => 0
theorem ww_BBt (X : ww_X) : ww_BBx X (fun _ => True) := by
  obtain ⟨p, l, e, R, s, m, args, below, meth, c, cells0, slots0, Qf, A⟩ := X
  exact fun _ _ => trivial
theorem dX4_init_0 : decode cX4_init 0 = .ok (.aload_n 0, 1) := by decide +kernel
theorem dX4_init_1 : decode cX4_init 1 = .ok (.invokespecial 3, 3) := by decide +kernel
theorem dX4_init_4 : decode cX4_init 4 = .ok (.aload_n 0, 1) := by decide +kernel
theorem dX4_init_5 : decode cX4_init 5 = .ok (.sipush 160, 3) := by decide +kernel
theorem dX4_init_8 : decode cX4_init 8 = .ok (.newarray .byte, 2) := by decide +kernel
theorem dX4_init_10 : decode cX4_init 10 = .ok (.putfield 9, 3) := by decide +kernel
theorem dX4_init_13 : decode cX4_init 13 = .ok (.return_, 1) := by decide +kernel
theorem cw_88 : Cond.methodLink RX4 3 Lib.objectInit ∈ ww_T := ww_Tt1 30 (by decide +kernel) rfl
theorem cw_89 : Cond.fieldLink RX4 9 RX4 "bytes" "[B" ∈ ww_T := ww_Tt1 31 (by decide +kernel) rfl
theorem cw_87 : Cond.code yX4_init cX4_init 1 none ∈ ww_T := ww_Tt1 29 (by decide +kernel) rfl
theorem cw_60 : Cond.initialized RX4 ∈ ww_T := ww_Tt1 2 (by decide +kernel) rfl
theorem cw_86 : Cond.instanceMethod yX4_init ∈ ww_T := ww_Tt1 28 (by decide +kernel) rfl
theorem mi_X4 : ww_mI yX4_init cX4_init 1 := ⟨cw_87, cw_60, cw_86, rfl, by decide +kernel⟩
set_option maxHeartbeats 8000000 in
set_option maxRecDepth 100000 in
theorem ci_X4 {l : Launch} {Y : ww_Y} : ww_Ci l Y yX4_init cX4_init 1 1 1 160 (.inr (4, [.null, .int 0, .int 0, .int 0, .int 0, .int 0])) (ww_LTape 0) ww_z (fun _ => True) := by
  refine uw_met (by decide +kernel) rfl (by decide) ?_
  intro X h0 hC hI hQ
  have hC : ww_C X l Y (fun _ => 0) [] 1 cX4_init 1 RX4 := hC
  refine uw_aload_n (pc := 0) hC 0 rfl dX4_init_0 rfl ?_
  refine uw_obj (pc := 1) hC cw_88 cw_81 cw_82 (by omega) (Nat.le_of_ble_eq_true rfl) dX4_init_1 ?_
  refine uw_aload_n (pc := 4) hC 0 rfl dX4_init_4 rfl ?_
  refine uw_sipush (pc := 5) (v := 160) hC dX4_init_5 rfl ?_
  refine uw_newa (pc := 8) (t := 1) (N := 160) hC hI cw_114 rfl (fun _ => rfl) (fun _ _ h9 => h9) (fun _ => rfl) (by decide) (by decide) (by decide) (by decide) (by decide) dX4_init_8 (fun q1 => ?_)
  refine uw_ws (ws' := [(h0, .inr (4, [.null, .int 0, .int 0, .int 0, .int 0, .int 0])), (q1, .inl (Y.2.1 1, 160, .inl (fun _ => 0)))]) rfl ?_
  refine uw_putF (pc := 10) (Cl := RX4) (T := TX4) (N := 6) hC hI 0 0 rfl rfl inT_X4 (by decide) cw_89 rfl tyX4 tyX4_ok nmX4 (tyX4_ok 0 (by decide)) rfl rfl (Nat.le_of_ble_eq_true rfl) rfl rfl dX4_init_10 ?_
  refine uw_ws (ws' := [(h0, .inr (4, [.ref q1, .int 0, .int 0, .int 0, .int 0, .int 0])), (q1, .inl (Y.2.1 1, 160, .inl (fun _ => 0)))]) rfl ?_
  exact uw_ret (pc := 13) hC hQ (fun k => [h0, q1].getD k 0) rfl rfl dX4_init_13
theorem dX5_init_0 : decode cX5_init 0 = .ok (.aload_n 0, 1) := by decide +kernel
theorem dX5_init_1 : decode cX5_init 1 = .ok (.invokespecial 3, 3) := by decide +kernel
theorem dX5_init_4 : decode cX5_init 4 = .ok (.return_, 1) := by decide +kernel
theorem cw_120 : Cond.methodLink RX5 3 Lib.objectInit ∈ ww_T := ww_Tt1 62 (by decide +kernel) rfl
theorem cw_119 : Cond.code yX5_init cX5_init 1 none ∈ ww_T := ww_Tt1 61 (by decide +kernel) rfl
theorem cw_61 : Cond.initialized RX5 ∈ ww_T := ww_Tt1 3 (by decide +kernel) rfl
theorem cw_118 : Cond.instanceMethod yX5_init ∈ ww_T := ww_Tt1 60 (by decide +kernel) rfl
theorem mi_X5 : ww_mI yX5_init cX5_init 1 := ⟨cw_119, cw_61, cw_118, rfl, by decide +kernel⟩
set_option maxHeartbeats 8000000 in
set_option maxRecDepth 100000 in
theorem ci_X5 {l : Launch} {Y : ww_Y} : ww_Ci l Y yX5_init cX5_init 1 1 0 0 (.inr (5, [.int 0, .int 0, .int 0])) (ww_LTeller 0) ww_z (fun _ => True) := by
  refine uw_met (by decide +kernel) rfl (by decide) ?_
  intro X h0 hC hI hQ
  have hC : ww_C X l Y (fun _ => 0) [] 1 cX5_init 1 RX5 := hC
  refine uw_aload_n (pc := 0) hC 0 rfl dX5_init_0 rfl ?_
  refine uw_obj (pc := 1) hC cw_120 cw_81 cw_82 (by omega) (Nat.le_of_ble_eq_true rfl) dX5_init_1 ?_
  exact uw_ret (pc := 4) hC hQ (fun k => [h0].getD k 0) rfl rfl dX5_init_4
theorem dX2_init_0 : decode cX2_init 0 = .ok (.aload_n 0, 1) := by decide +kernel
theorem dX2_init_1 : decode cX2_init 1 = .ok (.invokespecial 3, 3) := by decide +kernel
theorem dX2_init_4 : decode cX2_init 4 = .ok (.aload_n 0, 1) := by decide +kernel
theorem dX2_init_5 : decode cX2_init 5 = .ok (.bipush 6, 2) := by decide +kernel
theorem dX2_init_7 : decode cX2_init 7 = .ok (.newarray .int, 2) := by decide +kernel
theorem dX2_init_9 : decode cX2_init 9 = .ok (.putfield 9, 3) := by decide +kernel
theorem dX2_init_12 : decode cX2_init 12 = .ok (.aload_n 0, 1) := by decide +kernel
theorem dX2_init_13 : decode cX2_init 13 = .ok (.bipush 6, 2) := by decide +kernel
theorem dX2_init_15 : decode cX2_init 15 = .ok (.newarray .int, 2) := by decide +kernel
theorem dX2_init_17 : decode cX2_init 17 = .ok (.putfield 15, 3) := by decide +kernel
theorem dX2_init_20 : decode cX2_init 20 = .ok (.aload_n 0, 1) := by decide +kernel
theorem dX2_init_21 : decode cX2_init 21 = .ok (.bipush 6, 2) := by decide +kernel
theorem dX2_init_23 : decode cX2_init 23 = .ok (.newarray .int, 2) := by decide +kernel
theorem dX2_init_25 : decode cX2_init 25 = .ok (.putfield 18, 3) := by decide +kernel
theorem dX2_init_28 : decode cX2_init 28 = .ok (.aload_n 0, 1) := by decide +kernel
theorem dX2_init_29 : decode cX2_init 29 = .ok (.iconst 3, 1) := by decide +kernel
theorem dX2_init_30 : decode cX2_init 30 = .ok (.newarray .int, 2) := by decide +kernel
theorem dX2_init_32 : decode cX2_init 32 = .ok (.putfield 21, 3) := by decide +kernel
theorem dX2_init_35 : decode cX2_init 35 = .ok (.aload_n 0, 1) := by decide +kernel
theorem dX2_init_36 : decode cX2_init 36 = .ok (.iconst 3, 1) := by decide +kernel
theorem dX2_init_37 : decode cX2_init 37 = .ok (.newarray .int, 2) := by decide +kernel
theorem dX2_init_39 : decode cX2_init 39 = .ok (.putfield 24, 3) := by decide +kernel
theorem dX2_init_42 : decode cX2_init 42 = .ok (.aload_n 0, 1) := by decide +kernel
theorem dX2_init_43 : decode cX2_init 43 = .ok (.bipush 9, 2) := by decide +kernel
theorem dX2_init_45 : decode cX2_init 45 = .ok (.newarray .int, 2) := by decide +kernel
theorem dX2_init_47 : decode cX2_init 47 = .ok (.putfield 27, 3) := by decide +kernel
theorem dX2_init_50 : decode cX2_init 50 = .ok (.aload_n 0, 1) := by decide +kernel
theorem dX2_init_51 : decode cX2_init 51 = .ok (.bipush 9, 2) := by decide +kernel
theorem dX2_init_53 : decode cX2_init 53 = .ok (.newarray .int, 2) := by decide +kernel
theorem dX2_init_55 : decode cX2_init 55 = .ok (.putfield 30, 3) := by decide +kernel
theorem dX2_init_58 : decode cX2_init 58 = .ok (.aload_n 0, 1) := by decide +kernel
theorem dX2_init_59 : decode cX2_init 59 = .ok (.bipush 9, 2) := by decide +kernel
theorem dX2_init_61 : decode cX2_init 61 = .ok (.newarray .int, 2) := by decide +kernel
theorem dX2_init_63 : decode cX2_init 63 = .ok (.putfield 33, 3) := by decide +kernel
theorem dX2_init_66 : decode cX2_init 66 = .ok (.aload_n 0, 1) := by decide +kernel
theorem dX2_init_67 : decode cX2_init 67 = .ok (.iconst 4, 1) := by decide +kernel
theorem dX2_init_68 : decode cX2_init 68 = .ok (.newarray .int, 2) := by decide +kernel
theorem dX2_init_70 : decode cX2_init 70 = .ok (.putfield 36, 3) := by decide +kernel
theorem dX2_init_73 : decode cX2_init 73 = .ok (.return_, 1) := by decide +kernel
theorem cw_138 : Cond.methodLink RX2 3 Lib.objectInit ∈ ww_T := ww_Tt1 80 (by decide +kernel) rfl
theorem cw_139 : Cond.fieldLink RX2 9 RX2 "ownerOf" "[I" ∈ ww_T := ww_Tt1 81 (by decide +kernel) rfl
theorem cw_141 : Cond.fieldLink RX2 15 RX2 "markOf" "[I" ∈ ww_T := ww_Tt1 83 (by decide +kernel) rfl
theorem cw_143 : Cond.fieldLink RX2 18 RX2 "levelOf" "[I" ∈ ww_T := ww_Tt1 85 (by decide +kernel) rfl
theorem cw_144 : Cond.fieldLink RX2 21 RX2 "headOf" "[I" ∈ ww_T := ww_Tt1 86 (by decide +kernel) rfl
theorem cw_147 : Cond.fieldLink RX2 24 RX2 "partsOf" "[I" ∈ ww_T := ww_Tt1 89 (by decide +kernel) rfl
theorem cw_150 : Cond.fieldLink RX2 27 RX2 "worthOf" "[I" ∈ ww_T := ww_Tt1 92 (by decide +kernel) rfl
theorem cw_152 : Cond.fieldLink RX2 30 RX2 "workOf" "[I" ∈ ww_T := ww_Tt1 94 (by decide +kernel) rfl
theorem cw_155 : Cond.fieldLink RX2 33 RX2 "lumpOf" "[I" ∈ ww_T := ww_Tt1 97 (by decide +kernel) rfl
theorem cw_157 : Cond.fieldLink RX2 36 RX2 "wonBy" "[I" ∈ ww_T := ww_Tt1 99 (by decide +kernel) rfl
theorem cw_137 : Cond.code yX2_init cX2_init 1 none ∈ ww_T := ww_Tt1 79 (by decide +kernel) rfl
theorem cw_62 : Cond.initialized RX2 ∈ ww_T := ww_Tt1 4 (by decide +kernel) rfl
theorem cw_136 : Cond.instanceMethod yX2_init ∈ ww_T := ww_Tt1 78 (by decide +kernel) rfl
theorem mi_X2 : ww_mI yX2_init cX2_init 1 := ⟨cw_137, cw_62, cw_136, rfl, by decide +kernel⟩
set_option maxHeartbeats 8000000 in
set_option maxRecDepth 100000 in
theorem ci_X2 {l : Launch} {Y : ww_Y} : ww_Ci l Y yX2_init cX2_init 1 1 9 55 (.inr (2, [.null, .null, .null, .null, .null, .null, .null, .null, .null, .int 0, .int 0, .int 0, .int 0, .int 0, .int 0, .int 0, .int 0])) (ww_LShore 0) ww_z (fun _ => True) := by
  refine uw_met (by decide +kernel) rfl (by decide) ?_
  intro X h0 hC hI hQ
  have hC : ww_C X l Y (fun _ => 0) [] 1 cX2_init 1 RX2 := hC
  refine uw_aload_n (pc := 0) hC 0 rfl dX2_init_0 rfl ?_
  refine uw_obj (pc := 1) hC cw_138 cw_81 cw_82 (by omega) (Nat.le_of_ble_eq_true rfl) dX2_init_1 ?_
  refine uw_aload_n (pc := 4) hC 0 rfl dX2_init_4 rfl ?_
  refine uw_bipush (pc := 5) (v := 6) hC dX2_init_5 rfl ?_
  refine uw_newa (pc := 7) (t := 0) (N := 6) hC hI cw_218 rfl (fun _ => rfl) (fun _ _ h9 => h9) (fun _ => rfl) (by decide) (by decide) (by decide) (by decide) (by decide) dX2_init_7 (fun q1 => ?_)
  refine uw_ws (ws' := [(h0, .inr (2, [.null, .null, .null, .null, .null, .null, .null, .null, .null, .int 0, .int 0, .int 0, .int 0, .int 0, .int 0, .int 0, .int 0])), (q1, .inl (Y.2.1 0, 6, .inl (fun _ => 0)))]) rfl ?_
  refine uw_putF (pc := 9) (Cl := RX2) (T := TX2) (N := 17) hC hI 0 0 rfl rfl inT_X2 (by decide) cw_139 rfl tyX2 tyX2_ok nmX2 (tyX2_ok 0 (by decide)) rfl rfl (Nat.le_of_ble_eq_true rfl) rfl rfl dX2_init_9 ?_
  refine uw_ws (ws' := [(h0, .inr (2, [.ref q1, .null, .null, .null, .null, .null, .null, .null, .null, .int 0, .int 0, .int 0, .int 0, .int 0, .int 0, .int 0, .int 0])), (q1, .inl (Y.2.1 0, 6, .inl (fun _ => 0)))]) rfl ?_
  refine uw_aload_n (pc := 12) hC 0 rfl dX2_init_12 rfl ?_
  refine uw_bipush (pc := 13) (v := 6) hC dX2_init_13 rfl ?_
  refine uw_newa (pc := 15) (t := 0) (N := 6) hC hI cw_218 rfl (fun _ => rfl) (fun _ _ h9 => h9) (fun _ => rfl) (by decide) (by decide) (by decide) (by decide) (by decide) dX2_init_15 (fun q2 => ?_)
  refine uw_ws (ws' := [(h0, .inr (2, [.ref q1, .null, .null, .null, .null, .null, .null, .null, .null, .int 0, .int 0, .int 0, .int 0, .int 0, .int 0, .int 0, .int 0])), (q1, .inl (Y.2.1 0, 6, .inl (fun _ => 0))), (q2, .inl (Y.2.1 0, 6, .inl (fun _ => 0)))]) rfl ?_
  refine uw_putF (pc := 17) (Cl := RX2) (T := TX2) (N := 17) hC hI 0 1 rfl rfl inT_X2 (by decide) cw_141 rfl tyX2 tyX2_ok nmX2 (tyX2_ok 1 (by decide)) rfl rfl (Nat.le_of_ble_eq_true rfl) rfl rfl dX2_init_17 ?_
  refine uw_ws (ws' := [(h0, .inr (2, [.ref q1, .ref q2, .null, .null, .null, .null, .null, .null, .null, .int 0, .int 0, .int 0, .int 0, .int 0, .int 0, .int 0, .int 0])), (q1, .inl (Y.2.1 0, 6, .inl (fun _ => 0))), (q2, .inl (Y.2.1 0, 6, .inl (fun _ => 0)))]) rfl ?_
  refine uw_aload_n (pc := 20) hC 0 rfl dX2_init_20 rfl ?_
  refine uw_bipush (pc := 21) (v := 6) hC dX2_init_21 rfl ?_
  refine uw_newa (pc := 23) (t := 0) (N := 6) hC hI cw_218 rfl (fun _ => rfl) (fun _ _ h9 => h9) (fun _ => rfl) (by decide) (by decide) (by decide) (by decide) (by decide) dX2_init_23 (fun q3 => ?_)
  refine uw_ws (ws' := [(h0, .inr (2, [.ref q1, .ref q2, .null, .null, .null, .null, .null, .null, .null, .int 0, .int 0, .int 0, .int 0, .int 0, .int 0, .int 0, .int 0])), (q1, .inl (Y.2.1 0, 6, .inl (fun _ => 0))), (q2, .inl (Y.2.1 0, 6, .inl (fun _ => 0))), (q3, .inl (Y.2.1 0, 6, .inl (fun _ => 0)))]) rfl ?_
  refine uw_putF (pc := 25) (Cl := RX2) (T := TX2) (N := 17) hC hI 0 2 rfl rfl inT_X2 (by decide) cw_143 rfl tyX2 tyX2_ok nmX2 (tyX2_ok 2 (by decide)) rfl rfl (Nat.le_of_ble_eq_true rfl) rfl rfl dX2_init_25 ?_
  refine uw_ws (ws' := [(h0, .inr (2, [.ref q1, .ref q2, .ref q3, .null, .null, .null, .null, .null, .null, .int 0, .int 0, .int 0, .int 0, .int 0, .int 0, .int 0, .int 0])), (q1, .inl (Y.2.1 0, 6, .inl (fun _ => 0))), (q2, .inl (Y.2.1 0, 6, .inl (fun _ => 0))), (q3, .inl (Y.2.1 0, 6, .inl (fun _ => 0)))]) rfl ?_
  refine uw_aload_n (pc := 28) hC 0 rfl dX2_init_28 rfl ?_
  refine uw_iconst (pc := 29) (v := 3) hC dX2_init_29 rfl ?_
  refine uw_newa (pc := 30) (t := 0) (N := 3) hC hI cw_218 rfl (fun _ => rfl) (fun _ _ h9 => h9) (fun _ => rfl) (by decide) (by decide) (by decide) (by decide) (by decide) dX2_init_30 (fun q4 => ?_)
  refine uw_ws (ws' := [(h0, .inr (2, [.ref q1, .ref q2, .ref q3, .null, .null, .null, .null, .null, .null, .int 0, .int 0, .int 0, .int 0, .int 0, .int 0, .int 0, .int 0])), (q1, .inl (Y.2.1 0, 6, .inl (fun _ => 0))), (q2, .inl (Y.2.1 0, 6, .inl (fun _ => 0))), (q3, .inl (Y.2.1 0, 6, .inl (fun _ => 0))), (q4, .inl (Y.2.1 0, 3, .inl (fun _ => 0)))]) rfl ?_
  refine uw_putF (pc := 32) (Cl := RX2) (T := TX2) (N := 17) hC hI 0 3 rfl rfl inT_X2 (by decide) cw_144 rfl tyX2 tyX2_ok nmX2 (tyX2_ok 3 (by decide)) rfl rfl (Nat.le_of_ble_eq_true rfl) rfl rfl dX2_init_32 ?_
  refine uw_ws (ws' := [(h0, .inr (2, [.ref q1, .ref q2, .ref q3, .ref q4, .null, .null, .null, .null, .null, .int 0, .int 0, .int 0, .int 0, .int 0, .int 0, .int 0, .int 0])), (q1, .inl (Y.2.1 0, 6, .inl (fun _ => 0))), (q2, .inl (Y.2.1 0, 6, .inl (fun _ => 0))), (q3, .inl (Y.2.1 0, 6, .inl (fun _ => 0))), (q4, .inl (Y.2.1 0, 3, .inl (fun _ => 0)))]) rfl ?_
  refine uw_aload_n (pc := 35) hC 0 rfl dX2_init_35 rfl ?_
  refine uw_iconst (pc := 36) (v := 3) hC dX2_init_36 rfl ?_
  refine uw_newa (pc := 37) (t := 0) (N := 3) hC hI cw_218 rfl (fun _ => rfl) (fun _ _ h9 => h9) (fun _ => rfl) (by decide) (by decide) (by decide) (by decide) (by decide) dX2_init_37 (fun q5 => ?_)
  refine uw_ws (ws' := [(h0, .inr (2, [.ref q1, .ref q2, .ref q3, .ref q4, .null, .null, .null, .null, .null, .int 0, .int 0, .int 0, .int 0, .int 0, .int 0, .int 0, .int 0])), (q1, .inl (Y.2.1 0, 6, .inl (fun _ => 0))), (q2, .inl (Y.2.1 0, 6, .inl (fun _ => 0))), (q3, .inl (Y.2.1 0, 6, .inl (fun _ => 0))), (q4, .inl (Y.2.1 0, 3, .inl (fun _ => 0))), (q5, .inl (Y.2.1 0, 3, .inl (fun _ => 0)))]) rfl ?_
  refine uw_putF (pc := 39) (Cl := RX2) (T := TX2) (N := 17) hC hI 0 4 rfl rfl inT_X2 (by decide) cw_147 rfl tyX2 tyX2_ok nmX2 (tyX2_ok 4 (by decide)) rfl rfl (Nat.le_of_ble_eq_true rfl) rfl rfl dX2_init_39 ?_
  refine uw_ws (ws' := [(h0, .inr (2, [.ref q1, .ref q2, .ref q3, .ref q4, .ref q5, .null, .null, .null, .null, .int 0, .int 0, .int 0, .int 0, .int 0, .int 0, .int 0, .int 0])), (q1, .inl (Y.2.1 0, 6, .inl (fun _ => 0))), (q2, .inl (Y.2.1 0, 6, .inl (fun _ => 0))), (q3, .inl (Y.2.1 0, 6, .inl (fun _ => 0))), (q4, .inl (Y.2.1 0, 3, .inl (fun _ => 0))), (q5, .inl (Y.2.1 0, 3, .inl (fun _ => 0)))]) rfl ?_
  refine uw_aload_n (pc := 42) hC 0 rfl dX2_init_42 rfl ?_
  refine uw_bipush (pc := 43) (v := 9) hC dX2_init_43 rfl ?_
  refine uw_newa (pc := 45) (t := 0) (N := 9) hC hI cw_218 rfl (fun _ => rfl) (fun _ _ h9 => h9) (fun _ => rfl) (by decide) (by decide) (by decide) (by decide) (by decide) dX2_init_45 (fun q6 => ?_)
  refine uw_ws (ws' := [(h0, .inr (2, [.ref q1, .ref q2, .ref q3, .ref q4, .ref q5, .null, .null, .null, .null, .int 0, .int 0, .int 0, .int 0, .int 0, .int 0, .int 0, .int 0])), (q1, .inl (Y.2.1 0, 6, .inl (fun _ => 0))), (q2, .inl (Y.2.1 0, 6, .inl (fun _ => 0))), (q3, .inl (Y.2.1 0, 6, .inl (fun _ => 0))), (q4, .inl (Y.2.1 0, 3, .inl (fun _ => 0))), (q5, .inl (Y.2.1 0, 3, .inl (fun _ => 0))), (q6, .inl (Y.2.1 0, 9, .inl (fun _ => 0)))]) rfl ?_
  refine uw_putF (pc := 47) (Cl := RX2) (T := TX2) (N := 17) hC hI 0 5 rfl rfl inT_X2 (by decide) cw_150 rfl tyX2 tyX2_ok nmX2 (tyX2_ok 5 (by decide)) rfl rfl (Nat.le_of_ble_eq_true rfl) rfl rfl dX2_init_47 ?_
  refine uw_ws (ws' := [(h0, .inr (2, [.ref q1, .ref q2, .ref q3, .ref q4, .ref q5, .ref q6, .null, .null, .null, .int 0, .int 0, .int 0, .int 0, .int 0, .int 0, .int 0, .int 0])), (q1, .inl (Y.2.1 0, 6, .inl (fun _ => 0))), (q2, .inl (Y.2.1 0, 6, .inl (fun _ => 0))), (q3, .inl (Y.2.1 0, 6, .inl (fun _ => 0))), (q4, .inl (Y.2.1 0, 3, .inl (fun _ => 0))), (q5, .inl (Y.2.1 0, 3, .inl (fun _ => 0))), (q6, .inl (Y.2.1 0, 9, .inl (fun _ => 0)))]) rfl ?_
  refine uw_aload_n (pc := 50) hC 0 rfl dX2_init_50 rfl ?_
  refine uw_bipush (pc := 51) (v := 9) hC dX2_init_51 rfl ?_
  refine uw_newa (pc := 53) (t := 0) (N := 9) hC hI cw_218 rfl (fun _ => rfl) (fun _ _ h9 => h9) (fun _ => rfl) (by decide) (by decide) (by decide) (by decide) (by decide) dX2_init_53 (fun q7 => ?_)
  refine uw_ws (ws' := [(h0, .inr (2, [.ref q1, .ref q2, .ref q3, .ref q4, .ref q5, .ref q6, .null, .null, .null, .int 0, .int 0, .int 0, .int 0, .int 0, .int 0, .int 0, .int 0])), (q1, .inl (Y.2.1 0, 6, .inl (fun _ => 0))), (q2, .inl (Y.2.1 0, 6, .inl (fun _ => 0))), (q3, .inl (Y.2.1 0, 6, .inl (fun _ => 0))), (q4, .inl (Y.2.1 0, 3, .inl (fun _ => 0))), (q5, .inl (Y.2.1 0, 3, .inl (fun _ => 0))), (q6, .inl (Y.2.1 0, 9, .inl (fun _ => 0))), (q7, .inl (Y.2.1 0, 9, .inl (fun _ => 0)))]) rfl ?_
  refine uw_putF (pc := 55) (Cl := RX2) (T := TX2) (N := 17) hC hI 0 6 rfl rfl inT_X2 (by decide) cw_152 rfl tyX2 tyX2_ok nmX2 (tyX2_ok 6 (by decide)) rfl rfl (Nat.le_of_ble_eq_true rfl) rfl rfl dX2_init_55 ?_
  refine uw_ws (ws' := [(h0, .inr (2, [.ref q1, .ref q2, .ref q3, .ref q4, .ref q5, .ref q6, .ref q7, .null, .null, .int 0, .int 0, .int 0, .int 0, .int 0, .int 0, .int 0, .int 0])), (q1, .inl (Y.2.1 0, 6, .inl (fun _ => 0))), (q2, .inl (Y.2.1 0, 6, .inl (fun _ => 0))), (q3, .inl (Y.2.1 0, 6, .inl (fun _ => 0))), (q4, .inl (Y.2.1 0, 3, .inl (fun _ => 0))), (q5, .inl (Y.2.1 0, 3, .inl (fun _ => 0))), (q6, .inl (Y.2.1 0, 9, .inl (fun _ => 0))), (q7, .inl (Y.2.1 0, 9, .inl (fun _ => 0)))]) rfl ?_
  refine uw_aload_n (pc := 58) hC 0 rfl dX2_init_58 rfl ?_
  refine uw_bipush (pc := 59) (v := 9) hC dX2_init_59 rfl ?_
  refine uw_newa (pc := 61) (t := 0) (N := 9) hC hI cw_218 rfl (fun _ => rfl) (fun _ _ h9 => h9) (fun _ => rfl) (by decide) (by decide) (by decide) (by decide) (by decide) dX2_init_61 (fun q8 => ?_)
  refine uw_ws (ws' := [(h0, .inr (2, [.ref q1, .ref q2, .ref q3, .ref q4, .ref q5, .ref q6, .ref q7, .null, .null, .int 0, .int 0, .int 0, .int 0, .int 0, .int 0, .int 0, .int 0])), (q1, .inl (Y.2.1 0, 6, .inl (fun _ => 0))), (q2, .inl (Y.2.1 0, 6, .inl (fun _ => 0))), (q3, .inl (Y.2.1 0, 6, .inl (fun _ => 0))), (q4, .inl (Y.2.1 0, 3, .inl (fun _ => 0))), (q5, .inl (Y.2.1 0, 3, .inl (fun _ => 0))), (q6, .inl (Y.2.1 0, 9, .inl (fun _ => 0))), (q7, .inl (Y.2.1 0, 9, .inl (fun _ => 0))), (q8, .inl (Y.2.1 0, 9, .inl (fun _ => 0)))]) rfl ?_
  refine uw_putF (pc := 63) (Cl := RX2) (T := TX2) (N := 17) hC hI 0 7 rfl rfl inT_X2 (by decide) cw_155 rfl tyX2 tyX2_ok nmX2 (tyX2_ok 7 (by decide)) rfl rfl (Nat.le_of_ble_eq_true rfl) rfl rfl dX2_init_63 ?_
  refine uw_ws (ws' := [(h0, .inr (2, [.ref q1, .ref q2, .ref q3, .ref q4, .ref q5, .ref q6, .ref q7, .ref q8, .null, .int 0, .int 0, .int 0, .int 0, .int 0, .int 0, .int 0, .int 0])), (q1, .inl (Y.2.1 0, 6, .inl (fun _ => 0))), (q2, .inl (Y.2.1 0, 6, .inl (fun _ => 0))), (q3, .inl (Y.2.1 0, 6, .inl (fun _ => 0))), (q4, .inl (Y.2.1 0, 3, .inl (fun _ => 0))), (q5, .inl (Y.2.1 0, 3, .inl (fun _ => 0))), (q6, .inl (Y.2.1 0, 9, .inl (fun _ => 0))), (q7, .inl (Y.2.1 0, 9, .inl (fun _ => 0))), (q8, .inl (Y.2.1 0, 9, .inl (fun _ => 0)))]) rfl ?_
  refine uw_aload_n (pc := 66) hC 0 rfl dX2_init_66 rfl ?_
  refine uw_iconst (pc := 67) (v := 4) hC dX2_init_67 rfl ?_
  refine uw_newa (pc := 68) (t := 0) (N := 4) hC hI cw_218 rfl (fun _ => rfl) (fun _ _ h9 => h9) (fun _ => rfl) (by decide) (by decide) (by decide) (by decide) (by decide) dX2_init_68 (fun q9 => ?_)
  refine uw_ws (ws' := [(h0, .inr (2, [.ref q1, .ref q2, .ref q3, .ref q4, .ref q5, .ref q6, .ref q7, .ref q8, .null, .int 0, .int 0, .int 0, .int 0, .int 0, .int 0, .int 0, .int 0])), (q1, .inl (Y.2.1 0, 6, .inl (fun _ => 0))), (q2, .inl (Y.2.1 0, 6, .inl (fun _ => 0))), (q3, .inl (Y.2.1 0, 6, .inl (fun _ => 0))), (q4, .inl (Y.2.1 0, 3, .inl (fun _ => 0))), (q5, .inl (Y.2.1 0, 3, .inl (fun _ => 0))), (q6, .inl (Y.2.1 0, 9, .inl (fun _ => 0))), (q7, .inl (Y.2.1 0, 9, .inl (fun _ => 0))), (q8, .inl (Y.2.1 0, 9, .inl (fun _ => 0))), (q9, .inl (Y.2.1 0, 4, .inl (fun _ => 0)))]) rfl ?_
  refine uw_putF (pc := 70) (Cl := RX2) (T := TX2) (N := 17) hC hI 0 8 rfl rfl inT_X2 (by decide) cw_157 rfl tyX2 tyX2_ok nmX2 (tyX2_ok 8 (by decide)) rfl rfl (Nat.le_of_ble_eq_true rfl) rfl rfl dX2_init_70 ?_
  refine uw_ws (ws' := [(h0, .inr (2, [.ref q1, .ref q2, .ref q3, .ref q4, .ref q5, .ref q6, .ref q7, .ref q8, .ref q9, .int 0, .int 0, .int 0, .int 0, .int 0, .int 0, .int 0, .int 0])), (q1, .inl (Y.2.1 0, 6, .inl (fun _ => 0))), (q2, .inl (Y.2.1 0, 6, .inl (fun _ => 0))), (q3, .inl (Y.2.1 0, 6, .inl (fun _ => 0))), (q4, .inl (Y.2.1 0, 3, .inl (fun _ => 0))), (q5, .inl (Y.2.1 0, 3, .inl (fun _ => 0))), (q6, .inl (Y.2.1 0, 9, .inl (fun _ => 0))), (q7, .inl (Y.2.1 0, 9, .inl (fun _ => 0))), (q8, .inl (Y.2.1 0, 9, .inl (fun _ => 0))), (q9, .inl (Y.2.1 0, 4, .inl (fun _ => 0)))]) rfl ?_
  exact uw_ret (pc := 73) hC hQ (fun k => [h0, q1, q2, q3, q4, q5, q6, q7, q8, q9].getD k 0) rfl rfl dX2_init_73
theorem dX3_init_0 : decode cX3_init 0 = .ok (.aload_n 0, 1) := by decide +kernel
theorem dX3_init_1 : decode cX3_init 1 = .ok (.invokespecial 3, 3) := by decide +kernel
theorem dX3_init_4 : decode cX3_init 4 = .ok (.aload_n 0, 1) := by decide +kernel
theorem dX3_init_5 : decode cX3_init 5 = .ok (.bipush 6, 2) := by decide +kernel
theorem dX3_init_7 : decode cX3_init 7 = .ok (.newarray .int, 2) := by decide +kernel
theorem dX3_init_9 : decode cX3_init 9 = .ok (.putfield 9, 3) := by decide +kernel
theorem dX3_init_12 : decode cX3_init 12 = .ok (.aload_n 0, 1) := by decide +kernel
theorem dX3_init_13 : decode cX3_init 13 = .ok (.bipush 6, 2) := by decide +kernel
theorem dX3_init_15 : decode cX3_init 15 = .ok (.newarray .int, 2) := by decide +kernel
theorem dX3_init_17 : decode cX3_init 17 = .ok (.putfield 15, 3) := by decide +kernel
theorem dX3_init_20 : decode cX3_init 20 = .ok (.return_, 1) := by decide +kernel
theorem cw_225 : Cond.methodLink RX3 3 Lib.objectInit ∈ ww_T := ww_Tt1 167 (by decide +kernel) rfl
theorem cw_226 : Cond.fieldLink RX3 9 RX3 "owners" "[I" ∈ ww_T := ww_Tt1 168 (by decide +kernel) rfl
theorem cw_227 : Cond.fieldLink RX3 15 RX3 "sums" "[I" ∈ ww_T := ww_Tt1 169 (by decide +kernel) rfl
theorem cw_224 : Cond.code yX3_init cX3_init 1 none ∈ ww_T := ww_Tt1 166 (by decide +kernel) rfl
theorem cw_63 : Cond.initialized RX3 ∈ ww_T := ww_Tt1 5 (by decide +kernel) rfl
theorem cw_223 : Cond.instanceMethod yX3_init ∈ ww_T := ww_Tt1 165 (by decide +kernel) rfl
theorem mi_X3 : ww_mI yX3_init cX3_init 1 := ⟨cw_224, cw_63, cw_223, rfl, by decide +kernel⟩
set_option maxHeartbeats 8000000 in
set_option maxRecDepth 100000 in
theorem ci_X3 {l : Launch} {Y : ww_Y} : ww_Ci l Y yX3_init cX3_init 1 1 2 12 (.inr (3, [.null, .null, .int 0])) (ww_LTales 0) ww_z (fun _ => True) := by
  refine uw_met (by decide +kernel) rfl (by decide) ?_
  intro X h0 hC hI hQ
  have hC : ww_C X l Y (fun _ => 0) [] 1 cX3_init 1 RX3 := hC
  refine uw_aload_n (pc := 0) hC 0 rfl dX3_init_0 rfl ?_
  refine uw_obj (pc := 1) hC cw_225 cw_81 cw_82 (by omega) (Nat.le_of_ble_eq_true rfl) dX3_init_1 ?_
  refine uw_aload_n (pc := 4) hC 0 rfl dX3_init_4 rfl ?_
  refine uw_bipush (pc := 5) (v := 6) hC dX3_init_5 rfl ?_
  refine uw_newa (pc := 7) (t := 0) (N := 6) hC hI cw_218 rfl (fun _ => rfl) (fun _ _ h9 => h9) (fun _ => rfl) (by decide) (by decide) (by decide) (by decide) (by decide) dX3_init_7 (fun q1 => ?_)
  refine uw_ws (ws' := [(h0, .inr (3, [.null, .null, .int 0])), (q1, .inl (Y.2.1 0, 6, .inl (fun _ => 0)))]) rfl ?_
  refine uw_putF (pc := 9) (Cl := RX3) (T := TX3) (N := 3) hC hI 0 0 rfl rfl inT_X3 (by decide) cw_226 rfl tyX3 tyX3_ok nmX3 (tyX3_ok 0 (by decide)) rfl rfl (Nat.le_of_ble_eq_true rfl) rfl rfl dX3_init_9 ?_
  refine uw_ws (ws' := [(h0, .inr (3, [.ref q1, .null, .int 0])), (q1, .inl (Y.2.1 0, 6, .inl (fun _ => 0)))]) rfl ?_
  refine uw_aload_n (pc := 12) hC 0 rfl dX3_init_12 rfl ?_
  refine uw_bipush (pc := 13) (v := 6) hC dX3_init_13 rfl ?_
  refine uw_newa (pc := 15) (t := 0) (N := 6) hC hI cw_218 rfl (fun _ => rfl) (fun _ _ h9 => h9) (fun _ => rfl) (by decide) (by decide) (by decide) (by decide) (by decide) dX3_init_15 (fun q2 => ?_)
  refine uw_ws (ws' := [(h0, .inr (3, [.ref q1, .null, .int 0])), (q1, .inl (Y.2.1 0, 6, .inl (fun _ => 0))), (q2, .inl (Y.2.1 0, 6, .inl (fun _ => 0)))]) rfl ?_
  refine uw_putF (pc := 17) (Cl := RX3) (T := TX3) (N := 3) hC hI 0 1 rfl rfl inT_X3 (by decide) cw_227 rfl tyX3 tyX3_ok nmX3 (tyX3_ok 1 (by decide)) rfl rfl (Nat.le_of_ble_eq_true rfl) rfl rfl dX3_init_17 ?_
  refine uw_ws (ws' := [(h0, .inr (3, [.ref q1, .ref q2, .int 0])), (q1, .inl (Y.2.1 0, 6, .inl (fun _ => 0))), (q2, .inl (Y.2.1 0, 6, .inl (fun _ => 0)))]) rfl ?_
  exact uw_ret (pc := 20) hC hQ (fun k => [h0, q1, q2].getD k 0) rfl rfl dX3_init_20
theorem dX0_init_0 : decode cX0_init 0 = .ok (.aload_n 0, 1) := by decide +kernel
theorem dX0_init_1 : decode cX0_init 1 = .ok (.invokespecial 5, 3) := by decide +kernel
theorem dX0_init_4 : decode cX0_init 4 = .ok (.aload_n 0, 1) := by decide +kernel
theorem dX0_init_5 : decode cX0_init 5 = .ok (.sipush 24576, 3) := by decide +kernel
theorem dX0_init_8 : decode cX0_init 8 = .ok (.newarray .int, 2) := by decide +kernel
theorem dX0_init_10 : decode cX0_init 10 = .ok (.putfield 11, 3) := by decide +kernel
theorem dX0_init_13 : decode cX0_init 13 = .ok (.aload_n 0, 1) := by decide +kernel
theorem dX0_init_14 : decode cX0_init 14 = .ok (.bipush 6, 2) := by decide +kernel
theorem dX0_init_16 : decode cX0_init 16 = .ok (.newarray .int, 2) := by decide +kernel
theorem dX0_init_18 : decode cX0_init 18 = .ok (.putfield 15, 3) := by decide +kernel
theorem dX0_init_21 : decode cX0_init 21 = .ok (.aload_n 0, 1) := by decide +kernel
theorem dX0_init_22 : decode cX0_init 22 = .ok (.bipush 6, 2) := by decide +kernel
theorem dX0_init_24 : decode cX0_init 24 = .ok (.newarray .int, 2) := by decide +kernel
theorem dX0_init_26 : decode cX0_init 26 = .ok (.putfield 18, 3) := by decide +kernel
theorem dX0_init_29 : decode cX0_init 29 = .ok (.aload_n 0, 1) := by decide +kernel
theorem dX0_init_30 : decode cX0_init 30 = .ok (.bipush 36, 2) := by decide +kernel
theorem dX0_init_32 : decode cX0_init 32 = .ok (.newarray .int, 2) := by decide +kernel
theorem dX0_init_34 : decode cX0_init 34 = .ok (.putfield 21, 3) := by decide +kernel
theorem dX0_init_37 : decode cX0_init 37 = .ok (.return_, 1) := by decide +kernel
theorem cw_242 : Cond.methodLink RX0 5 Lib.objectInit ∈ ww_T := ww_Tt1 184 (by decide +kernel) rfl
theorem cw_243 : Cond.fieldLink RX0 11 RX0 "memo" "[I" ∈ ww_T := ww_Tt1 185 (by decide +kernel) rfl
theorem cw_244 : Cond.fieldLink RX0 15 RX0 "slots" "[I" ∈ ww_T := ww_Tt1 186 (by decide +kernel) rfl
theorem cw_245 : Cond.fieldLink RX0 18 RX0 "ableIn" "[I" ∈ ww_T := ww_Tt1 187 (by decide +kernel) rfl
theorem cw_246 : Cond.fieldLink RX0 21 RX0 "gains" "[I" ∈ ww_T := ww_Tt1 188 (by decide +kernel) rfl
theorem cw_241 : Cond.code yX0_init cX0_init 1 none ∈ ww_T := ww_Tt1 183 (by decide +kernel) rfl
theorem cw_64 : Cond.initialized RX0 ∈ ww_T := ww_Tt1 6 (by decide +kernel) rfl
theorem cw_240 : Cond.instanceMethod yX0_init ∈ ww_T := ww_Tt1 182 (by decide +kernel) rfl
theorem mi_X0 : ww_mI yX0_init cX0_init 1 := ⟨cw_241, cw_64, cw_240, rfl, by decide +kernel⟩
set_option maxHeartbeats 8000000 in
set_option maxRecDepth 100000 in
theorem ci_X0 {l : Launch} {Y : ww_Y} : ww_Ci l Y yX0_init cX0_init 1 1 4 24624 (.inr (0, [.null, .null, .null, .null, .int 0, .int 0, .int 0, .int 0, .int 0])) (ww_LPlanner 0) ww_z (fun _ => True) := by
  refine uw_met (by decide +kernel) rfl (by decide) ?_
  intro X h0 hC hI hQ
  have hC : ww_C X l Y (fun _ => 0) [] 1 cX0_init 1 RX0 := hC
  refine uw_aload_n (pc := 0) hC 0 rfl dX0_init_0 rfl ?_
  refine uw_obj (pc := 1) hC cw_242 cw_81 cw_82 (by omega) (Nat.le_of_ble_eq_true rfl) dX0_init_1 ?_
  refine uw_aload_n (pc := 4) hC 0 rfl dX0_init_4 rfl ?_
  refine uw_sipush (pc := 5) (v := 24576) hC dX0_init_5 rfl ?_
  refine uw_newa (pc := 8) (t := 0) (N := 24576) hC hI cw_218 rfl (fun _ => rfl) (fun _ _ h9 => h9) (fun _ => rfl) (by decide) (by decide) (by decide) (by decide) (by decide) dX0_init_8 (fun q1 => ?_)
  refine uw_ws (ws' := [(h0, .inr (0, [.null, .null, .null, .null, .int 0, .int 0, .int 0, .int 0, .int 0])), (q1, .inl (Y.2.1 0, 24576, .inl (fun _ => 0)))]) rfl ?_
  refine uw_putF (pc := 10) (Cl := RX0) (T := TX0) (N := 9) hC hI 0 0 rfl rfl inT_X0 (by decide) cw_243 rfl tyX0 tyX0_ok nmX0 (tyX0_ok 0 (by decide)) rfl rfl (Nat.le_of_ble_eq_true rfl) rfl rfl dX0_init_10 ?_
  refine uw_ws (ws' := [(h0, .inr (0, [.ref q1, .null, .null, .null, .int 0, .int 0, .int 0, .int 0, .int 0])), (q1, .inl (Y.2.1 0, 24576, .inl (fun _ => 0)))]) rfl ?_
  refine uw_aload_n (pc := 13) hC 0 rfl dX0_init_13 rfl ?_
  refine uw_bipush (pc := 14) (v := 6) hC dX0_init_14 rfl ?_
  refine uw_newa (pc := 16) (t := 0) (N := 6) hC hI cw_218 rfl (fun _ => rfl) (fun _ _ h9 => h9) (fun _ => rfl) (by decide) (by decide) (by decide) (by decide) (by decide) dX0_init_16 (fun q2 => ?_)
  refine uw_ws (ws' := [(h0, .inr (0, [.ref q1, .null, .null, .null, .int 0, .int 0, .int 0, .int 0, .int 0])), (q1, .inl (Y.2.1 0, 24576, .inl (fun _ => 0))), (q2, .inl (Y.2.1 0, 6, .inl (fun _ => 0)))]) rfl ?_
  refine uw_putF (pc := 18) (Cl := RX0) (T := TX0) (N := 9) hC hI 0 1 rfl rfl inT_X0 (by decide) cw_244 rfl tyX0 tyX0_ok nmX0 (tyX0_ok 1 (by decide)) rfl rfl (Nat.le_of_ble_eq_true rfl) rfl rfl dX0_init_18 ?_
  refine uw_ws (ws' := [(h0, .inr (0, [.ref q1, .ref q2, .null, .null, .int 0, .int 0, .int 0, .int 0, .int 0])), (q1, .inl (Y.2.1 0, 24576, .inl (fun _ => 0))), (q2, .inl (Y.2.1 0, 6, .inl (fun _ => 0)))]) rfl ?_
  refine uw_aload_n (pc := 21) hC 0 rfl dX0_init_21 rfl ?_
  refine uw_bipush (pc := 22) (v := 6) hC dX0_init_22 rfl ?_
  refine uw_newa (pc := 24) (t := 0) (N := 6) hC hI cw_218 rfl (fun _ => rfl) (fun _ _ h9 => h9) (fun _ => rfl) (by decide) (by decide) (by decide) (by decide) (by decide) dX0_init_24 (fun q3 => ?_)
  refine uw_ws (ws' := [(h0, .inr (0, [.ref q1, .ref q2, .null, .null, .int 0, .int 0, .int 0, .int 0, .int 0])), (q1, .inl (Y.2.1 0, 24576, .inl (fun _ => 0))), (q2, .inl (Y.2.1 0, 6, .inl (fun _ => 0))), (q3, .inl (Y.2.1 0, 6, .inl (fun _ => 0)))]) rfl ?_
  refine uw_putF (pc := 26) (Cl := RX0) (T := TX0) (N := 9) hC hI 0 2 rfl rfl inT_X0 (by decide) cw_245 rfl tyX0 tyX0_ok nmX0 (tyX0_ok 2 (by decide)) rfl rfl (Nat.le_of_ble_eq_true rfl) rfl rfl dX0_init_26 ?_
  refine uw_ws (ws' := [(h0, .inr (0, [.ref q1, .ref q2, .ref q3, .null, .int 0, .int 0, .int 0, .int 0, .int 0])), (q1, .inl (Y.2.1 0, 24576, .inl (fun _ => 0))), (q2, .inl (Y.2.1 0, 6, .inl (fun _ => 0))), (q3, .inl (Y.2.1 0, 6, .inl (fun _ => 0)))]) rfl ?_
  refine uw_aload_n (pc := 29) hC 0 rfl dX0_init_29 rfl ?_
  refine uw_bipush (pc := 30) (v := 36) hC dX0_init_30 rfl ?_
  refine uw_newa (pc := 32) (t := 0) (N := 36) hC hI cw_218 rfl (fun _ => rfl) (fun _ _ h9 => h9) (fun _ => rfl) (by decide) (by decide) (by decide) (by decide) (by decide) dX0_init_32 (fun q4 => ?_)
  refine uw_ws (ws' := [(h0, .inr (0, [.ref q1, .ref q2, .ref q3, .null, .int 0, .int 0, .int 0, .int 0, .int 0])), (q1, .inl (Y.2.1 0, 24576, .inl (fun _ => 0))), (q2, .inl (Y.2.1 0, 6, .inl (fun _ => 0))), (q3, .inl (Y.2.1 0, 6, .inl (fun _ => 0))), (q4, .inl (Y.2.1 0, 36, .inl (fun _ => 0)))]) rfl ?_
  refine uw_putF (pc := 34) (Cl := RX0) (T := TX0) (N := 9) hC hI 0 3 rfl rfl inT_X0 (by decide) cw_246 rfl tyX0 tyX0_ok nmX0 (tyX0_ok 3 (by decide)) rfl rfl (Nat.le_of_ble_eq_true rfl) rfl rfl dX0_init_34 ?_
  refine uw_ws (ws' := [(h0, .inr (0, [.ref q1, .ref q2, .ref q3, .ref q4, .int 0, .int 0, .int 0, .int 0, .int 0])), (q1, .inl (Y.2.1 0, 24576, .inl (fun _ => 0))), (q2, .inl (Y.2.1 0, 6, .inl (fun _ => 0))), (q3, .inl (Y.2.1 0, 6, .inl (fun _ => 0))), (q4, .inl (Y.2.1 0, 36, .inl (fun _ => 0)))]) rfl ?_
  exact uw_ret (pc := 37) hC hQ (fun k => [h0, q1, q2, q3, q4].getD k 0) rfl rfl dX0_init_37
theorem dX1_init_0 : decode cX1_init 0 = .ok (.aload_n 0, 1) := by decide +kernel
theorem dX1_init_1 : decode cX1_init 1 = .ok (.invokespecial 3, 3) := by decide +kernel
theorem dX1_init_4 : decode cX1_init 4 = .ok (.aload_n 0, 1) := by decide +kernel
theorem dX1_init_5 : decode cX1_init 5 = .ok (.bipush 40, 2) := by decide +kernel
theorem dX1_init_7 : decode cX1_init 7 = .ok (.newarray .int, 2) := by decide +kernel
theorem dX1_init_9 : decode cX1_init 9 = .ok (.putfield 9, 3) := by decide +kernel
theorem dX1_init_12 : decode cX1_init 12 = .ok (.aload_n 0, 1) := by decide +kernel
theorem dX1_init_13 : decode cX1_init 13 = .ok (.iconst (-1), 1) := by decide +kernel
theorem dX1_init_14 : decode cX1_init 14 = .ok (.putfield 15, 3) := by decide +kernel
theorem dX1_init_17 : decode cX1_init 17 = .ok (.return_, 1) := by decide +kernel
theorem cw_277 : Cond.methodLink RX1 3 Lib.objectInit ∈ ww_T := ww_Tt1 219 (by decide +kernel) rfl
theorem cw_278 : Cond.fieldLink RX1 9 RX1 "cells" "[I" ∈ ww_T := ww_Tt1 220 (by decide +kernel) rfl
theorem cw_282 : Cond.fieldLink RX1 15 RX1 "size" "I" ∈ ww_T := ww_Tt1 224 (by decide +kernel) rfl
theorem cw_276 : Cond.code yX1_init cX1_init 1 none ∈ ww_T := ww_Tt1 218 (by decide +kernel) rfl
theorem cw_65 : Cond.initialized RX1 ∈ ww_T := ww_Tt1 7 (by decide +kernel) rfl
theorem cw_275 : Cond.instanceMethod yX1_init ∈ ww_T := ww_Tt1 217 (by decide +kernel) rfl
theorem mi_X1 : ww_mI yX1_init cX1_init 1 := ⟨cw_276, cw_65, cw_275, rfl, by decide +kernel⟩
set_option maxHeartbeats 8000000 in
set_option maxRecDepth 100000 in
theorem ci_X1 {l : Launch} {Y : ww_Y} : ww_Ci l Y yX1_init cX1_init 1 1 1 40 (.inr (1, [.null, .int 0, .int 0])) (ww_LSheet 0) ww_zSheet (fun _ => True) := by
  refine uw_met (by decide +kernel) rfl (by decide) ?_
  intro X h0 hC hI hQ
  have hC : ww_C X l Y (fun _ => 0) [] 1 cX1_init 1 RX1 := hC
  refine uw_aload_n (pc := 0) hC 0 rfl dX1_init_0 rfl ?_
  refine uw_obj (pc := 1) hC cw_277 cw_81 cw_82 (by omega) (Nat.le_of_ble_eq_true rfl) dX1_init_1 ?_
  refine uw_aload_n (pc := 4) hC 0 rfl dX1_init_4 rfl ?_
  refine uw_bipush (pc := 5) (v := 40) hC dX1_init_5 rfl ?_
  refine uw_newa (pc := 7) (t := 0) (N := 40) hC hI cw_218 rfl (fun _ => rfl) (fun _ _ h9 => h9) (fun _ => rfl) (by decide) (by decide) (by decide) (by decide) (by decide) dX1_init_7 (fun q1 => ?_)
  refine uw_ws (ws' := [(h0, .inr (1, [.null, .int 0, .int 0])), (q1, .inl (Y.2.1 0, 40, .inl (fun _ => 0)))]) rfl ?_
  refine uw_putF (pc := 9) (Cl := RX1) (T := TX1) (N := 3) hC hI 0 0 rfl rfl inT_X1 (by decide) cw_278 rfl tyX1 tyX1_ok nmX1 (tyX1_ok 0 (by decide)) rfl rfl (Nat.le_of_ble_eq_true rfl) rfl rfl dX1_init_9 ?_
  refine uw_ws (ws' := [(h0, .inr (1, [.ref q1, .int 0, .int 0])), (q1, .inl (Y.2.1 0, 40, .inl (fun _ => 0)))]) rfl ?_
  refine uw_aload_n (pc := 12) hC 0 rfl dX1_init_12 rfl ?_
  refine uw_iconst (pc := 13) (v := (-1)) hC dX1_init_13 rfl ?_
  refine uw_put (pc := 14) (Cl := RX1) (T := TX1) (N := 3) hC 0 2 rfl rfl inT_X1 (by decide) cw_282 rfl tyX1 tyX1_ok nmX1 (tyX1_ok 2 (by decide)) rfl rfl (Nat.le_of_ble_eq_true rfl) rfl dX1_init_14 ?_
  refine uw_ws (ws' := [(h0, .inr (1, [.ref q1, .int 0, .int (-1)])), (q1, .inl (Y.2.1 0, 40, .inl (fun _ => 0)))]) rfl ?_
  exact uw_ret (pc := 17) hC hQ (fun k => [h0, q1].getD k 0) rfl rfl dX1_init_17
