theorem dX5_tellAll_0 : decode cX5_tellAll 0 = .ok (.aload_n 0, 1) := by decide +kernel
theorem dX5_tellAll_1 : decode cX5_tellAll 1 = .ok (.iconst 0, 1) := by decide +kernel
theorem dX5_tellAll_2 : decode cX5_tellAll 2 = .ok (.putfield 9, 3) := by decide +kernel
theorem dX5_tellAll_5 : decode cX5_tellAll 5 = .ok (.aload_n 0, 1) := by decide +kernel
theorem dX5_tellAll_6 : decode cX5_tellAll 6 = .ok (.iconst 0, 1) := by decide +kernel
theorem dX5_tellAll_7 : decode cX5_tellAll 7 = .ok (.putfield 15, 3) := by decide +kernel
theorem dX5_tellAll_10 : decode cX5_tellAll 10 = .ok (.aload_n 2, 1) := by decide +kernel
theorem dX5_tellAll_11 : decode cX5_tellAll 11 = .ok (.invokevirtual 18, 3) := by decide +kernel
theorem dX5_tellAll_14 : decode cX5_tellAll 14 = .ok (.aload_n 2, 1) := by decide +kernel
theorem dX5_tellAll_15 : decode cX5_tellAll 15 = .ok (.iconst 0, 1) := by decide +kernel
theorem dX5_tellAll_16 : decode cX5_tellAll 16 = .ok (.putfield 23, 3) := by decide +kernel
theorem dX5_tellAll_19 : decode cX5_tellAll 19 = .ok (.iconst 0, 1) := by decide +kernel
theorem dX5_tellAll_20 : decode cX5_tellAll 20 = .ok (.istore_n 3, 1) := by decide +kernel
theorem dX5_tellAll_21 : decode cX5_tellAll 21 = .ok (.aload_n 1, 1) := by decide +kernel
theorem dX5_tellAll_22 : decode cX5_tellAll 22 = .ok (.iconst 0, 1) := by decide +kernel
theorem dX5_tellAll_23 : decode cX5_tellAll 23 = .ok (.putfield 26, 3) := by decide +kernel
theorem dX5_tellAll_26 : decode cX5_tellAll 26 = .ok (.aload_n 1, 1) := by decide +kernel
theorem dX5_tellAll_27 : decode cX5_tellAll 27 = .ok (.invokevirtual 31, 3) := by decide +kernel
theorem dX5_tellAll_30 : decode cX5_tellAll 30 = .ok (.iload_n 3, 1) := by decide +kernel
theorem dX5_tellAll_31 : decode cX5_tellAll 31 = .ok (.sipush 160, 3) := by decide +kernel
theorem dX5_tellAll_34 : decode cX5_tellAll 34 = .ok (.if_icmp .ge 29, 3) := by decide +kernel
theorem dX5_tellAll_37 : decode cX5_tellAll 37 = .ok (.aload_n 1, 1) := by decide +kernel
theorem dX5_tellAll_38 : decode cX5_tellAll 38 = .ok (.getfield 34, 3) := by decide +kernel
theorem dX5_tellAll_41 : decode cX5_tellAll 41 = .ok (.ifCond .eq 22, 3) := by decide +kernel
theorem dX5_tellAll_44 : decode cX5_tellAll 44 = .ok (.aload_n 0, 1) := by decide +kernel
theorem dX5_tellAll_45 : decode cX5_tellAll 45 = .ok (.aload_n 1, 1) := by decide +kernel
theorem dX5_tellAll_46 : decode cX5_tellAll 46 = .ok (.aload_n 2, 1) := by decide +kernel
theorem dX5_tellAll_47 : decode cX5_tellAll 47 = .ok (.invokevirtual 37, 3) := by decide +kernel
theorem dX5_tellAll_50 : decode cX5_tellAll 50 = .ok (.ifCond .eq 13, 3) := by decide +kernel
theorem dX5_tellAll_53 : decode cX5_tellAll 53 = .ok (.iinc 3 1, 3) := by decide +kernel
theorem dX5_tellAll_56 : decode cX5_tellAll 56 = .ok (.aload_n 1, 1) := by decide +kernel
theorem dX5_tellAll_57 : decode cX5_tellAll 57 = .ok (.invokevirtual 31, 3) := by decide +kernel
theorem dX5_tellAll_60 : decode cX5_tellAll 60 = .ok (.goto (-30), 3) := by decide +kernel
theorem dX5_tellAll_63 : decode cX5_tellAll 63 = .ok (.aload_n 0, 1) := by decide +kernel
theorem dX5_tellAll_64 : decode cX5_tellAll 64 = .ok (.getfield 9, 3) := by decide +kernel
theorem dX5_tellAll_67 : decode cX5_tellAll 67 = .ok (.ifCond .ne 9, 3) := by decide +kernel
theorem dX5_tellAll_70 : decode cX5_tellAll 70 = .ok (.aload_n 0, 1) := by decide +kernel
theorem dX5_tellAll_71 : decode cX5_tellAll 71 = .ok (.aload_n 1, 1) := by decide +kernel
theorem dX5_tellAll_72 : decode cX5_tellAll 72 = .ok (.aload_n 2, 1) := by decide +kernel
theorem dX5_tellAll_73 : decode cX5_tellAll 73 = .ok (.invokevirtual 41, 3) := by decide +kernel
theorem dX5_tellAll_76 : decode cX5_tellAll 76 = .ok (.aload_n 2, 1) := by decide +kernel
theorem dX5_tellAll_77 : decode cX5_tellAll 77 = .ok (.getfield 23, 3) := by decide +kernel
theorem dX5_tellAll_80 : decode cX5_tellAll 80 = .ok (.ifCond .ne 8, 3) := by decide +kernel
theorem dX5_tellAll_83 : decode cX5_tellAll 83 = .ok (.aload_n 2, 1) := by decide +kernel
theorem dX5_tellAll_84 : decode cX5_tellAll 84 = .ok (.iconst 1, 1) := by decide +kernel
theorem dX5_tellAll_85 : decode cX5_tellAll 85 = .ok (.putfield 23, 3) := by decide +kernel
theorem dX5_tellAll_88 : decode cX5_tellAll 88 = .ok (.iload_n 3, 1) := by decide +kernel
theorem dX5_tellAll_89 : decode cX5_tellAll 89 = .ok (.ireturn, 1) := by decide +kernel
set_option maxHeartbeats 4000000 in
set_option maxRecDepth 100000 in
theorem c_X5_tellAll {l : Launch} {Y : ww_Y} {ad : Nat → Nat} {G : List ww_L} (o0 : Nat) (h0 : ww_at G o0 (ww_LTeller o0)) (o1 : Nat) (h1 : ww_at G o1 (ww_LTape o1)) (o2 : Nat) (h2 : ww_at G o2 (ww_LShore o2)) (σ : ww_M) : ww_Cn l Y ad G yX5_tellAll cX5_tellAll 4 (some .int) 9 [.ref (ad o0), .ref (ad o1), .ref (ad o2)] σ ((f_X5_tellAll σ o0 o1 o2).bind ww_rw) := by
  refine ww_met (by decide +kernel) (Nat.le_of_ble_eq_true rfl) ?_
  intro X hC hR
  have hC : ww_C X l Y ad G 9 cX5_tellAll 4 RX5 := hC
  show ww_V X Y ad G 4 σ 0 [(0, .ref (ad o0)), (1, .ref (ad o1)), (2, .ref (ad o2))] [] ((f_X5_tellAll σ o0 o1 o2).bind ww_rw)
  have hJ76 : ∀ (σ : ww_M) (x3 : Int32), ww_V X Y ad G 4 σ 76 [(2, .ref (ad o2)), (3, .int x3)] [] ((f_X5_tellAll_j76 σ o0 o1 o2 x3).bind ww_rw) := by
    intro σ x3
    unfold f_X5_tellAll_j76
    refine ww_aload_n (pc := 76) hC 0 rfl dX5_tellAll_76 rfl ?_
    refine ww_geti (pc := 77) (Cl := RX2) (T := TX2) (N := 17) (j := 10) (ref := RX2) hC (h2 0 _ rfl) rfl inT_X2 (by decide) mw_163 rfl rfl dX5_tellAll_77 ?_
    refine ww_if_ne (pc := 80) (tgt := 88) hC dX5_tellAll_80 (by decide) ?_ ?_
    · refine ww_iload_n (pc := 88) hC 1 rfl dX5_tellAll_88 rfl ?_
      exact ww_ireturn (pc := 89) hC hR dX5_tellAll_89 rfl
    · refine ww_aload_n (pc := 83) hC 0 rfl dX5_tellAll_83 rfl ?_
      refine ww_iconst (pc := 84) (v := 1) hC dX5_tellAll_84 rfl ?_
      refine ww_puti (pc := 85) (Cl := RX2) (T := TX2) (N := 17) (j := 10) (ref := RX2) hC (h2 0 _ rfl) rfl inT_X2 (by decide) mw_163 rfl tyX2 tyX2_ok nmX2 rfl rfl (tyX2_ok 10 (by decide)) dX5_tellAll_85 ?_
      refine ww_iload_n (pc := 88) hC 1 rfl dX5_tellAll_88 rfl ?_
      exact ww_ireturn (pc := 89) hC hR dX5_tellAll_89 rfl
  have hJ63 : ∀ (σ : ww_M) (x3 : Int32), ww_V X Y ad G 4 σ 63 [(0, .ref (ad o0)), (1, .ref (ad o1)), (2, .ref (ad o2)), (3, .int x3)] [] ((f_X5_tellAll_j63 σ o0 o1 o2 x3).bind ww_rw) := by
    intro σ x3
    unfold f_X5_tellAll_j63
    refine ww_aload_n (pc := 63) hC 0 rfl dX5_tellAll_63 rfl ?_
    refine ww_geti (pc := 64) (Cl := RX5) (T := TX5) (N := 3) (j := 0) (ref := RX5) hC (h0 0 _ rfl) rfl inT_X5 (by decide) mw_121 rfl rfl dX5_tellAll_64 ?_
    refine ww_if_ne (pc := 67) (tgt := 76) hC dX5_tellAll_67 (by decide) ?_ ?_
    · refine ww_lv [2, 3] rfl ?_
      exact hJ76 σ x3
    · refine ww_aload_n (pc := 70) hC 0 rfl dX5_tellAll_70 rfl ?_
      refine ww_aload_n (pc := 71) hC 1 rfl dX5_tellAll_71 rfl ?_
      refine ww_aload_n (pc := 72) hC 2 rfl dX5_tellAll_72 rfl ?_
      refine ww_callVv (pc := 73) (st := []) (As := [.ref (ad o1), .ref (ad o2)]) hC (c_X5_checkBeasts o0 h0 o1 h1 o2 h2 σ) mm_X5_checkBeasts mw_483 (h0 0 _ rfl) rfl (by omega) (by decide) (Nat.le_of_ble_eq_true rfl) rfl dX5_tellAll_73 (fun v73 => ?_)
      refine ww_lv [2, 3] rfl ?_
      exact hJ76 v73 x3
  have hJ30 : ∀ (σ : ww_M) (x3 : Int32), ww_V X Y ad G 4 σ 30 [(0, .ref (ad o0)), (1, .ref (ad o1)), (2, .ref (ad o2)), (3, .int x3)] [] ((f_X5_tellAll_j30 σ o0 o1 o2 x3).bind ww_rw) := by
    intro σ x3
    unfold f_X5_tellAll_j30
    refine ww_assoc ?_
    refine ww_loop (f := f_X5_tellAll_b30 o0 o1 o2) (fun a30 => a30.2) (fun a30 => [(0, .ref (ad o0)), (1, .ref (ad o1)), (2, .ref (ad o2)), (3, .int a30.1)]) (fun b30 => b30.2) (fun b30 => [(0, .ref (ad o0)), (1, .ref (ad o1)), (2, .ref (ad o2)), (3, .int b30.1)]) 63 (fun b30 => ?_) (fun a30 KK30 hc30 hx30 => ?_) ww_F (x3, σ)
    · exact hJ63 b30.2 b30.1
    · unfold f_X5_tellAll_b30
      refine ww_iload_n (pc := 30) hC 3 rfl dX5_tellAll_30 rfl ?_
      refine ww_sipush (pc := 31) (v := 160) hC dX5_tellAll_31 rfl ?_
      refine ww_icmp_ge (pc := 34) (tgt := 63) hC dX5_tellAll_34 (by decide) ?_ ?_
      · exact hx30 (a30.1, a30.2)
      · refine ww_aload_n (pc := 37) hC 1 rfl dX5_tellAll_37 rfl ?_
        refine ww_geti (pc := 38) (Cl := RX4) (T := TX4) (N := 6) (j := 3) (ref := RX4) hC (h1 0 _ rfl) rfl inT_X4 (by decide) mw_95 rfl rfl dX5_tellAll_38 ?_
        refine ww_if_eq (pc := 41) (tgt := 63) hC dX5_tellAll_41 (by decide) ?_ ?_
        · exact hx30 (a30.1, a30.2)
        · refine ww_aload_n (pc := 44) hC 0 rfl dX5_tellAll_44 rfl ?_
          refine ww_aload_n (pc := 45) hC 1 rfl dX5_tellAll_45 rfl ?_
          refine ww_aload_n (pc := 46) hC 2 rfl dX5_tellAll_46 rfl ?_
          refine ww_callVw (pc := 47) (st := []) (As := [.ref (ad o1), .ref (ad o2)]) hC (c_X5_readLine o0 h0 o1 h1 o2 h2 a30.2) mm_X5_readLine mw_372 (h0 0 _ rfl) rfl (by omega) (by decide) (Nat.le_of_ble_eq_true rfl) rfl dX5_tellAll_47 (fun v47 => ?_)
          refine ww_if_eq (pc := 50) (tgt := 63) hC dX5_tellAll_50 (by decide) ?_ ?_
          · exact hx30 (a30.1, v47.2)
          · refine ww_iinc (pc := 53) (v := a30.1 + 1) (lv' := [(3, .int (a30.1 + 1)), (0, .ref (ad o0)), (1, .ref (ad o1)), (2, .ref (ad o2))]) hC 3 rfl dX5_tellAll_53 rfl (by decide) rfl ?_
            refine ww_aload_n (pc := 56) hC 2 rfl dX5_tellAll_56 rfl ?_
            refine ww_callVv (pc := 57) (st := []) (As := []) hC (c_X4_step o1 h1 v47.2) mm_X4_step mw_353 (h1 0 _ rfl) rfl (by omega) (by decide) (Nat.le_of_ble_eq_true rfl) rfl dX5_tellAll_57 (fun v57 => ?_)
            refine ww_goto (pc := 60) (tgt := 30) hC dX5_tellAll_60 (by decide) ?_
            refine ww_lv [1, 2, 3, 0] rfl ?_
            exact hc30 (a30.1 + 1, v57)
  unfold f_X5_tellAll
  refine ww_aload_n (pc := 0) hC 0 rfl dX5_tellAll_0 rfl ?_
  refine ww_iconst (pc := 1) (v := 0) hC dX5_tellAll_1 rfl ?_
  refine ww_puti (pc := 2) (Cl := RX5) (T := TX5) (N := 3) (j := 0) (ref := RX5) hC (h0 0 _ rfl) rfl inT_X5 (by decide) mw_121 rfl tyX5 tyX5_ok nmX5 rfl rfl (tyX5_ok 0 (by decide)) dX5_tellAll_2 ?_
  refine ww_aload_n (pc := 5) hC 0 rfl dX5_tellAll_5 rfl ?_
  refine ww_iconst (pc := 6) (v := 0) hC dX5_tellAll_6 rfl ?_
  refine ww_puti (pc := 7) (Cl := RX5) (T := TX5) (N := 3) (j := 2) (ref := RX5) hC (h0 0 _ rfl) rfl inT_X5 (by decide) mw_125 rfl tyX5 tyX5_ok nmX5 rfl rfl (tyX5_ok 2 (by decide)) dX5_tellAll_7 ?_
  refine ww_aload_n (pc := 10) hC 2 rfl dX5_tellAll_10 rfl ?_
  refine ww_callVv (pc := 11) (st := []) (As := []) hC (c_X2_clear o2 h2 (ww_up (ww_up σ o0 0 0) o0 2 0)) mm_X2_clear mw_352 (h2 0 _ rfl) rfl (by omega) (by decide) (Nat.le_of_ble_eq_true rfl) rfl dX5_tellAll_11 (fun v11 => ?_)
  refine ww_aload_n (pc := 14) hC 2 rfl dX5_tellAll_14 rfl ?_
  refine ww_iconst (pc := 15) (v := 0) hC dX5_tellAll_15 rfl ?_
  refine ww_puti (pc := 16) (Cl := RX2) (T := TX2) (N := 17) (j := 10) (ref := RX2) hC (h2 0 _ rfl) rfl inT_X2 (by decide) mw_163 rfl tyX2 tyX2_ok nmX2 rfl rfl (tyX2_ok 10 (by decide)) dX5_tellAll_16 ?_
  refine ww_iconst (pc := 19) (v := 0) hC dX5_tellAll_19 rfl ?_
  refine ww_istore_n (pc := 20) (lv' := [(3, .int 0), (0, .ref (ad o0)), (1, .ref (ad o1)), (2, .ref (ad o2))]) hC dX5_tellAll_20 rfl (by decide) rfl ?_
  refine ww_aload_n (pc := 21) hC 2 rfl dX5_tellAll_21 rfl ?_
  refine ww_iconst (pc := 22) (v := 0) hC dX5_tellAll_22 rfl ?_
  refine ww_puti (pc := 23) (Cl := RX4) (T := TX4) (N := 6) (j := 2) (ref := RX4) hC (h1 0 _ rfl) rfl inT_X4 (by decide) mw_93 rfl tyX4 tyX4_ok nmX4 rfl rfl (tyX4_ok 2 (by decide)) dX5_tellAll_23 ?_
  refine ww_aload_n (pc := 26) hC 2 rfl dX5_tellAll_26 rfl ?_
  refine ww_callVv (pc := 27) (st := []) (As := []) hC (c_X4_step o1 h1 (ww_up (ww_up v11 o2 10 0) o1 2 0)) mm_X4_step mw_353 (h1 0 _ rfl) rfl (by omega) (by decide) (Nat.le_of_ble_eq_true rfl) rfl dX5_tellAll_27 (fun v27 => ?_)
  refine ww_lv [1, 2, 3, 0] rfl ?_
  exact hJ30 v27 0
theorem dX3_add_0 : decode cX3_add 0 = .ok (.aload_n 0, 1) := by decide +kernel
theorem dX3_add_1 : decode cX3_add 1 = .ok (.getfield 18, 3) := by decide +kernel
theorem dX3_add_4 : decode cX3_add 4 = .ok (.aload_n 0, 1) := by decide +kernel
theorem dX3_add_5 : decode cX3_add 5 = .ok (.getfield 9, 3) := by decide +kernel
theorem dX3_add_8 : decode cX3_add 8 = .ok (.arraylength, 1) := by decide +kernel
theorem dX3_add_9 : decode cX3_add 9 = .ok (.if_icmp .lt 5, 3) := by decide +kernel
theorem dX3_add_12 : decode cX3_add 12 = .ok (.iconst 0, 1) := by decide +kernel
theorem dX3_add_13 : decode cX3_add 13 = .ok (.ireturn, 1) := by decide +kernel
theorem dX3_add_14 : decode cX3_add 14 = .ok (.aload_n 0, 1) := by decide +kernel
theorem dX3_add_15 : decode cX3_add 15 = .ok (.getfield 9, 3) := by decide +kernel
theorem dX3_add_18 : decode cX3_add 18 = .ok (.aload_n 0, 1) := by decide +kernel
theorem dX3_add_19 : decode cX3_add 19 = .ok (.getfield 18, 3) := by decide +kernel
theorem dX3_add_22 : decode cX3_add 22 = .ok (.iload_n 1, 1) := by decide +kernel
theorem dX3_add_23 : decode cX3_add 23 = .ok (.iastore, 1) := by decide +kernel
theorem dX3_add_24 : decode cX3_add 24 = .ok (.aload_n 0, 1) := by decide +kernel
theorem dX3_add_25 : decode cX3_add 25 = .ok (.getfield 15, 3) := by decide +kernel
theorem dX3_add_28 : decode cX3_add 28 = .ok (.aload_n 0, 1) := by decide +kernel
theorem dX3_add_29 : decode cX3_add 29 = .ok (.getfield 18, 3) := by decide +kernel
theorem dX3_add_32 : decode cX3_add 32 = .ok (.iload_n 2, 1) := by decide +kernel
theorem dX3_add_33 : decode cX3_add 33 = .ok (.iastore, 1) := by decide +kernel
theorem dX3_add_34 : decode cX3_add 34 = .ok (.aload_n 0, 1) := by decide +kernel
theorem dX3_add_35 : decode cX3_add 35 = .ok (.dup, 1) := by decide +kernel
theorem dX3_add_36 : decode cX3_add 36 = .ok (.getfield 18, 3) := by decide +kernel
theorem dX3_add_39 : decode cX3_add 39 = .ok (.iconst 1, 1) := by decide +kernel
theorem dX3_add_40 : decode cX3_add 40 = .ok (.iadd, 1) := by decide +kernel
theorem dX3_add_41 : decode cX3_add 41 = .ok (.putfield 18, 3) := by decide +kernel
theorem dX3_add_44 : decode cX3_add 44 = .ok (.iconst 1, 1) := by decide +kernel
theorem dX3_add_45 : decode cX3_add 45 = .ok (.ireturn, 1) := by decide +kernel
set_option maxHeartbeats 4000000 in
set_option maxRecDepth 100000 in
theorem c_X3_add {l : Launch} {Y : ww_Y} {ad : Nat → Nat} {G : List ww_L} (o0 : Nat) (h0 : ww_at G o0 (ww_LTales o0)) (σ : ww_M) (p1 : Int32) (p2 : Int32) : ww_Cn l Y ad G yX3_add cX3_add 3 (some .boolean) 1 [.ref (ad o0), .int p1, .int p2] σ ((f_X3_add σ o0 p1 p2).bind ww_rw) := by
  refine ww_met (by decide +kernel) (Nat.le_of_ble_eq_true rfl) ?_
  intro X hC hR
  have hC : ww_C X l Y ad G 1 cX3_add 3 RX3 := hC
  show ww_V X Y ad G 3 σ 0 [(0, .ref (ad o0)), (1, .int p1), (2, .int p2)] [] ((f_X3_add σ o0 p1 p2).bind ww_rw)
  unfold f_X3_add
  refine ww_aload_n (pc := 0) hC 0 rfl dX3_add_0 rfl ?_
  refine ww_geti (pc := 1) (Cl := RX3) (T := TX3) (N := 3) (j := 2) (ref := RX3) hC (h0 0 _ rfl) rfl inT_X3 (by decide) mw_228 rfl rfl dX3_add_1 ?_
  refine ww_aload_n (pc := 4) hC 0 rfl dX3_add_4 rfl ?_
  refine ww_getr (pc := 5) (Cl := RX3) (T := TX3) (N := 3) (j := 0) (ref := RX3) hC (h0 0 _ rfl) rfl inT_X3 (by decide) mw_226 rfl rfl dX3_add_5 ?_
  refine ww_alen (pc := 8) (v := 6) hC (h0 1 _ rfl) (fun _ => rfl) rfl dX3_add_8 ?_
  refine ww_icmp_lt (pc := 9) (tgt := 14) hC dX3_add_9 (by decide) ?_ ?_
  · refine ww_aload_n (pc := 14) hC 0 rfl dX3_add_14 rfl ?_
    refine ww_getr (pc := 15) (Cl := RX3) (T := TX3) (N := 3) (j := 0) (ref := RX3) hC (h0 0 _ rfl) rfl inT_X3 (by decide) mw_226 rfl rfl dX3_add_15 ?_
    refine ww_aload_n (pc := 18) hC 0 rfl dX3_add_18 rfl ?_
    refine ww_geti (pc := 19) (Cl := RX3) (T := TX3) (N := 3) (j := 2) (ref := RX3) hC (h0 0 _ rfl) rfl inT_X3 (by decide) mw_228 rfl rfl dX3_add_19 ?_
    refine ww_iload_n (pc := 22) hC 1 rfl dX3_add_22 rfl ?_
    refine ww_iast (pc := 23) hC (h0 1 _ rfl) dX3_add_23 ?_
    refine ww_aload_n (pc := 24) hC 0 rfl dX3_add_24 rfl ?_
    refine ww_getr (pc := 25) (Cl := RX3) (T := TX3) (N := 3) (j := 1) (ref := RX3) hC (h0 0 _ rfl) rfl inT_X3 (by decide) mw_227 rfl rfl dX3_add_25 ?_
    refine ww_aload_n (pc := 28) hC 0 rfl dX3_add_28 rfl ?_
    refine ww_geti (pc := 29) (Cl := RX3) (T := TX3) (N := 3) (j := 2) (ref := RX3) hC (h0 0 _ rfl) rfl inT_X3 (by decide) mw_228 rfl rfl dX3_add_29 ?_
    refine ww_iload_n (pc := 32) hC 2 rfl dX3_add_32 rfl ?_
    refine ww_iast (pc := 33) hC (h0 2 _ rfl) dX3_add_33 ?_
    refine ww_aload_n (pc := 34) hC 0 rfl dX3_add_34 rfl ?_
    refine ww_dup (pc := 35) hC dX3_add_35 rfl ?_
    refine ww_geti (pc := 36) (Cl := RX3) (T := TX3) (N := 3) (j := 2) (ref := RX3) hC (h0 0 _ rfl) rfl inT_X3 (by decide) mw_228 rfl rfl dX3_add_36 ?_
    refine ww_iconst (pc := 39) (v := 1) hC dX3_add_39 rfl ?_
    refine ww_iadd (pc := 40) hC dX3_add_40 ?_
    refine ww_puti (pc := 41) (Cl := RX3) (T := TX3) (N := 3) (j := 2) (ref := RX3) hC (h0 0 _ rfl) rfl inT_X3 (by decide) mw_228 rfl tyX3 tyX3_ok nmX3 rfl rfl (tyX3_ok 2 (by decide)) dX3_add_41 ?_
    refine ww_iconst (pc := 44) (v := 1) hC dX3_add_44 rfl ?_
    exact ww_zreturn (pc := 45) hC hR dX3_add_45 rfl rfl
  · refine ww_iconst (pc := 12) (v := 0) hC dX3_add_12 rfl ?_
    exact ww_zreturn (pc := 13) hC hR dX3_add_13 rfl rfl
theorem dX3_areExplained_0 : decode cX3_areExplained 0 = .ok (.iconst 0, 1) := by decide +kernel
theorem dX3_areExplained_1 : decode cX3_areExplained 1 = .ok (.istore_n 3, 1) := by decide +kernel
theorem dX3_areExplained_2 : decode cX3_areExplained 2 = .ok (.iload_n 3, 1) := by decide +kernel
theorem dX3_areExplained_3 : decode cX3_areExplained 3 = .ok (.aload_n 0, 1) := by decide +kernel
theorem dX3_areExplained_4 : decode cX3_areExplained 4 = .ok (.getfield 18, 3) := by decide +kernel
theorem dX3_areExplained_7 : decode cX3_areExplained 7 = .ok (.if_icmp .ge 31, 3) := by decide +kernel
theorem dX3_areExplained_10 : decode cX3_areExplained 10 = .ok (.aload_n 1, 1) := by decide +kernel
theorem dX3_areExplained_11 : decode cX3_areExplained 11 = .ok (.aload_n 0, 1) := by decide +kernel
theorem dX3_areExplained_12 : decode cX3_areExplained 12 = .ok (.getfield 9, 3) := by decide +kernel
theorem dX3_areExplained_15 : decode cX3_areExplained 15 = .ok (.iload_n 3, 1) := by decide +kernel
theorem dX3_areExplained_16 : decode cX3_areExplained 16 = .ok (.iaload, 1) := by decide +kernel
theorem dX3_areExplained_17 : decode cX3_areExplained 17 = .ok (.iload_n 2, 1) := by decide +kernel
theorem dX3_areExplained_18 : decode cX3_areExplained 18 = .ok (.invokevirtual 22, 3) := by decide +kernel
theorem dX3_areExplained_21 : decode cX3_areExplained 21 = .ok (.aload_n 0, 1) := by decide +kernel
theorem dX3_areExplained_22 : decode cX3_areExplained 22 = .ok (.getfield 15, 3) := by decide +kernel
theorem dX3_areExplained_25 : decode cX3_areExplained 25 = .ok (.iload_n 3, 1) := by decide +kernel
theorem dX3_areExplained_26 : decode cX3_areExplained 26 = .ok (.iaload, 1) := by decide +kernel
theorem dX3_areExplained_27 : decode cX3_areExplained 27 = .ok (.if_icmp .eq 5, 3) := by decide +kernel
theorem dX3_areExplained_30 : decode cX3_areExplained 30 = .ok (.iconst 0, 1) := by decide +kernel
theorem dX3_areExplained_31 : decode cX3_areExplained 31 = .ok (.ireturn, 1) := by decide +kernel
theorem dX3_areExplained_32 : decode cX3_areExplained 32 = .ok (.iinc 3 1, 3) := by decide +kernel
theorem dX3_areExplained_35 : decode cX3_areExplained 35 = .ok (.goto (-33), 3) := by decide +kernel
theorem dX3_areExplained_38 : decode cX3_areExplained 38 = .ok (.iconst 1, 1) := by decide +kernel
theorem dX3_areExplained_39 : decode cX3_areExplained 39 = .ok (.ireturn, 1) := by decide +kernel
set_option maxHeartbeats 4000000 in
set_option maxRecDepth 100000 in
theorem c_X3_areExplained {l : Launch} {Y : ww_Y} {ad : Nat → Nat} {G : List ww_L} (o0 : Nat) (h0 : ww_at G o0 (ww_LTales o0)) (o1 : Nat) (h1 : ww_at G o1 (ww_LShore o1)) (σ : ww_M) (p2 : Int32) : ww_Cn l Y ad G yX3_areExplained cX3_areExplained 4 (some .boolean) 5 [.ref (ad o0), .ref (ad o1), .int p2] σ ((f_X3_areExplained σ o0 o1 p2).bind (ww_ri σ)) := by
  refine ww_met (by decide +kernel) (Nat.le_of_ble_eq_true rfl) ?_
  intro X hC hR
  have hC : ww_C X l Y ad G 5 cX3_areExplained 4 RX3 := hC
  show ww_V X Y ad G 4 σ 0 [(0, .ref (ad o0)), (1, .ref (ad o1)), (2, .int p2)] [] ((f_X3_areExplained σ o0 o1 p2).bind (ww_ri σ))
  have hJ38 : ww_V X Y ad G 4 σ 38 [] [] ((f_X3_areExplained_j38 σ o0 o1 p2).bind (ww_ri σ)) := by
    unfold f_X3_areExplained_j38
    refine ww_iconst (pc := 38) (v := 1) hC dX3_areExplained_38 rfl ?_
    exact ww_zreturn (pc := 39) hC hR dX3_areExplained_39 rfl rfl
  have hJ2 : ∀ (x3 : Int32), ww_V X Y ad G 4 σ 2 [(0, .ref (ad o0)), (1, .ref (ad o1)), (2, .int p2), (3, .int x3)] [] ((f_X3_areExplained_j2 σ o0 o1 p2 x3).bind (ww_ri σ)) := by
    intro x3
    unfold f_X3_areExplained_j2
    refine ww_assoc ?_
    refine ww_loopR (f := f_X3_areExplained_b2 σ o0 o1 p2) (fun a2 => σ) (fun a2 => [(0, .ref (ad o0)), (1, .ref (ad o1)), (2, .int p2), (3, .int a2)]) (fun b2 => σ) (fun b2 => []) 38 (fun b2 => ?_) (fun a2 KK2 hc2 hx2 hr2 => ?_) ww_F x3
    · exact hJ38
    · unfold f_X3_areExplained_b2
      refine ww_iload_n (pc := 2) hC 3 rfl dX3_areExplained_2 rfl ?_
      refine ww_aload_n (pc := 3) hC 0 rfl dX3_areExplained_3 rfl ?_
      refine ww_geti (pc := 4) (Cl := RX3) (T := TX3) (N := 3) (j := 2) (ref := RX3) hC (h0 0 _ rfl) rfl inT_X3 (by decide) mw_228 rfl rfl dX3_areExplained_4 ?_
      refine ww_icmp_ge (pc := 7) (tgt := 38) hC dX3_areExplained_7 (by decide) ?_ ?_
      · refine ww_lv [] rfl ?_
        exact hx2 ()
      · refine ww_aload_n (pc := 10) hC 1 rfl dX3_areExplained_10 rfl ?_
        refine ww_aload_n (pc := 11) hC 0 rfl dX3_areExplained_11 rfl ?_
        refine ww_getr (pc := 12) (Cl := RX3) (T := TX3) (N := 3) (j := 0) (ref := RX3) hC (h0 0 _ rfl) rfl inT_X3 (by decide) mw_226 rfl rfl dX3_areExplained_12 ?_
        refine ww_iload_n (pc := 15) hC 3 rfl dX3_areExplained_15 rfl ?_
        refine ww_iald (pc := 16) hC (h0 1 _ rfl) dX3_areExplained_16 ?_
        refine ww_iload_n (pc := 17) hC 2 rfl dX3_areExplained_17 rfl ?_
        refine ww_callVi (pc := 18) (st := []) (As := [.int (σ (o0 + 1) (ww_ix a2)), .int p2]) hC (c_X2_shareBy o1 h1 σ (σ (o0 + 1) (ww_ix a2)) p2) mm_X2_shareBy mw_780 (h1 0 _ rfl) rfl (by omega) (by decide) (Nat.le_of_ble_eq_true rfl) rfl dX3_areExplained_18 (fun v18 => ?_)
        refine ww_aload_n (pc := 21) hC 0 rfl dX3_areExplained_21 rfl ?_
        refine ww_getr (pc := 22) (Cl := RX3) (T := TX3) (N := 3) (j := 1) (ref := RX3) hC (h0 0 _ rfl) rfl inT_X3 (by decide) mw_227 rfl rfl dX3_areExplained_22 ?_
        refine ww_iload_n (pc := 25) hC 3 rfl dX3_areExplained_25 rfl ?_
        refine ww_iald (pc := 26) hC (h0 2 _ rfl) dX3_areExplained_26 ?_
        refine ww_icmp_eq (pc := 27) (tgt := 32) hC dX3_areExplained_27 (by decide) ?_ ?_
        · refine ww_iinc (pc := 32) (v := a2 + 1) (lv' := [(3, .int (a2 + 1)), (0, .ref (ad o0)), (1, .ref (ad o1)), (2, .int p2)]) hC 3 rfl dX3_areExplained_32 rfl (by decide) rfl ?_
          refine ww_goto (pc := 35) (tgt := 2) hC dX3_areExplained_35 (by decide) ?_
          refine ww_lv [1, 2, 3, 0] rfl ?_
          exact hc2 (a2 + 1)
        · refine ww_iconst (pc := 30) (v := 0) hC dX3_areExplained_30 rfl ?_
          exact ww_zreturn (pc := 31) hC hR dX3_areExplained_31 rfl ((hr2 _).trans rfl)
  unfold f_X3_areExplained
  refine ww_iconst (pc := 0) (v := 0) hC dX3_areExplained_0 rfl ?_
  refine ww_istore_n (pc := 1) (lv' := [(3, .int 0), (0, .ref (ad o0)), (1, .ref (ad o1)), (2, .int p2)]) hC dX3_areExplained_1 rfl (by decide) rfl ?_
  refine ww_lv [1, 2, 3, 0] rfl ?_
  exact hJ2 0
theorem dX1_renew_0 : decode cX1_renew 0 = .ok (.aload_n 0, 1) := by decide +kernel
theorem dX1_renew_1 : decode cX1_renew 1 = .ok (.iload_n 1, 1) := by decide +kernel
theorem dX1_renew_2 : decode cX1_renew 2 = .ok (.putfield 19, 3) := by decide +kernel
theorem dX1_renew_5 : decode cX1_renew 5 = .ok (.aload_n 0, 1) := by decide +kernel
theorem dX1_renew_6 : decode cX1_renew 6 = .ok (.iload_n 2, 1) := by decide +kernel
theorem dX1_renew_7 : decode cX1_renew 7 = .ok (.putfield 15, 3) := by decide +kernel
theorem dX1_renew_10 : decode cX1_renew 10 = .ok (.aload_n 0, 1) := by decide +kernel
theorem dX1_renew_11 : decode cX1_renew 11 = .ok (.getfield 9, 3) := by decide +kernel
theorem dX1_renew_14 : decode cX1_renew 14 = .ok (.iconst 0, 1) := by decide +kernel
theorem dX1_renew_15 : decode cX1_renew 15 = .ok (.invokestatic 22, 3) := by decide +kernel
theorem dX1_renew_18 : decode cX1_renew 18 = .ok (.return_, 1) := by decide +kernel
set_option maxHeartbeats 4000000 in
set_option maxRecDepth 100000 in
theorem c_X1_renew {l : Launch} {Y : ww_Y} {ad : Nat → Nat} {G : List ww_L} (o0 : Nat) (h0 : ww_at G o0 (ww_LSheet o0)) (σ : ww_M) (p1 : Int32) (p2 : Int32) : ww_Cn l Y ad G yX1_renew cX1_renew 3 none 3 [.ref (ad o0), .int p1, .int p2] σ ((f_X1_renew σ o0 p1 p2).bind ww_rv) := by
  refine ww_met (by decide +kernel) (Nat.le_of_ble_eq_true rfl) ?_
  intro X hC hR
  have hC : ww_C X l Y ad G 3 cX1_renew 3 RX1 := hC
  show ww_V X Y ad G 3 σ 0 [(0, .ref (ad o0)), (1, .int p1), (2, .int p2)] [] ((f_X1_renew σ o0 p1 p2).bind ww_rv)
  unfold f_X1_renew
  refine ww_aload_n (pc := 0) hC 0 rfl dX1_renew_0 rfl ?_
  refine ww_iload_n (pc := 1) hC 1 rfl dX1_renew_1 rfl ?_
  refine ww_puti (pc := 2) (Cl := RX1) (T := TX1) (N := 3) (j := 1) (ref := RX1) hC (h0 0 _ rfl) rfl inT_X1 (by decide) mw_280 rfl tyX1 tyX1_ok nmX1 rfl rfl (tyX1_ok 1 (by decide)) dX1_renew_2 ?_
  refine ww_aload_n (pc := 5) hC 0 rfl dX1_renew_5 rfl ?_
  refine ww_iload_n (pc := 6) hC 2 rfl dX1_renew_6 rfl ?_
  refine ww_puti (pc := 7) (Cl := RX1) (T := TX1) (N := 3) (j := 2) (ref := RX1) hC (h0 0 _ rfl) rfl inT_X1 (by decide) mw_282 rfl tyX1 tyX1_ok nmX1 rfl rfl (tyX1_ok 2 (by decide)) dX1_renew_7 ?_
  refine ww_aload_n (pc := 10) hC 0 rfl dX1_renew_10 rfl ?_
  refine ww_getr (pc := 11) (Cl := RX1) (T := TX1) (N := 3) (j := 0) (ref := RX1) hC (h0 0 _ rfl) rfl inT_X1 (by decide) mw_278 rfl rfl dX1_renew_11 ?_
  refine ww_iconst (pc := 14) (v := 0) hC dX1_renew_14 rfl ?_
  refine ww_fillR (pc := 15) hC (h0 1 _ rfl) (by decide) mw_840 (by omega) (Nat.le_of_ble_eq_true rfl) dX1_renew_15 ?_
  exact ww_return (pc := 18) hC hR dX1_renew_18 rfl
theorem dX1_faultAt_0 : decode cX1_faultAt 0 = .ok (.aload_n 0, 1) := by decide +kernel
theorem dX1_faultAt_1 : decode cX1_faultAt 1 = .ok (.getfield 15, 3) := by decide +kernel
theorem dX1_faultAt_4 : decode cX1_faultAt 4 = .ok (.ifCond .ge 5, 3) := by decide +kernel
theorem dX1_faultAt_7 : decode cX1_faultAt 7 = .ok (.iconst 1, 1) := by decide +kernel
theorem dX1_faultAt_8 : decode cX1_faultAt 8 = .ok (.ireturn, 1) := by decide +kernel
theorem dX1_faultAt_9 : decode cX1_faultAt 9 = .ok (.aload_n 0, 1) := by decide +kernel
theorem dX1_faultAt_10 : decode cX1_faultAt 10 = .ok (.getfield 19, 3) := by decide +kernel
theorem dX1_faultAt_13 : decode cX1_faultAt 13 = .ok (.iload_n 1, 1) := by decide +kernel
theorem dX1_faultAt_14 : decode cX1_faultAt 14 = .ok (.if_icmp .eq 5, 3) := by decide +kernel
theorem dX1_faultAt_17 : decode cX1_faultAt 17 = .ok (.iconst 3, 1) := by decide +kernel
theorem dX1_faultAt_18 : decode cX1_faultAt 18 = .ok (.ireturn, 1) := by decide +kernel
theorem dX1_faultAt_19 : decode cX1_faultAt 19 = .ok (.iload_n 2, 1) := by decide +kernel
theorem dX1_faultAt_20 : decode cX1_faultAt 20 = .ok (.iconst 0, 1) := by decide +kernel
theorem dX1_faultAt_21 : decode cX1_faultAt 21 = .ok (.aload_n 0, 1) := by decide +kernel
theorem dX1_faultAt_22 : decode cX1_faultAt 22 = .ok (.getfield 15, 3) := by decide +kernel
theorem dX1_faultAt_25 : decode cX1_faultAt 25 = .ok (.iconst 1, 1) := by decide +kernel
theorem dX1_faultAt_26 : decode cX1_faultAt 26 = .ok (.isub, 1) := by decide +kernel
theorem dX1_faultAt_27 : decode cX1_faultAt 27 = .ok (.invokestatic 28, 3) := by decide +kernel
theorem dX1_faultAt_30 : decode cX1_faultAt 30 = .ok (.ifCond .eq 7, 3) := by decide +kernel
theorem dX1_faultAt_33 : decode cX1_faultAt 33 = .ok (.iconst 0, 1) := by decide +kernel
theorem dX1_faultAt_34 : decode cX1_faultAt 34 = .ok (.goto 4, 3) := by decide +kernel
theorem dX1_faultAt_37 : decode cX1_faultAt 37 = .ok (.iconst 2, 1) := by decide +kernel
theorem dX1_faultAt_38 : decode cX1_faultAt 38 = .ok (.ireturn, 1) := by decide +kernel
set_option maxHeartbeats 4000000 in
set_option maxRecDepth 100000 in
theorem c_X1_faultAt {l : Launch} {Y : ww_Y} {ad : Nat → Nat} {G : List ww_L} (o0 : Nat) (h0 : ww_at G o0 (ww_LSheet o0)) (σ : ww_M) (p1 : Int32) (p2 : Int32) : ww_Cn l Y ad G yX1_faultAt cX1_faultAt 3 (some .int) 2 [.ref (ad o0), .int p1, .int p2] σ ((f_X1_faultAt σ o0 p1 p2).bind (ww_ri σ)) := by
  refine ww_met (by decide +kernel) (Nat.le_of_ble_eq_true rfl) ?_
  intro X hC hR
  have hC : ww_C X l Y ad G 2 cX1_faultAt 3 RX1 := hC
  show ww_V X Y ad G 3 σ 0 [(0, .ref (ad o0)), (1, .int p1), (2, .int p2)] [] ((f_X1_faultAt σ o0 p1 p2).bind (ww_ri σ))
  unfold f_X1_faultAt
  refine ww_aload_n (pc := 0) hC 0 rfl dX1_faultAt_0 rfl ?_
  refine ww_geti (pc := 1) (Cl := RX1) (T := TX1) (N := 3) (j := 2) (ref := RX1) hC (h0 0 _ rfl) rfl inT_X1 (by decide) mw_282 rfl rfl dX1_faultAt_1 ?_
  refine ww_if_ge (pc := 4) (tgt := 9) hC dX1_faultAt_4 (by decide) ?_ ?_
  · refine ww_aload_n (pc := 9) hC 0 rfl dX1_faultAt_9 rfl ?_
    refine ww_geti (pc := 10) (Cl := RX1) (T := TX1) (N := 3) (j := 1) (ref := RX1) hC (h0 0 _ rfl) rfl inT_X1 (by decide) mw_280 rfl rfl dX1_faultAt_10 ?_
    refine ww_iload_n (pc := 13) hC 1 rfl dX1_faultAt_13 rfl ?_
    refine ww_icmp_eq (pc := 14) (tgt := 19) hC dX1_faultAt_14 (by decide) ?_ ?_
    · refine ww_iload_n (pc := 19) hC 2 rfl dX1_faultAt_19 rfl ?_
      refine ww_iconst (pc := 20) (v := 0) hC dX1_faultAt_20 rfl ?_
      refine ww_aload_n (pc := 21) hC 0 rfl dX1_faultAt_21 rfl ?_
      refine ww_geti (pc := 22) (Cl := RX1) (T := TX1) (N := 3) (j := 2) (ref := RX1) hC (h0 0 _ rfl) rfl inT_X1 (by decide) mw_282 rfl rfl dX1_faultAt_22 ?_
      refine ww_iconst (pc := 25) (v := 1) hC dX1_faultAt_25 rfl ?_
      refine ww_isub (pc := 26) hC dX1_faultAt_26 ?_
      refine ww_callSNi (pc := 27) (st := []) (As := [.int p2, .int 0, .int ((σ o0 2) - 1)]) hC (c_X6_within σ p2 0 ((σ o0 2) - 1)) mm_X6_within mw_849 (by omega) (by decide) (Nat.le_of_ble_eq_true rfl) rfl dX1_faultAt_27 (fun v27 => ?_)
      refine ww_if_eq (pc := 30) (tgt := 37) hC dX1_faultAt_30 (by decide) ?_ ?_
      · refine ww_iconst (pc := 37) (v := 2) hC dX1_faultAt_37 rfl ?_
        exact ww_ireturn (pc := 38) hC hR dX1_faultAt_38 rfl
      · refine ww_iconst (pc := 33) (v := 0) hC dX1_faultAt_33 rfl ?_
        refine ww_goto (pc := 34) (tgt := 38) hC dX1_faultAt_34 (by decide) ?_
        exact ww_ireturn (pc := 38) hC hR dX1_faultAt_38 rfl
    · refine ww_iconst (pc := 17) (v := 3) hC dX1_faultAt_17 rfl ?_
      exact ww_ireturn (pc := 18) hC hR dX1_faultAt_18 rfl
  · refine ww_iconst (pc := 7) (v := 1) hC dX1_faultAt_7 rfl ?_
    exact ww_ireturn (pc := 8) hC hR dX1_faultAt_8 rfl
theorem dX1_put_0 : decode cX1_put 0 = .ok (.aload_n 0, 1) := by decide +kernel
theorem dX1_put_1 : decode cX1_put 1 = .ok (.getfield 19, 3) := by decide +kernel
theorem dX1_put_4 : decode cX1_put 4 = .ok (.lookupswitch 50 #[(0, 28), (1, 39)], 28) := by decide +kernel
theorem dX1_put_32 : decode cX1_put 32 = .ok (.aload_n 0, 1) := by decide +kernel
theorem dX1_put_33 : decode cX1_put 33 = .ok (.getfield 9, 3) := by decide +kernel
theorem dX1_put_36 : decode cX1_put 36 = .ok (.iload_n 1, 1) := by decide +kernel
theorem dX1_put_37 : decode cX1_put 37 = .ok (.iload_n 2, 1) := by decide +kernel
theorem dX1_put_38 : decode cX1_put 38 = .ok (.i2b, 1) := by decide +kernel
theorem dX1_put_39 : decode cX1_put 39 = .ok (.iastore, 1) := by decide +kernel
theorem dX1_put_40 : decode cX1_put 40 = .ok (.goto 21, 3) := by decide +kernel
theorem dX1_put_43 : decode cX1_put 43 = .ok (.aload_n 0, 1) := by decide +kernel
theorem dX1_put_44 : decode cX1_put 44 = .ok (.getfield 9, 3) := by decide +kernel
theorem dX1_put_47 : decode cX1_put 47 = .ok (.iload_n 1, 1) := by decide +kernel
theorem dX1_put_48 : decode cX1_put 48 = .ok (.iload_n 2, 1) := by decide +kernel
theorem dX1_put_49 : decode cX1_put 49 = .ok (.i2s, 1) := by decide +kernel
theorem dX1_put_50 : decode cX1_put 50 = .ok (.iastore, 1) := by decide +kernel
theorem dX1_put_51 : decode cX1_put 51 = .ok (.goto 10, 3) := by decide +kernel
theorem dX1_put_54 : decode cX1_put 54 = .ok (.aload_n 0, 1) := by decide +kernel
theorem dX1_put_55 : decode cX1_put 55 = .ok (.getfield 9, 3) := by decide +kernel
theorem dX1_put_58 : decode cX1_put 58 = .ok (.iload_n 1, 1) := by decide +kernel
theorem dX1_put_59 : decode cX1_put 59 = .ok (.iload_n 2, 1) := by decide +kernel
theorem dX1_put_60 : decode cX1_put 60 = .ok (.iastore, 1) := by decide +kernel
theorem dX1_put_61 : decode cX1_put 61 = .ok (.return_, 1) := by decide +kernel
set_option maxHeartbeats 4000000 in
set_option maxRecDepth 100000 in
theorem c_X1_put {l : Launch} {Y : ww_Y} {ad : Nat → Nat} {G : List ww_L} (o0 : Nat) (h0 : ww_at G o0 (ww_LSheet o0)) (σ : ww_M) (p1 : Int32) (p2 : Int32) : ww_Cn l Y ad G yX1_put cX1_put 3 none 1 [.ref (ad o0), .int p1, .int p2] σ ((f_X1_put σ o0 p1 p2).bind ww_rv) := by
  refine ww_met (by decide +kernel) (Nat.le_of_ble_eq_true rfl) ?_
  intro X hC hR
  have hC : ww_C X l Y ad G 1 cX1_put 3 RX1 := hC
  show ww_V X Y ad G 3 σ 0 [(0, .ref (ad o0)), (1, .int p1), (2, .int p2)] [] ((f_X1_put σ o0 p1 p2).bind ww_rv)
  unfold f_X1_put
  refine ww_aload_n (pc := 0) hC 0 rfl dX1_put_0 rfl ?_
  refine ww_geti (pc := 1) (Cl := RX1) (T := TX1) (N := 3) (j := 1) (ref := RX1) hC (h0 0 _ rfl) rfl inT_X1 (by decide) mw_280 rfl rfl dX1_put_1 ?_
  refine ww_look (pc := 4) (tgt := 32) (off := 28) hC 0 dX1_put_4 (by decide) (by decide) (by decide) ?_ (fun q4_0 => ?_)
  · refine ww_aload_n (pc := 32) hC 0 rfl dX1_put_32 rfl ?_
    refine ww_getr (pc := 33) (Cl := RX1) (T := TX1) (N := 3) (j := 0) (ref := RX1) hC (h0 0 _ rfl) rfl inT_X1 (by decide) mw_278 rfl rfl dX1_put_33 ?_
    refine ww_iload_n (pc := 36) hC 1 rfl dX1_put_36 rfl ?_
    refine ww_iload_n (pc := 37) hC 2 rfl dX1_put_37 rfl ?_
    refine ww_i2b (pc := 38) hC dX1_put_38 ?_
    refine ww_iast (pc := 39) hC (h0 1 _ rfl) dX1_put_39 ?_
    refine ww_goto (pc := 40) (tgt := 61) hC dX1_put_40 (by decide) ?_
    exact ww_return (pc := 61) hC hR dX1_put_61 rfl
  refine ww_look (pc := 4) (tgt := 43) (off := 39) hC 1 dX1_put_4 (by decide) (by decide) (by decide) ?_ (fun q4_1 => ?_)
  · refine ww_aload_n (pc := 43) hC 0 rfl dX1_put_43 rfl ?_
    refine ww_getr (pc := 44) (Cl := RX1) (T := TX1) (N := 3) (j := 0) (ref := RX1) hC (h0 0 _ rfl) rfl inT_X1 (by decide) mw_278 rfl rfl dX1_put_44 ?_
    refine ww_iload_n (pc := 47) hC 1 rfl dX1_put_47 rfl ?_
    refine ww_iload_n (pc := 48) hC 2 rfl dX1_put_48 rfl ?_
    refine ww_i2s (pc := 49) hC dX1_put_49 ?_
    refine ww_iast (pc := 50) hC (h0 1 _ rfl) dX1_put_50 ?_
    refine ww_goto (pc := 51) (tgt := 61) hC dX1_put_51 (by decide) ?_
    exact ww_return (pc := 61) hC hR dX1_put_61 rfl
  have z4_0 : ¬ (0 : Int) = (σ o0 1).toInt := fun e => ww_nei q4_0 e.symm
  have z4_1 : ¬ (1 : Int) = (σ o0 1).toInt := fun e => ww_nei q4_1 e.symm
  refine ww_lookD (pc := 4) (tgt := 54) hC dX1_put_4 (by decide) (by simp [Op.lookupswitch.offset, z4_0, z4_1]) (by decide) ?_
  refine ww_aload_n (pc := 54) hC 0 rfl dX1_put_54 rfl ?_
  refine ww_getr (pc := 55) (Cl := RX1) (T := TX1) (N := 3) (j := 0) (ref := RX1) hC (h0 0 _ rfl) rfl inT_X1 (by decide) mw_278 rfl rfl dX1_put_55 ?_
  refine ww_iload_n (pc := 58) hC 1 rfl dX1_put_58 rfl ?_
  refine ww_iload_n (pc := 59) hC 2 rfl dX1_put_59 rfl ?_
  refine ww_iast (pc := 60) hC (h0 1 _ rfl) dX1_put_60 ?_
  exact ww_return (pc := 61) hC hR dX1_put_61 rfl
