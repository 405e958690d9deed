theorem dX0_loadParts_0 : decode cX0_loadParts 0 = .ok (.aload_n 0, 1) := by decide +kernel
theorem dX0_loadParts_1 : decode cX0_loadParts 1 = .ok (.iconst 0, 1) := by decide +kernel
theorem dX0_loadParts_2 : decode cX0_loadParts 2 = .ok (.putfield 72, 3) := by decide +kernel
theorem dX0_loadParts_5 : decode cX0_loadParts 5 = .ok (.aload_n 0, 1) := by decide +kernel
theorem dX0_loadParts_6 : decode cX0_loadParts 6 = .ok (.iconst 0, 1) := by decide +kernel
theorem dX0_loadParts_7 : decode cX0_loadParts 7 = .ok (.putfield 28, 3) := by decide +kernel
theorem dX0_loadParts_10 : decode cX0_loadParts 10 = .ok (.iconst 0, 1) := by decide +kernel
theorem dX0_loadParts_11 : decode cX0_loadParts 11 = .ok (.istore_n 3, 1) := by decide +kernel
theorem dX0_loadParts_12 : decode cX0_loadParts 12 = .ok (.iload_n 3, 1) := by decide +kernel
theorem dX0_loadParts_13 : decode cX0_loadParts 13 = .ok (.bipush 9, 2) := by decide +kernel
theorem dX0_loadParts_15 : decode cX0_loadParts 15 = .ok (.if_icmp .ge 109, 3) := by decide +kernel
theorem dX0_loadParts_18 : decode cX0_loadParts 18 = .ok (.iload_n 3, 1) := by decide +kernel
theorem dX0_loadParts_19 : decode cX0_loadParts 19 = .ok (.iconst 3, 1) := by decide +kernel
theorem dX0_loadParts_20 : decode cX0_loadParts 20 = .ok (.idiv, 1) := by decide +kernel
theorem dX0_loadParts_21 : decode cX0_loadParts 21 = .ok (.istore 4, 2) := by decide +kernel
theorem dX0_loadParts_23 : decode cX0_loadParts 23 = .ok (.aload_n 1, 1) := by decide +kernel
theorem dX0_loadParts_24 : decode cX0_loadParts 24 = .ok (.iload_n 3, 1) := by decide +kernel
theorem dX0_loadParts_25 : decode cX0_loadParts 25 = .ok (.invokevirtual 79, 3) := by decide +kernel
theorem dX0_loadParts_28 : decode cX0_loadParts 28 = .ok (.ifCond .eq 22, 3) := by decide +kernel
theorem dX0_loadParts_31 : decode cX0_loadParts 31 = .ok (.aload_n 1, 1) := by decide +kernel
theorem dX0_loadParts_32 : decode cX0_loadParts 32 = .ok (.iload 4, 2) := by decide +kernel
theorem dX0_loadParts_34 : decode cX0_loadParts 34 = .ok (.invokevirtual 83, 3) := by decide +kernel
theorem dX0_loadParts_37 : decode cX0_loadParts 37 = .ok (.ifCond .ne 13, 3) := by decide +kernel
theorem dX0_loadParts_40 : decode cX0_loadParts 40 = .ok (.iload 4, 2) := by decide +kernel
theorem dX0_loadParts_42 : decode cX0_loadParts 42 = .ok (.iload_n 2, 1) := by decide +kernel
theorem dX0_loadParts_43 : decode cX0_loadParts 43 = .ok (.if_icmp .eq 7, 3) := by decide +kernel
theorem dX0_loadParts_46 : decode cX0_loadParts 46 = .ok (.iconst 1, 1) := by decide +kernel
theorem dX0_loadParts_47 : decode cX0_loadParts 47 = .ok (.goto 4, 3) := by decide +kernel
theorem dX0_loadParts_50 : decode cX0_loadParts 50 = .ok (.iconst 0, 1) := by decide +kernel
theorem dX0_loadParts_51 : decode cX0_loadParts 51 = .ok (.istore 5, 2) := by decide +kernel
theorem dX0_loadParts_53 : decode cX0_loadParts 53 = .ok (.iload 5, 2) := by decide +kernel
theorem dX0_loadParts_55 : decode cX0_loadParts 55 = .ok (.ifCond .eq 63, 3) := by decide +kernel
theorem dX0_loadParts_58 : decode cX0_loadParts 58 = .ok (.aload_n 1, 1) := by decide +kernel
theorem dX0_loadParts_59 : decode cX0_loadParts 59 = .ok (.getfield 86, 3) := by decide +kernel
theorem dX0_loadParts_62 : decode cX0_loadParts 62 = .ok (.iload_n 3, 1) := by decide +kernel
theorem dX0_loadParts_63 : decode cX0_loadParts 63 = .ok (.iaload, 1) := by decide +kernel
theorem dX0_loadParts_64 : decode cX0_loadParts 64 = .ok (.ifCond .le 54, 3) := by decide +kernel
theorem dX0_loadParts_67 : decode cX0_loadParts 67 = .ok (.aload_n 0, 1) := by decide +kernel
theorem dX0_loadParts_68 : decode cX0_loadParts 68 = .ok (.getfield 72, 3) := by decide +kernel
theorem dX0_loadParts_71 : decode cX0_loadParts 71 = .ok (.bipush 6, 2) := by decide +kernel
theorem dX0_loadParts_73 : decode cX0_loadParts 73 = .ok (.if_icmp .ge 45, 3) := by decide +kernel
theorem dX0_loadParts_76 : decode cX0_loadParts 76 = .ok (.aload_n 0, 1) := by decide +kernel
theorem dX0_loadParts_77 : decode cX0_loadParts 77 = .ok (.getfield 15, 3) := by decide +kernel
theorem dX0_loadParts_80 : decode cX0_loadParts 80 = .ok (.aload_n 0, 1) := by decide +kernel
theorem dX0_loadParts_81 : decode cX0_loadParts 81 = .ok (.getfield 72, 3) := by decide +kernel
theorem dX0_loadParts_84 : decode cX0_loadParts 84 = .ok (.iload_n 3, 1) := by decide +kernel
theorem dX0_loadParts_85 : decode cX0_loadParts 85 = .ok (.iastore, 1) := by decide +kernel
theorem dX0_loadParts_86 : decode cX0_loadParts 86 = .ok (.aload_n 0, 1) := by decide +kernel
theorem dX0_loadParts_87 : decode cX0_loadParts 87 = .ok (.dup, 1) := by decide +kernel
theorem dX0_loadParts_88 : decode cX0_loadParts 88 = .ok (.getfield 28, 3) := by decide +kernel
theorem dX0_loadParts_91 : decode cX0_loadParts 91 = .ok (.aload_n 1, 1) := by decide +kernel
theorem dX0_loadParts_92 : decode cX0_loadParts 92 = .ok (.getfield 86, 3) := by decide +kernel
theorem dX0_loadParts_95 : decode cX0_loadParts 95 = .ok (.iload_n 3, 1) := by decide +kernel
theorem dX0_loadParts_96 : decode cX0_loadParts 96 = .ok (.iaload, 1) := by decide +kernel
theorem dX0_loadParts_97 : decode cX0_loadParts 97 = .ok (.iconst 2, 1) := by decide +kernel
theorem dX0_loadParts_98 : decode cX0_loadParts 98 = .ok (.aload_n 0, 1) := by decide +kernel
theorem dX0_loadParts_99 : decode cX0_loadParts 99 = .ok (.getfield 72, 3) := by decide +kernel
theorem dX0_loadParts_102 : decode cX0_loadParts 102 = .ok (.imul, 1) := by decide +kernel
theorem dX0_loadParts_103 : decode cX0_loadParts 103 = .ok (.ishl, 1) := by decide +kernel
theorem dX0_loadParts_104 : decode cX0_loadParts 104 = .ok (.ior, 1) := by decide +kernel
theorem dX0_loadParts_105 : decode cX0_loadParts 105 = .ok (.putfield 28, 3) := by decide +kernel
theorem dX0_loadParts_108 : decode cX0_loadParts 108 = .ok (.aload_n 0, 1) := by decide +kernel
theorem dX0_loadParts_109 : decode cX0_loadParts 109 = .ok (.dup, 1) := by decide +kernel
theorem dX0_loadParts_110 : decode cX0_loadParts 110 = .ok (.getfield 72, 3) := by decide +kernel
theorem dX0_loadParts_113 : decode cX0_loadParts 113 = .ok (.iconst 1, 1) := by decide +kernel
theorem dX0_loadParts_114 : decode cX0_loadParts 114 = .ok (.iadd, 1) := by decide +kernel
theorem dX0_loadParts_115 : decode cX0_loadParts 115 = .ok (.putfield 72, 3) := by decide +kernel
theorem dX0_loadParts_118 : decode cX0_loadParts 118 = .ok (.iinc 3 1, 3) := by decide +kernel
theorem dX0_loadParts_121 : decode cX0_loadParts 121 = .ok (.goto (-109), 3) := by decide +kernel
theorem dX0_loadParts_124 : decode cX0_loadParts 124 = .ok (.return_, 1) := by decide +kernel
set_option maxHeartbeats 4000000 in
set_option maxRecDepth 100000 in
theorem c_X0_loadParts {l : Launch} {Y : ww_Y} {ad : Nat → Nat} {G : List ww_L} (o0 : Nat) (h0 : ww_at G o0 (ww_LPlanner o0)) (o1 : Nat) (h1 : ww_at G o1 (ww_LShore o1)) (σ : ww_M) (p2 : Int32) : ww_Cn l Y ad G yX0_loadParts cX0_loadParts 6 none 4 [.ref (ad o0), .ref (ad o1), .int p2] σ ((f_X0_loadParts σ o0 o1 p2).bind ww_rv) := by
  refine ww_met (by decide +kernel) (Nat.le_of_ble_eq_true rfl) ?_
  intro X hC hR
  have hC : ww_C X l Y ad G 4 cX0_loadParts 6 RX0 := hC
  show ww_V X Y ad G 6 σ 0 [(0, .ref (ad o0)), (1, .ref (ad o1)), (2, .int p2)] [] ((f_X0_loadParts σ o0 o1 p2).bind ww_rv)
  have hJ124 : ∀ (σ : ww_M), ww_V X Y ad G 6 σ 124 [] [] ((f_X0_loadParts_j124 σ o0 o1 p2).bind ww_rv) := by
    intro σ
    unfold f_X0_loadParts_j124
    exact ww_return (pc := 124) hC hR dX0_loadParts_124 rfl
  have hJ12 : ∀ (σ : ww_M) (x3 : Int32), ww_V X Y ad G 6 σ 12 [(0, .ref (ad o0)), (1, .ref (ad o1)), (2, .int p2), (3, .int x3)] [] ((f_X0_loadParts_j12 σ o0 o1 p2 x3).bind ww_rv) := by
    intro σ x3
    unfold f_X0_loadParts_j12
    refine ww_assoc ?_
    refine ww_loop (f := f_X0_loadParts_b12 o0 o1 p2) (fun a12 => a12.2) (fun a12 => [(0, .ref (ad o0)), (1, .ref (ad o1)), (2, .int p2), (3, .int a12.1)]) (fun b12 => b12) (fun b12 => []) 124 (fun b12 => ?_) (fun a12 KK12 hc12 hx12 => ?_) ww_F (x3, σ)
    · exact hJ124 b12
    · unfold f_X0_loadParts_b12
      have hJ51 : ∀ (σ : ww_M) (x3 : Int32) (s0 : Int32), ww_V X Y ad G 6 σ 51 [(0, .ref (ad o0)), (1, .ref (ad o1)), (2, .int p2), (3, .int x3)] [.int s0] ((f_X0_loadParts_j51 σ o0 o1 p2 x3 s0).bind KK12) := by
        intro σ x3 s0
        unfold f_X0_loadParts_j51
        refine ww_istore (pc := 51) (lv' := [(5, .int s0), (0, .ref (ad o0)), (1, .ref (ad o1)), (2, .int p2), (3, .int x3)]) hC dX0_loadParts_51 (by decide) rfl ?_
        refine ww_iload (pc := 53) hC 0 rfl dX0_loadParts_53 ?_
        refine ww_if_eq (pc := 55) (tgt := 118) hC dX0_loadParts_55 (by decide) ?_ ?_
        · refine ww_iinc (pc := 118) (v := x3 + 1) (lv' := [(3, .int (x3 + 1)), (5, .int s0), (0, .ref (ad o0)), (1, .ref (ad o1)), (2, .int p2)]) hC 4 rfl dX0_loadParts_118 rfl (by decide) rfl ?_
          refine ww_goto (pc := 121) (tgt := 12) hC dX0_loadParts_121 (by decide) ?_
          refine ww_lv [2, 3, 4, 0] rfl ?_
          exact hc12 (x3 + 1, σ)
        · refine ww_aload_n (pc := 58) hC 2 rfl dX0_loadParts_58 rfl ?_
          refine ww_getr (pc := 59) (Cl := RX2) (T := TX2) (N := 17) (j := 6) (ref := RX2) hC (h1 0 _ rfl) rfl inT_X2 (by decide) mw_153 rfl rfl dX0_loadParts_59 ?_
          refine ww_iload_n (pc := 62) hC 4 rfl dX0_loadParts_62 rfl ?_
          refine ww_iald (pc := 63) hC (h1 7 _ rfl) dX0_loadParts_63 ?_
          refine ww_if_le (pc := 64) (tgt := 118) hC dX0_loadParts_64 (by decide) ?_ ?_
          · refine ww_iinc (pc := 118) (v := x3 + 1) (lv' := [(3, .int (x3 + 1)), (5, .int s0), (0, .ref (ad o0)), (1, .ref (ad o1)), (2, .int p2)]) hC 4 rfl dX0_loadParts_118 rfl (by decide) rfl ?_
            refine ww_goto (pc := 121) (tgt := 12) hC dX0_loadParts_121 (by decide) ?_
            refine ww_lv [2, 3, 4, 0] rfl ?_
            exact hc12 (x3 + 1, σ)
          · refine ww_aload_n (pc := 67) hC 1 rfl dX0_loadParts_67 rfl ?_
            refine ww_geti (pc := 68) (Cl := RX0) (T := TX0) (N := 9) (j := 4) (ref := RX0) hC (h0 0 _ rfl) rfl inT_X0 (by decide) mw_247 rfl rfl dX0_loadParts_68 ?_
            refine ww_bipush (pc := 71) (v := 6) hC dX0_loadParts_71 rfl ?_
            refine ww_icmp_ge (pc := 73) (tgt := 118) hC dX0_loadParts_73 (by decide) ?_ ?_
            · refine ww_iinc (pc := 118) (v := x3 + 1) (lv' := [(3, .int (x3 + 1)), (5, .int s0), (0, .ref (ad o0)), (1, .ref (ad o1)), (2, .int p2)]) hC 4 rfl dX0_loadParts_118 rfl (by decide) rfl ?_
              refine ww_goto (pc := 121) (tgt := 12) hC dX0_loadParts_121 (by decide) ?_
              refine ww_lv [2, 3, 4, 0] rfl ?_
              exact hc12 (x3 + 1, σ)
            · refine ww_aload_n (pc := 76) hC 1 rfl dX0_loadParts_76 rfl ?_
              refine ww_getr (pc := 77) (Cl := RX0) (T := TX0) (N := 9) (j := 1) (ref := RX0) hC (h0 0 _ rfl) rfl inT_X0 (by decide) mw_244 rfl rfl dX0_loadParts_77 ?_
              refine ww_aload_n (pc := 80) hC 1 rfl dX0_loadParts_80 rfl ?_
              refine ww_geti (pc := 81) (Cl := RX0) (T := TX0) (N := 9) (j := 4) (ref := RX0) hC (h0 0 _ rfl) rfl inT_X0 (by decide) mw_247 rfl rfl dX0_loadParts_81 ?_
              refine ww_iload_n (pc := 84) hC 4 rfl dX0_loadParts_84 rfl ?_
              refine ww_iast (pc := 85) hC (h0 2 _ rfl) dX0_loadParts_85 ?_
              refine ww_aload_n (pc := 86) hC 1 rfl dX0_loadParts_86 rfl ?_
              refine ww_dup (pc := 87) hC dX0_loadParts_87 rfl ?_
              refine ww_geti (pc := 88) (Cl := RX0) (T := TX0) (N := 9) (j := 7) (ref := RX0) hC (h0 0 _ rfl) rfl inT_X0 (by decide) mw_250 rfl rfl dX0_loadParts_88 ?_
              refine ww_aload_n (pc := 91) hC 2 rfl dX0_loadParts_91 rfl ?_
              refine ww_getr (pc := 92) (Cl := RX2) (T := TX2) (N := 17) (j := 6) (ref := RX2) hC (h1 0 _ rfl) rfl inT_X2 (by decide) mw_153 rfl rfl dX0_loadParts_92 ?_
              refine ww_iload_n (pc := 95) hC 4 rfl dX0_loadParts_95 rfl ?_
              refine ww_iald (pc := 96) hC (h1 7 _ rfl) dX0_loadParts_96 ?_
              refine ww_iconst (pc := 97) (v := 2) hC dX0_loadParts_97 rfl ?_
              refine ww_aload_n (pc := 98) hC 1 rfl dX0_loadParts_98 rfl ?_
              refine ww_geti (pc := 99) (Cl := RX0) (T := TX0) (N := 9) (j := 4) (ref := RX0) hC (h0 0 _ rfl) rfl inT_X0 (by decide) mw_247 rfl rfl dX0_loadParts_99 ?_
              refine ww_imul (pc := 102) hC dX0_loadParts_102 ?_
              refine ww_ishl (pc := 103) hC dX0_loadParts_103 ?_
              refine ww_ior (pc := 104) hC dX0_loadParts_104 ?_
              refine ww_puti (pc := 105) (Cl := RX0) (T := TX0) (N := 9) (j := 7) (ref := RX0) hC (h0 0 _ rfl) rfl inT_X0 (by decide) mw_250 rfl tyX0 tyX0_ok nmX0 rfl rfl (tyX0_ok 7 (by decide)) dX0_loadParts_105 ?_
              refine ww_aload_n (pc := 108) hC 1 rfl dX0_loadParts_108 rfl ?_
              refine ww_dup (pc := 109) hC dX0_loadParts_109 rfl ?_
              refine ww_geti (pc := 110) (Cl := RX0) (T := TX0) (N := 9) (j := 4) (ref := RX0) hC (h0 0 _ rfl) rfl inT_X0 (by decide) mw_247 rfl rfl dX0_loadParts_110 ?_
              refine ww_iconst (pc := 113) (v := 1) hC dX0_loadParts_113 rfl ?_
              refine ww_iadd (pc := 114) hC dX0_loadParts_114 ?_
              refine ww_puti (pc := 115) (Cl := RX0) (T := TX0) (N := 9) (j := 4) (ref := RX0) hC (h0 0 _ rfl) rfl inT_X0 (by decide) mw_247 rfl tyX0 tyX0_ok nmX0 rfl rfl (tyX0_ok 4 (by decide)) dX0_loadParts_115 ?_
              refine ww_iinc (pc := 118) (v := x3 + 1) (lv' := [(3, .int (x3 + 1)), (5, .int s0), (0, .ref (ad o0)), (1, .ref (ad o1)), (2, .int p2)]) hC 4 rfl dX0_loadParts_118 rfl (by decide) rfl ?_
              refine ww_goto (pc := 121) (tgt := 12) hC dX0_loadParts_121 (by decide) ?_
              refine ww_lv [2, 3, 4, 0] rfl ?_
              exact hc12 (x3 + 1, ww_up (ww_up (ww_up σ (o0 + 2) (ww_ix (σ o0 4)) x3) o0 7 (((ww_up σ (o0 + 2) (ww_ix (σ o0 4)) x3) o0 7) ||| (ww_shl ((ww_up σ (o0 + 2) (ww_ix (σ o0 4)) x3) (o1 + 7) (ww_ix x3)) (2 * ((ww_up σ (o0 + 2) (ww_ix (σ o0 4)) x3) o0 4))))) o0 4 (((ww_up (ww_up σ (o0 + 2) (ww_ix (σ o0 4)) x3) o0 7 (((ww_up σ (o0 + 2) (ww_ix (σ o0 4)) x3) o0 7) ||| (ww_shl ((ww_up σ (o0 + 2) (ww_ix (σ o0 4)) x3) (o1 + 7) (ww_ix x3)) (2 * ((ww_up σ (o0 + 2) (ww_ix (σ o0 4)) x3) o0 4))))) o0 4) + 1))
      have hJ50 : ∀ (σ : ww_M) (x3 : Int32), ww_V X Y ad G 6 σ 50 [(0, .ref (ad o0)), (1, .ref (ad o1)), (2, .int p2), (3, .int x3)] [] ((f_X0_loadParts_j50 σ o0 o1 p2 x3).bind KK12) := by
        intro σ x3
        unfold f_X0_loadParts_j50
        refine ww_iconst (pc := 50) (v := 0) hC dX0_loadParts_50 rfl ?_
        exact hJ51 σ x3 0
      refine ww_iload_n (pc := 12) hC 3 rfl dX0_loadParts_12 rfl ?_
      refine ww_bipush (pc := 13) (v := 9) hC dX0_loadParts_13 rfl ?_
      refine ww_icmp_ge (pc := 15) (tgt := 124) hC dX0_loadParts_15 (by decide) ?_ ?_
      · refine ww_lv [] rfl ?_
        exact hx12 a12.2
      · refine ww_iload_n (pc := 18) hC 3 rfl dX0_loadParts_18 rfl ?_
        refine ww_iconst (pc := 19) (v := 3) hC dX0_loadParts_19 rfl ?_
        refine ww_idiv_c (pc := 20) hC dX0_loadParts_20 (by decide) ?_
        refine ww_istore (pc := 21) (lv' := [(4, .int (a12.1 / 3)), (0, .ref (ad o0)), (1, .ref (ad o1)), (2, .int p2), (3, .int a12.1)]) hC dX0_loadParts_21 (by decide) rfl ?_
        refine ww_aload_n (pc := 23) hC 2 rfl dX0_loadParts_23 rfl ?_
        refine ww_iload_n (pc := 24) hC 4 rfl dX0_loadParts_24 rfl ?_
        refine ww_callVi (pc := 25) (st := []) (As := [.int a12.1]) hC (c_X2_hasSlot o1 h1 a12.2 a12.1) mm_X2_hasSlot mw_681 (h1 0 _ rfl) rfl (by omega) (by decide) (Nat.le_of_ble_eq_true rfl) rfl dX0_loadParts_25 (fun v25 => ?_)
        refine ww_if_eq (pc := 28) (tgt := 50) hC dX0_loadParts_28 (by decide) ?_ ?_
        · refine ww_lv [1, 2, 3, 4] rfl ?_
          exact hJ50 a12.2 a12.1
        · refine ww_aload_n (pc := 31) hC 2 rfl dX0_loadParts_31 rfl ?_
          refine ww_iload (pc := 32) hC 0 rfl dX0_loadParts_32 ?_
          refine ww_callVi (pc := 34) (st := []) (As := [.int (a12.1 / 3)]) hC (c_X2_isLost o1 h1 a12.2 (a12.1 / 3)) mm_X2_isLost mw_682 (h1 0 _ rfl) rfl (by omega) (by decide) (Nat.le_of_ble_eq_true rfl) rfl dX0_loadParts_34 (fun v34 => ?_)
          refine ww_if_ne (pc := 37) (tgt := 50) hC dX0_loadParts_37 (by decide) ?_ ?_
          · refine ww_lv [1, 2, 3, 4] rfl ?_
            exact hJ50 a12.2 a12.1
          · refine ww_iload (pc := 40) hC 0 rfl dX0_loadParts_40 ?_
            refine ww_iload_n (pc := 42) hC 3 rfl dX0_loadParts_42 rfl ?_
            refine ww_icmp_eq (pc := 43) (tgt := 50) hC dX0_loadParts_43 (by decide) ?_ ?_
            · refine ww_lv [1, 2, 3, 4] rfl ?_
              exact hJ50 a12.2 a12.1
            · refine ww_iconst (pc := 46) (v := 1) hC dX0_loadParts_46 rfl ?_
              refine ww_goto (pc := 47) (tgt := 51) hC dX0_loadParts_47 (by decide) ?_
              refine ww_lv [1, 2, 3, 4] rfl ?_
              exact hJ51 a12.2 a12.1 1
  unfold f_X0_loadParts
  refine ww_aload_n (pc := 0) hC 0 rfl dX0_loadParts_0 rfl ?_
  refine ww_iconst (pc := 1) (v := 0) hC dX0_loadParts_1 rfl ?_
  refine ww_puti (pc := 2) (Cl := RX0) (T := TX0) (N := 9) (j := 4) (ref := RX0) hC (h0 0 _ rfl) rfl inT_X0 (by decide) mw_247 rfl tyX0 tyX0_ok nmX0 rfl rfl (tyX0_ok 4 (by decide)) dX0_loadParts_2 ?_
  refine ww_aload_n (pc := 5) hC 0 rfl dX0_loadParts_5 rfl ?_
  refine ww_iconst (pc := 6) (v := 0) hC dX0_loadParts_6 rfl ?_
  refine ww_puti (pc := 7) (Cl := RX0) (T := TX0) (N := 9) (j := 7) (ref := RX0) hC (h0 0 _ rfl) rfl inT_X0 (by decide) mw_250 rfl tyX0 tyX0_ok nmX0 rfl rfl (tyX0_ok 7 (by decide)) dX0_loadParts_7 ?_
  refine ww_iconst (pc := 10) (v := 0) hC dX0_loadParts_10 rfl ?_
  refine ww_istore_n (pc := 11) (lv' := [(3, .int 0), (0, .ref (ad o0)), (1, .ref (ad o1)), (2, .int p2)]) hC dX0_loadParts_11 rfl (by decide) rfl ?_
  refine ww_lv [1, 2, 3, 0] rfl ?_
  exact hJ12 (ww_up (ww_up σ o0 4 0) o0 7 0) 0
theorem dX0_loadHour_0 : decode cX0_loadHour 0 = .ok (.aload_n 0, 1) := by decide +kernel
theorem dX0_loadHour_1 : decode cX0_loadHour 1 = .ok (.getfield 18, 3) := by decide +kernel
theorem dX0_loadHour_4 : decode cX0_loadHour 4 = .ok (.iload_n 2, 1) := by decide +kernel
theorem dX0_loadHour_5 : decode cX0_loadHour 5 = .ok (.iconst 0, 1) := by decide +kernel
theorem dX0_loadHour_6 : decode cX0_loadHour 6 = .ok (.iastore, 1) := by decide +kernel
theorem dX0_loadHour_7 : decode cX0_loadHour 7 = .ok (.iconst 0, 1) := by decide +kernel
theorem dX0_loadHour_8 : decode cX0_loadHour 8 = .ok (.istore 5, 2) := by decide +kernel
theorem dX0_loadHour_10 : decode cX0_loadHour 10 = .ok (.iload 5, 2) := by decide +kernel
theorem dX0_loadHour_12 : decode cX0_loadHour 12 = .ok (.aload_n 0, 1) := by decide +kernel
theorem dX0_loadHour_13 : decode cX0_loadHour 13 = .ok (.getfield 72, 3) := by decide +kernel
theorem dX0_loadHour_16 : decode cX0_loadHour 16 = .ok (.if_icmp .ge 81, 3) := by decide +kernel
theorem dX0_loadHour_19 : decode cX0_loadHour 19 = .ok (.iload_n 3, 1) := by decide +kernel
theorem dX0_loadHour_20 : decode cX0_loadHour 20 = .ok (.aload_n 1, 1) := by decide +kernel
theorem dX0_loadHour_21 : decode cX0_loadHour 21 = .ok (.aload_n 0, 1) := by decide +kernel
theorem dX0_loadHour_22 : decode cX0_loadHour 22 = .ok (.getfield 15, 3) := by decide +kernel
theorem dX0_loadHour_25 : decode cX0_loadHour 25 = .ok (.iload 5, 2) := by decide +kernel
theorem dX0_loadHour_27 : decode cX0_loadHour 27 = .ok (.iaload, 1) := by decide +kernel
theorem dX0_loadHour_28 : decode cX0_loadHour 28 = .ok (.invokevirtual 89, 3) := by decide +kernel
theorem dX0_loadHour_31 : decode cX0_loadHour 31 = .ok (.ishr, 1) := by decide +kernel
theorem dX0_loadHour_32 : decode cX0_loadHour 32 = .ok (.iconst 1, 1) := by decide +kernel
theorem dX0_loadHour_33 : decode cX0_loadHour 33 = .ok (.iand, 1) := by decide +kernel
theorem dX0_loadHour_34 : decode cX0_loadHour 34 = .ok (.ifCond .ne 7, 3) := by decide +kernel
theorem dX0_loadHour_37 : decode cX0_loadHour 37 = .ok (.iconst 1, 1) := by decide +kernel
theorem dX0_loadHour_38 : decode cX0_loadHour 38 = .ok (.goto 4, 3) := by decide +kernel
theorem dX0_loadHour_41 : decode cX0_loadHour 41 = .ok (.iconst 0, 1) := by decide +kernel
theorem dX0_loadHour_42 : decode cX0_loadHour 42 = .ok (.istore 6, 2) := by decide +kernel
theorem dX0_loadHour_44 : decode cX0_loadHour 44 = .ok (.iload 4, 2) := by decide +kernel
theorem dX0_loadHour_46 : decode cX0_loadHour 46 = .ok (.aload_n 0, 1) := by decide +kernel
theorem dX0_loadHour_47 : decode cX0_loadHour 47 = .ok (.getfield 15, 3) := by decide +kernel
theorem dX0_loadHour_50 : decode cX0_loadHour 50 = .ok (.iload 5, 2) := by decide +kernel
theorem dX0_loadHour_52 : decode cX0_loadHour 52 = .ok (.iaload, 1) := by decide +kernel
theorem dX0_loadHour_53 : decode cX0_loadHour 53 = .ok (.iconst 3, 1) := by decide +kernel
theorem dX0_loadHour_54 : decode cX0_loadHour 54 = .ok (.idiv, 1) := by decide +kernel
theorem dX0_loadHour_55 : decode cX0_loadHour 55 = .ok (.ishr, 1) := by decide +kernel
theorem dX0_loadHour_56 : decode cX0_loadHour 56 = .ok (.iconst 1, 1) := by decide +kernel
theorem dX0_loadHour_57 : decode cX0_loadHour 57 = .ok (.iand, 1) := by decide +kernel
theorem dX0_loadHour_58 : decode cX0_loadHour 58 = .ok (.ifCond .ne 7, 3) := by decide +kernel
theorem dX0_loadHour_61 : decode cX0_loadHour 61 = .ok (.iconst 1, 1) := by decide +kernel
theorem dX0_loadHour_62 : decode cX0_loadHour 62 = .ok (.goto 4, 3) := by decide +kernel
theorem dX0_loadHour_65 : decode cX0_loadHour 65 = .ok (.iconst 0, 1) := by decide +kernel
theorem dX0_loadHour_66 : decode cX0_loadHour 66 = .ok (.istore 7, 2) := by decide +kernel
theorem dX0_loadHour_68 : decode cX0_loadHour 68 = .ok (.iload 6, 2) := by decide +kernel
theorem dX0_loadHour_70 : decode cX0_loadHour 70 = .ok (.ifCond .eq 21, 3) := by decide +kernel
theorem dX0_loadHour_73 : decode cX0_loadHour 73 = .ok (.iload 7, 2) := by decide +kernel
theorem dX0_loadHour_75 : decode cX0_loadHour 75 = .ok (.ifCond .eq 16, 3) := by decide +kernel
theorem dX0_loadHour_78 : decode cX0_loadHour 78 = .ok (.aload_n 0, 1) := by decide +kernel
theorem dX0_loadHour_79 : decode cX0_loadHour 79 = .ok (.getfield 18, 3) := by decide +kernel
theorem dX0_loadHour_82 : decode cX0_loadHour 82 = .ok (.iload_n 2, 1) := by decide +kernel
theorem dX0_loadHour_83 : decode cX0_loadHour 83 = .ok (.dup2, 1) := by decide +kernel
theorem dX0_loadHour_84 : decode cX0_loadHour 84 = .ok (.iaload, 1) := by decide +kernel
theorem dX0_loadHour_85 : decode cX0_loadHour 85 = .ok (.iconst 1, 1) := by decide +kernel
theorem dX0_loadHour_86 : decode cX0_loadHour 86 = .ok (.iload 5, 2) := by decide +kernel
theorem dX0_loadHour_88 : decode cX0_loadHour 88 = .ok (.ishl, 1) := by decide +kernel
theorem dX0_loadHour_89 : decode cX0_loadHour 89 = .ok (.ior, 1) := by decide +kernel
theorem dX0_loadHour_90 : decode cX0_loadHour 90 = .ok (.iastore, 1) := by decide +kernel
theorem dX0_loadHour_91 : decode cX0_loadHour 91 = .ok (.iinc 5 1, 3) := by decide +kernel
theorem dX0_loadHour_94 : decode cX0_loadHour 94 = .ok (.goto (-84), 3) := by decide +kernel
theorem dX0_loadHour_97 : decode cX0_loadHour 97 = .ok (.return_, 1) := by decide +kernel
set_option maxHeartbeats 4000000 in
set_option maxRecDepth 100000 in
theorem c_X0_loadHour {l : Launch} {Y : ww_Y} {ad : Nat → Nat} {G : List ww_L} (o0 : Nat) (h0 : ww_at G o0 (ww_LPlanner o0)) (o1 : Nat) (h1 : ww_at G o1 (ww_LShore o1)) (σ : ww_M) (p2 : Int32) (p3 : Int32) (p4 : Int32) : ww_Cn l Y ad G yX0_loadHour cX0_loadHour 8 none 2 [.ref (ad o0), .ref (ad o1), .int p2, .int p3, .int p4] σ ((f_X0_loadHour σ o0 o1 p2 p3 p4).bind ww_rv) := by
  refine ww_met (by decide +kernel) (Nat.le_of_ble_eq_true rfl) ?_
  intro X hC hR
  have hC : ww_C X l Y ad G 2 cX0_loadHour 8 RX0 := hC
  show ww_V X Y ad G 8 σ 0 [(0, .ref (ad o0)), (1, .ref (ad o1)), (2, .int p2), (3, .int p3), (4, .int p4)] [] ((f_X0_loadHour σ o0 o1 p2 p3 p4).bind ww_rv)
  have hJ97 : ∀ (σ : ww_M), ww_V X Y ad G 8 σ 97 [] [] ((f_X0_loadHour_j97 σ o0 o1 p2 p3 p4).bind ww_rv) := by
    intro σ
    unfold f_X0_loadHour_j97
    exact ww_return (pc := 97) hC hR dX0_loadHour_97 rfl
  have hJ10 : ∀ (σ : ww_M) (x5 : Int32), ww_V X Y ad G 8 σ 10 [(0, .ref (ad o0)), (1, .ref (ad o1)), (2, .int p2), (3, .int p3), (4, .int p4), (5, .int x5)] [] ((f_X0_loadHour_j10 σ o0 o1 p2 p3 p4 x5).bind ww_rv) := by
    intro σ x5
    unfold f_X0_loadHour_j10
    refine ww_assoc ?_
    refine ww_loop (f := f_X0_loadHour_b10 o0 o1 p2 p3 p4) (fun a10 => a10.2) (fun a10 => [(0, .ref (ad o0)), (1, .ref (ad o1)), (2, .int p2), (3, .int p3), (4, .int p4), (5, .int a10.1)]) (fun b10 => b10) (fun b10 => []) 97 (fun b10 => ?_) (fun a10 KK10 hc10 hx10 => ?_) ww_F (x5, σ)
    · exact hJ97 b10
    · unfold f_X0_loadHour_b10
      have hJ66 : ∀ (σ : ww_M) (x5 : Int32) (x6 : Int32) (s0 : Int32), ww_V X Y ad G 8 σ 66 [(0, .ref (ad o0)), (1, .ref (ad o1)), (2, .int p2), (3, .int p3), (4, .int p4), (5, .int x5), (6, .int x6)] [.int s0] ((f_X0_loadHour_j66 σ o0 o1 p2 p3 p4 x5 x6 s0).bind KK10) := by
        intro σ x5 x6 s0
        unfold f_X0_loadHour_j66
        refine ww_istore (pc := 66) (lv' := [(7, .int s0), (0, .ref (ad o0)), (1, .ref (ad o1)), (2, .int p2), (3, .int p3), (4, .int p4), (5, .int x5), (6, .int x6)]) hC dX0_loadHour_66 (by decide) rfl ?_
        refine ww_iload (pc := 68) hC 7 rfl dX0_loadHour_68 ?_
        refine ww_if_eq (pc := 70) (tgt := 91) hC dX0_loadHour_70 (by decide) ?_ ?_
        · refine ww_iinc (pc := 91) (v := x5 + 1) (lv' := [(5, .int (x5 + 1)), (7, .int s0), (0, .ref (ad o0)), (1, .ref (ad o1)), (2, .int p2), (3, .int p3), (4, .int p4), (6, .int x6)]) hC 6 rfl dX0_loadHour_91 rfl (by decide) rfl ?_
          refine ww_goto (pc := 94) (tgt := 10) hC dX0_loadHour_94 (by decide) ?_
          refine ww_lv [2, 3, 4, 5, 6, 0] rfl ?_
          exact hc10 (x5 + 1, σ)
        · refine ww_iload (pc := 73) hC 0 rfl dX0_loadHour_73 ?_
          refine ww_if_eq (pc := 75) (tgt := 91) hC dX0_loadHour_75 (by decide) ?_ ?_
          · refine ww_iinc (pc := 91) (v := x5 + 1) (lv' := [(5, .int (x5 + 1)), (7, .int s0), (0, .ref (ad o0)), (1, .ref (ad o1)), (2, .int p2), (3, .int p3), (4, .int p4), (6, .int x6)]) hC 6 rfl dX0_loadHour_91 rfl (by decide) rfl ?_
            refine ww_goto (pc := 94) (tgt := 10) hC dX0_loadHour_94 (by decide) ?_
            refine ww_lv [2, 3, 4, 5, 6, 0] rfl ?_
            exact hc10 (x5 + 1, σ)
          · refine ww_aload_n (pc := 78) hC 1 rfl dX0_loadHour_78 rfl ?_
            refine ww_getr (pc := 79) (Cl := RX0) (T := TX0) (N := 9) (j := 2) (ref := RX0) hC (h0 0 _ rfl) rfl inT_X0 (by decide) mw_245 rfl rfl dX0_loadHour_79 ?_
            refine ww_iload_n (pc := 82) hC 3 rfl dX0_loadHour_82 rfl ?_
            refine ww_dup2 (pc := 83) hC dX0_loadHour_83 rfl rfl ?_
            refine ww_iald (pc := 84) hC (h0 3 _ rfl) dX0_loadHour_84 ?_
            refine ww_iconst (pc := 85) (v := 1) hC dX0_loadHour_85 rfl ?_
            refine ww_iload (pc := 86) hC 6 rfl dX0_loadHour_86 ?_
            refine ww_ishl (pc := 88) hC dX0_loadHour_88 ?_
            refine ww_ior (pc := 89) hC dX0_loadHour_89 ?_
            refine ww_iast (pc := 90) hC (h0 3 _ rfl) dX0_loadHour_90 ?_
            refine ww_iinc (pc := 91) (v := x5 + 1) (lv' := [(5, .int (x5 + 1)), (7, .int s0), (0, .ref (ad o0)), (1, .ref (ad o1)), (2, .int p2), (3, .int p3), (4, .int p4), (6, .int x6)]) hC 6 rfl dX0_loadHour_91 rfl (by decide) rfl ?_
            refine ww_goto (pc := 94) (tgt := 10) hC dX0_loadHour_94 (by decide) ?_
            refine ww_lv [2, 3, 4, 5, 6, 0] rfl ?_
            exact hc10 (x5 + 1, ww_up σ (o0 + 3) (ww_ix p2) ((σ (o0 + 3) (ww_ix p2)) ||| (ww_shl 1 x5)))
      have hJ42 : ∀ (σ : ww_M) (x5 : Int32) (s0 : Int32), ww_V X Y ad G 8 σ 42 [(0, .ref (ad o0)), (1, .ref (ad o1)), (2, .int p2), (3, .int p3), (4, .int p4), (5, .int x5)] [.int s0] ((f_X0_loadHour_j42 σ o0 o1 p2 p3 p4 x5 s0).bind KK10) := by
        intro σ x5 s0
        unfold f_X0_loadHour_j42
        refine ww_istore (pc := 42) (lv' := [(6, .int s0), (0, .ref (ad o0)), (1, .ref (ad o1)), (2, .int p2), (3, .int p3), (4, .int p4), (5, .int x5)]) hC dX0_loadHour_42 (by decide) rfl ?_
        refine ww_iload (pc := 44) hC 5 rfl dX0_loadHour_44 ?_
        refine ww_aload_n (pc := 46) hC 1 rfl dX0_loadHour_46 rfl ?_
        refine ww_getr (pc := 47) (Cl := RX0) (T := TX0) (N := 9) (j := 1) (ref := RX0) hC (h0 0 _ rfl) rfl inT_X0 (by decide) mw_244 rfl rfl dX0_loadHour_47 ?_
        refine ww_iload (pc := 50) hC 6 rfl dX0_loadHour_50 ?_
        refine ww_iald (pc := 52) hC (h0 2 _ rfl) dX0_loadHour_52 ?_
        refine ww_iconst (pc := 53) (v := 3) hC dX0_loadHour_53 rfl ?_
        refine ww_idiv_c (pc := 54) hC dX0_loadHour_54 (by decide) ?_
        refine ww_ishr (pc := 55) hC dX0_loadHour_55 ?_
        refine ww_iconst (pc := 56) (v := 1) hC dX0_loadHour_56 rfl ?_
        refine ww_iand (pc := 57) hC dX0_loadHour_57 ?_
        refine ww_if_ne (pc := 58) (tgt := 65) hC dX0_loadHour_58 (by decide) ?_ ?_
        · refine ww_iconst (pc := 65) (v := 0) hC dX0_loadHour_65 rfl ?_
          refine ww_lv [1, 2, 3, 4, 5, 6, 0] rfl ?_
          exact hJ66 σ x5 s0 0
        · refine ww_iconst (pc := 61) (v := 1) hC dX0_loadHour_61 rfl ?_
          refine ww_goto (pc := 62) (tgt := 66) hC dX0_loadHour_62 (by decide) ?_
          refine ww_lv [1, 2, 3, 4, 5, 6, 0] rfl ?_
          exact hJ66 σ x5 s0 1
      refine ww_iload (pc := 10) hC 5 rfl dX0_loadHour_10 ?_
      refine ww_aload_n (pc := 12) hC 0 rfl dX0_loadHour_12 rfl ?_
      refine ww_geti (pc := 13) (Cl := RX0) (T := TX0) (N := 9) (j := 4) (ref := RX0) hC (h0 0 _ rfl) rfl inT_X0 (by decide) mw_247 rfl rfl dX0_loadHour_13 ?_
      refine ww_icmp_ge (pc := 16) (tgt := 97) hC dX0_loadHour_16 (by decide) ?_ ?_
      · refine ww_lv [] rfl ?_
        exact hx10 a10.2
      · refine ww_iload_n (pc := 19) hC 3 rfl dX0_loadHour_19 rfl ?_
        refine ww_aload_n (pc := 20) hC 1 rfl dX0_loadHour_20 rfl ?_
        refine ww_aload_n (pc := 21) hC 0 rfl dX0_loadHour_21 rfl ?_
        refine ww_getr (pc := 22) (Cl := RX0) (T := TX0) (N := 9) (j := 1) (ref := RX0) hC (h0 0 _ rfl) rfl inT_X0 (by decide) mw_244 rfl rfl dX0_loadHour_22 ?_
        refine ww_iload (pc := 25) hC 5 rfl dX0_loadHour_25 ?_
        refine ww_iald (pc := 27) hC (h0 2 _ rfl) dX0_loadHour_27 ?_
        refine ww_callVi (pc := 28) (st := [.int p3]) (As := [.int (a10.2 (o0 + 2) (ww_ix a10.1))]) hC (c_X2_placeOf o1 h1 a10.2 (a10.2 (o0 + 2) (ww_ix a10.1))) mm_X2_placeOf mw_689 (h1 0 _ rfl) rfl (by omega) (by decide) (Nat.le_of_ble_eq_true rfl) rfl dX0_loadHour_28 (fun v28 => ?_)
        refine ww_ishr (pc := 31) hC dX0_loadHour_31 ?_
        refine ww_iconst (pc := 32) (v := 1) hC dX0_loadHour_32 rfl ?_
        refine ww_iand (pc := 33) hC dX0_loadHour_33 ?_
        refine ww_if_ne (pc := 34) (tgt := 41) hC dX0_loadHour_34 (by decide) ?_ ?_
        · refine ww_iconst (pc := 41) (v := 0) hC dX0_loadHour_41 rfl ?_
          exact hJ42 a10.2 a10.1 0
        · refine ww_iconst (pc := 37) (v := 1) hC dX0_loadHour_37 rfl ?_
          refine ww_goto (pc := 38) (tgt := 42) hC dX0_loadHour_38 (by decide) ?_
          exact hJ42 a10.2 a10.1 1
  unfold f_X0_loadHour
  refine ww_aload_n (pc := 0) hC 0 rfl dX0_loadHour_0 rfl ?_
  refine ww_getr (pc := 1) (Cl := RX0) (T := TX0) (N := 9) (j := 2) (ref := RX0) hC (h0 0 _ rfl) rfl inT_X0 (by decide) mw_245 rfl rfl dX0_loadHour_1 ?_
  refine ww_iload_n (pc := 4) hC 2 rfl dX0_loadHour_4 rfl ?_
  refine ww_iconst (pc := 5) (v := 0) hC dX0_loadHour_5 rfl ?_
  refine ww_iast (pc := 6) hC (h0 3 _ rfl) dX0_loadHour_6 ?_
  refine ww_iconst (pc := 7) (v := 0) hC dX0_loadHour_7 rfl ?_
  refine ww_istore (pc := 8) (lv' := [(5, .int 0), (0, .ref (ad o0)), (1, .ref (ad o1)), (2, .int p2), (3, .int p3), (4, .int p4)]) hC dX0_loadHour_8 (by decide) rfl ?_
  refine ww_lv [1, 2, 3, 4, 5, 0] rfl ?_
  exact hJ10 (ww_up σ (o0 + 3) (ww_ix p2) 0) 0
theorem dX0_load_0 : decode cX0_load 0 = .ok (.aload_n 0, 1) := by decide +kernel
theorem dX0_load_1 : decode cX0_load 1 = .ok (.dup, 1) := by decide +kernel
theorem dX0_load_2 : decode cX0_load 2 = .ok (.getfield 36, 3) := by decide +kernel
theorem dX0_load_5 : decode cX0_load 5 = .ok (.iconst 1, 1) := by decide +kernel
theorem dX0_load_6 : decode cX0_load 6 = .ok (.iadd, 1) := by decide +kernel
theorem dX0_load_7 : decode cX0_load 7 = .ok (.putfield 36, 3) := by decide +kernel
theorem dX0_load_10 : decode cX0_load 10 = .ok (.aload_n 0, 1) := by decide +kernel
theorem dX0_load_11 : decode cX0_load 11 = .ok (.iload_n 2, 1) := by decide +kernel
theorem dX0_load_12 : decode cX0_load 12 = .ok (.bipush 6, 2) := by decide +kernel
theorem dX0_load_14 : decode cX0_load 14 = .ok (.invokestatic 39, 3) := by decide +kernel
theorem dX0_load_17 : decode cX0_load 17 = .ok (.putfield 44, 3) := by decide +kernel
theorem dX0_load_20 : decode cX0_load 20 = .ok (.aload_n 0, 1) := by decide +kernel
theorem dX0_load_21 : decode cX0_load 21 = .ok (.aload_n 1, 1) := by decide +kernel
theorem dX0_load_22 : decode cX0_load 22 = .ok (.getfield 47, 3) := by decide +kernel
theorem dX0_load_25 : decode cX0_load 25 = .ok (.putfield 52, 3) := by decide +kernel
theorem dX0_load_28 : decode cX0_load 28 = .ok (.aload_n 0, 1) := by decide +kernel
theorem dX0_load_29 : decode cX0_load 29 = .ok (.aload_n 1, 1) := by decide +kernel
theorem dX0_load_30 : decode cX0_load 30 = .ok (.iload 4, 2) := by decide +kernel
theorem dX0_load_32 : decode cX0_load 32 = .ok (.invokevirtual 55, 3) := by decide +kernel
theorem dX0_load_35 : decode cX0_load 35 = .ok (.iconst 0, 1) := by decide +kernel
theorem dX0_load_36 : decode cX0_load 36 = .ok (.istore 5, 2) := by decide +kernel
theorem dX0_load_38 : decode cX0_load 38 = .ok (.iconst 0, 1) := by decide +kernel
theorem dX0_load_39 : decode cX0_load 39 = .ok (.istore 6, 2) := by decide +kernel
theorem dX0_load_41 : decode cX0_load 41 = .ok (.iload 6, 2) := by decide +kernel
theorem dX0_load_43 : decode cX0_load 43 = .ok (.aload_n 0, 1) := by decide +kernel
theorem dX0_load_44 : decode cX0_load 44 = .ok (.getfield 44, 3) := by decide +kernel
theorem dX0_load_47 : decode cX0_load 47 = .ok (.if_icmp .ge 89, 3) := by decide +kernel
theorem dX0_load_50 : decode cX0_load 50 = .ok (.aload_n 1, 1) := by decide +kernel
theorem dX0_load_51 : decode cX0_load 51 = .ok (.getfield 59, 3) := by decide +kernel
theorem dX0_load_54 : decode cX0_load 54 = .ok (.iload 6, 2) := by decide +kernel
theorem dX0_load_56 : decode cX0_load 56 = .ok (.iadd, 1) := by decide +kernel
theorem dX0_load_57 : decode cX0_load 57 = .ok (.istore 7, 2) := by decide +kernel
theorem dX0_load_59 : decode cX0_load 59 = .ok (.iload 5, 2) := by decide +kernel
theorem dX0_load_61 : decode cX0_load 61 = .ok (.aload_n 1, 1) := by decide +kernel
theorem dX0_load_62 : decode cX0_load 62 = .ok (.iload 7, 2) := by decide +kernel
theorem dX0_load_64 : decode cX0_load 64 = .ok (.invokevirtual 62, 3) := by decide +kernel
theorem dX0_load_67 : decode cX0_load 67 = .ok (.ior, 1) := by decide +kernel
theorem dX0_load_68 : decode cX0_load 68 = .ok (.istore 5, 2) := by decide +kernel
theorem dX0_load_70 : decode cX0_load 70 = .ok (.aload_n 0, 1) := by decide +kernel
theorem dX0_load_71 : decode cX0_load 71 = .ok (.aload_n 1, 1) := by decide +kernel
theorem dX0_load_72 : decode cX0_load 72 = .ok (.iload 6, 2) := by decide +kernel
theorem dX0_load_74 : decode cX0_load 74 = .ok (.aload_n 1, 1) := by decide +kernel
theorem dX0_load_75 : decode cX0_load 75 = .ok (.iload 7, 2) := by decide +kernel
theorem dX0_load_77 : decode cX0_load 77 = .ok (.invokevirtual 66, 3) := by decide +kernel
theorem dX0_load_80 : decode cX0_load 80 = .ok (.iload 5, 2) := by decide +kernel
theorem dX0_load_82 : decode cX0_load 82 = .ok (.invokevirtual 69, 3) := by decide +kernel
theorem dX0_load_85 : decode cX0_load 85 = .ok (.iconst 0, 1) := by decide +kernel
theorem dX0_load_86 : decode cX0_load 86 = .ok (.istore 8, 2) := by decide +kernel
theorem dX0_load_88 : decode cX0_load 88 = .ok (.iload 8, 2) := by decide +kernel
theorem dX0_load_90 : decode cX0_load 90 = .ok (.aload_n 0, 1) := by decide +kernel
theorem dX0_load_91 : decode cX0_load 91 = .ok (.getfield 72, 3) := by decide +kernel
theorem dX0_load_94 : decode cX0_load 94 = .ok (.if_icmp .ge 36, 3) := by decide +kernel
theorem dX0_load_97 : decode cX0_load 97 = .ok (.aload_n 0, 1) := by decide +kernel
theorem dX0_load_98 : decode cX0_load 98 = .ok (.getfield 21, 3) := by decide +kernel
theorem dX0_load_101 : decode cX0_load 101 = .ok (.iload 6, 2) := by decide +kernel
theorem dX0_load_103 : decode cX0_load 103 = .ok (.bipush 6, 2) := by decide +kernel
theorem dX0_load_105 : decode cX0_load 105 = .ok (.imul, 1) := by decide +kernel
theorem dX0_load_106 : decode cX0_load 106 = .ok (.iload 8, 2) := by decide +kernel
theorem dX0_load_108 : decode cX0_load 108 = .ok (.iadd, 1) := by decide +kernel
theorem dX0_load_109 : decode cX0_load 109 = .ok (.aload_n 1, 1) := by decide +kernel
theorem dX0_load_110 : decode cX0_load 110 = .ok (.aload_n 0, 1) := by decide +kernel
theorem dX0_load_111 : decode cX0_load 111 = .ok (.getfield 15, 3) := by decide +kernel
theorem dX0_load_114 : decode cX0_load 114 = .ok (.iload 8, 2) := by decide +kernel
theorem dX0_load_116 : decode cX0_load 116 = .ok (.iaload, 1) := by decide +kernel
theorem dX0_load_117 : decode cX0_load 117 = .ok (.iload 7, 2) := by decide +kernel
theorem dX0_load_119 : decode cX0_load 119 = .ok (.iload_n 3, 1) := by decide +kernel
theorem dX0_load_120 : decode cX0_load 120 = .ok (.invokevirtual 75, 3) := by decide +kernel
theorem dX0_load_123 : decode cX0_load 123 = .ok (.iastore, 1) := by decide +kernel
theorem dX0_load_124 : decode cX0_load 124 = .ok (.iinc 8 1, 3) := by decide +kernel
theorem dX0_load_127 : decode cX0_load 127 = .ok (.goto (-39), 3) := by decide +kernel
theorem dX0_load_130 : decode cX0_load 130 = .ok (.iinc 6 1, 3) := by decide +kernel
theorem dX0_load_133 : decode cX0_load 133 = .ok (.goto (-92), 3) := by decide +kernel
theorem dX0_load_136 : decode cX0_load 136 = .ok (.return_, 1) := by decide +kernel
set_option maxHeartbeats 4000000 in
set_option maxRecDepth 100000 in
theorem c_X0_load {l : Launch} {Y : ww_Y} {ad : Nat → Nat} {G : List ww_L} (o0 : Nat) (h0 : ww_at G o0 (ww_LPlanner o0)) (o1 : Nat) (h1 : ww_at G o1 (ww_LShore o1)) (σ : ww_M) (p2 : Int32) (p3 : Int32) (p4 : Int32) : ww_Cn l Y ad G yX0_load cX0_load 9 none 5 [.ref (ad o0), .ref (ad o1), .int p2, .int p3, .int p4] σ ((f_X0_load σ o0 o1 p2 p3 p4).bind ww_rv) := by
  refine ww_met (by decide +kernel) (Nat.le_of_ble_eq_true rfl) ?_
  intro X hC hR
  have hC : ww_C X l Y ad G 5 cX0_load 9 RX0 := hC
  show ww_V X Y ad G 9 σ 0 [(0, .ref (ad o0)), (1, .ref (ad o1)), (2, .int p2), (3, .int p3), (4, .int p4)] [] ((f_X0_load σ o0 o1 p2 p3 p4).bind ww_rv)
  have hJ136 : ∀ (σ : ww_M), ww_V X Y ad G 9 σ 136 [] [] ((f_X0_load_j136 σ o0 o1 p2 p3 p4).bind ww_rv) := by
    intro σ
    unfold f_X0_load_j136
    exact ww_return (pc := 136) hC hR dX0_load_136 rfl
  have hJ41 : ∀ (σ : ww_M) (x5 : Int32) (x6 : Int32), ww_V X Y ad G 9 σ 41 [(0, .ref (ad o0)), (1, .ref (ad o1)), (3, .int p3), (5, .int x5), (6, .int x6)] [] ((f_X0_load_j41 σ o0 o1 p2 p3 p4 x5 x6).bind ww_rv) := by
    intro σ x5 x6
    unfold f_X0_load_j41
    refine ww_assoc ?_
    refine ww_loop (f := f_X0_load_b41 o0 o1 p2 p3 p4) (fun a41 => a41.2.2) (fun a41 => [(0, .ref (ad o0)), (1, .ref (ad o1)), (3, .int p3), (5, .int a41.1), (6, .int a41.2.1)]) (fun b41 => b41) (fun b41 => []) 136 (fun b41 => ?_) (fun a41 KK41 hc41 hx41 => ?_) ww_F (x5, x6, σ)
    · exact hJ136 b41
    · unfold f_X0_load_b41
      have hJ130 : ∀ (σ : ww_M) (x5 : Int32) (x6 : Int32), ww_V X Y ad G 9 σ 130 [(0, .ref (ad o0)), (1, .ref (ad o1)), (3, .int p3), (5, .int x5), (6, .int x6)] [] ((f_X0_load_j130 σ o0 o1 p2 p3 p4 x5 x6).bind KK41) := by
        intro σ x5 x6
        unfold f_X0_load_j130
        refine ww_iinc (pc := 130) (v := x6 + 1) (lv' := [(6, .int (x6 + 1)), (0, .ref (ad o0)), (1, .ref (ad o1)), (3, .int p3), (5, .int x5)]) hC 4 rfl dX0_load_130 rfl (by decide) rfl ?_
        refine ww_goto (pc := 133) (tgt := 41) hC dX0_load_133 (by decide) ?_
        refine ww_lv [1, 2, 3, 4, 0] rfl ?_
        exact hc41 (x5, x6 + 1, σ)
      have hJ88 : ∀ (σ : ww_M) (x5 : Int32) (x6 : Int32) (x7 : Int32) (x8 : Int32), ww_V X Y ad G 9 σ 88 [(0, .ref (ad o0)), (1, .ref (ad o1)), (3, .int p3), (5, .int x5), (6, .int x6), (7, .int x7), (8, .int x8)] [] ((f_X0_load_j88 σ o0 o1 p2 p3 p4 x5 x6 x7 x8).bind KK41) := by
        intro σ x5 x6 x7 x8
        unfold f_X0_load_j88
        refine ww_assoc ?_
        refine ww_loop (f := f_X0_load_b88 o0 o1 p2 p3 p4 x5 x6 x7) (fun a88 => a88.2) (fun a88 => [(0, .ref (ad o0)), (1, .ref (ad o1)), (3, .int p3), (5, .int x5), (6, .int x6), (7, .int x7), (8, .int a88.1)]) (fun b88 => b88) (fun b88 => [(0, .ref (ad o0)), (1, .ref (ad o1)), (3, .int p3), (5, .int x5), (6, .int x6)]) 130 (fun b88 => ?_) (fun a88 KK88 hc88 hx88 => ?_) ww_F (x8, σ)
        · exact hJ130 b88 x5 x6
        · unfold f_X0_load_b88
          refine ww_iload (pc := 88) hC 6 rfl dX0_load_88 ?_
          refine ww_aload_n (pc := 90) hC 0 rfl dX0_load_90 rfl ?_
          refine ww_geti (pc := 91) (Cl := RX0) (T := TX0) (N := 9) (j := 4) (ref := RX0) hC (h0 0 _ rfl) rfl inT_X0 (by decide) mw_247 rfl rfl dX0_load_91 ?_
          refine ww_icmp_ge (pc := 94) (tgt := 130) hC dX0_load_94 (by decide) ?_ ?_
          · refine ww_lv [0, 1, 2, 3, 4] rfl ?_
            exact hx88 a88.2
          · refine ww_aload_n (pc := 97) hC 0 rfl dX0_load_97 rfl ?_
            refine ww_getr (pc := 98) (Cl := RX0) (T := TX0) (N := 9) (j := 3) (ref := RX0) hC (h0 0 _ rfl) rfl inT_X0 (by decide) mw_246 rfl rfl dX0_load_98 ?_
            refine ww_iload (pc := 101) hC 4 rfl dX0_load_101 ?_
            refine ww_bipush (pc := 103) (v := 6) hC dX0_load_103 rfl ?_
            refine ww_imul (pc := 105) hC dX0_load_105 ?_
            refine ww_iload (pc := 106) hC 6 rfl dX0_load_106 ?_
            refine ww_iadd (pc := 108) hC dX0_load_108 ?_
            refine ww_aload_n (pc := 109) hC 1 rfl dX0_load_109 rfl ?_
            refine ww_aload_n (pc := 110) hC 0 rfl dX0_load_110 rfl ?_
            refine ww_getr (pc := 111) (Cl := RX0) (T := TX0) (N := 9) (j := 1) (ref := RX0) hC (h0 0 _ rfl) rfl inT_X0 (by decide) mw_244 rfl rfl dX0_load_111 ?_
            refine ww_iload (pc := 114) hC 6 rfl dX0_load_114 ?_
            refine ww_iald (pc := 116) hC (h0 2 _ rfl) dX0_load_116 ?_
            refine ww_iload (pc := 117) hC 5 rfl dX0_load_117 ?_
            refine ww_iload_n (pc := 119) hC 2 rfl dX0_load_119 rfl ?_
            refine ww_callVi (pc := 120) (st := [.int ((x6 * 6) + a88.1), .ref (ad (o0 + 4))]) (As := [.int (a88.2 (o0 + 2) (ww_ix a88.1)), .int x7, .int p3]) hC (c_X2_worthIn o1 h1 a88.2 (a88.2 (o0 + 2) (ww_ix a88.1)) x7 p3) mm_X2_worthIn mw_690 (h1 0 _ rfl) rfl (by omega) (by decide) (Nat.le_of_ble_eq_true rfl) rfl dX0_load_120 (fun v120 => ?_)
            refine ww_iast (pc := 123) hC (h0 4 _ rfl) dX0_load_123 ?_
            refine ww_iinc (pc := 124) (v := a88.1 + 1) (lv' := [(8, .int (a88.1 + 1)), (0, .ref (ad o0)), (1, .ref (ad o1)), (3, .int p3), (5, .int x5), (6, .int x6), (7, .int x7)]) hC 6 rfl dX0_load_124 rfl (by decide) rfl ?_
            refine ww_goto (pc := 127) (tgt := 88) hC dX0_load_127 (by decide) ?_
            refine ww_lv [1, 2, 3, 4, 5, 6, 0] rfl ?_
            exact hc88 (a88.1 + 1, ww_up a88.2 (o0 + 4) (ww_ix ((x6 * 6) + a88.1)) v120)
      refine ww_iload (pc := 41) hC 4 rfl dX0_load_41 ?_
      refine ww_aload_n (pc := 43) hC 0 rfl dX0_load_43 rfl ?_
      refine ww_geti (pc := 44) (Cl := RX0) (T := TX0) (N := 9) (j := 5) (ref := RX0) hC (h0 0 _ rfl) rfl inT_X0 (by decide) mw_248 rfl rfl dX0_load_44 ?_
      refine ww_icmp_ge (pc := 47) (tgt := 136) hC dX0_load_47 (by decide) ?_ ?_
      · refine ww_lv [] rfl ?_
        exact hx41 a41.2.2
      · refine ww_aload_n (pc := 50) hC 1 rfl dX0_load_50 rfl ?_
        refine ww_geti (pc := 51) (Cl := RX2) (T := TX2) (N := 17) (j := 15) (ref := RX2) hC (h1 0 _ rfl) rfl inT_X2 (by decide) mw_179 rfl rfl dX0_load_51 ?_
        refine ww_iload (pc := 54) hC 4 rfl dX0_load_54 ?_
        refine ww_iadd (pc := 56) hC dX0_load_56 ?_
        refine ww_istore (pc := 57) (lv' := [(7, .int ((a41.2.2 o1 15) + a41.2.1)), (0, .ref (ad o0)), (1, .ref (ad o1)), (3, .int p3), (5, .int a41.1), (6, .int a41.2.1)]) hC dX0_load_57 (by decide) rfl ?_
        refine ww_iload (pc := 59) hC 4 rfl dX0_load_59 ?_
        refine ww_aload_n (pc := 61) hC 2 rfl dX0_load_61 rfl ?_
        refine ww_iload (pc := 62) hC 0 rfl dX0_load_62 ?_
        refine ww_callVi (pc := 64) (st := [.int a41.1]) (As := [.int ((a41.2.2 o1 15) + a41.2.1)]) hC (c_X2_floatingBeasts o1 h1 a41.2.2 ((a41.2.2 o1 15) + a41.2.1)) mm_X2_floatingBeasts mw_683 (h1 0 _ rfl) rfl (by omega) (by decide) (Nat.le_of_ble_eq_true rfl) rfl dX0_load_64 (fun v64 => ?_)
        refine ww_ior (pc := 67) hC dX0_load_67 ?_
        refine ww_istore (pc := 68) (lv' := [(5, .int (a41.1 ||| v64)), (7, .int ((a41.2.2 o1 15) + a41.2.1)), (0, .ref (ad o0)), (1, .ref (ad o1)), (3, .int p3), (6, .int a41.2.1)]) hC dX0_load_68 (by decide) rfl ?_
        refine ww_aload_n (pc := 70) hC 2 rfl dX0_load_70 rfl ?_
        refine ww_aload_n (pc := 71) hC 3 rfl dX0_load_71 rfl ?_
        refine ww_iload (pc := 72) hC 5 rfl dX0_load_72 ?_
        refine ww_aload_n (pc := 74) hC 3 rfl dX0_load_74 rfl ?_
        refine ww_iload (pc := 75) hC 1 rfl dX0_load_75 ?_
        refine ww_callVi (pc := 77) (st := [.int a41.2.1, .ref (ad o1), .ref (ad o0)]) (As := [.int ((a41.2.2 o1 15) + a41.2.1)]) hC (c_X2_wetPlaces o1 h1 a41.2.2 ((a41.2.2 o1 15) + a41.2.1)) mm_X2_wetPlaces mw_684 (h1 0 _ rfl) rfl (by omega) (by decide) (Nat.le_of_ble_eq_true rfl) rfl dX0_load_77 (fun v77 => ?_)
        refine ww_iload (pc := 80) hC 0 rfl dX0_load_80 ?_
        refine ww_callVv (pc := 82) (st := []) (As := [.ref (ad o1), .int a41.2.1, .int v77, .int (a41.1 ||| v64)]) hC (c_X0_loadHour o0 h0 o1 h1 a41.2.2 a41.2.1 v77 (a41.1 ||| v64)) mm_X0_loadHour mw_685 (h0 0 _ rfl) rfl (by omega) (by decide) (Nat.le_of_ble_eq_true rfl) rfl dX0_load_82 (fun v82 => ?_)
        refine ww_iconst (pc := 85) (v := 0) hC dX0_load_85 rfl ?_
        refine ww_istore (pc := 86) (lv' := [(8, .int 0), (5, .int (a41.1 ||| v64)), (7, .int ((a41.2.2 o1 15) + a41.2.1)), (0, .ref (ad o0)), (1, .ref (ad o1)), (3, .int p3), (6, .int a41.2.1)]) hC dX0_load_86 (by decide) rfl ?_
        refine ww_lv [3, 4, 5, 1, 6, 2, 0] rfl ?_
        exact hJ88 v82 (a41.1 ||| v64) a41.2.1 ((a41.2.2 o1 15) + a41.2.1) 0
  unfold f_X0_load
  refine ww_aload_n (pc := 0) hC 0 rfl dX0_load_0 rfl ?_
  refine ww_dup (pc := 1) hC dX0_load_1 rfl ?_
  refine ww_geti (pc := 2) (Cl := RX0) (T := TX0) (N := 9) (j := 8) (ref := RX0) hC (h0 0 _ rfl) rfl inT_X0 (by decide) mw_251 rfl rfl dX0_load_2 ?_
  refine ww_iconst (pc := 5) (v := 1) hC dX0_load_5 rfl ?_
  refine ww_iadd (pc := 6) hC dX0_load_6 ?_
  refine ww_puti (pc := 7) (Cl := RX0) (T := TX0) (N := 9) (j := 8) (ref := RX0) hC (h0 0 _ rfl) rfl inT_X0 (by decide) mw_251 rfl tyX0 tyX0_ok nmX0 rfl rfl (tyX0_ok 8 (by decide)) dX0_load_7 ?_
  refine ww_aload_n (pc := 10) hC 0 rfl dX0_load_10 rfl ?_
  refine ww_iload_n (pc := 11) hC 2 rfl dX0_load_11 rfl ?_
  refine ww_bipush (pc := 12) (v := 6) hC dX0_load_12 rfl ?_
  refine ww_mmin (pc := 14) hC dX0_load_14 mw_676 mw_502 mw_72 mw_503 (by omega) (Nat.le_of_ble_eq_true rfl) ?_
  refine ww_puti (pc := 17) (Cl := RX0) (T := TX0) (N := 9) (j := 5) (ref := RX0) hC (h0 0 _ rfl) rfl inT_X0 (by decide) mw_248 rfl tyX0 tyX0_ok nmX0 rfl rfl (tyX0_ok 5 (by decide)) dX0_load_17 ?_
  refine ww_aload_n (pc := 20) hC 0 rfl dX0_load_20 rfl ?_
  refine ww_aload_n (pc := 21) hC 1 rfl dX0_load_21 rfl ?_
  refine ww_geti (pc := 22) (Cl := RX2) (T := TX2) (N := 17) (j := 14) (ref := RX2) hC (h1 0 _ rfl) rfl inT_X2 (by decide) mw_175 rfl rfl dX0_load_22 ?_
  refine ww_puti (pc := 25) (Cl := RX0) (T := TX0) (N := 9) (j := 6) (ref := RX0) hC (h0 0 _ rfl) rfl inT_X0 (by decide) mw_249 rfl tyX0 tyX0_ok nmX0 rfl rfl (tyX0_ok 6 (by decide)) dX0_load_25 ?_
  refine ww_aload_n (pc := 28) hC 0 rfl dX0_load_28 rfl ?_
  refine ww_aload_n (pc := 29) hC 1 rfl dX0_load_29 rfl ?_
  refine ww_iload (pc := 30) hC 4 rfl dX0_load_30 ?_
  refine ww_callVv (pc := 32) (st := []) (As := [.ref (ad o1), .int p4]) hC (c_X0_loadParts o0 h0 o1 h1 (ww_up (ww_up (ww_up σ o0 8 ((σ o0 8) + 1)) o0 5 (ww_min p2 6)) o0 6 ((ww_up (ww_up σ o0 8 ((σ o0 8) + 1)) o0 5 (ww_min p2 6)) o1 14)) p4) mm_X0_loadParts mw_677 (h0 0 _ rfl) rfl (by omega) (by decide) (Nat.le_of_ble_eq_true rfl) rfl dX0_load_32 (fun v32 => ?_)
  refine ww_iconst (pc := 35) (v := 0) hC dX0_load_35 rfl ?_
  refine ww_istore (pc := 36) (lv' := [(5, .int 0), (0, .ref (ad o0)), (1, .ref (ad o1)), (2, .int p2), (3, .int p3), (4, .int p4)]) hC dX0_load_36 (by decide) rfl ?_
  refine ww_iconst (pc := 38) (v := 0) hC dX0_load_38 rfl ?_
  refine ww_istore (pc := 39) (lv' := [(6, .int 0), (5, .int 0), (0, .ref (ad o0)), (1, .ref (ad o1)), (2, .int p2), (3, .int p3), (4, .int p4)]) hC dX0_load_39 (by decide) rfl ?_
  refine ww_lv [2, 3, 5, 1, 0] rfl ?_
  exact hJ41 v32 0 0
theorem dX0_workIn_0 : decode cX0_workIn 0 = .ok (.iload_n 0, 1) := by decide +kernel
theorem dX0_workIn_1 : decode cX0_workIn 1 = .ok (.iconst 2, 1) := by decide +kernel
theorem dX0_workIn_2 : decode cX0_workIn 2 = .ok (.iload_n 1, 1) := by decide +kernel
theorem dX0_workIn_3 : decode cX0_workIn 3 = .ok (.imul, 1) := by decide +kernel
theorem dX0_workIn_4 : decode cX0_workIn 4 = .ok (.ishr, 1) := by decide +kernel
theorem dX0_workIn_5 : decode cX0_workIn 5 = .ok (.iconst 3, 1) := by decide +kernel
theorem dX0_workIn_6 : decode cX0_workIn 6 = .ok (.iand, 1) := by decide +kernel
theorem dX0_workIn_7 : decode cX0_workIn 7 = .ok (.ireturn, 1) := by decide +kernel
set_option maxHeartbeats 4000000 in
set_option maxRecDepth 100000 in
theorem c_X0_workIn {l : Launch} {Y : ww_Y} {ad : Nat → Nat} {G : List ww_L} (σ : ww_M) (p0 : Int32) (p1 : Int32) : ww_Cn l Y ad G yX0_workIn cX0_workIn 2 (some .int) 1 [.int p0, .int p1] σ ((f_X0_workIn p0 p1).bind (ww_ri σ)) := by
  refine ww_met (by decide +kernel) (Nat.le_of_ble_eq_true rfl) ?_
  intro X hC hR
  have hC : ww_C X l Y ad G 1 cX0_workIn 2 RX0 := hC
  show ww_V X Y ad G 2 σ 0 [(0, .int p0), (1, .int p1)] [] ((f_X0_workIn p0 p1).bind (ww_ri σ))
  unfold f_X0_workIn
  refine ww_iload_n (pc := 0) hC 0 rfl dX0_workIn_0 rfl ?_
  refine ww_iconst (pc := 1) (v := 2) hC dX0_workIn_1 rfl ?_
  refine ww_iload_n (pc := 2) hC 1 rfl dX0_workIn_2 rfl ?_
  refine ww_imul (pc := 3) hC dX0_workIn_3 ?_
  refine ww_ishr (pc := 4) hC dX0_workIn_4 ?_
  refine ww_iconst (pc := 5) (v := 3) hC dX0_workIn_5 rfl ?_
  refine ww_iand (pc := 6) hC dX0_workIn_6 ?_
  exact ww_ireturn (pc := 7) hC hR dX0_workIn_7 rfl
theorem dX0_usefulIn_0 : decode cX0_usefulIn 0 = .ok (.iconst 0, 1) := by decide +kernel
theorem dX0_usefulIn_1 : decode cX0_usefulIn 1 = .ok (.istore_n 3, 1) := by decide +kernel
theorem dX0_usefulIn_2 : decode cX0_usefulIn 2 = .ok (.iconst 0, 1) := by decide +kernel
theorem dX0_usefulIn_3 : decode cX0_usefulIn 3 = .ok (.istore 4, 2) := by decide +kernel
theorem dX0_usefulIn_5 : decode cX0_usefulIn 5 = .ok (.iload 4, 2) := by decide +kernel
theorem dX0_usefulIn_7 : decode cX0_usefulIn 7 = .ok (.aload_n 0, 1) := by decide +kernel
theorem dX0_usefulIn_8 : decode cX0_usefulIn 8 = .ok (.getfield 72, 3) := by decide +kernel
theorem dX0_usefulIn_11 : decode cX0_usefulIn 11 = .ok (.if_icmp .ge 82, 3) := by decide +kernel
theorem dX0_usefulIn_14 : decode cX0_usefulIn 14 = .ok (.iload_n 2, 1) := by decide +kernel
theorem dX0_usefulIn_15 : decode cX0_usefulIn 15 = .ok (.iload 4, 2) := by decide +kernel
theorem dX0_usefulIn_17 : decode cX0_usefulIn 17 = .ok (.invokestatic 112, 3) := by decide +kernel
theorem dX0_usefulIn_20 : decode cX0_usefulIn 20 = .ok (.istore 5, 2) := by decide +kernel
theorem dX0_usefulIn_22 : decode cX0_usefulIn 22 = .ok (.aload_n 0, 1) := by decide +kernel
theorem dX0_usefulIn_23 : decode cX0_usefulIn 23 = .ok (.getfield 18, 3) := by decide +kernel
theorem dX0_usefulIn_26 : decode cX0_usefulIn 26 = .ok (.iload_n 1, 1) := by decide +kernel
theorem dX0_usefulIn_27 : decode cX0_usefulIn 27 = .ok (.iaload, 1) := by decide +kernel
theorem dX0_usefulIn_28 : decode cX0_usefulIn 28 = .ok (.iload 4, 2) := by decide +kernel
theorem dX0_usefulIn_30 : decode cX0_usefulIn 30 = .ok (.ishr, 1) := by decide +kernel
theorem dX0_usefulIn_31 : decode cX0_usefulIn 31 = .ok (.iconst 1, 1) := by decide +kernel
theorem dX0_usefulIn_32 : decode cX0_usefulIn 32 = .ok (.iand, 1) := by decide +kernel
theorem dX0_usefulIn_33 : decode cX0_usefulIn 33 = .ok (.iconst 1, 1) := by decide +kernel
theorem dX0_usefulIn_34 : decode cX0_usefulIn 34 = .ok (.if_icmp .ne 7, 3) := by decide +kernel
theorem dX0_usefulIn_37 : decode cX0_usefulIn 37 = .ok (.iconst 1, 1) := by decide +kernel
theorem dX0_usefulIn_38 : decode cX0_usefulIn 38 = .ok (.goto 4, 3) := by decide +kernel
theorem dX0_usefulIn_41 : decode cX0_usefulIn 41 = .ok (.iconst 0, 1) := by decide +kernel
theorem dX0_usefulIn_42 : decode cX0_usefulIn 42 = .ok (.istore 6, 2) := by decide +kernel
theorem dX0_usefulIn_44 : decode cX0_usefulIn 44 = .ok (.iload 6, 2) := by decide +kernel
theorem dX0_usefulIn_46 : decode cX0_usefulIn 46 = .ok (.ifCond .eq 41, 3) := by decide +kernel
theorem dX0_usefulIn_49 : decode cX0_usefulIn 49 = .ok (.iload 5, 2) := by decide +kernel
theorem dX0_usefulIn_51 : decode cX0_usefulIn 51 = .ok (.ifCond .le 36, 3) := by decide +kernel
theorem dX0_usefulIn_54 : decode cX0_usefulIn 54 = .ok (.iload 5, 2) := by decide +kernel
theorem dX0_usefulIn_56 : decode cX0_usefulIn 56 = .ok (.aload_n 0, 1) := by decide +kernel
theorem dX0_usefulIn_57 : decode cX0_usefulIn 57 = .ok (.getfield 44, 3) := by decide +kernel
theorem dX0_usefulIn_60 : decode cX0_usefulIn 60 = .ok (.iload_n 1, 1) := by decide +kernel
theorem dX0_usefulIn_61 : decode cX0_usefulIn 61 = .ok (.isub, 1) := by decide +kernel
theorem dX0_usefulIn_62 : decode cX0_usefulIn 62 = .ok (.if_icmp .gt 25, 3) := by decide +kernel
theorem dX0_usefulIn_65 : decode cX0_usefulIn 65 = .ok (.aload_n 0, 1) := by decide +kernel
theorem dX0_usefulIn_66 : decode cX0_usefulIn 66 = .ok (.getfield 21, 3) := by decide +kernel
theorem dX0_usefulIn_69 : decode cX0_usefulIn 69 = .ok (.iload_n 1, 1) := by decide +kernel
theorem dX0_usefulIn_70 : decode cX0_usefulIn 70 = .ok (.bipush 6, 2) := by decide +kernel
theorem dX0_usefulIn_72 : decode cX0_usefulIn 72 = .ok (.imul, 1) := by decide +kernel
theorem dX0_usefulIn_73 : decode cX0_usefulIn 73 = .ok (.iload 4, 2) := by decide +kernel
theorem dX0_usefulIn_75 : decode cX0_usefulIn 75 = .ok (.iadd, 1) := by decide +kernel
theorem dX0_usefulIn_76 : decode cX0_usefulIn 76 = .ok (.iaload, 1) := by decide +kernel
theorem dX0_usefulIn_77 : decode cX0_usefulIn 77 = .ok (.ifCond .le 10, 3) := by decide +kernel
theorem dX0_usefulIn_80 : decode cX0_usefulIn 80 = .ok (.iload_n 3, 1) := by decide +kernel
theorem dX0_usefulIn_81 : decode cX0_usefulIn 81 = .ok (.iconst 1, 1) := by decide +kernel
theorem dX0_usefulIn_82 : decode cX0_usefulIn 82 = .ok (.iload 4, 2) := by decide +kernel
theorem dX0_usefulIn_84 : decode cX0_usefulIn 84 = .ok (.ishl, 1) := by decide +kernel
theorem dX0_usefulIn_85 : decode cX0_usefulIn 85 = .ok (.ior, 1) := by decide +kernel
theorem dX0_usefulIn_86 : decode cX0_usefulIn 86 = .ok (.istore_n 3, 1) := by decide +kernel
theorem dX0_usefulIn_87 : decode cX0_usefulIn 87 = .ok (.iinc 4 1, 3) := by decide +kernel
theorem dX0_usefulIn_90 : decode cX0_usefulIn 90 = .ok (.goto (-85), 3) := by decide +kernel
theorem dX0_usefulIn_93 : decode cX0_usefulIn 93 = .ok (.iload_n 3, 1) := by decide +kernel
theorem dX0_usefulIn_94 : decode cX0_usefulIn 94 = .ok (.ireturn, 1) := by decide +kernel
set_option maxHeartbeats 4000000 in
set_option maxRecDepth 100000 in
theorem c_X0_usefulIn {l : Launch} {Y : ww_Y} {ad : Nat → Nat} {G : List ww_L} (o0 : Nat) (h0 : ww_at G o0 (ww_LPlanner o0)) (σ : ww_M) (p1 : Int32) (p2 : Int32) : ww_Cn l Y ad G yX0_usefulIn cX0_usefulIn 7 (some .int) 2 [.ref (ad o0), .int p1, .int p2] σ ((f_X0_usefulIn σ o0 p1 p2).bind (ww_ri σ)) := by
  refine ww_met (by decide +kernel) (Nat.le_of_ble_eq_true rfl) ?_
  intro X hC hR
  have hC : ww_C X l Y ad G 2 cX0_usefulIn 7 RX0 := hC
  show ww_V X Y ad G 7 σ 0 [(0, .ref (ad o0)), (1, .int p1), (2, .int p2)] [] ((f_X0_usefulIn σ o0 p1 p2).bind (ww_ri σ))
  have hJ93 : ∀ (x3 : Int32), ww_V X Y ad G 7 σ 93 [(3, .int x3)] [] ((f_X0_usefulIn_j93 σ o0 p1 p2 x3).bind (ww_ri σ)) := by
    intro x3
    unfold f_X0_usefulIn_j93
    refine ww_iload_n (pc := 93) hC 0 rfl dX0_usefulIn_93 rfl ?_
    exact ww_ireturn (pc := 94) hC hR dX0_usefulIn_94 rfl
  have hJ5 : ∀ (x3 : Int32) (x4 : Int32), ww_V X Y ad G 7 σ 5 [(0, .ref (ad o0)), (1, .int p1), (2, .int p2), (3, .int x3), (4, .int x4)] [] ((f_X0_usefulIn_j5 σ o0 p1 p2 x3 x4).bind (ww_ri σ)) := by
    intro x3 x4
    unfold f_X0_usefulIn_j5
    refine ww_assoc ?_
    refine ww_loop (f := f_X0_usefulIn_b5 σ o0 p1 p2) (fun a5 => σ) (fun a5 => [(0, .ref (ad o0)), (1, .int p1), (2, .int p2), (3, .int a5.1), (4, .int a5.2)]) (fun b5 => σ) (fun b5 => [(3, .int b5)]) 93 (fun b5 => ?_) (fun a5 KK5 hc5 hx5 => ?_) ww_F (x3, x4)
    · exact hJ93 b5
    · unfold f_X0_usefulIn_b5
      have hJ42 : ∀ (x3 : Int32) (x4 : Int32) (x5 : Int32) (s0 : Int32), ww_V X Y ad G 7 σ 42 [(0, .ref (ad o0)), (1, .int p1), (2, .int p2), (3, .int x3), (4, .int x4), (5, .int x5)] [.int s0] ((f_X0_usefulIn_j42 σ o0 p1 p2 x3 x4 x5 s0).bind KK5) := by
        intro x3 x4 x5 s0
        unfold f_X0_usefulIn_j42
        refine ww_istore (pc := 42) (lv' := [(6, .int s0), (0, .ref (ad o0)), (1, .int p1), (2, .int p2), (3, .int x3), (4, .int x4), (5, .int x5)]) hC dX0_usefulIn_42 (by decide) rfl ?_
        refine ww_iload (pc := 44) hC 0 rfl dX0_usefulIn_44 ?_
        refine ww_if_eq (pc := 46) (tgt := 87) hC dX0_usefulIn_46 (by decide) ?_ ?_
        · refine ww_iinc (pc := 87) (v := x4 + 1) (lv' := [(4, .int (x4 + 1)), (6, .int s0), (0, .ref (ad o0)), (1, .int p1), (2, .int p2), (3, .int x3), (5, .int x5)]) hC 5 rfl dX0_usefulIn_87 rfl (by decide) rfl ?_
          refine ww_goto (pc := 90) (tgt := 5) hC dX0_usefulIn_90 (by decide) ?_
          refine ww_lv [2, 3, 4, 5, 0] rfl ?_
          exact hc5 (x3, x4 + 1)
        · refine ww_iload (pc := 49) hC 6 rfl dX0_usefulIn_49 ?_
          refine ww_if_le (pc := 51) (tgt := 87) hC dX0_usefulIn_51 (by decide) ?_ ?_
          · refine ww_iinc (pc := 87) (v := x4 + 1) (lv' := [(4, .int (x4 + 1)), (6, .int s0), (0, .ref (ad o0)), (1, .int p1), (2, .int p2), (3, .int x3), (5, .int x5)]) hC 5 rfl dX0_usefulIn_87 rfl (by decide) rfl ?_
            refine ww_goto (pc := 90) (tgt := 5) hC dX0_usefulIn_90 (by decide) ?_
            refine ww_lv [2, 3, 4, 5, 0] rfl ?_
            exact hc5 (x3, x4 + 1)
          · refine ww_iload (pc := 54) hC 6 rfl dX0_usefulIn_54 ?_
            refine ww_aload_n (pc := 56) hC 1 rfl dX0_usefulIn_56 rfl ?_
            refine ww_geti (pc := 57) (Cl := RX0) (T := TX0) (N := 9) (j := 5) (ref := RX0) hC (h0 0 _ rfl) rfl inT_X0 (by decide) mw_248 rfl rfl dX0_usefulIn_57 ?_
            refine ww_iload_n (pc := 60) hC 2 rfl dX0_usefulIn_60 rfl ?_
            refine ww_isub (pc := 61) hC dX0_usefulIn_61 ?_
            refine ww_icmp_gt (pc := 62) (tgt := 87) hC dX0_usefulIn_62 (by decide) ?_ ?_
            · refine ww_iinc (pc := 87) (v := x4 + 1) (lv' := [(4, .int (x4 + 1)), (6, .int s0), (0, .ref (ad o0)), (1, .int p1), (2, .int p2), (3, .int x3), (5, .int x5)]) hC 5 rfl dX0_usefulIn_87 rfl (by decide) rfl ?_
              refine ww_goto (pc := 90) (tgt := 5) hC dX0_usefulIn_90 (by decide) ?_
              refine ww_lv [2, 3, 4, 5, 0] rfl ?_
              exact hc5 (x3, x4 + 1)
            · refine ww_aload_n (pc := 65) hC 1 rfl dX0_usefulIn_65 rfl ?_
              refine ww_getr (pc := 66) (Cl := RX0) (T := TX0) (N := 9) (j := 3) (ref := RX0) hC (h0 0 _ rfl) rfl inT_X0 (by decide) mw_246 rfl rfl dX0_usefulIn_66 ?_
              refine ww_iload_n (pc := 69) hC 2 rfl dX0_usefulIn_69 rfl ?_
              refine ww_bipush (pc := 70) (v := 6) hC dX0_usefulIn_70 rfl ?_
              refine ww_imul (pc := 72) hC dX0_usefulIn_72 ?_
              refine ww_iload (pc := 73) hC 5 rfl dX0_usefulIn_73 ?_
              refine ww_iadd (pc := 75) hC dX0_usefulIn_75 ?_
              refine ww_iald (pc := 76) hC (h0 4 _ rfl) dX0_usefulIn_76 ?_
              refine ww_if_le (pc := 77) (tgt := 87) hC dX0_usefulIn_77 (by decide) ?_ ?_
              · refine ww_iinc (pc := 87) (v := x4 + 1) (lv' := [(4, .int (x4 + 1)), (6, .int s0), (0, .ref (ad o0)), (1, .int p1), (2, .int p2), (3, .int x3), (5, .int x5)]) hC 5 rfl dX0_usefulIn_87 rfl (by decide) rfl ?_
                refine ww_goto (pc := 90) (tgt := 5) hC dX0_usefulIn_90 (by decide) ?_
                refine ww_lv [2, 3, 4, 5, 0] rfl ?_
                exact hc5 (x3, x4 + 1)
              · refine ww_iload_n (pc := 80) hC 4 rfl dX0_usefulIn_80 rfl ?_
                refine ww_iconst (pc := 81) (v := 1) hC dX0_usefulIn_81 rfl ?_
                refine ww_iload (pc := 82) hC 5 rfl dX0_usefulIn_82 ?_
                refine ww_ishl (pc := 84) hC dX0_usefulIn_84 ?_
                refine ww_ior (pc := 85) hC dX0_usefulIn_85 ?_
                refine ww_istore_n (pc := 86) (lv' := [(3, .int (x3 ||| (ww_shl 1 x4))), (6, .int s0), (0, .ref (ad o0)), (1, .int p1), (2, .int p2), (4, .int x4), (5, .int x5)]) hC dX0_usefulIn_86 rfl (by decide) rfl ?_
                refine ww_iinc (pc := 87) (v := x4 + 1) (lv' := [(4, .int (x4 + 1)), (3, .int (x3 ||| (ww_shl 1 x4))), (6, .int s0), (0, .ref (ad o0)), (1, .int p1), (2, .int p2), (5, .int x5)]) hC 5 rfl dX0_usefulIn_87 rfl (by decide) rfl ?_
                refine ww_goto (pc := 90) (tgt := 5) hC dX0_usefulIn_90 (by decide) ?_
                refine ww_lv [3, 4, 5, 1, 0] rfl ?_
                exact hc5 (x3 ||| (ww_shl 1 x4), x4 + 1)
      refine ww_iload (pc := 5) hC 4 rfl dX0_usefulIn_5 ?_
      refine ww_aload_n (pc := 7) hC 0 rfl dX0_usefulIn_7 rfl ?_
      refine ww_geti (pc := 8) (Cl := RX0) (T := TX0) (N := 9) (j := 4) (ref := RX0) hC (h0 0 _ rfl) rfl inT_X0 (by decide) mw_247 rfl rfl dX0_usefulIn_8 ?_
      refine ww_icmp_ge (pc := 11) (tgt := 93) hC dX0_usefulIn_11 (by decide) ?_ ?_
      · refine ww_lv [3] rfl ?_
        exact hx5 a5.1
      · refine ww_iload_n (pc := 14) hC 2 rfl dX0_usefulIn_14 rfl ?_
        refine ww_iload (pc := 15) hC 4 rfl dX0_usefulIn_15 ?_
        refine ww_callSi (pc := 17) (st := []) (As := [.int p2, .int a5.2]) hC (c_X0_workIn σ p2 a5.2) mm_X0_workIn mw_703 (by omega) (by decide) (Nat.le_of_ble_eq_true rfl) rfl dX0_usefulIn_17 (fun v17 => ?_)
        refine ww_istore (pc := 20) (lv' := [(5, .int v17), (0, .ref (ad o0)), (1, .int p1), (2, .int p2), (3, .int a5.1), (4, .int a5.2)]) hC dX0_usefulIn_20 (by decide) rfl ?_
        refine ww_aload_n (pc := 22) hC 1 rfl dX0_usefulIn_22 rfl ?_
        refine ww_getr (pc := 23) (Cl := RX0) (T := TX0) (N := 9) (j := 2) (ref := RX0) hC (h0 0 _ rfl) rfl inT_X0 (by decide) mw_245 rfl rfl dX0_usefulIn_23 ?_
        refine ww_iload_n (pc := 26) hC 2 rfl dX0_usefulIn_26 rfl ?_
        refine ww_iald (pc := 27) hC (h0 3 _ rfl) dX0_usefulIn_27 ?_
        refine ww_iload (pc := 28) hC 5 rfl dX0_usefulIn_28 ?_
        refine ww_ishr (pc := 30) hC dX0_usefulIn_30 ?_
        refine ww_iconst (pc := 31) (v := 1) hC dX0_usefulIn_31 rfl ?_
        refine ww_iand (pc := 32) hC dX0_usefulIn_32 ?_
        refine ww_iconst (pc := 33) (v := 1) hC dX0_usefulIn_33 rfl ?_
        refine ww_icmp_ne (pc := 34) (tgt := 41) hC dX0_usefulIn_34 (by decide) ?_ ?_
        · refine ww_iconst (pc := 41) (v := 0) hC dX0_usefulIn_41 rfl ?_
          refine ww_lv [1, 2, 3, 4, 5, 0] rfl ?_
          exact hJ42 a5.1 a5.2 v17 0
        · refine ww_iconst (pc := 37) (v := 1) hC dX0_usefulIn_37 rfl ?_
          refine ww_goto (pc := 38) (tgt := 42) hC dX0_usefulIn_38 (by decide) ?_
          refine ww_lv [1, 2, 3, 4, 5, 0] rfl ?_
          exact hJ42 a5.1 a5.2 v17 1
  unfold f_X0_usefulIn
  refine ww_iconst (pc := 0) (v := 0) hC dX0_usefulIn_0 rfl ?_
  refine ww_istore_n (pc := 1) (lv' := [(3, .int 0), (0, .ref (ad o0)), (1, .int p1), (2, .int p2)]) hC dX0_usefulIn_1 rfl (by decide) rfl ?_
  refine ww_iconst (pc := 2) (v := 0) hC dX0_usefulIn_2 rfl ?_
  refine ww_istore (pc := 3) (lv' := [(4, .int 0), (3, .int 0), (0, .ref (ad o0)), (1, .int p1), (2, .int p2)]) hC dX0_usefulIn_3 (by decide) rfl ?_
  refine ww_lv [2, 3, 4, 1, 0] rfl ?_
  exact hJ5 0 0
theorem dX0_gainOf_0 : decode cX0_gainOf 0 = .ok (.iload_n 3, 1) := by decide +kernel
theorem dX0_gainOf_1 : decode cX0_gainOf 1 = .ok (.aload_n 0, 1) := by decide +kernel
theorem dX0_gainOf_2 : decode cX0_gainOf 2 = .ok (.getfield 72, 3) := by decide +kernel
theorem dX0_gainOf_5 : decode cX0_gainOf 5 = .ok (.if_icmp .ge 26, 3) := by decide +kernel
theorem dX0_gainOf_8 : decode cX0_gainOf 8 = .ok (.iload_n 2, 1) := by decide +kernel
theorem dX0_gainOf_9 : decode cX0_gainOf 9 = .ok (.iload_n 3, 1) := by decide +kernel
theorem dX0_gainOf_10 : decode cX0_gainOf 10 = .ok (.invokestatic 112, 3) := by decide +kernel
theorem dX0_gainOf_13 : decode cX0_gainOf 13 = .ok (.iconst 1, 1) := by decide +kernel
theorem dX0_gainOf_14 : decode cX0_gainOf 14 = .ok (.if_icmp .ne 17, 3) := by decide +kernel
theorem dX0_gainOf_17 : decode cX0_gainOf 17 = .ok (.aload_n 0, 1) := by decide +kernel
theorem dX0_gainOf_18 : decode cX0_gainOf 18 = .ok (.getfield 21, 3) := by decide +kernel
theorem dX0_gainOf_21 : decode cX0_gainOf 21 = .ok (.iload_n 1, 1) := by decide +kernel
theorem dX0_gainOf_22 : decode cX0_gainOf 22 = .ok (.bipush 6, 2) := by decide +kernel
theorem dX0_gainOf_24 : decode cX0_gainOf 24 = .ok (.imul, 1) := by decide +kernel
theorem dX0_gainOf_25 : decode cX0_gainOf 25 = .ok (.iload_n 3, 1) := by decide +kernel
theorem dX0_gainOf_26 : decode cX0_gainOf 26 = .ok (.iadd, 1) := by decide +kernel
theorem dX0_gainOf_27 : decode cX0_gainOf 27 = .ok (.iaload, 1) := by decide +kernel
theorem dX0_gainOf_28 : decode cX0_gainOf 28 = .ok (.goto 4, 3) := by decide +kernel
theorem dX0_gainOf_31 : decode cX0_gainOf 31 = .ok (.iconst 0, 1) := by decide +kernel
theorem dX0_gainOf_32 : decode cX0_gainOf 32 = .ok (.ireturn, 1) := by decide +kernel
set_option maxHeartbeats 4000000 in
set_option maxRecDepth 100000 in
theorem c_X0_gainOf {l : Launch} {Y : ww_Y} {ad : Nat → Nat} {G : List ww_L} (o0 : Nat) (h0 : ww_at G o0 (ww_LPlanner o0)) (σ : ww_M) (p1 : Int32) (p2 : Int32) (p3 : Int32) : ww_Cn l Y ad G yX0_gainOf cX0_gainOf 4 (some .int) 2 [.ref (ad o0), .int p1, .int p2, .int p3] σ ((f_X0_gainOf σ o0 p1 p2 p3).bind (ww_ri σ)) := by
  refine ww_met (by decide +kernel) (Nat.le_of_ble_eq_true rfl) ?_
  intro X hC hR
  have hC : ww_C X l Y ad G 2 cX0_gainOf 4 RX0 := hC
  show ww_V X Y ad G 4 σ 0 [(0, .ref (ad o0)), (1, .int p1), (2, .int p2), (3, .int p3)] [] ((f_X0_gainOf σ o0 p1 p2 p3).bind (ww_ri σ))
  unfold f_X0_gainOf
  refine ww_iload_n (pc := 0) hC 3 rfl dX0_gainOf_0 rfl ?_
  refine ww_aload_n (pc := 1) hC 0 rfl dX0_gainOf_1 rfl ?_
  refine ww_geti (pc := 2) (Cl := RX0) (T := TX0) (N := 9) (j := 4) (ref := RX0) hC (h0 0 _ rfl) rfl inT_X0 (by decide) mw_247 rfl rfl dX0_gainOf_2 ?_
  refine ww_icmp_ge (pc := 5) (tgt := 31) hC dX0_gainOf_5 (by decide) ?_ ?_
  · refine ww_iconst (pc := 31) (v := 0) hC dX0_gainOf_31 rfl ?_
    exact ww_ireturn (pc := 32) hC hR dX0_gainOf_32 rfl
  · refine ww_iload_n (pc := 8) hC 2 rfl dX0_gainOf_8 rfl ?_
    refine ww_iload_n (pc := 9) hC 3 rfl dX0_gainOf_9 rfl ?_
    refine ww_callSi (pc := 10) (st := []) (As := [.int p2, .int p3]) hC (c_X0_workIn σ p2 p3) mm_X0_workIn mw_703 (by omega) (by decide) (Nat.le_of_ble_eq_true rfl) rfl dX0_gainOf_10 (fun v10 => ?_)
    refine ww_iconst (pc := 13) (v := 1) hC dX0_gainOf_13 rfl ?_
    refine ww_icmp_ne (pc := 14) (tgt := 31) hC dX0_gainOf_14 (by decide) ?_ ?_
    · refine ww_iconst (pc := 31) (v := 0) hC dX0_gainOf_31 rfl ?_
      exact ww_ireturn (pc := 32) hC hR dX0_gainOf_32 rfl
    · refine ww_aload_n (pc := 17) hC 0 rfl dX0_gainOf_17 rfl ?_
      refine ww_getr (pc := 18) (Cl := RX0) (T := TX0) (N := 9) (j := 3) (ref := RX0) hC (h0 0 _ rfl) rfl inT_X0 (by decide) mw_246 rfl rfl dX0_gainOf_18 ?_
      refine ww_iload_n (pc := 21) hC 1 rfl dX0_gainOf_21 rfl ?_
      refine ww_bipush (pc := 22) (v := 6) hC dX0_gainOf_22 rfl ?_
      refine ww_imul (pc := 24) hC dX0_gainOf_24 ?_
      refine ww_iload_n (pc := 25) hC 3 rfl dX0_gainOf_25 rfl ?_
      refine ww_iadd (pc := 26) hC dX0_gainOf_26 ?_
      refine ww_iald (pc := 27) hC (h0 4 _ rfl) dX0_gainOf_27 ?_
      refine ww_goto (pc := 28) (tgt := 32) hC dX0_gainOf_28 (by decide) ?_
      exact ww_ireturn (pc := 32) hC hR dX0_gainOf_32 rfl
theorem dX0_after_0 : decode cX0_after 0 = .ok (.iload_n 2, 1) := by decide +kernel
theorem dX0_after_1 : decode cX0_after 1 = .ok (.aload_n 0, 1) := by decide +kernel
theorem dX0_after_2 : decode cX0_after 2 = .ok (.getfield 72, 3) := by decide +kernel
theorem dX0_after_5 : decode cX0_after 5 = .ok (.if_icmp .ge 13, 3) := by decide +kernel
theorem dX0_after_8 : decode cX0_after 8 = .ok (.iload_n 1, 1) := by decide +kernel
theorem dX0_after_9 : decode cX0_after 9 = .ok (.iconst 1, 1) := by decide +kernel
theorem dX0_after_10 : decode cX0_after 10 = .ok (.iconst 2, 1) := by decide +kernel
theorem dX0_after_11 : decode cX0_after 11 = .ok (.iload_n 2, 1) := by decide +kernel
theorem dX0_after_12 : decode cX0_after 12 = .ok (.imul, 1) := by decide +kernel
theorem dX0_after_13 : decode cX0_after 13 = .ok (.ishl, 1) := by decide +kernel
theorem dX0_after_14 : decode cX0_after 14 = .ok (.isub, 1) := by decide +kernel
theorem dX0_after_15 : decode cX0_after 15 = .ok (.goto 4, 3) := by decide +kernel
theorem dX0_after_18 : decode cX0_after 18 = .ok (.iload_n 1, 1) := by decide +kernel
theorem dX0_after_19 : decode cX0_after 19 = .ok (.ireturn, 1) := by decide +kernel
set_option maxHeartbeats 4000000 in
set_option maxRecDepth 100000 in
theorem c_X0_after {l : Launch} {Y : ww_Y} {ad : Nat → Nat} {G : List ww_L} (o0 : Nat) (h0 : ww_at G o0 (ww_LPlanner o0)) (σ : ww_M) (p1 : Int32) (p2 : Int32) : ww_Cn l Y ad G yX0_after cX0_after 3 (some .int) 1 [.ref (ad o0), .int p1, .int p2] σ ((f_X0_after σ o0 p1 p2).bind (ww_ri σ)) := by
  refine ww_met (by decide +kernel) (Nat.le_of_ble_eq_true rfl) ?_
  intro X hC hR
  have hC : ww_C X l Y ad G 1 cX0_after 3 RX0 := hC
  show ww_V X Y ad G 3 σ 0 [(0, .ref (ad o0)), (1, .int p1), (2, .int p2)] [] ((f_X0_after σ o0 p1 p2).bind (ww_ri σ))
  unfold f_X0_after
  refine ww_iload_n (pc := 0) hC 2 rfl dX0_after_0 rfl ?_
  refine ww_aload_n (pc := 1) hC 0 rfl dX0_after_1 rfl ?_
  refine ww_geti (pc := 2) (Cl := RX0) (T := TX0) (N := 9) (j := 4) (ref := RX0) hC (h0 0 _ rfl) rfl inT_X0 (by decide) mw_247 rfl rfl dX0_after_2 ?_
  refine ww_icmp_ge (pc := 5) (tgt := 18) hC dX0_after_5 (by decide) ?_ ?_
  · refine ww_iload_n (pc := 18) hC 1 rfl dX0_after_18 rfl ?_
    exact ww_ireturn (pc := 19) hC hR dX0_after_19 rfl
  · refine ww_iload_n (pc := 8) hC 1 rfl dX0_after_8 rfl ?_
    refine ww_iconst (pc := 9) (v := 1) hC dX0_after_9 rfl ?_
    refine ww_iconst (pc := 10) (v := 2) hC dX0_after_10 rfl ?_
    refine ww_iload_n (pc := 11) hC 2 rfl dX0_after_11 rfl ?_
    refine ww_imul (pc := 12) hC dX0_after_12 ?_
    refine ww_ishl (pc := 13) hC dX0_after_13 ?_
    refine ww_isub (pc := 14) hC dX0_after_14 ?_
    refine ww_goto (pc := 15) (tgt := 19) hC dX0_after_15 (by decide) ?_
    exact ww_ireturn (pc := 19) hC hR dX0_after_19 rfl
theorem dX0_wonBy_0 : decode cX0_wonBy 0 = .ok (.aload_n 0, 1) := by decide +kernel
theorem dX0_wonBy_1 : decode cX0_wonBy 1 = .ok (.iload_n 1, 1) := by decide +kernel
theorem dX0_wonBy_2 : decode cX0_wonBy 2 = .ok (.iload_n 2, 1) := by decide +kernel
theorem dX0_wonBy_3 : decode cX0_wonBy 3 = .ok (.iload_n 3, 1) := by decide +kernel
theorem dX0_wonBy_4 : decode cX0_wonBy 4 = .ok (.invokevirtual 115, 3) := by decide +kernel
theorem dX0_wonBy_7 : decode cX0_wonBy 7 = .ok (.aload_n 0, 1) := by decide +kernel
theorem dX0_wonBy_8 : decode cX0_wonBy 8 = .ok (.iload_n 1, 1) := by decide +kernel
theorem dX0_wonBy_9 : decode cX0_wonBy 9 = .ok (.iload_n 2, 1) := by decide +kernel
theorem dX0_wonBy_10 : decode cX0_wonBy 10 = .ok (.iload 4, 2) := by decide +kernel
theorem dX0_wonBy_12 : decode cX0_wonBy 12 = .ok (.invokevirtual 115, 3) := by decide +kernel
theorem dX0_wonBy_15 : decode cX0_wonBy 15 = .ok (.iadd, 1) := by decide +kernel
theorem dX0_wonBy_16 : decode cX0_wonBy 16 = .ok (.aload_n 0, 1) := by decide +kernel
theorem dX0_wonBy_17 : decode cX0_wonBy 17 = .ok (.iload_n 1, 1) := by decide +kernel
theorem dX0_wonBy_18 : decode cX0_wonBy 18 = .ok (.iconst 1, 1) := by decide +kernel
theorem dX0_wonBy_19 : decode cX0_wonBy 19 = .ok (.iadd, 1) := by decide +kernel
theorem dX0_wonBy_20 : decode cX0_wonBy 20 = .ok (.aload_n 0, 1) := by decide +kernel
theorem dX0_wonBy_21 : decode cX0_wonBy 21 = .ok (.aload_n 0, 1) := by decide +kernel
theorem dX0_wonBy_22 : decode cX0_wonBy 22 = .ok (.iload_n 2, 1) := by decide +kernel
theorem dX0_wonBy_23 : decode cX0_wonBy 23 = .ok (.iload_n 3, 1) := by decide +kernel
theorem dX0_wonBy_24 : decode cX0_wonBy 24 = .ok (.invokevirtual 98, 3) := by decide +kernel
theorem dX0_wonBy_27 : decode cX0_wonBy 27 = .ok (.iload 4, 2) := by decide +kernel
theorem dX0_wonBy_29 : decode cX0_wonBy 29 = .ok (.invokevirtual 98, 3) := by decide +kernel
theorem dX0_wonBy_32 : decode cX0_wonBy 32 = .ok (.invokevirtual 32, 3) := by decide +kernel
theorem dX0_wonBy_35 : decode cX0_wonBy 35 = .ok (.iadd, 1) := by decide +kernel
theorem dX0_wonBy_36 : decode cX0_wonBy 36 = .ok (.ireturn, 1) := by decide +kernel
set_option maxHeartbeats 4000000 in
set_option maxRecDepth 100000 in
theorem c_X0_wonBy {l : Launch} {Y : ww_Y} {ad : Nat → Nat} {G : List ww_L} (mf : ww_M → Nat → Int32 → Int32 → Option (Int32 × ww_M)) (hm : Nat) (h5 : 5 ≤ hm) (hmf : ∀ (o0 : Nat) (h0 : ww_at G o0 (ww_LPlanner o0)) (σ : ww_M) (p1 p2 : Int32), ww_Cn l Y ad G yX0_mostFrom cX0_mostFrom 4 (some .int) hm [.ref (ad o0), .int p1, .int p2] σ ((mf σ o0 p1 p2).bind ww_rw)) (o0 : Nat) (h0 : ww_at G o0 (ww_LPlanner o0)) (σ : ww_M) (p1 : Int32) (p2 : Int32) (p3 : Int32) (p4 : Int32) : ww_Cn l Y ad G yX0_wonBy cX0_wonBy 5 (some .int) (hm + 1) [.ref (ad o0), .int p1, .int p2, .int p3, .int p4] σ ((f_X0_wonBy mf σ o0 p1 p2 p3 p4).bind ww_rw) := by
  refine ww_met (by decide +kernel) (Nat.le_of_ble_eq_true rfl) ?_
  intro X hC hR
  have hC : ww_C X l Y ad G (hm + 1) cX0_wonBy 5 RX0 := hC
  show ww_V X Y ad G 5 σ 0 [(0, .ref (ad o0)), (1, .int p1), (2, .int p2), (3, .int p3), (4, .int p4)] [] ((f_X0_wonBy mf σ o0 p1 p2 p3 p4).bind ww_rw)
  unfold f_X0_wonBy
  refine ww_aload_n (pc := 0) hC 0 rfl dX0_wonBy_0 rfl ?_
  refine ww_iload_n (pc := 1) hC 1 rfl dX0_wonBy_1 rfl ?_
  refine ww_iload_n (pc := 2) hC 2 rfl dX0_wonBy_2 rfl ?_
  refine ww_iload_n (pc := 3) hC 3 rfl dX0_wonBy_3 rfl ?_
  refine ww_callVi (pc := 4) (st := []) (As := [.int p1, .int p2, .int p3]) hC (c_X0_gainOf o0 h0 σ p1 p2 p3) mm_X0_gainOf mw_716 (h0 0 _ rfl) rfl (by omega) (by decide) (Nat.le_of_ble_eq_true rfl) rfl dX0_wonBy_4 (fun v4 => ?_)
  refine ww_aload_n (pc := 7) hC 0 rfl dX0_wonBy_7 rfl ?_
  refine ww_iload_n (pc := 8) hC 1 rfl dX0_wonBy_8 rfl ?_
  refine ww_iload_n (pc := 9) hC 2 rfl dX0_wonBy_9 rfl ?_
  refine ww_iload (pc := 10) hC 4 rfl dX0_wonBy_10 ?_
  refine ww_callVi (pc := 12) (st := [.int v4]) (As := [.int p1, .int p2, .int p4]) hC (c_X0_gainOf o0 h0 σ p1 p2 p4) mm_X0_gainOf mw_716 (h0 0 _ rfl) rfl (by omega) (by decide) (Nat.le_of_ble_eq_true rfl) rfl dX0_wonBy_12 (fun v12 => ?_)
  refine ww_iadd (pc := 15) hC dX0_wonBy_15 ?_
  refine ww_aload_n (pc := 16) hC 0 rfl dX0_wonBy_16 rfl ?_
  refine ww_iload_n (pc := 17) hC 1 rfl dX0_wonBy_17 rfl ?_
  refine ww_iconst (pc := 18) (v := 1) hC dX0_wonBy_18 rfl ?_
  refine ww_iadd (pc := 19) hC dX0_wonBy_19 ?_
  refine ww_aload_n (pc := 20) hC 0 rfl dX0_wonBy_20 rfl ?_
  refine ww_aload_n (pc := 21) hC 0 rfl dX0_wonBy_21 rfl ?_
  refine ww_iload_n (pc := 22) hC 2 rfl dX0_wonBy_22 rfl ?_
  refine ww_iload_n (pc := 23) hC 3 rfl dX0_wonBy_23 rfl ?_
  refine ww_callVi (pc := 24) (st := [.ref (ad o0), .int (p1 + 1), .ref (ad o0), .int (v4 + v12)]) (As := [.int p2, .int p3]) hC (c_X0_after o0 h0 σ p2 p3) mm_X0_after mw_720 (h0 0 _ rfl) rfl (by omega) (by decide) (Nat.le_of_ble_eq_true rfl) rfl dX0_wonBy_24 (fun v24 => ?_)
  refine ww_iload (pc := 27) hC 4 rfl dX0_wonBy_27 ?_
  refine ww_callVi (pc := 29) (st := [.int (p1 + 1), .ref (ad o0), .int (v4 + v12)]) (As := [.int v24, .int p4]) hC (c_X0_after o0 h0 σ v24 p4) mm_X0_after mw_720 (h0 0 _ rfl) rfl (by omega) (by decide) (Nat.le_of_ble_eq_true rfl) rfl dX0_wonBy_29 (fun v29 => ?_)
  refine ww_callVw (pc := 32) (st := [.int (v4 + v12)]) (As := [.int (p1 + 1), .int v29]) hC (hmf o0 h0 σ (p1 + 1) v29) mm_X0_mostFrom mw_691 (h0 0 _ rfl) rfl (by omega) (by decide) (Nat.le_of_ble_eq_true rfl) rfl dX0_wonBy_32 (fun v32 => ?_)
  refine ww_iadd (pc := 35) hC dX0_wonBy_35 ?_
  exact ww_ireturn (pc := 36) hC hR dX0_wonBy_36 rfl
theorem dX0_triedFrom_0 : decode cX0_triedFrom 0 = .ok (.aload_n 0, 1) := by decide +kernel
theorem dX0_triedFrom_1 : decode cX0_triedFrom 1 = .ok (.iload_n 1, 1) := by decide +kernel
theorem dX0_triedFrom_2 : decode cX0_triedFrom 2 = .ok (.iload_n 2, 1) := by decide +kernel
theorem dX0_triedFrom_3 : decode cX0_triedFrom 3 = .ok (.invokevirtual 121, 3) := by decide +kernel
theorem dX0_triedFrom_6 : decode cX0_triedFrom 6 = .ok (.istore_n 3, 1) := by decide +kernel
theorem dX0_triedFrom_7 : decode cX0_triedFrom 7 = .ok (.aload_n 0, 1) := by decide +kernel
theorem dX0_triedFrom_8 : decode cX0_triedFrom 8 = .ok (.getfield 52, 3) := by decide +kernel
theorem dX0_triedFrom_11 : decode cX0_triedFrom 11 = .ok (.iconst 1, 1) := by decide +kernel
theorem dX0_triedFrom_12 : decode cX0_triedFrom 12 = .ok (.if_icmp .le 15, 3) := by decide +kernel
theorem dX0_triedFrom_15 : decode cX0_triedFrom 15 = .ok (.iload_n 3, 1) := by decide +kernel
theorem dX0_triedFrom_16 : decode cX0_triedFrom 16 = .ok (.invokestatic 124, 3) := by decide +kernel
theorem dX0_triedFrom_19 : decode cX0_triedFrom 19 = .ok (.iconst 1, 1) := by decide +kernel
theorem dX0_triedFrom_20 : decode cX0_triedFrom 20 = .ok (.if_icmp .le 7, 3) := by decide +kernel
theorem dX0_triedFrom_23 : decode cX0_triedFrom 23 = .ok (.iconst 1, 1) := by decide +kernel
theorem dX0_triedFrom_24 : decode cX0_triedFrom 24 = .ok (.goto 4, 3) := by decide +kernel
theorem dX0_triedFrom_27 : decode cX0_triedFrom 27 = .ok (.iconst 0, 1) := by decide +kernel
theorem dX0_triedFrom_28 : decode cX0_triedFrom 28 = .ok (.istore 4, 2) := by decide +kernel
theorem dX0_triedFrom_30 : decode cX0_triedFrom 30 = .ok (.iload_n 3, 1) := by decide +kernel
theorem dX0_triedFrom_31 : decode cX0_triedFrom 31 = .ok (.ifCond .ne 12, 3) := by decide +kernel
theorem dX0_triedFrom_34 : decode cX0_triedFrom 34 = .ok (.aload_n 0, 1) := by decide +kernel
theorem dX0_triedFrom_35 : decode cX0_triedFrom 35 = .ok (.iload_n 1, 1) := by decide +kernel
theorem dX0_triedFrom_36 : decode cX0_triedFrom 36 = .ok (.iconst 1, 1) := by decide +kernel
theorem dX0_triedFrom_37 : decode cX0_triedFrom 37 = .ok (.iadd, 1) := by decide +kernel
theorem dX0_triedFrom_38 : decode cX0_triedFrom 38 = .ok (.iload_n 2, 1) := by decide +kernel
theorem dX0_triedFrom_39 : decode cX0_triedFrom 39 = .ok (.invokevirtual 32, 3) := by decide +kernel
theorem dX0_triedFrom_42 : decode cX0_triedFrom 42 = .ok (.ireturn, 1) := by decide +kernel
theorem dX0_triedFrom_43 : decode cX0_triedFrom 43 = .ok (.iconst 0, 1) := by decide +kernel
theorem dX0_triedFrom_44 : decode cX0_triedFrom 44 = .ok (.istore 5, 2) := by decide +kernel
theorem dX0_triedFrom_46 : decode cX0_triedFrom 46 = .ok (.iconst 0, 1) := by decide +kernel
theorem dX0_triedFrom_47 : decode cX0_triedFrom 47 = .ok (.istore 6, 2) := by decide +kernel
theorem dX0_triedFrom_49 : decode cX0_triedFrom 49 = .ok (.iload 6, 2) := by decide +kernel
theorem dX0_triedFrom_51 : decode cX0_triedFrom 51 = .ok (.aload_n 0, 1) := by decide +kernel
theorem dX0_triedFrom_52 : decode cX0_triedFrom 52 = .ok (.getfield 72, 3) := by decide +kernel
theorem dX0_triedFrom_55 : decode cX0_triedFrom 55 = .ok (.if_icmp .ge 98, 3) := by decide +kernel
theorem dX0_triedFrom_58 : decode cX0_triedFrom 58 = .ok (.iload_n 3, 1) := by decide +kernel
theorem dX0_triedFrom_59 : decode cX0_triedFrom 59 = .ok (.iload 6, 2) := by decide +kernel
theorem dX0_triedFrom_61 : decode cX0_triedFrom 61 = .ok (.ishr, 1) := by decide +kernel
theorem dX0_triedFrom_62 : decode cX0_triedFrom 62 = .ok (.iconst 1, 1) := by decide +kernel
theorem dX0_triedFrom_63 : decode cX0_triedFrom 63 = .ok (.iand, 1) := by decide +kernel
theorem dX0_triedFrom_64 : decode cX0_triedFrom 64 = .ok (.ifCond .ne 6, 3) := by decide +kernel
theorem dX0_triedFrom_67 : decode cX0_triedFrom 67 = .ok (.goto 80, 3) := by decide +kernel
theorem dX0_triedFrom_70 : decode cX0_triedFrom 70 = .ok (.iload 4, 2) := by decide +kernel
theorem dX0_triedFrom_72 : decode cX0_triedFrom 72 = .ok (.ifCond .ne 22, 3) := by decide +kernel
theorem dX0_triedFrom_75 : decode cX0_triedFrom 75 = .ok (.iload 5, 2) := by decide +kernel
theorem dX0_triedFrom_77 : decode cX0_triedFrom 77 = .ok (.aload_n 0, 1) := by decide +kernel
theorem dX0_triedFrom_78 : decode cX0_triedFrom 78 = .ok (.iload_n 1, 1) := by decide +kernel
theorem dX0_triedFrom_79 : decode cX0_triedFrom 79 = .ok (.iload_n 2, 1) := by decide +kernel
theorem dX0_triedFrom_80 : decode cX0_triedFrom 80 = .ok (.iload 6, 2) := by decide +kernel
theorem dX0_triedFrom_82 : decode cX0_triedFrom 82 = .ok (.aload_n 0, 1) := by decide +kernel
theorem dX0_triedFrom_83 : decode cX0_triedFrom 83 = .ok (.getfield 72, 3) := by decide +kernel
theorem dX0_triedFrom_86 : decode cX0_triedFrom 86 = .ok (.invokevirtual 108, 3) := by decide +kernel
theorem dX0_triedFrom_89 : decode cX0_triedFrom 89 = .ok (.invokestatic 129, 3) := by decide +kernel
theorem dX0_triedFrom_92 : decode cX0_triedFrom 92 = .ok (.istore 5, 2) := by decide +kernel
theorem dX0_triedFrom_94 : decode cX0_triedFrom 94 = .ok (.iload 6, 2) := by decide +kernel
theorem dX0_triedFrom_96 : decode cX0_triedFrom 96 = .ok (.iconst 1, 1) := by decide +kernel
theorem dX0_triedFrom_97 : decode cX0_triedFrom 97 = .ok (.iadd, 1) := by decide +kernel
theorem dX0_triedFrom_98 : decode cX0_triedFrom 98 = .ok (.istore 7, 2) := by decide +kernel
theorem dX0_triedFrom_100 : decode cX0_triedFrom 100 = .ok (.iload 4, 2) := by decide +kernel
theorem dX0_triedFrom_102 : decode cX0_triedFrom 102 = .ok (.ifCond .eq 45, 3) := by decide +kernel
theorem dX0_triedFrom_105 : decode cX0_triedFrom 105 = .ok (.iload 7, 2) := by decide +kernel
theorem dX0_triedFrom_107 : decode cX0_triedFrom 107 = .ok (.aload_n 0, 1) := by decide +kernel
theorem dX0_triedFrom_108 : decode cX0_triedFrom 108 = .ok (.getfield 72, 3) := by decide +kernel
theorem dX0_triedFrom_111 : decode cX0_triedFrom 111 = .ok (.if_icmp .ge 36, 3) := by decide +kernel
theorem dX0_triedFrom_114 : decode cX0_triedFrom 114 = .ok (.iload_n 3, 1) := by decide +kernel
theorem dX0_triedFrom_115 : decode cX0_triedFrom 115 = .ok (.iload 7, 2) := by decide +kernel
theorem dX0_triedFrom_117 : decode cX0_triedFrom 117 = .ok (.ishr, 1) := by decide +kernel
theorem dX0_triedFrom_118 : decode cX0_triedFrom 118 = .ok (.iconst 1, 1) := by decide +kernel
theorem dX0_triedFrom_119 : decode cX0_triedFrom 119 = .ok (.iand, 1) := by decide +kernel
theorem dX0_triedFrom_120 : decode cX0_triedFrom 120 = .ok (.iconst 1, 1) := by decide +kernel
theorem dX0_triedFrom_121 : decode cX0_triedFrom 121 = .ok (.if_icmp .ne 20, 3) := by decide +kernel
theorem dX0_triedFrom_124 : decode cX0_triedFrom 124 = .ok (.iload 5, 2) := by decide +kernel
theorem dX0_triedFrom_126 : decode cX0_triedFrom 126 = .ok (.aload_n 0, 1) := by decide +kernel
theorem dX0_triedFrom_127 : decode cX0_triedFrom 127 = .ok (.iload_n 1, 1) := by decide +kernel
theorem dX0_triedFrom_128 : decode cX0_triedFrom 128 = .ok (.iload_n 2, 1) := by decide +kernel
theorem dX0_triedFrom_129 : decode cX0_triedFrom 129 = .ok (.iload 6, 2) := by decide +kernel
theorem dX0_triedFrom_131 : decode cX0_triedFrom 131 = .ok (.iload 7, 2) := by decide +kernel
theorem dX0_triedFrom_133 : decode cX0_triedFrom 133 = .ok (.invokevirtual 108, 3) := by decide +kernel
theorem dX0_triedFrom_136 : decode cX0_triedFrom 136 = .ok (.invokestatic 129, 3) := by decide +kernel
theorem dX0_triedFrom_139 : decode cX0_triedFrom 139 = .ok (.istore 5, 2) := by decide +kernel
theorem dX0_triedFrom_141 : decode cX0_triedFrom 141 = .ok (.iinc 7 1, 3) := by decide +kernel
theorem dX0_triedFrom_144 : decode cX0_triedFrom 144 = .ok (.goto (-44), 3) := by decide +kernel
theorem dX0_triedFrom_147 : decode cX0_triedFrom 147 = .ok (.iinc 6 1, 3) := by decide +kernel
theorem dX0_triedFrom_150 : decode cX0_triedFrom 150 = .ok (.goto (-101), 3) := by decide +kernel
theorem dX0_triedFrom_153 : decode cX0_triedFrom 153 = .ok (.iload 5, 2) := by decide +kernel
theorem dX0_triedFrom_155 : decode cX0_triedFrom 155 = .ok (.ireturn, 1) := by decide +kernel
set_option maxHeartbeats 4000000 in
set_option maxRecDepth 100000 in
theorem c_X0_triedFrom {l : Launch} {Y : ww_Y} {ad : Nat → Nat} {G : List ww_L} (mf : ww_M → Nat → Int32 → Int32 → Option (Int32 × ww_M)) (hm : Nat) (h5 : 5 ≤ hm) (hmf : ∀ (o0 : Nat) (h0 : ww_at G o0 (ww_LPlanner o0)) (σ : ww_M) (p1 p2 : Int32), ww_Cn l Y ad G yX0_mostFrom cX0_mostFrom 4 (some .int) hm [.ref (ad o0), .int p1, .int p2] σ ((mf σ o0 p1 p2).bind ww_rw)) (o0 : Nat) (h0 : ww_at G o0 (ww_LPlanner o0)) (σ : ww_M) (p1 : Int32) (p2 : Int32) : ww_Cn l Y ad G yX0_triedFrom cX0_triedFrom 8 (some .int) (hm + 2) [.ref (ad o0), .int p1, .int p2] σ ((f_X0_triedFrom mf σ o0 p1 p2).bind ww_rw) := by
  refine ww_met (by decide +kernel) (Nat.le_of_ble_eq_true rfl) ?_
  intro X hC hR
  have hC : ww_C X l Y ad G (hm + 2) cX0_triedFrom 8 RX0 := hC
  show ww_V X Y ad G 8 σ 0 [(0, .ref (ad o0)), (1, .int p1), (2, .int p2)] [] ((f_X0_triedFrom mf σ o0 p1 p2).bind ww_rw)
  have hJ153 : ∀ (σ : ww_M) (x5 : Int32), ww_V X Y ad G 8 σ 153 [(5, .int x5)] [] ((f_X0_triedFrom_j153 mf σ o0 p1 p2 x5).bind ww_rw) := by
    intro σ x5
    unfold f_X0_triedFrom_j153
    refine ww_iload (pc := 153) hC 0 rfl dX0_triedFrom_153 ?_
    exact ww_ireturn (pc := 155) hC hR dX0_triedFrom_155 rfl
  have hJ49 : ∀ (σ : ww_M) (x3 : Int32) (x4 : Int32) (x5 : Int32) (x6 : Int32), ww_V X Y ad G 8 σ 49 [(0, .ref (ad o0)), (1, .int p1), (2, .int p2), (3, .int x3), (4, .int x4), (5, .int x5), (6, .int x6)] [] ((f_X0_triedFrom_j49 mf σ o0 p1 p2 x3 x4 x5 x6).bind ww_rw) := by
    intro σ x3 x4 x5 x6
    unfold f_X0_triedFrom_j49
    refine ww_assoc ?_
    refine ww_loop (f := f_X0_triedFrom_b49 mf o0 p1 p2 x3 x4) (fun a49 => a49.2.2) (fun a49 => [(0, .ref (ad o0)), (1, .int p1), (2, .int p2), (3, .int x3), (4, .int x4), (5, .int a49.1), (6, .int a49.2.1)]) (fun b49 => b49.2) (fun b49 => [(5, .int b49.1)]) 153 (fun b49 => ?_) (fun a49 KK49 hc49 hx49 => ?_) ww_F (x5, x6, σ)
    · exact hJ153 b49.2 b49.1
    · unfold f_X0_triedFrom_b49
      have hJ147 : ∀ (σ : ww_M) (x5 : Int32) (x6 : Int32), ww_V X Y ad G 8 σ 147 [(0, .ref (ad o0)), (1, .int p1), (2, .int p2), (3, .int x3), (4, .int x4), (5, .int x5), (6, .int x6)] [] ((f_X0_triedFrom_j147 mf σ o0 p1 p2 x3 x4 x5 x6).bind KK49) := by
        intro σ x5 x6
        unfold f_X0_triedFrom_j147
        refine ww_iinc (pc := 147) (v := x6 + 1) (lv' := [(6, .int (x6 + 1)), (0, .ref (ad o0)), (1, .int p1), (2, .int p2), (3, .int x3), (4, .int x4), (5, .int x5)]) hC 6 rfl dX0_triedFrom_147 rfl (by decide) rfl ?_
        refine ww_goto (pc := 150) (tgt := 49) hC dX0_triedFrom_150 (by decide) ?_
        refine ww_lv [1, 2, 3, 4, 5, 6, 0] rfl ?_
        exact hc49 (x5, x6 + 1, σ)
      have hJ100 : ∀ (σ : ww_M) (x5 : Int32) (x6 : Int32) (x7 : Int32), ww_V X Y ad G 8 σ 100 [(0, .ref (ad o0)), (1, .int p1), (2, .int p2), (3, .int x3), (4, .int x4), (5, .int x5), (6, .int x6), (7, .int x7)] [] ((f_X0_triedFrom_j100 mf σ o0 p1 p2 x3 x4 x5 x6 x7).bind KK49) := by
        intro σ x5 x6 x7
        unfold f_X0_triedFrom_j100
        refine ww_assoc ?_
        refine ww_loop (f := f_X0_triedFrom_b100 mf o0 p1 p2 x3 x4 x6) (fun a100 => a100.2.2) (fun a100 => [(0, .ref (ad o0)), (1, .int p1), (2, .int p2), (3, .int x3), (4, .int x4), (5, .int a100.1), (6, .int x6), (7, .int a100.2.1)]) (fun b100 => b100.2) (fun b100 => [(0, .ref (ad o0)), (1, .int p1), (2, .int p2), (3, .int x3), (4, .int x4), (5, .int b100.1), (6, .int x6)]) 147 (fun b100 => ?_) (fun a100 KK100 hc100 hx100 => ?_) ww_F (x5, x7, σ)
        · exact hJ147 b100.2 b100.1 x6
        · unfold f_X0_triedFrom_b100
          refine ww_iload (pc := 100) hC 4 rfl dX0_triedFrom_100 ?_
          refine ww_if_eq (pc := 102) (tgt := 147) hC dX0_triedFrom_102 (by decide) ?_ ?_
          · refine ww_lv [0, 1, 2, 3, 4, 5, 6] rfl ?_
            exact hx100 (a100.1, a100.2.2)
          · refine ww_iload (pc := 105) hC 7 rfl dX0_triedFrom_105 ?_
            refine ww_aload_n (pc := 107) hC 0 rfl dX0_triedFrom_107 rfl ?_
            refine ww_geti (pc := 108) (Cl := RX0) (T := TX0) (N := 9) (j := 4) (ref := RX0) hC (h0 0 _ rfl) rfl inT_X0 (by decide) mw_247 rfl rfl dX0_triedFrom_108 ?_
            refine ww_icmp_ge (pc := 111) (tgt := 147) hC dX0_triedFrom_111 (by decide) ?_ ?_
            · refine ww_lv [0, 1, 2, 3, 4, 5, 6] rfl ?_
              exact hx100 (a100.1, a100.2.2)
            · refine ww_iload_n (pc := 114) hC 3 rfl dX0_triedFrom_114 rfl ?_
              refine ww_iload (pc := 115) hC 7 rfl dX0_triedFrom_115 ?_
              refine ww_ishr (pc := 117) hC dX0_triedFrom_117 ?_
              refine ww_iconst (pc := 118) (v := 1) hC dX0_triedFrom_118 rfl ?_
              refine ww_iand (pc := 119) hC dX0_triedFrom_119 ?_
              refine ww_iconst (pc := 120) (v := 1) hC dX0_triedFrom_120 rfl ?_
              refine ww_icmp_ne (pc := 121) (tgt := 141) hC dX0_triedFrom_121 (by decide) ?_ ?_
              · refine ww_iinc (pc := 141) (v := a100.2.1 + 1) (lv' := [(7, .int (a100.2.1 + 1)), (0, .ref (ad o0)), (1, .int p1), (2, .int p2), (3, .int x3), (4, .int x4), (5, .int a100.1), (6, .int x6)]) hC 7 rfl dX0_triedFrom_141 rfl (by decide) rfl ?_
                refine ww_goto (pc := 144) (tgt := 100) hC dX0_triedFrom_144 (by decide) ?_
                refine ww_lv [1, 2, 3, 4, 5, 6, 7, 0] rfl ?_
                exact hc100 (a100.1, a100.2.1 + 1, a100.2.2)
              · refine ww_iload (pc := 124) hC 5 rfl dX0_triedFrom_124 ?_
                refine ww_aload_n (pc := 126) hC 0 rfl dX0_triedFrom_126 rfl ?_
                refine ww_iload_n (pc := 127) hC 1 rfl dX0_triedFrom_127 rfl ?_
                refine ww_iload_n (pc := 128) hC 2 rfl dX0_triedFrom_128 rfl ?_
                refine ww_iload (pc := 129) hC 6 rfl dX0_triedFrom_129 ?_
                refine ww_iload (pc := 131) hC 7 rfl dX0_triedFrom_131 ?_
                refine ww_callVw (pc := 133) (st := [.int a100.1]) (As := [.int p1, .int p2, .int x6, .int a100.2.1]) hC (c_X0_wonBy mf hm h5 hmf o0 h0 a100.2.2 p1 p2 x6 a100.2.1) mm_X0_wonBy mw_712 (h0 0 _ rfl) rfl (by omega) (by decide) (Nat.le_of_ble_eq_true rfl) rfl dX0_triedFrom_133 (fun v133 => ?_)
                refine ww_mmax (pc := 136) hC dX0_triedFrom_136 mw_724 mw_574 mw_72 mw_575 (by omega) (Nat.le_of_ble_eq_true rfl) ?_
                refine ww_istore (pc := 139) (lv' := [(5, .int (ww_max a100.1 v133.1)), (0, .ref (ad o0)), (1, .int p1), (2, .int p2), (3, .int x3), (4, .int x4), (6, .int x6), (7, .int a100.2.1)]) hC dX0_triedFrom_139 (by decide) rfl ?_
                refine ww_iinc (pc := 141) (v := a100.2.1 + 1) (lv' := [(7, .int (a100.2.1 + 1)), (5, .int (ww_max a100.1 v133.1)), (0, .ref (ad o0)), (1, .int p1), (2, .int p2), (3, .int x3), (4, .int x4), (6, .int x6)]) hC 7 rfl dX0_triedFrom_141 rfl (by decide) rfl ?_
                refine ww_goto (pc := 144) (tgt := 100) hC dX0_triedFrom_144 (by decide) ?_
                refine ww_lv [2, 3, 4, 5, 6, 1, 7, 0] rfl ?_
                exact hc100 (ww_max a100.1 v133.1, a100.2.1 + 1, v133.2)
      have hJ94 : ∀ (σ : ww_M) (x5 : Int32) (x6 : Int32), ww_V X Y ad G 8 σ 94 [(0, .ref (ad o0)), (1, .int p1), (2, .int p2), (3, .int x3), (4, .int x4), (5, .int x5), (6, .int x6)] [] ((f_X0_triedFrom_j94 mf σ o0 p1 p2 x3 x4 x5 x6).bind KK49) := by
        intro σ x5 x6
        unfold f_X0_triedFrom_j94
        refine ww_iload (pc := 94) hC 6 rfl dX0_triedFrom_94 ?_
        refine ww_iconst (pc := 96) (v := 1) hC dX0_triedFrom_96 rfl ?_
        refine ww_iadd (pc := 97) hC dX0_triedFrom_97 ?_
        refine ww_istore (pc := 98) (lv' := [(7, .int (x6 + 1)), (0, .ref (ad o0)), (1, .int p1), (2, .int p2), (3, .int x3), (4, .int x4), (5, .int x5), (6, .int x6)]) hC dX0_triedFrom_98 (by decide) rfl ?_
        refine ww_lv [1, 2, 3, 4, 5, 6, 7, 0] rfl ?_
        exact hJ100 σ x5 x6 (x6 + 1)
      refine ww_iload (pc := 49) hC 6 rfl dX0_triedFrom_49 ?_
      refine ww_aload_n (pc := 51) hC 0 rfl dX0_triedFrom_51 rfl ?_
      refine ww_geti (pc := 52) (Cl := RX0) (T := TX0) (N := 9) (j := 4) (ref := RX0) hC (h0 0 _ rfl) rfl inT_X0 (by decide) mw_247 rfl rfl dX0_triedFrom_52 ?_
      refine ww_icmp_ge (pc := 55) (tgt := 153) hC dX0_triedFrom_55 (by decide) ?_ ?_
      · refine ww_lv [5] rfl ?_
        exact hx49 (a49.1, a49.2.2)
      · refine ww_iload_n (pc := 58) hC 3 rfl dX0_triedFrom_58 rfl ?_
        refine ww_iload (pc := 59) hC 6 rfl dX0_triedFrom_59 ?_
        refine ww_ishr (pc := 61) hC dX0_triedFrom_61 ?_
        refine ww_iconst (pc := 62) (v := 1) hC dX0_triedFrom_62 rfl ?_
        refine ww_iand (pc := 63) hC dX0_triedFrom_63 ?_
        refine ww_if_ne (pc := 64) (tgt := 70) hC dX0_triedFrom_64 (by decide) ?_ ?_
        · refine ww_iload (pc := 70) hC 4 rfl dX0_triedFrom_70 ?_
          refine ww_if_ne (pc := 72) (tgt := 94) hC dX0_triedFrom_72 (by decide) ?_ ?_
          · exact hJ94 a49.2.2 a49.1 a49.2.1
          · refine ww_iload (pc := 75) hC 5 rfl dX0_triedFrom_75 ?_
            refine ww_aload_n (pc := 77) hC 0 rfl dX0_triedFrom_77 rfl ?_
            refine ww_iload_n (pc := 78) hC 1 rfl dX0_triedFrom_78 rfl ?_
            refine ww_iload_n (pc := 79) hC 2 rfl dX0_triedFrom_79 rfl ?_
            refine ww_iload (pc := 80) hC 6 rfl dX0_triedFrom_80 ?_
            refine ww_aload_n (pc := 82) hC 0 rfl dX0_triedFrom_82 rfl ?_
            refine ww_geti (pc := 83) (Cl := RX0) (T := TX0) (N := 9) (j := 4) (ref := RX0) hC (h0 0 _ rfl) rfl inT_X0 (by decide) mw_247 rfl rfl dX0_triedFrom_83 ?_
            refine ww_callVw (pc := 86) (st := [.int a49.1]) (As := [.int p1, .int p2, .int a49.2.1, .int (a49.2.2 o0 4)]) hC (c_X0_wonBy mf hm h5 hmf o0 h0 a49.2.2 p1 p2 a49.2.1 (a49.2.2 o0 4)) mm_X0_wonBy mw_712 (h0 0 _ rfl) rfl (by omega) (by decide) (Nat.le_of_ble_eq_true rfl) rfl dX0_triedFrom_86 (fun v86 => ?_)
            refine ww_mmax (pc := 89) hC dX0_triedFrom_89 mw_724 mw_574 mw_72 mw_575 (by omega) (Nat.le_of_ble_eq_true rfl) ?_
            refine ww_istore (pc := 92) (lv' := [(5, .int (ww_max a49.1 v86.1)), (0, .ref (ad o0)), (1, .int p1), (2, .int p2), (3, .int x3), (4, .int x4), (6, .int a49.2.1)]) hC dX0_triedFrom_92 (by decide) rfl ?_
            refine ww_lv [1, 2, 3, 4, 5, 0, 6] rfl ?_
            exact hJ94 v86.2 (ww_max a49.1 v86.1) a49.2.1
        · refine ww_goto (pc := 67) (tgt := 147) hC dX0_triedFrom_67 (by decide) ?_
          exact hJ147 a49.2.2 a49.1 a49.2.1
  have hJ28 : ∀ (σ : ww_M) (x3 : Int32) (s0 : Int32), ww_V X Y ad G 8 σ 28 [(0, .ref (ad o0)), (1, .int p1), (2, .int p2), (3, .int x3)] [.int s0] ((f_X0_triedFrom_j28 mf σ o0 p1 p2 x3 s0).bind ww_rw) := by
    intro σ x3 s0
    unfold f_X0_triedFrom_j28
    refine ww_istore (pc := 28) (lv' := [(4, .int s0), (0, .ref (ad o0)), (1, .int p1), (2, .int p2), (3, .int x3)]) hC dX0_triedFrom_28 (by decide) rfl ?_
    refine ww_iload_n (pc := 30) hC 4 rfl dX0_triedFrom_30 rfl ?_
    refine ww_if_ne (pc := 31) (tgt := 43) hC dX0_triedFrom_31 (by decide) ?_ ?_
    · refine ww_iconst (pc := 43) (v := 0) hC dX0_triedFrom_43 rfl ?_
      refine ww_istore (pc := 44) (lv' := [(5, .int 0), (4, .int s0), (0, .ref (ad o0)), (1, .int p1), (2, .int p2), (3, .int x3)]) hC dX0_triedFrom_44 (by decide) rfl ?_
      refine ww_iconst (pc := 46) (v := 0) hC dX0_triedFrom_46 rfl ?_
      refine ww_istore (pc := 47) (lv' := [(6, .int 0), (5, .int 0), (4, .int s0), (0, .ref (ad o0)), (1, .int p1), (2, .int p2), (3, .int x3)]) hC dX0_triedFrom_47 (by decide) rfl ?_
      refine ww_lv [3, 4, 5, 6, 2, 1, 0] rfl ?_
      exact hJ49 σ x3 s0 0 0
    · refine ww_aload_n (pc := 34) hC 1 rfl dX0_triedFrom_34 rfl ?_
      refine ww_iload_n (pc := 35) hC 2 rfl dX0_triedFrom_35 rfl ?_
      refine ww_iconst (pc := 36) (v := 1) hC dX0_triedFrom_36 rfl ?_
      refine ww_iadd (pc := 37) hC dX0_triedFrom_37 ?_
      refine ww_iload_n (pc := 38) hC 3 rfl dX0_triedFrom_38 rfl ?_
      refine ww_callVw (pc := 39) (st := []) (As := [.int (p1 + 1), .int p2]) hC (hmf o0 h0 σ (p1 + 1) p2) mm_X0_mostFrom mw_691 (h0 0 _ rfl) rfl (by omega) (by decide) (Nat.le_of_ble_eq_true rfl) rfl dX0_triedFrom_39 (fun v39 => ?_)
      exact ww_ireturn (pc := 42) hC hR dX0_triedFrom_42 rfl
  have hJ27 : ∀ (σ : ww_M) (x3 : Int32), ww_V X Y ad G 8 σ 27 [(0, .ref (ad o0)), (1, .int p1), (2, .int p2), (3, .int x3)] [] ((f_X0_triedFrom_j27 mf σ o0 p1 p2 x3).bind ww_rw) := by
    intro σ x3
    unfold f_X0_triedFrom_j27
    refine ww_iconst (pc := 27) (v := 0) hC dX0_triedFrom_27 rfl ?_
    exact hJ28 σ x3 0
  unfold f_X0_triedFrom
  refine ww_aload_n (pc := 0) hC 0 rfl dX0_triedFrom_0 rfl ?_
  refine ww_iload_n (pc := 1) hC 1 rfl dX0_triedFrom_1 rfl ?_
  refine ww_iload_n (pc := 2) hC 2 rfl dX0_triedFrom_2 rfl ?_
  refine ww_callVi (pc := 3) (st := []) (As := [.int p1, .int p2]) hC (c_X0_usefulIn o0 h0 σ p1 p2) mm_X0_usefulIn mw_699 (h0 0 _ rfl) rfl (by omega) (by decide) (Nat.le_of_ble_eq_true rfl) rfl dX0_triedFrom_3 (fun v3 => ?_)
  refine ww_istore_n (pc := 6) (lv' := [(3, .int v3), (0, .ref (ad o0)), (1, .int p1), (2, .int p2)]) hC dX0_triedFrom_6 rfl (by decide) rfl ?_
  refine ww_aload_n (pc := 7) hC 1 rfl dX0_triedFrom_7 rfl ?_
  refine ww_geti (pc := 8) (Cl := RX0) (T := TX0) (N := 9) (j := 6) (ref := RX0) hC (h0 0 _ rfl) rfl inT_X0 (by decide) mw_249 rfl rfl dX0_triedFrom_8 ?_
  refine ww_iconst (pc := 11) (v := 1) hC dX0_triedFrom_11 rfl ?_
  refine ww_icmp_le (pc := 12) (tgt := 27) hC dX0_triedFrom_12 (by decide) ?_ ?_
  · refine ww_lv [1, 2, 3, 0] rfl ?_
    exact hJ27 σ v3
  · refine ww_iload_n (pc := 15) hC 0 rfl dX0_triedFrom_15 rfl ?_
    refine ww_callSi (pc := 16) (st := []) (As := [.int v3]) hC (c_J6_bitCount_0f7a4 σ v3) mm_J6_bitCount_0f7a4 mw_706 (by omega) (by decide) (Nat.le_of_ble_eq_true rfl) rfl dX0_triedFrom_16 (fun v16 => ?_)
    refine ww_iconst (pc := 19) (v := 1) hC dX0_triedFrom_19 rfl ?_
    refine ww_icmp_le (pc := 20) (tgt := 27) hC dX0_triedFrom_20 (by decide) ?_ ?_
    · refine ww_lv [1, 2, 3, 0] rfl ?_
      exact hJ27 σ v3
    · refine ww_iconst (pc := 23) (v := 1) hC dX0_triedFrom_23 rfl ?_
      refine ww_goto (pc := 24) (tgt := 28) hC dX0_triedFrom_24 (by decide) ?_
      refine ww_lv [1, 2, 3, 0] rfl ?_
      exact hJ28 σ v3 1
theorem dX0_mostFrom_0 : decode cX0_mostFrom 0 = .ok (.iload_n 1, 1) := by decide +kernel
theorem dX0_mostFrom_1 : decode cX0_mostFrom 1 = .ok (.aload_n 0, 1) := by decide +kernel
theorem dX0_mostFrom_2 : decode cX0_mostFrom 2 = .ok (.getfield 44, 3) := by decide +kernel
theorem dX0_mostFrom_5 : decode cX0_mostFrom 5 = .ok (.if_icmp .lt 5, 3) := by decide +kernel
theorem dX0_mostFrom_8 : decode cX0_mostFrom 8 = .ok (.iconst 0, 1) := by decide +kernel
theorem dX0_mostFrom_9 : decode cX0_mostFrom 9 = .ok (.ireturn, 1) := by decide +kernel
theorem dX0_mostFrom_10 : decode cX0_mostFrom 10 = .ok (.iload_n 1, 1) := by decide +kernel
theorem dX0_mostFrom_11 : decode cX0_mostFrom 11 = .ok (.sipush 4096, 3) := by decide +kernel
theorem dX0_mostFrom_14 : decode cX0_mostFrom 14 = .ok (.imul, 1) := by decide +kernel
theorem dX0_mostFrom_15 : decode cX0_mostFrom 15 = .ok (.iload_n 2, 1) := by decide +kernel
theorem dX0_mostFrom_16 : decode cX0_mostFrom 16 = .ok (.iadd, 1) := by decide +kernel
theorem dX0_mostFrom_17 : decode cX0_mostFrom 17 = .ok (.istore_n 3, 1) := by decide +kernel
theorem dX0_mostFrom_18 : decode cX0_mostFrom 18 = .ok (.aload_n 0, 1) := by decide +kernel
theorem dX0_mostFrom_19 : decode cX0_mostFrom 19 = .ok (.getfield 11, 3) := by decide +kernel
theorem dX0_mostFrom_22 : decode cX0_mostFrom 22 = .ok (.iload_n 3, 1) := by decide +kernel
theorem dX0_mostFrom_23 : decode cX0_mostFrom 23 = .ok (.iaload, 1) := by decide +kernel
theorem dX0_mostFrom_24 : decode cX0_mostFrom 24 = .ok (.bipush 64, 2) := by decide +kernel
theorem dX0_mostFrom_26 : decode cX0_mostFrom 26 = .ok (.idiv, 1) := by decide +kernel
theorem dX0_mostFrom_27 : decode cX0_mostFrom 27 = .ok (.aload_n 0, 1) := by decide +kernel
theorem dX0_mostFrom_28 : decode cX0_mostFrom 28 = .ok (.getfield 36, 3) := by decide +kernel
theorem dX0_mostFrom_31 : decode cX0_mostFrom 31 = .ok (.if_icmp .eq 23, 3) := by decide +kernel
theorem dX0_mostFrom_34 : decode cX0_mostFrom 34 = .ok (.aload_n 0, 1) := by decide +kernel
theorem dX0_mostFrom_35 : decode cX0_mostFrom 35 = .ok (.getfield 11, 3) := by decide +kernel
theorem dX0_mostFrom_38 : decode cX0_mostFrom 38 = .ok (.iload_n 3, 1) := by decide +kernel
theorem dX0_mostFrom_39 : decode cX0_mostFrom 39 = .ok (.aload_n 0, 1) := by decide +kernel
theorem dX0_mostFrom_40 : decode cX0_mostFrom 40 = .ok (.getfield 36, 3) := by decide +kernel
theorem dX0_mostFrom_43 : decode cX0_mostFrom 43 = .ok (.bipush 64, 2) := by decide +kernel
theorem dX0_mostFrom_45 : decode cX0_mostFrom 45 = .ok (.imul, 1) := by decide +kernel
theorem dX0_mostFrom_46 : decode cX0_mostFrom 46 = .ok (.aload_n 0, 1) := by decide +kernel
theorem dX0_mostFrom_47 : decode cX0_mostFrom 47 = .ok (.iload_n 1, 1) := by decide +kernel
theorem dX0_mostFrom_48 : decode cX0_mostFrom 48 = .ok (.iload_n 2, 1) := by decide +kernel
theorem dX0_mostFrom_49 : decode cX0_mostFrom 49 = .ok (.invokevirtual 118, 3) := by decide +kernel
theorem dX0_mostFrom_52 : decode cX0_mostFrom 52 = .ok (.iadd, 1) := by decide +kernel
theorem dX0_mostFrom_53 : decode cX0_mostFrom 53 = .ok (.iastore, 1) := by decide +kernel
theorem dX0_mostFrom_54 : decode cX0_mostFrom 54 = .ok (.aload_n 0, 1) := by decide +kernel
theorem dX0_mostFrom_55 : decode cX0_mostFrom 55 = .ok (.getfield 11, 3) := by decide +kernel
theorem dX0_mostFrom_58 : decode cX0_mostFrom 58 = .ok (.iload_n 3, 1) := by decide +kernel
theorem dX0_mostFrom_59 : decode cX0_mostFrom 59 = .ok (.iaload, 1) := by decide +kernel
theorem dX0_mostFrom_60 : decode cX0_mostFrom 60 = .ok (.bipush 64, 2) := by decide +kernel
theorem dX0_mostFrom_62 : decode cX0_mostFrom 62 = .ok (.irem, 1) := by decide +kernel
theorem dX0_mostFrom_63 : decode cX0_mostFrom 63 = .ok (.ireturn, 1) := by decide +kernel
set_option maxHeartbeats 4000000 in
set_option maxRecDepth 100000 in
theorem c_X0_mostFromS {l : Launch} {Y : ww_Y} {ad : Nat → Nat} {G : List ww_L} (d : Nat) (mf : ww_M → Nat → Int32 → Int32 → Option (Int32 × ww_M)) (hmf : ∀ (o0 : Nat) (h0 : ww_at G o0 (ww_LPlanner o0)) (σ : ww_M) (p1 p2 : Int32), ww_Cn l Y ad G yX0_mostFrom cX0_mostFrom 4 (some .int) (5 + 3 * d) [.ref (ad o0), .int p1, .int p2] σ ((mf σ o0 p1 p2).bind ww_rw)) (o0 : Nat) (h0 : ww_at G o0 (ww_LPlanner o0)) (σ : ww_M) (p1 : Int32) (p2 : Int32) : ww_Cn l Y ad G yX0_mostFrom cX0_mostFrom 4 (some .int) (5 + 3 * (d + 1)) [.ref (ad o0), .int p1, .int p2] σ ((f_X0_mostFromS mf σ o0 p1 p2).bind ww_rw) := by
  refine ww_met (by decide +kernel) (Nat.le_of_ble_eq_true rfl) ?_
  intro X hC hR
  have hC : ww_C X l Y ad G (5 + 3 * (d + 1)) cX0_mostFrom 4 RX0 := hC
  show ww_V X Y ad G 4 σ 0 [(0, .ref (ad o0)), (1, .int p1), (2, .int p2)] [] ((f_X0_mostFromS mf σ o0 p1 p2).bind ww_rw)
  unfold f_X0_mostFromS
  refine ww_iload_n (pc := 0) hC 1 rfl dX0_mostFrom_0 rfl ?_
  refine ww_aload_n (pc := 1) hC 0 rfl dX0_mostFrom_1 rfl ?_
  refine ww_geti (pc := 2) (Cl := RX0) (T := TX0) (N := 9) (j := 5) (ref := RX0) hC (h0 0 _ rfl) rfl inT_X0 (by decide) mw_248 rfl rfl dX0_mostFrom_2 ?_
  refine ww_icmp_lt (pc := 5) (tgt := 10) hC dX0_mostFrom_5 (by decide) ?_ ?_
  · refine ww_iload_n (pc := 10) hC 1 rfl dX0_mostFrom_10 rfl ?_
    refine ww_sipush (pc := 11) (v := 4096) hC dX0_mostFrom_11 rfl ?_
    refine ww_imul (pc := 14) hC dX0_mostFrom_14 ?_
    refine ww_iload_n (pc := 15) hC 2 rfl dX0_mostFrom_15 rfl ?_
    refine ww_iadd (pc := 16) hC dX0_mostFrom_16 ?_
    refine ww_istore_n (pc := 17) (lv' := [(3, .int ((p1 * 4096) + p2)), (0, .ref (ad o0)), (1, .int p1), (2, .int p2)]) hC dX0_mostFrom_17 rfl (by decide) rfl ?_
    refine ww_aload_n (pc := 18) hC 1 rfl dX0_mostFrom_18 rfl ?_
    refine ww_getr (pc := 19) (Cl := RX0) (T := TX0) (N := 9) (j := 0) (ref := RX0) hC (h0 0 _ rfl) rfl inT_X0 (by decide) mw_243 rfl rfl dX0_mostFrom_19 ?_
    refine ww_iload_n (pc := 22) hC 0 rfl dX0_mostFrom_22 rfl ?_
    refine ww_iald (pc := 23) hC (h0 1 _ rfl) dX0_mostFrom_23 ?_
    refine ww_bipush (pc := 24) (v := 64) hC dX0_mostFrom_24 rfl ?_
    refine ww_idiv_c (pc := 26) hC dX0_mostFrom_26 (by decide) ?_
    refine ww_aload_n (pc := 27) hC 1 rfl dX0_mostFrom_27 rfl ?_
    refine ww_geti (pc := 28) (Cl := RX0) (T := TX0) (N := 9) (j := 8) (ref := RX0) hC (h0 0 _ rfl) rfl inT_X0 (by decide) mw_251 rfl rfl dX0_mostFrom_28 ?_
    refine ww_icmp_eq (pc := 31) (tgt := 54) hC dX0_mostFrom_31 (by decide) ?_ ?_
    · refine ww_aload_n (pc := 54) hC 1 rfl dX0_mostFrom_54 rfl ?_
      refine ww_getr (pc := 55) (Cl := RX0) (T := TX0) (N := 9) (j := 0) (ref := RX0) hC (h0 0 _ rfl) rfl inT_X0 (by decide) mw_243 rfl rfl dX0_mostFrom_55 ?_
      refine ww_iload_n (pc := 58) hC 0 rfl dX0_mostFrom_58 rfl ?_
      refine ww_iald (pc := 59) hC (h0 1 _ rfl) dX0_mostFrom_59 ?_
      refine ww_bipush (pc := 60) (v := 64) hC dX0_mostFrom_60 rfl ?_
      refine ww_irem_c (pc := 62) hC dX0_mostFrom_62 (by decide) ?_
      exact ww_ireturn (pc := 63) hC hR dX0_mostFrom_63 rfl
    · refine ww_aload_n (pc := 34) hC 1 rfl dX0_mostFrom_34 rfl ?_
      refine ww_getr (pc := 35) (Cl := RX0) (T := TX0) (N := 9) (j := 0) (ref := RX0) hC (h0 0 _ rfl) rfl inT_X0 (by decide) mw_243 rfl rfl dX0_mostFrom_35 ?_
      refine ww_iload_n (pc := 38) hC 0 rfl dX0_mostFrom_38 rfl ?_
      refine ww_aload_n (pc := 39) hC 1 rfl dX0_mostFrom_39 rfl ?_
      refine ww_geti (pc := 40) (Cl := RX0) (T := TX0) (N := 9) (j := 8) (ref := RX0) hC (h0 0 _ rfl) rfl inT_X0 (by decide) mw_251 rfl rfl dX0_mostFrom_40 ?_
      refine ww_bipush (pc := 43) (v := 64) hC dX0_mostFrom_43 rfl ?_
      refine ww_imul (pc := 45) hC dX0_mostFrom_45 ?_
      refine ww_aload_n (pc := 46) hC 1 rfl dX0_mostFrom_46 rfl ?_
      refine ww_iload_n (pc := 47) hC 2 rfl dX0_mostFrom_47 rfl ?_
      refine ww_iload_n (pc := 48) hC 3 rfl dX0_mostFrom_48 rfl ?_
      refine ww_callVw (pc := 49) (st := [.int ((σ o0 8) * 64), .int ((p1 * 4096) + p2), .ref (ad (o0 + 1))]) (As := [.int p1, .int p2]) hC (c_X0_triedFrom mf (5 + 3 * d) (by omega) hmf o0 h0 σ p1 p2) mm_X0_triedFrom mw_695 (h0 0 _ rfl) rfl (by omega) (by decide) (Nat.le_of_ble_eq_true rfl) rfl dX0_mostFrom_49 (fun v49 => ?_)
      refine ww_iadd (pc := 52) hC dX0_mostFrom_52 ?_
      refine ww_iast (pc := 53) hC (h0 1 _ rfl) dX0_mostFrom_53 ?_
      refine ww_aload_n (pc := 54) hC 1 rfl dX0_mostFrom_54 rfl ?_
      refine ww_getr (pc := 55) (Cl := RX0) (T := TX0) (N := 9) (j := 0) (ref := RX0) hC (h0 0 _ rfl) rfl inT_X0 (by decide) mw_243 rfl rfl dX0_mostFrom_55 ?_
      refine ww_iload_n (pc := 58) hC 0 rfl dX0_mostFrom_58 rfl ?_
      refine ww_iald (pc := 59) hC (h0 1 _ rfl) dX0_mostFrom_59 ?_
      refine ww_bipush (pc := 60) (v := 64) hC dX0_mostFrom_60 rfl ?_
      refine ww_irem_c (pc := 62) hC dX0_mostFrom_62 (by decide) ?_
      exact ww_ireturn (pc := 63) hC hR dX0_mostFrom_63 rfl
  · refine ww_iconst (pc := 8) (v := 0) hC dX0_mostFrom_8 rfl ?_
    exact ww_ireturn (pc := 9) hC hR dX0_mostFrom_9 rfl
theorem c_X0_mostFrom {l : Launch} {Y : ww_Y} {ad : Nat → Nat} {G : List ww_L} : ∀ (d : Nat) (o0 : Nat) (h0 : ww_at G o0 (ww_LPlanner o0)) (σ : ww_M) (p1 p2 : Int32), ww_Cn l Y ad G yX0_mostFrom cX0_mostFrom 4 (some .int) (5 + 3 * d) [.ref (ad o0), .int p1, .int p2] σ ((f_X0_mostFrom d σ o0 p1 p2).bind ww_rw)
  | 0 => fun o0 h0 σ p1 p2 sz r hr => by cases hr
  | d + 1 => fun o0 h0 σ p1 p2 => c_X0_mostFromS d (f_X0_mostFrom d) (c_X0_mostFrom d) o0 h0 σ p1 p2
theorem dX0_mostBy_0 : decode cX0_mostBy 0 = .ok (.aload_n 0, 1) := by decide +kernel
theorem dX0_mostBy_1 : decode cX0_mostBy 1 = .ok (.aload_n 1, 1) := by decide +kernel
theorem dX0_mostBy_2 : decode cX0_mostBy 2 = .ok (.iload_n 2, 1) := by decide +kernel
theorem dX0_mostBy_3 : decode cX0_mostBy 3 = .ok (.iload_n 3, 1) := by decide +kernel
theorem dX0_mostBy_4 : decode cX0_mostBy 4 = .ok (.iload 4, 2) := by decide +kernel
theorem dX0_mostBy_6 : decode cX0_mostBy 6 = .ok (.invokevirtual 24, 3) := by decide +kernel
theorem dX0_mostBy_9 : decode cX0_mostBy 9 = .ok (.aload_n 0, 1) := by decide +kernel
theorem dX0_mostBy_10 : decode cX0_mostBy 10 = .ok (.iconst 0, 1) := by decide +kernel
theorem dX0_mostBy_11 : decode cX0_mostBy 11 = .ok (.aload_n 0, 1) := by decide +kernel
theorem dX0_mostBy_12 : decode cX0_mostBy 12 = .ok (.getfield 28, 3) := by decide +kernel
theorem dX0_mostBy_15 : decode cX0_mostBy 15 = .ok (.invokevirtual 32, 3) := by decide +kernel
theorem dX0_mostBy_18 : decode cX0_mostBy 18 = .ok (.ireturn, 1) := by decide +kernel
set_option maxHeartbeats 4000000 in
set_option maxRecDepth 100000 in
theorem c_X0_mostBy {l : Launch} {Y : ww_Y} {ad : Nat → Nat} {G : List ww_L} (o0 : Nat) (h0 : ww_at G o0 (ww_LPlanner o0)) (o1 : Nat) (h1 : ww_at G o1 (ww_LShore o1)) (σ : ww_M) (p2 : Int32) (p3 : Int32) (p4 : Int32) : ww_Cn l Y ad G yX0_mostBy cX0_mostBy 5 (some .int) 30 [.ref (ad o0), .ref (ad o1), .int p2, .int p3, .int p4] σ ((f_X0_mostBy σ o0 o1 p2 p3 p4).bind ww_rw) := by
  refine ww_met (by decide +kernel) (Nat.le_of_ble_eq_true rfl) ?_
  intro X hC hR
  have hC : ww_C X l Y ad G 30 cX0_mostBy 5 RX0 := hC
  show ww_V X Y ad G 5 σ 0 [(0, .ref (ad o0)), (1, .ref (ad o1)), (2, .int p2), (3, .int p3), (4, .int p4)] [] ((f_X0_mostBy σ o0 o1 p2 p3 p4).bind ww_rw)
  unfold f_X0_mostBy
  refine ww_aload_n (pc := 0) hC 0 rfl dX0_mostBy_0 rfl ?_
  refine ww_aload_n (pc := 1) hC 1 rfl dX0_mostBy_1 rfl ?_
  refine ww_iload_n (pc := 2) hC 2 rfl dX0_mostBy_2 rfl ?_
  refine ww_iload_n (pc := 3) hC 3 rfl dX0_mostBy_3 rfl ?_
  refine ww_iload (pc := 4) hC 4 rfl dX0_mostBy_4 ?_
  refine ww_callVv (pc := 6) (st := []) (As := [.ref (ad o1), .int p2, .int p3, .int p4]) hC (c_X0_load o0 h0 o1 h1 σ p2 p3 p4) mm_X0_load mw_672 (h0 0 _ rfl) rfl (by omega) (by decide) (Nat.le_of_ble_eq_true rfl) rfl dX0_mostBy_6 (fun v6 => ?_)
  refine ww_aload_n (pc := 9) hC 0 rfl dX0_mostBy_9 rfl ?_
  refine ww_iconst (pc := 10) (v := 0) hC dX0_mostBy_10 rfl ?_
  refine ww_aload_n (pc := 11) hC 0 rfl dX0_mostBy_11 rfl ?_
  refine ww_geti (pc := 12) (Cl := RX0) (T := TX0) (N := 9) (j := 7) (ref := RX0) hC (h0 0 _ rfl) rfl inT_X0 (by decide) mw_250 rfl rfl dX0_mostBy_12 ?_
  refine ww_callVw (pc := 15) (st := []) (As := [.int 0, .int (v6 o0 7)]) hC (c_X0_mostFrom 8 o0 h0 v6 0 (v6 o0 7)) mm_X0_mostFrom mw_691 (h0 0 _ rfl) rfl (by omega) (by decide) (Nat.le_of_ble_eq_true rfl) rfl dX0_mostBy_15 (fun v15 => ?_)
  exact ww_ireturn (pc := 18) hC hR dX0_mostBy_18 rfl
theorem dX0_canChoose_0 : decode cX0_canChoose 0 = .ok (.iload_n 3, 1) := by decide +kernel
theorem dX0_canChoose_1 : decode cX0_canChoose 1 = .ok (.aload_n 0, 1) := by decide +kernel
theorem dX0_canChoose_2 : decode cX0_canChoose 2 = .ok (.getfield 72, 3) := by decide +kernel
theorem dX0_canChoose_5 : decode cX0_canChoose 5 = .ok (.if_icmp .eq 25, 3) := by decide +kernel
theorem dX0_canChoose_8 : decode cX0_canChoose 8 = .ok (.aload_n 0, 1) := by decide +kernel
theorem dX0_canChoose_9 : decode cX0_canChoose 9 = .ok (.getfield 18, 3) := by decide +kernel
theorem dX0_canChoose_12 : decode cX0_canChoose 12 = .ok (.iload_n 1, 1) := by decide +kernel
theorem dX0_canChoose_13 : decode cX0_canChoose 13 = .ok (.iaload, 1) := by decide +kernel
theorem dX0_canChoose_14 : decode cX0_canChoose 14 = .ok (.iload_n 3, 1) := by decide +kernel
theorem dX0_canChoose_15 : decode cX0_canChoose 15 = .ok (.ishr, 1) := by decide +kernel
theorem dX0_canChoose_16 : decode cX0_canChoose 16 = .ok (.iconst 1, 1) := by decide +kernel
theorem dX0_canChoose_17 : decode cX0_canChoose 17 = .ok (.iand, 1) := by decide +kernel
theorem dX0_canChoose_18 : decode cX0_canChoose 18 = .ok (.iconst 1, 1) := by decide +kernel
theorem dX0_canChoose_19 : decode cX0_canChoose 19 = .ok (.if_icmp .ne 15, 3) := by decide +kernel
theorem dX0_canChoose_22 : decode cX0_canChoose 22 = .ok (.iload_n 2, 1) := by decide +kernel
theorem dX0_canChoose_23 : decode cX0_canChoose 23 = .ok (.iload_n 3, 1) := by decide +kernel
theorem dX0_canChoose_24 : decode cX0_canChoose 24 = .ok (.invokestatic 112, 3) := by decide +kernel
theorem dX0_canChoose_27 : decode cX0_canChoose 27 = .ok (.ifCond .le 7, 3) := by decide +kernel
theorem dX0_canChoose_30 : decode cX0_canChoose 30 = .ok (.iconst 1, 1) := by decide +kernel
theorem dX0_canChoose_31 : decode cX0_canChoose 31 = .ok (.goto 4, 3) := by decide +kernel
theorem dX0_canChoose_34 : decode cX0_canChoose 34 = .ok (.iconst 0, 1) := by decide +kernel
theorem dX0_canChoose_35 : decode cX0_canChoose 35 = .ok (.ireturn, 1) := by decide +kernel
set_option maxHeartbeats 4000000 in
set_option maxRecDepth 100000 in
theorem c_X0_canChoose {l : Launch} {Y : ww_Y} {ad : Nat → Nat} {G : List ww_L} (o0 : Nat) (h0 : ww_at G o0 (ww_LPlanner o0)) (σ : ww_M) (p1 : Int32) (p2 : Int32) (p3 : Int32) : ww_Cn l Y ad G yX0_canChoose cX0_canChoose 4 (some .boolean) 2 [.ref (ad o0), .int p1, .int p2, .int p3] σ ((f_X0_canChoose σ o0 p1 p2 p3).bind (ww_ri σ)) := by
  refine ww_met (by decide +kernel) (Nat.le_of_ble_eq_true rfl) ?_
  intro X hC hR
  have hC : ww_C X l Y ad G 2 cX0_canChoose 4 RX0 := hC
  show ww_V X Y ad G 4 σ 0 [(0, .ref (ad o0)), (1, .int p1), (2, .int p2), (3, .int p3)] [] ((f_X0_canChoose σ o0 p1 p2 p3).bind (ww_ri σ))
  unfold f_X0_canChoose
  refine ww_iload_n (pc := 0) hC 3 rfl dX0_canChoose_0 rfl ?_
  refine ww_aload_n (pc := 1) hC 0 rfl dX0_canChoose_1 rfl ?_
  refine ww_geti (pc := 2) (Cl := RX0) (T := TX0) (N := 9) (j := 4) (ref := RX0) hC (h0 0 _ rfl) rfl inT_X0 (by decide) mw_247 rfl rfl dX0_canChoose_2 ?_
  refine ww_icmp_eq (pc := 5) (tgt := 30) hC dX0_canChoose_5 (by decide) ?_ ?_
  · refine ww_iconst (pc := 30) (v := 1) hC dX0_canChoose_30 rfl ?_
    refine ww_goto (pc := 31) (tgt := 35) hC dX0_canChoose_31 (by decide) ?_
    exact ww_zreturn (pc := 35) hC hR dX0_canChoose_35 rfl rfl
  · refine ww_aload_n (pc := 8) hC 0 rfl dX0_canChoose_8 rfl ?_
    refine ww_getr (pc := 9) (Cl := RX0) (T := TX0) (N := 9) (j := 2) (ref := RX0) hC (h0 0 _ rfl) rfl inT_X0 (by decide) mw_245 rfl rfl dX0_canChoose_9 ?_
    refine ww_iload_n (pc := 12) hC 1 rfl dX0_canChoose_12 rfl ?_
    refine ww_iald (pc := 13) hC (h0 3 _ rfl) dX0_canChoose_13 ?_
    refine ww_iload_n (pc := 14) hC 3 rfl dX0_canChoose_14 rfl ?_
    refine ww_ishr (pc := 15) hC dX0_canChoose_15 ?_
    refine ww_iconst (pc := 16) (v := 1) hC dX0_canChoose_16 rfl ?_
    refine ww_iand (pc := 17) hC dX0_canChoose_17 ?_
    refine ww_iconst (pc := 18) (v := 1) hC dX0_canChoose_18 rfl ?_
    refine ww_icmp_ne (pc := 19) (tgt := 34) hC dX0_canChoose_19 (by decide) ?_ ?_
    · refine ww_iconst (pc := 34) (v := 0) hC dX0_canChoose_34 rfl ?_
      exact ww_zreturn (pc := 35) hC hR dX0_canChoose_35 rfl rfl
    · refine ww_iload_n (pc := 22) hC 2 rfl dX0_canChoose_22 rfl ?_
      refine ww_iload_n (pc := 23) hC 3 rfl dX0_canChoose_23 rfl ?_
      refine ww_callSi (pc := 24) (st := []) (As := [.int p2, .int p3]) hC (c_X0_workIn σ p2 p3) mm_X0_workIn mw_703 (by omega) (by decide) (Nat.le_of_ble_eq_true rfl) rfl dX0_canChoose_24 (fun v24 => ?_)
      refine ww_if_le (pc := 27) (tgt := 34) hC dX0_canChoose_27 (by decide) ?_ ?_
      · refine ww_iconst (pc := 34) (v := 0) hC dX0_canChoose_34 rfl ?_
        exact ww_zreturn (pc := 35) hC hR dX0_canChoose_35 rfl rfl
      · refine ww_iconst (pc := 30) (v := 1) hC dX0_canChoose_30 rfl ?_
        refine ww_goto (pc := 31) (tgt := 35) hC dX0_canChoose_31 (by decide) ?_
        exact ww_zreturn (pc := 35) hC hR dX0_canChoose_35 rfl rfl
theorem dX0_firstBest_0 : decode cX0_firstBest 0 = .ok (.aload_n 0, 1) := by decide +kernel
theorem dX0_firstBest_1 : decode cX0_firstBest 1 = .ok (.iload_n 1, 1) := by decide +kernel
theorem dX0_firstBest_2 : decode cX0_firstBest 2 = .ok (.iload_n 2, 1) := by decide +kernel
theorem dX0_firstBest_3 : decode cX0_firstBest 3 = .ok (.invokevirtual 32, 3) := by decide +kernel
theorem dX0_firstBest_6 : decode cX0_firstBest 6 = .ok (.istore_n 3, 1) := by decide +kernel
theorem dX0_firstBest_7 : decode cX0_firstBest 7 = .ok (.iconst 0, 1) := by decide +kernel
theorem dX0_firstBest_8 : decode cX0_firstBest 8 = .ok (.istore 4, 2) := by decide +kernel
theorem dX0_firstBest_10 : decode cX0_firstBest 10 = .ok (.iload 4, 2) := by decide +kernel
theorem dX0_firstBest_12 : decode cX0_firstBest 12 = .ok (.aload_n 0, 1) := by decide +kernel
theorem dX0_firstBest_13 : decode cX0_firstBest 13 = .ok (.getfield 72, 3) := by decide +kernel
theorem dX0_firstBest_16 : decode cX0_firstBest 16 = .ok (.if_icmp .ge 93, 3) := by decide +kernel
theorem dX0_firstBest_19 : decode cX0_firstBest 19 = .ok (.aload_n 0, 1) := by decide +kernel
theorem dX0_firstBest_20 : decode cX0_firstBest 20 = .ok (.iload_n 1, 1) := by decide +kernel
theorem dX0_firstBest_21 : decode cX0_firstBest 21 = .ok (.iload_n 2, 1) := by decide +kernel
theorem dX0_firstBest_22 : decode cX0_firstBest 22 = .ok (.iload 4, 2) := by decide +kernel
theorem dX0_firstBest_24 : decode cX0_firstBest 24 = .ok (.invokevirtual 104, 3) := by decide +kernel
theorem dX0_firstBest_27 : decode cX0_firstBest 27 = .ok (.ifCond .ne 6, 3) := by decide +kernel
theorem dX0_firstBest_30 : decode cX0_firstBest 30 = .ok (.goto 73, 3) := by decide +kernel
theorem dX0_firstBest_33 : decode cX0_firstBest 33 = .ok (.aload_n 0, 1) := by decide +kernel
theorem dX0_firstBest_34 : decode cX0_firstBest 34 = .ok (.getfield 52, 3) := by decide +kernel
theorem dX0_firstBest_37 : decode cX0_firstBest 37 = .ok (.iconst 1, 1) := by decide +kernel
theorem dX0_firstBest_38 : decode cX0_firstBest 38 = .ok (.if_icmp .le 10, 3) := by decide +kernel
theorem dX0_firstBest_41 : decode cX0_firstBest 41 = .ok (.iload 4, 2) := by decide +kernel
theorem dX0_firstBest_43 : decode cX0_firstBest 43 = .ok (.iconst 1, 1) := by decide +kernel
theorem dX0_firstBest_44 : decode cX0_firstBest 44 = .ok (.iadd, 1) := by decide +kernel
theorem dX0_firstBest_45 : decode cX0_firstBest 45 = .ok (.goto 7, 3) := by decide +kernel
theorem dX0_firstBest_48 : decode cX0_firstBest 48 = .ok (.aload_n 0, 1) := by decide +kernel
theorem dX0_firstBest_49 : decode cX0_firstBest 49 = .ok (.getfield 72, 3) := by decide +kernel
theorem dX0_firstBest_52 : decode cX0_firstBest 52 = .ok (.istore 5, 2) := by decide +kernel
theorem dX0_firstBest_54 : decode cX0_firstBest 54 = .ok (.iload 5, 2) := by decide +kernel
theorem dX0_firstBest_56 : decode cX0_firstBest 56 = .ok (.aload_n 0, 1) := by decide +kernel
theorem dX0_firstBest_57 : decode cX0_firstBest 57 = .ok (.getfield 72, 3) := by decide +kernel
theorem dX0_firstBest_60 : decode cX0_firstBest 60 = .ok (.if_icmp .gt 43, 3) := by decide +kernel
theorem dX0_firstBest_63 : decode cX0_firstBest 63 = .ok (.aload_n 0, 1) := by decide +kernel
theorem dX0_firstBest_64 : decode cX0_firstBest 64 = .ok (.iload_n 1, 1) := by decide +kernel
theorem dX0_firstBest_65 : decode cX0_firstBest 65 = .ok (.iload_n 2, 1) := by decide +kernel
theorem dX0_firstBest_66 : decode cX0_firstBest 66 = .ok (.iload 5, 2) := by decide +kernel
theorem dX0_firstBest_68 : decode cX0_firstBest 68 = .ok (.invokevirtual 104, 3) := by decide +kernel
theorem dX0_firstBest_71 : decode cX0_firstBest 71 = .ok (.ifCond .eq 26, 3) := by decide +kernel
theorem dX0_firstBest_74 : decode cX0_firstBest 74 = .ok (.aload_n 0, 1) := by decide +kernel
theorem dX0_firstBest_75 : decode cX0_firstBest 75 = .ok (.iload_n 1, 1) := by decide +kernel
theorem dX0_firstBest_76 : decode cX0_firstBest 76 = .ok (.iload_n 2, 1) := by decide +kernel
theorem dX0_firstBest_77 : decode cX0_firstBest 77 = .ok (.iload 4, 2) := by decide +kernel
theorem dX0_firstBest_79 : decode cX0_firstBest 79 = .ok (.iload 5, 2) := by decide +kernel
theorem dX0_firstBest_81 : decode cX0_firstBest 81 = .ok (.invokevirtual 108, 3) := by decide +kernel
theorem dX0_firstBest_84 : decode cX0_firstBest 84 = .ok (.iload_n 3, 1) := by decide +kernel
theorem dX0_firstBest_85 : decode cX0_firstBest 85 = .ok (.if_icmp .ne 12, 3) := by decide +kernel
theorem dX0_firstBest_88 : decode cX0_firstBest 88 = .ok (.iload 4, 2) := by decide +kernel
theorem dX0_firstBest_90 : decode cX0_firstBest 90 = .ok (.bipush 7, 2) := by decide +kernel
theorem dX0_firstBest_92 : decode cX0_firstBest 92 = .ok (.imul, 1) := by decide +kernel
theorem dX0_firstBest_93 : decode cX0_firstBest 93 = .ok (.iload 5, 2) := by decide +kernel
theorem dX0_firstBest_95 : decode cX0_firstBest 95 = .ok (.iadd, 1) := by decide +kernel
theorem dX0_firstBest_96 : decode cX0_firstBest 96 = .ok (.ireturn, 1) := by decide +kernel
theorem dX0_firstBest_97 : decode cX0_firstBest 97 = .ok (.iinc 5 1, 3) := by decide +kernel
theorem dX0_firstBest_100 : decode cX0_firstBest 100 = .ok (.goto (-46), 3) := by decide +kernel
theorem dX0_firstBest_103 : decode cX0_firstBest 103 = .ok (.iinc 4 1, 3) := by decide +kernel
theorem dX0_firstBest_106 : decode cX0_firstBest 106 = .ok (.goto (-96), 3) := by decide +kernel
theorem dX0_firstBest_109 : decode cX0_firstBest 109 = .ok (.aload_n 0, 1) := by decide +kernel
theorem dX0_firstBest_110 : decode cX0_firstBest 110 = .ok (.getfield 72, 3) := by decide +kernel
theorem dX0_firstBest_113 : decode cX0_firstBest 113 = .ok (.bipush 7, 2) := by decide +kernel
theorem dX0_firstBest_115 : decode cX0_firstBest 115 = .ok (.imul, 1) := by decide +kernel
theorem dX0_firstBest_116 : decode cX0_firstBest 116 = .ok (.aload_n 0, 1) := by decide +kernel
theorem dX0_firstBest_117 : decode cX0_firstBest 117 = .ok (.getfield 72, 3) := by decide +kernel
theorem dX0_firstBest_120 : decode cX0_firstBest 120 = .ok (.iadd, 1) := by decide +kernel
theorem dX0_firstBest_121 : decode cX0_firstBest 121 = .ok (.ireturn, 1) := by decide +kernel
set_option maxHeartbeats 4000000 in
set_option maxRecDepth 100000 in
theorem c_X0_firstBest {l : Launch} {Y : ww_Y} {ad : Nat → Nat} {G : List ww_L} (o0 : Nat) (h0 : ww_at G o0 (ww_LPlanner o0)) (σ : ww_M) (p1 : Int32) (p2 : Int32) : ww_Cn l Y ad G yX0_firstBest cX0_firstBest 6 (some .int) 31 [.ref (ad o0), .int p1, .int p2] σ ((f_X0_firstBest σ o0 p1 p2).bind ww_rw) := by
  refine ww_met (by decide +kernel) (Nat.le_of_ble_eq_true rfl) ?_
  intro X hC hR
  have hC : ww_C X l Y ad G 31 cX0_firstBest 6 RX0 := hC
  show ww_V X Y ad G 6 σ 0 [(0, .ref (ad o0)), (1, .int p1), (2, .int p2)] [] ((f_X0_firstBest σ o0 p1 p2).bind ww_rw)
  have hJ109 : ∀ (σ : ww_M), ww_V X Y ad G 6 σ 109 [(0, .ref (ad o0))] [] ((f_X0_firstBest_j109 σ o0 p1 p2).bind ww_rw) := by
    intro σ
    unfold f_X0_firstBest_j109
    refine ww_aload_n (pc := 109) hC 0 rfl dX0_firstBest_109 rfl ?_
    refine ww_geti (pc := 110) (Cl := RX0) (T := TX0) (N := 9) (j := 4) (ref := RX0) hC (h0 0 _ rfl) rfl inT_X0 (by decide) mw_247 rfl rfl dX0_firstBest_110 ?_
    refine ww_bipush (pc := 113) (v := 7) hC dX0_firstBest_113 rfl ?_
    refine ww_imul (pc := 115) hC dX0_firstBest_115 ?_
    refine ww_aload_n (pc := 116) hC 0 rfl dX0_firstBest_116 rfl ?_
    refine ww_geti (pc := 117) (Cl := RX0) (T := TX0) (N := 9) (j := 4) (ref := RX0) hC (h0 0 _ rfl) rfl inT_X0 (by decide) mw_247 rfl rfl dX0_firstBest_117 ?_
    refine ww_iadd (pc := 120) hC dX0_firstBest_120 ?_
    exact ww_ireturn (pc := 121) hC hR dX0_firstBest_121 rfl
  have hJ10 : ∀ (σ : ww_M) (x3 : Int32) (x4 : Int32), ww_V X Y ad G 6 σ 10 [(0, .ref (ad o0)), (1, .int p1), (2, .int p2), (3, .int x3), (4, .int x4)] [] ((f_X0_firstBest_j10 σ o0 p1 p2 x3 x4).bind ww_rw) := by
    intro σ x3 x4
    unfold f_X0_firstBest_j10
    refine ww_assoc ?_
    refine ww_loopR (f := f_X0_firstBest_b10 o0 p1 p2 x3) (fun a10 => a10.2) (fun a10 => [(0, .ref (ad o0)), (1, .int p1), (2, .int p2), (3, .int x3), (4, .int a10.1)]) (fun b10 => b10) (fun b10 => [(0, .ref (ad o0))]) 109 (fun b10 => ?_) (fun a10 KK10 hc10 hx10 hr10 => ?_) ww_F (x4, σ)
    · exact hJ109 b10
    · unfold f_X0_firstBest_b10
      have hJ103 : ∀ (σ : ww_M) (x4 : Int32), ww_V X Y ad G 6 σ 103 [(0, .ref (ad o0)), (1, .int p1), (2, .int p2), (3, .int x3), (4, .int x4)] [] ((f_X0_firstBest_j103 σ o0 p1 p2 x3 x4).bind KK10) := by
        intro σ x4
        unfold f_X0_firstBest_j103
        refine ww_iinc (pc := 103) (v := x4 + 1) (lv' := [(4, .int (x4 + 1)), (0, .ref (ad o0)), (1, .int p1), (2, .int p2), (3, .int x3)]) hC 4 rfl dX0_firstBest_103 rfl (by decide) rfl ?_
        refine ww_goto (pc := 106) (tgt := 10) hC dX0_firstBest_106 (by decide) ?_
        refine ww_lv [1, 2, 3, 4, 0] rfl ?_
        exact hc10 (x4 + 1, σ)
      have hJ54 : ∀ (σ : ww_M) (x4 : Int32) (x5 : Int32), ww_V X Y ad G 6 σ 54 [(0, .ref (ad o0)), (1, .int p1), (2, .int p2), (3, .int x3), (4, .int x4), (5, .int x5)] [] ((f_X0_firstBest_j54 σ o0 p1 p2 x3 x4 x5).bind KK10) := by
        intro σ x4 x5
        unfold f_X0_firstBest_j54
        refine ww_assoc ?_
        refine ww_loopR (f := f_X0_firstBest_b54 o0 p1 p2 x3 x4) (fun a54 => a54.2) (fun a54 => [(0, .ref (ad o0)), (1, .int p1), (2, .int p2), (3, .int x3), (4, .int x4), (5, .int a54.1)]) (fun b54 => b54) (fun b54 => [(0, .ref (ad o0)), (1, .int p1), (2, .int p2), (3, .int x3), (4, .int x4)]) 103 (fun b54 => ?_) (fun a54 KK54 hc54 hx54 hr54 => ?_) ww_F (x5, σ)
        · exact hJ103 b54 x4
        · unfold f_X0_firstBest_b54
          refine ww_iload (pc := 54) hC 5 rfl dX0_firstBest_54 ?_
          refine ww_aload_n (pc := 56) hC 0 rfl dX0_firstBest_56 rfl ?_
          refine ww_geti (pc := 57) (Cl := RX0) (T := TX0) (N := 9) (j := 4) (ref := RX0) hC (h0 0 _ rfl) rfl inT_X0 (by decide) mw_247 rfl rfl dX0_firstBest_57 ?_
          refine ww_icmp_gt (pc := 60) (tgt := 103) hC dX0_firstBest_60 (by decide) ?_ ?_
          · refine ww_lv [0, 1, 2, 3, 4] rfl ?_
            exact hx54 a54.2
          · refine ww_aload_n (pc := 63) hC 0 rfl dX0_firstBest_63 rfl ?_
            refine ww_iload_n (pc := 64) hC 1 rfl dX0_firstBest_64 rfl ?_
            refine ww_iload_n (pc := 65) hC 2 rfl dX0_firstBest_65 rfl ?_
            refine ww_iload (pc := 66) hC 5 rfl dX0_firstBest_66 ?_
            refine ww_callVi (pc := 68) (st := []) (As := [.int p1, .int p2, .int a54.1]) hC (c_X0_canChoose o0 h0 a54.2 p1 p2 a54.1) mm_X0_canChoose mw_733 (h0 0 _ rfl) rfl (by omega) (by decide) (Nat.le_of_ble_eq_true rfl) rfl dX0_firstBest_68 (fun v68 => ?_)
            refine ww_if_eq (pc := 71) (tgt := 97) hC dX0_firstBest_71 (by decide) ?_ ?_
            · refine ww_iinc (pc := 97) (v := a54.1 + 1) (lv' := [(5, .int (a54.1 + 1)), (0, .ref (ad o0)), (1, .int p1), (2, .int p2), (3, .int x3), (4, .int x4)]) hC 5 rfl dX0_firstBest_97 rfl (by decide) rfl ?_
              refine ww_goto (pc := 100) (tgt := 54) hC dX0_firstBest_100 (by decide) ?_
              refine ww_lv [1, 2, 3, 4, 5, 0] rfl ?_
              exact hc54 (a54.1 + 1, a54.2)
            · refine ww_aload_n (pc := 74) hC 0 rfl dX0_firstBest_74 rfl ?_
              refine ww_iload_n (pc := 75) hC 1 rfl dX0_firstBest_75 rfl ?_
              refine ww_iload_n (pc := 76) hC 2 rfl dX0_firstBest_76 rfl ?_
              refine ww_iload (pc := 77) hC 4 rfl dX0_firstBest_77 ?_
              refine ww_iload (pc := 79) hC 5 rfl dX0_firstBest_79 ?_
              refine ww_callVw (pc := 81) (st := []) (As := [.int p1, .int p2, .int x4, .int a54.1]) hC (c_X0_wonBy (f_X0_mostFrom 8) 29 (by omega) (c_X0_mostFrom 8) o0 h0 a54.2 p1 p2 x4 a54.1) mm_X0_wonBy mw_712 (h0 0 _ rfl) rfl (by omega) (by decide) (Nat.le_of_ble_eq_true rfl) rfl dX0_firstBest_81 (fun v81 => ?_)
              refine ww_iload_n (pc := 84) hC 3 rfl dX0_firstBest_84 rfl ?_
              refine ww_icmp_ne (pc := 85) (tgt := 97) hC dX0_firstBest_85 (by decide) ?_ ?_
              · refine ww_iinc (pc := 97) (v := a54.1 + 1) (lv' := [(5, .int (a54.1 + 1)), (0, .ref (ad o0)), (1, .int p1), (2, .int p2), (3, .int x3), (4, .int x4)]) hC 5 rfl dX0_firstBest_97 rfl (by decide) rfl ?_
                refine ww_goto (pc := 100) (tgt := 54) hC dX0_firstBest_100 (by decide) ?_
                refine ww_lv [1, 2, 3, 4, 5, 0] rfl ?_
                exact hc54 (a54.1 + 1, v81.2)
              · refine ww_iload (pc := 88) hC 4 rfl dX0_firstBest_88 ?_
                refine ww_bipush (pc := 90) (v := 7) hC dX0_firstBest_90 rfl ?_
                refine ww_imul (pc := 92) hC dX0_firstBest_92 ?_
                refine ww_iload (pc := 93) hC 5 rfl dX0_firstBest_93 ?_
                refine ww_iadd (pc := 95) hC dX0_firstBest_95 ?_
                exact ww_ireturn (pc := 96) hC hR dX0_firstBest_96 ((hr54 _).trans ((hr10 _).trans rfl))
      have hJ52 : ∀ (σ : ww_M) (x4 : Int32) (s0 : Int32), ww_V X Y ad G 6 σ 52 [(0, .ref (ad o0)), (1, .int p1), (2, .int p2), (3, .int x3), (4, .int x4)] [.int s0] ((f_X0_firstBest_j52 σ o0 p1 p2 x3 x4 s0).bind KK10) := by
        intro σ x4 s0
        unfold f_X0_firstBest_j52
        refine ww_istore (pc := 52) (lv' := [(5, .int s0), (0, .ref (ad o0)), (1, .int p1), (2, .int p2), (3, .int x3), (4, .int x4)]) hC dX0_firstBest_52 (by decide) rfl ?_
        refine ww_lv [1, 2, 3, 4, 5, 0] rfl ?_
        exact hJ54 σ x4 s0
      refine ww_iload (pc := 10) hC 4 rfl dX0_firstBest_10 ?_
      refine ww_aload_n (pc := 12) hC 0 rfl dX0_firstBest_12 rfl ?_
      refine ww_geti (pc := 13) (Cl := RX0) (T := TX0) (N := 9) (j := 4) (ref := RX0) hC (h0 0 _ rfl) rfl inT_X0 (by decide) mw_247 rfl rfl dX0_firstBest_13 ?_
      refine ww_icmp_ge (pc := 16) (tgt := 109) hC dX0_firstBest_16 (by decide) ?_ ?_
      · refine ww_lv [0] rfl ?_
        exact hx10 a10.2
      · refine ww_aload_n (pc := 19) hC 0 rfl dX0_firstBest_19 rfl ?_
        refine ww_iload_n (pc := 20) hC 1 rfl dX0_firstBest_20 rfl ?_
        refine ww_iload_n (pc := 21) hC 2 rfl dX0_firstBest_21 rfl ?_
        refine ww_iload (pc := 22) hC 4 rfl dX0_firstBest_22 ?_
        refine ww_callVi (pc := 24) (st := []) (As := [.int p1, .int p2, .int a10.1]) hC (c_X0_canChoose o0 h0 a10.2 p1 p2 a10.1) mm_X0_canChoose mw_733 (h0 0 _ rfl) rfl (by omega) (by decide) (Nat.le_of_ble_eq_true rfl) rfl dX0_firstBest_24 (fun v24 => ?_)
        refine ww_if_ne (pc := 27) (tgt := 33) hC dX0_firstBest_27 (by decide) ?_ ?_
        · refine ww_aload_n (pc := 33) hC 0 rfl dX0_firstBest_33 rfl ?_
          refine ww_geti (pc := 34) (Cl := RX0) (T := TX0) (N := 9) (j := 6) (ref := RX0) hC (h0 0 _ rfl) rfl inT_X0 (by decide) mw_249 rfl rfl dX0_firstBest_34 ?_
          refine ww_iconst (pc := 37) (v := 1) hC dX0_firstBest_37 rfl ?_
          refine ww_icmp_le (pc := 38) (tgt := 48) hC dX0_firstBest_38 (by decide) ?_ ?_
          · refine ww_aload_n (pc := 48) hC 0 rfl dX0_firstBest_48 rfl ?_
            refine ww_geti (pc := 49) (Cl := RX0) (T := TX0) (N := 9) (j := 4) (ref := RX0) hC (h0 0 _ rfl) rfl inT_X0 (by decide) mw_247 rfl rfl dX0_firstBest_49 ?_
            exact hJ52 a10.2 a10.1 (a10.2 o0 4)
          · refine ww_iload (pc := 41) hC 4 rfl dX0_firstBest_41 ?_
            refine ww_iconst (pc := 43) (v := 1) hC dX0_firstBest_43 rfl ?_
            refine ww_iadd (pc := 44) hC dX0_firstBest_44 ?_
            refine ww_goto (pc := 45) (tgt := 52) hC dX0_firstBest_45 (by decide) ?_
            exact hJ52 a10.2 a10.1 (a10.1 + 1)
        · refine ww_goto (pc := 30) (tgt := 103) hC dX0_firstBest_30 (by decide) ?_
          exact hJ103 a10.2 a10.1
  unfold f_X0_firstBest
  refine ww_aload_n (pc := 0) hC 0 rfl dX0_firstBest_0 rfl ?_
  refine ww_iload_n (pc := 1) hC 1 rfl dX0_firstBest_1 rfl ?_
  refine ww_iload_n (pc := 2) hC 2 rfl dX0_firstBest_2 rfl ?_
  refine ww_callVw (pc := 3) (st := []) (As := [.int p1, .int p2]) hC (c_X0_mostFrom 8 o0 h0 σ p1 p2) mm_X0_mostFrom mw_691 (h0 0 _ rfl) rfl (by omega) (by decide) (Nat.le_of_ble_eq_true rfl) rfl dX0_firstBest_3 (fun v3 => ?_)
  refine ww_istore_n (pc := 6) (lv' := [(3, .int v3.1), (0, .ref (ad o0)), (1, .int p1), (2, .int p2)]) hC dX0_firstBest_6 rfl (by decide) rfl ?_
  refine ww_iconst (pc := 7) (v := 0) hC dX0_firstBest_7 rfl ?_
  refine ww_istore (pc := 8) (lv' := [(4, .int 0), (3, .int v3.1), (0, .ref (ad o0)), (1, .int p1), (2, .int p2)]) hC dX0_firstBest_8 (by decide) rfl ?_
  refine ww_lv [2, 3, 4, 1, 0] rfl ?_
  exact hJ10 v3.2 v3.1 0
theorem dX0_partAt_0 : decode cX0_partAt 0 = .ok (.iload_n 1, 1) := by decide +kernel
theorem dX0_partAt_1 : decode cX0_partAt 1 = .ok (.aload_n 0, 1) := by decide +kernel
theorem dX0_partAt_2 : decode cX0_partAt 2 = .ok (.getfield 72, 3) := by decide +kernel
theorem dX0_partAt_5 : decode cX0_partAt 5 = .ok (.if_icmp .ge 15, 3) := by decide +kernel
theorem dX0_partAt_8 : decode cX0_partAt 8 = .ok (.aload_n 0, 1) := by decide +kernel
theorem dX0_partAt_9 : decode cX0_partAt 9 = .ok (.getfield 15, 3) := by decide +kernel
theorem dX0_partAt_12 : decode cX0_partAt 12 = .ok (.iload_n 1, 1) := by decide +kernel
theorem dX0_partAt_13 : decode cX0_partAt 13 = .ok (.iaload, 1) := by decide +kernel
theorem dX0_partAt_14 : decode cX0_partAt 14 = .ok (.invokestatic 101, 3) := by decide +kernel
theorem dX0_partAt_17 : decode cX0_partAt 17 = .ok (.goto 5, 3) := by decide +kernel
theorem dX0_partAt_20 : decode cX0_partAt 20 = .ok (.bipush (-4), 2) := by decide +kernel
theorem dX0_partAt_22 : decode cX0_partAt 22 = .ok (.ireturn, 1) := by decide +kernel
set_option maxHeartbeats 4000000 in
set_option maxRecDepth 100000 in
theorem c_X0_partAt {l : Launch} {Y : ww_Y} {ad : Nat → Nat} {G : List ww_L} (o0 : Nat) (h0 : ww_at G o0 (ww_LPlanner o0)) (σ : ww_M) (p1 : Int32) : ww_Cn l Y ad G yX0_partAt cX0_partAt 2 (some .int) 2 [.ref (ad o0), .int p1] σ ((f_X0_partAt σ o0 p1).bind (ww_ri σ)) := by
  refine ww_met (by decide +kernel) (Nat.le_of_ble_eq_true rfl) ?_
  intro X hC hR
  have hC : ww_C X l Y ad G 2 cX0_partAt 2 RX0 := hC
  show ww_V X Y ad G 2 σ 0 [(0, .ref (ad o0)), (1, .int p1)] [] ((f_X0_partAt σ o0 p1).bind (ww_ri σ))
  unfold f_X0_partAt
  refine ww_iload_n (pc := 0) hC 1 rfl dX0_partAt_0 rfl ?_
  refine ww_aload_n (pc := 1) hC 0 rfl dX0_partAt_1 rfl ?_
  refine ww_geti (pc := 2) (Cl := RX0) (T := TX0) (N := 9) (j := 4) (ref := RX0) hC (h0 0 _ rfl) rfl inT_X0 (by decide) mw_247 rfl rfl dX0_partAt_2 ?_
  refine ww_icmp_ge (pc := 5) (tgt := 20) hC dX0_partAt_5 (by decide) ?_ ?_
  · refine ww_bipush (pc := 20) (v := (-4)) hC dX0_partAt_20 rfl ?_
    exact ww_ireturn (pc := 22) hC hR dX0_partAt_22 rfl
  · refine ww_aload_n (pc := 8) hC 0 rfl dX0_partAt_8 rfl ?_
    refine ww_getr (pc := 9) (Cl := RX0) (T := TX0) (N := 9) (j := 1) (ref := RX0) hC (h0 0 _ rfl) rfl inT_X0 (by decide) mw_244 rfl rfl dX0_partAt_9 ?_
    refine ww_iload_n (pc := 12) hC 1 rfl dX0_partAt_12 rfl ?_
    refine ww_iald (pc := 13) hC (h0 2 _ rfl) dX0_partAt_13 ?_
    refine ww_callSNi (pc := 14) (st := []) (As := [.int (σ (o0 + 2) (ww_ix p1))]) hC (c_X6_numberOf σ (σ (o0 + 2) (ww_ix p1))) mm_X6_numberOf mw_741 (by omega) (by decide) (Nat.le_of_ble_eq_true rfl) rfl dX0_partAt_14 (fun v14 => ?_)
    refine ww_goto (pc := 17) (tgt := 22) hC dX0_partAt_17 (by decide) ?_
    exact ww_ireturn (pc := 22) hC hR dX0_partAt_22 rfl
