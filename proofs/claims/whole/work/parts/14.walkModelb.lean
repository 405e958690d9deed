theorem dX7_looksWhere_0 : decode cX7_looksWhere 0 = .ok (.iconst 0, 1) := by decide +kernel
theorem dX7_looksWhere_1 : decode cX7_looksWhere 1 = .ok (.istore_n 1, 1) := by decide +kernel
theorem dX7_looksWhere_2 : decode cX7_looksWhere 2 = .ok (.iconst 0, 1) := by decide +kernel
theorem dX7_looksWhere_3 : decode cX7_looksWhere 3 = .ok (.istore_n 2, 1) := by decide +kernel
theorem dX7_looksWhere_4 : decode cX7_looksWhere 4 = .ok (.iconst 0, 1) := by decide +kernel
theorem dX7_looksWhere_5 : decode cX7_looksWhere 5 = .ok (.istore_n 3, 1) := by decide +kernel
theorem dX7_looksWhere_6 : decode cX7_looksWhere 6 = .ok (.iload_n 3, 1) := by decide +kernel
theorem dX7_looksWhere_7 : decode cX7_looksWhere 7 = .ok (.aload_n 0, 1) := by decide +kernel
theorem dX7_looksWhere_8 : decode cX7_looksWhere 8 = .ok (.getfield 119, 3) := by decide +kernel
theorem dX7_looksWhere_11 : decode cX7_looksWhere 11 = .ok (.if_icmp .ge 56, 3) := by decide +kernel
theorem dX7_looksWhere_14 : decode cX7_looksWhere 14 = .ok (.iconst 1, 1) := by decide +kernel
theorem dX7_looksWhere_15 : decode cX7_looksWhere 15 = .ok (.aload_n 0, 1) := by decide +kernel
theorem dX7_looksWhere_16 : decode cX7_looksWhere 16 = .ok (.getfield 29, 3) := by decide +kernel
theorem dX7_looksWhere_19 : decode cX7_looksWhere 19 = .ok (.iconst 2, 1) := by decide +kernel
theorem dX7_looksWhere_20 : decode cX7_looksWhere 20 = .ok (.iload_n 3, 1) := by decide +kernel
theorem dX7_looksWhere_21 : decode cX7_looksWhere 21 = .ok (.imul, 1) := by decide +kernel
theorem dX7_looksWhere_22 : decode cX7_looksWhere 22 = .ok (.iconst 1, 1) := by decide +kernel
theorem dX7_looksWhere_23 : decode cX7_looksWhere 23 = .ok (.iadd, 1) := by decide +kernel
theorem dX7_looksWhere_24 : decode cX7_looksWhere 24 = .ok (.iaload, 1) := by decide +kernel
theorem dX7_looksWhere_25 : decode cX7_looksWhere 25 = .ok (.ishl, 1) := by decide +kernel
theorem dX7_looksWhere_26 : decode cX7_looksWhere 26 = .ok (.iconst 1, 1) := by decide +kernel
theorem dX7_looksWhere_27 : decode cX7_looksWhere 27 = .ok (.isub, 1) := by decide +kernel
theorem dX7_looksWhere_28 : decode cX7_looksWhere 28 = .ok (.aload_n 0, 1) := by decide +kernel
theorem dX7_looksWhere_29 : decode cX7_looksWhere 29 = .ok (.getfield 29, 3) := by decide +kernel
theorem dX7_looksWhere_32 : decode cX7_looksWhere 32 = .ok (.iconst 2, 1) := by decide +kernel
theorem dX7_looksWhere_33 : decode cX7_looksWhere 33 = .ok (.iload_n 3, 1) := by decide +kernel
theorem dX7_looksWhere_34 : decode cX7_looksWhere 34 = .ok (.imul, 1) := by decide +kernel
theorem dX7_looksWhere_35 : decode cX7_looksWhere 35 = .ok (.iaload, 1) := by decide +kernel
theorem dX7_looksWhere_36 : decode cX7_looksWhere 36 = .ok (.ishl, 1) := by decide +kernel
theorem dX7_looksWhere_37 : decode cX7_looksWhere 37 = .ok (.istore 4, 2) := by decide +kernel
theorem dX7_looksWhere_39 : decode cX7_looksWhere 39 = .ok (.iload_n 2, 1) := by decide +kernel
theorem dX7_looksWhere_40 : decode cX7_looksWhere 40 = .ok (.ifCond .ne 10, 3) := by decide +kernel
theorem dX7_looksWhere_43 : decode cX7_looksWhere 43 = .ok (.iload_n 1, 1) := by decide +kernel
theorem dX7_looksWhere_44 : decode cX7_looksWhere 44 = .ok (.iload 4, 2) := by decide +kernel
theorem dX7_looksWhere_46 : decode cX7_looksWhere 46 = .ok (.iand, 1) := by decide +kernel
theorem dX7_looksWhere_47 : decode cX7_looksWhere 47 = .ok (.ifCond .eq 7, 3) := by decide +kernel
theorem dX7_looksWhere_50 : decode cX7_looksWhere 50 = .ok (.iconst 1, 1) := by decide +kernel
theorem dX7_looksWhere_51 : decode cX7_looksWhere 51 = .ok (.goto 4, 3) := by decide +kernel
theorem dX7_looksWhere_54 : decode cX7_looksWhere 54 = .ok (.iconst 0, 1) := by decide +kernel
theorem dX7_looksWhere_55 : decode cX7_looksWhere 55 = .ok (.istore_n 2, 1) := by decide +kernel
theorem dX7_looksWhere_56 : decode cX7_looksWhere 56 = .ok (.iload_n 1, 1) := by decide +kernel
theorem dX7_looksWhere_57 : decode cX7_looksWhere 57 = .ok (.iload 4, 2) := by decide +kernel
theorem dX7_looksWhere_59 : decode cX7_looksWhere 59 = .ok (.ior, 1) := by decide +kernel
theorem dX7_looksWhere_60 : decode cX7_looksWhere 60 = .ok (.istore_n 1, 1) := by decide +kernel
theorem dX7_looksWhere_61 : decode cX7_looksWhere 61 = .ok (.iinc 3 1, 3) := by decide +kernel
theorem dX7_looksWhere_64 : decode cX7_looksWhere 64 = .ok (.goto (-58), 3) := by decide +kernel
theorem dX7_looksWhere_67 : decode cX7_looksWhere 67 = .ok (.aload_n 0, 1) := by decide +kernel
theorem dX7_looksWhere_68 : decode cX7_looksWhere 68 = .ok (.getfield 75, 3) := by decide +kernel
theorem dX7_looksWhere_71 : decode cX7_looksWhere 71 = .ok (.ifCond .ne 18, 3) := by decide +kernel
theorem dX7_looksWhere_74 : decode cX7_looksWhere 74 = .ok (.iload_n 1, 1) := by decide +kernel
theorem dX7_looksWhere_75 : decode cX7_looksWhere 75 = .ok (.aload_n 0, 1) := by decide +kernel
theorem dX7_looksWhere_76 : decode cX7_looksWhere 76 = .ok (.getfield 132, 3) := by decide +kernel
theorem dX7_looksWhere_79 : decode cX7_looksWhere 79 = .ok (.ishr, 1) := by decide +kernel
theorem dX7_looksWhere_80 : decode cX7_looksWhere 80 = .ok (.ifCond .eq 9, 3) := by decide +kernel
theorem dX7_looksWhere_83 : decode cX7_looksWhere 83 = .ok (.aload_n 0, 1) := by decide +kernel
theorem dX7_looksWhere_84 : decode cX7_looksWhere 84 = .ok (.bipush 6, 2) := by decide +kernel
theorem dX7_looksWhere_86 : decode cX7_looksWhere 86 = .ok (.invokevirtual 105, 3) := by decide +kernel
theorem dX7_looksWhere_89 : decode cX7_looksWhere 89 = .ok (.aload_n 0, 1) := by decide +kernel
theorem dX7_looksWhere_90 : decode cX7_looksWhere 90 = .ok (.getfield 75, 3) := by decide +kernel
theorem dX7_looksWhere_93 : decode cX7_looksWhere 93 = .ok (.ifCond .ne 13, 3) := by decide +kernel
theorem dX7_looksWhere_96 : decode cX7_looksWhere 96 = .ok (.iload_n 2, 1) := by decide +kernel
theorem dX7_looksWhere_97 : decode cX7_looksWhere 97 = .ok (.ifCond .eq 9, 3) := by decide +kernel
theorem dX7_looksWhere_100 : decode cX7_looksWhere 100 = .ok (.aload_n 0, 1) := by decide +kernel
theorem dX7_looksWhere_101 : decode cX7_looksWhere 101 = .ok (.bipush 7, 2) := by decide +kernel
theorem dX7_looksWhere_103 : decode cX7_looksWhere 103 = .ok (.invokevirtual 105, 3) := by decide +kernel
theorem dX7_looksWhere_106 : decode cX7_looksWhere 106 = .ok (.return_, 1) := by decide +kernel
set_option maxHeartbeats 4000000 in
set_option maxRecDepth 100000 in
theorem c_X7_looksWhere {l : Launch} {Y : ww_Y} {ad : Nat → Nat} {G : List ww_L} (o0 : Nat) (h0 : ww_at G o0 (ww_LModel o0)) (σ : ww_M) : ww_Cn l Y ad G yX7_looksWhere cX7_looksWhere 5 none 2 [.ref (ad o0)] σ ((f_X7_looksWhere σ o0).bind ww_rv) := by
  refine ww_met (by decide +kernel) (Nat.le_of_ble_eq_true rfl) ?_
  intro X hC hR
  have hC : ww_C X l Y ad G 2 cX7_looksWhere 5 RX7 := hC
  show ww_V X Y ad G 5 σ 0 [(0, .ref (ad o0))] [] ((f_X7_looksWhere σ o0).bind ww_rv)
  have hJ89 : ∀ (σ : ww_M) (x2 : Int32), ww_V X Y ad G 5 σ 89 [(0, .ref (ad o0)), (2, .int x2)] [] ((f_X7_looksWhere_j89 σ o0 x2).bind ww_rv) := by
    intro σ x2
    unfold f_X7_looksWhere_j89
    refine ww_aload_n (pc := 89) hC 0 rfl dX7_looksWhere_89 rfl ?_
    refine ww_geti (pc := 90) (Cl := RX7) (T := TX7) (N := 36) (j := 16) (ref := RX7) hC (h0 0 _ rfl) rfl inT_X7 (by decide) mw_892 rfl rfl dX7_looksWhere_90 ?_
    refine ww_if_ne (pc := 93) (tgt := 106) hC dX7_looksWhere_93 (by decide) ?_ ?_
    · exact ww_return (pc := 106) hC hR dX7_looksWhere_106 rfl
    · refine ww_iload_n (pc := 96) hC 1 rfl dX7_looksWhere_96 rfl ?_
      refine ww_if_eq (pc := 97) (tgt := 106) hC dX7_looksWhere_97 (by decide) ?_ ?_
      · exact ww_return (pc := 106) hC hR dX7_looksWhere_106 rfl
      · refine ww_aload_n (pc := 100) hC 0 rfl dX7_looksWhere_100 rfl ?_
        refine ww_bipush (pc := 101) (v := 7) hC dX7_looksWhere_101 rfl ?_
        refine ww_callVv (pc := 103) (st := []) (As := [.int 7]) hC (c_X7_fails o0 h0 σ 7) mm_X7_fails mw_1014 (h0 0 _ rfl) rfl (by omega) (by decide) (Nat.le_of_ble_eq_true rfl) rfl dX7_looksWhere_103 (fun v103 => ?_)
        exact ww_return (pc := 106) hC hR dX7_looksWhere_106 rfl
  have hJ67 : ∀ (σ : ww_M) (x1 : Int32) (x2 : Int32), ww_V X Y ad G 5 σ 67 [(0, .ref (ad o0)), (1, .int x1), (2, .int x2)] [] ((f_X7_looksWhere_j67 σ o0 x1 x2).bind ww_rv) := by
    intro σ x1 x2
    unfold f_X7_looksWhere_j67
    refine ww_aload_n (pc := 67) hC 0 rfl dX7_looksWhere_67 rfl ?_
    refine ww_geti (pc := 68) (Cl := RX7) (T := TX7) (N := 36) (j := 16) (ref := RX7) hC (h0 0 _ rfl) rfl inT_X7 (by decide) mw_892 rfl rfl dX7_looksWhere_68 ?_
    refine ww_if_ne (pc := 71) (tgt := 89) hC dX7_looksWhere_71 (by decide) ?_ ?_
    · refine ww_lv [0, 2] rfl ?_
      exact hJ89 σ x2
    · refine ww_iload_n (pc := 74) hC 1 rfl dX7_looksWhere_74 rfl ?_
      refine ww_aload_n (pc := 75) hC 0 rfl dX7_looksWhere_75 rfl ?_
      refine ww_geti (pc := 76) (Cl := RX7) (T := TX7) (N := 36) (j := 9) (ref := RX7) hC (h0 0 _ rfl) rfl inT_X7 (by decide) mw_885 rfl rfl dX7_looksWhere_76 ?_
      refine ww_ishr (pc := 79) hC dX7_looksWhere_79 ?_
      refine ww_if_eq (pc := 80) (tgt := 89) hC dX7_looksWhere_80 (by decide) ?_ ?_
      · refine ww_lv [0, 2] rfl ?_
        exact hJ89 σ x2
      · refine ww_aload_n (pc := 83) hC 0 rfl dX7_looksWhere_83 rfl ?_
        refine ww_bipush (pc := 84) (v := 6) hC dX7_looksWhere_84 rfl ?_
        refine ww_callVv (pc := 86) (st := []) (As := [.int 6]) hC (c_X7_fails o0 h0 σ 6) mm_X7_fails mw_1014 (h0 0 _ rfl) rfl (by omega) (by decide) (Nat.le_of_ble_eq_true rfl) rfl dX7_looksWhere_86 (fun v86 => ?_)
        refine ww_lv [0, 2] rfl ?_
        exact hJ89 v86 x2
  have hJ6 : ∀ (σ : ww_M) (x1 : Int32) (x2 : Int32) (x3 : Int32), ww_V X Y ad G 5 σ 6 [(0, .ref (ad o0)), (1, .int x1), (2, .int x2), (3, .int x3)] [] ((f_X7_looksWhere_j6 σ o0 x1 x2 x3).bind ww_rv) := by
    intro σ x1 x2 x3
    unfold f_X7_looksWhere_j6
    refine ww_assoc ?_
    refine ww_loop (f := f_X7_looksWhere_b6 σ o0) (fun a6 => σ) (fun a6 => [(0, .ref (ad o0)), (1, .int a6.1), (2, .int a6.2.1), (3, .int a6.2.2)]) (fun b6 => σ) (fun b6 => [(0, .ref (ad o0)), (1, .int b6.1), (2, .int b6.2)]) 67 (fun b6 => ?_) (fun a6 KK6 hc6 hx6 => ?_) ww_F (x1, x2, x3)
    · exact hJ67 σ b6.1 b6.2
    · unfold f_X7_looksWhere_b6
      refine ww_iload_n (pc := 6) hC 3 rfl dX7_looksWhere_6 rfl ?_
      refine ww_aload_n (pc := 7) hC 0 rfl dX7_looksWhere_7 rfl ?_
      refine ww_geti (pc := 8) (Cl := RX7) (T := TX7) (N := 36) (j := 11) (ref := RX7) hC (h0 0 _ rfl) rfl inT_X7 (by decide) mw_887 rfl rfl dX7_looksWhere_8 ?_
      refine ww_icmp_ge (pc := 11) (tgt := 67) hC dX7_looksWhere_11 (by decide) ?_ ?_
      · refine ww_lv [0, 1, 2] rfl ?_
        exact hx6 (a6.1, a6.2.1)
      · refine ww_iconst (pc := 14) (v := 1) hC dX7_looksWhere_14 rfl ?_
        refine ww_aload_n (pc := 15) hC 0 rfl dX7_looksWhere_15 rfl ?_
        refine ww_getr (pc := 16) (Cl := RX7) (T := TX7) (N := 36) (j := 8) (ref := RX7) hC (h0 0 _ rfl) rfl inT_X7 (by decide) mw_884 rfl rfl dX7_looksWhere_16 ?_
        refine ww_iconst (pc := 19) (v := 2) hC dX7_looksWhere_19 rfl ?_
        refine ww_iload_n (pc := 20) hC 3 rfl dX7_looksWhere_20 rfl ?_
        refine ww_imul (pc := 21) hC dX7_looksWhere_21 ?_
        refine ww_iconst (pc := 22) (v := 1) hC dX7_looksWhere_22 rfl ?_
        refine ww_iadd (pc := 23) hC dX7_looksWhere_23 ?_
        refine ww_iald (pc := 24) hC (h0 6 _ rfl) dX7_looksWhere_24 ?_
        refine ww_ishl (pc := 25) hC dX7_looksWhere_25 ?_
        refine ww_iconst (pc := 26) (v := 1) hC dX7_looksWhere_26 rfl ?_
        refine ww_isub (pc := 27) hC dX7_looksWhere_27 ?_
        refine ww_aload_n (pc := 28) hC 0 rfl dX7_looksWhere_28 rfl ?_
        refine ww_getr (pc := 29) (Cl := RX7) (T := TX7) (N := 36) (j := 8) (ref := RX7) hC (h0 0 _ rfl) rfl inT_X7 (by decide) mw_884 rfl rfl dX7_looksWhere_29 ?_
        refine ww_iconst (pc := 32) (v := 2) hC dX7_looksWhere_32 rfl ?_
        refine ww_iload_n (pc := 33) hC 3 rfl dX7_looksWhere_33 rfl ?_
        refine ww_imul (pc := 34) hC dX7_looksWhere_34 ?_
        refine ww_iald (pc := 35) hC (h0 6 _ rfl) dX7_looksWhere_35 ?_
        refine ww_ishl (pc := 36) hC dX7_looksWhere_36 ?_
        refine ww_istore (pc := 37) (lv' := [(4, .int (ww_shl ((ww_shl 1 (σ (o0 + 6) (ww_ix ((2 * a6.2.2) + 1)))) - 1) (σ (o0 + 6) (ww_ix (2 * a6.2.2))))), (0, .ref (ad o0)), (1, .int a6.1), (2, .int a6.2.1), (3, .int a6.2.2)]) hC dX7_looksWhere_37 (by decide) rfl ?_
        refine ww_iload_n (pc := 39) hC 3 rfl dX7_looksWhere_39 rfl ?_
        refine ww_if_ne (pc := 40) (tgt := 50) hC dX7_looksWhere_40 (by decide) ?_ ?_
        · refine ww_iconst (pc := 50) (v := 1) hC dX7_looksWhere_50 rfl ?_
          refine ww_goto (pc := 51) (tgt := 55) hC dX7_looksWhere_51 (by decide) ?_
          refine ww_istore_n (pc := 55) (lv' := [(2, .int 1), (4, .int (ww_shl ((ww_shl 1 (σ (o0 + 6) (ww_ix ((2 * a6.2.2) + 1)))) - 1) (σ (o0 + 6) (ww_ix (2 * a6.2.2))))), (0, .ref (ad o0)), (1, .int a6.1), (3, .int a6.2.2)]) hC dX7_looksWhere_55 rfl (by decide) rfl ?_
          refine ww_iload_n (pc := 56) hC 3 rfl dX7_looksWhere_56 rfl ?_
          refine ww_iload (pc := 57) hC 1 rfl dX7_looksWhere_57 ?_
          refine ww_ior (pc := 59) hC dX7_looksWhere_59 ?_
          refine ww_istore_n (pc := 60) (lv' := [(1, .int (a6.1 ||| (ww_shl ((ww_shl 1 (σ (o0 + 6) (ww_ix ((2 * a6.2.2) + 1)))) - 1) (σ (o0 + 6) (ww_ix (2 * a6.2.2)))))), (2, .int 1), (4, .int (ww_shl ((ww_shl 1 (σ (o0 + 6) (ww_ix ((2 * a6.2.2) + 1)))) - 1) (σ (o0 + 6) (ww_ix (2 * a6.2.2))))), (0, .ref (ad o0)), (3, .int a6.2.2)]) hC dX7_looksWhere_60 rfl (by decide) rfl ?_
          refine ww_iinc (pc := 61) (v := a6.2.2 + 1) (lv' := [(3, .int (a6.2.2 + 1)), (1, .int (a6.1 ||| (ww_shl ((ww_shl 1 (σ (o0 + 6) (ww_ix ((2 * a6.2.2) + 1)))) - 1) (σ (o0 + 6) (ww_ix (2 * a6.2.2)))))), (2, .int 1), (4, .int (ww_shl ((ww_shl 1 (σ (o0 + 6) (ww_ix ((2 * a6.2.2) + 1)))) - 1) (σ (o0 + 6) (ww_ix (2 * a6.2.2))))), (0, .ref (ad o0))]) hC 4 rfl dX7_looksWhere_61 rfl (by decide) rfl ?_
          refine ww_goto (pc := 64) (tgt := 6) hC dX7_looksWhere_64 (by decide) ?_
          refine ww_lv [4, 1, 2, 0] rfl ?_
          exact hc6 (a6.1 ||| (ww_shl ((ww_shl 1 (σ (o0 + 6) (ww_ix ((2 * a6.2.2) + 1)))) - 1) (σ (o0 + 6) (ww_ix (2 * a6.2.2)))), 1, a6.2.2 + 1)
        · refine ww_iload_n (pc := 43) hC 2 rfl dX7_looksWhere_43 rfl ?_
          refine ww_iload (pc := 44) hC 0 rfl dX7_looksWhere_44 ?_
          refine ww_iand (pc := 46) hC dX7_looksWhere_46 ?_
          refine ww_if_eq (pc := 47) (tgt := 54) hC dX7_looksWhere_47 (by decide) ?_ ?_
          · refine ww_iconst (pc := 54) (v := 0) hC dX7_looksWhere_54 rfl ?_
            refine ww_istore_n (pc := 55) (lv' := [(2, .int 0), (4, .int (ww_shl ((ww_shl 1 (σ (o0 + 6) (ww_ix ((2 * a6.2.2) + 1)))) - 1) (σ (o0 + 6) (ww_ix (2 * a6.2.2))))), (0, .ref (ad o0)), (1, .int a6.1), (3, .int a6.2.2)]) hC dX7_looksWhere_55 rfl (by decide) rfl ?_
            refine ww_iload_n (pc := 56) hC 3 rfl dX7_looksWhere_56 rfl ?_
            refine ww_iload (pc := 57) hC 1 rfl dX7_looksWhere_57 ?_
            refine ww_ior (pc := 59) hC dX7_looksWhere_59 ?_
            refine ww_istore_n (pc := 60) (lv' := [(1, .int (a6.1 ||| (ww_shl ((ww_shl 1 (σ (o0 + 6) (ww_ix ((2 * a6.2.2) + 1)))) - 1) (σ (o0 + 6) (ww_ix (2 * a6.2.2)))))), (2, .int 0), (4, .int (ww_shl ((ww_shl 1 (σ (o0 + 6) (ww_ix ((2 * a6.2.2) + 1)))) - 1) (σ (o0 + 6) (ww_ix (2 * a6.2.2))))), (0, .ref (ad o0)), (3, .int a6.2.2)]) hC dX7_looksWhere_60 rfl (by decide) rfl ?_
            refine ww_iinc (pc := 61) (v := a6.2.2 + 1) (lv' := [(3, .int (a6.2.2 + 1)), (1, .int (a6.1 ||| (ww_shl ((ww_shl 1 (σ (o0 + 6) (ww_ix ((2 * a6.2.2) + 1)))) - 1) (σ (o0 + 6) (ww_ix (2 * a6.2.2)))))), (2, .int 0), (4, .int (ww_shl ((ww_shl 1 (σ (o0 + 6) (ww_ix ((2 * a6.2.2) + 1)))) - 1) (σ (o0 + 6) (ww_ix (2 * a6.2.2))))), (0, .ref (ad o0))]) hC 4 rfl dX7_looksWhere_61 rfl (by decide) rfl ?_
            refine ww_goto (pc := 64) (tgt := 6) hC dX7_looksWhere_64 (by decide) ?_
            refine ww_lv [4, 1, 2, 0] rfl ?_
            exact hc6 (a6.1 ||| (ww_shl ((ww_shl 1 (σ (o0 + 6) (ww_ix ((2 * a6.2.2) + 1)))) - 1) (σ (o0 + 6) (ww_ix (2 * a6.2.2)))), 0, a6.2.2 + 1)
          · refine ww_iconst (pc := 50) (v := 1) hC dX7_looksWhere_50 rfl ?_
            refine ww_goto (pc := 51) (tgt := 55) hC dX7_looksWhere_51 (by decide) ?_
            refine ww_istore_n (pc := 55) (lv' := [(2, .int 1), (4, .int (ww_shl ((ww_shl 1 (σ (o0 + 6) (ww_ix ((2 * a6.2.2) + 1)))) - 1) (σ (o0 + 6) (ww_ix (2 * a6.2.2))))), (0, .ref (ad o0)), (1, .int a6.1), (3, .int a6.2.2)]) hC dX7_looksWhere_55 rfl (by decide) rfl ?_
            refine ww_iload_n (pc := 56) hC 3 rfl dX7_looksWhere_56 rfl ?_
            refine ww_iload (pc := 57) hC 1 rfl dX7_looksWhere_57 ?_
            refine ww_ior (pc := 59) hC dX7_looksWhere_59 ?_
            refine ww_istore_n (pc := 60) (lv' := [(1, .int (a6.1 ||| (ww_shl ((ww_shl 1 (σ (o0 + 6) (ww_ix ((2 * a6.2.2) + 1)))) - 1) (σ (o0 + 6) (ww_ix (2 * a6.2.2)))))), (2, .int 1), (4, .int (ww_shl ((ww_shl 1 (σ (o0 + 6) (ww_ix ((2 * a6.2.2) + 1)))) - 1) (σ (o0 + 6) (ww_ix (2 * a6.2.2))))), (0, .ref (ad o0)), (3, .int a6.2.2)]) hC dX7_looksWhere_60 rfl (by decide) rfl ?_
            refine ww_iinc (pc := 61) (v := a6.2.2 + 1) (lv' := [(3, .int (a6.2.2 + 1)), (1, .int (a6.1 ||| (ww_shl ((ww_shl 1 (σ (o0 + 6) (ww_ix ((2 * a6.2.2) + 1)))) - 1) (σ (o0 + 6) (ww_ix (2 * a6.2.2)))))), (2, .int 1), (4, .int (ww_shl ((ww_shl 1 (σ (o0 + 6) (ww_ix ((2 * a6.2.2) + 1)))) - 1) (σ (o0 + 6) (ww_ix (2 * a6.2.2))))), (0, .ref (ad o0))]) hC 4 rfl dX7_looksWhere_61 rfl (by decide) rfl ?_
            refine ww_goto (pc := 64) (tgt := 6) hC dX7_looksWhere_64 (by decide) ?_
            refine ww_lv [4, 1, 2, 0] rfl ?_
            exact hc6 (a6.1 ||| (ww_shl ((ww_shl 1 (σ (o0 + 6) (ww_ix ((2 * a6.2.2) + 1)))) - 1) (σ (o0 + 6) (ww_ix (2 * a6.2.2)))), 1, a6.2.2 + 1)
  unfold f_X7_looksWhere
  refine ww_iconst (pc := 0) (v := 0) hC dX7_looksWhere_0 rfl ?_
  refine ww_istore_n (pc := 1) (lv' := [(1, .int 0), (0, .ref (ad o0))]) hC dX7_looksWhere_1 rfl (by decide) rfl ?_
  refine ww_iconst (pc := 2) (v := 0) hC dX7_looksWhere_2 rfl ?_
  refine ww_istore_n (pc := 3) (lv' := [(2, .int 0), (1, .int 0), (0, .ref (ad o0))]) hC dX7_looksWhere_3 rfl (by decide) rfl ?_
  refine ww_iconst (pc := 4) (v := 0) hC dX7_looksWhere_4 rfl ?_
  refine ww_istore_n (pc := 5) (lv' := [(3, .int 0), (2, .int 0), (1, .int 0), (0, .ref (ad o0))]) hC dX7_looksWhere_5 rfl (by decide) rfl ?_
  refine ww_lv [3, 2, 1, 0] rfl ?_
  exact hJ6 σ 0 0 0
theorem dX7_isWet_0 : decode cX7_isWet 0 = .ok (.aload_n 0, 1) := by decide +kernel
theorem dX7_isWet_1 : decode cX7_isWet 1 = .ok (.getfield 13, 3) := by decide +kernel
theorem dX7_isWet_4 : decode cX7_isWet 4 = .ok (.iload_n 2, 1) := by decide +kernel
theorem dX7_isWet_5 : decode cX7_isWet 5 = .ok (.aload_n 0, 1) := by decide +kernel
theorem dX7_isWet_6 : decode cX7_isWet 6 = .ok (.getfield 16, 3) := by decide +kernel
theorem dX7_isWet_9 : decode cX7_isWet 9 = .ok (.irem, 1) := by decide +kernel
theorem dX7_isWet_10 : decode cX7_isWet 10 = .ok (.iaload, 1) := by decide +kernel
theorem dX7_isWet_11 : decode cX7_isWet 11 = .ok (.aload_n 0, 1) := by decide +kernel
theorem dX7_isWet_12 : decode cX7_isWet 12 = .ok (.getfield 7, 3) := by decide +kernel
theorem dX7_isWet_15 : decode cX7_isWet 15 = .ok (.iconst 2, 1) := by decide +kernel
theorem dX7_isWet_16 : decode cX7_isWet 16 = .ok (.iload_n 1, 1) := by decide +kernel
theorem dX7_isWet_17 : decode cX7_isWet 17 = .ok (.imul, 1) := by decide +kernel
theorem dX7_isWet_18 : decode cX7_isWet 18 = .ok (.iconst 1, 1) := by decide +kernel
theorem dX7_isWet_19 : decode cX7_isWet 19 = .ok (.iadd, 1) := by decide +kernel
theorem dX7_isWet_20 : decode cX7_isWet 20 = .ok (.iaload, 1) := by decide +kernel
theorem dX7_isWet_21 : decode cX7_isWet 21 = .ok (.if_icmp .le 7, 3) := by decide +kernel
theorem dX7_isWet_24 : decode cX7_isWet 24 = .ok (.iconst 1, 1) := by decide +kernel
theorem dX7_isWet_25 : decode cX7_isWet 25 = .ok (.goto 4, 3) := by decide +kernel
theorem dX7_isWet_28 : decode cX7_isWet 28 = .ok (.iconst 0, 1) := by decide +kernel
theorem dX7_isWet_29 : decode cX7_isWet 29 = .ok (.ireturn, 1) := by decide +kernel
set_option maxHeartbeats 4000000 in
set_option maxRecDepth 100000 in
theorem c_X7_isWet {l : Launch} {Y : ww_Y} {ad : Nat → Nat} {G : List ww_L} (o0 : Nat) (h0 : ww_at G o0 (ww_LModel o0)) (σ : ww_M) (p1 : Int32) (p2 : Int32) : ww_Cn l Y ad G yX7_isWet cX7_isWet 3 (some .boolean) 1 [.ref (ad o0), .int p1, .int p2] σ ((f_X7_isWet σ o0 p1 p2).bind (ww_ri σ)) := by
  refine ww_met (by decide +kernel) (Nat.le_of_ble_eq_true rfl) ?_
  intro X hC hR
  have hC : ww_C X l Y ad G 1 cX7_isWet 3 RX7 := hC
  show ww_V X Y ad G 3 σ 0 [(0, .ref (ad o0)), (1, .int p1), (2, .int p2)] [] ((f_X7_isWet σ o0 p1 p2).bind (ww_ri σ))
  unfold f_X7_isWet
  refine ww_aload_n (pc := 0) hC 0 rfl dX7_isWet_0 rfl ?_
  refine ww_getr (pc := 1) (Cl := RX7) (T := TX7) (N := 36) (j := 1) (ref := RX7) hC (h0 0 _ rfl) rfl inT_X7 (by decide) mw_877 rfl rfl dX7_isWet_1 ?_
  refine ww_iload_n (pc := 4) hC 2 rfl dX7_isWet_4 rfl ?_
  refine ww_aload_n (pc := 5) hC 0 rfl dX7_isWet_5 rfl ?_
  refine ww_geti (pc := 6) (Cl := RX7) (T := TX7) (N := 36) (j := 2) (ref := RX7) hC (h0 0 _ rfl) rfl inT_X7 (by decide) mw_878 rfl rfl dX7_isWet_6 ?_
  refine ww_irem (pc := 9) hC dX7_isWet_9 ?_
  refine ww_iald (pc := 10) hC (h0 2 _ rfl) dX7_isWet_10 ?_
  refine ww_aload_n (pc := 11) hC 0 rfl dX7_isWet_11 rfl ?_
  refine ww_getr (pc := 12) (Cl := RX7) (T := TX7) (N := 36) (j := 0) (ref := RX7) hC (h0 0 _ rfl) rfl inT_X7 (by decide) mw_876 rfl rfl dX7_isWet_12 ?_
  refine ww_iconst (pc := 15) (v := 2) hC dX7_isWet_15 rfl ?_
  refine ww_iload_n (pc := 16) hC 1 rfl dX7_isWet_16 rfl ?_
  refine ww_imul (pc := 17) hC dX7_isWet_17 ?_
  refine ww_iconst (pc := 18) (v := 1) hC dX7_isWet_18 rfl ?_
  refine ww_iadd (pc := 19) hC dX7_isWet_19 ?_
  refine ww_iald (pc := 20) hC (h0 1 _ rfl) dX7_isWet_20 ?_
  refine ww_icmp_le (pc := 21) (tgt := 28) hC dX7_isWet_21 (by decide) ?_ ?_
  · refine ww_iconst (pc := 28) (v := 0) hC dX7_isWet_28 rfl ?_
    exact ww_zreturn (pc := 29) hC hR dX7_isWet_29 rfl rfl
  · refine ww_iconst (pc := 24) (v := 1) hC dX7_isWet_24 rfl ?_
    refine ww_goto (pc := 25) (tgt := 29) hC dX7_isWet_25 (by decide) ?_
    exact ww_zreturn (pc := 29) hC hR dX7_isWet_29 rfl rfl
theorem dX7_floatsIn_0 : decode cX7_floatsIn 0 = .ok (.iconst 1, 1) := by decide +kernel
theorem dX7_floatsIn_1 : decode cX7_floatsIn 1 = .ok (.istore 4, 2) := by decide +kernel
theorem dX7_floatsIn_3 : decode cX7_floatsIn 3 = .ok (.iload_n 1, 1) := by decide +kernel
theorem dX7_floatsIn_4 : decode cX7_floatsIn 4 = .ok (.istore 5, 2) := by decide +kernel
theorem dX7_floatsIn_6 : decode cX7_floatsIn 6 = .ok (.iload 5, 2) := by decide +kernel
theorem dX7_floatsIn_8 : decode cX7_floatsIn 8 = .ok (.iload_n 1, 1) := by decide +kernel
theorem dX7_floatsIn_9 : decode cX7_floatsIn 9 = .ok (.iload_n 2, 1) := by decide +kernel
theorem dX7_floatsIn_10 : decode cX7_floatsIn 10 = .ok (.iadd, 1) := by decide +kernel
theorem dX7_floatsIn_11 : decode cX7_floatsIn 11 = .ok (.if_icmp .ge 31, 3) := by decide +kernel
theorem dX7_floatsIn_14 : decode cX7_floatsIn 14 = .ok (.iload 4, 2) := by decide +kernel
theorem dX7_floatsIn_16 : decode cX7_floatsIn 16 = .ok (.ifCond .eq 17, 3) := by decide +kernel
theorem dX7_floatsIn_19 : decode cX7_floatsIn 19 = .ok (.aload_n 0, 1) := by decide +kernel
theorem dX7_floatsIn_20 : decode cX7_floatsIn 20 = .ok (.iload 5, 2) := by decide +kernel
theorem dX7_floatsIn_22 : decode cX7_floatsIn 22 = .ok (.iload_n 3, 1) := by decide +kernel
theorem dX7_floatsIn_23 : decode cX7_floatsIn 23 = .ok (.invokevirtual 180, 3) := by decide +kernel
theorem dX7_floatsIn_26 : decode cX7_floatsIn 26 = .ok (.ifCond .eq 7, 3) := by decide +kernel
theorem dX7_floatsIn_29 : decode cX7_floatsIn 29 = .ok (.iconst 1, 1) := by decide +kernel
theorem dX7_floatsIn_30 : decode cX7_floatsIn 30 = .ok (.goto 4, 3) := by decide +kernel
theorem dX7_floatsIn_33 : decode cX7_floatsIn 33 = .ok (.iconst 0, 1) := by decide +kernel
theorem dX7_floatsIn_34 : decode cX7_floatsIn 34 = .ok (.istore 4, 2) := by decide +kernel
theorem dX7_floatsIn_36 : decode cX7_floatsIn 36 = .ok (.iinc 5 1, 3) := by decide +kernel
theorem dX7_floatsIn_39 : decode cX7_floatsIn 39 = .ok (.goto (-33), 3) := by decide +kernel
theorem dX7_floatsIn_42 : decode cX7_floatsIn 42 = .ok (.iload 4, 2) := by decide +kernel
theorem dX7_floatsIn_44 : decode cX7_floatsIn 44 = .ok (.ireturn, 1) := by decide +kernel
set_option maxHeartbeats 4000000 in
set_option maxRecDepth 100000 in
theorem c_X7_floatsIn {l : Launch} {Y : ww_Y} {ad : Nat → Nat} {G : List ww_L} (o0 : Nat) (h0 : ww_at G o0 (ww_LModel o0)) (σ : ww_M) (p1 : Int32) (p2 : Int32) (p3 : Int32) : ww_Cn l Y ad G yX7_floatsIn cX7_floatsIn 6 (some .boolean) 2 [.ref (ad o0), .int p1, .int p2, .int p3] σ ((f_X7_floatsIn σ o0 p1 p2 p3).bind (ww_ri σ)) := by
  refine ww_met (by decide +kernel) (Nat.le_of_ble_eq_true rfl) ?_
  intro X hC hR
  have hC : ww_C X l Y ad G 2 cX7_floatsIn 6 RX7 := hC
  show ww_V X Y ad G 6 σ 0 [(0, .ref (ad o0)), (1, .int p1), (2, .int p2), (3, .int p3)] [] ((f_X7_floatsIn σ o0 p1 p2 p3).bind (ww_ri σ))
  have hJ42 : ∀ (x4 : Int32), ww_V X Y ad G 6 σ 42 [(4, .int x4)] [] ((f_X7_floatsIn_j42 σ o0 p1 p2 p3 x4).bind (ww_ri σ)) := by
    intro x4
    unfold f_X7_floatsIn_j42
    refine ww_iload (pc := 42) hC 0 rfl dX7_floatsIn_42 ?_
    exact ww_zreturnG (pc := 44) hC hR dX7_floatsIn_44 rfl
  have hJ6 : ∀ (x4 : Int32) (x5 : Int32), ww_V X Y ad G 6 σ 6 [(0, .ref (ad o0)), (1, .int p1), (2, .int p2), (3, .int p3), (4, .int x4), (5, .int x5)] [] ((f_X7_floatsIn_j6 σ o0 p1 p2 p3 x4 x5).bind (ww_ri σ)) := by
    intro x4 x5
    unfold f_X7_floatsIn_j6
    refine ww_assoc ?_
    refine ww_loop (f := f_X7_floatsIn_b6 σ o0 p1 p2 p3) (fun a6 => σ) (fun a6 => [(0, .ref (ad o0)), (1, .int p1), (2, .int p2), (3, .int p3), (4, .int a6.1), (5, .int a6.2)]) (fun b6 => σ) (fun b6 => [(4, .int b6)]) 42 (fun b6 => ?_) (fun a6 KK6 hc6 hx6 => ?_) ww_F (x4, x5)
    · exact hJ42 b6
    · unfold f_X7_floatsIn_b6
      refine ww_iload (pc := 6) hC 5 rfl dX7_floatsIn_6 ?_
      refine ww_iload_n (pc := 8) hC 1 rfl dX7_floatsIn_8 rfl ?_
      refine ww_iload_n (pc := 9) hC 2 rfl dX7_floatsIn_9 rfl ?_
      refine ww_iadd (pc := 10) hC dX7_floatsIn_10 ?_
      refine ww_icmp_ge (pc := 11) (tgt := 42) hC dX7_floatsIn_11 (by decide) ?_ ?_
      · refine ww_lv [4] rfl ?_
        exact hx6 a6.1
      · refine ww_iload (pc := 14) hC 4 rfl dX7_floatsIn_14 ?_
        refine ww_if_eq (pc := 16) (tgt := 33) hC dX7_floatsIn_16 (by decide) ?_ ?_
        · refine ww_iconst (pc := 33) (v := 0) hC dX7_floatsIn_33 rfl ?_
          refine ww_istore (pc := 34) (lv' := [(4, .int 0), (0, .ref (ad o0)), (1, .int p1), (2, .int p2), (3, .int p3), (5, .int a6.2)]) hC dX7_floatsIn_34 (by decide) rfl ?_
          refine ww_iinc (pc := 36) (v := a6.2 + 1) (lv' := [(5, .int (a6.2 + 1)), (4, .int 0), (0, .ref (ad o0)), (1, .int p1), (2, .int p2), (3, .int p3)]) hC 5 rfl dX7_floatsIn_36 rfl (by decide) rfl ?_
          refine ww_goto (pc := 39) (tgt := 6) hC dX7_floatsIn_39 (by decide) ?_
          refine ww_lv [2, 3, 4, 5, 1, 0] rfl ?_
          exact hc6 (0, a6.2 + 1)
        · refine ww_aload_n (pc := 19) hC 0 rfl dX7_floatsIn_19 rfl ?_
          refine ww_iload (pc := 20) hC 5 rfl dX7_floatsIn_20 ?_
          refine ww_iload_n (pc := 22) hC 3 rfl dX7_floatsIn_22 rfl ?_
          refine ww_callVi (pc := 23) (st := []) (As := [.int a6.2, .int p3]) hC (c_X7_isWet o0 h0 σ a6.2 p3) mm_X7_isWet mw_1057 (h0 0 _ rfl) rfl (by omega) (by decide) (Nat.le_of_ble_eq_true rfl) rfl dX7_floatsIn_23 (fun v23 => ?_)
          refine ww_if_eq (pc := 26) (tgt := 33) hC dX7_floatsIn_26 (by decide) ?_ ?_
          · refine ww_iconst (pc := 33) (v := 0) hC dX7_floatsIn_33 rfl ?_
            refine ww_istore (pc := 34) (lv' := [(4, .int 0), (0, .ref (ad o0)), (1, .int p1), (2, .int p2), (3, .int p3), (5, .int a6.2)]) hC dX7_floatsIn_34 (by decide) rfl ?_
            refine ww_iinc (pc := 36) (v := a6.2 + 1) (lv' := [(5, .int (a6.2 + 1)), (4, .int 0), (0, .ref (ad o0)), (1, .int p1), (2, .int p2), (3, .int p3)]) hC 5 rfl dX7_floatsIn_36 rfl (by decide) rfl ?_
            refine ww_goto (pc := 39) (tgt := 6) hC dX7_floatsIn_39 (by decide) ?_
            refine ww_lv [2, 3, 4, 5, 1, 0] rfl ?_
            exact hc6 (0, a6.2 + 1)
          · refine ww_iconst (pc := 29) (v := 1) hC dX7_floatsIn_29 rfl ?_
            refine ww_goto (pc := 30) (tgt := 34) hC dX7_floatsIn_30 (by decide) ?_
            refine ww_istore (pc := 34) (lv' := [(4, .int 1), (0, .ref (ad o0)), (1, .int p1), (2, .int p2), (3, .int p3), (5, .int a6.2)]) hC dX7_floatsIn_34 (by decide) rfl ?_
            refine ww_iinc (pc := 36) (v := a6.2 + 1) (lv' := [(5, .int (a6.2 + 1)), (4, .int 1), (0, .ref (ad o0)), (1, .int p1), (2, .int p2), (3, .int p3)]) hC 5 rfl dX7_floatsIn_36 rfl (by decide) rfl ?_
            refine ww_goto (pc := 39) (tgt := 6) hC dX7_floatsIn_39 (by decide) ?_
            refine ww_lv [2, 3, 4, 5, 1, 0] rfl ?_
            exact hc6 (1, a6.2 + 1)
  unfold f_X7_floatsIn
  refine ww_iconst (pc := 0) (v := 1) hC dX7_floatsIn_0 rfl ?_
  refine ww_istore (pc := 1) (lv' := [(4, .int 1), (0, .ref (ad o0)), (1, .int p1), (2, .int p2), (3, .int p3)]) hC dX7_floatsIn_1 (by decide) rfl ?_
  refine ww_iload_n (pc := 3) hC 2 rfl dX7_floatsIn_3 rfl ?_
  refine ww_istore (pc := 4) (lv' := [(5, .int p1), (4, .int 1), (0, .ref (ad o0)), (1, .int p1), (2, .int p2), (3, .int p3)]) hC dX7_floatsIn_4 (by decide) rfl ?_
  refine ww_lv [2, 3, 4, 5, 1, 0] rfl ?_
  exact hJ6 1 p1
theorem dX7_floatsNow_0 : decode cX7_floatsNow 0 = .ok (.iconst 0, 1) := by decide +kernel
theorem dX7_floatsNow_1 : decode cX7_floatsNow 1 = .ok (.istore_n 1, 1) := by decide +kernel
theorem dX7_floatsNow_2 : decode cX7_floatsNow 2 = .ok (.iload_n 1, 1) := by decide +kernel
theorem dX7_floatsNow_3 : decode cX7_floatsNow 3 = .ok (.aload_n 0, 1) := by decide +kernel
theorem dX7_floatsNow_4 : decode cX7_floatsNow 4 = .ok (.getfield 159, 3) := by decide +kernel
theorem dX7_floatsNow_7 : decode cX7_floatsNow 7 = .ok (.if_icmp .ge 51, 3) := by decide +kernel
theorem dX7_floatsNow_10 : decode cX7_floatsNow 10 = .ok (.aload_n 0, 1) := by decide +kernel
theorem dX7_floatsNow_11 : decode cX7_floatsNow 11 = .ok (.aload_n 0, 1) := by decide +kernel
theorem dX7_floatsNow_12 : decode cX7_floatsNow 12 = .ok (.getfield 20, 3) := by decide +kernel
theorem dX7_floatsNow_15 : decode cX7_floatsNow 15 = .ok (.iconst 2, 1) := by decide +kernel
theorem dX7_floatsNow_16 : decode cX7_floatsNow 16 = .ok (.iload_n 1, 1) := by decide +kernel
theorem dX7_floatsNow_17 : decode cX7_floatsNow 17 = .ok (.imul, 1) := by decide +kernel
theorem dX7_floatsNow_18 : decode cX7_floatsNow 18 = .ok (.iaload, 1) := by decide +kernel
theorem dX7_floatsNow_19 : decode cX7_floatsNow 19 = .ok (.aload_n 0, 1) := by decide +kernel
theorem dX7_floatsNow_20 : decode cX7_floatsNow 20 = .ok (.getfield 20, 3) := by decide +kernel
theorem dX7_floatsNow_23 : decode cX7_floatsNow 23 = .ok (.iconst 2, 1) := by decide +kernel
theorem dX7_floatsNow_24 : decode cX7_floatsNow 24 = .ok (.iload_n 1, 1) := by decide +kernel
theorem dX7_floatsNow_25 : decode cX7_floatsNow 25 = .ok (.imul, 1) := by decide +kernel
theorem dX7_floatsNow_26 : decode cX7_floatsNow 26 = .ok (.iconst 1, 1) := by decide +kernel
theorem dX7_floatsNow_27 : decode cX7_floatsNow 27 = .ok (.iadd, 1) := by decide +kernel
theorem dX7_floatsNow_28 : decode cX7_floatsNow 28 = .ok (.iaload, 1) := by decide +kernel
theorem dX7_floatsNow_29 : decode cX7_floatsNow 29 = .ok (.aload_n 0, 1) := by decide +kernel
theorem dX7_floatsNow_30 : decode cX7_floatsNow 30 = .ok (.getfield 7, 3) := by decide +kernel
theorem dX7_floatsNow_33 : decode cX7_floatsNow 33 = .ok (.bipush 45, 2) := by decide +kernel
theorem dX7_floatsNow_35 : decode cX7_floatsNow 35 = .ok (.iaload, 1) := by decide +kernel
theorem dX7_floatsNow_36 : decode cX7_floatsNow 36 = .ok (.invokevirtual 184, 3) := by decide +kernel
theorem dX7_floatsNow_39 : decode cX7_floatsNow 39 = .ok (.ifCond .eq 13, 3) := by decide +kernel
theorem dX7_floatsNow_42 : decode cX7_floatsNow 42 = .ok (.aload_n 0, 1) := by decide +kernel
theorem dX7_floatsNow_43 : decode cX7_floatsNow 43 = .ok (.getfield 7, 3) := by decide +kernel
theorem dX7_floatsNow_46 : decode cX7_floatsNow 46 = .ok (.bipush 15, 2) := by decide +kernel
theorem dX7_floatsNow_48 : decode cX7_floatsNow 48 = .ok (.iload_n 1, 1) := by decide +kernel
theorem dX7_floatsNow_49 : decode cX7_floatsNow 49 = .ok (.iadd, 1) := by decide +kernel
theorem dX7_floatsNow_50 : decode cX7_floatsNow 50 = .ok (.iconst 1, 1) := by decide +kernel
theorem dX7_floatsNow_51 : decode cX7_floatsNow 51 = .ok (.iastore, 1) := by decide +kernel
theorem dX7_floatsNow_52 : decode cX7_floatsNow 52 = .ok (.iinc 1 1, 3) := by decide +kernel
theorem dX7_floatsNow_55 : decode cX7_floatsNow 55 = .ok (.goto (-53), 3) := by decide +kernel
theorem dX7_floatsNow_58 : decode cX7_floatsNow 58 = .ok (.return_, 1) := by decide +kernel
set_option maxHeartbeats 4000000 in
set_option maxRecDepth 100000 in
theorem c_X7_floatsNow {l : Launch} {Y : ww_Y} {ad : Nat → Nat} {G : List ww_L} (o0 : Nat) (h0 : ww_at G o0 (ww_LModel o0)) (σ : ww_M) : ww_Cn l Y ad G yX7_floatsNow cX7_floatsNow 2 none 3 [.ref (ad o0)] σ ((f_X7_floatsNow σ o0).bind ww_rv) := by
  refine ww_met (by decide +kernel) (Nat.le_of_ble_eq_true rfl) ?_
  intro X hC hR
  have hC : ww_C X l Y ad G 3 cX7_floatsNow 2 RX7 := hC
  show ww_V X Y ad G 2 σ 0 [(0, .ref (ad o0))] [] ((f_X7_floatsNow σ o0).bind ww_rv)
  have hJ58 : ∀ (σ : ww_M), ww_V X Y ad G 2 σ 58 [] [] ((f_X7_floatsNow_j58 σ o0).bind ww_rv) := by
    intro σ
    unfold f_X7_floatsNow_j58
    exact ww_return (pc := 58) hC hR dX7_floatsNow_58 rfl
  have hJ2 : ∀ (σ : ww_M) (x1 : Int32), ww_V X Y ad G 2 σ 2 [(0, .ref (ad o0)), (1, .int x1)] [] ((f_X7_floatsNow_j2 σ o0 x1).bind ww_rv) := by
    intro σ x1
    unfold f_X7_floatsNow_j2
    refine ww_assoc ?_
    refine ww_loop (f := f_X7_floatsNow_b2 o0) (fun a2 => a2.2) (fun a2 => [(0, .ref (ad o0)), (1, .int a2.1)]) (fun b2 => b2) (fun b2 => []) 58 (fun b2 => ?_) (fun a2 KK2 hc2 hx2 => ?_) ww_F (x1, σ)
    · exact hJ58 b2
    · unfold f_X7_floatsNow_b2
      refine ww_iload_n (pc := 2) hC 1 rfl dX7_floatsNow_2 rfl ?_
      refine ww_aload_n (pc := 3) hC 0 rfl dX7_floatsNow_3 rfl ?_
      refine ww_geti (pc := 4) (Cl := RX7) (T := TX7) (N := 36) (j := 5) (ref := RX7) hC (h0 0 _ rfl) rfl inT_X7 (by decide) mw_881 rfl rfl dX7_floatsNow_4 ?_
      refine ww_icmp_ge (pc := 7) (tgt := 58) hC dX7_floatsNow_7 (by decide) ?_ ?_
      · refine ww_lv [] rfl ?_
        exact hx2 a2.2
      · refine ww_aload_n (pc := 10) hC 0 rfl dX7_floatsNow_10 rfl ?_
        refine ww_aload_n (pc := 11) hC 0 rfl dX7_floatsNow_11 rfl ?_
        refine ww_getr (pc := 12) (Cl := RX7) (T := TX7) (N := 36) (j := 4) (ref := RX7) hC (h0 0 _ rfl) rfl inT_X7 (by decide) mw_880 rfl rfl dX7_floatsNow_12 ?_
        refine ww_iconst (pc := 15) (v := 2) hC dX7_floatsNow_15 rfl ?_
        refine ww_iload_n (pc := 16) hC 1 rfl dX7_floatsNow_16 rfl ?_
        refine ww_imul (pc := 17) hC dX7_floatsNow_17 ?_
        refine ww_iald (pc := 18) hC (h0 3 _ rfl) dX7_floatsNow_18 ?_
        refine ww_aload_n (pc := 19) hC 0 rfl dX7_floatsNow_19 rfl ?_
        refine ww_getr (pc := 20) (Cl := RX7) (T := TX7) (N := 36) (j := 4) (ref := RX7) hC (h0 0 _ rfl) rfl inT_X7 (by decide) mw_880 rfl rfl dX7_floatsNow_20 ?_
        refine ww_iconst (pc := 23) (v := 2) hC dX7_floatsNow_23 rfl ?_
        refine ww_iload_n (pc := 24) hC 1 rfl dX7_floatsNow_24 rfl ?_
        refine ww_imul (pc := 25) hC dX7_floatsNow_25 ?_
        refine ww_iconst (pc := 26) (v := 1) hC dX7_floatsNow_26 rfl ?_
        refine ww_iadd (pc := 27) hC dX7_floatsNow_27 ?_
        refine ww_iald (pc := 28) hC (h0 3 _ rfl) dX7_floatsNow_28 ?_
        refine ww_aload_n (pc := 29) hC 0 rfl dX7_floatsNow_29 rfl ?_
        refine ww_getr (pc := 30) (Cl := RX7) (T := TX7) (N := 36) (j := 0) (ref := RX7) hC (h0 0 _ rfl) rfl inT_X7 (by decide) mw_876 rfl rfl dX7_floatsNow_30 ?_
        refine ww_bipush (pc := 33) (v := 45) hC dX7_floatsNow_33 rfl ?_
        refine ww_iald_c (pc := 35) (j := 45) hC (h0 1 _ rfl) (by decide) rfl dX7_floatsNow_35 ?_
        refine ww_callVi (pc := 36) (st := []) (As := [.int (a2.2 (o0 + 3) (ww_ix (2 * a2.1))), .int (a2.2 (o0 + 3) (ww_ix ((2 * a2.1) + 1))), .int (a2.2 (o0 + 1) 45)]) hC (c_X7_floatsIn o0 h0 a2.2 (a2.2 (o0 + 3) (ww_ix (2 * a2.1))) (a2.2 (o0 + 3) (ww_ix ((2 * a2.1) + 1))) (a2.2 (o0 + 1) 45)) mm_X7_floatsIn mw_1053 (h0 0 _ rfl) rfl (by omega) (by decide) (Nat.le_of_ble_eq_true rfl) rfl dX7_floatsNow_36 (fun v36 => ?_)
        refine ww_if_eq (pc := 39) (tgt := 52) hC dX7_floatsNow_39 (by decide) ?_ ?_
        · refine ww_iinc (pc := 52) (v := a2.1 + 1) (lv' := [(1, .int (a2.1 + 1)), (0, .ref (ad o0))]) hC 1 rfl dX7_floatsNow_52 rfl (by decide) rfl ?_
          refine ww_goto (pc := 55) (tgt := 2) hC dX7_floatsNow_55 (by decide) ?_
          refine ww_lv [1, 0] rfl ?_
          exact hc2 (a2.1 + 1, a2.2)
        · refine ww_aload_n (pc := 42) hC 0 rfl dX7_floatsNow_42 rfl ?_
          refine ww_getr (pc := 43) (Cl := RX7) (T := TX7) (N := 36) (j := 0) (ref := RX7) hC (h0 0 _ rfl) rfl inT_X7 (by decide) mw_876 rfl rfl dX7_floatsNow_43 ?_
          refine ww_bipush (pc := 46) (v := 15) hC dX7_floatsNow_46 rfl ?_
          refine ww_iload_n (pc := 48) hC 1 rfl dX7_floatsNow_48 rfl ?_
          refine ww_iadd (pc := 49) hC dX7_floatsNow_49 ?_
          refine ww_iconst (pc := 50) (v := 1) hC dX7_floatsNow_50 rfl ?_
          refine ww_iast (pc := 51) hC (h0 1 _ rfl) dX7_floatsNow_51 ?_
          refine ww_iinc (pc := 52) (v := a2.1 + 1) (lv' := [(1, .int (a2.1 + 1)), (0, .ref (ad o0))]) hC 1 rfl dX7_floatsNow_52 rfl (by decide) rfl ?_
          refine ww_goto (pc := 55) (tgt := 2) hC dX7_floatsNow_55 (by decide) ?_
          refine ww_lv [1, 0] rfl ?_
          exact hc2 (a2.1 + 1, ww_up a2.2 (o0 + 1) (ww_ix (15 + a2.1)) 1)
  unfold f_X7_floatsNow
  refine ww_iconst (pc := 0) (v := 0) hC dX7_floatsNow_0 rfl ?_
  refine ww_istore_n (pc := 1) (lv' := [(1, .int 0), (0, .ref (ad o0))]) hC dX7_floatsNow_1 rfl (by decide) rfl ?_
  refine ww_lv [1, 0] rfl ?_
  exact hJ2 σ 0
theorem dX7_text_0 : decode cX7_text 0 = .ok (.aload_n 0, 1) := by decide +kernel
theorem dX7_text_1 : decode cX7_text 1 = .ok (.iconst 0, 1) := by decide +kernel
theorem dX7_text_2 : decode cX7_text 2 = .ok (.putfield 75, 3) := by decide +kernel
theorem dX7_text_5 : decode cX7_text 5 = .ok (.aload_n 0, 1) := by decide +kernel
theorem dX7_text_6 : decode cX7_text 6 = .ok (.iconst 0, 1) := by decide +kernel
theorem dX7_text_7 : decode cX7_text 7 = .ok (.putfield 87, 3) := by decide +kernel
theorem dX7_text_10 : decode cX7_text 10 = .ok (.aload_n 0, 1) := by decide +kernel
theorem dX7_text_11 : decode cX7_text 11 = .ok (.iconst 0, 1) := by decide +kernel
theorem dX7_text_12 : decode cX7_text 12 = .ok (.putfield 132, 3) := by decide +kernel
theorem dX7_text_15 : decode cX7_text 15 = .ok (.aload_n 0, 1) := by decide +kernel
theorem dX7_text_16 : decode cX7_text 16 = .ok (.iconst 0, 1) := by decide +kernel
theorem dX7_text_17 : decode cX7_text 17 = .ok (.putfield 112, 3) := by decide +kernel
theorem dX7_text_20 : decode cX7_text 20 = .ok (.aload_n 0, 1) := by decide +kernel
theorem dX7_text_21 : decode cX7_text 21 = .ok (.iconst 0, 1) := by decide +kernel
theorem dX7_text_22 : decode cX7_text 22 = .ok (.putfield 119, 3) := by decide +kernel
theorem dX7_text_25 : decode cX7_text 25 = .ok (.aload_n 0, 1) := by decide +kernel
theorem dX7_text_26 : decode cX7_text 26 = .ok (.iconst 0, 1) := by decide +kernel
theorem dX7_text_27 : decode cX7_text 27 = .ok (.putfield 135, 3) := by decide +kernel
theorem dX7_text_30 : decode cX7_text 30 = .ok (.iconst 0, 1) := by decide +kernel
theorem dX7_text_31 : decode cX7_text 31 = .ok (.istore_n 1, 1) := by decide +kernel
theorem dX7_text_32 : decode cX7_text 32 = .ok (.iconst 0, 1) := by decide +kernel
theorem dX7_text_33 : decode cX7_text 33 = .ok (.istore_n 2, 1) := by decide +kernel
theorem dX7_text_34 : decode cX7_text 34 = .ok (.iload_n 2, 1) := by decide +kernel
theorem dX7_text_35 : decode cX7_text 35 = .ok (.bipush 50, 2) := by decide +kernel
theorem dX7_text_37 : decode cX7_text 37 = .ok (.if_icmp .ge 16, 3) := by decide +kernel
theorem dX7_text_40 : decode cX7_text 40 = .ok (.aload_n 0, 1) := by decide +kernel
theorem dX7_text_41 : decode cX7_text 41 = .ok (.getfield 23, 3) := by decide +kernel
theorem dX7_text_44 : decode cX7_text 44 = .ok (.iload_n 2, 1) := by decide +kernel
theorem dX7_text_45 : decode cX7_text 45 = .ok (.iconst 0, 1) := by decide +kernel
theorem dX7_text_46 : decode cX7_text 46 = .ok (.iastore, 1) := by decide +kernel
theorem dX7_text_47 : decode cX7_text 47 = .ok (.iinc 2 1, 3) := by decide +kernel
theorem dX7_text_50 : decode cX7_text 50 = .ok (.goto (-16), 3) := by decide +kernel
theorem dX7_text_53 : decode cX7_text 53 = .ok (.aload_n 0, 1) := by decide +kernel
theorem dX7_text_54 : decode cX7_text 54 = .ok (.invokevirtual 109, 3) := by decide +kernel
theorem dX7_text_57 : decode cX7_text 57 = .ok (.aload_n 0, 1) := by decide +kernel
theorem dX7_text_58 : decode cX7_text 58 = .ok (.getfield 75, 3) := by decide +kernel
theorem dX7_text_61 : decode cX7_text 61 = .ok (.ifCond .ne 20, 3) := by decide +kernel
theorem dX7_text_64 : decode cX7_text 64 = .ok (.aload_n 0, 1) := by decide +kernel
theorem dX7_text_65 : decode cX7_text 65 = .ok (.getfield 84, 3) := by decide +kernel
theorem dX7_text_68 : decode cX7_text 68 = .ok (.ifCond .eq 13, 3) := by decide +kernel
theorem dX7_text_71 : decode cX7_text 71 = .ok (.aload_n 0, 1) := by decide +kernel
theorem dX7_text_72 : decode cX7_text 72 = .ok (.invokevirtual 147, 3) := by decide +kernel
theorem dX7_text_75 : decode cX7_text 75 = .ok (.iinc 1 1, 3) := by decide +kernel
theorem dX7_text_78 : decode cX7_text 78 = .ok (.goto (-21), 3) := by decide +kernel
theorem dX7_text_81 : decode cX7_text 81 = .ok (.aload_n 0, 1) := by decide +kernel
theorem dX7_text_82 : decode cX7_text 82 = .ok (.invokevirtual 150, 3) := by decide +kernel
theorem dX7_text_85 : decode cX7_text 85 = .ok (.aload_n 0, 1) := by decide +kernel
theorem dX7_text_86 : decode cX7_text 86 = .ok (.iconst 0, 1) := by decide +kernel
theorem dX7_text_87 : decode cX7_text 87 = .ok (.putfield 72, 3) := by decide +kernel
theorem dX7_text_90 : decode cX7_text 90 = .ok (.aload_n 0, 1) := by decide +kernel
theorem dX7_text_91 : decode cX7_text 91 = .ok (.aload_n 0, 1) := by decide +kernel
theorem dX7_text_92 : decode cX7_text 92 = .ok (.getfield 75, 3) := by decide +kernel
theorem dX7_text_95 : decode cX7_text 95 = .ok (.putfield 153, 3) := by decide +kernel
theorem dX7_text_98 : decode cX7_text 98 = .ok (.aload_n 0, 1) := by decide +kernel
theorem dX7_text_99 : decode cX7_text 99 = .ok (.getfield 75, 3) := by decide +kernel
theorem dX7_text_102 : decode cX7_text 102 = .ok (.ifCond .le 11, 3) := by decide +kernel
theorem dX7_text_105 : decode cX7_text 105 = .ok (.bipush (-10), 2) := by decide +kernel
theorem dX7_text_107 : decode cX7_text 107 = .ok (.aload_n 0, 1) := by decide +kernel
theorem dX7_text_108 : decode cX7_text 108 = .ok (.getfield 81, 3) := by decide +kernel
theorem dX7_text_111 : decode cX7_text 111 = .ok (.isub, 1) := by decide +kernel
theorem dX7_text_112 : decode cX7_text 112 = .ok (.ireturn, 1) := by decide +kernel
theorem dX7_text_113 : decode cX7_text 113 = .ok (.iconst 0, 1) := by decide +kernel
theorem dX7_text_114 : decode cX7_text 114 = .ok (.istore_n 2, 1) := by decide +kernel
theorem dX7_text_115 : decode cX7_text 115 = .ok (.iload_n 2, 1) := by decide +kernel
theorem dX7_text_116 : decode cX7_text 116 = .ok (.bipush 50, 2) := by decide +kernel
theorem dX7_text_118 : decode cX7_text 118 = .ok (.if_icmp .ge 72, 3) := by decide +kernel
theorem dX7_text_121 : decode cX7_text 121 = .ok (.aload_n 0, 1) := by decide +kernel
theorem dX7_text_122 : decode cX7_text 122 = .ok (.getfield 7, 3) := by decide +kernel
theorem dX7_text_125 : decode cX7_text 125 = .ok (.iload_n 2, 1) := by decide +kernel
theorem dX7_text_126 : decode cX7_text 126 = .ok (.aload_n 0, 1) := by decide +kernel
theorem dX7_text_127 : decode cX7_text 127 = .ok (.getfield 23, 3) := by decide +kernel
theorem dX7_text_130 : decode cX7_text 130 = .ok (.iload_n 2, 1) := by decide +kernel
theorem dX7_text_131 : decode cX7_text 131 = .ok (.iaload, 1) := by decide +kernel
theorem dX7_text_132 : decode cX7_text 132 = .ok (.iastore, 1) := by decide +kernel
theorem dX7_text_133 : decode cX7_text 133 = .ok (.aload_n 0, 1) := by decide +kernel
theorem dX7_text_134 : decode cX7_text 134 = .ok (.getfield 20, 3) := by decide +kernel
theorem dX7_text_137 : decode cX7_text 137 = .ok (.iload_n 2, 1) := by decide +kernel
theorem dX7_text_138 : decode cX7_text 138 = .ok (.bipush 6, 2) := by decide +kernel
theorem dX7_text_140 : decode cX7_text 140 = .ok (.irem, 1) := by decide +kernel
theorem dX7_text_141 : decode cX7_text 141 = .ok (.aload_n 0, 1) := by decide +kernel
theorem dX7_text_142 : decode cX7_text 142 = .ok (.getfield 29, 3) := by decide +kernel
theorem dX7_text_145 : decode cX7_text 145 = .ok (.iload_n 2, 1) := by decide +kernel
theorem dX7_text_146 : decode cX7_text 146 = .ok (.bipush 6, 2) := by decide +kernel
theorem dX7_text_148 : decode cX7_text 148 = .ok (.irem, 1) := by decide +kernel
theorem dX7_text_149 : decode cX7_text 149 = .ok (.iaload, 1) := by decide +kernel
theorem dX7_text_150 : decode cX7_text 150 = .ok (.iastore, 1) := by decide +kernel
theorem dX7_text_151 : decode cX7_text 151 = .ok (.aload_n 0, 1) := by decide +kernel
theorem dX7_text_152 : decode cX7_text 152 = .ok (.getfield 13, 3) := by decide +kernel
theorem dX7_text_155 : decode cX7_text 155 = .ok (.iload_n 2, 1) := by decide +kernel
theorem dX7_text_156 : decode cX7_text 156 = .ok (.bipush 6, 2) := by decide +kernel
theorem dX7_text_158 : decode cX7_text 158 = .ok (.irem, 1) := by decide +kernel
theorem dX7_text_159 : decode cX7_text 159 = .ok (.iload_n 2, 1) := by decide +kernel
theorem dX7_text_160 : decode cX7_text 160 = .ok (.bipush 6, 2) := by decide +kernel
theorem dX7_text_162 : decode cX7_text 162 = .ok (.irem, 1) := by decide +kernel
theorem dX7_text_163 : decode cX7_text 163 = .ok (.aload_n 0, 1) := by decide +kernel
theorem dX7_text_164 : decode cX7_text 164 = .ok (.getfield 112, 3) := by decide +kernel
theorem dX7_text_167 : decode cX7_text 167 = .ok (.if_icmp .ge 15, 3) := by decide +kernel
theorem dX7_text_170 : decode cX7_text 170 = .ok (.aload_n 0, 1) := by decide +kernel
theorem dX7_text_171 : decode cX7_text 171 = .ok (.getfield 26, 3) := by decide +kernel
theorem dX7_text_174 : decode cX7_text 174 = .ok (.iload_n 2, 1) := by decide +kernel
theorem dX7_text_175 : decode cX7_text 175 = .ok (.bipush 6, 2) := by decide +kernel
theorem dX7_text_177 : decode cX7_text 177 = .ok (.irem, 1) := by decide +kernel
theorem dX7_text_178 : decode cX7_text 178 = .ok (.iaload, 1) := by decide +kernel
theorem dX7_text_179 : decode cX7_text 179 = .ok (.goto 4, 3) := by decide +kernel
theorem dX7_text_182 : decode cX7_text 182 = .ok (.iconst 0, 1) := by decide +kernel
theorem dX7_text_183 : decode cX7_text 183 = .ok (.iastore, 1) := by decide +kernel
theorem dX7_text_184 : decode cX7_text 184 = .ok (.iinc 2 1, 3) := by decide +kernel
theorem dX7_text_187 : decode cX7_text 187 = .ok (.goto (-72), 3) := by decide +kernel
theorem dX7_text_190 : decode cX7_text 190 = .ok (.aload_n 0, 1) := by decide +kernel
theorem dX7_text_191 : decode cX7_text 191 = .ok (.aload_n 0, 1) := by decide +kernel
theorem dX7_text_192 : decode cX7_text 192 = .ok (.getfield 132, 3) := by decide +kernel
theorem dX7_text_195 : decode cX7_text 195 = .ok (.putfield 156, 3) := by decide +kernel
theorem dX7_text_198 : decode cX7_text 198 = .ok (.aload_n 0, 1) := by decide +kernel
theorem dX7_text_199 : decode cX7_text 199 = .ok (.aload_n 0, 1) := by decide +kernel
theorem dX7_text_200 : decode cX7_text 200 = .ok (.getfield 112, 3) := by decide +kernel
theorem dX7_text_203 : decode cX7_text 203 = .ok (.iconst 1, 1) := by decide +kernel
theorem dX7_text_204 : decode cX7_text 204 = .ok (.if_icmp .ge 7, 3) := by decide +kernel
theorem dX7_text_207 : decode cX7_text 207 = .ok (.iconst 1, 1) := by decide +kernel
theorem dX7_text_208 : decode cX7_text 208 = .ok (.goto 7, 3) := by decide +kernel
theorem dX7_text_211 : decode cX7_text 211 = .ok (.aload_n 0, 1) := by decide +kernel
theorem dX7_text_212 : decode cX7_text 212 = .ok (.getfield 112, 3) := by decide +kernel
theorem dX7_text_215 : decode cX7_text 215 = .ok (.putfield 16, 3) := by decide +kernel
theorem dX7_text_218 : decode cX7_text 218 = .ok (.aload_n 0, 1) := by decide +kernel
theorem dX7_text_219 : decode cX7_text 219 = .ok (.aload_n 0, 1) := by decide +kernel
theorem dX7_text_220 : decode cX7_text 220 = .ok (.getfield 119, 3) := by decide +kernel
theorem dX7_text_223 : decode cX7_text 223 = .ok (.putfield 159, 3) := by decide +kernel
theorem dX7_text_226 : decode cX7_text 226 = .ok (.aload_n 0, 1) := by decide +kernel
theorem dX7_text_227 : decode cX7_text 227 = .ok (.iconst 0, 1) := by decide +kernel
theorem dX7_text_228 : decode cX7_text 228 = .ok (.putfield 162, 3) := by decide +kernel
theorem dX7_text_231 : decode cX7_text 231 = .ok (.aload_n 0, 1) := by decide +kernel
theorem dX7_text_232 : decode cX7_text 232 = .ok (.getfield 53, 3) := by decide +kernel
theorem dX7_text_235 : decode cX7_text 235 = .ok (.iconst 0, 1) := by decide +kernel
theorem dX7_text_236 : decode cX7_text 236 = .ok (.iconst 0, 1) := by decide +kernel
theorem dX7_text_237 : decode cX7_text 237 = .ok (.bastore, 1) := by decide +kernel
theorem dX7_text_238 : decode cX7_text 238 = .ok (.aload_n 0, 1) := by decide +kernel
theorem dX7_text_239 : decode cX7_text 239 = .ok (.getfield 53, 3) := by decide +kernel
theorem dX7_text_242 : decode cX7_text 242 = .ok (.iconst 1, 1) := by decide +kernel
theorem dX7_text_243 : decode cX7_text 243 = .ok (.iconst 0, 1) := by decide +kernel
theorem dX7_text_244 : decode cX7_text 244 = .ok (.bastore, 1) := by decide +kernel
theorem dX7_text_245 : decode cX7_text 245 = .ok (.aload_n 0, 1) := by decide +kernel
theorem dX7_text_246 : decode cX7_text 246 = .ok (.invokevirtual 165, 3) := by decide +kernel
theorem dX7_text_249 : decode cX7_text 249 = .ok (.iload_n 1, 1) := by decide +kernel
theorem dX7_text_250 : decode cX7_text 250 = .ok (.ireturn, 1) := by decide +kernel
set_option maxHeartbeats 4000000 in
set_option maxRecDepth 100000 in
theorem c_X7_text {l : Launch} {Y : ww_Y} {ad : Nat → Nat} {G : List ww_L} (o0 : Nat) (h0 : ww_at G o0 (ww_LModel o0)) (σ : ww_M) : ww_Cn l Y ad G yX7_text cX7_text 3 (some .int) 6 [.ref (ad o0)] σ ((f_X7_text σ o0).bind ww_rw) := by
  refine ww_met (by decide +kernel) (Nat.le_of_ble_eq_true rfl) ?_
  intro X hC hR
  have hC : ww_C X l Y ad G 6 cX7_text 3 RX7 := hC
  show ww_V X Y ad G 3 σ 0 [(0, .ref (ad o0))] [] ((f_X7_text σ o0).bind ww_rw)
  have hJ215 : ∀ (σ : ww_M) (x1 : Int32) (s0 : Int32), ww_V X Y ad G 3 σ 215 [(0, .ref (ad o0)), (1, .int x1)] [.int s0, .ref (ad o0)] ((f_X7_text_j215 σ o0 x1 s0).bind ww_rw) := by
    intro σ x1 s0
    unfold f_X7_text_j215
    refine ww_puti (pc := 215) (Cl := RX7) (T := TX7) (N := 36) (j := 2) (ref := RX7) hC (h0 0 _ rfl) rfl inT_X7 (by decide) mw_878 rfl tyX7 tyX7_ok nmX7 rfl rfl (tyX7_ok 2 (by decide)) dX7_text_215 ?_
    refine ww_aload_n (pc := 218) hC 0 rfl dX7_text_218 rfl ?_
    refine ww_aload_n (pc := 219) hC 0 rfl dX7_text_219 rfl ?_
    refine ww_geti (pc := 220) (Cl := RX7) (T := TX7) (N := 36) (j := 11) (ref := RX7) hC (h0 0 _ rfl) rfl inT_X7 (by decide) mw_887 rfl rfl dX7_text_220 ?_
    refine ww_puti (pc := 223) (Cl := RX7) (T := TX7) (N := 36) (j := 5) (ref := RX7) hC (h0 0 _ rfl) rfl inT_X7 (by decide) mw_881 rfl tyX7 tyX7_ok nmX7 rfl rfl (tyX7_ok 5 (by decide)) dX7_text_223 ?_
    refine ww_aload_n (pc := 226) hC 0 rfl dX7_text_226 rfl ?_
    refine ww_iconst (pc := 227) (v := 0) hC dX7_text_227 rfl ?_
    refine ww_puti (pc := 228) (Cl := RX7) (T := TX7) (N := 36) (j := 30) (ref := RX7) hC (h0 0 _ rfl) rfl inT_X7 (by decide) mw_906 rfl tyX7 tyX7_ok nmX7 rfl rfl (tyX7_ok 30 (by decide)) dX7_text_228 ?_
    refine ww_aload_n (pc := 231) hC 0 rfl dX7_text_231 rfl ?_
    refine ww_getr (pc := 232) (Cl := RX7) (T := TX7) (N := 36) (j := 31) (ref := RX7) hC (h0 0 _ rfl) rfl inT_X7 (by decide) mw_907 rfl rfl dX7_text_232 ?_
    refine ww_iconst (pc := 235) (v := 0) hC dX7_text_235 rfl ?_
    refine ww_iconst (pc := 236) (v := 0) hC dX7_text_236 rfl ?_
    refine ww_zast_c (pc := 237) (j := 0) hC (h0 14 _ rfl) (by decide) rfl dX7_text_237 ?_
    refine ww_aload_n (pc := 238) hC 0 rfl dX7_text_238 rfl ?_
    refine ww_getr (pc := 239) (Cl := RX7) (T := TX7) (N := 36) (j := 31) (ref := RX7) hC (h0 0 _ rfl) rfl inT_X7 (by decide) mw_907 rfl rfl dX7_text_239 ?_
    refine ww_iconst (pc := 242) (v := 1) hC dX7_text_242 rfl ?_
    refine ww_iconst (pc := 243) (v := 0) hC dX7_text_243 rfl ?_
    refine ww_zast_c (pc := 244) (j := 1) hC (h0 14 _ rfl) (by decide) rfl dX7_text_244 ?_
    refine ww_aload_n (pc := 245) hC 0 rfl dX7_text_245 rfl ?_
    refine ww_callVv (pc := 246) (st := []) (As := []) hC (c_X7_floatsNow o0 h0 (ww_up (ww_up (ww_up (ww_up (ww_up σ o0 2 s0) o0 5 ((ww_up σ o0 2 s0) o0 11)) o0 30 0) (o0 + 14) 0 (vp_nar .boolean 0)) (o0 + 14) 1 (vp_nar .boolean 0))) mm_X7_floatsNow mw_1049 (h0 0 _ rfl) rfl (by omega) (by decide) (Nat.le_of_ble_eq_true rfl) rfl dX7_text_246 (fun v246 => ?_)
    refine ww_iload_n (pc := 249) hC 1 rfl dX7_text_249 rfl ?_
    exact ww_ireturn (pc := 250) hC hR dX7_text_250 rfl
  have hJ190 : ∀ (σ : ww_M) (x1 : Int32), ww_V X Y ad G 3 σ 190 [(0, .ref (ad o0)), (1, .int x1)] [] ((f_X7_text_j190 σ o0 x1).bind ww_rw) := by
    intro σ x1
    unfold f_X7_text_j190
    refine ww_aload_n (pc := 190) hC 0 rfl dX7_text_190 rfl ?_
    refine ww_aload_n (pc := 191) hC 0 rfl dX7_text_191 rfl ?_
    refine ww_geti (pc := 192) (Cl := RX7) (T := TX7) (N := 36) (j := 9) (ref := RX7) hC (h0 0 _ rfl) rfl inT_X7 (by decide) mw_885 rfl rfl dX7_text_192 ?_
    refine ww_puti (pc := 195) (Cl := RX7) (T := TX7) (N := 36) (j := 3) (ref := RX7) hC (h0 0 _ rfl) rfl inT_X7 (by decide) mw_879 rfl tyX7 tyX7_ok nmX7 rfl rfl (tyX7_ok 3 (by decide)) dX7_text_195 ?_
    refine ww_aload_n (pc := 198) hC 0 rfl dX7_text_198 rfl ?_
    refine ww_aload_n (pc := 199) hC 0 rfl dX7_text_199 rfl ?_
    refine ww_geti (pc := 200) (Cl := RX7) (T := TX7) (N := 36) (j := 10) (ref := RX7) hC (h0 0 _ rfl) rfl inT_X7 (by decide) mw_886 rfl rfl dX7_text_200 ?_
    refine ww_iconst (pc := 203) (v := 1) hC dX7_text_203 rfl ?_
    refine ww_icmp_ge (pc := 204) (tgt := 211) hC dX7_text_204 (by decide) ?_ ?_
    · refine ww_aload_n (pc := 211) hC 0 rfl dX7_text_211 rfl ?_
      refine ww_geti (pc := 212) (Cl := RX7) (T := TX7) (N := 36) (j := 10) (ref := RX7) hC (h0 0 _ rfl) rfl inT_X7 (by decide) mw_886 rfl rfl dX7_text_212 ?_
      exact hJ215 (ww_up σ o0 3 (σ o0 9)) x1 ((ww_up σ o0 3 (σ o0 9)) o0 10)
    · refine ww_iconst (pc := 207) (v := 1) hC dX7_text_207 rfl ?_
      refine ww_goto (pc := 208) (tgt := 215) hC dX7_text_208 (by decide) ?_
      exact hJ215 (ww_up σ o0 3 (σ o0 9)) x1 1
  have hJ115 : ∀ (σ : ww_M) (x1 : Int32) (x2 : Int32), ww_V X Y ad G 3 σ 115 [(0, .ref (ad o0)), (1, .int x1), (2, .int x2)] [] ((f_X7_text_j115 σ o0 x1 x2).bind ww_rw) := by
    intro σ x1 x2
    unfold f_X7_text_j115
    refine ww_assoc ?_
    refine ww_loop (f := f_X7_text_b115 o0 x1) (fun a115 => a115.2) (fun a115 => [(0, .ref (ad o0)), (1, .int x1), (2, .int a115.1)]) (fun b115 => b115) (fun b115 => [(0, .ref (ad o0)), (1, .int x1)]) 190 (fun b115 => ?_) (fun a115 KK115 hc115 hx115 => ?_) ww_F (x2, σ)
    · exact hJ190 b115 x1
    · unfold f_X7_text_b115
      refine ww_iload_n (pc := 115) hC 2 rfl dX7_text_115 rfl ?_
      refine ww_bipush (pc := 116) (v := 50) hC dX7_text_116 rfl ?_
      refine ww_icmp_ge (pc := 118) (tgt := 190) hC dX7_text_118 (by decide) ?_ ?_
      · refine ww_lv [0, 1] rfl ?_
        exact hx115 a115.2
      · refine ww_aload_n (pc := 121) hC 0 rfl dX7_text_121 rfl ?_
        refine ww_getr (pc := 122) (Cl := RX7) (T := TX7) (N := 36) (j := 0) (ref := RX7) hC (h0 0 _ rfl) rfl inT_X7 (by decide) mw_876 rfl rfl dX7_text_122 ?_
        refine ww_iload_n (pc := 125) hC 2 rfl dX7_text_125 rfl ?_
        refine ww_aload_n (pc := 126) hC 0 rfl dX7_text_126 rfl ?_
        refine ww_getr (pc := 127) (Cl := RX7) (T := TX7) (N := 36) (j := 6) (ref := RX7) hC (h0 0 _ rfl) rfl inT_X7 (by decide) mw_882 rfl rfl dX7_text_127 ?_
        refine ww_iload_n (pc := 130) hC 2 rfl dX7_text_130 rfl ?_
        refine ww_iald (pc := 131) hC (h0 4 _ rfl) dX7_text_131 ?_
        refine ww_iast (pc := 132) hC (h0 1 _ rfl) dX7_text_132 ?_
        refine ww_aload_n (pc := 133) hC 0 rfl dX7_text_133 rfl ?_
        refine ww_getr (pc := 134) (Cl := RX7) (T := TX7) (N := 36) (j := 4) (ref := RX7) hC (h0 0 _ rfl) rfl inT_X7 (by decide) mw_880 rfl rfl dX7_text_134 ?_
        refine ww_iload_n (pc := 137) hC 2 rfl dX7_text_137 rfl ?_
        refine ww_bipush (pc := 138) (v := 6) hC dX7_text_138 rfl ?_
        refine ww_irem_c (pc := 140) hC dX7_text_140 (by decide) ?_
        refine ww_aload_n (pc := 141) hC 0 rfl dX7_text_141 rfl ?_
        refine ww_getr (pc := 142) (Cl := RX7) (T := TX7) (N := 36) (j := 8) (ref := RX7) hC (h0 0 _ rfl) rfl inT_X7 (by decide) mw_884 rfl rfl dX7_text_142 ?_
        refine ww_iload_n (pc := 145) hC 2 rfl dX7_text_145 rfl ?_
        refine ww_bipush (pc := 146) (v := 6) hC dX7_text_146 rfl ?_
        refine ww_irem_c (pc := 148) hC dX7_text_148 (by decide) ?_
        refine ww_iald (pc := 149) hC (h0 6 _ rfl) dX7_text_149 ?_
        refine ww_iast (pc := 150) hC (h0 3 _ rfl) dX7_text_150 ?_
        refine ww_aload_n (pc := 151) hC 0 rfl dX7_text_151 rfl ?_
        refine ww_getr (pc := 152) (Cl := RX7) (T := TX7) (N := 36) (j := 1) (ref := RX7) hC (h0 0 _ rfl) rfl inT_X7 (by decide) mw_877 rfl rfl dX7_text_152 ?_
        refine ww_iload_n (pc := 155) hC 2 rfl dX7_text_155 rfl ?_
        refine ww_bipush (pc := 156) (v := 6) hC dX7_text_156 rfl ?_
        refine ww_irem_c (pc := 158) hC dX7_text_158 (by decide) ?_
        refine ww_iload_n (pc := 159) hC 2 rfl dX7_text_159 rfl ?_
        refine ww_bipush (pc := 160) (v := 6) hC dX7_text_160 rfl ?_
        refine ww_irem_c (pc := 162) hC dX7_text_162 (by decide) ?_
        refine ww_aload_n (pc := 163) hC 0 rfl dX7_text_163 rfl ?_
        refine ww_geti (pc := 164) (Cl := RX7) (T := TX7) (N := 36) (j := 10) (ref := RX7) hC (h0 0 _ rfl) rfl inT_X7 (by decide) mw_886 rfl rfl dX7_text_164 ?_
        refine ww_icmp_ge (pc := 167) (tgt := 182) hC dX7_text_167 (by decide) ?_ ?_
        · refine ww_iconst (pc := 182) (v := 0) hC dX7_text_182 rfl ?_
          refine ww_iast (pc := 183) hC (h0 2 _ rfl) dX7_text_183 ?_
          refine ww_iinc (pc := 184) (v := a115.1 + 1) (lv' := [(2, .int (a115.1 + 1)), (0, .ref (ad o0)), (1, .int x1)]) hC 2 rfl dX7_text_184 rfl (by decide) rfl ?_
          refine ww_goto (pc := 187) (tgt := 115) hC dX7_text_187 (by decide) ?_
          refine ww_lv [1, 2, 0] rfl ?_
          exact hc115 (a115.1 + 1, ww_up (ww_up (ww_up a115.2 (o0 + 1) (ww_ix a115.1) (a115.2 (o0 + 4) (ww_ix a115.1))) (o0 + 3) (ww_ix (ww_rem a115.1 6)) ((ww_up a115.2 (o0 + 1) (ww_ix a115.1) (a115.2 (o0 + 4) (ww_ix a115.1))) (o0 + 6) (ww_ix (ww_rem a115.1 6)))) (o0 + 2) (ww_ix (ww_rem a115.1 6)) 0)
        · refine ww_aload_n (pc := 170) hC 0 rfl dX7_text_170 rfl ?_
          refine ww_getr (pc := 171) (Cl := RX7) (T := TX7) (N := 36) (j := 7) (ref := RX7) hC (h0 0 _ rfl) rfl inT_X7 (by decide) mw_883 rfl rfl dX7_text_171 ?_
          refine ww_iload_n (pc := 174) hC 2 rfl dX7_text_174 rfl ?_
          refine ww_bipush (pc := 175) (v := 6) hC dX7_text_175 rfl ?_
          refine ww_irem_c (pc := 177) hC dX7_text_177 (by decide) ?_
          refine ww_iald (pc := 178) hC (h0 5 _ rfl) dX7_text_178 ?_
          refine ww_goto (pc := 179) (tgt := 183) hC dX7_text_179 (by decide) ?_
          refine ww_iast (pc := 183) hC (h0 2 _ rfl) dX7_text_183 ?_
          refine ww_iinc (pc := 184) (v := a115.1 + 1) (lv' := [(2, .int (a115.1 + 1)), (0, .ref (ad o0)), (1, .int x1)]) hC 2 rfl dX7_text_184 rfl (by decide) rfl ?_
          refine ww_goto (pc := 187) (tgt := 115) hC dX7_text_187 (by decide) ?_
          refine ww_lv [1, 2, 0] rfl ?_
          exact hc115 (a115.1 + 1, ww_up (ww_up (ww_up a115.2 (o0 + 1) (ww_ix a115.1) (a115.2 (o0 + 4) (ww_ix a115.1))) (o0 + 3) (ww_ix (ww_rem a115.1 6)) ((ww_up a115.2 (o0 + 1) (ww_ix a115.1) (a115.2 (o0 + 4) (ww_ix a115.1))) (o0 + 6) (ww_ix (ww_rem a115.1 6)))) (o0 + 2) (ww_ix (ww_rem a115.1 6)) ((ww_up (ww_up a115.2 (o0 + 1) (ww_ix a115.1) (a115.2 (o0 + 4) (ww_ix a115.1))) (o0 + 3) (ww_ix (ww_rem a115.1 6)) ((ww_up a115.2 (o0 + 1) (ww_ix a115.1) (a115.2 (o0 + 4) (ww_ix a115.1))) (o0 + 6) (ww_ix (ww_rem a115.1 6)))) (o0 + 5) (ww_ix (ww_rem a115.1 6))))
  have hJ81 : ∀ (σ : ww_M) (x1 : Int32), ww_V X Y ad G 3 σ 81 [(0, .ref (ad o0)), (1, .int x1)] [] ((f_X7_text_j81 σ o0 x1).bind ww_rw) := by
    intro σ x1
    unfold f_X7_text_j81
    refine ww_aload_n (pc := 81) hC 0 rfl dX7_text_81 rfl ?_
    refine ww_callVv (pc := 82) (st := []) (As := []) hC (c_X7_looksWhere o0 h0 σ) mm_X7_looksWhere mw_1045 (h0 0 _ rfl) rfl (by omega) (by decide) (Nat.le_of_ble_eq_true rfl) rfl dX7_text_82 (fun v82 => ?_)
    refine ww_aload_n (pc := 85) hC 0 rfl dX7_text_85 rfl ?_
    refine ww_iconst (pc := 86) (v := 0) hC dX7_text_86 rfl ?_
    refine ww_puti (pc := 87) (Cl := RX7) (T := TX7) (N := 36) (j := 14) (ref := RX7) hC (h0 0 _ rfl) rfl inT_X7 (by decide) mw_890 rfl tyX7 tyX7_ok nmX7 rfl rfl (tyX7_ok 14 (by decide)) dX7_text_87 ?_
    refine ww_aload_n (pc := 90) hC 0 rfl dX7_text_90 rfl ?_
    refine ww_aload_n (pc := 91) hC 0 rfl dX7_text_91 rfl ?_
    refine ww_geti (pc := 92) (Cl := RX7) (T := TX7) (N := 36) (j := 16) (ref := RX7) hC (h0 0 _ rfl) rfl inT_X7 (by decide) mw_892 rfl rfl dX7_text_92 ?_
    refine ww_puti (pc := 95) (Cl := RX7) (T := TX7) (N := 36) (j := 15) (ref := RX7) hC (h0 0 _ rfl) rfl inT_X7 (by decide) mw_891 rfl tyX7 tyX7_ok nmX7 rfl rfl (tyX7_ok 15 (by decide)) dX7_text_95 ?_
    refine ww_aload_n (pc := 98) hC 0 rfl dX7_text_98 rfl ?_
    refine ww_geti (pc := 99) (Cl := RX7) (T := TX7) (N := 36) (j := 16) (ref := RX7) hC (h0 0 _ rfl) rfl inT_X7 (by decide) mw_892 rfl rfl dX7_text_99 ?_
    refine ww_if_le (pc := 102) (tgt := 113) hC dX7_text_102 (by decide) ?_ ?_
    · refine ww_iconst (pc := 113) (v := 0) hC dX7_text_113 rfl ?_
      refine ww_istore_n (pc := 114) (lv' := [(2, .int 0), (0, .ref (ad o0)), (1, .int x1)]) hC dX7_text_114 rfl (by decide) rfl ?_
      refine ww_lv [1, 2, 0] rfl ?_
      exact hJ115 (ww_up (ww_up v82 o0 14 0) o0 15 ((ww_up v82 o0 14 0) o0 16)) x1 0
    · refine ww_bipush (pc := 105) (v := (-10)) hC dX7_text_105 rfl ?_
      refine ww_aload_n (pc := 107) hC 0 rfl dX7_text_107 rfl ?_
      refine ww_geti (pc := 108) (Cl := RX7) (T := TX7) (N := 36) (j := 17) (ref := RX7) hC (h0 0 _ rfl) rfl inT_X7 (by decide) mw_893 rfl rfl dX7_text_108 ?_
      refine ww_isub (pc := 111) hC dX7_text_111 ?_
      exact ww_ireturn (pc := 112) hC hR dX7_text_112 rfl
  have hJ57 : ∀ (σ : ww_M) (x1 : Int32), ww_V X Y ad G 3 σ 57 [(0, .ref (ad o0)), (1, .int x1)] [] ((f_X7_text_j57 σ o0 x1).bind ww_rw) := by
    intro σ x1
    unfold f_X7_text_j57
    refine ww_assoc ?_
    refine ww_loop (f := f_X7_text_b57 o0) (fun a57 => a57.2) (fun a57 => [(0, .ref (ad o0)), (1, .int a57.1)]) (fun b57 => b57.2) (fun b57 => [(0, .ref (ad o0)), (1, .int b57.1)]) 81 (fun b57 => ?_) (fun a57 KK57 hc57 hx57 => ?_) ww_F (x1, σ)
    · exact hJ81 b57.2 b57.1
    · unfold f_X7_text_b57
      refine ww_aload_n (pc := 57) hC 0 rfl dX7_text_57 rfl ?_
      refine ww_geti (pc := 58) (Cl := RX7) (T := TX7) (N := 36) (j := 16) (ref := RX7) hC (h0 0 _ rfl) rfl inT_X7 (by decide) mw_892 rfl rfl dX7_text_58 ?_
      refine ww_if_ne (pc := 61) (tgt := 81) hC dX7_text_61 (by decide) ?_ ?_
      · exact hx57 (a57.1, a57.2)
      · refine ww_aload_n (pc := 64) hC 0 rfl dX7_text_64 rfl ?_
        refine ww_geti (pc := 65) (Cl := RX7) (T := TX7) (N := 36) (j := 20) (ref := RX7) hC (h0 0 _ rfl) rfl inT_X7 (by decide) mw_896 rfl rfl dX7_text_65 ?_
        refine ww_if_eq (pc := 68) (tgt := 81) hC dX7_text_68 (by decide) ?_ ?_
        · exact hx57 (a57.1, a57.2)
        · refine ww_aload_n (pc := 71) hC 0 rfl dX7_text_71 rfl ?_
          refine ww_callVv (pc := 72) (st := []) (As := []) hC (c_X7_readLine o0 h0 a57.2) mm_X7_readLine mw_1018 (h0 0 _ rfl) rfl (by omega) (by decide) (Nat.le_of_ble_eq_true rfl) rfl dX7_text_72 (fun v72 => ?_)
          refine ww_iinc (pc := 75) (v := a57.1 + 1) (lv' := [(1, .int (a57.1 + 1)), (0, .ref (ad o0))]) hC 1 rfl dX7_text_75 rfl (by decide) rfl ?_
          refine ww_goto (pc := 78) (tgt := 57) hC dX7_text_78 (by decide) ?_
          refine ww_lv [1, 0] rfl ?_
          exact hc57 (a57.1 + 1, v72)
  have hJ53 : ∀ (σ : ww_M) (x1 : Int32), ww_V X Y ad G 3 σ 53 [(0, .ref (ad o0)), (1, .int x1)] [] ((f_X7_text_j53 σ o0 x1).bind ww_rw) := by
    intro σ x1
    unfold f_X7_text_j53
    refine ww_aload_n (pc := 53) hC 0 rfl dX7_text_53 rfl ?_
    refine ww_callVv (pc := 54) (st := []) (As := []) hC (c_X7_step o0 h0 σ) mm_X7_step mw_1002 (h0 0 _ rfl) rfl (by omega) (by decide) (Nat.le_of_ble_eq_true rfl) rfl dX7_text_54 (fun v54 => ?_)
    exact hJ57 v54 x1
  have hJ34 : ∀ (σ : ww_M) (x1 : Int32) (x2 : Int32), ww_V X Y ad G 3 σ 34 [(0, .ref (ad o0)), (1, .int x1), (2, .int x2)] [] ((f_X7_text_j34 σ o0 x1 x2).bind ww_rw) := by
    intro σ x1 x2
    unfold f_X7_text_j34
    refine ww_assoc ?_
    refine ww_loop (f := f_X7_text_b34 o0 x1) (fun a34 => a34.2) (fun a34 => [(0, .ref (ad o0)), (1, .int x1), (2, .int a34.1)]) (fun b34 => b34) (fun b34 => [(0, .ref (ad o0)), (1, .int x1)]) 53 (fun b34 => ?_) (fun a34 KK34 hc34 hx34 => ?_) ww_F (x2, σ)
    · exact hJ53 b34 x1
    · unfold f_X7_text_b34
      refine ww_iload_n (pc := 34) hC 2 rfl dX7_text_34 rfl ?_
      refine ww_bipush (pc := 35) (v := 50) hC dX7_text_35 rfl ?_
      refine ww_icmp_ge (pc := 37) (tgt := 53) hC dX7_text_37 (by decide) ?_ ?_
      · refine ww_lv [0, 1] rfl ?_
        exact hx34 a34.2
      · refine ww_aload_n (pc := 40) hC 0 rfl dX7_text_40 rfl ?_
        refine ww_getr (pc := 41) (Cl := RX7) (T := TX7) (N := 36) (j := 6) (ref := RX7) hC (h0 0 _ rfl) rfl inT_X7 (by decide) mw_882 rfl rfl dX7_text_41 ?_
        refine ww_iload_n (pc := 44) hC 2 rfl dX7_text_44 rfl ?_
        refine ww_iconst (pc := 45) (v := 0) hC dX7_text_45 rfl ?_
        refine ww_iast (pc := 46) hC (h0 4 _ rfl) dX7_text_46 ?_
        refine ww_iinc (pc := 47) (v := a34.1 + 1) (lv' := [(2, .int (a34.1 + 1)), (0, .ref (ad o0)), (1, .int x1)]) hC 2 rfl dX7_text_47 rfl (by decide) rfl ?_
        refine ww_goto (pc := 50) (tgt := 34) hC dX7_text_50 (by decide) ?_
        refine ww_lv [1, 2, 0] rfl ?_
        exact hc34 (a34.1 + 1, ww_up a34.2 (o0 + 4) (ww_ix a34.1) 0)
  unfold f_X7_text
  refine ww_aload_n (pc := 0) hC 0 rfl dX7_text_0 rfl ?_
  refine ww_iconst (pc := 1) (v := 0) hC dX7_text_1 rfl ?_
  refine ww_puti (pc := 2) (Cl := RX7) (T := TX7) (N := 36) (j := 16) (ref := RX7) hC (h0 0 _ rfl) rfl inT_X7 (by decide) mw_892 rfl tyX7 tyX7_ok nmX7 rfl rfl (tyX7_ok 16 (by decide)) dX7_text_2 ?_
  refine ww_aload_n (pc := 5) hC 0 rfl dX7_text_5 rfl ?_
  refine ww_iconst (pc := 6) (v := 0) hC dX7_text_6 rfl ?_
  refine ww_puti (pc := 7) (Cl := RX7) (T := TX7) (N := 36) (j := 18) (ref := RX7) hC (h0 0 _ rfl) rfl inT_X7 (by decide) mw_894 rfl tyX7 tyX7_ok nmX7 rfl rfl (tyX7_ok 18 (by decide)) dX7_text_7 ?_
  refine ww_aload_n (pc := 10) hC 0 rfl dX7_text_10 rfl ?_
  refine ww_iconst (pc := 11) (v := 0) hC dX7_text_11 rfl ?_
  refine ww_puti (pc := 12) (Cl := RX7) (T := TX7) (N := 36) (j := 9) (ref := RX7) hC (h0 0 _ rfl) rfl inT_X7 (by decide) mw_885 rfl tyX7 tyX7_ok nmX7 rfl rfl (tyX7_ok 9 (by decide)) dX7_text_12 ?_
  refine ww_aload_n (pc := 15) hC 0 rfl dX7_text_15 rfl ?_
  refine ww_iconst (pc := 16) (v := 0) hC dX7_text_16 rfl ?_
  refine ww_puti (pc := 17) (Cl := RX7) (T := TX7) (N := 36) (j := 10) (ref := RX7) hC (h0 0 _ rfl) rfl inT_X7 (by decide) mw_886 rfl tyX7 tyX7_ok nmX7 rfl rfl (tyX7_ok 10 (by decide)) dX7_text_17 ?_
  refine ww_aload_n (pc := 20) hC 0 rfl dX7_text_20 rfl ?_
  refine ww_iconst (pc := 21) (v := 0) hC dX7_text_21 rfl ?_
  refine ww_puti (pc := 22) (Cl := RX7) (T := TX7) (N := 36) (j := 11) (ref := RX7) hC (h0 0 _ rfl) rfl inT_X7 (by decide) mw_887 rfl tyX7 tyX7_ok nmX7 rfl rfl (tyX7_ok 11 (by decide)) dX7_text_22 ?_
  refine ww_aload_n (pc := 25) hC 0 rfl dX7_text_25 rfl ?_
  refine ww_iconst (pc := 26) (v := 0) hC dX7_text_26 rfl ?_
  refine ww_puti (pc := 27) (Cl := RX7) (T := TX7) (N := 36) (j := 12) (ref := RX7) hC (h0 0 _ rfl) rfl inT_X7 (by decide) mw_888 rfl tyX7 tyX7_ok nmX7 rfl rfl (tyX7_ok 12 (by decide)) dX7_text_27 ?_
  refine ww_iconst (pc := 30) (v := 0) hC dX7_text_30 rfl ?_
  refine ww_istore_n (pc := 31) (lv' := [(1, .int 0), (0, .ref (ad o0))]) hC dX7_text_31 rfl (by decide) rfl ?_
  refine ww_iconst (pc := 32) (v := 0) hC dX7_text_32 rfl ?_
  refine ww_istore_n (pc := 33) (lv' := [(2, .int 0), (1, .int 0), (0, .ref (ad o0))]) hC dX7_text_33 rfl (by decide) rfl ?_
  refine ww_lv [2, 1, 0] rfl ?_
  exact hJ34 (ww_up (ww_up (ww_up (ww_up (ww_up (ww_up σ o0 16 0) o0 18 0) o0 9 0) o0 10 0) o0 11 0) o0 12 0) 0 0
theorem dX7_fault_0 : decode cX7_fault 0 = .ok (.aload_n 0, 1) := by decide +kernel
theorem dX7_fault_1 : decode cX7_fault 1 = .ok (.getfield 153, 3) := by decide +kernel
theorem dX7_fault_4 : decode cX7_fault 4 = .ok (.ireturn, 1) := by decide +kernel
set_option maxHeartbeats 4000000 in
set_option maxRecDepth 100000 in
theorem c_X7_fault {l : Launch} {Y : ww_Y} {ad : Nat → Nat} {G : List ww_L} (o0 : Nat) (h0 : ww_at G o0 (ww_LModel o0)) (σ : ww_M) : ww_Cn l Y ad G yX7_fault cX7_fault 1 (some .int) 1 [.ref (ad o0)] σ ((f_X7_fault σ o0).bind (ww_ri σ)) := by
  refine ww_met (by decide +kernel) (Nat.le_of_ble_eq_true rfl) ?_
  intro X hC hR
  have hC : ww_C X l Y ad G 1 cX7_fault 1 RX7 := hC
  show ww_V X Y ad G 1 σ 0 [(0, .ref (ad o0))] [] ((f_X7_fault σ o0).bind (ww_ri σ))
  unfold f_X7_fault
  refine ww_aload_n (pc := 0) hC 0 rfl dX7_fault_0 rfl ?_
  refine ww_geti (pc := 1) (Cl := RX7) (T := TX7) (N := 36) (j := 15) (ref := RX7) hC (h0 0 _ rfl) rfl inT_X7 (by decide) mw_891 rfl rfl dX7_fault_1 ?_
  exact ww_ireturn (pc := 4) hC hR dX7_fault_4 rfl
theorem dX7_isPlace_0 : decode cX7_isPlace 0 = .ok (.iload_n 1, 1) := by decide +kernel
theorem dX7_isPlace_1 : decode cX7_isPlace 1 = .ok (.i2l, 1) := by decide +kernel
theorem dX7_isPlace_2 : decode cX7_isPlace 2 = .ok (.lconst 0, 1) := by decide +kernel
theorem dX7_isPlace_3 : decode cX7_isPlace 3 = .ok (.aload_n 0, 1) := by decide +kernel
theorem dX7_isPlace_4 : decode cX7_isPlace 4 = .ok (.getfield 156, 3) := by decide +kernel
theorem dX7_isPlace_7 : decode cX7_isPlace 7 = .ok (.iconst 1, 1) := by decide +kernel
theorem dX7_isPlace_8 : decode cX7_isPlace 8 = .ok (.isub, 1) := by decide +kernel
theorem dX7_isPlace_9 : decode cX7_isPlace 9 = .ok (.i2l, 1) := by decide +kernel
theorem dX7_isPlace_10 : decode cX7_isPlace 10 = .ok (.invokestatic 68, 3) := by decide +kernel
theorem dX7_isPlace_13 : decode cX7_isPlace 13 = .ok (.ireturn, 1) := by decide +kernel
set_option maxHeartbeats 4000000 in
set_option maxRecDepth 100000 in
theorem c_X7_isPlace {l : Launch} {Y : ww_Y} {ad : Nat → Nat} {G : List ww_L} (o0 : Nat) (h0 : ww_at G o0 (ww_LModel o0)) (σ : ww_M) (p1 : Int32) : ww_Cn l Y ad G yX7_isPlace cX7_isPlace 2 (some .boolean) 2 [.ref (ad o0), .int p1] σ ((f_X7_isPlace σ o0 p1).bind (ww_ri σ)) := by
  refine ww_met (by decide +kernel) (Nat.le_of_ble_eq_true rfl) ?_
  intro X hC hR
  have hC : ww_C X l Y ad G 2 cX7_isPlace 2 RX7 := hC
  show ww_V X Y ad G 2 σ 0 [(0, .ref (ad o0)), (1, .int p1)] [] ((f_X7_isPlace σ o0 p1).bind (ww_ri σ))
  unfold f_X7_isPlace
  refine ww_iload_n (pc := 0) hC 1 rfl dX7_isPlace_0 rfl ?_
  refine ww_i2l (pc := 1) hC dX7_isPlace_1 ?_
  refine ww_lconst (pc := 2) (v := 0) hC dX7_isPlace_2 rfl ?_
  refine ww_aload_n (pc := 3) hC 0 rfl dX7_isPlace_3 rfl ?_
  refine ww_geti (pc := 4) (Cl := RX7) (T := TX7) (N := 36) (j := 3) (ref := RX7) hC (h0 0 _ rfl) rfl inT_X7 (by decide) mw_879 rfl rfl dX7_isPlace_4 ?_
  refine ww_iconst (pc := 7) (v := 1) hC dX7_isPlace_7 rfl ?_
  refine ww_isub (pc := 8) hC dX7_isPlace_8 ?_
  refine ww_i2l (pc := 9) hC dX7_isPlace_9 ?_
  refine ww_callSi (pc := 10) (st := []) (As := [.long p1.toInt64, .long 0, .long (((σ o0 3) - 1).toInt64)]) hC (c_X7_in σ p1.toInt64 0 (((σ o0 3) - 1).toInt64)) mm_X7_in mw_991 (by omega) (by decide) (Nat.le_of_ble_eq_true rfl) rfl dX7_isPlace_10 (fun v10 => ?_)
  exact ww_zreturnG (pc := 13) hC hR dX7_isPlace_13 rfl
theorem dX7_isBeast_0 : decode cX7_isBeast 0 = .ok (.iload_n 1, 1) := by decide +kernel
theorem dX7_isBeast_1 : decode cX7_isBeast 1 = .ok (.i2l, 1) := by decide +kernel
theorem dX7_isBeast_2 : decode cX7_isBeast 2 = .ok (.lconst 0, 1) := by decide +kernel
theorem dX7_isBeast_3 : decode cX7_isBeast 3 = .ok (.aload_n 0, 1) := by decide +kernel
theorem dX7_isBeast_4 : decode cX7_isBeast 4 = .ok (.getfield 159, 3) := by decide +kernel
theorem dX7_isBeast_7 : decode cX7_isBeast 7 = .ok (.iconst 1, 1) := by decide +kernel
theorem dX7_isBeast_8 : decode cX7_isBeast 8 = .ok (.isub, 1) := by decide +kernel
theorem dX7_isBeast_9 : decode cX7_isBeast 9 = .ok (.i2l, 1) := by decide +kernel
theorem dX7_isBeast_10 : decode cX7_isBeast 10 = .ok (.invokestatic 68, 3) := by decide +kernel
theorem dX7_isBeast_13 : decode cX7_isBeast 13 = .ok (.ireturn, 1) := by decide +kernel
set_option maxHeartbeats 4000000 in
set_option maxRecDepth 100000 in
theorem c_X7_isBeast {l : Launch} {Y : ww_Y} {ad : Nat → Nat} {G : List ww_L} (o0 : Nat) (h0 : ww_at G o0 (ww_LModel o0)) (σ : ww_M) (p1 : Int32) : ww_Cn l Y ad G yX7_isBeast cX7_isBeast 2 (some .boolean) 2 [.ref (ad o0), .int p1] σ ((f_X7_isBeast σ o0 p1).bind (ww_ri σ)) := by
  refine ww_met (by decide +kernel) (Nat.le_of_ble_eq_true rfl) ?_
  intro X hC hR
  have hC : ww_C X l Y ad G 2 cX7_isBeast 2 RX7 := hC
  show ww_V X Y ad G 2 σ 0 [(0, .ref (ad o0)), (1, .int p1)] [] ((f_X7_isBeast σ o0 p1).bind (ww_ri σ))
  unfold f_X7_isBeast
  refine ww_iload_n (pc := 0) hC 1 rfl dX7_isBeast_0 rfl ?_
  refine ww_i2l (pc := 1) hC dX7_isBeast_1 ?_
  refine ww_lconst (pc := 2) (v := 0) hC dX7_isBeast_2 rfl ?_
  refine ww_aload_n (pc := 3) hC 0 rfl dX7_isBeast_3 rfl ?_
  refine ww_geti (pc := 4) (Cl := RX7) (T := TX7) (N := 36) (j := 5) (ref := RX7) hC (h0 0 _ rfl) rfl inT_X7 (by decide) mw_881 rfl rfl dX7_isBeast_4 ?_
  refine ww_iconst (pc := 7) (v := 1) hC dX7_isBeast_7 rfl ?_
  refine ww_isub (pc := 8) hC dX7_isBeast_8 ?_
  refine ww_i2l (pc := 9) hC dX7_isBeast_9 ?_
  refine ww_callSi (pc := 10) (st := []) (As := [.long p1.toInt64, .long 0, .long (((σ o0 5) - 1).toInt64)]) hC (c_X7_in σ p1.toInt64 0 (((σ o0 5) - 1).toInt64)) mm_X7_in mw_991 (by omega) (by decide) (Nat.le_of_ble_eq_true rfl) rfl dX7_isBeast_10 (fun v10 => ?_)
  exact ww_zreturnG (pc := 13) hC hR dX7_isBeast_13 rfl
theorem dX7_isPart_0 : decode cX7_isPart 0 = .ok (.iload_n 1, 1) := by decide +kernel
theorem dX7_isPart_1 : decode cX7_isPart 1 = .ok (.ifCond .lt 38, 3) := by decide +kernel
theorem dX7_isPart_4 : decode cX7_isPart 4 = .ok (.aload_n 0, 1) := by decide +kernel
theorem dX7_isPart_5 : decode cX7_isPart 5 = .ok (.iload_n 1, 1) := by decide +kernel
theorem dX7_isPart_6 : decode cX7_isPart 6 = .ok (.bipush 10, 2) := by decide +kernel
theorem dX7_isPart_8 : decode cX7_isPart 8 = .ok (.idiv, 1) := by decide +kernel
theorem dX7_isPart_9 : decode cX7_isPart 9 = .ok (.invokevirtual 168, 3) := by decide +kernel
theorem dX7_isPart_12 : decode cX7_isPart 12 = .ok (.ifCond .eq 27, 3) := by decide +kernel
theorem dX7_isPart_15 : decode cX7_isPart 15 = .ok (.iload_n 1, 1) := by decide +kernel
theorem dX7_isPart_16 : decode cX7_isPart 16 = .ok (.bipush 10, 2) := by decide +kernel
theorem dX7_isPart_18 : decode cX7_isPart 18 = .ok (.irem, 1) := by decide +kernel
theorem dX7_isPart_19 : decode cX7_isPart 19 = .ok (.aload_n 0, 1) := by decide +kernel
theorem dX7_isPart_20 : decode cX7_isPart 20 = .ok (.getfield 20, 3) := by decide +kernel
theorem dX7_isPart_23 : decode cX7_isPart 23 = .ok (.iconst 2, 1) := by decide +kernel
theorem dX7_isPart_24 : decode cX7_isPart 24 = .ok (.iload_n 1, 1) := by decide +kernel
theorem dX7_isPart_25 : decode cX7_isPart 25 = .ok (.bipush 10, 2) := by decide +kernel
theorem dX7_isPart_27 : decode cX7_isPart 27 = .ok (.idiv, 1) := by decide +kernel
theorem dX7_isPart_28 : decode cX7_isPart 28 = .ok (.imul, 1) := by decide +kernel
theorem dX7_isPart_29 : decode cX7_isPart 29 = .ok (.iconst 1, 1) := by decide +kernel
theorem dX7_isPart_30 : decode cX7_isPart 30 = .ok (.iadd, 1) := by decide +kernel
theorem dX7_isPart_31 : decode cX7_isPart 31 = .ok (.iaload, 1) := by decide +kernel
theorem dX7_isPart_32 : decode cX7_isPart 32 = .ok (.if_icmp .ge 7, 3) := by decide +kernel
theorem dX7_isPart_35 : decode cX7_isPart 35 = .ok (.iconst 1, 1) := by decide +kernel
theorem dX7_isPart_36 : decode cX7_isPart 36 = .ok (.goto 4, 3) := by decide +kernel
theorem dX7_isPart_39 : decode cX7_isPart 39 = .ok (.iconst 0, 1) := by decide +kernel
theorem dX7_isPart_40 : decode cX7_isPart 40 = .ok (.ireturn, 1) := by decide +kernel
set_option maxHeartbeats 4000000 in
set_option maxRecDepth 100000 in
theorem c_X7_isPart {l : Launch} {Y : ww_Y} {ad : Nat → Nat} {G : List ww_L} (o0 : Nat) (h0 : ww_at G o0 (ww_LModel o0)) (σ : ww_M) (p1 : Int32) : ww_Cn l Y ad G yX7_isPart cX7_isPart 2 (some .boolean) 3 [.ref (ad o0), .int p1] σ ((f_X7_isPart σ o0 p1).bind (ww_ri σ)) := by
  refine ww_met (by decide +kernel) (Nat.le_of_ble_eq_true rfl) ?_
  intro X hC hR
  have hC : ww_C X l Y ad G 3 cX7_isPart 2 RX7 := hC
  show ww_V X Y ad G 2 σ 0 [(0, .ref (ad o0)), (1, .int p1)] [] ((f_X7_isPart σ o0 p1).bind (ww_ri σ))
  unfold f_X7_isPart
  refine ww_iload_n (pc := 0) hC 1 rfl dX7_isPart_0 rfl ?_
  refine ww_if_lt (pc := 1) (tgt := 39) hC dX7_isPart_1 (by decide) ?_ ?_
  · refine ww_iconst (pc := 39) (v := 0) hC dX7_isPart_39 rfl ?_
    exact ww_zreturn (pc := 40) hC hR dX7_isPart_40 rfl rfl
  · refine ww_aload_n (pc := 4) hC 0 rfl dX7_isPart_4 rfl ?_
    refine ww_iload_n (pc := 5) hC 1 rfl dX7_isPart_5 rfl ?_
    refine ww_bipush (pc := 6) (v := 10) hC dX7_isPart_6 rfl ?_
    refine ww_idiv_c (pc := 8) hC dX7_isPart_8 (by decide) ?_
    refine ww_callVi (pc := 9) (st := []) (As := [.int (p1 / 10)]) hC (c_X7_isBeast o0 h0 σ (p1 / 10)) mm_X7_isBeast mw_1090 (h0 0 _ rfl) rfl (by omega) (by decide) (Nat.le_of_ble_eq_true rfl) rfl dX7_isPart_9 (fun v9 => ?_)
    refine ww_if_eq (pc := 12) (tgt := 39) hC dX7_isPart_12 (by decide) ?_ ?_
    · refine ww_iconst (pc := 39) (v := 0) hC dX7_isPart_39 rfl ?_
      exact ww_zreturn (pc := 40) hC hR dX7_isPart_40 rfl rfl
    · refine ww_iload_n (pc := 15) hC 1 rfl dX7_isPart_15 rfl ?_
      refine ww_bipush (pc := 16) (v := 10) hC dX7_isPart_16 rfl ?_
      refine ww_irem_c (pc := 18) hC dX7_isPart_18 (by decide) ?_
      refine ww_aload_n (pc := 19) hC 0 rfl dX7_isPart_19 rfl ?_
      refine ww_getr (pc := 20) (Cl := RX7) (T := TX7) (N := 36) (j := 4) (ref := RX7) hC (h0 0 _ rfl) rfl inT_X7 (by decide) mw_880 rfl rfl dX7_isPart_20 ?_
      refine ww_iconst (pc := 23) (v := 2) hC dX7_isPart_23 rfl ?_
      refine ww_iload_n (pc := 24) hC 1 rfl dX7_isPart_24 rfl ?_
      refine ww_bipush (pc := 25) (v := 10) hC dX7_isPart_25 rfl ?_
      refine ww_idiv_c (pc := 27) hC dX7_isPart_27 (by decide) ?_
      refine ww_imul (pc := 28) hC dX7_isPart_28 ?_
      refine ww_iconst (pc := 29) (v := 1) hC dX7_isPart_29 rfl ?_
      refine ww_iadd (pc := 30) hC dX7_isPart_30 ?_
      refine ww_iald (pc := 31) hC (h0 3 _ rfl) dX7_isPart_31 ?_
      refine ww_icmp_ge (pc := 32) (tgt := 39) hC dX7_isPart_32 (by decide) ?_ ?_
      · refine ww_iconst (pc := 39) (v := 0) hC dX7_isPart_39 rfl ?_
        exact ww_zreturn (pc := 40) hC hR dX7_isPart_40 rfl rfl
      · refine ww_iconst (pc := 35) (v := 1) hC dX7_isPart_35 rfl ?_
        refine ww_goto (pc := 36) (tgt := 40) hC dX7_isPart_36 (by decide) ?_
        exact ww_zreturn (pc := 40) hC hR dX7_isPart_40 rfl rfl
theorem dX7_partAt_0 : decode cX7_partAt 0 = .ok (.bipush 18, 2) := by decide +kernel
theorem dX7_partAt_2 : decode cX7_partAt 2 = .ok (.bipush 9, 2) := by decide +kernel
theorem dX7_partAt_4 : decode cX7_partAt 4 = .ok (.iload_n 0, 1) := by decide +kernel
theorem dX7_partAt_5 : decode cX7_partAt 5 = .ok (.bipush 10, 2) := by decide +kernel
theorem dX7_partAt_7 : decode cX7_partAt 7 = .ok (.idiv, 1) := by decide +kernel
theorem dX7_partAt_8 : decode cX7_partAt 8 = .ok (.imul, 1) := by decide +kernel
theorem dX7_partAt_9 : decode cX7_partAt 9 = .ok (.iadd, 1) := by decide +kernel
theorem dX7_partAt_10 : decode cX7_partAt 10 = .ok (.iconst 3, 1) := by decide +kernel
theorem dX7_partAt_11 : decode cX7_partAt 11 = .ok (.iload_n 0, 1) := by decide +kernel
theorem dX7_partAt_12 : decode cX7_partAt 12 = .ok (.bipush 10, 2) := by decide +kernel
theorem dX7_partAt_14 : decode cX7_partAt 14 = .ok (.irem, 1) := by decide +kernel
theorem dX7_partAt_15 : decode cX7_partAt 15 = .ok (.imul, 1) := by decide +kernel
theorem dX7_partAt_16 : decode cX7_partAt 16 = .ok (.iadd, 1) := by decide +kernel
theorem dX7_partAt_17 : decode cX7_partAt 17 = .ok (.ireturn, 1) := by decide +kernel
set_option maxHeartbeats 4000000 in
set_option maxRecDepth 100000 in
theorem c_X7_partAt {l : Launch} {Y : ww_Y} {ad : Nat → Nat} {G : List ww_L} (σ : ww_M) (p0 : Int32) : ww_Cn l Y ad G yX7_partAt cX7_partAt 1 (some .int) 1 [.int p0] σ ((f_X7_partAt p0).bind (ww_ri σ)) := by
  refine ww_met (by decide +kernel) (Nat.le_of_ble_eq_true rfl) ?_
  intro X hC hR
  have hC : ww_C X l Y ad G 1 cX7_partAt 1 RX7 := hC
  show ww_V X Y ad G 1 σ 0 [(0, .int p0)] [] ((f_X7_partAt p0).bind (ww_ri σ))
  unfold f_X7_partAt
  refine ww_bipush (pc := 0) (v := 18) hC dX7_partAt_0 rfl ?_
  refine ww_bipush (pc := 2) (v := 9) hC dX7_partAt_2 rfl ?_
  refine ww_iload_n (pc := 4) hC 0 rfl dX7_partAt_4 rfl ?_
  refine ww_bipush (pc := 5) (v := 10) hC dX7_partAt_5 rfl ?_
  refine ww_idiv_c (pc := 7) hC dX7_partAt_7 (by decide) ?_
  refine ww_imul (pc := 8) hC dX7_partAt_8 ?_
  refine ww_iadd (pc := 9) hC dX7_partAt_9 ?_
  refine ww_iconst (pc := 10) (v := 3) hC dX7_partAt_10 rfl ?_
  refine ww_iload_n (pc := 11) hC 0 rfl dX7_partAt_11 rfl ?_
  refine ww_bipush (pc := 12) (v := 10) hC dX7_partAt_12 rfl ?_
  refine ww_irem_c (pc := 14) hC dX7_partAt_14 (by decide) ?_
  refine ww_imul (pc := 15) hC dX7_partAt_15 ?_
  refine ww_iadd (pc := 16) hC dX7_partAt_16 ?_
  exact ww_ireturn (pc := 17) hC hR dX7_partAt_17 rfl
theorem dX7_rotNow_0 : decode cX7_rotNow 0 = .ok (.aload_n 0, 1) := by decide +kernel
theorem dX7_rotNow_1 : decode cX7_rotNow 1 = .ok (.getfield 7, 3) := by decide +kernel
theorem dX7_rotNow_4 : decode cX7_rotNow 4 = .ok (.bipush 13, 2) := by decide +kernel
theorem dX7_rotNow_6 : decode cX7_rotNow 6 = .ok (.iaload, 1) := by decide +kernel
theorem dX7_rotNow_7 : decode cX7_rotNow 7 = .ok (.iconst 4, 1) := by decide +kernel
theorem dX7_rotNow_8 : decode cX7_rotNow 8 = .ok (.iadd, 1) := by decide +kernel
theorem dX7_rotNow_9 : decode cX7_rotNow 9 = .ok (.ireturn, 1) := by decide +kernel
set_option maxHeartbeats 4000000 in
set_option maxRecDepth 100000 in
theorem c_X7_rotNow {l : Launch} {Y : ww_Y} {ad : Nat → Nat} {G : List ww_L} (o0 : Nat) (h0 : ww_at G o0 (ww_LModel o0)) (σ : ww_M) : ww_Cn l Y ad G yX7_rotNow cX7_rotNow 1 (some .int) 1 [.ref (ad o0)] σ ((f_X7_rotNow σ o0).bind (ww_ri σ)) := by
  refine ww_met (by decide +kernel) (Nat.le_of_ble_eq_true rfl) ?_
  intro X hC hR
  have hC : ww_C X l Y ad G 1 cX7_rotNow 1 RX7 := hC
  show ww_V X Y ad G 1 σ 0 [(0, .ref (ad o0))] [] ((f_X7_rotNow σ o0).bind (ww_ri σ))
  unfold f_X7_rotNow
  refine ww_aload_n (pc := 0) hC 0 rfl dX7_rotNow_0 rfl ?_
  refine ww_getr (pc := 1) (Cl := RX7) (T := TX7) (N := 36) (j := 0) (ref := RX7) hC (h0 0 _ rfl) rfl inT_X7 (by decide) mw_876 rfl rfl dX7_rotNow_1 ?_
  refine ww_bipush (pc := 4) (v := 13) hC dX7_rotNow_4 rfl ?_
  refine ww_iald_c (pc := 6) (j := 13) hC (h0 1 _ rfl) (by decide) rfl dX7_rotNow_6 ?_
  refine ww_iconst (pc := 7) (v := 4) hC dX7_rotNow_7 rfl ?_
  refine ww_iadd (pc := 8) hC dX7_rotNow_8 ?_
  exact ww_ireturn (pc := 9) hC hR dX7_rotNow_9 rfl
theorem dX7_rule_0 : decode cX7_rule 0 = .ok (.iload_n 1, 1) := by decide +kernel
theorem dX7_rule_1 : decode cX7_rule 1 = .ok (.tableswitch 89 0 6 #[43, 48, 53, 58, 66, 71, 81], 43) := by decide +kernel
theorem dX7_rule_44 : decode cX7_rule 44 = .ok (.aload_n 0, 1) := by decide +kernel
theorem dX7_rule_45 : decode cX7_rule 45 = .ok (.getfield 156, 3) := by decide +kernel
theorem dX7_rule_48 : decode cX7_rule 48 = .ok (.ireturn, 1) := by decide +kernel
theorem dX7_rule_49 : decode cX7_rule 49 = .ok (.aload_n 0, 1) := by decide +kernel
theorem dX7_rule_50 : decode cX7_rule 50 = .ok (.getfield 16, 3) := by decide +kernel
theorem dX7_rule_53 : decode cX7_rule 53 = .ok (.ireturn, 1) := by decide +kernel
theorem dX7_rule_54 : decode cX7_rule 54 = .ok (.aload_n 0, 1) := by decide +kernel
theorem dX7_rule_55 : decode cX7_rule 55 = .ok (.getfield 159, 3) := by decide +kernel
theorem dX7_rule_58 : decode cX7_rule 58 = .ok (.ireturn, 1) := by decide +kernel
theorem dX7_rule_59 : decode cX7_rule 59 = .ok (.aload_n 0, 1) := by decide +kernel
theorem dX7_rule_60 : decode cX7_rule 60 = .ok (.getfield 7, 3) := by decide +kernel
theorem dX7_rule_63 : decode cX7_rule 63 = .ok (.bipush 12, 2) := by decide +kernel
theorem dX7_rule_65 : decode cX7_rule 65 = .ok (.iaload, 1) := by decide +kernel
theorem dX7_rule_66 : decode cX7_rule 66 = .ok (.ireturn, 1) := by decide +kernel
theorem dX7_rule_67 : decode cX7_rule 67 = .ok (.aload_n 0, 1) := by decide +kernel
theorem dX7_rule_68 : decode cX7_rule 68 = .ok (.invokevirtual 172, 3) := by decide +kernel
theorem dX7_rule_71 : decode cX7_rule 71 = .ok (.ireturn, 1) := by decide +kernel
theorem dX7_rule_72 : decode cX7_rule 72 = .ok (.aload_n 0, 1) := by decide +kernel
theorem dX7_rule_73 : decode cX7_rule 73 = .ok (.getfield 7, 3) := by decide +kernel
theorem dX7_rule_76 : decode cX7_rule 76 = .ok (.bipush 14, 2) := by decide +kernel
theorem dX7_rule_78 : decode cX7_rule 78 = .ok (.iaload, 1) := by decide +kernel
theorem dX7_rule_79 : decode cX7_rule 79 = .ok (.iconst 1, 1) := by decide +kernel
theorem dX7_rule_80 : decode cX7_rule 80 = .ok (.iadd, 1) := by decide +kernel
theorem dX7_rule_81 : decode cX7_rule 81 = .ok (.ireturn, 1) := by decide +kernel
theorem dX7_rule_82 : decode cX7_rule 82 = .ok (.aload_n 0, 1) := by decide +kernel
theorem dX7_rule_83 : decode cX7_rule 83 = .ok (.getfield 7, 3) := by decide +kernel
theorem dX7_rule_86 : decode cX7_rule 86 = .ok (.bipush 45, 2) := by decide +kernel
theorem dX7_rule_88 : decode cX7_rule 88 = .ok (.iaload, 1) := by decide +kernel
theorem dX7_rule_89 : decode cX7_rule 89 = .ok (.ireturn, 1) := by decide +kernel
theorem dX7_rule_90 : decode cX7_rule 90 = .ok (.iconst (-1), 1) := by decide +kernel
theorem dX7_rule_91 : decode cX7_rule 91 = .ok (.ireturn, 1) := by decide +kernel
set_option maxHeartbeats 4000000 in
set_option maxRecDepth 100000 in
theorem c_X7_rule {l : Launch} {Y : ww_Y} {ad : Nat → Nat} {G : List ww_L} (o0 : Nat) (h0 : ww_at G o0 (ww_LModel o0)) (σ : ww_M) (p1 : Int32) : ww_Cn l Y ad G yX7_rule cX7_rule 2 (some .int) 2 [.ref (ad o0), .int p1] σ ((f_X7_rule σ o0 p1).bind (ww_ri σ)) := by
  refine ww_met (by decide +kernel) (Nat.le_of_ble_eq_true rfl) ?_
  intro X hC hR
  have hC : ww_C X l Y ad G 2 cX7_rule 2 RX7 := hC
  show ww_V X Y ad G 2 σ 0 [(0, .ref (ad o0)), (1, .int p1)] [] ((f_X7_rule σ o0 p1).bind (ww_ri σ))
  unfold f_X7_rule
  refine ww_iload_n (pc := 0) hC 1 rfl dX7_rule_0 rfl ?_
  refine ww_tab (pc := 1) (tgt := 44) hC 0 dX7_rule_1 (by decide) (by decide) rfl (by decide) ?_ (fun q1_0 => ?_)
  · refine ww_aload_n (pc := 44) hC 0 rfl dX7_rule_44 rfl ?_
    refine ww_geti (pc := 45) (Cl := RX7) (T := TX7) (N := 36) (j := 3) (ref := RX7) hC (h0 0 _ rfl) rfl inT_X7 (by decide) mw_879 rfl rfl dX7_rule_45 ?_
    exact ww_ireturn (pc := 48) hC hR dX7_rule_48 rfl
  refine ww_tab (pc := 1) (tgt := 49) hC 1 dX7_rule_1 (by decide) (by decide) rfl (by decide) ?_ (fun q1_1 => ?_)
  · refine ww_aload_n (pc := 49) hC 0 rfl dX7_rule_49 rfl ?_
    refine ww_geti (pc := 50) (Cl := RX7) (T := TX7) (N := 36) (j := 2) (ref := RX7) hC (h0 0 _ rfl) rfl inT_X7 (by decide) mw_878 rfl rfl dX7_rule_50 ?_
    exact ww_ireturn (pc := 53) hC hR dX7_rule_53 rfl
  refine ww_tab (pc := 1) (tgt := 54) hC 2 dX7_rule_1 (by decide) (by decide) rfl (by decide) ?_ (fun q1_2 => ?_)
  · refine ww_aload_n (pc := 54) hC 0 rfl dX7_rule_54 rfl ?_
    refine ww_geti (pc := 55) (Cl := RX7) (T := TX7) (N := 36) (j := 5) (ref := RX7) hC (h0 0 _ rfl) rfl inT_X7 (by decide) mw_881 rfl rfl dX7_rule_55 ?_
    exact ww_ireturn (pc := 58) hC hR dX7_rule_58 rfl
  refine ww_tab (pc := 1) (tgt := 59) hC 3 dX7_rule_1 (by decide) (by decide) rfl (by decide) ?_ (fun q1_3 => ?_)
  · refine ww_aload_n (pc := 59) hC 0 rfl dX7_rule_59 rfl ?_
    refine ww_getr (pc := 60) (Cl := RX7) (T := TX7) (N := 36) (j := 0) (ref := RX7) hC (h0 0 _ rfl) rfl inT_X7 (by decide) mw_876 rfl rfl dX7_rule_60 ?_
    refine ww_bipush (pc := 63) (v := 12) hC dX7_rule_63 rfl ?_
    refine ww_iald_c (pc := 65) (j := 12) hC (h0 1 _ rfl) (by decide) rfl dX7_rule_65 ?_
    exact ww_ireturn (pc := 66) hC hR dX7_rule_66 rfl
  refine ww_tab (pc := 1) (tgt := 67) hC 4 dX7_rule_1 (by decide) (by decide) rfl (by decide) ?_ (fun q1_4 => ?_)
  · refine ww_aload_n (pc := 67) hC 0 rfl dX7_rule_67 rfl ?_
    refine ww_callVi (pc := 68) (st := []) (As := []) hC (c_X7_rotNow o0 h0 σ) mm_X7_rotNow mw_1069 (h0 0 _ rfl) rfl (by omega) (by decide) (Nat.le_of_ble_eq_true rfl) rfl dX7_rule_68 (fun v68 => ?_)
    exact ww_ireturn (pc := 71) hC hR dX7_rule_71 rfl
  refine ww_tab (pc := 1) (tgt := 72) hC 5 dX7_rule_1 (by decide) (by decide) rfl (by decide) ?_ (fun q1_5 => ?_)
  · refine ww_aload_n (pc := 72) hC 0 rfl dX7_rule_72 rfl ?_
    refine ww_getr (pc := 73) (Cl := RX7) (T := TX7) (N := 36) (j := 0) (ref := RX7) hC (h0 0 _ rfl) rfl inT_X7 (by decide) mw_876 rfl rfl dX7_rule_73 ?_
    refine ww_bipush (pc := 76) (v := 14) hC dX7_rule_76 rfl ?_
    refine ww_iald_c (pc := 78) (j := 14) hC (h0 1 _ rfl) (by decide) rfl dX7_rule_78 ?_
    refine ww_iconst (pc := 79) (v := 1) hC dX7_rule_79 rfl ?_
    refine ww_iadd (pc := 80) hC dX7_rule_80 ?_
    exact ww_ireturn (pc := 81) hC hR dX7_rule_81 rfl
  refine ww_tab (pc := 1) (tgt := 82) hC 6 dX7_rule_1 (by decide) (by decide) rfl (by decide) ?_ (fun q1_6 => ?_)
  · refine ww_aload_n (pc := 82) hC 0 rfl dX7_rule_82 rfl ?_
    refine ww_getr (pc := 83) (Cl := RX7) (T := TX7) (N := 36) (j := 0) (ref := RX7) hC (h0 0 _ rfl) rfl inT_X7 (by decide) mw_876 rfl rfl dX7_rule_83 ?_
    refine ww_bipush (pc := 86) (v := 45) hC dX7_rule_86 rfl ?_
    refine ww_iald_c (pc := 88) (j := 45) hC (h0 1 _ rfl) (by decide) rfl dX7_rule_88 ?_
    exact ww_ireturn (pc := 89) hC hR dX7_rule_89 rfl
  have z1_0 : p1.toInt ≠ (0 : Int) := ww_nei q1_0
  have z1_1 : p1.toInt ≠ (1 : Int) := ww_nei q1_1
  have z1_2 : p1.toInt ≠ (2 : Int) := ww_nei q1_2
  have z1_3 : p1.toInt ≠ (3 : Int) := ww_nei q1_3
  have z1_4 : p1.toInt ≠ (4 : Int) := ww_nei q1_4
  have z1_5 : p1.toInt ≠ (5 : Int) := ww_nei q1_5
  have z1_6 : p1.toInt ≠ (6 : Int) := ww_nei q1_6
  refine ww_tabD (pc := 1) (tgt := 90) hC dX7_rule_1 (by omega) (by decide) ?_
  refine ww_iconst (pc := 90) (v := (-1)) hC dX7_rule_90 rfl ?_
  exact ww_ireturn (pc := 91) hC hR dX7_rule_91 rfl
theorem dX7_place_0 : decode cX7_place 0 = .ok (.aload_n 0, 1) := by decide +kernel
theorem dX7_place_1 : decode cX7_place 1 = .ok (.iload_n 1, 1) := by decide +kernel
theorem dX7_place_2 : decode cX7_place 2 = .ok (.invokevirtual 175, 3) := by decide +kernel
theorem dX7_place_5 : decode cX7_place 5 = .ok (.ifCond .eq 26, 3) := by decide +kernel
theorem dX7_place_8 : decode cX7_place 8 = .ok (.iload_n 2, 1) := by decide +kernel
theorem dX7_place_9 : decode cX7_place 9 = .ok (.i2l, 1) := by decide +kernel
theorem dX7_place_10 : decode cX7_place 10 = .ok (.lconst 0, 1) := by decide +kernel
theorem dX7_place_11 : decode cX7_place 11 = .ok (.lconst 1, 1) := by decide +kernel
theorem dX7_place_12 : decode cX7_place 12 = .ok (.invokestatic 68, 3) := by decide +kernel
theorem dX7_place_15 : decode cX7_place 15 = .ok (.ifCond .eq 16, 3) := by decide +kernel
theorem dX7_place_18 : decode cX7_place 18 = .ok (.aload_n 0, 1) := by decide +kernel
theorem dX7_place_19 : decode cX7_place 19 = .ok (.getfield 7, 3) := by decide +kernel
theorem dX7_place_22 : decode cX7_place 22 = .ok (.iconst 2, 1) := by decide +kernel
theorem dX7_place_23 : decode cX7_place 23 = .ok (.iload_n 1, 1) := by decide +kernel
theorem dX7_place_24 : decode cX7_place 24 = .ok (.imul, 1) := by decide +kernel
theorem dX7_place_25 : decode cX7_place 25 = .ok (.iload_n 2, 1) := by decide +kernel
theorem dX7_place_26 : decode cX7_place 26 = .ok (.iadd, 1) := by decide +kernel
theorem dX7_place_27 : decode cX7_place 27 = .ok (.iaload, 1) := by decide +kernel
theorem dX7_place_28 : decode cX7_place 28 = .ok (.goto 4, 3) := by decide +kernel
theorem dX7_place_31 : decode cX7_place 31 = .ok (.iconst (-1), 1) := by decide +kernel
theorem dX7_place_32 : decode cX7_place 32 = .ok (.ireturn, 1) := by decide +kernel
set_option maxHeartbeats 4000000 in
set_option maxRecDepth 100000 in
theorem c_X7_place {l : Launch} {Y : ww_Y} {ad : Nat → Nat} {G : List ww_L} (o0 : Nat) (h0 : ww_at G o0 (ww_LModel o0)) (σ : ww_M) (p1 : Int32) (p2 : Int32) : ww_Cn l Y ad G yX7_place cX7_place 3 (some .int) 3 [.ref (ad o0), .int p1, .int p2] σ ((f_X7_place σ o0 p1 p2).bind (ww_ri σ)) := by
  refine ww_met (by decide +kernel) (Nat.le_of_ble_eq_true rfl) ?_
  intro X hC hR
  have hC : ww_C X l Y ad G 3 cX7_place 3 RX7 := hC
  show ww_V X Y ad G 3 σ 0 [(0, .ref (ad o0)), (1, .int p1), (2, .int p2)] [] ((f_X7_place σ o0 p1 p2).bind (ww_ri σ))
  unfold f_X7_place
  refine ww_aload_n (pc := 0) hC 0 rfl dX7_place_0 rfl ?_
  refine ww_iload_n (pc := 1) hC 1 rfl dX7_place_1 rfl ?_
  refine ww_callVi (pc := 2) (st := []) (As := [.int p1]) hC (c_X7_isPlace o0 h0 σ p1) mm_X7_isPlace mw_1077 (h0 0 _ rfl) rfl (by omega) (by decide) (Nat.le_of_ble_eq_true rfl) rfl dX7_place_2 (fun v2 => ?_)
  refine ww_if_eq (pc := 5) (tgt := 31) hC dX7_place_5 (by decide) ?_ ?_
  · refine ww_iconst (pc := 31) (v := (-1)) hC dX7_place_31 rfl ?_
    exact ww_ireturn (pc := 32) hC hR dX7_place_32 rfl
  · refine ww_iload_n (pc := 8) hC 2 rfl dX7_place_8 rfl ?_
    refine ww_i2l (pc := 9) hC dX7_place_9 ?_
    refine ww_lconst (pc := 10) (v := 0) hC dX7_place_10 rfl ?_
    refine ww_lconst (pc := 11) (v := 1) hC dX7_place_11 rfl ?_
    refine ww_callSi (pc := 12) (st := []) (As := [.long p2.toInt64, .long 0, .long 1]) hC (c_X7_in σ p2.toInt64 0 1) mm_X7_in mw_991 (by omega) (by decide) (Nat.le_of_ble_eq_true rfl) rfl dX7_place_12 (fun v12 => ?_)
    refine ww_if_eq (pc := 15) (tgt := 31) hC dX7_place_15 (by decide) ?_ ?_
    · refine ww_iconst (pc := 31) (v := (-1)) hC dX7_place_31 rfl ?_
      exact ww_ireturn (pc := 32) hC hR dX7_place_32 rfl
    · refine ww_aload_n (pc := 18) hC 0 rfl dX7_place_18 rfl ?_
      refine ww_getr (pc := 19) (Cl := RX7) (T := TX7) (N := 36) (j := 0) (ref := RX7) hC (h0 0 _ rfl) rfl inT_X7 (by decide) mw_876 rfl rfl dX7_place_19 ?_
      refine ww_iconst (pc := 22) (v := 2) hC dX7_place_22 rfl ?_
      refine ww_iload_n (pc := 23) hC 1 rfl dX7_place_23 rfl ?_
      refine ww_imul (pc := 24) hC dX7_place_24 ?_
      refine ww_iload_n (pc := 25) hC 2 rfl dX7_place_25 rfl ?_
      refine ww_iadd (pc := 26) hC dX7_place_26 ?_
      refine ww_iald (pc := 27) hC (h0 1 _ rfl) dX7_place_27 ?_
      refine ww_goto (pc := 28) (tgt := 32) hC dX7_place_28 (by decide) ?_
      exact ww_ireturn (pc := 32) hC hR dX7_place_32 rfl
theorem dX7_level_0 : decode cX7_level 0 = .ok (.iload_n 1, 1) := by decide +kernel
theorem dX7_level_1 : decode cX7_level 1 = .ok (.i2l, 1) := by decide +kernel
theorem dX7_level_2 : decode cX7_level 2 = .ok (.lconst 0, 1) := by decide +kernel
theorem dX7_level_3 : decode cX7_level 3 = .ok (.ldc2_w 178, 3) := by decide +kernel
theorem dX7_level_6 : decode cX7_level 6 = .ok (.invokestatic 68, 3) := by decide +kernel
theorem dX7_level_9 : decode cX7_level 9 = .ok (.ifCond .eq 17, 3) := by decide +kernel
theorem dX7_level_12 : decode cX7_level 12 = .ok (.aload_n 0, 1) := by decide +kernel
theorem dX7_level_13 : decode cX7_level 13 = .ok (.getfield 13, 3) := by decide +kernel
theorem dX7_level_16 : decode cX7_level 16 = .ok (.iload_n 1, 1) := by decide +kernel
theorem dX7_level_17 : decode cX7_level 17 = .ok (.aload_n 0, 1) := by decide +kernel
theorem dX7_level_18 : decode cX7_level 18 = .ok (.getfield 16, 3) := by decide +kernel
theorem dX7_level_21 : decode cX7_level 21 = .ok (.irem, 1) := by decide +kernel
theorem dX7_level_22 : decode cX7_level 22 = .ok (.iaload, 1) := by decide +kernel
theorem dX7_level_23 : decode cX7_level 23 = .ok (.goto 4, 3) := by decide +kernel
theorem dX7_level_26 : decode cX7_level 26 = .ok (.iconst (-1), 1) := by decide +kernel
theorem dX7_level_27 : decode cX7_level 27 = .ok (.ireturn, 1) := by decide +kernel
set_option maxHeartbeats 4000000 in
set_option maxRecDepth 100000 in
theorem c_X7_level {l : Launch} {Y : ww_Y} {ad : Nat → Nat} {G : List ww_L} (o0 : Nat) (h0 : ww_at G o0 (ww_LModel o0)) (σ : ww_M) (p1 : Int32) : ww_Cn l Y ad G yX7_level cX7_level 2 (some .int) 2 [.ref (ad o0), .int p1] σ ((f_X7_level σ o0 p1).bind (ww_ri σ)) := by
  refine ww_met (by decide +kernel) (Nat.le_of_ble_eq_true rfl) ?_
  intro X hC hR
  have hC : ww_C X l Y ad G 2 cX7_level 2 RX7 := hC
  show ww_V X Y ad G 2 σ 0 [(0, .ref (ad o0)), (1, .int p1)] [] ((f_X7_level σ o0 p1).bind (ww_ri σ))
  unfold f_X7_level
  refine ww_iload_n (pc := 0) hC 1 rfl dX7_level_0 rfl ?_
  refine ww_i2l (pc := 1) hC dX7_level_1 ?_
  refine ww_lconst (pc := 2) (v := 0) hC dX7_level_2 rfl ?_
  refine ww_ldc2 (pc := 3) hC dX7_level_3 mw_1085 ?_
  refine ww_callSi (pc := 6) (st := []) (As := [.long p1.toInt64, .long 0, .long 999]) hC (c_X7_in σ p1.toInt64 0 999) mm_X7_in mw_991 (by omega) (by decide) (Nat.le_of_ble_eq_true rfl) rfl dX7_level_6 (fun v6 => ?_)
  refine ww_if_eq (pc := 9) (tgt := 26) hC dX7_level_9 (by decide) ?_ ?_
  · refine ww_iconst (pc := 26) (v := (-1)) hC dX7_level_26 rfl ?_
    exact ww_ireturn (pc := 27) hC hR dX7_level_27 rfl
  · refine ww_aload_n (pc := 12) hC 0 rfl dX7_level_12 rfl ?_
    refine ww_getr (pc := 13) (Cl := RX7) (T := TX7) (N := 36) (j := 1) (ref := RX7) hC (h0 0 _ rfl) rfl inT_X7 (by decide) mw_877 rfl rfl dX7_level_13 ?_
    refine ww_iload_n (pc := 16) hC 1 rfl dX7_level_16 rfl ?_
    refine ww_aload_n (pc := 17) hC 0 rfl dX7_level_17 rfl ?_
    refine ww_geti (pc := 18) (Cl := RX7) (T := TX7) (N := 36) (j := 2) (ref := RX7) hC (h0 0 _ rfl) rfl inT_X7 (by decide) mw_878 rfl rfl dX7_level_18 ?_
    refine ww_irem (pc := 21) hC dX7_level_21 ?_
    refine ww_iald (pc := 22) hC (h0 2 _ rfl) dX7_level_22 ?_
    refine ww_goto (pc := 23) (tgt := 27) hC dX7_level_23 (by decide) ?_
    exact ww_ireturn (pc := 27) hC hR dX7_level_27 rfl
theorem dX7_beast_0 : decode cX7_beast 0 = .ok (.aload_n 0, 1) := by decide +kernel
theorem dX7_beast_1 : decode cX7_beast 1 = .ok (.iload_n 1, 1) := by decide +kernel
theorem dX7_beast_2 : decode cX7_beast 2 = .ok (.invokevirtual 168, 3) := by decide +kernel
theorem dX7_beast_5 : decode cX7_beast 5 = .ok (.ifCond .eq 15, 3) := by decide +kernel
theorem dX7_beast_8 : decode cX7_beast 8 = .ok (.iload_n 2, 1) := by decide +kernel
theorem dX7_beast_9 : decode cX7_beast 9 = .ok (.i2l, 1) := by decide +kernel
theorem dX7_beast_10 : decode cX7_beast 10 = .ok (.lconst 0, 1) := by decide +kernel
theorem dX7_beast_11 : decode cX7_beast 11 = .ok (.ldc2_w 128, 3) := by decide +kernel
theorem dX7_beast_14 : decode cX7_beast 14 = .ok (.invokestatic 68, 3) := by decide +kernel
theorem dX7_beast_17 : decode cX7_beast 17 = .ok (.ifCond .ne 5, 3) := by decide +kernel
theorem dX7_beast_20 : decode cX7_beast 20 = .ok (.iconst (-1), 1) := by decide +kernel
theorem dX7_beast_21 : decode cX7_beast 21 = .ok (.ireturn, 1) := by decide +kernel
theorem dX7_beast_22 : decode cX7_beast 22 = .ok (.iload_n 2, 1) := by decide +kernel
theorem dX7_beast_23 : decode cX7_beast 23 = .ok (.iconst 2, 1) := by decide +kernel
theorem dX7_beast_24 : decode cX7_beast 24 = .ok (.if_icmp .ne 15, 3) := by decide +kernel
theorem dX7_beast_27 : decode cX7_beast 27 = .ok (.aload_n 0, 1) := by decide +kernel
theorem dX7_beast_28 : decode cX7_beast 28 = .ok (.getfield 7, 3) := by decide +kernel
theorem dX7_beast_31 : decode cX7_beast 31 = .ok (.bipush 15, 2) := by decide +kernel
theorem dX7_beast_33 : decode cX7_beast 33 = .ok (.iload_n 1, 1) := by decide +kernel
theorem dX7_beast_34 : decode cX7_beast 34 = .ok (.iadd, 1) := by decide +kernel
theorem dX7_beast_35 : decode cX7_beast 35 = .ok (.iaload, 1) := by decide +kernel
theorem dX7_beast_36 : decode cX7_beast 36 = .ok (.goto 13, 3) := by decide +kernel
theorem dX7_beast_39 : decode cX7_beast 39 = .ok (.aload_n 0, 1) := by decide +kernel
theorem dX7_beast_40 : decode cX7_beast 40 = .ok (.getfield 20, 3) := by decide +kernel
theorem dX7_beast_43 : decode cX7_beast 43 = .ok (.iconst 2, 1) := by decide +kernel
theorem dX7_beast_44 : decode cX7_beast 44 = .ok (.iload_n 1, 1) := by decide +kernel
theorem dX7_beast_45 : decode cX7_beast 45 = .ok (.imul, 1) := by decide +kernel
theorem dX7_beast_46 : decode cX7_beast 46 = .ok (.iload_n 2, 1) := by decide +kernel
theorem dX7_beast_47 : decode cX7_beast 47 = .ok (.iadd, 1) := by decide +kernel
theorem dX7_beast_48 : decode cX7_beast 48 = .ok (.iaload, 1) := by decide +kernel
theorem dX7_beast_49 : decode cX7_beast 49 = .ok (.ireturn, 1) := by decide +kernel
set_option maxHeartbeats 4000000 in
set_option maxRecDepth 100000 in
theorem c_X7_beast {l : Launch} {Y : ww_Y} {ad : Nat → Nat} {G : List ww_L} (o0 : Nat) (h0 : ww_at G o0 (ww_LModel o0)) (σ : ww_M) (p1 : Int32) (p2 : Int32) : ww_Cn l Y ad G yX7_beast cX7_beast 3 (some .int) 3 [.ref (ad o0), .int p1, .int p2] σ ((f_X7_beast σ o0 p1 p2).bind (ww_ri σ)) := by
  refine ww_met (by decide +kernel) (Nat.le_of_ble_eq_true rfl) ?_
  intro X hC hR
  have hC : ww_C X l Y ad G 3 cX7_beast 3 RX7 := hC
  show ww_V X Y ad G 3 σ 0 [(0, .ref (ad o0)), (1, .int p1), (2, .int p2)] [] ((f_X7_beast σ o0 p1 p2).bind (ww_ri σ))
  unfold f_X7_beast
  refine ww_aload_n (pc := 0) hC 0 rfl dX7_beast_0 rfl ?_
  refine ww_iload_n (pc := 1) hC 1 rfl dX7_beast_1 rfl ?_
  refine ww_callVi (pc := 2) (st := []) (As := [.int p1]) hC (c_X7_isBeast o0 h0 σ p1) mm_X7_isBeast mw_1090 (h0 0 _ rfl) rfl (by omega) (by decide) (Nat.le_of_ble_eq_true rfl) rfl dX7_beast_2 (fun v2 => ?_)
  refine ww_if_eq (pc := 5) (tgt := 20) hC dX7_beast_5 (by decide) ?_ ?_
  · refine ww_iconst (pc := 20) (v := (-1)) hC dX7_beast_20 rfl ?_
    exact ww_ireturn (pc := 21) hC hR dX7_beast_21 rfl
  · refine ww_iload_n (pc := 8) hC 2 rfl dX7_beast_8 rfl ?_
    refine ww_i2l (pc := 9) hC dX7_beast_9 ?_
    refine ww_lconst (pc := 10) (v := 0) hC dX7_beast_10 rfl ?_
    refine ww_ldc2 (pc := 11) hC dX7_beast_11 mw_1027 ?_
    refine ww_callSi (pc := 14) (st := []) (As := [.long p2.toInt64, .long 0, .long 2]) hC (c_X7_in σ p2.toInt64 0 2) mm_X7_in mw_991 (by omega) (by decide) (Nat.le_of_ble_eq_true rfl) rfl dX7_beast_14 (fun v14 => ?_)
    refine ww_if_ne (pc := 17) (tgt := 22) hC dX7_beast_17 (by decide) ?_ ?_
    · refine ww_iload_n (pc := 22) hC 2 rfl dX7_beast_22 rfl ?_
      refine ww_iconst (pc := 23) (v := 2) hC dX7_beast_23 rfl ?_
      refine ww_icmp_ne (pc := 24) (tgt := 39) hC dX7_beast_24 (by decide) ?_ ?_
      · refine ww_aload_n (pc := 39) hC 0 rfl dX7_beast_39 rfl ?_
        refine ww_getr (pc := 40) (Cl := RX7) (T := TX7) (N := 36) (j := 4) (ref := RX7) hC (h0 0 _ rfl) rfl inT_X7 (by decide) mw_880 rfl rfl dX7_beast_40 ?_
        refine ww_iconst (pc := 43) (v := 2) hC dX7_beast_43 rfl ?_
        refine ww_iload_n (pc := 44) hC 1 rfl dX7_beast_44 rfl ?_
        refine ww_imul (pc := 45) hC dX7_beast_45 ?_
        refine ww_iload_n (pc := 46) hC 2 rfl dX7_beast_46 rfl ?_
        refine ww_iadd (pc := 47) hC dX7_beast_47 ?_
        refine ww_iald (pc := 48) hC (h0 3 _ rfl) dX7_beast_48 ?_
        exact ww_ireturn (pc := 49) hC hR dX7_beast_49 rfl
      · refine ww_aload_n (pc := 27) hC 0 rfl dX7_beast_27 rfl ?_
        refine ww_getr (pc := 28) (Cl := RX7) (T := TX7) (N := 36) (j := 0) (ref := RX7) hC (h0 0 _ rfl) rfl inT_X7 (by decide) mw_876 rfl rfl dX7_beast_28 ?_
        refine ww_bipush (pc := 31) (v := 15) hC dX7_beast_31 rfl ?_
        refine ww_iload_n (pc := 33) hC 1 rfl dX7_beast_33 rfl ?_
        refine ww_iadd (pc := 34) hC dX7_beast_34 ?_
        refine ww_iald (pc := 35) hC (h0 1 _ rfl) dX7_beast_35 ?_
        refine ww_goto (pc := 36) (tgt := 49) hC dX7_beast_36 (by decide) ?_
        exact ww_ireturn (pc := 49) hC hR dX7_beast_49 rfl
    · refine ww_iconst (pc := 20) (v := (-1)) hC dX7_beast_20 rfl ?_
      exact ww_ireturn (pc := 21) hC hR dX7_beast_21 rfl
theorem dX7_worthIn_0 : decode cX7_worthIn 0 = .ok (.aload_n 0, 1) := by decide +kernel
theorem dX7_worthIn_1 : decode cX7_worthIn 1 = .ok (.getfield 7, 3) := by decide +kernel
theorem dX7_worthIn_4 : decode cX7_worthIn 4 = .ok (.iload_n 1, 1) := by decide +kernel
theorem dX7_worthIn_5 : decode cX7_worthIn 5 = .ok (.invokestatic 188, 3) := by decide +kernel
theorem dX7_worthIn_8 : decode cX7_worthIn 8 = .ok (.iaload, 1) := by decide +kernel
theorem dX7_worthIn_9 : decode cX7_worthIn 9 = .ok (.iload_n 2, 1) := by decide +kernel
theorem dX7_worthIn_10 : decode cX7_worthIn 10 = .ok (.iload_n 3, 1) := by decide +kernel
theorem dX7_worthIn_11 : decode cX7_worthIn 11 = .ok (.idiv, 1) := by decide +kernel
theorem dX7_worthIn_12 : decode cX7_worthIn 12 = .ok (.isub, 1) := by decide +kernel
theorem dX7_worthIn_13 : decode cX7_worthIn 13 = .ok (.istore 4, 2) := by decide +kernel
theorem dX7_worthIn_15 : decode cX7_worthIn 15 = .ok (.iload 4, 2) := by decide +kernel
theorem dX7_worthIn_17 : decode cX7_worthIn 17 = .ok (.ifCond .ge 7, 3) := by decide +kernel
theorem dX7_worthIn_20 : decode cX7_worthIn 20 = .ok (.iconst 0, 1) := by decide +kernel
theorem dX7_worthIn_21 : decode cX7_worthIn 21 = .ok (.goto 5, 3) := by decide +kernel
theorem dX7_worthIn_24 : decode cX7_worthIn 24 = .ok (.iload 4, 2) := by decide +kernel
theorem dX7_worthIn_26 : decode cX7_worthIn 26 = .ok (.ireturn, 1) := by decide +kernel
set_option maxHeartbeats 4000000 in
set_option maxRecDepth 100000 in
theorem c_X7_worthIn {l : Launch} {Y : ww_Y} {ad : Nat → Nat} {G : List ww_L} (o0 : Nat) (h0 : ww_at G o0 (ww_LModel o0)) (σ : ww_M) (p1 : Int32) (p2 : Int32) (p3 : Int32) : ww_Cn l Y ad G yX7_worthIn cX7_worthIn 5 (some .int) 2 [.ref (ad o0), .int p1, .int p2, .int p3] σ ((f_X7_worthIn σ o0 p1 p2 p3).bind (ww_ri σ)) := by
  refine ww_met (by decide +kernel) (Nat.le_of_ble_eq_true rfl) ?_
  intro X hC hR
  have hC : ww_C X l Y ad G 2 cX7_worthIn 5 RX7 := hC
  show ww_V X Y ad G 5 σ 0 [(0, .ref (ad o0)), (1, .int p1), (2, .int p2), (3, .int p3)] [] ((f_X7_worthIn σ o0 p1 p2 p3).bind (ww_ri σ))
  unfold f_X7_worthIn
  refine ww_aload_n (pc := 0) hC 0 rfl dX7_worthIn_0 rfl ?_
  refine ww_getr (pc := 1) (Cl := RX7) (T := TX7) (N := 36) (j := 0) (ref := RX7) hC (h0 0 _ rfl) rfl inT_X7 (by decide) mw_876 rfl rfl dX7_worthIn_1 ?_
  refine ww_iload_n (pc := 4) hC 1 rfl dX7_worthIn_4 rfl ?_
  refine ww_callSi (pc := 5) (st := [.ref (ad (o0 + 1))]) (As := [.int p1]) hC (c_X7_partAt σ p1) mm_X7_partAt mw_1102 (by omega) (by decide) (Nat.le_of_ble_eq_true rfl) rfl dX7_worthIn_5 (fun v5 => ?_)
  refine ww_iald (pc := 8) hC (h0 1 _ rfl) dX7_worthIn_8 ?_
  refine ww_iload_n (pc := 9) hC 2 rfl dX7_worthIn_9 rfl ?_
  refine ww_iload_n (pc := 10) hC 3 rfl dX7_worthIn_10 rfl ?_
  refine ww_idiv (pc := 11) hC dX7_worthIn_11 ?_
  refine ww_isub (pc := 12) hC dX7_worthIn_12 ?_
  refine ww_istore (pc := 13) (lv' := [(4, .int ((σ (o0 + 1) (ww_ix v5)) - (p2 / p3))), (0, .ref (ad o0)), (1, .int p1), (2, .int p2), (3, .int p3)]) hC dX7_worthIn_13 (by decide) rfl ?_
  refine ww_iload (pc := 15) hC 0 rfl dX7_worthIn_15 ?_
  refine ww_if_ge (pc := 17) (tgt := 24) hC dX7_worthIn_17 (by decide) ?_ ?_
  · refine ww_iload (pc := 24) hC 0 rfl dX7_worthIn_24 ?_
    exact ww_ireturn (pc := 26) hC hR dX7_worthIn_26 rfl
  · refine ww_iconst (pc := 20) (v := 0) hC dX7_worthIn_20 rfl ?_
    refine ww_goto (pc := 21) (tgt := 26) hC dX7_worthIn_21 (by decide) ?_
    exact ww_ireturn (pc := 26) hC hR dX7_worthIn_26 rfl
theorem dX7_canBeWorked_0 : decode cX7_canBeWorked 0 = .ok (.iload_n 1, 1) := by decide +kernel
theorem dX7_canBeWorked_1 : decode cX7_canBeWorked 1 = .ok (.bipush 10, 2) := by decide +kernel
theorem dX7_canBeWorked_3 : decode cX7_canBeWorked 3 = .ok (.idiv, 1) := by decide +kernel
theorem dX7_canBeWorked_4 : decode cX7_canBeWorked 4 = .ok (.istore_n 2, 1) := by decide +kernel
theorem dX7_canBeWorked_5 : decode cX7_canBeWorked 5 = .ok (.aload_n 0, 1) := by decide +kernel
theorem dX7_canBeWorked_6 : decode cX7_canBeWorked 6 = .ok (.getfield 7, 3) := by decide +kernel
theorem dX7_canBeWorked_9 : decode cX7_canBeWorked 9 = .ok (.iload_n 1, 1) := by decide +kernel
theorem dX7_canBeWorked_10 : decode cX7_canBeWorked 10 = .ok (.invokestatic 188, 3) := by decide +kernel
theorem dX7_canBeWorked_13 : decode cX7_canBeWorked 13 = .ok (.iconst 1, 1) := by decide +kernel
theorem dX7_canBeWorked_14 : decode cX7_canBeWorked 14 = .ok (.iadd, 1) := by decide +kernel
theorem dX7_canBeWorked_15 : decode cX7_canBeWorked 15 = .ok (.iaload, 1) := by decide +kernel
theorem dX7_canBeWorked_16 : decode cX7_canBeWorked 16 = .ok (.ifCond .le 46, 3) := by decide +kernel
theorem dX7_canBeWorked_19 : decode cX7_canBeWorked 19 = .ok (.aload_n 0, 1) := by decide +kernel
theorem dX7_canBeWorked_20 : decode cX7_canBeWorked 20 = .ok (.getfield 7, 3) := by decide +kernel
theorem dX7_canBeWorked_23 : decode cX7_canBeWorked 23 = .ok (.bipush 15, 2) := by decide +kernel
theorem dX7_canBeWorked_25 : decode cX7_canBeWorked 25 = .ok (.iload_n 2, 1) := by decide +kernel
theorem dX7_canBeWorked_26 : decode cX7_canBeWorked 26 = .ok (.iadd, 1) := by decide +kernel
theorem dX7_canBeWorked_27 : decode cX7_canBeWorked 27 = .ok (.iaload, 1) := by decide +kernel
theorem dX7_canBeWorked_28 : decode cX7_canBeWorked 28 = .ok (.ifCond .ne 34, 3) := by decide +kernel
theorem dX7_canBeWorked_31 : decode cX7_canBeWorked 31 = .ok (.aload_n 0, 1) := by decide +kernel
theorem dX7_canBeWorked_32 : decode cX7_canBeWorked 32 = .ok (.aload_n 0, 1) := by decide +kernel
theorem dX7_canBeWorked_33 : decode cX7_canBeWorked 33 = .ok (.getfield 20, 3) := by decide +kernel
theorem dX7_canBeWorked_36 : decode cX7_canBeWorked 36 = .ok (.iconst 2, 1) := by decide +kernel
theorem dX7_canBeWorked_37 : decode cX7_canBeWorked 37 = .ok (.iload_n 2, 1) := by decide +kernel
theorem dX7_canBeWorked_38 : decode cX7_canBeWorked 38 = .ok (.imul, 1) := by decide +kernel
theorem dX7_canBeWorked_39 : decode cX7_canBeWorked 39 = .ok (.iaload, 1) := by decide +kernel
theorem dX7_canBeWorked_40 : decode cX7_canBeWorked 40 = .ok (.iload_n 1, 1) := by decide +kernel
theorem dX7_canBeWorked_41 : decode cX7_canBeWorked 41 = .ok (.bipush 10, 2) := by decide +kernel
theorem dX7_canBeWorked_43 : decode cX7_canBeWorked 43 = .ok (.irem, 1) := by decide +kernel
theorem dX7_canBeWorked_44 : decode cX7_canBeWorked 44 = .ok (.iadd, 1) := by decide +kernel
theorem dX7_canBeWorked_45 : decode cX7_canBeWorked 45 = .ok (.aload_n 0, 1) := by decide +kernel
theorem dX7_canBeWorked_46 : decode cX7_canBeWorked 46 = .ok (.getfield 7, 3) := by decide +kernel
theorem dX7_canBeWorked_49 : decode cX7_canBeWorked 49 = .ok (.bipush 45, 2) := by decide +kernel
theorem dX7_canBeWorked_51 : decode cX7_canBeWorked 51 = .ok (.iaload, 1) := by decide +kernel
theorem dX7_canBeWorked_52 : decode cX7_canBeWorked 52 = .ok (.invokevirtual 180, 3) := by decide +kernel
theorem dX7_canBeWorked_55 : decode cX7_canBeWorked 55 = .ok (.ifCond .ne 7, 3) := by decide +kernel
theorem dX7_canBeWorked_58 : decode cX7_canBeWorked 58 = .ok (.iconst 1, 1) := by decide +kernel
theorem dX7_canBeWorked_59 : decode cX7_canBeWorked 59 = .ok (.goto 4, 3) := by decide +kernel
theorem dX7_canBeWorked_62 : decode cX7_canBeWorked 62 = .ok (.iconst 0, 1) := by decide +kernel
theorem dX7_canBeWorked_63 : decode cX7_canBeWorked 63 = .ok (.ireturn, 1) := by decide +kernel
set_option maxHeartbeats 4000000 in
set_option maxRecDepth 100000 in
theorem c_X7_canBeWorked {l : Launch} {Y : ww_Y} {ad : Nat → Nat} {G : List ww_L} (o0 : Nat) (h0 : ww_at G o0 (ww_LModel o0)) (σ : ww_M) (p1 : Int32) : ww_Cn l Y ad G yX7_canBeWorked cX7_canBeWorked 3 (some .boolean) 2 [.ref (ad o0), .int p1] σ ((f_X7_canBeWorked σ o0 p1).bind (ww_ri σ)) := by
  refine ww_met (by decide +kernel) (Nat.le_of_ble_eq_true rfl) ?_
  intro X hC hR
  have hC : ww_C X l Y ad G 2 cX7_canBeWorked 3 RX7 := hC
  show ww_V X Y ad G 3 σ 0 [(0, .ref (ad o0)), (1, .int p1)] [] ((f_X7_canBeWorked σ o0 p1).bind (ww_ri σ))
  unfold f_X7_canBeWorked
  refine ww_iload_n (pc := 0) hC 1 rfl dX7_canBeWorked_0 rfl ?_
  refine ww_bipush (pc := 1) (v := 10) hC dX7_canBeWorked_1 rfl ?_
  refine ww_idiv_c (pc := 3) hC dX7_canBeWorked_3 (by decide) ?_
  refine ww_istore_n (pc := 4) (lv' := [(2, .int (p1 / 10)), (0, .ref (ad o0)), (1, .int p1)]) hC dX7_canBeWorked_4 rfl (by decide) rfl ?_
  refine ww_aload_n (pc := 5) hC 1 rfl dX7_canBeWorked_5 rfl ?_
  refine ww_getr (pc := 6) (Cl := RX7) (T := TX7) (N := 36) (j := 0) (ref := RX7) hC (h0 0 _ rfl) rfl inT_X7 (by decide) mw_876 rfl rfl dX7_canBeWorked_6 ?_
  refine ww_iload_n (pc := 9) hC 2 rfl dX7_canBeWorked_9 rfl ?_
  refine ww_callSi (pc := 10) (st := [.ref (ad (o0 + 1))]) (As := [.int p1]) hC (c_X7_partAt σ p1) mm_X7_partAt mw_1102 (by omega) (by decide) (Nat.le_of_ble_eq_true rfl) rfl dX7_canBeWorked_10 (fun v10 => ?_)
  refine ww_iconst (pc := 13) (v := 1) hC dX7_canBeWorked_13 rfl ?_
  refine ww_iadd (pc := 14) hC dX7_canBeWorked_14 ?_
  refine ww_iald (pc := 15) hC (h0 1 _ rfl) dX7_canBeWorked_15 ?_
  refine ww_if_le (pc := 16) (tgt := 62) hC dX7_canBeWorked_16 (by decide) ?_ ?_
  · refine ww_iconst (pc := 62) (v := 0) hC dX7_canBeWorked_62 rfl ?_
    exact ww_zreturn (pc := 63) hC hR dX7_canBeWorked_63 rfl rfl
  · refine ww_aload_n (pc := 19) hC 1 rfl dX7_canBeWorked_19 rfl ?_
    refine ww_getr (pc := 20) (Cl := RX7) (T := TX7) (N := 36) (j := 0) (ref := RX7) hC (h0 0 _ rfl) rfl inT_X7 (by decide) mw_876 rfl rfl dX7_canBeWorked_20 ?_
    refine ww_bipush (pc := 23) (v := 15) hC dX7_canBeWorked_23 rfl ?_
    refine ww_iload_n (pc := 25) hC 0 rfl dX7_canBeWorked_25 rfl ?_
    refine ww_iadd (pc := 26) hC dX7_canBeWorked_26 ?_
    refine ww_iald (pc := 27) hC (h0 1 _ rfl) dX7_canBeWorked_27 ?_
    refine ww_if_ne (pc := 28) (tgt := 62) hC dX7_canBeWorked_28 (by decide) ?_ ?_
    · refine ww_iconst (pc := 62) (v := 0) hC dX7_canBeWorked_62 rfl ?_
      exact ww_zreturn (pc := 63) hC hR dX7_canBeWorked_63 rfl rfl
    · refine ww_aload_n (pc := 31) hC 1 rfl dX7_canBeWorked_31 rfl ?_
      refine ww_aload_n (pc := 32) hC 1 rfl dX7_canBeWorked_32 rfl ?_
      refine ww_getr (pc := 33) (Cl := RX7) (T := TX7) (N := 36) (j := 4) (ref := RX7) hC (h0 0 _ rfl) rfl inT_X7 (by decide) mw_880 rfl rfl dX7_canBeWorked_33 ?_
      refine ww_iconst (pc := 36) (v := 2) hC dX7_canBeWorked_36 rfl ?_
      refine ww_iload_n (pc := 37) hC 0 rfl dX7_canBeWorked_37 rfl ?_
      refine ww_imul (pc := 38) hC dX7_canBeWorked_38 ?_
      refine ww_iald (pc := 39) hC (h0 3 _ rfl) dX7_canBeWorked_39 ?_
      refine ww_iload_n (pc := 40) hC 2 rfl dX7_canBeWorked_40 rfl ?_
      refine ww_bipush (pc := 41) (v := 10) hC dX7_canBeWorked_41 rfl ?_
      refine ww_irem_c (pc := 43) hC dX7_canBeWorked_43 (by decide) ?_
      refine ww_iadd (pc := 44) hC dX7_canBeWorked_44 ?_
      refine ww_aload_n (pc := 45) hC 1 rfl dX7_canBeWorked_45 rfl ?_
      refine ww_getr (pc := 46) (Cl := RX7) (T := TX7) (N := 36) (j := 0) (ref := RX7) hC (h0 0 _ rfl) rfl inT_X7 (by decide) mw_876 rfl rfl dX7_canBeWorked_46 ?_
      refine ww_bipush (pc := 49) (v := 45) hC dX7_canBeWorked_49 rfl ?_
      refine ww_iald_c (pc := 51) (j := 45) hC (h0 1 _ rfl) (by decide) rfl dX7_canBeWorked_51 ?_
      refine ww_callVi (pc := 52) (st := []) (As := [.int ((σ (o0 + 3) (ww_ix (2 * (p1 / 10)))) + (ww_rem p1 10)), .int (σ (o0 + 1) 45)]) hC (c_X7_isWet o0 h0 σ ((σ (o0 + 3) (ww_ix (2 * (p1 / 10)))) + (ww_rem p1 10)) (σ (o0 + 1) 45)) mm_X7_isWet mw_1057 (h0 0 _ rfl) rfl (by omega) (by decide) (Nat.le_of_ble_eq_true rfl) rfl dX7_canBeWorked_52 (fun v52 => ?_)
      refine ww_if_ne (pc := 55) (tgt := 62) hC dX7_canBeWorked_55 (by decide) ?_ ?_
      · refine ww_iconst (pc := 62) (v := 0) hC dX7_canBeWorked_62 rfl ?_
        exact ww_zreturn (pc := 63) hC hR dX7_canBeWorked_63 rfl rfl
      · refine ww_iconst (pc := 58) (v := 1) hC dX7_canBeWorked_58 rfl ?_
        refine ww_goto (pc := 59) (tgt := 63) hC dX7_canBeWorked_59 (by decide) ?_
        exact ww_zreturn (pc := 63) hC hR dX7_canBeWorked_63 rfl rfl
theorem dX7_whoseBy_0 : decode cX7_whoseBy 0 = .ok (.aload_n 0, 1) := by decide +kernel
theorem dX7_whoseBy_1 : decode cX7_whoseBy 1 = .ok (.getfield 20, 3) := by decide +kernel
theorem dX7_whoseBy_4 : decode cX7_whoseBy 4 = .ok (.iconst 2, 1) := by decide +kernel
theorem dX7_whoseBy_5 : decode cX7_whoseBy 5 = .ok (.iload_n 1, 1) := by decide +kernel
theorem dX7_whoseBy_6 : decode cX7_whoseBy 6 = .ok (.bipush 10, 2) := by decide +kernel
theorem dX7_whoseBy_8 : decode cX7_whoseBy 8 = .ok (.idiv, 1) := by decide +kernel
theorem dX7_whoseBy_9 : decode cX7_whoseBy 9 = .ok (.imul, 1) := by decide +kernel
theorem dX7_whoseBy_10 : decode cX7_whoseBy 10 = .ok (.iaload, 1) := by decide +kernel
theorem dX7_whoseBy_11 : decode cX7_whoseBy 11 = .ok (.istore_n 3, 1) := by decide +kernel
theorem dX7_whoseBy_12 : decode cX7_whoseBy 12 = .ok (.aload_n 0, 1) := by decide +kernel
theorem dX7_whoseBy_13 : decode cX7_whoseBy 13 = .ok (.getfield 20, 3) := by decide +kernel
theorem dX7_whoseBy_16 : decode cX7_whoseBy 16 = .ok (.iconst 2, 1) := by decide +kernel
theorem dX7_whoseBy_17 : decode cX7_whoseBy 17 = .ok (.iload_n 1, 1) := by decide +kernel
theorem dX7_whoseBy_18 : decode cX7_whoseBy 18 = .ok (.bipush 10, 2) := by decide +kernel
theorem dX7_whoseBy_20 : decode cX7_whoseBy 20 = .ok (.idiv, 1) := by decide +kernel
theorem dX7_whoseBy_21 : decode cX7_whoseBy 21 = .ok (.imul, 1) := by decide +kernel
theorem dX7_whoseBy_22 : decode cX7_whoseBy 22 = .ok (.iconst 1, 1) := by decide +kernel
theorem dX7_whoseBy_23 : decode cX7_whoseBy 23 = .ok (.iadd, 1) := by decide +kernel
theorem dX7_whoseBy_24 : decode cX7_whoseBy 24 = .ok (.iaload, 1) := by decide +kernel
theorem dX7_whoseBy_25 : decode cX7_whoseBy 25 = .ok (.istore 4, 2) := by decide +kernel
theorem dX7_whoseBy_27 : decode cX7_whoseBy 27 = .ok (.iload_n 2, 1) := by decide +kernel
theorem dX7_whoseBy_28 : decode cX7_whoseBy 28 = .ok (.iconst 3, 1) := by decide +kernel
theorem dX7_whoseBy_29 : decode cX7_whoseBy 29 = .ok (.if_icmp .ge 37, 3) := by decide +kernel
theorem dX7_whoseBy_32 : decode cX7_whoseBy 32 = .ok (.aload_n 0, 1) := by decide +kernel
theorem dX7_whoseBy_33 : decode cX7_whoseBy 33 = .ok (.getfield 7, 3) := by decide +kernel
theorem dX7_whoseBy_36 : decode cX7_whoseBy 36 = .ok (.iconst 2, 1) := by decide +kernel
theorem dX7_whoseBy_37 : decode cX7_whoseBy 37 = .ok (.iload_n 3, 1) := by decide +kernel
theorem dX7_whoseBy_38 : decode cX7_whoseBy 38 = .ok (.iload_n 2, 1) := by decide +kernel
theorem dX7_whoseBy_39 : decode cX7_whoseBy 39 = .ok (.ifCond .ne 7, 3) := by decide +kernel
theorem dX7_whoseBy_42 : decode cX7_whoseBy 42 = .ok (.iconst 0, 1) := by decide +kernel
theorem dX7_whoseBy_43 : decode cX7_whoseBy 43 = .ok (.goto 19, 3) := by decide +kernel
theorem dX7_whoseBy_46 : decode cX7_whoseBy 46 = .ok (.iload_n 2, 1) := by decide +kernel
theorem dX7_whoseBy_47 : decode cX7_whoseBy 47 = .ok (.iconst 1, 1) := by decide +kernel
theorem dX7_whoseBy_48 : decode cX7_whoseBy 48 = .ok (.if_icmp .ne 10, 3) := by decide +kernel
theorem dX7_whoseBy_51 : decode cX7_whoseBy 51 = .ok (.iload 4, 2) := by decide +kernel
theorem dX7_whoseBy_53 : decode cX7_whoseBy 53 = .ok (.iconst 1, 1) := by decide +kernel
theorem dX7_whoseBy_54 : decode cX7_whoseBy 54 = .ok (.isub, 1) := by decide +kernel
theorem dX7_whoseBy_55 : decode cX7_whoseBy 55 = .ok (.goto 7, 3) := by decide +kernel
theorem dX7_whoseBy_58 : decode cX7_whoseBy 58 = .ok (.iload_n 1, 1) := by decide +kernel
theorem dX7_whoseBy_59 : decode cX7_whoseBy 59 = .ok (.bipush 10, 2) := by decide +kernel
theorem dX7_whoseBy_61 : decode cX7_whoseBy 61 = .ok (.irem, 1) := by decide +kernel
theorem dX7_whoseBy_62 : decode cX7_whoseBy 62 = .ok (.iadd, 1) := by decide +kernel
theorem dX7_whoseBy_63 : decode cX7_whoseBy 63 = .ok (.imul, 1) := by decide +kernel
theorem dX7_whoseBy_64 : decode cX7_whoseBy 64 = .ok (.iaload, 1) := by decide +kernel
theorem dX7_whoseBy_65 : decode cX7_whoseBy 65 = .ok (.ireturn, 1) := by decide +kernel
theorem dX7_whoseBy_66 : decode cX7_whoseBy 66 = .ok (.iconst 0, 1) := by decide +kernel
theorem dX7_whoseBy_67 : decode cX7_whoseBy 67 = .ok (.istore 5, 2) := by decide +kernel
theorem dX7_whoseBy_69 : decode cX7_whoseBy 69 = .ok (.iconst 0, 1) := by decide +kernel
theorem dX7_whoseBy_70 : decode cX7_whoseBy 70 = .ok (.istore 6, 2) := by decide +kernel
theorem dX7_whoseBy_72 : decode cX7_whoseBy 72 = .ok (.iconst 0, 1) := by decide +kernel
theorem dX7_whoseBy_73 : decode cX7_whoseBy 73 = .ok (.istore 7, 2) := by decide +kernel
theorem dX7_whoseBy_75 : decode cX7_whoseBy 75 = .ok (.iload 7, 2) := by decide +kernel
theorem dX7_whoseBy_77 : decode cX7_whoseBy 77 = .ok (.iconst 4, 1) := by decide +kernel
theorem dX7_whoseBy_78 : decode cX7_whoseBy 78 = .ok (.if_icmp .ge 86, 3) := by decide +kernel
theorem dX7_whoseBy_81 : decode cX7_whoseBy 81 = .ok (.iconst 0, 1) := by decide +kernel
theorem dX7_whoseBy_82 : decode cX7_whoseBy 82 = .ok (.istore 8, 2) := by decide +kernel
theorem dX7_whoseBy_84 : decode cX7_whoseBy 84 = .ok (.iload_n 3, 1) := by decide +kernel
theorem dX7_whoseBy_85 : decode cX7_whoseBy 85 = .ok (.istore 9, 2) := by decide +kernel
theorem dX7_whoseBy_87 : decode cX7_whoseBy 87 = .ok (.iload 9, 2) := by decide +kernel
theorem dX7_whoseBy_89 : decode cX7_whoseBy 89 = .ok (.iload_n 3, 1) := by decide +kernel
theorem dX7_whoseBy_90 : decode cX7_whoseBy 90 = .ok (.iload 4, 2) := by decide +kernel
theorem dX7_whoseBy_92 : decode cX7_whoseBy 92 = .ok (.iadd, 1) := by decide +kernel
theorem dX7_whoseBy_93 : decode cX7_whoseBy 93 = .ok (.if_icmp .ge 33, 3) := by decide +kernel
theorem dX7_whoseBy_96 : decode cX7_whoseBy 96 = .ok (.iload 8, 2) := by decide +kernel
theorem dX7_whoseBy_98 : decode cX7_whoseBy 98 = .ok (.aload_n 0, 1) := by decide +kernel
theorem dX7_whoseBy_99 : decode cX7_whoseBy 99 = .ok (.getfield 7, 3) := by decide +kernel
theorem dX7_whoseBy_102 : decode cX7_whoseBy 102 = .ok (.iconst 2, 1) := by decide +kernel
theorem dX7_whoseBy_103 : decode cX7_whoseBy 103 = .ok (.iload 9, 2) := by decide +kernel
theorem dX7_whoseBy_105 : decode cX7_whoseBy 105 = .ok (.imul, 1) := by decide +kernel
theorem dX7_whoseBy_106 : decode cX7_whoseBy 106 = .ok (.iaload, 1) := by decide +kernel
theorem dX7_whoseBy_107 : decode cX7_whoseBy 107 = .ok (.iload 7, 2) := by decide +kernel
theorem dX7_whoseBy_109 : decode cX7_whoseBy 109 = .ok (.if_icmp .ne 7, 3) := by decide +kernel
theorem dX7_whoseBy_112 : decode cX7_whoseBy 112 = .ok (.iconst 1, 1) := by decide +kernel
theorem dX7_whoseBy_113 : decode cX7_whoseBy 113 = .ok (.goto 4, 3) := by decide +kernel
theorem dX7_whoseBy_116 : decode cX7_whoseBy 116 = .ok (.iconst 0, 1) := by decide +kernel
theorem dX7_whoseBy_117 : decode cX7_whoseBy 117 = .ok (.iadd, 1) := by decide +kernel
theorem dX7_whoseBy_118 : decode cX7_whoseBy 118 = .ok (.istore 8, 2) := by decide +kernel
theorem dX7_whoseBy_120 : decode cX7_whoseBy 120 = .ok (.iinc 9 1, 3) := by decide +kernel
theorem dX7_whoseBy_123 : decode cX7_whoseBy 123 = .ok (.goto (-36), 3) := by decide +kernel
theorem dX7_whoseBy_126 : decode cX7_whoseBy 126 = .ok (.iload 8, 2) := by decide +kernel
theorem dX7_whoseBy_128 : decode cX7_whoseBy 128 = .ok (.iload 6, 2) := by decide +kernel
theorem dX7_whoseBy_130 : decode cX7_whoseBy 130 = .ok (.if_icmp .le 8, 3) := by decide +kernel
theorem dX7_whoseBy_133 : decode cX7_whoseBy 133 = .ok (.iload 7, 2) := by decide +kernel
theorem dX7_whoseBy_135 : decode cX7_whoseBy 135 = .ok (.goto 5, 3) := by decide +kernel
theorem dX7_whoseBy_138 : decode cX7_whoseBy 138 = .ok (.iload 5, 2) := by decide +kernel
theorem dX7_whoseBy_140 : decode cX7_whoseBy 140 = .ok (.istore 5, 2) := by decide +kernel
theorem dX7_whoseBy_142 : decode cX7_whoseBy 142 = .ok (.iload 8, 2) := by decide +kernel
theorem dX7_whoseBy_144 : decode cX7_whoseBy 144 = .ok (.iload 6, 2) := by decide +kernel
theorem dX7_whoseBy_146 : decode cX7_whoseBy 146 = .ok (.if_icmp .le 8, 3) := by decide +kernel
theorem dX7_whoseBy_149 : decode cX7_whoseBy 149 = .ok (.iload 8, 2) := by decide +kernel
theorem dX7_whoseBy_151 : decode cX7_whoseBy 151 = .ok (.goto 5, 3) := by decide +kernel
theorem dX7_whoseBy_154 : decode cX7_whoseBy 154 = .ok (.iload 6, 2) := by decide +kernel
theorem dX7_whoseBy_156 : decode cX7_whoseBy 156 = .ok (.istore 6, 2) := by decide +kernel
theorem dX7_whoseBy_158 : decode cX7_whoseBy 158 = .ok (.iinc 7 1, 3) := by decide +kernel
theorem dX7_whoseBy_161 : decode cX7_whoseBy 161 = .ok (.goto (-86), 3) := by decide +kernel
theorem dX7_whoseBy_164 : decode cX7_whoseBy 164 = .ok (.iload 5, 2) := by decide +kernel
theorem dX7_whoseBy_166 : decode cX7_whoseBy 166 = .ok (.ireturn, 1) := by decide +kernel
set_option maxHeartbeats 4000000 in
set_option maxRecDepth 100000 in
theorem c_X7_whoseBy {l : Launch} {Y : ww_Y} {ad : Nat → Nat} {G : List ww_L} (o0 : Nat) (h0 : ww_at G o0 (ww_LModel o0)) (σ : ww_M) (p1 : Int32) (p2 : Int32) : ww_Cn l Y ad G yX7_whoseBy cX7_whoseBy 10 (some .int) 1 [.ref (ad o0), .int p1, .int p2] σ ((f_X7_whoseBy σ o0 p1 p2).bind (ww_ri σ)) := by
  refine ww_met (by decide +kernel) (Nat.le_of_ble_eq_true rfl) ?_
  intro X hC hR
  have hC : ww_C X l Y ad G 1 cX7_whoseBy 10 RX7 := hC
  show ww_V X Y ad G 10 σ 0 [(0, .ref (ad o0)), (1, .int p1), (2, .int p2)] [] ((f_X7_whoseBy σ o0 p1 p2).bind (ww_ri σ))
  have hJ164 : ∀ (x5 : Int32), ww_V X Y ad G 10 σ 164 [(5, .int x5)] [] ((f_X7_whoseBy_j164 σ o0 p1 p2 x5).bind (ww_ri σ)) := by
    intro x5
    unfold f_X7_whoseBy_j164
    refine ww_iload (pc := 164) hC 0 rfl dX7_whoseBy_164 ?_
    exact ww_ireturn (pc := 166) hC hR dX7_whoseBy_166 rfl
  have hJ75 : ∀ (x3 : Int32) (x4 : Int32) (x5 : Int32) (x6 : Int32) (x7 : Int32), ww_V X Y ad G 10 σ 75 [(0, .ref (ad o0)), (3, .int x3), (4, .int x4), (5, .int x5), (6, .int x6), (7, .int x7)] [] ((f_X7_whoseBy_j75 σ o0 p1 p2 x3 x4 x5 x6 x7).bind (ww_ri σ)) := by
    intro x3 x4 x5 x6 x7
    unfold f_X7_whoseBy_j75
    refine ww_assoc ?_
    refine ww_loop (f := f_X7_whoseBy_b75 σ o0 p1 p2 x3 x4) (fun a75 => σ) (fun a75 => [(0, .ref (ad o0)), (3, .int x3), (4, .int x4), (5, .int a75.1), (6, .int a75.2.1), (7, .int a75.2.2)]) (fun b75 => σ) (fun b75 => [(5, .int b75)]) 164 (fun b75 => ?_) (fun a75 KK75 hc75 hx75 => ?_) ww_F (x5, x6, x7)
    · exact hJ164 b75
    · unfold f_X7_whoseBy_b75
      have hJ140 : ∀ (x6 : Int32) (x7 : Int32) (x8 : Int32) (s0 : Int32), ww_V X Y ad G 10 σ 140 [(0, .ref (ad o0)), (3, .int x3), (4, .int x4), (6, .int x6), (7, .int x7), (8, .int x8)] [.int s0] ((f_X7_whoseBy_j140 σ o0 p1 p2 x3 x4 x6 x7 x8 s0).bind KK75) := by
        intro x6 x7 x8 s0
        unfold f_X7_whoseBy_j140
        refine ww_istore (pc := 140) (lv' := [(5, .int s0), (0, .ref (ad o0)), (3, .int x3), (4, .int x4), (6, .int x6), (7, .int x7), (8, .int x8)]) hC dX7_whoseBy_140 (by decide) rfl ?_
        refine ww_iload (pc := 142) hC 6 rfl dX7_whoseBy_142 ?_
        refine ww_iload (pc := 144) hC 4 rfl dX7_whoseBy_144 ?_
        refine ww_icmp_le (pc := 146) (tgt := 154) hC dX7_whoseBy_146 (by decide) ?_ ?_
        · refine ww_iload (pc := 154) hC 4 rfl dX7_whoseBy_154 ?_
          refine ww_istore (pc := 156) (lv' := [(6, .int x6), (5, .int s0), (0, .ref (ad o0)), (3, .int x3), (4, .int x4), (7, .int x7), (8, .int x8)]) hC dX7_whoseBy_156 (by decide) rfl ?_
          refine ww_iinc (pc := 158) (v := x7 + 1) (lv' := [(7, .int (x7 + 1)), (6, .int x6), (5, .int s0), (0, .ref (ad o0)), (3, .int x3), (4, .int x4), (8, .int x8)]) hC 5 rfl dX7_whoseBy_158 rfl (by decide) rfl ?_
          refine ww_goto (pc := 161) (tgt := 75) hC dX7_whoseBy_161 (by decide) ?_
          refine ww_lv [3, 4, 5, 2, 1, 0] rfl ?_
          exact hc75 (s0, x6, x7 + 1)
        · refine ww_iload (pc := 149) hC 6 rfl dX7_whoseBy_149 ?_
          refine ww_goto (pc := 151) (tgt := 156) hC dX7_whoseBy_151 (by decide) ?_
          refine ww_istore (pc := 156) (lv' := [(6, .int x8), (5, .int s0), (0, .ref (ad o0)), (3, .int x3), (4, .int x4), (7, .int x7), (8, .int x8)]) hC dX7_whoseBy_156 (by decide) rfl ?_
          refine ww_iinc (pc := 158) (v := x7 + 1) (lv' := [(7, .int (x7 + 1)), (6, .int x8), (5, .int s0), (0, .ref (ad o0)), (3, .int x3), (4, .int x4), (8, .int x8)]) hC 5 rfl dX7_whoseBy_158 rfl (by decide) rfl ?_
          refine ww_goto (pc := 161) (tgt := 75) hC dX7_whoseBy_161 (by decide) ?_
          refine ww_lv [3, 4, 5, 2, 1, 0] rfl ?_
          exact hc75 (s0, x8, x7 + 1)
      have hJ126 : ∀ (x5 : Int32) (x6 : Int32) (x7 : Int32) (x8 : Int32), ww_V X Y ad G 10 σ 126 [(0, .ref (ad o0)), (3, .int x3), (4, .int x4), (5, .int x5), (6, .int x6), (7, .int x7), (8, .int x8)] [] ((f_X7_whoseBy_j126 σ o0 p1 p2 x3 x4 x5 x6 x7 x8).bind KK75) := by
        intro x5 x6 x7 x8
        unfold f_X7_whoseBy_j126
        refine ww_iload (pc := 126) hC 6 rfl dX7_whoseBy_126 ?_
        refine ww_iload (pc := 128) hC 4 rfl dX7_whoseBy_128 ?_
        refine ww_icmp_le (pc := 130) (tgt := 138) hC dX7_whoseBy_130 (by decide) ?_ ?_
        · refine ww_iload (pc := 138) hC 3 rfl dX7_whoseBy_138 ?_
          refine ww_lv [0, 1, 2, 4, 5, 6] rfl ?_
          exact hJ140 x6 x7 x8 x5
        · refine ww_iload (pc := 133) hC 5 rfl dX7_whoseBy_133 ?_
          refine ww_goto (pc := 135) (tgt := 140) hC dX7_whoseBy_135 (by decide) ?_
          refine ww_lv [0, 1, 2, 4, 5, 6] rfl ?_
          exact hJ140 x6 x7 x8 x7
      have hJ87 : ∀ (x5 : Int32) (x6 : Int32) (x7 : Int32) (x8 : Int32) (x9 : Int32), ww_V X Y ad G 10 σ 87 [(0, .ref (ad o0)), (3, .int x3), (4, .int x4), (5, .int x5), (6, .int x6), (7, .int x7), (8, .int x8), (9, .int x9)] [] ((f_X7_whoseBy_j87 σ o0 p1 p2 x3 x4 x5 x6 x7 x8 x9).bind KK75) := by
        intro x5 x6 x7 x8 x9
        unfold f_X7_whoseBy_j87
        refine ww_assoc ?_
        refine ww_loop (f := f_X7_whoseBy_b87 σ o0 p1 p2 x3 x4 x5 x6 x7) (fun a87 => σ) (fun a87 => [(0, .ref (ad o0)), (3, .int x3), (4, .int x4), (5, .int x5), (6, .int x6), (7, .int x7), (8, .int a87.1), (9, .int a87.2)]) (fun b87 => σ) (fun b87 => [(0, .ref (ad o0)), (3, .int x3), (4, .int x4), (5, .int x5), (6, .int x6), (7, .int x7), (8, .int b87)]) 126 (fun b87 => ?_) (fun a87 KK87 hc87 hx87 => ?_) ww_F (x8, x9)
        · exact hJ126 x5 x6 x7 b87
        · unfold f_X7_whoseBy_b87
          refine ww_iload (pc := 87) hC 7 rfl dX7_whoseBy_87 ?_
          refine ww_iload_n (pc := 89) hC 1 rfl dX7_whoseBy_89 rfl ?_
          refine ww_iload (pc := 90) hC 2 rfl dX7_whoseBy_90 ?_
          refine ww_iadd (pc := 92) hC dX7_whoseBy_92 ?_
          refine ww_icmp_ge (pc := 93) (tgt := 126) hC dX7_whoseBy_93 (by decide) ?_ ?_
          · refine ww_lv [0, 1, 2, 3, 4, 5, 6] rfl ?_
            exact hx87 a87.1
          · refine ww_iload (pc := 96) hC 6 rfl dX7_whoseBy_96 ?_
            refine ww_aload_n (pc := 98) hC 0 rfl dX7_whoseBy_98 rfl ?_
            refine ww_getr (pc := 99) (Cl := RX7) (T := TX7) (N := 36) (j := 0) (ref := RX7) hC (h0 0 _ rfl) rfl inT_X7 (by decide) mw_876 rfl rfl dX7_whoseBy_99 ?_
            refine ww_iconst (pc := 102) (v := 2) hC dX7_whoseBy_102 rfl ?_
            refine ww_iload (pc := 103) hC 7 rfl dX7_whoseBy_103 ?_
            refine ww_imul (pc := 105) hC dX7_whoseBy_105 ?_
            refine ww_iald (pc := 106) hC (h0 1 _ rfl) dX7_whoseBy_106 ?_
            refine ww_iload (pc := 107) hC 5 rfl dX7_whoseBy_107 ?_
            refine ww_icmp_ne (pc := 109) (tgt := 116) hC dX7_whoseBy_109 (by decide) ?_ ?_
            · refine ww_iconst (pc := 116) (v := 0) hC dX7_whoseBy_116 rfl ?_
              refine ww_iadd (pc := 117) hC dX7_whoseBy_117 ?_
              refine ww_istore (pc := 118) (lv' := [(8, .int (a87.1 + 0)), (0, .ref (ad o0)), (3, .int x3), (4, .int x4), (5, .int x5), (6, .int x6), (7, .int x7), (9, .int a87.2)]) hC dX7_whoseBy_118 (by decide) rfl ?_
              refine ww_iinc (pc := 120) (v := a87.2 + 1) (lv' := [(9, .int (a87.2 + 1)), (8, .int (a87.1 + 0)), (0, .ref (ad o0)), (3, .int x3), (4, .int x4), (5, .int x5), (6, .int x6), (7, .int x7)]) hC 7 rfl dX7_whoseBy_120 rfl (by decide) rfl ?_
              refine ww_goto (pc := 123) (tgt := 87) hC dX7_whoseBy_123 (by decide) ?_
              refine ww_lv [2, 3, 4, 5, 6, 7, 1, 0] rfl ?_
              exact hc87 (a87.1 + 0, a87.2 + 1)
            · refine ww_iconst (pc := 112) (v := 1) hC dX7_whoseBy_112 rfl ?_
              refine ww_goto (pc := 113) (tgt := 117) hC dX7_whoseBy_113 (by decide) ?_
              refine ww_iadd (pc := 117) hC dX7_whoseBy_117 ?_
              refine ww_istore (pc := 118) (lv' := [(8, .int (a87.1 + 1)), (0, .ref (ad o0)), (3, .int x3), (4, .int x4), (5, .int x5), (6, .int x6), (7, .int x7), (9, .int a87.2)]) hC dX7_whoseBy_118 (by decide) rfl ?_
              refine ww_iinc (pc := 120) (v := a87.2 + 1) (lv' := [(9, .int (a87.2 + 1)), (8, .int (a87.1 + 1)), (0, .ref (ad o0)), (3, .int x3), (4, .int x4), (5, .int x5), (6, .int x6), (7, .int x7)]) hC 7 rfl dX7_whoseBy_120 rfl (by decide) rfl ?_
              refine ww_goto (pc := 123) (tgt := 87) hC dX7_whoseBy_123 (by decide) ?_
              refine ww_lv [2, 3, 4, 5, 6, 7, 1, 0] rfl ?_
              exact hc87 (a87.1 + 1, a87.2 + 1)
      refine ww_iload (pc := 75) hC 5 rfl dX7_whoseBy_75 ?_
      refine ww_iconst (pc := 77) (v := 4) hC dX7_whoseBy_77 rfl ?_
      refine ww_icmp_ge (pc := 78) (tgt := 164) hC dX7_whoseBy_78 (by decide) ?_ ?_
      · refine ww_lv [3] rfl ?_
        exact hx75 a75.1
      · refine ww_iconst (pc := 81) (v := 0) hC dX7_whoseBy_81 rfl ?_
        refine ww_istore (pc := 82) (lv' := [(8, .int 0), (0, .ref (ad o0)), (3, .int x3), (4, .int x4), (5, .int a75.1), (6, .int a75.2.1), (7, .int a75.2.2)]) hC dX7_whoseBy_82 (by decide) rfl ?_
        refine ww_iload_n (pc := 84) hC 2 rfl dX7_whoseBy_84 rfl ?_
        refine ww_istore (pc := 85) (lv' := [(9, .int x3), (8, .int 0), (0, .ref (ad o0)), (3, .int x3), (4, .int x4), (5, .int a75.1), (6, .int a75.2.1), (7, .int a75.2.2)]) hC dX7_whoseBy_85 (by decide) rfl ?_
        refine ww_lv [2, 3, 4, 5, 6, 7, 1, 0] rfl ?_
        exact hJ87 a75.1 a75.2.1 a75.2.2 0 x3
  unfold f_X7_whoseBy
  refine ww_aload_n (pc := 0) hC 0 rfl dX7_whoseBy_0 rfl ?_
  refine ww_getr (pc := 1) (Cl := RX7) (T := TX7) (N := 36) (j := 4) (ref := RX7) hC (h0 0 _ rfl) rfl inT_X7 (by decide) mw_880 rfl rfl dX7_whoseBy_1 ?_
  refine ww_iconst (pc := 4) (v := 2) hC dX7_whoseBy_4 rfl ?_
  refine ww_iload_n (pc := 5) hC 1 rfl dX7_whoseBy_5 rfl ?_
  refine ww_bipush (pc := 6) (v := 10) hC dX7_whoseBy_6 rfl ?_
  refine ww_idiv_c (pc := 8) hC dX7_whoseBy_8 (by decide) ?_
  refine ww_imul (pc := 9) hC dX7_whoseBy_9 ?_
  refine ww_iald (pc := 10) hC (h0 3 _ rfl) dX7_whoseBy_10 ?_
  refine ww_istore_n (pc := 11) (lv' := [(3, .int (σ (o0 + 3) (ww_ix (2 * (p1 / 10))))), (0, .ref (ad o0)), (1, .int p1), (2, .int p2)]) hC dX7_whoseBy_11 rfl (by decide) rfl ?_
  refine ww_aload_n (pc := 12) hC 1 rfl dX7_whoseBy_12 rfl ?_
  refine ww_getr (pc := 13) (Cl := RX7) (T := TX7) (N := 36) (j := 4) (ref := RX7) hC (h0 0 _ rfl) rfl inT_X7 (by decide) mw_880 rfl rfl dX7_whoseBy_13 ?_
  refine ww_iconst (pc := 16) (v := 2) hC dX7_whoseBy_16 rfl ?_
  refine ww_iload_n (pc := 17) hC 2 rfl dX7_whoseBy_17 rfl ?_
  refine ww_bipush (pc := 18) (v := 10) hC dX7_whoseBy_18 rfl ?_
  refine ww_idiv_c (pc := 20) hC dX7_whoseBy_20 (by decide) ?_
  refine ww_imul (pc := 21) hC dX7_whoseBy_21 ?_
  refine ww_iconst (pc := 22) (v := 1) hC dX7_whoseBy_22 rfl ?_
  refine ww_iadd (pc := 23) hC dX7_whoseBy_23 ?_
  refine ww_iald (pc := 24) hC (h0 3 _ rfl) dX7_whoseBy_24 ?_
  refine ww_istore (pc := 25) (lv' := [(4, .int (σ (o0 + 3) (ww_ix ((2 * (p1 / 10)) + 1)))), (3, .int (σ (o0 + 3) (ww_ix (2 * (p1 / 10))))), (0, .ref (ad o0)), (1, .int p1), (2, .int p2)]) hC dX7_whoseBy_25 (by decide) rfl ?_
  refine ww_iload_n (pc := 27) hC 4 rfl dX7_whoseBy_27 rfl ?_
  refine ww_iconst (pc := 28) (v := 3) hC dX7_whoseBy_28 rfl ?_
  refine ww_icmp_ge (pc := 29) (tgt := 66) hC dX7_whoseBy_29 (by decide) ?_ ?_
  · refine ww_iconst (pc := 66) (v := 0) hC dX7_whoseBy_66 rfl ?_
    refine ww_istore (pc := 67) (lv' := [(5, .int 0), (4, .int (σ (o0 + 3) (ww_ix ((2 * (p1 / 10)) + 1)))), (3, .int (σ (o0 + 3) (ww_ix (2 * (p1 / 10))))), (0, .ref (ad o0)), (1, .int p1), (2, .int p2)]) hC dX7_whoseBy_67 (by decide) rfl ?_
    refine ww_iconst (pc := 69) (v := 0) hC dX7_whoseBy_69 rfl ?_
    refine ww_istore (pc := 70) (lv' := [(6, .int 0), (5, .int 0), (4, .int (σ (o0 + 3) (ww_ix ((2 * (p1 / 10)) + 1)))), (3, .int (σ (o0 + 3) (ww_ix (2 * (p1 / 10))))), (0, .ref (ad o0)), (1, .int p1), (2, .int p2)]) hC dX7_whoseBy_70 (by decide) rfl ?_
    refine ww_iconst (pc := 72) (v := 0) hC dX7_whoseBy_72 rfl ?_
    refine ww_istore (pc := 73) (lv' := [(7, .int 0), (6, .int 0), (5, .int 0), (4, .int (σ (o0 + 3) (ww_ix ((2 * (p1 / 10)) + 1)))), (3, .int (σ (o0 + 3) (ww_ix (2 * (p1 / 10))))), (0, .ref (ad o0)), (1, .int p1), (2, .int p2)]) hC dX7_whoseBy_73 (by decide) rfl ?_
    refine ww_lv [5, 4, 3, 2, 1, 0] rfl ?_
    exact hJ75 (σ (o0 + 3) (ww_ix (2 * (p1 / 10)))) (σ (o0 + 3) (ww_ix ((2 * (p1 / 10)) + 1))) 0 0 0
  · refine ww_aload_n (pc := 32) hC 2 rfl dX7_whoseBy_32 rfl ?_
    refine ww_getr (pc := 33) (Cl := RX7) (T := TX7) (N := 36) (j := 0) (ref := RX7) hC (h0 0 _ rfl) rfl inT_X7 (by decide) mw_876 rfl rfl dX7_whoseBy_33 ?_
    refine ww_iconst (pc := 36) (v := 2) hC dX7_whoseBy_36 rfl ?_
    refine ww_iload_n (pc := 37) hC 1 rfl dX7_whoseBy_37 rfl ?_
    refine ww_iload_n (pc := 38) hC 4 rfl dX7_whoseBy_38 rfl ?_
    refine ww_if_ne (pc := 39) (tgt := 46) hC dX7_whoseBy_39 (by decide) ?_ ?_
    · refine ww_iload_n (pc := 46) hC 4 rfl dX7_whoseBy_46 rfl ?_
      refine ww_iconst (pc := 47) (v := 1) hC dX7_whoseBy_47 rfl ?_
      refine ww_icmp_ne (pc := 48) (tgt := 58) hC dX7_whoseBy_48 (by decide) ?_ ?_
      · refine ww_iload_n (pc := 58) hC 3 rfl dX7_whoseBy_58 rfl ?_
        refine ww_bipush (pc := 59) (v := 10) hC dX7_whoseBy_59 rfl ?_
        refine ww_irem_c (pc := 61) hC dX7_whoseBy_61 (by decide) ?_
        refine ww_iadd (pc := 62) hC dX7_whoseBy_62 ?_
        refine ww_imul (pc := 63) hC dX7_whoseBy_63 ?_
        refine ww_iald (pc := 64) hC (h0 1 _ rfl) dX7_whoseBy_64 ?_
        exact ww_ireturn (pc := 65) hC hR dX7_whoseBy_65 rfl
      · refine ww_iload (pc := 51) hC 0 rfl dX7_whoseBy_51 ?_
        refine ww_iconst (pc := 53) (v := 1) hC dX7_whoseBy_53 rfl ?_
        refine ww_isub (pc := 54) hC dX7_whoseBy_54 ?_
        refine ww_goto (pc := 55) (tgt := 62) hC dX7_whoseBy_55 (by decide) ?_
        refine ww_iadd (pc := 62) hC dX7_whoseBy_62 ?_
        refine ww_imul (pc := 63) hC dX7_whoseBy_63 ?_
        refine ww_iald (pc := 64) hC (h0 1 _ rfl) dX7_whoseBy_64 ?_
        exact ww_ireturn (pc := 65) hC hR dX7_whoseBy_65 rfl
    · refine ww_iconst (pc := 42) (v := 0) hC dX7_whoseBy_42 rfl ?_
      refine ww_goto (pc := 43) (tgt := 62) hC dX7_whoseBy_43 (by decide) ?_
      refine ww_iadd (pc := 62) hC dX7_whoseBy_62 ?_
      refine ww_imul (pc := 63) hC dX7_whoseBy_63 ?_
      refine ww_iald (pc := 64) hC (h0 1 _ rfl) dX7_whoseBy_64 ?_
      exact ww_ireturn (pc := 65) hC hR dX7_whoseBy_65 rfl
