theorem dX7_part_0 : decode cX7_part 0 = .ok (.aload_n 0, 1) := by decide +kernel
theorem dX7_part_1 : decode cX7_part 1 = .ok (.iload_n 1, 1) := by decide +kernel
theorem dX7_part_2 : decode cX7_part 2 = .ok (.invokevirtual 191, 3) := by decide +kernel
theorem dX7_part_5 : decode cX7_part 5 = .ok (.ifCond .eq 15, 3) := by decide +kernel
theorem dX7_part_8 : decode cX7_part 8 = .ok (.iload_n 2, 1) := by decide +kernel
theorem dX7_part_9 : decode cX7_part 9 = .ok (.i2l, 1) := by decide +kernel
theorem dX7_part_10 : decode cX7_part 10 = .ok (.lconst 0, 1) := by decide +kernel
theorem dX7_part_11 : decode cX7_part 11 = .ok (.ldc2_w 126, 3) := by decide +kernel
theorem dX7_part_14 : decode cX7_part 14 = .ok (.invokestatic 68, 3) := by decide +kernel
theorem dX7_part_17 : decode cX7_part 17 = .ok (.ifCond .ne 5, 3) := by decide +kernel
theorem dX7_part_20 : decode cX7_part 20 = .ok (.iconst (-1), 1) := by decide +kernel
theorem dX7_part_21 : decode cX7_part 21 = .ok (.ireturn, 1) := by decide +kernel
theorem dX7_part_22 : decode cX7_part 22 = .ok (.iload_n 2, 1) := by decide +kernel
theorem dX7_part_23 : decode cX7_part 23 = .ok (.iconst 3, 1) := by decide +kernel
theorem dX7_part_24 : decode cX7_part 24 = .ok (.if_icmp .ge 15, 3) := by decide +kernel
theorem dX7_part_27 : decode cX7_part 27 = .ok (.aload_n 0, 1) := by decide +kernel
theorem dX7_part_28 : decode cX7_part 28 = .ok (.getfield 7, 3) := by decide +kernel
theorem dX7_part_31 : decode cX7_part 31 = .ok (.iload_n 1, 1) := by decide +kernel
theorem dX7_part_32 : decode cX7_part 32 = .ok (.invokestatic 188, 3) := by decide +kernel
theorem dX7_part_35 : decode cX7_part 35 = .ok (.iload_n 2, 1) := by decide +kernel
theorem dX7_part_36 : decode cX7_part 36 = .ok (.iadd, 1) := by decide +kernel
theorem dX7_part_37 : decode cX7_part 37 = .ok (.iaload, 1) := by decide +kernel
theorem dX7_part_38 : decode cX7_part 38 = .ok (.ireturn, 1) := by decide +kernel
theorem dX7_part_39 : decode cX7_part 39 = .ok (.iload_n 2, 1) := by decide +kernel
theorem dX7_part_40 : decode cX7_part 40 = .ok (.iconst 3, 1) := by decide +kernel
theorem dX7_part_41 : decode cX7_part 41 = .ok (.if_icmp .ne 22, 3) := by decide +kernel
theorem dX7_part_44 : decode cX7_part 44 = .ok (.aload_n 0, 1) := by decide +kernel
theorem dX7_part_45 : decode cX7_part 45 = .ok (.iload_n 1, 1) := by decide +kernel
theorem dX7_part_46 : decode cX7_part 46 = .ok (.aload_n 0, 1) := by decide +kernel
theorem dX7_part_47 : decode cX7_part 47 = .ok (.getfield 7, 3) := by decide +kernel
theorem dX7_part_50 : decode cX7_part 50 = .ok (.bipush 45, 2) := by decide +kernel
theorem dX7_part_52 : decode cX7_part 52 = .ok (.iaload, 1) := by decide +kernel
theorem dX7_part_53 : decode cX7_part 53 = .ok (.aload_n 0, 1) := by decide +kernel
theorem dX7_part_54 : decode cX7_part 54 = .ok (.invokevirtual 172, 3) := by decide +kernel
theorem dX7_part_57 : decode cX7_part 57 = .ok (.invokevirtual 194, 3) := by decide +kernel
theorem dX7_part_60 : decode cX7_part 60 = .ok (.goto 36, 3) := by decide +kernel
theorem dX7_part_63 : decode cX7_part 63 = .ok (.iload_n 2, 1) := by decide +kernel
theorem dX7_part_64 : decode cX7_part 64 = .ok (.iconst 4, 1) := by decide +kernel
theorem dX7_part_65 : decode cX7_part 65 = .ok (.if_icmp .ne 19, 3) := by decide +kernel
theorem dX7_part_68 : decode cX7_part 68 = .ok (.aload_n 0, 1) := by decide +kernel
theorem dX7_part_69 : decode cX7_part 69 = .ok (.iload_n 1, 1) := by decide +kernel
theorem dX7_part_70 : decode cX7_part 70 = .ok (.invokevirtual 198, 3) := by decide +kernel
theorem dX7_part_73 : decode cX7_part 73 = .ok (.ifCond .eq 7, 3) := by decide +kernel
theorem dX7_part_76 : decode cX7_part 76 = .ok (.iconst 1, 1) := by decide +kernel
theorem dX7_part_77 : decode cX7_part 77 = .ok (.goto 19, 3) := by decide +kernel
theorem dX7_part_80 : decode cX7_part 80 = .ok (.iconst 0, 1) := by decide +kernel
theorem dX7_part_81 : decode cX7_part 81 = .ok (.goto 15, 3) := by decide +kernel
theorem dX7_part_84 : decode cX7_part 84 = .ok (.aload_n 0, 1) := by decide +kernel
theorem dX7_part_85 : decode cX7_part 85 = .ok (.iload_n 1, 1) := by decide +kernel
theorem dX7_part_86 : decode cX7_part 86 = .ok (.aload_n 0, 1) := by decide +kernel
theorem dX7_part_87 : decode cX7_part 87 = .ok (.getfield 7, 3) := by decide +kernel
theorem dX7_part_90 : decode cX7_part 90 = .ok (.bipush 12, 2) := by decide +kernel
theorem dX7_part_92 : decode cX7_part 92 = .ok (.iaload, 1) := by decide +kernel
theorem dX7_part_93 : decode cX7_part 93 = .ok (.invokevirtual 201, 3) := by decide +kernel
theorem dX7_part_96 : decode cX7_part 96 = .ok (.ireturn, 1) := by decide +kernel
set_option maxHeartbeats 4000000 in
set_option maxRecDepth 100000 in
theorem c_X7_part {l : Launch} {Y : ww_Y} {ad : Nat → Nat} {G : List ww_L} (o0 : Nat) (h0 : ww_at G o0 (ww_LModel o0)) (σ : ww_M) (p1 : Int32) (p2 : Int32) : ww_Cn l Y ad G yX7_part cX7_part 3 (some .int) 4 [.ref (ad o0), .int p1, .int p2] σ ((f_X7_part σ o0 p1 p2).bind (ww_ri σ)) := by
  refine ww_met (by decide +kernel) (Nat.le_of_ble_eq_true rfl) ?_
  intro X hC hR
  have hC : ww_C X l Y ad G 4 cX7_part 3 RX7 := hC
  show ww_V X Y ad G 3 σ 0 [(0, .ref (ad o0)), (1, .int p1), (2, .int p2)] [] ((f_X7_part σ o0 p1 p2).bind (ww_ri σ))
  unfold f_X7_part
  refine ww_aload_n (pc := 0) hC 0 rfl dX7_part_0 rfl ?_
  refine ww_iload_n (pc := 1) hC 1 rfl dX7_part_1 rfl ?_
  refine ww_callVi (pc := 2) (st := []) (As := [.int p1]) hC (c_X7_isPart o0 h0 σ p1) mm_X7_isPart mw_1098 (h0 0 _ rfl) rfl (by omega) (by decide) (Nat.le_of_ble_eq_true rfl) rfl dX7_part_2 (fun v2 => ?_)
  refine ww_if_eq (pc := 5) (tgt := 20) hC dX7_part_5 (by decide) ?_ ?_
  · refine ww_iconst (pc := 20) (v := (-1)) hC dX7_part_20 rfl ?_
    exact ww_ireturn (pc := 21) hC hR dX7_part_21 rfl
  · refine ww_iload_n (pc := 8) hC 2 rfl dX7_part_8 rfl ?_
    refine ww_i2l (pc := 9) hC dX7_part_9 ?_
    refine ww_lconst (pc := 10) (v := 0) hC dX7_part_10 rfl ?_
    refine ww_ldc2 (pc := 11) hC dX7_part_11 mw_1026 ?_
    refine ww_callSi (pc := 14) (st := []) (As := [.long p2.toInt64, .long 0, .long 5]) hC (c_X7_in σ p2.toInt64 0 5) mm_X7_in mw_991 (by omega) (by decide) (Nat.le_of_ble_eq_true rfl) rfl dX7_part_14 (fun v14 => ?_)
    refine ww_if_ne (pc := 17) (tgt := 22) hC dX7_part_17 (by decide) ?_ ?_
    · refine ww_iload_n (pc := 22) hC 2 rfl dX7_part_22 rfl ?_
      refine ww_iconst (pc := 23) (v := 3) hC dX7_part_23 rfl ?_
      refine ww_icmp_ge (pc := 24) (tgt := 39) hC dX7_part_24 (by decide) ?_ ?_
      · refine ww_iload_n (pc := 39) hC 2 rfl dX7_part_39 rfl ?_
        refine ww_iconst (pc := 40) (v := 3) hC dX7_part_40 rfl ?_
        refine ww_icmp_ne (pc := 41) (tgt := 63) hC dX7_part_41 (by decide) ?_ ?_
        · refine ww_iload_n (pc := 63) hC 2 rfl dX7_part_63 rfl ?_
          refine ww_iconst (pc := 64) (v := 4) hC dX7_part_64 rfl ?_
          refine ww_icmp_ne (pc := 65) (tgt := 84) hC dX7_part_65 (by decide) ?_ ?_
          · refine ww_aload_n (pc := 84) hC 0 rfl dX7_part_84 rfl ?_
            refine ww_iload_n (pc := 85) hC 1 rfl dX7_part_85 rfl ?_
            refine ww_aload_n (pc := 86) hC 0 rfl dX7_part_86 rfl ?_
            refine ww_getr (pc := 87) (Cl := RX7) (T := TX7) (N := 36) (j := 0) (ref := RX7) hC (h0 0 _ rfl) rfl inT_X7 (by decide) mw_876 rfl rfl dX7_part_87 ?_
            refine ww_bipush (pc := 90) (v := 12) hC dX7_part_90 rfl ?_
            refine ww_iald_c (pc := 92) (j := 12) hC (h0 1 _ rfl) (by decide) rfl dX7_part_92 ?_
            refine ww_callVi (pc := 93) (st := []) (As := [.int p1, .int (σ (o0 + 1) 12)]) hC (c_X7_whoseBy o0 h0 σ p1 (σ (o0 + 1) 12)) mm_X7_whoseBy mw_1113 (h0 0 _ rfl) rfl (by omega) (by decide) (Nat.le_of_ble_eq_true rfl) rfl dX7_part_93 (fun v93 => ?_)
            exact ww_ireturn (pc := 96) hC hR dX7_part_96 rfl
          · refine ww_aload_n (pc := 68) hC 0 rfl dX7_part_68 rfl ?_
            refine ww_iload_n (pc := 69) hC 1 rfl dX7_part_69 rfl ?_
            refine ww_callVi (pc := 70) (st := []) (As := [.int p1]) hC (c_X7_canBeWorked o0 h0 σ p1) mm_X7_canBeWorked mw_1109 (h0 0 _ rfl) rfl (by omega) (by decide) (Nat.le_of_ble_eq_true rfl) rfl dX7_part_70 (fun v70 => ?_)
            refine ww_if_eq (pc := 73) (tgt := 80) hC dX7_part_73 (by decide) ?_ ?_
            · refine ww_iconst (pc := 80) (v := 0) hC dX7_part_80 rfl ?_
              refine ww_goto (pc := 81) (tgt := 96) hC dX7_part_81 (by decide) ?_
              exact ww_ireturn (pc := 96) hC hR dX7_part_96 rfl
            · refine ww_iconst (pc := 76) (v := 1) hC dX7_part_76 rfl ?_
              refine ww_goto (pc := 77) (tgt := 96) hC dX7_part_77 (by decide) ?_
              exact ww_ireturn (pc := 96) hC hR dX7_part_96 rfl
        · refine ww_aload_n (pc := 44) hC 0 rfl dX7_part_44 rfl ?_
          refine ww_iload_n (pc := 45) hC 1 rfl dX7_part_45 rfl ?_
          refine ww_aload_n (pc := 46) hC 0 rfl dX7_part_46 rfl ?_
          refine ww_getr (pc := 47) (Cl := RX7) (T := TX7) (N := 36) (j := 0) (ref := RX7) hC (h0 0 _ rfl) rfl inT_X7 (by decide) mw_876 rfl rfl dX7_part_47 ?_
          refine ww_bipush (pc := 50) (v := 45) hC dX7_part_50 rfl ?_
          refine ww_iald_c (pc := 52) (j := 45) hC (h0 1 _ rfl) (by decide) rfl dX7_part_52 ?_
          refine ww_aload_n (pc := 53) hC 0 rfl dX7_part_53 rfl ?_
          refine ww_callVi (pc := 54) (st := [.int (σ (o0 + 1) 45), .int p1, .ref (ad o0)]) (As := []) hC (c_X7_rotNow o0 h0 σ) mm_X7_rotNow mw_1069 (h0 0 _ rfl) rfl (by omega) (by decide) (Nat.le_of_ble_eq_true rfl) rfl dX7_part_54 (fun v54 => ?_)
          refine ww_callVi (pc := 57) (st := []) (As := [.int p1, .int (σ (o0 + 1) 45), .int v54]) hC (c_X7_worthIn o0 h0 σ p1 (σ (o0 + 1) 45) v54) mm_X7_worthIn mw_1105 (h0 0 _ rfl) rfl (by omega) (by decide) (Nat.le_of_ble_eq_true rfl) rfl dX7_part_57 (fun v57 => ?_)
          refine ww_goto (pc := 60) (tgt := 96) hC dX7_part_60 (by decide) ?_
          exact ww_ireturn (pc := 96) hC hR dX7_part_96 rfl
      · refine ww_aload_n (pc := 27) hC 0 rfl dX7_part_27 rfl ?_
        refine ww_getr (pc := 28) (Cl := RX7) (T := TX7) (N := 36) (j := 0) (ref := RX7) hC (h0 0 _ rfl) rfl inT_X7 (by decide) mw_876 rfl rfl dX7_part_28 ?_
        refine ww_iload_n (pc := 31) hC 1 rfl dX7_part_31 rfl ?_
        refine ww_callSi (pc := 32) (st := [.ref (ad (o0 + 1))]) (As := [.int p1]) hC (c_X7_partAt σ p1) mm_X7_partAt mw_1102 (by omega) (by decide) (Nat.le_of_ble_eq_true rfl) rfl dX7_part_32 (fun v32 => ?_)
        refine ww_iload_n (pc := 35) hC 2 rfl dX7_part_35 rfl ?_
        refine ww_iadd (pc := 36) hC dX7_part_36 ?_
        refine ww_iald (pc := 37) hC (h0 1 _ rfl) dX7_part_37 ?_
        exact ww_ireturn (pc := 38) hC hR dX7_part_38 rfl
    · refine ww_iconst (pc := 20) (v := (-1)) hC dX7_part_20 rfl ?_
      exact ww_ireturn (pc := 21) hC hR dX7_part_21 rfl
theorem dX7_sets_0 : decode cX7_sets 0 = .ok (.iload_n 1, 1) := by decide +kernel
theorem dX7_sets_1 : decode cX7_sets 1 = .ok (.ifCond .ne 5, 3) := by decide +kernel
theorem dX7_sets_4 : decode cX7_sets 4 = .ok (.iconst (-1), 1) := by decide +kernel
theorem dX7_sets_5 : decode cX7_sets 5 = .ok (.ireturn, 1) := by decide +kernel
theorem dX7_sets_6 : decode cX7_sets 6 = .ok (.aload_n 0, 1) := by decide +kernel
theorem dX7_sets_7 : decode cX7_sets 7 = .ok (.getfield 7, 3) := by decide +kernel
theorem dX7_sets_10 : decode cX7_sets 10 = .ok (.iload_n 2, 1) := by decide +kernel
theorem dX7_sets_11 : decode cX7_sets 11 = .ok (.iaload, 1) := by decide +kernel
theorem dX7_sets_12 : decode cX7_sets 12 = .ok (.istore 4, 2) := by decide +kernel
theorem dX7_sets_14 : decode cX7_sets 14 = .ok (.aload_n 0, 1) := by decide +kernel
theorem dX7_sets_15 : decode cX7_sets 15 = .ok (.getfield 7, 3) := by decide +kernel
theorem dX7_sets_18 : decode cX7_sets 18 = .ok (.iload_n 2, 1) := by decide +kernel
theorem dX7_sets_19 : decode cX7_sets 19 = .ok (.iload_n 3, 1) := by decide +kernel
theorem dX7_sets_20 : decode cX7_sets 20 = .ok (.iastore, 1) := by decide +kernel
theorem dX7_sets_21 : decode cX7_sets 21 = .ok (.iload 4, 2) := by decide +kernel
theorem dX7_sets_23 : decode cX7_sets 23 = .ok (.ireturn, 1) := by decide +kernel
set_option maxHeartbeats 4000000 in
set_option maxRecDepth 100000 in
theorem c_X7_sets {l : Launch} {Y : ww_Y} {ad : Nat → Nat} {G : List ww_L} (o0 : Nat) (h0 : ww_at G o0 (ww_LModel o0)) (σ : ww_M) (p1 : Int32) (p2 : Int32) (p3 : Int32) : ww_Cn l Y ad G yX7_sets cX7_sets 5 (some .int) 1 [.ref (ad o0), .int p1, .int p2, .int p3] σ ((f_X7_sets σ o0 p1 p2 p3).bind ww_rw) := by
  refine ww_met (by decide +kernel) (Nat.le_of_ble_eq_true rfl) ?_
  intro X hC hR
  have hC : ww_C X l Y ad G 1 cX7_sets 5 RX7 := hC
  show ww_V X Y ad G 5 σ 0 [(0, .ref (ad o0)), (1, .int p1), (2, .int p2), (3, .int p3)] [] ((f_X7_sets σ o0 p1 p2 p3).bind ww_rw)
  unfold f_X7_sets
  refine ww_iload_n (pc := 0) hC 1 rfl dX7_sets_0 rfl ?_
  refine ww_if_ne (pc := 1) (tgt := 6) hC dX7_sets_1 (by decide) ?_ ?_
  · refine ww_aload_n (pc := 6) hC 0 rfl dX7_sets_6 rfl ?_
    refine ww_getr (pc := 7) (Cl := RX7) (T := TX7) (N := 36) (j := 0) (ref := RX7) hC (h0 0 _ rfl) rfl inT_X7 (by decide) mw_876 rfl rfl dX7_sets_7 ?_
    refine ww_iload_n (pc := 10) hC 2 rfl dX7_sets_10 rfl ?_
    refine ww_iald (pc := 11) hC (h0 1 _ rfl) dX7_sets_11 ?_
    refine ww_istore (pc := 12) (lv' := [(4, .int (σ (o0 + 1) (ww_ix p2))), (0, .ref (ad o0)), (1, .int p1), (2, .int p2), (3, .int p3)]) hC dX7_sets_12 (by decide) rfl ?_
    refine ww_aload_n (pc := 14) hC 1 rfl dX7_sets_14 rfl ?_
    refine ww_getr (pc := 15) (Cl := RX7) (T := TX7) (N := 36) (j := 0) (ref := RX7) hC (h0 0 _ rfl) rfl inT_X7 (by decide) mw_876 rfl rfl dX7_sets_15 ?_
    refine ww_iload_n (pc := 18) hC 3 rfl dX7_sets_18 rfl ?_
    refine ww_iload_n (pc := 19) hC 4 rfl dX7_sets_19 rfl ?_
    refine ww_iast (pc := 20) hC (h0 1 _ rfl) dX7_sets_20 ?_
    refine ww_iload (pc := 21) hC 0 rfl dX7_sets_21 ?_
    exact ww_ireturn (pc := 23) hC hR dX7_sets_23 rfl
  · refine ww_iconst (pc := 4) (v := (-1)) hC dX7_sets_4 rfl ?_
    exact ww_ireturn (pc := 5) hC hR dX7_sets_5 rfl
theorem dX7_mark_0 : decode cX7_mark 0 = .ok (.aload_n 0, 1) := by decide +kernel
theorem dX7_mark_1 : decode cX7_mark 1 = .ok (.aload_n 0, 1) := by decide +kernel
theorem dX7_mark_2 : decode cX7_mark 2 = .ok (.iload_n 1, 1) := by decide +kernel
theorem dX7_mark_3 : decode cX7_mark 3 = .ok (.invokevirtual 175, 3) := by decide +kernel
theorem dX7_mark_6 : decode cX7_mark 6 = .ok (.ifCond .eq 19, 3) := by decide +kernel
theorem dX7_mark_9 : decode cX7_mark 9 = .ok (.iload_n 2, 1) := by decide +kernel
theorem dX7_mark_10 : decode cX7_mark 10 = .ok (.i2l, 1) := by decide +kernel
theorem dX7_mark_11 : decode cX7_mark 11 = .ok (.lconst 0, 1) := by decide +kernel
theorem dX7_mark_12 : decode cX7_mark 12 = .ok (.ldc2_w 204, 3) := by decide +kernel
theorem dX7_mark_15 : decode cX7_mark 15 = .ok (.invokestatic 68, 3) := by decide +kernel
theorem dX7_mark_18 : decode cX7_mark 18 = .ok (.ifCond .eq 7, 3) := by decide +kernel
theorem dX7_mark_21 : decode cX7_mark 21 = .ok (.iconst 1, 1) := by decide +kernel
theorem dX7_mark_22 : decode cX7_mark 22 = .ok (.goto 4, 3) := by decide +kernel
theorem dX7_mark_25 : decode cX7_mark 25 = .ok (.iconst 0, 1) := by decide +kernel
theorem dX7_mark_26 : decode cX7_mark 26 = .ok (.iconst 2, 1) := by decide +kernel
theorem dX7_mark_27 : decode cX7_mark 27 = .ok (.iload_n 1, 1) := by decide +kernel
theorem dX7_mark_28 : decode cX7_mark 28 = .ok (.imul, 1) := by decide +kernel
theorem dX7_mark_29 : decode cX7_mark 29 = .ok (.iconst 1, 1) := by decide +kernel
theorem dX7_mark_30 : decode cX7_mark 30 = .ok (.iadd, 1) := by decide +kernel
theorem dX7_mark_31 : decode cX7_mark 31 = .ok (.iload_n 2, 1) := by decide +kernel
theorem dX7_mark_32 : decode cX7_mark 32 = .ok (.invokevirtual 206, 3) := by decide +kernel
theorem dX7_mark_35 : decode cX7_mark 35 = .ok (.istore_n 3, 1) := by decide +kernel
theorem dX7_mark_36 : decode cX7_mark 36 = .ok (.aload_n 0, 1) := by decide +kernel
theorem dX7_mark_37 : decode cX7_mark 37 = .ok (.invokevirtual 165, 3) := by decide +kernel
theorem dX7_mark_40 : decode cX7_mark 40 = .ok (.iload_n 3, 1) := by decide +kernel
theorem dX7_mark_41 : decode cX7_mark 41 = .ok (.ireturn, 1) := by decide +kernel
set_option maxHeartbeats 4000000 in
set_option maxRecDepth 100000 in
theorem c_X7_mark {l : Launch} {Y : ww_Y} {ad : Nat → Nat} {G : List ww_L} (o0 : Nat) (h0 : ww_at G o0 (ww_LModel o0)) (σ : ww_M) (p1 : Int32) (p2 : Int32) : ww_Cn l Y ad G yX7_mark cX7_mark 4 (some .int) 4 [.ref (ad o0), .int p1, .int p2] σ ((f_X7_mark σ o0 p1 p2).bind ww_rw) := by
  refine ww_met (by decide +kernel) (Nat.le_of_ble_eq_true rfl) ?_
  intro X hC hR
  have hC : ww_C X l Y ad G 4 cX7_mark 4 RX7 := hC
  show ww_V X Y ad G 4 σ 0 [(0, .ref (ad o0)), (1, .int p1), (2, .int p2)] [] ((f_X7_mark σ o0 p1 p2).bind ww_rw)
  have hJ26 : ∀ (σ : ww_M) (s0 : Int32), ww_V X Y ad G 4 σ 26 [(0, .ref (ad o0)), (1, .int p1), (2, .int p2)] [.int s0, .ref (ad o0)] ((f_X7_mark_j26 σ o0 p1 p2 s0).bind ww_rw) := by
    intro σ s0
    unfold f_X7_mark_j26
    refine ww_iconst (pc := 26) (v := 2) hC dX7_mark_26 rfl ?_
    refine ww_iload_n (pc := 27) hC 1 rfl dX7_mark_27 rfl ?_
    refine ww_imul (pc := 28) hC dX7_mark_28 ?_
    refine ww_iconst (pc := 29) (v := 1) hC dX7_mark_29 rfl ?_
    refine ww_iadd (pc := 30) hC dX7_mark_30 ?_
    refine ww_iload_n (pc := 31) hC 2 rfl dX7_mark_31 rfl ?_
    refine ww_callVw (pc := 32) (st := []) (As := [.int s0, .int ((2 * p1) + 1), .int p2]) hC (c_X7_sets o0 h0 σ s0 ((2 * p1) + 1) p2) mm_X7_sets mw_1122 (h0 0 _ rfl) rfl (by omega) (by decide) (Nat.le_of_ble_eq_true rfl) rfl dX7_mark_32 (fun v32 => ?_)
    refine ww_istore_n (pc := 35) (lv' := [(3, .int v32.1), (0, .ref (ad o0)), (1, .int p1), (2, .int p2)]) hC dX7_mark_35 rfl (by decide) rfl ?_
    refine ww_aload_n (pc := 36) hC 1 rfl dX7_mark_36 rfl ?_
    refine ww_callVv (pc := 37) (st := []) (As := []) hC (c_X7_floatsNow o0 h0 v32.2) mm_X7_floatsNow mw_1049 (h0 0 _ rfl) rfl (by omega) (by decide) (Nat.le_of_ble_eq_true rfl) rfl dX7_mark_37 (fun v37 => ?_)
    refine ww_iload_n (pc := 40) hC 0 rfl dX7_mark_40 rfl ?_
    exact ww_ireturn (pc := 41) hC hR dX7_mark_41 rfl
  have hJ25 : ∀ (σ : ww_M), ww_V X Y ad G 4 σ 25 [(0, .ref (ad o0)), (1, .int p1), (2, .int p2)] [.ref (ad o0)] ((f_X7_mark_j25 σ o0 p1 p2).bind ww_rw) := by
    intro σ
    unfold f_X7_mark_j25
    refine ww_iconst (pc := 25) (v := 0) hC dX7_mark_25 rfl ?_
    exact hJ26 σ 0
  unfold f_X7_mark
  refine ww_aload_n (pc := 0) hC 0 rfl dX7_mark_0 rfl ?_
  refine ww_aload_n (pc := 1) hC 0 rfl dX7_mark_1 rfl ?_
  refine ww_iload_n (pc := 2) hC 1 rfl dX7_mark_2 rfl ?_
  refine ww_callVi (pc := 3) (st := [.ref (ad o0)]) (As := [.int p1]) hC (c_X7_isPlace o0 h0 σ p1) mm_X7_isPlace mw_1077 (h0 0 _ rfl) rfl (by omega) (by decide) (Nat.le_of_ble_eq_true rfl) rfl dX7_mark_3 (fun v3 => ?_)
  refine ww_if_eq (pc := 6) (tgt := 25) hC dX7_mark_6 (by decide) ?_ ?_
  · exact hJ25 σ
  · refine ww_iload_n (pc := 9) hC 2 rfl dX7_mark_9 rfl ?_
    refine ww_i2l (pc := 10) hC dX7_mark_10 ?_
    refine ww_lconst (pc := 11) (v := 0) hC dX7_mark_11 rfl ?_
    refine ww_ldc2 (pc := 12) hC dX7_mark_12 mw_1121 ?_
    refine ww_callSi (pc := 15) (st := [.ref (ad o0)]) (As := [.long p2.toInt64, .long 0, .long 9]) hC (c_X7_in σ p2.toInt64 0 9) mm_X7_in mw_991 (by omega) (by decide) (Nat.le_of_ble_eq_true rfl) rfl dX7_mark_15 (fun v15 => ?_)
    refine ww_if_eq (pc := 18) (tgt := 25) hC dX7_mark_18 (by decide) ?_ ?_
    · exact hJ25 σ
    · refine ww_iconst (pc := 21) (v := 1) hC dX7_mark_21 rfl ?_
      refine ww_goto (pc := 22) (tgt := 26) hC dX7_mark_22 (by decide) ?_
      exact hJ26 σ 1
theorem dX7_own_0 : decode cX7_own 0 = .ok (.aload_n 0, 1) := by decide +kernel
theorem dX7_own_1 : decode cX7_own 1 = .ok (.aload_n 0, 1) := by decide +kernel
theorem dX7_own_2 : decode cX7_own 2 = .ok (.iload_n 1, 1) := by decide +kernel
theorem dX7_own_3 : decode cX7_own 3 = .ok (.invokevirtual 175, 3) := by decide +kernel
theorem dX7_own_6 : decode cX7_own 6 = .ok (.ifCond .eq 19, 3) := by decide +kernel
theorem dX7_own_9 : decode cX7_own 9 = .ok (.iload_n 2, 1) := by decide +kernel
theorem dX7_own_10 : decode cX7_own 10 = .ok (.i2l, 1) := by decide +kernel
theorem dX7_own_11 : decode cX7_own 11 = .ok (.lconst 0, 1) := by decide +kernel
theorem dX7_own_12 : decode cX7_own 12 = .ok (.ldc2_w 210, 3) := by decide +kernel
theorem dX7_own_15 : decode cX7_own 15 = .ok (.invokestatic 68, 3) := by decide +kernel
theorem dX7_own_18 : decode cX7_own 18 = .ok (.ifCond .eq 7, 3) := by decide +kernel
theorem dX7_own_21 : decode cX7_own 21 = .ok (.iconst 1, 1) := by decide +kernel
theorem dX7_own_22 : decode cX7_own 22 = .ok (.goto 4, 3) := by decide +kernel
theorem dX7_own_25 : decode cX7_own 25 = .ok (.iconst 0, 1) := by decide +kernel
theorem dX7_own_26 : decode cX7_own 26 = .ok (.iconst 2, 1) := by decide +kernel
theorem dX7_own_27 : decode cX7_own 27 = .ok (.iload_n 1, 1) := by decide +kernel
theorem dX7_own_28 : decode cX7_own 28 = .ok (.imul, 1) := by decide +kernel
theorem dX7_own_29 : decode cX7_own 29 = .ok (.iload_n 2, 1) := by decide +kernel
theorem dX7_own_30 : decode cX7_own 30 = .ok (.invokevirtual 206, 3) := by decide +kernel
theorem dX7_own_33 : decode cX7_own 33 = .ok (.ireturn, 1) := by decide +kernel
set_option maxHeartbeats 4000000 in
set_option maxRecDepth 100000 in
theorem c_X7_own {l : Launch} {Y : ww_Y} {ad : Nat → Nat} {G : List ww_L} (o0 : Nat) (h0 : ww_at G o0 (ww_LModel o0)) (σ : ww_M) (p1 : Int32) (p2 : Int32) : ww_Cn l Y ad G yX7_own cX7_own 3 (some .int) 3 [.ref (ad o0), .int p1, .int p2] σ ((f_X7_own σ o0 p1 p2).bind ww_rw) := by
  refine ww_met (by decide +kernel) (Nat.le_of_ble_eq_true rfl) ?_
  intro X hC hR
  have hC : ww_C X l Y ad G 3 cX7_own 3 RX7 := hC
  show ww_V X Y ad G 3 σ 0 [(0, .ref (ad o0)), (1, .int p1), (2, .int p2)] [] ((f_X7_own σ o0 p1 p2).bind ww_rw)
  have hJ26 : ∀ (σ : ww_M) (s0 : Int32), ww_V X Y ad G 3 σ 26 [(1, .int p1), (2, .int p2)] [.int s0, .ref (ad o0)] ((f_X7_own_j26 σ o0 p1 p2 s0).bind ww_rw) := by
    intro σ s0
    unfold f_X7_own_j26
    refine ww_iconst (pc := 26) (v := 2) hC dX7_own_26 rfl ?_
    refine ww_iload_n (pc := 27) hC 0 rfl dX7_own_27 rfl ?_
    refine ww_imul (pc := 28) hC dX7_own_28 ?_
    refine ww_iload_n (pc := 29) hC 1 rfl dX7_own_29 rfl ?_
    refine ww_callVw (pc := 30) (st := []) (As := [.int s0, .int (2 * p1), .int p2]) hC (c_X7_sets o0 h0 σ s0 (2 * p1) p2) mm_X7_sets mw_1122 (h0 0 _ rfl) rfl (by omega) (by decide) (Nat.le_of_ble_eq_true rfl) rfl dX7_own_30 (fun v30 => ?_)
    exact ww_ireturn (pc := 33) hC hR dX7_own_33 rfl
  have hJ25 : ∀ (σ : ww_M), ww_V X Y ad G 3 σ 25 [(1, .int p1), (2, .int p2)] [.ref (ad o0)] ((f_X7_own_j25 σ o0 p1 p2).bind ww_rw) := by
    intro σ
    unfold f_X7_own_j25
    refine ww_iconst (pc := 25) (v := 0) hC dX7_own_25 rfl ?_
    exact hJ26 σ 0
  unfold f_X7_own
  refine ww_aload_n (pc := 0) hC 0 rfl dX7_own_0 rfl ?_
  refine ww_aload_n (pc := 1) hC 0 rfl dX7_own_1 rfl ?_
  refine ww_iload_n (pc := 2) hC 1 rfl dX7_own_2 rfl ?_
  refine ww_callVi (pc := 3) (st := [.ref (ad o0)]) (As := [.int p1]) hC (c_X7_isPlace o0 h0 σ p1) mm_X7_isPlace mw_1077 (h0 0 _ rfl) rfl (by omega) (by decide) (Nat.le_of_ble_eq_true rfl) rfl dX7_own_3 (fun v3 => ?_)
  refine ww_if_eq (pc := 6) (tgt := 25) hC dX7_own_6 (by decide) ?_ ?_
  · refine ww_lv [1, 2] rfl ?_
    exact hJ25 σ
  · refine ww_iload_n (pc := 9) hC 2 rfl dX7_own_9 rfl ?_
    refine ww_i2l (pc := 10) hC dX7_own_10 ?_
    refine ww_lconst (pc := 11) (v := 0) hC dX7_own_11 rfl ?_
    refine ww_ldc2 (pc := 12) hC dX7_own_12 mw_1130 ?_
    refine ww_callSi (pc := 15) (st := [.ref (ad o0)]) (As := [.long p2.toInt64, .long 0, .long 3]) hC (c_X7_in σ p2.toInt64 0 3) mm_X7_in mw_991 (by omega) (by decide) (Nat.le_of_ble_eq_true rfl) rfl dX7_own_15 (fun v15 => ?_)
    refine ww_if_eq (pc := 18) (tgt := 25) hC dX7_own_18 (by decide) ?_ ?_
    · refine ww_lv [1, 2] rfl ?_
      exact hJ25 σ
    · refine ww_iconst (pc := 21) (v := 1) hC dX7_own_21 rfl ?_
      refine ww_goto (pc := 22) (tgt := 26) hC dX7_own_22 (by decide) ?_
      refine ww_lv [1, 2] rfl ?_
      exact hJ26 σ 1
theorem dX7_law_0 : decode cX7_law 0 = .ok (.aload_n 0, 1) := by decide +kernel
theorem dX7_law_1 : decode cX7_law 1 = .ok (.iload_n 1, 1) := by decide +kernel
theorem dX7_law_2 : decode cX7_law 2 = .ok (.i2l, 1) := by decide +kernel
theorem dX7_law_3 : decode cX7_law 3 = .ok (.lconst 0, 1) := by decide +kernel
theorem dX7_law_4 : decode cX7_law 4 = .ok (.ldc2_w 210, 3) := by decide +kernel
theorem dX7_law_7 : decode cX7_law 7 = .ok (.invokestatic 68, 3) := by decide +kernel
theorem dX7_law_10 : decode cX7_law 10 = .ok (.bipush 12, 2) := by decide +kernel
theorem dX7_law_12 : decode cX7_law 12 = .ok (.iload_n 1, 1) := by decide +kernel
theorem dX7_law_13 : decode cX7_law 13 = .ok (.invokevirtual 206, 3) := by decide +kernel
theorem dX7_law_16 : decode cX7_law 16 = .ok (.ireturn, 1) := by decide +kernel
set_option maxHeartbeats 4000000 in
set_option maxRecDepth 100000 in
theorem c_X7_law {l : Launch} {Y : ww_Y} {ad : Nat → Nat} {G : List ww_L} (o0 : Nat) (h0 : ww_at G o0 (ww_LModel o0)) (σ : ww_M) (p1 : Int32) : ww_Cn l Y ad G yX7_law cX7_law 2 (some .int) 2 [.ref (ad o0), .int p1] σ ((f_X7_law σ o0 p1).bind ww_rw) := by
  refine ww_met (by decide +kernel) (Nat.le_of_ble_eq_true rfl) ?_
  intro X hC hR
  have hC : ww_C X l Y ad G 2 cX7_law 2 RX7 := hC
  show ww_V X Y ad G 2 σ 0 [(0, .ref (ad o0)), (1, .int p1)] [] ((f_X7_law σ o0 p1).bind ww_rw)
  unfold f_X7_law
  refine ww_aload_n (pc := 0) hC 0 rfl dX7_law_0 rfl ?_
  refine ww_iload_n (pc := 1) hC 1 rfl dX7_law_1 rfl ?_
  refine ww_i2l (pc := 2) hC dX7_law_2 ?_
  refine ww_lconst (pc := 3) (v := 0) hC dX7_law_3 rfl ?_
  refine ww_ldc2 (pc := 4) hC dX7_law_4 mw_1130 ?_
  refine ww_callSi (pc := 7) (st := [.ref (ad o0)]) (As := [.long p1.toInt64, .long 0, .long 3]) hC (c_X7_in σ p1.toInt64 0 3) mm_X7_in mw_991 (by omega) (by decide) (Nat.le_of_ble_eq_true rfl) rfl dX7_law_7 (fun v7 => ?_)
  refine ww_bipush (pc := 10) (v := 12) hC dX7_law_10 rfl ?_
  refine ww_iload_n (pc := 12) hC 1 rfl dX7_law_12 rfl ?_
  refine ww_callVw (pc := 13) (st := []) (As := [.int v7, .int 12, .int p1]) hC (c_X7_sets o0 h0 σ v7 12 p1) mm_X7_sets mw_1122 (h0 0 _ rfl) rfl (by omega) (by decide) (Nat.le_of_ble_eq_true rfl) rfl dX7_law_13 (fun v13 => ?_)
  exact ww_ireturn (pc := 16) hC hR dX7_law_16 rfl
theorem dX7_rot_0 : decode cX7_rot 0 = .ok (.iload_n 1, 1) := by decide +kernel
theorem dX7_rot_1 : decode cX7_rot 1 = .ok (.i2l, 1) := by decide +kernel
theorem dX7_rot_2 : decode cX7_rot 2 = .ok (.lconst 1, 1) := by decide +kernel
theorem dX7_rot_3 : decode cX7_rot 3 = .ok (.ldc2_w 204, 3) := by decide +kernel
theorem dX7_rot_6 : decode cX7_rot 6 = .ok (.invokestatic 68, 3) := by decide +kernel
theorem dX7_rot_9 : decode cX7_rot 9 = .ok (.ifCond .eq 18, 3) := by decide +kernel
theorem dX7_rot_12 : decode cX7_rot 12 = .ok (.iconst 4, 1) := by decide +kernel
theorem dX7_rot_13 : decode cX7_rot 13 = .ok (.aload_n 0, 1) := by decide +kernel
theorem dX7_rot_14 : decode cX7_rot 14 = .ok (.iconst 1, 1) := by decide +kernel
theorem dX7_rot_15 : decode cX7_rot 15 = .ok (.bipush 13, 2) := by decide +kernel
theorem dX7_rot_17 : decode cX7_rot 17 = .ok (.iload_n 1, 1) := by decide +kernel
theorem dX7_rot_18 : decode cX7_rot 18 = .ok (.iconst 4, 1) := by decide +kernel
theorem dX7_rot_19 : decode cX7_rot 19 = .ok (.isub, 1) := by decide +kernel
theorem dX7_rot_20 : decode cX7_rot 20 = .ok (.invokevirtual 206, 3) := by decide +kernel
theorem dX7_rot_23 : decode cX7_rot 23 = .ok (.iadd, 1) := by decide +kernel
theorem dX7_rot_24 : decode cX7_rot 24 = .ok (.goto 4, 3) := by decide +kernel
theorem dX7_rot_27 : decode cX7_rot 27 = .ok (.iconst (-1), 1) := by decide +kernel
theorem dX7_rot_28 : decode cX7_rot 28 = .ok (.ireturn, 1) := by decide +kernel
set_option maxHeartbeats 4000000 in
set_option maxRecDepth 100000 in
theorem c_X7_rot {l : Launch} {Y : ww_Y} {ad : Nat → Nat} {G : List ww_L} (o0 : Nat) (h0 : ww_at G o0 (ww_LModel o0)) (σ : ww_M) (p1 : Int32) : ww_Cn l Y ad G yX7_rot cX7_rot 2 (some .int) 2 [.ref (ad o0), .int p1] σ ((f_X7_rot σ o0 p1).bind ww_rw) := by
  refine ww_met (by decide +kernel) (Nat.le_of_ble_eq_true rfl) ?_
  intro X hC hR
  have hC : ww_C X l Y ad G 2 cX7_rot 2 RX7 := hC
  show ww_V X Y ad G 2 σ 0 [(0, .ref (ad o0)), (1, .int p1)] [] ((f_X7_rot σ o0 p1).bind ww_rw)
  unfold f_X7_rot
  refine ww_iload_n (pc := 0) hC 1 rfl dX7_rot_0 rfl ?_
  refine ww_i2l (pc := 1) hC dX7_rot_1 ?_
  refine ww_lconst (pc := 2) (v := 1) hC dX7_rot_2 rfl ?_
  refine ww_ldc2 (pc := 3) hC dX7_rot_3 mw_1121 ?_
  refine ww_callSi (pc := 6) (st := []) (As := [.long p1.toInt64, .long 1, .long 9]) hC (c_X7_in σ p1.toInt64 1 9) mm_X7_in mw_991 (by omega) (by decide) (Nat.le_of_ble_eq_true rfl) rfl dX7_rot_6 (fun v6 => ?_)
  refine ww_if_eq (pc := 9) (tgt := 27) hC dX7_rot_9 (by decide) ?_ ?_
  · refine ww_iconst (pc := 27) (v := (-1)) hC dX7_rot_27 rfl ?_
    exact ww_ireturn (pc := 28) hC hR dX7_rot_28 rfl
  · refine ww_iconst (pc := 12) (v := 4) hC dX7_rot_12 rfl ?_
    refine ww_aload_n (pc := 13) hC 0 rfl dX7_rot_13 rfl ?_
    refine ww_iconst (pc := 14) (v := 1) hC dX7_rot_14 rfl ?_
    refine ww_bipush (pc := 15) (v := 13) hC dX7_rot_15 rfl ?_
    refine ww_iload_n (pc := 17) hC 1 rfl dX7_rot_17 rfl ?_
    refine ww_iconst (pc := 18) (v := 4) hC dX7_rot_18 rfl ?_
    refine ww_isub (pc := 19) hC dX7_rot_19 ?_
    refine ww_callVw (pc := 20) (st := [.int 4]) (As := [.int 1, .int 13, .int (p1 - 4)]) hC (c_X7_sets o0 h0 σ 1 13 (p1 - 4)) mm_X7_sets mw_1122 (h0 0 _ rfl) rfl (by omega) (by decide) (Nat.le_of_ble_eq_true rfl) rfl dX7_rot_20 (fun v20 => ?_)
    refine ww_iadd (pc := 23) hC dX7_rot_23 ?_
    refine ww_goto (pc := 24) (tgt := 28) hC dX7_rot_24 (by decide) ?_
    exact ww_ireturn (pc := 28) hC hR dX7_rot_28 rfl
theorem dX7_gangs_0 : decode cX7_gangs 0 = .ok (.iload_n 1, 1) := by decide +kernel
theorem dX7_gangs_1 : decode cX7_gangs 1 = .ok (.i2l, 1) := by decide +kernel
theorem dX7_gangs_2 : decode cX7_gangs 2 = .ok (.lconst 1, 1) := by decide +kernel
theorem dX7_gangs_3 : decode cX7_gangs 3 = .ok (.ldc2_w 128, 3) := by decide +kernel
theorem dX7_gangs_6 : decode cX7_gangs 6 = .ok (.invokestatic 68, 3) := by decide +kernel
theorem dX7_gangs_9 : decode cX7_gangs 9 = .ok (.ifCond .eq 18, 3) := by decide +kernel
theorem dX7_gangs_12 : decode cX7_gangs 12 = .ok (.iconst 1, 1) := by decide +kernel
theorem dX7_gangs_13 : decode cX7_gangs 13 = .ok (.aload_n 0, 1) := by decide +kernel
theorem dX7_gangs_14 : decode cX7_gangs 14 = .ok (.iconst 1, 1) := by decide +kernel
theorem dX7_gangs_15 : decode cX7_gangs 15 = .ok (.bipush 14, 2) := by decide +kernel
theorem dX7_gangs_17 : decode cX7_gangs 17 = .ok (.iload_n 1, 1) := by decide +kernel
theorem dX7_gangs_18 : decode cX7_gangs 18 = .ok (.iconst 1, 1) := by decide +kernel
theorem dX7_gangs_19 : decode cX7_gangs 19 = .ok (.isub, 1) := by decide +kernel
theorem dX7_gangs_20 : decode cX7_gangs 20 = .ok (.invokevirtual 206, 3) := by decide +kernel
theorem dX7_gangs_23 : decode cX7_gangs 23 = .ok (.iadd, 1) := by decide +kernel
theorem dX7_gangs_24 : decode cX7_gangs 24 = .ok (.goto 4, 3) := by decide +kernel
theorem dX7_gangs_27 : decode cX7_gangs 27 = .ok (.iconst (-1), 1) := by decide +kernel
theorem dX7_gangs_28 : decode cX7_gangs 28 = .ok (.ireturn, 1) := by decide +kernel
set_option maxHeartbeats 4000000 in
set_option maxRecDepth 100000 in
theorem c_X7_gangs {l : Launch} {Y : ww_Y} {ad : Nat → Nat} {G : List ww_L} (o0 : Nat) (h0 : ww_at G o0 (ww_LModel o0)) (σ : ww_M) (p1 : Int32) : ww_Cn l Y ad G yX7_gangs cX7_gangs 2 (some .int) 2 [.ref (ad o0), .int p1] σ ((f_X7_gangs σ o0 p1).bind ww_rw) := by
  refine ww_met (by decide +kernel) (Nat.le_of_ble_eq_true rfl) ?_
  intro X hC hR
  have hC : ww_C X l Y ad G 2 cX7_gangs 2 RX7 := hC
  show ww_V X Y ad G 2 σ 0 [(0, .ref (ad o0)), (1, .int p1)] [] ((f_X7_gangs σ o0 p1).bind ww_rw)
  unfold f_X7_gangs
  refine ww_iload_n (pc := 0) hC 1 rfl dX7_gangs_0 rfl ?_
  refine ww_i2l (pc := 1) hC dX7_gangs_1 ?_
  refine ww_lconst (pc := 2) (v := 1) hC dX7_gangs_2 rfl ?_
  refine ww_ldc2 (pc := 3) hC dX7_gangs_3 mw_1027 ?_
  refine ww_callSi (pc := 6) (st := []) (As := [.long p1.toInt64, .long 1, .long 2]) hC (c_X7_in σ p1.toInt64 1 2) mm_X7_in mw_991 (by omega) (by decide) (Nat.le_of_ble_eq_true rfl) rfl dX7_gangs_6 (fun v6 => ?_)
  refine ww_if_eq (pc := 9) (tgt := 27) hC dX7_gangs_9 (by decide) ?_ ?_
  · refine ww_iconst (pc := 27) (v := (-1)) hC dX7_gangs_27 rfl ?_
    exact ww_ireturn (pc := 28) hC hR dX7_gangs_28 rfl
  · refine ww_iconst (pc := 12) (v := 1) hC dX7_gangs_12 rfl ?_
    refine ww_aload_n (pc := 13) hC 0 rfl dX7_gangs_13 rfl ?_
    refine ww_iconst (pc := 14) (v := 1) hC dX7_gangs_14 rfl ?_
    refine ww_bipush (pc := 15) (v := 14) hC dX7_gangs_15 rfl ?_
    refine ww_iload_n (pc := 17) hC 1 rfl dX7_gangs_17 rfl ?_
    refine ww_iconst (pc := 18) (v := 1) hC dX7_gangs_18 rfl ?_
    refine ww_isub (pc := 19) hC dX7_gangs_19 ?_
    refine ww_callVw (pc := 20) (st := [.int 1]) (As := [.int 1, .int 14, .int (p1 - 1)]) hC (c_X7_sets o0 h0 σ 1 14 (p1 - 1)) mm_X7_sets mw_1122 (h0 0 _ rfl) rfl (by omega) (by decide) (Nat.le_of_ble_eq_true rfl) rfl dX7_gangs_20 (fun v20 => ?_)
    refine ww_iadd (pc := 23) hC dX7_gangs_23 ?_
    refine ww_goto (pc := 24) (tgt := 28) hC dX7_gangs_24 (by decide) ?_
    exact ww_ireturn (pc := 28) hC hR dX7_gangs_28 rfl
theorem dX7_lump_0 : decode cX7_lump 0 = .ok (.aload_n 0, 1) := by decide +kernel
theorem dX7_lump_1 : decode cX7_lump 1 = .ok (.iload_n 1, 1) := by decide +kernel
theorem dX7_lump_2 : decode cX7_lump 2 = .ok (.invokevirtual 191, 3) := by decide +kernel
theorem dX7_lump_5 : decode cX7_lump 5 = .ok (.ifCond .eq 26, 3) := by decide +kernel
theorem dX7_lump_8 : decode cX7_lump 8 = .ok (.aload_n 0, 1) := by decide +kernel
theorem dX7_lump_9 : decode cX7_lump 9 = .ok (.iload_n 2, 1) := by decide +kernel
theorem dX7_lump_10 : decode cX7_lump 10 = .ok (.i2l, 1) := by decide +kernel
theorem dX7_lump_11 : decode cX7_lump 11 = .ok (.lconst 0, 1) := by decide +kernel
theorem dX7_lump_12 : decode cX7_lump 12 = .ok (.ldc2_w 212, 3) := by decide +kernel
theorem dX7_lump_15 : decode cX7_lump 15 = .ok (.invokestatic 68, 3) := by decide +kernel
theorem dX7_lump_18 : decode cX7_lump 18 = .ok (.iload_n 1, 1) := by decide +kernel
theorem dX7_lump_19 : decode cX7_lump 19 = .ok (.invokestatic 188, 3) := by decide +kernel
theorem dX7_lump_22 : decode cX7_lump 22 = .ok (.iconst 2, 1) := by decide +kernel
theorem dX7_lump_23 : decode cX7_lump 23 = .ok (.iadd, 1) := by decide +kernel
theorem dX7_lump_24 : decode cX7_lump 24 = .ok (.iload_n 2, 1) := by decide +kernel
theorem dX7_lump_25 : decode cX7_lump 25 = .ok (.invokevirtual 206, 3) := by decide +kernel
theorem dX7_lump_28 : decode cX7_lump 28 = .ok (.goto 4, 3) := by decide +kernel
theorem dX7_lump_31 : decode cX7_lump 31 = .ok (.iconst (-1), 1) := by decide +kernel
theorem dX7_lump_32 : decode cX7_lump 32 = .ok (.ireturn, 1) := by decide +kernel
set_option maxHeartbeats 4000000 in
set_option maxRecDepth 100000 in
theorem c_X7_lump {l : Launch} {Y : ww_Y} {ad : Nat → Nat} {G : List ww_L} (o0 : Nat) (h0 : ww_at G o0 (ww_LModel o0)) (σ : ww_M) (p1 : Int32) (p2 : Int32) : ww_Cn l Y ad G yX7_lump cX7_lump 3 (some .int) 4 [.ref (ad o0), .int p1, .int p2] σ ((f_X7_lump σ o0 p1 p2).bind ww_rw) := by
  refine ww_met (by decide +kernel) (Nat.le_of_ble_eq_true rfl) ?_
  intro X hC hR
  have hC : ww_C X l Y ad G 4 cX7_lump 3 RX7 := hC
  show ww_V X Y ad G 3 σ 0 [(0, .ref (ad o0)), (1, .int p1), (2, .int p2)] [] ((f_X7_lump σ o0 p1 p2).bind ww_rw)
  unfold f_X7_lump
  refine ww_aload_n (pc := 0) hC 0 rfl dX7_lump_0 rfl ?_
  refine ww_iload_n (pc := 1) hC 1 rfl dX7_lump_1 rfl ?_
  refine ww_callVi (pc := 2) (st := []) (As := [.int p1]) hC (c_X7_isPart o0 h0 σ p1) mm_X7_isPart mw_1098 (h0 0 _ rfl) rfl (by omega) (by decide) (Nat.le_of_ble_eq_true rfl) rfl dX7_lump_2 (fun v2 => ?_)
  refine ww_if_eq (pc := 5) (tgt := 31) hC dX7_lump_5 (by decide) ?_ ?_
  · refine ww_iconst (pc := 31) (v := (-1)) hC dX7_lump_31 rfl ?_
    exact ww_ireturn (pc := 32) hC hR dX7_lump_32 rfl
  · refine ww_aload_n (pc := 8) hC 0 rfl dX7_lump_8 rfl ?_
    refine ww_iload_n (pc := 9) hC 2 rfl dX7_lump_9 rfl ?_
    refine ww_i2l (pc := 10) hC dX7_lump_10 ?_
    refine ww_lconst (pc := 11) (v := 0) hC dX7_lump_11 rfl ?_
    refine ww_ldc2 (pc := 12) hC dX7_lump_12 mw_1147 ?_
    refine ww_callSi (pc := 15) (st := [.ref (ad o0)]) (As := [.long p2.toInt64, .long 0, .long 8]) hC (c_X7_in σ p2.toInt64 0 8) mm_X7_in mw_991 (by omega) (by decide) (Nat.le_of_ble_eq_true rfl) rfl dX7_lump_15 (fun v15 => ?_)
    refine ww_iload_n (pc := 18) hC 1 rfl dX7_lump_18 rfl ?_
    refine ww_callSi (pc := 19) (st := [.int v15, .ref (ad o0)]) (As := [.int p1]) hC (c_X7_partAt σ p1) mm_X7_partAt mw_1102 (by omega) (by decide) (Nat.le_of_ble_eq_true rfl) rfl dX7_lump_19 (fun v19 => ?_)
    refine ww_iconst (pc := 22) (v := 2) hC dX7_lump_22 rfl ?_
    refine ww_iadd (pc := 23) hC dX7_lump_23 ?_
    refine ww_iload_n (pc := 24) hC 2 rfl dX7_lump_24 rfl ?_
    refine ww_callVw (pc := 25) (st := []) (As := [.int v15, .int (v19 + 2), .int p2]) hC (c_X7_sets o0 h0 σ v15 (v19 + 2) p2) mm_X7_sets mw_1122 (h0 0 _ rfl) rfl (by omega) (by decide) (Nat.le_of_ble_eq_true rfl) rfl dX7_lump_25 (fun v25 => ?_)
    refine ww_goto (pc := 28) (tgt := 32) hC dX7_lump_28 (by decide) ?_
    exact ww_ireturn (pc := 32) hC hR dX7_lump_32 rfl
theorem dX7_works_0 : decode cX7_works 0 = .ok (.iload_n 1, 1) := by decide +kernel
theorem dX7_works_1 : decode cX7_works 1 = .ok (.bipush (-4), 2) := by decide +kernel
theorem dX7_works_3 : decode cX7_works 3 = .ok (.if_icmp .ne 5, 3) := by decide +kernel
theorem dX7_works_6 : decode cX7_works 6 = .ok (.iconst 0, 1) := by decide +kernel
theorem dX7_works_7 : decode cX7_works 7 = .ok (.ireturn, 1) := by decide +kernel
theorem dX7_works_8 : decode cX7_works 8 = .ok (.aload_n 0, 1) := by decide +kernel
theorem dX7_works_9 : decode cX7_works 9 = .ok (.getfield 7, 3) := by decide +kernel
theorem dX7_works_12 : decode cX7_works 12 = .ok (.iload_n 1, 1) := by decide +kernel
theorem dX7_works_13 : decode cX7_works 13 = .ok (.invokestatic 188, 3) := by decide +kernel
theorem dX7_works_16 : decode cX7_works 16 = .ok (.iconst 1, 1) := by decide +kernel
theorem dX7_works_17 : decode cX7_works 17 = .ok (.iadd, 1) := by decide +kernel
theorem dX7_works_18 : decode cX7_works 18 = .ok (.dup2, 1) := by decide +kernel
theorem dX7_works_19 : decode cX7_works 19 = .ok (.iaload, 1) := by decide +kernel
theorem dX7_works_20 : decode cX7_works 20 = .ok (.iconst 1, 1) := by decide +kernel
theorem dX7_works_21 : decode cX7_works 21 = .ok (.isub, 1) := by decide +kernel
theorem dX7_works_22 : decode cX7_works 22 = .ok (.iastore, 1) := by decide +kernel
theorem dX7_works_23 : decode cX7_works 23 = .ok (.aload_n 0, 1) := by decide +kernel
theorem dX7_works_24 : decode cX7_works 24 = .ok (.getfield 7, 3) := by decide +kernel
theorem dX7_works_27 : decode cX7_works 27 = .ok (.iload_n 1, 1) := by decide +kernel
theorem dX7_works_28 : decode cX7_works 28 = .ok (.invokestatic 188, 3) := by decide +kernel
theorem dX7_works_31 : decode cX7_works 31 = .ok (.iconst 1, 1) := by decide +kernel
theorem dX7_works_32 : decode cX7_works 32 = .ok (.iadd, 1) := by decide +kernel
theorem dX7_works_33 : decode cX7_works 33 = .ok (.iaload, 1) := by decide +kernel
theorem dX7_works_34 : decode cX7_works 34 = .ok (.ifCond .le 5, 3) := by decide +kernel
theorem dX7_works_37 : decode cX7_works 37 = .ok (.iconst 0, 1) := by decide +kernel
theorem dX7_works_38 : decode cX7_works 38 = .ok (.ireturn, 1) := by decide +kernel
theorem dX7_works_39 : decode cX7_works 39 = .ok (.aload_n 0, 1) := by decide +kernel
theorem dX7_works_40 : decode cX7_works 40 = .ok (.iload_n 1, 1) := by decide +kernel
theorem dX7_works_41 : decode cX7_works 41 = .ok (.aload_n 0, 1) := by decide +kernel
theorem dX7_works_42 : decode cX7_works 42 = .ok (.getfield 7, 3) := by decide +kernel
theorem dX7_works_45 : decode cX7_works 45 = .ok (.bipush 45, 2) := by decide +kernel
theorem dX7_works_47 : decode cX7_works 47 = .ok (.iaload, 1) := by decide +kernel
theorem dX7_works_48 : decode cX7_works 48 = .ok (.aload_n 0, 1) := by decide +kernel
theorem dX7_works_49 : decode cX7_works 49 = .ok (.invokevirtual 172, 3) := by decide +kernel
theorem dX7_works_52 : decode cX7_works 52 = .ok (.invokevirtual 194, 3) := by decide +kernel
theorem dX7_works_55 : decode cX7_works 55 = .ok (.istore_n 2, 1) := by decide +kernel
theorem dX7_works_56 : decode cX7_works 56 = .ok (.aload_n 0, 1) := by decide +kernel
theorem dX7_works_57 : decode cX7_works 57 = .ok (.getfield 7, 3) := by decide +kernel
theorem dX7_works_60 : decode cX7_works 60 = .ok (.bipush 46, 2) := by decide +kernel
theorem dX7_works_62 : decode cX7_works 62 = .ok (.aload_n 0, 1) := by decide +kernel
theorem dX7_works_63 : decode cX7_works 63 = .ok (.iload_n 1, 1) := by decide +kernel
theorem dX7_works_64 : decode cX7_works 64 = .ok (.aload_n 0, 1) := by decide +kernel
theorem dX7_works_65 : decode cX7_works 65 = .ok (.getfield 7, 3) := by decide +kernel
theorem dX7_works_68 : decode cX7_works 68 = .ok (.bipush 12, 2) := by decide +kernel
theorem dX7_works_70 : decode cX7_works 70 = .ok (.iaload, 1) := by decide +kernel
theorem dX7_works_71 : decode cX7_works 71 = .ok (.invokevirtual 201, 3) := by decide +kernel
theorem dX7_works_74 : decode cX7_works 74 = .ok (.iadd, 1) := by decide +kernel
theorem dX7_works_75 : decode cX7_works 75 = .ok (.dup2, 1) := by decide +kernel
theorem dX7_works_76 : decode cX7_works 76 = .ok (.iaload, 1) := by decide +kernel
theorem dX7_works_77 : decode cX7_works 77 = .ok (.iload_n 2, 1) := by decide +kernel
theorem dX7_works_78 : decode cX7_works 78 = .ok (.iadd, 1) := by decide +kernel
theorem dX7_works_79 : decode cX7_works 79 = .ok (.iastore, 1) := by decide +kernel
theorem dX7_works_80 : decode cX7_works 80 = .ok (.iload_n 2, 1) := by decide +kernel
theorem dX7_works_81 : decode cX7_works 81 = .ok (.ireturn, 1) := by decide +kernel
set_option maxHeartbeats 4000000 in
set_option maxRecDepth 100000 in
theorem c_X7_works {l : Launch} {Y : ww_Y} {ad : Nat → Nat} {G : List ww_L} (o0 : Nat) (h0 : ww_at G o0 (ww_LModel o0)) (σ : ww_M) (p1 : Int32) : ww_Cn l Y ad G yX7_works cX7_works 3 (some .int) 3 [.ref (ad o0), .int p1] σ ((f_X7_works σ o0 p1).bind ww_rw) := by
  refine ww_met (by decide +kernel) (Nat.le_of_ble_eq_true rfl) ?_
  intro X hC hR
  have hC : ww_C X l Y ad G 3 cX7_works 3 RX7 := hC
  show ww_V X Y ad G 3 σ 0 [(0, .ref (ad o0)), (1, .int p1)] [] ((f_X7_works σ o0 p1).bind ww_rw)
  unfold f_X7_works
  refine ww_iload_n (pc := 0) hC 1 rfl dX7_works_0 rfl ?_
  refine ww_bipush (pc := 1) (v := (-4)) hC dX7_works_1 rfl ?_
  refine ww_icmp_ne (pc := 3) (tgt := 8) hC dX7_works_3 (by decide) ?_ ?_
  · refine ww_aload_n (pc := 8) hC 0 rfl dX7_works_8 rfl ?_
    refine ww_getr (pc := 9) (Cl := RX7) (T := TX7) (N := 36) (j := 0) (ref := RX7) hC (h0 0 _ rfl) rfl inT_X7 (by decide) mw_876 rfl rfl dX7_works_9 ?_
    refine ww_iload_n (pc := 12) hC 1 rfl dX7_works_12 rfl ?_
    refine ww_callSi (pc := 13) (st := [.ref (ad (o0 + 1))]) (As := [.int p1]) hC (c_X7_partAt σ p1) mm_X7_partAt mw_1102 (by omega) (by decide) (Nat.le_of_ble_eq_true rfl) rfl dX7_works_13 (fun v13 => ?_)
    refine ww_iconst (pc := 16) (v := 1) hC dX7_works_16 rfl ?_
    refine ww_iadd (pc := 17) hC dX7_works_17 ?_
    refine ww_dup2 (pc := 18) hC dX7_works_18 rfl rfl ?_
    refine ww_iald (pc := 19) hC (h0 1 _ rfl) dX7_works_19 ?_
    refine ww_iconst (pc := 20) (v := 1) hC dX7_works_20 rfl ?_
    refine ww_isub (pc := 21) hC dX7_works_21 ?_
    refine ww_iast (pc := 22) hC (h0 1 _ rfl) dX7_works_22 ?_
    refine ww_aload_n (pc := 23) hC 0 rfl dX7_works_23 rfl ?_
    refine ww_getr (pc := 24) (Cl := RX7) (T := TX7) (N := 36) (j := 0) (ref := RX7) hC (h0 0 _ rfl) rfl inT_X7 (by decide) mw_876 rfl rfl dX7_works_24 ?_
    refine ww_iload_n (pc := 27) hC 1 rfl dX7_works_27 rfl ?_
    refine ww_callSi (pc := 28) (st := [.ref (ad (o0 + 1))]) (As := [.int p1]) hC (c_X7_partAt (ww_up σ (o0 + 1) (ww_ix (v13 + 1)) ((σ (o0 + 1) (ww_ix (v13 + 1))) - 1)) p1) mm_X7_partAt mw_1102 (by omega) (by decide) (Nat.le_of_ble_eq_true rfl) rfl dX7_works_28 (fun v28 => ?_)
    refine ww_iconst (pc := 31) (v := 1) hC dX7_works_31 rfl ?_
    refine ww_iadd (pc := 32) hC dX7_works_32 ?_
    refine ww_iald (pc := 33) hC (h0 1 _ rfl) dX7_works_33 ?_
    refine ww_if_le (pc := 34) (tgt := 39) hC dX7_works_34 (by decide) ?_ ?_
    · refine ww_aload_n (pc := 39) hC 0 rfl dX7_works_39 rfl ?_
      refine ww_iload_n (pc := 40) hC 1 rfl dX7_works_40 rfl ?_
      refine ww_aload_n (pc := 41) hC 0 rfl dX7_works_41 rfl ?_
      refine ww_getr (pc := 42) (Cl := RX7) (T := TX7) (N := 36) (j := 0) (ref := RX7) hC (h0 0 _ rfl) rfl inT_X7 (by decide) mw_876 rfl rfl dX7_works_42 ?_
      refine ww_bipush (pc := 45) (v := 45) hC dX7_works_45 rfl ?_
      refine ww_iald_c (pc := 47) (j := 45) hC (h0 1 _ rfl) (by decide) rfl dX7_works_47 ?_
      refine ww_aload_n (pc := 48) hC 0 rfl dX7_works_48 rfl ?_
      refine ww_callVi (pc := 49) (st := [.int ((ww_up σ (o0 + 1) (ww_ix (v13 + 1)) ((σ (o0 + 1) (ww_ix (v13 + 1))) - 1)) (o0 + 1) 45), .int p1, .ref (ad o0)]) (As := []) hC (c_X7_rotNow o0 h0 (ww_up σ (o0 + 1) (ww_ix (v13 + 1)) ((σ (o0 + 1) (ww_ix (v13 + 1))) - 1))) mm_X7_rotNow mw_1069 (h0 0 _ rfl) rfl (by omega) (by decide) (Nat.le_of_ble_eq_true rfl) rfl dX7_works_49 (fun v49 => ?_)
      refine ww_callVi (pc := 52) (st := []) (As := [.int p1, .int ((ww_up σ (o0 + 1) (ww_ix (v13 + 1)) ((σ (o0 + 1) (ww_ix (v13 + 1))) - 1)) (o0 + 1) 45), .int v49]) hC (c_X7_worthIn o0 h0 (ww_up σ (o0 + 1) (ww_ix (v13 + 1)) ((σ (o0 + 1) (ww_ix (v13 + 1))) - 1)) p1 ((ww_up σ (o0 + 1) (ww_ix (v13 + 1)) ((σ (o0 + 1) (ww_ix (v13 + 1))) - 1)) (o0 + 1) 45) v49) mm_X7_worthIn mw_1105 (h0 0 _ rfl) rfl (by omega) (by decide) (Nat.le_of_ble_eq_true rfl) rfl dX7_works_52 (fun v52 => ?_)
      refine ww_istore_n (pc := 55) (lv' := [(2, .int v52), (0, .ref (ad o0)), (1, .int p1)]) hC dX7_works_55 rfl (by decide) rfl ?_
      refine ww_aload_n (pc := 56) hC 1 rfl dX7_works_56 rfl ?_
      refine ww_getr (pc := 57) (Cl := RX7) (T := TX7) (N := 36) (j := 0) (ref := RX7) hC (h0 0 _ rfl) rfl inT_X7 (by decide) mw_876 rfl rfl dX7_works_57 ?_
      refine ww_bipush (pc := 60) (v := 46) hC dX7_works_60 rfl ?_
      refine ww_aload_n (pc := 62) hC 1 rfl dX7_works_62 rfl ?_
      refine ww_iload_n (pc := 63) hC 2 rfl dX7_works_63 rfl ?_
      refine ww_aload_n (pc := 64) hC 1 rfl dX7_works_64 rfl ?_
      refine ww_getr (pc := 65) (Cl := RX7) (T := TX7) (N := 36) (j := 0) (ref := RX7) hC (h0 0 _ rfl) rfl inT_X7 (by decide) mw_876 rfl rfl dX7_works_65 ?_
      refine ww_bipush (pc := 68) (v := 12) hC dX7_works_68 rfl ?_
      refine ww_iald_c (pc := 70) (j := 12) hC (h0 1 _ rfl) (by decide) rfl dX7_works_70 ?_
      refine ww_callVi (pc := 71) (st := [.int 46, .ref (ad (o0 + 1))]) (As := [.int p1, .int ((ww_up σ (o0 + 1) (ww_ix (v13 + 1)) ((σ (o0 + 1) (ww_ix (v13 + 1))) - 1)) (o0 + 1) 12)]) hC (c_X7_whoseBy o0 h0 (ww_up σ (o0 + 1) (ww_ix (v13 + 1)) ((σ (o0 + 1) (ww_ix (v13 + 1))) - 1)) p1 ((ww_up σ (o0 + 1) (ww_ix (v13 + 1)) ((σ (o0 + 1) (ww_ix (v13 + 1))) - 1)) (o0 + 1) 12)) mm_X7_whoseBy mw_1113 (h0 0 _ rfl) rfl (by omega) (by decide) (Nat.le_of_ble_eq_true rfl) rfl dX7_works_71 (fun v71 => ?_)
      refine ww_iadd (pc := 74) hC dX7_works_74 ?_
      refine ww_dup2 (pc := 75) hC dX7_works_75 rfl rfl ?_
      refine ww_iald (pc := 76) hC (h0 1 _ rfl) dX7_works_76 ?_
      refine ww_iload_n (pc := 77) hC 0 rfl dX7_works_77 rfl ?_
      refine ww_iadd (pc := 78) hC dX7_works_78 ?_
      refine ww_iast (pc := 79) hC (h0 1 _ rfl) dX7_works_79 ?_
      refine ww_iload_n (pc := 80) hC 0 rfl dX7_works_80 rfl ?_
      exact ww_ireturn (pc := 81) hC hR dX7_works_81 rfl
    · refine ww_iconst (pc := 37) (v := 0) hC dX7_works_37 rfl ?_
      exact ww_ireturn (pc := 38) hC hR dX7_works_38 rfl
  · refine ww_iconst (pc := 6) (v := 0) hC dX7_works_6 rfl ?_
    exact ww_ireturn (pc := 7) hC hR dX7_works_7 rfl
theorem dX7_hourGoes_0 : decode cX7_hourGoes 0 = .ok (.aload_n 0, 1) := by decide +kernel
theorem dX7_hourGoes_1 : decode cX7_hourGoes 1 = .ok (.iload_n 1, 1) := by decide +kernel
theorem dX7_hourGoes_2 : decode cX7_hourGoes 2 = .ok (.invokevirtual 214, 3) := by decide +kernel
theorem dX7_hourGoes_5 : decode cX7_hourGoes 5 = .ok (.istore_n 3, 1) := by decide +kernel
theorem dX7_hourGoes_6 : decode cX7_hourGoes 6 = .ok (.iload_n 3, 1) := by decide +kernel
theorem dX7_hourGoes_7 : decode cX7_hourGoes 7 = .ok (.aload_n 0, 1) := by decide +kernel
theorem dX7_hourGoes_8 : decode cX7_hourGoes 8 = .ok (.iload_n 2, 1) := by decide +kernel
theorem dX7_hourGoes_9 : decode cX7_hourGoes 9 = .ok (.invokevirtual 214, 3) := by decide +kernel
theorem dX7_hourGoes_12 : decode cX7_hourGoes 12 = .ok (.iadd, 1) := by decide +kernel
theorem dX7_hourGoes_13 : decode cX7_hourGoes 13 = .ok (.istore_n 3, 1) := by decide +kernel
theorem dX7_hourGoes_14 : decode cX7_hourGoes 14 = .ok (.aload_n 0, 1) := by decide +kernel
theorem dX7_hourGoes_15 : decode cX7_hourGoes 15 = .ok (.getfield 7, 3) := by decide +kernel
theorem dX7_hourGoes_18 : decode cX7_hourGoes 18 = .ok (.bipush 45, 2) := by decide +kernel
theorem dX7_hourGoes_20 : decode cX7_hourGoes 20 = .ok (.dup2, 1) := by decide +kernel
theorem dX7_hourGoes_21 : decode cX7_hourGoes 21 = .ok (.iaload, 1) := by decide +kernel
theorem dX7_hourGoes_22 : decode cX7_hourGoes 22 = .ok (.iconst 1, 1) := by decide +kernel
theorem dX7_hourGoes_23 : decode cX7_hourGoes 23 = .ok (.iadd, 1) := by decide +kernel
theorem dX7_hourGoes_24 : decode cX7_hourGoes 24 = .ok (.iastore, 1) := by decide +kernel
theorem dX7_hourGoes_25 : decode cX7_hourGoes 25 = .ok (.aload_n 0, 1) := by decide +kernel
theorem dX7_hourGoes_26 : decode cX7_hourGoes 26 = .ok (.invokevirtual 165, 3) := by decide +kernel
theorem dX7_hourGoes_29 : decode cX7_hourGoes 29 = .ok (.iload_n 3, 1) := by decide +kernel
theorem dX7_hourGoes_30 : decode cX7_hourGoes 30 = .ok (.ireturn, 1) := by decide +kernel
set_option maxHeartbeats 4000000 in
set_option maxRecDepth 100000 in
theorem c_X7_hourGoes {l : Launch} {Y : ww_Y} {ad : Nat → Nat} {G : List ww_L} (o0 : Nat) (h0 : ww_at G o0 (ww_LModel o0)) (σ : ww_M) (p1 : Int32) (p2 : Int32) : ww_Cn l Y ad G yX7_hourGoes cX7_hourGoes 4 (some .int) 4 [.ref (ad o0), .int p1, .int p2] σ ((f_X7_hourGoes σ o0 p1 p2).bind ww_rw) := by
  refine ww_met (by decide +kernel) (Nat.le_of_ble_eq_true rfl) ?_
  intro X hC hR
  have hC : ww_C X l Y ad G 4 cX7_hourGoes 4 RX7 := hC
  show ww_V X Y ad G 4 σ 0 [(0, .ref (ad o0)), (1, .int p1), (2, .int p2)] [] ((f_X7_hourGoes σ o0 p1 p2).bind ww_rw)
  unfold f_X7_hourGoes
  refine ww_aload_n (pc := 0) hC 0 rfl dX7_hourGoes_0 rfl ?_
  refine ww_iload_n (pc := 1) hC 1 rfl dX7_hourGoes_1 rfl ?_
  refine ww_callVw (pc := 2) (st := []) (As := [.int p1]) hC (c_X7_works o0 h0 σ p1) mm_X7_works mw_1160 (h0 0 _ rfl) rfl (by omega) (by decide) (Nat.le_of_ble_eq_true rfl) rfl dX7_hourGoes_2 (fun v2 => ?_)
  refine ww_istore_n (pc := 5) (lv' := [(3, .int v2.1), (0, .ref (ad o0)), (1, .int p1), (2, .int p2)]) hC dX7_hourGoes_5 rfl (by decide) rfl ?_
  refine ww_iload_n (pc := 6) hC 0 rfl dX7_hourGoes_6 rfl ?_
  refine ww_aload_n (pc := 7) hC 1 rfl dX7_hourGoes_7 rfl ?_
  refine ww_iload_n (pc := 8) hC 3 rfl dX7_hourGoes_8 rfl ?_
  refine ww_callVw (pc := 9) (st := [.int v2.1]) (As := [.int p2]) hC (c_X7_works o0 h0 v2.2 p2) mm_X7_works mw_1160 (h0 0 _ rfl) rfl (by omega) (by decide) (Nat.le_of_ble_eq_true rfl) rfl dX7_hourGoes_9 (fun v9 => ?_)
  refine ww_iadd (pc := 12) hC dX7_hourGoes_12 ?_
  refine ww_istore_n (pc := 13) (lv' := [(3, .int (v2.1 + v9.1)), (0, .ref (ad o0)), (1, .int p1), (2, .int p2)]) hC dX7_hourGoes_13 rfl (by decide) rfl ?_
  refine ww_aload_n (pc := 14) hC 1 rfl dX7_hourGoes_14 rfl ?_
  refine ww_getr (pc := 15) (Cl := RX7) (T := TX7) (N := 36) (j := 0) (ref := RX7) hC (h0 0 _ rfl) rfl inT_X7 (by decide) mw_876 rfl rfl dX7_hourGoes_15 ?_
  refine ww_bipush (pc := 18) (v := 45) hC dX7_hourGoes_18 rfl ?_
  refine ww_dup2 (pc := 20) hC dX7_hourGoes_20 rfl rfl ?_
  refine ww_iald_c (pc := 21) (j := 45) hC (h0 1 _ rfl) (by decide) rfl dX7_hourGoes_21 ?_
  refine ww_iconst (pc := 22) (v := 1) hC dX7_hourGoes_22 rfl ?_
  refine ww_iadd (pc := 23) hC dX7_hourGoes_23 ?_
  refine ww_iast_c (pc := 24) (j := 45) hC (h0 1 _ rfl) (by decide) rfl dX7_hourGoes_24 ?_
  refine ww_aload_n (pc := 25) hC 1 rfl dX7_hourGoes_25 rfl ?_
  refine ww_callVv (pc := 26) (st := []) (As := []) hC (c_X7_floatsNow o0 h0 (ww_up v9.2 (o0 + 1) 45 ((v9.2 (o0 + 1) 45) + 1))) mm_X7_floatsNow mw_1049 (h0 0 _ rfl) rfl (by omega) (by decide) (Nat.le_of_ble_eq_true rfl) rfl dX7_hourGoes_26 (fun v26 => ?_)
  refine ww_iload_n (pc := 29) hC 0 rfl dX7_hourGoes_29 rfl ?_
  exact ww_ireturn (pc := 30) hC hR dX7_hourGoes_30 rfl
theorem dX7_goes_0 : decode cX7_goes 0 = .ok (.iload_n 1, 1) := by decide +kernel
theorem dX7_goes_1 : decode cX7_goes 1 = .ok (.bipush (-4), 2) := by decide +kernel
theorem dX7_goes_3 : decode cX7_goes 3 = .ok (.if_icmp .eq 11, 3) := by decide +kernel
theorem dX7_goes_6 : decode cX7_goes 6 = .ok (.aload_n 0, 1) := by decide +kernel
theorem dX7_goes_7 : decode cX7_goes 7 = .ok (.iload_n 1, 1) := by decide +kernel
theorem dX7_goes_8 : decode cX7_goes 8 = .ok (.invokevirtual 191, 3) := by decide +kernel
theorem dX7_goes_11 : decode cX7_goes 11 = .ok (.ifCond .eq 32, 3) := by decide +kernel
theorem dX7_goes_14 : decode cX7_goes 14 = .ok (.iload_n 2, 1) := by decide +kernel
theorem dX7_goes_15 : decode cX7_goes 15 = .ok (.bipush (-4), 2) := by decide +kernel
theorem dX7_goes_17 : decode cX7_goes 17 = .ok (.if_icmp .eq 28, 3) := by decide +kernel
theorem dX7_goes_20 : decode cX7_goes 20 = .ok (.aload_n 0, 1) := by decide +kernel
theorem dX7_goes_21 : decode cX7_goes 21 = .ok (.iload_n 2, 1) := by decide +kernel
theorem dX7_goes_22 : decode cX7_goes 22 = .ok (.invokevirtual 191, 3) := by decide +kernel
theorem dX7_goes_25 : decode cX7_goes 25 = .ok (.ifCond .eq 18, 3) := by decide +kernel
theorem dX7_goes_28 : decode cX7_goes 28 = .ok (.iload_n 1, 1) := by decide +kernel
theorem dX7_goes_29 : decode cX7_goes 29 = .ok (.iload_n 2, 1) := by decide +kernel
theorem dX7_goes_30 : decode cX7_goes 30 = .ok (.if_icmp .eq 13, 3) := by decide +kernel
theorem dX7_goes_33 : decode cX7_goes 33 = .ok (.aload_n 0, 1) := by decide +kernel
theorem dX7_goes_34 : decode cX7_goes 34 = .ok (.getfield 7, 3) := by decide +kernel
theorem dX7_goes_37 : decode cX7_goes 37 = .ok (.bipush 14, 2) := by decide +kernel
theorem dX7_goes_39 : decode cX7_goes 39 = .ok (.iaload, 1) := by decide +kernel
theorem dX7_goes_40 : decode cX7_goes 40 = .ok (.ifCond .ne 5, 3) := by decide +kernel
theorem dX7_goes_43 : decode cX7_goes 43 = .ok (.iconst (-1), 1) := by decide +kernel
theorem dX7_goes_44 : decode cX7_goes 44 = .ok (.ireturn, 1) := by decide +kernel
theorem dX7_goes_45 : decode cX7_goes 45 = .ok (.iload_n 1, 1) := by decide +kernel
theorem dX7_goes_46 : decode cX7_goes 46 = .ok (.bipush (-4), 2) := by decide +kernel
theorem dX7_goes_48 : decode cX7_goes 48 = .ok (.if_icmp .eq 11, 3) := by decide +kernel
theorem dX7_goes_51 : decode cX7_goes 51 = .ok (.aload_n 0, 1) := by decide +kernel
theorem dX7_goes_52 : decode cX7_goes 52 = .ok (.iload_n 1, 1) := by decide +kernel
theorem dX7_goes_53 : decode cX7_goes 53 = .ok (.invokevirtual 198, 3) := by decide +kernel
theorem dX7_goes_56 : decode cX7_goes 56 = .ok (.ifCond .eq 17, 3) := by decide +kernel
theorem dX7_goes_59 : decode cX7_goes 59 = .ok (.iload_n 2, 1) := by decide +kernel
theorem dX7_goes_60 : decode cX7_goes 60 = .ok (.bipush (-4), 2) := by decide +kernel
theorem dX7_goes_62 : decode cX7_goes 62 = .ok (.if_icmp .eq 14, 3) := by decide +kernel
theorem dX7_goes_65 : decode cX7_goes 65 = .ok (.aload_n 0, 1) := by decide +kernel
theorem dX7_goes_66 : decode cX7_goes 66 = .ok (.iload_n 2, 1) := by decide +kernel
theorem dX7_goes_67 : decode cX7_goes 67 = .ok (.invokevirtual 198, 3) := by decide +kernel
theorem dX7_goes_70 : decode cX7_goes 70 = .ok (.ifCond .ne 6, 3) := by decide +kernel
theorem dX7_goes_73 : decode cX7_goes 73 = .ok (.bipush (-2), 2) := by decide +kernel
theorem dX7_goes_75 : decode cX7_goes 75 = .ok (.ireturn, 1) := by decide +kernel
theorem dX7_goes_76 : decode cX7_goes 76 = .ok (.aload_n 0, 1) := by decide +kernel
theorem dX7_goes_77 : decode cX7_goes 77 = .ok (.getfield 7, 3) := by decide +kernel
theorem dX7_goes_80 : decode cX7_goes 80 = .ok (.bipush 45, 2) := by decide +kernel
theorem dX7_goes_82 : decode cX7_goes 82 = .ok (.iaload, 1) := by decide +kernel
theorem dX7_goes_83 : decode cX7_goes 83 = .ok (.sipush 999, 3) := by decide +kernel
theorem dX7_goes_86 : decode cX7_goes 86 = .ok (.if_icmp .ne 8, 3) := by decide +kernel
theorem dX7_goes_89 : decode cX7_goes 89 = .ok (.bipush (-3), 2) := by decide +kernel
theorem dX7_goes_91 : decode cX7_goes 91 = .ok (.goto 9, 3) := by decide +kernel
theorem dX7_goes_94 : decode cX7_goes 94 = .ok (.aload_n 0, 1) := by decide +kernel
theorem dX7_goes_95 : decode cX7_goes 95 = .ok (.iload_n 1, 1) := by decide +kernel
theorem dX7_goes_96 : decode cX7_goes 96 = .ok (.iload_n 2, 1) := by decide +kernel
theorem dX7_goes_97 : decode cX7_goes 97 = .ok (.invokevirtual 217, 3) := by decide +kernel
theorem dX7_goes_100 : decode cX7_goes 100 = .ok (.ireturn, 1) := by decide +kernel
set_option maxHeartbeats 4000000 in
set_option maxRecDepth 100000 in
theorem c_X7_goes {l : Launch} {Y : ww_Y} {ad : Nat → Nat} {G : List ww_L} (o0 : Nat) (h0 : ww_at G o0 (ww_LModel o0)) (σ : ww_M) (p1 : Int32) (p2 : Int32) : ww_Cn l Y ad G yX7_goes cX7_goes 3 (some .int) 5 [.ref (ad o0), .int p1, .int p2] σ ((f_X7_goes σ o0 p1 p2).bind ww_rw) := by
  refine ww_met (by decide +kernel) (Nat.le_of_ble_eq_true rfl) ?_
  intro X hC hR
  have hC : ww_C X l Y ad G 5 cX7_goes 3 RX7 := hC
  show ww_V X Y ad G 3 σ 0 [(0, .ref (ad o0)), (1, .int p1), (2, .int p2)] [] ((f_X7_goes σ o0 p1 p2).bind ww_rw)
  have hJ76 : ∀ (σ : ww_M), ww_V X Y ad G 3 σ 76 [(0, .ref (ad o0)), (1, .int p1), (2, .int p2)] [] ((f_X7_goes_j76 σ o0 p1 p2).bind ww_rw) := by
    intro σ
    unfold f_X7_goes_j76
    refine ww_aload_n (pc := 76) hC 0 rfl dX7_goes_76 rfl ?_
    refine ww_getr (pc := 77) (Cl := RX7) (T := TX7) (N := 36) (j := 0) (ref := RX7) hC (h0 0 _ rfl) rfl inT_X7 (by decide) mw_876 rfl rfl dX7_goes_77 ?_
    refine ww_bipush (pc := 80) (v := 45) hC dX7_goes_80 rfl ?_
    refine ww_iald_c (pc := 82) (j := 45) hC (h0 1 _ rfl) (by decide) rfl dX7_goes_82 ?_
    refine ww_sipush (pc := 83) (v := 999) hC dX7_goes_83 rfl ?_
    refine ww_icmp_ne (pc := 86) (tgt := 94) hC dX7_goes_86 (by decide) ?_ ?_
    · refine ww_aload_n (pc := 94) hC 0 rfl dX7_goes_94 rfl ?_
      refine ww_iload_n (pc := 95) hC 1 rfl dX7_goes_95 rfl ?_
      refine ww_iload_n (pc := 96) hC 2 rfl dX7_goes_96 rfl ?_
      refine ww_callVw (pc := 97) (st := []) (As := [.int p1, .int p2]) hC (c_X7_hourGoes o0 h0 σ p1 p2) mm_X7_hourGoes mw_1156 (h0 0 _ rfl) rfl (by omega) (by decide) (Nat.le_of_ble_eq_true rfl) rfl dX7_goes_97 (fun v97 => ?_)
      exact ww_ireturn (pc := 100) hC hR dX7_goes_100 rfl
    · refine ww_bipush (pc := 89) (v := (-3)) hC dX7_goes_89 rfl ?_
      refine ww_goto (pc := 91) (tgt := 100) hC dX7_goes_91 (by decide) ?_
      exact ww_ireturn (pc := 100) hC hR dX7_goes_100 rfl
  have hJ59 : ∀ (σ : ww_M), ww_V X Y ad G 3 σ 59 [(0, .ref (ad o0)), (1, .int p1), (2, .int p2)] [] ((f_X7_goes_j59 σ o0 p1 p2).bind ww_rw) := by
    intro σ
    unfold f_X7_goes_j59
    refine ww_iload_n (pc := 59) hC 2 rfl dX7_goes_59 rfl ?_
    refine ww_bipush (pc := 60) (v := (-4)) hC dX7_goes_60 rfl ?_
    refine ww_icmp_eq (pc := 62) (tgt := 76) hC dX7_goes_62 (by decide) ?_ ?_
    · exact hJ76 σ
    · refine ww_aload_n (pc := 65) hC 0 rfl dX7_goes_65 rfl ?_
      refine ww_iload_n (pc := 66) hC 2 rfl dX7_goes_66 rfl ?_
      refine ww_callVi (pc := 67) (st := []) (As := [.int p2]) hC (c_X7_canBeWorked o0 h0 σ p2) mm_X7_canBeWorked mw_1109 (h0 0 _ rfl) rfl (by omega) (by decide) (Nat.le_of_ble_eq_true rfl) rfl dX7_goes_67 (fun v67 => ?_)
      refine ww_if_ne (pc := 70) (tgt := 76) hC dX7_goes_70 (by decide) ?_ ?_
      · exact hJ76 σ
      · refine ww_bipush (pc := 73) (v := (-2)) hC dX7_goes_73 rfl ?_
        exact ww_ireturn (pc := 75) hC hR dX7_goes_75 rfl
  have hJ45 : ∀ (σ : ww_M), ww_V X Y ad G 3 σ 45 [(0, .ref (ad o0)), (1, .int p1), (2, .int p2)] [] ((f_X7_goes_j45 σ o0 p1 p2).bind ww_rw) := by
    intro σ
    unfold f_X7_goes_j45
    refine ww_iload_n (pc := 45) hC 1 rfl dX7_goes_45 rfl ?_
    refine ww_bipush (pc := 46) (v := (-4)) hC dX7_goes_46 rfl ?_
    refine ww_icmp_eq (pc := 48) (tgt := 59) hC dX7_goes_48 (by decide) ?_ ?_
    · exact hJ59 σ
    · refine ww_aload_n (pc := 51) hC 0 rfl dX7_goes_51 rfl ?_
      refine ww_iload_n (pc := 52) hC 1 rfl dX7_goes_52 rfl ?_
      refine ww_callVi (pc := 53) (st := []) (As := [.int p1]) hC (c_X7_canBeWorked o0 h0 σ p1) mm_X7_canBeWorked mw_1109 (h0 0 _ rfl) rfl (by omega) (by decide) (Nat.le_of_ble_eq_true rfl) rfl dX7_goes_53 (fun v53 => ?_)
      refine ww_if_eq (pc := 56) (tgt := 73) hC dX7_goes_56 (by decide) ?_ ?_
      · refine ww_bipush (pc := 73) (v := (-2)) hC dX7_goes_73 rfl ?_
        exact ww_ireturn (pc := 75) hC hR dX7_goes_75 rfl
      · exact hJ59 σ
  have hJ14 : ∀ (σ : ww_M), ww_V X Y ad G 3 σ 14 [(0, .ref (ad o0)), (1, .int p1), (2, .int p2)] [] ((f_X7_goes_j14 σ o0 p1 p2).bind ww_rw) := by
    intro σ
    unfold f_X7_goes_j14
    refine ww_iload_n (pc := 14) hC 2 rfl dX7_goes_14 rfl ?_
    refine ww_bipush (pc := 15) (v := (-4)) hC dX7_goes_15 rfl ?_
    refine ww_icmp_eq (pc := 17) (tgt := 45) hC dX7_goes_17 (by decide) ?_ ?_
    · exact hJ45 σ
    · refine ww_aload_n (pc := 20) hC 0 rfl dX7_goes_20 rfl ?_
      refine ww_iload_n (pc := 21) hC 2 rfl dX7_goes_21 rfl ?_
      refine ww_callVi (pc := 22) (st := []) (As := [.int p2]) hC (c_X7_isPart o0 h0 σ p2) mm_X7_isPart mw_1098 (h0 0 _ rfl) rfl (by omega) (by decide) (Nat.le_of_ble_eq_true rfl) rfl dX7_goes_22 (fun v22 => ?_)
      refine ww_if_eq (pc := 25) (tgt := 43) hC dX7_goes_25 (by decide) ?_ ?_
      · refine ww_iconst (pc := 43) (v := (-1)) hC dX7_goes_43 rfl ?_
        exact ww_ireturn (pc := 44) hC hR dX7_goes_44 rfl
      · refine ww_iload_n (pc := 28) hC 1 rfl dX7_goes_28 rfl ?_
        refine ww_iload_n (pc := 29) hC 2 rfl dX7_goes_29 rfl ?_
        refine ww_icmp_eq (pc := 30) (tgt := 43) hC dX7_goes_30 (by decide) ?_ ?_
        · refine ww_iconst (pc := 43) (v := (-1)) hC dX7_goes_43 rfl ?_
          exact ww_ireturn (pc := 44) hC hR dX7_goes_44 rfl
        · refine ww_aload_n (pc := 33) hC 0 rfl dX7_goes_33 rfl ?_
          refine ww_getr (pc := 34) (Cl := RX7) (T := TX7) (N := 36) (j := 0) (ref := RX7) hC (h0 0 _ rfl) rfl inT_X7 (by decide) mw_876 rfl rfl dX7_goes_34 ?_
          refine ww_bipush (pc := 37) (v := 14) hC dX7_goes_37 rfl ?_
          refine ww_iald_c (pc := 39) (j := 14) hC (h0 1 _ rfl) (by decide) rfl dX7_goes_39 ?_
          refine ww_if_ne (pc := 40) (tgt := 45) hC dX7_goes_40 (by decide) ?_ ?_
          · exact hJ45 σ
          · refine ww_iconst (pc := 43) (v := (-1)) hC dX7_goes_43 rfl ?_
            exact ww_ireturn (pc := 44) hC hR dX7_goes_44 rfl
  unfold f_X7_goes
  refine ww_iload_n (pc := 0) hC 1 rfl dX7_goes_0 rfl ?_
  refine ww_bipush (pc := 1) (v := (-4)) hC dX7_goes_1 rfl ?_
  refine ww_icmp_eq (pc := 3) (tgt := 14) hC dX7_goes_3 (by decide) ?_ ?_
  · exact hJ14 σ
  · refine ww_aload_n (pc := 6) hC 0 rfl dX7_goes_6 rfl ?_
    refine ww_iload_n (pc := 7) hC 1 rfl dX7_goes_7 rfl ?_
    refine ww_callVi (pc := 8) (st := []) (As := [.int p1]) hC (c_X7_isPart o0 h0 σ p1) mm_X7_isPart mw_1098 (h0 0 _ rfl) rfl (by omega) (by decide) (Nat.le_of_ble_eq_true rfl) rfl dX7_goes_8 (fun v8 => ?_)
    refine ww_if_eq (pc := 11) (tgt := 43) hC dX7_goes_11 (by decide) ?_ ?_
    · refine ww_iconst (pc := 43) (v := (-1)) hC dX7_goes_43 rfl ?_
      exact ww_ireturn (pc := 44) hC hR dX7_goes_44 rfl
    · exact hJ14 σ
theorem dX7_go_0 : decode cX7_go 0 = .ok (.aload_n 0, 1) := by decide +kernel
theorem dX7_go_1 : decode cX7_go 1 = .ok (.iload_n 1, 1) := by decide +kernel
theorem dX7_go_2 : decode cX7_go 2 = .ok (.iload_n 2, 1) := by decide +kernel
theorem dX7_go_3 : decode cX7_go 3 = .ok (.invokevirtual 220, 3) := by decide +kernel
theorem dX7_go_6 : decode cX7_go 6 = .ok (.ireturn, 1) := by decide +kernel
set_option maxHeartbeats 4000000 in
set_option maxRecDepth 100000 in
theorem c_X7_go {l : Launch} {Y : ww_Y} {ad : Nat → Nat} {G : List ww_L} (o0 : Nat) (h0 : ww_at G o0 (ww_LModel o0)) (σ : ww_M) (p1 : Int32) (p2 : Int32) : ww_Cn l Y ad G yX7_go cX7_go 3 (some .int) 6 [.ref (ad o0), .int p1, .int p2] σ ((f_X7_go σ o0 p1 p2).bind ww_rw) := by
  refine ww_met (by decide +kernel) (Nat.le_of_ble_eq_true rfl) ?_
  intro X hC hR
  have hC : ww_C X l Y ad G 6 cX7_go 3 RX7 := hC
  show ww_V X Y ad G 3 σ 0 [(0, .ref (ad o0)), (1, .int p1), (2, .int p2)] [] ((f_X7_go σ o0 p1 p2).bind ww_rw)
  unfold f_X7_go
  refine ww_aload_n (pc := 0) hC 0 rfl dX7_go_0 rfl ?_
  refine ww_iload_n (pc := 1) hC 1 rfl dX7_go_1 rfl ?_
  refine ww_iload_n (pc := 2) hC 2 rfl dX7_go_2 rfl ?_
  refine ww_callVw (pc := 3) (st := []) (As := [.int p1, .int p2]) hC (c_X7_goes o0 h0 σ p1 p2) mm_X7_goes mw_1152 (h0 0 _ rfl) rfl (by omega) (by decide) (Nat.le_of_ble_eq_true rfl) rfl dX7_go_3 (fun v3 => ?_)
  exact ww_ireturn (pc := 6) hC hR dX7_go_6 rfl
theorem dX7_wet_0 : decode cX7_wet 0 = .ok (.iload_n 1, 1) := by decide +kernel
theorem dX7_wet_1 : decode cX7_wet 1 = .ok (.i2l, 1) := by decide +kernel
theorem dX7_wet_2 : decode cX7_wet 2 = .ok (.lconst 0, 1) := by decide +kernel
theorem dX7_wet_3 : decode cX7_wet 3 = .ok (.ldc2_w 178, 3) := by decide +kernel
theorem dX7_wet_6 : decode cX7_wet 6 = .ok (.invokestatic 68, 3) := by decide +kernel
theorem dX7_wet_9 : decode cX7_wet 9 = .ok (.ifCond .ne 5, 3) := by decide +kernel
theorem dX7_wet_12 : decode cX7_wet 12 = .ok (.iconst (-1), 1) := by decide +kernel
theorem dX7_wet_13 : decode cX7_wet 13 = .ok (.ireturn, 1) := by decide +kernel
theorem dX7_wet_14 : decode cX7_wet 14 = .ok (.iconst 0, 1) := by decide +kernel
theorem dX7_wet_15 : decode cX7_wet 15 = .ok (.istore_n 2, 1) := by decide +kernel
theorem dX7_wet_16 : decode cX7_wet 16 = .ok (.iconst 0, 1) := by decide +kernel
theorem dX7_wet_17 : decode cX7_wet 17 = .ok (.istore_n 3, 1) := by decide +kernel
theorem dX7_wet_18 : decode cX7_wet 18 = .ok (.iload_n 3, 1) := by decide +kernel
theorem dX7_wet_19 : decode cX7_wet 19 = .ok (.aload_n 0, 1) := by decide +kernel
theorem dX7_wet_20 : decode cX7_wet 20 = .ok (.getfield 156, 3) := by decide +kernel
theorem dX7_wet_23 : decode cX7_wet 23 = .ok (.if_icmp .ge 28, 3) := by decide +kernel
theorem dX7_wet_26 : decode cX7_wet 26 = .ok (.iload_n 2, 1) := by decide +kernel
theorem dX7_wet_27 : decode cX7_wet 27 = .ok (.aload_n 0, 1) := by decide +kernel
theorem dX7_wet_28 : decode cX7_wet 28 = .ok (.iload_n 3, 1) := by decide +kernel
theorem dX7_wet_29 : decode cX7_wet 29 = .ok (.iload_n 1, 1) := by decide +kernel
theorem dX7_wet_30 : decode cX7_wet 30 = .ok (.invokevirtual 180, 3) := by decide +kernel
theorem dX7_wet_33 : decode cX7_wet 33 = .ok (.ifCond .eq 9, 3) := by decide +kernel
theorem dX7_wet_36 : decode cX7_wet 36 = .ok (.iconst 1, 1) := by decide +kernel
theorem dX7_wet_37 : decode cX7_wet 37 = .ok (.iload_n 3, 1) := by decide +kernel
theorem dX7_wet_38 : decode cX7_wet 38 = .ok (.ishl, 1) := by decide +kernel
theorem dX7_wet_39 : decode cX7_wet 39 = .ok (.goto 4, 3) := by decide +kernel
theorem dX7_wet_42 : decode cX7_wet 42 = .ok (.iconst 0, 1) := by decide +kernel
theorem dX7_wet_43 : decode cX7_wet 43 = .ok (.ior, 1) := by decide +kernel
theorem dX7_wet_44 : decode cX7_wet 44 = .ok (.istore_n 2, 1) := by decide +kernel
theorem dX7_wet_45 : decode cX7_wet 45 = .ok (.iinc 3 1, 3) := by decide +kernel
theorem dX7_wet_48 : decode cX7_wet 48 = .ok (.goto (-30), 3) := by decide +kernel
theorem dX7_wet_51 : decode cX7_wet 51 = .ok (.iload_n 2, 1) := by decide +kernel
theorem dX7_wet_52 : decode cX7_wet 52 = .ok (.ireturn, 1) := by decide +kernel
set_option maxHeartbeats 4000000 in
set_option maxRecDepth 100000 in
theorem c_X7_wet {l : Launch} {Y : ww_Y} {ad : Nat → Nat} {G : List ww_L} (o0 : Nat) (h0 : ww_at G o0 (ww_LModel o0)) (σ : ww_M) (p1 : Int32) : ww_Cn l Y ad G yX7_wet cX7_wet 4 (some .int) 2 [.ref (ad o0), .int p1] σ ((f_X7_wet σ o0 p1).bind (ww_ri σ)) := by
  refine ww_met (by decide +kernel) (Nat.le_of_ble_eq_true rfl) ?_
  intro X hC hR
  have hC : ww_C X l Y ad G 2 cX7_wet 4 RX7 := hC
  show ww_V X Y ad G 4 σ 0 [(0, .ref (ad o0)), (1, .int p1)] [] ((f_X7_wet σ o0 p1).bind (ww_ri σ))
  have hJ51 : ∀ (x2 : Int32), ww_V X Y ad G 4 σ 51 [(2, .int x2)] [] ((f_X7_wet_j51 σ o0 p1 x2).bind (ww_ri σ)) := by
    intro x2
    unfold f_X7_wet_j51
    refine ww_iload_n (pc := 51) hC 0 rfl dX7_wet_51 rfl ?_
    exact ww_ireturn (pc := 52) hC hR dX7_wet_52 rfl
  have hJ18 : ∀ (x2 : Int32) (x3 : Int32), ww_V X Y ad G 4 σ 18 [(0, .ref (ad o0)), (1, .int p1), (2, .int x2), (3, .int x3)] [] ((f_X7_wet_j18 σ o0 p1 x2 x3).bind (ww_ri σ)) := by
    intro x2 x3
    unfold f_X7_wet_j18
    refine ww_assoc ?_
    refine ww_loop (f := f_X7_wet_b18 σ o0 p1) (fun a18 => σ) (fun a18 => [(0, .ref (ad o0)), (1, .int p1), (2, .int a18.1), (3, .int a18.2)]) (fun b18 => σ) (fun b18 => [(2, .int b18)]) 51 (fun b18 => ?_) (fun a18 KK18 hc18 hx18 => ?_) ww_F (x2, x3)
    · exact hJ51 b18
    · unfold f_X7_wet_b18
      refine ww_iload_n (pc := 18) hC 3 rfl dX7_wet_18 rfl ?_
      refine ww_aload_n (pc := 19) hC 0 rfl dX7_wet_19 rfl ?_
      refine ww_geti (pc := 20) (Cl := RX7) (T := TX7) (N := 36) (j := 3) (ref := RX7) hC (h0 0 _ rfl) rfl inT_X7 (by decide) mw_879 rfl rfl dX7_wet_20 ?_
      refine ww_icmp_ge (pc := 23) (tgt := 51) hC dX7_wet_23 (by decide) ?_ ?_
      · refine ww_lv [2] rfl ?_
        exact hx18 a18.1
      · refine ww_iload_n (pc := 26) hC 2 rfl dX7_wet_26 rfl ?_
        refine ww_aload_n (pc := 27) hC 0 rfl dX7_wet_27 rfl ?_
        refine ww_iload_n (pc := 28) hC 3 rfl dX7_wet_28 rfl ?_
        refine ww_iload_n (pc := 29) hC 1 rfl dX7_wet_29 rfl ?_
        refine ww_callVi (pc := 30) (st := [.int a18.1]) (As := [.int a18.2, .int p1]) hC (c_X7_isWet o0 h0 σ a18.2 p1) mm_X7_isWet mw_1057 (h0 0 _ rfl) rfl (by omega) (by decide) (Nat.le_of_ble_eq_true rfl) rfl dX7_wet_30 (fun v30 => ?_)
        refine ww_if_eq (pc := 33) (tgt := 42) hC dX7_wet_33 (by decide) ?_ ?_
        · refine ww_iconst (pc := 42) (v := 0) hC dX7_wet_42 rfl ?_
          refine ww_ior (pc := 43) hC dX7_wet_43 ?_
          refine ww_istore_n (pc := 44) (lv' := [(2, .int (a18.1 ||| 0)), (0, .ref (ad o0)), (1, .int p1), (3, .int a18.2)]) hC dX7_wet_44 rfl (by decide) rfl ?_
          refine ww_iinc (pc := 45) (v := a18.2 + 1) (lv' := [(3, .int (a18.2 + 1)), (2, .int (a18.1 ||| 0)), (0, .ref (ad o0)), (1, .int p1)]) hC 3 rfl dX7_wet_45 rfl (by decide) rfl ?_
          refine ww_goto (pc := 48) (tgt := 18) hC dX7_wet_48 (by decide) ?_
          refine ww_lv [2, 3, 1, 0] rfl ?_
          exact hc18 (a18.1 ||| 0, a18.2 + 1)
        · refine ww_iconst (pc := 36) (v := 1) hC dX7_wet_36 rfl ?_
          refine ww_iload_n (pc := 37) hC 3 rfl dX7_wet_37 rfl ?_
          refine ww_ishl (pc := 38) hC dX7_wet_38 ?_
          refine ww_goto (pc := 39) (tgt := 43) hC dX7_wet_39 (by decide) ?_
          refine ww_ior (pc := 43) hC dX7_wet_43 ?_
          refine ww_istore_n (pc := 44) (lv' := [(2, .int (a18.1 ||| (ww_shl 1 a18.2))), (0, .ref (ad o0)), (1, .int p1), (3, .int a18.2)]) hC dX7_wet_44 rfl (by decide) rfl ?_
          refine ww_iinc (pc := 45) (v := a18.2 + 1) (lv' := [(3, .int (a18.2 + 1)), (2, .int (a18.1 ||| (ww_shl 1 a18.2))), (0, .ref (ad o0)), (1, .int p1)]) hC 3 rfl dX7_wet_45 rfl (by decide) rfl ?_
          refine ww_goto (pc := 48) (tgt := 18) hC dX7_wet_48 (by decide) ?_
          refine ww_lv [2, 3, 1, 0] rfl ?_
          exact hc18 (a18.1 ||| (ww_shl 1 a18.2), a18.2 + 1)
  unfold f_X7_wet
  refine ww_iload_n (pc := 0) hC 1 rfl dX7_wet_0 rfl ?_
  refine ww_i2l (pc := 1) hC dX7_wet_1 ?_
  refine ww_lconst (pc := 2) (v := 0) hC dX7_wet_2 rfl ?_
  refine ww_ldc2 (pc := 3) hC dX7_wet_3 mw_1085 ?_
  refine ww_callSi (pc := 6) (st := []) (As := [.long p1.toInt64, .long 0, .long 999]) hC (c_X7_in σ p1.toInt64 0 999) mm_X7_in mw_991 (by omega) (by decide) (Nat.le_of_ble_eq_true rfl) rfl dX7_wet_6 (fun v6 => ?_)
  refine ww_if_ne (pc := 9) (tgt := 14) hC dX7_wet_9 (by decide) ?_ ?_
  · refine ww_iconst (pc := 14) (v := 0) hC dX7_wet_14 rfl ?_
    refine ww_istore_n (pc := 15) (lv' := [(2, .int 0), (0, .ref (ad o0)), (1, .int p1)]) hC dX7_wet_15 rfl (by decide) rfl ?_
    refine ww_iconst (pc := 16) (v := 0) hC dX7_wet_16 rfl ?_
    refine ww_istore_n (pc := 17) (lv' := [(3, .int 0), (2, .int 0), (0, .ref (ad o0)), (1, .int p1)]) hC dX7_wet_17 rfl (by decide) rfl ?_
    refine ww_lv [2, 3, 1, 0] rfl ?_
    exact hJ18 0 0
  · refine ww_iconst (pc := 12) (v := (-1)) hC dX7_wet_12 rfl ?_
    exact ww_ireturn (pc := 13) hC hR dX7_wet_13 rfl
theorem dX7_floats_0 : decode cX7_floats 0 = .ok (.aload_n 0, 1) := by decide +kernel
theorem dX7_floats_1 : decode cX7_floats 1 = .ok (.iload_n 1, 1) := by decide +kernel
theorem dX7_floats_2 : decode cX7_floats 2 = .ok (.invokevirtual 168, 3) := by decide +kernel
theorem dX7_floats_5 : decode cX7_floats 5 = .ok (.ifCond .ne 5, 3) := by decide +kernel
theorem dX7_floats_8 : decode cX7_floats 8 = .ok (.iconst (-1), 1) := by decide +kernel
theorem dX7_floats_9 : decode cX7_floats 9 = .ok (.ireturn, 1) := by decide +kernel
theorem dX7_floats_10 : decode cX7_floats 10 = .ok (.aload_n 0, 1) := by decide +kernel
theorem dX7_floats_11 : decode cX7_floats 11 = .ok (.getfield 7, 3) := by decide +kernel
theorem dX7_floats_14 : decode cX7_floats 14 = .ok (.bipush 15, 2) := by decide +kernel
theorem dX7_floats_16 : decode cX7_floats 16 = .ok (.iload_n 1, 1) := by decide +kernel
theorem dX7_floats_17 : decode cX7_floats 17 = .ok (.iadd, 1) := by decide +kernel
theorem dX7_floats_18 : decode cX7_floats 18 = .ok (.iaload, 1) := by decide +kernel
theorem dX7_floats_19 : decode cX7_floats 19 = .ok (.iconst 1, 1) := by decide +kernel
theorem dX7_floats_20 : decode cX7_floats 20 = .ok (.if_icmp .ne 6, 3) := by decide +kernel
theorem dX7_floats_23 : decode cX7_floats 23 = .ok (.bipush (-2), 2) := by decide +kernel
theorem dX7_floats_25 : decode cX7_floats 25 = .ok (.ireturn, 1) := by decide +kernel
theorem dX7_floats_26 : decode cX7_floats 26 = .ok (.aload_n 0, 1) := by decide +kernel
theorem dX7_floats_27 : decode cX7_floats 27 = .ok (.getfield 7, 3) := by decide +kernel
theorem dX7_floats_30 : decode cX7_floats 30 = .ok (.bipush 45, 2) := by decide +kernel
theorem dX7_floats_32 : decode cX7_floats 32 = .ok (.iaload, 1) := by decide +kernel
theorem dX7_floats_33 : decode cX7_floats 33 = .ok (.istore_n 2, 1) := by decide +kernel
theorem dX7_floats_34 : decode cX7_floats 34 = .ok (.iload_n 2, 1) := by decide +kernel
theorem dX7_floats_35 : decode cX7_floats 35 = .ok (.aload_n 0, 1) := by decide +kernel
theorem dX7_floats_36 : decode cX7_floats 36 = .ok (.getfield 7, 3) := by decide +kernel
theorem dX7_floats_39 : decode cX7_floats 39 = .ok (.bipush 45, 2) := by decide +kernel
theorem dX7_floats_41 : decode cX7_floats 41 = .ok (.iaload, 1) := by decide +kernel
theorem dX7_floats_42 : decode cX7_floats 42 = .ok (.bipush 60, 2) := by decide +kernel
theorem dX7_floats_44 : decode cX7_floats 44 = .ok (.iadd, 1) := by decide +kernel
theorem dX7_floats_45 : decode cX7_floats 45 = .ok (.if_icmp .ge 37, 3) := by decide +kernel
theorem dX7_floats_48 : decode cX7_floats 48 = .ok (.aload_n 0, 1) := by decide +kernel
theorem dX7_floats_49 : decode cX7_floats 49 = .ok (.aload_n 0, 1) := by decide +kernel
theorem dX7_floats_50 : decode cX7_floats 50 = .ok (.getfield 20, 3) := by decide +kernel
theorem dX7_floats_53 : decode cX7_floats 53 = .ok (.iconst 2, 1) := by decide +kernel
theorem dX7_floats_54 : decode cX7_floats 54 = .ok (.iload_n 1, 1) := by decide +kernel
theorem dX7_floats_55 : decode cX7_floats 55 = .ok (.imul, 1) := by decide +kernel
theorem dX7_floats_56 : decode cX7_floats 56 = .ok (.iaload, 1) := by decide +kernel
theorem dX7_floats_57 : decode cX7_floats 57 = .ok (.aload_n 0, 1) := by decide +kernel
theorem dX7_floats_58 : decode cX7_floats 58 = .ok (.getfield 20, 3) := by decide +kernel
theorem dX7_floats_61 : decode cX7_floats 61 = .ok (.iconst 2, 1) := by decide +kernel
theorem dX7_floats_62 : decode cX7_floats 62 = .ok (.iload_n 1, 1) := by decide +kernel
theorem dX7_floats_63 : decode cX7_floats 63 = .ok (.imul, 1) := by decide +kernel
theorem dX7_floats_64 : decode cX7_floats 64 = .ok (.iconst 1, 1) := by decide +kernel
theorem dX7_floats_65 : decode cX7_floats 65 = .ok (.iadd, 1) := by decide +kernel
theorem dX7_floats_66 : decode cX7_floats 66 = .ok (.iaload, 1) := by decide +kernel
theorem dX7_floats_67 : decode cX7_floats 67 = .ok (.iload_n 2, 1) := by decide +kernel
theorem dX7_floats_68 : decode cX7_floats 68 = .ok (.invokevirtual 184, 3) := by decide +kernel
theorem dX7_floats_71 : decode cX7_floats 71 = .ok (.ifCond .eq 5, 3) := by decide +kernel
theorem dX7_floats_74 : decode cX7_floats 74 = .ok (.iload_n 2, 1) := by decide +kernel
theorem dX7_floats_75 : decode cX7_floats 75 = .ok (.ireturn, 1) := by decide +kernel
theorem dX7_floats_76 : decode cX7_floats 76 = .ok (.iinc 2 1, 3) := by decide +kernel
theorem dX7_floats_79 : decode cX7_floats 79 = .ok (.goto (-45), 3) := by decide +kernel
theorem dX7_floats_82 : decode cX7_floats 82 = .ok (.bipush (-4), 2) := by decide +kernel
theorem dX7_floats_84 : decode cX7_floats 84 = .ok (.ireturn, 1) := by decide +kernel
set_option maxHeartbeats 4000000 in
set_option maxRecDepth 100000 in
theorem c_X7_floats {l : Launch} {Y : ww_Y} {ad : Nat → Nat} {G : List ww_L} (o0 : Nat) (h0 : ww_at G o0 (ww_LModel o0)) (σ : ww_M) (p1 : Int32) : ww_Cn l Y ad G yX7_floats cX7_floats 3 (some .int) 3 [.ref (ad o0), .int p1] σ ((f_X7_floats σ o0 p1).bind (ww_ri σ)) := by
  refine ww_met (by decide +kernel) (Nat.le_of_ble_eq_true rfl) ?_
  intro X hC hR
  have hC : ww_C X l Y ad G 3 cX7_floats 3 RX7 := hC
  show ww_V X Y ad G 3 σ 0 [(0, .ref (ad o0)), (1, .int p1)] [] ((f_X7_floats σ o0 p1).bind (ww_ri σ))
  have hJ82 : ww_V X Y ad G 3 σ 82 [] [] ((f_X7_floats_j82 σ o0 p1).bind (ww_ri σ)) := by
    unfold f_X7_floats_j82
    refine ww_bipush (pc := 82) (v := (-4)) hC dX7_floats_82 rfl ?_
    exact ww_ireturn (pc := 84) hC hR dX7_floats_84 rfl
  have hJ34 : ∀ (x2 : Int32), ww_V X Y ad G 3 σ 34 [(0, .ref (ad o0)), (1, .int p1), (2, .int x2)] [] ((f_X7_floats_j34 σ o0 p1 x2).bind (ww_ri σ)) := by
    intro x2
    unfold f_X7_floats_j34
    refine ww_assoc ?_
    refine ww_loopR (f := f_X7_floats_b34 σ o0 p1) (fun a34 => σ) (fun a34 => [(0, .ref (ad o0)), (1, .int p1), (2, .int a34)]) (fun b34 => σ) (fun b34 => []) 82 (fun b34 => ?_) (fun a34 KK34 hc34 hx34 hr34 => ?_) ww_F x2
    · exact hJ82
    · unfold f_X7_floats_b34
      refine ww_iload_n (pc := 34) hC 2 rfl dX7_floats_34 rfl ?_
      refine ww_aload_n (pc := 35) hC 0 rfl dX7_floats_35 rfl ?_
      refine ww_getr (pc := 36) (Cl := RX7) (T := TX7) (N := 36) (j := 0) (ref := RX7) hC (h0 0 _ rfl) rfl inT_X7 (by decide) mw_876 rfl rfl dX7_floats_36 ?_
      refine ww_bipush (pc := 39) (v := 45) hC dX7_floats_39 rfl ?_
      refine ww_iald_c (pc := 41) (j := 45) hC (h0 1 _ rfl) (by decide) rfl dX7_floats_41 ?_
      refine ww_bipush (pc := 42) (v := 60) hC dX7_floats_42 rfl ?_
      refine ww_iadd (pc := 44) hC dX7_floats_44 ?_
      refine ww_icmp_ge (pc := 45) (tgt := 82) hC dX7_floats_45 (by decide) ?_ ?_
      · refine ww_lv [] rfl ?_
        exact hx34 ()
      · refine ww_aload_n (pc := 48) hC 0 rfl dX7_floats_48 rfl ?_
        refine ww_aload_n (pc := 49) hC 0 rfl dX7_floats_49 rfl ?_
        refine ww_getr (pc := 50) (Cl := RX7) (T := TX7) (N := 36) (j := 4) (ref := RX7) hC (h0 0 _ rfl) rfl inT_X7 (by decide) mw_880 rfl rfl dX7_floats_50 ?_
        refine ww_iconst (pc := 53) (v := 2) hC dX7_floats_53 rfl ?_
        refine ww_iload_n (pc := 54) hC 1 rfl dX7_floats_54 rfl ?_
        refine ww_imul (pc := 55) hC dX7_floats_55 ?_
        refine ww_iald (pc := 56) hC (h0 3 _ rfl) dX7_floats_56 ?_
        refine ww_aload_n (pc := 57) hC 0 rfl dX7_floats_57 rfl ?_
        refine ww_getr (pc := 58) (Cl := RX7) (T := TX7) (N := 36) (j := 4) (ref := RX7) hC (h0 0 _ rfl) rfl inT_X7 (by decide) mw_880 rfl rfl dX7_floats_58 ?_
        refine ww_iconst (pc := 61) (v := 2) hC dX7_floats_61 rfl ?_
        refine ww_iload_n (pc := 62) hC 1 rfl dX7_floats_62 rfl ?_
        refine ww_imul (pc := 63) hC dX7_floats_63 ?_
        refine ww_iconst (pc := 64) (v := 1) hC dX7_floats_64 rfl ?_
        refine ww_iadd (pc := 65) hC dX7_floats_65 ?_
        refine ww_iald (pc := 66) hC (h0 3 _ rfl) dX7_floats_66 ?_
        refine ww_iload_n (pc := 67) hC 2 rfl dX7_floats_67 rfl ?_
        refine ww_callVi (pc := 68) (st := []) (As := [.int (σ (o0 + 3) (ww_ix (2 * p1))), .int (σ (o0 + 3) (ww_ix ((2 * p1) + 1))), .int a34]) hC (c_X7_floatsIn o0 h0 σ (σ (o0 + 3) (ww_ix (2 * p1))) (σ (o0 + 3) (ww_ix ((2 * p1) + 1))) a34) mm_X7_floatsIn mw_1053 (h0 0 _ rfl) rfl (by omega) (by decide) (Nat.le_of_ble_eq_true rfl) rfl dX7_floats_68 (fun v68 => ?_)
        refine ww_if_eq (pc := 71) (tgt := 76) hC dX7_floats_71 (by decide) ?_ ?_
        · refine ww_iinc (pc := 76) (v := a34 + 1) (lv' := [(2, .int (a34 + 1)), (0, .ref (ad o0)), (1, .int p1)]) hC 2 rfl dX7_floats_76 rfl (by decide) rfl ?_
          refine ww_goto (pc := 79) (tgt := 34) hC dX7_floats_79 (by decide) ?_
          refine ww_lv [1, 2, 0] rfl ?_
          exact hc34 (a34 + 1)
        · refine ww_iload_n (pc := 74) hC 2 rfl dX7_floats_74 rfl ?_
          exact ww_ireturn (pc := 75) hC hR dX7_floats_75 ((hr34 _).trans rfl)
  unfold f_X7_floats
  refine ww_aload_n (pc := 0) hC 0 rfl dX7_floats_0 rfl ?_
  refine ww_iload_n (pc := 1) hC 1 rfl dX7_floats_1 rfl ?_
  refine ww_callVi (pc := 2) (st := []) (As := [.int p1]) hC (c_X7_isBeast o0 h0 σ p1) mm_X7_isBeast mw_1090 (h0 0 _ rfl) rfl (by omega) (by decide) (Nat.le_of_ble_eq_true rfl) rfl dX7_floats_2 (fun v2 => ?_)
  refine ww_if_ne (pc := 5) (tgt := 10) hC dX7_floats_5 (by decide) ?_ ?_
  · refine ww_aload_n (pc := 10) hC 0 rfl dX7_floats_10 rfl ?_
    refine ww_getr (pc := 11) (Cl := RX7) (T := TX7) (N := 36) (j := 0) (ref := RX7) hC (h0 0 _ rfl) rfl inT_X7 (by decide) mw_876 rfl rfl dX7_floats_11 ?_
    refine ww_bipush (pc := 14) (v := 15) hC dX7_floats_14 rfl ?_
    refine ww_iload_n (pc := 16) hC 1 rfl dX7_floats_16 rfl ?_
    refine ww_iadd (pc := 17) hC dX7_floats_17 ?_
    refine ww_iald (pc := 18) hC (h0 1 _ rfl) dX7_floats_18 ?_
    refine ww_iconst (pc := 19) (v := 1) hC dX7_floats_19 rfl ?_
    refine ww_icmp_ne (pc := 20) (tgt := 26) hC dX7_floats_20 (by decide) ?_ ?_
    · refine ww_aload_n (pc := 26) hC 0 rfl dX7_floats_26 rfl ?_
      refine ww_getr (pc := 27) (Cl := RX7) (T := TX7) (N := 36) (j := 0) (ref := RX7) hC (h0 0 _ rfl) rfl inT_X7 (by decide) mw_876 rfl rfl dX7_floats_27 ?_
      refine ww_bipush (pc := 30) (v := 45) hC dX7_floats_30 rfl ?_
      refine ww_iald_c (pc := 32) (j := 45) hC (h0 1 _ rfl) (by decide) rfl dX7_floats_32 ?_
      refine ww_istore_n (pc := 33) (lv' := [(2, .int (σ (o0 + 1) 45)), (0, .ref (ad o0)), (1, .int p1)]) hC dX7_floats_33 rfl (by decide) rfl ?_
      refine ww_lv [1, 2, 0] rfl ?_
      exact hJ34 (σ (o0 + 1) 45)
    · refine ww_bipush (pc := 23) (v := (-2)) hC dX7_floats_23 rfl ?_
      exact ww_ireturn (pc := 25) hC hR dX7_floats_25 rfl
  · refine ww_iconst (pc := 8) (v := (-1)) hC dX7_floats_8 rfl ?_
    exact ww_ireturn (pc := 9) hC hR dX7_floats_9 rfl
theorem dX7_has_0 : decode cX7_has 0 = .ok (.iload_n 1, 1) := by decide +kernel
theorem dX7_has_1 : decode cX7_has 1 = .ok (.i2l, 1) := by decide +kernel
theorem dX7_has_2 : decode cX7_has 2 = .ok (.lconst 0, 1) := by decide +kernel
theorem dX7_has_3 : decode cX7_has 3 = .ok (.ldc2_w 210, 3) := by decide +kernel
theorem dX7_has_6 : decode cX7_has 6 = .ok (.invokestatic 68, 3) := by decide +kernel
theorem dX7_has_9 : decode cX7_has 9 = .ok (.ifCond .eq 15, 3) := by decide +kernel
theorem dX7_has_12 : decode cX7_has 12 = .ok (.aload_n 0, 1) := by decide +kernel
theorem dX7_has_13 : decode cX7_has 13 = .ok (.getfield 7, 3) := by decide +kernel
theorem dX7_has_16 : decode cX7_has 16 = .ok (.bipush 46, 2) := by decide +kernel
theorem dX7_has_18 : decode cX7_has 18 = .ok (.iload_n 1, 1) := by decide +kernel
theorem dX7_has_19 : decode cX7_has 19 = .ok (.iadd, 1) := by decide +kernel
theorem dX7_has_20 : decode cX7_has 20 = .ok (.iaload, 1) := by decide +kernel
theorem dX7_has_21 : decode cX7_has 21 = .ok (.goto 4, 3) := by decide +kernel
theorem dX7_has_24 : decode cX7_has 24 = .ok (.iconst (-1), 1) := by decide +kernel
theorem dX7_has_25 : decode cX7_has 25 = .ok (.ireturn, 1) := by decide +kernel
set_option maxHeartbeats 4000000 in
set_option maxRecDepth 100000 in
theorem c_X7_has {l : Launch} {Y : ww_Y} {ad : Nat → Nat} {G : List ww_L} (o0 : Nat) (h0 : ww_at G o0 (ww_LModel o0)) (σ : ww_M) (p1 : Int32) : ww_Cn l Y ad G yX7_has cX7_has 2 (some .int) 2 [.ref (ad o0), .int p1] σ ((f_X7_has σ o0 p1).bind (ww_ri σ)) := by
  refine ww_met (by decide +kernel) (Nat.le_of_ble_eq_true rfl) ?_
  intro X hC hR
  have hC : ww_C X l Y ad G 2 cX7_has 2 RX7 := hC
  show ww_V X Y ad G 2 σ 0 [(0, .ref (ad o0)), (1, .int p1)] [] ((f_X7_has σ o0 p1).bind (ww_ri σ))
  unfold f_X7_has
  refine ww_iload_n (pc := 0) hC 1 rfl dX7_has_0 rfl ?_
  refine ww_i2l (pc := 1) hC dX7_has_1 ?_
  refine ww_lconst (pc := 2) (v := 0) hC dX7_has_2 rfl ?_
  refine ww_ldc2 (pc := 3) hC dX7_has_3 mw_1130 ?_
  refine ww_callSi (pc := 6) (st := []) (As := [.long p1.toInt64, .long 0, .long 3]) hC (c_X7_in σ p1.toInt64 0 3) mm_X7_in mw_991 (by omega) (by decide) (Nat.le_of_ble_eq_true rfl) rfl dX7_has_6 (fun v6 => ?_)
  refine ww_if_eq (pc := 9) (tgt := 24) hC dX7_has_9 (by decide) ?_ ?_
  · refine ww_iconst (pc := 24) (v := (-1)) hC dX7_has_24 rfl ?_
    exact ww_ireturn (pc := 25) hC hR dX7_has_25 rfl
  · refine ww_aload_n (pc := 12) hC 0 rfl dX7_has_12 rfl ?_
    refine ww_getr (pc := 13) (Cl := RX7) (T := TX7) (N := 36) (j := 0) (ref := RX7) hC (h0 0 _ rfl) rfl inT_X7 (by decide) mw_876 rfl rfl dX7_has_13 ?_
    refine ww_bipush (pc := 16) (v := 46) hC dX7_has_16 rfl ?_
    refine ww_iload_n (pc := 18) hC 1 rfl dX7_has_18 rfl ?_
    refine ww_iadd (pc := 19) hC dX7_has_19 ?_
    refine ww_iald (pc := 20) hC (h0 1 _ rfl) dX7_has_20 ?_
    refine ww_goto (pc := 21) (tgt := 25) hC dX7_has_21 (by decide) ?_
    exact ww_ireturn (pc := 25) hC hR dX7_has_25 rfl
theorem dX7_digit_0 : decode cX7_digit 0 = .ok (.iload_n 0, 1) := by decide +kernel
theorem dX7_digit_1 : decode cX7_digit 1 = .ok (.iconst 2, 1) := by decide +kernel
theorem dX7_digit_2 : decode cX7_digit 2 = .ok (.iload_n 1, 1) := by decide +kernel
theorem dX7_digit_3 : decode cX7_digit 3 = .ok (.imul, 1) := by decide +kernel
theorem dX7_digit_4 : decode cX7_digit 4 = .ok (.ishr, 1) := by decide +kernel
theorem dX7_digit_5 : decode cX7_digit 5 = .ok (.iconst 3, 1) := by decide +kernel
theorem dX7_digit_6 : decode cX7_digit 6 = .ok (.iand, 1) := by decide +kernel
theorem dX7_digit_7 : decode cX7_digit 7 = .ok (.ireturn, 1) := by decide +kernel
set_option maxHeartbeats 4000000 in
set_option maxRecDepth 100000 in
theorem c_X7_digit {l : Launch} {Y : ww_Y} {ad : Nat → Nat} {G : List ww_L} (σ : ww_M) (p0 : Int32) (p1 : Int32) : ww_Cn l Y ad G yX7_digit cX7_digit 2 (some .int) 1 [.int p0, .int p1] σ ((f_X7_digit p0 p1).bind (ww_ri σ)) := by
  refine ww_met (by decide +kernel) (Nat.le_of_ble_eq_true rfl) ?_
  intro X hC hR
  have hC : ww_C X l Y ad G 1 cX7_digit 2 RX7 := hC
  show ww_V X Y ad G 2 σ 0 [(0, .int p0), (1, .int p1)] [] ((f_X7_digit p0 p1).bind (ww_ri σ))
  unfold f_X7_digit
  refine ww_iload_n (pc := 0) hC 0 rfl dX7_digit_0 rfl ?_
  refine ww_iconst (pc := 1) (v := 2) hC dX7_digit_1 rfl ?_
  refine ww_iload_n (pc := 2) hC 1 rfl dX7_digit_2 rfl ?_
  refine ww_imul (pc := 3) hC dX7_digit_3 ?_
  refine ww_ishr (pc := 4) hC dX7_digit_4 ?_
  refine ww_iconst (pc := 5) (v := 3) hC dX7_digit_5 rfl ?_
  refine ww_iand (pc := 6) hC dX7_digit_6 ?_
  exact ww_ireturn (pc := 7) hC hR dX7_digit_7 rfl
theorem dX7_layParts_0 : decode cX7_layParts 0 = .ok (.aload_n 0, 1) := by decide +kernel
theorem dX7_layParts_1 : decode cX7_layParts 1 = .ok (.iconst 0, 1) := by decide +kernel
theorem dX7_layParts_2 : decode cX7_layParts 2 = .ok (.putfield 223, 3) := by decide +kernel
theorem dX7_layParts_5 : decode cX7_layParts 5 = .ok (.iconst 0, 1) := by decide +kernel
theorem dX7_layParts_6 : decode cX7_layParts 6 = .ok (.istore_n 3, 1) := by decide +kernel
theorem dX7_layParts_7 : decode cX7_layParts 7 = .ok (.iload_n 3, 1) := by decide +kernel
theorem dX7_layParts_8 : decode cX7_layParts 8 = .ok (.bipush 30, 2) := by decide +kernel
theorem dX7_layParts_10 : decode cX7_layParts 10 = .ok (.if_icmp .ge 45, 3) := by decide +kernel
theorem dX7_layParts_13 : decode cX7_layParts 13 = .ok (.aload_n 0, 1) := by decide +kernel
theorem dX7_layParts_14 : decode cX7_layParts 14 = .ok (.iload_n 3, 1) := by decide +kernel
theorem dX7_layParts_15 : decode cX7_layParts 15 = .ok (.invokevirtual 191, 3) := by decide +kernel
theorem dX7_layParts_18 : decode cX7_layParts 18 = .ok (.ifCond .eq 31, 3) := by decide +kernel
theorem dX7_layParts_21 : decode cX7_layParts 21 = .ok (.iload_n 3, 1) := by decide +kernel
theorem dX7_layParts_22 : decode cX7_layParts 22 = .ok (.bipush 10, 2) := by decide +kernel
theorem dX7_layParts_24 : decode cX7_layParts 24 = .ok (.idiv, 1) := by decide +kernel
theorem dX7_layParts_25 : decode cX7_layParts 25 = .ok (.iload_n 2, 1) := by decide +kernel
theorem dX7_layParts_26 : decode cX7_layParts 26 = .ok (.if_icmp .eq 23, 3) := by decide +kernel
theorem dX7_layParts_29 : decode cX7_layParts 29 = .ok (.aload_n 0, 1) := by decide +kernel
theorem dX7_layParts_30 : decode cX7_layParts 30 = .ok (.getfield 41, 3) := by decide +kernel
theorem dX7_layParts_33 : decode cX7_layParts 33 = .ok (.aload_n 0, 1) := by decide +kernel
theorem dX7_layParts_34 : decode cX7_layParts 34 = .ok (.getfield 223, 3) := by decide +kernel
theorem dX7_layParts_37 : decode cX7_layParts 37 = .ok (.iload_n 3, 1) := by decide +kernel
theorem dX7_layParts_38 : decode cX7_layParts 38 = .ok (.iastore, 1) := by decide +kernel
theorem dX7_layParts_39 : decode cX7_layParts 39 = .ok (.aload_n 0, 1) := by decide +kernel
theorem dX7_layParts_40 : decode cX7_layParts 40 = .ok (.dup, 1) := by decide +kernel
theorem dX7_layParts_41 : decode cX7_layParts 41 = .ok (.getfield 223, 3) := by decide +kernel
theorem dX7_layParts_44 : decode cX7_layParts 44 = .ok (.iconst 1, 1) := by decide +kernel
theorem dX7_layParts_45 : decode cX7_layParts 45 = .ok (.iadd, 1) := by decide +kernel
theorem dX7_layParts_46 : decode cX7_layParts 46 = .ok (.putfield 223, 3) := by decide +kernel
theorem dX7_layParts_49 : decode cX7_layParts 49 = .ok (.iinc 3 1, 3) := by decide +kernel
theorem dX7_layParts_52 : decode cX7_layParts 52 = .ok (.goto (-45), 3) := by decide +kernel
theorem dX7_layParts_55 : decode cX7_layParts 55 = .ok (.iconst 0, 1) := by decide +kernel
theorem dX7_layParts_56 : decode cX7_layParts 56 = .ok (.istore_n 3, 1) := by decide +kernel
theorem dX7_layParts_57 : decode cX7_layParts 57 = .ok (.iconst 0, 1) := by decide +kernel
theorem dX7_layParts_58 : decode cX7_layParts 58 = .ok (.istore 4, 2) := by decide +kernel
theorem dX7_layParts_60 : decode cX7_layParts 60 = .ok (.iload 4, 2) := by decide +kernel
theorem dX7_layParts_62 : decode cX7_layParts 62 = .ok (.aload_n 0, 1) := by decide +kernel
theorem dX7_layParts_63 : decode cX7_layParts 63 = .ok (.getfield 159, 3) := by decide +kernel
theorem dX7_layParts_66 : decode cX7_layParts 66 = .ok (.if_icmp .ge 25, 3) := by decide +kernel
theorem dX7_layParts_69 : decode cX7_layParts 69 = .ok (.iload_n 3, 1) := by decide +kernel
theorem dX7_layParts_70 : decode cX7_layParts 70 = .ok (.aload_n 0, 1) := by decide +kernel
theorem dX7_layParts_71 : decode cX7_layParts 71 = .ok (.getfield 7, 3) := by decide +kernel
theorem dX7_layParts_74 : decode cX7_layParts 74 = .ok (.bipush 15, 2) := by decide +kernel
theorem dX7_layParts_76 : decode cX7_layParts 76 = .ok (.iload 4, 2) := by decide +kernel
theorem dX7_layParts_78 : decode cX7_layParts 78 = .ok (.iadd, 1) := by decide +kernel
theorem dX7_layParts_79 : decode cX7_layParts 79 = .ok (.iaload, 1) := by decide +kernel
theorem dX7_layParts_80 : decode cX7_layParts 80 = .ok (.iload 4, 2) := by decide +kernel
theorem dX7_layParts_82 : decode cX7_layParts 82 = .ok (.ishl, 1) := by decide +kernel
theorem dX7_layParts_83 : decode cX7_layParts 83 = .ok (.ior, 1) := by decide +kernel
theorem dX7_layParts_84 : decode cX7_layParts 84 = .ok (.istore_n 3, 1) := by decide +kernel
theorem dX7_layParts_85 : decode cX7_layParts 85 = .ok (.iinc 4 1, 3) := by decide +kernel
theorem dX7_layParts_88 : decode cX7_layParts 88 = .ok (.goto (-28), 3) := by decide +kernel
theorem dX7_layParts_91 : decode cX7_layParts 91 = .ok (.iconst 0, 1) := by decide +kernel
theorem dX7_layParts_92 : decode cX7_layParts 92 = .ok (.istore 4, 2) := by decide +kernel
theorem dX7_layParts_94 : decode cX7_layParts 94 = .ok (.iload 4, 2) := by decide +kernel
theorem dX7_layParts_96 : decode cX7_layParts 96 = .ok (.iload_n 1, 1) := by decide +kernel
theorem dX7_layParts_97 : decode cX7_layParts 97 = .ok (.if_icmp .ge 185, 3) := by decide +kernel
theorem dX7_layParts_100 : decode cX7_layParts 100 = .ok (.aload_n 0, 1) := by decide +kernel
theorem dX7_layParts_101 : decode cX7_layParts 101 = .ok (.getfield 7, 3) := by decide +kernel
theorem dX7_layParts_104 : decode cX7_layParts 104 = .ok (.bipush 45, 2) := by decide +kernel
theorem dX7_layParts_106 : decode cX7_layParts 106 = .ok (.iaload, 1) := by decide +kernel
theorem dX7_layParts_107 : decode cX7_layParts 107 = .ok (.iload 4, 2) := by decide +kernel
theorem dX7_layParts_109 : decode cX7_layParts 109 = .ok (.iadd, 1) := by decide +kernel
theorem dX7_layParts_110 : decode cX7_layParts 110 = .ok (.istore 5, 2) := by decide +kernel
theorem dX7_layParts_112 : decode cX7_layParts 112 = .ok (.aload_n 0, 1) := by decide +kernel
theorem dX7_layParts_113 : decode cX7_layParts 113 = .ok (.getfield 47, 3) := by decide +kernel
theorem dX7_layParts_116 : decode cX7_layParts 116 = .ok (.iload 4, 2) := by decide +kernel
theorem dX7_layParts_118 : decode cX7_layParts 118 = .ok (.iconst 0, 1) := by decide +kernel
theorem dX7_layParts_119 : decode cX7_layParts 119 = .ok (.iastore, 1) := by decide +kernel
theorem dX7_layParts_120 : decode cX7_layParts 120 = .ok (.iconst 0, 1) := by decide +kernel
theorem dX7_layParts_121 : decode cX7_layParts 121 = .ok (.istore 6, 2) := by decide +kernel
theorem dX7_layParts_123 : decode cX7_layParts 123 = .ok (.iload 6, 2) := by decide +kernel
theorem dX7_layParts_125 : decode cX7_layParts 125 = .ok (.aload_n 0, 1) := by decide +kernel
theorem dX7_layParts_126 : decode cX7_layParts 126 = .ok (.getfield 159, 3) := by decide +kernel
theorem dX7_layParts_129 : decode cX7_layParts 129 = .ok (.if_icmp .ge 49, 3) := by decide +kernel
theorem dX7_layParts_132 : decode cX7_layParts 132 = .ok (.iload_n 3, 1) := by decide +kernel
theorem dX7_layParts_133 : decode cX7_layParts 133 = .ok (.aload_n 0, 1) := by decide +kernel
theorem dX7_layParts_134 : decode cX7_layParts 134 = .ok (.aload_n 0, 1) := by decide +kernel
theorem dX7_layParts_135 : decode cX7_layParts 135 = .ok (.getfield 20, 3) := by decide +kernel
theorem dX7_layParts_138 : decode cX7_layParts 138 = .ok (.iconst 2, 1) := by decide +kernel
theorem dX7_layParts_139 : decode cX7_layParts 139 = .ok (.iload 6, 2) := by decide +kernel
theorem dX7_layParts_141 : decode cX7_layParts 141 = .ok (.imul, 1) := by decide +kernel
theorem dX7_layParts_142 : decode cX7_layParts 142 = .ok (.iaload, 1) := by decide +kernel
theorem dX7_layParts_143 : decode cX7_layParts 143 = .ok (.aload_n 0, 1) := by decide +kernel
theorem dX7_layParts_144 : decode cX7_layParts 144 = .ok (.getfield 20, 3) := by decide +kernel
theorem dX7_layParts_147 : decode cX7_layParts 147 = .ok (.iconst 2, 1) := by decide +kernel
theorem dX7_layParts_148 : decode cX7_layParts 148 = .ok (.iload 6, 2) := by decide +kernel
theorem dX7_layParts_150 : decode cX7_layParts 150 = .ok (.imul, 1) := by decide +kernel
theorem dX7_layParts_151 : decode cX7_layParts 151 = .ok (.iconst 1, 1) := by decide +kernel
theorem dX7_layParts_152 : decode cX7_layParts 152 = .ok (.iadd, 1) := by decide +kernel
theorem dX7_layParts_153 : decode cX7_layParts 153 = .ok (.iaload, 1) := by decide +kernel
theorem dX7_layParts_154 : decode cX7_layParts 154 = .ok (.iload 5, 2) := by decide +kernel
theorem dX7_layParts_156 : decode cX7_layParts 156 = .ok (.invokevirtual 184, 3) := by decide +kernel
theorem dX7_layParts_159 : decode cX7_layParts 159 = .ok (.ifCond .eq 10, 3) := by decide +kernel
theorem dX7_layParts_162 : decode cX7_layParts 162 = .ok (.iconst 1, 1) := by decide +kernel
theorem dX7_layParts_163 : decode cX7_layParts 163 = .ok (.iload 6, 2) := by decide +kernel
theorem dX7_layParts_165 : decode cX7_layParts 165 = .ok (.ishl, 1) := by decide +kernel
theorem dX7_layParts_166 : decode cX7_layParts 166 = .ok (.goto 4, 3) := by decide +kernel
theorem dX7_layParts_169 : decode cX7_layParts 169 = .ok (.iconst 0, 1) := by decide +kernel
theorem dX7_layParts_170 : decode cX7_layParts 170 = .ok (.ior, 1) := by decide +kernel
theorem dX7_layParts_171 : decode cX7_layParts 171 = .ok (.istore_n 3, 1) := by decide +kernel
theorem dX7_layParts_172 : decode cX7_layParts 172 = .ok (.iinc 6 1, 3) := by decide +kernel
theorem dX7_layParts_175 : decode cX7_layParts 175 = .ok (.goto (-52), 3) := by decide +kernel
theorem dX7_layParts_178 : decode cX7_layParts 178 = .ok (.iconst 0, 1) := by decide +kernel
theorem dX7_layParts_179 : decode cX7_layParts 179 = .ok (.istore 6, 2) := by decide +kernel
theorem dX7_layParts_181 : decode cX7_layParts 181 = .ok (.iload 6, 2) := by decide +kernel
theorem dX7_layParts_183 : decode cX7_layParts 183 = .ok (.aload_n 0, 1) := by decide +kernel
theorem dX7_layParts_184 : decode cX7_layParts 184 = .ok (.getfield 223, 3) := by decide +kernel
theorem dX7_layParts_187 : decode cX7_layParts 187 = .ok (.if_icmp .ge 89, 3) := by decide +kernel
theorem dX7_layParts_190 : decode cX7_layParts 190 = .ok (.aload_n 0, 1) := by decide +kernel
theorem dX7_layParts_191 : decode cX7_layParts 191 = .ok (.getfield 41, 3) := by decide +kernel
theorem dX7_layParts_194 : decode cX7_layParts 194 = .ok (.iload 6, 2) := by decide +kernel
theorem dX7_layParts_196 : decode cX7_layParts 196 = .ok (.iaload, 1) := by decide +kernel
theorem dX7_layParts_197 : decode cX7_layParts 197 = .ok (.bipush 10, 2) := by decide +kernel
theorem dX7_layParts_199 : decode cX7_layParts 199 = .ok (.idiv, 1) := by decide +kernel
theorem dX7_layParts_200 : decode cX7_layParts 200 = .ok (.istore 7, 2) := by decide +kernel
theorem dX7_layParts_202 : decode cX7_layParts 202 = .ok (.iload_n 3, 1) := by decide +kernel
theorem dX7_layParts_203 : decode cX7_layParts 203 = .ok (.iload 7, 2) := by decide +kernel
theorem dX7_layParts_205 : decode cX7_layParts 205 = .ok (.ishr, 1) := by decide +kernel
theorem dX7_layParts_206 : decode cX7_layParts 206 = .ok (.iconst 1, 1) := by decide +kernel
theorem dX7_layParts_207 : decode cX7_layParts 207 = .ok (.iand, 1) := by decide +kernel
theorem dX7_layParts_208 : decode cX7_layParts 208 = .ok (.ifCond .ne 36, 3) := by decide +kernel
theorem dX7_layParts_211 : decode cX7_layParts 211 = .ok (.aload_n 0, 1) := by decide +kernel
theorem dX7_layParts_212 : decode cX7_layParts 212 = .ok (.aload_n 0, 1) := by decide +kernel
theorem dX7_layParts_213 : decode cX7_layParts 213 = .ok (.getfield 20, 3) := by decide +kernel
theorem dX7_layParts_216 : decode cX7_layParts 216 = .ok (.iconst 2, 1) := by decide +kernel
theorem dX7_layParts_217 : decode cX7_layParts 217 = .ok (.iload 7, 2) := by decide +kernel
theorem dX7_layParts_219 : decode cX7_layParts 219 = .ok (.imul, 1) := by decide +kernel
theorem dX7_layParts_220 : decode cX7_layParts 220 = .ok (.iaload, 1) := by decide +kernel
theorem dX7_layParts_221 : decode cX7_layParts 221 = .ok (.aload_n 0, 1) := by decide +kernel
theorem dX7_layParts_222 : decode cX7_layParts 222 = .ok (.getfield 41, 3) := by decide +kernel
theorem dX7_layParts_225 : decode cX7_layParts 225 = .ok (.iload 6, 2) := by decide +kernel
theorem dX7_layParts_227 : decode cX7_layParts 227 = .ok (.iaload, 1) := by decide +kernel
theorem dX7_layParts_228 : decode cX7_layParts 228 = .ok (.bipush 10, 2) := by decide +kernel
theorem dX7_layParts_230 : decode cX7_layParts 230 = .ok (.irem, 1) := by decide +kernel
theorem dX7_layParts_231 : decode cX7_layParts 231 = .ok (.iadd, 1) := by decide +kernel
theorem dX7_layParts_232 : decode cX7_layParts 232 = .ok (.iload 5, 2) := by decide +kernel
theorem dX7_layParts_234 : decode cX7_layParts 234 = .ok (.invokevirtual 180, 3) := by decide +kernel
theorem dX7_layParts_237 : decode cX7_layParts 237 = .ok (.ifCond .ne 7, 3) := by decide +kernel
theorem dX7_layParts_240 : decode cX7_layParts 240 = .ok (.iconst 1, 1) := by decide +kernel
theorem dX7_layParts_241 : decode cX7_layParts 241 = .ok (.goto 4, 3) := by decide +kernel
theorem dX7_layParts_244 : decode cX7_layParts 244 = .ok (.iconst 0, 1) := by decide +kernel
theorem dX7_layParts_245 : decode cX7_layParts 245 = .ok (.istore 8, 2) := by decide +kernel
theorem dX7_layParts_247 : decode cX7_layParts 247 = .ok (.aload_n 0, 1) := by decide +kernel
theorem dX7_layParts_248 : decode cX7_layParts 248 = .ok (.getfield 47, 3) := by decide +kernel
theorem dX7_layParts_251 : decode cX7_layParts 251 = .ok (.iload 4, 2) := by decide +kernel
theorem dX7_layParts_253 : decode cX7_layParts 253 = .ok (.dup2, 1) := by decide +kernel
theorem dX7_layParts_254 : decode cX7_layParts 254 = .ok (.iaload, 1) := by decide +kernel
theorem dX7_layParts_255 : decode cX7_layParts 255 = .ok (.iload 8, 2) := by decide +kernel
theorem dX7_layParts_257 : decode cX7_layParts 257 = .ok (.ifCond .eq 10, 3) := by decide +kernel
theorem dX7_layParts_260 : decode cX7_layParts 260 = .ok (.iconst 1, 1) := by decide +kernel
theorem dX7_layParts_261 : decode cX7_layParts 261 = .ok (.iload 6, 2) := by decide +kernel
theorem dX7_layParts_263 : decode cX7_layParts 263 = .ok (.ishl, 1) := by decide +kernel
theorem dX7_layParts_264 : decode cX7_layParts 264 = .ok (.goto 4, 3) := by decide +kernel
theorem dX7_layParts_267 : decode cX7_layParts 267 = .ok (.iconst 0, 1) := by decide +kernel
theorem dX7_layParts_268 : decode cX7_layParts 268 = .ok (.ior, 1) := by decide +kernel
theorem dX7_layParts_269 : decode cX7_layParts 269 = .ok (.iastore, 1) := by decide +kernel
theorem dX7_layParts_270 : decode cX7_layParts 270 = .ok (.iinc 6 1, 3) := by decide +kernel
theorem dX7_layParts_273 : decode cX7_layParts 273 = .ok (.goto (-92), 3) := by decide +kernel
theorem dX7_layParts_276 : decode cX7_layParts 276 = .ok (.iinc 4 1, 3) := by decide +kernel
theorem dX7_layParts_279 : decode cX7_layParts 279 = .ok (.goto (-185), 3) := by decide +kernel
theorem dX7_layParts_282 : decode cX7_layParts 282 = .ok (.return_, 1) := by decide +kernel
set_option maxHeartbeats 4000000 in
set_option maxRecDepth 100000 in
theorem c_X7_layParts {l : Launch} {Y : ww_Y} {ad : Nat → Nat} {G : List ww_L} (o0 : Nat) (h0 : ww_at G o0 (ww_LModel o0)) (σ : ww_M) (p1 : Int32) (p2 : Int32) : ww_Cn l Y ad G yX7_layParts cX7_layParts 9 none 4 [.ref (ad o0), .int p1, .int p2] σ ((f_X7_layParts σ o0 p1 p2).bind ww_rv) := by
  refine ww_met (by decide +kernel) (Nat.le_of_ble_eq_true rfl) ?_
  intro X hC hR
  have hC : ww_C X l Y ad G 4 cX7_layParts 9 RX7 := hC
  show ww_V X Y ad G 9 σ 0 [(0, .ref (ad o0)), (1, .int p1), (2, .int p2)] [] ((f_X7_layParts σ o0 p1 p2).bind ww_rv)
  have hJ282 : ∀ (σ : ww_M), ww_V X Y ad G 9 σ 282 [] [] ((f_X7_layParts_j282 σ o0 p1 p2).bind ww_rv) := by
    intro σ
    unfold f_X7_layParts_j282
    exact ww_return (pc := 282) hC hR dX7_layParts_282 rfl
  have hJ94 : ∀ (σ : ww_M) (x3 : Int32) (x4 : Int32), ww_V X Y ad G 9 σ 94 [(0, .ref (ad o0)), (1, .int p1), (3, .int x3), (4, .int x4)] [] ((f_X7_layParts_j94 σ o0 p1 p2 x3 x4).bind ww_rv) := by
    intro σ x3 x4
    unfold f_X7_layParts_j94
    refine ww_assoc ?_
    refine ww_loop (f := f_X7_layParts_b94 o0 p1 p2) (fun a94 => a94.2.2) (fun a94 => [(0, .ref (ad o0)), (1, .int p1), (3, .int a94.1), (4, .int a94.2.1)]) (fun b94 => b94) (fun b94 => []) 282 (fun b94 => ?_) (fun a94 KK94 hc94 hx94 => ?_) ww_F (x3, x4, σ)
    · exact hJ282 b94
    · unfold f_X7_layParts_b94
      have hJ276 : ∀ (σ : ww_M) (x3 : Int32) (x4 : Int32), ww_V X Y ad G 9 σ 276 [(0, .ref (ad o0)), (1, .int p1), (3, .int x3), (4, .int x4)] [] ((f_X7_layParts_j276 σ o0 p1 p2 x3 x4).bind KK94) := by
        intro σ x3 x4
        unfold f_X7_layParts_j276
        refine ww_iinc (pc := 276) (v := x4 + 1) (lv' := [(4, .int (x4 + 1)), (0, .ref (ad o0)), (1, .int p1), (3, .int x3)]) hC 3 rfl dX7_layParts_276 rfl (by decide) rfl ?_
        refine ww_goto (pc := 279) (tgt := 94) hC dX7_layParts_279 (by decide) ?_
        refine ww_lv [1, 2, 3, 0] rfl ?_
        exact hc94 (x3, x4 + 1, σ)
      have hJ181 : ∀ (σ : ww_M) (x3 : Int32) (x4 : Int32) (x5 : Int32) (x6 : Int32), ww_V X Y ad G 9 σ 181 [(0, .ref (ad o0)), (1, .int p1), (3, .int x3), (4, .int x4), (5, .int x5), (6, .int x6)] [] ((f_X7_layParts_j181 σ o0 p1 p2 x3 x4 x5 x6).bind KK94) := by
        intro σ x3 x4 x5 x6
        unfold f_X7_layParts_j181
        refine ww_assoc ?_
        refine ww_loop (f := f_X7_layParts_b181 o0 p1 p2 x3 x4 x5) (fun a181 => a181.2) (fun a181 => [(0, .ref (ad o0)), (1, .int p1), (3, .int x3), (4, .int x4), (5, .int x5), (6, .int a181.1)]) (fun b181 => b181) (fun b181 => [(0, .ref (ad o0)), (1, .int p1), (3, .int x3), (4, .int x4)]) 276 (fun b181 => ?_) (fun a181 KK181 hc181 hx181 => ?_) ww_F (x6, σ)
        · exact hJ276 b181 x3 x4
        · unfold f_X7_layParts_b181
          have hJ245 : ∀ (σ : ww_M) (x6 : Int32) (s0 : Int32), ww_V X Y ad G 9 σ 245 [(0, .ref (ad o0)), (1, .int p1), (3, .int x3), (4, .int x4), (5, .int x5), (6, .int x6)] [.int s0] ((f_X7_layParts_j245 σ o0 p1 p2 x3 x4 x5 x6 s0).bind KK181) := by
            intro σ x6 s0
            unfold f_X7_layParts_j245
            refine ww_istore (pc := 245) (lv' := [(8, .int s0), (0, .ref (ad o0)), (1, .int p1), (3, .int x3), (4, .int x4), (5, .int x5), (6, .int x6)]) hC dX7_layParts_245 (by decide) rfl ?_
            refine ww_aload_n (pc := 247) hC 1 rfl dX7_layParts_247 rfl ?_
            refine ww_getr (pc := 248) (Cl := RX7) (T := TX7) (N := 36) (j := 27) (ref := RX7) hC (h0 0 _ rfl) rfl inT_X7 (by decide) mw_903 rfl rfl dX7_layParts_248 ?_
            refine ww_iload (pc := 251) hC 4 rfl dX7_layParts_251 ?_
            refine ww_dup2 (pc := 253) hC dX7_layParts_253 rfl rfl ?_
            refine ww_iald (pc := 254) hC (h0 12 _ rfl) dX7_layParts_254 ?_
            refine ww_iload (pc := 255) hC 0 rfl dX7_layParts_255 ?_
            refine ww_if_eq (pc := 257) (tgt := 267) hC dX7_layParts_257 (by decide) ?_ ?_
            · refine ww_iconst (pc := 267) (v := 0) hC dX7_layParts_267 rfl ?_
              refine ww_ior (pc := 268) hC dX7_layParts_268 ?_
              refine ww_iast (pc := 269) hC (h0 12 _ rfl) dX7_layParts_269 ?_
              refine ww_iinc (pc := 270) (v := x6 + 1) (lv' := [(6, .int (x6 + 1)), (8, .int s0), (0, .ref (ad o0)), (1, .int p1), (3, .int x3), (4, .int x4), (5, .int x5)]) hC 6 rfl dX7_layParts_270 rfl (by decide) rfl ?_
              refine ww_goto (pc := 273) (tgt := 181) hC dX7_layParts_273 (by decide) ?_
              refine ww_lv [2, 3, 4, 5, 6, 0] rfl ?_
              exact hc181 (x6 + 1, ww_up σ (o0 + 12) (ww_ix x4) ((σ (o0 + 12) (ww_ix x4)) ||| 0))
            · refine ww_iconst (pc := 260) (v := 1) hC dX7_layParts_260 rfl ?_
              refine ww_iload (pc := 261) hC 6 rfl dX7_layParts_261 ?_
              refine ww_ishl (pc := 263) hC dX7_layParts_263 ?_
              refine ww_goto (pc := 264) (tgt := 268) hC dX7_layParts_264 (by decide) ?_
              refine ww_ior (pc := 268) hC dX7_layParts_268 ?_
              refine ww_iast (pc := 269) hC (h0 12 _ rfl) dX7_layParts_269 ?_
              refine ww_iinc (pc := 270) (v := x6 + 1) (lv' := [(6, .int (x6 + 1)), (8, .int s0), (0, .ref (ad o0)), (1, .int p1), (3, .int x3), (4, .int x4), (5, .int x5)]) hC 6 rfl dX7_layParts_270 rfl (by decide) rfl ?_
              refine ww_goto (pc := 273) (tgt := 181) hC dX7_layParts_273 (by decide) ?_
              refine ww_lv [2, 3, 4, 5, 6, 0] rfl ?_
              exact hc181 (x6 + 1, ww_up σ (o0 + 12) (ww_ix x4) ((σ (o0 + 12) (ww_ix x4)) ||| (ww_shl 1 x6)))
          have hJ244 : ∀ (σ : ww_M) (x6 : Int32), ww_V X Y ad G 9 σ 244 [(0, .ref (ad o0)), (1, .int p1), (3, .int x3), (4, .int x4), (5, .int x5), (6, .int x6)] [] ((f_X7_layParts_j244 σ o0 p1 p2 x3 x4 x5 x6).bind KK181) := by
            intro σ x6
            unfold f_X7_layParts_j244
            refine ww_iconst (pc := 244) (v := 0) hC dX7_layParts_244 rfl ?_
            exact hJ245 σ x6 0
          refine ww_iload (pc := 181) hC 5 rfl dX7_layParts_181 ?_
          refine ww_aload_n (pc := 183) hC 0 rfl dX7_layParts_183 rfl ?_
          refine ww_geti (pc := 184) (Cl := RX7) (T := TX7) (N := 36) (j := 25) (ref := RX7) hC (h0 0 _ rfl) rfl inT_X7 (by decide) mw_901 rfl rfl dX7_layParts_184 ?_
          refine ww_icmp_ge (pc := 187) (tgt := 276) hC dX7_layParts_187 (by decide) ?_ ?_
          · refine ww_lv [0, 1, 2, 3] rfl ?_
            exact hx181 a181.2
          · refine ww_aload_n (pc := 190) hC 0 rfl dX7_layParts_190 rfl ?_
            refine ww_getr (pc := 191) (Cl := RX7) (T := TX7) (N := 36) (j := 24) (ref := RX7) hC (h0 0 _ rfl) rfl inT_X7 (by decide) mw_900 rfl rfl dX7_layParts_191 ?_
            refine ww_iload (pc := 194) hC 5 rfl dX7_layParts_194 ?_
            refine ww_iald (pc := 196) hC (h0 10 _ rfl) dX7_layParts_196 ?_
            refine ww_bipush (pc := 197) (v := 10) hC dX7_layParts_197 rfl ?_
            refine ww_idiv_c (pc := 199) hC dX7_layParts_199 (by decide) ?_
            refine ww_istore (pc := 200) (lv' := [(7, .int ((a181.2 (o0 + 10) (ww_ix a181.1)) / 10)), (0, .ref (ad o0)), (1, .int p1), (3, .int x3), (4, .int x4), (5, .int x5), (6, .int a181.1)]) hC dX7_layParts_200 (by decide) rfl ?_
            refine ww_iload_n (pc := 202) hC 3 rfl dX7_layParts_202 rfl ?_
            refine ww_iload (pc := 203) hC 0 rfl dX7_layParts_203 ?_
            refine ww_ishr (pc := 205) hC dX7_layParts_205 ?_
            refine ww_iconst (pc := 206) (v := 1) hC dX7_layParts_206 rfl ?_
            refine ww_iand (pc := 207) hC dX7_layParts_207 ?_
            refine ww_if_ne (pc := 208) (tgt := 244) hC dX7_layParts_208 (by decide) ?_ ?_
            · refine ww_lv [1, 2, 3, 4, 5, 6] rfl ?_
              exact hJ244 a181.2 a181.1
            · refine ww_aload_n (pc := 211) hC 1 rfl dX7_layParts_211 rfl ?_
              refine ww_aload_n (pc := 212) hC 1 rfl dX7_layParts_212 rfl ?_
              refine ww_getr (pc := 213) (Cl := RX7) (T := TX7) (N := 36) (j := 4) (ref := RX7) hC (h0 0 _ rfl) rfl inT_X7 (by decide) mw_880 rfl rfl dX7_layParts_213 ?_
              refine ww_iconst (pc := 216) (v := 2) hC dX7_layParts_216 rfl ?_
              refine ww_iload (pc := 217) hC 0 rfl dX7_layParts_217 ?_
              refine ww_imul (pc := 219) hC dX7_layParts_219 ?_
              refine ww_iald (pc := 220) hC (h0 3 _ rfl) dX7_layParts_220 ?_
              refine ww_aload_n (pc := 221) hC 1 rfl dX7_layParts_221 rfl ?_
              refine ww_getr (pc := 222) (Cl := RX7) (T := TX7) (N := 36) (j := 24) (ref := RX7) hC (h0 0 _ rfl) rfl inT_X7 (by decide) mw_900 rfl rfl dX7_layParts_222 ?_
              refine ww_iload (pc := 225) hC 6 rfl dX7_layParts_225 ?_
              refine ww_iald (pc := 227) hC (h0 10 _ rfl) dX7_layParts_227 ?_
              refine ww_bipush (pc := 228) (v := 10) hC dX7_layParts_228 rfl ?_
              refine ww_irem_c (pc := 230) hC dX7_layParts_230 (by decide) ?_
              refine ww_iadd (pc := 231) hC dX7_layParts_231 ?_
              refine ww_iload (pc := 232) hC 5 rfl dX7_layParts_232 ?_
              refine ww_callVi (pc := 234) (st := []) (As := [.int ((a181.2 (o0 + 3) (ww_ix (2 * ((a181.2 (o0 + 10) (ww_ix a181.1)) / 10)))) + (ww_rem (a181.2 (o0 + 10) (ww_ix a181.1)) 10)), .int x5]) hC (c_X7_isWet o0 h0 a181.2 ((a181.2 (o0 + 3) (ww_ix (2 * ((a181.2 (o0 + 10) (ww_ix a181.1)) / 10)))) + (ww_rem (a181.2 (o0 + 10) (ww_ix a181.1)) 10)) x5) mm_X7_isWet mw_1057 (h0 0 _ rfl) rfl (by omega) (by decide) (Nat.le_of_ble_eq_true rfl) rfl dX7_layParts_234 (fun v234 => ?_)
              refine ww_if_ne (pc := 237) (tgt := 244) hC dX7_layParts_237 (by decide) ?_ ?_
              · refine ww_lv [1, 2, 3, 4, 5, 6] rfl ?_
                exact hJ244 a181.2 a181.1
              · refine ww_iconst (pc := 240) (v := 1) hC dX7_layParts_240 rfl ?_
                refine ww_goto (pc := 241) (tgt := 245) hC dX7_layParts_241 (by decide) ?_
                refine ww_lv [1, 2, 3, 4, 5, 6] rfl ?_
                exact hJ245 a181.2 a181.1 1
      have hJ178 : ∀ (σ : ww_M) (x3 : Int32) (x4 : Int32) (x5 : Int32), ww_V X Y ad G 9 σ 178 [(0, .ref (ad o0)), (1, .int p1), (3, .int x3), (4, .int x4), (5, .int x5)] [] ((f_X7_layParts_j178 σ o0 p1 p2 x3 x4 x5).bind KK94) := by
        intro σ x3 x4 x5
        unfold f_X7_layParts_j178
        refine ww_iconst (pc := 178) (v := 0) hC dX7_layParts_178 rfl ?_
        refine ww_istore (pc := 179) (lv' := [(6, .int 0), (0, .ref (ad o0)), (1, .int p1), (3, .int x3), (4, .int x4), (5, .int x5)]) hC dX7_layParts_179 (by decide) rfl ?_
        refine ww_lv [1, 2, 3, 4, 5, 0] rfl ?_
        exact hJ181 σ x3 x4 x5 0
      have hJ123 : ∀ (σ : ww_M) (x3 : Int32) (x4 : Int32) (x5 : Int32) (x6 : Int32), ww_V X Y ad G 9 σ 123 [(0, .ref (ad o0)), (1, .int p1), (3, .int x3), (4, .int x4), (5, .int x5), (6, .int x6)] [] ((f_X7_layParts_j123 σ o0 p1 p2 x3 x4 x5 x6).bind KK94) := by
        intro σ x3 x4 x5 x6
        unfold f_X7_layParts_j123
        refine ww_assoc ?_
        refine ww_loop (f := f_X7_layParts_b123 σ o0 p1 p2 x4 x5) (fun a123 => σ) (fun a123 => [(0, .ref (ad o0)), (1, .int p1), (3, .int a123.1), (4, .int x4), (5, .int x5), (6, .int a123.2)]) (fun b123 => σ) (fun b123 => [(0, .ref (ad o0)), (1, .int p1), (3, .int b123), (4, .int x4), (5, .int x5)]) 178 (fun b123 => ?_) (fun a123 KK123 hc123 hx123 => ?_) ww_F (x3, x6)
        · exact hJ178 σ b123 x4 x5
        · unfold f_X7_layParts_b123
          refine ww_iload (pc := 123) hC 5 rfl dX7_layParts_123 ?_
          refine ww_aload_n (pc := 125) hC 0 rfl dX7_layParts_125 rfl ?_
          refine ww_geti (pc := 126) (Cl := RX7) (T := TX7) (N := 36) (j := 5) (ref := RX7) hC (h0 0 _ rfl) rfl inT_X7 (by decide) mw_881 rfl rfl dX7_layParts_126 ?_
          refine ww_icmp_ge (pc := 129) (tgt := 178) hC dX7_layParts_129 (by decide) ?_ ?_
          · refine ww_lv [0, 1, 2, 3, 4] rfl ?_
            exact hx123 a123.1
          · refine ww_iload_n (pc := 132) hC 2 rfl dX7_layParts_132 rfl ?_
            refine ww_aload_n (pc := 133) hC 0 rfl dX7_layParts_133 rfl ?_
            refine ww_aload_n (pc := 134) hC 0 rfl dX7_layParts_134 rfl ?_
            refine ww_getr (pc := 135) (Cl := RX7) (T := TX7) (N := 36) (j := 4) (ref := RX7) hC (h0 0 _ rfl) rfl inT_X7 (by decide) mw_880 rfl rfl dX7_layParts_135 ?_
            refine ww_iconst (pc := 138) (v := 2) hC dX7_layParts_138 rfl ?_
            refine ww_iload (pc := 139) hC 5 rfl dX7_layParts_139 ?_
            refine ww_imul (pc := 141) hC dX7_layParts_141 ?_
            refine ww_iald (pc := 142) hC (h0 3 _ rfl) dX7_layParts_142 ?_
            refine ww_aload_n (pc := 143) hC 0 rfl dX7_layParts_143 rfl ?_
            refine ww_getr (pc := 144) (Cl := RX7) (T := TX7) (N := 36) (j := 4) (ref := RX7) hC (h0 0 _ rfl) rfl inT_X7 (by decide) mw_880 rfl rfl dX7_layParts_144 ?_
            refine ww_iconst (pc := 147) (v := 2) hC dX7_layParts_147 rfl ?_
            refine ww_iload (pc := 148) hC 5 rfl dX7_layParts_148 ?_
            refine ww_imul (pc := 150) hC dX7_layParts_150 ?_
            refine ww_iconst (pc := 151) (v := 1) hC dX7_layParts_151 rfl ?_
            refine ww_iadd (pc := 152) hC dX7_layParts_152 ?_
            refine ww_iald (pc := 153) hC (h0 3 _ rfl) dX7_layParts_153 ?_
            refine ww_iload (pc := 154) hC 4 rfl dX7_layParts_154 ?_
            refine ww_callVi (pc := 156) (st := [.int a123.1]) (As := [.int (σ (o0 + 3) (ww_ix (2 * a123.2))), .int (σ (o0 + 3) (ww_ix ((2 * a123.2) + 1))), .int x5]) hC (c_X7_floatsIn o0 h0 σ (σ (o0 + 3) (ww_ix (2 * a123.2))) (σ (o0 + 3) (ww_ix ((2 * a123.2) + 1))) x5) mm_X7_floatsIn mw_1053 (h0 0 _ rfl) rfl (by omega) (by decide) (Nat.le_of_ble_eq_true rfl) rfl dX7_layParts_156 (fun v156 => ?_)
            refine ww_if_eq (pc := 159) (tgt := 169) hC dX7_layParts_159 (by decide) ?_ ?_
            · refine ww_iconst (pc := 169) (v := 0) hC dX7_layParts_169 rfl ?_
              refine ww_ior (pc := 170) hC dX7_layParts_170 ?_
              refine ww_istore_n (pc := 171) (lv' := [(3, .int (a123.1 ||| 0)), (0, .ref (ad o0)), (1, .int p1), (4, .int x4), (5, .int x5), (6, .int a123.2)]) hC dX7_layParts_171 rfl (by decide) rfl ?_
              refine ww_iinc (pc := 172) (v := a123.2 + 1) (lv' := [(6, .int (a123.2 + 1)), (3, .int (a123.1 ||| 0)), (0, .ref (ad o0)), (1, .int p1), (4, .int x4), (5, .int x5)]) hC 5 rfl dX7_layParts_172 rfl (by decide) rfl ?_
              refine ww_goto (pc := 175) (tgt := 123) hC dX7_layParts_175 (by decide) ?_
              refine ww_lv [2, 3, 1, 4, 5, 0] rfl ?_
              exact hc123 (a123.1 ||| 0, a123.2 + 1)
            · refine ww_iconst (pc := 162) (v := 1) hC dX7_layParts_162 rfl ?_
              refine ww_iload (pc := 163) hC 5 rfl dX7_layParts_163 ?_
              refine ww_ishl (pc := 165) hC dX7_layParts_165 ?_
              refine ww_goto (pc := 166) (tgt := 170) hC dX7_layParts_166 (by decide) ?_
              refine ww_ior (pc := 170) hC dX7_layParts_170 ?_
              refine ww_istore_n (pc := 171) (lv' := [(3, .int (a123.1 ||| (ww_shl 1 a123.2))), (0, .ref (ad o0)), (1, .int p1), (4, .int x4), (5, .int x5), (6, .int a123.2)]) hC dX7_layParts_171 rfl (by decide) rfl ?_
              refine ww_iinc (pc := 172) (v := a123.2 + 1) (lv' := [(6, .int (a123.2 + 1)), (3, .int (a123.1 ||| (ww_shl 1 a123.2))), (0, .ref (ad o0)), (1, .int p1), (4, .int x4), (5, .int x5)]) hC 5 rfl dX7_layParts_172 rfl (by decide) rfl ?_
              refine ww_goto (pc := 175) (tgt := 123) hC dX7_layParts_175 (by decide) ?_
              refine ww_lv [2, 3, 1, 4, 5, 0] rfl ?_
              exact hc123 (a123.1 ||| (ww_shl 1 a123.2), a123.2 + 1)
      refine ww_iload (pc := 94) hC 3 rfl dX7_layParts_94 ?_
      refine ww_iload_n (pc := 96) hC 1 rfl dX7_layParts_96 rfl ?_
      refine ww_icmp_ge (pc := 97) (tgt := 282) hC dX7_layParts_97 (by decide) ?_ ?_
      · refine ww_lv [] rfl ?_
        exact hx94 a94.2.2
      · refine ww_aload_n (pc := 100) hC 0 rfl dX7_layParts_100 rfl ?_
        refine ww_getr (pc := 101) (Cl := RX7) (T := TX7) (N := 36) (j := 0) (ref := RX7) hC (h0 0 _ rfl) rfl inT_X7 (by decide) mw_876 rfl rfl dX7_layParts_101 ?_
        refine ww_bipush (pc := 104) (v := 45) hC dX7_layParts_104 rfl ?_
        refine ww_iald_c (pc := 106) (j := 45) hC (h0 1 _ rfl) (by decide) rfl dX7_layParts_106 ?_
        refine ww_iload (pc := 107) hC 3 rfl dX7_layParts_107 ?_
        refine ww_iadd (pc := 109) hC dX7_layParts_109 ?_
        refine ww_istore (pc := 110) (lv' := [(5, .int ((a94.2.2 (o0 + 1) 45) + a94.2.1)), (0, .ref (ad o0)), (1, .int p1), (3, .int a94.1), (4, .int a94.2.1)]) hC dX7_layParts_110 (by decide) rfl ?_
        refine ww_aload_n (pc := 112) hC 1 rfl dX7_layParts_112 rfl ?_
        refine ww_getr (pc := 113) (Cl := RX7) (T := TX7) (N := 36) (j := 27) (ref := RX7) hC (h0 0 _ rfl) rfl inT_X7 (by decide) mw_903 rfl rfl dX7_layParts_113 ?_
        refine ww_iload (pc := 116) hC 4 rfl dX7_layParts_116 ?_
        refine ww_iconst (pc := 118) (v := 0) hC dX7_layParts_118 rfl ?_
        refine ww_iast (pc := 119) hC (h0 12 _ rfl) dX7_layParts_119 ?_
        refine ww_iconst (pc := 120) (v := 0) hC dX7_layParts_120 rfl ?_
        refine ww_istore (pc := 121) (lv' := [(6, .int 0), (5, .int ((a94.2.2 (o0 + 1) 45) + a94.2.1)), (0, .ref (ad o0)), (1, .int p1), (3, .int a94.1), (4, .int a94.2.1)]) hC dX7_layParts_121 (by decide) rfl ?_
        refine ww_lv [2, 3, 4, 5, 1, 0] rfl ?_
        exact hJ123 (ww_up a94.2.2 (o0 + 12) (ww_ix a94.2.1) 0) a94.1 a94.2.1 ((a94.2.2 (o0 + 1) 45) + a94.2.1) 0
  have hJ91 : ∀ (σ : ww_M) (x3 : Int32), ww_V X Y ad G 9 σ 91 [(0, .ref (ad o0)), (1, .int p1), (3, .int x3)] [] ((f_X7_layParts_j91 σ o0 p1 p2 x3).bind ww_rv) := by
    intro σ x3
    unfold f_X7_layParts_j91
    refine ww_iconst (pc := 91) (v := 0) hC dX7_layParts_91 rfl ?_
    refine ww_istore (pc := 92) (lv' := [(4, .int 0), (0, .ref (ad o0)), (1, .int p1), (3, .int x3)]) hC dX7_layParts_92 (by decide) rfl ?_
    refine ww_lv [1, 2, 3, 0] rfl ?_
    exact hJ94 σ x3 0
  have hJ60 : ∀ (σ : ww_M) (x3 : Int32) (x4 : Int32), ww_V X Y ad G 9 σ 60 [(0, .ref (ad o0)), (1, .int p1), (3, .int x3), (4, .int x4)] [] ((f_X7_layParts_j60 σ o0 p1 p2 x3 x4).bind ww_rv) := by
    intro σ x3 x4
    unfold f_X7_layParts_j60
    refine ww_assoc ?_
    refine ww_loop (f := f_X7_layParts_b60 σ o0 p1 p2) (fun a60 => σ) (fun a60 => [(0, .ref (ad o0)), (1, .int p1), (3, .int a60.1), (4, .int a60.2)]) (fun b60 => σ) (fun b60 => [(0, .ref (ad o0)), (1, .int p1), (3, .int b60)]) 91 (fun b60 => ?_) (fun a60 KK60 hc60 hx60 => ?_) ww_F (x3, x4)
    · exact hJ91 σ b60
    · unfold f_X7_layParts_b60
      refine ww_iload (pc := 60) hC 3 rfl dX7_layParts_60 ?_
      refine ww_aload_n (pc := 62) hC 0 rfl dX7_layParts_62 rfl ?_
      refine ww_geti (pc := 63) (Cl := RX7) (T := TX7) (N := 36) (j := 5) (ref := RX7) hC (h0 0 _ rfl) rfl inT_X7 (by decide) mw_881 rfl rfl dX7_layParts_63 ?_
      refine ww_icmp_ge (pc := 66) (tgt := 91) hC dX7_layParts_66 (by decide) ?_ ?_
      · refine ww_lv [0, 1, 2] rfl ?_
        exact hx60 a60.1
      · refine ww_iload_n (pc := 69) hC 2 rfl dX7_layParts_69 rfl ?_
        refine ww_aload_n (pc := 70) hC 0 rfl dX7_layParts_70 rfl ?_
        refine ww_getr (pc := 71) (Cl := RX7) (T := TX7) (N := 36) (j := 0) (ref := RX7) hC (h0 0 _ rfl) rfl inT_X7 (by decide) mw_876 rfl rfl dX7_layParts_71 ?_
        refine ww_bipush (pc := 74) (v := 15) hC dX7_layParts_74 rfl ?_
        refine ww_iload (pc := 76) hC 3 rfl dX7_layParts_76 ?_
        refine ww_iadd (pc := 78) hC dX7_layParts_78 ?_
        refine ww_iald (pc := 79) hC (h0 1 _ rfl) dX7_layParts_79 ?_
        refine ww_iload (pc := 80) hC 3 rfl dX7_layParts_80 ?_
        refine ww_ishl (pc := 82) hC dX7_layParts_82 ?_
        refine ww_ior (pc := 83) hC dX7_layParts_83 ?_
        refine ww_istore_n (pc := 84) (lv' := [(3, .int (a60.1 ||| (ww_shl (σ (o0 + 1) (ww_ix (15 + a60.2))) a60.2))), (0, .ref (ad o0)), (1, .int p1), (4, .int a60.2)]) hC dX7_layParts_84 rfl (by decide) rfl ?_
        refine ww_iinc (pc := 85) (v := a60.2 + 1) (lv' := [(4, .int (a60.2 + 1)), (3, .int (a60.1 ||| (ww_shl (σ (o0 + 1) (ww_ix (15 + a60.2))) a60.2))), (0, .ref (ad o0)), (1, .int p1)]) hC 3 rfl dX7_layParts_85 rfl (by decide) rfl ?_
        refine ww_goto (pc := 88) (tgt := 60) hC dX7_layParts_88 (by decide) ?_
        refine ww_lv [2, 3, 1, 0] rfl ?_
        exact hc60 (a60.1 ||| (ww_shl (σ (o0 + 1) (ww_ix (15 + a60.2))) a60.2), a60.2 + 1)
  have hJ55 : ∀ (σ : ww_M), ww_V X Y ad G 9 σ 55 [(0, .ref (ad o0)), (1, .int p1)] [] ((f_X7_layParts_j55 σ o0 p1 p2).bind ww_rv) := by
    intro σ
    unfold f_X7_layParts_j55
    refine ww_iconst (pc := 55) (v := 0) hC dX7_layParts_55 rfl ?_
    refine ww_istore_n (pc := 56) (lv' := [(3, .int 0), (0, .ref (ad o0)), (1, .int p1)]) hC dX7_layParts_56 rfl (by decide) rfl ?_
    refine ww_iconst (pc := 57) (v := 0) hC dX7_layParts_57 rfl ?_
    refine ww_istore (pc := 58) (lv' := [(4, .int 0), (3, .int 0), (0, .ref (ad o0)), (1, .int p1)]) hC dX7_layParts_58 (by decide) rfl ?_
    refine ww_lv [2, 3, 1, 0] rfl ?_
    exact hJ60 σ 0 0
  have hJ7 : ∀ (σ : ww_M) (x3 : Int32), ww_V X Y ad G 9 σ 7 [(0, .ref (ad o0)), (1, .int p1), (2, .int p2), (3, .int x3)] [] ((f_X7_layParts_j7 σ o0 p1 p2 x3).bind ww_rv) := by
    intro σ x3
    unfold f_X7_layParts_j7
    refine ww_assoc ?_
    refine ww_loop (f := f_X7_layParts_b7 o0 p1 p2) (fun a7 => a7.2) (fun a7 => [(0, .ref (ad o0)), (1, .int p1), (2, .int p2), (3, .int a7.1)]) (fun b7 => b7) (fun b7 => [(0, .ref (ad o0)), (1, .int p1)]) 55 (fun b7 => ?_) (fun a7 KK7 hc7 hx7 => ?_) ww_F (x3, σ)
    · exact hJ55 b7
    · unfold f_X7_layParts_b7
      refine ww_iload_n (pc := 7) hC 3 rfl dX7_layParts_7 rfl ?_
      refine ww_bipush (pc := 8) (v := 30) hC dX7_layParts_8 rfl ?_
      refine ww_icmp_ge (pc := 10) (tgt := 55) hC dX7_layParts_10 (by decide) ?_ ?_
      · refine ww_lv [0, 1] rfl ?_
        exact hx7 a7.2
      · refine ww_aload_n (pc := 13) hC 0 rfl dX7_layParts_13 rfl ?_
        refine ww_iload_n (pc := 14) hC 3 rfl dX7_layParts_14 rfl ?_
        refine ww_callVi (pc := 15) (st := []) (As := [.int a7.1]) hC (c_X7_isPart o0 h0 a7.2 a7.1) mm_X7_isPart mw_1098 (h0 0 _ rfl) rfl (by omega) (by decide) (Nat.le_of_ble_eq_true rfl) rfl dX7_layParts_15 (fun v15 => ?_)
        refine ww_if_eq (pc := 18) (tgt := 49) hC dX7_layParts_18 (by decide) ?_ ?_
        · refine ww_iinc (pc := 49) (v := a7.1 + 1) (lv' := [(3, .int (a7.1 + 1)), (0, .ref (ad o0)), (1, .int p1), (2, .int p2)]) hC 3 rfl dX7_layParts_49 rfl (by decide) rfl ?_
          refine ww_goto (pc := 52) (tgt := 7) hC dX7_layParts_52 (by decide) ?_
          refine ww_lv [1, 2, 3, 0] rfl ?_
          exact hc7 (a7.1 + 1, a7.2)
        · refine ww_iload_n (pc := 21) hC 3 rfl dX7_layParts_21 rfl ?_
          refine ww_bipush (pc := 22) (v := 10) hC dX7_layParts_22 rfl ?_
          refine ww_idiv_c (pc := 24) hC dX7_layParts_24 (by decide) ?_
          refine ww_iload_n (pc := 25) hC 2 rfl dX7_layParts_25 rfl ?_
          refine ww_icmp_eq (pc := 26) (tgt := 49) hC dX7_layParts_26 (by decide) ?_ ?_
          · refine ww_iinc (pc := 49) (v := a7.1 + 1) (lv' := [(3, .int (a7.1 + 1)), (0, .ref (ad o0)), (1, .int p1), (2, .int p2)]) hC 3 rfl dX7_layParts_49 rfl (by decide) rfl ?_
            refine ww_goto (pc := 52) (tgt := 7) hC dX7_layParts_52 (by decide) ?_
            refine ww_lv [1, 2, 3, 0] rfl ?_
            exact hc7 (a7.1 + 1, a7.2)
          · refine ww_aload_n (pc := 29) hC 0 rfl dX7_layParts_29 rfl ?_
            refine ww_getr (pc := 30) (Cl := RX7) (T := TX7) (N := 36) (j := 24) (ref := RX7) hC (h0 0 _ rfl) rfl inT_X7 (by decide) mw_900 rfl rfl dX7_layParts_30 ?_
            refine ww_aload_n (pc := 33) hC 0 rfl dX7_layParts_33 rfl ?_
            refine ww_geti (pc := 34) (Cl := RX7) (T := TX7) (N := 36) (j := 25) (ref := RX7) hC (h0 0 _ rfl) rfl inT_X7 (by decide) mw_901 rfl rfl dX7_layParts_34 ?_
            refine ww_iload_n (pc := 37) hC 3 rfl dX7_layParts_37 rfl ?_
            refine ww_iast (pc := 38) hC (h0 10 _ rfl) dX7_layParts_38 ?_
            refine ww_aload_n (pc := 39) hC 0 rfl dX7_layParts_39 rfl ?_
            refine ww_dup (pc := 40) hC dX7_layParts_40 rfl ?_
            refine ww_geti (pc := 41) (Cl := RX7) (T := TX7) (N := 36) (j := 25) (ref := RX7) hC (h0 0 _ rfl) rfl inT_X7 (by decide) mw_901 rfl rfl dX7_layParts_41 ?_
            refine ww_iconst (pc := 44) (v := 1) hC dX7_layParts_44 rfl ?_
            refine ww_iadd (pc := 45) hC dX7_layParts_45 ?_
            refine ww_puti (pc := 46) (Cl := RX7) (T := TX7) (N := 36) (j := 25) (ref := RX7) hC (h0 0 _ rfl) rfl inT_X7 (by decide) mw_901 rfl tyX7 tyX7_ok nmX7 rfl rfl (tyX7_ok 25 (by decide)) dX7_layParts_46 ?_
            refine ww_iinc (pc := 49) (v := a7.1 + 1) (lv' := [(3, .int (a7.1 + 1)), (0, .ref (ad o0)), (1, .int p1), (2, .int p2)]) hC 3 rfl dX7_layParts_49 rfl (by decide) rfl ?_
            refine ww_goto (pc := 52) (tgt := 7) hC dX7_layParts_52 (by decide) ?_
            refine ww_lv [1, 2, 3, 0] rfl ?_
            exact hc7 (a7.1 + 1, ww_up (ww_up a7.2 (o0 + 10) (ww_ix (a7.2 o0 25)) a7.1) o0 25 (((ww_up a7.2 (o0 + 10) (ww_ix (a7.2 o0 25)) a7.1) o0 25) + 1))
  unfold f_X7_layParts
  refine ww_aload_n (pc := 0) hC 0 rfl dX7_layParts_0 rfl ?_
  refine ww_iconst (pc := 1) (v := 0) hC dX7_layParts_1 rfl ?_
  refine ww_puti (pc := 2) (Cl := RX7) (T := TX7) (N := 36) (j := 25) (ref := RX7) hC (h0 0 _ rfl) rfl inT_X7 (by decide) mw_901 rfl tyX7 tyX7_ok nmX7 rfl rfl (tyX7_ok 25 (by decide)) dX7_layParts_2 ?_
  refine ww_iconst (pc := 5) (v := 0) hC dX7_layParts_5 rfl ?_
  refine ww_istore_n (pc := 6) (lv' := [(3, .int 0), (0, .ref (ad o0)), (1, .int p1), (2, .int p2)]) hC dX7_layParts_6 rfl (by decide) rfl ?_
  refine ww_lv [1, 2, 3, 0] rfl ?_
  exact hJ7 (ww_up σ o0 25 0) 0
