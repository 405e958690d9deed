theorem dX7_in_0 : decode cX7_in 0 = .ok (.lload_n 0, 1) := by decide +kernel
theorem dX7_in_1 : decode cX7_in 1 = .ok (.lload_n 2, 1) := by decide +kernel
theorem dX7_in_2 : decode cX7_in 2 = .ok (.lcmp, 1) := by decide +kernel
theorem dX7_in_3 : decode cX7_in 3 = .ok (.ifCond .lt 14, 3) := by decide +kernel
theorem dX7_in_6 : decode cX7_in 6 = .ok (.lload_n 0, 1) := by decide +kernel
theorem dX7_in_7 : decode cX7_in 7 = .ok (.lload 4, 2) := by decide +kernel
theorem dX7_in_9 : decode cX7_in 9 = .ok (.lcmp, 1) := by decide +kernel
theorem dX7_in_10 : decode cX7_in 10 = .ok (.ifCond .gt 7, 3) := by decide +kernel
theorem dX7_in_13 : decode cX7_in 13 = .ok (.iconst 1, 1) := by decide +kernel
theorem dX7_in_14 : decode cX7_in 14 = .ok (.goto 4, 3) := by decide +kernel
theorem dX7_in_17 : decode cX7_in 17 = .ok (.iconst 0, 1) := by decide +kernel
theorem dX7_in_18 : decode cX7_in 18 = .ok (.ireturn, 1) := by decide +kernel
set_option maxHeartbeats 4000000 in
set_option maxRecDepth 100000 in
theorem c_X7_in {l : Launch} {Y : ww_Y} {ad : Nat → Nat} {G : List ww_L} (σ : ww_M) (u0 : Int64) (u2 : Int64) (u4 : Int64) : ww_Cn l Y ad G yX7_in cX7_in 6 (some .boolean) 1 [.long u0, .long u2, .long u4] σ ((f_X7_in u0 u2 u4).bind (ww_ri σ)) := by
  refine ww_met (by decide +kernel) (Nat.le_of_ble_eq_true rfl) ?_
  intro X hC hR
  have hC : ww_C X l Y ad G 1 cX7_in 6 RX7 := hC
  show ww_V X Y ad G 6 σ 0 [(0, .long u0), (2, .long u2), (4, .long u4)] [] ((f_X7_in u0 u2 u4).bind (ww_ri σ))
  unfold f_X7_in
  refine ww_lload_n (pc := 0) hC 0 rfl dX7_in_0 rfl ?_
  refine ww_lload_n (pc := 1) hC 1 rfl dX7_in_1 rfl ?_
  refine ww_lcmp (pc := 2) hC dX7_in_2 ?_
  refine ww_if_lt (pc := 3) (tgt := 17) hC dX7_in_3 (by decide) ?_ ?_
  · refine ww_iconst (pc := 17) (v := 0) hC dX7_in_17 rfl ?_
    exact ww_zreturn (pc := 18) hC hR dX7_in_18 rfl rfl
  · refine ww_lload_n (pc := 6) hC 0 rfl dX7_in_6 rfl ?_
    refine ww_lload (pc := 7) hC 2 rfl dX7_in_7 ?_
    refine ww_lcmp (pc := 9) hC dX7_in_9 ?_
    refine ww_if_gt (pc := 10) (tgt := 17) hC dX7_in_10 (by decide) ?_ ?_
    · refine ww_iconst (pc := 17) (v := 0) hC dX7_in_17 rfl ?_
      exact ww_zreturn (pc := 18) hC hR dX7_in_18 rfl rfl
    · refine ww_iconst (pc := 13) (v := 1) hC dX7_in_13 rfl ?_
      refine ww_goto (pc := 14) (tgt := 18) hC dX7_in_14 (by decide) ?_
      exact ww_zreturn (pc := 18) hC hR dX7_in_18 rfl rfl
theorem dX7_feed_0 : decode cX7_feed 0 = .ok (.iload_n 1, 1) := by decide +kernel
theorem dX7_feed_1 : decode cX7_feed 1 = .ok (.i2l, 1) := by decide +kernel
theorem dX7_feed_2 : decode cX7_feed 2 = .ok (.lconst 0, 1) := by decide +kernel
theorem dX7_feed_3 : decode cX7_feed 3 = .ok (.ldc2_w 66, 3) := by decide +kernel
theorem dX7_feed_6 : decode cX7_feed 6 = .ok (.invokestatic 68, 3) := by decide +kernel
theorem dX7_feed_9 : decode cX7_feed 9 = .ok (.ifCond .ne 5, 3) := by decide +kernel
theorem dX7_feed_12 : decode cX7_feed 12 = .ok (.iconst (-1), 1) := by decide +kernel
theorem dX7_feed_13 : decode cX7_feed 13 = .ok (.ireturn, 1) := by decide +kernel
theorem dX7_feed_14 : decode cX7_feed 14 = .ok (.aload_n 0, 1) := by decide +kernel
theorem dX7_feed_15 : decode cX7_feed 15 = .ok (.getfield 72, 3) := by decide +kernel
theorem dX7_feed_18 : decode cX7_feed 18 = .ok (.sipush 160, 3) := by decide +kernel
theorem dX7_feed_21 : decode cX7_feed 21 = .ok (.if_icmp .ne 6, 3) := by decide +kernel
theorem dX7_feed_24 : decode cX7_feed 24 = .ok (.bipush (-3), 2) := by decide +kernel
theorem dX7_feed_26 : decode cX7_feed 26 = .ok (.ireturn, 1) := by decide +kernel
theorem dX7_feed_27 : decode cX7_feed 27 = .ok (.aload_n 0, 1) := by decide +kernel
theorem dX7_feed_28 : decode cX7_feed 28 = .ok (.getfield 32, 3) := by decide +kernel
theorem dX7_feed_31 : decode cX7_feed 31 = .ok (.aload_n 0, 1) := by decide +kernel
theorem dX7_feed_32 : decode cX7_feed 32 = .ok (.getfield 72, 3) := by decide +kernel
theorem dX7_feed_35 : decode cX7_feed 35 = .ok (.iload_n 1, 1) := by decide +kernel
theorem dX7_feed_36 : decode cX7_feed 36 = .ok (.iastore, 1) := by decide +kernel
theorem dX7_feed_37 : decode cX7_feed 37 = .ok (.aload_n 0, 1) := by decide +kernel
theorem dX7_feed_38 : decode cX7_feed 38 = .ok (.dup, 1) := by decide +kernel
theorem dX7_feed_39 : decode cX7_feed 39 = .ok (.getfield 72, 3) := by decide +kernel
theorem dX7_feed_42 : decode cX7_feed 42 = .ok (.iconst 1, 1) := by decide +kernel
theorem dX7_feed_43 : decode cX7_feed 43 = .ok (.iadd, 1) := by decide +kernel
theorem dX7_feed_44 : decode cX7_feed 44 = .ok (.putfield 72, 3) := by decide +kernel
theorem dX7_feed_47 : decode cX7_feed 47 = .ok (.aload_n 0, 1) := by decide +kernel
theorem dX7_feed_48 : decode cX7_feed 48 = .ok (.getfield 72, 3) := by decide +kernel
theorem dX7_feed_51 : decode cX7_feed 51 = .ok (.ireturn, 1) := by decide +kernel
set_option maxHeartbeats 4000000 in
set_option maxRecDepth 100000 in
theorem c_X7_feed {l : Launch} {Y : ww_Y} {ad : Nat → Nat} {G : List ww_L} (o0 : Nat) (h0 : ww_at G o0 (ww_LModel o0)) (σ : ww_M) (p1 : Int32) : ww_Cn l Y ad G yX7_feed cX7_feed 2 (some .int) 2 [.ref (ad o0), .int p1] σ ((f_X7_feed σ o0 p1).bind ww_rw) := by
  refine ww_met (by decide +kernel) (Nat.le_of_ble_eq_true rfl) ?_
  intro X hC hR
  have hC : ww_C X l Y ad G 2 cX7_feed 2 RX7 := hC
  show ww_V X Y ad G 2 σ 0 [(0, .ref (ad o0)), (1, .int p1)] [] ((f_X7_feed σ o0 p1).bind ww_rw)
  unfold f_X7_feed
  refine ww_iload_n (pc := 0) hC 1 rfl dX7_feed_0 rfl ?_
  refine ww_i2l (pc := 1) hC dX7_feed_1 ?_
  refine ww_lconst (pc := 2) (v := 0) hC dX7_feed_2 rfl ?_
  refine ww_ldc2 (pc := 3) hC dX7_feed_3 mw_990 ?_
  refine ww_callSi (pc := 6) (st := []) (As := [.long p1.toInt64, .long 0, .long 127]) hC (c_X7_in σ p1.toInt64 0 127) mm_X7_in mw_991 (by omega) (by decide) (Nat.le_of_ble_eq_true rfl) rfl dX7_feed_6 (fun v6 => ?_)
  refine ww_if_ne (pc := 9) (tgt := 14) hC dX7_feed_9 (by decide) ?_ ?_
  · refine ww_aload_n (pc := 14) hC 0 rfl dX7_feed_14 rfl ?_
    refine ww_geti (pc := 15) (Cl := RX7) (T := TX7) (N := 36) (j := 14) (ref := RX7) hC (h0 0 _ rfl) rfl inT_X7 (by decide) mw_890 rfl rfl dX7_feed_15 ?_
    refine ww_sipush (pc := 18) (v := 160) hC dX7_feed_18 rfl ?_
    refine ww_icmp_ne (pc := 21) (tgt := 27) hC dX7_feed_21 (by decide) ?_ ?_
    · refine ww_aload_n (pc := 27) hC 0 rfl dX7_feed_27 rfl ?_
      refine ww_getr (pc := 28) (Cl := RX7) (T := TX7) (N := 36) (j := 13) (ref := RX7) hC (h0 0 _ rfl) rfl inT_X7 (by decide) mw_889 rfl rfl dX7_feed_28 ?_
      refine ww_aload_n (pc := 31) hC 0 rfl dX7_feed_31 rfl ?_
      refine ww_geti (pc := 32) (Cl := RX7) (T := TX7) (N := 36) (j := 14) (ref := RX7) hC (h0 0 _ rfl) rfl inT_X7 (by decide) mw_890 rfl rfl dX7_feed_32 ?_
      refine ww_iload_n (pc := 35) hC 1 rfl dX7_feed_35 rfl ?_
      refine ww_iast (pc := 36) hC (h0 7 _ rfl) dX7_feed_36 ?_
      refine ww_aload_n (pc := 37) hC 0 rfl dX7_feed_37 rfl ?_
      refine ww_dup (pc := 38) hC dX7_feed_38 rfl ?_
      refine ww_geti (pc := 39) (Cl := RX7) (T := TX7) (N := 36) (j := 14) (ref := RX7) hC (h0 0 _ rfl) rfl inT_X7 (by decide) mw_890 rfl rfl dX7_feed_39 ?_
      refine ww_iconst (pc := 42) (v := 1) hC dX7_feed_42 rfl ?_
      refine ww_iadd (pc := 43) hC dX7_feed_43 ?_
      refine ww_puti (pc := 44) (Cl := RX7) (T := TX7) (N := 36) (j := 14) (ref := RX7) hC (h0 0 _ rfl) rfl inT_X7 (by decide) mw_890 rfl tyX7 tyX7_ok nmX7 rfl rfl (tyX7_ok 14 (by decide)) dX7_feed_44 ?_
      refine ww_aload_n (pc := 47) hC 0 rfl dX7_feed_47 rfl ?_
      refine ww_geti (pc := 48) (Cl := RX7) (T := TX7) (N := 36) (j := 14) (ref := RX7) hC (h0 0 _ rfl) rfl inT_X7 (by decide) mw_890 rfl rfl dX7_feed_48 ?_
      exact ww_ireturn (pc := 51) hC hR dX7_feed_51 rfl
    · refine ww_bipush (pc := 24) (v := (-3)) hC dX7_feed_24 rfl ?_
      exact ww_ireturn (pc := 26) hC hR dX7_feed_26 rfl
  · refine ww_iconst (pc := 12) (v := (-1)) hC dX7_feed_12 rfl ?_
    exact ww_ireturn (pc := 13) hC hR dX7_feed_13 rfl
theorem dX7_end_0 : decode cX7_end 0 = .ok (.iload_n 1, 1) := by decide +kernel
theorem dX7_end_1 : decode cX7_end 1 = .ok (.i2l, 1) := by decide +kernel
theorem dX7_end_2 : decode cX7_end 2 = .ok (.lconst 0, 1) := by decide +kernel
theorem dX7_end_3 : decode cX7_end 3 = .ok (.aload_n 0, 1) := by decide +kernel
theorem dX7_end_4 : decode cX7_end 4 = .ok (.getfield 72, 3) := by decide +kernel
theorem dX7_end_7 : decode cX7_end 7 = .ok (.i2l, 1) := by decide +kernel
theorem dX7_end_8 : decode cX7_end 8 = .ok (.invokestatic 68, 3) := by decide +kernel
theorem dX7_end_11 : decode cX7_end 11 = .ok (.ifCond .ne 5, 3) := by decide +kernel
theorem dX7_end_14 : decode cX7_end 14 = .ok (.iconst (-1), 1) := by decide +kernel
theorem dX7_end_15 : decode cX7_end 15 = .ok (.ireturn, 1) := by decide +kernel
theorem dX7_end_16 : decode cX7_end 16 = .ok (.aload_n 0, 1) := by decide +kernel
theorem dX7_end_17 : decode cX7_end 17 = .ok (.getfield 72, 3) := by decide +kernel
theorem dX7_end_20 : decode cX7_end 20 = .ok (.istore_n 2, 1) := by decide +kernel
theorem dX7_end_21 : decode cX7_end 21 = .ok (.aload_n 0, 1) := by decide +kernel
theorem dX7_end_22 : decode cX7_end 22 = .ok (.iload_n 1, 1) := by decide +kernel
theorem dX7_end_23 : decode cX7_end 23 = .ok (.putfield 72, 3) := by decide +kernel
theorem dX7_end_26 : decode cX7_end 26 = .ok (.iload_n 2, 1) := by decide +kernel
theorem dX7_end_27 : decode cX7_end 27 = .ok (.ireturn, 1) := by decide +kernel
set_option maxHeartbeats 4000000 in
set_option maxRecDepth 100000 in
theorem c_X7_end {l : Launch} {Y : ww_Y} {ad : Nat → Nat} {G : List ww_L} (o0 : Nat) (h0 : ww_at G o0 (ww_LModel o0)) (σ : ww_M) (p1 : Int32) : ww_Cn l Y ad G yX7_end cX7_end 3 (some .int) 2 [.ref (ad o0), .int p1] σ ((f_X7_end σ o0 p1).bind ww_rw) := by
  refine ww_met (by decide +kernel) (Nat.le_of_ble_eq_true rfl) ?_
  intro X hC hR
  have hC : ww_C X l Y ad G 2 cX7_end 3 RX7 := hC
  show ww_V X Y ad G 3 σ 0 [(0, .ref (ad o0)), (1, .int p1)] [] ((f_X7_end σ o0 p1).bind ww_rw)
  unfold f_X7_end
  refine ww_iload_n (pc := 0) hC 1 rfl dX7_end_0 rfl ?_
  refine ww_i2l (pc := 1) hC dX7_end_1 ?_
  refine ww_lconst (pc := 2) (v := 0) hC dX7_end_2 rfl ?_
  refine ww_aload_n (pc := 3) hC 0 rfl dX7_end_3 rfl ?_
  refine ww_geti (pc := 4) (Cl := RX7) (T := TX7) (N := 36) (j := 14) (ref := RX7) hC (h0 0 _ rfl) rfl inT_X7 (by decide) mw_890 rfl rfl dX7_end_4 ?_
  refine ww_i2l (pc := 7) hC dX7_end_7 ?_
  refine ww_callSi (pc := 8) (st := []) (As := [.long p1.toInt64, .long 0, .long ((σ o0 14).toInt64)]) hC (c_X7_in σ p1.toInt64 0 ((σ o0 14).toInt64)) mm_X7_in mw_991 (by omega) (by decide) (Nat.le_of_ble_eq_true rfl) rfl dX7_end_8 (fun v8 => ?_)
  refine ww_if_ne (pc := 11) (tgt := 16) hC dX7_end_11 (by decide) ?_ ?_
  · refine ww_aload_n (pc := 16) hC 0 rfl dX7_end_16 rfl ?_
    refine ww_geti (pc := 17) (Cl := RX7) (T := TX7) (N := 36) (j := 14) (ref := RX7) hC (h0 0 _ rfl) rfl inT_X7 (by decide) mw_890 rfl rfl dX7_end_17 ?_
    refine ww_istore_n (pc := 20) (lv' := [(2, .int (σ o0 14)), (0, .ref (ad o0)), (1, .int p1)]) hC dX7_end_20 rfl (by decide) rfl ?_
    refine ww_aload_n (pc := 21) hC 1 rfl dX7_end_21 rfl ?_
    refine ww_iload_n (pc := 22) hC 2 rfl dX7_end_22 rfl ?_
    refine ww_puti (pc := 23) (Cl := RX7) (T := TX7) (N := 36) (j := 14) (ref := RX7) hC (h0 0 _ rfl) rfl inT_X7 (by decide) mw_890 rfl tyX7 tyX7_ok nmX7 rfl rfl (tyX7_ok 14 (by decide)) dX7_end_23 ?_
    refine ww_iload_n (pc := 26) hC 0 rfl dX7_end_26 rfl ?_
    exact ww_ireturn (pc := 27) hC hR dX7_end_27 rfl
  · refine ww_iconst (pc := 14) (v := (-1)) hC dX7_end_14 rfl ?_
    exact ww_ireturn (pc := 15) hC hR dX7_end_15 rfl
theorem dX7_byteAt_0 : decode cX7_byteAt 0 = .ok (.iload_n 1, 1) := by decide +kernel
theorem dX7_byteAt_1 : decode cX7_byteAt 1 = .ok (.aload_n 0, 1) := by decide +kernel
theorem dX7_byteAt_2 : decode cX7_byteAt 2 = .ok (.getfield 72, 3) := by decide +kernel
theorem dX7_byteAt_5 : decode cX7_byteAt 5 = .ok (.if_icmp .ge 12, 3) := by decide +kernel
theorem dX7_byteAt_8 : decode cX7_byteAt 8 = .ok (.aload_n 0, 1) := by decide +kernel
theorem dX7_byteAt_9 : decode cX7_byteAt 9 = .ok (.getfield 32, 3) := by decide +kernel
theorem dX7_byteAt_12 : decode cX7_byteAt 12 = .ok (.iload_n 1, 1) := by decide +kernel
theorem dX7_byteAt_13 : decode cX7_byteAt 13 = .ok (.iaload, 1) := by decide +kernel
theorem dX7_byteAt_14 : decode cX7_byteAt 14 = .ok (.goto 5, 3) := by decide +kernel
theorem dX7_byteAt_17 : decode cX7_byteAt 17 = .ok (.bipush (-4), 2) := by decide +kernel
theorem dX7_byteAt_19 : decode cX7_byteAt 19 = .ok (.ireturn, 1) := by decide +kernel
set_option maxHeartbeats 4000000 in
set_option maxRecDepth 100000 in
theorem c_X7_byteAt {l : Launch} {Y : ww_Y} {ad : Nat → Nat} {G : List ww_L} (o0 : Nat) (h0 : ww_at G o0 (ww_LModel o0)) (σ : ww_M) (p1 : Int32) : ww_Cn l Y ad G yX7_byteAt cX7_byteAt 2 (some .int) 1 [.ref (ad o0), .int p1] σ ((f_X7_byteAt σ o0 p1).bind (ww_ri σ)) := by
  refine ww_met (by decide +kernel) (Nat.le_of_ble_eq_true rfl) ?_
  intro X hC hR
  have hC : ww_C X l Y ad G 1 cX7_byteAt 2 RX7 := hC
  show ww_V X Y ad G 2 σ 0 [(0, .ref (ad o0)), (1, .int p1)] [] ((f_X7_byteAt σ o0 p1).bind (ww_ri σ))
  unfold f_X7_byteAt
  refine ww_iload_n (pc := 0) hC 1 rfl dX7_byteAt_0 rfl ?_
  refine ww_aload_n (pc := 1) hC 0 rfl dX7_byteAt_1 rfl ?_
  refine ww_geti (pc := 2) (Cl := RX7) (T := TX7) (N := 36) (j := 14) (ref := RX7) hC (h0 0 _ rfl) rfl inT_X7 (by decide) mw_890 rfl rfl dX7_byteAt_2 ?_
  refine ww_icmp_ge (pc := 5) (tgt := 17) hC dX7_byteAt_5 (by decide) ?_ ?_
  · refine ww_bipush (pc := 17) (v := (-4)) hC dX7_byteAt_17 rfl ?_
    exact ww_ireturn (pc := 19) hC hR dX7_byteAt_19 rfl
  · refine ww_aload_n (pc := 8) hC 0 rfl dX7_byteAt_8 rfl ?_
    refine ww_getr (pc := 9) (Cl := RX7) (T := TX7) (N := 36) (j := 13) (ref := RX7) hC (h0 0 _ rfl) rfl inT_X7 (by decide) mw_889 rfl rfl dX7_byteAt_9 ?_
    refine ww_iload_n (pc := 12) hC 1 rfl dX7_byteAt_12 rfl ?_
    refine ww_iald (pc := 13) hC (h0 7 _ rfl) dX7_byteAt_13 ?_
    refine ww_goto (pc := 14) (tgt := 19) hC dX7_byteAt_14 (by decide) ?_
    exact ww_ireturn (pc := 19) hC hR dX7_byteAt_19 rfl
theorem dX7_fails_0 : decode cX7_fails 0 = .ok (.aload_n 0, 1) := by decide +kernel
theorem dX7_fails_1 : decode cX7_fails 1 = .ok (.getfield 75, 3) := by decide +kernel
theorem dX7_fails_4 : decode cX7_fails 4 = .ok (.ifCond .ne 16, 3) := by decide +kernel
theorem dX7_fails_7 : decode cX7_fails 7 = .ok (.aload_n 0, 1) := by decide +kernel
theorem dX7_fails_8 : decode cX7_fails 8 = .ok (.iload_n 1, 1) := by decide +kernel
theorem dX7_fails_9 : decode cX7_fails 9 = .ok (.putfield 75, 3) := by decide +kernel
theorem dX7_fails_12 : decode cX7_fails 12 = .ok (.aload_n 0, 1) := by decide +kernel
theorem dX7_fails_13 : decode cX7_fails 13 = .ok (.aload_n 0, 1) := by decide +kernel
theorem dX7_fails_14 : decode cX7_fails 14 = .ok (.getfield 78, 3) := by decide +kernel
theorem dX7_fails_17 : decode cX7_fails 17 = .ok (.putfield 81, 3) := by decide +kernel
theorem dX7_fails_20 : decode cX7_fails 20 = .ok (.return_, 1) := by decide +kernel
set_option maxHeartbeats 4000000 in
set_option maxRecDepth 100000 in
theorem c_X7_fails {l : Launch} {Y : ww_Y} {ad : Nat → Nat} {G : List ww_L} (o0 : Nat) (h0 : ww_at G o0 (ww_LModel o0)) (σ : ww_M) (p1 : Int32) : ww_Cn l Y ad G yX7_fails cX7_fails 2 none 1 [.ref (ad o0), .int p1] σ ((f_X7_fails σ o0 p1).bind ww_rv) := by
  refine ww_met (by decide +kernel) (Nat.le_of_ble_eq_true rfl) ?_
  intro X hC hR
  have hC : ww_C X l Y ad G 1 cX7_fails 2 RX7 := hC
  show ww_V X Y ad G 2 σ 0 [(0, .ref (ad o0)), (1, .int p1)] [] ((f_X7_fails σ o0 p1).bind ww_rv)
  unfold f_X7_fails
  refine ww_aload_n (pc := 0) hC 0 rfl dX7_fails_0 rfl ?_
  refine ww_geti (pc := 1) (Cl := RX7) (T := TX7) (N := 36) (j := 16) (ref := RX7) hC (h0 0 _ rfl) rfl inT_X7 (by decide) mw_892 rfl rfl dX7_fails_1 ?_
  refine ww_if_ne (pc := 4) (tgt := 20) hC dX7_fails_4 (by decide) ?_ ?_
  · exact ww_return (pc := 20) hC hR dX7_fails_20 rfl
  · refine ww_aload_n (pc := 7) hC 0 rfl dX7_fails_7 rfl ?_
    refine ww_iload_n (pc := 8) hC 1 rfl dX7_fails_8 rfl ?_
    refine ww_puti (pc := 9) (Cl := RX7) (T := TX7) (N := 36) (j := 16) (ref := RX7) hC (h0 0 _ rfl) rfl inT_X7 (by decide) mw_892 rfl tyX7 tyX7_ok nmX7 rfl rfl (tyX7_ok 16 (by decide)) dX7_fails_9 ?_
    refine ww_aload_n (pc := 12) hC 0 rfl dX7_fails_12 rfl ?_
    refine ww_aload_n (pc := 13) hC 0 rfl dX7_fails_13 rfl ?_
    refine ww_geti (pc := 14) (Cl := RX7) (T := TX7) (N := 36) (j := 19) (ref := RX7) hC (h0 0 _ rfl) rfl inT_X7 (by decide) mw_895 rfl rfl dX7_fails_14 ?_
    refine ww_puti (pc := 17) (Cl := RX7) (T := TX7) (N := 36) (j := 17) (ref := RX7) hC (h0 0 _ rfl) rfl inT_X7 (by decide) mw_893 rfl tyX7 tyX7_ok nmX7 rfl rfl (tyX7_ok 17 (by decide)) dX7_fails_17 ?_
    exact ww_return (pc := 20) hC hR dX7_fails_20 rfl
theorem dX7_nameHere_0 : decode cX7_nameHere 0 = .ok (.iconst 0, 1) := by decide +kernel
theorem dX7_nameHere_1 : decode cX7_nameHere 1 = .ok (.istore_n 1, 1) := by decide +kernel
theorem dX7_nameHere_2 : decode cX7_nameHere 2 = .ok (.iload_n 1, 1) := by decide +kernel
theorem dX7_nameHere_3 : decode cX7_nameHere 3 = .ok (.bipush 6, 2) := by decide +kernel
theorem dX7_nameHere_5 : decode cX7_nameHere 5 = .ok (.if_icmp .ge 113, 3) := by decide +kernel
theorem dX7_nameHere_8 : decode cX7_nameHere 8 = .ok (.aload_n 0, 1) := by decide +kernel
theorem dX7_nameHere_9 : decode cX7_nameHere 9 = .ok (.getfield 84, 3) := by decide +kernel
theorem dX7_nameHere_12 : decode cX7_nameHere 12 = .ok (.iconst 1, 1) := by decide +kernel
theorem dX7_nameHere_13 : decode cX7_nameHere 13 = .ok (.if_icmp .ne 105, 3) := by decide +kernel
theorem dX7_nameHere_16 : decode cX7_nameHere 16 = .ok (.aload_n 0, 1) := by decide +kernel
theorem dX7_nameHere_17 : decode cX7_nameHere 17 = .ok (.getfield 87, 3) := by decide +kernel
theorem dX7_nameHere_20 : decode cX7_nameHere 20 = .ok (.aload_n 0, 1) := by decide +kernel
theorem dX7_nameHere_21 : decode cX7_nameHere 21 = .ok (.getfield 78, 3) := by decide +kernel
theorem dX7_nameHere_24 : decode cX7_nameHere 24 = .ok (.isub, 1) := by decide +kernel
theorem dX7_nameHere_25 : decode cX7_nameHere 25 = .ok (.aload_n 0, 1) := by decide +kernel
theorem dX7_nameHere_26 : decode cX7_nameHere 26 = .ok (.getfield 35, 3) := by decide +kernel
theorem dX7_nameHere_29 : decode cX7_nameHere 29 = .ok (.iload_n 1, 1) := by decide +kernel
theorem dX7_nameHere_30 : decode cX7_nameHere 30 = .ok (.iconst 1, 1) := by decide +kernel
theorem dX7_nameHere_31 : decode cX7_nameHere 31 = .ok (.iadd, 1) := by decide +kernel
theorem dX7_nameHere_32 : decode cX7_nameHere 32 = .ok (.iaload, 1) := by decide +kernel
theorem dX7_nameHere_33 : decode cX7_nameHere 33 = .ok (.aload_n 0, 1) := by decide +kernel
theorem dX7_nameHere_34 : decode cX7_nameHere 34 = .ok (.getfield 35, 3) := by decide +kernel
theorem dX7_nameHere_37 : decode cX7_nameHere 37 = .ok (.iload_n 1, 1) := by decide +kernel
theorem dX7_nameHere_38 : decode cX7_nameHere 38 = .ok (.iaload, 1) := by decide +kernel
theorem dX7_nameHere_39 : decode cX7_nameHere 39 = .ok (.isub, 1) := by decide +kernel
theorem dX7_nameHere_40 : decode cX7_nameHere 40 = .ok (.if_icmp .ne 7, 3) := by decide +kernel
theorem dX7_nameHere_43 : decode cX7_nameHere 43 = .ok (.iconst 1, 1) := by decide +kernel
theorem dX7_nameHere_44 : decode cX7_nameHere 44 = .ok (.goto 4, 3) := by decide +kernel
theorem dX7_nameHere_47 : decode cX7_nameHere 47 = .ok (.iconst 0, 1) := by decide +kernel
theorem dX7_nameHere_48 : decode cX7_nameHere 48 = .ok (.istore_n 2, 1) := by decide +kernel
theorem dX7_nameHere_49 : decode cX7_nameHere 49 = .ok (.iconst 0, 1) := by decide +kernel
theorem dX7_nameHere_50 : decode cX7_nameHere 50 = .ok (.istore_n 3, 1) := by decide +kernel
theorem dX7_nameHere_51 : decode cX7_nameHere 51 = .ok (.iload_n 2, 1) := by decide +kernel
theorem dX7_nameHere_52 : decode cX7_nameHere 52 = .ok (.ifCond .eq 54, 3) := by decide +kernel
theorem dX7_nameHere_55 : decode cX7_nameHere 55 = .ok (.iload_n 3, 1) := by decide +kernel
theorem dX7_nameHere_56 : decode cX7_nameHere 56 = .ok (.aload_n 0, 1) := by decide +kernel
theorem dX7_nameHere_57 : decode cX7_nameHere 57 = .ok (.getfield 87, 3) := by decide +kernel
theorem dX7_nameHere_60 : decode cX7_nameHere 60 = .ok (.aload_n 0, 1) := by decide +kernel
theorem dX7_nameHere_61 : decode cX7_nameHere 61 = .ok (.getfield 78, 3) := by decide +kernel
theorem dX7_nameHere_64 : decode cX7_nameHere 64 = .ok (.isub, 1) := by decide +kernel
theorem dX7_nameHere_65 : decode cX7_nameHere 65 = .ok (.if_icmp .ge 41, 3) := by decide +kernel
theorem dX7_nameHere_68 : decode cX7_nameHere 68 = .ok (.aload_n 0, 1) := by decide +kernel
theorem dX7_nameHere_69 : decode cX7_nameHere 69 = .ok (.aload_n 0, 1) := by decide +kernel
theorem dX7_nameHere_70 : decode cX7_nameHere 70 = .ok (.getfield 78, 3) := by decide +kernel
theorem dX7_nameHere_73 : decode cX7_nameHere 73 = .ok (.iload_n 3, 1) := by decide +kernel
theorem dX7_nameHere_74 : decode cX7_nameHere 74 = .ok (.iadd, 1) := by decide +kernel
theorem dX7_nameHere_75 : decode cX7_nameHere 75 = .ok (.invokevirtual 90, 3) := by decide +kernel
theorem dX7_nameHere_78 : decode cX7_nameHere 78 = .ok (.aload_n 0, 1) := by decide +kernel
theorem dX7_nameHere_79 : decode cX7_nameHere 79 = .ok (.getfield 38, 3) := by decide +kernel
theorem dX7_nameHere_82 : decode cX7_nameHere 82 = .ok (.aload_n 0, 1) := by decide +kernel
theorem dX7_nameHere_83 : decode cX7_nameHere 83 = .ok (.getfield 35, 3) := by decide +kernel
theorem dX7_nameHere_86 : decode cX7_nameHere 86 = .ok (.iload_n 1, 1) := by decide +kernel
theorem dX7_nameHere_87 : decode cX7_nameHere 87 = .ok (.iaload, 1) := by decide +kernel
theorem dX7_nameHere_88 : decode cX7_nameHere 88 = .ok (.iload_n 3, 1) := by decide +kernel
theorem dX7_nameHere_89 : decode cX7_nameHere 89 = .ok (.iadd, 1) := by decide +kernel
theorem dX7_nameHere_90 : decode cX7_nameHere 90 = .ok (.iaload, 1) := by decide +kernel
theorem dX7_nameHere_91 : decode cX7_nameHere 91 = .ok (.if_icmp .ne 7, 3) := by decide +kernel
theorem dX7_nameHere_94 : decode cX7_nameHere 94 = .ok (.iconst 1, 1) := by decide +kernel
theorem dX7_nameHere_95 : decode cX7_nameHere 95 = .ok (.goto 4, 3) := by decide +kernel
theorem dX7_nameHere_98 : decode cX7_nameHere 98 = .ok (.iconst 0, 1) := by decide +kernel
theorem dX7_nameHere_99 : decode cX7_nameHere 99 = .ok (.istore_n 2, 1) := by decide +kernel
theorem dX7_nameHere_100 : decode cX7_nameHere 100 = .ok (.iinc 3 1, 3) := by decide +kernel
theorem dX7_nameHere_103 : decode cX7_nameHere 103 = .ok (.goto (-52), 3) := by decide +kernel
theorem dX7_nameHere_106 : decode cX7_nameHere 106 = .ok (.iload_n 2, 1) := by decide +kernel
theorem dX7_nameHere_107 : decode cX7_nameHere 107 = .ok (.ifCond .eq 5, 3) := by decide +kernel
theorem dX7_nameHere_110 : decode cX7_nameHere 110 = .ok (.iload_n 1, 1) := by decide +kernel
theorem dX7_nameHere_111 : decode cX7_nameHere 111 = .ok (.ireturn, 1) := by decide +kernel
theorem dX7_nameHere_112 : decode cX7_nameHere 112 = .ok (.iinc 1 1, 3) := by decide +kernel
theorem dX7_nameHere_115 : decode cX7_nameHere 115 = .ok (.goto (-113), 3) := by decide +kernel
theorem dX7_nameHere_118 : decode cX7_nameHere 118 = .ok (.bipush (-4), 2) := by decide +kernel
theorem dX7_nameHere_120 : decode cX7_nameHere 120 = .ok (.ireturn, 1) := by decide +kernel
set_option maxHeartbeats 4000000 in
set_option maxRecDepth 100000 in
theorem c_X7_nameHere {l : Launch} {Y : ww_Y} {ad : Nat → Nat} {G : List ww_L} (o0 : Nat) (h0 : ww_at G o0 (ww_LModel o0)) (σ : ww_M) : ww_Cn l Y ad G yX7_nameHere cX7_nameHere 4 (some .int) 2 [.ref (ad o0)] σ ((f_X7_nameHere σ o0).bind (ww_ri σ)) := by
  refine ww_met (by decide +kernel) (Nat.le_of_ble_eq_true rfl) ?_
  intro X hC hR
  have hC : ww_C X l Y ad G 2 cX7_nameHere 4 RX7 := hC
  show ww_V X Y ad G 4 σ 0 [(0, .ref (ad o0))] [] ((f_X7_nameHere σ o0).bind (ww_ri σ))
  have hJ118 : ww_V X Y ad G 4 σ 118 [] [] ((f_X7_nameHere_j118 σ o0).bind (ww_ri σ)) := by
    unfold f_X7_nameHere_j118
    refine ww_bipush (pc := 118) (v := (-4)) hC dX7_nameHere_118 rfl ?_
    exact ww_ireturn (pc := 120) hC hR dX7_nameHere_120 rfl
  have hJ2 : ∀ (x1 : Int32), ww_V X Y ad G 4 σ 2 [(0, .ref (ad o0)), (1, .int x1)] [] ((f_X7_nameHere_j2 σ o0 x1).bind (ww_ri σ)) := by
    intro x1
    unfold f_X7_nameHere_j2
    refine ww_assoc ?_
    refine ww_loopR (f := f_X7_nameHere_b2 σ o0) (fun a2 => σ) (fun a2 => [(0, .ref (ad o0)), (1, .int a2)]) (fun b2 => σ) (fun b2 => []) 118 (fun b2 => ?_) (fun a2 KK2 hc2 hx2 hr2 => ?_) ww_F x1
    · exact hJ118
    · unfold f_X7_nameHere_b2
      have hJ106 : ∀ (x1 : Int32) (x2 : Int32), ww_V X Y ad G 4 σ 106 [(0, .ref (ad o0)), (1, .int x1), (2, .int x2)] [] ((f_X7_nameHere_j106 σ o0 x1 x2).bind KK2) := by
        intro x1 x2
        unfold f_X7_nameHere_j106
        refine ww_iload_n (pc := 106) hC 2 rfl dX7_nameHere_106 rfl ?_
        refine ww_if_eq (pc := 107) (tgt := 112) hC dX7_nameHere_107 (by decide) ?_ ?_
        · refine ww_iinc (pc := 112) (v := x1 + 1) (lv' := [(1, .int (x1 + 1)), (0, .ref (ad o0)), (2, .int x2)]) hC 1 rfl dX7_nameHere_112 rfl (by decide) rfl ?_
          refine ww_goto (pc := 115) (tgt := 2) hC dX7_nameHere_115 (by decide) ?_
          refine ww_lv [1, 0] rfl ?_
          exact hc2 (x1 + 1)
        · refine ww_iload_n (pc := 110) hC 1 rfl dX7_nameHere_110 rfl ?_
          exact ww_ireturn (pc := 111) hC hR dX7_nameHere_111 ((hr2 _).trans rfl)
      have hJ51 : ∀ (x1 : Int32) (x2 : Int32) (x3 : Int32), ww_V X Y ad G 4 σ 51 [(0, .ref (ad o0)), (1, .int x1), (2, .int x2), (3, .int x3)] [] ((f_X7_nameHere_j51 σ o0 x1 x2 x3).bind KK2) := by
        intro x1 x2 x3
        unfold f_X7_nameHere_j51
        refine ww_assoc ?_
        refine ww_loop (f := f_X7_nameHere_b51 σ o0 x1) (fun a51 => σ) (fun a51 => [(0, .ref (ad o0)), (1, .int x1), (2, .int a51.1), (3, .int a51.2)]) (fun b51 => σ) (fun b51 => [(0, .ref (ad o0)), (1, .int x1), (2, .int b51)]) 106 (fun b51 => ?_) (fun a51 KK51 hc51 hx51 => ?_) ww_F (x2, x3)
        · exact hJ106 x1 b51
        · unfold f_X7_nameHere_b51
          refine ww_iload_n (pc := 51) hC 2 rfl dX7_nameHere_51 rfl ?_
          refine ww_if_eq (pc := 52) (tgt := 106) hC dX7_nameHere_52 (by decide) ?_ ?_
          · refine ww_lv [0, 1, 2] rfl ?_
            exact hx51 a51.1
          · refine ww_iload_n (pc := 55) hC 3 rfl dX7_nameHere_55 rfl ?_
            refine ww_aload_n (pc := 56) hC 0 rfl dX7_nameHere_56 rfl ?_
            refine ww_geti (pc := 57) (Cl := RX7) (T := TX7) (N := 36) (j := 18) (ref := RX7) hC (h0 0 _ rfl) rfl inT_X7 (by decide) mw_894 rfl rfl dX7_nameHere_57 ?_
            refine ww_aload_n (pc := 60) hC 0 rfl dX7_nameHere_60 rfl ?_
            refine ww_geti (pc := 61) (Cl := RX7) (T := TX7) (N := 36) (j := 19) (ref := RX7) hC (h0 0 _ rfl) rfl inT_X7 (by decide) mw_895 rfl rfl dX7_nameHere_61 ?_
            refine ww_isub (pc := 64) hC dX7_nameHere_64 ?_
            refine ww_icmp_ge (pc := 65) (tgt := 106) hC dX7_nameHere_65 (by decide) ?_ ?_
            · refine ww_lv [0, 1, 2] rfl ?_
              exact hx51 a51.1
            · refine ww_aload_n (pc := 68) hC 0 rfl dX7_nameHere_68 rfl ?_
              refine ww_aload_n (pc := 69) hC 0 rfl dX7_nameHere_69 rfl ?_
              refine ww_geti (pc := 70) (Cl := RX7) (T := TX7) (N := 36) (j := 19) (ref := RX7) hC (h0 0 _ rfl) rfl inT_X7 (by decide) mw_895 rfl rfl dX7_nameHere_70 ?_
              refine ww_iload_n (pc := 73) hC 3 rfl dX7_nameHere_73 rfl ?_
              refine ww_iadd (pc := 74) hC dX7_nameHere_74 ?_
              refine ww_callVi (pc := 75) (st := []) (As := [.int ((σ o0 19) + a51.2)]) hC (c_X7_byteAt o0 h0 σ ((σ o0 19) + a51.2)) mm_X7_byteAt mw_1006 (h0 0 _ rfl) rfl (by omega) (by decide) (Nat.le_of_ble_eq_true rfl) rfl dX7_nameHere_75 (fun v75 => ?_)
              refine ww_aload_n (pc := 78) hC 0 rfl dX7_nameHere_78 rfl ?_
              refine ww_getr (pc := 79) (Cl := RX7) (T := TX7) (N := 36) (j := 23) (ref := RX7) hC (h0 0 _ rfl) rfl inT_X7 (by decide) mw_899 rfl rfl dX7_nameHere_79 ?_
              refine ww_aload_n (pc := 82) hC 0 rfl dX7_nameHere_82 rfl ?_
              refine ww_getr (pc := 83) (Cl := RX7) (T := TX7) (N := 36) (j := 22) (ref := RX7) hC (h0 0 _ rfl) rfl inT_X7 (by decide) mw_898 rfl rfl dX7_nameHere_83 ?_
              refine ww_iload_n (pc := 86) hC 1 rfl dX7_nameHere_86 rfl ?_
              refine ww_iald (pc := 87) hC (h0 8 _ rfl) dX7_nameHere_87 ?_
              refine ww_iload_n (pc := 88) hC 3 rfl dX7_nameHere_88 rfl ?_
              refine ww_iadd (pc := 89) hC dX7_nameHere_89 ?_
              refine ww_iald (pc := 90) hC (h0 9 _ rfl) dX7_nameHere_90 ?_
              refine ww_icmp_ne (pc := 91) (tgt := 98) hC dX7_nameHere_91 (by decide) ?_ ?_
              · refine ww_iconst (pc := 98) (v := 0) hC dX7_nameHere_98 rfl ?_
                refine ww_istore_n (pc := 99) (lv' := [(2, .int 0), (0, .ref (ad o0)), (1, .int x1), (3, .int a51.2)]) hC dX7_nameHere_99 rfl (by decide) rfl ?_
                refine ww_iinc (pc := 100) (v := a51.2 + 1) (lv' := [(3, .int (a51.2 + 1)), (2, .int 0), (0, .ref (ad o0)), (1, .int x1)]) hC 3 rfl dX7_nameHere_100 rfl (by decide) rfl ?_
                refine ww_goto (pc := 103) (tgt := 51) hC dX7_nameHere_103 (by decide) ?_
                refine ww_lv [2, 3, 1, 0] rfl ?_
                exact hc51 (0, a51.2 + 1)
              · refine ww_iconst (pc := 94) (v := 1) hC dX7_nameHere_94 rfl ?_
                refine ww_goto (pc := 95) (tgt := 99) hC dX7_nameHere_95 (by decide) ?_
                refine ww_istore_n (pc := 99) (lv' := [(2, .int 1), (0, .ref (ad o0)), (1, .int x1), (3, .int a51.2)]) hC dX7_nameHere_99 rfl (by decide) rfl ?_
                refine ww_iinc (pc := 100) (v := a51.2 + 1) (lv' := [(3, .int (a51.2 + 1)), (2, .int 1), (0, .ref (ad o0)), (1, .int x1)]) hC 3 rfl dX7_nameHere_100 rfl (by decide) rfl ?_
                refine ww_goto (pc := 103) (tgt := 51) hC dX7_nameHere_103 (by decide) ?_
                refine ww_lv [2, 3, 1, 0] rfl ?_
                exact hc51 (1, a51.2 + 1)
      have hJ48 : ∀ (x1 : Int32) (s0 : Int32), ww_V X Y ad G 4 σ 48 [(0, .ref (ad o0)), (1, .int x1)] [.int s0] ((f_X7_nameHere_j48 σ o0 x1 s0).bind KK2) := by
        intro x1 s0
        unfold f_X7_nameHere_j48
        refine ww_istore_n (pc := 48) (lv' := [(2, .int s0), (0, .ref (ad o0)), (1, .int x1)]) hC dX7_nameHere_48 rfl (by decide) rfl ?_
        refine ww_iconst (pc := 49) (v := 0) hC dX7_nameHere_49 rfl ?_
        refine ww_istore_n (pc := 50) (lv' := [(3, .int 0), (2, .int s0), (0, .ref (ad o0)), (1, .int x1)]) hC dX7_nameHere_50 rfl (by decide) rfl ?_
        refine ww_lv [2, 3, 1, 0] rfl ?_
        exact hJ51 x1 s0 0
      refine ww_iload_n (pc := 2) hC 1 rfl dX7_nameHere_2 rfl ?_
      refine ww_bipush (pc := 3) (v := 6) hC dX7_nameHere_3 rfl ?_
      refine ww_icmp_ge (pc := 5) (tgt := 118) hC dX7_nameHere_5 (by decide) ?_ ?_
      · refine ww_lv [] rfl ?_
        exact hx2 ()
      · refine ww_aload_n (pc := 8) hC 0 rfl dX7_nameHere_8 rfl ?_
        refine ww_geti (pc := 9) (Cl := RX7) (T := TX7) (N := 36) (j := 20) (ref := RX7) hC (h0 0 _ rfl) rfl inT_X7 (by decide) mw_896 rfl rfl dX7_nameHere_9 ?_
        refine ww_iconst (pc := 12) (v := 1) hC dX7_nameHere_12 rfl ?_
        refine ww_icmp_ne (pc := 13) (tgt := 118) hC dX7_nameHere_13 (by decide) ?_ ?_
        · refine ww_lv [] rfl ?_
          exact hx2 ()
        · refine ww_aload_n (pc := 16) hC 0 rfl dX7_nameHere_16 rfl ?_
          refine ww_geti (pc := 17) (Cl := RX7) (T := TX7) (N := 36) (j := 18) (ref := RX7) hC (h0 0 _ rfl) rfl inT_X7 (by decide) mw_894 rfl rfl dX7_nameHere_17 ?_
          refine ww_aload_n (pc := 20) hC 0 rfl dX7_nameHere_20 rfl ?_
          refine ww_geti (pc := 21) (Cl := RX7) (T := TX7) (N := 36) (j := 19) (ref := RX7) hC (h0 0 _ rfl) rfl inT_X7 (by decide) mw_895 rfl rfl dX7_nameHere_21 ?_
          refine ww_isub (pc := 24) hC dX7_nameHere_24 ?_
          refine ww_aload_n (pc := 25) hC 0 rfl dX7_nameHere_25 rfl ?_
          refine ww_getr (pc := 26) (Cl := RX7) (T := TX7) (N := 36) (j := 22) (ref := RX7) hC (h0 0 _ rfl) rfl inT_X7 (by decide) mw_898 rfl rfl dX7_nameHere_26 ?_
          refine ww_iload_n (pc := 29) hC 1 rfl dX7_nameHere_29 rfl ?_
          refine ww_iconst (pc := 30) (v := 1) hC dX7_nameHere_30 rfl ?_
          refine ww_iadd (pc := 31) hC dX7_nameHere_31 ?_
          refine ww_iald (pc := 32) hC (h0 8 _ rfl) dX7_nameHere_32 ?_
          refine ww_aload_n (pc := 33) hC 0 rfl dX7_nameHere_33 rfl ?_
          refine ww_getr (pc := 34) (Cl := RX7) (T := TX7) (N := 36) (j := 22) (ref := RX7) hC (h0 0 _ rfl) rfl inT_X7 (by decide) mw_898 rfl rfl dX7_nameHere_34 ?_
          refine ww_iload_n (pc := 37) hC 1 rfl dX7_nameHere_37 rfl ?_
          refine ww_iald (pc := 38) hC (h0 8 _ rfl) dX7_nameHere_38 ?_
          refine ww_isub (pc := 39) hC dX7_nameHere_39 ?_
          refine ww_icmp_ne (pc := 40) (tgt := 47) hC dX7_nameHere_40 (by decide) ?_ ?_
          · refine ww_iconst (pc := 47) (v := 0) hC dX7_nameHere_47 rfl ?_
            exact hJ48 a2 0
          · refine ww_iconst (pc := 43) (v := 1) hC dX7_nameHere_43 rfl ?_
            refine ww_goto (pc := 44) (tgt := 48) hC dX7_nameHere_44 (by decide) ?_
            exact hJ48 a2 1
  unfold f_X7_nameHere
  refine ww_iconst (pc := 0) (v := 0) hC dX7_nameHere_0 rfl ?_
  refine ww_istore_n (pc := 1) (lv' := [(1, .int 0), (0, .ref (ad o0))]) hC dX7_nameHere_1 rfl (by decide) rfl ?_
  refine ww_lv [1, 0] rfl ?_
  exact hJ2 0
theorem dX7_step_0 : decode cX7_step 0 = .ok (.aload_n 0, 1) := by decide +kernel
theorem dX7_step_1 : decode cX7_step 1 = .ok (.getfield 75, 3) := by decide +kernel
theorem dX7_step_4 : decode cX7_step 4 = .ok (.ifCond .le 4, 3) := by decide +kernel
theorem dX7_step_7 : decode cX7_step 7 = .ok (.return_, 1) := by decide +kernel
theorem dX7_step_8 : decode cX7_step 8 = .ok (.aload_n 0, 1) := by decide +kernel
theorem dX7_step_9 : decode cX7_step 9 = .ok (.aload_n 0, 1) := by decide +kernel
theorem dX7_step_10 : decode cX7_step 10 = .ok (.getfield 87, 3) := by decide +kernel
theorem dX7_step_13 : decode cX7_step 13 = .ok (.invokevirtual 90, 3) := by decide +kernel
theorem dX7_step_16 : decode cX7_step 16 = .ok (.bipush 32, 2) := by decide +kernel
theorem dX7_step_18 : decode cX7_step 18 = .ok (.if_icmp .ne 16, 3) := by decide +kernel
theorem dX7_step_21 : decode cX7_step 21 = .ok (.aload_n 0, 1) := by decide +kernel
theorem dX7_step_22 : decode cX7_step 22 = .ok (.dup, 1) := by decide +kernel
theorem dX7_step_23 : decode cX7_step 23 = .ok (.getfield 87, 3) := by decide +kernel
theorem dX7_step_26 : decode cX7_step 26 = .ok (.iconst 1, 1) := by decide +kernel
theorem dX7_step_27 : decode cX7_step 27 = .ok (.iadd, 1) := by decide +kernel
theorem dX7_step_28 : decode cX7_step 28 = .ok (.putfield 87, 3) := by decide +kernel
theorem dX7_step_31 : decode cX7_step 31 = .ok (.goto (-23), 3) := by decide +kernel
theorem dX7_step_34 : decode cX7_step 34 = .ok (.aload_n 0, 1) := by decide +kernel
theorem dX7_step_35 : decode cX7_step 35 = .ok (.aload_n 0, 1) := by decide +kernel
theorem dX7_step_36 : decode cX7_step 36 = .ok (.getfield 87, 3) := by decide +kernel
theorem dX7_step_39 : decode cX7_step 39 = .ok (.putfield 78, 3) := by decide +kernel
theorem dX7_step_42 : decode cX7_step 42 = .ok (.aload_n 0, 1) := by decide +kernel
theorem dX7_step_43 : decode cX7_step 43 = .ok (.aload_n 0, 1) := by decide +kernel
theorem dX7_step_44 : decode cX7_step 44 = .ok (.getfield 87, 3) := by decide +kernel
theorem dX7_step_47 : decode cX7_step 47 = .ok (.invokevirtual 90, 3) := by decide +kernel
theorem dX7_step_50 : decode cX7_step 50 = .ok (.istore_n 1, 1) := by decide +kernel
theorem dX7_step_51 : decode cX7_step 51 = .ok (.aload_n 0, 1) := by decide +kernel
theorem dX7_step_52 : decode cX7_step 52 = .ok (.iconst 0, 1) := by decide +kernel
theorem dX7_step_53 : decode cX7_step 53 = .ok (.putfield 94, 3) := by decide +kernel
theorem dX7_step_56 : decode cX7_step 56 = .ok (.iload_n 1, 1) := by decide +kernel
theorem dX7_step_57 : decode cX7_step 57 = .ok (.bipush (-4), 2) := by decide +kernel
theorem dX7_step_59 : decode cX7_step 59 = .ok (.if_icmp .ne 11, 3) := by decide +kernel
theorem dX7_step_62 : decode cX7_step 62 = .ok (.aload_n 0, 1) := by decide +kernel
theorem dX7_step_63 : decode cX7_step 63 = .ok (.iconst 0, 1) := by decide +kernel
theorem dX7_step_64 : decode cX7_step 64 = .ok (.putfield 84, 3) := by decide +kernel
theorem dX7_step_67 : decode cX7_step 67 = .ok (.goto 202, 3) := by decide +kernel
theorem dX7_step_70 : decode cX7_step 70 = .ok (.iload_n 1, 1) := by decide +kernel
theorem dX7_step_71 : decode cX7_step 71 = .ok (.i2l, 1) := by decide +kernel
theorem dX7_step_72 : decode cX7_step 72 = .ok (.ldc2_w 97, 3) := by decide +kernel
theorem dX7_step_75 : decode cX7_step 75 = .ok (.ldc2_w 99, 3) := by decide +kernel
theorem dX7_step_78 : decode cX7_step 78 = .ok (.invokestatic 68, 3) := by decide +kernel
theorem dX7_step_81 : decode cX7_step 81 = .ok (.ifCond .eq 45, 3) := by decide +kernel
theorem dX7_step_84 : decode cX7_step 84 = .ok (.aload_n 0, 1) := by decide +kernel
theorem dX7_step_85 : decode cX7_step 85 = .ok (.aload_n 0, 1) := by decide +kernel
theorem dX7_step_86 : decode cX7_step 86 = .ok (.getfield 87, 3) := by decide +kernel
theorem dX7_step_89 : decode cX7_step 89 = .ok (.invokevirtual 90, 3) := by decide +kernel
theorem dX7_step_92 : decode cX7_step 92 = .ok (.i2l, 1) := by decide +kernel
theorem dX7_step_93 : decode cX7_step 93 = .ok (.ldc2_w 97, 3) := by decide +kernel
theorem dX7_step_96 : decode cX7_step 96 = .ok (.ldc2_w 99, 3) := by decide +kernel
theorem dX7_step_99 : decode cX7_step 99 = .ok (.invokestatic 68, 3) := by decide +kernel
theorem dX7_step_102 : decode cX7_step 102 = .ok (.ifCond .eq 16, 3) := by decide +kernel
theorem dX7_step_105 : decode cX7_step 105 = .ok (.aload_n 0, 1) := by decide +kernel
theorem dX7_step_106 : decode cX7_step 106 = .ok (.dup, 1) := by decide +kernel
theorem dX7_step_107 : decode cX7_step 107 = .ok (.getfield 87, 3) := by decide +kernel
theorem dX7_step_110 : decode cX7_step 110 = .ok (.iconst 1, 1) := by decide +kernel
theorem dX7_step_111 : decode cX7_step 111 = .ok (.iadd, 1) := by decide +kernel
theorem dX7_step_112 : decode cX7_step 112 = .ok (.putfield 87, 3) := by decide +kernel
theorem dX7_step_115 : decode cX7_step 115 = .ok (.goto (-31), 3) := by decide +kernel
theorem dX7_step_118 : decode cX7_step 118 = .ok (.aload_n 0, 1) := by decide +kernel
theorem dX7_step_119 : decode cX7_step 119 = .ok (.iconst 1, 1) := by decide +kernel
theorem dX7_step_120 : decode cX7_step 120 = .ok (.putfield 84, 3) := by decide +kernel
theorem dX7_step_123 : decode cX7_step 123 = .ok (.goto 146, 3) := by decide +kernel
theorem dX7_step_126 : decode cX7_step 126 = .ok (.iload_n 1, 1) := by decide +kernel
theorem dX7_step_127 : decode cX7_step 127 = .ok (.i2l, 1) := by decide +kernel
theorem dX7_step_128 : decode cX7_step 128 = .ok (.ldc2_w 101, 3) := by decide +kernel
theorem dX7_step_131 : decode cX7_step 131 = .ok (.ldc2_w 103, 3) := by decide +kernel
theorem dX7_step_134 : decode cX7_step 134 = .ok (.invokestatic 68, 3) := by decide +kernel
theorem dX7_step_137 : decode cX7_step 137 = .ok (.ifCond .eq 106, 3) := by decide +kernel
theorem dX7_step_140 : decode cX7_step 140 = .ok (.aload_n 0, 1) := by decide +kernel
theorem dX7_step_141 : decode cX7_step 141 = .ok (.aload_n 0, 1) := by decide +kernel
theorem dX7_step_142 : decode cX7_step 142 = .ok (.getfield 87, 3) := by decide +kernel
theorem dX7_step_145 : decode cX7_step 145 = .ok (.invokevirtual 90, 3) := by decide +kernel
theorem dX7_step_148 : decode cX7_step 148 = .ok (.i2l, 1) := by decide +kernel
theorem dX7_step_149 : decode cX7_step 149 = .ok (.ldc2_w 101, 3) := by decide +kernel
theorem dX7_step_152 : decode cX7_step 152 = .ok (.ldc2_w 103, 3) := by decide +kernel
theorem dX7_step_155 : decode cX7_step 155 = .ok (.invokestatic 68, 3) := by decide +kernel
theorem dX7_step_158 : decode cX7_step 158 = .ok (.ifCond .eq 59, 3) := by decide +kernel
theorem dX7_step_161 : decode cX7_step 161 = .ok (.aload_n 0, 1) := by decide +kernel
theorem dX7_step_162 : decode cX7_step 162 = .ok (.aload_n 0, 1) := by decide +kernel
theorem dX7_step_163 : decode cX7_step 163 = .ok (.getfield 87, 3) := by decide +kernel
theorem dX7_step_166 : decode cX7_step 166 = .ok (.aload_n 0, 1) := by decide +kernel
theorem dX7_step_167 : decode cX7_step 167 = .ok (.getfield 78, 3) := by decide +kernel
theorem dX7_step_170 : decode cX7_step 170 = .ok (.isub, 1) := by decide +kernel
theorem dX7_step_171 : decode cX7_step 171 = .ok (.iconst 2, 1) := by decide +kernel
theorem dX7_step_172 : decode cX7_step 172 = .ok (.if_icmp .ge 25, 3) := by decide +kernel
theorem dX7_step_175 : decode cX7_step 175 = .ok (.bipush 10, 2) := by decide +kernel
theorem dX7_step_177 : decode cX7_step 177 = .ok (.aload_n 0, 1) := by decide +kernel
theorem dX7_step_178 : decode cX7_step 178 = .ok (.getfield 94, 3) := by decide +kernel
theorem dX7_step_181 : decode cX7_step 181 = .ok (.imul, 1) := by decide +kernel
theorem dX7_step_182 : decode cX7_step 182 = .ok (.aload_n 0, 1) := by decide +kernel
theorem dX7_step_183 : decode cX7_step 183 = .ok (.aload_n 0, 1) := by decide +kernel
theorem dX7_step_184 : decode cX7_step 184 = .ok (.getfield 87, 3) := by decide +kernel
theorem dX7_step_187 : decode cX7_step 187 = .ok (.invokevirtual 90, 3) := by decide +kernel
theorem dX7_step_190 : decode cX7_step 190 = .ok (.iadd, 1) := by decide +kernel
theorem dX7_step_191 : decode cX7_step 191 = .ok (.bipush 48, 2) := by decide +kernel
theorem dX7_step_193 : decode cX7_step 193 = .ok (.isub, 1) := by decide +kernel
theorem dX7_step_194 : decode cX7_step 194 = .ok (.goto 7, 3) := by decide +kernel
theorem dX7_step_197 : decode cX7_step 197 = .ok (.aload_n 0, 1) := by decide +kernel
theorem dX7_step_198 : decode cX7_step 198 = .ok (.getfield 94, 3) := by decide +kernel
theorem dX7_step_201 : decode cX7_step 201 = .ok (.putfield 94, 3) := by decide +kernel
theorem dX7_step_204 : decode cX7_step 204 = .ok (.aload_n 0, 1) := by decide +kernel
theorem dX7_step_205 : decode cX7_step 205 = .ok (.dup, 1) := by decide +kernel
theorem dX7_step_206 : decode cX7_step 206 = .ok (.getfield 87, 3) := by decide +kernel
theorem dX7_step_209 : decode cX7_step 209 = .ok (.iconst 1, 1) := by decide +kernel
theorem dX7_step_210 : decode cX7_step 210 = .ok (.iadd, 1) := by decide +kernel
theorem dX7_step_211 : decode cX7_step 211 = .ok (.putfield 87, 3) := by decide +kernel
theorem dX7_step_214 : decode cX7_step 214 = .ok (.goto (-74), 3) := by decide +kernel
theorem dX7_step_217 : decode cX7_step 217 = .ok (.aload_n 0, 1) := by decide +kernel
theorem dX7_step_218 : decode cX7_step 218 = .ok (.iconst 2, 1) := by decide +kernel
theorem dX7_step_219 : decode cX7_step 219 = .ok (.putfield 84, 3) := by decide +kernel
theorem dX7_step_222 : decode cX7_step 222 = .ok (.aload_n 0, 1) := by decide +kernel
theorem dX7_step_223 : decode cX7_step 223 = .ok (.getfield 87, 3) := by decide +kernel
theorem dX7_step_226 : decode cX7_step 226 = .ok (.aload_n 0, 1) := by decide +kernel
theorem dX7_step_227 : decode cX7_step 227 = .ok (.getfield 78, 3) := by decide +kernel
theorem dX7_step_230 : decode cX7_step 230 = .ok (.isub, 1) := by decide +kernel
theorem dX7_step_231 : decode cX7_step 231 = .ok (.iconst 2, 1) := by decide +kernel
theorem dX7_step_232 : decode cX7_step 232 = .ok (.if_icmp .le 37, 3) := by decide +kernel
theorem dX7_step_235 : decode cX7_step 235 = .ok (.aload_n 0, 1) := by decide +kernel
theorem dX7_step_236 : decode cX7_step 236 = .ok (.iconst 1, 1) := by decide +kernel
theorem dX7_step_237 : decode cX7_step 237 = .ok (.invokevirtual 105, 3) := by decide +kernel
theorem dX7_step_240 : decode cX7_step 240 = .ok (.goto 29, 3) := by decide +kernel
theorem dX7_step_243 : decode cX7_step 243 = .ok (.aload_n 0, 1) := by decide +kernel
theorem dX7_step_244 : decode cX7_step 244 = .ok (.iconst 3, 1) := by decide +kernel
theorem dX7_step_245 : decode cX7_step 245 = .ok (.putfield 84, 3) := by decide +kernel
theorem dX7_step_248 : decode cX7_step 248 = .ok (.aload_n 0, 1) := by decide +kernel
theorem dX7_step_249 : decode cX7_step 249 = .ok (.dup, 1) := by decide +kernel
theorem dX7_step_250 : decode cX7_step 250 = .ok (.getfield 87, 3) := by decide +kernel
theorem dX7_step_253 : decode cX7_step 253 = .ok (.iconst 1, 1) := by decide +kernel
theorem dX7_step_254 : decode cX7_step 254 = .ok (.iadd, 1) := by decide +kernel
theorem dX7_step_255 : decode cX7_step 255 = .ok (.putfield 87, 3) := by decide +kernel
theorem dX7_step_258 : decode cX7_step 258 = .ok (.iload_n 1, 1) := by decide +kernel
theorem dX7_step_259 : decode cX7_step 259 = .ok (.bipush 59, 2) := by decide +kernel
theorem dX7_step_261 : decode cX7_step 261 = .ok (.if_icmp .eq 8, 3) := by decide +kernel
theorem dX7_step_264 : decode cX7_step 264 = .ok (.aload_n 0, 1) := by decide +kernel
theorem dX7_step_265 : decode cX7_step 265 = .ok (.iconst 1, 1) := by decide +kernel
theorem dX7_step_266 : decode cX7_step 266 = .ok (.invokevirtual 105, 3) := by decide +kernel
theorem dX7_step_269 : decode cX7_step 269 = .ok (.return_, 1) := by decide +kernel
set_option maxHeartbeats 4000000 in
set_option maxRecDepth 100000 in
theorem c_X7_step {l : Launch} {Y : ww_Y} {ad : Nat → Nat} {G : List ww_L} (o0 : Nat) (h0 : ww_at G o0 (ww_LModel o0)) (σ : ww_M) : ww_Cn l Y ad G yX7_step cX7_step 2 none 2 [.ref (ad o0)] σ ((f_X7_step σ o0).bind ww_rv) := by
  refine ww_met (by decide +kernel) (Nat.le_of_ble_eq_true rfl) ?_
  intro X hC hR
  have hC : ww_C X l Y ad G 2 cX7_step 2 RX7 := hC
  show ww_V X Y ad G 2 σ 0 [(0, .ref (ad o0))] [] ((f_X7_step σ o0).bind ww_rv)
  have hJ217 : ∀ (σ : ww_M), ww_V X Y ad G 2 σ 217 [(0, .ref (ad o0))] [] ((f_X7_step_j217 σ o0).bind ww_rv) := by
    intro σ
    unfold f_X7_step_j217
    refine ww_aload_n (pc := 217) hC 0 rfl dX7_step_217 rfl ?_
    refine ww_iconst (pc := 218) (v := 2) hC dX7_step_218 rfl ?_
    refine ww_puti (pc := 219) (Cl := RX7) (T := TX7) (N := 36) (j := 20) (ref := RX7) hC (h0 0 _ rfl) rfl inT_X7 (by decide) mw_896 rfl tyX7 tyX7_ok nmX7 rfl rfl (tyX7_ok 20 (by decide)) dX7_step_219 ?_
    refine ww_aload_n (pc := 222) hC 0 rfl dX7_step_222 rfl ?_
    refine ww_geti (pc := 223) (Cl := RX7) (T := TX7) (N := 36) (j := 18) (ref := RX7) hC (h0 0 _ rfl) rfl inT_X7 (by decide) mw_894 rfl rfl dX7_step_223 ?_
    refine ww_aload_n (pc := 226) hC 0 rfl dX7_step_226 rfl ?_
    refine ww_geti (pc := 227) (Cl := RX7) (T := TX7) (N := 36) (j := 19) (ref := RX7) hC (h0 0 _ rfl) rfl inT_X7 (by decide) mw_895 rfl rfl dX7_step_227 ?_
    refine ww_isub (pc := 230) hC dX7_step_230 ?_
    refine ww_iconst (pc := 231) (v := 2) hC dX7_step_231 rfl ?_
    refine ww_icmp_le (pc := 232) (tgt := 269) hC dX7_step_232 (by decide) ?_ ?_
    · exact ww_return (pc := 269) hC hR dX7_step_269 rfl
    · refine ww_aload_n (pc := 235) hC 0 rfl dX7_step_235 rfl ?_
      refine ww_iconst (pc := 236) (v := 1) hC dX7_step_236 rfl ?_
      refine ww_callVv (pc := 237) (st := []) (As := [.int 1]) hC (c_X7_fails o0 h0 (ww_up σ o0 20 2) 1) mm_X7_fails mw_1014 (h0 0 _ rfl) rfl (by omega) (by decide) (Nat.le_of_ble_eq_true rfl) rfl dX7_step_237 (fun v237 => ?_)
      refine ww_goto (pc := 240) (tgt := 269) hC dX7_step_240 (by decide) ?_
      exact ww_return (pc := 269) hC hR dX7_step_269 rfl
  have hJ140 : ∀ (σ : ww_M), ww_V X Y ad G 2 σ 140 [(0, .ref (ad o0))] [] ((f_X7_step_j140 σ o0).bind ww_rv) := by
    intro σ
    unfold f_X7_step_j140
    refine ww_assoc ?_
    refine ww_loop (f := f_X7_step_b140 o0) (fun a140 => a140) (fun a140 => [(0, .ref (ad o0))]) (fun b140 => b140) (fun b140 => [(0, .ref (ad o0))]) 217 (fun b140 => ?_) (fun a140 KK140 hc140 hx140 => ?_) ww_F σ
    · exact hJ217 b140
    · unfold f_X7_step_b140
      refine ww_aload_n (pc := 140) hC 0 rfl dX7_step_140 rfl ?_
      refine ww_aload_n (pc := 141) hC 0 rfl dX7_step_141 rfl ?_
      refine ww_geti (pc := 142) (Cl := RX7) (T := TX7) (N := 36) (j := 18) (ref := RX7) hC (h0 0 _ rfl) rfl inT_X7 (by decide) mw_894 rfl rfl dX7_step_142 ?_
      refine ww_callVi (pc := 145) (st := []) (As := [.int (a140 o0 18)]) hC (c_X7_byteAt o0 h0 a140 (a140 o0 18)) mm_X7_byteAt mw_1006 (h0 0 _ rfl) rfl (by omega) (by decide) (Nat.le_of_ble_eq_true rfl) rfl dX7_step_145 (fun v145 => ?_)
      refine ww_i2l (pc := 148) hC dX7_step_148 ?_
      refine ww_ldc2 (pc := 149) hC dX7_step_149 mw_1012 ?_
      refine ww_ldc2 (pc := 152) hC dX7_step_152 mw_1013 ?_
      refine ww_callSi (pc := 155) (st := []) (As := [.long v145.toInt64, .long 48, .long 57]) hC (c_X7_in a140 v145.toInt64 48 57) mm_X7_in mw_991 (by omega) (by decide) (Nat.le_of_ble_eq_true rfl) rfl dX7_step_155 (fun v155 => ?_)
      refine ww_if_eq (pc := 158) (tgt := 217) hC dX7_step_158 (by decide) ?_ ?_
      · exact hx140 a140
      · refine ww_aload_n (pc := 161) hC 0 rfl dX7_step_161 rfl ?_
        refine ww_aload_n (pc := 162) hC 0 rfl dX7_step_162 rfl ?_
        refine ww_geti (pc := 163) (Cl := RX7) (T := TX7) (N := 36) (j := 18) (ref := RX7) hC (h0 0 _ rfl) rfl inT_X7 (by decide) mw_894 rfl rfl dX7_step_163 ?_
        refine ww_aload_n (pc := 166) hC 0 rfl dX7_step_166 rfl ?_
        refine ww_geti (pc := 167) (Cl := RX7) (T := TX7) (N := 36) (j := 19) (ref := RX7) hC (h0 0 _ rfl) rfl inT_X7 (by decide) mw_895 rfl rfl dX7_step_167 ?_
        refine ww_isub (pc := 170) hC dX7_step_170 ?_
        refine ww_iconst (pc := 171) (v := 2) hC dX7_step_171 rfl ?_
        refine ww_icmp_ge (pc := 172) (tgt := 197) hC dX7_step_172 (by decide) ?_ ?_
        · refine ww_aload_n (pc := 197) hC 0 rfl dX7_step_197 rfl ?_
          refine ww_geti (pc := 198) (Cl := RX7) (T := TX7) (N := 36) (j := 21) (ref := RX7) hC (h0 0 _ rfl) rfl inT_X7 (by decide) mw_897 rfl rfl dX7_step_198 ?_
          refine ww_puti (pc := 201) (Cl := RX7) (T := TX7) (N := 36) (j := 21) (ref := RX7) hC (h0 0 _ rfl) rfl inT_X7 (by decide) mw_897 rfl tyX7 tyX7_ok nmX7 rfl rfl (tyX7_ok 21 (by decide)) dX7_step_201 ?_
          refine ww_aload_n (pc := 204) hC 0 rfl dX7_step_204 rfl ?_
          refine ww_dup (pc := 205) hC dX7_step_205 rfl ?_
          refine ww_geti (pc := 206) (Cl := RX7) (T := TX7) (N := 36) (j := 18) (ref := RX7) hC (h0 0 _ rfl) rfl inT_X7 (by decide) mw_894 rfl rfl dX7_step_206 ?_
          refine ww_iconst (pc := 209) (v := 1) hC dX7_step_209 rfl ?_
          refine ww_iadd (pc := 210) hC dX7_step_210 ?_
          refine ww_puti (pc := 211) (Cl := RX7) (T := TX7) (N := 36) (j := 18) (ref := RX7) hC (h0 0 _ rfl) rfl inT_X7 (by decide) mw_894 rfl tyX7 tyX7_ok nmX7 rfl rfl (tyX7_ok 18 (by decide)) dX7_step_211 ?_
          refine ww_goto (pc := 214) (tgt := 140) hC dX7_step_214 (by decide) ?_
          exact hc140 (ww_up (ww_up a140 o0 21 (a140 o0 21)) o0 18 (((ww_up a140 o0 21 (a140 o0 21)) o0 18) + 1))
        · refine ww_bipush (pc := 175) (v := 10) hC dX7_step_175 rfl ?_
          refine ww_aload_n (pc := 177) hC 0 rfl dX7_step_177 rfl ?_
          refine ww_geti (pc := 178) (Cl := RX7) (T := TX7) (N := 36) (j := 21) (ref := RX7) hC (h0 0 _ rfl) rfl inT_X7 (by decide) mw_897 rfl rfl dX7_step_178 ?_
          refine ww_imul (pc := 181) hC dX7_step_181 ?_
          refine ww_aload_n (pc := 182) hC 0 rfl dX7_step_182 rfl ?_
          refine ww_aload_n (pc := 183) hC 0 rfl dX7_step_183 rfl ?_
          refine ww_geti (pc := 184) (Cl := RX7) (T := TX7) (N := 36) (j := 18) (ref := RX7) hC (h0 0 _ rfl) rfl inT_X7 (by decide) mw_894 rfl rfl dX7_step_184 ?_
          refine ww_callVi (pc := 187) (st := [.int (10 * (a140 o0 21)), .ref (ad o0)]) (As := [.int (a140 o0 18)]) hC (c_X7_byteAt o0 h0 a140 (a140 o0 18)) mm_X7_byteAt mw_1006 (h0 0 _ rfl) rfl (by omega) (by decide) (Nat.le_of_ble_eq_true rfl) rfl dX7_step_187 (fun v187 => ?_)
          refine ww_iadd (pc := 190) hC dX7_step_190 ?_
          refine ww_bipush (pc := 191) (v := 48) hC dX7_step_191 rfl ?_
          refine ww_isub (pc := 193) hC dX7_step_193 ?_
          refine ww_goto (pc := 194) (tgt := 201) hC dX7_step_194 (by decide) ?_
          refine ww_puti (pc := 201) (Cl := RX7) (T := TX7) (N := 36) (j := 21) (ref := RX7) hC (h0 0 _ rfl) rfl inT_X7 (by decide) mw_897 rfl tyX7 tyX7_ok nmX7 rfl rfl (tyX7_ok 21 (by decide)) dX7_step_201 ?_
          refine ww_aload_n (pc := 204) hC 0 rfl dX7_step_204 rfl ?_
          refine ww_dup (pc := 205) hC dX7_step_205 rfl ?_
          refine ww_geti (pc := 206) (Cl := RX7) (T := TX7) (N := 36) (j := 18) (ref := RX7) hC (h0 0 _ rfl) rfl inT_X7 (by decide) mw_894 rfl rfl dX7_step_206 ?_
          refine ww_iconst (pc := 209) (v := 1) hC dX7_step_209 rfl ?_
          refine ww_iadd (pc := 210) hC dX7_step_210 ?_
          refine ww_puti (pc := 211) (Cl := RX7) (T := TX7) (N := 36) (j := 18) (ref := RX7) hC (h0 0 _ rfl) rfl inT_X7 (by decide) mw_894 rfl tyX7 tyX7_ok nmX7 rfl rfl (tyX7_ok 18 (by decide)) dX7_step_211 ?_
          refine ww_goto (pc := 214) (tgt := 140) hC dX7_step_214 (by decide) ?_
          exact hc140 (ww_up (ww_up a140 o0 21 (((10 * (a140 o0 21)) + v187) - 48)) o0 18 (((ww_up a140 o0 21 (((10 * (a140 o0 21)) + v187) - 48)) o0 18) + 1))
  have hJ118 : ∀ (σ : ww_M), ww_V X Y ad G 2 σ 118 [(0, .ref (ad o0))] [] ((f_X7_step_j118 σ o0).bind ww_rv) := by
    intro σ
    unfold f_X7_step_j118
    refine ww_aload_n (pc := 118) hC 0 rfl dX7_step_118 rfl ?_
    refine ww_iconst (pc := 119) (v := 1) hC dX7_step_119 rfl ?_
    refine ww_puti (pc := 120) (Cl := RX7) (T := TX7) (N := 36) (j := 20) (ref := RX7) hC (h0 0 _ rfl) rfl inT_X7 (by decide) mw_896 rfl tyX7 tyX7_ok nmX7 rfl rfl (tyX7_ok 20 (by decide)) dX7_step_120 ?_
    refine ww_goto (pc := 123) (tgt := 269) hC dX7_step_123 (by decide) ?_
    exact ww_return (pc := 269) hC hR dX7_step_269 rfl
  have hJ84 : ∀ (σ : ww_M), ww_V X Y ad G 2 σ 84 [(0, .ref (ad o0))] [] ((f_X7_step_j84 σ o0).bind ww_rv) := by
    intro σ
    unfold f_X7_step_j84
    refine ww_assoc ?_
    refine ww_loop (f := f_X7_step_b84 o0) (fun a84 => a84) (fun a84 => [(0, .ref (ad o0))]) (fun b84 => b84) (fun b84 => [(0, .ref (ad o0))]) 118 (fun b84 => ?_) (fun a84 KK84 hc84 hx84 => ?_) ww_F σ
    · exact hJ118 b84
    · unfold f_X7_step_b84
      refine ww_aload_n (pc := 84) hC 0 rfl dX7_step_84 rfl ?_
      refine ww_aload_n (pc := 85) hC 0 rfl dX7_step_85 rfl ?_
      refine ww_geti (pc := 86) (Cl := RX7) (T := TX7) (N := 36) (j := 18) (ref := RX7) hC (h0 0 _ rfl) rfl inT_X7 (by decide) mw_894 rfl rfl dX7_step_86 ?_
      refine ww_callVi (pc := 89) (st := []) (As := [.int (a84 o0 18)]) hC (c_X7_byteAt o0 h0 a84 (a84 o0 18)) mm_X7_byteAt mw_1006 (h0 0 _ rfl) rfl (by omega) (by decide) (Nat.le_of_ble_eq_true rfl) rfl dX7_step_89 (fun v89 => ?_)
      refine ww_i2l (pc := 92) hC dX7_step_92 ?_
      refine ww_ldc2 (pc := 93) hC dX7_step_93 mw_1010 ?_
      refine ww_ldc2 (pc := 96) hC dX7_step_96 mw_1011 ?_
      refine ww_callSi (pc := 99) (st := []) (As := [.long v89.toInt64, .long 97, .long 122]) hC (c_X7_in a84 v89.toInt64 97 122) mm_X7_in mw_991 (by omega) (by decide) (Nat.le_of_ble_eq_true rfl) rfl dX7_step_99 (fun v99 => ?_)
      refine ww_if_eq (pc := 102) (tgt := 118) hC dX7_step_102 (by decide) ?_ ?_
      · exact hx84 a84
      · refine ww_aload_n (pc := 105) hC 0 rfl dX7_step_105 rfl ?_
        refine ww_dup (pc := 106) hC dX7_step_106 rfl ?_
        refine ww_geti (pc := 107) (Cl := RX7) (T := TX7) (N := 36) (j := 18) (ref := RX7) hC (h0 0 _ rfl) rfl inT_X7 (by decide) mw_894 rfl rfl dX7_step_107 ?_
        refine ww_iconst (pc := 110) (v := 1) hC dX7_step_110 rfl ?_
        refine ww_iadd (pc := 111) hC dX7_step_111 ?_
        refine ww_puti (pc := 112) (Cl := RX7) (T := TX7) (N := 36) (j := 18) (ref := RX7) hC (h0 0 _ rfl) rfl inT_X7 (by decide) mw_894 rfl tyX7 tyX7_ok nmX7 rfl rfl (tyX7_ok 18 (by decide)) dX7_step_112 ?_
        refine ww_goto (pc := 115) (tgt := 84) hC dX7_step_115 (by decide) ?_
        exact hc84 (ww_up a84 o0 18 ((a84 o0 18) + 1))
  have hJ34 : ∀ (σ : ww_M), ww_V X Y ad G 2 σ 34 [(0, .ref (ad o0))] [] ((f_X7_step_j34 σ o0).bind ww_rv) := by
    intro σ
    unfold f_X7_step_j34
    refine ww_aload_n (pc := 34) hC 0 rfl dX7_step_34 rfl ?_
    refine ww_aload_n (pc := 35) hC 0 rfl dX7_step_35 rfl ?_
    refine ww_geti (pc := 36) (Cl := RX7) (T := TX7) (N := 36) (j := 18) (ref := RX7) hC (h0 0 _ rfl) rfl inT_X7 (by decide) mw_894 rfl rfl dX7_step_36 ?_
    refine ww_puti (pc := 39) (Cl := RX7) (T := TX7) (N := 36) (j := 19) (ref := RX7) hC (h0 0 _ rfl) rfl inT_X7 (by decide) mw_895 rfl tyX7 tyX7_ok nmX7 rfl rfl (tyX7_ok 19 (by decide)) dX7_step_39 ?_
    refine ww_aload_n (pc := 42) hC 0 rfl dX7_step_42 rfl ?_
    refine ww_aload_n (pc := 43) hC 0 rfl dX7_step_43 rfl ?_
    refine ww_geti (pc := 44) (Cl := RX7) (T := TX7) (N := 36) (j := 18) (ref := RX7) hC (h0 0 _ rfl) rfl inT_X7 (by decide) mw_894 rfl rfl dX7_step_44 ?_
    refine ww_callVi (pc := 47) (st := []) (As := [.int ((ww_up σ o0 19 (σ o0 18)) o0 18)]) hC (c_X7_byteAt o0 h0 (ww_up σ o0 19 (σ o0 18)) ((ww_up σ o0 19 (σ o0 18)) o0 18)) mm_X7_byteAt mw_1006 (h0 0 _ rfl) rfl (by omega) (by decide) (Nat.le_of_ble_eq_true rfl) rfl dX7_step_47 (fun v47 => ?_)
    refine ww_istore_n (pc := 50) (lv' := [(1, .int v47), (0, .ref (ad o0))]) hC dX7_step_50 rfl (by decide) rfl ?_
    refine ww_aload_n (pc := 51) hC 1 rfl dX7_step_51 rfl ?_
    refine ww_iconst (pc := 52) (v := 0) hC dX7_step_52 rfl ?_
    refine ww_puti (pc := 53) (Cl := RX7) (T := TX7) (N := 36) (j := 21) (ref := RX7) hC (h0 0 _ rfl) rfl inT_X7 (by decide) mw_897 rfl tyX7 tyX7_ok nmX7 rfl rfl (tyX7_ok 21 (by decide)) dX7_step_53 ?_
    refine ww_iload_n (pc := 56) hC 0 rfl dX7_step_56 rfl ?_
    refine ww_bipush (pc := 57) (v := (-4)) hC dX7_step_57 rfl ?_
    refine ww_icmp_ne (pc := 59) (tgt := 70) hC dX7_step_59 (by decide) ?_ ?_
    · refine ww_iload_n (pc := 70) hC 0 rfl dX7_step_70 rfl ?_
      refine ww_i2l (pc := 71) hC dX7_step_71 ?_
      refine ww_ldc2 (pc := 72) hC dX7_step_72 mw_1010 ?_
      refine ww_ldc2 (pc := 75) hC dX7_step_75 mw_1011 ?_
      refine ww_callSi (pc := 78) (st := []) (As := [.long v47.toInt64, .long 97, .long 122]) hC (c_X7_in (ww_up (ww_up σ o0 19 (σ o0 18)) o0 21 0) v47.toInt64 97 122) mm_X7_in mw_991 (by omega) (by decide) (Nat.le_of_ble_eq_true rfl) rfl dX7_step_78 (fun v78 => ?_)
      refine ww_if_eq (pc := 81) (tgt := 126) hC dX7_step_81 (by decide) ?_ ?_
      · refine ww_iload_n (pc := 126) hC 0 rfl dX7_step_126 rfl ?_
        refine ww_i2l (pc := 127) hC dX7_step_127 ?_
        refine ww_ldc2 (pc := 128) hC dX7_step_128 mw_1012 ?_
        refine ww_ldc2 (pc := 131) hC dX7_step_131 mw_1013 ?_
        refine ww_callSi (pc := 134) (st := []) (As := [.long v47.toInt64, .long 48, .long 57]) hC (c_X7_in (ww_up (ww_up σ o0 19 (σ o0 18)) o0 21 0) v47.toInt64 48 57) mm_X7_in mw_991 (by omega) (by decide) (Nat.le_of_ble_eq_true rfl) rfl dX7_step_134 (fun v134 => ?_)
        refine ww_if_eq (pc := 137) (tgt := 243) hC dX7_step_137 (by decide) ?_ ?_
        · refine ww_aload_n (pc := 243) hC 1 rfl dX7_step_243 rfl ?_
          refine ww_iconst (pc := 244) (v := 3) hC dX7_step_244 rfl ?_
          refine ww_puti (pc := 245) (Cl := RX7) (T := TX7) (N := 36) (j := 20) (ref := RX7) hC (h0 0 _ rfl) rfl inT_X7 (by decide) mw_896 rfl tyX7 tyX7_ok nmX7 rfl rfl (tyX7_ok 20 (by decide)) dX7_step_245 ?_
          refine ww_aload_n (pc := 248) hC 1 rfl dX7_step_248 rfl ?_
          refine ww_dup (pc := 249) hC dX7_step_249 rfl ?_
          refine ww_geti (pc := 250) (Cl := RX7) (T := TX7) (N := 36) (j := 18) (ref := RX7) hC (h0 0 _ rfl) rfl inT_X7 (by decide) mw_894 rfl rfl dX7_step_250 ?_
          refine ww_iconst (pc := 253) (v := 1) hC dX7_step_253 rfl ?_
          refine ww_iadd (pc := 254) hC dX7_step_254 ?_
          refine ww_puti (pc := 255) (Cl := RX7) (T := TX7) (N := 36) (j := 18) (ref := RX7) hC (h0 0 _ rfl) rfl inT_X7 (by decide) mw_894 rfl tyX7 tyX7_ok nmX7 rfl rfl (tyX7_ok 18 (by decide)) dX7_step_255 ?_
          refine ww_iload_n (pc := 258) hC 0 rfl dX7_step_258 rfl ?_
          refine ww_bipush (pc := 259) (v := 59) hC dX7_step_259 rfl ?_
          refine ww_icmp_eq (pc := 261) (tgt := 269) hC dX7_step_261 (by decide) ?_ ?_
          · exact ww_return (pc := 269) hC hR dX7_step_269 rfl
          · refine ww_aload_n (pc := 264) hC 1 rfl dX7_step_264 rfl ?_
            refine ww_iconst (pc := 265) (v := 1) hC dX7_step_265 rfl ?_
            refine ww_callVv (pc := 266) (st := []) (As := [.int 1]) hC (c_X7_fails o0 h0 (ww_up (ww_up (ww_up (ww_up σ o0 19 (σ o0 18)) o0 21 0) o0 20 3) o0 18 (((ww_up (ww_up (ww_up σ o0 19 (σ o0 18)) o0 21 0) o0 20 3) o0 18) + 1)) 1) mm_X7_fails mw_1014 (h0 0 _ rfl) rfl (by omega) (by decide) (Nat.le_of_ble_eq_true rfl) rfl dX7_step_266 (fun v266 => ?_)
            exact ww_return (pc := 269) hC hR dX7_step_269 rfl
        · refine ww_lv [1] rfl ?_
          exact hJ140 (ww_up (ww_up σ o0 19 (σ o0 18)) o0 21 0)
      · refine ww_lv [1] rfl ?_
        exact hJ84 (ww_up (ww_up σ o0 19 (σ o0 18)) o0 21 0)
    · refine ww_aload_n (pc := 62) hC 1 rfl dX7_step_62 rfl ?_
      refine ww_iconst (pc := 63) (v := 0) hC dX7_step_63 rfl ?_
      refine ww_puti (pc := 64) (Cl := RX7) (T := TX7) (N := 36) (j := 20) (ref := RX7) hC (h0 0 _ rfl) rfl inT_X7 (by decide) mw_896 rfl tyX7 tyX7_ok nmX7 rfl rfl (tyX7_ok 20 (by decide)) dX7_step_64 ?_
      refine ww_goto (pc := 67) (tgt := 269) hC dX7_step_67 (by decide) ?_
      exact ww_return (pc := 269) hC hR dX7_step_269 rfl
  have hJ8 : ∀ (σ : ww_M), ww_V X Y ad G 2 σ 8 [(0, .ref (ad o0))] [] ((f_X7_step_j8 σ o0).bind ww_rv) := by
    intro σ
    unfold f_X7_step_j8
    refine ww_assoc ?_
    refine ww_loop (f := f_X7_step_b8 o0) (fun a8 => a8) (fun a8 => [(0, .ref (ad o0))]) (fun b8 => b8) (fun b8 => [(0, .ref (ad o0))]) 34 (fun b8 => ?_) (fun a8 KK8 hc8 hx8 => ?_) ww_F σ
    · exact hJ34 b8
    · unfold f_X7_step_b8
      refine ww_aload_n (pc := 8) hC 0 rfl dX7_step_8 rfl ?_
      refine ww_aload_n (pc := 9) hC 0 rfl dX7_step_9 rfl ?_
      refine ww_geti (pc := 10) (Cl := RX7) (T := TX7) (N := 36) (j := 18) (ref := RX7) hC (h0 0 _ rfl) rfl inT_X7 (by decide) mw_894 rfl rfl dX7_step_10 ?_
      refine ww_callVi (pc := 13) (st := []) (As := [.int (a8 o0 18)]) hC (c_X7_byteAt o0 h0 a8 (a8 o0 18)) mm_X7_byteAt mw_1006 (h0 0 _ rfl) rfl (by omega) (by decide) (Nat.le_of_ble_eq_true rfl) rfl dX7_step_13 (fun v13 => ?_)
      refine ww_bipush (pc := 16) (v := 32) hC dX7_step_16 rfl ?_
      refine ww_icmp_ne (pc := 18) (tgt := 34) hC dX7_step_18 (by decide) ?_ ?_
      · exact hx8 a8
      · refine ww_aload_n (pc := 21) hC 0 rfl dX7_step_21 rfl ?_
        refine ww_dup (pc := 22) hC dX7_step_22 rfl ?_
        refine ww_geti (pc := 23) (Cl := RX7) (T := TX7) (N := 36) (j := 18) (ref := RX7) hC (h0 0 _ rfl) rfl inT_X7 (by decide) mw_894 rfl rfl dX7_step_23 ?_
        refine ww_iconst (pc := 26) (v := 1) hC dX7_step_26 rfl ?_
        refine ww_iadd (pc := 27) hC dX7_step_27 ?_
        refine ww_puti (pc := 28) (Cl := RX7) (T := TX7) (N := 36) (j := 18) (ref := RX7) hC (h0 0 _ rfl) rfl inT_X7 (by decide) mw_894 rfl tyX7 tyX7_ok nmX7 rfl rfl (tyX7_ok 18 (by decide)) dX7_step_28 ?_
        refine ww_goto (pc := 31) (tgt := 8) hC dX7_step_31 (by decide) ?_
        exact hc8 (ww_up a8 o0 18 ((a8 o0 18) + 1))
  unfold f_X7_step
  refine ww_aload_n (pc := 0) hC 0 rfl dX7_step_0 rfl ?_
  refine ww_geti (pc := 1) (Cl := RX7) (T := TX7) (N := 36) (j := 16) (ref := RX7) hC (h0 0 _ rfl) rfl inT_X7 (by decide) mw_892 rfl rfl dX7_step_1 ?_
  refine ww_if_le (pc := 4) (tgt := 8) hC dX7_step_4 (by decide) ?_ ?_
  · exact hJ8 σ
  · exact ww_return (pc := 7) hC hR dX7_step_7 rfl
theorem dX7_number_0 : decode cX7_number 0 = .ok (.aload_n 0, 1) := by decide +kernel
theorem dX7_number_1 : decode cX7_number 1 = .ok (.getfield 75, 3) := by decide +kernel
theorem dX7_number_4 : decode cX7_number 4 = .ok (.ifCond .ne 16, 3) := by decide +kernel
theorem dX7_number_7 : decode cX7_number 7 = .ok (.aload_n 0, 1) := by decide +kernel
theorem dX7_number_8 : decode cX7_number 8 = .ok (.getfield 84, 3) := by decide +kernel
theorem dX7_number_11 : decode cX7_number 11 = .ok (.iconst 2, 1) := by decide +kernel
theorem dX7_number_12 : decode cX7_number 12 = .ok (.if_icmp .eq 8, 3) := by decide +kernel
theorem dX7_number_15 : decode cX7_number 15 = .ok (.aload_n 0, 1) := by decide +kernel
theorem dX7_number_16 : decode cX7_number 16 = .ok (.iconst 2, 1) := by decide +kernel
theorem dX7_number_17 : decode cX7_number 17 = .ok (.invokevirtual 105, 3) := by decide +kernel
theorem dX7_number_20 : decode cX7_number 20 = .ok (.aload_n 0, 1) := by decide +kernel
theorem dX7_number_21 : decode cX7_number 21 = .ok (.getfield 75, 3) := by decide +kernel
theorem dX7_number_24 : decode cX7_number 24 = .ok (.ifCond .ne 23, 3) := by decide +kernel
theorem dX7_number_27 : decode cX7_number 27 = .ok (.aload_n 0, 1) := by decide +kernel
theorem dX7_number_28 : decode cX7_number 28 = .ok (.getfield 94, 3) := by decide +kernel
theorem dX7_number_31 : decode cX7_number 31 = .ok (.i2l, 1) := by decide +kernel
theorem dX7_number_32 : decode cX7_number 32 = .ok (.iload_n 1, 1) := by decide +kernel
theorem dX7_number_33 : decode cX7_number 33 = .ok (.i2l, 1) := by decide +kernel
theorem dX7_number_34 : decode cX7_number 34 = .ok (.iload_n 2, 1) := by decide +kernel
theorem dX7_number_35 : decode cX7_number 35 = .ok (.i2l, 1) := by decide +kernel
theorem dX7_number_36 : decode cX7_number 36 = .ok (.invokestatic 68, 3) := by decide +kernel
theorem dX7_number_39 : decode cX7_number 39 = .ok (.ifCond .ne 8, 3) := by decide +kernel
theorem dX7_number_42 : decode cX7_number 42 = .ok (.aload_n 0, 1) := by decide +kernel
theorem dX7_number_43 : decode cX7_number 43 = .ok (.iconst 3, 1) := by decide +kernel
theorem dX7_number_44 : decode cX7_number 44 = .ok (.invokevirtual 105, 3) := by decide +kernel
theorem dX7_number_47 : decode cX7_number 47 = .ok (.aload_n 0, 1) := by decide +kernel
theorem dX7_number_48 : decode cX7_number 48 = .ok (.getfield 75, 3) := by decide +kernel
theorem dX7_number_51 : decode cX7_number 51 = .ok (.ifCond .ne 10, 3) := by decide +kernel
theorem dX7_number_54 : decode cX7_number 54 = .ok (.aload_n 0, 1) := by decide +kernel
theorem dX7_number_55 : decode cX7_number 55 = .ok (.getfield 94, 3) := by decide +kernel
theorem dX7_number_58 : decode cX7_number 58 = .ok (.goto 4, 3) := by decide +kernel
theorem dX7_number_61 : decode cX7_number 61 = .ok (.iload_n 1, 1) := by decide +kernel
theorem dX7_number_62 : decode cX7_number 62 = .ok (.istore_n 3, 1) := by decide +kernel
theorem dX7_number_63 : decode cX7_number 63 = .ok (.aload_n 0, 1) := by decide +kernel
theorem dX7_number_64 : decode cX7_number 64 = .ok (.invokevirtual 109, 3) := by decide +kernel
theorem dX7_number_67 : decode cX7_number 67 = .ok (.iload_n 3, 1) := by decide +kernel
theorem dX7_number_68 : decode cX7_number 68 = .ok (.ireturn, 1) := by decide +kernel
set_option maxHeartbeats 4000000 in
set_option maxRecDepth 100000 in
theorem c_X7_number {l : Launch} {Y : ww_Y} {ad : Nat → Nat} {G : List ww_L} (o0 : Nat) (h0 : ww_at G o0 (ww_LModel o0)) (σ : ww_M) (p1 : Int32) (p2 : Int32) : ww_Cn l Y ad G yX7_number cX7_number 4 (some .int) 3 [.ref (ad o0), .int p1, .int p2] σ ((f_X7_number σ o0 p1 p2).bind ww_rw) := by
  refine ww_met (by decide +kernel) (Nat.le_of_ble_eq_true rfl) ?_
  intro X hC hR
  have hC : ww_C X l Y ad G 3 cX7_number 4 RX7 := hC
  show ww_V X Y ad G 4 σ 0 [(0, .ref (ad o0)), (1, .int p1), (2, .int p2)] [] ((f_X7_number σ o0 p1 p2).bind ww_rw)
  have hJ62 : ∀ (σ : ww_M) (s0 : Int32), ww_V X Y ad G 4 σ 62 [(0, .ref (ad o0))] [.int s0] ((f_X7_number_j62 σ o0 p1 p2 s0).bind ww_rw) := by
    intro σ s0
    unfold f_X7_number_j62
    refine ww_istore_n (pc := 62) (lv' := [(3, .int s0), (0, .ref (ad o0))]) hC dX7_number_62 rfl (by decide) rfl ?_
    refine ww_aload_n (pc := 63) hC 1 rfl dX7_number_63 rfl ?_
    refine ww_callVv (pc := 64) (st := []) (As := []) hC (c_X7_step o0 h0 σ) mm_X7_step mw_1002 (h0 0 _ rfl) rfl (by omega) (by decide) (Nat.le_of_ble_eq_true rfl) rfl dX7_number_64 (fun v64 => ?_)
    refine ww_iload_n (pc := 67) hC 0 rfl dX7_number_67 rfl ?_
    exact ww_ireturn (pc := 68) hC hR dX7_number_68 rfl
  have hJ47 : ∀ (σ : ww_M), ww_V X Y ad G 4 σ 47 [(0, .ref (ad o0)), (1, .int p1)] [] ((f_X7_number_j47 σ o0 p1 p2).bind ww_rw) := by
    intro σ
    unfold f_X7_number_j47
    refine ww_aload_n (pc := 47) hC 0 rfl dX7_number_47 rfl ?_
    refine ww_geti (pc := 48) (Cl := RX7) (T := TX7) (N := 36) (j := 16) (ref := RX7) hC (h0 0 _ rfl) rfl inT_X7 (by decide) mw_892 rfl rfl dX7_number_48 ?_
    refine ww_if_ne (pc := 51) (tgt := 61) hC dX7_number_51 (by decide) ?_ ?_
    · refine ww_iload_n (pc := 61) hC 1 rfl dX7_number_61 rfl ?_
      refine ww_lv [0] rfl ?_
      exact hJ62 σ p1
    · refine ww_aload_n (pc := 54) hC 0 rfl dX7_number_54 rfl ?_
      refine ww_geti (pc := 55) (Cl := RX7) (T := TX7) (N := 36) (j := 21) (ref := RX7) hC (h0 0 _ rfl) rfl inT_X7 (by decide) mw_897 rfl rfl dX7_number_55 ?_
      refine ww_goto (pc := 58) (tgt := 62) hC dX7_number_58 (by decide) ?_
      refine ww_lv [0] rfl ?_
      exact hJ62 σ (σ o0 21)
  have hJ20 : ∀ (σ : ww_M), ww_V X Y ad G 4 σ 20 [(0, .ref (ad o0)), (1, .int p1), (2, .int p2)] [] ((f_X7_number_j20 σ o0 p1 p2).bind ww_rw) := by
    intro σ
    unfold f_X7_number_j20
    refine ww_aload_n (pc := 20) hC 0 rfl dX7_number_20 rfl ?_
    refine ww_geti (pc := 21) (Cl := RX7) (T := TX7) (N := 36) (j := 16) (ref := RX7) hC (h0 0 _ rfl) rfl inT_X7 (by decide) mw_892 rfl rfl dX7_number_21 ?_
    refine ww_if_ne (pc := 24) (tgt := 47) hC dX7_number_24 (by decide) ?_ ?_
    · refine ww_lv [0, 1] rfl ?_
      exact hJ47 σ
    · refine ww_aload_n (pc := 27) hC 0 rfl dX7_number_27 rfl ?_
      refine ww_geti (pc := 28) (Cl := RX7) (T := TX7) (N := 36) (j := 21) (ref := RX7) hC (h0 0 _ rfl) rfl inT_X7 (by decide) mw_897 rfl rfl dX7_number_28 ?_
      refine ww_i2l (pc := 31) hC dX7_number_31 ?_
      refine ww_iload_n (pc := 32) hC 1 rfl dX7_number_32 rfl ?_
      refine ww_i2l (pc := 33) hC dX7_number_33 ?_
      refine ww_iload_n (pc := 34) hC 2 rfl dX7_number_34 rfl ?_
      refine ww_i2l (pc := 35) hC dX7_number_35 ?_
      refine ww_callSi (pc := 36) (st := []) (As := [.long ((σ o0 21).toInt64), .long p1.toInt64, .long p2.toInt64]) hC (c_X7_in σ ((σ o0 21).toInt64) p1.toInt64 p2.toInt64) mm_X7_in mw_991 (by omega) (by decide) (Nat.le_of_ble_eq_true rfl) rfl dX7_number_36 (fun v36 => ?_)
      refine ww_if_ne (pc := 39) (tgt := 47) hC dX7_number_39 (by decide) ?_ ?_
      · refine ww_lv [0, 1] rfl ?_
        exact hJ47 σ
      · refine ww_aload_n (pc := 42) hC 0 rfl dX7_number_42 rfl ?_
        refine ww_iconst (pc := 43) (v := 3) hC dX7_number_43 rfl ?_
        refine ww_callVv (pc := 44) (st := []) (As := [.int 3]) hC (c_X7_fails o0 h0 σ 3) mm_X7_fails mw_1014 (h0 0 _ rfl) rfl (by omega) (by decide) (Nat.le_of_ble_eq_true rfl) rfl dX7_number_44 (fun v44 => ?_)
        refine ww_lv [0, 1] rfl ?_
        exact hJ47 v44
  unfold f_X7_number
  refine ww_aload_n (pc := 0) hC 0 rfl dX7_number_0 rfl ?_
  refine ww_geti (pc := 1) (Cl := RX7) (T := TX7) (N := 36) (j := 16) (ref := RX7) hC (h0 0 _ rfl) rfl inT_X7 (by decide) mw_892 rfl rfl dX7_number_1 ?_
  refine ww_if_ne (pc := 4) (tgt := 20) hC dX7_number_4 (by decide) ?_ ?_
  · exact hJ20 σ
  · refine ww_aload_n (pc := 7) hC 0 rfl dX7_number_7 rfl ?_
    refine ww_geti (pc := 8) (Cl := RX7) (T := TX7) (N := 36) (j := 20) (ref := RX7) hC (h0 0 _ rfl) rfl inT_X7 (by decide) mw_896 rfl rfl dX7_number_8 ?_
    refine ww_iconst (pc := 11) (v := 2) hC dX7_number_11 rfl ?_
    refine ww_icmp_eq (pc := 12) (tgt := 20) hC dX7_number_12 (by decide) ?_ ?_
    · exact hJ20 σ
    · refine ww_aload_n (pc := 15) hC 0 rfl dX7_number_15 rfl ?_
      refine ww_iconst (pc := 16) (v := 2) hC dX7_number_16 rfl ?_
      refine ww_callVv (pc := 17) (st := []) (As := [.int 2]) hC (c_X7_fails o0 h0 σ 2) mm_X7_fails mw_1014 (h0 0 _ rfl) rfl (by omega) (by decide) (Nat.le_of_ble_eq_true rfl) rfl dX7_number_17 (fun v17 => ?_)
      exact hJ20 v17
theorem dX7_readTide_0 : decode cX7_readTide 0 = .ok (.iconst 1, 1) := by decide +kernel
theorem dX7_readTide_1 : decode cX7_readTide 1 = .ok (.istore_n 1, 1) := by decide +kernel
theorem dX7_readTide_2 : decode cX7_readTide 2 = .ok (.aload_n 0, 1) := by decide +kernel
theorem dX7_readTide_3 : decode cX7_readTide 3 = .ok (.getfield 75, 3) := by decide +kernel
theorem dX7_readTide_6 : decode cX7_readTide 6 = .ok (.ifCond .ne 80, 3) := by decide +kernel
theorem dX7_readTide_9 : decode cX7_readTide 9 = .ok (.iload_n 1, 1) := by decide +kernel
theorem dX7_readTide_10 : decode cX7_readTide 10 = .ok (.ifCond .ne 11, 3) := by decide +kernel
theorem dX7_readTide_13 : decode cX7_readTide 13 = .ok (.aload_n 0, 1) := by decide +kernel
theorem dX7_readTide_14 : decode cX7_readTide 14 = .ok (.getfield 84, 3) := by decide +kernel
theorem dX7_readTide_17 : decode cX7_readTide 17 = .ok (.iconst 2, 1) := by decide +kernel
theorem dX7_readTide_18 : decode cX7_readTide 18 = .ok (.if_icmp .ne 68, 3) := by decide +kernel
theorem dX7_readTide_21 : decode cX7_readTide 21 = .ok (.iconst 0, 1) := by decide +kernel
theorem dX7_readTide_22 : decode cX7_readTide 22 = .ok (.istore_n 1, 1) := by decide +kernel
theorem dX7_readTide_23 : decode cX7_readTide 23 = .ok (.aload_n 0, 1) := by decide +kernel
theorem dX7_readTide_24 : decode cX7_readTide 24 = .ok (.getfield 84, 3) := by decide +kernel
theorem dX7_readTide_27 : decode cX7_readTide 27 = .ok (.iconst 2, 1) := by decide +kernel
theorem dX7_readTide_28 : decode cX7_readTide 28 = .ok (.if_icmp .ne 18, 3) := by decide +kernel
theorem dX7_readTide_31 : decode cX7_readTide 31 = .ok (.aload_n 0, 1) := by decide +kernel
theorem dX7_readTide_32 : decode cX7_readTide 32 = .ok (.getfield 112, 3) := by decide +kernel
theorem dX7_readTide_35 : decode cX7_readTide 35 = .ok (.bipush 6, 2) := by decide +kernel
theorem dX7_readTide_37 : decode cX7_readTide 37 = .ok (.if_icmp .ne 9, 3) := by decide +kernel
theorem dX7_readTide_40 : decode cX7_readTide 40 = .ok (.aload_n 0, 1) := by decide +kernel
theorem dX7_readTide_41 : decode cX7_readTide 41 = .ok (.iconst 5, 1) := by decide +kernel
theorem dX7_readTide_42 : decode cX7_readTide 42 = .ok (.invokevirtual 105, 3) := by decide +kernel
theorem dX7_readTide_45 : decode cX7_readTide 45 = .ok (.return_, 1) := by decide +kernel
theorem dX7_readTide_46 : decode cX7_readTide 46 = .ok (.aload_n 0, 1) := by decide +kernel
theorem dX7_readTide_47 : decode cX7_readTide 47 = .ok (.iconst 0, 1) := by decide +kernel
theorem dX7_readTide_48 : decode cX7_readTide 48 = .ok (.bipush 9, 2) := by decide +kernel
theorem dX7_readTide_50 : decode cX7_readTide 50 = .ok (.invokevirtual 115, 3) := by decide +kernel
theorem dX7_readTide_53 : decode cX7_readTide 53 = .ok (.istore_n 2, 1) := by decide +kernel
theorem dX7_readTide_54 : decode cX7_readTide 54 = .ok (.aload_n 0, 1) := by decide +kernel
theorem dX7_readTide_55 : decode cX7_readTide 55 = .ok (.getfield 112, 3) := by decide +kernel
theorem dX7_readTide_58 : decode cX7_readTide 58 = .ok (.bipush 6, 2) := by decide +kernel
theorem dX7_readTide_60 : decode cX7_readTide 60 = .ok (.if_icmp .ge 23, 3) := by decide +kernel
theorem dX7_readTide_63 : decode cX7_readTide 63 = .ok (.aload_n 0, 1) := by decide +kernel
theorem dX7_readTide_64 : decode cX7_readTide 64 = .ok (.getfield 26, 3) := by decide +kernel
theorem dX7_readTide_67 : decode cX7_readTide 67 = .ok (.aload_n 0, 1) := by decide +kernel
theorem dX7_readTide_68 : decode cX7_readTide 68 = .ok (.getfield 112, 3) := by decide +kernel
theorem dX7_readTide_71 : decode cX7_readTide 71 = .ok (.iload_n 2, 1) := by decide +kernel
theorem dX7_readTide_72 : decode cX7_readTide 72 = .ok (.iastore, 1) := by decide +kernel
theorem dX7_readTide_73 : decode cX7_readTide 73 = .ok (.aload_n 0, 1) := by decide +kernel
theorem dX7_readTide_74 : decode cX7_readTide 74 = .ok (.dup, 1) := by decide +kernel
theorem dX7_readTide_75 : decode cX7_readTide 75 = .ok (.getfield 112, 3) := by decide +kernel
theorem dX7_readTide_78 : decode cX7_readTide 78 = .ok (.iconst 1, 1) := by decide +kernel
theorem dX7_readTide_79 : decode cX7_readTide 79 = .ok (.iadd, 1) := by decide +kernel
theorem dX7_readTide_80 : decode cX7_readTide 80 = .ok (.putfield 112, 3) := by decide +kernel
theorem dX7_readTide_83 : decode cX7_readTide 83 = .ok (.goto (-81), 3) := by decide +kernel
theorem dX7_readTide_86 : decode cX7_readTide 86 = .ok (.return_, 1) := by decide +kernel
set_option maxHeartbeats 4000000 in
set_option maxRecDepth 100000 in
theorem c_X7_readTide {l : Launch} {Y : ww_Y} {ad : Nat → Nat} {G : List ww_L} (o0 : Nat) (h0 : ww_at G o0 (ww_LModel o0)) (σ : ww_M) : ww_Cn l Y ad G yX7_readTide cX7_readTide 3 none 4 [.ref (ad o0)] σ ((f_X7_readTide σ o0).bind ww_rv) := by
  refine ww_met (by decide +kernel) (Nat.le_of_ble_eq_true rfl) ?_
  intro X hC hR
  have hC : ww_C X l Y ad G 4 cX7_readTide 3 RX7 := hC
  show ww_V X Y ad G 3 σ 0 [(0, .ref (ad o0))] [] ((f_X7_readTide σ o0).bind ww_rv)
  have hJ86 : ∀ (σ : ww_M), ww_V X Y ad G 3 σ 86 [] [] ((f_X7_readTide_j86 σ o0).bind ww_rv) := by
    intro σ
    unfold f_X7_readTide_j86
    exact ww_return (pc := 86) hC hR dX7_readTide_86 rfl
  have hJ2 : ∀ (σ : ww_M) (x1 : Int32), ww_V X Y ad G 3 σ 2 [(0, .ref (ad o0)), (1, .int x1)] [] ((f_X7_readTide_j2 σ o0 x1).bind ww_rv) := by
    intro σ x1
    unfold f_X7_readTide_j2
    refine ww_assoc ?_
    refine ww_loopR (f := f_X7_readTide_b2 o0) (fun a2 => a2.2) (fun a2 => [(0, .ref (ad o0)), (1, .int a2.1)]) (fun b2 => b2) (fun b2 => []) 86 (fun b2 => ?_) (fun a2 KK2 hc2 hx2 hr2 => ?_) ww_F (x1, σ)
    · exact hJ86 b2
    · unfold f_X7_readTide_b2
      have hJ46 : ∀ (σ : ww_M) (x1 : Int32), ww_V X Y ad G 3 σ 46 [(0, .ref (ad o0)), (1, .int x1)] [] ((f_X7_readTide_j46 σ o0 x1).bind KK2) := by
        intro σ x1
        unfold f_X7_readTide_j46
        refine ww_aload_n (pc := 46) hC 0 rfl dX7_readTide_46 rfl ?_
        refine ww_iconst (pc := 47) (v := 0) hC dX7_readTide_47 rfl ?_
        refine ww_bipush (pc := 48) (v := 9) hC dX7_readTide_48 rfl ?_
        refine ww_callVw (pc := 50) (st := []) (As := [.int 0, .int 9]) hC (c_X7_number o0 h0 σ 0 9) mm_X7_number mw_1029 (h0 0 _ rfl) rfl (by omega) (by decide) (Nat.le_of_ble_eq_true rfl) rfl dX7_readTide_50 (fun v50 => ?_)
        refine ww_istore_n (pc := 53) (lv' := [(2, .int v50.1), (0, .ref (ad o0)), (1, .int x1)]) hC dX7_readTide_53 rfl (by decide) rfl ?_
        refine ww_aload_n (pc := 54) hC 1 rfl dX7_readTide_54 rfl ?_
        refine ww_geti (pc := 55) (Cl := RX7) (T := TX7) (N := 36) (j := 10) (ref := RX7) hC (h0 0 _ rfl) rfl inT_X7 (by decide) mw_886 rfl rfl dX7_readTide_55 ?_
        refine ww_bipush (pc := 58) (v := 6) hC dX7_readTide_58 rfl ?_
        refine ww_icmp_ge (pc := 60) (tgt := 83) hC dX7_readTide_60 (by decide) ?_ ?_
        · refine ww_goto (pc := 83) (tgt := 2) hC dX7_readTide_83 (by decide) ?_
          refine ww_lv [1, 2] rfl ?_
          exact hc2 (x1, v50.2)
        · refine ww_aload_n (pc := 63) hC 1 rfl dX7_readTide_63 rfl ?_
          refine ww_getr (pc := 64) (Cl := RX7) (T := TX7) (N := 36) (j := 7) (ref := RX7) hC (h0 0 _ rfl) rfl inT_X7 (by decide) mw_883 rfl rfl dX7_readTide_64 ?_
          refine ww_aload_n (pc := 67) hC 1 rfl dX7_readTide_67 rfl ?_
          refine ww_geti (pc := 68) (Cl := RX7) (T := TX7) (N := 36) (j := 10) (ref := RX7) hC (h0 0 _ rfl) rfl inT_X7 (by decide) mw_886 rfl rfl dX7_readTide_68 ?_
          refine ww_iload_n (pc := 71) hC 0 rfl dX7_readTide_71 rfl ?_
          refine ww_iast (pc := 72) hC (h0 5 _ rfl) dX7_readTide_72 ?_
          refine ww_aload_n (pc := 73) hC 1 rfl dX7_readTide_73 rfl ?_
          refine ww_dup (pc := 74) hC dX7_readTide_74 rfl ?_
          refine ww_geti (pc := 75) (Cl := RX7) (T := TX7) (N := 36) (j := 10) (ref := RX7) hC (h0 0 _ rfl) rfl inT_X7 (by decide) mw_886 rfl rfl dX7_readTide_75 ?_
          refine ww_iconst (pc := 78) (v := 1) hC dX7_readTide_78 rfl ?_
          refine ww_iadd (pc := 79) hC dX7_readTide_79 ?_
          refine ww_puti (pc := 80) (Cl := RX7) (T := TX7) (N := 36) (j := 10) (ref := RX7) hC (h0 0 _ rfl) rfl inT_X7 (by decide) mw_886 rfl tyX7 tyX7_ok nmX7 rfl rfl (tyX7_ok 10 (by decide)) dX7_readTide_80 ?_
          refine ww_goto (pc := 83) (tgt := 2) hC dX7_readTide_83 (by decide) ?_
          refine ww_lv [1, 2] rfl ?_
          exact hc2 (x1, ww_up (ww_up v50.2 (o0 + 5) (ww_ix (v50.2 o0 10)) v50.1) o0 10 (((ww_up v50.2 (o0 + 5) (ww_ix (v50.2 o0 10)) v50.1) o0 10) + 1))
      have hJ21 : ∀ (σ : ww_M), ww_V X Y ad G 3 σ 21 [(0, .ref (ad o0))] [] ((f_X7_readTide_j21 σ o0).bind KK2) := by
        intro σ
        unfold f_X7_readTide_j21
        refine ww_iconst (pc := 21) (v := 0) hC dX7_readTide_21 rfl ?_
        refine ww_istore_n (pc := 22) (lv' := [(1, .int 0), (0, .ref (ad o0))]) hC dX7_readTide_22 rfl (by decide) rfl ?_
        refine ww_aload_n (pc := 23) hC 1 rfl dX7_readTide_23 rfl ?_
        refine ww_geti (pc := 24) (Cl := RX7) (T := TX7) (N := 36) (j := 20) (ref := RX7) hC (h0 0 _ rfl) rfl inT_X7 (by decide) mw_896 rfl rfl dX7_readTide_24 ?_
        refine ww_iconst (pc := 27) (v := 2) hC dX7_readTide_27 rfl ?_
        refine ww_icmp_ne (pc := 28) (tgt := 46) hC dX7_readTide_28 (by decide) ?_ ?_
        · refine ww_lv [1, 0] rfl ?_
          exact hJ46 σ 0
        · refine ww_aload_n (pc := 31) hC 1 rfl dX7_readTide_31 rfl ?_
          refine ww_geti (pc := 32) (Cl := RX7) (T := TX7) (N := 36) (j := 10) (ref := RX7) hC (h0 0 _ rfl) rfl inT_X7 (by decide) mw_886 rfl rfl dX7_readTide_32 ?_
          refine ww_bipush (pc := 35) (v := 6) hC dX7_readTide_35 rfl ?_
          refine ww_icmp_ne (pc := 37) (tgt := 46) hC dX7_readTide_37 (by decide) ?_ ?_
          · refine ww_lv [1, 0] rfl ?_
            exact hJ46 σ 0
          · refine ww_aload_n (pc := 40) hC 1 rfl dX7_readTide_40 rfl ?_
            refine ww_iconst (pc := 41) (v := 5) hC dX7_readTide_41 rfl ?_
            refine ww_callVv (pc := 42) (st := []) (As := [.int 5]) hC (c_X7_fails o0 h0 σ 5) mm_X7_fails mw_1014 (h0 0 _ rfl) rfl (by omega) (by decide) (Nat.le_of_ble_eq_true rfl) rfl dX7_readTide_42 (fun v42 => ?_)
            exact ww_return (pc := 45) hC hR dX7_readTide_45 ((hr2 _).trans rfl)
      refine ww_aload_n (pc := 2) hC 0 rfl dX7_readTide_2 rfl ?_
      refine ww_geti (pc := 3) (Cl := RX7) (T := TX7) (N := 36) (j := 16) (ref := RX7) hC (h0 0 _ rfl) rfl inT_X7 (by decide) mw_892 rfl rfl dX7_readTide_3 ?_
      refine ww_if_ne (pc := 6) (tgt := 86) hC dX7_readTide_6 (by decide) ?_ ?_
      · refine ww_lv [] rfl ?_
        exact hx2 a2.2
      · refine ww_iload_n (pc := 9) hC 1 rfl dX7_readTide_9 rfl ?_
        refine ww_if_ne (pc := 10) (tgt := 21) hC dX7_readTide_10 (by decide) ?_ ?_
        · refine ww_lv [0] rfl ?_
          exact hJ21 a2.2
        · refine ww_aload_n (pc := 13) hC 0 rfl dX7_readTide_13 rfl ?_
          refine ww_geti (pc := 14) (Cl := RX7) (T := TX7) (N := 36) (j := 20) (ref := RX7) hC (h0 0 _ rfl) rfl inT_X7 (by decide) mw_896 rfl rfl dX7_readTide_14 ?_
          refine ww_iconst (pc := 17) (v := 2) hC dX7_readTide_17 rfl ?_
          refine ww_icmp_ne (pc := 18) (tgt := 86) hC dX7_readTide_18 (by decide) ?_ ?_
          · refine ww_lv [] rfl ?_
            exact hx2 a2.2
          · refine ww_lv [0] rfl ?_
            exact hJ21 a2.2
  unfold f_X7_readTide
  refine ww_iconst (pc := 0) (v := 1) hC dX7_readTide_0 rfl ?_
  refine ww_istore_n (pc := 1) (lv' := [(1, .int 1), (0, .ref (ad o0))]) hC dX7_readTide_1 rfl (by decide) rfl ?_
  refine ww_lv [1, 0] rfl ?_
  exact hJ2 σ 1
theorem dX7_readWhale_0 : decode cX7_readWhale 0 = .ok (.aload_n 0, 1) := by decide +kernel
theorem dX7_readWhale_1 : decode cX7_readWhale 1 = .ok (.getfield 119, 3) := by decide +kernel
theorem dX7_readWhale_4 : decode cX7_readWhale 4 = .ok (.istore_n 1, 1) := by decide +kernel
theorem dX7_readWhale_5 : decode cX7_readWhale 5 = .ok (.aload_n 0, 1) := by decide +kernel
theorem dX7_readWhale_6 : decode cX7_readWhale 6 = .ok (.getfield 29, 3) := by decide +kernel
theorem dX7_readWhale_9 : decode cX7_readWhale 9 = .ok (.iconst 2, 1) := by decide +kernel
theorem dX7_readWhale_10 : decode cX7_readWhale 10 = .ok (.iload_n 1, 1) := by decide +kernel
theorem dX7_readWhale_11 : decode cX7_readWhale 11 = .ok (.imul, 1) := by decide +kernel
theorem dX7_readWhale_12 : decode cX7_readWhale 12 = .ok (.aload_n 0, 1) := by decide +kernel
theorem dX7_readWhale_13 : decode cX7_readWhale 13 = .ok (.iconst 0, 1) := by decide +kernel
theorem dX7_readWhale_14 : decode cX7_readWhale 14 = .ok (.iconst 5, 1) := by decide +kernel
theorem dX7_readWhale_15 : decode cX7_readWhale 15 = .ok (.invokevirtual 115, 3) := by decide +kernel
theorem dX7_readWhale_18 : decode cX7_readWhale 18 = .ok (.iastore, 1) := by decide +kernel
theorem dX7_readWhale_19 : decode cX7_readWhale 19 = .ok (.iconst 0, 1) := by decide +kernel
theorem dX7_readWhale_20 : decode cX7_readWhale 20 = .ok (.istore_n 2, 1) := by decide +kernel
theorem dX7_readWhale_21 : decode cX7_readWhale 21 = .ok (.aload_n 0, 1) := by decide +kernel
theorem dX7_readWhale_22 : decode cX7_readWhale 22 = .ok (.getfield 75, 3) := by decide +kernel
theorem dX7_readWhale_25 : decode cX7_readWhale 25 = .ok (.ifCond .ne 94, 3) := by decide +kernel
theorem dX7_readWhale_28 : decode cX7_readWhale 28 = .ok (.iload_n 2, 1) := by decide +kernel
theorem dX7_readWhale_29 : decode cX7_readWhale 29 = .ok (.ifCond .eq 11, 3) := by decide +kernel
theorem dX7_readWhale_32 : decode cX7_readWhale 32 = .ok (.aload_n 0, 1) := by decide +kernel
theorem dX7_readWhale_33 : decode cX7_readWhale 33 = .ok (.getfield 84, 3) := by decide +kernel
theorem dX7_readWhale_36 : decode cX7_readWhale 36 = .ok (.iconst 2, 1) := by decide +kernel
theorem dX7_readWhale_37 : decode cX7_readWhale 37 = .ok (.if_icmp .ne 82, 3) := by decide +kernel
theorem dX7_readWhale_40 : decode cX7_readWhale 40 = .ok (.aload_n 0, 1) := by decide +kernel
theorem dX7_readWhale_41 : decode cX7_readWhale 41 = .ok (.getfield 84, 3) := by decide +kernel
theorem dX7_readWhale_44 : decode cX7_readWhale 44 = .ok (.iconst 2, 1) := by decide +kernel
theorem dX7_readWhale_45 : decode cX7_readWhale 45 = .ok (.if_icmp .ne 14, 3) := by decide +kernel
theorem dX7_readWhale_48 : decode cX7_readWhale 48 = .ok (.iload_n 2, 1) := by decide +kernel
theorem dX7_readWhale_49 : decode cX7_readWhale 49 = .ok (.iconst 3, 1) := by decide +kernel
theorem dX7_readWhale_50 : decode cX7_readWhale 50 = .ok (.if_icmp .ne 9, 3) := by decide +kernel
theorem dX7_readWhale_53 : decode cX7_readWhale 53 = .ok (.aload_n 0, 1) := by decide +kernel
theorem dX7_readWhale_54 : decode cX7_readWhale 54 = .ok (.iconst 5, 1) := by decide +kernel
theorem dX7_readWhale_55 : decode cX7_readWhale 55 = .ok (.invokevirtual 105, 3) := by decide +kernel
theorem dX7_readWhale_58 : decode cX7_readWhale 58 = .ok (.return_, 1) := by decide +kernel
theorem dX7_readWhale_59 : decode cX7_readWhale 59 = .ok (.bipush 18, 2) := by decide +kernel
theorem dX7_readWhale_61 : decode cX7_readWhale 61 = .ok (.bipush 9, 2) := by decide +kernel
theorem dX7_readWhale_63 : decode cX7_readWhale 63 = .ok (.iload_n 1, 1) := by decide +kernel
theorem dX7_readWhale_64 : decode cX7_readWhale 64 = .ok (.imul, 1) := by decide +kernel
theorem dX7_readWhale_65 : decode cX7_readWhale 65 = .ok (.iadd, 1) := by decide +kernel
theorem dX7_readWhale_66 : decode cX7_readWhale 66 = .ok (.iconst 3, 1) := by decide +kernel
theorem dX7_readWhale_67 : decode cX7_readWhale 67 = .ok (.iload_n 2, 1) := by decide +kernel
theorem dX7_readWhale_68 : decode cX7_readWhale 68 = .ok (.imul, 1) := by decide +kernel
theorem dX7_readWhale_69 : decode cX7_readWhale 69 = .ok (.iadd, 1) := by decide +kernel
theorem dX7_readWhale_70 : decode cX7_readWhale 70 = .ok (.istore_n 3, 1) := by decide +kernel
theorem dX7_readWhale_71 : decode cX7_readWhale 71 = .ok (.aload_n 0, 1) := by decide +kernel
theorem dX7_readWhale_72 : decode cX7_readWhale 72 = .ok (.getfield 23, 3) := by decide +kernel
theorem dX7_readWhale_75 : decode cX7_readWhale 75 = .ok (.iload_n 3, 1) := by decide +kernel
theorem dX7_readWhale_76 : decode cX7_readWhale 76 = .ok (.aload_n 0, 1) := by decide +kernel
theorem dX7_readWhale_77 : decode cX7_readWhale 77 = .ok (.iconst 0, 1) := by decide +kernel
theorem dX7_readWhale_78 : decode cX7_readWhale 78 = .ok (.bipush 9, 2) := by decide +kernel
theorem dX7_readWhale_80 : decode cX7_readWhale 80 = .ok (.invokevirtual 115, 3) := by decide +kernel
theorem dX7_readWhale_83 : decode cX7_readWhale 83 = .ok (.iastore, 1) := by decide +kernel
theorem dX7_readWhale_84 : decode cX7_readWhale 84 = .ok (.aload_n 0, 1) := by decide +kernel
theorem dX7_readWhale_85 : decode cX7_readWhale 85 = .ok (.getfield 23, 3) := by decide +kernel
theorem dX7_readWhale_88 : decode cX7_readWhale 88 = .ok (.iload_n 3, 1) := by decide +kernel
theorem dX7_readWhale_89 : decode cX7_readWhale 89 = .ok (.iconst 1, 1) := by decide +kernel
theorem dX7_readWhale_90 : decode cX7_readWhale 90 = .ok (.iadd, 1) := by decide +kernel
theorem dX7_readWhale_91 : decode cX7_readWhale 91 = .ok (.aload_n 0, 1) := by decide +kernel
theorem dX7_readWhale_92 : decode cX7_readWhale 92 = .ok (.iconst 1, 1) := by decide +kernel
theorem dX7_readWhale_93 : decode cX7_readWhale 93 = .ok (.iconst 3, 1) := by decide +kernel
theorem dX7_readWhale_94 : decode cX7_readWhale 94 = .ok (.invokevirtual 115, 3) := by decide +kernel
theorem dX7_readWhale_97 : decode cX7_readWhale 97 = .ok (.iastore, 1) := by decide +kernel
theorem dX7_readWhale_98 : decode cX7_readWhale 98 = .ok (.aload_n 0, 1) := by decide +kernel
theorem dX7_readWhale_99 : decode cX7_readWhale 99 = .ok (.getfield 23, 3) := by decide +kernel
theorem dX7_readWhale_102 : decode cX7_readWhale 102 = .ok (.iload_n 3, 1) := by decide +kernel
theorem dX7_readWhale_103 : decode cX7_readWhale 103 = .ok (.iconst 2, 1) := by decide +kernel
theorem dX7_readWhale_104 : decode cX7_readWhale 104 = .ok (.iadd, 1) := by decide +kernel
theorem dX7_readWhale_105 : decode cX7_readWhale 105 = .ok (.aload_n 0, 1) := by decide +kernel
theorem dX7_readWhale_106 : decode cX7_readWhale 106 = .ok (.iconst 0, 1) := by decide +kernel
theorem dX7_readWhale_107 : decode cX7_readWhale 107 = .ok (.bipush 8, 2) := by decide +kernel
theorem dX7_readWhale_109 : decode cX7_readWhale 109 = .ok (.invokevirtual 115, 3) := by decide +kernel
theorem dX7_readWhale_112 : decode cX7_readWhale 112 = .ok (.iastore, 1) := by decide +kernel
theorem dX7_readWhale_113 : decode cX7_readWhale 113 = .ok (.iinc 2 1, 3) := by decide +kernel
theorem dX7_readWhale_116 : decode cX7_readWhale 116 = .ok (.goto (-95), 3) := by decide +kernel
theorem dX7_readWhale_119 : decode cX7_readWhale 119 = .ok (.aload_n 0, 1) := by decide +kernel
theorem dX7_readWhale_120 : decode cX7_readWhale 120 = .ok (.getfield 29, 3) := by decide +kernel
theorem dX7_readWhale_123 : decode cX7_readWhale 123 = .ok (.iconst 2, 1) := by decide +kernel
theorem dX7_readWhale_124 : decode cX7_readWhale 124 = .ok (.iload_n 1, 1) := by decide +kernel
theorem dX7_readWhale_125 : decode cX7_readWhale 125 = .ok (.imul, 1) := by decide +kernel
theorem dX7_readWhale_126 : decode cX7_readWhale 126 = .ok (.iconst 1, 1) := by decide +kernel
theorem dX7_readWhale_127 : decode cX7_readWhale 127 = .ok (.iadd, 1) := by decide +kernel
theorem dX7_readWhale_128 : decode cX7_readWhale 128 = .ok (.iload_n 2, 1) := by decide +kernel
theorem dX7_readWhale_129 : decode cX7_readWhale 129 = .ok (.iastore, 1) := by decide +kernel
theorem dX7_readWhale_130 : decode cX7_readWhale 130 = .ok (.aload_n 0, 1) := by decide +kernel
theorem dX7_readWhale_131 : decode cX7_readWhale 131 = .ok (.dup, 1) := by decide +kernel
theorem dX7_readWhale_132 : decode cX7_readWhale 132 = .ok (.getfield 119, 3) := by decide +kernel
theorem dX7_readWhale_135 : decode cX7_readWhale 135 = .ok (.iconst 1, 1) := by decide +kernel
theorem dX7_readWhale_136 : decode cX7_readWhale 136 = .ok (.iadd, 1) := by decide +kernel
theorem dX7_readWhale_137 : decode cX7_readWhale 137 = .ok (.putfield 119, 3) := by decide +kernel
theorem dX7_readWhale_140 : decode cX7_readWhale 140 = .ok (.return_, 1) := by decide +kernel
set_option maxHeartbeats 4000000 in
set_option maxRecDepth 100000 in
theorem c_X7_readWhale {l : Launch} {Y : ww_Y} {ad : Nat → Nat} {G : List ww_L} (o0 : Nat) (h0 : ww_at G o0 (ww_LModel o0)) (σ : ww_M) : ww_Cn l Y ad G yX7_readWhale cX7_readWhale 4 none 4 [.ref (ad o0)] σ ((f_X7_readWhale σ o0).bind ww_rv) := by
  refine ww_met (by decide +kernel) (Nat.le_of_ble_eq_true rfl) ?_
  intro X hC hR
  have hC : ww_C X l Y ad G 4 cX7_readWhale 4 RX7 := hC
  show ww_V X Y ad G 4 σ 0 [(0, .ref (ad o0))] [] ((f_X7_readWhale σ o0).bind ww_rv)
  have hJ119 : ∀ (σ : ww_M) (x1 : Int32) (x2 : Int32), ww_V X Y ad G 4 σ 119 [(0, .ref (ad o0)), (1, .int x1), (2, .int x2)] [] ((f_X7_readWhale_j119 σ o0 x1 x2).bind ww_rv) := by
    intro σ x1 x2
    unfold f_X7_readWhale_j119
    refine ww_aload_n (pc := 119) hC 0 rfl dX7_readWhale_119 rfl ?_
    refine ww_getr (pc := 120) (Cl := RX7) (T := TX7) (N := 36) (j := 8) (ref := RX7) hC (h0 0 _ rfl) rfl inT_X7 (by decide) mw_884 rfl rfl dX7_readWhale_120 ?_
    refine ww_iconst (pc := 123) (v := 2) hC dX7_readWhale_123 rfl ?_
    refine ww_iload_n (pc := 124) hC 1 rfl dX7_readWhale_124 rfl ?_
    refine ww_imul (pc := 125) hC dX7_readWhale_125 ?_
    refine ww_iconst (pc := 126) (v := 1) hC dX7_readWhale_126 rfl ?_
    refine ww_iadd (pc := 127) hC dX7_readWhale_127 ?_
    refine ww_iload_n (pc := 128) hC 2 rfl dX7_readWhale_128 rfl ?_
    refine ww_iast (pc := 129) hC (h0 6 _ rfl) dX7_readWhale_129 ?_
    refine ww_aload_n (pc := 130) hC 0 rfl dX7_readWhale_130 rfl ?_
    refine ww_dup (pc := 131) hC dX7_readWhale_131 rfl ?_
    refine ww_geti (pc := 132) (Cl := RX7) (T := TX7) (N := 36) (j := 11) (ref := RX7) hC (h0 0 _ rfl) rfl inT_X7 (by decide) mw_887 rfl rfl dX7_readWhale_132 ?_
    refine ww_iconst (pc := 135) (v := 1) hC dX7_readWhale_135 rfl ?_
    refine ww_iadd (pc := 136) hC dX7_readWhale_136 ?_
    refine ww_puti (pc := 137) (Cl := RX7) (T := TX7) (N := 36) (j := 11) (ref := RX7) hC (h0 0 _ rfl) rfl inT_X7 (by decide) mw_887 rfl tyX7 tyX7_ok nmX7 rfl rfl (tyX7_ok 11 (by decide)) dX7_readWhale_137 ?_
    exact ww_return (pc := 140) hC hR dX7_readWhale_140 rfl
  have hJ21 : ∀ (σ : ww_M) (x1 : Int32) (x2 : Int32), ww_V X Y ad G 4 σ 21 [(0, .ref (ad o0)), (1, .int x1), (2, .int x2)] [] ((f_X7_readWhale_j21 σ o0 x1 x2).bind ww_rv) := by
    intro σ x1 x2
    unfold f_X7_readWhale_j21
    refine ww_assoc ?_
    refine ww_loopR (f := f_X7_readWhale_b21 o0 x1) (fun a21 => a21.2) (fun a21 => [(0, .ref (ad o0)), (1, .int x1), (2, .int a21.1)]) (fun b21 => b21.2) (fun b21 => [(0, .ref (ad o0)), (1, .int x1), (2, .int b21.1)]) 119 (fun b21 => ?_) (fun a21 KK21 hc21 hx21 hr21 => ?_) ww_F (x2, σ)
    · exact hJ119 b21.2 x1 b21.1
    · unfold f_X7_readWhale_b21
      have hJ59 : ∀ (σ : ww_M) (x2 : Int32), ww_V X Y ad G 4 σ 59 [(0, .ref (ad o0)), (1, .int x1), (2, .int x2)] [] ((f_X7_readWhale_j59 σ o0 x1 x2).bind KK21) := by
        intro σ x2
        unfold f_X7_readWhale_j59
        refine ww_bipush (pc := 59) (v := 18) hC dX7_readWhale_59 rfl ?_
        refine ww_bipush (pc := 61) (v := 9) hC dX7_readWhale_61 rfl ?_
        refine ww_iload_n (pc := 63) hC 1 rfl dX7_readWhale_63 rfl ?_
        refine ww_imul (pc := 64) hC dX7_readWhale_64 ?_
        refine ww_iadd (pc := 65) hC dX7_readWhale_65 ?_
        refine ww_iconst (pc := 66) (v := 3) hC dX7_readWhale_66 rfl ?_
        refine ww_iload_n (pc := 67) hC 2 rfl dX7_readWhale_67 rfl ?_
        refine ww_imul (pc := 68) hC dX7_readWhale_68 ?_
        refine ww_iadd (pc := 69) hC dX7_readWhale_69 ?_
        refine ww_istore_n (pc := 70) (lv' := [(3, .int ((18 + (9 * x1)) + (3 * x2))), (0, .ref (ad o0)), (1, .int x1), (2, .int x2)]) hC dX7_readWhale_70 rfl (by decide) rfl ?_
        refine ww_aload_n (pc := 71) hC 1 rfl dX7_readWhale_71 rfl ?_
        refine ww_getr (pc := 72) (Cl := RX7) (T := TX7) (N := 36) (j := 6) (ref := RX7) hC (h0 0 _ rfl) rfl inT_X7 (by decide) mw_882 rfl rfl dX7_readWhale_72 ?_
        refine ww_iload_n (pc := 75) hC 0 rfl dX7_readWhale_75 rfl ?_
        refine ww_aload_n (pc := 76) hC 1 rfl dX7_readWhale_76 rfl ?_
        refine ww_iconst (pc := 77) (v := 0) hC dX7_readWhale_77 rfl ?_
        refine ww_bipush (pc := 78) (v := 9) hC dX7_readWhale_78 rfl ?_
        refine ww_callVw (pc := 80) (st := [.int ((18 + (9 * x1)) + (3 * x2)), .ref (ad (o0 + 4))]) (As := [.int 0, .int 9]) hC (c_X7_number o0 h0 σ 0 9) mm_X7_number mw_1029 (h0 0 _ rfl) rfl (by omega) (by decide) (Nat.le_of_ble_eq_true rfl) rfl dX7_readWhale_80 (fun v80 => ?_)
        refine ww_iast (pc := 83) hC (h0 4 _ rfl) dX7_readWhale_83 ?_
        refine ww_aload_n (pc := 84) hC 1 rfl dX7_readWhale_84 rfl ?_
        refine ww_getr (pc := 85) (Cl := RX7) (T := TX7) (N := 36) (j := 6) (ref := RX7) hC (h0 0 _ rfl) rfl inT_X7 (by decide) mw_882 rfl rfl dX7_readWhale_85 ?_
        refine ww_iload_n (pc := 88) hC 0 rfl dX7_readWhale_88 rfl ?_
        refine ww_iconst (pc := 89) (v := 1) hC dX7_readWhale_89 rfl ?_
        refine ww_iadd (pc := 90) hC dX7_readWhale_90 ?_
        refine ww_aload_n (pc := 91) hC 1 rfl dX7_readWhale_91 rfl ?_
        refine ww_iconst (pc := 92) (v := 1) hC dX7_readWhale_92 rfl ?_
        refine ww_iconst (pc := 93) (v := 3) hC dX7_readWhale_93 rfl ?_
        refine ww_callVw (pc := 94) (st := [.int (((18 + (9 * x1)) + (3 * x2)) + 1), .ref (ad (o0 + 4))]) (As := [.int 1, .int 3]) hC (c_X7_number o0 h0 (ww_up v80.2 (o0 + 4) (ww_ix ((18 + (9 * x1)) + (3 * x2))) v80.1) 1 3) mm_X7_number mw_1029 (h0 0 _ rfl) rfl (by omega) (by decide) (Nat.le_of_ble_eq_true rfl) rfl dX7_readWhale_94 (fun v94 => ?_)
        refine ww_iast (pc := 97) hC (h0 4 _ rfl) dX7_readWhale_97 ?_
        refine ww_aload_n (pc := 98) hC 1 rfl dX7_readWhale_98 rfl ?_
        refine ww_getr (pc := 99) (Cl := RX7) (T := TX7) (N := 36) (j := 6) (ref := RX7) hC (h0 0 _ rfl) rfl inT_X7 (by decide) mw_882 rfl rfl dX7_readWhale_99 ?_
        refine ww_iload_n (pc := 102) hC 0 rfl dX7_readWhale_102 rfl ?_
        refine ww_iconst (pc := 103) (v := 2) hC dX7_readWhale_103 rfl ?_
        refine ww_iadd (pc := 104) hC dX7_readWhale_104 ?_
        refine ww_aload_n (pc := 105) hC 1 rfl dX7_readWhale_105 rfl ?_
        refine ww_iconst (pc := 106) (v := 0) hC dX7_readWhale_106 rfl ?_
        refine ww_bipush (pc := 107) (v := 8) hC dX7_readWhale_107 rfl ?_
        refine ww_callVw (pc := 109) (st := [.int (((18 + (9 * x1)) + (3 * x2)) + 2), .ref (ad (o0 + 4))]) (As := [.int 0, .int 8]) hC (c_X7_number o0 h0 (ww_up v94.2 (o0 + 4) (ww_ix (((18 + (9 * x1)) + (3 * x2)) + 1)) v94.1) 0 8) mm_X7_number mw_1029 (h0 0 _ rfl) rfl (by omega) (by decide) (Nat.le_of_ble_eq_true rfl) rfl dX7_readWhale_109 (fun v109 => ?_)
        refine ww_iast (pc := 112) hC (h0 4 _ rfl) dX7_readWhale_112 ?_
        refine ww_iinc (pc := 113) (v := x2 + 1) (lv' := [(2, .int (x2 + 1)), (3, .int ((18 + (9 * x1)) + (3 * x2))), (0, .ref (ad o0)), (1, .int x1)]) hC 3 rfl dX7_readWhale_113 rfl (by decide) rfl ?_
        refine ww_goto (pc := 116) (tgt := 21) hC dX7_readWhale_116 (by decide) ?_
        refine ww_lv [2, 3, 0] rfl ?_
        exact hc21 (x2 + 1, ww_up v109.2 (o0 + 4) (ww_ix (((18 + (9 * x1)) + (3 * x2)) + 2)) v109.1)
      have hJ40 : ∀ (σ : ww_M) (x2 : Int32), ww_V X Y ad G 4 σ 40 [(0, .ref (ad o0)), (1, .int x1), (2, .int x2)] [] ((f_X7_readWhale_j40 σ o0 x1 x2).bind KK21) := by
        intro σ x2
        unfold f_X7_readWhale_j40
        refine ww_aload_n (pc := 40) hC 0 rfl dX7_readWhale_40 rfl ?_
        refine ww_geti (pc := 41) (Cl := RX7) (T := TX7) (N := 36) (j := 20) (ref := RX7) hC (h0 0 _ rfl) rfl inT_X7 (by decide) mw_896 rfl rfl dX7_readWhale_41 ?_
        refine ww_iconst (pc := 44) (v := 2) hC dX7_readWhale_44 rfl ?_
        refine ww_icmp_ne (pc := 45) (tgt := 59) hC dX7_readWhale_45 (by decide) ?_ ?_
        · exact hJ59 σ x2
        · refine ww_iload_n (pc := 48) hC 2 rfl dX7_readWhale_48 rfl ?_
          refine ww_iconst (pc := 49) (v := 3) hC dX7_readWhale_49 rfl ?_
          refine ww_icmp_ne (pc := 50) (tgt := 59) hC dX7_readWhale_50 (by decide) ?_ ?_
          · exact hJ59 σ x2
          · refine ww_aload_n (pc := 53) hC 0 rfl dX7_readWhale_53 rfl ?_
            refine ww_iconst (pc := 54) (v := 5) hC dX7_readWhale_54 rfl ?_
            refine ww_callVv (pc := 55) (st := []) (As := [.int 5]) hC (c_X7_fails o0 h0 σ 5) mm_X7_fails mw_1014 (h0 0 _ rfl) rfl (by omega) (by decide) (Nat.le_of_ble_eq_true rfl) rfl dX7_readWhale_55 (fun v55 => ?_)
            exact ww_return (pc := 58) hC hR dX7_readWhale_58 ((hr21 _).trans rfl)
      refine ww_aload_n (pc := 21) hC 0 rfl dX7_readWhale_21 rfl ?_
      refine ww_geti (pc := 22) (Cl := RX7) (T := TX7) (N := 36) (j := 16) (ref := RX7) hC (h0 0 _ rfl) rfl inT_X7 (by decide) mw_892 rfl rfl dX7_readWhale_22 ?_
      refine ww_if_ne (pc := 25) (tgt := 119) hC dX7_readWhale_25 (by decide) ?_ ?_
      · exact hx21 (a21.1, a21.2)
      · refine ww_iload_n (pc := 28) hC 2 rfl dX7_readWhale_28 rfl ?_
        refine ww_if_eq (pc := 29) (tgt := 40) hC dX7_readWhale_29 (by decide) ?_ ?_
        · exact hJ40 a21.2 a21.1
        · refine ww_aload_n (pc := 32) hC 0 rfl dX7_readWhale_32 rfl ?_
          refine ww_geti (pc := 33) (Cl := RX7) (T := TX7) (N := 36) (j := 20) (ref := RX7) hC (h0 0 _ rfl) rfl inT_X7 (by decide) mw_896 rfl rfl dX7_readWhale_33 ?_
          refine ww_iconst (pc := 36) (v := 2) hC dX7_readWhale_36 rfl ?_
          refine ww_icmp_ne (pc := 37) (tgt := 119) hC dX7_readWhale_37 (by decide) ?_ ?_
          · exact hx21 (a21.1, a21.2)
          · exact hJ40 a21.2 a21.1
  unfold f_X7_readWhale
  refine ww_aload_n (pc := 0) hC 0 rfl dX7_readWhale_0 rfl ?_
  refine ww_geti (pc := 1) (Cl := RX7) (T := TX7) (N := 36) (j := 11) (ref := RX7) hC (h0 0 _ rfl) rfl inT_X7 (by decide) mw_887 rfl rfl dX7_readWhale_1 ?_
  refine ww_istore_n (pc := 4) (lv' := [(1, .int (σ o0 11)), (0, .ref (ad o0))]) hC dX7_readWhale_4 rfl (by decide) rfl ?_
  refine ww_aload_n (pc := 5) hC 1 rfl dX7_readWhale_5 rfl ?_
  refine ww_getr (pc := 6) (Cl := RX7) (T := TX7) (N := 36) (j := 8) (ref := RX7) hC (h0 0 _ rfl) rfl inT_X7 (by decide) mw_884 rfl rfl dX7_readWhale_6 ?_
  refine ww_iconst (pc := 9) (v := 2) hC dX7_readWhale_9 rfl ?_
  refine ww_iload_n (pc := 10) hC 0 rfl dX7_readWhale_10 rfl ?_
  refine ww_imul (pc := 11) hC dX7_readWhale_11 ?_
  refine ww_aload_n (pc := 12) hC 1 rfl dX7_readWhale_12 rfl ?_
  refine ww_iconst (pc := 13) (v := 0) hC dX7_readWhale_13 rfl ?_
  refine ww_iconst (pc := 14) (v := 5) hC dX7_readWhale_14 rfl ?_
  refine ww_callVw (pc := 15) (st := [.int (2 * (σ o0 11)), .ref (ad (o0 + 6))]) (As := [.int 0, .int 5]) hC (c_X7_number o0 h0 σ 0 5) mm_X7_number mw_1029 (h0 0 _ rfl) rfl (by omega) (by decide) (Nat.le_of_ble_eq_true rfl) rfl dX7_readWhale_15 (fun v15 => ?_)
  refine ww_iast (pc := 18) hC (h0 6 _ rfl) dX7_readWhale_18 ?_
  refine ww_iconst (pc := 19) (v := 0) hC dX7_readWhale_19 rfl ?_
  refine ww_istore_n (pc := 20) (lv' := [(2, .int 0), (1, .int (σ o0 11)), (0, .ref (ad o0))]) hC dX7_readWhale_20 rfl (by decide) rfl ?_
  refine ww_lv [2, 1, 0] rfl ?_
  exact hJ21 (ww_up v15.2 (o0 + 6) (ww_ix (2 * (σ o0 11))) v15.1) (σ o0 11) 0
theorem dX7_readOnce_0 : decode cX7_readOnce 0 = .ok (.iload_n 1, 1) := by decide +kernel
theorem dX7_readOnce_1 : decode cX7_readOnce 1 = .ok (.iconst 2, 1) := by decide +kernel
theorem dX7_readOnce_2 : decode cX7_readOnce 2 = .ok (.if_icmp .ne 19, 3) := by decide +kernel
theorem dX7_readOnce_5 : decode cX7_readOnce 5 = .ok (.aload_n 0, 1) := by decide +kernel
theorem dX7_readOnce_6 : decode cX7_readOnce 6 = .ok (.getfield 23, 3) := by decide +kernel
theorem dX7_readOnce_9 : decode cX7_readOnce 9 = .ok (.bipush 12, 2) := by decide +kernel
theorem dX7_readOnce_11 : decode cX7_readOnce 11 = .ok (.aload_n 0, 1) := by decide +kernel
theorem dX7_readOnce_12 : decode cX7_readOnce 12 = .ok (.iconst 0, 1) := by decide +kernel
theorem dX7_readOnce_13 : decode cX7_readOnce 13 = .ok (.iconst 3, 1) := by decide +kernel
theorem dX7_readOnce_14 : decode cX7_readOnce 14 = .ok (.invokevirtual 115, 3) := by decide +kernel
theorem dX7_readOnce_17 : decode cX7_readOnce 17 = .ok (.iastore, 1) := by decide +kernel
theorem dX7_readOnce_18 : decode cX7_readOnce 18 = .ok (.goto 42, 3) := by decide +kernel
theorem dX7_readOnce_21 : decode cX7_readOnce 21 = .ok (.iload_n 1, 1) := by decide +kernel
theorem dX7_readOnce_22 : decode cX7_readOnce 22 = .ok (.iconst 3, 1) := by decide +kernel
theorem dX7_readOnce_23 : decode cX7_readOnce 23 = .ok (.if_icmp .ne 22, 3) := by decide +kernel
theorem dX7_readOnce_26 : decode cX7_readOnce 26 = .ok (.aload_n 0, 1) := by decide +kernel
theorem dX7_readOnce_27 : decode cX7_readOnce 27 = .ok (.getfield 23, 3) := by decide +kernel
theorem dX7_readOnce_30 : decode cX7_readOnce 30 = .ok (.bipush 13, 2) := by decide +kernel
theorem dX7_readOnce_32 : decode cX7_readOnce 32 = .ok (.aload_n 0, 1) := by decide +kernel
theorem dX7_readOnce_33 : decode cX7_readOnce 33 = .ok (.iconst 1, 1) := by decide +kernel
theorem dX7_readOnce_34 : decode cX7_readOnce 34 = .ok (.bipush 9, 2) := by decide +kernel
theorem dX7_readOnce_36 : decode cX7_readOnce 36 = .ok (.invokevirtual 115, 3) := by decide +kernel
theorem dX7_readOnce_39 : decode cX7_readOnce 39 = .ok (.iconst 4, 1) := by decide +kernel
theorem dX7_readOnce_40 : decode cX7_readOnce 40 = .ok (.isub, 1) := by decide +kernel
theorem dX7_readOnce_41 : decode cX7_readOnce 41 = .ok (.iastore, 1) := by decide +kernel
theorem dX7_readOnce_42 : decode cX7_readOnce 42 = .ok (.goto 18, 3) := by decide +kernel
theorem dX7_readOnce_45 : decode cX7_readOnce 45 = .ok (.aload_n 0, 1) := by decide +kernel
theorem dX7_readOnce_46 : decode cX7_readOnce 46 = .ok (.getfield 23, 3) := by decide +kernel
theorem dX7_readOnce_49 : decode cX7_readOnce 49 = .ok (.bipush 14, 2) := by decide +kernel
theorem dX7_readOnce_51 : decode cX7_readOnce 51 = .ok (.aload_n 0, 1) := by decide +kernel
theorem dX7_readOnce_52 : decode cX7_readOnce 52 = .ok (.iconst 1, 1) := by decide +kernel
theorem dX7_readOnce_53 : decode cX7_readOnce 53 = .ok (.iconst 2, 1) := by decide +kernel
theorem dX7_readOnce_54 : decode cX7_readOnce 54 = .ok (.invokevirtual 115, 3) := by decide +kernel
theorem dX7_readOnce_57 : decode cX7_readOnce 57 = .ok (.iconst 1, 1) := by decide +kernel
theorem dX7_readOnce_58 : decode cX7_readOnce 58 = .ok (.isub, 1) := by decide +kernel
theorem dX7_readOnce_59 : decode cX7_readOnce 59 = .ok (.iastore, 1) := by decide +kernel
theorem dX7_readOnce_60 : decode cX7_readOnce 60 = .ok (.return_, 1) := by decide +kernel
set_option maxHeartbeats 4000000 in
set_option maxRecDepth 100000 in
theorem c_X7_readOnce {l : Launch} {Y : ww_Y} {ad : Nat → Nat} {G : List ww_L} (o0 : Nat) (h0 : ww_at G o0 (ww_LModel o0)) (σ : ww_M) (p1 : Int32) : ww_Cn l Y ad G yX7_readOnce cX7_readOnce 2 none 4 [.ref (ad o0), .int p1] σ ((f_X7_readOnce σ o0 p1).bind ww_rv) := by
  refine ww_met (by decide +kernel) (Nat.le_of_ble_eq_true rfl) ?_
  intro X hC hR
  have hC : ww_C X l Y ad G 4 cX7_readOnce 2 RX7 := hC
  show ww_V X Y ad G 2 σ 0 [(0, .ref (ad o0)), (1, .int p1)] [] ((f_X7_readOnce σ o0 p1).bind ww_rv)
  unfold f_X7_readOnce
  refine ww_iload_n (pc := 0) hC 1 rfl dX7_readOnce_0 rfl ?_
  refine ww_iconst (pc := 1) (v := 2) hC dX7_readOnce_1 rfl ?_
  refine ww_icmp_ne (pc := 2) (tgt := 21) hC dX7_readOnce_2 (by decide) ?_ ?_
  · refine ww_iload_n (pc := 21) hC 1 rfl dX7_readOnce_21 rfl ?_
    refine ww_iconst (pc := 22) (v := 3) hC dX7_readOnce_22 rfl ?_
    refine ww_icmp_ne (pc := 23) (tgt := 45) hC dX7_readOnce_23 (by decide) ?_ ?_
    · refine ww_aload_n (pc := 45) hC 0 rfl dX7_readOnce_45 rfl ?_
      refine ww_getr (pc := 46) (Cl := RX7) (T := TX7) (N := 36) (j := 6) (ref := RX7) hC (h0 0 _ rfl) rfl inT_X7 (by decide) mw_882 rfl rfl dX7_readOnce_46 ?_
      refine ww_bipush (pc := 49) (v := 14) hC dX7_readOnce_49 rfl ?_
      refine ww_aload_n (pc := 51) hC 0 rfl dX7_readOnce_51 rfl ?_
      refine ww_iconst (pc := 52) (v := 1) hC dX7_readOnce_52 rfl ?_
      refine ww_iconst (pc := 53) (v := 2) hC dX7_readOnce_53 rfl ?_
      refine ww_callVw (pc := 54) (st := [.int 14, .ref (ad (o0 + 4))]) (As := [.int 1, .int 2]) hC (c_X7_number o0 h0 σ 1 2) mm_X7_number mw_1029 (h0 0 _ rfl) rfl (by omega) (by decide) (Nat.le_of_ble_eq_true rfl) rfl dX7_readOnce_54 (fun v54 => ?_)
      refine ww_iconst (pc := 57) (v := 1) hC dX7_readOnce_57 rfl ?_
      refine ww_isub (pc := 58) hC dX7_readOnce_58 ?_
      refine ww_iast_c (pc := 59) (j := 14) hC (h0 4 _ rfl) (by decide) rfl dX7_readOnce_59 ?_
      exact ww_return (pc := 60) hC hR dX7_readOnce_60 rfl
    · refine ww_aload_n (pc := 26) hC 0 rfl dX7_readOnce_26 rfl ?_
      refine ww_getr (pc := 27) (Cl := RX7) (T := TX7) (N := 36) (j := 6) (ref := RX7) hC (h0 0 _ rfl) rfl inT_X7 (by decide) mw_882 rfl rfl dX7_readOnce_27 ?_
      refine ww_bipush (pc := 30) (v := 13) hC dX7_readOnce_30 rfl ?_
      refine ww_aload_n (pc := 32) hC 0 rfl dX7_readOnce_32 rfl ?_
      refine ww_iconst (pc := 33) (v := 1) hC dX7_readOnce_33 rfl ?_
      refine ww_bipush (pc := 34) (v := 9) hC dX7_readOnce_34 rfl ?_
      refine ww_callVw (pc := 36) (st := [.int 13, .ref (ad (o0 + 4))]) (As := [.int 1, .int 9]) hC (c_X7_number o0 h0 σ 1 9) mm_X7_number mw_1029 (h0 0 _ rfl) rfl (by omega) (by decide) (Nat.le_of_ble_eq_true rfl) rfl dX7_readOnce_36 (fun v36 => ?_)
      refine ww_iconst (pc := 39) (v := 4) hC dX7_readOnce_39 rfl ?_
      refine ww_isub (pc := 40) hC dX7_readOnce_40 ?_
      refine ww_iast_c (pc := 41) (j := 13) hC (h0 4 _ rfl) (by decide) rfl dX7_readOnce_41 ?_
      refine ww_goto (pc := 42) (tgt := 60) hC dX7_readOnce_42 (by decide) ?_
      exact ww_return (pc := 60) hC hR dX7_readOnce_60 rfl
  · refine ww_aload_n (pc := 5) hC 0 rfl dX7_readOnce_5 rfl ?_
    refine ww_getr (pc := 6) (Cl := RX7) (T := TX7) (N := 36) (j := 6) (ref := RX7) hC (h0 0 _ rfl) rfl inT_X7 (by decide) mw_882 rfl rfl dX7_readOnce_6 ?_
    refine ww_bipush (pc := 9) (v := 12) hC dX7_readOnce_9 rfl ?_
    refine ww_aload_n (pc := 11) hC 0 rfl dX7_readOnce_11 rfl ?_
    refine ww_iconst (pc := 12) (v := 0) hC dX7_readOnce_12 rfl ?_
    refine ww_iconst (pc := 13) (v := 3) hC dX7_readOnce_13 rfl ?_
    refine ww_callVw (pc := 14) (st := [.int 12, .ref (ad (o0 + 4))]) (As := [.int 0, .int 3]) hC (c_X7_number o0 h0 σ 0 3) mm_X7_number mw_1029 (h0 0 _ rfl) rfl (by omega) (by decide) (Nat.le_of_ble_eq_true rfl) rfl dX7_readOnce_14 (fun v14 => ?_)
    refine ww_iast_c (pc := 17) (j := 12) hC (h0 4 _ rfl) (by decide) rfl dX7_readOnce_17 ?_
    refine ww_goto (pc := 18) (tgt := 60) hC dX7_readOnce_18 (by decide) ?_
    exact ww_return (pc := 60) hC hR dX7_readOnce_60 rfl
theorem dX7_readLine_0 : decode cX7_readLine 0 = .ok (.aload_n 0, 1) := by decide +kernel
theorem dX7_readLine_1 : decode cX7_readLine 1 = .ok (.invokevirtual 122, 3) := by decide +kernel
theorem dX7_readLine_4 : decode cX7_readLine 4 = .ok (.istore_n 1, 1) := by decide +kernel
theorem dX7_readLine_5 : decode cX7_readLine 5 = .ok (.iload_n 1, 1) := by decide +kernel
theorem dX7_readLine_6 : decode cX7_readLine 6 = .ok (.i2l, 1) := by decide +kernel
theorem dX7_readLine_7 : decode cX7_readLine 7 = .ok (.lconst 0, 1) := by decide +kernel
theorem dX7_readLine_8 : decode cX7_readLine 8 = .ok (.ldc2_w 126, 3) := by decide +kernel
theorem dX7_readLine_11 : decode cX7_readLine 11 = .ok (.invokestatic 68, 3) := by decide +kernel
theorem dX7_readLine_14 : decode cX7_readLine 14 = .ok (.ifCond .ne 9, 3) := by decide +kernel
theorem dX7_readLine_17 : decode cX7_readLine 17 = .ok (.aload_n 0, 1) := by decide +kernel
theorem dX7_readLine_18 : decode cX7_readLine 18 = .ok (.iconst 2, 1) := by decide +kernel
theorem dX7_readLine_19 : decode cX7_readLine 19 = .ok (.invokevirtual 105, 3) := by decide +kernel
theorem dX7_readLine_22 : decode cX7_readLine 22 = .ok (.return_, 1) := by decide +kernel
theorem dX7_readLine_23 : decode cX7_readLine 23 = .ok (.iload_n 1, 1) := by decide +kernel
theorem dX7_readLine_24 : decode cX7_readLine 24 = .ok (.i2l, 1) := by decide +kernel
theorem dX7_readLine_25 : decode cX7_readLine 25 = .ok (.ldc2_w 128, 3) := by decide +kernel
theorem dX7_readLine_28 : decode cX7_readLine 28 = .ok (.ldc2_w 130, 3) := by decide +kernel
theorem dX7_readLine_31 : decode cX7_readLine 31 = .ok (.invokestatic 68, 3) := by decide +kernel
theorem dX7_readLine_34 : decode cX7_readLine 34 = .ok (.istore_n 2, 1) := by decide +kernel
theorem dX7_readLine_35 : decode cX7_readLine 35 = .ok (.iload_n 1, 1) := by decide +kernel
theorem dX7_readLine_36 : decode cX7_readLine 36 = .ok (.ifCond .ne 12, 3) := by decide +kernel
theorem dX7_readLine_39 : decode cX7_readLine 39 = .ok (.aload_n 0, 1) := by decide +kernel
theorem dX7_readLine_40 : decode cX7_readLine 40 = .ok (.getfield 132, 3) := by decide +kernel
theorem dX7_readLine_43 : decode cX7_readLine 43 = .ok (.bipush 6, 2) := by decide +kernel
theorem dX7_readLine_45 : decode cX7_readLine 45 = .ok (.if_icmp .eq 16, 3) := by decide +kernel
theorem dX7_readLine_48 : decode cX7_readLine 48 = .ok (.iload_n 1, 1) := by decide +kernel
theorem dX7_readLine_49 : decode cX7_readLine 49 = .ok (.iconst 5, 1) := by decide +kernel
theorem dX7_readLine_50 : decode cX7_readLine 50 = .ok (.if_icmp .ne 16, 3) := by decide +kernel
theorem dX7_readLine_53 : decode cX7_readLine 53 = .ok (.aload_n 0, 1) := by decide +kernel
theorem dX7_readLine_54 : decode cX7_readLine 54 = .ok (.getfield 119, 3) := by decide +kernel
theorem dX7_readLine_57 : decode cX7_readLine 57 = .ok (.iconst 3, 1) := by decide +kernel
theorem dX7_readLine_58 : decode cX7_readLine 58 = .ok (.if_icmp .ne 8, 3) := by decide +kernel
theorem dX7_readLine_61 : decode cX7_readLine 61 = .ok (.aload_n 0, 1) := by decide +kernel
theorem dX7_readLine_62 : decode cX7_readLine 62 = .ok (.iconst 5, 1) := by decide +kernel
theorem dX7_readLine_63 : decode cX7_readLine 63 = .ok (.invokevirtual 105, 3) := by decide +kernel
theorem dX7_readLine_66 : decode cX7_readLine 66 = .ok (.iload_n 2, 1) := by decide +kernel
theorem dX7_readLine_67 : decode cX7_readLine 67 = .ok (.ifCond .eq 20, 3) := by decide +kernel
theorem dX7_readLine_70 : decode cX7_readLine 70 = .ok (.aload_n 0, 1) := by decide +kernel
theorem dX7_readLine_71 : decode cX7_readLine 71 = .ok (.getfield 135, 3) := by decide +kernel
theorem dX7_readLine_74 : decode cX7_readLine 74 = .ok (.iload_n 1, 1) := by decide +kernel
theorem dX7_readLine_75 : decode cX7_readLine 75 = .ok (.ishr, 1) := by decide +kernel
theorem dX7_readLine_76 : decode cX7_readLine 76 = .ok (.iconst 1, 1) := by decide +kernel
theorem dX7_readLine_77 : decode cX7_readLine 77 = .ok (.iand, 1) := by decide +kernel
theorem dX7_readLine_78 : decode cX7_readLine 78 = .ok (.iconst 1, 1) := by decide +kernel
theorem dX7_readLine_79 : decode cX7_readLine 79 = .ok (.if_icmp .ne 8, 3) := by decide +kernel
theorem dX7_readLine_82 : decode cX7_readLine 82 = .ok (.aload_n 0, 1) := by decide +kernel
theorem dX7_readLine_83 : decode cX7_readLine 83 = .ok (.iconst 4, 1) := by decide +kernel
theorem dX7_readLine_84 : decode cX7_readLine 84 = .ok (.invokevirtual 105, 3) := by decide +kernel
theorem dX7_readLine_87 : decode cX7_readLine 87 = .ok (.aload_n 0, 1) := by decide +kernel
theorem dX7_readLine_88 : decode cX7_readLine 88 = .ok (.dup, 1) := by decide +kernel
theorem dX7_readLine_89 : decode cX7_readLine 89 = .ok (.getfield 135, 3) := by decide +kernel
theorem dX7_readLine_92 : decode cX7_readLine 92 = .ok (.iconst 1, 1) := by decide +kernel
theorem dX7_readLine_93 : decode cX7_readLine 93 = .ok (.iload_n 1, 1) := by decide +kernel
theorem dX7_readLine_94 : decode cX7_readLine 94 = .ok (.ishl, 1) := by decide +kernel
theorem dX7_readLine_95 : decode cX7_readLine 95 = .ok (.ior, 1) := by decide +kernel
theorem dX7_readLine_96 : decode cX7_readLine 96 = .ok (.putfield 135, 3) := by decide +kernel
theorem dX7_readLine_99 : decode cX7_readLine 99 = .ok (.aload_n 0, 1) := by decide +kernel
theorem dX7_readLine_100 : decode cX7_readLine 100 = .ok (.invokevirtual 109, 3) := by decide +kernel
theorem dX7_readLine_103 : decode cX7_readLine 103 = .ok (.aload_n 0, 1) := by decide +kernel
theorem dX7_readLine_104 : decode cX7_readLine 104 = .ok (.getfield 75, 3) := by decide +kernel
theorem dX7_readLine_107 : decode cX7_readLine 107 = .ok (.ifCond .le 4, 3) := by decide +kernel
theorem dX7_readLine_110 : decode cX7_readLine 110 = .ok (.return_, 1) := by decide +kernel
theorem dX7_readLine_111 : decode cX7_readLine 111 = .ok (.iload_n 1, 1) := by decide +kernel
theorem dX7_readLine_112 : decode cX7_readLine 112 = .ok (.ifCond .ne 53, 3) := by decide +kernel
theorem dX7_readLine_115 : decode cX7_readLine 115 = .ok (.aload_n 0, 1) := by decide +kernel
theorem dX7_readLine_116 : decode cX7_readLine 116 = .ok (.getfield 23, 3) := by decide +kernel
theorem dX7_readLine_119 : decode cX7_readLine 119 = .ok (.iconst 2, 1) := by decide +kernel
theorem dX7_readLine_120 : decode cX7_readLine 120 = .ok (.aload_n 0, 1) := by decide +kernel
theorem dX7_readLine_121 : decode cX7_readLine 121 = .ok (.getfield 132, 3) := by decide +kernel
theorem dX7_readLine_124 : decode cX7_readLine 124 = .ok (.imul, 1) := by decide +kernel
theorem dX7_readLine_125 : decode cX7_readLine 125 = .ok (.aload_n 0, 1) := by decide +kernel
theorem dX7_readLine_126 : decode cX7_readLine 126 = .ok (.iconst 0, 1) := by decide +kernel
theorem dX7_readLine_127 : decode cX7_readLine 127 = .ok (.iconst 3, 1) := by decide +kernel
theorem dX7_readLine_128 : decode cX7_readLine 128 = .ok (.invokevirtual 115, 3) := by decide +kernel
theorem dX7_readLine_131 : decode cX7_readLine 131 = .ok (.iastore, 1) := by decide +kernel
theorem dX7_readLine_132 : decode cX7_readLine 132 = .ok (.aload_n 0, 1) := by decide +kernel
theorem dX7_readLine_133 : decode cX7_readLine 133 = .ok (.getfield 23, 3) := by decide +kernel
theorem dX7_readLine_136 : decode cX7_readLine 136 = .ok (.iconst 2, 1) := by decide +kernel
theorem dX7_readLine_137 : decode cX7_readLine 137 = .ok (.aload_n 0, 1) := by decide +kernel
theorem dX7_readLine_138 : decode cX7_readLine 138 = .ok (.getfield 132, 3) := by decide +kernel
theorem dX7_readLine_141 : decode cX7_readLine 141 = .ok (.imul, 1) := by decide +kernel
theorem dX7_readLine_142 : decode cX7_readLine 142 = .ok (.iconst 1, 1) := by decide +kernel
theorem dX7_readLine_143 : decode cX7_readLine 143 = .ok (.iadd, 1) := by decide +kernel
theorem dX7_readLine_144 : decode cX7_readLine 144 = .ok (.aload_n 0, 1) := by decide +kernel
theorem dX7_readLine_145 : decode cX7_readLine 145 = .ok (.iconst 0, 1) := by decide +kernel
theorem dX7_readLine_146 : decode cX7_readLine 146 = .ok (.bipush 9, 2) := by decide +kernel
theorem dX7_readLine_148 : decode cX7_readLine 148 = .ok (.invokevirtual 115, 3) := by decide +kernel
theorem dX7_readLine_151 : decode cX7_readLine 151 = .ok (.iastore, 1) := by decide +kernel
theorem dX7_readLine_152 : decode cX7_readLine 152 = .ok (.aload_n 0, 1) := by decide +kernel
theorem dX7_readLine_153 : decode cX7_readLine 153 = .ok (.dup, 1) := by decide +kernel
theorem dX7_readLine_154 : decode cX7_readLine 154 = .ok (.getfield 132, 3) := by decide +kernel
theorem dX7_readLine_157 : decode cX7_readLine 157 = .ok (.iconst 1, 1) := by decide +kernel
theorem dX7_readLine_158 : decode cX7_readLine 158 = .ok (.iadd, 1) := by decide +kernel
theorem dX7_readLine_159 : decode cX7_readLine 159 = .ok (.putfield 132, 3) := by decide +kernel
theorem dX7_readLine_162 : decode cX7_readLine 162 = .ok (.goto 32, 3) := by decide +kernel
theorem dX7_readLine_165 : decode cX7_readLine 165 = .ok (.iload_n 1, 1) := by decide +kernel
theorem dX7_readLine_166 : decode cX7_readLine 166 = .ok (.iconst 1, 1) := by decide +kernel
theorem dX7_readLine_167 : decode cX7_readLine 167 = .ok (.if_icmp .ne 10, 3) := by decide +kernel
theorem dX7_readLine_170 : decode cX7_readLine 170 = .ok (.aload_n 0, 1) := by decide +kernel
theorem dX7_readLine_171 : decode cX7_readLine 171 = .ok (.invokevirtual 138, 3) := by decide +kernel
theorem dX7_readLine_174 : decode cX7_readLine 174 = .ok (.goto 20, 3) := by decide +kernel
theorem dX7_readLine_177 : decode cX7_readLine 177 = .ok (.iload_n 1, 1) := by decide +kernel
theorem dX7_readLine_178 : decode cX7_readLine 178 = .ok (.iconst 5, 1) := by decide +kernel
theorem dX7_readLine_179 : decode cX7_readLine 179 = .ok (.if_icmp .ne 10, 3) := by decide +kernel
theorem dX7_readLine_182 : decode cX7_readLine 182 = .ok (.aload_n 0, 1) := by decide +kernel
theorem dX7_readLine_183 : decode cX7_readLine 183 = .ok (.invokevirtual 141, 3) := by decide +kernel
theorem dX7_readLine_186 : decode cX7_readLine 186 = .ok (.goto 8, 3) := by decide +kernel
theorem dX7_readLine_189 : decode cX7_readLine 189 = .ok (.aload_n 0, 1) := by decide +kernel
theorem dX7_readLine_190 : decode cX7_readLine 190 = .ok (.iload_n 1, 1) := by decide +kernel
theorem dX7_readLine_191 : decode cX7_readLine 191 = .ok (.invokevirtual 144, 3) := by decide +kernel
theorem dX7_readLine_194 : decode cX7_readLine 194 = .ok (.aload_n 0, 1) := by decide +kernel
theorem dX7_readLine_195 : decode cX7_readLine 195 = .ok (.getfield 75, 3) := by decide +kernel
theorem dX7_readLine_198 : decode cX7_readLine 198 = .ok (.ifCond .ne 16, 3) := by decide +kernel
theorem dX7_readLine_201 : decode cX7_readLine 201 = .ok (.aload_n 0, 1) := by decide +kernel
theorem dX7_readLine_202 : decode cX7_readLine 202 = .ok (.getfield 84, 3) := by decide +kernel
theorem dX7_readLine_205 : decode cX7_readLine 205 = .ok (.iconst 3, 1) := by decide +kernel
theorem dX7_readLine_206 : decode cX7_readLine 206 = .ok (.if_icmp .eq 8, 3) := by decide +kernel
theorem dX7_readLine_209 : decode cX7_readLine 209 = .ok (.aload_n 0, 1) := by decide +kernel
theorem dX7_readLine_210 : decode cX7_readLine 210 = .ok (.iconst 2, 1) := by decide +kernel
theorem dX7_readLine_211 : decode cX7_readLine 211 = .ok (.invokevirtual 105, 3) := by decide +kernel
theorem dX7_readLine_214 : decode cX7_readLine 214 = .ok (.aload_n 0, 1) := by decide +kernel
theorem dX7_readLine_215 : decode cX7_readLine 215 = .ok (.invokevirtual 109, 3) := by decide +kernel
theorem dX7_readLine_218 : decode cX7_readLine 218 = .ok (.return_, 1) := by decide +kernel
set_option maxHeartbeats 4000000 in
set_option maxRecDepth 100000 in
theorem c_X7_readLine {l : Launch} {Y : ww_Y} {ad : Nat → Nat} {G : List ww_L} (o0 : Nat) (h0 : ww_at G o0 (ww_LModel o0)) (σ : ww_M) : ww_Cn l Y ad G yX7_readLine cX7_readLine 3 none 5 [.ref (ad o0)] σ ((f_X7_readLine σ o0).bind ww_rv) := by
  refine ww_met (by decide +kernel) (Nat.le_of_ble_eq_true rfl) ?_
  intro X hC hR
  have hC : ww_C X l Y ad G 5 cX7_readLine 3 RX7 := hC
  show ww_V X Y ad G 3 σ 0 [(0, .ref (ad o0))] [] ((f_X7_readLine σ o0).bind ww_rv)
  have hJ214 : ∀ (σ : ww_M), ww_V X Y ad G 3 σ 214 [(0, .ref (ad o0))] [] ((f_X7_readLine_j214 σ o0).bind ww_rv) := by
    intro σ
    unfold f_X7_readLine_j214
    refine ww_aload_n (pc := 214) hC 0 rfl dX7_readLine_214 rfl ?_
    refine ww_callVv (pc := 215) (st := []) (As := []) hC (c_X7_step o0 h0 σ) mm_X7_step mw_1002 (h0 0 _ rfl) rfl (by omega) (by decide) (Nat.le_of_ble_eq_true rfl) rfl dX7_readLine_215 (fun v215 => ?_)
    exact ww_return (pc := 218) hC hR dX7_readLine_218 rfl
  have hJ194 : ∀ (σ : ww_M), ww_V X Y ad G 3 σ 194 [(0, .ref (ad o0))] [] ((f_X7_readLine_j194 σ o0).bind ww_rv) := by
    intro σ
    unfold f_X7_readLine_j194
    refine ww_aload_n (pc := 194) hC 0 rfl dX7_readLine_194 rfl ?_
    refine ww_geti (pc := 195) (Cl := RX7) (T := TX7) (N := 36) (j := 16) (ref := RX7) hC (h0 0 _ rfl) rfl inT_X7 (by decide) mw_892 rfl rfl dX7_readLine_195 ?_
    refine ww_if_ne (pc := 198) (tgt := 214) hC dX7_readLine_198 (by decide) ?_ ?_
    · exact hJ214 σ
    · refine ww_aload_n (pc := 201) hC 0 rfl dX7_readLine_201 rfl ?_
      refine ww_geti (pc := 202) (Cl := RX7) (T := TX7) (N := 36) (j := 20) (ref := RX7) hC (h0 0 _ rfl) rfl inT_X7 (by decide) mw_896 rfl rfl dX7_readLine_202 ?_
      refine ww_iconst (pc := 205) (v := 3) hC dX7_readLine_205 rfl ?_
      refine ww_icmp_eq (pc := 206) (tgt := 214) hC dX7_readLine_206 (by decide) ?_ ?_
      · exact hJ214 σ
      · refine ww_aload_n (pc := 209) hC 0 rfl dX7_readLine_209 rfl ?_
        refine ww_iconst (pc := 210) (v := 2) hC dX7_readLine_210 rfl ?_
        refine ww_callVv (pc := 211) (st := []) (As := [.int 2]) hC (c_X7_fails o0 h0 σ 2) mm_X7_fails mw_1014 (h0 0 _ rfl) rfl (by omega) (by decide) (Nat.le_of_ble_eq_true rfl) rfl dX7_readLine_211 (fun v211 => ?_)
        exact hJ214 v211
  have hJ87 : ∀ (σ : ww_M) (x1 : Int32), ww_V X Y ad G 3 σ 87 [(0, .ref (ad o0)), (1, .int x1)] [] ((f_X7_readLine_j87 σ o0 x1).bind ww_rv) := by
    intro σ x1
    unfold f_X7_readLine_j87
    refine ww_aload_n (pc := 87) hC 0 rfl dX7_readLine_87 rfl ?_
    refine ww_dup (pc := 88) hC dX7_readLine_88 rfl ?_
    refine ww_geti (pc := 89) (Cl := RX7) (T := TX7) (N := 36) (j := 12) (ref := RX7) hC (h0 0 _ rfl) rfl inT_X7 (by decide) mw_888 rfl rfl dX7_readLine_89 ?_
    refine ww_iconst (pc := 92) (v := 1) hC dX7_readLine_92 rfl ?_
    refine ww_iload_n (pc := 93) hC 1 rfl dX7_readLine_93 rfl ?_
    refine ww_ishl (pc := 94) hC dX7_readLine_94 ?_
    refine ww_ior (pc := 95) hC dX7_readLine_95 ?_
    refine ww_puti (pc := 96) (Cl := RX7) (T := TX7) (N := 36) (j := 12) (ref := RX7) hC (h0 0 _ rfl) rfl inT_X7 (by decide) mw_888 rfl tyX7 tyX7_ok nmX7 rfl rfl (tyX7_ok 12 (by decide)) dX7_readLine_96 ?_
    refine ww_aload_n (pc := 99) hC 0 rfl dX7_readLine_99 rfl ?_
    refine ww_callVv (pc := 100) (st := []) (As := []) hC (c_X7_step o0 h0 (ww_up σ o0 12 ((σ o0 12) ||| (ww_shl 1 x1)))) mm_X7_step mw_1002 (h0 0 _ rfl) rfl (by omega) (by decide) (Nat.le_of_ble_eq_true rfl) rfl dX7_readLine_100 (fun v100 => ?_)
    refine ww_aload_n (pc := 103) hC 0 rfl dX7_readLine_103 rfl ?_
    refine ww_geti (pc := 104) (Cl := RX7) (T := TX7) (N := 36) (j := 16) (ref := RX7) hC (h0 0 _ rfl) rfl inT_X7 (by decide) mw_892 rfl rfl dX7_readLine_104 ?_
    refine ww_if_le (pc := 107) (tgt := 111) hC dX7_readLine_107 (by decide) ?_ ?_
    · refine ww_iload_n (pc := 111) hC 1 rfl dX7_readLine_111 rfl ?_
      refine ww_if_ne (pc := 112) (tgt := 165) hC dX7_readLine_112 (by decide) ?_ ?_
      · refine ww_iload_n (pc := 165) hC 1 rfl dX7_readLine_165 rfl ?_
        refine ww_iconst (pc := 166) (v := 1) hC dX7_readLine_166 rfl ?_
        refine ww_icmp_ne (pc := 167) (tgt := 177) hC dX7_readLine_167 (by decide) ?_ ?_
        · refine ww_iload_n (pc := 177) hC 1 rfl dX7_readLine_177 rfl ?_
          refine ww_iconst (pc := 178) (v := 5) hC dX7_readLine_178 rfl ?_
          refine ww_icmp_ne (pc := 179) (tgt := 189) hC dX7_readLine_179 (by decide) ?_ ?_
          · refine ww_aload_n (pc := 189) hC 0 rfl dX7_readLine_189 rfl ?_
            refine ww_iload_n (pc := 190) hC 1 rfl dX7_readLine_190 rfl ?_
            refine ww_callVv (pc := 191) (st := []) (As := [.int x1]) hC (c_X7_readOnce o0 h0 v100 x1) mm_X7_readOnce mw_1041 (h0 0 _ rfl) rfl (by omega) (by decide) (Nat.le_of_ble_eq_true rfl) rfl dX7_readLine_191 (fun v191 => ?_)
            refine ww_lv [0] rfl ?_
            exact hJ194 v191
          · refine ww_aload_n (pc := 182) hC 0 rfl dX7_readLine_182 rfl ?_
            refine ww_callVv (pc := 183) (st := []) (As := []) hC (c_X7_readWhale o0 h0 v100) mm_X7_readWhale mw_1037 (h0 0 _ rfl) rfl (by omega) (by decide) (Nat.le_of_ble_eq_true rfl) rfl dX7_readLine_183 (fun v183 => ?_)
            refine ww_goto (pc := 186) (tgt := 194) hC dX7_readLine_186 (by decide) ?_
            refine ww_lv [0] rfl ?_
            exact hJ194 v183
        · refine ww_aload_n (pc := 170) hC 0 rfl dX7_readLine_170 rfl ?_
          refine ww_callVv (pc := 171) (st := []) (As := []) hC (c_X7_readTide o0 h0 v100) mm_X7_readTide mw_1033 (h0 0 _ rfl) rfl (by omega) (by decide) (Nat.le_of_ble_eq_true rfl) rfl dX7_readLine_171 (fun v171 => ?_)
          refine ww_goto (pc := 174) (tgt := 194) hC dX7_readLine_174 (by decide) ?_
          refine ww_lv [0] rfl ?_
          exact hJ194 v171
      · refine ww_aload_n (pc := 115) hC 0 rfl dX7_readLine_115 rfl ?_
        refine ww_getr (pc := 116) (Cl := RX7) (T := TX7) (N := 36) (j := 6) (ref := RX7) hC (h0 0 _ rfl) rfl inT_X7 (by decide) mw_882 rfl rfl dX7_readLine_116 ?_
        refine ww_iconst (pc := 119) (v := 2) hC dX7_readLine_119 rfl ?_
        refine ww_aload_n (pc := 120) hC 0 rfl dX7_readLine_120 rfl ?_
        refine ww_geti (pc := 121) (Cl := RX7) (T := TX7) (N := 36) (j := 9) (ref := RX7) hC (h0 0 _ rfl) rfl inT_X7 (by decide) mw_885 rfl rfl dX7_readLine_121 ?_
        refine ww_imul (pc := 124) hC dX7_readLine_124 ?_
        refine ww_aload_n (pc := 125) hC 0 rfl dX7_readLine_125 rfl ?_
        refine ww_iconst (pc := 126) (v := 0) hC dX7_readLine_126 rfl ?_
        refine ww_iconst (pc := 127) (v := 3) hC dX7_readLine_127 rfl ?_
        refine ww_callVw (pc := 128) (st := [.int (2 * (v100 o0 9)), .ref (ad (o0 + 4))]) (As := [.int 0, .int 3]) hC (c_X7_number o0 h0 v100 0 3) mm_X7_number mw_1029 (h0 0 _ rfl) rfl (by omega) (by decide) (Nat.le_of_ble_eq_true rfl) rfl dX7_readLine_128 (fun v128 => ?_)
        refine ww_iast (pc := 131) hC (h0 4 _ rfl) dX7_readLine_131 ?_
        refine ww_aload_n (pc := 132) hC 0 rfl dX7_readLine_132 rfl ?_
        refine ww_getr (pc := 133) (Cl := RX7) (T := TX7) (N := 36) (j := 6) (ref := RX7) hC (h0 0 _ rfl) rfl inT_X7 (by decide) mw_882 rfl rfl dX7_readLine_133 ?_
        refine ww_iconst (pc := 136) (v := 2) hC dX7_readLine_136 rfl ?_
        refine ww_aload_n (pc := 137) hC 0 rfl dX7_readLine_137 rfl ?_
        refine ww_geti (pc := 138) (Cl := RX7) (T := TX7) (N := 36) (j := 9) (ref := RX7) hC (h0 0 _ rfl) rfl inT_X7 (by decide) mw_885 rfl rfl dX7_readLine_138 ?_
        refine ww_imul (pc := 141) hC dX7_readLine_141 ?_
        refine ww_iconst (pc := 142) (v := 1) hC dX7_readLine_142 rfl ?_
        refine ww_iadd (pc := 143) hC dX7_readLine_143 ?_
        refine ww_aload_n (pc := 144) hC 0 rfl dX7_readLine_144 rfl ?_
        refine ww_iconst (pc := 145) (v := 0) hC dX7_readLine_145 rfl ?_
        refine ww_bipush (pc := 146) (v := 9) hC dX7_readLine_146 rfl ?_
        refine ww_callVw (pc := 148) (st := [.int ((2 * ((ww_up v128.2 (o0 + 4) (ww_ix (2 * (v100 o0 9))) v128.1) o0 9)) + 1), .ref (ad (o0 + 4))]) (As := [.int 0, .int 9]) hC (c_X7_number o0 h0 (ww_up v128.2 (o0 + 4) (ww_ix (2 * (v100 o0 9))) v128.1) 0 9) mm_X7_number mw_1029 (h0 0 _ rfl) rfl (by omega) (by decide) (Nat.le_of_ble_eq_true rfl) rfl dX7_readLine_148 (fun v148 => ?_)
        refine ww_iast (pc := 151) hC (h0 4 _ rfl) dX7_readLine_151 ?_
        refine ww_aload_n (pc := 152) hC 0 rfl dX7_readLine_152 rfl ?_
        refine ww_dup (pc := 153) hC dX7_readLine_153 rfl ?_
        refine ww_geti (pc := 154) (Cl := RX7) (T := TX7) (N := 36) (j := 9) (ref := RX7) hC (h0 0 _ rfl) rfl inT_X7 (by decide) mw_885 rfl rfl dX7_readLine_154 ?_
        refine ww_iconst (pc := 157) (v := 1) hC dX7_readLine_157 rfl ?_
        refine ww_iadd (pc := 158) hC dX7_readLine_158 ?_
        refine ww_puti (pc := 159) (Cl := RX7) (T := TX7) (N := 36) (j := 9) (ref := RX7) hC (h0 0 _ rfl) rfl inT_X7 (by decide) mw_885 rfl tyX7 tyX7_ok nmX7 rfl rfl (tyX7_ok 9 (by decide)) dX7_readLine_159 ?_
        refine ww_goto (pc := 162) (tgt := 194) hC dX7_readLine_162 (by decide) ?_
        refine ww_lv [0] rfl ?_
        exact hJ194 (ww_up (ww_up v148.2 (o0 + 4) (ww_ix ((2 * ((ww_up v128.2 (o0 + 4) (ww_ix (2 * (v100 o0 9))) v128.1) o0 9)) + 1)) v148.1) o0 9 (((ww_up v148.2 (o0 + 4) (ww_ix ((2 * ((ww_up v128.2 (o0 + 4) (ww_ix (2 * (v100 o0 9))) v128.1) o0 9)) + 1)) v148.1) o0 9) + 1))
    · exact ww_return (pc := 110) hC hR dX7_readLine_110 rfl
  have hJ66 : ∀ (σ : ww_M) (x1 : Int32) (x2 : Int32), ww_V X Y ad G 3 σ 66 [(0, .ref (ad o0)), (1, .int x1), (2, .int x2)] [] ((f_X7_readLine_j66 σ o0 x1 x2).bind ww_rv) := by
    intro σ x1 x2
    unfold f_X7_readLine_j66
    refine ww_iload_n (pc := 66) hC 2 rfl dX7_readLine_66 rfl ?_
    refine ww_if_eq (pc := 67) (tgt := 87) hC dX7_readLine_67 (by decide) ?_ ?_
    · refine ww_lv [0, 1] rfl ?_
      exact hJ87 σ x1
    · refine ww_aload_n (pc := 70) hC 0 rfl dX7_readLine_70 rfl ?_
      refine ww_geti (pc := 71) (Cl := RX7) (T := TX7) (N := 36) (j := 12) (ref := RX7) hC (h0 0 _ rfl) rfl inT_X7 (by decide) mw_888 rfl rfl dX7_readLine_71 ?_
      refine ww_iload_n (pc := 74) hC 1 rfl dX7_readLine_74 rfl ?_
      refine ww_ishr (pc := 75) hC dX7_readLine_75 ?_
      refine ww_iconst (pc := 76) (v := 1) hC dX7_readLine_76 rfl ?_
      refine ww_iand (pc := 77) hC dX7_readLine_77 ?_
      refine ww_iconst (pc := 78) (v := 1) hC dX7_readLine_78 rfl ?_
      refine ww_icmp_ne (pc := 79) (tgt := 87) hC dX7_readLine_79 (by decide) ?_ ?_
      · refine ww_lv [0, 1] rfl ?_
        exact hJ87 σ x1
      · refine ww_aload_n (pc := 82) hC 0 rfl dX7_readLine_82 rfl ?_
        refine ww_iconst (pc := 83) (v := 4) hC dX7_readLine_83 rfl ?_
        refine ww_callVv (pc := 84) (st := []) (As := [.int 4]) hC (c_X7_fails o0 h0 σ 4) mm_X7_fails mw_1014 (h0 0 _ rfl) rfl (by omega) (by decide) (Nat.le_of_ble_eq_true rfl) rfl dX7_readLine_84 (fun v84 => ?_)
        refine ww_lv [0, 1] rfl ?_
        exact hJ87 v84 x1
  have hJ61 : ∀ (σ : ww_M) (x1 : Int32) (x2 : Int32), ww_V X Y ad G 3 σ 61 [(0, .ref (ad o0)), (1, .int x1), (2, .int x2)] [] ((f_X7_readLine_j61 σ o0 x1 x2).bind ww_rv) := by
    intro σ x1 x2
    unfold f_X7_readLine_j61
    refine ww_aload_n (pc := 61) hC 0 rfl dX7_readLine_61 rfl ?_
    refine ww_iconst (pc := 62) (v := 5) hC dX7_readLine_62 rfl ?_
    refine ww_callVv (pc := 63) (st := []) (As := [.int 5]) hC (c_X7_fails o0 h0 σ 5) mm_X7_fails mw_1014 (h0 0 _ rfl) rfl (by omega) (by decide) (Nat.le_of_ble_eq_true rfl) rfl dX7_readLine_63 (fun v63 => ?_)
    exact hJ66 v63 x1 x2
  have hJ48 : ∀ (σ : ww_M) (x1 : Int32) (x2 : Int32), ww_V X Y ad G 3 σ 48 [(0, .ref (ad o0)), (1, .int x1), (2, .int x2)] [] ((f_X7_readLine_j48 σ o0 x1 x2).bind ww_rv) := by
    intro σ x1 x2
    unfold f_X7_readLine_j48
    refine ww_iload_n (pc := 48) hC 1 rfl dX7_readLine_48 rfl ?_
    refine ww_iconst (pc := 49) (v := 5) hC dX7_readLine_49 rfl ?_
    refine ww_icmp_ne (pc := 50) (tgt := 66) hC dX7_readLine_50 (by decide) ?_ ?_
    · exact hJ66 σ x1 x2
    · refine ww_aload_n (pc := 53) hC 0 rfl dX7_readLine_53 rfl ?_
      refine ww_geti (pc := 54) (Cl := RX7) (T := TX7) (N := 36) (j := 11) (ref := RX7) hC (h0 0 _ rfl) rfl inT_X7 (by decide) mw_887 rfl rfl dX7_readLine_54 ?_
      refine ww_iconst (pc := 57) (v := 3) hC dX7_readLine_57 rfl ?_
      refine ww_icmp_ne (pc := 58) (tgt := 66) hC dX7_readLine_58 (by decide) ?_ ?_
      · exact hJ66 σ x1 x2
      · exact hJ61 σ x1 x2
  unfold f_X7_readLine
  refine ww_aload_n (pc := 0) hC 0 rfl dX7_readLine_0 rfl ?_
  refine ww_callVi (pc := 1) (st := []) (As := []) hC (c_X7_nameHere o0 h0 σ) mm_X7_nameHere mw_1022 (h0 0 _ rfl) rfl (by omega) (by decide) (Nat.le_of_ble_eq_true rfl) rfl dX7_readLine_1 (fun v1 => ?_)
  refine ww_istore_n (pc := 4) (lv' := [(1, .int v1), (0, .ref (ad o0))]) hC dX7_readLine_4 rfl (by decide) rfl ?_
  refine ww_iload_n (pc := 5) hC 0 rfl dX7_readLine_5 rfl ?_
  refine ww_i2l (pc := 6) hC dX7_readLine_6 ?_
  refine ww_lconst (pc := 7) (v := 0) hC dX7_readLine_7 rfl ?_
  refine ww_ldc2 (pc := 8) hC dX7_readLine_8 mw_1026 ?_
  refine ww_callSi (pc := 11) (st := []) (As := [.long v1.toInt64, .long 0, .long 5]) hC (c_X7_in σ v1.toInt64 0 5) mm_X7_in mw_991 (by omega) (by decide) (Nat.le_of_ble_eq_true rfl) rfl dX7_readLine_11 (fun v11 => ?_)
  refine ww_if_ne (pc := 14) (tgt := 23) hC dX7_readLine_14 (by decide) ?_ ?_
  · refine ww_iload_n (pc := 23) hC 0 rfl dX7_readLine_23 rfl ?_
    refine ww_i2l (pc := 24) hC dX7_readLine_24 ?_
    refine ww_ldc2 (pc := 25) hC dX7_readLine_25 mw_1027 ?_
    refine ww_ldc2 (pc := 28) hC dX7_readLine_28 mw_1028 ?_
    refine ww_callSi (pc := 31) (st := []) (As := [.long v1.toInt64, .long 2, .long 4]) hC (c_X7_in σ v1.toInt64 2 4) mm_X7_in mw_991 (by omega) (by decide) (Nat.le_of_ble_eq_true rfl) rfl dX7_readLine_31 (fun v31 => ?_)
    refine ww_istore_n (pc := 34) (lv' := [(2, .int v31), (1, .int v1), (0, .ref (ad o0))]) hC dX7_readLine_34 rfl (by decide) rfl ?_
    refine ww_iload_n (pc := 35) hC 1 rfl dX7_readLine_35 rfl ?_
    refine ww_if_ne (pc := 36) (tgt := 48) hC dX7_readLine_36 (by decide) ?_ ?_
    · refine ww_lv [2, 1, 0] rfl ?_
      exact hJ48 σ v1 v31
    · refine ww_aload_n (pc := 39) hC 2 rfl dX7_readLine_39 rfl ?_
      refine ww_geti (pc := 40) (Cl := RX7) (T := TX7) (N := 36) (j := 9) (ref := RX7) hC (h0 0 _ rfl) rfl inT_X7 (by decide) mw_885 rfl rfl dX7_readLine_40 ?_
      refine ww_bipush (pc := 43) (v := 6) hC dX7_readLine_43 rfl ?_
      refine ww_icmp_eq (pc := 45) (tgt := 61) hC dX7_readLine_45 (by decide) ?_ ?_
      · refine ww_lv [2, 1, 0] rfl ?_
        exact hJ61 σ v1 v31
      · refine ww_lv [2, 1, 0] rfl ?_
        exact hJ48 σ v1 v31
  · refine ww_aload_n (pc := 17) hC 1 rfl dX7_readLine_17 rfl ?_
    refine ww_iconst (pc := 18) (v := 2) hC dX7_readLine_18 rfl ?_
    refine ww_callVv (pc := 19) (st := []) (As := [.int 2]) hC (c_X7_fails o0 h0 σ 2) mm_X7_fails mw_1014 (h0 0 _ rfl) rfl (by omega) (by decide) (Nat.le_of_ble_eq_true rfl) rfl dX7_readLine_19 (fun v19 => ?_)
    exact ww_return (pc := 22) hC hR dX7_readLine_22 rfl
