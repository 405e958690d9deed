theorem dX6_feed_0 : decode cX6_feed 0 = .ok (.iload_n 1, 1) := by decide +kernel
theorem dX6_feed_1 : decode cX6_feed 1 = .ok (.iconst 0, 1) := by decide +kernel
theorem dX6_feed_2 : decode cX6_feed 2 = .ok (.bipush 127, 2) := by decide +kernel
theorem dX6_feed_4 : decode cX6_feed 4 = .ok (.invokestatic 61, 3) := by decide +kernel
theorem dX6_feed_7 : decode cX6_feed 7 = .ok (.ifCond .ne 5, 3) := by decide +kernel
theorem dX6_feed_10 : decode cX6_feed 10 = .ok (.iconst (-1), 1) := by decide +kernel
theorem dX6_feed_11 : decode cX6_feed 11 = .ok (.ireturn, 1) := by decide +kernel
theorem dX6_feed_12 : decode cX6_feed 12 = .ok (.aload_n 0, 1) := by decide +kernel
theorem dX6_feed_13 : decode cX6_feed 13 = .ok (.getfield 12, 3) := by decide +kernel
theorem dX6_feed_16 : decode cX6_feed 16 = .ok (.iload_n 1, 1) := by decide +kernel
theorem dX6_feed_17 : decode cX6_feed 17 = .ok (.invokevirtual 65, 3) := by decide +kernel
theorem dX6_feed_20 : decode cX6_feed 20 = .ok (.ifCond .eq 13, 3) := by decide +kernel
theorem dX6_feed_23 : decode cX6_feed 23 = .ok (.aload_n 0, 1) := by decide +kernel
theorem dX6_feed_24 : decode cX6_feed 24 = .ok (.getfield 12, 3) := by decide +kernel
theorem dX6_feed_27 : decode cX6_feed 27 = .ok (.getfield 69, 3) := by decide +kernel
theorem dX6_feed_30 : decode cX6_feed 30 = .ok (.goto 5, 3) := by decide +kernel
theorem dX6_feed_33 : decode cX6_feed 33 = .ok (.bipush (-3), 2) := by decide +kernel
theorem dX6_feed_35 : decode cX6_feed 35 = .ok (.ireturn, 1) := by decide +kernel
set_option maxHeartbeats 4000000 in
set_option maxRecDepth 100000 in
theorem c_X6_feed {l : Launch} {Y : ww_Y} {ad : Nat → Nat} {G : List ww_L} (hT : ww_at G 0 ww_LTop) (σ : ww_M) (p1 : Int32) : ww_Cn l Y ad G yX6_feed cX6_feed 2 (some .int) 2 [.ref (ad 0), .int p1] σ ((f_X6_feed σ p1).bind ww_rw) := by
  refine ww_met (by decide +kernel) (Nat.le_of_ble_eq_true rfl) ?_
  intro X hC hR
  have hC : ww_C X l Y ad G 2 cX6_feed 2 RX6 := hC
  show ww_V X Y ad G 2 σ 0 [(0, .ref (ad 0)), (1, .int p1)] [] ((f_X6_feed σ p1).bind ww_rw)
  unfold f_X6_feed
  refine ww_iload_n (pc := 0) hC 1 rfl dX6_feed_0 rfl ?_
  refine ww_iconst (pc := 1) (v := 0) hC dX6_feed_1 rfl ?_
  refine ww_bipush (pc := 2) (v := 127) hC dX6_feed_2 rfl ?_
  refine ww_callSi (pc := 4) (st := []) (As := [.int p1, .int 0, .int 127]) hC (c_X6_within σ p1 0 127) mm_X6_within mw_333 (by omega) (by decide) (Nat.le_of_ble_eq_true rfl) rfl dX6_feed_4 (fun v4 => ?_)
  refine ww_if_ne (pc := 7) (tgt := 12) hC dX6_feed_7 (by decide) ?_ ?_
  · refine ww_aload_n (pc := 12) hC 0 rfl dX6_feed_12 rfl ?_
    refine ww_getr (pc := 13) (Cl := RX6) (T := TX6) (N := 10) (j := 0) (ref := RX6) hC (hT 0 _ rfl) rfl inT_X6 (by decide) mw_298 rfl rfl dX6_feed_13 ?_
    refine ww_iload_n (pc := 16) hC 1 rfl dX6_feed_16 rfl ?_
    refine ww_callVw (pc := 17) (st := []) (As := [.int p1]) hC (c_X4_add 1 (ww_top_tape hT) σ p1) mm_X4_add mw_336 ((ww_top_tape hT) 0 _ rfl) rfl (by omega) (by decide) (Nat.le_of_ble_eq_true rfl) rfl dX6_feed_17 (fun v17 => ?_)
    refine ww_if_eq (pc := 20) (tgt := 33) hC dX6_feed_20 (by decide) ?_ ?_
    · refine ww_bipush (pc := 33) (v := (-3)) hC dX6_feed_33 rfl ?_
      exact ww_ireturn (pc := 35) hC hR dX6_feed_35 rfl
    · refine ww_aload_n (pc := 23) hC 0 rfl dX6_feed_23 rfl ?_
      refine ww_getr (pc := 24) (Cl := RX6) (T := TX6) (N := 10) (j := 0) (ref := RX6) hC (hT 0 _ rfl) rfl inT_X6 (by decide) mw_298 rfl rfl dX6_feed_24 ?_
      refine ww_geti (pc := 27) (Cl := RX4) (T := TX4) (N := 6) (j := 1) (ref := RX4) hC ((ww_top_tape hT) 0 _ rfl) rfl inT_X4 (by decide) mw_91 rfl rfl dX6_feed_27 ?_
      refine ww_goto (pc := 30) (tgt := 35) hC dX6_feed_30 (by decide) ?_
      exact ww_ireturn (pc := 35) hC hR dX6_feed_35 rfl
  · refine ww_iconst (pc := 10) (v := (-1)) hC dX6_feed_10 rfl ?_
    exact ww_ireturn (pc := 11) hC hR dX6_feed_11 rfl
theorem dX6_end_0 : decode cX6_end 0 = .ok (.iload_n 1, 1) := by decide +kernel
theorem dX6_end_1 : decode cX6_end 1 = .ok (.iconst 0, 1) := by decide +kernel
theorem dX6_end_2 : decode cX6_end 2 = .ok (.aload_n 0, 1) := by decide +kernel
theorem dX6_end_3 : decode cX6_end 3 = .ok (.getfield 12, 3) := by decide +kernel
theorem dX6_end_6 : decode cX6_end 6 = .ok (.getfield 69, 3) := by decide +kernel
theorem dX6_end_9 : decode cX6_end 9 = .ok (.invokestatic 61, 3) := by decide +kernel
theorem dX6_end_12 : decode cX6_end 12 = .ok (.ifCond .ne 5, 3) := by decide +kernel
theorem dX6_end_15 : decode cX6_end 15 = .ok (.iconst (-1), 1) := by decide +kernel
theorem dX6_end_16 : decode cX6_end 16 = .ok (.ireturn, 1) := by decide +kernel
theorem dX6_end_17 : decode cX6_end 17 = .ok (.aload_n 0, 1) := by decide +kernel
theorem dX6_end_18 : decode cX6_end 18 = .ok (.getfield 12, 3) := by decide +kernel
theorem dX6_end_21 : decode cX6_end 21 = .ok (.getfield 69, 3) := by decide +kernel
theorem dX6_end_24 : decode cX6_end 24 = .ok (.istore_n 2, 1) := by decide +kernel
theorem dX6_end_25 : decode cX6_end 25 = .ok (.aload_n 0, 1) := by decide +kernel
theorem dX6_end_26 : decode cX6_end 26 = .ok (.getfield 12, 3) := by decide +kernel
theorem dX6_end_29 : decode cX6_end 29 = .ok (.iload_n 1, 1) := by decide +kernel
theorem dX6_end_30 : decode cX6_end 30 = .ok (.putfield 69, 3) := by decide +kernel
theorem dX6_end_33 : decode cX6_end 33 = .ok (.iload_n 2, 1) := by decide +kernel
theorem dX6_end_34 : decode cX6_end 34 = .ok (.ireturn, 1) := by decide +kernel
set_option maxHeartbeats 4000000 in
set_option maxRecDepth 100000 in
theorem c_X6_end {l : Launch} {Y : ww_Y} {ad : Nat → Nat} {G : List ww_L} (hT : ww_at G 0 ww_LTop) (σ : ww_M) (p1 : Int32) : ww_Cn l Y ad G yX6_end cX6_end 3 (some .int) 2 [.ref (ad 0), .int p1] σ ((f_X6_end σ p1).bind ww_rw) := by
  refine ww_met (by decide +kernel) (Nat.le_of_ble_eq_true rfl) ?_
  intro X hC hR
  have hC : ww_C X l Y ad G 2 cX6_end 3 RX6 := hC
  show ww_V X Y ad G 3 σ 0 [(0, .ref (ad 0)), (1, .int p1)] [] ((f_X6_end σ p1).bind ww_rw)
  unfold f_X6_end
  refine ww_iload_n (pc := 0) hC 1 rfl dX6_end_0 rfl ?_
  refine ww_iconst (pc := 1) (v := 0) hC dX6_end_1 rfl ?_
  refine ww_aload_n (pc := 2) hC 0 rfl dX6_end_2 rfl ?_
  refine ww_getr (pc := 3) (Cl := RX6) (T := TX6) (N := 10) (j := 0) (ref := RX6) hC (hT 0 _ rfl) rfl inT_X6 (by decide) mw_298 rfl rfl dX6_end_3 ?_
  refine ww_geti (pc := 6) (Cl := RX4) (T := TX4) (N := 6) (j := 1) (ref := RX4) hC ((ww_top_tape hT) 0 _ rfl) rfl inT_X4 (by decide) mw_91 rfl rfl dX6_end_6 ?_
  refine ww_callSi (pc := 9) (st := []) (As := [.int p1, .int 0, .int (σ 1 1)]) hC (c_X6_within σ p1 0 (σ 1 1)) mm_X6_within mw_333 (by omega) (by decide) (Nat.le_of_ble_eq_true rfl) rfl dX6_end_9 (fun v9 => ?_)
  refine ww_if_ne (pc := 12) (tgt := 17) hC dX6_end_12 (by decide) ?_ ?_
  · refine ww_aload_n (pc := 17) hC 0 rfl dX6_end_17 rfl ?_
    refine ww_getr (pc := 18) (Cl := RX6) (T := TX6) (N := 10) (j := 0) (ref := RX6) hC (hT 0 _ rfl) rfl inT_X6 (by decide) mw_298 rfl rfl dX6_end_18 ?_
    refine ww_geti (pc := 21) (Cl := RX4) (T := TX4) (N := 6) (j := 1) (ref := RX4) hC ((ww_top_tape hT) 0 _ rfl) rfl inT_X4 (by decide) mw_91 rfl rfl dX6_end_21 ?_
    refine ww_istore_n (pc := 24) (lv' := [(2, .int (σ 1 1)), (0, .ref (ad 0)), (1, .int p1)]) hC dX6_end_24 rfl (by decide) rfl ?_
    refine ww_aload_n (pc := 25) hC 1 rfl dX6_end_25 rfl ?_
    refine ww_getr (pc := 26) (Cl := RX6) (T := TX6) (N := 10) (j := 0) (ref := RX6) hC (hT 0 _ rfl) rfl inT_X6 (by decide) mw_298 rfl rfl dX6_end_26 ?_
    refine ww_iload_n (pc := 29) hC 2 rfl dX6_end_29 rfl ?_
    refine ww_puti (pc := 30) (Cl := RX4) (T := TX4) (N := 6) (j := 1) (ref := RX4) hC ((ww_top_tape hT) 0 _ rfl) rfl inT_X4 (by decide) mw_91 rfl tyX4 tyX4_ok nmX4 rfl rfl (tyX4_ok 1 (by decide)) dX6_end_30 ?_
    refine ww_iload_n (pc := 33) hC 0 rfl dX6_end_33 rfl ?_
    exact ww_ireturn (pc := 34) hC hR dX6_end_34 rfl
  · refine ww_iconst (pc := 15) (v := (-1)) hC dX6_end_15 rfl ?_
    exact ww_ireturn (pc := 16) hC hR dX6_end_16 rfl
theorem dX6_text_0 : decode cX6_text 0 = .ok (.aload_n 0, 1) := by decide +kernel
theorem dX6_text_1 : decode cX6_text 1 = .ok (.getfield 19, 3) := by decide +kernel
theorem dX6_text_4 : decode cX6_text 4 = .ok (.aload_n 0, 1) := by decide +kernel
theorem dX6_text_5 : decode cX6_text 5 = .ok (.getfield 12, 3) := by decide +kernel
theorem dX6_text_8 : decode cX6_text 8 = .ok (.aload_n 0, 1) := by decide +kernel
theorem dX6_text_9 : decode cX6_text 9 = .ok (.getfield 30, 3) := by decide +kernel
theorem dX6_text_12 : decode cX6_text 12 = .ok (.invokevirtual 73, 3) := by decide +kernel
theorem dX6_text_15 : decode cX6_text 15 = .ok (.istore_n 1, 1) := by decide +kernel
theorem dX6_text_16 : decode cX6_text 16 = .ok (.aload_n 0, 1) := by decide +kernel
theorem dX6_text_17 : decode cX6_text 17 = .ok (.getfield 12, 3) := by decide +kernel
theorem dX6_text_20 : decode cX6_text 20 = .ok (.iconst 0, 1) := by decide +kernel
theorem dX6_text_21 : decode cX6_text 21 = .ok (.putfield 69, 3) := by decide +kernel
theorem dX6_text_24 : decode cX6_text 24 = .ok (.aload_n 0, 1) := by decide +kernel
theorem dX6_text_25 : decode cX6_text 25 = .ok (.getfield 19, 3) := by decide +kernel
theorem dX6_text_28 : decode cX6_text 28 = .ok (.getfield 77, 3) := by decide +kernel
theorem dX6_text_31 : decode cX6_text 31 = .ok (.ifCond .eq 14, 3) := by decide +kernel
theorem dX6_text_34 : decode cX6_text 34 = .ok (.bipush (-10), 2) := by decide +kernel
theorem dX6_text_36 : decode cX6_text 36 = .ok (.aload_n 0, 1) := by decide +kernel
theorem dX6_text_37 : decode cX6_text 37 = .ok (.getfield 19, 3) := by decide +kernel
theorem dX6_text_40 : decode cX6_text 40 = .ok (.getfield 80, 3) := by decide +kernel
theorem dX6_text_43 : decode cX6_text 43 = .ok (.isub, 1) := by decide +kernel
theorem dX6_text_44 : decode cX6_text 44 = .ok (.ireturn, 1) := by decide +kernel
theorem dX6_text_45 : decode cX6_text 45 = .ok (.aload_n 0, 1) := by decide +kernel
theorem dX6_text_46 : decode cX6_text 46 = .ok (.getfield 26, 3) := by decide +kernel
theorem dX6_text_49 : decode cX6_text 49 = .ok (.aload_n 0, 1) := by decide +kernel
theorem dX6_text_50 : decode cX6_text 50 = .ok (.getfield 30, 3) := by decide +kernel
theorem dX6_text_53 : decode cX6_text 53 = .ok (.invokevirtual 83, 3) := by decide +kernel
theorem dX6_text_56 : decode cX6_text 56 = .ok (.aload_n 0, 1) := by decide +kernel
theorem dX6_text_57 : decode cX6_text 57 = .ok (.getfield 26, 3) := by decide +kernel
theorem dX6_text_60 : decode cX6_text 60 = .ok (.invokevirtual 87, 3) := by decide +kernel
theorem dX6_text_63 : decode cX6_text 63 = .ok (.aload_n 0, 1) := by decide +kernel
theorem dX6_text_64 : decode cX6_text 64 = .ok (.getfield 40, 3) := by decide +kernel
theorem dX6_text_67 : decode cX6_text 67 = .ok (.iconst 0, 1) := by decide +kernel
theorem dX6_text_68 : decode cX6_text 68 = .ok (.putfield 90, 3) := by decide +kernel
theorem dX6_text_71 : decode cX6_text 71 = .ok (.aload_n 0, 1) := by decide +kernel
theorem dX6_text_72 : decode cX6_text 72 = .ok (.iconst 0, 1) := by decide +kernel
theorem dX6_text_73 : decode cX6_text 73 = .ok (.putfield 91, 3) := by decide +kernel
theorem dX6_text_76 : decode cX6_text 76 = .ok (.iload_n 1, 1) := by decide +kernel
theorem dX6_text_77 : decode cX6_text 77 = .ok (.ireturn, 1) := by decide +kernel
set_option maxHeartbeats 4000000 in
set_option maxRecDepth 100000 in
theorem c_X6_text {l : Launch} {Y : ww_Y} {ad : Nat → Nat} {G : List ww_L} (hT : ww_at G 0 ww_LTop) (σ : ww_M) : ww_Cn l Y ad G yX6_text cX6_text 2 (some .int) 10 [.ref (ad 0)] σ ((f_X6_text σ).bind ww_rw) := by
  refine ww_met (by decide +kernel) (Nat.le_of_ble_eq_true rfl) ?_
  intro X hC hR
  have hC : ww_C X l Y ad G 10 cX6_text 2 RX6 := hC
  show ww_V X Y ad G 2 σ 0 [(0, .ref (ad 0))] [] ((f_X6_text σ).bind ww_rw)
  unfold f_X6_text
  refine ww_aload_n (pc := 0) hC 0 rfl dX6_text_0 rfl ?_
  refine ww_getr (pc := 1) (Cl := RX6) (T := TX6) (N := 10) (j := 1) (ref := RX6) hC (hT 0 _ rfl) rfl inT_X6 (by decide) mw_299 rfl rfl dX6_text_1 ?_
  refine ww_aload_n (pc := 4) hC 0 rfl dX6_text_4 rfl ?_
  refine ww_getr (pc := 5) (Cl := RX6) (T := TX6) (N := 10) (j := 0) (ref := RX6) hC (hT 0 _ rfl) rfl inT_X6 (by decide) mw_298 rfl rfl dX6_text_5 ?_
  refine ww_aload_n (pc := 8) hC 0 rfl dX6_text_8 rfl ?_
  refine ww_getr (pc := 9) (Cl := RX6) (T := TX6) (N := 10) (j := 3) (ref := RX6) hC (hT 0 _ rfl) rfl inT_X6 (by decide) mw_301 rfl rfl dX6_text_9 ?_
  refine ww_callVw (pc := 12) (st := []) (As := [.ref (ad 1), .ref (ad 14)]) hC (c_X5_tellAll 3 (ww_top_teller hT) 1 (ww_top_tape hT) 14 (ww_top_spare hT) σ) mm_X5_tellAll mw_348 ((ww_top_teller hT) 0 _ rfl) rfl (by omega) (by decide) (Nat.le_of_ble_eq_true rfl) rfl dX6_text_12 (fun v12 => ?_)
  refine ww_istore_n (pc := 15) (lv' := [(1, .int v12.1), (0, .ref (ad 0))]) hC dX6_text_15 rfl (by decide) rfl ?_
  refine ww_aload_n (pc := 16) hC 1 rfl dX6_text_16 rfl ?_
  refine ww_getr (pc := 17) (Cl := RX6) (T := TX6) (N := 10) (j := 0) (ref := RX6) hC (hT 0 _ rfl) rfl inT_X6 (by decide) mw_298 rfl rfl dX6_text_17 ?_
  refine ww_iconst (pc := 20) (v := 0) hC dX6_text_20 rfl ?_
  refine ww_puti (pc := 21) (Cl := RX4) (T := TX4) (N := 6) (j := 1) (ref := RX4) hC ((ww_top_tape hT) 0 _ rfl) rfl inT_X4 (by decide) mw_91 rfl tyX4 tyX4_ok nmX4 rfl rfl (tyX4_ok 1 (by decide)) dX6_text_21 ?_
  refine ww_aload_n (pc := 24) hC 1 rfl dX6_text_24 rfl ?_
  refine ww_getr (pc := 25) (Cl := RX6) (T := TX6) (N := 10) (j := 1) (ref := RX6) hC (hT 0 _ rfl) rfl inT_X6 (by decide) mw_299 rfl rfl dX6_text_25 ?_
  refine ww_geti (pc := 28) (Cl := RX5) (T := TX5) (N := 3) (j := 0) (ref := RX5) hC ((ww_top_teller hT) 0 _ rfl) rfl inT_X5 (by decide) mw_122 rfl rfl dX6_text_28 ?_
  refine ww_if_eq (pc := 31) (tgt := 45) hC dX6_text_31 (by decide) ?_ ?_
  · refine ww_aload_n (pc := 45) hC 1 rfl dX6_text_45 rfl ?_
    refine ww_getr (pc := 46) (Cl := RX6) (T := TX6) (N := 10) (j := 2) (ref := RX6) hC (hT 0 _ rfl) rfl inT_X6 (by decide) mw_300 rfl rfl dX6_text_46 ?_
    refine ww_aload_n (pc := 49) hC 1 rfl dX6_text_49 rfl ?_
    refine ww_getr (pc := 50) (Cl := RX6) (T := TX6) (N := 10) (j := 3) (ref := RX6) hC (hT 0 _ rfl) rfl inT_X6 (by decide) mw_301 rfl rfl dX6_text_50 ?_
    refine ww_callVv (pc := 53) (st := []) (As := [.ref (ad 14)]) hC (c_X2_copyFrom 4 (ww_top_now hT) 14 (ww_top_spare hT) (ww_up v12.2 1 1 0)) mm_X2_copyFrom mw_494 ((ww_top_now hT) 0 _ rfl) rfl (by omega) (by decide) (Nat.le_of_ble_eq_true rfl) rfl dX6_text_53 (fun v53 => ?_)
    refine ww_aload_n (pc := 56) hC 1 rfl dX6_text_56 rfl ?_
    refine ww_getr (pc := 57) (Cl := RX6) (T := TX6) (N := 10) (j := 2) (ref := RX6) hC (hT 0 _ rfl) rfl inT_X6 (by decide) mw_300 rfl rfl dX6_text_57 ?_
    refine ww_callVv (pc := 60) (st := []) (As := []) hC (c_X2_loseFloating 4 (ww_top_now hT) v53) mm_X2_loseFloating mw_507 ((ww_top_now hT) 0 _ rfl) rfl (by omega) (by decide) (Nat.le_of_ble_eq_true rfl) rfl dX6_text_60 (fun v60 => ?_)
    refine ww_aload_n (pc := 63) hC 1 rfl dX6_text_63 rfl ?_
    refine ww_getr (pc := 64) (Cl := RX6) (T := TX6) (N := 10) (j := 6) (ref := RX6) hC (hT 0 _ rfl) rfl inT_X6 (by decide) mw_304 rfl rfl dX6_text_64 ?_
    refine ww_iconst (pc := 67) (v := 0) hC dX6_text_67 rfl ?_
    refine ww_puti (pc := 68) (Cl := RX3) (T := TX3) (N := 3) (j := 2) (ref := RX3) hC ((ww_top_tales hT) 0 _ rfl) rfl inT_X3 (by decide) mw_229 rfl tyX3 tyX3_ok nmX3 rfl rfl (tyX3_ok 2 (by decide)) dX6_text_68 ?_
    refine ww_aload_n (pc := 71) hC 1 rfl dX6_text_71 rfl ?_
    refine ww_iconst (pc := 72) (v := 0) hC dX6_text_72 rfl ?_
    refine ww_puti (pc := 73) (Cl := RX6) (T := TX6) (N := 10) (j := 5) (ref := RX6) hC (hT 0 _ rfl) rfl inT_X6 (by decide) mw_303 rfl tyX6 tyX6_ok nmX6 rfl rfl (tyX6_ok 5 (by decide)) dX6_text_73 ?_
    refine ww_iload_n (pc := 76) hC 0 rfl dX6_text_76 rfl ?_
    exact ww_ireturn (pc := 77) hC hR dX6_text_77 rfl
  · refine ww_bipush (pc := 34) (v := (-10)) hC dX6_text_34 rfl ?_
    refine ww_aload_n (pc := 36) hC 1 rfl dX6_text_36 rfl ?_
    refine ww_getr (pc := 37) (Cl := RX6) (T := TX6) (N := 10) (j := 1) (ref := RX6) hC (hT 0 _ rfl) rfl inT_X6 (by decide) mw_299 rfl rfl dX6_text_37 ?_
    refine ww_geti (pc := 40) (Cl := RX5) (T := TX5) (N := 3) (j := 1) (ref := RX5) hC ((ww_top_teller hT) 0 _ rfl) rfl inT_X5 (by decide) mw_124 rfl rfl dX6_text_40 ?_
    refine ww_isub (pc := 43) hC dX6_text_43 ?_
    exact ww_ireturn (pc := 44) hC hR dX6_text_44 rfl
theorem dX6_fault_0 : decode cX6_fault 0 = .ok (.aload_n 0, 1) := by decide +kernel
theorem dX6_fault_1 : decode cX6_fault 1 = .ok (.getfield 19, 3) := by decide +kernel
theorem dX6_fault_4 : decode cX6_fault 4 = .ok (.getfield 77, 3) := by decide +kernel
theorem dX6_fault_7 : decode cX6_fault 7 = .ok (.ireturn, 1) := by decide +kernel
set_option maxHeartbeats 4000000 in
set_option maxRecDepth 100000 in
theorem c_X6_fault {l : Launch} {Y : ww_Y} {ad : Nat → Nat} {G : List ww_L} (hT : ww_at G 0 ww_LTop) (σ : ww_M) : ww_Cn l Y ad G yX6_fault cX6_fault 1 (some .int) 1 [.ref (ad 0)] σ ((f_X6_fault σ).bind (ww_ri σ)) := by
  refine ww_met (by decide +kernel) (Nat.le_of_ble_eq_true rfl) ?_
  intro X hC hR
  have hC : ww_C X l Y ad G 1 cX6_fault 1 RX6 := hC
  show ww_V X Y ad G 1 σ 0 [(0, .ref (ad 0))] [] ((f_X6_fault σ).bind (ww_ri σ))
  unfold f_X6_fault
  refine ww_aload_n (pc := 0) hC 0 rfl dX6_fault_0 rfl ?_
  refine ww_getr (pc := 1) (Cl := RX6) (T := TX6) (N := 10) (j := 1) (ref := RX6) hC (hT 0 _ rfl) rfl inT_X6 (by decide) mw_299 rfl rfl dX6_fault_1 ?_
  refine ww_geti (pc := 4) (Cl := RX5) (T := TX5) (N := 3) (j := 0) (ref := RX5) hC ((ww_top_teller hT) 0 _ rfl) rfl inT_X5 (by decide) mw_122 rfl rfl dX6_fault_4 ?_
  exact ww_ireturn (pc := 7) hC hR dX6_fault_7 rfl
theorem dX6_rule_0 : decode cX6_rule 0 = .ok (.iload_n 1, 1) := by decide +kernel
theorem dX6_rule_1 : decode cX6_rule 1 = .ok (.tableswitch 99 0 6 #[43, 51, 59, 67, 75, 83, 91], 43) := by decide +kernel
theorem dX6_rule_44 : decode cX6_rule 44 = .ok (.aload_n 0, 1) := by decide +kernel
theorem dX6_rule_45 : decode cX6_rule 45 = .ok (.getfield 26, 3) := by decide +kernel
theorem dX6_rule_48 : decode cX6_rule 48 = .ok (.getfield 94, 3) := by decide +kernel
theorem dX6_rule_51 : decode cX6_rule 51 = .ok (.ireturn, 1) := by decide +kernel
theorem dX6_rule_52 : decode cX6_rule 52 = .ok (.aload_n 0, 1) := by decide +kernel
theorem dX6_rule_53 : decode cX6_rule 53 = .ok (.getfield 26, 3) := by decide +kernel
theorem dX6_rule_56 : decode cX6_rule 56 = .ok (.getfield 97, 3) := by decide +kernel
theorem dX6_rule_59 : decode cX6_rule 59 = .ok (.ireturn, 1) := by decide +kernel
theorem dX6_rule_60 : decode cX6_rule 60 = .ok (.aload_n 0, 1) := by decide +kernel
theorem dX6_rule_61 : decode cX6_rule 61 = .ok (.getfield 26, 3) := by decide +kernel
theorem dX6_rule_64 : decode cX6_rule 64 = .ok (.getfield 100, 3) := by decide +kernel
theorem dX6_rule_67 : decode cX6_rule 67 = .ok (.ireturn, 1) := by decide +kernel
theorem dX6_rule_68 : decode cX6_rule 68 = .ok (.aload_n 0, 1) := by decide +kernel
theorem dX6_rule_69 : decode cX6_rule 69 = .ok (.getfield 26, 3) := by decide +kernel
theorem dX6_rule_72 : decode cX6_rule 72 = .ok (.getfield 103, 3) := by decide +kernel
theorem dX6_rule_75 : decode cX6_rule 75 = .ok (.ireturn, 1) := by decide +kernel
theorem dX6_rule_76 : decode cX6_rule 76 = .ok (.aload_n 0, 1) := by decide +kernel
theorem dX6_rule_77 : decode cX6_rule 77 = .ok (.getfield 26, 3) := by decide +kernel
theorem dX6_rule_80 : decode cX6_rule 80 = .ok (.getfield 106, 3) := by decide +kernel
theorem dX6_rule_83 : decode cX6_rule 83 = .ok (.ireturn, 1) := by decide +kernel
theorem dX6_rule_84 : decode cX6_rule 84 = .ok (.aload_n 0, 1) := by decide +kernel
theorem dX6_rule_85 : decode cX6_rule 85 = .ok (.getfield 26, 3) := by decide +kernel
theorem dX6_rule_88 : decode cX6_rule 88 = .ok (.getfield 109, 3) := by decide +kernel
theorem dX6_rule_91 : decode cX6_rule 91 = .ok (.ireturn, 1) := by decide +kernel
theorem dX6_rule_92 : decode cX6_rule 92 = .ok (.aload_n 0, 1) := by decide +kernel
theorem dX6_rule_93 : decode cX6_rule 93 = .ok (.getfield 26, 3) := by decide +kernel
theorem dX6_rule_96 : decode cX6_rule 96 = .ok (.getfield 112, 3) := by decide +kernel
theorem dX6_rule_99 : decode cX6_rule 99 = .ok (.ireturn, 1) := by decide +kernel
theorem dX6_rule_100 : decode cX6_rule 100 = .ok (.iconst (-1), 1) := by decide +kernel
theorem dX6_rule_101 : decode cX6_rule 101 = .ok (.ireturn, 1) := by decide +kernel
set_option maxHeartbeats 4000000 in
set_option maxRecDepth 100000 in
theorem c_X6_rule {l : Launch} {Y : ww_Y} {ad : Nat → Nat} {G : List ww_L} (hT : ww_at G 0 ww_LTop) (σ : ww_M) (p1 : Int32) : ww_Cn l Y ad G yX6_rule cX6_rule 2 (some .int) 1 [.ref (ad 0), .int p1] σ ((f_X6_rule σ p1).bind (ww_ri σ)) := by
  refine ww_met (by decide +kernel) (Nat.le_of_ble_eq_true rfl) ?_
  intro X hC hR
  have hC : ww_C X l Y ad G 1 cX6_rule 2 RX6 := hC
  show ww_V X Y ad G 2 σ 0 [(0, .ref (ad 0)), (1, .int p1)] [] ((f_X6_rule σ p1).bind (ww_ri σ))
  unfold f_X6_rule
  refine ww_iload_n (pc := 0) hC 1 rfl dX6_rule_0 rfl ?_
  refine ww_tab (pc := 1) (tgt := 44) hC 0 dX6_rule_1 (by decide) (by decide) rfl (by decide) ?_ (fun q1_0 => ?_)
  · refine ww_aload_n (pc := 44) hC 0 rfl dX6_rule_44 rfl ?_
    refine ww_getr (pc := 45) (Cl := RX6) (T := TX6) (N := 10) (j := 2) (ref := RX6) hC (hT 0 _ rfl) rfl inT_X6 (by decide) mw_300 rfl rfl dX6_rule_45 ?_
    refine ww_geti (pc := 48) (Cl := RX2) (T := TX2) (N := 17) (j := 9) (ref := RX2) hC ((ww_top_now hT) 0 _ rfl) rfl inT_X2 (by decide) mw_160 rfl rfl dX6_rule_48 ?_
    exact ww_ireturn (pc := 51) hC hR dX6_rule_51 rfl
  refine ww_tab (pc := 1) (tgt := 52) hC 1 dX6_rule_1 (by decide) (by decide) rfl (by decide) ?_ (fun q1_1 => ?_)
  · refine ww_aload_n (pc := 52) hC 0 rfl dX6_rule_52 rfl ?_
    refine ww_getr (pc := 53) (Cl := RX6) (T := TX6) (N := 10) (j := 2) (ref := RX6) hC (hT 0 _ rfl) rfl inT_X6 (by decide) mw_300 rfl rfl dX6_rule_53 ?_
    refine ww_geti (pc := 56) (Cl := RX2) (T := TX2) (N := 17) (j := 10) (ref := RX2) hC ((ww_top_now hT) 0 _ rfl) rfl inT_X2 (by decide) mw_164 rfl rfl dX6_rule_56 ?_
    exact ww_ireturn (pc := 59) hC hR dX6_rule_59 rfl
  refine ww_tab (pc := 1) (tgt := 60) hC 2 dX6_rule_1 (by decide) (by decide) rfl (by decide) ?_ (fun q1_2 => ?_)
  · refine ww_aload_n (pc := 60) hC 0 rfl dX6_rule_60 rfl ?_
    refine ww_getr (pc := 61) (Cl := RX6) (T := TX6) (N := 10) (j := 2) (ref := RX6) hC (hT 0 _ rfl) rfl inT_X6 (by decide) mw_300 rfl rfl dX6_rule_61 ?_
    refine ww_geti (pc := 64) (Cl := RX2) (T := TX2) (N := 17) (j := 11) (ref := RX2) hC ((ww_top_now hT) 0 _ rfl) rfl inT_X2 (by decide) mw_166 rfl rfl dX6_rule_64 ?_
    exact ww_ireturn (pc := 67) hC hR dX6_rule_67 rfl
  refine ww_tab (pc := 1) (tgt := 68) hC 3 dX6_rule_1 (by decide) (by decide) rfl (by decide) ?_ (fun q1_3 => ?_)
  · refine ww_aload_n (pc := 68) hC 0 rfl dX6_rule_68 rfl ?_
    refine ww_getr (pc := 69) (Cl := RX6) (T := TX6) (N := 10) (j := 2) (ref := RX6) hC (hT 0 _ rfl) rfl inT_X6 (by decide) mw_300 rfl rfl dX6_rule_69 ?_
    refine ww_geti (pc := 72) (Cl := RX2) (T := TX2) (N := 17) (j := 12) (ref := RX2) hC ((ww_top_now hT) 0 _ rfl) rfl inT_X2 (by decide) mw_169 rfl rfl dX6_rule_72 ?_
    exact ww_ireturn (pc := 75) hC hR dX6_rule_75 rfl
  refine ww_tab (pc := 1) (tgt := 76) hC 4 dX6_rule_1 (by decide) (by decide) rfl (by decide) ?_ (fun q1_4 => ?_)
  · refine ww_aload_n (pc := 76) hC 0 rfl dX6_rule_76 rfl ?_
    refine ww_getr (pc := 77) (Cl := RX6) (T := TX6) (N := 10) (j := 2) (ref := RX6) hC (hT 0 _ rfl) rfl inT_X6 (by decide) mw_300 rfl rfl dX6_rule_77 ?_
    refine ww_geti (pc := 80) (Cl := RX2) (T := TX2) (N := 17) (j := 13) (ref := RX2) hC ((ww_top_now hT) 0 _ rfl) rfl inT_X2 (by decide) mw_172 rfl rfl dX6_rule_80 ?_
    exact ww_ireturn (pc := 83) hC hR dX6_rule_83 rfl
  refine ww_tab (pc := 1) (tgt := 84) hC 5 dX6_rule_1 (by decide) (by decide) rfl (by decide) ?_ (fun q1_5 => ?_)
  · refine ww_aload_n (pc := 84) hC 0 rfl dX6_rule_84 rfl ?_
    refine ww_getr (pc := 85) (Cl := RX6) (T := TX6) (N := 10) (j := 2) (ref := RX6) hC (hT 0 _ rfl) rfl inT_X6 (by decide) mw_300 rfl rfl dX6_rule_85 ?_
    refine ww_geti (pc := 88) (Cl := RX2) (T := TX2) (N := 17) (j := 14) (ref := RX2) hC ((ww_top_now hT) 0 _ rfl) rfl inT_X2 (by decide) mw_176 rfl rfl dX6_rule_88 ?_
    exact ww_ireturn (pc := 91) hC hR dX6_rule_91 rfl
  refine ww_tab (pc := 1) (tgt := 92) hC 6 dX6_rule_1 (by decide) (by decide) rfl (by decide) ?_ (fun q1_6 => ?_)
  · refine ww_aload_n (pc := 92) hC 0 rfl dX6_rule_92 rfl ?_
    refine ww_getr (pc := 93) (Cl := RX6) (T := TX6) (N := 10) (j := 2) (ref := RX6) hC (hT 0 _ rfl) rfl inT_X6 (by decide) mw_300 rfl rfl dX6_rule_93 ?_
    refine ww_geti (pc := 96) (Cl := RX2) (T := TX2) (N := 17) (j := 15) (ref := RX2) hC ((ww_top_now hT) 0 _ rfl) rfl inT_X2 (by decide) mw_180 rfl rfl dX6_rule_96 ?_
    exact ww_ireturn (pc := 99) hC hR dX6_rule_99 rfl
  have z1_0 : p1.toInt ≠ (0 : Int) := ww_nei q1_0
  have z1_1 : p1.toInt ≠ (1 : Int) := ww_nei q1_1
  have z1_2 : p1.toInt ≠ (2 : Int) := ww_nei q1_2
  have z1_3 : p1.toInt ≠ (3 : Int) := ww_nei q1_3
  have z1_4 : p1.toInt ≠ (4 : Int) := ww_nei q1_4
  have z1_5 : p1.toInt ≠ (5 : Int) := ww_nei q1_5
  have z1_6 : p1.toInt ≠ (6 : Int) := ww_nei q1_6
  refine ww_tabD (pc := 1) (tgt := 100) hC dX6_rule_1 (by omega) (by decide) ?_
  refine ww_iconst (pc := 100) (v := (-1)) hC dX6_rule_100 rfl ?_
  exact ww_ireturn (pc := 101) hC hR dX6_rule_101 rfl
theorem dX6_place_0 : decode cX6_place 0 = .ok (.aload_n 0, 1) := by decide +kernel
theorem dX6_place_1 : decode cX6_place 1 = .ok (.getfield 26, 3) := by decide +kernel
theorem dX6_place_4 : decode cX6_place 4 = .ok (.iload_n 1, 1) := by decide +kernel
theorem dX6_place_5 : decode cX6_place 5 = .ok (.invokevirtual 115, 3) := by decide +kernel
theorem dX6_place_8 : decode cX6_place 8 = .ok (.ifCond .ne 5, 3) := by decide +kernel
theorem dX6_place_11 : decode cX6_place 11 = .ok (.iconst (-1), 1) := by decide +kernel
theorem dX6_place_12 : decode cX6_place 12 = .ok (.ireturn, 1) := by decide +kernel
theorem dX6_place_13 : decode cX6_place 13 = .ok (.iload_n 2, 1) := by decide +kernel
theorem dX6_place_14 : decode cX6_place 14 = .ok (.lookupswitch 46 #[(0, 26), (1, 36)], 26) := by decide +kernel
theorem dX6_place_40 : decode cX6_place 40 = .ok (.aload_n 0, 1) := by decide +kernel
theorem dX6_place_41 : decode cX6_place 41 = .ok (.getfield 26, 3) := by decide +kernel
theorem dX6_place_44 : decode cX6_place 44 = .ok (.getfield 118, 3) := by decide +kernel
theorem dX6_place_47 : decode cX6_place 47 = .ok (.iload_n 1, 1) := by decide +kernel
theorem dX6_place_48 : decode cX6_place 48 = .ok (.iaload, 1) := by decide +kernel
theorem dX6_place_49 : decode cX6_place 49 = .ok (.ireturn, 1) := by decide +kernel
theorem dX6_place_50 : decode cX6_place 50 = .ok (.aload_n 0, 1) := by decide +kernel
theorem dX6_place_51 : decode cX6_place 51 = .ok (.getfield 26, 3) := by decide +kernel
theorem dX6_place_54 : decode cX6_place 54 = .ok (.getfield 122, 3) := by decide +kernel
theorem dX6_place_57 : decode cX6_place 57 = .ok (.iload_n 1, 1) := by decide +kernel
theorem dX6_place_58 : decode cX6_place 58 = .ok (.iaload, 1) := by decide +kernel
theorem dX6_place_59 : decode cX6_place 59 = .ok (.ireturn, 1) := by decide +kernel
theorem dX6_place_60 : decode cX6_place 60 = .ok (.iconst (-1), 1) := by decide +kernel
theorem dX6_place_61 : decode cX6_place 61 = .ok (.ireturn, 1) := by decide +kernel
set_option maxHeartbeats 4000000 in
set_option maxRecDepth 100000 in
theorem c_X6_place {l : Launch} {Y : ww_Y} {ad : Nat → Nat} {G : List ww_L} (hT : ww_at G 0 ww_LTop) (σ : ww_M) (p1 : Int32) (p2 : Int32) : ww_Cn l Y ad G yX6_place cX6_place 3 (some .int) 3 [.ref (ad 0), .int p1, .int p2] σ ((f_X6_place σ p1 p2).bind (ww_ri σ)) := by
  refine ww_met (by decide +kernel) (Nat.le_of_ble_eq_true rfl) ?_
  intro X hC hR
  have hC : ww_C X l Y ad G 3 cX6_place 3 RX6 := hC
  show ww_V X Y ad G 3 σ 0 [(0, .ref (ad 0)), (1, .int p1), (2, .int p2)] [] ((f_X6_place σ p1 p2).bind (ww_ri σ))
  unfold f_X6_place
  refine ww_aload_n (pc := 0) hC 0 rfl dX6_place_0 rfl ?_
  refine ww_getr (pc := 1) (Cl := RX6) (T := TX6) (N := 10) (j := 2) (ref := RX6) hC (hT 0 _ rfl) rfl inT_X6 (by decide) mw_300 rfl rfl dX6_place_1 ?_
  refine ww_iload_n (pc := 4) hC 1 rfl dX6_place_4 rfl ?_
  refine ww_callVi (pc := 5) (st := []) (As := [.int p1]) hC (c_X2_hasPlace 4 (ww_top_now hT) σ p1) mm_X2_hasPlace mw_539 ((ww_top_now hT) 0 _ rfl) rfl (by omega) (by decide) (Nat.le_of_ble_eq_true rfl) rfl dX6_place_5 (fun v5 => ?_)
  refine ww_if_ne (pc := 8) (tgt := 13) hC dX6_place_8 (by decide) ?_ ?_
  · refine ww_iload_n (pc := 13) hC 2 rfl dX6_place_13 rfl ?_
    refine ww_look (pc := 14) (tgt := 40) (off := 26) hC 0 dX6_place_14 (by decide) (by decide) (by decide) ?_ (fun q14_0 => ?_)
    · refine ww_aload_n (pc := 40) hC 0 rfl dX6_place_40 rfl ?_
      refine ww_getr (pc := 41) (Cl := RX6) (T := TX6) (N := 10) (j := 2) (ref := RX6) hC (hT 0 _ rfl) rfl inT_X6 (by decide) mw_300 rfl rfl dX6_place_41 ?_
      refine ww_getr (pc := 44) (Cl := RX2) (T := TX2) (N := 17) (j := 0) (ref := RX2) hC ((ww_top_now hT) 0 _ rfl) rfl inT_X2 (by decide) mw_140 rfl rfl dX6_place_44 ?_
      refine ww_iload_n (pc := 47) hC 1 rfl dX6_place_47 rfl ?_
      refine ww_iald (pc := 48) hC ((ww_top_now hT) 1 _ rfl) dX6_place_48 ?_
      exact ww_ireturn (pc := 49) hC hR dX6_place_49 rfl
    refine ww_look (pc := 14) (tgt := 50) (off := 36) hC 1 dX6_place_14 (by decide) (by decide) (by decide) ?_ (fun q14_1 => ?_)
    · refine ww_aload_n (pc := 50) hC 0 rfl dX6_place_50 rfl ?_
      refine ww_getr (pc := 51) (Cl := RX6) (T := TX6) (N := 10) (j := 2) (ref := RX6) hC (hT 0 _ rfl) rfl inT_X6 (by decide) mw_300 rfl rfl dX6_place_51 ?_
      refine ww_getr (pc := 54) (Cl := RX2) (T := TX2) (N := 17) (j := 1) (ref := RX2) hC ((ww_top_now hT) 0 _ rfl) rfl inT_X2 (by decide) mw_142 rfl rfl dX6_place_54 ?_
      refine ww_iload_n (pc := 57) hC 1 rfl dX6_place_57 rfl ?_
      refine ww_iald (pc := 58) hC ((ww_top_now hT) 2 _ rfl) dX6_place_58 ?_
      exact ww_ireturn (pc := 59) hC hR dX6_place_59 rfl
    have z14_0 : ¬ (0 : Int) = p2.toInt := fun e => ww_nei q14_0 e.symm
    have z14_1 : ¬ (1 : Int) = p2.toInt := fun e => ww_nei q14_1 e.symm
    refine ww_lookD (pc := 14) (tgt := 60) hC dX6_place_14 (by decide) (by simp [Op.lookupswitch.offset, z14_0, z14_1]) (by decide) ?_
    refine ww_iconst (pc := 60) (v := (-1)) hC dX6_place_60 rfl ?_
    exact ww_ireturn (pc := 61) hC hR dX6_place_61 rfl
  · refine ww_iconst (pc := 11) (v := (-1)) hC dX6_place_11 rfl ?_
    exact ww_ireturn (pc := 12) hC hR dX6_place_12 rfl
theorem dX6_level_0 : decode cX6_level 0 = .ok (.iload_n 1, 1) := by decide +kernel
theorem dX6_level_1 : decode cX6_level 1 = .ok (.iconst 0, 1) := by decide +kernel
theorem dX6_level_2 : decode cX6_level 2 = .ok (.sipush 999, 3) := by decide +kernel
theorem dX6_level_5 : decode cX6_level 5 = .ok (.invokestatic 61, 3) := by decide +kernel
theorem dX6_level_8 : decode cX6_level 8 = .ok (.ifCond .eq 14, 3) := by decide +kernel
theorem dX6_level_11 : decode cX6_level 11 = .ok (.aload_n 0, 1) := by decide +kernel
theorem dX6_level_12 : decode cX6_level 12 = .ok (.getfield 26, 3) := by decide +kernel
theorem dX6_level_15 : decode cX6_level 15 = .ok (.iload_n 1, 1) := by decide +kernel
theorem dX6_level_16 : decode cX6_level 16 = .ok (.invokevirtual 125, 3) := by decide +kernel
theorem dX6_level_19 : decode cX6_level 19 = .ok (.goto 4, 3) := by decide +kernel
theorem dX6_level_22 : decode cX6_level 22 = .ok (.iconst (-1), 1) := by decide +kernel
theorem dX6_level_23 : decode cX6_level 23 = .ok (.ireturn, 1) := by decide +kernel
set_option maxHeartbeats 4000000 in
set_option maxRecDepth 100000 in
theorem c_X6_level {l : Launch} {Y : ww_Y} {ad : Nat → Nat} {G : List ww_L} (hT : ww_at G 0 ww_LTop) (σ : ww_M) (p1 : Int32) : ww_Cn l Y ad G yX6_level cX6_level 2 (some .int) 3 [.ref (ad 0), .int p1] σ ((f_X6_level σ p1).bind (ww_ri σ)) := by
  refine ww_met (by decide +kernel) (Nat.le_of_ble_eq_true rfl) ?_
  intro X hC hR
  have hC : ww_C X l Y ad G 3 cX6_level 2 RX6 := hC
  show ww_V X Y ad G 2 σ 0 [(0, .ref (ad 0)), (1, .int p1)] [] ((f_X6_level σ p1).bind (ww_ri σ))
  unfold f_X6_level
  refine ww_iload_n (pc := 0) hC 1 rfl dX6_level_0 rfl ?_
  refine ww_iconst (pc := 1) (v := 0) hC dX6_level_1 rfl ?_
  refine ww_sipush (pc := 2) (v := 999) hC dX6_level_2 rfl ?_
  refine ww_callSi (pc := 5) (st := []) (As := [.int p1, .int 0, .int 999]) hC (c_X6_within σ p1 0 999) mm_X6_within mw_333 (by omega) (by decide) (Nat.le_of_ble_eq_true rfl) rfl dX6_level_5 (fun v5 => ?_)
  refine ww_if_eq (pc := 8) (tgt := 22) hC dX6_level_8 (by decide) ?_ ?_
  · refine ww_iconst (pc := 22) (v := (-1)) hC dX6_level_22 rfl ?_
    exact ww_ireturn (pc := 23) hC hR dX6_level_23 rfl
  · refine ww_aload_n (pc := 11) hC 0 rfl dX6_level_11 rfl ?_
    refine ww_getr (pc := 12) (Cl := RX6) (T := TX6) (N := 10) (j := 2) (ref := RX6) hC (hT 0 _ rfl) rfl inT_X6 (by decide) mw_300 rfl rfl dX6_level_12 ?_
    refine ww_iload_n (pc := 15) hC 1 rfl dX6_level_15 rfl ?_
    refine ww_callVi (pc := 16) (st := []) (As := [.int p1]) hC (c_X2_levelIn 4 (ww_top_now hT) σ p1) mm_X2_levelIn mw_547 ((ww_top_now hT) 0 _ rfl) rfl (by omega) (by decide) (Nat.le_of_ble_eq_true rfl) rfl dX6_level_16 (fun v16 => ?_)
    refine ww_goto (pc := 19) (tgt := 23) hC dX6_level_19 (by decide) ?_
    exact ww_ireturn (pc := 23) hC hR dX6_level_23 rfl
theorem dX6_beast_0 : decode cX6_beast 0 = .ok (.aload_n 0, 1) := by decide +kernel
theorem dX6_beast_1 : decode cX6_beast 1 = .ok (.getfield 26, 3) := by decide +kernel
theorem dX6_beast_4 : decode cX6_beast 4 = .ok (.iload_n 1, 1) := by decide +kernel
theorem dX6_beast_5 : decode cX6_beast 5 = .ok (.invokevirtual 129, 3) := by decide +kernel
theorem dX6_beast_8 : decode cX6_beast 8 = .ok (.ifCond .ne 5, 3) := by decide +kernel
theorem dX6_beast_11 : decode cX6_beast 11 = .ok (.iconst (-1), 1) := by decide +kernel
theorem dX6_beast_12 : decode cX6_beast 12 = .ok (.ireturn, 1) := by decide +kernel
theorem dX6_beast_13 : decode cX6_beast 13 = .ok (.iload_n 2, 1) := by decide +kernel
theorem dX6_beast_14 : decode cX6_beast 14 = .ok (.tableswitch 63 0 2 #[26, 36, 46], 26) := by decide +kernel
theorem dX6_beast_40 : decode cX6_beast 40 = .ok (.aload_n 0, 1) := by decide +kernel
theorem dX6_beast_41 : decode cX6_beast 41 = .ok (.getfield 26, 3) := by decide +kernel
theorem dX6_beast_44 : decode cX6_beast 44 = .ok (.getfield 132, 3) := by decide +kernel
theorem dX6_beast_47 : decode cX6_beast 47 = .ok (.iload_n 1, 1) := by decide +kernel
theorem dX6_beast_48 : decode cX6_beast 48 = .ok (.iaload, 1) := by decide +kernel
theorem dX6_beast_49 : decode cX6_beast 49 = .ok (.ireturn, 1) := by decide +kernel
theorem dX6_beast_50 : decode cX6_beast 50 = .ok (.aload_n 0, 1) := by decide +kernel
theorem dX6_beast_51 : decode cX6_beast 51 = .ok (.getfield 26, 3) := by decide +kernel
theorem dX6_beast_54 : decode cX6_beast 54 = .ok (.getfield 135, 3) := by decide +kernel
theorem dX6_beast_57 : decode cX6_beast 57 = .ok (.iload_n 1, 1) := by decide +kernel
theorem dX6_beast_58 : decode cX6_beast 58 = .ok (.iaload, 1) := by decide +kernel
theorem dX6_beast_59 : decode cX6_beast 59 = .ok (.ireturn, 1) := by decide +kernel
theorem dX6_beast_60 : decode cX6_beast 60 = .ok (.aload_n 0, 1) := by decide +kernel
theorem dX6_beast_61 : decode cX6_beast 61 = .ok (.getfield 26, 3) := by decide +kernel
theorem dX6_beast_64 : decode cX6_beast 64 = .ok (.iload_n 1, 1) := by decide +kernel
theorem dX6_beast_65 : decode cX6_beast 65 = .ok (.invokevirtual 138, 3) := by decide +kernel
theorem dX6_beast_68 : decode cX6_beast 68 = .ok (.ifCond .eq 7, 3) := by decide +kernel
theorem dX6_beast_71 : decode cX6_beast 71 = .ok (.iconst 1, 1) := by decide +kernel
theorem dX6_beast_72 : decode cX6_beast 72 = .ok (.goto 4, 3) := by decide +kernel
theorem dX6_beast_75 : decode cX6_beast 75 = .ok (.iconst 0, 1) := by decide +kernel
theorem dX6_beast_76 : decode cX6_beast 76 = .ok (.ireturn, 1) := by decide +kernel
theorem dX6_beast_77 : decode cX6_beast 77 = .ok (.iconst (-1), 1) := by decide +kernel
theorem dX6_beast_78 : decode cX6_beast 78 = .ok (.ireturn, 1) := by decide +kernel
set_option maxHeartbeats 4000000 in
set_option maxRecDepth 100000 in
theorem c_X6_beast {l : Launch} {Y : ww_Y} {ad : Nat → Nat} {G : List ww_L} (hT : ww_at G 0 ww_LTop) (σ : ww_M) (p1 : Int32) (p2 : Int32) : ww_Cn l Y ad G yX6_beast cX6_beast 3 (some .int) 3 [.ref (ad 0), .int p1, .int p2] σ ((f_X6_beast σ p1 p2).bind (ww_ri σ)) := by
  refine ww_met (by decide +kernel) (Nat.le_of_ble_eq_true rfl) ?_
  intro X hC hR
  have hC : ww_C X l Y ad G 3 cX6_beast 3 RX6 := hC
  show ww_V X Y ad G 3 σ 0 [(0, .ref (ad 0)), (1, .int p1), (2, .int p2)] [] ((f_X6_beast σ p1 p2).bind (ww_ri σ))
  unfold f_X6_beast
  refine ww_aload_n (pc := 0) hC 0 rfl dX6_beast_0 rfl ?_
  refine ww_getr (pc := 1) (Cl := RX6) (T := TX6) (N := 10) (j := 2) (ref := RX6) hC (hT 0 _ rfl) rfl inT_X6 (by decide) mw_300 rfl rfl dX6_beast_1 ?_
  refine ww_iload_n (pc := 4) hC 1 rfl dX6_beast_4 rfl ?_
  refine ww_callVi (pc := 5) (st := []) (As := [.int p1]) hC (c_X2_hasBeast 4 (ww_top_now hT) σ p1) mm_X2_hasBeast mw_552 ((ww_top_now hT) 0 _ rfl) rfl (by omega) (by decide) (Nat.le_of_ble_eq_true rfl) rfl dX6_beast_5 (fun v5 => ?_)
  refine ww_if_ne (pc := 8) (tgt := 13) hC dX6_beast_8 (by decide) ?_ ?_
  · refine ww_iload_n (pc := 13) hC 2 rfl dX6_beast_13 rfl ?_
    refine ww_tab (pc := 14) (tgt := 40) hC 0 dX6_beast_14 (by decide) (by decide) rfl (by decide) ?_ (fun q14_0 => ?_)
    · refine ww_aload_n (pc := 40) hC 0 rfl dX6_beast_40 rfl ?_
      refine ww_getr (pc := 41) (Cl := RX6) (T := TX6) (N := 10) (j := 2) (ref := RX6) hC (hT 0 _ rfl) rfl inT_X6 (by decide) mw_300 rfl rfl dX6_beast_41 ?_
      refine ww_getr (pc := 44) (Cl := RX2) (T := TX2) (N := 17) (j := 3) (ref := RX2) hC ((ww_top_now hT) 0 _ rfl) rfl inT_X2 (by decide) mw_145 rfl rfl dX6_beast_44 ?_
      refine ww_iload_n (pc := 47) hC 1 rfl dX6_beast_47 rfl ?_
      refine ww_iald (pc := 48) hC ((ww_top_now hT) 4 _ rfl) dX6_beast_48 ?_
      exact ww_ireturn (pc := 49) hC hR dX6_beast_49 rfl
    refine ww_tab (pc := 14) (tgt := 50) hC 1 dX6_beast_14 (by decide) (by decide) rfl (by decide) ?_ (fun q14_1 => ?_)
    · refine ww_aload_n (pc := 50) hC 0 rfl dX6_beast_50 rfl ?_
      refine ww_getr (pc := 51) (Cl := RX6) (T := TX6) (N := 10) (j := 2) (ref := RX6) hC (hT 0 _ rfl) rfl inT_X6 (by decide) mw_300 rfl rfl dX6_beast_51 ?_
      refine ww_getr (pc := 54) (Cl := RX2) (T := TX2) (N := 17) (j := 4) (ref := RX2) hC ((ww_top_now hT) 0 _ rfl) rfl inT_X2 (by decide) mw_148 rfl rfl dX6_beast_54 ?_
      refine ww_iload_n (pc := 57) hC 1 rfl dX6_beast_57 rfl ?_
      refine ww_iald (pc := 58) hC ((ww_top_now hT) 5 _ rfl) dX6_beast_58 ?_
      exact ww_ireturn (pc := 59) hC hR dX6_beast_59 rfl
    refine ww_tab (pc := 14) (tgt := 60) hC 2 dX6_beast_14 (by decide) (by decide) rfl (by decide) ?_ (fun q14_2 => ?_)
    · refine ww_aload_n (pc := 60) hC 0 rfl dX6_beast_60 rfl ?_
      refine ww_getr (pc := 61) (Cl := RX6) (T := TX6) (N := 10) (j := 2) (ref := RX6) hC (hT 0 _ rfl) rfl inT_X6 (by decide) mw_300 rfl rfl dX6_beast_61 ?_
      refine ww_iload_n (pc := 64) hC 1 rfl dX6_beast_64 rfl ?_
      refine ww_callVi (pc := 65) (st := []) (As := [.int p1]) hC (c_X2_isLost 4 (ww_top_now hT) σ p1) mm_X2_isLost mw_556 ((ww_top_now hT) 0 _ rfl) rfl (by omega) (by decide) (Nat.le_of_ble_eq_true rfl) rfl dX6_beast_65 (fun v65 => ?_)
      refine ww_if_eq (pc := 68) (tgt := 75) hC dX6_beast_68 (by decide) ?_ ?_
      · refine ww_iconst (pc := 75) (v := 0) hC dX6_beast_75 rfl ?_
        exact ww_ireturn (pc := 76) hC hR dX6_beast_76 rfl
      · refine ww_iconst (pc := 71) (v := 1) hC dX6_beast_71 rfl ?_
        refine ww_goto (pc := 72) (tgt := 76) hC dX6_beast_72 (by decide) ?_
        exact ww_ireturn (pc := 76) hC hR dX6_beast_76 rfl
    have z14_0 : p2.toInt ≠ (0 : Int) := ww_nei q14_0
    have z14_1 : p2.toInt ≠ (1 : Int) := ww_nei q14_1
    have z14_2 : p2.toInt ≠ (2 : Int) := ww_nei q14_2
    refine ww_tabD (pc := 14) (tgt := 77) hC dX6_beast_14 (by omega) (by decide) ?_
    refine ww_iconst (pc := 77) (v := (-1)) hC dX6_beast_77 rfl ?_
    exact ww_ireturn (pc := 78) hC hR dX6_beast_78 rfl
  · refine ww_iconst (pc := 11) (v := (-1)) hC dX6_beast_11 rfl ?_
    exact ww_ireturn (pc := 12) hC hR dX6_beast_12 rfl
theorem dX6_part_0 : decode cX6_part 0 = .ok (.aload_n 0, 1) := by decide +kernel
theorem dX6_part_1 : decode cX6_part 1 = .ok (.getfield 26, 3) := by decide +kernel
theorem dX6_part_4 : decode cX6_part 4 = .ok (.iload_n 1, 1) := by decide +kernel
theorem dX6_part_5 : decode cX6_part 5 = .ok (.invokevirtual 141, 3) := by decide +kernel
theorem dX6_part_8 : decode cX6_part 8 = .ok (.istore_n 3, 1) := by decide +kernel
theorem dX6_part_9 : decode cX6_part 9 = .ok (.iload_n 3, 1) := by decide +kernel
theorem dX6_part_10 : decode cX6_part 10 = .ok (.iconst (-1), 1) := by decide +kernel
theorem dX6_part_11 : decode cX6_part 11 = .ok (.if_icmp .ne 5, 3) := by decide +kernel
theorem dX6_part_14 : decode cX6_part 14 = .ok (.iconst (-1), 1) := by decide +kernel
theorem dX6_part_15 : decode cX6_part 15 = .ok (.ireturn, 1) := by decide +kernel
theorem dX6_part_16 : decode cX6_part 16 = .ok (.iload_n 2, 1) := by decide +kernel
theorem dX6_part_17 : decode cX6_part 17 = .ok (.tableswitch 125 0 5 #[39, 49, 59, 69, 92, 109], 39) := by decide +kernel
theorem dX6_part_56 : decode cX6_part 56 = .ok (.aload_n 0, 1) := by decide +kernel
theorem dX6_part_57 : decode cX6_part 57 = .ok (.getfield 26, 3) := by decide +kernel
theorem dX6_part_60 : decode cX6_part 60 = .ok (.getfield 144, 3) := by decide +kernel
theorem dX6_part_63 : decode cX6_part 63 = .ok (.iload_n 3, 1) := by decide +kernel
theorem dX6_part_64 : decode cX6_part 64 = .ok (.iaload, 1) := by decide +kernel
theorem dX6_part_65 : decode cX6_part 65 = .ok (.ireturn, 1) := by decide +kernel
theorem dX6_part_66 : decode cX6_part 66 = .ok (.aload_n 0, 1) := by decide +kernel
theorem dX6_part_67 : decode cX6_part 67 = .ok (.getfield 26, 3) := by decide +kernel
theorem dX6_part_70 : decode cX6_part 70 = .ok (.getfield 147, 3) := by decide +kernel
theorem dX6_part_73 : decode cX6_part 73 = .ok (.iload_n 3, 1) := by decide +kernel
theorem dX6_part_74 : decode cX6_part 74 = .ok (.iaload, 1) := by decide +kernel
theorem dX6_part_75 : decode cX6_part 75 = .ok (.ireturn, 1) := by decide +kernel
theorem dX6_part_76 : decode cX6_part 76 = .ok (.aload_n 0, 1) := by decide +kernel
theorem dX6_part_77 : decode cX6_part 77 = .ok (.getfield 26, 3) := by decide +kernel
theorem dX6_part_80 : decode cX6_part 80 = .ok (.getfield 150, 3) := by decide +kernel
theorem dX6_part_83 : decode cX6_part 83 = .ok (.iload_n 3, 1) := by decide +kernel
theorem dX6_part_84 : decode cX6_part 84 = .ok (.iaload, 1) := by decide +kernel
theorem dX6_part_85 : decode cX6_part 85 = .ok (.ireturn, 1) := by decide +kernel
theorem dX6_part_86 : decode cX6_part 86 = .ok (.aload_n 0, 1) := by decide +kernel
theorem dX6_part_87 : decode cX6_part 87 = .ok (.getfield 26, 3) := by decide +kernel
theorem dX6_part_90 : decode cX6_part 90 = .ok (.iload_n 3, 1) := by decide +kernel
theorem dX6_part_91 : decode cX6_part 91 = .ok (.aload_n 0, 1) := by decide +kernel
theorem dX6_part_92 : decode cX6_part 92 = .ok (.getfield 26, 3) := by decide +kernel
theorem dX6_part_95 : decode cX6_part 95 = .ok (.getfield 112, 3) := by decide +kernel
theorem dX6_part_98 : decode cX6_part 98 = .ok (.aload_n 0, 1) := by decide +kernel
theorem dX6_part_99 : decode cX6_part 99 = .ok (.getfield 26, 3) := by decide +kernel
theorem dX6_part_102 : decode cX6_part 102 = .ok (.getfield 106, 3) := by decide +kernel
theorem dX6_part_105 : decode cX6_part 105 = .ok (.invokevirtual 153, 3) := by decide +kernel
theorem dX6_part_108 : decode cX6_part 108 = .ok (.ireturn, 1) := by decide +kernel
theorem dX6_part_109 : decode cX6_part 109 = .ok (.aload_n 0, 1) := by decide +kernel
theorem dX6_part_110 : decode cX6_part 110 = .ok (.getfield 26, 3) := by decide +kernel
theorem dX6_part_113 : decode cX6_part 113 = .ok (.iload_n 3, 1) := by decide +kernel
theorem dX6_part_114 : decode cX6_part 114 = .ok (.invokevirtual 157, 3) := by decide +kernel
theorem dX6_part_117 : decode cX6_part 117 = .ok (.ifCond .eq 7, 3) := by decide +kernel
theorem dX6_part_120 : decode cX6_part 120 = .ok (.iconst 1, 1) := by decide +kernel
theorem dX6_part_121 : decode cX6_part 121 = .ok (.goto 4, 3) := by decide +kernel
theorem dX6_part_124 : decode cX6_part 124 = .ok (.iconst 0, 1) := by decide +kernel
theorem dX6_part_125 : decode cX6_part 125 = .ok (.ireturn, 1) := by decide +kernel
theorem dX6_part_126 : decode cX6_part 126 = .ok (.aload_n 0, 1) := by decide +kernel
theorem dX6_part_127 : decode cX6_part 127 = .ok (.getfield 26, 3) := by decide +kernel
theorem dX6_part_130 : decode cX6_part 130 = .ok (.iload_n 3, 1) := by decide +kernel
theorem dX6_part_131 : decode cX6_part 131 = .ok (.aload_n 0, 1) := by decide +kernel
theorem dX6_part_132 : decode cX6_part 132 = .ok (.getfield 26, 3) := by decide +kernel
theorem dX6_part_135 : decode cX6_part 135 = .ok (.getfield 103, 3) := by decide +kernel
theorem dX6_part_138 : decode cX6_part 138 = .ok (.invokevirtual 160, 3) := by decide +kernel
theorem dX6_part_141 : decode cX6_part 141 = .ok (.ireturn, 1) := by decide +kernel
theorem dX6_part_142 : decode cX6_part 142 = .ok (.iconst (-1), 1) := by decide +kernel
theorem dX6_part_143 : decode cX6_part 143 = .ok (.ireturn, 1) := by decide +kernel
set_option maxHeartbeats 4000000 in
set_option maxRecDepth 100000 in
theorem c_X6_part {l : Launch} {Y : ww_Y} {ad : Nat → Nat} {G : List ww_L} (hT : ww_at G 0 ww_LTop) (σ : ww_M) (p1 : Int32) (p2 : Int32) : ww_Cn l Y ad G yX6_part cX6_part 4 (some .int) 5 [.ref (ad 0), .int p1, .int p2] σ ((f_X6_part σ p1 p2).bind (ww_ri σ)) := by
  refine ww_met (by decide +kernel) (Nat.le_of_ble_eq_true rfl) ?_
  intro X hC hR
  have hC : ww_C X l Y ad G 5 cX6_part 4 RX6 := hC
  show ww_V X Y ad G 4 σ 0 [(0, .ref (ad 0)), (1, .int p1), (2, .int p2)] [] ((f_X6_part σ p1 p2).bind (ww_ri σ))
  unfold f_X6_part
  refine ww_aload_n (pc := 0) hC 0 rfl dX6_part_0 rfl ?_
  refine ww_getr (pc := 1) (Cl := RX6) (T := TX6) (N := 10) (j := 2) (ref := RX6) hC (hT 0 _ rfl) rfl inT_X6 (by decide) mw_300 rfl rfl dX6_part_1 ?_
  refine ww_iload_n (pc := 4) hC 1 rfl dX6_part_4 rfl ?_
  refine ww_callVi (pc := 5) (st := []) (As := [.int p1]) hC (c_X2_slotOf 4 (ww_top_now hT) σ p1) mm_X2_slotOf mw_564 ((ww_top_now hT) 0 _ rfl) rfl (by omega) (by decide) (Nat.le_of_ble_eq_true rfl) rfl dX6_part_5 (fun v5 => ?_)
  refine ww_istore_n (pc := 8) (lv' := [(3, .int v5), (0, .ref (ad 0)), (1, .int p1), (2, .int p2)]) hC dX6_part_8 rfl (by decide) rfl ?_
  refine ww_iload_n (pc := 9) hC 0 rfl dX6_part_9 rfl ?_
  refine ww_iconst (pc := 10) (v := (-1)) hC dX6_part_10 rfl ?_
  refine ww_icmp_ne (pc := 11) (tgt := 16) hC dX6_part_11 (by decide) ?_ ?_
  · refine ww_iload_n (pc := 16) hC 3 rfl dX6_part_16 rfl ?_
    refine ww_tab (pc := 17) (tgt := 56) hC 0 dX6_part_17 (by decide) (by decide) rfl (by decide) ?_ (fun q17_0 => ?_)
    · refine ww_aload_n (pc := 56) hC 1 rfl dX6_part_56 rfl ?_
      refine ww_getr (pc := 57) (Cl := RX6) (T := TX6) (N := 10) (j := 2) (ref := RX6) hC (hT 0 _ rfl) rfl inT_X6 (by decide) mw_300 rfl rfl dX6_part_57 ?_
      refine ww_getr (pc := 60) (Cl := RX2) (T := TX2) (N := 17) (j := 5) (ref := RX2) hC ((ww_top_now hT) 0 _ rfl) rfl inT_X2 (by decide) mw_151 rfl rfl dX6_part_60 ?_
      refine ww_iload_n (pc := 63) hC 0 rfl dX6_part_63 rfl ?_
      refine ww_iald (pc := 64) hC ((ww_top_now hT) 6 _ rfl) dX6_part_64 ?_
      exact ww_ireturn (pc := 65) hC hR dX6_part_65 rfl
    refine ww_tab (pc := 17) (tgt := 66) hC 1 dX6_part_17 (by decide) (by decide) rfl (by decide) ?_ (fun q17_1 => ?_)
    · refine ww_aload_n (pc := 66) hC 1 rfl dX6_part_66 rfl ?_
      refine ww_getr (pc := 67) (Cl := RX6) (T := TX6) (N := 10) (j := 2) (ref := RX6) hC (hT 0 _ rfl) rfl inT_X6 (by decide) mw_300 rfl rfl dX6_part_67 ?_
      refine ww_getr (pc := 70) (Cl := RX2) (T := TX2) (N := 17) (j := 6) (ref := RX2) hC ((ww_top_now hT) 0 _ rfl) rfl inT_X2 (by decide) mw_154 rfl rfl dX6_part_70 ?_
      refine ww_iload_n (pc := 73) hC 0 rfl dX6_part_73 rfl ?_
      refine ww_iald (pc := 74) hC ((ww_top_now hT) 7 _ rfl) dX6_part_74 ?_
      exact ww_ireturn (pc := 75) hC hR dX6_part_75 rfl
    refine ww_tab (pc := 17) (tgt := 76) hC 2 dX6_part_17 (by decide) (by decide) rfl (by decide) ?_ (fun q17_2 => ?_)
    · refine ww_aload_n (pc := 76) hC 1 rfl dX6_part_76 rfl ?_
      refine ww_getr (pc := 77) (Cl := RX6) (T := TX6) (N := 10) (j := 2) (ref := RX6) hC (hT 0 _ rfl) rfl inT_X6 (by decide) mw_300 rfl rfl dX6_part_77 ?_
      refine ww_getr (pc := 80) (Cl := RX2) (T := TX2) (N := 17) (j := 7) (ref := RX2) hC ((ww_top_now hT) 0 _ rfl) rfl inT_X2 (by decide) mw_156 rfl rfl dX6_part_80 ?_
      refine ww_iload_n (pc := 83) hC 0 rfl dX6_part_83 rfl ?_
      refine ww_iald (pc := 84) hC ((ww_top_now hT) 8 _ rfl) dX6_part_84 ?_
      exact ww_ireturn (pc := 85) hC hR dX6_part_85 rfl
    refine ww_tab (pc := 17) (tgt := 86) hC 3 dX6_part_17 (by decide) (by decide) rfl (by decide) ?_ (fun q17_3 => ?_)
    · refine ww_aload_n (pc := 86) hC 1 rfl dX6_part_86 rfl ?_
      refine ww_getr (pc := 87) (Cl := RX6) (T := TX6) (N := 10) (j := 2) (ref := RX6) hC (hT 0 _ rfl) rfl inT_X6 (by decide) mw_300 rfl rfl dX6_part_87 ?_
      refine ww_iload_n (pc := 90) hC 0 rfl dX6_part_90 rfl ?_
      refine ww_aload_n (pc := 91) hC 1 rfl dX6_part_91 rfl ?_
      refine ww_getr (pc := 92) (Cl := RX6) (T := TX6) (N := 10) (j := 2) (ref := RX6) hC (hT 0 _ rfl) rfl inT_X6 (by decide) mw_300 rfl rfl dX6_part_92 ?_
      refine ww_geti (pc := 95) (Cl := RX2) (T := TX2) (N := 17) (j := 15) (ref := RX2) hC ((ww_top_now hT) 0 _ rfl) rfl inT_X2 (by decide) mw_180 rfl rfl dX6_part_95 ?_
      refine ww_aload_n (pc := 98) hC 1 rfl dX6_part_98 rfl ?_
      refine ww_getr (pc := 99) (Cl := RX6) (T := TX6) (N := 10) (j := 2) (ref := RX6) hC (hT 0 _ rfl) rfl inT_X6 (by decide) mw_300 rfl rfl dX6_part_99 ?_
      refine ww_geti (pc := 102) (Cl := RX2) (T := TX2) (N := 17) (j := 13) (ref := RX2) hC ((ww_top_now hT) 0 _ rfl) rfl inT_X2 (by decide) mw_172 rfl rfl dX6_part_102 ?_
      refine ww_callVi (pc := 105) (st := []) (As := [.int v5, .int (σ 4 15), .int (σ 4 13)]) hC (c_X2_worthIn 4 (ww_top_now hT) σ v5 (σ 4 15) (σ 4 13)) mm_X2_worthIn mw_569 ((ww_top_now hT) 0 _ rfl) rfl (by omega) (by decide) (Nat.le_of_ble_eq_true rfl) rfl dX6_part_105 (fun v105 => ?_)
      exact ww_ireturn (pc := 108) hC hR dX6_part_108 rfl
    refine ww_tab (pc := 17) (tgt := 109) hC 4 dX6_part_17 (by decide) (by decide) rfl (by decide) ?_ (fun q17_4 => ?_)
    · refine ww_aload_n (pc := 109) hC 1 rfl dX6_part_109 rfl ?_
      refine ww_getr (pc := 110) (Cl := RX6) (T := TX6) (N := 10) (j := 2) (ref := RX6) hC (hT 0 _ rfl) rfl inT_X6 (by decide) mw_300 rfl rfl dX6_part_110 ?_
      refine ww_iload_n (pc := 113) hC 0 rfl dX6_part_113 rfl ?_
      refine ww_callVi (pc := 114) (st := []) (As := [.int v5]) hC (c_X2_canWork 4 (ww_top_now hT) σ v5) mm_X2_canWork mw_576 ((ww_top_now hT) 0 _ rfl) rfl (by omega) (by decide) (Nat.le_of_ble_eq_true rfl) rfl dX6_part_114 (fun v114 => ?_)
      refine ww_if_eq (pc := 117) (tgt := 124) hC dX6_part_117 (by decide) ?_ ?_
      · refine ww_iconst (pc := 124) (v := 0) hC dX6_part_124 rfl ?_
        exact ww_ireturn (pc := 125) hC hR dX6_part_125 rfl
      · refine ww_iconst (pc := 120) (v := 1) hC dX6_part_120 rfl ?_
        refine ww_goto (pc := 121) (tgt := 125) hC dX6_part_121 (by decide) ?_
        exact ww_ireturn (pc := 125) hC hR dX6_part_125 rfl
    refine ww_tab (pc := 17) (tgt := 126) hC 5 dX6_part_17 (by decide) (by decide) rfl (by decide) ?_ (fun q17_5 => ?_)
    · refine ww_aload_n (pc := 126) hC 1 rfl dX6_part_126 rfl ?_
      refine ww_getr (pc := 127) (Cl := RX6) (T := TX6) (N := 10) (j := 2) (ref := RX6) hC (hT 0 _ rfl) rfl inT_X6 (by decide) mw_300 rfl rfl dX6_part_127 ?_
      refine ww_iload_n (pc := 130) hC 0 rfl dX6_part_130 rfl ?_
      refine ww_aload_n (pc := 131) hC 1 rfl dX6_part_131 rfl ?_
      refine ww_getr (pc := 132) (Cl := RX6) (T := TX6) (N := 10) (j := 2) (ref := RX6) hC (hT 0 _ rfl) rfl inT_X6 (by decide) mw_300 rfl rfl dX6_part_132 ?_
      refine ww_geti (pc := 135) (Cl := RX2) (T := TX2) (N := 17) (j := 12) (ref := RX2) hC ((ww_top_now hT) 0 _ rfl) rfl inT_X2 (by decide) mw_169 rfl rfl dX6_part_135 ?_
      refine ww_callVi (pc := 138) (st := []) (As := [.int v5, .int (σ 4 12)]) hC (c_X2_ownerBy 4 (ww_top_now hT) σ v5 (σ 4 12)) mm_X2_ownerBy mw_589 ((ww_top_now hT) 0 _ rfl) rfl (by omega) (by decide) (Nat.le_of_ble_eq_true rfl) rfl dX6_part_138 (fun v138 => ?_)
      exact ww_ireturn (pc := 141) hC hR dX6_part_141 rfl
    have z17_0 : p2.toInt ≠ (0 : Int) := ww_nei q17_0
    have z17_1 : p2.toInt ≠ (1 : Int) := ww_nei q17_1
    have z17_2 : p2.toInt ≠ (2 : Int) := ww_nei q17_2
    have z17_3 : p2.toInt ≠ (3 : Int) := ww_nei q17_3
    have z17_4 : p2.toInt ≠ (4 : Int) := ww_nei q17_4
    have z17_5 : p2.toInt ≠ (5 : Int) := ww_nei q17_5
    refine ww_tabD (pc := 17) (tgt := 142) hC dX6_part_17 (by omega) (by decide) ?_
    refine ww_iconst (pc := 142) (v := (-1)) hC dX6_part_142 rfl ?_
    exact ww_ireturn (pc := 143) hC hR dX6_part_143 rfl
  · refine ww_iconst (pc := 14) (v := (-1)) hC dX6_part_14 rfl ?_
    exact ww_ireturn (pc := 15) hC hR dX6_part_15 rfl
theorem dX6_mark_0 : decode cX6_mark 0 = .ok (.aload_n 0, 1) := by decide +kernel
theorem dX6_mark_1 : decode cX6_mark 1 = .ok (.getfield 26, 3) := by decide +kernel
theorem dX6_mark_4 : decode cX6_mark 4 = .ok (.iload_n 1, 1) := by decide +kernel
theorem dX6_mark_5 : decode cX6_mark 5 = .ok (.invokevirtual 115, 3) := by decide +kernel
theorem dX6_mark_8 : decode cX6_mark 8 = .ok (.ifCond .eq 13, 3) := by decide +kernel
theorem dX6_mark_11 : decode cX6_mark 11 = .ok (.iload_n 2, 1) := by decide +kernel
theorem dX6_mark_12 : decode cX6_mark 12 = .ok (.iconst 0, 1) := by decide +kernel
theorem dX6_mark_13 : decode cX6_mark 13 = .ok (.bipush 9, 2) := by decide +kernel
theorem dX6_mark_15 : decode cX6_mark 15 = .ok (.invokestatic 61, 3) := by decide +kernel
theorem dX6_mark_18 : decode cX6_mark 18 = .ok (.ifCond .ne 5, 3) := by decide +kernel
theorem dX6_mark_21 : decode cX6_mark 21 = .ok (.iconst (-1), 1) := by decide +kernel
theorem dX6_mark_22 : decode cX6_mark 22 = .ok (.ireturn, 1) := by decide +kernel
theorem dX6_mark_23 : decode cX6_mark 23 = .ok (.aload_n 0, 1) := by decide +kernel
theorem dX6_mark_24 : decode cX6_mark 24 = .ok (.getfield 26, 3) := by decide +kernel
theorem dX6_mark_27 : decode cX6_mark 27 = .ok (.getfield 122, 3) := by decide +kernel
theorem dX6_mark_30 : decode cX6_mark 30 = .ok (.iload_n 1, 1) := by decide +kernel
theorem dX6_mark_31 : decode cX6_mark 31 = .ok (.iaload, 1) := by decide +kernel
theorem dX6_mark_32 : decode cX6_mark 32 = .ok (.istore_n 3, 1) := by decide +kernel
theorem dX6_mark_33 : decode cX6_mark 33 = .ok (.aload_n 0, 1) := by decide +kernel
theorem dX6_mark_34 : decode cX6_mark 34 = .ok (.getfield 26, 3) := by decide +kernel
theorem dX6_mark_37 : decode cX6_mark 37 = .ok (.getfield 122, 3) := by decide +kernel
theorem dX6_mark_40 : decode cX6_mark 40 = .ok (.iload_n 1, 1) := by decide +kernel
theorem dX6_mark_41 : decode cX6_mark 41 = .ok (.iload_n 2, 1) := by decide +kernel
theorem dX6_mark_42 : decode cX6_mark 42 = .ok (.iastore, 1) := by decide +kernel
theorem dX6_mark_43 : decode cX6_mark 43 = .ok (.aload_n 0, 1) := by decide +kernel
theorem dX6_mark_44 : decode cX6_mark 44 = .ok (.getfield 26, 3) := by decide +kernel
theorem dX6_mark_47 : decode cX6_mark 47 = .ok (.invokevirtual 87, 3) := by decide +kernel
theorem dX6_mark_50 : decode cX6_mark 50 = .ok (.iload_n 3, 1) := by decide +kernel
theorem dX6_mark_51 : decode cX6_mark 51 = .ok (.ireturn, 1) := by decide +kernel
set_option maxHeartbeats 4000000 in
set_option maxRecDepth 100000 in
theorem c_X6_mark {l : Launch} {Y : ww_Y} {ad : Nat → Nat} {G : List ww_L} (hT : ww_at G 0 ww_LTop) (σ : ww_M) (p1 : Int32) (p2 : Int32) : ww_Cn l Y ad G yX6_mark cX6_mark 4 (some .int) 6 [.ref (ad 0), .int p1, .int p2] σ ((f_X6_mark σ p1 p2).bind ww_rw) := by
  refine ww_met (by decide +kernel) (Nat.le_of_ble_eq_true rfl) ?_
  intro X hC hR
  have hC : ww_C X l Y ad G 6 cX6_mark 4 RX6 := hC
  show ww_V X Y ad G 4 σ 0 [(0, .ref (ad 0)), (1, .int p1), (2, .int p2)] [] ((f_X6_mark σ p1 p2).bind ww_rw)
  unfold f_X6_mark
  refine ww_aload_n (pc := 0) hC 0 rfl dX6_mark_0 rfl ?_
  refine ww_getr (pc := 1) (Cl := RX6) (T := TX6) (N := 10) (j := 2) (ref := RX6) hC (hT 0 _ rfl) rfl inT_X6 (by decide) mw_300 rfl rfl dX6_mark_1 ?_
  refine ww_iload_n (pc := 4) hC 1 rfl dX6_mark_4 rfl ?_
  refine ww_callVi (pc := 5) (st := []) (As := [.int p1]) hC (c_X2_hasPlace 4 (ww_top_now hT) σ p1) mm_X2_hasPlace mw_539 ((ww_top_now hT) 0 _ rfl) rfl (by omega) (by decide) (Nat.le_of_ble_eq_true rfl) rfl dX6_mark_5 (fun v5 => ?_)
  refine ww_if_eq (pc := 8) (tgt := 21) hC dX6_mark_8 (by decide) ?_ ?_
  · refine ww_iconst (pc := 21) (v := (-1)) hC dX6_mark_21 rfl ?_
    exact ww_ireturn (pc := 22) hC hR dX6_mark_22 rfl
  · refine ww_iload_n (pc := 11) hC 2 rfl dX6_mark_11 rfl ?_
    refine ww_iconst (pc := 12) (v := 0) hC dX6_mark_12 rfl ?_
    refine ww_bipush (pc := 13) (v := 9) hC dX6_mark_13 rfl ?_
    refine ww_callSi (pc := 15) (st := []) (As := [.int p2, .int 0, .int 9]) hC (c_X6_within σ p2 0 9) mm_X6_within mw_333 (by omega) (by decide) (Nat.le_of_ble_eq_true rfl) rfl dX6_mark_15 (fun v15 => ?_)
    refine ww_if_ne (pc := 18) (tgt := 23) hC dX6_mark_18 (by decide) ?_ ?_
    · refine ww_aload_n (pc := 23) hC 0 rfl dX6_mark_23 rfl ?_
      refine ww_getr (pc := 24) (Cl := RX6) (T := TX6) (N := 10) (j := 2) (ref := RX6) hC (hT 0 _ rfl) rfl inT_X6 (by decide) mw_300 rfl rfl dX6_mark_24 ?_
      refine ww_getr (pc := 27) (Cl := RX2) (T := TX2) (N := 17) (j := 1) (ref := RX2) hC ((ww_top_now hT) 0 _ rfl) rfl inT_X2 (by decide) mw_142 rfl rfl dX6_mark_27 ?_
      refine ww_iload_n (pc := 30) hC 1 rfl dX6_mark_30 rfl ?_
      refine ww_iald (pc := 31) hC ((ww_top_now hT) 2 _ rfl) dX6_mark_31 ?_
      refine ww_istore_n (pc := 32) (lv' := [(3, .int (σ (4 + 2) (ww_ix p1))), (0, .ref (ad 0)), (1, .int p1), (2, .int p2)]) hC dX6_mark_32 rfl (by decide) rfl ?_
      refine ww_aload_n (pc := 33) hC 1 rfl dX6_mark_33 rfl ?_
      refine ww_getr (pc := 34) (Cl := RX6) (T := TX6) (N := 10) (j := 2) (ref := RX6) hC (hT 0 _ rfl) rfl inT_X6 (by decide) mw_300 rfl rfl dX6_mark_34 ?_
      refine ww_getr (pc := 37) (Cl := RX2) (T := TX2) (N := 17) (j := 1) (ref := RX2) hC ((ww_top_now hT) 0 _ rfl) rfl inT_X2 (by decide) mw_142 rfl rfl dX6_mark_37 ?_
      refine ww_iload_n (pc := 40) hC 2 rfl dX6_mark_40 rfl ?_
      refine ww_iload_n (pc := 41) hC 3 rfl dX6_mark_41 rfl ?_
      refine ww_iast (pc := 42) hC ((ww_top_now hT) 2 _ rfl) dX6_mark_42 ?_
      refine ww_aload_n (pc := 43) hC 1 rfl dX6_mark_43 rfl ?_
      refine ww_getr (pc := 44) (Cl := RX6) (T := TX6) (N := 10) (j := 2) (ref := RX6) hC (hT 0 _ rfl) rfl inT_X6 (by decide) mw_300 rfl rfl dX6_mark_44 ?_
      refine ww_callVv (pc := 47) (st := []) (As := []) hC (c_X2_loseFloating 4 (ww_top_now hT) (ww_up σ (4 + 2) (ww_ix p1) p2)) mm_X2_loseFloating mw_507 ((ww_top_now hT) 0 _ rfl) rfl (by omega) (by decide) (Nat.le_of_ble_eq_true rfl) rfl dX6_mark_47 (fun v47 => ?_)
      refine ww_iload_n (pc := 50) hC 0 rfl dX6_mark_50 rfl ?_
      exact ww_ireturn (pc := 51) hC hR dX6_mark_51 rfl
    · refine ww_iconst (pc := 21) (v := (-1)) hC dX6_mark_21 rfl ?_
      exact ww_ireturn (pc := 22) hC hR dX6_mark_22 rfl
theorem dX6_own_0 : decode cX6_own 0 = .ok (.aload_n 0, 1) := by decide +kernel
theorem dX6_own_1 : decode cX6_own 1 = .ok (.getfield 26, 3) := by decide +kernel
theorem dX6_own_4 : decode cX6_own 4 = .ok (.iload_n 1, 1) := by decide +kernel
theorem dX6_own_5 : decode cX6_own 5 = .ok (.invokevirtual 115, 3) := by decide +kernel
theorem dX6_own_8 : decode cX6_own 8 = .ok (.ifCond .eq 12, 3) := by decide +kernel
theorem dX6_own_11 : decode cX6_own 11 = .ok (.iload_n 2, 1) := by decide +kernel
theorem dX6_own_12 : decode cX6_own 12 = .ok (.iconst 0, 1) := by decide +kernel
theorem dX6_own_13 : decode cX6_own 13 = .ok (.iconst 3, 1) := by decide +kernel
theorem dX6_own_14 : decode cX6_own 14 = .ok (.invokestatic 61, 3) := by decide +kernel
theorem dX6_own_17 : decode cX6_own 17 = .ok (.ifCond .ne 5, 3) := by decide +kernel
theorem dX6_own_20 : decode cX6_own 20 = .ok (.iconst (-1), 1) := by decide +kernel
theorem dX6_own_21 : decode cX6_own 21 = .ok (.ireturn, 1) := by decide +kernel
theorem dX6_own_22 : decode cX6_own 22 = .ok (.aload_n 0, 1) := by decide +kernel
theorem dX6_own_23 : decode cX6_own 23 = .ok (.getfield 26, 3) := by decide +kernel
theorem dX6_own_26 : decode cX6_own 26 = .ok (.getfield 118, 3) := by decide +kernel
theorem dX6_own_29 : decode cX6_own 29 = .ok (.iload_n 1, 1) := by decide +kernel
theorem dX6_own_30 : decode cX6_own 30 = .ok (.iaload, 1) := by decide +kernel
theorem dX6_own_31 : decode cX6_own 31 = .ok (.istore_n 3, 1) := by decide +kernel
theorem dX6_own_32 : decode cX6_own 32 = .ok (.aload_n 0, 1) := by decide +kernel
theorem dX6_own_33 : decode cX6_own 33 = .ok (.getfield 26, 3) := by decide +kernel
theorem dX6_own_36 : decode cX6_own 36 = .ok (.getfield 118, 3) := by decide +kernel
theorem dX6_own_39 : decode cX6_own 39 = .ok (.iload_n 1, 1) := by decide +kernel
theorem dX6_own_40 : decode cX6_own 40 = .ok (.iload_n 2, 1) := by decide +kernel
theorem dX6_own_41 : decode cX6_own 41 = .ok (.iastore, 1) := by decide +kernel
theorem dX6_own_42 : decode cX6_own 42 = .ok (.iload_n 3, 1) := by decide +kernel
theorem dX6_own_43 : decode cX6_own 43 = .ok (.ireturn, 1) := by decide +kernel
set_option maxHeartbeats 4000000 in
set_option maxRecDepth 100000 in
theorem c_X6_own {l : Launch} {Y : ww_Y} {ad : Nat → Nat} {G : List ww_L} (hT : ww_at G 0 ww_LTop) (σ : ww_M) (p1 : Int32) (p2 : Int32) : ww_Cn l Y ad G yX6_own cX6_own 4 (some .int) 3 [.ref (ad 0), .int p1, .int p2] σ ((f_X6_own σ p1 p2).bind ww_rw) := by
  refine ww_met (by decide +kernel) (Nat.le_of_ble_eq_true rfl) ?_
  intro X hC hR
  have hC : ww_C X l Y ad G 3 cX6_own 4 RX6 := hC
  show ww_V X Y ad G 4 σ 0 [(0, .ref (ad 0)), (1, .int p1), (2, .int p2)] [] ((f_X6_own σ p1 p2).bind ww_rw)
  unfold f_X6_own
  refine ww_aload_n (pc := 0) hC 0 rfl dX6_own_0 rfl ?_
  refine ww_getr (pc := 1) (Cl := RX6) (T := TX6) (N := 10) (j := 2) (ref := RX6) hC (hT 0 _ rfl) rfl inT_X6 (by decide) mw_300 rfl rfl dX6_own_1 ?_
  refine ww_iload_n (pc := 4) hC 1 rfl dX6_own_4 rfl ?_
  refine ww_callVi (pc := 5) (st := []) (As := [.int p1]) hC (c_X2_hasPlace 4 (ww_top_now hT) σ p1) mm_X2_hasPlace mw_539 ((ww_top_now hT) 0 _ rfl) rfl (by omega) (by decide) (Nat.le_of_ble_eq_true rfl) rfl dX6_own_5 (fun v5 => ?_)
  refine ww_if_eq (pc := 8) (tgt := 20) hC dX6_own_8 (by decide) ?_ ?_
  · refine ww_iconst (pc := 20) (v := (-1)) hC dX6_own_20 rfl ?_
    exact ww_ireturn (pc := 21) hC hR dX6_own_21 rfl
  · refine ww_iload_n (pc := 11) hC 2 rfl dX6_own_11 rfl ?_
    refine ww_iconst (pc := 12) (v := 0) hC dX6_own_12 rfl ?_
    refine ww_iconst (pc := 13) (v := 3) hC dX6_own_13 rfl ?_
    refine ww_callSi (pc := 14) (st := []) (As := [.int p2, .int 0, .int 3]) hC (c_X6_within σ p2 0 3) mm_X6_within mw_333 (by omega) (by decide) (Nat.le_of_ble_eq_true rfl) rfl dX6_own_14 (fun v14 => ?_)
    refine ww_if_ne (pc := 17) (tgt := 22) hC dX6_own_17 (by decide) ?_ ?_
    · refine ww_aload_n (pc := 22) hC 0 rfl dX6_own_22 rfl ?_
      refine ww_getr (pc := 23) (Cl := RX6) (T := TX6) (N := 10) (j := 2) (ref := RX6) hC (hT 0 _ rfl) rfl inT_X6 (by decide) mw_300 rfl rfl dX6_own_23 ?_
      refine ww_getr (pc := 26) (Cl := RX2) (T := TX2) (N := 17) (j := 0) (ref := RX2) hC ((ww_top_now hT) 0 _ rfl) rfl inT_X2 (by decide) mw_140 rfl rfl dX6_own_26 ?_
      refine ww_iload_n (pc := 29) hC 1 rfl dX6_own_29 rfl ?_
      refine ww_iald (pc := 30) hC ((ww_top_now hT) 1 _ rfl) dX6_own_30 ?_
      refine ww_istore_n (pc := 31) (lv' := [(3, .int (σ (4 + 1) (ww_ix p1))), (0, .ref (ad 0)), (1, .int p1), (2, .int p2)]) hC dX6_own_31 rfl (by decide) rfl ?_
      refine ww_aload_n (pc := 32) hC 1 rfl dX6_own_32 rfl ?_
      refine ww_getr (pc := 33) (Cl := RX6) (T := TX6) (N := 10) (j := 2) (ref := RX6) hC (hT 0 _ rfl) rfl inT_X6 (by decide) mw_300 rfl rfl dX6_own_33 ?_
      refine ww_getr (pc := 36) (Cl := RX2) (T := TX2) (N := 17) (j := 0) (ref := RX2) hC ((ww_top_now hT) 0 _ rfl) rfl inT_X2 (by decide) mw_140 rfl rfl dX6_own_36 ?_
      refine ww_iload_n (pc := 39) hC 2 rfl dX6_own_39 rfl ?_
      refine ww_iload_n (pc := 40) hC 3 rfl dX6_own_40 rfl ?_
      refine ww_iast (pc := 41) hC ((ww_top_now hT) 1 _ rfl) dX6_own_41 ?_
      refine ww_iload_n (pc := 42) hC 0 rfl dX6_own_42 rfl ?_
      exact ww_ireturn (pc := 43) hC hR dX6_own_43 rfl
    · refine ww_iconst (pc := 20) (v := (-1)) hC dX6_own_20 rfl ?_
      exact ww_ireturn (pc := 21) hC hR dX6_own_21 rfl
theorem dX6_law_0 : decode cX6_law 0 = .ok (.iload_n 1, 1) := by decide +kernel
theorem dX6_law_1 : decode cX6_law 1 = .ok (.iconst 0, 1) := by decide +kernel
theorem dX6_law_2 : decode cX6_law 2 = .ok (.iconst 3, 1) := by decide +kernel
theorem dX6_law_3 : decode cX6_law 3 = .ok (.invokestatic 61, 3) := by decide +kernel
theorem dX6_law_6 : decode cX6_law 6 = .ok (.ifCond .ne 5, 3) := by decide +kernel
theorem dX6_law_9 : decode cX6_law 9 = .ok (.iconst (-1), 1) := by decide +kernel
theorem dX6_law_10 : decode cX6_law 10 = .ok (.ireturn, 1) := by decide +kernel
theorem dX6_law_11 : decode cX6_law 11 = .ok (.aload_n 0, 1) := by decide +kernel
theorem dX6_law_12 : decode cX6_law 12 = .ok (.getfield 26, 3) := by decide +kernel
theorem dX6_law_15 : decode cX6_law 15 = .ok (.getfield 103, 3) := by decide +kernel
theorem dX6_law_18 : decode cX6_law 18 = .ok (.istore_n 2, 1) := by decide +kernel
theorem dX6_law_19 : decode cX6_law 19 = .ok (.aload_n 0, 1) := by decide +kernel
theorem dX6_law_20 : decode cX6_law 20 = .ok (.getfield 26, 3) := by decide +kernel
theorem dX6_law_23 : decode cX6_law 23 = .ok (.iload_n 1, 1) := by decide +kernel
theorem dX6_law_24 : decode cX6_law 24 = .ok (.putfield 103, 3) := by decide +kernel
theorem dX6_law_27 : decode cX6_law 27 = .ok (.iload_n 2, 1) := by decide +kernel
theorem dX6_law_28 : decode cX6_law 28 = .ok (.ireturn, 1) := by decide +kernel
set_option maxHeartbeats 4000000 in
set_option maxRecDepth 100000 in
theorem c_X6_law {l : Launch} {Y : ww_Y} {ad : Nat → Nat} {G : List ww_L} (hT : ww_at G 0 ww_LTop) (σ : ww_M) (p1 : Int32) : ww_Cn l Y ad G yX6_law cX6_law 3 (some .int) 2 [.ref (ad 0), .int p1] σ ((f_X6_law σ p1).bind ww_rw) := by
  refine ww_met (by decide +kernel) (Nat.le_of_ble_eq_true rfl) ?_
  intro X hC hR
  have hC : ww_C X l Y ad G 2 cX6_law 3 RX6 := hC
  show ww_V X Y ad G 3 σ 0 [(0, .ref (ad 0)), (1, .int p1)] [] ((f_X6_law σ p1).bind ww_rw)
  unfold f_X6_law
  refine ww_iload_n (pc := 0) hC 1 rfl dX6_law_0 rfl ?_
  refine ww_iconst (pc := 1) (v := 0) hC dX6_law_1 rfl ?_
  refine ww_iconst (pc := 2) (v := 3) hC dX6_law_2 rfl ?_
  refine ww_callSi (pc := 3) (st := []) (As := [.int p1, .int 0, .int 3]) hC (c_X6_within σ p1 0 3) mm_X6_within mw_333 (by omega) (by decide) (Nat.le_of_ble_eq_true rfl) rfl dX6_law_3 (fun v3 => ?_)
  refine ww_if_ne (pc := 6) (tgt := 11) hC dX6_law_6 (by decide) ?_ ?_
  · refine ww_aload_n (pc := 11) hC 0 rfl dX6_law_11 rfl ?_
    refine ww_getr (pc := 12) (Cl := RX6) (T := TX6) (N := 10) (j := 2) (ref := RX6) hC (hT 0 _ rfl) rfl inT_X6 (by decide) mw_300 rfl rfl dX6_law_12 ?_
    refine ww_geti (pc := 15) (Cl := RX2) (T := TX2) (N := 17) (j := 12) (ref := RX2) hC ((ww_top_now hT) 0 _ rfl) rfl inT_X2 (by decide) mw_169 rfl rfl dX6_law_15 ?_
    refine ww_istore_n (pc := 18) (lv' := [(2, .int (σ 4 12)), (0, .ref (ad 0)), (1, .int p1)]) hC dX6_law_18 rfl (by decide) rfl ?_
    refine ww_aload_n (pc := 19) hC 1 rfl dX6_law_19 rfl ?_
    refine ww_getr (pc := 20) (Cl := RX6) (T := TX6) (N := 10) (j := 2) (ref := RX6) hC (hT 0 _ rfl) rfl inT_X6 (by decide) mw_300 rfl rfl dX6_law_20 ?_
    refine ww_iload_n (pc := 23) hC 2 rfl dX6_law_23 rfl ?_
    refine ww_puti (pc := 24) (Cl := RX2) (T := TX2) (N := 17) (j := 12) (ref := RX2) hC ((ww_top_now hT) 0 _ rfl) rfl inT_X2 (by decide) mw_169 rfl tyX2 tyX2_ok nmX2 rfl rfl (tyX2_ok 12 (by decide)) dX6_law_24 ?_
    refine ww_iload_n (pc := 27) hC 0 rfl dX6_law_27 rfl ?_
    exact ww_ireturn (pc := 28) hC hR dX6_law_28 rfl
  · refine ww_iconst (pc := 9) (v := (-1)) hC dX6_law_9 rfl ?_
    exact ww_ireturn (pc := 10) hC hR dX6_law_10 rfl
theorem dX6_rot_0 : decode cX6_rot 0 = .ok (.iload_n 1, 1) := by decide +kernel
theorem dX6_rot_1 : decode cX6_rot 1 = .ok (.iconst 1, 1) := by decide +kernel
theorem dX6_rot_2 : decode cX6_rot 2 = .ok (.bipush 9, 2) := by decide +kernel
theorem dX6_rot_4 : decode cX6_rot 4 = .ok (.invokestatic 61, 3) := by decide +kernel
theorem dX6_rot_7 : decode cX6_rot 7 = .ok (.ifCond .ne 5, 3) := by decide +kernel
theorem dX6_rot_10 : decode cX6_rot 10 = .ok (.iconst (-1), 1) := by decide +kernel
theorem dX6_rot_11 : decode cX6_rot 11 = .ok (.ireturn, 1) := by decide +kernel
theorem dX6_rot_12 : decode cX6_rot 12 = .ok (.aload_n 0, 1) := by decide +kernel
theorem dX6_rot_13 : decode cX6_rot 13 = .ok (.getfield 26, 3) := by decide +kernel
theorem dX6_rot_16 : decode cX6_rot 16 = .ok (.getfield 106, 3) := by decide +kernel
theorem dX6_rot_19 : decode cX6_rot 19 = .ok (.istore_n 2, 1) := by decide +kernel
theorem dX6_rot_20 : decode cX6_rot 20 = .ok (.aload_n 0, 1) := by decide +kernel
theorem dX6_rot_21 : decode cX6_rot 21 = .ok (.getfield 26, 3) := by decide +kernel
theorem dX6_rot_24 : decode cX6_rot 24 = .ok (.iload_n 1, 1) := by decide +kernel
theorem dX6_rot_25 : decode cX6_rot 25 = .ok (.putfield 106, 3) := by decide +kernel
theorem dX6_rot_28 : decode cX6_rot 28 = .ok (.iload_n 2, 1) := by decide +kernel
theorem dX6_rot_29 : decode cX6_rot 29 = .ok (.ireturn, 1) := by decide +kernel
set_option maxHeartbeats 4000000 in
set_option maxRecDepth 100000 in
theorem c_X6_rot {l : Launch} {Y : ww_Y} {ad : Nat → Nat} {G : List ww_L} (hT : ww_at G 0 ww_LTop) (σ : ww_M) (p1 : Int32) : ww_Cn l Y ad G yX6_rot cX6_rot 3 (some .int) 2 [.ref (ad 0), .int p1] σ ((f_X6_rot σ p1).bind ww_rw) := by
  refine ww_met (by decide +kernel) (Nat.le_of_ble_eq_true rfl) ?_
  intro X hC hR
  have hC : ww_C X l Y ad G 2 cX6_rot 3 RX6 := hC
  show ww_V X Y ad G 3 σ 0 [(0, .ref (ad 0)), (1, .int p1)] [] ((f_X6_rot σ p1).bind ww_rw)
  unfold f_X6_rot
  refine ww_iload_n (pc := 0) hC 1 rfl dX6_rot_0 rfl ?_
  refine ww_iconst (pc := 1) (v := 1) hC dX6_rot_1 rfl ?_
  refine ww_bipush (pc := 2) (v := 9) hC dX6_rot_2 rfl ?_
  refine ww_callSi (pc := 4) (st := []) (As := [.int p1, .int 1, .int 9]) hC (c_X6_within σ p1 1 9) mm_X6_within mw_333 (by omega) (by decide) (Nat.le_of_ble_eq_true rfl) rfl dX6_rot_4 (fun v4 => ?_)
  refine ww_if_ne (pc := 7) (tgt := 12) hC dX6_rot_7 (by decide) ?_ ?_
  · refine ww_aload_n (pc := 12) hC 0 rfl dX6_rot_12 rfl ?_
    refine ww_getr (pc := 13) (Cl := RX6) (T := TX6) (N := 10) (j := 2) (ref := RX6) hC (hT 0 _ rfl) rfl inT_X6 (by decide) mw_300 rfl rfl dX6_rot_13 ?_
    refine ww_geti (pc := 16) (Cl := RX2) (T := TX2) (N := 17) (j := 13) (ref := RX2) hC ((ww_top_now hT) 0 _ rfl) rfl inT_X2 (by decide) mw_172 rfl rfl dX6_rot_16 ?_
    refine ww_istore_n (pc := 19) (lv' := [(2, .int (σ 4 13)), (0, .ref (ad 0)), (1, .int p1)]) hC dX6_rot_19 rfl (by decide) rfl ?_
    refine ww_aload_n (pc := 20) hC 1 rfl dX6_rot_20 rfl ?_
    refine ww_getr (pc := 21) (Cl := RX6) (T := TX6) (N := 10) (j := 2) (ref := RX6) hC (hT 0 _ rfl) rfl inT_X6 (by decide) mw_300 rfl rfl dX6_rot_21 ?_
    refine ww_iload_n (pc := 24) hC 2 rfl dX6_rot_24 rfl ?_
    refine ww_puti (pc := 25) (Cl := RX2) (T := TX2) (N := 17) (j := 13) (ref := RX2) hC ((ww_top_now hT) 0 _ rfl) rfl inT_X2 (by decide) mw_172 rfl tyX2 tyX2_ok nmX2 rfl rfl (tyX2_ok 13 (by decide)) dX6_rot_25 ?_
    refine ww_iload_n (pc := 28) hC 0 rfl dX6_rot_28 rfl ?_
    exact ww_ireturn (pc := 29) hC hR dX6_rot_29 rfl
  · refine ww_iconst (pc := 10) (v := (-1)) hC dX6_rot_10 rfl ?_
    exact ww_ireturn (pc := 11) hC hR dX6_rot_11 rfl
theorem dX6_gangs_0 : decode cX6_gangs 0 = .ok (.iload_n 1, 1) := by decide +kernel
theorem dX6_gangs_1 : decode cX6_gangs 1 = .ok (.iconst 1, 1) := by decide +kernel
theorem dX6_gangs_2 : decode cX6_gangs 2 = .ok (.iconst 2, 1) := by decide +kernel
theorem dX6_gangs_3 : decode cX6_gangs 3 = .ok (.invokestatic 61, 3) := by decide +kernel
theorem dX6_gangs_6 : decode cX6_gangs 6 = .ok (.ifCond .ne 5, 3) := by decide +kernel
theorem dX6_gangs_9 : decode cX6_gangs 9 = .ok (.iconst (-1), 1) := by decide +kernel
theorem dX6_gangs_10 : decode cX6_gangs 10 = .ok (.ireturn, 1) := by decide +kernel
theorem dX6_gangs_11 : decode cX6_gangs 11 = .ok (.aload_n 0, 1) := by decide +kernel
theorem dX6_gangs_12 : decode cX6_gangs 12 = .ok (.getfield 26, 3) := by decide +kernel
theorem dX6_gangs_15 : decode cX6_gangs 15 = .ok (.getfield 109, 3) := by decide +kernel
theorem dX6_gangs_18 : decode cX6_gangs 18 = .ok (.istore_n 2, 1) := by decide +kernel
theorem dX6_gangs_19 : decode cX6_gangs 19 = .ok (.aload_n 0, 1) := by decide +kernel
theorem dX6_gangs_20 : decode cX6_gangs 20 = .ok (.getfield 26, 3) := by decide +kernel
theorem dX6_gangs_23 : decode cX6_gangs 23 = .ok (.iload_n 1, 1) := by decide +kernel
theorem dX6_gangs_24 : decode cX6_gangs 24 = .ok (.putfield 109, 3) := by decide +kernel
theorem dX6_gangs_27 : decode cX6_gangs 27 = .ok (.iload_n 2, 1) := by decide +kernel
theorem dX6_gangs_28 : decode cX6_gangs 28 = .ok (.ireturn, 1) := by decide +kernel
set_option maxHeartbeats 4000000 in
set_option maxRecDepth 100000 in
theorem c_X6_gangs {l : Launch} {Y : ww_Y} {ad : Nat → Nat} {G : List ww_L} (hT : ww_at G 0 ww_LTop) (σ : ww_M) (p1 : Int32) : ww_Cn l Y ad G yX6_gangs cX6_gangs 3 (some .int) 2 [.ref (ad 0), .int p1] σ ((f_X6_gangs σ p1).bind ww_rw) := by
  refine ww_met (by decide +kernel) (Nat.le_of_ble_eq_true rfl) ?_
  intro X hC hR
  have hC : ww_C X l Y ad G 2 cX6_gangs 3 RX6 := hC
  show ww_V X Y ad G 3 σ 0 [(0, .ref (ad 0)), (1, .int p1)] [] ((f_X6_gangs σ p1).bind ww_rw)
  unfold f_X6_gangs
  refine ww_iload_n (pc := 0) hC 1 rfl dX6_gangs_0 rfl ?_
  refine ww_iconst (pc := 1) (v := 1) hC dX6_gangs_1 rfl ?_
  refine ww_iconst (pc := 2) (v := 2) hC dX6_gangs_2 rfl ?_
  refine ww_callSi (pc := 3) (st := []) (As := [.int p1, .int 1, .int 2]) hC (c_X6_within σ p1 1 2) mm_X6_within mw_333 (by omega) (by decide) (Nat.le_of_ble_eq_true rfl) rfl dX6_gangs_3 (fun v3 => ?_)
  refine ww_if_ne (pc := 6) (tgt := 11) hC dX6_gangs_6 (by decide) ?_ ?_
  · refine ww_aload_n (pc := 11) hC 0 rfl dX6_gangs_11 rfl ?_
    refine ww_getr (pc := 12) (Cl := RX6) (T := TX6) (N := 10) (j := 2) (ref := RX6) hC (hT 0 _ rfl) rfl inT_X6 (by decide) mw_300 rfl rfl dX6_gangs_12 ?_
    refine ww_geti (pc := 15) (Cl := RX2) (T := TX2) (N := 17) (j := 14) (ref := RX2) hC ((ww_top_now hT) 0 _ rfl) rfl inT_X2 (by decide) mw_176 rfl rfl dX6_gangs_15 ?_
    refine ww_istore_n (pc := 18) (lv' := [(2, .int (σ 4 14)), (0, .ref (ad 0)), (1, .int p1)]) hC dX6_gangs_18 rfl (by decide) rfl ?_
    refine ww_aload_n (pc := 19) hC 1 rfl dX6_gangs_19 rfl ?_
    refine ww_getr (pc := 20) (Cl := RX6) (T := TX6) (N := 10) (j := 2) (ref := RX6) hC (hT 0 _ rfl) rfl inT_X6 (by decide) mw_300 rfl rfl dX6_gangs_20 ?_
    refine ww_iload_n (pc := 23) hC 2 rfl dX6_gangs_23 rfl ?_
    refine ww_puti (pc := 24) (Cl := RX2) (T := TX2) (N := 17) (j := 14) (ref := RX2) hC ((ww_top_now hT) 0 _ rfl) rfl inT_X2 (by decide) mw_176 rfl tyX2 tyX2_ok nmX2 rfl rfl (tyX2_ok 14 (by decide)) dX6_gangs_24 ?_
    refine ww_iload_n (pc := 27) hC 0 rfl dX6_gangs_27 rfl ?_
    exact ww_ireturn (pc := 28) hC hR dX6_gangs_28 rfl
  · refine ww_iconst (pc := 9) (v := (-1)) hC dX6_gangs_9 rfl ?_
    exact ww_ireturn (pc := 10) hC hR dX6_gangs_10 rfl
theorem dX6_lump_0 : decode cX6_lump 0 = .ok (.aload_n 0, 1) := by decide +kernel
theorem dX6_lump_1 : decode cX6_lump 1 = .ok (.getfield 26, 3) := by decide +kernel
theorem dX6_lump_4 : decode cX6_lump 4 = .ok (.iload_n 1, 1) := by decide +kernel
theorem dX6_lump_5 : decode cX6_lump 5 = .ok (.invokevirtual 141, 3) := by decide +kernel
theorem dX6_lump_8 : decode cX6_lump 8 = .ok (.istore_n 3, 1) := by decide +kernel
theorem dX6_lump_9 : decode cX6_lump 9 = .ok (.iload_n 3, 1) := by decide +kernel
theorem dX6_lump_10 : decode cX6_lump 10 = .ok (.iconst (-1), 1) := by decide +kernel
theorem dX6_lump_11 : decode cX6_lump 11 = .ok (.if_icmp .eq 13, 3) := by decide +kernel
theorem dX6_lump_14 : decode cX6_lump 14 = .ok (.iload_n 2, 1) := by decide +kernel
theorem dX6_lump_15 : decode cX6_lump 15 = .ok (.iconst 0, 1) := by decide +kernel
theorem dX6_lump_16 : decode cX6_lump 16 = .ok (.bipush 8, 2) := by decide +kernel
theorem dX6_lump_18 : decode cX6_lump 18 = .ok (.invokestatic 61, 3) := by decide +kernel
theorem dX6_lump_21 : decode cX6_lump 21 = .ok (.ifCond .ne 5, 3) := by decide +kernel
theorem dX6_lump_24 : decode cX6_lump 24 = .ok (.iconst (-1), 1) := by decide +kernel
theorem dX6_lump_25 : decode cX6_lump 25 = .ok (.ireturn, 1) := by decide +kernel
theorem dX6_lump_26 : decode cX6_lump 26 = .ok (.aload_n 0, 1) := by decide +kernel
theorem dX6_lump_27 : decode cX6_lump 27 = .ok (.getfield 26, 3) := by decide +kernel
theorem dX6_lump_30 : decode cX6_lump 30 = .ok (.getfield 150, 3) := by decide +kernel
theorem dX6_lump_33 : decode cX6_lump 33 = .ok (.iload_n 3, 1) := by decide +kernel
theorem dX6_lump_34 : decode cX6_lump 34 = .ok (.iaload, 1) := by decide +kernel
theorem dX6_lump_35 : decode cX6_lump 35 = .ok (.istore 4, 2) := by decide +kernel
theorem dX6_lump_37 : decode cX6_lump 37 = .ok (.aload_n 0, 1) := by decide +kernel
theorem dX6_lump_38 : decode cX6_lump 38 = .ok (.getfield 26, 3) := by decide +kernel
theorem dX6_lump_41 : decode cX6_lump 41 = .ok (.getfield 150, 3) := by decide +kernel
theorem dX6_lump_44 : decode cX6_lump 44 = .ok (.iload_n 3, 1) := by decide +kernel
theorem dX6_lump_45 : decode cX6_lump 45 = .ok (.iload_n 2, 1) := by decide +kernel
theorem dX6_lump_46 : decode cX6_lump 46 = .ok (.iastore, 1) := by decide +kernel
theorem dX6_lump_47 : decode cX6_lump 47 = .ok (.iload 4, 2) := by decide +kernel
theorem dX6_lump_49 : decode cX6_lump 49 = .ok (.ireturn, 1) := by decide +kernel
set_option maxHeartbeats 4000000 in
set_option maxRecDepth 100000 in
theorem c_X6_lump {l : Launch} {Y : ww_Y} {ad : Nat → Nat} {G : List ww_L} (hT : ww_at G 0 ww_LTop) (σ : ww_M) (p1 : Int32) (p2 : Int32) : ww_Cn l Y ad G yX6_lump cX6_lump 5 (some .int) 4 [.ref (ad 0), .int p1, .int p2] σ ((f_X6_lump σ p1 p2).bind ww_rw) := by
  refine ww_met (by decide +kernel) (Nat.le_of_ble_eq_true rfl) ?_
  intro X hC hR
  have hC : ww_C X l Y ad G 4 cX6_lump 5 RX6 := hC
  show ww_V X Y ad G 5 σ 0 [(0, .ref (ad 0)), (1, .int p1), (2, .int p2)] [] ((f_X6_lump σ p1 p2).bind ww_rw)
  unfold f_X6_lump
  refine ww_aload_n (pc := 0) hC 0 rfl dX6_lump_0 rfl ?_
  refine ww_getr (pc := 1) (Cl := RX6) (T := TX6) (N := 10) (j := 2) (ref := RX6) hC (hT 0 _ rfl) rfl inT_X6 (by decide) mw_300 rfl rfl dX6_lump_1 ?_
  refine ww_iload_n (pc := 4) hC 1 rfl dX6_lump_4 rfl ?_
  refine ww_callVi (pc := 5) (st := []) (As := [.int p1]) hC (c_X2_slotOf 4 (ww_top_now hT) σ p1) mm_X2_slotOf mw_564 ((ww_top_now hT) 0 _ rfl) rfl (by omega) (by decide) (Nat.le_of_ble_eq_true rfl) rfl dX6_lump_5 (fun v5 => ?_)
  refine ww_istore_n (pc := 8) (lv' := [(3, .int v5), (0, .ref (ad 0)), (1, .int p1), (2, .int p2)]) hC dX6_lump_8 rfl (by decide) rfl ?_
  refine ww_iload_n (pc := 9) hC 0 rfl dX6_lump_9 rfl ?_
  refine ww_iconst (pc := 10) (v := (-1)) hC dX6_lump_10 rfl ?_
  refine ww_icmp_eq (pc := 11) (tgt := 24) hC dX6_lump_11 (by decide) ?_ ?_
  · refine ww_iconst (pc := 24) (v := (-1)) hC dX6_lump_24 rfl ?_
    exact ww_ireturn (pc := 25) hC hR dX6_lump_25 rfl
  · refine ww_iload_n (pc := 14) hC 3 rfl dX6_lump_14 rfl ?_
    refine ww_iconst (pc := 15) (v := 0) hC dX6_lump_15 rfl ?_
    refine ww_bipush (pc := 16) (v := 8) hC dX6_lump_16 rfl ?_
    refine ww_callSi (pc := 18) (st := []) (As := [.int p2, .int 0, .int 8]) hC (c_X6_within σ p2 0 8) mm_X6_within mw_333 (by omega) (by decide) (Nat.le_of_ble_eq_true rfl) rfl dX6_lump_18 (fun v18 => ?_)
    refine ww_if_ne (pc := 21) (tgt := 26) hC dX6_lump_21 (by decide) ?_ ?_
    · refine ww_aload_n (pc := 26) hC 1 rfl dX6_lump_26 rfl ?_
      refine ww_getr (pc := 27) (Cl := RX6) (T := TX6) (N := 10) (j := 2) (ref := RX6) hC (hT 0 _ rfl) rfl inT_X6 (by decide) mw_300 rfl rfl dX6_lump_27 ?_
      refine ww_getr (pc := 30) (Cl := RX2) (T := TX2) (N := 17) (j := 7) (ref := RX2) hC ((ww_top_now hT) 0 _ rfl) rfl inT_X2 (by decide) mw_156 rfl rfl dX6_lump_30 ?_
      refine ww_iload_n (pc := 33) hC 0 rfl dX6_lump_33 rfl ?_
      refine ww_iald (pc := 34) hC ((ww_top_now hT) 8 _ rfl) dX6_lump_34 ?_
      refine ww_istore (pc := 35) (lv' := [(4, .int (σ (4 + 8) (ww_ix v5))), (3, .int v5), (0, .ref (ad 0)), (1, .int p1), (2, .int p2)]) hC dX6_lump_35 (by decide) rfl ?_
      refine ww_aload_n (pc := 37) hC 2 rfl dX6_lump_37 rfl ?_
      refine ww_getr (pc := 38) (Cl := RX6) (T := TX6) (N := 10) (j := 2) (ref := RX6) hC (hT 0 _ rfl) rfl inT_X6 (by decide) mw_300 rfl rfl dX6_lump_38 ?_
      refine ww_getr (pc := 41) (Cl := RX2) (T := TX2) (N := 17) (j := 7) (ref := RX2) hC ((ww_top_now hT) 0 _ rfl) rfl inT_X2 (by decide) mw_156 rfl rfl dX6_lump_41 ?_
      refine ww_iload_n (pc := 44) hC 1 rfl dX6_lump_44 rfl ?_
      refine ww_iload_n (pc := 45) hC 4 rfl dX6_lump_45 rfl ?_
      refine ww_iast (pc := 46) hC ((ww_top_now hT) 8 _ rfl) dX6_lump_46 ?_
      refine ww_iload (pc := 47) hC 0 rfl dX6_lump_47 ?_
      exact ww_ireturn (pc := 49) hC hR dX6_lump_49 rfl
    · refine ww_iconst (pc := 24) (v := (-1)) hC dX6_lump_24 rfl ?_
      exact ww_ireturn (pc := 25) hC hR dX6_lump_25 rfl
theorem dX6_go_0 : decode cX6_go 0 = .ok (.aload_n 0, 1) := by decide +kernel
theorem dX6_go_1 : decode cX6_go 1 = .ok (.getfield 26, 3) := by decide +kernel
theorem dX6_go_4 : decode cX6_go 4 = .ok (.iload_n 1, 1) := by decide +kernel
theorem dX6_go_5 : decode cX6_go 5 = .ok (.iload_n 2, 1) := by decide +kernel
theorem dX6_go_6 : decode cX6_go 6 = .ok (.invokevirtual 164, 3) := by decide +kernel
theorem dX6_go_9 : decode cX6_go 9 = .ok (.istore_n 3, 1) := by decide +kernel
theorem dX6_go_10 : decode cX6_go 10 = .ok (.iload_n 3, 1) := by decide +kernel
theorem dX6_go_11 : decode cX6_go 11 = .ok (.ifCond .eq 7, 3) := by decide +kernel
theorem dX6_go_14 : decode cX6_go 14 = .ok (.iload_n 3, 1) := by decide +kernel
theorem dX6_go_15 : decode cX6_go 15 = .ok (.goto 26, 3) := by decide +kernel
theorem dX6_go_18 : decode cX6_go 18 = .ok (.aload_n 0, 1) := by decide +kernel
theorem dX6_go_19 : decode cX6_go 19 = .ok (.getfield 26, 3) := by decide +kernel
theorem dX6_go_22 : decode cX6_go 22 = .ok (.aload_n 0, 1) := by decide +kernel
theorem dX6_go_23 : decode cX6_go 23 = .ok (.getfield 26, 3) := by decide +kernel
theorem dX6_go_26 : decode cX6_go 26 = .ok (.iload_n 1, 1) := by decide +kernel
theorem dX6_go_27 : decode cX6_go 27 = .ok (.invokevirtual 141, 3) := by decide +kernel
theorem dX6_go_30 : decode cX6_go 30 = .ok (.aload_n 0, 1) := by decide +kernel
theorem dX6_go_31 : decode cX6_go 31 = .ok (.getfield 26, 3) := by decide +kernel
theorem dX6_go_34 : decode cX6_go 34 = .ok (.iload_n 2, 1) := by decide +kernel
theorem dX6_go_35 : decode cX6_go 35 = .ok (.invokevirtual 141, 3) := by decide +kernel
theorem dX6_go_38 : decode cX6_go 38 = .ok (.invokevirtual 167, 3) := by decide +kernel
theorem dX6_go_41 : decode cX6_go 41 = .ok (.ireturn, 1) := by decide +kernel
set_option maxHeartbeats 4000000 in
set_option maxRecDepth 100000 in
theorem c_X6_go {l : Launch} {Y : ww_Y} {ad : Nat → Nat} {G : List ww_L} (hT : ww_at G 0 ww_LTop) (σ : ww_M) (p1 : Int32) (p2 : Int32) : ww_Cn l Y ad G yX6_go cX6_go 4 (some .int) 7 [.ref (ad 0), .int p1, .int p2] σ ((f_X6_go σ p1 p2).bind ww_rw) := by
  refine ww_met (by decide +kernel) (Nat.le_of_ble_eq_true rfl) ?_
  intro X hC hR
  have hC : ww_C X l Y ad G 7 cX6_go 4 RX6 := hC
  show ww_V X Y ad G 4 σ 0 [(0, .ref (ad 0)), (1, .int p1), (2, .int p2)] [] ((f_X6_go σ p1 p2).bind ww_rw)
  unfold f_X6_go
  refine ww_aload_n (pc := 0) hC 0 rfl dX6_go_0 rfl ?_
  refine ww_getr (pc := 1) (Cl := RX6) (T := TX6) (N := 10) (j := 2) (ref := RX6) hC (hT 0 _ rfl) rfl inT_X6 (by decide) mw_300 rfl rfl dX6_go_1 ?_
  refine ww_iload_n (pc := 4) hC 1 rfl dX6_go_4 rfl ?_
  refine ww_iload_n (pc := 5) hC 2 rfl dX6_go_5 rfl ?_
  refine ww_callVi (pc := 6) (st := []) (As := [.int p1, .int p2]) hC (c_X2_refusal 4 (ww_top_now hT) σ p1 p2) mm_X2_refusal mw_625 ((ww_top_now hT) 0 _ rfl) rfl (by omega) (by decide) (Nat.le_of_ble_eq_true rfl) rfl dX6_go_6 (fun v6 => ?_)
  refine ww_istore_n (pc := 9) (lv' := [(3, .int v6), (0, .ref (ad 0)), (1, .int p1), (2, .int p2)]) hC dX6_go_9 rfl (by decide) rfl ?_
  refine ww_iload_n (pc := 10) hC 0 rfl dX6_go_10 rfl ?_
  refine ww_if_eq (pc := 11) (tgt := 18) hC dX6_go_11 (by decide) ?_ ?_
  · refine ww_aload_n (pc := 18) hC 1 rfl dX6_go_18 rfl ?_
    refine ww_getr (pc := 19) (Cl := RX6) (T := TX6) (N := 10) (j := 2) (ref := RX6) hC (hT 0 _ rfl) rfl inT_X6 (by decide) mw_300 rfl rfl dX6_go_19 ?_
    refine ww_aload_n (pc := 22) hC 1 rfl dX6_go_22 rfl ?_
    refine ww_getr (pc := 23) (Cl := RX6) (T := TX6) (N := 10) (j := 2) (ref := RX6) hC (hT 0 _ rfl) rfl inT_X6 (by decide) mw_300 rfl rfl dX6_go_23 ?_
    refine ww_iload_n (pc := 26) hC 2 rfl dX6_go_26 rfl ?_
    refine ww_callVi (pc := 27) (st := [.ref (ad 4)]) (As := [.int p1]) hC (c_X2_slotOf 4 (ww_top_now hT) σ p1) mm_X2_slotOf mw_564 ((ww_top_now hT) 0 _ rfl) rfl (by omega) (by decide) (Nat.le_of_ble_eq_true rfl) rfl dX6_go_27 (fun v27 => ?_)
    refine ww_aload_n (pc := 30) hC 1 rfl dX6_go_30 rfl ?_
    refine ww_getr (pc := 31) (Cl := RX6) (T := TX6) (N := 10) (j := 2) (ref := RX6) hC (hT 0 _ rfl) rfl inT_X6 (by decide) mw_300 rfl rfl dX6_go_31 ?_
    refine ww_iload_n (pc := 34) hC 3 rfl dX6_go_34 rfl ?_
    refine ww_callVi (pc := 35) (st := [.int v27, .ref (ad 4)]) (As := [.int p2]) hC (c_X2_slotOf 4 (ww_top_now hT) σ p2) mm_X2_slotOf mw_564 ((ww_top_now hT) 0 _ rfl) rfl (by omega) (by decide) (Nat.le_of_ble_eq_true rfl) rfl dX6_go_35 (fun v35 => ?_)
    refine ww_callVw (pc := 38) (st := []) (As := [.int v27, .int v35]) hC (c_X2_hourGoes 4 (ww_top_now hT) σ v27 v35) mm_X2_hourGoes mw_639 ((ww_top_now hT) 0 _ rfl) rfl (by omega) (by decide) (Nat.le_of_ble_eq_true rfl) rfl dX6_go_38 (fun v38 => ?_)
    exact ww_ireturn (pc := 41) hC hR dX6_go_41 rfl
  · refine ww_iload_n (pc := 14) hC 0 rfl dX6_go_14 rfl ?_
    refine ww_goto (pc := 15) (tgt := 41) hC dX6_go_15 (by decide) ?_
    exact ww_ireturn (pc := 41) hC hR dX6_go_41 rfl
theorem dX6_wet_0 : decode cX6_wet 0 = .ok (.iload_n 1, 1) := by decide +kernel
theorem dX6_wet_1 : decode cX6_wet 1 = .ok (.iconst 0, 1) := by decide +kernel
theorem dX6_wet_2 : decode cX6_wet 2 = .ok (.sipush 999, 3) := by decide +kernel
theorem dX6_wet_5 : decode cX6_wet 5 = .ok (.invokestatic 61, 3) := by decide +kernel
theorem dX6_wet_8 : decode cX6_wet 8 = .ok (.ifCond .eq 14, 3) := by decide +kernel
theorem dX6_wet_11 : decode cX6_wet 11 = .ok (.aload_n 0, 1) := by decide +kernel
theorem dX6_wet_12 : decode cX6_wet 12 = .ok (.getfield 26, 3) := by decide +kernel
theorem dX6_wet_15 : decode cX6_wet 15 = .ok (.iload_n 1, 1) := by decide +kernel
theorem dX6_wet_16 : decode cX6_wet 16 = .ok (.invokevirtual 170, 3) := by decide +kernel
theorem dX6_wet_19 : decode cX6_wet 19 = .ok (.goto 4, 3) := by decide +kernel
theorem dX6_wet_22 : decode cX6_wet 22 = .ok (.iconst (-1), 1) := by decide +kernel
theorem dX6_wet_23 : decode cX6_wet 23 = .ok (.ireturn, 1) := by decide +kernel
set_option maxHeartbeats 4000000 in
set_option maxRecDepth 100000 in
theorem c_X6_wet {l : Launch} {Y : ww_Y} {ad : Nat → Nat} {G : List ww_L} (hT : ww_at G 0 ww_LTop) (σ : ww_M) (p1 : Int32) : ww_Cn l Y ad G yX6_wet cX6_wet 2 (some .int) 4 [.ref (ad 0), .int p1] σ ((f_X6_wet σ p1).bind (ww_ri σ)) := by
  refine ww_met (by decide +kernel) (Nat.le_of_ble_eq_true rfl) ?_
  intro X hC hR
  have hC : ww_C X l Y ad G 4 cX6_wet 2 RX6 := hC
  show ww_V X Y ad G 2 σ 0 [(0, .ref (ad 0)), (1, .int p1)] [] ((f_X6_wet σ p1).bind (ww_ri σ))
  unfold f_X6_wet
  refine ww_iload_n (pc := 0) hC 1 rfl dX6_wet_0 rfl ?_
  refine ww_iconst (pc := 1) (v := 0) hC dX6_wet_1 rfl ?_
  refine ww_sipush (pc := 2) (v := 999) hC dX6_wet_2 rfl ?_
  refine ww_callSi (pc := 5) (st := []) (As := [.int p1, .int 0, .int 999]) hC (c_X6_within σ p1 0 999) mm_X6_within mw_333 (by omega) (by decide) (Nat.le_of_ble_eq_true rfl) rfl dX6_wet_5 (fun v5 => ?_)
  refine ww_if_eq (pc := 8) (tgt := 22) hC dX6_wet_8 (by decide) ?_ ?_
  · refine ww_iconst (pc := 22) (v := (-1)) hC dX6_wet_22 rfl ?_
    exact ww_ireturn (pc := 23) hC hR dX6_wet_23 rfl
  · refine ww_aload_n (pc := 11) hC 0 rfl dX6_wet_11 rfl ?_
    refine ww_getr (pc := 12) (Cl := RX6) (T := TX6) (N := 10) (j := 2) (ref := RX6) hC (hT 0 _ rfl) rfl inT_X6 (by decide) mw_300 rfl rfl dX6_wet_12 ?_
    refine ww_iload_n (pc := 15) hC 1 rfl dX6_wet_15 rfl ?_
    refine ww_callVi (pc := 16) (st := []) (As := [.int p1]) hC (c_X2_wetPlaces 4 (ww_top_now hT) σ p1) mm_X2_wetPlaces mw_654 ((ww_top_now hT) 0 _ rfl) rfl (by omega) (by decide) (Nat.le_of_ble_eq_true rfl) rfl dX6_wet_16 (fun v16 => ?_)
    refine ww_goto (pc := 19) (tgt := 23) hC dX6_wet_19 (by decide) ?_
    exact ww_ireturn (pc := 23) hC hR dX6_wet_23 rfl
theorem dX6_floats_0 : decode cX6_floats 0 = .ok (.aload_n 0, 1) := by decide +kernel
theorem dX6_floats_1 : decode cX6_floats 1 = .ok (.getfield 26, 3) := by decide +kernel
theorem dX6_floats_4 : decode cX6_floats 4 = .ok (.iload_n 1, 1) := by decide +kernel
theorem dX6_floats_5 : decode cX6_floats 5 = .ok (.invokevirtual 129, 3) := by decide +kernel
theorem dX6_floats_8 : decode cX6_floats 8 = .ok (.ifCond .ne 5, 3) := by decide +kernel
theorem dX6_floats_11 : decode cX6_floats 11 = .ok (.iconst (-1), 1) := by decide +kernel
theorem dX6_floats_12 : decode cX6_floats 12 = .ok (.ireturn, 1) := by decide +kernel
theorem dX6_floats_13 : decode cX6_floats 13 = .ok (.aload_n 0, 1) := by decide +kernel
theorem dX6_floats_14 : decode cX6_floats 14 = .ok (.getfield 26, 3) := by decide +kernel
theorem dX6_floats_17 : decode cX6_floats 17 = .ok (.iload_n 1, 1) := by decide +kernel
theorem dX6_floats_18 : decode cX6_floats 18 = .ok (.invokevirtual 138, 3) := by decide +kernel
theorem dX6_floats_21 : decode cX6_floats 21 = .ok (.ifCond .eq 6, 3) := by decide +kernel
theorem dX6_floats_24 : decode cX6_floats 24 = .ok (.bipush (-2), 2) := by decide +kernel
theorem dX6_floats_26 : decode cX6_floats 26 = .ok (.ireturn, 1) := by decide +kernel
theorem dX6_floats_27 : decode cX6_floats 27 = .ok (.iconst 0, 1) := by decide +kernel
theorem dX6_floats_28 : decode cX6_floats 28 = .ok (.istore_n 2, 1) := by decide +kernel
theorem dX6_floats_29 : decode cX6_floats 29 = .ok (.iload_n 2, 1) := by decide +kernel
theorem dX6_floats_30 : decode cX6_floats 30 = .ok (.bipush 60, 2) := by decide +kernel
theorem dX6_floats_32 : decode cX6_floats 32 = .ok (.if_icmp .ge 43, 3) := by decide +kernel
theorem dX6_floats_35 : decode cX6_floats 35 = .ok (.aload_n 0, 1) := by decide +kernel
theorem dX6_floats_36 : decode cX6_floats 36 = .ok (.getfield 26, 3) := by decide +kernel
theorem dX6_floats_39 : decode cX6_floats 39 = .ok (.aload_n 0, 1) := by decide +kernel
theorem dX6_floats_40 : decode cX6_floats 40 = .ok (.getfield 26, 3) := by decide +kernel
theorem dX6_floats_43 : decode cX6_floats 43 = .ok (.getfield 112, 3) := by decide +kernel
theorem dX6_floats_46 : decode cX6_floats 46 = .ok (.iload_n 2, 1) := by decide +kernel
theorem dX6_floats_47 : decode cX6_floats 47 = .ok (.iadd, 1) := by decide +kernel
theorem dX6_floats_48 : decode cX6_floats 48 = .ok (.invokevirtual 173, 3) := by decide +kernel
theorem dX6_floats_51 : decode cX6_floats 51 = .ok (.iload_n 1, 1) := by decide +kernel
theorem dX6_floats_52 : decode cX6_floats 52 = .ok (.ishr, 1) := by decide +kernel
theorem dX6_floats_53 : decode cX6_floats 53 = .ok (.iconst 1, 1) := by decide +kernel
theorem dX6_floats_54 : decode cX6_floats 54 = .ok (.iand, 1) := by decide +kernel
theorem dX6_floats_55 : decode cX6_floats 55 = .ok (.iconst 1, 1) := by decide +kernel
theorem dX6_floats_56 : decode cX6_floats 56 = .ok (.if_icmp .ne 13, 3) := by decide +kernel
theorem dX6_floats_59 : decode cX6_floats 59 = .ok (.aload_n 0, 1) := by decide +kernel
theorem dX6_floats_60 : decode cX6_floats 60 = .ok (.getfield 26, 3) := by decide +kernel
theorem dX6_floats_63 : decode cX6_floats 63 = .ok (.getfield 112, 3) := by decide +kernel
theorem dX6_floats_66 : decode cX6_floats 66 = .ok (.iload_n 2, 1) := by decide +kernel
theorem dX6_floats_67 : decode cX6_floats 67 = .ok (.iadd, 1) := by decide +kernel
theorem dX6_floats_68 : decode cX6_floats 68 = .ok (.ireturn, 1) := by decide +kernel
theorem dX6_floats_69 : decode cX6_floats 69 = .ok (.iinc 2 1, 3) := by decide +kernel
theorem dX6_floats_72 : decode cX6_floats 72 = .ok (.goto (-43), 3) := by decide +kernel
theorem dX6_floats_75 : decode cX6_floats 75 = .ok (.bipush (-4), 2) := by decide +kernel
theorem dX6_floats_77 : decode cX6_floats 77 = .ok (.ireturn, 1) := by decide +kernel
set_option maxHeartbeats 4000000 in
set_option maxRecDepth 100000 in
theorem c_X6_floats {l : Launch} {Y : ww_Y} {ad : Nat → Nat} {G : List ww_L} (hT : ww_at G 0 ww_LTop) (σ : ww_M) (p1 : Int32) : ww_Cn l Y ad G yX6_floats cX6_floats 3 (some .int) 5 [.ref (ad 0), .int p1] σ ((f_X6_floats σ p1).bind (ww_ri σ)) := by
  refine ww_met (by decide +kernel) (Nat.le_of_ble_eq_true rfl) ?_
  intro X hC hR
  have hC : ww_C X l Y ad G 5 cX6_floats 3 RX6 := hC
  show ww_V X Y ad G 3 σ 0 [(0, .ref (ad 0)), (1, .int p1)] [] ((f_X6_floats σ p1).bind (ww_ri σ))
  have hJ75 : ww_V X Y ad G 3 σ 75 [] [] ((f_X6_floats_j75 σ p1).bind (ww_ri σ)) := by
    unfold f_X6_floats_j75
    refine ww_bipush (pc := 75) (v := (-4)) hC dX6_floats_75 rfl ?_
    exact ww_ireturn (pc := 77) hC hR dX6_floats_77 rfl
  have hJ29 : ∀ (x2 : Int32), ww_V X Y ad G 3 σ 29 [(0, .ref (ad 0)), (1, .int p1), (2, .int x2)] [] ((f_X6_floats_j29 σ p1 x2).bind (ww_ri σ)) := by
    intro x2
    unfold f_X6_floats_j29
    refine ww_assoc ?_
    refine ww_loopR (f := f_X6_floats_b29 σ p1) (fun a29 => σ) (fun a29 => [(0, .ref (ad 0)), (1, .int p1), (2, .int a29)]) (fun b29 => σ) (fun b29 => []) 75 (fun b29 => ?_) (fun a29 KK29 hc29 hx29 hr29 => ?_) ww_F x2
    · exact hJ75
    · unfold f_X6_floats_b29
      refine ww_iload_n (pc := 29) hC 2 rfl dX6_floats_29 rfl ?_
      refine ww_bipush (pc := 30) (v := 60) hC dX6_floats_30 rfl ?_
      refine ww_icmp_ge (pc := 32) (tgt := 75) hC dX6_floats_32 (by decide) ?_ ?_
      · refine ww_lv [] rfl ?_
        exact hx29 ()
      · refine ww_aload_n (pc := 35) hC 0 rfl dX6_floats_35 rfl ?_
        refine ww_getr (pc := 36) (Cl := RX6) (T := TX6) (N := 10) (j := 2) (ref := RX6) hC (hT 0 _ rfl) rfl inT_X6 (by decide) mw_300 rfl rfl dX6_floats_36 ?_
        refine ww_aload_n (pc := 39) hC 0 rfl dX6_floats_39 rfl ?_
        refine ww_getr (pc := 40) (Cl := RX6) (T := TX6) (N := 10) (j := 2) (ref := RX6) hC (hT 0 _ rfl) rfl inT_X6 (by decide) mw_300 rfl rfl dX6_floats_40 ?_
        refine ww_geti (pc := 43) (Cl := RX2) (T := TX2) (N := 17) (j := 15) (ref := RX2) hC ((ww_top_now hT) 0 _ rfl) rfl inT_X2 (by decide) mw_180 rfl rfl dX6_floats_43 ?_
        refine ww_iload_n (pc := 46) hC 2 rfl dX6_floats_46 rfl ?_
        refine ww_iadd (pc := 47) hC dX6_floats_47 ?_
        refine ww_callVi (pc := 48) (st := []) (As := [.int ((σ 4 15) + a29)]) hC (c_X2_floatingBeasts 4 (ww_top_now hT) σ ((σ 4 15) + a29)) mm_X2_floatingBeasts mw_659 ((ww_top_now hT) 0 _ rfl) rfl (by omega) (by decide) (Nat.le_of_ble_eq_true rfl) rfl dX6_floats_48 (fun v48 => ?_)
        refine ww_iload_n (pc := 51) hC 1 rfl dX6_floats_51 rfl ?_
        refine ww_ishr (pc := 52) hC dX6_floats_52 ?_
        refine ww_iconst (pc := 53) (v := 1) hC dX6_floats_53 rfl ?_
        refine ww_iand (pc := 54) hC dX6_floats_54 ?_
        refine ww_iconst (pc := 55) (v := 1) hC dX6_floats_55 rfl ?_
        refine ww_icmp_ne (pc := 56) (tgt := 69) hC dX6_floats_56 (by decide) ?_ ?_
        · refine ww_iinc (pc := 69) (v := a29 + 1) (lv' := [(2, .int (a29 + 1)), (0, .ref (ad 0)), (1, .int p1)]) hC 2 rfl dX6_floats_69 rfl (by decide) rfl ?_
          refine ww_goto (pc := 72) (tgt := 29) hC dX6_floats_72 (by decide) ?_
          refine ww_lv [1, 2, 0] rfl ?_
          exact hc29 (a29 + 1)
        · refine ww_aload_n (pc := 59) hC 0 rfl dX6_floats_59 rfl ?_
          refine ww_getr (pc := 60) (Cl := RX6) (T := TX6) (N := 10) (j := 2) (ref := RX6) hC (hT 0 _ rfl) rfl inT_X6 (by decide) mw_300 rfl rfl dX6_floats_60 ?_
          refine ww_geti (pc := 63) (Cl := RX2) (T := TX2) (N := 17) (j := 15) (ref := RX2) hC ((ww_top_now hT) 0 _ rfl) rfl inT_X2 (by decide) mw_180 rfl rfl dX6_floats_63 ?_
          refine ww_iload_n (pc := 66) hC 2 rfl dX6_floats_66 rfl ?_
          refine ww_iadd (pc := 67) hC dX6_floats_67 ?_
          exact ww_ireturn (pc := 68) hC hR dX6_floats_68 ((hr29 _).trans rfl)
  unfold f_X6_floats
  refine ww_aload_n (pc := 0) hC 0 rfl dX6_floats_0 rfl ?_
  refine ww_getr (pc := 1) (Cl := RX6) (T := TX6) (N := 10) (j := 2) (ref := RX6) hC (hT 0 _ rfl) rfl inT_X6 (by decide) mw_300 rfl rfl dX6_floats_1 ?_
  refine ww_iload_n (pc := 4) hC 1 rfl dX6_floats_4 rfl ?_
  refine ww_callVi (pc := 5) (st := []) (As := [.int p1]) hC (c_X2_hasBeast 4 (ww_top_now hT) σ p1) mm_X2_hasBeast mw_552 ((ww_top_now hT) 0 _ rfl) rfl (by omega) (by decide) (Nat.le_of_ble_eq_true rfl) rfl dX6_floats_5 (fun v5 => ?_)
  refine ww_if_ne (pc := 8) (tgt := 13) hC dX6_floats_8 (by decide) ?_ ?_
  · refine ww_aload_n (pc := 13) hC 0 rfl dX6_floats_13 rfl ?_
    refine ww_getr (pc := 14) (Cl := RX6) (T := TX6) (N := 10) (j := 2) (ref := RX6) hC (hT 0 _ rfl) rfl inT_X6 (by decide) mw_300 rfl rfl dX6_floats_14 ?_
    refine ww_iload_n (pc := 17) hC 1 rfl dX6_floats_17 rfl ?_
    refine ww_callVi (pc := 18) (st := []) (As := [.int p1]) hC (c_X2_isLost 4 (ww_top_now hT) σ p1) mm_X2_isLost mw_556 ((ww_top_now hT) 0 _ rfl) rfl (by omega) (by decide) (Nat.le_of_ble_eq_true rfl) rfl dX6_floats_18 (fun v18 => ?_)
    refine ww_if_eq (pc := 21) (tgt := 27) hC dX6_floats_21 (by decide) ?_ ?_
    · refine ww_iconst (pc := 27) (v := 0) hC dX6_floats_27 rfl ?_
      refine ww_istore_n (pc := 28) (lv' := [(2, .int 0), (0, .ref (ad 0)), (1, .int p1)]) hC dX6_floats_28 rfl (by decide) rfl ?_
      refine ww_lv [1, 2, 0] rfl ?_
      exact hJ29 0
    · refine ww_bipush (pc := 24) (v := (-2)) hC dX6_floats_24 rfl ?_
      exact ww_ireturn (pc := 26) hC hR dX6_floats_26 rfl
  · refine ww_iconst (pc := 11) (v := (-1)) hC dX6_floats_11 rfl ?_
    exact ww_ireturn (pc := 12) hC hR dX6_floats_12 rfl
theorem dX6_has_0 : decode cX6_has 0 = .ok (.iload_n 1, 1) := by decide +kernel
theorem dX6_has_1 : decode cX6_has 1 = .ok (.iconst 0, 1) := by decide +kernel
theorem dX6_has_2 : decode cX6_has 2 = .ok (.iconst 3, 1) := by decide +kernel
theorem dX6_has_3 : decode cX6_has 3 = .ok (.invokestatic 61, 3) := by decide +kernel
theorem dX6_has_6 : decode cX6_has 6 = .ok (.ifCond .eq 15, 3) := by decide +kernel
theorem dX6_has_9 : decode cX6_has 9 = .ok (.aload_n 0, 1) := by decide +kernel
theorem dX6_has_10 : decode cX6_has 10 = .ok (.getfield 26, 3) := by decide +kernel
theorem dX6_has_13 : decode cX6_has 13 = .ok (.getfield 176, 3) := by decide +kernel
theorem dX6_has_16 : decode cX6_has 16 = .ok (.iload_n 1, 1) := by decide +kernel
theorem dX6_has_17 : decode cX6_has 17 = .ok (.iaload, 1) := by decide +kernel
theorem dX6_has_18 : decode cX6_has 18 = .ok (.goto 4, 3) := by decide +kernel
theorem dX6_has_21 : decode cX6_has 21 = .ok (.iconst (-1), 1) := by decide +kernel
theorem dX6_has_22 : decode cX6_has 22 = .ok (.ireturn, 1) := by decide +kernel
set_option maxHeartbeats 4000000 in
set_option maxRecDepth 100000 in
theorem c_X6_has {l : Launch} {Y : ww_Y} {ad : Nat → Nat} {G : List ww_L} (hT : ww_at G 0 ww_LTop) (σ : ww_M) (p1 : Int32) : ww_Cn l Y ad G yX6_has cX6_has 2 (some .int) 2 [.ref (ad 0), .int p1] σ ((f_X6_has σ p1).bind (ww_ri σ)) := by
  refine ww_met (by decide +kernel) (Nat.le_of_ble_eq_true rfl) ?_
  intro X hC hR
  have hC : ww_C X l Y ad G 2 cX6_has 2 RX6 := hC
  show ww_V X Y ad G 2 σ 0 [(0, .ref (ad 0)), (1, .int p1)] [] ((f_X6_has σ p1).bind (ww_ri σ))
  unfold f_X6_has
  refine ww_iload_n (pc := 0) hC 1 rfl dX6_has_0 rfl ?_
  refine ww_iconst (pc := 1) (v := 0) hC dX6_has_1 rfl ?_
  refine ww_iconst (pc := 2) (v := 3) hC dX6_has_2 rfl ?_
  refine ww_callSi (pc := 3) (st := []) (As := [.int p1, .int 0, .int 3]) hC (c_X6_within σ p1 0 3) mm_X6_within mw_333 (by omega) (by decide) (Nat.le_of_ble_eq_true rfl) rfl dX6_has_3 (fun v3 => ?_)
  refine ww_if_eq (pc := 6) (tgt := 21) hC dX6_has_6 (by decide) ?_ ?_
  · refine ww_iconst (pc := 21) (v := (-1)) hC dX6_has_21 rfl ?_
    exact ww_ireturn (pc := 22) hC hR dX6_has_22 rfl
  · refine ww_aload_n (pc := 9) hC 0 rfl dX6_has_9 rfl ?_
    refine ww_getr (pc := 10) (Cl := RX6) (T := TX6) (N := 10) (j := 2) (ref := RX6) hC (hT 0 _ rfl) rfl inT_X6 (by decide) mw_300 rfl rfl dX6_has_10 ?_
    refine ww_getr (pc := 13) (Cl := RX2) (T := TX2) (N := 17) (j := 8) (ref := RX2) hC ((ww_top_now hT) 0 _ rfl) rfl inT_X2 (by decide) mw_158 rfl rfl dX6_has_13 ?_
    refine ww_iload_n (pc := 16) hC 1 rfl dX6_has_16 rfl ?_
    refine ww_iald (pc := 17) hC ((ww_top_now hT) 9 _ rfl) dX6_has_17 ?_
    refine ww_goto (pc := 18) (tgt := 22) hC dX6_has_18 (by decide) ?_
    exact ww_ireturn (pc := 22) hC hR dX6_has_22 rfl
theorem dX6_best_0 : decode cX6_best 0 = .ok (.iload_n 1, 1) := by decide +kernel
theorem dX6_best_1 : decode cX6_best 1 = .ok (.iconst 0, 1) := by decide +kernel
theorem dX6_best_2 : decode cX6_best 2 = .ok (.bipush 6, 2) := by decide +kernel
theorem dX6_best_4 : decode cX6_best 4 = .ok (.invokestatic 61, 3) := by decide +kernel
theorem dX6_best_7 : decode cX6_best 7 = .ok (.ifCond .ne 5, 3) := by decide +kernel
theorem dX6_best_10 : decode cX6_best 10 = .ok (.iconst (-1), 1) := by decide +kernel
theorem dX6_best_11 : decode cX6_best 11 = .ok (.ireturn, 1) := by decide +kernel
theorem dX6_best_12 : decode cX6_best 12 = .ok (.iload_n 2, 1) := by decide +kernel
theorem dX6_best_13 : decode cX6_best 13 = .ok (.ifCond .eq 20, 3) := by decide +kernel
theorem dX6_best_16 : decode cX6_best 16 = .ok (.iload_n 2, 1) := by decide +kernel
theorem dX6_best_17 : decode cX6_best 17 = .ok (.bipush 10, 2) := by decide +kernel
theorem dX6_best_19 : decode cX6_best 19 = .ok (.bipush 9, 2) := by decide +kernel
theorem dX6_best_21 : decode cX6_best 21 = .ok (.iconst 2, 1) := by decide +kernel
theorem dX6_best_22 : decode cX6_best 22 = .ok (.iload_n 1, 1) := by decide +kernel
theorem dX6_best_23 : decode cX6_best 23 = .ok (.imul, 1) := by decide +kernel
theorem dX6_best_24 : decode cX6_best 24 = .ok (.iadd, 1) := by decide +kernel
theorem dX6_best_25 : decode cX6_best 25 = .ok (.invokestatic 61, 3) := by decide +kernel
theorem dX6_best_28 : decode cX6_best 28 = .ok (.ifCond .ne 5, 3) := by decide +kernel
theorem dX6_best_31 : decode cX6_best 31 = .ok (.iconst (-1), 1) := by decide +kernel
theorem dX6_best_32 : decode cX6_best 32 = .ok (.ireturn, 1) := by decide +kernel
theorem dX6_best_33 : decode cX6_best 33 = .ok (.aload_n 0, 1) := by decide +kernel
theorem dX6_best_34 : decode cX6_best 34 = .ok (.getfield 47, 3) := by decide +kernel
theorem dX6_best_37 : decode cX6_best 37 = .ok (.aload_n 0, 1) := by decide +kernel
theorem dX6_best_38 : decode cX6_best 38 = .ok (.getfield 26, 3) := by decide +kernel
theorem dX6_best_41 : decode cX6_best 41 = .ok (.iload_n 1, 1) := by decide +kernel
theorem dX6_best_42 : decode cX6_best 42 = .ok (.aload_n 0, 1) := by decide +kernel
theorem dX6_best_43 : decode cX6_best 43 = .ok (.getfield 26, 3) := by decide +kernel
theorem dX6_best_46 : decode cX6_best 46 = .ok (.getfield 106, 3) := by decide +kernel
theorem dX6_best_49 : decode cX6_best 49 = .ok (.iconst (-1), 1) := by decide +kernel
theorem dX6_best_50 : decode cX6_best 50 = .ok (.invokevirtual 179, 3) := by decide +kernel
theorem dX6_best_53 : decode cX6_best 53 = .ok (.istore_n 3, 1) := by decide +kernel
theorem dX6_best_54 : decode cX6_best 54 = .ok (.iload_n 2, 1) := by decide +kernel
theorem dX6_best_55 : decode cX6_best 55 = .ok (.ifCond .ne 7, 3) := by decide +kernel
theorem dX6_best_58 : decode cX6_best 58 = .ok (.iload_n 3, 1) := by decide +kernel
theorem dX6_best_59 : decode cX6_best 59 = .ok (.goto 14, 3) := by decide +kernel
theorem dX6_best_62 : decode cX6_best 62 = .ok (.aload_n 0, 1) := by decide +kernel
theorem dX6_best_63 : decode cX6_best 63 = .ok (.getfield 47, 3) := by decide +kernel
theorem dX6_best_66 : decode cX6_best 66 = .ok (.iload_n 2, 1) := by decide +kernel
theorem dX6_best_67 : decode cX6_best 67 = .ok (.bipush 10, 2) := by decide +kernel
theorem dX6_best_69 : decode cX6_best 69 = .ok (.isub, 1) := by decide +kernel
theorem dX6_best_70 : decode cX6_best 70 = .ok (.invokevirtual 183, 3) := by decide +kernel
theorem dX6_best_73 : decode cX6_best 73 = .ok (.ireturn, 1) := by decide +kernel
set_option maxHeartbeats 4000000 in
set_option maxRecDepth 100000 in
theorem c_X6_best {l : Launch} {Y : ww_Y} {ad : Nat → Nat} {G : List ww_L} (hT : ww_at G 0 ww_LTop) (σ : ww_M) (p1 : Int32) (p2 : Int32) : ww_Cn l Y ad G yX6_best cX6_best 4 (some .int) 33 [.ref (ad 0), .int p1, .int p2] σ ((f_X6_best σ p1 p2).bind ww_rw) := by
  refine ww_met (by decide +kernel) (Nat.le_of_ble_eq_true rfl) ?_
  intro X hC hR
  have hC : ww_C X l Y ad G 33 cX6_best 4 RX6 := hC
  show ww_V X Y ad G 4 σ 0 [(0, .ref (ad 0)), (1, .int p1), (2, .int p2)] [] ((f_X6_best σ p1 p2).bind ww_rw)
  have hJ33 : ∀ (σ : ww_M), ww_V X Y ad G 4 σ 33 [(0, .ref (ad 0)), (1, .int p1), (2, .int p2)] [] ((f_X6_best_j33 σ p1 p2).bind ww_rw) := by
    intro σ
    unfold f_X6_best_j33
    refine ww_aload_n (pc := 33) hC 0 rfl dX6_best_33 rfl ?_
    refine ww_getr (pc := 34) (Cl := RX6) (T := TX6) (N := 10) (j := 7) (ref := RX6) hC (hT 0 _ rfl) rfl inT_X6 (by decide) mw_305 rfl rfl dX6_best_34 ?_
    refine ww_aload_n (pc := 37) hC 0 rfl dX6_best_37 rfl ?_
    refine ww_getr (pc := 38) (Cl := RX6) (T := TX6) (N := 10) (j := 2) (ref := RX6) hC (hT 0 _ rfl) rfl inT_X6 (by decide) mw_300 rfl rfl dX6_best_38 ?_
    refine ww_iload_n (pc := 41) hC 1 rfl dX6_best_41 rfl ?_
    refine ww_aload_n (pc := 42) hC 0 rfl dX6_best_42 rfl ?_
    refine ww_getr (pc := 43) (Cl := RX6) (T := TX6) (N := 10) (j := 2) (ref := RX6) hC (hT 0 _ rfl) rfl inT_X6 (by decide) mw_300 rfl rfl dX6_best_43 ?_
    refine ww_geti (pc := 46) (Cl := RX2) (T := TX2) (N := 17) (j := 13) (ref := RX2) hC ((ww_top_now hT) 0 _ rfl) rfl inT_X2 (by decide) mw_172 rfl rfl dX6_best_46 ?_
    refine ww_iconst (pc := 49) (v := (-1)) hC dX6_best_49 rfl ?_
    refine ww_callVw (pc := 50) (st := []) (As := [.ref (ad 4), .int p1, .int (σ 4 13), .int (-1)]) hC (c_X0_mostBy 48 (ww_top_planner hT) 4 (ww_top_now hT) σ p1 (σ 4 13) (-1)) mm_X0_mostBy mw_668 ((ww_top_planner hT) 0 _ rfl) rfl (by omega) (by decide) (Nat.le_of_ble_eq_true rfl) rfl dX6_best_50 (fun v50 => ?_)
    refine ww_istore_n (pc := 53) (lv' := [(3, .int v50.1), (0, .ref (ad 0)), (1, .int p1), (2, .int p2)]) hC dX6_best_53 rfl (by decide) rfl ?_
    refine ww_iload_n (pc := 54) hC 3 rfl dX6_best_54 rfl ?_
    refine ww_if_ne (pc := 55) (tgt := 62) hC dX6_best_55 (by decide) ?_ ?_
    · refine ww_aload_n (pc := 62) hC 1 rfl dX6_best_62 rfl ?_
      refine ww_getr (pc := 63) (Cl := RX6) (T := TX6) (N := 10) (j := 7) (ref := RX6) hC (hT 0 _ rfl) rfl inT_X6 (by decide) mw_305 rfl rfl dX6_best_63 ?_
      refine ww_iload_n (pc := 66) hC 3 rfl dX6_best_66 rfl ?_
      refine ww_bipush (pc := 67) (v := 10) hC dX6_best_67 rfl ?_
      refine ww_isub (pc := 69) hC dX6_best_69 ?_
      refine ww_callVw (pc := 70) (st := []) (As := [.int (p2 - 10)]) hC (c_X0_bestAt 48 (ww_top_planner hT) v50.2 (p2 - 10)) mm_X0_bestAt mw_725 ((ww_top_planner hT) 0 _ rfl) rfl (by omega) (by decide) (Nat.le_of_ble_eq_true rfl) rfl dX6_best_70 (fun v70 => ?_)
      exact ww_ireturn (pc := 73) hC hR dX6_best_73 rfl
    · refine ww_iload_n (pc := 58) hC 0 rfl dX6_best_58 rfl ?_
      refine ww_goto (pc := 59) (tgt := 73) hC dX6_best_59 (by decide) ?_
      exact ww_ireturn (pc := 73) hC hR dX6_best_73 rfl
  unfold f_X6_best
  refine ww_iload_n (pc := 0) hC 1 rfl dX6_best_0 rfl ?_
  refine ww_iconst (pc := 1) (v := 0) hC dX6_best_1 rfl ?_
  refine ww_bipush (pc := 2) (v := 6) hC dX6_best_2 rfl ?_
  refine ww_callSi (pc := 4) (st := []) (As := [.int p1, .int 0, .int 6]) hC (c_X6_within σ p1 0 6) mm_X6_within mw_333 (by omega) (by decide) (Nat.le_of_ble_eq_true rfl) rfl dX6_best_4 (fun v4 => ?_)
  refine ww_if_ne (pc := 7) (tgt := 12) hC dX6_best_7 (by decide) ?_ ?_
  · refine ww_iload_n (pc := 12) hC 2 rfl dX6_best_12 rfl ?_
    refine ww_if_eq (pc := 13) (tgt := 33) hC dX6_best_13 (by decide) ?_ ?_
    · exact hJ33 σ
    · refine ww_iload_n (pc := 16) hC 2 rfl dX6_best_16 rfl ?_
      refine ww_bipush (pc := 17) (v := 10) hC dX6_best_17 rfl ?_
      refine ww_bipush (pc := 19) (v := 9) hC dX6_best_19 rfl ?_
      refine ww_iconst (pc := 21) (v := 2) hC dX6_best_21 rfl ?_
      refine ww_iload_n (pc := 22) hC 1 rfl dX6_best_22 rfl ?_
      refine ww_imul (pc := 23) hC dX6_best_23 ?_
      refine ww_iadd (pc := 24) hC dX6_best_24 ?_
      refine ww_callSi (pc := 25) (st := []) (As := [.int p2, .int 10, .int (9 + (2 * p1))]) hC (c_X6_within σ p2 10 (9 + (2 * p1))) mm_X6_within mw_333 (by omega) (by decide) (Nat.le_of_ble_eq_true rfl) rfl dX6_best_25 (fun v25 => ?_)
      refine ww_if_ne (pc := 28) (tgt := 33) hC dX6_best_28 (by decide) ?_ ?_
      · exact hJ33 σ
      · refine ww_iconst (pc := 31) (v := (-1)) hC dX6_best_31 rfl ?_
        exact ww_ireturn (pc := 32) hC hR dX6_best_32 rfl
  · refine ww_iconst (pc := 10) (v := (-1)) hC dX6_best_10 rfl ?_
    exact ww_ireturn (pc := 11) hC hR dX6_best_11 rfl
theorem dX6_worth_0 : decode cX6_worth 0 = .ok (.aload_n 0, 1) := by decide +kernel
theorem dX6_worth_1 : decode cX6_worth 1 = .ok (.getfield 26, 3) := by decide +kernel
theorem dX6_worth_4 : decode cX6_worth 4 = .ok (.iload_n 1, 1) := by decide +kernel
theorem dX6_worth_5 : decode cX6_worth 5 = .ok (.invokevirtual 129, 3) := by decide +kernel
theorem dX6_worth_8 : decode cX6_worth 8 = .ok (.ifCond .eq 13, 3) := by decide +kernel
theorem dX6_worth_11 : decode cX6_worth 11 = .ok (.iload_n 2, 1) := by decide +kernel
theorem dX6_worth_12 : decode cX6_worth 12 = .ok (.iconst 0, 1) := by decide +kernel
theorem dX6_worth_13 : decode cX6_worth 13 = .ok (.bipush 6, 2) := by decide +kernel
theorem dX6_worth_15 : decode cX6_worth 15 = .ok (.invokestatic 61, 3) := by decide +kernel
theorem dX6_worth_18 : decode cX6_worth 18 = .ok (.ifCond .ne 5, 3) := by decide +kernel
theorem dX6_worth_21 : decode cX6_worth 21 = .ok (.iconst (-1), 1) := by decide +kernel
theorem dX6_worth_22 : decode cX6_worth 22 = .ok (.ireturn, 1) := by decide +kernel
theorem dX6_worth_23 : decode cX6_worth 23 = .ok (.aload_n 0, 1) := by decide +kernel
theorem dX6_worth_24 : decode cX6_worth 24 = .ok (.getfield 47, 3) := by decide +kernel
theorem dX6_worth_27 : decode cX6_worth 27 = .ok (.aload_n 0, 1) := by decide +kernel
theorem dX6_worth_28 : decode cX6_worth 28 = .ok (.getfield 26, 3) := by decide +kernel
theorem dX6_worth_31 : decode cX6_worth 31 = .ok (.iload_n 2, 1) := by decide +kernel
theorem dX6_worth_32 : decode cX6_worth 32 = .ok (.aload_n 0, 1) := by decide +kernel
theorem dX6_worth_33 : decode cX6_worth 33 = .ok (.getfield 26, 3) := by decide +kernel
theorem dX6_worth_36 : decode cX6_worth 36 = .ok (.getfield 106, 3) := by decide +kernel
theorem dX6_worth_39 : decode cX6_worth 39 = .ok (.iconst (-1), 1) := by decide +kernel
theorem dX6_worth_40 : decode cX6_worth 40 = .ok (.invokevirtual 179, 3) := by decide +kernel
theorem dX6_worth_43 : decode cX6_worth 43 = .ok (.istore_n 3, 1) := by decide +kernel
theorem dX6_worth_44 : decode cX6_worth 44 = .ok (.iload_n 3, 1) := by decide +kernel
theorem dX6_worth_45 : decode cX6_worth 45 = .ok (.aload_n 0, 1) := by decide +kernel
theorem dX6_worth_46 : decode cX6_worth 46 = .ok (.getfield 47, 3) := by decide +kernel
theorem dX6_worth_49 : decode cX6_worth 49 = .ok (.aload_n 0, 1) := by decide +kernel
theorem dX6_worth_50 : decode cX6_worth 50 = .ok (.getfield 26, 3) := by decide +kernel
theorem dX6_worth_53 : decode cX6_worth 53 = .ok (.iload_n 2, 1) := by decide +kernel
theorem dX6_worth_54 : decode cX6_worth 54 = .ok (.aload_n 0, 1) := by decide +kernel
theorem dX6_worth_55 : decode cX6_worth 55 = .ok (.getfield 26, 3) := by decide +kernel
theorem dX6_worth_58 : decode cX6_worth 58 = .ok (.getfield 106, 3) := by decide +kernel
theorem dX6_worth_61 : decode cX6_worth 61 = .ok (.iload_n 1, 1) := by decide +kernel
theorem dX6_worth_62 : decode cX6_worth 62 = .ok (.invokevirtual 179, 3) := by decide +kernel
theorem dX6_worth_65 : decode cX6_worth 65 = .ok (.isub, 1) := by decide +kernel
theorem dX6_worth_66 : decode cX6_worth 66 = .ok (.ireturn, 1) := by decide +kernel
set_option maxHeartbeats 4000000 in
set_option maxRecDepth 100000 in
theorem c_X6_worth {l : Launch} {Y : ww_Y} {ad : Nat → Nat} {G : List ww_L} (hT : ww_at G 0 ww_LTop) (σ : ww_M) (p1 : Int32) (p2 : Int32) : ww_Cn l Y ad G yX6_worth cX6_worth 4 (some .int) 31 [.ref (ad 0), .int p1, .int p2] σ ((f_X6_worth σ p1 p2).bind ww_rw) := by
  refine ww_met (by decide +kernel) (Nat.le_of_ble_eq_true rfl) ?_
  intro X hC hR
  have hC : ww_C X l Y ad G 31 cX6_worth 4 RX6 := hC
  show ww_V X Y ad G 4 σ 0 [(0, .ref (ad 0)), (1, .int p1), (2, .int p2)] [] ((f_X6_worth σ p1 p2).bind ww_rw)
  unfold f_X6_worth
  refine ww_aload_n (pc := 0) hC 0 rfl dX6_worth_0 rfl ?_
  refine ww_getr (pc := 1) (Cl := RX6) (T := TX6) (N := 10) (j := 2) (ref := RX6) hC (hT 0 _ rfl) rfl inT_X6 (by decide) mw_300 rfl rfl dX6_worth_1 ?_
  refine ww_iload_n (pc := 4) hC 1 rfl dX6_worth_4 rfl ?_
  refine ww_callVi (pc := 5) (st := []) (As := [.int p1]) hC (c_X2_hasBeast 4 (ww_top_now hT) σ p1) mm_X2_hasBeast mw_552 ((ww_top_now hT) 0 _ rfl) rfl (by omega) (by decide) (Nat.le_of_ble_eq_true rfl) rfl dX6_worth_5 (fun v5 => ?_)
  refine ww_if_eq (pc := 8) (tgt := 21) hC dX6_worth_8 (by decide) ?_ ?_
  · refine ww_iconst (pc := 21) (v := (-1)) hC dX6_worth_21 rfl ?_
    exact ww_ireturn (pc := 22) hC hR dX6_worth_22 rfl
  · refine ww_iload_n (pc := 11) hC 2 rfl dX6_worth_11 rfl ?_
    refine ww_iconst (pc := 12) (v := 0) hC dX6_worth_12 rfl ?_
    refine ww_bipush (pc := 13) (v := 6) hC dX6_worth_13 rfl ?_
    refine ww_callSi (pc := 15) (st := []) (As := [.int p2, .int 0, .int 6]) hC (c_X6_within σ p2 0 6) mm_X6_within mw_333 (by omega) (by decide) (Nat.le_of_ble_eq_true rfl) rfl dX6_worth_15 (fun v15 => ?_)
    refine ww_if_ne (pc := 18) (tgt := 23) hC dX6_worth_18 (by decide) ?_ ?_
    · refine ww_aload_n (pc := 23) hC 0 rfl dX6_worth_23 rfl ?_
      refine ww_getr (pc := 24) (Cl := RX6) (T := TX6) (N := 10) (j := 7) (ref := RX6) hC (hT 0 _ rfl) rfl inT_X6 (by decide) mw_305 rfl rfl dX6_worth_24 ?_
      refine ww_aload_n (pc := 27) hC 0 rfl dX6_worth_27 rfl ?_
      refine ww_getr (pc := 28) (Cl := RX6) (T := TX6) (N := 10) (j := 2) (ref := RX6) hC (hT 0 _ rfl) rfl inT_X6 (by decide) mw_300 rfl rfl dX6_worth_28 ?_
      refine ww_iload_n (pc := 31) hC 2 rfl dX6_worth_31 rfl ?_
      refine ww_aload_n (pc := 32) hC 0 rfl dX6_worth_32 rfl ?_
      refine ww_getr (pc := 33) (Cl := RX6) (T := TX6) (N := 10) (j := 2) (ref := RX6) hC (hT 0 _ rfl) rfl inT_X6 (by decide) mw_300 rfl rfl dX6_worth_33 ?_
      refine ww_geti (pc := 36) (Cl := RX2) (T := TX2) (N := 17) (j := 13) (ref := RX2) hC ((ww_top_now hT) 0 _ rfl) rfl inT_X2 (by decide) mw_172 rfl rfl dX6_worth_36 ?_
      refine ww_iconst (pc := 39) (v := (-1)) hC dX6_worth_39 rfl ?_
      refine ww_callVw (pc := 40) (st := []) (As := [.ref (ad 4), .int p2, .int (σ 4 13), .int (-1)]) hC (c_X0_mostBy 48 (ww_top_planner hT) 4 (ww_top_now hT) σ p2 (σ 4 13) (-1)) mm_X0_mostBy mw_668 ((ww_top_planner hT) 0 _ rfl) rfl (by omega) (by decide) (Nat.le_of_ble_eq_true rfl) rfl dX6_worth_40 (fun v40 => ?_)
      refine ww_istore_n (pc := 43) (lv' := [(3, .int v40.1), (0, .ref (ad 0)), (1, .int p1), (2, .int p2)]) hC dX6_worth_43 rfl (by decide) rfl ?_
      refine ww_iload_n (pc := 44) hC 0 rfl dX6_worth_44 rfl ?_
      refine ww_aload_n (pc := 45) hC 1 rfl dX6_worth_45 rfl ?_
      refine ww_getr (pc := 46) (Cl := RX6) (T := TX6) (N := 10) (j := 7) (ref := RX6) hC (hT 0 _ rfl) rfl inT_X6 (by decide) mw_305 rfl rfl dX6_worth_46 ?_
      refine ww_aload_n (pc := 49) hC 1 rfl dX6_worth_49 rfl ?_
      refine ww_getr (pc := 50) (Cl := RX6) (T := TX6) (N := 10) (j := 2) (ref := RX6) hC (hT 0 _ rfl) rfl inT_X6 (by decide) mw_300 rfl rfl dX6_worth_50 ?_
      refine ww_iload_n (pc := 53) hC 3 rfl dX6_worth_53 rfl ?_
      refine ww_aload_n (pc := 54) hC 1 rfl dX6_worth_54 rfl ?_
      refine ww_getr (pc := 55) (Cl := RX6) (T := TX6) (N := 10) (j := 2) (ref := RX6) hC (hT 0 _ rfl) rfl inT_X6 (by decide) mw_300 rfl rfl dX6_worth_55 ?_
      refine ww_geti (pc := 58) (Cl := RX2) (T := TX2) (N := 17) (j := 13) (ref := RX2) hC ((ww_top_now hT) 0 _ rfl) rfl inT_X2 (by decide) mw_172 rfl rfl dX6_worth_58 ?_
      refine ww_iload_n (pc := 61) hC 2 rfl dX6_worth_61 rfl ?_
      refine ww_callVw (pc := 62) (st := [.int v40.1]) (As := [.ref (ad 4), .int p2, .int (v40.2 4 13), .int p1]) hC (c_X0_mostBy 48 (ww_top_planner hT) 4 (ww_top_now hT) v40.2 p2 (v40.2 4 13) p1) mm_X0_mostBy mw_668 ((ww_top_planner hT) 0 _ rfl) rfl (by omega) (by decide) (Nat.le_of_ble_eq_true rfl) rfl dX6_worth_62 (fun v62 => ?_)
      refine ww_isub (pc := 65) hC dX6_worth_65 ?_
      exact ww_ireturn (pc := 66) hC hR dX6_worth_66 rfl
    · refine ww_iconst (pc := 21) (v := (-1)) hC dX6_worth_21 rfl ?_
      exact ww_ireturn (pc := 22) hC hR dX6_worth_22 rfl
theorem dX6_salted_0 : decode cX6_salted 0 = .ok (.iload_n 1, 1) := by decide +kernel
theorem dX6_salted_1 : decode cX6_salted 1 = .ok (.iconst 0, 1) := by decide +kernel
theorem dX6_salted_2 : decode cX6_salted 2 = .ok (.bipush 6, 2) := by decide +kernel
theorem dX6_salted_4 : decode cX6_salted 4 = .ok (.invokestatic 61, 3) := by decide +kernel
theorem dX6_salted_7 : decode cX6_salted 7 = .ok (.ifCond .ne 5, 3) := by decide +kernel
theorem dX6_salted_10 : decode cX6_salted 10 = .ok (.iconst (-1), 1) := by decide +kernel
theorem dX6_salted_11 : decode cX6_salted 11 = .ok (.ireturn, 1) := by decide +kernel
theorem dX6_salted_12 : decode cX6_salted 12 = .ok (.aload_n 0, 1) := by decide +kernel
theorem dX6_salted_13 : decode cX6_salted 13 = .ok (.getfield 47, 3) := by decide +kernel
theorem dX6_salted_16 : decode cX6_salted 16 = .ok (.aload_n 0, 1) := by decide +kernel
theorem dX6_salted_17 : decode cX6_salted 17 = .ok (.getfield 26, 3) := by decide +kernel
theorem dX6_salted_20 : decode cX6_salted 20 = .ok (.iload_n 1, 1) := by decide +kernel
theorem dX6_salted_21 : decode cX6_salted 21 = .ok (.bipush 9, 2) := by decide +kernel
theorem dX6_salted_23 : decode cX6_salted 23 = .ok (.iconst (-1), 1) := by decide +kernel
theorem dX6_salted_24 : decode cX6_salted 24 = .ok (.invokevirtual 179, 3) := by decide +kernel
theorem dX6_salted_27 : decode cX6_salted 27 = .ok (.istore_n 2, 1) := by decide +kernel
theorem dX6_salted_28 : decode cX6_salted 28 = .ok (.iconst 1, 1) := by decide +kernel
theorem dX6_salted_29 : decode cX6_salted 29 = .ok (.istore_n 3, 1) := by decide +kernel
theorem dX6_salted_30 : decode cX6_salted 30 = .ok (.bipush 9, 2) := by decide +kernel
theorem dX6_salted_32 : decode cX6_salted 32 = .ok (.istore 4, 2) := by decide +kernel
theorem dX6_salted_34 : decode cX6_salted 34 = .ok (.iconst 0, 1) := by decide +kernel
theorem dX6_salted_35 : decode cX6_salted 35 = .ok (.istore 5, 2) := by decide +kernel
theorem dX6_salted_37 : decode cX6_salted 37 = .ok (.iload 5, 2) := by decide +kernel
theorem dX6_salted_39 : decode cX6_salted 39 = .ok (.bipush 9, 2) := by decide +kernel
theorem dX6_salted_41 : decode cX6_salted 41 = .ok (.if_icmp .ge 54, 3) := by decide +kernel
theorem dX6_salted_44 : decode cX6_salted 44 = .ok (.iload_n 3, 1) := by decide +kernel
theorem dX6_salted_45 : decode cX6_salted 45 = .ok (.iload 4, 2) := by decide +kernel
theorem dX6_salted_47 : decode cX6_salted 47 = .ok (.if_icmp .ge 48, 3) := by decide +kernel
theorem dX6_salted_50 : decode cX6_salted 50 = .ok (.iload_n 3, 1) := by decide +kernel
theorem dX6_salted_51 : decode cX6_salted 51 = .ok (.iload 4, 2) := by decide +kernel
theorem dX6_salted_53 : decode cX6_salted 53 = .ok (.iadd, 1) := by decide +kernel
theorem dX6_salted_54 : decode cX6_salted 54 = .ok (.iconst 2, 1) := by decide +kernel
theorem dX6_salted_55 : decode cX6_salted 55 = .ok (.idiv, 1) := by decide +kernel
theorem dX6_salted_56 : decode cX6_salted 56 = .ok (.istore 6, 2) := by decide +kernel
theorem dX6_salted_58 : decode cX6_salted 58 = .ok (.aload_n 0, 1) := by decide +kernel
theorem dX6_salted_59 : decode cX6_salted 59 = .ok (.getfield 47, 3) := by decide +kernel
theorem dX6_salted_62 : decode cX6_salted 62 = .ok (.aload_n 0, 1) := by decide +kernel
theorem dX6_salted_63 : decode cX6_salted 63 = .ok (.getfield 26, 3) := by decide +kernel
theorem dX6_salted_66 : decode cX6_salted 66 = .ok (.iload_n 1, 1) := by decide +kernel
theorem dX6_salted_67 : decode cX6_salted 67 = .ok (.iload 6, 2) := by decide +kernel
theorem dX6_salted_69 : decode cX6_salted 69 = .ok (.iconst (-1), 1) := by decide +kernel
theorem dX6_salted_70 : decode cX6_salted 70 = .ok (.invokevirtual 179, 3) := by decide +kernel
theorem dX6_salted_73 : decode cX6_salted 73 = .ok (.iload_n 2, 1) := by decide +kernel
theorem dX6_salted_74 : decode cX6_salted 74 = .ok (.if_icmp .ne 10, 3) := by decide +kernel
theorem dX6_salted_77 : decode cX6_salted 77 = .ok (.iload 6, 2) := by decide +kernel
theorem dX6_salted_79 : decode cX6_salted 79 = .ok (.istore 4, 2) := by decide +kernel
theorem dX6_salted_81 : decode cX6_salted 81 = .ok (.goto 8, 3) := by decide +kernel
theorem dX6_salted_84 : decode cX6_salted 84 = .ok (.iload 6, 2) := by decide +kernel
theorem dX6_salted_86 : decode cX6_salted 86 = .ok (.iconst 1, 1) := by decide +kernel
theorem dX6_salted_87 : decode cX6_salted 87 = .ok (.iadd, 1) := by decide +kernel
theorem dX6_salted_88 : decode cX6_salted 88 = .ok (.istore_n 3, 1) := by decide +kernel
theorem dX6_salted_89 : decode cX6_salted 89 = .ok (.iinc 5 1, 3) := by decide +kernel
theorem dX6_salted_92 : decode cX6_salted 92 = .ok (.goto (-55), 3) := by decide +kernel
theorem dX6_salted_95 : decode cX6_salted 95 = .ok (.iload_n 3, 1) := by decide +kernel
theorem dX6_salted_96 : decode cX6_salted 96 = .ok (.ireturn, 1) := by decide +kernel
set_option maxHeartbeats 4000000 in
set_option maxRecDepth 100000 in
theorem c_X6_salted {l : Launch} {Y : ww_Y} {ad : Nat → Nat} {G : List ww_L} (hT : ww_at G 0 ww_LTop) (σ : ww_M) (p1 : Int32) : ww_Cn l Y ad G yX6_salted cX6_salted 7 (some .int) 31 [.ref (ad 0), .int p1] σ ((f_X6_salted σ p1).bind ww_rw) := by
  refine ww_met (by decide +kernel) (Nat.le_of_ble_eq_true rfl) ?_
  intro X hC hR
  have hC : ww_C X l Y ad G 31 cX6_salted 7 RX6 := hC
  show ww_V X Y ad G 7 σ 0 [(0, .ref (ad 0)), (1, .int p1)] [] ((f_X6_salted σ p1).bind ww_rw)
  have hJ95 : ∀ (σ : ww_M) (x3 : Int32), ww_V X Y ad G 7 σ 95 [(3, .int x3)] [] ((f_X6_salted_j95 σ p1 x3).bind ww_rw) := by
    intro σ x3
    unfold f_X6_salted_j95
    refine ww_iload_n (pc := 95) hC 0 rfl dX6_salted_95 rfl ?_
    exact ww_ireturn (pc := 96) hC hR dX6_salted_96 rfl
  have hJ37 : ∀ (σ : ww_M) (x2 : Int32) (x3 : Int32) (x4 : Int32) (x5 : Int32), ww_V X Y ad G 7 σ 37 [(0, .ref (ad 0)), (1, .int p1), (2, .int x2), (3, .int x3), (4, .int x4), (5, .int x5)] [] ((f_X6_salted_j37 σ p1 x2 x3 x4 x5).bind ww_rw) := by
    intro σ x2 x3 x4 x5
    unfold f_X6_salted_j37
    refine ww_assoc ?_
    refine ww_loop (f := f_X6_salted_b37 p1 x2) (fun a37 => a37.2.2.2) (fun a37 => [(0, .ref (ad 0)), (1, .int p1), (2, .int x2), (3, .int a37.1), (4, .int a37.2.1), (5, .int a37.2.2.1)]) (fun b37 => b37.2) (fun b37 => [(3, .int b37.1)]) 95 (fun b37 => ?_) (fun a37 KK37 hc37 hx37 => ?_) ww_F (x3, x4, x5, σ)
    · exact hJ95 b37.2 b37.1
    · unfold f_X6_salted_b37
      refine ww_iload (pc := 37) hC 5 rfl dX6_salted_37 ?_
      refine ww_bipush (pc := 39) (v := 9) hC dX6_salted_39 rfl ?_
      refine ww_icmp_ge (pc := 41) (tgt := 95) hC dX6_salted_41 (by decide) ?_ ?_
      · refine ww_lv [3] rfl ?_
        exact hx37 (a37.1, a37.2.2.2)
      · refine ww_iload_n (pc := 44) hC 3 rfl dX6_salted_44 rfl ?_
        refine ww_iload (pc := 45) hC 4 rfl dX6_salted_45 ?_
        refine ww_icmp_ge (pc := 47) (tgt := 95) hC dX6_salted_47 (by decide) ?_ ?_
        · refine ww_lv [3] rfl ?_
          exact hx37 (a37.1, a37.2.2.2)
        · refine ww_iload_n (pc := 50) hC 3 rfl dX6_salted_50 rfl ?_
          refine ww_iload (pc := 51) hC 4 rfl dX6_salted_51 ?_
          refine ww_iadd (pc := 53) hC dX6_salted_53 ?_
          refine ww_iconst (pc := 54) (v := 2) hC dX6_salted_54 rfl ?_
          refine ww_idiv_c (pc := 55) hC dX6_salted_55 (by decide) ?_
          refine ww_istore (pc := 56) (lv' := [(6, .int ((a37.1 + a37.2.1) / 2)), (0, .ref (ad 0)), (1, .int p1), (2, .int x2), (3, .int a37.1), (4, .int a37.2.1), (5, .int a37.2.2.1)]) hC dX6_salted_56 (by decide) rfl ?_
          refine ww_aload_n (pc := 58) hC 1 rfl dX6_salted_58 rfl ?_
          refine ww_getr (pc := 59) (Cl := RX6) (T := TX6) (N := 10) (j := 7) (ref := RX6) hC (hT 0 _ rfl) rfl inT_X6 (by decide) mw_305 rfl rfl dX6_salted_59 ?_
          refine ww_aload_n (pc := 62) hC 1 rfl dX6_salted_62 rfl ?_
          refine ww_getr (pc := 63) (Cl := RX6) (T := TX6) (N := 10) (j := 2) (ref := RX6) hC (hT 0 _ rfl) rfl inT_X6 (by decide) mw_300 rfl rfl dX6_salted_63 ?_
          refine ww_iload_n (pc := 66) hC 2 rfl dX6_salted_66 rfl ?_
          refine ww_iload (pc := 67) hC 0 rfl dX6_salted_67 ?_
          refine ww_iconst (pc := 69) (v := (-1)) hC dX6_salted_69 rfl ?_
          refine ww_callVw (pc := 70) (st := []) (As := [.ref (ad 4), .int p1, .int ((a37.1 + a37.2.1) / 2), .int (-1)]) hC (c_X0_mostBy 48 (ww_top_planner hT) 4 (ww_top_now hT) a37.2.2.2 p1 ((a37.1 + a37.2.1) / 2) (-1)) mm_X0_mostBy mw_668 ((ww_top_planner hT) 0 _ rfl) rfl (by omega) (by decide) (Nat.le_of_ble_eq_true rfl) rfl dX6_salted_70 (fun v70 => ?_)
          refine ww_iload_n (pc := 73) hC 3 rfl dX6_salted_73 rfl ?_
          refine ww_icmp_ne (pc := 74) (tgt := 84) hC dX6_salted_74 (by decide) ?_ ?_
          · refine ww_iload (pc := 84) hC 0 rfl dX6_salted_84 ?_
            refine ww_iconst (pc := 86) (v := 1) hC dX6_salted_86 rfl ?_
            refine ww_iadd (pc := 87) hC dX6_salted_87 ?_
            refine ww_istore_n (pc := 88) (lv' := [(3, .int (((a37.1 + a37.2.1) / 2) + 1)), (6, .int ((a37.1 + a37.2.1) / 2)), (0, .ref (ad 0)), (1, .int p1), (2, .int x2), (4, .int a37.2.1), (5, .int a37.2.2.1)]) hC dX6_salted_88 rfl (by decide) rfl ?_
            refine ww_iinc (pc := 89) (v := a37.2.2.1 + 1) (lv' := [(5, .int (a37.2.2.1 + 1)), (3, .int (((a37.1 + a37.2.1) / 2) + 1)), (6, .int ((a37.1 + a37.2.1) / 2)), (0, .ref (ad 0)), (1, .int p1), (2, .int x2), (4, .int a37.2.1)]) hC 6 rfl dX6_salted_89 rfl (by decide) rfl ?_
            refine ww_goto (pc := 92) (tgt := 37) hC dX6_salted_92 (by decide) ?_
            refine ww_lv [3, 4, 5, 1, 6, 0] rfl ?_
            exact hc37 (((a37.1 + a37.2.1) / 2) + 1, a37.2.1, a37.2.2.1 + 1, v70.2)
          · refine ww_iload (pc := 77) hC 0 rfl dX6_salted_77 ?_
            refine ww_istore (pc := 79) (lv' := [(4, .int ((a37.1 + a37.2.1) / 2)), (6, .int ((a37.1 + a37.2.1) / 2)), (0, .ref (ad 0)), (1, .int p1), (2, .int x2), (3, .int a37.1), (5, .int a37.2.2.1)]) hC dX6_salted_79 (by decide) rfl ?_
            refine ww_goto (pc := 81) (tgt := 89) hC dX6_salted_81 (by decide) ?_
            refine ww_iinc (pc := 89) (v := a37.2.2.1 + 1) (lv' := [(5, .int (a37.2.2.1 + 1)), (4, .int ((a37.1 + a37.2.1) / 2)), (6, .int ((a37.1 + a37.2.1) / 2)), (0, .ref (ad 0)), (1, .int p1), (2, .int x2), (3, .int a37.1)]) hC 6 rfl dX6_salted_89 rfl (by decide) rfl ?_
            refine ww_goto (pc := 92) (tgt := 37) hC dX6_salted_92 (by decide) ?_
            refine ww_lv [3, 4, 5, 6, 1, 0] rfl ?_
            exact hc37 (a37.1, (a37.1 + a37.2.1) / 2, a37.2.2.1 + 1, v70.2)
  unfold f_X6_salted
  refine ww_iload_n (pc := 0) hC 1 rfl dX6_salted_0 rfl ?_
  refine ww_iconst (pc := 1) (v := 0) hC dX6_salted_1 rfl ?_
  refine ww_bipush (pc := 2) (v := 6) hC dX6_salted_2 rfl ?_
  refine ww_callSi (pc := 4) (st := []) (As := [.int p1, .int 0, .int 6]) hC (c_X6_within σ p1 0 6) mm_X6_within mw_333 (by omega) (by decide) (Nat.le_of_ble_eq_true rfl) rfl dX6_salted_4 (fun v4 => ?_)
  refine ww_if_ne (pc := 7) (tgt := 12) hC dX6_salted_7 (by decide) ?_ ?_
  · refine ww_aload_n (pc := 12) hC 0 rfl dX6_salted_12 rfl ?_
    refine ww_getr (pc := 13) (Cl := RX6) (T := TX6) (N := 10) (j := 7) (ref := RX6) hC (hT 0 _ rfl) rfl inT_X6 (by decide) mw_305 rfl rfl dX6_salted_13 ?_
    refine ww_aload_n (pc := 16) hC 0 rfl dX6_salted_16 rfl ?_
    refine ww_getr (pc := 17) (Cl := RX6) (T := TX6) (N := 10) (j := 2) (ref := RX6) hC (hT 0 _ rfl) rfl inT_X6 (by decide) mw_300 rfl rfl dX6_salted_17 ?_
    refine ww_iload_n (pc := 20) hC 1 rfl dX6_salted_20 rfl ?_
    refine ww_bipush (pc := 21) (v := 9) hC dX6_salted_21 rfl ?_
    refine ww_iconst (pc := 23) (v := (-1)) hC dX6_salted_23 rfl ?_
    refine ww_callVw (pc := 24) (st := []) (As := [.ref (ad 4), .int p1, .int 9, .int (-1)]) hC (c_X0_mostBy 48 (ww_top_planner hT) 4 (ww_top_now hT) σ p1 9 (-1)) mm_X0_mostBy mw_668 ((ww_top_planner hT) 0 _ rfl) rfl (by omega) (by decide) (Nat.le_of_ble_eq_true rfl) rfl dX6_salted_24 (fun v24 => ?_)
    refine ww_istore_n (pc := 27) (lv' := [(2, .int v24.1), (0, .ref (ad 0)), (1, .int p1)]) hC dX6_salted_27 rfl (by decide) rfl ?_
    refine ww_iconst (pc := 28) (v := 1) hC dX6_salted_28 rfl ?_
    refine ww_istore_n (pc := 29) (lv' := [(3, .int 1), (2, .int v24.1), (0, .ref (ad 0)), (1, .int p1)]) hC dX6_salted_29 rfl (by decide) rfl ?_
    refine ww_bipush (pc := 30) (v := 9) hC dX6_salted_30 rfl ?_
    refine ww_istore (pc := 32) (lv' := [(4, .int 9), (3, .int 1), (2, .int v24.1), (0, .ref (ad 0)), (1, .int p1)]) hC dX6_salted_32 (by decide) rfl ?_
    refine ww_iconst (pc := 34) (v := 0) hC dX6_salted_34 rfl ?_
    refine ww_istore (pc := 35) (lv' := [(5, .int 0), (4, .int 9), (3, .int 1), (2, .int v24.1), (0, .ref (ad 0)), (1, .int p1)]) hC dX6_salted_35 (by decide) rfl ?_
    refine ww_lv [4, 5, 3, 2, 1, 0] rfl ?_
    exact hJ37 v24.2 v24.1 1 9 0
  · refine ww_iconst (pc := 10) (v := (-1)) hC dX6_salted_10 rfl ?_
    exact ww_ireturn (pc := 11) hC hR dX6_salted_11 rfl
theorem dX6_share_0 : decode cX6_share 0 = .ok (.iload_n 1, 1) := by decide +kernel
theorem dX6_share_1 : decode cX6_share 1 = .ok (.iconst 0, 1) := by decide +kernel
theorem dX6_share_2 : decode cX6_share 2 = .ok (.iconst 3, 1) := by decide +kernel
theorem dX6_share_3 : decode cX6_share 3 = .ok (.invokestatic 61, 3) := by decide +kernel
theorem dX6_share_6 : decode cX6_share 6 = .ok (.ifCond .eq 12, 3) := by decide +kernel
theorem dX6_share_9 : decode cX6_share 9 = .ok (.iload_n 2, 1) := by decide +kernel
theorem dX6_share_10 : decode cX6_share 10 = .ok (.iconst 0, 1) := by decide +kernel
theorem dX6_share_11 : decode cX6_share 11 = .ok (.iconst 3, 1) := by decide +kernel
theorem dX6_share_12 : decode cX6_share 12 = .ok (.invokestatic 61, 3) := by decide +kernel
theorem dX6_share_15 : decode cX6_share 15 = .ok (.ifCond .ne 5, 3) := by decide +kernel
theorem dX6_share_18 : decode cX6_share 18 = .ok (.iconst (-1), 1) := by decide +kernel
theorem dX6_share_19 : decode cX6_share 19 = .ok (.ireturn, 1) := by decide +kernel
theorem dX6_share_20 : decode cX6_share 20 = .ok (.aload_n 0, 1) := by decide +kernel
theorem dX6_share_21 : decode cX6_share 21 = .ok (.getfield 26, 3) := by decide +kernel
theorem dX6_share_24 : decode cX6_share 24 = .ok (.iload_n 1, 1) := by decide +kernel
theorem dX6_share_25 : decode cX6_share 25 = .ok (.iload_n 2, 1) := by decide +kernel
theorem dX6_share_26 : decode cX6_share 26 = .ok (.invokevirtual 186, 3) := by decide +kernel
theorem dX6_share_29 : decode cX6_share 29 = .ok (.ireturn, 1) := by decide +kernel
set_option maxHeartbeats 4000000 in
set_option maxRecDepth 100000 in
theorem c_X6_share {l : Launch} {Y : ww_Y} {ad : Nat → Nat} {G : List ww_L} (hT : ww_at G 0 ww_LTop) (σ : ww_M) (p1 : Int32) (p2 : Int32) : ww_Cn l Y ad G yX6_share cX6_share 3 (some .int) 5 [.ref (ad 0), .int p1, .int p2] σ ((f_X6_share σ p1 p2).bind (ww_ri σ)) := by
  refine ww_met (by decide +kernel) (Nat.le_of_ble_eq_true rfl) ?_
  intro X hC hR
  have hC : ww_C X l Y ad G 5 cX6_share 3 RX6 := hC
  show ww_V X Y ad G 3 σ 0 [(0, .ref (ad 0)), (1, .int p1), (2, .int p2)] [] ((f_X6_share σ p1 p2).bind (ww_ri σ))
  unfold f_X6_share
  refine ww_iload_n (pc := 0) hC 1 rfl dX6_share_0 rfl ?_
  refine ww_iconst (pc := 1) (v := 0) hC dX6_share_1 rfl ?_
  refine ww_iconst (pc := 2) (v := 3) hC dX6_share_2 rfl ?_
  refine ww_callSi (pc := 3) (st := []) (As := [.int p1, .int 0, .int 3]) hC (c_X6_within σ p1 0 3) mm_X6_within mw_333 (by omega) (by decide) (Nat.le_of_ble_eq_true rfl) rfl dX6_share_3 (fun v3 => ?_)
  refine ww_if_eq (pc := 6) (tgt := 18) hC dX6_share_6 (by decide) ?_ ?_
  · refine ww_iconst (pc := 18) (v := (-1)) hC dX6_share_18 rfl ?_
    exact ww_ireturn (pc := 19) hC hR dX6_share_19 rfl
  · refine ww_iload_n (pc := 9) hC 2 rfl dX6_share_9 rfl ?_
    refine ww_iconst (pc := 10) (v := 0) hC dX6_share_10 rfl ?_
    refine ww_iconst (pc := 11) (v := 3) hC dX6_share_11 rfl ?_
    refine ww_callSi (pc := 12) (st := []) (As := [.int p2, .int 0, .int 3]) hC (c_X6_within σ p2 0 3) mm_X6_within mw_333 (by omega) (by decide) (Nat.le_of_ble_eq_true rfl) rfl dX6_share_12 (fun v12 => ?_)
    refine ww_if_ne (pc := 15) (tgt := 20) hC dX6_share_15 (by decide) ?_ ?_
    · refine ww_aload_n (pc := 20) hC 0 rfl dX6_share_20 rfl ?_
      refine ww_getr (pc := 21) (Cl := RX6) (T := TX6) (N := 10) (j := 2) (ref := RX6) hC (hT 0 _ rfl) rfl inT_X6 (by decide) mw_300 rfl rfl dX6_share_21 ?_
      refine ww_iload_n (pc := 24) hC 1 rfl dX6_share_24 rfl ?_
      refine ww_iload_n (pc := 25) hC 2 rfl dX6_share_25 rfl ?_
      refine ww_callVi (pc := 26) (st := []) (As := [.int p1, .int p2]) hC (c_X2_shareBy 4 (ww_top_now hT) σ p1 p2) mm_X2_shareBy mw_756 ((ww_top_now hT) 0 _ rfl) rfl (by omega) (by decide) (Nat.le_of_ble_eq_true rfl) rfl dX6_share_26 (fun v26 => ?_)
      exact ww_ireturn (pc := 29) hC hR dX6_share_29 rfl
    · refine ww_iconst (pc := 18) (v := (-1)) hC dX6_share_18 rfl ?_
      exact ww_ireturn (pc := 19) hC hR dX6_share_19 rfl
theorem dX6_tell_0 : decode cX6_tell 0 = .ok (.iload_n 1, 1) := by decide +kernel
theorem dX6_tell_1 : decode cX6_tell 1 = .ok (.iconst 0, 1) := by decide +kernel
theorem dX6_tell_2 : decode cX6_tell 2 = .ok (.iconst 3, 1) := by decide +kernel
theorem dX6_tell_3 : decode cX6_tell 3 = .ok (.invokestatic 61, 3) := by decide +kernel
theorem dX6_tell_6 : decode cX6_tell 6 = .ok (.ifCond .eq 13, 3) := by decide +kernel
theorem dX6_tell_9 : decode cX6_tell 9 = .ok (.iload_n 2, 1) := by decide +kernel
theorem dX6_tell_10 : decode cX6_tell 10 = .ok (.iconst 0, 1) := by decide +kernel
theorem dX6_tell_11 : decode cX6_tell 11 = .ok (.bipush 99, 2) := by decide +kernel
theorem dX6_tell_13 : decode cX6_tell 13 = .ok (.invokestatic 61, 3) := by decide +kernel
theorem dX6_tell_16 : decode cX6_tell 16 = .ok (.ifCond .ne 5, 3) := by decide +kernel
theorem dX6_tell_19 : decode cX6_tell 19 = .ok (.iconst (-1), 1) := by decide +kernel
theorem dX6_tell_20 : decode cX6_tell 20 = .ok (.ireturn, 1) := by decide +kernel
theorem dX6_tell_21 : decode cX6_tell 21 = .ok (.aload_n 0, 1) := by decide +kernel
theorem dX6_tell_22 : decode cX6_tell 22 = .ok (.getfield 40, 3) := by decide +kernel
theorem dX6_tell_25 : decode cX6_tell 25 = .ok (.iload_n 1, 1) := by decide +kernel
theorem dX6_tell_26 : decode cX6_tell 26 = .ok (.iload_n 2, 1) := by decide +kernel
theorem dX6_tell_27 : decode cX6_tell 27 = .ok (.invokevirtual 189, 3) := by decide +kernel
theorem dX6_tell_30 : decode cX6_tell 30 = .ok (.ifCond .eq 13, 3) := by decide +kernel
theorem dX6_tell_33 : decode cX6_tell 33 = .ok (.aload_n 0, 1) := by decide +kernel
theorem dX6_tell_34 : decode cX6_tell 34 = .ok (.getfield 40, 3) := by decide +kernel
theorem dX6_tell_37 : decode cX6_tell 37 = .ok (.getfield 90, 3) := by decide +kernel
theorem dX6_tell_40 : decode cX6_tell 40 = .ok (.goto 5, 3) := by decide +kernel
theorem dX6_tell_43 : decode cX6_tell 43 = .ok (.bipush (-3), 2) := by decide +kernel
theorem dX6_tell_45 : decode cX6_tell 45 = .ok (.ireturn, 1) := by decide +kernel
set_option maxHeartbeats 4000000 in
set_option maxRecDepth 100000 in
theorem c_X6_tell {l : Launch} {Y : ww_Y} {ad : Nat → Nat} {G : List ww_L} (hT : ww_at G 0 ww_LTop) (σ : ww_M) (p1 : Int32) (p2 : Int32) : ww_Cn l Y ad G yX6_tell cX6_tell 3 (some .int) 2 [.ref (ad 0), .int p1, .int p2] σ ((f_X6_tell σ p1 p2).bind ww_rw) := by
  refine ww_met (by decide +kernel) (Nat.le_of_ble_eq_true rfl) ?_
  intro X hC hR
  have hC : ww_C X l Y ad G 2 cX6_tell 3 RX6 := hC
  show ww_V X Y ad G 3 σ 0 [(0, .ref (ad 0)), (1, .int p1), (2, .int p2)] [] ((f_X6_tell σ p1 p2).bind ww_rw)
  unfold f_X6_tell
  refine ww_iload_n (pc := 0) hC 1 rfl dX6_tell_0 rfl ?_
  refine ww_iconst (pc := 1) (v := 0) hC dX6_tell_1 rfl ?_
  refine ww_iconst (pc := 2) (v := 3) hC dX6_tell_2 rfl ?_
  refine ww_callSi (pc := 3) (st := []) (As := [.int p1, .int 0, .int 3]) hC (c_X6_within σ p1 0 3) mm_X6_within mw_333 (by omega) (by decide) (Nat.le_of_ble_eq_true rfl) rfl dX6_tell_3 (fun v3 => ?_)
  refine ww_if_eq (pc := 6) (tgt := 19) hC dX6_tell_6 (by decide) ?_ ?_
  · refine ww_iconst (pc := 19) (v := (-1)) hC dX6_tell_19 rfl ?_
    exact ww_ireturn (pc := 20) hC hR dX6_tell_20 rfl
  · refine ww_iload_n (pc := 9) hC 2 rfl dX6_tell_9 rfl ?_
    refine ww_iconst (pc := 10) (v := 0) hC dX6_tell_10 rfl ?_
    refine ww_bipush (pc := 11) (v := 99) hC dX6_tell_11 rfl ?_
    refine ww_callSi (pc := 13) (st := []) (As := [.int p2, .int 0, .int 99]) hC (c_X6_within σ p2 0 99) mm_X6_within mw_333 (by omega) (by decide) (Nat.le_of_ble_eq_true rfl) rfl dX6_tell_13 (fun v13 => ?_)
    refine ww_if_ne (pc := 16) (tgt := 21) hC dX6_tell_16 (by decide) ?_ ?_
    · refine ww_aload_n (pc := 21) hC 0 rfl dX6_tell_21 rfl ?_
      refine ww_getr (pc := 22) (Cl := RX6) (T := TX6) (N := 10) (j := 6) (ref := RX6) hC (hT 0 _ rfl) rfl inT_X6 (by decide) mw_304 rfl rfl dX6_tell_22 ?_
      refine ww_iload_n (pc := 25) hC 1 rfl dX6_tell_25 rfl ?_
      refine ww_iload_n (pc := 26) hC 2 rfl dX6_tell_26 rfl ?_
      refine ww_callVw (pc := 27) (st := []) (As := [.int p1, .int p2]) hC (c_X3_add 45 (ww_top_tales hT) σ p1 p2) mm_X3_add mw_764 ((ww_top_tales hT) 0 _ rfl) rfl (by omega) (by decide) (Nat.le_of_ble_eq_true rfl) rfl dX6_tell_27 (fun v27 => ?_)
      refine ww_if_eq (pc := 30) (tgt := 43) hC dX6_tell_30 (by decide) ?_ ?_
      · refine ww_bipush (pc := 43) (v := (-3)) hC dX6_tell_43 rfl ?_
        exact ww_ireturn (pc := 45) hC hR dX6_tell_45 rfl
      · refine ww_aload_n (pc := 33) hC 0 rfl dX6_tell_33 rfl ?_
        refine ww_getr (pc := 34) (Cl := RX6) (T := TX6) (N := 10) (j := 6) (ref := RX6) hC (hT 0 _ rfl) rfl inT_X6 (by decide) mw_304 rfl rfl dX6_tell_34 ?_
        refine ww_geti (pc := 37) (Cl := RX3) (T := TX3) (N := 3) (j := 2) (ref := RX3) hC ((ww_top_tales hT) 0 _ rfl) rfl inT_X3 (by decide) mw_229 rfl rfl dX6_tell_37 ?_
        refine ww_goto (pc := 40) (tgt := 45) hC dX6_tell_40 (by decide) ?_
        exact ww_ireturn (pc := 45) hC hR dX6_tell_45 rfl
    · refine ww_iconst (pc := 19) (v := (-1)) hC dX6_tell_19 rfl ?_
      exact ww_ireturn (pc := 20) hC hR dX6_tell_20 rfl
theorem dX6_forget_0 : decode cX6_forget 0 = .ok (.iload_n 1, 1) := by decide +kernel
theorem dX6_forget_1 : decode cX6_forget 1 = .ok (.iconst 0, 1) := by decide +kernel
theorem dX6_forget_2 : decode cX6_forget 2 = .ok (.aload_n 0, 1) := by decide +kernel
theorem dX6_forget_3 : decode cX6_forget 3 = .ok (.getfield 40, 3) := by decide +kernel
theorem dX6_forget_6 : decode cX6_forget 6 = .ok (.getfield 90, 3) := by decide +kernel
theorem dX6_forget_9 : decode cX6_forget 9 = .ok (.invokestatic 61, 3) := by decide +kernel
theorem dX6_forget_12 : decode cX6_forget 12 = .ok (.ifCond .ne 5, 3) := by decide +kernel
theorem dX6_forget_15 : decode cX6_forget 15 = .ok (.iconst (-1), 1) := by decide +kernel
theorem dX6_forget_16 : decode cX6_forget 16 = .ok (.ireturn, 1) := by decide +kernel
theorem dX6_forget_17 : decode cX6_forget 17 = .ok (.aload_n 0, 1) := by decide +kernel
theorem dX6_forget_18 : decode cX6_forget 18 = .ok (.getfield 40, 3) := by decide +kernel
theorem dX6_forget_21 : decode cX6_forget 21 = .ok (.getfield 90, 3) := by decide +kernel
theorem dX6_forget_24 : decode cX6_forget 24 = .ok (.istore_n 2, 1) := by decide +kernel
theorem dX6_forget_25 : decode cX6_forget 25 = .ok (.aload_n 0, 1) := by decide +kernel
theorem dX6_forget_26 : decode cX6_forget 26 = .ok (.getfield 40, 3) := by decide +kernel
theorem dX6_forget_29 : decode cX6_forget 29 = .ok (.iload_n 1, 1) := by decide +kernel
theorem dX6_forget_30 : decode cX6_forget 30 = .ok (.putfield 90, 3) := by decide +kernel
theorem dX6_forget_33 : decode cX6_forget 33 = .ok (.iload_n 2, 1) := by decide +kernel
theorem dX6_forget_34 : decode cX6_forget 34 = .ok (.ireturn, 1) := by decide +kernel
set_option maxHeartbeats 4000000 in
set_option maxRecDepth 100000 in
theorem c_X6_forget {l : Launch} {Y : ww_Y} {ad : Nat → Nat} {G : List ww_L} (hT : ww_at G 0 ww_LTop) (σ : ww_M) (p1 : Int32) : ww_Cn l Y ad G yX6_forget cX6_forget 3 (some .int) 2 [.ref (ad 0), .int p1] σ ((f_X6_forget σ p1).bind ww_rw) := by
  refine ww_met (by decide +kernel) (Nat.le_of_ble_eq_true rfl) ?_
  intro X hC hR
  have hC : ww_C X l Y ad G 2 cX6_forget 3 RX6 := hC
  show ww_V X Y ad G 3 σ 0 [(0, .ref (ad 0)), (1, .int p1)] [] ((f_X6_forget σ p1).bind ww_rw)
  unfold f_X6_forget
  refine ww_iload_n (pc := 0) hC 1 rfl dX6_forget_0 rfl ?_
  refine ww_iconst (pc := 1) (v := 0) hC dX6_forget_1 rfl ?_
  refine ww_aload_n (pc := 2) hC 0 rfl dX6_forget_2 rfl ?_
  refine ww_getr (pc := 3) (Cl := RX6) (T := TX6) (N := 10) (j := 6) (ref := RX6) hC (hT 0 _ rfl) rfl inT_X6 (by decide) mw_304 rfl rfl dX6_forget_3 ?_
  refine ww_geti (pc := 6) (Cl := RX3) (T := TX3) (N := 3) (j := 2) (ref := RX3) hC ((ww_top_tales hT) 0 _ rfl) rfl inT_X3 (by decide) mw_229 rfl rfl dX6_forget_6 ?_
  refine ww_callSi (pc := 9) (st := []) (As := [.int p1, .int 0, .int (σ 45 2)]) hC (c_X6_within σ p1 0 (σ 45 2)) mm_X6_within mw_333 (by omega) (by decide) (Nat.le_of_ble_eq_true rfl) rfl dX6_forget_9 (fun v9 => ?_)
  refine ww_if_ne (pc := 12) (tgt := 17) hC dX6_forget_12 (by decide) ?_ ?_
  · refine ww_aload_n (pc := 17) hC 0 rfl dX6_forget_17 rfl ?_
    refine ww_getr (pc := 18) (Cl := RX6) (T := TX6) (N := 10) (j := 6) (ref := RX6) hC (hT 0 _ rfl) rfl inT_X6 (by decide) mw_304 rfl rfl dX6_forget_18 ?_
    refine ww_geti (pc := 21) (Cl := RX3) (T := TX3) (N := 3) (j := 2) (ref := RX3) hC ((ww_top_tales hT) 0 _ rfl) rfl inT_X3 (by decide) mw_229 rfl rfl dX6_forget_21 ?_
    refine ww_istore_n (pc := 24) (lv' := [(2, .int (σ 45 2)), (0, .ref (ad 0)), (1, .int p1)]) hC dX6_forget_24 rfl (by decide) rfl ?_
    refine ww_aload_n (pc := 25) hC 1 rfl dX6_forget_25 rfl ?_
    refine ww_getr (pc := 26) (Cl := RX6) (T := TX6) (N := 10) (j := 6) (ref := RX6) hC (hT 0 _ rfl) rfl inT_X6 (by decide) mw_304 rfl rfl dX6_forget_26 ?_
    refine ww_iload_n (pc := 29) hC 2 rfl dX6_forget_29 rfl ?_
    refine ww_puti (pc := 30) (Cl := RX3) (T := TX3) (N := 3) (j := 2) (ref := RX3) hC ((ww_top_tales hT) 0 _ rfl) rfl inT_X3 (by decide) mw_229 rfl tyX3 tyX3_ok nmX3 rfl rfl (tyX3_ok 2 (by decide)) dX6_forget_30 ?_
    refine ww_iload_n (pc := 33) hC 0 rfl dX6_forget_33 rfl ?_
    exact ww_ireturn (pc := 34) hC hR dX6_forget_34 rfl
  · refine ww_iconst (pc := 15) (v := (-1)) hC dX6_forget_15 rfl ?_
    exact ww_ireturn (pc := 16) hC hR dX6_forget_16 rfl
