theorem dX0_bestAt_0 : decode cX0_bestAt 0 = .ok (.aload_n 0, 1) := by decide +kernel
theorem dX0_bestAt_1 : decode cX0_bestAt 1 = .ok (.getfield 28, 3) := by decide +kernel
theorem dX0_bestAt_4 : decode cX0_bestAt 4 = .ok (.istore_n 2, 1) := by decide +kernel
theorem dX0_bestAt_5 : decode cX0_bestAt 5 = .ok (.iconst 0, 1) := by decide +kernel
theorem dX0_bestAt_6 : decode cX0_bestAt 6 = .ok (.istore_n 3, 1) := by decide +kernel
theorem dX0_bestAt_7 : decode cX0_bestAt 7 = .ok (.iload_n 3, 1) := by decide +kernel
theorem dX0_bestAt_8 : decode cX0_bestAt 8 = .ok (.aload_n 0, 1) := by decide +kernel
theorem dX0_bestAt_9 : decode cX0_bestAt 9 = .ok (.getfield 44, 3) := by decide +kernel
theorem dX0_bestAt_12 : decode cX0_bestAt 12 = .ok (.if_icmp .ge 70, 3) := by decide +kernel
theorem dX0_bestAt_15 : decode cX0_bestAt 15 = .ok (.aload_n 0, 1) := by decide +kernel
theorem dX0_bestAt_16 : decode cX0_bestAt 16 = .ok (.iload_n 3, 1) := by decide +kernel
theorem dX0_bestAt_17 : decode cX0_bestAt 17 = .ok (.iload_n 2, 1) := by decide +kernel
theorem dX0_bestAt_18 : decode cX0_bestAt 18 = .ok (.invokevirtual 92, 3) := by decide +kernel
theorem dX0_bestAt_21 : decode cX0_bestAt 21 = .ok (.istore 4, 2) := by decide +kernel
theorem dX0_bestAt_23 : decode cX0_bestAt 23 = .ok (.iload 4, 2) := by decide +kernel
theorem dX0_bestAt_25 : decode cX0_bestAt 25 = .ok (.bipush 7, 2) := by decide +kernel
theorem dX0_bestAt_27 : decode cX0_bestAt 27 = .ok (.idiv, 1) := by decide +kernel
theorem dX0_bestAt_28 : decode cX0_bestAt 28 = .ok (.istore 5, 2) := by decide +kernel
theorem dX0_bestAt_30 : decode cX0_bestAt 30 = .ok (.iload 4, 2) := by decide +kernel
theorem dX0_bestAt_32 : decode cX0_bestAt 32 = .ok (.bipush 7, 2) := by decide +kernel
theorem dX0_bestAt_34 : decode cX0_bestAt 34 = .ok (.irem, 1) := by decide +kernel
theorem dX0_bestAt_35 : decode cX0_bestAt 35 = .ok (.istore 6, 2) := by decide +kernel
theorem dX0_bestAt_37 : decode cX0_bestAt 37 = .ok (.iload_n 3, 1) := by decide +kernel
theorem dX0_bestAt_38 : decode cX0_bestAt 38 = .ok (.iload_n 1, 1) := by decide +kernel
theorem dX0_bestAt_39 : decode cX0_bestAt 39 = .ok (.iconst 2, 1) := by decide +kernel
theorem dX0_bestAt_40 : decode cX0_bestAt 40 = .ok (.idiv, 1) := by decide +kernel
theorem dX0_bestAt_41 : decode cX0_bestAt 41 = .ok (.if_icmp .ne 21, 3) := by decide +kernel
theorem dX0_bestAt_44 : decode cX0_bestAt 44 = .ok (.aload_n 0, 1) := by decide +kernel
theorem dX0_bestAt_45 : decode cX0_bestAt 45 = .ok (.iload_n 1, 1) := by decide +kernel
theorem dX0_bestAt_46 : decode cX0_bestAt 46 = .ok (.iconst 2, 1) := by decide +kernel
theorem dX0_bestAt_47 : decode cX0_bestAt 47 = .ok (.irem, 1) := by decide +kernel
theorem dX0_bestAt_48 : decode cX0_bestAt 48 = .ok (.ifCond .ne 8, 3) := by decide +kernel
theorem dX0_bestAt_51 : decode cX0_bestAt 51 = .ok (.iload 5, 2) := by decide +kernel
theorem dX0_bestAt_53 : decode cX0_bestAt 53 = .ok (.goto 5, 3) := by decide +kernel
theorem dX0_bestAt_56 : decode cX0_bestAt 56 = .ok (.iload 6, 2) := by decide +kernel
theorem dX0_bestAt_58 : decode cX0_bestAt 58 = .ok (.invokevirtual 95, 3) := by decide +kernel
theorem dX0_bestAt_61 : decode cX0_bestAt 61 = .ok (.ireturn, 1) := by decide +kernel
theorem dX0_bestAt_62 : decode cX0_bestAt 62 = .ok (.aload_n 0, 1) := by decide +kernel
theorem dX0_bestAt_63 : decode cX0_bestAt 63 = .ok (.aload_n 0, 1) := by decide +kernel
theorem dX0_bestAt_64 : decode cX0_bestAt 64 = .ok (.iload_n 2, 1) := by decide +kernel
theorem dX0_bestAt_65 : decode cX0_bestAt 65 = .ok (.iload 5, 2) := by decide +kernel
theorem dX0_bestAt_67 : decode cX0_bestAt 67 = .ok (.invokevirtual 98, 3) := by decide +kernel
theorem dX0_bestAt_70 : decode cX0_bestAt 70 = .ok (.iload 6, 2) := by decide +kernel
theorem dX0_bestAt_72 : decode cX0_bestAt 72 = .ok (.invokevirtual 98, 3) := by decide +kernel
theorem dX0_bestAt_75 : decode cX0_bestAt 75 = .ok (.istore_n 2, 1) := by decide +kernel
theorem dX0_bestAt_76 : decode cX0_bestAt 76 = .ok (.iinc 3 1, 3) := by decide +kernel
theorem dX0_bestAt_79 : decode cX0_bestAt 79 = .ok (.goto (-72), 3) := by decide +kernel
theorem dX0_bestAt_82 : decode cX0_bestAt 82 = .ok (.bipush (-4), 2) := by decide +kernel
theorem dX0_bestAt_84 : decode cX0_bestAt 84 = .ok (.ireturn, 1) := by decide +kernel
set_option maxHeartbeats 4000000 in
set_option maxRecDepth 100000 in
theorem c_X0_bestAt {l : Launch} {Y : ww_Y} {ad : Nat → Nat} {G : List ww_L} (o0 : Nat) (h0 : ww_at G o0 (ww_LPlanner o0)) (σ : ww_M) (p1 : Int32) : ww_Cn l Y ad G yX0_bestAt cX0_bestAt 7 (some .int) 32 [.ref (ad o0), .int p1] σ ((f_X0_bestAt σ o0 p1).bind ww_rw) := by
  refine ww_met (by decide +kernel) (Nat.le_of_ble_eq_true rfl) ?_
  intro X hC hR
  have hC : ww_C X l Y ad G 32 cX0_bestAt 7 RX0 := hC
  show ww_V X Y ad G 7 σ 0 [(0, .ref (ad o0)), (1, .int p1)] [] ((f_X0_bestAt σ o0 p1).bind ww_rw)
  have hJ82 : ∀ (σ : ww_M), ww_V X Y ad G 7 σ 82 [] [] ((f_X0_bestAt_j82 σ o0 p1).bind ww_rw) := by
    intro σ
    unfold f_X0_bestAt_j82
    refine ww_bipush (pc := 82) (v := (-4)) hC dX0_bestAt_82 rfl ?_
    exact ww_ireturn (pc := 84) hC hR dX0_bestAt_84 rfl
  have hJ7 : ∀ (σ : ww_M) (x2 : Int32) (x3 : Int32), ww_V X Y ad G 7 σ 7 [(0, .ref (ad o0)), (1, .int p1), (2, .int x2), (3, .int x3)] [] ((f_X0_bestAt_j7 σ o0 p1 x2 x3).bind ww_rw) := by
    intro σ x2 x3
    unfold f_X0_bestAt_j7
    refine ww_assoc ?_
    refine ww_loopR (f := f_X0_bestAt_b7 o0 p1) (fun a7 => a7.2.2) (fun a7 => [(0, .ref (ad o0)), (1, .int p1), (2, .int a7.1), (3, .int a7.2.1)]) (fun b7 => b7) (fun b7 => []) 82 (fun b7 => ?_) (fun a7 KK7 hc7 hx7 hr7 => ?_) ww_F (x2, x3, σ)
    · exact hJ82 b7
    · unfold f_X0_bestAt_b7
      have hJ58 : ∀ (σ : ww_M) (s0 : Int32), ww_V X Y ad G 7 σ 58 [] [.int s0, .ref (ad o0)] ((f_X0_bestAt_j58 σ o0 p1 s0).bind KK7) := by
        intro σ s0
        unfold f_X0_bestAt_j58
        refine ww_callVi (pc := 58) (st := []) (As := [.int s0]) hC (c_X0_partAt o0 h0 σ s0) mm_X0_partAt mw_737 (h0 0 _ rfl) rfl (by omega) (by decide) (Nat.le_of_ble_eq_true rfl) rfl dX0_bestAt_58 (fun v58 => ?_)
        exact ww_ireturn (pc := 61) hC hR dX0_bestAt_61 ((hr7 _).trans rfl)
      refine ww_iload_n (pc := 7) hC 3 rfl dX0_bestAt_7 rfl ?_
      refine ww_aload_n (pc := 8) hC 0 rfl dX0_bestAt_8 rfl ?_
      refine ww_geti (pc := 9) (Cl := RX0) (T := TX0) (N := 9) (j := 5) (ref := RX0) hC (h0 0 _ rfl) rfl inT_X0 (by decide) mw_248 rfl rfl dX0_bestAt_9 ?_
      refine ww_icmp_ge (pc := 12) (tgt := 82) hC dX0_bestAt_12 (by decide) ?_ ?_
      · refine ww_lv [] rfl ?_
        exact hx7 a7.2.2
      · refine ww_aload_n (pc := 15) hC 0 rfl dX0_bestAt_15 rfl ?_
        refine ww_iload_n (pc := 16) hC 3 rfl dX0_bestAt_16 rfl ?_
        refine ww_iload_n (pc := 17) hC 2 rfl dX0_bestAt_17 rfl ?_
        refine ww_callVw (pc := 18) (st := []) (As := [.int a7.2.1, .int a7.1]) hC (c_X0_firstBest o0 h0 a7.2.2 a7.2.1 a7.1) mm_X0_firstBest mw_729 (h0 0 _ rfl) rfl (by omega) (by decide) (Nat.le_of_ble_eq_true rfl) rfl dX0_bestAt_18 (fun v18 => ?_)
        refine ww_istore (pc := 21) (lv' := [(4, .int v18.1), (0, .ref (ad o0)), (1, .int p1), (2, .int a7.1), (3, .int a7.2.1)]) hC dX0_bestAt_21 (by decide) rfl ?_
        refine ww_iload (pc := 23) hC 0 rfl dX0_bestAt_23 ?_
        refine ww_bipush (pc := 25) (v := 7) hC dX0_bestAt_25 rfl ?_
        refine ww_idiv_c (pc := 27) hC dX0_bestAt_27 (by decide) ?_
        refine ww_istore (pc := 28) (lv' := [(5, .int (v18.1 / 7)), (4, .int v18.1), (0, .ref (ad o0)), (1, .int p1), (2, .int a7.1), (3, .int a7.2.1)]) hC dX0_bestAt_28 (by decide) rfl ?_
        refine ww_iload (pc := 30) hC 1 rfl dX0_bestAt_30 ?_
        refine ww_bipush (pc := 32) (v := 7) hC dX0_bestAt_32 rfl ?_
        refine ww_irem_c (pc := 34) hC dX0_bestAt_34 (by decide) ?_
        refine ww_istore (pc := 35) (lv' := [(6, .int (ww_rem v18.1 7)), (5, .int (v18.1 / 7)), (4, .int v18.1), (0, .ref (ad o0)), (1, .int p1), (2, .int a7.1), (3, .int a7.2.1)]) hC dX0_bestAt_35 (by decide) rfl ?_
        refine ww_iload_n (pc := 37) hC 6 rfl dX0_bestAt_37 rfl ?_
        refine ww_iload_n (pc := 38) hC 4 rfl dX0_bestAt_38 rfl ?_
        refine ww_iconst (pc := 39) (v := 2) hC dX0_bestAt_39 rfl ?_
        refine ww_idiv_c (pc := 40) hC dX0_bestAt_40 (by decide) ?_
        refine ww_icmp_ne (pc := 41) (tgt := 62) hC dX0_bestAt_41 (by decide) ?_ ?_
        · refine ww_aload_n (pc := 62) hC 3 rfl dX0_bestAt_62 rfl ?_
          refine ww_aload_n (pc := 63) hC 3 rfl dX0_bestAt_63 rfl ?_
          refine ww_iload_n (pc := 64) hC 5 rfl dX0_bestAt_64 rfl ?_
          refine ww_iload (pc := 65) hC 1 rfl dX0_bestAt_65 ?_
          refine ww_callVi (pc := 67) (st := [.ref (ad o0)]) (As := [.int a7.1, .int (v18.1 / 7)]) hC (c_X0_after o0 h0 v18.2 a7.1 (v18.1 / 7)) mm_X0_after mw_720 (h0 0 _ rfl) rfl (by omega) (by decide) (Nat.le_of_ble_eq_true rfl) rfl dX0_bestAt_67 (fun v67 => ?_)
          refine ww_iload (pc := 70) hC 0 rfl dX0_bestAt_70 ?_
          refine ww_callVi (pc := 72) (st := []) (As := [.int v67, .int (ww_rem v18.1 7)]) hC (c_X0_after o0 h0 v18.2 v67 (ww_rem v18.1 7)) mm_X0_after mw_720 (h0 0 _ rfl) rfl (by omega) (by decide) (Nat.le_of_ble_eq_true rfl) rfl dX0_bestAt_72 (fun v72 => ?_)
          refine ww_istore_n (pc := 75) (lv' := [(2, .int v72), (6, .int (ww_rem v18.1 7)), (5, .int (v18.1 / 7)), (4, .int v18.1), (0, .ref (ad o0)), (1, .int p1), (3, .int a7.2.1)]) hC dX0_bestAt_75 rfl (by decide) rfl ?_
          refine ww_iinc (pc := 76) (v := a7.2.1 + 1) (lv' := [(3, .int (a7.2.1 + 1)), (2, .int v72), (6, .int (ww_rem v18.1 7)), (5, .int (v18.1 / 7)), (4, .int v18.1), (0, .ref (ad o0)), (1, .int p1)]) hC 6 rfl dX0_bestAt_76 rfl (by decide) rfl ?_
          refine ww_goto (pc := 79) (tgt := 7) hC dX0_bestAt_79 (by decide) ?_
          refine ww_lv [5, 6, 1, 0] rfl ?_
          exact hc7 (v72, a7.2.1 + 1, v18.2)
        · refine ww_aload_n (pc := 44) hC 3 rfl dX0_bestAt_44 rfl ?_
          refine ww_iload_n (pc := 45) hC 4 rfl dX0_bestAt_45 rfl ?_
          refine ww_iconst (pc := 46) (v := 2) hC dX0_bestAt_46 rfl ?_
          refine ww_irem_c (pc := 47) hC dX0_bestAt_47 (by decide) ?_
          refine ww_if_ne (pc := 48) (tgt := 56) hC dX0_bestAt_48 (by decide) ?_ ?_
          · refine ww_iload (pc := 56) hC 0 rfl dX0_bestAt_56 ?_
            refine ww_lv [] rfl ?_
            exact hJ58 v18.2 (ww_rem v18.1 7)
          · refine ww_iload (pc := 51) hC 1 rfl dX0_bestAt_51 ?_
            refine ww_goto (pc := 53) (tgt := 58) hC dX0_bestAt_53 (by decide) ?_
            refine ww_lv [] rfl ?_
            exact hJ58 v18.2 (v18.1 / 7)
  unfold f_X0_bestAt
  refine ww_aload_n (pc := 0) hC 0 rfl dX0_bestAt_0 rfl ?_
  refine ww_geti (pc := 1) (Cl := RX0) (T := TX0) (N := 9) (j := 7) (ref := RX0) hC (h0 0 _ rfl) rfl inT_X0 (by decide) mw_250 rfl rfl dX0_bestAt_1 ?_
  refine ww_istore_n (pc := 4) (lv' := [(2, .int (σ o0 7)), (0, .ref (ad o0)), (1, .int p1)]) hC dX0_bestAt_4 rfl (by decide) rfl ?_
  refine ww_iconst (pc := 5) (v := 0) hC dX0_bestAt_5 rfl ?_
  refine ww_istore_n (pc := 6) (lv' := [(3, .int 0), (2, .int (σ o0 7)), (0, .ref (ad o0)), (1, .int p1)]) hC dX0_bestAt_6 rfl (by decide) rfl ?_
  refine ww_lv [2, 3, 1, 0] rfl ?_
  exact hJ7 σ (σ o0 7) 0
