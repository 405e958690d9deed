theorem dX2_ownerOfMost_0 : decode cX2_ownerOfMost 0 = .ok (.iconst 0, 1) := by decide +kernel
theorem dX2_ownerOfMost_1 : decode cX2_ownerOfMost 1 = .ok (.istore_n 3, 1) := by decide +kernel
theorem dX2_ownerOfMost_2 : decode cX2_ownerOfMost 2 = .ok (.iconst 0, 1) := by decide +kernel
theorem dX2_ownerOfMost_3 : decode cX2_ownerOfMost 3 = .ok (.istore 4, 2) := by decide +kernel
theorem dX2_ownerOfMost_5 : decode cX2_ownerOfMost 5 = .ok (.iconst 0, 1) := by decide +kernel
theorem dX2_ownerOfMost_6 : decode cX2_ownerOfMost 6 = .ok (.istore 5, 2) := by decide +kernel
theorem dX2_ownerOfMost_8 : decode cX2_ownerOfMost 8 = .ok (.iload 5, 2) := by decide +kernel
theorem dX2_ownerOfMost_10 : decode cX2_ownerOfMost 10 = .ok (.iconst 4, 1) := by decide +kernel
theorem dX2_ownerOfMost_11 : decode cX2_ownerOfMost 11 = .ok (.if_icmp .ge 55, 3) := by decide +kernel
theorem dX2_ownerOfMost_14 : decode cX2_ownerOfMost 14 = .ok (.iconst 0, 1) := by decide +kernel
theorem dX2_ownerOfMost_15 : decode cX2_ownerOfMost 15 = .ok (.istore 6, 2) := by decide +kernel
theorem dX2_ownerOfMost_17 : decode cX2_ownerOfMost 17 = .ok (.iload_n 1, 1) := by decide +kernel
theorem dX2_ownerOfMost_18 : decode cX2_ownerOfMost 18 = .ok (.istore 7, 2) := by decide +kernel
theorem dX2_ownerOfMost_20 : decode cX2_ownerOfMost 20 = .ok (.iload 7, 2) := by decide +kernel
theorem dX2_ownerOfMost_22 : decode cX2_ownerOfMost 22 = .ok (.iload_n 2, 1) := by decide +kernel
theorem dX2_ownerOfMost_23 : decode cX2_ownerOfMost 23 = .ok (.if_icmp .gt 24, 3) := by decide +kernel
theorem dX2_ownerOfMost_26 : decode cX2_ownerOfMost 26 = .ok (.aload_n 0, 1) := by decide +kernel
theorem dX2_ownerOfMost_27 : decode cX2_ownerOfMost 27 = .ok (.getfield 9, 3) := by decide +kernel
theorem dX2_ownerOfMost_30 : decode cX2_ownerOfMost 30 = .ok (.iload 7, 2) := by decide +kernel
theorem dX2_ownerOfMost_32 : decode cX2_ownerOfMost 32 = .ok (.iaload, 1) := by decide +kernel
theorem dX2_ownerOfMost_33 : decode cX2_ownerOfMost 33 = .ok (.iload 5, 2) := by decide +kernel
theorem dX2_ownerOfMost_35 : decode cX2_ownerOfMost 35 = .ok (.if_icmp .ne 6, 3) := by decide +kernel
theorem dX2_ownerOfMost_38 : decode cX2_ownerOfMost 38 = .ok (.iinc 6 1, 3) := by decide +kernel
theorem dX2_ownerOfMost_41 : decode cX2_ownerOfMost 41 = .ok (.iinc 7 1, 3) := by decide +kernel
theorem dX2_ownerOfMost_44 : decode cX2_ownerOfMost 44 = .ok (.goto (-24), 3) := by decide +kernel
theorem dX2_ownerOfMost_47 : decode cX2_ownerOfMost 47 = .ok (.iload 6, 2) := by decide +kernel
theorem dX2_ownerOfMost_49 : decode cX2_ownerOfMost 49 = .ok (.iload_n 3, 1) := by decide +kernel
theorem dX2_ownerOfMost_50 : decode cX2_ownerOfMost 50 = .ok (.if_icmp .le 10, 3) := by decide +kernel
theorem dX2_ownerOfMost_53 : decode cX2_ownerOfMost 53 = .ok (.iload 6, 2) := by decide +kernel
theorem dX2_ownerOfMost_55 : decode cX2_ownerOfMost 55 = .ok (.istore_n 3, 1) := by decide +kernel
theorem dX2_ownerOfMost_56 : decode cX2_ownerOfMost 56 = .ok (.iload 5, 2) := by decide +kernel
theorem dX2_ownerOfMost_58 : decode cX2_ownerOfMost 58 = .ok (.istore 4, 2) := by decide +kernel
theorem dX2_ownerOfMost_60 : decode cX2_ownerOfMost 60 = .ok (.iinc 5 1, 3) := by decide +kernel
theorem dX2_ownerOfMost_63 : decode cX2_ownerOfMost 63 = .ok (.goto (-55), 3) := by decide +kernel
theorem dX2_ownerOfMost_66 : decode cX2_ownerOfMost 66 = .ok (.iload 4, 2) := by decide +kernel
theorem dX2_ownerOfMost_68 : decode cX2_ownerOfMost 68 = .ok (.ireturn, 1) := by decide +kernel
set_option maxHeartbeats 4000000 in
set_option maxRecDepth 100000 in
theorem c_X2_ownerOfMost {l : Launch} {Y : ww_Y} {ad : Nat → Nat} {G : List ww_L} (o0 : Nat) (h0 : ww_at G o0 (ww_LShore o0)) (σ : ww_M) (p1 : Int32) (p2 : Int32) : ww_Cn l Y ad G yX2_ownerOfMost cX2_ownerOfMost 8 (some .int) 1 [.ref (ad o0), .int p1, .int p2] σ ((f_X2_ownerOfMost σ o0 p1 p2).bind (ww_ri σ)) := by
  refine ww_met (by decide +kernel) (Nat.le_of_ble_eq_true rfl) ?_
  intro X hC hR
  have hC : ww_C X l Y ad G 1 cX2_ownerOfMost 8 RX2 := hC
  show ww_V X Y ad G 8 σ 0 [(0, .ref (ad o0)), (1, .int p1), (2, .int p2)] [] ((f_X2_ownerOfMost σ o0 p1 p2).bind (ww_ri σ))
  have hJ66 : ∀ (x4 : Int32), ww_V X Y ad G 8 σ 66 [(4, .int x4)] [] ((f_X2_ownerOfMost_j66 σ o0 p1 p2 x4).bind (ww_ri σ)) := by
    intro x4
    unfold f_X2_ownerOfMost_j66
    refine ww_iload (pc := 66) hC 0 rfl dX2_ownerOfMost_66 ?_
    exact ww_ireturn (pc := 68) hC hR dX2_ownerOfMost_68 rfl
  have hJ8 : ∀ (x3 : Int32) (x4 : Int32) (x5 : Int32), ww_V X Y ad G 8 σ 8 [(0, .ref (ad o0)), (1, .int p1), (2, .int p2), (3, .int x3), (4, .int x4), (5, .int x5)] [] ((f_X2_ownerOfMost_j8 σ o0 p1 p2 x3 x4 x5).bind (ww_ri σ)) := by
    intro x3 x4 x5
    unfold f_X2_ownerOfMost_j8
    refine ww_assoc ?_
    refine ww_loop (f := f_X2_ownerOfMost_b8 σ o0 p1 p2) (fun a8 => σ) (fun a8 => [(0, .ref (ad o0)), (1, .int p1), (2, .int p2), (3, .int a8.1), (4, .int a8.2.1), (5, .int a8.2.2)]) (fun b8 => σ) (fun b8 => [(4, .int b8)]) 66 (fun b8 => ?_) (fun a8 KK8 hc8 hx8 => ?_) ww_F (x3, x4, x5)
    · exact hJ66 b8
    · unfold f_X2_ownerOfMost_b8
      have hJ47 : ∀ (x3 : Int32) (x4 : Int32) (x5 : Int32) (x6 : Int32), ww_V X Y ad G 8 σ 47 [(0, .ref (ad o0)), (1, .int p1), (2, .int p2), (3, .int x3), (4, .int x4), (5, .int x5), (6, .int x6)] [] ((f_X2_ownerOfMost_j47 σ o0 p1 p2 x3 x4 x5 x6).bind KK8) := by
        intro x3 x4 x5 x6
        unfold f_X2_ownerOfMost_j47
        refine ww_iload (pc := 47) hC 6 rfl dX2_ownerOfMost_47 ?_
        refine ww_iload_n (pc := 49) hC 3 rfl dX2_ownerOfMost_49 rfl ?_
        refine ww_icmp_le (pc := 50) (tgt := 60) hC dX2_ownerOfMost_50 (by decide) ?_ ?_
        · refine ww_iinc (pc := 60) (v := x5 + 1) (lv' := [(5, .int (x5 + 1)), (0, .ref (ad o0)), (1, .int p1), (2, .int p2), (3, .int x3), (4, .int x4), (6, .int x6)]) hC 5 rfl dX2_ownerOfMost_60 rfl (by decide) rfl ?_
          refine ww_goto (pc := 63) (tgt := 8) hC dX2_ownerOfMost_63 (by decide) ?_
          refine ww_lv [1, 2, 3, 4, 5, 0] rfl ?_
          exact hc8 (x3, x4, x5 + 1)
        · refine ww_iload (pc := 53) hC 6 rfl dX2_ownerOfMost_53 ?_
          refine ww_istore_n (pc := 55) (lv' := [(3, .int x6), (0, .ref (ad o0)), (1, .int p1), (2, .int p2), (4, .int x4), (5, .int x5), (6, .int x6)]) hC dX2_ownerOfMost_55 rfl (by decide) rfl ?_
          refine ww_iload (pc := 56) hC 5 rfl dX2_ownerOfMost_56 ?_
          refine ww_istore (pc := 58) (lv' := [(4, .int x5), (3, .int x6), (0, .ref (ad o0)), (1, .int p1), (2, .int p2), (5, .int x5), (6, .int x6)]) hC dX2_ownerOfMost_58 (by decide) rfl ?_
          refine ww_iinc (pc := 60) (v := x5 + 1) (lv' := [(5, .int (x5 + 1)), (4, .int x5), (3, .int x6), (0, .ref (ad o0)), (1, .int p1), (2, .int p2), (6, .int x6)]) hC 5 rfl dX2_ownerOfMost_60 rfl (by decide) rfl ?_
          refine ww_goto (pc := 63) (tgt := 8) hC dX2_ownerOfMost_63 (by decide) ?_
          refine ww_lv [3, 4, 5, 2, 1, 0] rfl ?_
          exact hc8 (x6, x5, x5 + 1)
      have hJ20 : ∀ (x3 : Int32) (x4 : Int32) (x5 : Int32) (x6 : Int32) (x7 : Int32), ww_V X Y ad G 8 σ 20 [(0, .ref (ad o0)), (1, .int p1), (2, .int p2), (3, .int x3), (4, .int x4), (5, .int x5), (6, .int x6), (7, .int x7)] [] ((f_X2_ownerOfMost_j20 σ o0 p1 p2 x3 x4 x5 x6 x7).bind KK8) := by
        intro x3 x4 x5 x6 x7
        unfold f_X2_ownerOfMost_j20
        refine ww_assoc ?_
        refine ww_loop (f := f_X2_ownerOfMost_b20 σ o0 p1 p2 x3 x4 x5) (fun a20 => σ) (fun a20 => [(0, .ref (ad o0)), (1, .int p1), (2, .int p2), (3, .int x3), (4, .int x4), (5, .int x5), (6, .int a20.1), (7, .int a20.2)]) (fun b20 => σ) (fun b20 => [(0, .ref (ad o0)), (1, .int p1), (2, .int p2), (3, .int x3), (4, .int x4), (5, .int x5), (6, .int b20)]) 47 (fun b20 => ?_) (fun a20 KK20 hc20 hx20 => ?_) ww_F (x6, x7)
        · exact hJ47 x3 x4 x5 b20
        · unfold f_X2_ownerOfMost_b20
          refine ww_iload (pc := 20) hC 7 rfl dX2_ownerOfMost_20 ?_
          refine ww_iload_n (pc := 22) hC 2 rfl dX2_ownerOfMost_22 rfl ?_
          refine ww_icmp_gt (pc := 23) (tgt := 47) hC dX2_ownerOfMost_23 (by decide) ?_ ?_
          · refine ww_lv [0, 1, 2, 3, 4, 5, 6] rfl ?_
            exact hx20 a20.1
          · refine ww_aload_n (pc := 26) hC 0 rfl dX2_ownerOfMost_26 rfl ?_
            refine ww_getr (pc := 27) (Cl := RX2) (T := TX2) (N := 17) (j := 0) (ref := RX2) hC (h0 0 _ rfl) rfl inT_X2 (by decide) mw_139 rfl rfl dX2_ownerOfMost_27 ?_
            refine ww_iload (pc := 30) hC 7 rfl dX2_ownerOfMost_30 ?_
            refine ww_iald (pc := 32) hC (h0 1 _ rfl) dX2_ownerOfMost_32 ?_
            refine ww_iload (pc := 33) hC 5 rfl dX2_ownerOfMost_33 ?_
            refine ww_icmp_ne (pc := 35) (tgt := 41) hC dX2_ownerOfMost_35 (by decide) ?_ ?_
            · refine ww_iinc (pc := 41) (v := a20.2 + 1) (lv' := [(7, .int (a20.2 + 1)), (0, .ref (ad o0)), (1, .int p1), (2, .int p2), (3, .int x3), (4, .int x4), (5, .int x5), (6, .int a20.1)]) hC 7 rfl dX2_ownerOfMost_41 rfl (by decide) rfl ?_
              refine ww_goto (pc := 44) (tgt := 20) hC dX2_ownerOfMost_44 (by decide) ?_
              refine ww_lv [1, 2, 3, 4, 5, 6, 7, 0] rfl ?_
              exact hc20 (a20.1, a20.2 + 1)
            · refine ww_iinc (pc := 38) (v := a20.1 + 1) (lv' := [(6, .int (a20.1 + 1)), (0, .ref (ad o0)), (1, .int p1), (2, .int p2), (3, .int x3), (4, .int x4), (5, .int x5), (7, .int a20.2)]) hC 6 rfl dX2_ownerOfMost_38 rfl (by decide) rfl ?_
              refine ww_iinc (pc := 41) (v := a20.2 + 1) (lv' := [(7, .int (a20.2 + 1)), (6, .int (a20.1 + 1)), (0, .ref (ad o0)), (1, .int p1), (2, .int p2), (3, .int x3), (4, .int x4), (5, .int x5)]) hC 7 rfl dX2_ownerOfMost_41 rfl (by decide) rfl ?_
              refine ww_goto (pc := 44) (tgt := 20) hC dX2_ownerOfMost_44 (by decide) ?_
              refine ww_lv [2, 3, 4, 5, 6, 7, 1, 0] rfl ?_
              exact hc20 (a20.1 + 1, a20.2 + 1)
      refine ww_iload (pc := 8) hC 5 rfl dX2_ownerOfMost_8 ?_
      refine ww_iconst (pc := 10) (v := 4) hC dX2_ownerOfMost_10 rfl ?_
      refine ww_icmp_ge (pc := 11) (tgt := 66) hC dX2_ownerOfMost_11 (by decide) ?_ ?_
      · refine ww_lv [4] rfl ?_
        exact hx8 a8.2.1
      · refine ww_iconst (pc := 14) (v := 0) hC dX2_ownerOfMost_14 rfl ?_
        refine ww_istore (pc := 15) (lv' := [(6, .int 0), (0, .ref (ad o0)), (1, .int p1), (2, .int p2), (3, .int a8.1), (4, .int a8.2.1), (5, .int a8.2.2)]) hC dX2_ownerOfMost_15 (by decide) rfl ?_
        refine ww_iload_n (pc := 17) hC 2 rfl dX2_ownerOfMost_17 rfl ?_
        refine ww_istore (pc := 18) (lv' := [(7, .int p1), (6, .int 0), (0, .ref (ad o0)), (1, .int p1), (2, .int p2), (3, .int a8.1), (4, .int a8.2.1), (5, .int a8.2.2)]) hC dX2_ownerOfMost_18 (by decide) rfl ?_
        refine ww_lv [2, 3, 4, 5, 6, 7, 1, 0] rfl ?_
        exact hJ20 a8.1 a8.2.1 a8.2.2 0 p1
  unfold f_X2_ownerOfMost
  refine ww_iconst (pc := 0) (v := 0) hC dX2_ownerOfMost_0 rfl ?_
  refine ww_istore_n (pc := 1) (lv' := [(3, .int 0), (0, .ref (ad o0)), (1, .int p1), (2, .int p2)]) hC dX2_ownerOfMost_1 rfl (by decide) rfl ?_
  refine ww_iconst (pc := 2) (v := 0) hC dX2_ownerOfMost_2 rfl ?_
  refine ww_istore (pc := 3) (lv' := [(4, .int 0), (3, .int 0), (0, .ref (ad o0)), (1, .int p1), (2, .int p2)]) hC dX2_ownerOfMost_3 (by decide) rfl ?_
  refine ww_iconst (pc := 5) (v := 0) hC dX2_ownerOfMost_5 rfl ?_
  refine ww_istore (pc := 6) (lv' := [(5, .int 0), (4, .int 0), (3, .int 0), (0, .ref (ad o0)), (1, .int p1), (2, .int p2)]) hC dX2_ownerOfMost_6 (by decide) rfl ?_
  refine ww_lv [3, 4, 5, 2, 1, 0] rfl ?_
  exact hJ8 0 0 0
theorem dX2_ownerBy_0 : decode cX2_ownerBy 0 = .ok (.iload_n 1, 1) := by decide +kernel
theorem dX2_ownerBy_1 : decode cX2_ownerBy 1 = .ok (.iconst 3, 1) := by decide +kernel
theorem dX2_ownerBy_2 : decode cX2_ownerBy 2 = .ok (.idiv, 1) := by decide +kernel
theorem dX2_ownerBy_3 : decode cX2_ownerBy 3 = .ok (.istore_n 3, 1) := by decide +kernel
theorem dX2_ownerBy_4 : decode cX2_ownerBy 4 = .ok (.aload_n 0, 1) := by decide +kernel
theorem dX2_ownerBy_5 : decode cX2_ownerBy 5 = .ok (.getfield 21, 3) := by decide +kernel
theorem dX2_ownerBy_8 : decode cX2_ownerBy 8 = .ok (.iload_n 3, 1) := by decide +kernel
theorem dX2_ownerBy_9 : decode cX2_ownerBy 9 = .ok (.iaload, 1) := by decide +kernel
theorem dX2_ownerBy_10 : decode cX2_ownerBy 10 = .ok (.istore 4, 2) := by decide +kernel
theorem dX2_ownerBy_12 : decode cX2_ownerBy 12 = .ok (.iload 4, 2) := by decide +kernel
theorem dX2_ownerBy_14 : decode cX2_ownerBy 14 = .ok (.aload_n 0, 1) := by decide +kernel
theorem dX2_ownerBy_15 : decode cX2_ownerBy 15 = .ok (.getfield 24, 3) := by decide +kernel
theorem dX2_ownerBy_18 : decode cX2_ownerBy 18 = .ok (.iload_n 3, 1) := by decide +kernel
theorem dX2_ownerBy_19 : decode cX2_ownerBy 19 = .ok (.iaload, 1) := by decide +kernel
theorem dX2_ownerBy_20 : decode cX2_ownerBy 20 = .ok (.iadd, 1) := by decide +kernel
theorem dX2_ownerBy_21 : decode cX2_ownerBy 21 = .ok (.iconst 1, 1) := by decide +kernel
theorem dX2_ownerBy_22 : decode cX2_ownerBy 22 = .ok (.isub, 1) := by decide +kernel
theorem dX2_ownerBy_23 : decode cX2_ownerBy 23 = .ok (.istore 5, 2) := by decide +kernel
theorem dX2_ownerBy_25 : decode cX2_ownerBy 25 = .ok (.iload_n 2, 1) := by decide +kernel
theorem dX2_ownerBy_26 : decode cX2_ownerBy 26 = .ok (.tableswitch 53 0 2 #[26, 34, 42], 26) := by decide +kernel
theorem dX2_ownerBy_52 : decode cX2_ownerBy 52 = .ok (.aload_n 0, 1) := by decide +kernel
theorem dX2_ownerBy_53 : decode cX2_ownerBy 53 = .ok (.getfield 9, 3) := by decide +kernel
theorem dX2_ownerBy_56 : decode cX2_ownerBy 56 = .ok (.iload 4, 2) := by decide +kernel
theorem dX2_ownerBy_58 : decode cX2_ownerBy 58 = .ok (.iaload, 1) := by decide +kernel
theorem dX2_ownerBy_59 : decode cX2_ownerBy 59 = .ok (.ireturn, 1) := by decide +kernel
theorem dX2_ownerBy_60 : decode cX2_ownerBy 60 = .ok (.aload_n 0, 1) := by decide +kernel
theorem dX2_ownerBy_61 : decode cX2_ownerBy 61 = .ok (.getfield 9, 3) := by decide +kernel
theorem dX2_ownerBy_64 : decode cX2_ownerBy 64 = .ok (.iload 5, 2) := by decide +kernel
theorem dX2_ownerBy_66 : decode cX2_ownerBy 66 = .ok (.iaload, 1) := by decide +kernel
theorem dX2_ownerBy_67 : decode cX2_ownerBy 67 = .ok (.ireturn, 1) := by decide +kernel
theorem dX2_ownerBy_68 : decode cX2_ownerBy 68 = .ok (.aload_n 0, 1) := by decide +kernel
theorem dX2_ownerBy_69 : decode cX2_ownerBy 69 = .ok (.getfield 9, 3) := by decide +kernel
theorem dX2_ownerBy_72 : decode cX2_ownerBy 72 = .ok (.aload_n 0, 1) := by decide +kernel
theorem dX2_ownerBy_73 : decode cX2_ownerBy 73 = .ok (.iload_n 1, 1) := by decide +kernel
theorem dX2_ownerBy_74 : decode cX2_ownerBy 74 = .ok (.invokevirtual 122, 3) := by decide +kernel
theorem dX2_ownerBy_77 : decode cX2_ownerBy 77 = .ok (.iaload, 1) := by decide +kernel
theorem dX2_ownerBy_78 : decode cX2_ownerBy 78 = .ok (.ireturn, 1) := by decide +kernel
theorem dX2_ownerBy_79 : decode cX2_ownerBy 79 = .ok (.aload_n 0, 1) := by decide +kernel
theorem dX2_ownerBy_80 : decode cX2_ownerBy 80 = .ok (.iload 4, 2) := by decide +kernel
theorem dX2_ownerBy_82 : decode cX2_ownerBy 82 = .ok (.iload 5, 2) := by decide +kernel
theorem dX2_ownerBy_84 : decode cX2_ownerBy 84 = .ok (.invokevirtual 128, 3) := by decide +kernel
theorem dX2_ownerBy_87 : decode cX2_ownerBy 87 = .ok (.ireturn, 1) := by decide +kernel
set_option maxHeartbeats 4000000 in
set_option maxRecDepth 100000 in
theorem c_X2_ownerBy {l : Launch} {Y : ww_Y} {ad : Nat → Nat} {G : List ww_L} (o0 : Nat) (h0 : ww_at G o0 (ww_LShore o0)) (σ : ww_M) (p1 : Int32) (p2 : Int32) : ww_Cn l Y ad G yX2_ownerBy cX2_ownerBy 6 (some .int) 2 [.ref (ad o0), .int p1, .int p2] σ ((f_X2_ownerBy σ o0 p1 p2).bind (ww_ri σ)) := by
  refine ww_met (by decide +kernel) (Nat.le_of_ble_eq_true rfl) ?_
  intro X hC hR
  have hC : ww_C X l Y ad G 2 cX2_ownerBy 6 RX2 := hC
  show ww_V X Y ad G 6 σ 0 [(0, .ref (ad o0)), (1, .int p1), (2, .int p2)] [] ((f_X2_ownerBy σ o0 p1 p2).bind (ww_ri σ))
  unfold f_X2_ownerBy
  refine ww_iload_n (pc := 0) hC 1 rfl dX2_ownerBy_0 rfl ?_
  refine ww_iconst (pc := 1) (v := 3) hC dX2_ownerBy_1 rfl ?_
  refine ww_idiv_c (pc := 2) hC dX2_ownerBy_2 (by decide) ?_
  refine ww_istore_n (pc := 3) (lv' := [(3, .int (p1 / 3)), (0, .ref (ad o0)), (1, .int p1), (2, .int p2)]) hC dX2_ownerBy_3 rfl (by decide) rfl ?_
  refine ww_aload_n (pc := 4) hC 1 rfl dX2_ownerBy_4 rfl ?_
  refine ww_getr (pc := 5) (Cl := RX2) (T := TX2) (N := 17) (j := 3) (ref := RX2) hC (h0 0 _ rfl) rfl inT_X2 (by decide) mw_144 rfl rfl dX2_ownerBy_5 ?_
  refine ww_iload_n (pc := 8) hC 0 rfl dX2_ownerBy_8 rfl ?_
  refine ww_iald (pc := 9) hC (h0 4 _ rfl) dX2_ownerBy_9 ?_
  refine ww_istore (pc := 10) (lv' := [(4, .int (σ (o0 + 4) (ww_ix (p1 / 3)))), (3, .int (p1 / 3)), (0, .ref (ad o0)), (1, .int p1), (2, .int p2)]) hC dX2_ownerBy_10 (by decide) rfl ?_
  refine ww_iload (pc := 12) hC 0 rfl dX2_ownerBy_12 ?_
  refine ww_aload_n (pc := 14) hC 2 rfl dX2_ownerBy_14 rfl ?_
  refine ww_getr (pc := 15) (Cl := RX2) (T := TX2) (N := 17) (j := 4) (ref := RX2) hC (h0 0 _ rfl) rfl inT_X2 (by decide) mw_147 rfl rfl dX2_ownerBy_15 ?_
  refine ww_iload_n (pc := 18) hC 1 rfl dX2_ownerBy_18 rfl ?_
  refine ww_iald (pc := 19) hC (h0 5 _ rfl) dX2_ownerBy_19 ?_
  refine ww_iadd (pc := 20) hC dX2_ownerBy_20 ?_
  refine ww_iconst (pc := 21) (v := 1) hC dX2_ownerBy_21 rfl ?_
  refine ww_isub (pc := 22) hC dX2_ownerBy_22 ?_
  refine ww_istore (pc := 23) (lv' := [(5, .int (((σ (o0 + 4) (ww_ix (p1 / 3))) + (σ (o0 + 5) (ww_ix (p1 / 3)))) - 1)), (4, .int (σ (o0 + 4) (ww_ix (p1 / 3)))), (3, .int (p1 / 3)), (0, .ref (ad o0)), (1, .int p1), (2, .int p2)]) hC dX2_ownerBy_23 (by decide) rfl ?_
  refine ww_iload_n (pc := 25) hC 5 rfl dX2_ownerBy_25 rfl ?_
  refine ww_tab (pc := 26) (tgt := 52) hC 0 dX2_ownerBy_26 (by decide) (by decide) rfl (by decide) ?_ (fun q26_0 => ?_)
  · refine ww_aload_n (pc := 52) hC 3 rfl dX2_ownerBy_52 rfl ?_
    refine ww_getr (pc := 53) (Cl := RX2) (T := TX2) (N := 17) (j := 0) (ref := RX2) hC (h0 0 _ rfl) rfl inT_X2 (by decide) mw_139 rfl rfl dX2_ownerBy_53 ?_
    refine ww_iload (pc := 56) hC 1 rfl dX2_ownerBy_56 ?_
    refine ww_iald (pc := 58) hC (h0 1 _ rfl) dX2_ownerBy_58 ?_
    exact ww_ireturn (pc := 59) hC hR dX2_ownerBy_59 rfl
  refine ww_tab (pc := 26) (tgt := 60) hC 1 dX2_ownerBy_26 (by decide) (by decide) rfl (by decide) ?_ (fun q26_1 => ?_)
  · refine ww_aload_n (pc := 60) hC 3 rfl dX2_ownerBy_60 rfl ?_
    refine ww_getr (pc := 61) (Cl := RX2) (T := TX2) (N := 17) (j := 0) (ref := RX2) hC (h0 0 _ rfl) rfl inT_X2 (by decide) mw_139 rfl rfl dX2_ownerBy_61 ?_
    refine ww_iload (pc := 64) hC 0 rfl dX2_ownerBy_64 ?_
    refine ww_iald (pc := 66) hC (h0 1 _ rfl) dX2_ownerBy_66 ?_
    exact ww_ireturn (pc := 67) hC hR dX2_ownerBy_67 rfl
  refine ww_tab (pc := 26) (tgt := 68) hC 2 dX2_ownerBy_26 (by decide) (by decide) rfl (by decide) ?_ (fun q26_2 => ?_)
  · refine ww_aload_n (pc := 68) hC 3 rfl dX2_ownerBy_68 rfl ?_
    refine ww_getr (pc := 69) (Cl := RX2) (T := TX2) (N := 17) (j := 0) (ref := RX2) hC (h0 0 _ rfl) rfl inT_X2 (by decide) mw_139 rfl rfl dX2_ownerBy_69 ?_
    refine ww_aload_n (pc := 72) hC 3 rfl dX2_ownerBy_72 rfl ?_
    refine ww_iload_n (pc := 73) hC 4 rfl dX2_ownerBy_73 rfl ?_
    refine ww_callVi (pc := 74) (st := [.ref (ad (o0 + 1))]) (As := [.int p1]) hC (c_X2_placeOf o0 h0 σ p1) mm_X2_placeOf mw_585 (h0 0 _ rfl) rfl (by omega) (by decide) (Nat.le_of_ble_eq_true rfl) rfl dX2_ownerBy_74 (fun v74 => ?_)
    refine ww_iald (pc := 77) hC (h0 1 _ rfl) dX2_ownerBy_77 ?_
    exact ww_ireturn (pc := 78) hC hR dX2_ownerBy_78 rfl
  have z26_0 : p2.toInt ≠ (0 : Int) := ww_nei q26_0
  have z26_1 : p2.toInt ≠ (1 : Int) := ww_nei q26_1
  have z26_2 : p2.toInt ≠ (2 : Int) := ww_nei q26_2
  refine ww_tabD (pc := 26) (tgt := 79) hC dX2_ownerBy_26 (by omega) (by decide) ?_
  refine ww_aload_n (pc := 79) hC 3 rfl dX2_ownerBy_79 rfl ?_
  refine ww_iload (pc := 80) hC 1 rfl dX2_ownerBy_80 ?_
  refine ww_iload (pc := 82) hC 0 rfl dX2_ownerBy_82 ?_
  refine ww_callVi (pc := 84) (st := []) (As := [.int (σ (o0 + 4) (ww_ix (p1 / 3))), .int (((σ (o0 + 4) (ww_ix (p1 / 3))) + (σ (o0 + 5) (ww_ix (p1 / 3)))) - 1)]) hC (c_X2_ownerOfMost o0 h0 σ (σ (o0 + 4) (ww_ix (p1 / 3))) (((σ (o0 + 4) (ww_ix (p1 / 3))) + (σ (o0 + 5) (ww_ix (p1 / 3)))) - 1)) mm_X2_ownerOfMost mw_593 (h0 0 _ rfl) rfl (by omega) (by decide) (Nat.le_of_ble_eq_true rfl) rfl dX2_ownerBy_84 (fun v84 => ?_)
  exact ww_ireturn (pc := 87) hC hR dX2_ownerBy_87 rfl
theorem dX2_shareBy_0 : decode cX2_shareBy 0 = .ok (.iconst 0, 1) := by decide +kernel
theorem dX2_shareBy_1 : decode cX2_shareBy 1 = .ok (.istore_n 3, 1) := by decide +kernel
theorem dX2_shareBy_2 : decode cX2_shareBy 2 = .ok (.iconst 0, 1) := by decide +kernel
theorem dX2_shareBy_3 : decode cX2_shareBy 3 = .ok (.istore 4, 2) := by decide +kernel
theorem dX2_shareBy_5 : decode cX2_shareBy 5 = .ok (.iload 4, 2) := by decide +kernel
theorem dX2_shareBy_7 : decode cX2_shareBy 7 = .ok (.bipush 9, 2) := by decide +kernel
theorem dX2_shareBy_9 : decode cX2_shareBy 9 = .ok (.if_icmp .ge 39, 3) := by decide +kernel
theorem dX2_shareBy_12 : decode cX2_shareBy 12 = .ok (.aload_n 0, 1) := by decide +kernel
theorem dX2_shareBy_13 : decode cX2_shareBy 13 = .ok (.iload 4, 2) := by decide +kernel
theorem dX2_shareBy_15 : decode cX2_shareBy 15 = .ok (.invokevirtual 119, 3) := by decide +kernel
theorem dX2_shareBy_18 : decode cX2_shareBy 18 = .ok (.ifCond .eq 24, 3) := by decide +kernel
theorem dX2_shareBy_21 : decode cX2_shareBy 21 = .ok (.aload_n 0, 1) := by decide +kernel
theorem dX2_shareBy_22 : decode cX2_shareBy 22 = .ok (.iload 4, 2) := by decide +kernel
theorem dX2_shareBy_24 : decode cX2_shareBy 24 = .ok (.iload_n 2, 1) := by decide +kernel
theorem dX2_shareBy_25 : decode cX2_shareBy 25 = .ok (.invokevirtual 131, 3) := by decide +kernel
theorem dX2_shareBy_28 : decode cX2_shareBy 28 = .ok (.iload_n 1, 1) := by decide +kernel
theorem dX2_shareBy_29 : decode cX2_shareBy 29 = .ok (.if_icmp .ne 13, 3) := by decide +kernel
theorem dX2_shareBy_32 : decode cX2_shareBy 32 = .ok (.iload_n 3, 1) := by decide +kernel
theorem dX2_shareBy_33 : decode cX2_shareBy 33 = .ok (.aload_n 0, 1) := by decide +kernel
theorem dX2_shareBy_34 : decode cX2_shareBy 34 = .ok (.getfield 27, 3) := by decide +kernel
theorem dX2_shareBy_37 : decode cX2_shareBy 37 = .ok (.iload 4, 2) := by decide +kernel
theorem dX2_shareBy_39 : decode cX2_shareBy 39 = .ok (.iaload, 1) := by decide +kernel
theorem dX2_shareBy_40 : decode cX2_shareBy 40 = .ok (.iadd, 1) := by decide +kernel
theorem dX2_shareBy_41 : decode cX2_shareBy 41 = .ok (.istore_n 3, 1) := by decide +kernel
theorem dX2_shareBy_42 : decode cX2_shareBy 42 = .ok (.iinc 4 1, 3) := by decide +kernel
theorem dX2_shareBy_45 : decode cX2_shareBy 45 = .ok (.goto (-40), 3) := by decide +kernel
theorem dX2_shareBy_48 : decode cX2_shareBy 48 = .ok (.iload_n 3, 1) := by decide +kernel
theorem dX2_shareBy_49 : decode cX2_shareBy 49 = .ok (.ireturn, 1) := by decide +kernel
set_option maxHeartbeats 4000000 in
set_option maxRecDepth 100000 in
theorem c_X2_shareBy {l : Launch} {Y : ww_Y} {ad : Nat → Nat} {G : List ww_L} (o0 : Nat) (h0 : ww_at G o0 (ww_LShore o0)) (σ : ww_M) (p1 : Int32) (p2 : Int32) : ww_Cn l Y ad G yX2_shareBy cX2_shareBy 5 (some .int) 4 [.ref (ad o0), .int p1, .int p2] σ ((f_X2_shareBy σ o0 p1 p2).bind (ww_ri σ)) := by
  refine ww_met (by decide +kernel) (Nat.le_of_ble_eq_true rfl) ?_
  intro X hC hR
  have hC : ww_C X l Y ad G 4 cX2_shareBy 5 RX2 := hC
  show ww_V X Y ad G 5 σ 0 [(0, .ref (ad o0)), (1, .int p1), (2, .int p2)] [] ((f_X2_shareBy σ o0 p1 p2).bind (ww_ri σ))
  have hJ48 : ∀ (x3 : Int32), ww_V X Y ad G 5 σ 48 [(3, .int x3)] [] ((f_X2_shareBy_j48 σ o0 p1 p2 x3).bind (ww_ri σ)) := by
    intro x3
    unfold f_X2_shareBy_j48
    refine ww_iload_n (pc := 48) hC 0 rfl dX2_shareBy_48 rfl ?_
    exact ww_ireturn (pc := 49) hC hR dX2_shareBy_49 rfl
  have hJ5 : ∀ (x3 : Int32) (x4 : Int32), ww_V X Y ad G 5 σ 5 [(0, .ref (ad o0)), (1, .int p1), (2, .int p2), (3, .int x3), (4, .int x4)] [] ((f_X2_shareBy_j5 σ o0 p1 p2 x3 x4).bind (ww_ri σ)) := by
    intro x3 x4
    unfold f_X2_shareBy_j5
    refine ww_assoc ?_
    refine ww_loop (f := f_X2_shareBy_b5 σ o0 p1 p2) (fun a5 => σ) (fun a5 => [(0, .ref (ad o0)), (1, .int p1), (2, .int p2), (3, .int a5.1), (4, .int a5.2)]) (fun b5 => σ) (fun b5 => [(3, .int b5)]) 48 (fun b5 => ?_) (fun a5 KK5 hc5 hx5 => ?_) ww_F (x3, x4)
    · exact hJ48 b5
    · unfold f_X2_shareBy_b5
      refine ww_iload (pc := 5) hC 4 rfl dX2_shareBy_5 ?_
      refine ww_bipush (pc := 7) (v := 9) hC dX2_shareBy_7 rfl ?_
      refine ww_icmp_ge (pc := 9) (tgt := 48) hC dX2_shareBy_9 (by decide) ?_ ?_
      · refine ww_lv [3] rfl ?_
        exact hx5 a5.1
      · refine ww_aload_n (pc := 12) hC 0 rfl dX2_shareBy_12 rfl ?_
        refine ww_iload (pc := 13) hC 4 rfl dX2_shareBy_13 ?_
        refine ww_callVi (pc := 15) (st := []) (As := [.int a5.2]) hC (c_X2_hasSlot o0 h0 σ a5.2) mm_X2_hasSlot mw_580 (h0 0 _ rfl) rfl (by omega) (by decide) (Nat.le_of_ble_eq_true rfl) rfl dX2_shareBy_15 (fun v15 => ?_)
        refine ww_if_eq (pc := 18) (tgt := 42) hC dX2_shareBy_18 (by decide) ?_ ?_
        · refine ww_iinc (pc := 42) (v := a5.2 + 1) (lv' := [(4, .int (a5.2 + 1)), (0, .ref (ad o0)), (1, .int p1), (2, .int p2), (3, .int a5.1)]) hC 4 rfl dX2_shareBy_42 rfl (by decide) rfl ?_
          refine ww_goto (pc := 45) (tgt := 5) hC dX2_shareBy_45 (by decide) ?_
          refine ww_lv [1, 2, 3, 4, 0] rfl ?_
          exact hc5 (a5.1, a5.2 + 1)
        · refine ww_aload_n (pc := 21) hC 0 rfl dX2_shareBy_21 rfl ?_
          refine ww_iload (pc := 22) hC 4 rfl dX2_shareBy_22 ?_
          refine ww_iload_n (pc := 24) hC 2 rfl dX2_shareBy_24 rfl ?_
          refine ww_callVi (pc := 25) (st := []) (As := [.int a5.2, .int p2]) hC (c_X2_ownerBy o0 h0 σ a5.2 p2) mm_X2_ownerBy mw_648 (h0 0 _ rfl) rfl (by omega) (by decide) (Nat.le_of_ble_eq_true rfl) rfl dX2_shareBy_25 (fun v25 => ?_)
          refine ww_iload_n (pc := 28) hC 1 rfl dX2_shareBy_28 rfl ?_
          refine ww_icmp_ne (pc := 29) (tgt := 42) hC dX2_shareBy_29 (by decide) ?_ ?_
          · refine ww_iinc (pc := 42) (v := a5.2 + 1) (lv' := [(4, .int (a5.2 + 1)), (0, .ref (ad o0)), (1, .int p1), (2, .int p2), (3, .int a5.1)]) hC 4 rfl dX2_shareBy_42 rfl (by decide) rfl ?_
            refine ww_goto (pc := 45) (tgt := 5) hC dX2_shareBy_45 (by decide) ?_
            refine ww_lv [1, 2, 3, 4, 0] rfl ?_
            exact hc5 (a5.1, a5.2 + 1)
          · refine ww_iload_n (pc := 32) hC 3 rfl dX2_shareBy_32 rfl ?_
            refine ww_aload_n (pc := 33) hC 0 rfl dX2_shareBy_33 rfl ?_
            refine ww_getr (pc := 34) (Cl := RX2) (T := TX2) (N := 17) (j := 5) (ref := RX2) hC (h0 0 _ rfl) rfl inT_X2 (by decide) mw_150 rfl rfl dX2_shareBy_34 ?_
            refine ww_iload (pc := 37) hC 4 rfl dX2_shareBy_37 ?_
            refine ww_iald (pc := 39) hC (h0 6 _ rfl) dX2_shareBy_39 ?_
            refine ww_iadd (pc := 40) hC dX2_shareBy_40 ?_
            refine ww_istore_n (pc := 41) (lv' := [(3, .int (a5.1 + (σ (o0 + 6) (ww_ix a5.2)))), (0, .ref (ad o0)), (1, .int p1), (2, .int p2), (4, .int a5.2)]) hC dX2_shareBy_41 rfl (by decide) rfl ?_
            refine ww_iinc (pc := 42) (v := a5.2 + 1) (lv' := [(4, .int (a5.2 + 1)), (3, .int (a5.1 + (σ (o0 + 6) (ww_ix a5.2)))), (0, .ref (ad o0)), (1, .int p1), (2, .int p2)]) hC 4 rfl dX2_shareBy_42 rfl (by decide) rfl ?_
            refine ww_goto (pc := 45) (tgt := 5) hC dX2_shareBy_45 (by decide) ?_
            refine ww_lv [2, 3, 4, 1, 0] rfl ?_
            exact hc5 (a5.1 + (σ (o0 + 6) (ww_ix a5.2)), a5.2 + 1)
  unfold f_X2_shareBy
  refine ww_iconst (pc := 0) (v := 0) hC dX2_shareBy_0 rfl ?_
  refine ww_istore_n (pc := 1) (lv' := [(3, .int 0), (0, .ref (ad o0)), (1, .int p1), (2, .int p2)]) hC dX2_shareBy_1 rfl (by decide) rfl ?_
  refine ww_iconst (pc := 2) (v := 0) hC dX2_shareBy_2 rfl ?_
  refine ww_istore (pc := 3) (lv' := [(4, .int 0), (3, .int 0), (0, .ref (ad o0)), (1, .int p1), (2, .int p2)]) hC dX2_shareBy_3 (by decide) rfl ?_
  refine ww_lv [2, 3, 4, 1, 0] rfl ?_
  exact hJ5 0 0
theorem dX2_isUnknown_0 : decode cX2_isUnknown 0 = .ok (.iload_n 1, 1) := by decide +kernel
theorem dX2_isUnknown_1 : decode cX2_isUnknown 1 = .ok (.bipush (-4), 2) := by decide +kernel
theorem dX2_isUnknown_3 : decode cX2_isUnknown 3 = .ok (.if_icmp .eq 16, 3) := by decide +kernel
theorem dX2_isUnknown_6 : decode cX2_isUnknown 6 = .ok (.aload_n 0, 1) := by decide +kernel
theorem dX2_isUnknown_7 : decode cX2_isUnknown 7 = .ok (.iload_n 1, 1) := by decide +kernel
theorem dX2_isUnknown_8 : decode cX2_isUnknown 8 = .ok (.invokevirtual 140, 3) := by decide +kernel
theorem dX2_isUnknown_11 : decode cX2_isUnknown 11 = .ok (.iconst (-1), 1) := by decide +kernel
theorem dX2_isUnknown_12 : decode cX2_isUnknown 12 = .ok (.if_icmp .ne 7, 3) := by decide +kernel
theorem dX2_isUnknown_15 : decode cX2_isUnknown 15 = .ok (.iconst 1, 1) := by decide +kernel
theorem dX2_isUnknown_16 : decode cX2_isUnknown 16 = .ok (.goto 4, 3) := by decide +kernel
theorem dX2_isUnknown_19 : decode cX2_isUnknown 19 = .ok (.iconst 0, 1) := by decide +kernel
theorem dX2_isUnknown_20 : decode cX2_isUnknown 20 = .ok (.ireturn, 1) := by decide +kernel
set_option maxHeartbeats 4000000 in
set_option maxRecDepth 100000 in
theorem c_X2_isUnknown {l : Launch} {Y : ww_Y} {ad : Nat → Nat} {G : List ww_L} (o0 : Nat) (h0 : ww_at G o0 (ww_LShore o0)) (σ : ww_M) (p1 : Int32) : ww_Cn l Y ad G yX2_isUnknown cX2_isUnknown 2 (some .boolean) 4 [.ref (ad o0), .int p1] σ ((f_X2_isUnknown σ o0 p1).bind (ww_ri σ)) := by
  refine ww_met (by decide +kernel) (Nat.le_of_ble_eq_true rfl) ?_
  intro X hC hR
  have hC : ww_C X l Y ad G 4 cX2_isUnknown 2 RX2 := hC
  show ww_V X Y ad G 2 σ 0 [(0, .ref (ad o0)), (1, .int p1)] [] ((f_X2_isUnknown σ o0 p1).bind (ww_ri σ))
  unfold f_X2_isUnknown
  refine ww_iload_n (pc := 0) hC 1 rfl dX2_isUnknown_0 rfl ?_
  refine ww_bipush (pc := 1) (v := (-4)) hC dX2_isUnknown_1 rfl ?_
  refine ww_icmp_eq (pc := 3) (tgt := 19) hC dX2_isUnknown_3 (by decide) ?_ ?_
  · refine ww_iconst (pc := 19) (v := 0) hC dX2_isUnknown_19 rfl ?_
    exact ww_zreturn (pc := 20) hC hR dX2_isUnknown_20 rfl rfl
  · refine ww_aload_n (pc := 6) hC 0 rfl dX2_isUnknown_6 rfl ?_
    refine ww_iload_n (pc := 7) hC 1 rfl dX2_isUnknown_7 rfl ?_
    refine ww_callVi (pc := 8) (st := []) (As := [.int p1]) hC (c_X2_slotOf o0 h0 σ p1) mm_X2_slotOf mw_633 (h0 0 _ rfl) rfl (by omega) (by decide) (Nat.le_of_ble_eq_true rfl) rfl dX2_isUnknown_8 (fun v8 => ?_)
    refine ww_iconst (pc := 11) (v := (-1)) hC dX2_isUnknown_11 rfl ?_
    refine ww_icmp_ne (pc := 12) (tgt := 19) hC dX2_isUnknown_12 (by decide) ?_ ?_
    · refine ww_iconst (pc := 19) (v := 0) hC dX2_isUnknown_19 rfl ?_
      exact ww_zreturn (pc := 20) hC hR dX2_isUnknown_20 rfl rfl
    · refine ww_iconst (pc := 15) (v := 1) hC dX2_isUnknown_15 rfl ?_
      refine ww_goto (pc := 16) (tgt := 20) hC dX2_isUnknown_16 (by decide) ?_
      exact ww_zreturn (pc := 20) hC hR dX2_isUnknown_20 rfl rfl
theorem dX2_isBarred_0 : decode cX2_isBarred 0 = .ok (.iload_n 1, 1) := by decide +kernel
theorem dX2_isBarred_1 : decode cX2_isBarred 1 = .ok (.bipush (-4), 2) := by decide +kernel
theorem dX2_isBarred_3 : decode cX2_isBarred 3 = .ok (.if_icmp .eq 19, 3) := by decide +kernel
theorem dX2_isBarred_6 : decode cX2_isBarred 6 = .ok (.aload_n 0, 1) := by decide +kernel
theorem dX2_isBarred_7 : decode cX2_isBarred 7 = .ok (.aload_n 0, 1) := by decide +kernel
theorem dX2_isBarred_8 : decode cX2_isBarred 8 = .ok (.iload_n 1, 1) := by decide +kernel
theorem dX2_isBarred_9 : decode cX2_isBarred 9 = .ok (.invokevirtual 140, 3) := by decide +kernel
theorem dX2_isBarred_12 : decode cX2_isBarred 12 = .ok (.invokevirtual 125, 3) := by decide +kernel
theorem dX2_isBarred_15 : decode cX2_isBarred 15 = .ok (.ifCond .ne 7, 3) := by decide +kernel
theorem dX2_isBarred_18 : decode cX2_isBarred 18 = .ok (.iconst 1, 1) := by decide +kernel
theorem dX2_isBarred_19 : decode cX2_isBarred 19 = .ok (.goto 4, 3) := by decide +kernel
theorem dX2_isBarred_22 : decode cX2_isBarred 22 = .ok (.iconst 0, 1) := by decide +kernel
theorem dX2_isBarred_23 : decode cX2_isBarred 23 = .ok (.ireturn, 1) := by decide +kernel
set_option maxHeartbeats 4000000 in
set_option maxRecDepth 100000 in
theorem c_X2_isBarred {l : Launch} {Y : ww_Y} {ad : Nat → Nat} {G : List ww_L} (o0 : Nat) (h0 : ww_at G o0 (ww_LShore o0)) (σ : ww_M) (p1 : Int32) : ww_Cn l Y ad G yX2_isBarred cX2_isBarred 2 (some .boolean) 5 [.ref (ad o0), .int p1] σ ((f_X2_isBarred σ o0 p1).bind (ww_ri σ)) := by
  refine ww_met (by decide +kernel) (Nat.le_of_ble_eq_true rfl) ?_
  intro X hC hR
  have hC : ww_C X l Y ad G 5 cX2_isBarred 2 RX2 := hC
  show ww_V X Y ad G 2 σ 0 [(0, .ref (ad o0)), (1, .int p1)] [] ((f_X2_isBarred σ o0 p1).bind (ww_ri σ))
  unfold f_X2_isBarred
  refine ww_iload_n (pc := 0) hC 1 rfl dX2_isBarred_0 rfl ?_
  refine ww_bipush (pc := 1) (v := (-4)) hC dX2_isBarred_1 rfl ?_
  refine ww_icmp_eq (pc := 3) (tgt := 22) hC dX2_isBarred_3 (by decide) ?_ ?_
  · refine ww_iconst (pc := 22) (v := 0) hC dX2_isBarred_22 rfl ?_
    exact ww_zreturn (pc := 23) hC hR dX2_isBarred_23 rfl rfl
  · refine ww_aload_n (pc := 6) hC 0 rfl dX2_isBarred_6 rfl ?_
    refine ww_aload_n (pc := 7) hC 0 rfl dX2_isBarred_7 rfl ?_
    refine ww_iload_n (pc := 8) hC 1 rfl dX2_isBarred_8 rfl ?_
    refine ww_callVi (pc := 9) (st := [.ref (ad o0)]) (As := [.int p1]) hC (c_X2_slotOf o0 h0 σ p1) mm_X2_slotOf mw_633 (h0 0 _ rfl) rfl (by omega) (by decide) (Nat.le_of_ble_eq_true rfl) rfl dX2_isBarred_9 (fun v9 => ?_)
    refine ww_callVi (pc := 12) (st := []) (As := [.int v9]) hC (c_X2_canWork o0 h0 σ v9) mm_X2_canWork mw_638 (h0 0 _ rfl) rfl (by omega) (by decide) (Nat.le_of_ble_eq_true rfl) rfl dX2_isBarred_12 (fun v12 => ?_)
    refine ww_if_ne (pc := 15) (tgt := 22) hC dX2_isBarred_15 (by decide) ?_ ?_
    · refine ww_iconst (pc := 22) (v := 0) hC dX2_isBarred_22 rfl ?_
      exact ww_zreturn (pc := 23) hC hR dX2_isBarred_23 rfl rfl
    · refine ww_iconst (pc := 18) (v := 1) hC dX2_isBarred_18 rfl ?_
      refine ww_goto (pc := 19) (tgt := 23) hC dX2_isBarred_19 (by decide) ?_
      exact ww_zreturn (pc := 23) hC hR dX2_isBarred_23 rfl rfl
theorem dX2_refusal_0 : decode cX2_refusal 0 = .ok (.aload_n 0, 1) := by decide +kernel
theorem dX2_refusal_1 : decode cX2_refusal 1 = .ok (.iload_n 1, 1) := by decide +kernel
theorem dX2_refusal_2 : decode cX2_refusal 2 = .ok (.invokevirtual 134, 3) := by decide +kernel
theorem dX2_refusal_5 : decode cX2_refusal 5 = .ok (.ifCond .ne 36, 3) := by decide +kernel
theorem dX2_refusal_8 : decode cX2_refusal 8 = .ok (.aload_n 0, 1) := by decide +kernel
theorem dX2_refusal_9 : decode cX2_refusal 9 = .ok (.iload_n 2, 1) := by decide +kernel
theorem dX2_refusal_10 : decode cX2_refusal 10 = .ok (.invokevirtual 134, 3) := by decide +kernel
theorem dX2_refusal_13 : decode cX2_refusal 13 = .ok (.ifCond .ne 28, 3) := by decide +kernel
theorem dX2_refusal_16 : decode cX2_refusal 16 = .ok (.iload_n 1, 1) := by decide +kernel
theorem dX2_refusal_17 : decode cX2_refusal 17 = .ok (.bipush (-4), 2) := by decide +kernel
theorem dX2_refusal_19 : decode cX2_refusal 19 = .ok (.if_icmp .eq 8, 3) := by decide +kernel
theorem dX2_refusal_22 : decode cX2_refusal 22 = .ok (.iload_n 1, 1) := by decide +kernel
theorem dX2_refusal_23 : decode cX2_refusal 23 = .ok (.iload_n 2, 1) := by decide +kernel
theorem dX2_refusal_24 : decode cX2_refusal 24 = .ok (.if_icmp .eq 17, 3) := by decide +kernel
theorem dX2_refusal_27 : decode cX2_refusal 27 = .ok (.iload_n 2, 1) := by decide +kernel
theorem dX2_refusal_28 : decode cX2_refusal 28 = .ok (.bipush (-4), 2) := by decide +kernel
theorem dX2_refusal_30 : decode cX2_refusal 30 = .ok (.if_icmp .eq 13, 3) := by decide +kernel
theorem dX2_refusal_33 : decode cX2_refusal 33 = .ok (.aload_n 0, 1) := by decide +kernel
theorem dX2_refusal_34 : decode cX2_refusal 34 = .ok (.getfield 55, 3) := by decide +kernel
theorem dX2_refusal_37 : decode cX2_refusal 37 = .ok (.iconst 2, 1) := by decide +kernel
theorem dX2_refusal_38 : decode cX2_refusal 38 = .ok (.if_icmp .ge 5, 3) := by decide +kernel
theorem dX2_refusal_41 : decode cX2_refusal 41 = .ok (.iconst (-1), 1) := by decide +kernel
theorem dX2_refusal_42 : decode cX2_refusal 42 = .ok (.ireturn, 1) := by decide +kernel
theorem dX2_refusal_43 : decode cX2_refusal 43 = .ok (.aload_n 0, 1) := by decide +kernel
theorem dX2_refusal_44 : decode cX2_refusal 44 = .ok (.iload_n 1, 1) := by decide +kernel
theorem dX2_refusal_45 : decode cX2_refusal 45 = .ok (.invokevirtual 137, 3) := by decide +kernel
theorem dX2_refusal_48 : decode cX2_refusal 48 = .ok (.ifCond .ne 11, 3) := by decide +kernel
theorem dX2_refusal_51 : decode cX2_refusal 51 = .ok (.aload_n 0, 1) := by decide +kernel
theorem dX2_refusal_52 : decode cX2_refusal 52 = .ok (.iload_n 2, 1) := by decide +kernel
theorem dX2_refusal_53 : decode cX2_refusal 53 = .ok (.invokevirtual 137, 3) := by decide +kernel
theorem dX2_refusal_56 : decode cX2_refusal 56 = .ok (.ifCond .eq 6, 3) := by decide +kernel
theorem dX2_refusal_59 : decode cX2_refusal 59 = .ok (.bipush (-2), 2) := by decide +kernel
theorem dX2_refusal_61 : decode cX2_refusal 61 = .ok (.ireturn, 1) := by decide +kernel
theorem dX2_refusal_62 : decode cX2_refusal 62 = .ok (.aload_n 0, 1) := by decide +kernel
theorem dX2_refusal_63 : decode cX2_refusal 63 = .ok (.getfield 58, 3) := by decide +kernel
theorem dX2_refusal_66 : decode cX2_refusal 66 = .ok (.sipush 999, 3) := by decide +kernel
theorem dX2_refusal_69 : decode cX2_refusal 69 = .ok (.if_icmp .lt 8, 3) := by decide +kernel
theorem dX2_refusal_72 : decode cX2_refusal 72 = .ok (.bipush (-3), 2) := by decide +kernel
theorem dX2_refusal_74 : decode cX2_refusal 74 = .ok (.goto 4, 3) := by decide +kernel
theorem dX2_refusal_77 : decode cX2_refusal 77 = .ok (.iconst 0, 1) := by decide +kernel
theorem dX2_refusal_78 : decode cX2_refusal 78 = .ok (.ireturn, 1) := by decide +kernel
set_option maxHeartbeats 4000000 in
set_option maxRecDepth 100000 in
theorem c_X2_refusal {l : Launch} {Y : ww_Y} {ad : Nat → Nat} {G : List ww_L} (o0 : Nat) (h0 : ww_at G o0 (ww_LShore o0)) (σ : ww_M) (p1 : Int32) (p2 : Int32) : ww_Cn l Y ad G yX2_refusal cX2_refusal 3 (some .int) 6 [.ref (ad o0), .int p1, .int p2] σ ((f_X2_refusal σ o0 p1 p2).bind (ww_ri σ)) := by
  refine ww_met (by decide +kernel) (Nat.le_of_ble_eq_true rfl) ?_
  intro X hC hR
  have hC : ww_C X l Y ad G 6 cX2_refusal 3 RX2 := hC
  show ww_V X Y ad G 3 σ 0 [(0, .ref (ad o0)), (1, .int p1), (2, .int p2)] [] ((f_X2_refusal σ o0 p1 p2).bind (ww_ri σ))
  have hJ43 : ww_V X Y ad G 3 σ 43 [(0, .ref (ad o0)), (1, .int p1), (2, .int p2)] [] ((f_X2_refusal_j43 σ o0 p1 p2).bind (ww_ri σ)) := by
    unfold f_X2_refusal_j43
    refine ww_aload_n (pc := 43) hC 0 rfl dX2_refusal_43 rfl ?_
    refine ww_iload_n (pc := 44) hC 1 rfl dX2_refusal_44 rfl ?_
    refine ww_callVi (pc := 45) (st := []) (As := [.int p1]) hC (c_X2_isBarred o0 h0 σ p1) mm_X2_isBarred mw_634 (h0 0 _ rfl) rfl (by omega) (by decide) (Nat.le_of_ble_eq_true rfl) rfl dX2_refusal_45 (fun v45 => ?_)
    refine ww_if_ne (pc := 48) (tgt := 59) hC dX2_refusal_48 (by decide) ?_ ?_
    · refine ww_bipush (pc := 59) (v := (-2)) hC dX2_refusal_59 rfl ?_
      exact ww_ireturn (pc := 61) hC hR dX2_refusal_61 rfl
    · refine ww_aload_n (pc := 51) hC 0 rfl dX2_refusal_51 rfl ?_
      refine ww_iload_n (pc := 52) hC 2 rfl dX2_refusal_52 rfl ?_
      refine ww_callVi (pc := 53) (st := []) (As := [.int p2]) hC (c_X2_isBarred o0 h0 σ p2) mm_X2_isBarred mw_634 (h0 0 _ rfl) rfl (by omega) (by decide) (Nat.le_of_ble_eq_true rfl) rfl dX2_refusal_53 (fun v53 => ?_)
      refine ww_if_eq (pc := 56) (tgt := 62) hC dX2_refusal_56 (by decide) ?_ ?_
      · refine ww_aload_n (pc := 62) hC 0 rfl dX2_refusal_62 rfl ?_
        refine ww_geti (pc := 63) (Cl := RX2) (T := TX2) (N := 17) (j := 15) (ref := RX2) hC (h0 0 _ rfl) rfl inT_X2 (by decide) mw_178 rfl rfl dX2_refusal_63 ?_
        refine ww_sipush (pc := 66) (v := 999) hC dX2_refusal_66 rfl ?_
        refine ww_icmp_lt (pc := 69) (tgt := 77) hC dX2_refusal_69 (by decide) ?_ ?_
        · refine ww_iconst (pc := 77) (v := 0) hC dX2_refusal_77 rfl ?_
          exact ww_ireturn (pc := 78) hC hR dX2_refusal_78 rfl
        · refine ww_bipush (pc := 72) (v := (-3)) hC dX2_refusal_72 rfl ?_
          refine ww_goto (pc := 74) (tgt := 78) hC dX2_refusal_74 (by decide) ?_
          exact ww_ireturn (pc := 78) hC hR dX2_refusal_78 rfl
      · refine ww_bipush (pc := 59) (v := (-2)) hC dX2_refusal_59 rfl ?_
        exact ww_ireturn (pc := 61) hC hR dX2_refusal_61 rfl
  have hJ27 : ww_V X Y ad G 3 σ 27 [(0, .ref (ad o0)), (1, .int p1), (2, .int p2)] [] ((f_X2_refusal_j27 σ o0 p1 p2).bind (ww_ri σ)) := by
    unfold f_X2_refusal_j27
    refine ww_iload_n (pc := 27) hC 2 rfl dX2_refusal_27 rfl ?_
    refine ww_bipush (pc := 28) (v := (-4)) hC dX2_refusal_28 rfl ?_
    refine ww_icmp_eq (pc := 30) (tgt := 43) hC dX2_refusal_30 (by decide) ?_ ?_
    · exact hJ43
    · refine ww_aload_n (pc := 33) hC 0 rfl dX2_refusal_33 rfl ?_
      refine ww_geti (pc := 34) (Cl := RX2) (T := TX2) (N := 17) (j := 14) (ref := RX2) hC (h0 0 _ rfl) rfl inT_X2 (by decide) mw_174 rfl rfl dX2_refusal_34 ?_
      refine ww_iconst (pc := 37) (v := 2) hC dX2_refusal_37 rfl ?_
      refine ww_icmp_ge (pc := 38) (tgt := 43) hC dX2_refusal_38 (by decide) ?_ ?_
      · exact hJ43
      · refine ww_iconst (pc := 41) (v := (-1)) hC dX2_refusal_41 rfl ?_
        exact ww_ireturn (pc := 42) hC hR dX2_refusal_42 rfl
  unfold f_X2_refusal
  refine ww_aload_n (pc := 0) hC 0 rfl dX2_refusal_0 rfl ?_
  refine ww_iload_n (pc := 1) hC 1 rfl dX2_refusal_1 rfl ?_
  refine ww_callVi (pc := 2) (st := []) (As := [.int p1]) hC (c_X2_isUnknown o0 h0 σ p1) mm_X2_isUnknown mw_629 (h0 0 _ rfl) rfl (by omega) (by decide) (Nat.le_of_ble_eq_true rfl) rfl dX2_refusal_2 (fun v2 => ?_)
  refine ww_if_ne (pc := 5) (tgt := 41) hC dX2_refusal_5 (by decide) ?_ ?_
  · refine ww_iconst (pc := 41) (v := (-1)) hC dX2_refusal_41 rfl ?_
    exact ww_ireturn (pc := 42) hC hR dX2_refusal_42 rfl
  · refine ww_aload_n (pc := 8) hC 0 rfl dX2_refusal_8 rfl ?_
    refine ww_iload_n (pc := 9) hC 2 rfl dX2_refusal_9 rfl ?_
    refine ww_callVi (pc := 10) (st := []) (As := [.int p2]) hC (c_X2_isUnknown o0 h0 σ p2) mm_X2_isUnknown mw_629 (h0 0 _ rfl) rfl (by omega) (by decide) (Nat.le_of_ble_eq_true rfl) rfl dX2_refusal_10 (fun v10 => ?_)
    refine ww_if_ne (pc := 13) (tgt := 41) hC dX2_refusal_13 (by decide) ?_ ?_
    · refine ww_iconst (pc := 41) (v := (-1)) hC dX2_refusal_41 rfl ?_
      exact ww_ireturn (pc := 42) hC hR dX2_refusal_42 rfl
    · refine ww_iload_n (pc := 16) hC 1 rfl dX2_refusal_16 rfl ?_
      refine ww_bipush (pc := 17) (v := (-4)) hC dX2_refusal_17 rfl ?_
      refine ww_icmp_eq (pc := 19) (tgt := 27) hC dX2_refusal_19 (by decide) ?_ ?_
      · exact hJ27
      · refine ww_iload_n (pc := 22) hC 1 rfl dX2_refusal_22 rfl ?_
        refine ww_iload_n (pc := 23) hC 2 rfl dX2_refusal_23 rfl ?_
        refine ww_icmp_eq (pc := 24) (tgt := 41) hC dX2_refusal_24 (by decide) ?_ ?_
        · refine ww_iconst (pc := 41) (v := (-1)) hC dX2_refusal_41 rfl ?_
          exact ww_ireturn (pc := 42) hC hR dX2_refusal_42 rfl
        · exact hJ27
theorem dX2_workAt_0 : decode cX2_workAt 0 = .ok (.aload_n 0, 1) := by decide +kernel
theorem dX2_workAt_1 : decode cX2_workAt 1 = .ok (.iload_n 1, 1) := by decide +kernel
theorem dX2_workAt_2 : decode cX2_workAt 2 = .ok (.invokevirtual 119, 3) := by decide +kernel
theorem dX2_workAt_5 : decode cX2_workAt 5 = .ok (.ifCond .ne 5, 3) := by decide +kernel
theorem dX2_workAt_8 : decode cX2_workAt 8 = .ok (.iconst 0, 1) := by decide +kernel
theorem dX2_workAt_9 : decode cX2_workAt 9 = .ok (.ireturn, 1) := by decide +kernel
theorem dX2_workAt_10 : decode cX2_workAt 10 = .ok (.aload_n 0, 1) := by decide +kernel
theorem dX2_workAt_11 : decode cX2_workAt 11 = .ok (.getfield 30, 3) := by decide +kernel
theorem dX2_workAt_14 : decode cX2_workAt 14 = .ok (.iload_n 1, 1) := by decide +kernel
theorem dX2_workAt_15 : decode cX2_workAt 15 = .ok (.dup2, 1) := by decide +kernel
theorem dX2_workAt_16 : decode cX2_workAt 16 = .ok (.iaload, 1) := by decide +kernel
theorem dX2_workAt_17 : decode cX2_workAt 17 = .ok (.iconst 1, 1) := by decide +kernel
theorem dX2_workAt_18 : decode cX2_workAt 18 = .ok (.isub, 1) := by decide +kernel
theorem dX2_workAt_19 : decode cX2_workAt 19 = .ok (.iastore, 1) := by decide +kernel
theorem dX2_workAt_20 : decode cX2_workAt 20 = .ok (.aload_n 0, 1) := by decide +kernel
theorem dX2_workAt_21 : decode cX2_workAt 21 = .ok (.getfield 30, 3) := by decide +kernel
theorem dX2_workAt_24 : decode cX2_workAt 24 = .ok (.iload_n 1, 1) := by decide +kernel
theorem dX2_workAt_25 : decode cX2_workAt 25 = .ok (.iaload, 1) := by decide +kernel
theorem dX2_workAt_26 : decode cX2_workAt 26 = .ok (.ifCond .le 5, 3) := by decide +kernel
theorem dX2_workAt_29 : decode cX2_workAt 29 = .ok (.iconst 0, 1) := by decide +kernel
theorem dX2_workAt_30 : decode cX2_workAt 30 = .ok (.ireturn, 1) := by decide +kernel
theorem dX2_workAt_31 : decode cX2_workAt 31 = .ok (.aload_n 0, 1) := by decide +kernel
theorem dX2_workAt_32 : decode cX2_workAt 32 = .ok (.iload_n 1, 1) := by decide +kernel
theorem dX2_workAt_33 : decode cX2_workAt 33 = .ok (.aload_n 0, 1) := by decide +kernel
theorem dX2_workAt_34 : decode cX2_workAt 34 = .ok (.getfield 58, 3) := by decide +kernel
theorem dX2_workAt_37 : decode cX2_workAt 37 = .ok (.aload_n 0, 1) := by decide +kernel
theorem dX2_workAt_38 : decode cX2_workAt 38 = .ok (.getfield 52, 3) := by decide +kernel
theorem dX2_workAt_41 : decode cX2_workAt 41 = .ok (.invokevirtual 149, 3) := by decide +kernel
theorem dX2_workAt_44 : decode cX2_workAt 44 = .ok (.istore_n 2, 1) := by decide +kernel
theorem dX2_workAt_45 : decode cX2_workAt 45 = .ok (.aload_n 0, 1) := by decide +kernel
theorem dX2_workAt_46 : decode cX2_workAt 46 = .ok (.getfield 36, 3) := by decide +kernel
theorem dX2_workAt_49 : decode cX2_workAt 49 = .ok (.aload_n 0, 1) := by decide +kernel
theorem dX2_workAt_50 : decode cX2_workAt 50 = .ok (.iload_n 1, 1) := by decide +kernel
theorem dX2_workAt_51 : decode cX2_workAt 51 = .ok (.aload_n 0, 1) := by decide +kernel
theorem dX2_workAt_52 : decode cX2_workAt 52 = .ok (.getfield 49, 3) := by decide +kernel
theorem dX2_workAt_55 : decode cX2_workAt 55 = .ok (.invokevirtual 131, 3) := by decide +kernel
theorem dX2_workAt_58 : decode cX2_workAt 58 = .ok (.dup2, 1) := by decide +kernel
theorem dX2_workAt_59 : decode cX2_workAt 59 = .ok (.iaload, 1) := by decide +kernel
theorem dX2_workAt_60 : decode cX2_workAt 60 = .ok (.iload_n 2, 1) := by decide +kernel
theorem dX2_workAt_61 : decode cX2_workAt 61 = .ok (.iadd, 1) := by decide +kernel
theorem dX2_workAt_62 : decode cX2_workAt 62 = .ok (.iastore, 1) := by decide +kernel
theorem dX2_workAt_63 : decode cX2_workAt 63 = .ok (.iload_n 2, 1) := by decide +kernel
theorem dX2_workAt_64 : decode cX2_workAt 64 = .ok (.ireturn, 1) := by decide +kernel
set_option maxHeartbeats 4000000 in
set_option maxRecDepth 100000 in
theorem c_X2_workAt {l : Launch} {Y : ww_Y} {ad : Nat → Nat} {G : List ww_L} (o0 : Nat) (h0 : ww_at G o0 (ww_LShore o0)) (σ : ww_M) (p1 : Int32) : ww_Cn l Y ad G yX2_workAt cX2_workAt 3 (some .int) 4 [.ref (ad o0), .int p1] σ ((f_X2_workAt σ o0 p1).bind ww_rw) := by
  refine ww_met (by decide +kernel) (Nat.le_of_ble_eq_true rfl) ?_
  intro X hC hR
  have hC : ww_C X l Y ad G 4 cX2_workAt 3 RX2 := hC
  show ww_V X Y ad G 3 σ 0 [(0, .ref (ad o0)), (1, .int p1)] [] ((f_X2_workAt σ o0 p1).bind ww_rw)
  unfold f_X2_workAt
  refine ww_aload_n (pc := 0) hC 0 rfl dX2_workAt_0 rfl ?_
  refine ww_iload_n (pc := 1) hC 1 rfl dX2_workAt_1 rfl ?_
  refine ww_callVi (pc := 2) (st := []) (As := [.int p1]) hC (c_X2_hasSlot o0 h0 σ p1) mm_X2_hasSlot mw_580 (h0 0 _ rfl) rfl (by omega) (by decide) (Nat.le_of_ble_eq_true rfl) rfl dX2_workAt_2 (fun v2 => ?_)
  refine ww_if_ne (pc := 5) (tgt := 10) hC dX2_workAt_5 (by decide) ?_ ?_
  · refine ww_aload_n (pc := 10) hC 0 rfl dX2_workAt_10 rfl ?_
    refine ww_getr (pc := 11) (Cl := RX2) (T := TX2) (N := 17) (j := 6) (ref := RX2) hC (h0 0 _ rfl) rfl inT_X2 (by decide) mw_152 rfl rfl dX2_workAt_11 ?_
    refine ww_iload_n (pc := 14) hC 1 rfl dX2_workAt_14 rfl ?_
    refine ww_dup2 (pc := 15) hC dX2_workAt_15 rfl rfl ?_
    refine ww_iald (pc := 16) hC (h0 7 _ rfl) dX2_workAt_16 ?_
    refine ww_iconst (pc := 17) (v := 1) hC dX2_workAt_17 rfl ?_
    refine ww_isub (pc := 18) hC dX2_workAt_18 ?_
    refine ww_iast (pc := 19) hC (h0 7 _ rfl) dX2_workAt_19 ?_
    refine ww_aload_n (pc := 20) hC 0 rfl dX2_workAt_20 rfl ?_
    refine ww_getr (pc := 21) (Cl := RX2) (T := TX2) (N := 17) (j := 6) (ref := RX2) hC (h0 0 _ rfl) rfl inT_X2 (by decide) mw_152 rfl rfl dX2_workAt_21 ?_
    refine ww_iload_n (pc := 24) hC 1 rfl dX2_workAt_24 rfl ?_
    refine ww_iald (pc := 25) hC (h0 7 _ rfl) dX2_workAt_25 ?_
    refine ww_if_le (pc := 26) (tgt := 31) hC dX2_workAt_26 (by decide) ?_ ?_
    · refine ww_aload_n (pc := 31) hC 0 rfl dX2_workAt_31 rfl ?_
      refine ww_iload_n (pc := 32) hC 1 rfl dX2_workAt_32 rfl ?_
      refine ww_aload_n (pc := 33) hC 0 rfl dX2_workAt_33 rfl ?_
      refine ww_geti (pc := 34) (Cl := RX2) (T := TX2) (N := 17) (j := 15) (ref := RX2) hC (h0 0 _ rfl) rfl inT_X2 (by decide) mw_178 rfl rfl dX2_workAt_34 ?_
      refine ww_aload_n (pc := 37) hC 0 rfl dX2_workAt_37 rfl ?_
      refine ww_geti (pc := 38) (Cl := RX2) (T := TX2) (N := 17) (j := 13) (ref := RX2) hC (h0 0 _ rfl) rfl inT_X2 (by decide) mw_171 rfl rfl dX2_workAt_38 ?_
      refine ww_callVi (pc := 41) (st := []) (As := [.int p1, .int ((ww_up σ (o0 + 7) (ww_ix p1) ((σ (o0 + 7) (ww_ix p1)) - 1)) o0 15), .int ((ww_up σ (o0 + 7) (ww_ix p1) ((σ (o0 + 7) (ww_ix p1)) - 1)) o0 13)]) hC (c_X2_worthIn o0 h0 (ww_up σ (o0 + 7) (ww_ix p1) ((σ (o0 + 7) (ww_ix p1)) - 1)) p1 ((ww_up σ (o0 + 7) (ww_ix p1) ((σ (o0 + 7) (ww_ix p1)) - 1)) o0 15) ((ww_up σ (o0 + 7) (ww_ix p1) ((σ (o0 + 7) (ww_ix p1)) - 1)) o0 13)) mm_X2_worthIn mw_647 (h0 0 _ rfl) rfl (by omega) (by decide) (Nat.le_of_ble_eq_true rfl) rfl dX2_workAt_41 (fun v41 => ?_)
      refine ww_istore_n (pc := 44) (lv' := [(2, .int v41), (0, .ref (ad o0)), (1, .int p1)]) hC dX2_workAt_44 rfl (by decide) rfl ?_
      refine ww_aload_n (pc := 45) hC 1 rfl dX2_workAt_45 rfl ?_
      refine ww_getr (pc := 46) (Cl := RX2) (T := TX2) (N := 17) (j := 8) (ref := RX2) hC (h0 0 _ rfl) rfl inT_X2 (by decide) mw_157 rfl rfl dX2_workAt_46 ?_
      refine ww_aload_n (pc := 49) hC 1 rfl dX2_workAt_49 rfl ?_
      refine ww_iload_n (pc := 50) hC 2 rfl dX2_workAt_50 rfl ?_
      refine ww_aload_n (pc := 51) hC 1 rfl dX2_workAt_51 rfl ?_
      refine ww_geti (pc := 52) (Cl := RX2) (T := TX2) (N := 17) (j := 12) (ref := RX2) hC (h0 0 _ rfl) rfl inT_X2 (by decide) mw_168 rfl rfl dX2_workAt_52 ?_
      refine ww_callVi (pc := 55) (st := [.ref (ad (o0 + 9))]) (As := [.int p1, .int ((ww_up σ (o0 + 7) (ww_ix p1) ((σ (o0 + 7) (ww_ix p1)) - 1)) o0 12)]) hC (c_X2_ownerBy o0 h0 (ww_up σ (o0 + 7) (ww_ix p1) ((σ (o0 + 7) (ww_ix p1)) - 1)) p1 ((ww_up σ (o0 + 7) (ww_ix p1) ((σ (o0 + 7) (ww_ix p1)) - 1)) o0 12)) mm_X2_ownerBy mw_648 (h0 0 _ rfl) rfl (by omega) (by decide) (Nat.le_of_ble_eq_true rfl) rfl dX2_workAt_55 (fun v55 => ?_)
      refine ww_dup2 (pc := 58) hC dX2_workAt_58 rfl rfl ?_
      refine ww_iald (pc := 59) hC (h0 9 _ rfl) dX2_workAt_59 ?_
      refine ww_iload_n (pc := 60) hC 0 rfl dX2_workAt_60 rfl ?_
      refine ww_iadd (pc := 61) hC dX2_workAt_61 ?_
      refine ww_iast (pc := 62) hC (h0 9 _ rfl) dX2_workAt_62 ?_
      refine ww_iload_n (pc := 63) hC 0 rfl dX2_workAt_63 rfl ?_
      exact ww_ireturn (pc := 64) hC hR dX2_workAt_64 rfl
    · refine ww_iconst (pc := 29) (v := 0) hC dX2_workAt_29 rfl ?_
      exact ww_ireturn (pc := 30) hC hR dX2_workAt_30 rfl
  · refine ww_iconst (pc := 8) (v := 0) hC dX2_workAt_8 rfl ?_
    exact ww_ireturn (pc := 9) hC hR dX2_workAt_9 rfl
theorem dX2_hourGoes_0 : decode cX2_hourGoes 0 = .ok (.aload_n 0, 1) := by decide +kernel
theorem dX2_hourGoes_1 : decode cX2_hourGoes 1 = .ok (.iload_n 1, 1) := by decide +kernel
theorem dX2_hourGoes_2 : decode cX2_hourGoes 2 = .ok (.invokevirtual 143, 3) := by decide +kernel
theorem dX2_hourGoes_5 : decode cX2_hourGoes 5 = .ok (.aload_n 0, 1) := by decide +kernel
theorem dX2_hourGoes_6 : decode cX2_hourGoes 6 = .ok (.iload_n 2, 1) := by decide +kernel
theorem dX2_hourGoes_7 : decode cX2_hourGoes 7 = .ok (.invokevirtual 143, 3) := by decide +kernel
theorem dX2_hourGoes_10 : decode cX2_hourGoes 10 = .ok (.iadd, 1) := by decide +kernel
theorem dX2_hourGoes_11 : decode cX2_hourGoes 11 = .ok (.istore_n 3, 1) := by decide +kernel
theorem dX2_hourGoes_12 : decode cX2_hourGoes 12 = .ok (.aload_n 0, 1) := by decide +kernel
theorem dX2_hourGoes_13 : decode cX2_hourGoes 13 = .ok (.dup, 1) := by decide +kernel
theorem dX2_hourGoes_14 : decode cX2_hourGoes 14 = .ok (.getfield 58, 3) := by decide +kernel
theorem dX2_hourGoes_17 : decode cX2_hourGoes 17 = .ok (.iconst 1, 1) := by decide +kernel
theorem dX2_hourGoes_18 : decode cX2_hourGoes 18 = .ok (.iadd, 1) := by decide +kernel
theorem dX2_hourGoes_19 : decode cX2_hourGoes 19 = .ok (.putfield 58, 3) := by decide +kernel
theorem dX2_hourGoes_22 : decode cX2_hourGoes 22 = .ok (.aload_n 0, 1) := by decide +kernel
theorem dX2_hourGoes_23 : decode cX2_hourGoes 23 = .ok (.invokevirtual 146, 3) := by decide +kernel
theorem dX2_hourGoes_26 : decode cX2_hourGoes 26 = .ok (.iload_n 3, 1) := by decide +kernel
theorem dX2_hourGoes_27 : decode cX2_hourGoes 27 = .ok (.ireturn, 1) := by decide +kernel
set_option maxHeartbeats 4000000 in
set_option maxRecDepth 100000 in
theorem c_X2_hourGoes {l : Launch} {Y : ww_Y} {ad : Nat → Nat} {G : List ww_L} (o0 : Nat) (h0 : ww_at G o0 (ww_LShore o0)) (σ : ww_M) (p1 : Int32) (p2 : Int32) : ww_Cn l Y ad G yX2_hourGoes cX2_hourGoes 4 (some .int) 6 [.ref (ad o0), .int p1, .int p2] σ ((f_X2_hourGoes σ o0 p1 p2).bind ww_rw) := by
  refine ww_met (by decide +kernel) (Nat.le_of_ble_eq_true rfl) ?_
  intro X hC hR
  have hC : ww_C X l Y ad G 6 cX2_hourGoes 4 RX2 := hC
  show ww_V X Y ad G 4 σ 0 [(0, .ref (ad o0)), (1, .int p1), (2, .int p2)] [] ((f_X2_hourGoes σ o0 p1 p2).bind ww_rw)
  unfold f_X2_hourGoes
  refine ww_aload_n (pc := 0) hC 0 rfl dX2_hourGoes_0 rfl ?_
  refine ww_iload_n (pc := 1) hC 1 rfl dX2_hourGoes_1 rfl ?_
  refine ww_callVw (pc := 2) (st := []) (As := [.int p1]) hC (c_X2_workAt o0 h0 σ p1) mm_X2_workAt mw_643 (h0 0 _ rfl) rfl (by omega) (by decide) (Nat.le_of_ble_eq_true rfl) rfl dX2_hourGoes_2 (fun v2 => ?_)
  refine ww_aload_n (pc := 5) hC 0 rfl dX2_hourGoes_5 rfl ?_
  refine ww_iload_n (pc := 6) hC 2 rfl dX2_hourGoes_6 rfl ?_
  refine ww_callVw (pc := 7) (st := [.int v2.1]) (As := [.int p2]) hC (c_X2_workAt o0 h0 v2.2 p2) mm_X2_workAt mw_643 (h0 0 _ rfl) rfl (by omega) (by decide) (Nat.le_of_ble_eq_true rfl) rfl dX2_hourGoes_7 (fun v7 => ?_)
  refine ww_iadd (pc := 10) hC dX2_hourGoes_10 ?_
  refine ww_istore_n (pc := 11) (lv' := [(3, .int (v2.1 + v7.1)), (0, .ref (ad o0)), (1, .int p1), (2, .int p2)]) hC dX2_hourGoes_11 rfl (by decide) rfl ?_
  refine ww_aload_n (pc := 12) hC 1 rfl dX2_hourGoes_12 rfl ?_
  refine ww_dup (pc := 13) hC dX2_hourGoes_13 rfl ?_
  refine ww_geti (pc := 14) (Cl := RX2) (T := TX2) (N := 17) (j := 15) (ref := RX2) hC (h0 0 _ rfl) rfl inT_X2 (by decide) mw_178 rfl rfl dX2_hourGoes_14 ?_
  refine ww_iconst (pc := 17) (v := 1) hC dX2_hourGoes_17 rfl ?_
  refine ww_iadd (pc := 18) hC dX2_hourGoes_18 ?_
  refine ww_puti (pc := 19) (Cl := RX2) (T := TX2) (N := 17) (j := 15) (ref := RX2) hC (h0 0 _ rfl) rfl inT_X2 (by decide) mw_178 rfl tyX2 tyX2_ok nmX2 rfl rfl (tyX2_ok 15 (by decide)) dX2_hourGoes_19 ?_
  refine ww_aload_n (pc := 22) hC 1 rfl dX2_hourGoes_22 rfl ?_
  refine ww_callVv (pc := 23) (st := []) (As := []) hC (c_X2_loseFloating o0 h0 (ww_up v7.2 o0 15 ((v7.2 o0 15) + 1))) mm_X2_loseFloating mw_649 (h0 0 _ rfl) rfl (by omega) (by decide) (Nat.le_of_ble_eq_true rfl) rfl dX2_hourGoes_23 (fun v23 => ?_)
  refine ww_iload_n (pc := 26) hC 0 rfl dX2_hourGoes_26 rfl ?_
  exact ww_ireturn (pc := 27) hC hR dX2_hourGoes_27 rfl
theorem dJ6_bitCount_0f7a4_0 : decode cJ6_bitCount_0f7a4 0 = .ok (.iload_n 0, 1) := by decide +kernel
theorem dJ6_bitCount_0f7a4_1 : decode cJ6_bitCount_0f7a4 1 = .ok (.iload_n 0, 1) := by decide +kernel
theorem dJ6_bitCount_0f7a4_2 : decode cJ6_bitCount_0f7a4 2 = .ok (.iconst 1, 1) := by decide +kernel
theorem dJ6_bitCount_0f7a4_3 : decode cJ6_bitCount_0f7a4 3 = .ok (.iushr, 1) := by decide +kernel
theorem dJ6_bitCount_0f7a4_4 : decode cJ6_bitCount_0f7a4 4 = .ok (.ldc_w 265, 3) := by decide +kernel
theorem dJ6_bitCount_0f7a4_7 : decode cJ6_bitCount_0f7a4 7 = .ok (.iand, 1) := by decide +kernel
theorem dJ6_bitCount_0f7a4_8 : decode cJ6_bitCount_0f7a4 8 = .ok (.isub, 1) := by decide +kernel
theorem dJ6_bitCount_0f7a4_9 : decode cJ6_bitCount_0f7a4 9 = .ok (.istore_n 0, 1) := by decide +kernel
theorem dJ6_bitCount_0f7a4_10 : decode cJ6_bitCount_0f7a4 10 = .ok (.iload_n 0, 1) := by decide +kernel
theorem dJ6_bitCount_0f7a4_11 : decode cJ6_bitCount_0f7a4 11 = .ok (.ldc_w 266, 3) := by decide +kernel
theorem dJ6_bitCount_0f7a4_14 : decode cJ6_bitCount_0f7a4 14 = .ok (.iand, 1) := by decide +kernel
theorem dJ6_bitCount_0f7a4_15 : decode cJ6_bitCount_0f7a4 15 = .ok (.iload_n 0, 1) := by decide +kernel
theorem dJ6_bitCount_0f7a4_16 : decode cJ6_bitCount_0f7a4 16 = .ok (.iconst 2, 1) := by decide +kernel
theorem dJ6_bitCount_0f7a4_17 : decode cJ6_bitCount_0f7a4 17 = .ok (.iushr, 1) := by decide +kernel
theorem dJ6_bitCount_0f7a4_18 : decode cJ6_bitCount_0f7a4 18 = .ok (.ldc_w 266, 3) := by decide +kernel
theorem dJ6_bitCount_0f7a4_21 : decode cJ6_bitCount_0f7a4 21 = .ok (.iand, 1) := by decide +kernel
theorem dJ6_bitCount_0f7a4_22 : decode cJ6_bitCount_0f7a4 22 = .ok (.iadd, 1) := by decide +kernel
theorem dJ6_bitCount_0f7a4_23 : decode cJ6_bitCount_0f7a4 23 = .ok (.istore_n 0, 1) := by decide +kernel
theorem dJ6_bitCount_0f7a4_24 : decode cJ6_bitCount_0f7a4 24 = .ok (.iload_n 0, 1) := by decide +kernel
theorem dJ6_bitCount_0f7a4_25 : decode cJ6_bitCount_0f7a4 25 = .ok (.iload_n 0, 1) := by decide +kernel
theorem dJ6_bitCount_0f7a4_26 : decode cJ6_bitCount_0f7a4 26 = .ok (.iconst 4, 1) := by decide +kernel
theorem dJ6_bitCount_0f7a4_27 : decode cJ6_bitCount_0f7a4 27 = .ok (.iushr, 1) := by decide +kernel
theorem dJ6_bitCount_0f7a4_28 : decode cJ6_bitCount_0f7a4 28 = .ok (.iadd, 1) := by decide +kernel
theorem dJ6_bitCount_0f7a4_29 : decode cJ6_bitCount_0f7a4 29 = .ok (.ldc_w 267, 3) := by decide +kernel
theorem dJ6_bitCount_0f7a4_32 : decode cJ6_bitCount_0f7a4 32 = .ok (.iand, 1) := by decide +kernel
theorem dJ6_bitCount_0f7a4_33 : decode cJ6_bitCount_0f7a4 33 = .ok (.istore_n 0, 1) := by decide +kernel
theorem dJ6_bitCount_0f7a4_34 : decode cJ6_bitCount_0f7a4 34 = .ok (.iload_n 0, 1) := by decide +kernel
theorem dJ6_bitCount_0f7a4_35 : decode cJ6_bitCount_0f7a4 35 = .ok (.iload_n 0, 1) := by decide +kernel
theorem dJ6_bitCount_0f7a4_36 : decode cJ6_bitCount_0f7a4 36 = .ok (.bipush 8, 2) := by decide +kernel
theorem dJ6_bitCount_0f7a4_38 : decode cJ6_bitCount_0f7a4 38 = .ok (.iushr, 1) := by decide +kernel
theorem dJ6_bitCount_0f7a4_39 : decode cJ6_bitCount_0f7a4 39 = .ok (.iadd, 1) := by decide +kernel
theorem dJ6_bitCount_0f7a4_40 : decode cJ6_bitCount_0f7a4 40 = .ok (.istore_n 0, 1) := by decide +kernel
theorem dJ6_bitCount_0f7a4_41 : decode cJ6_bitCount_0f7a4 41 = .ok (.iload_n 0, 1) := by decide +kernel
theorem dJ6_bitCount_0f7a4_42 : decode cJ6_bitCount_0f7a4 42 = .ok (.iload_n 0, 1) := by decide +kernel
theorem dJ6_bitCount_0f7a4_43 : decode cJ6_bitCount_0f7a4 43 = .ok (.bipush 16, 2) := by decide +kernel
theorem dJ6_bitCount_0f7a4_45 : decode cJ6_bitCount_0f7a4 45 = .ok (.iushr, 1) := by decide +kernel
theorem dJ6_bitCount_0f7a4_46 : decode cJ6_bitCount_0f7a4 46 = .ok (.iadd, 1) := by decide +kernel
theorem dJ6_bitCount_0f7a4_47 : decode cJ6_bitCount_0f7a4 47 = .ok (.istore_n 0, 1) := by decide +kernel
theorem dJ6_bitCount_0f7a4_48 : decode cJ6_bitCount_0f7a4 48 = .ok (.iload_n 0, 1) := by decide +kernel
theorem dJ6_bitCount_0f7a4_49 : decode cJ6_bitCount_0f7a4 49 = .ok (.bipush 63, 2) := by decide +kernel
theorem dJ6_bitCount_0f7a4_51 : decode cJ6_bitCount_0f7a4 51 = .ok (.iand, 1) := by decide +kernel
theorem dJ6_bitCount_0f7a4_52 : decode cJ6_bitCount_0f7a4 52 = .ok (.ireturn, 1) := by decide +kernel
set_option maxHeartbeats 4000000 in
set_option maxRecDepth 100000 in
theorem c_J6_bitCount_0f7a4 {l : Launch} {Y : ww_Y} {ad : Nat → Nat} {G : List ww_L} (σ : ww_M) (p0 : Int32) : ww_Cn l Y ad G yJ6_bitCount_0f7a4 cJ6_bitCount_0f7a4 1 (some .int) 1 [.int p0] σ ((f_J6_bitCount_0f7a4 p0).bind (ww_ri σ)) := by
  refine ww_met (by decide +kernel) (Nat.le_of_ble_eq_true rfl) ?_
  intro X hC hR
  have hC : ww_C X l Y ad G 1 cJ6_bitCount_0f7a4 1 RJ6 := hC
  show ww_V X Y ad G 1 σ 0 [(0, .int p0)] [] ((f_J6_bitCount_0f7a4 p0).bind (ww_ri σ))
  unfold f_J6_bitCount_0f7a4
  refine ww_iload_n (pc := 0) hC 0 rfl dJ6_bitCount_0f7a4_0 rfl ?_
  refine ww_iload_n (pc := 1) hC 0 rfl dJ6_bitCount_0f7a4_1 rfl ?_
  refine ww_iconst (pc := 2) (v := 1) hC dJ6_bitCount_0f7a4_2 rfl ?_
  refine ww_iushr (pc := 3) hC dJ6_bitCount_0f7a4_3 ?_
  refine ww_ldcw (pc := 4) hC dJ6_bitCount_0f7a4_4 mw_709 ?_
  refine ww_iand (pc := 7) hC dJ6_bitCount_0f7a4_7 ?_
  refine ww_isub (pc := 8) hC dJ6_bitCount_0f7a4_8 ?_
  refine ww_istore_n (pc := 9) (lv' := [(0, .int (p0 - ((ww_ushr p0 1) &&& 1431655765)))]) hC dJ6_bitCount_0f7a4_9 rfl (by decide) rfl ?_
  refine ww_iload_n (pc := 10) hC 0 rfl dJ6_bitCount_0f7a4_10 rfl ?_
  refine ww_ldcw (pc := 11) hC dJ6_bitCount_0f7a4_11 mw_710 ?_
  refine ww_iand (pc := 14) hC dJ6_bitCount_0f7a4_14 ?_
  refine ww_iload_n (pc := 15) hC 0 rfl dJ6_bitCount_0f7a4_15 rfl ?_
  refine ww_iconst (pc := 16) (v := 2) hC dJ6_bitCount_0f7a4_16 rfl ?_
  refine ww_iushr (pc := 17) hC dJ6_bitCount_0f7a4_17 ?_
  refine ww_ldcw (pc := 18) hC dJ6_bitCount_0f7a4_18 mw_710 ?_
  refine ww_iand (pc := 21) hC dJ6_bitCount_0f7a4_21 ?_
  refine ww_iadd (pc := 22) hC dJ6_bitCount_0f7a4_22 ?_
  refine ww_istore_n (pc := 23) (lv' := [(0, .int (((p0 - ((ww_ushr p0 1) &&& 1431655765)) &&& 858993459) + ((ww_ushr (p0 - ((ww_ushr p0 1) &&& 1431655765)) 2) &&& 858993459)))]) hC dJ6_bitCount_0f7a4_23 rfl (by decide) rfl ?_
  refine ww_iload_n (pc := 24) hC 0 rfl dJ6_bitCount_0f7a4_24 rfl ?_
  refine ww_iload_n (pc := 25) hC 0 rfl dJ6_bitCount_0f7a4_25 rfl ?_
  refine ww_iconst (pc := 26) (v := 4) hC dJ6_bitCount_0f7a4_26 rfl ?_
  refine ww_iushr (pc := 27) hC dJ6_bitCount_0f7a4_27 ?_
  refine ww_iadd (pc := 28) hC dJ6_bitCount_0f7a4_28 ?_
  refine ww_ldcw (pc := 29) hC dJ6_bitCount_0f7a4_29 mw_711 ?_
  refine ww_iand (pc := 32) hC dJ6_bitCount_0f7a4_32 ?_
  refine ww_istore_n (pc := 33) (lv' := [(0, .int (((((p0 - ((ww_ushr p0 1) &&& 1431655765)) &&& 858993459) + ((ww_ushr (p0 - ((ww_ushr p0 1) &&& 1431655765)) 2) &&& 858993459)) + (ww_ushr (((p0 - ((ww_ushr p0 1) &&& 1431655765)) &&& 858993459) + ((ww_ushr (p0 - ((ww_ushr p0 1) &&& 1431655765)) 2) &&& 858993459)) 4)) &&& 252645135))]) hC dJ6_bitCount_0f7a4_33 rfl (by decide) rfl ?_
  refine ww_iload_n (pc := 34) hC 0 rfl dJ6_bitCount_0f7a4_34 rfl ?_
  refine ww_iload_n (pc := 35) hC 0 rfl dJ6_bitCount_0f7a4_35 rfl ?_
  refine ww_bipush (pc := 36) (v := 8) hC dJ6_bitCount_0f7a4_36 rfl ?_
  refine ww_iushr (pc := 38) hC dJ6_bitCount_0f7a4_38 ?_
  refine ww_iadd (pc := 39) hC dJ6_bitCount_0f7a4_39 ?_
  refine ww_istore_n (pc := 40) (lv' := [(0, .int ((((((p0 - ((ww_ushr p0 1) &&& 1431655765)) &&& 858993459) + ((ww_ushr (p0 - ((ww_ushr p0 1) &&& 1431655765)) 2) &&& 858993459)) + (ww_ushr (((p0 - ((ww_ushr p0 1) &&& 1431655765)) &&& 858993459) + ((ww_ushr (p0 - ((ww_ushr p0 1) &&& 1431655765)) 2) &&& 858993459)) 4)) &&& 252645135) + (ww_ushr (((((p0 - ((ww_ushr p0 1) &&& 1431655765)) &&& 858993459) + ((ww_ushr (p0 - ((ww_ushr p0 1) &&& 1431655765)) 2) &&& 858993459)) + (ww_ushr (((p0 - ((ww_ushr p0 1) &&& 1431655765)) &&& 858993459) + ((ww_ushr (p0 - ((ww_ushr p0 1) &&& 1431655765)) 2) &&& 858993459)) 4)) &&& 252645135) 8)))]) hC dJ6_bitCount_0f7a4_40 rfl (by decide) rfl ?_
  refine ww_iload_n (pc := 41) hC 0 rfl dJ6_bitCount_0f7a4_41 rfl ?_
  refine ww_iload_n (pc := 42) hC 0 rfl dJ6_bitCount_0f7a4_42 rfl ?_
  refine ww_bipush (pc := 43) (v := 16) hC dJ6_bitCount_0f7a4_43 rfl ?_
  refine ww_iushr (pc := 45) hC dJ6_bitCount_0f7a4_45 ?_
  refine ww_iadd (pc := 46) hC dJ6_bitCount_0f7a4_46 ?_
  refine ww_istore_n (pc := 47) (lv' := [(0, .int (((((((p0 - ((ww_ushr p0 1) &&& 1431655765)) &&& 858993459) + ((ww_ushr (p0 - ((ww_ushr p0 1) &&& 1431655765)) 2) &&& 858993459)) + (ww_ushr (((p0 - ((ww_ushr p0 1) &&& 1431655765)) &&& 858993459) + ((ww_ushr (p0 - ((ww_ushr p0 1) &&& 1431655765)) 2) &&& 858993459)) 4)) &&& 252645135) + (ww_ushr (((((p0 - ((ww_ushr p0 1) &&& 1431655765)) &&& 858993459) + ((ww_ushr (p0 - ((ww_ushr p0 1) &&& 1431655765)) 2) &&& 858993459)) + (ww_ushr (((p0 - ((ww_ushr p0 1) &&& 1431655765)) &&& 858993459) + ((ww_ushr (p0 - ((ww_ushr p0 1) &&& 1431655765)) 2) &&& 858993459)) 4)) &&& 252645135) 8)) + (ww_ushr ((((((p0 - ((ww_ushr p0 1) &&& 1431655765)) &&& 858993459) + ((ww_ushr (p0 - ((ww_ushr p0 1) &&& 1431655765)) 2) &&& 858993459)) + (ww_ushr (((p0 - ((ww_ushr p0 1) &&& 1431655765)) &&& 858993459) + ((ww_ushr (p0 - ((ww_ushr p0 1) &&& 1431655765)) 2) &&& 858993459)) 4)) &&& 252645135) + (ww_ushr (((((p0 - ((ww_ushr p0 1) &&& 1431655765)) &&& 858993459) + ((ww_ushr (p0 - ((ww_ushr p0 1) &&& 1431655765)) 2) &&& 858993459)) + (ww_ushr (((p0 - ((ww_ushr p0 1) &&& 1431655765)) &&& 858993459) + ((ww_ushr (p0 - ((ww_ushr p0 1) &&& 1431655765)) 2) &&& 858993459)) 4)) &&& 252645135) 8)) 16)))]) hC dJ6_bitCount_0f7a4_47 rfl (by decide) rfl ?_
  refine ww_iload_n (pc := 48) hC 0 rfl dJ6_bitCount_0f7a4_48 rfl ?_
  refine ww_bipush (pc := 49) (v := 63) hC dJ6_bitCount_0f7a4_49 rfl ?_
  refine ww_iand (pc := 51) hC dJ6_bitCount_0f7a4_51 ?_
  exact ww_ireturn (pc := 52) hC hR dJ6_bitCount_0f7a4_52 rfl
theorem dX6_numberOf_0 : decode cX6_numberOf 0 = .ok (.iload_n 0, 1) := by decide +kernel
theorem dX6_numberOf_1 : decode cX6_numberOf 1 = .ok (.iconst 3, 1) := by decide +kernel
theorem dX6_numberOf_2 : decode cX6_numberOf 2 = .ok (.idiv, 1) := by decide +kernel
theorem dX6_numberOf_3 : decode cX6_numberOf 3 = .ok (.bipush 10, 2) := by decide +kernel
theorem dX6_numberOf_5 : decode cX6_numberOf 5 = .ok (.imul, 1) := by decide +kernel
theorem dX6_numberOf_6 : decode cX6_numberOf 6 = .ok (.iload_n 0, 1) := by decide +kernel
theorem dX6_numberOf_7 : decode cX6_numberOf 7 = .ok (.iconst 3, 1) := by decide +kernel
theorem dX6_numberOf_8 : decode cX6_numberOf 8 = .ok (.irem, 1) := by decide +kernel
theorem dX6_numberOf_9 : decode cX6_numberOf 9 = .ok (.iadd, 1) := by decide +kernel
theorem dX6_numberOf_10 : decode cX6_numberOf 10 = .ok (.ireturn, 1) := by decide +kernel
set_option maxHeartbeats 4000000 in
set_option maxRecDepth 100000 in
theorem c_X6_numberOf {l : Launch} {Y : ww_Y} {ad : Nat → Nat} {G : List ww_L} (σ : ww_M) (p0 : Int32) : ww_Cn l Y ad G yX6_numberOf cX6_numberOf 1 (some .int) 1 [.int p0] σ ((f_X6_numberOf p0).bind (ww_ri σ)) := by
  refine ww_met (by decide +kernel) (Nat.le_of_ble_eq_true rfl) ?_
  intro X hC hR
  have hC : ww_C X l Y ad G 1 cX6_numberOf 1 RX6 := hC
  show ww_V X Y ad G 1 σ 0 [(0, .int p0)] [] ((f_X6_numberOf p0).bind (ww_ri σ))
  unfold f_X6_numberOf
  refine ww_iload_n (pc := 0) hC 0 rfl dX6_numberOf_0 rfl ?_
  refine ww_iconst (pc := 1) (v := 3) hC dX6_numberOf_1 rfl ?_
  refine ww_idiv_c (pc := 2) hC dX6_numberOf_2 (by decide) ?_
  refine ww_bipush (pc := 3) (v := 10) hC dX6_numberOf_3 rfl ?_
  refine ww_imul (pc := 5) hC dX6_numberOf_5 ?_
  refine ww_iload_n (pc := 6) hC 0 rfl dX6_numberOf_6 rfl ?_
  refine ww_iconst (pc := 7) (v := 3) hC dX6_numberOf_7 rfl ?_
  refine ww_irem_c (pc := 8) hC dX6_numberOf_8 (by decide) ?_
  refine ww_iadd (pc := 9) hC dX6_numberOf_9 ?_
  exact ww_ireturn (pc := 10) hC hR dX6_numberOf_10 rfl
