theorem dX6_laws_0 : decode cX6_laws 0 = .ok (.iconst 0, 1) := by decide +kernel
theorem dX6_laws_1 : decode cX6_laws 1 = .ok (.istore_n 1, 1) := by decide +kernel
theorem dX6_laws_2 : decode cX6_laws 2 = .ok (.iconst 0, 1) := by decide +kernel
theorem dX6_laws_3 : decode cX6_laws 3 = .ok (.istore_n 2, 1) := by decide +kernel
theorem dX6_laws_4 : decode cX6_laws 4 = .ok (.iload_n 2, 1) := by decide +kernel
theorem dX6_laws_5 : decode cX6_laws 5 = .ok (.iconst 4, 1) := by decide +kernel
theorem dX6_laws_6 : decode cX6_laws 6 = .ok (.if_icmp .ge 30, 3) := by decide +kernel
theorem dX6_laws_9 : decode cX6_laws 9 = .ok (.aload_n 0, 1) := by decide +kernel
theorem dX6_laws_10 : decode cX6_laws 10 = .ok (.getfield 40, 3) := by decide +kernel
theorem dX6_laws_13 : decode cX6_laws 13 = .ok (.aload_n 0, 1) := by decide +kernel
theorem dX6_laws_14 : decode cX6_laws 14 = .ok (.getfield 26, 3) := by decide +kernel
theorem dX6_laws_17 : decode cX6_laws 17 = .ok (.iload_n 2, 1) := by decide +kernel
theorem dX6_laws_18 : decode cX6_laws 18 = .ok (.invokevirtual 192, 3) := by decide +kernel
theorem dX6_laws_21 : decode cX6_laws 21 = .ok (.ifCond .eq 9, 3) := by decide +kernel
theorem dX6_laws_24 : decode cX6_laws 24 = .ok (.iload_n 1, 1) := by decide +kernel
theorem dX6_laws_25 : decode cX6_laws 25 = .ok (.iconst 1, 1) := by decide +kernel
theorem dX6_laws_26 : decode cX6_laws 26 = .ok (.iload_n 2, 1) := by decide +kernel
theorem dX6_laws_27 : decode cX6_laws 27 = .ok (.ishl, 1) := by decide +kernel
theorem dX6_laws_28 : decode cX6_laws 28 = .ok (.ior, 1) := by decide +kernel
theorem dX6_laws_29 : decode cX6_laws 29 = .ok (.istore_n 1, 1) := by decide +kernel
theorem dX6_laws_30 : decode cX6_laws 30 = .ok (.iinc 2 1, 3) := by decide +kernel
theorem dX6_laws_33 : decode cX6_laws 33 = .ok (.goto (-29), 3) := by decide +kernel
theorem dX6_laws_36 : decode cX6_laws 36 = .ok (.iload_n 1, 1) := by decide +kernel
theorem dX6_laws_37 : decode cX6_laws 37 = .ok (.ireturn, 1) := by decide +kernel
set_option maxHeartbeats 4000000 in
set_option maxRecDepth 100000 in
theorem c_X6_laws {l : Launch} {Y : ww_Y} {ad : Nat → Nat} {G : List ww_L} (hT : ww_at G 0 ww_LTop) (σ : ww_M) : ww_Cn l Y ad G yX6_laws cX6_laws 3 (some .int) 6 [.ref (ad 0)] σ ((f_X6_laws σ).bind (ww_ri σ)) := by
  refine ww_met (by decide +kernel) (Nat.le_of_ble_eq_true rfl) ?_
  intro X hC hR
  have hC : ww_C X l Y ad G 6 cX6_laws 3 RX6 := hC
  show ww_V X Y ad G 3 σ 0 [(0, .ref (ad 0))] [] ((f_X6_laws σ).bind (ww_ri σ))
  have hJ36 : ∀ (x1 : Int32), ww_V X Y ad G 3 σ 36 [(1, .int x1)] [] ((f_X6_laws_j36 σ x1).bind (ww_ri σ)) := by
    intro x1
    unfold f_X6_laws_j36
    refine ww_iload_n (pc := 36) hC 0 rfl dX6_laws_36 rfl ?_
    exact ww_ireturn (pc := 37) hC hR dX6_laws_37 rfl
  have hJ4 : ∀ (x1 : Int32) (x2 : Int32), ww_V X Y ad G 3 σ 4 [(0, .ref (ad 0)), (1, .int x1), (2, .int x2)] [] ((f_X6_laws_j4 σ x1 x2).bind (ww_ri σ)) := by
    intro x1 x2
    unfold f_X6_laws_j4
    refine ww_assoc ?_
    refine ww_loop (f := f_X6_laws_b4 σ) (fun a4 => σ) (fun a4 => [(0, .ref (ad 0)), (1, .int a4.1), (2, .int a4.2)]) (fun b4 => σ) (fun b4 => [(1, .int b4)]) 36 (fun b4 => ?_) (fun a4 KK4 hc4 hx4 => ?_) ww_F (x1, x2)
    · exact hJ36 b4
    · unfold f_X6_laws_b4
      refine ww_iload_n (pc := 4) hC 2 rfl dX6_laws_4 rfl ?_
      refine ww_iconst (pc := 5) (v := 4) hC dX6_laws_5 rfl ?_
      refine ww_icmp_ge (pc := 6) (tgt := 36) hC dX6_laws_6 (by decide) ?_ ?_
      · refine ww_lv [1] rfl ?_
        exact hx4 a4.1
      · refine ww_aload_n (pc := 9) hC 0 rfl dX6_laws_9 rfl ?_
        refine ww_getr (pc := 10) (Cl := RX6) (T := TX6) (N := 10) (j := 6) (ref := RX6) hC (hT 0 _ rfl) rfl inT_X6 (by decide) mw_304 rfl rfl dX6_laws_10 ?_
        refine ww_aload_n (pc := 13) hC 0 rfl dX6_laws_13 rfl ?_
        refine ww_getr (pc := 14) (Cl := RX6) (T := TX6) (N := 10) (j := 2) (ref := RX6) hC (hT 0 _ rfl) rfl inT_X6 (by decide) mw_300 rfl rfl dX6_laws_14 ?_
        refine ww_iload_n (pc := 17) hC 2 rfl dX6_laws_17 rfl ?_
        refine ww_callVi (pc := 18) (st := []) (As := [.ref (ad 4), .int a4.2]) hC (c_X3_areExplained 45 (ww_top_tales hT) 4 (ww_top_now hT) σ a4.2) mm_X3_areExplained mw_776 ((ww_top_tales hT) 0 _ rfl) rfl (by omega) (by decide) (Nat.le_of_ble_eq_true rfl) rfl dX6_laws_18 (fun v18 => ?_)
        refine ww_if_eq (pc := 21) (tgt := 30) hC dX6_laws_21 (by decide) ?_ ?_
        · refine ww_iinc (pc := 30) (v := a4.2 + 1) (lv' := [(2, .int (a4.2 + 1)), (0, .ref (ad 0)), (1, .int a4.1)]) hC 2 rfl dX6_laws_30 rfl (by decide) rfl ?_
          refine ww_goto (pc := 33) (tgt := 4) hC dX6_laws_33 (by decide) ?_
          refine ww_lv [1, 2, 0] rfl ?_
          exact hc4 (a4.1, a4.2 + 1)
        · refine ww_iload_n (pc := 24) hC 1 rfl dX6_laws_24 rfl ?_
          refine ww_iconst (pc := 25) (v := 1) hC dX6_laws_25 rfl ?_
          refine ww_iload_n (pc := 26) hC 2 rfl dX6_laws_26 rfl ?_
          refine ww_ishl (pc := 27) hC dX6_laws_27 ?_
          refine ww_ior (pc := 28) hC dX6_laws_28 ?_
          refine ww_istore_n (pc := 29) (lv' := [(1, .int (a4.1 ||| (ww_shl 1 a4.2))), (0, .ref (ad 0)), (2, .int a4.2)]) hC dX6_laws_29 rfl (by decide) rfl ?_
          refine ww_iinc (pc := 30) (v := a4.2 + 1) (lv' := [(2, .int (a4.2 + 1)), (1, .int (a4.1 ||| (ww_shl 1 a4.2))), (0, .ref (ad 0))]) hC 2 rfl dX6_laws_30 rfl (by decide) rfl ?_
          refine ww_goto (pc := 33) (tgt := 4) hC dX6_laws_33 (by decide) ?_
          refine ww_lv [2, 1, 0] rfl ?_
          exact hc4 (a4.1 ||| (ww_shl 1 a4.2), a4.2 + 1)
  unfold f_X6_laws
  refine ww_iconst (pc := 0) (v := 0) hC dX6_laws_0 rfl ?_
  refine ww_istore_n (pc := 1) (lv' := [(1, .int 0), (0, .ref (ad 0))]) hC dX6_laws_1 rfl (by decide) rfl ?_
  refine ww_iconst (pc := 2) (v := 0) hC dX6_laws_2 rfl ?_
  refine ww_istore_n (pc := 3) (lv' := [(2, .int 0), (1, .int 0), (0, .ref (ad 0))]) hC dX6_laws_3 rfl (by decide) rfl ?_
  refine ww_lv [2, 1, 0] rfl ?_
  exact hJ4 0 0
theorem dX6_whose_0 : decode cX6_whose 0 = .ok (.aload_n 0, 1) := by decide +kernel
theorem dX6_whose_1 : decode cX6_whose 1 = .ok (.getfield 26, 3) := by decide +kernel
theorem dX6_whose_4 : decode cX6_whose 4 = .ok (.iload_n 1, 1) := by decide +kernel
theorem dX6_whose_5 : decode cX6_whose 5 = .ok (.invokevirtual 115, 3) := by decide +kernel
theorem dX6_whose_8 : decode cX6_whose 8 = .ok (.ifCond .ne 5, 3) := by decide +kernel
theorem dX6_whose_11 : decode cX6_whose 11 = .ok (.iconst (-1), 1) := by decide +kernel
theorem dX6_whose_12 : decode cX6_whose 12 = .ok (.ireturn, 1) := by decide +kernel
theorem dX6_whose_13 : decode cX6_whose 13 = .ok (.aload_n 0, 1) := by decide +kernel
theorem dX6_whose_14 : decode cX6_whose 14 = .ok (.getfield 26, 3) := by decide +kernel
theorem dX6_whose_17 : decode cX6_whose 17 = .ok (.getfield 118, 3) := by decide +kernel
theorem dX6_whose_20 : decode cX6_whose 20 = .ok (.iload_n 1, 1) := by decide +kernel
theorem dX6_whose_21 : decode cX6_whose 21 = .ok (.iaload, 1) := by decide +kernel
theorem dX6_whose_22 : decode cX6_whose 22 = .ok (.istore_n 2, 1) := by decide +kernel
theorem dX6_whose_23 : decode cX6_whose 23 = .ok (.iconst 0, 1) := by decide +kernel
theorem dX6_whose_24 : decode cX6_whose 24 = .ok (.istore_n 3, 1) := by decide +kernel
theorem dX6_whose_25 : decode cX6_whose 25 = .ok (.iconst 0, 1) := by decide +kernel
theorem dX6_whose_26 : decode cX6_whose 26 = .ok (.istore 4, 2) := by decide +kernel
theorem dX6_whose_28 : decode cX6_whose 28 = .ok (.iload 4, 2) := by decide +kernel
theorem dX6_whose_30 : decode cX6_whose 30 = .ok (.iconst 4, 1) := by decide +kernel
theorem dX6_whose_31 : decode cX6_whose 31 = .ok (.if_icmp .ge 48, 3) := by decide +kernel
theorem dX6_whose_34 : decode cX6_whose 34 = .ok (.aload_n 0, 1) := by decide +kernel
theorem dX6_whose_35 : decode cX6_whose 35 = .ok (.getfield 26, 3) := by decide +kernel
theorem dX6_whose_38 : decode cX6_whose 38 = .ok (.getfield 118, 3) := by decide +kernel
theorem dX6_whose_41 : decode cX6_whose 41 = .ok (.iload_n 1, 1) := by decide +kernel
theorem dX6_whose_42 : decode cX6_whose 42 = .ok (.iload 4, 2) := by decide +kernel
theorem dX6_whose_44 : decode cX6_whose 44 = .ok (.iastore, 1) := by decide +kernel
theorem dX6_whose_45 : decode cX6_whose 45 = .ok (.aload_n 0, 1) := by decide +kernel
theorem dX6_whose_46 : decode cX6_whose 46 = .ok (.getfield 40, 3) := by decide +kernel
theorem dX6_whose_49 : decode cX6_whose 49 = .ok (.aload_n 0, 1) := by decide +kernel
theorem dX6_whose_50 : decode cX6_whose 50 = .ok (.getfield 26, 3) := by decide +kernel
theorem dX6_whose_53 : decode cX6_whose 53 = .ok (.aload_n 0, 1) := by decide +kernel
theorem dX6_whose_54 : decode cX6_whose 54 = .ok (.getfield 26, 3) := by decide +kernel
theorem dX6_whose_57 : decode cX6_whose 57 = .ok (.getfield 103, 3) := by decide +kernel
theorem dX6_whose_60 : decode cX6_whose 60 = .ok (.invokevirtual 192, 3) := by decide +kernel
theorem dX6_whose_63 : decode cX6_whose 63 = .ok (.ifCond .eq 10, 3) := by decide +kernel
theorem dX6_whose_66 : decode cX6_whose 66 = .ok (.iload_n 3, 1) := by decide +kernel
theorem dX6_whose_67 : decode cX6_whose 67 = .ok (.iconst 1, 1) := by decide +kernel
theorem dX6_whose_68 : decode cX6_whose 68 = .ok (.iload 4, 2) := by decide +kernel
theorem dX6_whose_70 : decode cX6_whose 70 = .ok (.ishl, 1) := by decide +kernel
theorem dX6_whose_71 : decode cX6_whose 71 = .ok (.ior, 1) := by decide +kernel
theorem dX6_whose_72 : decode cX6_whose 72 = .ok (.istore_n 3, 1) := by decide +kernel
theorem dX6_whose_73 : decode cX6_whose 73 = .ok (.iinc 4 1, 3) := by decide +kernel
theorem dX6_whose_76 : decode cX6_whose 76 = .ok (.goto (-48), 3) := by decide +kernel
theorem dX6_whose_79 : decode cX6_whose 79 = .ok (.aload_n 0, 1) := by decide +kernel
theorem dX6_whose_80 : decode cX6_whose 80 = .ok (.getfield 26, 3) := by decide +kernel
theorem dX6_whose_83 : decode cX6_whose 83 = .ok (.getfield 118, 3) := by decide +kernel
theorem dX6_whose_86 : decode cX6_whose 86 = .ok (.iload_n 1, 1) := by decide +kernel
theorem dX6_whose_87 : decode cX6_whose 87 = .ok (.iload_n 2, 1) := by decide +kernel
theorem dX6_whose_88 : decode cX6_whose 88 = .ok (.iastore, 1) := by decide +kernel
theorem dX6_whose_89 : decode cX6_whose 89 = .ok (.iload_n 3, 1) := by decide +kernel
theorem dX6_whose_90 : decode cX6_whose 90 = .ok (.ireturn, 1) := by decide +kernel
set_option maxHeartbeats 4000000 in
set_option maxRecDepth 100000 in
theorem c_X6_whose {l : Launch} {Y : ww_Y} {ad : Nat → Nat} {G : List ww_L} (hT : ww_at G 0 ww_LTop) (σ : ww_M) (p1 : Int32) : ww_Cn l Y ad G yX6_whose cX6_whose 5 (some .int) 6 [.ref (ad 0), .int p1] σ ((f_X6_whose σ p1).bind ww_rw) := by
  refine ww_met (by decide +kernel) (Nat.le_of_ble_eq_true rfl) ?_
  intro X hC hR
  have hC : ww_C X l Y ad G 6 cX6_whose 5 RX6 := hC
  show ww_V X Y ad G 5 σ 0 [(0, .ref (ad 0)), (1, .int p1)] [] ((f_X6_whose σ p1).bind ww_rw)
  have hJ79 : ∀ (σ : ww_M) (x2 : Int32) (x3 : Int32), ww_V X Y ad G 5 σ 79 [(0, .ref (ad 0)), (1, .int p1), (2, .int x2), (3, .int x3)] [] ((f_X6_whose_j79 σ p1 x2 x3).bind ww_rw) := by
    intro σ x2 x3
    unfold f_X6_whose_j79
    refine ww_aload_n (pc := 79) hC 0 rfl dX6_whose_79 rfl ?_
    refine ww_getr (pc := 80) (Cl := RX6) (T := TX6) (N := 10) (j := 2) (ref := RX6) hC (hT 0 _ rfl) rfl inT_X6 (by decide) mw_300 rfl rfl dX6_whose_80 ?_
    refine ww_getr (pc := 83) (Cl := RX2) (T := TX2) (N := 17) (j := 0) (ref := RX2) hC ((ww_top_now hT) 0 _ rfl) rfl inT_X2 (by decide) mw_140 rfl rfl dX6_whose_83 ?_
    refine ww_iload_n (pc := 86) hC 1 rfl dX6_whose_86 rfl ?_
    refine ww_iload_n (pc := 87) hC 2 rfl dX6_whose_87 rfl ?_
    refine ww_iast (pc := 88) hC ((ww_top_now hT) 1 _ rfl) dX6_whose_88 ?_
    refine ww_iload_n (pc := 89) hC 3 rfl dX6_whose_89 rfl ?_
    exact ww_ireturn (pc := 90) hC hR dX6_whose_90 rfl
  have hJ28 : ∀ (σ : ww_M) (x2 : Int32) (x3 : Int32) (x4 : Int32), ww_V X Y ad G 5 σ 28 [(0, .ref (ad 0)), (1, .int p1), (2, .int x2), (3, .int x3), (4, .int x4)] [] ((f_X6_whose_j28 σ p1 x2 x3 x4).bind ww_rw) := by
    intro σ x2 x3 x4
    unfold f_X6_whose_j28
    refine ww_assoc ?_
    refine ww_loop (f := f_X6_whose_b28 p1 x2) (fun a28 => a28.2.2) (fun a28 => [(0, .ref (ad 0)), (1, .int p1), (2, .int x2), (3, .int a28.1), (4, .int a28.2.1)]) (fun b28 => b28.2) (fun b28 => [(0, .ref (ad 0)), (1, .int p1), (2, .int x2), (3, .int b28.1)]) 79 (fun b28 => ?_) (fun a28 KK28 hc28 hx28 => ?_) ww_F (x3, x4, σ)
    · exact hJ79 b28.2 x2 b28.1
    · unfold f_X6_whose_b28
      refine ww_iload (pc := 28) hC 4 rfl dX6_whose_28 ?_
      refine ww_iconst (pc := 30) (v := 4) hC dX6_whose_30 rfl ?_
      refine ww_icmp_ge (pc := 31) (tgt := 79) hC dX6_whose_31 (by decide) ?_ ?_
      · refine ww_lv [0, 1, 2, 3] rfl ?_
        exact hx28 (a28.1, a28.2.2)
      · refine ww_aload_n (pc := 34) hC 0 rfl dX6_whose_34 rfl ?_
        refine ww_getr (pc := 35) (Cl := RX6) (T := TX6) (N := 10) (j := 2) (ref := RX6) hC (hT 0 _ rfl) rfl inT_X6 (by decide) mw_300 rfl rfl dX6_whose_35 ?_
        refine ww_getr (pc := 38) (Cl := RX2) (T := TX2) (N := 17) (j := 0) (ref := RX2) hC ((ww_top_now hT) 0 _ rfl) rfl inT_X2 (by decide) mw_140 rfl rfl dX6_whose_38 ?_
        refine ww_iload_n (pc := 41) hC 1 rfl dX6_whose_41 rfl ?_
        refine ww_iload (pc := 42) hC 4 rfl dX6_whose_42 ?_
        refine ww_iast (pc := 44) hC ((ww_top_now hT) 1 _ rfl) dX6_whose_44 ?_
        refine ww_aload_n (pc := 45) hC 0 rfl dX6_whose_45 rfl ?_
        refine ww_getr (pc := 46) (Cl := RX6) (T := TX6) (N := 10) (j := 6) (ref := RX6) hC (hT 0 _ rfl) rfl inT_X6 (by decide) mw_304 rfl rfl dX6_whose_46 ?_
        refine ww_aload_n (pc := 49) hC 0 rfl dX6_whose_49 rfl ?_
        refine ww_getr (pc := 50) (Cl := RX6) (T := TX6) (N := 10) (j := 2) (ref := RX6) hC (hT 0 _ rfl) rfl inT_X6 (by decide) mw_300 rfl rfl dX6_whose_50 ?_
        refine ww_aload_n (pc := 53) hC 0 rfl dX6_whose_53 rfl ?_
        refine ww_getr (pc := 54) (Cl := RX6) (T := TX6) (N := 10) (j := 2) (ref := RX6) hC (hT 0 _ rfl) rfl inT_X6 (by decide) mw_300 rfl rfl dX6_whose_54 ?_
        refine ww_geti (pc := 57) (Cl := RX2) (T := TX2) (N := 17) (j := 12) (ref := RX2) hC ((ww_top_now hT) 0 _ rfl) rfl inT_X2 (by decide) mw_169 rfl rfl dX6_whose_57 ?_
        refine ww_callVi (pc := 60) (st := []) (As := [.ref (ad 4), .int ((ww_up a28.2.2 (4 + 1) (ww_ix p1) a28.2.1) 4 12)]) hC (c_X3_areExplained 45 (ww_top_tales hT) 4 (ww_top_now hT) (ww_up a28.2.2 (4 + 1) (ww_ix p1) a28.2.1) ((ww_up a28.2.2 (4 + 1) (ww_ix p1) a28.2.1) 4 12)) mm_X3_areExplained mw_776 ((ww_top_tales hT) 0 _ rfl) rfl (by omega) (by decide) (Nat.le_of_ble_eq_true rfl) rfl dX6_whose_60 (fun v60 => ?_)
        refine ww_if_eq (pc := 63) (tgt := 73) hC dX6_whose_63 (by decide) ?_ ?_
        · refine ww_iinc (pc := 73) (v := a28.2.1 + 1) (lv' := [(4, .int (a28.2.1 + 1)), (0, .ref (ad 0)), (1, .int p1), (2, .int x2), (3, .int a28.1)]) hC 4 rfl dX6_whose_73 rfl (by decide) rfl ?_
          refine ww_goto (pc := 76) (tgt := 28) hC dX6_whose_76 (by decide) ?_
          refine ww_lv [1, 2, 3, 4, 0] rfl ?_
          exact hc28 (a28.1, a28.2.1 + 1, ww_up a28.2.2 (4 + 1) (ww_ix p1) a28.2.1)
        · refine ww_iload_n (pc := 66) hC 3 rfl dX6_whose_66 rfl ?_
          refine ww_iconst (pc := 67) (v := 1) hC dX6_whose_67 rfl ?_
          refine ww_iload (pc := 68) hC 4 rfl dX6_whose_68 ?_
          refine ww_ishl (pc := 70) hC dX6_whose_70 ?_
          refine ww_ior (pc := 71) hC dX6_whose_71 ?_
          refine ww_istore_n (pc := 72) (lv' := [(3, .int (a28.1 ||| (ww_shl 1 a28.2.1))), (0, .ref (ad 0)), (1, .int p1), (2, .int x2), (4, .int a28.2.1)]) hC dX6_whose_72 rfl (by decide) rfl ?_
          refine ww_iinc (pc := 73) (v := a28.2.1 + 1) (lv' := [(4, .int (a28.2.1 + 1)), (3, .int (a28.1 ||| (ww_shl 1 a28.2.1))), (0, .ref (ad 0)), (1, .int p1), (2, .int x2)]) hC 4 rfl dX6_whose_73 rfl (by decide) rfl ?_
          refine ww_goto (pc := 76) (tgt := 28) hC dX6_whose_76 (by decide) ?_
          refine ww_lv [2, 3, 4, 1, 0] rfl ?_
          exact hc28 (a28.1 ||| (ww_shl 1 a28.2.1), a28.2.1 + 1, ww_up a28.2.2 (4 + 1) (ww_ix p1) a28.2.1)
  unfold f_X6_whose
  refine ww_aload_n (pc := 0) hC 0 rfl dX6_whose_0 rfl ?_
  refine ww_getr (pc := 1) (Cl := RX6) (T := TX6) (N := 10) (j := 2) (ref := RX6) hC (hT 0 _ rfl) rfl inT_X6 (by decide) mw_300 rfl rfl dX6_whose_1 ?_
  refine ww_iload_n (pc := 4) hC 1 rfl dX6_whose_4 rfl ?_
  refine ww_callVi (pc := 5) (st := []) (As := [.int p1]) hC (c_X2_hasPlace 4 (ww_top_now hT) σ p1) mm_X2_hasPlace mw_539 ((ww_top_now hT) 0 _ rfl) rfl (by omega) (by decide) (Nat.le_of_ble_eq_true rfl) rfl dX6_whose_5 (fun v5 => ?_)
  refine ww_if_ne (pc := 8) (tgt := 13) hC dX6_whose_8 (by decide) ?_ ?_
  · refine ww_aload_n (pc := 13) hC 0 rfl dX6_whose_13 rfl ?_
    refine ww_getr (pc := 14) (Cl := RX6) (T := TX6) (N := 10) (j := 2) (ref := RX6) hC (hT 0 _ rfl) rfl inT_X6 (by decide) mw_300 rfl rfl dX6_whose_14 ?_
    refine ww_getr (pc := 17) (Cl := RX2) (T := TX2) (N := 17) (j := 0) (ref := RX2) hC ((ww_top_now hT) 0 _ rfl) rfl inT_X2 (by decide) mw_140 rfl rfl dX6_whose_17 ?_
    refine ww_iload_n (pc := 20) hC 1 rfl dX6_whose_20 rfl ?_
    refine ww_iald (pc := 21) hC ((ww_top_now hT) 1 _ rfl) dX6_whose_21 ?_
    refine ww_istore_n (pc := 22) (lv' := [(2, .int (σ (4 + 1) (ww_ix p1))), (0, .ref (ad 0)), (1, .int p1)]) hC dX6_whose_22 rfl (by decide) rfl ?_
    refine ww_iconst (pc := 23) (v := 0) hC dX6_whose_23 rfl ?_
    refine ww_istore_n (pc := 24) (lv' := [(3, .int 0), (2, .int (σ (4 + 1) (ww_ix p1))), (0, .ref (ad 0)), (1, .int p1)]) hC dX6_whose_24 rfl (by decide) rfl ?_
    refine ww_iconst (pc := 25) (v := 0) hC dX6_whose_25 rfl ?_
    refine ww_istore (pc := 26) (lv' := [(4, .int 0), (3, .int 0), (2, .int (σ (4 + 1) (ww_ix p1))), (0, .ref (ad 0)), (1, .int p1)]) hC dX6_whose_26 (by decide) rfl ?_
    refine ww_lv [3, 4, 2, 1, 0] rfl ?_
    exact hJ28 σ (σ (4 + 1) (ww_ix p1)) 0 0
  · refine ww_iconst (pc := 11) (v := (-1)) hC dX6_whose_11 rfl ?_
    exact ww_ireturn (pc := 12) hC hR dX6_whose_12 rfl
theorem dX6_strand_0 : decode cX6_strand 0 = .ok (.iload_n 1, 1) := by decide +kernel
theorem dX6_strand_1 : decode cX6_strand 1 = .ok (.iconst 1, 1) := by decide +kernel
theorem dX6_strand_2 : decode cX6_strand 2 = .ok (.iconst 3, 1) := by decide +kernel
theorem dX6_strand_3 : decode cX6_strand 3 = .ok (.invokestatic 61, 3) := by decide +kernel
theorem dX6_strand_6 : decode cX6_strand 6 = .ok (.ifCond .eq 14, 3) := by decide +kernel
theorem dX6_strand_9 : decode cX6_strand 9 = .ok (.iload_n 2, 1) := by decide +kernel
theorem dX6_strand_10 : decode cX6_strand 10 = .ok (.iconst 0, 1) := by decide +kernel
theorem dX6_strand_11 : decode cX6_strand 11 = .ok (.sipush 998, 3) := by decide +kernel
theorem dX6_strand_14 : decode cX6_strand 14 = .ok (.invokestatic 61, 3) := by decide +kernel
theorem dX6_strand_17 : decode cX6_strand 17 = .ok (.ifCond .ne 5, 3) := by decide +kernel
theorem dX6_strand_20 : decode cX6_strand 20 = .ok (.iconst (-1), 1) := by decide +kernel
theorem dX6_strand_21 : decode cX6_strand 21 = .ok (.ireturn, 1) := by decide +kernel
theorem dX6_strand_22 : decode cX6_strand 22 = .ok (.aload_n 0, 1) := by decide +kernel
theorem dX6_strand_23 : decode cX6_strand 23 = .ok (.getfield 26, 3) := by decide +kernel
theorem dX6_strand_26 : decode cX6_strand 26 = .ok (.iload_n 2, 1) := by decide +kernel
theorem dX6_strand_27 : decode cX6_strand 27 = .ok (.invokevirtual 170, 3) := by decide +kernel
theorem dX6_strand_30 : decode cX6_strand 30 = .ok (.istore_n 3, 1) := by decide +kernel
theorem dX6_strand_31 : decode cX6_strand 31 = .ok (.aload_n 0, 1) := by decide +kernel
theorem dX6_strand_32 : decode cX6_strand 32 = .ok (.getfield 26, 3) := by decide +kernel
theorem dX6_strand_35 : decode cX6_strand 35 = .ok (.iload_n 2, 1) := by decide +kernel
theorem dX6_strand_36 : decode cX6_strand 36 = .ok (.iconst 1, 1) := by decide +kernel
theorem dX6_strand_37 : decode cX6_strand 37 = .ok (.iadd, 1) := by decide +kernel
theorem dX6_strand_38 : decode cX6_strand 38 = .ok (.invokevirtual 170, 3) := by decide +kernel
theorem dX6_strand_41 : decode cX6_strand 41 = .ok (.istore 4, 2) := by decide +kernel
theorem dX6_strand_43 : decode cX6_strand 43 = .ok (.aload_n 0, 1) := by decide +kernel
theorem dX6_strand_44 : decode cX6_strand 44 = .ok (.getfield 26, 3) := by decide +kernel
theorem dX6_strand_47 : decode cX6_strand 47 = .ok (.invokevirtual 196, 3) := by decide +kernel
theorem dX6_strand_50 : decode cX6_strand 50 = .ok (.istore 5, 2) := by decide +kernel
theorem dX6_strand_52 : decode cX6_strand 52 = .ok (.iconst 0, 1) := by decide +kernel
theorem dX6_strand_53 : decode cX6_strand 53 = .ok (.istore 6, 2) := by decide +kernel
theorem dX6_strand_55 : decode cX6_strand 55 = .ok (.iconst 0, 1) := by decide +kernel
theorem dX6_strand_56 : decode cX6_strand 56 = .ok (.istore 7, 2) := by decide +kernel
theorem dX6_strand_58 : decode cX6_strand 58 = .ok (.iload 7, 2) := by decide +kernel
theorem dX6_strand_60 : decode cX6_strand 60 = .ok (.iload_n 1, 1) := by decide +kernel
theorem dX6_strand_61 : decode cX6_strand 61 = .ok (.iadd, 1) := by decide +kernel
theorem dX6_strand_62 : decode cX6_strand 62 = .ok (.aload_n 0, 1) := by decide +kernel
theorem dX6_strand_63 : decode cX6_strand 63 = .ok (.getfield 26, 3) := by decide +kernel
theorem dX6_strand_66 : decode cX6_strand 66 = .ok (.getfield 94, 3) := by decide +kernel
theorem dX6_strand_69 : decode cX6_strand 69 = .ok (.if_icmp .gt 77, 3) := by decide +kernel
theorem dX6_strand_72 : decode cX6_strand 72 = .ok (.iload 7, 2) := by decide +kernel
theorem dX6_strand_74 : decode cX6_strand 74 = .ok (.iload_n 1, 1) := by decide +kernel
theorem dX6_strand_75 : decode cX6_strand 75 = .ok (.invokestatic 200, 3) := by decide +kernel
theorem dX6_strand_78 : decode cX6_strand 78 = .ok (.istore 8, 2) := by decide +kernel
theorem dX6_strand_80 : decode cX6_strand 80 = .ok (.iload_n 3, 1) := by decide +kernel
theorem dX6_strand_81 : decode cX6_strand 81 = .ok (.iload 8, 2) := by decide +kernel
theorem dX6_strand_83 : decode cX6_strand 83 = .ok (.iand, 1) := by decide +kernel
theorem dX6_strand_84 : decode cX6_strand 84 = .ok (.iload 8, 2) := by decide +kernel
theorem dX6_strand_86 : decode cX6_strand 86 = .ok (.if_icmp .ne 7, 3) := by decide +kernel
theorem dX6_strand_89 : decode cX6_strand 89 = .ok (.iconst 1, 1) := by decide +kernel
theorem dX6_strand_90 : decode cX6_strand 90 = .ok (.goto 4, 3) := by decide +kernel
theorem dX6_strand_93 : decode cX6_strand 93 = .ok (.iconst 0, 1) := by decide +kernel
theorem dX6_strand_94 : decode cX6_strand 94 = .ok (.istore 9, 2) := by decide +kernel
theorem dX6_strand_96 : decode cX6_strand 96 = .ok (.iload 4, 2) := by decide +kernel
theorem dX6_strand_98 : decode cX6_strand 98 = .ok (.iload 8, 2) := by decide +kernel
theorem dX6_strand_100 : decode cX6_strand 100 = .ok (.iand, 1) := by decide +kernel
theorem dX6_strand_101 : decode cX6_strand 101 = .ok (.iload 8, 2) := by decide +kernel
theorem dX6_strand_103 : decode cX6_strand 103 = .ok (.if_icmp .ne 7, 3) := by decide +kernel
theorem dX6_strand_106 : decode cX6_strand 106 = .ok (.iconst 1, 1) := by decide +kernel
theorem dX6_strand_107 : decode cX6_strand 107 = .ok (.goto 4, 3) := by decide +kernel
theorem dX6_strand_110 : decode cX6_strand 110 = .ok (.iconst 0, 1) := by decide +kernel
theorem dX6_strand_111 : decode cX6_strand 111 = .ok (.istore 10, 2) := by decide +kernel
theorem dX6_strand_113 : decode cX6_strand 113 = .ok (.iload 9, 2) := by decide +kernel
theorem dX6_strand_115 : decode cX6_strand 115 = .ok (.ifCond .eq 25, 3) := by decide +kernel
theorem dX6_strand_118 : decode cX6_strand 118 = .ok (.iload 10, 2) := by decide +kernel
theorem dX6_strand_120 : decode cX6_strand 120 = .ok (.ifCond .ne 20, 3) := by decide +kernel
theorem dX6_strand_123 : decode cX6_strand 123 = .ok (.iload 5, 2) := by decide +kernel
theorem dX6_strand_125 : decode cX6_strand 125 = .ok (.iload 8, 2) := by decide +kernel
theorem dX6_strand_127 : decode cX6_strand 127 = .ok (.iand, 1) := by decide +kernel
theorem dX6_strand_128 : decode cX6_strand 128 = .ok (.ifCond .ne 12, 3) := by decide +kernel
theorem dX6_strand_131 : decode cX6_strand 131 = .ok (.iload 6, 2) := by decide +kernel
theorem dX6_strand_133 : decode cX6_strand 133 = .ok (.iconst 1, 1) := by decide +kernel
theorem dX6_strand_134 : decode cX6_strand 134 = .ok (.iload 7, 2) := by decide +kernel
theorem dX6_strand_136 : decode cX6_strand 136 = .ok (.ishl, 1) := by decide +kernel
theorem dX6_strand_137 : decode cX6_strand 137 = .ok (.ior, 1) := by decide +kernel
theorem dX6_strand_138 : decode cX6_strand 138 = .ok (.istore 6, 2) := by decide +kernel
theorem dX6_strand_140 : decode cX6_strand 140 = .ok (.iinc 7 1, 3) := by decide +kernel
theorem dX6_strand_143 : decode cX6_strand 143 = .ok (.goto (-85), 3) := by decide +kernel
theorem dX6_strand_146 : decode cX6_strand 146 = .ok (.iload 6, 2) := by decide +kernel
theorem dX6_strand_148 : decode cX6_strand 148 = .ok (.ireturn, 1) := by decide +kernel
set_option maxHeartbeats 4000000 in
set_option maxRecDepth 100000 in
theorem c_X6_strand {l : Launch} {Y : ww_Y} {ad : Nat → Nat} {G : List ww_L} (hT : ww_at G 0 ww_LTop) (σ : ww_M) (p1 : Int32) (p2 : Int32) : ww_Cn l Y ad G yX6_strand cX6_strand 11 (some .int) 4 [.ref (ad 0), .int p1, .int p2] σ ((f_X6_strand σ p1 p2).bind (ww_ri σ)) := by
  refine ww_met (by decide +kernel) (Nat.le_of_ble_eq_true rfl) ?_
  intro X hC hR
  have hC : ww_C X l Y ad G 4 cX6_strand 11 RX6 := hC
  show ww_V X Y ad G 11 σ 0 [(0, .ref (ad 0)), (1, .int p1), (2, .int p2)] [] ((f_X6_strand σ p1 p2).bind (ww_ri σ))
  have hJ146 : ∀ (x6 : Int32), ww_V X Y ad G 11 σ 146 [(6, .int x6)] [] ((f_X6_strand_j146 σ p1 p2 x6).bind (ww_ri σ)) := by
    intro x6
    unfold f_X6_strand_j146
    refine ww_iload (pc := 146) hC 0 rfl dX6_strand_146 ?_
    exact ww_ireturn (pc := 148) hC hR dX6_strand_148 rfl
  have hJ58 : ∀ (x3 : Int32) (x4 : Int32) (x5 : Int32) (x6 : Int32) (x7 : Int32), ww_V X Y ad G 11 σ 58 [(0, .ref (ad 0)), (1, .int p1), (3, .int x3), (4, .int x4), (5, .int x5), (6, .int x6), (7, .int x7)] [] ((f_X6_strand_j58 σ p1 p2 x3 x4 x5 x6 x7).bind (ww_ri σ)) := by
    intro x3 x4 x5 x6 x7
    unfold f_X6_strand_j58
    refine ww_assoc ?_
    refine ww_loop (f := f_X6_strand_b58 σ p1 p2 x3 x4 x5) (fun a58 => σ) (fun a58 => [(0, .ref (ad 0)), (1, .int p1), (3, .int x3), (4, .int x4), (5, .int x5), (6, .int a58.1), (7, .int a58.2)]) (fun b58 => σ) (fun b58 => [(6, .int b58)]) 146 (fun b58 => ?_) (fun a58 KK58 hc58 hx58 => ?_) ww_F (x6, x7)
    · exact hJ146 b58
    · unfold f_X6_strand_b58
      have hJ111 : ∀ (x6 : Int32) (x7 : Int32) (x8 : Int32) (x9 : Int32) (s0 : Int32), ww_V X Y ad G 11 σ 111 [(0, .ref (ad 0)), (1, .int p1), (3, .int x3), (4, .int x4), (5, .int x5), (6, .int x6), (7, .int x7), (8, .int x8), (9, .int x9)] [.int s0] ((f_X6_strand_j111 σ p1 p2 x3 x4 x5 x6 x7 x8 x9 s0).bind KK58) := by
        intro x6 x7 x8 x9 s0
        unfold f_X6_strand_j111
        refine ww_istore (pc := 111) (lv' := [(10, .int s0), (0, .ref (ad 0)), (1, .int p1), (3, .int x3), (4, .int x4), (5, .int x5), (6, .int x6), (7, .int x7), (8, .int x8), (9, .int x9)]) hC dX6_strand_111 (by decide) rfl ?_
        refine ww_iload (pc := 113) hC 9 rfl dX6_strand_113 ?_
        refine ww_if_eq (pc := 115) (tgt := 140) hC dX6_strand_115 (by decide) ?_ ?_
        · refine ww_iinc (pc := 140) (v := x7 + 1) (lv' := [(7, .int (x7 + 1)), (10, .int s0), (0, .ref (ad 0)), (1, .int p1), (3, .int x3), (4, .int x4), (5, .int x5), (6, .int x6), (8, .int x8), (9, .int x9)]) hC 7 rfl dX6_strand_140 rfl (by decide) rfl ?_
          refine ww_goto (pc := 143) (tgt := 58) hC dX6_strand_143 (by decide) ?_
          refine ww_lv [2, 3, 4, 5, 6, 7, 0] rfl ?_
          exact hc58 (x6, x7 + 1)
        · refine ww_iload (pc := 118) hC 0 rfl dX6_strand_118 ?_
          refine ww_if_ne (pc := 120) (tgt := 140) hC dX6_strand_120 (by decide) ?_ ?_
          · refine ww_iinc (pc := 140) (v := x7 + 1) (lv' := [(7, .int (x7 + 1)), (10, .int s0), (0, .ref (ad 0)), (1, .int p1), (3, .int x3), (4, .int x4), (5, .int x5), (6, .int x6), (8, .int x8), (9, .int x9)]) hC 7 rfl dX6_strand_140 rfl (by decide) rfl ?_
            refine ww_goto (pc := 143) (tgt := 58) hC dX6_strand_143 (by decide) ?_
            refine ww_lv [2, 3, 4, 5, 6, 7, 0] rfl ?_
            exact hc58 (x6, x7 + 1)
          · refine ww_iload (pc := 123) hC 5 rfl dX6_strand_123 ?_
            refine ww_iload (pc := 125) hC 8 rfl dX6_strand_125 ?_
            refine ww_iand (pc := 127) hC dX6_strand_127 ?_
            refine ww_if_ne (pc := 128) (tgt := 140) hC dX6_strand_128 (by decide) ?_ ?_
            · refine ww_iinc (pc := 140) (v := x7 + 1) (lv' := [(7, .int (x7 + 1)), (10, .int s0), (0, .ref (ad 0)), (1, .int p1), (3, .int x3), (4, .int x4), (5, .int x5), (6, .int x6), (8, .int x8), (9, .int x9)]) hC 7 rfl dX6_strand_140 rfl (by decide) rfl ?_
              refine ww_goto (pc := 143) (tgt := 58) hC dX6_strand_143 (by decide) ?_
              refine ww_lv [2, 3, 4, 5, 6, 7, 0] rfl ?_
              exact hc58 (x6, x7 + 1)
            · refine ww_iload (pc := 131) hC 6 rfl dX6_strand_131 ?_
              refine ww_iconst (pc := 133) (v := 1) hC dX6_strand_133 rfl ?_
              refine ww_iload (pc := 134) hC 7 rfl dX6_strand_134 ?_
              refine ww_ishl (pc := 136) hC dX6_strand_136 ?_
              refine ww_ior (pc := 137) hC dX6_strand_137 ?_
              refine ww_istore (pc := 138) (lv' := [(6, .int (x6 ||| (ww_shl 1 x7))), (10, .int s0), (0, .ref (ad 0)), (1, .int p1), (3, .int x3), (4, .int x4), (5, .int x5), (7, .int x7), (8, .int x8), (9, .int x9)]) hC dX6_strand_138 (by decide) rfl ?_
              refine ww_iinc (pc := 140) (v := x7 + 1) (lv' := [(7, .int (x7 + 1)), (6, .int (x6 ||| (ww_shl 1 x7))), (10, .int s0), (0, .ref (ad 0)), (1, .int p1), (3, .int x3), (4, .int x4), (5, .int x5), (8, .int x8), (9, .int x9)]) hC 7 rfl dX6_strand_140 rfl (by decide) rfl ?_
              refine ww_goto (pc := 143) (tgt := 58) hC dX6_strand_143 (by decide) ?_
              refine ww_lv [3, 4, 5, 6, 7, 1, 0] rfl ?_
              exact hc58 (x6 ||| (ww_shl 1 x7), x7 + 1)
      have hJ94 : ∀ (x6 : Int32) (x7 : Int32) (x8 : Int32) (s0 : Int32), ww_V X Y ad G 11 σ 94 [(0, .ref (ad 0)), (1, .int p1), (3, .int x3), (4, .int x4), (5, .int x5), (6, .int x6), (7, .int x7), (8, .int x8)] [.int s0] ((f_X6_strand_j94 σ p1 p2 x3 x4 x5 x6 x7 x8 s0).bind KK58) := by
        intro x6 x7 x8 s0
        unfold f_X6_strand_j94
        refine ww_istore (pc := 94) (lv' := [(9, .int s0), (0, .ref (ad 0)), (1, .int p1), (3, .int x3), (4, .int x4), (5, .int x5), (6, .int x6), (7, .int x7), (8, .int x8)]) hC dX6_strand_94 (by decide) rfl ?_
        refine ww_iload (pc := 96) hC 4 rfl dX6_strand_96 ?_
        refine ww_iload (pc := 98) hC 8 rfl dX6_strand_98 ?_
        refine ww_iand (pc := 100) hC dX6_strand_100 ?_
        refine ww_iload (pc := 101) hC 8 rfl dX6_strand_101 ?_
        refine ww_icmp_ne (pc := 103) (tgt := 110) hC dX6_strand_103 (by decide) ?_ ?_
        · refine ww_iconst (pc := 110) (v := 0) hC dX6_strand_110 rfl ?_
          refine ww_lv [1, 2, 3, 4, 5, 6, 7, 8, 0] rfl ?_
          exact hJ111 x6 x7 x8 s0 0
        · refine ww_iconst (pc := 106) (v := 1) hC dX6_strand_106 rfl ?_
          refine ww_goto (pc := 107) (tgt := 111) hC dX6_strand_107 (by decide) ?_
          refine ww_lv [1, 2, 3, 4, 5, 6, 7, 8, 0] rfl ?_
          exact hJ111 x6 x7 x8 s0 1
      refine ww_iload (pc := 58) hC 6 rfl dX6_strand_58 ?_
      refine ww_iload_n (pc := 60) hC 1 rfl dX6_strand_60 rfl ?_
      refine ww_iadd (pc := 61) hC dX6_strand_61 ?_
      refine ww_aload_n (pc := 62) hC 0 rfl dX6_strand_62 rfl ?_
      refine ww_getr (pc := 63) (Cl := RX6) (T := TX6) (N := 10) (j := 2) (ref := RX6) hC (hT 0 _ rfl) rfl inT_X6 (by decide) mw_300 rfl rfl dX6_strand_63 ?_
      refine ww_geti (pc := 66) (Cl := RX2) (T := TX2) (N := 17) (j := 9) (ref := RX2) hC ((ww_top_now hT) 0 _ rfl) rfl inT_X2 (by decide) mw_160 rfl rfl dX6_strand_66 ?_
      refine ww_icmp_gt (pc := 69) (tgt := 146) hC dX6_strand_69 (by decide) ?_ ?_
      · refine ww_lv [5] rfl ?_
        exact hx58 a58.1
      · refine ww_iload (pc := 72) hC 6 rfl dX6_strand_72 ?_
        refine ww_iload_n (pc := 74) hC 1 rfl dX6_strand_74 rfl ?_
        refine ww_callSi (pc := 75) (st := []) (As := [.int a58.2, .int p1]) hC (c_X6_bodyAt σ a58.2 p1) mm_X6_bodyAt mw_793 (by omega) (by decide) (Nat.le_of_ble_eq_true rfl) rfl dX6_strand_75 (fun v75 => ?_)
        refine ww_istore (pc := 78) (lv' := [(8, .int v75), (0, .ref (ad 0)), (1, .int p1), (3, .int x3), (4, .int x4), (5, .int x5), (6, .int a58.1), (7, .int a58.2)]) hC dX6_strand_78 (by decide) rfl ?_
        refine ww_iload_n (pc := 80) hC 3 rfl dX6_strand_80 rfl ?_
        refine ww_iload (pc := 81) hC 0 rfl dX6_strand_81 ?_
        refine ww_iand (pc := 83) hC dX6_strand_83 ?_
        refine ww_iload (pc := 84) hC 0 rfl dX6_strand_84 ?_
        refine ww_icmp_ne (pc := 86) (tgt := 93) hC dX6_strand_86 (by decide) ?_ ?_
        · refine ww_iconst (pc := 93) (v := 0) hC dX6_strand_93 rfl ?_
          refine ww_lv [1, 2, 3, 4, 5, 6, 7, 0] rfl ?_
          exact hJ94 a58.1 a58.2 v75 0
        · refine ww_iconst (pc := 89) (v := 1) hC dX6_strand_89 rfl ?_
          refine ww_goto (pc := 90) (tgt := 94) hC dX6_strand_90 (by decide) ?_
          refine ww_lv [1, 2, 3, 4, 5, 6, 7, 0] rfl ?_
          exact hJ94 a58.1 a58.2 v75 1
  unfold f_X6_strand
  refine ww_iload_n (pc := 0) hC 1 rfl dX6_strand_0 rfl ?_
  refine ww_iconst (pc := 1) (v := 1) hC dX6_strand_1 rfl ?_
  refine ww_iconst (pc := 2) (v := 3) hC dX6_strand_2 rfl ?_
  refine ww_callSi (pc := 3) (st := []) (As := [.int p1, .int 1, .int 3]) hC (c_X6_within σ p1 1 3) mm_X6_within mw_333 (by omega) (by decide) (Nat.le_of_ble_eq_true rfl) rfl dX6_strand_3 (fun v3 => ?_)
  refine ww_if_eq (pc := 6) (tgt := 20) hC dX6_strand_6 (by decide) ?_ ?_
  · refine ww_iconst (pc := 20) (v := (-1)) hC dX6_strand_20 rfl ?_
    exact ww_ireturn (pc := 21) hC hR dX6_strand_21 rfl
  · refine ww_iload_n (pc := 9) hC 2 rfl dX6_strand_9 rfl ?_
    refine ww_iconst (pc := 10) (v := 0) hC dX6_strand_10 rfl ?_
    refine ww_sipush (pc := 11) (v := 998) hC dX6_strand_11 rfl ?_
    refine ww_callSi (pc := 14) (st := []) (As := [.int p2, .int 0, .int 998]) hC (c_X6_within σ p2 0 998) mm_X6_within mw_333 (by omega) (by decide) (Nat.le_of_ble_eq_true rfl) rfl dX6_strand_14 (fun v14 => ?_)
    refine ww_if_ne (pc := 17) (tgt := 22) hC dX6_strand_17 (by decide) ?_ ?_
    · refine ww_aload_n (pc := 22) hC 0 rfl dX6_strand_22 rfl ?_
      refine ww_getr (pc := 23) (Cl := RX6) (T := TX6) (N := 10) (j := 2) (ref := RX6) hC (hT 0 _ rfl) rfl inT_X6 (by decide) mw_300 rfl rfl dX6_strand_23 ?_
      refine ww_iload_n (pc := 26) hC 2 rfl dX6_strand_26 rfl ?_
      refine ww_callVi (pc := 27) (st := []) (As := [.int p2]) hC (c_X2_wetPlaces 4 (ww_top_now hT) σ p2) mm_X2_wetPlaces mw_654 ((ww_top_now hT) 0 _ rfl) rfl (by omega) (by decide) (Nat.le_of_ble_eq_true rfl) rfl dX6_strand_27 (fun v27 => ?_)
      refine ww_istore_n (pc := 30) (lv' := [(3, .int v27), (0, .ref (ad 0)), (1, .int p1), (2, .int p2)]) hC dX6_strand_30 rfl (by decide) rfl ?_
      refine ww_aload_n (pc := 31) hC 1 rfl dX6_strand_31 rfl ?_
      refine ww_getr (pc := 32) (Cl := RX6) (T := TX6) (N := 10) (j := 2) (ref := RX6) hC (hT 0 _ rfl) rfl inT_X6 (by decide) mw_300 rfl rfl dX6_strand_32 ?_
      refine ww_iload_n (pc := 35) hC 3 rfl dX6_strand_35 rfl ?_
      refine ww_iconst (pc := 36) (v := 1) hC dX6_strand_36 rfl ?_
      refine ww_iadd (pc := 37) hC dX6_strand_37 ?_
      refine ww_callVi (pc := 38) (st := []) (As := [.int (p2 + 1)]) hC (c_X2_wetPlaces 4 (ww_top_now hT) σ (p2 + 1)) mm_X2_wetPlaces mw_654 ((ww_top_now hT) 0 _ rfl) rfl (by omega) (by decide) (Nat.le_of_ble_eq_true rfl) rfl dX6_strand_38 (fun v38 => ?_)
      refine ww_istore (pc := 41) (lv' := [(4, .int v38), (3, .int v27), (0, .ref (ad 0)), (1, .int p1), (2, .int p2)]) hC dX6_strand_41 (by decide) rfl ?_
      refine ww_aload_n (pc := 43) hC 2 rfl dX6_strand_43 rfl ?_
      refine ww_getr (pc := 44) (Cl := RX6) (T := TX6) (N := 10) (j := 2) (ref := RX6) hC (hT 0 _ rfl) rfl inT_X6 (by decide) mw_300 rfl rfl dX6_strand_44 ?_
      refine ww_callVi (pc := 47) (st := []) (As := []) hC (c_X2_takenPlaces 4 (ww_top_now hT) σ) mm_X2_takenPlaces mw_789 ((ww_top_now hT) 0 _ rfl) rfl (by omega) (by decide) (Nat.le_of_ble_eq_true rfl) rfl dX6_strand_47 (fun v47 => ?_)
      refine ww_istore (pc := 50) (lv' := [(5, .int v47), (4, .int v38), (3, .int v27), (0, .ref (ad 0)), (1, .int p1), (2, .int p2)]) hC dX6_strand_50 (by decide) rfl ?_
      refine ww_iconst (pc := 52) (v := 0) hC dX6_strand_52 rfl ?_
      refine ww_istore (pc := 53) (lv' := [(6, .int 0), (5, .int v47), (4, .int v38), (3, .int v27), (0, .ref (ad 0)), (1, .int p1), (2, .int p2)]) hC dX6_strand_53 (by decide) rfl ?_
      refine ww_iconst (pc := 55) (v := 0) hC dX6_strand_55 rfl ?_
      refine ww_istore (pc := 56) (lv' := [(7, .int 0), (6, .int 0), (5, .int v47), (4, .int v38), (3, .int v27), (0, .ref (ad 0)), (1, .int p1), (2, .int p2)]) hC dX6_strand_56 (by decide) rfl ?_
      refine ww_lv [5, 6, 4, 3, 2, 1, 0] rfl ?_
      exact hJ58 v27 v38 v47 0 0
    · refine ww_iconst (pc := 20) (v := (-1)) hC dX6_strand_20 rfl ?_
      exact ww_ireturn (pc := 21) hC hR dX6_strand_21 rfl
theorem dX6_luck_0 : decode cX6_luck 0 = .ok (.aload_n 0, 1) := by decide +kernel
theorem dX6_luck_1 : decode cX6_luck 1 = .ok (.getfield 26, 3) := by decide +kernel
theorem dX6_luck_4 : decode cX6_luck 4 = .ok (.iload_n 1, 1) := by decide +kernel
theorem dX6_luck_5 : decode cX6_luck 5 = .ok (.invokevirtual 129, 3) := by decide +kernel
theorem dX6_luck_8 : decode cX6_luck 8 = .ok (.ifCond .eq 12, 3) := by decide +kernel
theorem dX6_luck_11 : decode cX6_luck 11 = .ok (.iload_n 2, 1) := by decide +kernel
theorem dX6_luck_12 : decode cX6_luck 12 = .ok (.iconst 0, 1) := by decide +kernel
theorem dX6_luck_13 : decode cX6_luck 13 = .ok (.iconst 1, 1) := by decide +kernel
theorem dX6_luck_14 : decode cX6_luck 14 = .ok (.invokestatic 61, 3) := by decide +kernel
theorem dX6_luck_17 : decode cX6_luck 17 = .ok (.ifCond .ne 7, 3) := by decide +kernel
theorem dX6_luck_20 : decode cX6_luck 20 = .ok (.ldc2_w 203, 3) := by decide +kernel
theorem dX6_luck_23 : decode cX6_luck 23 = .ok (.lreturn, 1) := by decide +kernel
theorem dX6_luck_24 : decode cX6_luck 24 = .ok (.lconst 1, 1) := by decide +kernel
theorem dX6_luck_25 : decode cX6_luck 25 = .ok (.lstore_n 3, 1) := by decide +kernel
theorem dX6_luck_26 : decode cX6_luck 26 = .ok (.lconst 1, 1) := by decide +kernel
theorem dX6_luck_27 : decode cX6_luck 27 = .ok (.lstore 5, 2) := by decide +kernel
theorem dX6_luck_29 : decode cX6_luck 29 = .ok (.iconst 0, 1) := by decide +kernel
theorem dX6_luck_30 : decode cX6_luck 30 = .ok (.istore 7, 2) := by decide +kernel
theorem dX6_luck_32 : decode cX6_luck 32 = .ok (.iload 7, 2) := by decide +kernel
theorem dX6_luck_34 : decode cX6_luck 34 = .ok (.aload_n 0, 1) := by decide +kernel
theorem dX6_luck_35 : decode cX6_luck 35 = .ok (.getfield 26, 3) := by decide +kernel
theorem dX6_luck_38 : decode cX6_luck 38 = .ok (.getfield 135, 3) := by decide +kernel
theorem dX6_luck_41 : decode cX6_luck 41 = .ok (.iload_n 1, 1) := by decide +kernel
theorem dX6_luck_42 : decode cX6_luck 42 = .ok (.iaload, 1) := by decide +kernel
theorem dX6_luck_43 : decode cX6_luck 43 = .ok (.if_icmp .ge 66, 3) := by decide +kernel
theorem dX6_luck_46 : decode cX6_luck 46 = .ok (.iload_n 1, 1) := by decide +kernel
theorem dX6_luck_47 : decode cX6_luck 47 = .ok (.iconst 3, 1) := by decide +kernel
theorem dX6_luck_48 : decode cX6_luck 48 = .ok (.imul, 1) := by decide +kernel
theorem dX6_luck_49 : decode cX6_luck 49 = .ok (.iload 7, 2) := by decide +kernel
theorem dX6_luck_51 : decode cX6_luck 51 = .ok (.iadd, 1) := by decide +kernel
theorem dX6_luck_52 : decode cX6_luck 52 = .ok (.istore 8, 2) := by decide +kernel
theorem dX6_luck_54 : decode cX6_luck 54 = .ok (.aload_n 0, 1) := by decide +kernel
theorem dX6_luck_55 : decode cX6_luck 55 = .ok (.getfield 26, 3) := by decide +kernel
theorem dX6_luck_58 : decode cX6_luck 58 = .ok (.getfield 147, 3) := by decide +kernel
theorem dX6_luck_61 : decode cX6_luck 61 = .ok (.iload 8, 2) := by decide +kernel
theorem dX6_luck_63 : decode cX6_luck 63 = .ok (.iaload, 1) := by decide +kernel
theorem dX6_luck_64 : decode cX6_luck 64 = .ok (.ifCond .le 39, 3) := by decide +kernel
theorem dX6_luck_67 : decode cX6_luck 67 = .ok (.aload_n 0, 1) := by decide +kernel
theorem dX6_luck_68 : decode cX6_luck 68 = .ok (.getfield 26, 3) := by decide +kernel
theorem dX6_luck_71 : decode cX6_luck 71 = .ok (.iload_n 1, 1) := by decide +kernel
theorem dX6_luck_72 : decode cX6_luck 72 = .ok (.invokevirtual 138, 3) := by decide +kernel
theorem dX6_luck_75 : decode cX6_luck 75 = .ok (.ifCond .ne 28, 3) := by decide +kernel
theorem dX6_luck_78 : decode cX6_luck 78 = .ok (.lload_n 3, 1) := by decide +kernel
theorem dX6_luck_79 : decode cX6_luck 79 = .ok (.ldc2_w 205, 3) := by decide +kernel
theorem dX6_luck_82 : decode cX6_luck 82 = .ok (.lmul, 1) := by decide +kernel
theorem dX6_luck_83 : decode cX6_luck 83 = .ok (.lstore_n 3, 1) := by decide +kernel
theorem dX6_luck_84 : decode cX6_luck 84 = .ok (.lload 5, 2) := by decide +kernel
theorem dX6_luck_86 : decode cX6_luck 86 = .ok (.bipush 8, 2) := by decide +kernel
theorem dX6_luck_88 : decode cX6_luck 88 = .ok (.aload_n 0, 1) := by decide +kernel
theorem dX6_luck_89 : decode cX6_luck 89 = .ok (.getfield 26, 3) := by decide +kernel
theorem dX6_luck_92 : decode cX6_luck 92 = .ok (.getfield 150, 3) := by decide +kernel
theorem dX6_luck_95 : decode cX6_luck 95 = .ok (.iload 8, 2) := by decide +kernel
theorem dX6_luck_97 : decode cX6_luck 97 = .ok (.iaload, 1) := by decide +kernel
theorem dX6_luck_98 : decode cX6_luck 98 = .ok (.isub, 1) := by decide +kernel
theorem dX6_luck_99 : decode cX6_luck 99 = .ok (.i2l, 1) := by decide +kernel
theorem dX6_luck_100 : decode cX6_luck 100 = .ok (.lmul, 1) := by decide +kernel
theorem dX6_luck_101 : decode cX6_luck 101 = .ok (.lstore 5, 2) := by decide +kernel
theorem dX6_luck_103 : decode cX6_luck 103 = .ok (.iinc 7 1, 3) := by decide +kernel
theorem dX6_luck_106 : decode cX6_luck 106 = .ok (.goto (-74), 3) := by decide +kernel
theorem dX6_luck_109 : decode cX6_luck 109 = .ok (.lload_n 3, 1) := by decide +kernel
theorem dX6_luck_110 : decode cX6_luck 110 = .ok (.lload 5, 2) := by decide +kernel
theorem dX6_luck_112 : decode cX6_luck 112 = .ok (.lsub, 1) := by decide +kernel
theorem dX6_luck_113 : decode cX6_luck 113 = .ok (.lstore 7, 2) := by decide +kernel
theorem dX6_luck_115 : decode cX6_luck 115 = .ok (.iconst 0, 1) := by decide +kernel
theorem dX6_luck_116 : decode cX6_luck 116 = .ok (.istore 9, 2) := by decide +kernel
theorem dX6_luck_118 : decode cX6_luck 118 = .ok (.iload 9, 2) := by decide +kernel
theorem dX6_luck_120 : decode cX6_luck 120 = .ok (.bipush 9, 2) := by decide +kernel
theorem dX6_luck_122 : decode cX6_luck 122 = .ok (.if_icmp .ge 40, 3) := by decide +kernel
theorem dX6_luck_125 : decode cX6_luck 125 = .ok (.lload_n 3, 1) := by decide +kernel
theorem dX6_luck_126 : decode cX6_luck 126 = .ok (.lconst 1, 1) := by decide +kernel
theorem dX6_luck_127 : decode cX6_luck 127 = .ok (.lcmp, 1) := by decide +kernel
theorem dX6_luck_128 : decode cX6_luck 128 = .ok (.ifCond .le 34, 3) := by decide +kernel
theorem dX6_luck_131 : decode cX6_luck 131 = .ok (.lload 7, 2) := by decide +kernel
theorem dX6_luck_133 : decode cX6_luck 133 = .ok (.ldc2_w 207, 3) := by decide +kernel
theorem dX6_luck_136 : decode cX6_luck 136 = .ok (.lrem, 1) := by decide +kernel
theorem dX6_luck_137 : decode cX6_luck 137 = .ok (.lconst 0, 1) := by decide +kernel
theorem dX6_luck_138 : decode cX6_luck 138 = .ok (.lcmp, 1) := by decide +kernel
theorem dX6_luck_139 : decode cX6_luck 139 = .ok (.ifCond .ne 23, 3) := by decide +kernel
theorem dX6_luck_142 : decode cX6_luck 142 = .ok (.lload_n 3, 1) := by decide +kernel
theorem dX6_luck_143 : decode cX6_luck 143 = .ok (.ldc2_w 207, 3) := by decide +kernel
theorem dX6_luck_146 : decode cX6_luck 146 = .ok (.ldiv, 1) := by decide +kernel
theorem dX6_luck_147 : decode cX6_luck 147 = .ok (.lstore_n 3, 1) := by decide +kernel
theorem dX6_luck_148 : decode cX6_luck 148 = .ok (.lload 7, 2) := by decide +kernel
theorem dX6_luck_150 : decode cX6_luck 150 = .ok (.ldc2_w 207, 3) := by decide +kernel
theorem dX6_luck_153 : decode cX6_luck 153 = .ok (.ldiv, 1) := by decide +kernel
theorem dX6_luck_154 : decode cX6_luck 154 = .ok (.lstore 7, 2) := by decide +kernel
theorem dX6_luck_156 : decode cX6_luck 156 = .ok (.iinc 9 1, 3) := by decide +kernel
theorem dX6_luck_159 : decode cX6_luck 159 = .ok (.goto (-41), 3) := by decide +kernel
theorem dX6_luck_162 : decode cX6_luck 162 = .ok (.iload_n 2, 1) := by decide +kernel
theorem dX6_luck_163 : decode cX6_luck 163 = .ok (.ifCond .ne 8, 3) := by decide +kernel
theorem dX6_luck_166 : decode cX6_luck 166 = .ok (.lload 7, 2) := by decide +kernel
theorem dX6_luck_168 : decode cX6_luck 168 = .ok (.goto 4, 3) := by decide +kernel
theorem dX6_luck_171 : decode cX6_luck 171 = .ok (.lload_n 3, 1) := by decide +kernel
theorem dX6_luck_172 : decode cX6_luck 172 = .ok (.lreturn, 1) := by decide +kernel
set_option maxHeartbeats 4000000 in
set_option maxRecDepth 100000 in
theorem c_X6_luck {l : Launch} {Y : ww_Y} {ad : Nat → Nat} {G : List ww_L} (hT : ww_at G 0 ww_LTop) (σ : ww_M) (p1 : Int32) (p2 : Int32) : ww_Cn l Y ad G yX6_luck cX6_luck 10 (some .long) 3 [.ref (ad 0), .int p1, .int p2] σ ((f_X6_luck σ p1 p2).bind (ww_rl σ)) := by
  refine ww_met (by decide +kernel) (Nat.le_of_ble_eq_true rfl) ?_
  intro X hC hR
  have hC : ww_C X l Y ad G 3 cX6_luck 10 RX6 := hC
  show ww_V X Y ad G 10 σ 0 [(0, .ref (ad 0)), (1, .int p1), (2, .int p2)] [] ((f_X6_luck σ p1 p2).bind (ww_rl σ))
  have hJ162 : ∀ (y3 : Int64) (y7 : Int64), ww_V X Y ad G 10 σ 162 [(2, .int p2), (3, .long y3), (7, .long y7)] [] ((f_X6_luck_j162 σ p1 p2 y3 y7).bind (ww_rl σ)) := by
    intro y3 y7
    unfold f_X6_luck_j162
    refine ww_iload_n (pc := 162) hC 0 rfl dX6_luck_162 rfl ?_
    refine ww_if_ne (pc := 163) (tgt := 171) hC dX6_luck_163 (by decide) ?_ ?_
    · refine ww_lload_n (pc := 171) hC 1 rfl dX6_luck_171 rfl ?_
      exact ww_lreturn (pc := 172) hC hR dX6_luck_172 rfl
    · refine ww_lload (pc := 166) hC 2 rfl dX6_luck_166 ?_
      refine ww_goto (pc := 168) (tgt := 172) hC dX6_luck_168 (by decide) ?_
      exact ww_lreturn (pc := 172) hC hR dX6_luck_172 rfl
  have hJ118 : ∀ (y3 : Int64) (y7 : Int64) (x9 : Int32), ww_V X Y ad G 10 σ 118 [(2, .int p2), (3, .long y3), (7, .long y7), (9, .int x9)] [] ((f_X6_luck_j118 σ p1 p2 y3 y7 x9).bind (ww_rl σ)) := by
    intro y3 y7 x9
    unfold f_X6_luck_j118
    refine ww_assoc ?_
    refine ww_loop (f := f_X6_luck_b118 σ p1 p2) (fun a118 => σ) (fun a118 => [(2, .int p2), (3, .long a118.1), (7, .long a118.2.1), (9, .int a118.2.2)]) (fun b118 => σ) (fun b118 => [(2, .int p2), (3, .long b118.1), (7, .long b118.2)]) 162 (fun b118 => ?_) (fun a118 KK118 hc118 hx118 => ?_) ww_F (y3, y7, x9)
    · exact hJ162 b118.1 b118.2
    · unfold f_X6_luck_b118
      refine ww_iload (pc := 118) hC 3 rfl dX6_luck_118 ?_
      refine ww_bipush (pc := 120) (v := 9) hC dX6_luck_120 rfl ?_
      refine ww_icmp_ge (pc := 122) (tgt := 162) hC dX6_luck_122 (by decide) ?_ ?_
      · refine ww_lv [0, 1, 2] rfl ?_
        exact hx118 (a118.1, a118.2.1)
      · refine ww_lload_n (pc := 125) hC 1 rfl dX6_luck_125 rfl ?_
        refine ww_lconst (pc := 126) (v := 1) hC dX6_luck_126 rfl ?_
        refine ww_lcmp (pc := 127) hC dX6_luck_127 ?_
        refine ww_if_le (pc := 128) (tgt := 162) hC dX6_luck_128 (by decide) ?_ ?_
        · refine ww_lv [0, 1, 2] rfl ?_
          exact hx118 (a118.1, a118.2.1)
        · refine ww_lload (pc := 131) hC 2 rfl dX6_luck_131 ?_
          refine ww_ldc2 (pc := 133) hC dX6_luck_133 mw_800 ?_
          refine ww_lrem_c (pc := 136) hC dX6_luck_136 (by decide) ?_
          refine ww_lconst (pc := 137) (v := 0) hC dX6_luck_137 rfl ?_
          refine ww_lcmp (pc := 138) hC dX6_luck_138 ?_
          refine ww_if_ne (pc := 139) (tgt := 162) hC dX6_luck_139 (by decide) ?_ ?_
          · refine ww_lv [0, 1, 2] rfl ?_
            exact hx118 (a118.1, a118.2.1)
          · refine ww_lload_n (pc := 142) hC 1 rfl dX6_luck_142 rfl ?_
            refine ww_ldc2 (pc := 143) hC dX6_luck_143 mw_800 ?_
            refine ww_ldiv_c (pc := 146) hC dX6_luck_146 (by decide) ?_
            refine ww_lstore_n (pc := 147) (lv' := [(3, .long (a118.1 / 2)), (2, .int p2), (7, .long a118.2.1), (9, .int a118.2.2)]) hC dX6_luck_147 rfl (by decide) rfl ?_
            refine ww_lload (pc := 148) hC 2 rfl dX6_luck_148 ?_
            refine ww_ldc2 (pc := 150) hC dX6_luck_150 mw_800 ?_
            refine ww_ldiv_c (pc := 153) hC dX6_luck_153 (by decide) ?_
            refine ww_lstore (pc := 154) (lv' := [(7, .long (a118.2.1 / 2)), (3, .long (a118.1 / 2)), (2, .int p2), (9, .int a118.2.2)]) hC dX6_luck_154 (by decide) rfl ?_
            refine ww_iinc (pc := 156) (v := a118.2.2 + 1) (lv' := [(9, .int (a118.2.2 + 1)), (7, .long (a118.2.1 / 2)), (3, .long (a118.1 / 2)), (2, .int p2)]) hC 3 rfl dX6_luck_156 rfl (by decide) rfl ?_
            refine ww_goto (pc := 159) (tgt := 118) hC dX6_luck_159 (by decide) ?_
            refine ww_lv [3, 2, 1, 0] rfl ?_
            exact hc118 (a118.1 / 2, a118.2.1 / 2, a118.2.2 + 1)
  have hJ109 : ∀ (y3 : Int64) (y5 : Int64), ww_V X Y ad G 10 σ 109 [(2, .int p2), (3, .long y3), (5, .long y5)] [] ((f_X6_luck_j109 σ p1 p2 y3 y5).bind (ww_rl σ)) := by
    intro y3 y5
    unfold f_X6_luck_j109
    refine ww_lload_n (pc := 109) hC 1 rfl dX6_luck_109 rfl ?_
    refine ww_lload (pc := 110) hC 2 rfl dX6_luck_110 ?_
    refine ww_lsub (pc := 112) hC dX6_luck_112 ?_
    refine ww_lstore (pc := 113) (lv' := [(7, .long (y3 - y5)), (2, .int p2), (3, .long y3), (5, .long y5)]) hC dX6_luck_113 (by decide) rfl ?_
    refine ww_iconst (pc := 115) (v := 0) hC dX6_luck_115 rfl ?_
    refine ww_istore (pc := 116) (lv' := [(9, .int 0), (7, .long (y3 - y5)), (2, .int p2), (3, .long y3), (5, .long y5)]) hC dX6_luck_116 (by decide) rfl ?_
    refine ww_lv [2, 3, 1, 0] rfl ?_
    exact hJ118 y3 (y3 - y5) 0
  have hJ32 : ∀ (y3 : Int64) (y5 : Int64) (x7 : Int32), ww_V X Y ad G 10 σ 32 [(0, .ref (ad 0)), (1, .int p1), (2, .int p2), (3, .long y3), (5, .long y5), (7, .int x7)] [] ((f_X6_luck_j32 σ p1 p2 y3 y5 x7).bind (ww_rl σ)) := by
    intro y3 y5 x7
    unfold f_X6_luck_j32
    refine ww_assoc ?_
    refine ww_loop (f := f_X6_luck_b32 σ p1 p2) (fun a32 => σ) (fun a32 => [(0, .ref (ad 0)), (1, .int p1), (2, .int p2), (3, .long a32.1), (5, .long a32.2.1), (7, .int a32.2.2)]) (fun b32 => σ) (fun b32 => [(2, .int p2), (3, .long b32.1), (5, .long b32.2)]) 109 (fun b32 => ?_) (fun a32 KK32 hc32 hx32 => ?_) ww_F (y3, y5, x7)
    · exact hJ109 b32.1 b32.2
    · unfold f_X6_luck_b32
      refine ww_iload (pc := 32) hC 5 rfl dX6_luck_32 ?_
      refine ww_aload_n (pc := 34) hC 0 rfl dX6_luck_34 rfl ?_
      refine ww_getr (pc := 35) (Cl := RX6) (T := TX6) (N := 10) (j := 2) (ref := RX6) hC (hT 0 _ rfl) rfl inT_X6 (by decide) mw_300 rfl rfl dX6_luck_35 ?_
      refine ww_getr (pc := 38) (Cl := RX2) (T := TX2) (N := 17) (j := 4) (ref := RX2) hC ((ww_top_now hT) 0 _ rfl) rfl inT_X2 (by decide) mw_148 rfl rfl dX6_luck_38 ?_
      refine ww_iload_n (pc := 41) hC 1 rfl dX6_luck_41 rfl ?_
      refine ww_iald (pc := 42) hC ((ww_top_now hT) 5 _ rfl) dX6_luck_42 ?_
      refine ww_icmp_ge (pc := 43) (tgt := 109) hC dX6_luck_43 (by decide) ?_ ?_
      · refine ww_lv [2, 3, 4] rfl ?_
        exact hx32 (a32.1, a32.2.1)
      · refine ww_iload_n (pc := 46) hC 1 rfl dX6_luck_46 rfl ?_
        refine ww_iconst (pc := 47) (v := 3) hC dX6_luck_47 rfl ?_
        refine ww_imul (pc := 48) hC dX6_luck_48 ?_
        refine ww_iload (pc := 49) hC 5 rfl dX6_luck_49 ?_
        refine ww_iadd (pc := 51) hC dX6_luck_51 ?_
        refine ww_istore (pc := 52) (lv' := [(8, .int ((p1 * 3) + a32.2.2)), (0, .ref (ad 0)), (1, .int p1), (2, .int p2), (3, .long a32.1), (5, .long a32.2.1), (7, .int a32.2.2)]) hC dX6_luck_52 (by decide) rfl ?_
        refine ww_aload_n (pc := 54) hC 1 rfl dX6_luck_54 rfl ?_
        refine ww_getr (pc := 55) (Cl := RX6) (T := TX6) (N := 10) (j := 2) (ref := RX6) hC (hT 0 _ rfl) rfl inT_X6 (by decide) mw_300 rfl rfl dX6_luck_55 ?_
        refine ww_getr (pc := 58) (Cl := RX2) (T := TX2) (N := 17) (j := 6) (ref := RX2) hC ((ww_top_now hT) 0 _ rfl) rfl inT_X2 (by decide) mw_154 rfl rfl dX6_luck_58 ?_
        refine ww_iload (pc := 61) hC 0 rfl dX6_luck_61 ?_
        refine ww_iald (pc := 63) hC ((ww_top_now hT) 7 _ rfl) dX6_luck_63 ?_
        refine ww_if_le (pc := 64) (tgt := 103) hC dX6_luck_64 (by decide) ?_ ?_
        · refine ww_iinc (pc := 103) (v := a32.2.2 + 1) (lv' := [(7, .int (a32.2.2 + 1)), (8, .int ((p1 * 3) + a32.2.2)), (0, .ref (ad 0)), (1, .int p1), (2, .int p2), (3, .long a32.1), (5, .long a32.2.1)]) hC 6 rfl dX6_luck_103 rfl (by decide) rfl ?_
          refine ww_goto (pc := 106) (tgt := 32) hC dX6_luck_106 (by decide) ?_
          refine ww_lv [2, 3, 4, 5, 6, 0] rfl ?_
          exact hc32 (a32.1, a32.2.1, a32.2.2 + 1)
        · refine ww_aload_n (pc := 67) hC 1 rfl dX6_luck_67 rfl ?_
          refine ww_getr (pc := 68) (Cl := RX6) (T := TX6) (N := 10) (j := 2) (ref := RX6) hC (hT 0 _ rfl) rfl inT_X6 (by decide) mw_300 rfl rfl dX6_luck_68 ?_
          refine ww_iload_n (pc := 71) hC 2 rfl dX6_luck_71 rfl ?_
          refine ww_callVi (pc := 72) (st := []) (As := [.int p1]) hC (c_X2_isLost 4 (ww_top_now hT) σ p1) mm_X2_isLost mw_556 ((ww_top_now hT) 0 _ rfl) rfl (by omega) (by decide) (Nat.le_of_ble_eq_true rfl) rfl dX6_luck_72 (fun v72 => ?_)
          refine ww_if_ne (pc := 75) (tgt := 103) hC dX6_luck_75 (by decide) ?_ ?_
          · refine ww_iinc (pc := 103) (v := a32.2.2 + 1) (lv' := [(7, .int (a32.2.2 + 1)), (8, .int ((p1 * 3) + a32.2.2)), (0, .ref (ad 0)), (1, .int p1), (2, .int p2), (3, .long a32.1), (5, .long a32.2.1)]) hC 6 rfl dX6_luck_103 rfl (by decide) rfl ?_
            refine ww_goto (pc := 106) (tgt := 32) hC dX6_luck_106 (by decide) ?_
            refine ww_lv [2, 3, 4, 5, 6, 0] rfl ?_
            exact hc32 (a32.1, a32.2.1, a32.2.2 + 1)
          · refine ww_lload_n (pc := 78) hC 4 rfl dX6_luck_78 rfl ?_
            refine ww_ldc2 (pc := 79) hC dX6_luck_79 mw_799 ?_
            refine ww_lmul (pc := 82) hC dX6_luck_82 ?_
            refine ww_lstore_n (pc := 83) (lv' := [(3, .long (a32.1 * 8)), (8, .int ((p1 * 3) + a32.2.2)), (0, .ref (ad 0)), (1, .int p1), (2, .int p2), (5, .long a32.2.1), (7, .int a32.2.2)]) hC dX6_luck_83 rfl (by decide) rfl ?_
            refine ww_lload (pc := 84) hC 5 rfl dX6_luck_84 ?_
            refine ww_bipush (pc := 86) (v := 8) hC dX6_luck_86 rfl ?_
            refine ww_aload_n (pc := 88) hC 2 rfl dX6_luck_88 rfl ?_
            refine ww_getr (pc := 89) (Cl := RX6) (T := TX6) (N := 10) (j := 2) (ref := RX6) hC (hT 0 _ rfl) rfl inT_X6 (by decide) mw_300 rfl rfl dX6_luck_89 ?_
            refine ww_getr (pc := 92) (Cl := RX2) (T := TX2) (N := 17) (j := 7) (ref := RX2) hC ((ww_top_now hT) 0 _ rfl) rfl inT_X2 (by decide) mw_156 rfl rfl dX6_luck_92 ?_
            refine ww_iload (pc := 95) hC 1 rfl dX6_luck_95 ?_
            refine ww_iald (pc := 97) hC ((ww_top_now hT) 8 _ rfl) dX6_luck_97 ?_
            refine ww_isub (pc := 98) hC dX6_luck_98 ?_
            refine ww_i2l (pc := 99) hC dX6_luck_99 ?_
            refine ww_lmul (pc := 100) hC dX6_luck_100 ?_
            refine ww_lstore (pc := 101) (lv' := [(5, .long (a32.2.1 * ((8 - (σ (4 + 8) (ww_ix ((p1 * 3) + a32.2.2)))).toInt64))), (3, .long (a32.1 * 8)), (8, .int ((p1 * 3) + a32.2.2)), (0, .ref (ad 0)), (1, .int p1), (2, .int p2), (7, .int a32.2.2)]) hC dX6_luck_101 (by decide) rfl ?_
            refine ww_iinc (pc := 103) (v := a32.2.2 + 1) (lv' := [(7, .int (a32.2.2 + 1)), (5, .long (a32.2.1 * ((8 - (σ (4 + 8) (ww_ix ((p1 * 3) + a32.2.2)))).toInt64))), (3, .long (a32.1 * 8)), (8, .int ((p1 * 3) + a32.2.2)), (0, .ref (ad 0)), (1, .int p1), (2, .int p2)]) hC 6 rfl dX6_luck_103 rfl (by decide) rfl ?_
            refine ww_goto (pc := 106) (tgt := 32) hC dX6_luck_106 (by decide) ?_
            refine ww_lv [4, 5, 6, 2, 1, 0] rfl ?_
            exact hc32 (a32.1 * 8, a32.2.1 * ((8 - (σ (4 + 8) (ww_ix ((p1 * 3) + a32.2.2)))).toInt64), a32.2.2 + 1)
  unfold f_X6_luck
  refine ww_aload_n (pc := 0) hC 0 rfl dX6_luck_0 rfl ?_
  refine ww_getr (pc := 1) (Cl := RX6) (T := TX6) (N := 10) (j := 2) (ref := RX6) hC (hT 0 _ rfl) rfl inT_X6 (by decide) mw_300 rfl rfl dX6_luck_1 ?_
  refine ww_iload_n (pc := 4) hC 1 rfl dX6_luck_4 rfl ?_
  refine ww_callVi (pc := 5) (st := []) (As := [.int p1]) hC (c_X2_hasBeast 4 (ww_top_now hT) σ p1) mm_X2_hasBeast mw_552 ((ww_top_now hT) 0 _ rfl) rfl (by omega) (by decide) (Nat.le_of_ble_eq_true rfl) rfl dX6_luck_5 (fun v5 => ?_)
  refine ww_if_eq (pc := 8) (tgt := 20) hC dX6_luck_8 (by decide) ?_ ?_
  · refine ww_ldc2 (pc := 20) hC dX6_luck_20 mw_798 ?_
    exact ww_lreturn (pc := 23) hC hR dX6_luck_23 rfl
  · refine ww_iload_n (pc := 11) hC 2 rfl dX6_luck_11 rfl ?_
    refine ww_iconst (pc := 12) (v := 0) hC dX6_luck_12 rfl ?_
    refine ww_iconst (pc := 13) (v := 1) hC dX6_luck_13 rfl ?_
    refine ww_callSi (pc := 14) (st := []) (As := [.int p2, .int 0, .int 1]) hC (c_X6_within σ p2 0 1) mm_X6_within mw_333 (by omega) (by decide) (Nat.le_of_ble_eq_true rfl) rfl dX6_luck_14 (fun v14 => ?_)
    refine ww_if_ne (pc := 17) (tgt := 24) hC dX6_luck_17 (by decide) ?_ ?_
    · refine ww_lconst (pc := 24) (v := 1) hC dX6_luck_24 rfl ?_
      refine ww_lstore_n (pc := 25) (lv' := [(3, .long 1), (0, .ref (ad 0)), (1, .int p1), (2, .int p2)]) hC dX6_luck_25 rfl (by decide) rfl ?_
      refine ww_lconst (pc := 26) (v := 1) hC dX6_luck_26 rfl ?_
      refine ww_lstore (pc := 27) (lv' := [(5, .long 1), (3, .long 1), (0, .ref (ad 0)), (1, .int p1), (2, .int p2)]) hC dX6_luck_27 (by decide) rfl ?_
      refine ww_iconst (pc := 29) (v := 0) hC dX6_luck_29 rfl ?_
      refine ww_istore (pc := 30) (lv' := [(7, .int 0), (5, .long 1), (3, .long 1), (0, .ref (ad 0)), (1, .int p1), (2, .int p2)]) hC dX6_luck_30 (by decide) rfl ?_
      refine ww_lv [3, 4, 5, 2, 1, 0] rfl ?_
      exact hJ32 1 1 0
    · refine ww_ldc2 (pc := 20) hC dX6_luck_20 mw_798 ?_
      exact ww_lreturn (pc := 23) hC hR dX6_luck_23 rfl
theorem dX6_open_0 : decode cX6_open 0 = .ok (.iconst (-1), 1) := by decide +kernel
theorem dX6_open_1 : decode cX6_open 1 = .ok (.istore_n 1, 1) := by decide +kernel
theorem dX6_open_2 : decode cX6_open 2 = .ok (.iconst 0, 1) := by decide +kernel
theorem dX6_open_3 : decode cX6_open 3 = .ok (.istore_n 2, 1) := by decide +kernel
theorem dX6_open_4 : decode cX6_open 4 = .ok (.iload_n 2, 1) := by decide +kernel
theorem dX6_open_5 : decode cX6_open 5 = .ok (.bipush 9, 2) := by decide +kernel
theorem dX6_open_7 : decode cX6_open 7 = .ok (.if_icmp .ge 39, 3) := by decide +kernel
theorem dX6_open_10 : decode cX6_open 10 = .ok (.aload_n 0, 1) := by decide +kernel
theorem dX6_open_11 : decode cX6_open 11 = .ok (.getfield 26, 3) := by decide +kernel
theorem dX6_open_14 : decode cX6_open 14 = .ok (.iload_n 2, 1) := by decide +kernel
theorem dX6_open_15 : decode cX6_open 15 = .ok (.invokevirtual 157, 3) := by decide +kernel
theorem dX6_open_18 : decode cX6_open 18 = .ok (.ifCond .eq 22, 3) := by decide +kernel
theorem dX6_open_21 : decode cX6_open 21 = .ok (.iload_n 1, 1) := by decide +kernel
theorem dX6_open_22 : decode cX6_open 22 = .ok (.iconst (-1), 1) := by decide +kernel
theorem dX6_open_23 : decode cX6_open 23 = .ok (.if_icmp .eq 15, 3) := by decide +kernel
theorem dX6_open_26 : decode cX6_open 26 = .ok (.aload_n 0, 1) := by decide +kernel
theorem dX6_open_27 : decode cX6_open 27 = .ok (.getfield 26, 3) := by decide +kernel
theorem dX6_open_30 : decode cX6_open 30 = .ok (.iload_n 2, 1) := by decide +kernel
theorem dX6_open_31 : decode cX6_open 31 = .ok (.iload_n 1, 1) := by decide +kernel
theorem dX6_open_32 : decode cX6_open 32 = .ok (.invokevirtual 209, 3) := by decide +kernel
theorem dX6_open_35 : decode cX6_open 35 = .ok (.ifCond .eq 5, 3) := by decide +kernel
theorem dX6_open_38 : decode cX6_open 38 = .ok (.iload_n 2, 1) := by decide +kernel
theorem dX6_open_39 : decode cX6_open 39 = .ok (.istore_n 1, 1) := by decide +kernel
theorem dX6_open_40 : decode cX6_open 40 = .ok (.iinc 2 1, 3) := by decide +kernel
theorem dX6_open_43 : decode cX6_open 43 = .ok (.goto (-39), 3) := by decide +kernel
theorem dX6_open_46 : decode cX6_open 46 = .ok (.iload_n 1, 1) := by decide +kernel
theorem dX6_open_47 : decode cX6_open 47 = .ok (.iconst (-1), 1) := by decide +kernel
theorem dX6_open_48 : decode cX6_open 48 = .ok (.if_icmp .ne 8, 3) := by decide +kernel
theorem dX6_open_51 : decode cX6_open 51 = .ok (.bipush (-4), 2) := by decide +kernel
theorem dX6_open_53 : decode cX6_open 53 = .ok (.goto 7, 3) := by decide +kernel
theorem dX6_open_56 : decode cX6_open 56 = .ok (.iload_n 1, 1) := by decide +kernel
theorem dX6_open_57 : decode cX6_open 57 = .ok (.invokestatic 212, 3) := by decide +kernel
theorem dX6_open_60 : decode cX6_open 60 = .ok (.ireturn, 1) := by decide +kernel
set_option maxHeartbeats 4000000 in
set_option maxRecDepth 100000 in
theorem c_X6_open {l : Launch} {Y : ww_Y} {ad : Nat → Nat} {G : List ww_L} (hT : ww_at G 0 ww_LTop) (σ : ww_M) : ww_Cn l Y ad G yX6_open cX6_open 3 (some .int) 5 [.ref (ad 0)] σ ((f_X6_open σ).bind (ww_ri σ)) := by
  refine ww_met (by decide +kernel) (Nat.le_of_ble_eq_true rfl) ?_
  intro X hC hR
  have hC : ww_C X l Y ad G 5 cX6_open 3 RX6 := hC
  show ww_V X Y ad G 3 σ 0 [(0, .ref (ad 0))] [] ((f_X6_open σ).bind (ww_ri σ))
  have hJ46 : ∀ (x1 : Int32), ww_V X Y ad G 3 σ 46 [(1, .int x1)] [] ((f_X6_open_j46 σ x1).bind (ww_ri σ)) := by
    intro x1
    unfold f_X6_open_j46
    refine ww_iload_n (pc := 46) hC 0 rfl dX6_open_46 rfl ?_
    refine ww_iconst (pc := 47) (v := (-1)) hC dX6_open_47 rfl ?_
    refine ww_icmp_ne (pc := 48) (tgt := 56) hC dX6_open_48 (by decide) ?_ ?_
    · refine ww_iload_n (pc := 56) hC 0 rfl dX6_open_56 rfl ?_
      refine ww_callSi (pc := 57) (st := []) (As := [.int x1]) hC (c_X6_numberOf σ x1) mm_X6_numberOf mw_809 (by omega) (by decide) (Nat.le_of_ble_eq_true rfl) rfl dX6_open_57 (fun v57 => ?_)
      exact ww_ireturn (pc := 60) hC hR dX6_open_60 rfl
    · refine ww_bipush (pc := 51) (v := (-4)) hC dX6_open_51 rfl ?_
      refine ww_goto (pc := 53) (tgt := 60) hC dX6_open_53 (by decide) ?_
      exact ww_ireturn (pc := 60) hC hR dX6_open_60 rfl
  have hJ4 : ∀ (x1 : Int32) (x2 : Int32), ww_V X Y ad G 3 σ 4 [(0, .ref (ad 0)), (1, .int x1), (2, .int x2)] [] ((f_X6_open_j4 σ x1 x2).bind (ww_ri σ)) := by
    intro x1 x2
    unfold f_X6_open_j4
    refine ww_assoc ?_
    refine ww_loop (f := f_X6_open_b4 σ) (fun a4 => σ) (fun a4 => [(0, .ref (ad 0)), (1, .int a4.1), (2, .int a4.2)]) (fun b4 => σ) (fun b4 => [(1, .int b4)]) 46 (fun b4 => ?_) (fun a4 KK4 hc4 hx4 => ?_) ww_F (x1, x2)
    · exact hJ46 b4
    · unfold f_X6_open_b4
      refine ww_iload_n (pc := 4) hC 2 rfl dX6_open_4 rfl ?_
      refine ww_bipush (pc := 5) (v := 9) hC dX6_open_5 rfl ?_
      refine ww_icmp_ge (pc := 7) (tgt := 46) hC dX6_open_7 (by decide) ?_ ?_
      · refine ww_lv [1] rfl ?_
        exact hx4 a4.1
      · refine ww_aload_n (pc := 10) hC 0 rfl dX6_open_10 rfl ?_
        refine ww_getr (pc := 11) (Cl := RX6) (T := TX6) (N := 10) (j := 2) (ref := RX6) hC (hT 0 _ rfl) rfl inT_X6 (by decide) mw_300 rfl rfl dX6_open_11 ?_
        refine ww_iload_n (pc := 14) hC 2 rfl dX6_open_14 rfl ?_
        refine ww_callVi (pc := 15) (st := []) (As := [.int a4.2]) hC (c_X2_canWork 4 (ww_top_now hT) σ a4.2) mm_X2_canWork mw_576 ((ww_top_now hT) 0 _ rfl) rfl (by omega) (by decide) (Nat.le_of_ble_eq_true rfl) rfl dX6_open_15 (fun v15 => ?_)
        refine ww_if_eq (pc := 18) (tgt := 40) hC dX6_open_18 (by decide) ?_ ?_
        · refine ww_iinc (pc := 40) (v := a4.2 + 1) (lv' := [(2, .int (a4.2 + 1)), (0, .ref (ad 0)), (1, .int a4.1)]) hC 2 rfl dX6_open_40 rfl (by decide) rfl ?_
          refine ww_goto (pc := 43) (tgt := 4) hC dX6_open_43 (by decide) ?_
          refine ww_lv [1, 2, 0] rfl ?_
          exact hc4 (a4.1, a4.2 + 1)
        · refine ww_iload_n (pc := 21) hC 1 rfl dX6_open_21 rfl ?_
          refine ww_iconst (pc := 22) (v := (-1)) hC dX6_open_22 rfl ?_
          refine ww_icmp_eq (pc := 23) (tgt := 38) hC dX6_open_23 (by decide) ?_ ?_
          · refine ww_iload_n (pc := 38) hC 2 rfl dX6_open_38 rfl ?_
            refine ww_istore_n (pc := 39) (lv' := [(1, .int a4.2), (0, .ref (ad 0)), (2, .int a4.2)]) hC dX6_open_39 rfl (by decide) rfl ?_
            refine ww_iinc (pc := 40) (v := a4.2 + 1) (lv' := [(2, .int (a4.2 + 1)), (1, .int a4.2), (0, .ref (ad 0))]) hC 2 rfl dX6_open_40 rfl (by decide) rfl ?_
            refine ww_goto (pc := 43) (tgt := 4) hC dX6_open_43 (by decide) ?_
            refine ww_lv [2, 1, 0] rfl ?_
            exact hc4 (a4.2, a4.2 + 1)
          · refine ww_aload_n (pc := 26) hC 0 rfl dX6_open_26 rfl ?_
            refine ww_getr (pc := 27) (Cl := RX6) (T := TX6) (N := 10) (j := 2) (ref := RX6) hC (hT 0 _ rfl) rfl inT_X6 (by decide) mw_300 rfl rfl dX6_open_27 ?_
            refine ww_iload_n (pc := 30) hC 2 rfl dX6_open_30 rfl ?_
            refine ww_iload_n (pc := 31) hC 1 rfl dX6_open_31 rfl ?_
            refine ww_callVi (pc := 32) (st := []) (As := [.int a4.2, .int a4.1]) hC (c_X2_isRicher 4 (ww_top_now hT) σ a4.2 a4.1) mm_X2_isRicher mw_805 ((ww_top_now hT) 0 _ rfl) rfl (by omega) (by decide) (Nat.le_of_ble_eq_true rfl) rfl dX6_open_32 (fun v32 => ?_)
            refine ww_if_eq (pc := 35) (tgt := 40) hC dX6_open_35 (by decide) ?_ ?_
            · refine ww_iinc (pc := 40) (v := a4.2 + 1) (lv' := [(2, .int (a4.2 + 1)), (0, .ref (ad 0)), (1, .int a4.1)]) hC 2 rfl dX6_open_40 rfl (by decide) rfl ?_
              refine ww_goto (pc := 43) (tgt := 4) hC dX6_open_43 (by decide) ?_
              refine ww_lv [1, 2, 0] rfl ?_
              exact hc4 (a4.1, a4.2 + 1)
            · refine ww_iload_n (pc := 38) hC 2 rfl dX6_open_38 rfl ?_
              refine ww_istore_n (pc := 39) (lv' := [(1, .int a4.2), (0, .ref (ad 0)), (2, .int a4.2)]) hC dX6_open_39 rfl (by decide) rfl ?_
              refine ww_iinc (pc := 40) (v := a4.2 + 1) (lv' := [(2, .int (a4.2 + 1)), (1, .int a4.2), (0, .ref (ad 0))]) hC 2 rfl dX6_open_40 rfl (by decide) rfl ?_
              refine ww_goto (pc := 43) (tgt := 4) hC dX6_open_43 (by decide) ?_
              refine ww_lv [2, 1, 0] rfl ?_
              exact hc4 (a4.2, a4.2 + 1)
  unfold f_X6_open
  refine ww_iconst (pc := 0) (v := (-1)) hC dX6_open_0 rfl ?_
  refine ww_istore_n (pc := 1) (lv' := [(1, .int (-1)), (0, .ref (ad 0))]) hC dX6_open_1 rfl (by decide) rfl ?_
  refine ww_iconst (pc := 2) (v := 0) hC dX6_open_2 rfl ?_
  refine ww_istore_n (pc := 3) (lv' := [(2, .int 0), (1, .int (-1)), (0, .ref (ad 0))]) hC dX6_open_3 rfl (by decide) rfl ?_
  refine ww_lv [2, 1, 0] rfl ?_
  exact hJ4 (-1) 0
theorem dX6_drift_0 : decode cX6_drift 0 = .ok (.iload_n 2, 1) := by decide +kernel
theorem dX6_drift_1 : decode cX6_drift 1 = .ok (.iconst 1, 1) := by decide +kernel
theorem dX6_drift_2 : decode cX6_drift 2 = .ok (.bipush 60, 2) := by decide +kernel
theorem dX6_drift_4 : decode cX6_drift 4 = .ok (.invokestatic 61, 3) := by decide +kernel
theorem dX6_drift_7 : decode cX6_drift 7 = .ok (.ifCond .eq 12, 3) := by decide +kernel
theorem dX6_drift_10 : decode cX6_drift 10 = .ok (.iload_n 3, 1) := by decide +kernel
theorem dX6_drift_11 : decode cX6_drift 11 = .ok (.iconst 0, 1) := by decide +kernel
theorem dX6_drift_12 : decode cX6_drift 12 = .ok (.iconst 1, 1) := by decide +kernel
theorem dX6_drift_13 : decode cX6_drift 13 = .ok (.invokestatic 61, 3) := by decide +kernel
theorem dX6_drift_16 : decode cX6_drift 16 = .ok (.ifCond .ne 5, 3) := by decide +kernel
theorem dX6_drift_19 : decode cX6_drift 19 = .ok (.iconst (-1), 1) := by decide +kernel
theorem dX6_drift_20 : decode cX6_drift 20 = .ok (.ireturn, 1) := by decide +kernel
theorem dX6_drift_21 : decode cX6_drift 21 = .ok (.aload_n 0, 1) := by decide +kernel
theorem dX6_drift_22 : decode cX6_drift 22 = .ok (.getfield 30, 3) := by decide +kernel
theorem dX6_drift_25 : decode cX6_drift 25 = .ok (.aload_n 0, 1) := by decide +kernel
theorem dX6_drift_26 : decode cX6_drift 26 = .ok (.getfield 26, 3) := by decide +kernel
theorem dX6_drift_29 : decode cX6_drift 29 = .ok (.invokevirtual 83, 3) := by decide +kernel
theorem dX6_drift_32 : decode cX6_drift 32 = .ok (.iconst 0, 1) := by decide +kernel
theorem dX6_drift_33 : decode cX6_drift 33 = .ok (.istore 4, 2) := by decide +kernel
theorem dX6_drift_35 : decode cX6_drift 35 = .ok (.iload_n 1, 1) := by decide +kernel
theorem dX6_drift_36 : decode cX6_drift 36 = .ok (.istore 5, 2) := by decide +kernel
theorem dX6_drift_38 : decode cX6_drift 38 = .ok (.iconst 0, 1) := by decide +kernel
theorem dX6_drift_39 : decode cX6_drift 39 = .ok (.istore 6, 2) := by decide +kernel
theorem dX6_drift_41 : decode cX6_drift 41 = .ok (.iload 6, 2) := by decide +kernel
theorem dX6_drift_43 : decode cX6_drift 43 = .ok (.iload_n 2, 1) := by decide +kernel
theorem dX6_drift_44 : decode cX6_drift 44 = .ok (.if_icmp .ge 77, 3) := by decide +kernel
theorem dX6_drift_47 : decode cX6_drift 47 = .ok (.iload 5, 2) := by decide +kernel
theorem dX6_drift_49 : decode cX6_drift 49 = .ok (.ldc 215, 2) := by decide +kernel
theorem dX6_drift_51 : decode cX6_drift 51 = .ok (.imul, 1) := by decide +kernel
theorem dX6_drift_52 : decode cX6_drift 52 = .ok (.sipush 12345, 3) := by decide +kernel
theorem dX6_drift_55 : decode cX6_drift 55 = .ok (.iadd, 1) := by decide +kernel
theorem dX6_drift_56 : decode cX6_drift 56 = .ok (.istore 5, 2) := by decide +kernel
theorem dX6_drift_58 : decode cX6_drift 58 = .ok (.aload_n 0, 1) := by decide +kernel
theorem dX6_drift_59 : decode cX6_drift 59 = .ok (.getfield 30, 3) := by decide +kernel
theorem dX6_drift_62 : decode cX6_drift 62 = .ok (.invokevirtual 216, 3) := by decide +kernel
theorem dX6_drift_65 : decode cX6_drift 65 = .ok (.iconst 1, 1) := by decide +kernel
theorem dX6_drift_66 : decode cX6_drift 66 = .ok (.iadd, 1) := by decide +kernel
theorem dX6_drift_67 : decode cX6_drift 67 = .ok (.istore 7, 2) := by decide +kernel
theorem dX6_drift_69 : decode cX6_drift 69 = .ok (.iload 7, 2) := by decide +kernel
theorem dX6_drift_71 : decode cX6_drift 71 = .ok (.iconst 1, 1) := by decide +kernel
theorem dX6_drift_72 : decode cX6_drift 72 = .ok (.if_icmp .ge 7, 3) := by decide +kernel
theorem dX6_drift_75 : decode cX6_drift 75 = .ok (.iconst 0, 1) := by decide +kernel
theorem dX6_drift_76 : decode cX6_drift 76 = .ok (.goto 15, 3) := by decide +kernel
theorem dX6_drift_79 : decode cX6_drift 79 = .ok (.iload 5, 2) := by decide +kernel
theorem dX6_drift_81 : decode cX6_drift 81 = .ok (.bipush 16, 2) := by decide +kernel
theorem dX6_drift_83 : decode cX6_drift 83 = .ok (.iushr, 1) := by decide +kernel
theorem dX6_drift_84 : decode cX6_drift 84 = .ok (.sipush 32767, 3) := by decide +kernel
theorem dX6_drift_87 : decode cX6_drift 87 = .ok (.iand, 1) := by decide +kernel
theorem dX6_drift_88 : decode cX6_drift 88 = .ok (.iload 7, 2) := by decide +kernel
theorem dX6_drift_90 : decode cX6_drift 90 = .ok (.irem, 1) := by decide +kernel
theorem dX6_drift_91 : decode cX6_drift 91 = .ok (.istore 8, 2) := by decide +kernel
theorem dX6_drift_93 : decode cX6_drift 93 = .ok (.iload 4, 2) := by decide +kernel
theorem dX6_drift_95 : decode cX6_drift 95 = .ok (.aload_n 0, 1) := by decide +kernel
theorem dX6_drift_96 : decode cX6_drift 96 = .ok (.getfield 30, 3) := by decide +kernel
theorem dX6_drift_99 : decode cX6_drift 99 = .ok (.aload_n 0, 1) := by decide +kernel
theorem dX6_drift_100 : decode cX6_drift 100 = .ok (.getfield 30, 3) := by decide +kernel
theorem dX6_drift_103 : decode cX6_drift 103 = .ok (.iload 8, 2) := by decide +kernel
theorem dX6_drift_105 : decode cX6_drift 105 = .ok (.invokevirtual 219, 3) := by decide +kernel
theorem dX6_drift_108 : decode cX6_drift 108 = .ok (.iconst (-1), 1) := by decide +kernel
theorem dX6_drift_109 : decode cX6_drift 109 = .ok (.invokevirtual 167, 3) := by decide +kernel
theorem dX6_drift_112 : decode cX6_drift 112 = .ok (.iadd, 1) := by decide +kernel
theorem dX6_drift_113 : decode cX6_drift 113 = .ok (.istore 4, 2) := by decide +kernel
theorem dX6_drift_115 : decode cX6_drift 115 = .ok (.iinc 6 1, 3) := by decide +kernel
theorem dX6_drift_118 : decode cX6_drift 118 = .ok (.goto (-77), 3) := by decide +kernel
theorem dX6_drift_121 : decode cX6_drift 121 = .ok (.iload_n 3, 1) := by decide +kernel
theorem dX6_drift_122 : decode cX6_drift 122 = .ok (.ifCond .ne 8, 3) := by decide +kernel
theorem dX6_drift_125 : decode cX6_drift 125 = .ok (.iload 4, 2) := by decide +kernel
theorem dX6_drift_127 : decode cX6_drift 127 = .ok (.goto 13, 3) := by decide +kernel
theorem dX6_drift_130 : decode cX6_drift 130 = .ok (.aload_n 0, 1) := by decide +kernel
theorem dX6_drift_131 : decode cX6_drift 131 = .ok (.getfield 30, 3) := by decide +kernel
theorem dX6_drift_134 : decode cX6_drift 134 = .ok (.getfield 222, 3) := by decide +kernel
theorem dX6_drift_137 : decode cX6_drift 137 = .ok (.invokestatic 225, 3) := by decide +kernel
theorem dX6_drift_140 : decode cX6_drift 140 = .ok (.ireturn, 1) := by decide +kernel
set_option maxHeartbeats 4000000 in
set_option maxRecDepth 100000 in
theorem c_X6_drift {l : Launch} {Y : ww_Y} {ad : Nat → Nat} {G : List ww_L} (hT : ww_at G 0 ww_LTop) (σ : ww_M) (p1 : Int32) (p2 : Int32) (p3 : Int32) : ww_Cn l Y ad G yX6_drift cX6_drift 9 (some .int) 7 [.ref (ad 0), .int p1, .int p2, .int p3] σ ((f_X6_drift σ p1 p2 p3).bind ww_rw) := by
  refine ww_met (by decide +kernel) (Nat.le_of_ble_eq_true rfl) ?_
  intro X hC hR
  have hC : ww_C X l Y ad G 7 cX6_drift 9 RX6 := hC
  show ww_V X Y ad G 9 σ 0 [(0, .ref (ad 0)), (1, .int p1), (2, .int p2), (3, .int p3)] [] ((f_X6_drift σ p1 p2 p3).bind ww_rw)
  have hJ121 : ∀ (σ : ww_M) (x4 : Int32), ww_V X Y ad G 9 σ 121 [(0, .ref (ad 0)), (3, .int p3), (4, .int x4)] [] ((f_X6_drift_j121 σ p1 p2 p3 x4).bind ww_rw) := by
    intro σ x4
    unfold f_X6_drift_j121
    refine ww_iload_n (pc := 121) hC 1 rfl dX6_drift_121 rfl ?_
    refine ww_if_ne (pc := 122) (tgt := 130) hC dX6_drift_122 (by decide) ?_ ?_
    · refine ww_aload_n (pc := 130) hC 0 rfl dX6_drift_130 rfl ?_
      refine ww_getr (pc := 131) (Cl := RX6) (T := TX6) (N := 10) (j := 3) (ref := RX6) hC (hT 0 _ rfl) rfl inT_X6 (by decide) mw_301 rfl rfl dX6_drift_131 ?_
      refine ww_geti (pc := 134) (Cl := RX2) (T := TX2) (N := 17) (j := 16) (ref := RX2) hC ((ww_top_spare hT) 0 _ rfl) rfl inT_X2 (by decide) mw_182 rfl rfl dX6_drift_134 ?_
      refine ww_callSi (pc := 137) (st := []) (As := [.int (σ 14 16)]) hC (c_J6_bitCount_0f7a4 σ (σ 14 16)) mm_J6_bitCount_0f7a4 mw_823 (by omega) (by decide) (Nat.le_of_ble_eq_true rfl) rfl dX6_drift_137 (fun v137 => ?_)
      exact ww_ireturn (pc := 140) hC hR dX6_drift_140 rfl
    · refine ww_iload (pc := 125) hC 2 rfl dX6_drift_125 ?_
      refine ww_goto (pc := 127) (tgt := 140) hC dX6_drift_127 (by decide) ?_
      exact ww_ireturn (pc := 140) hC hR dX6_drift_140 rfl
  have hJ41 : ∀ (σ : ww_M) (x4 : Int32) (x5 : Int32) (x6 : Int32), ww_V X Y ad G 9 σ 41 [(0, .ref (ad 0)), (2, .int p2), (3, .int p3), (4, .int x4), (5, .int x5), (6, .int x6)] [] ((f_X6_drift_j41 σ p1 p2 p3 x4 x5 x6).bind ww_rw) := by
    intro σ x4 x5 x6
    unfold f_X6_drift_j41
    refine ww_assoc ?_
    refine ww_loop (f := f_X6_drift_b41 p1 p2 p3) (fun a41 => a41.2.2.2) (fun a41 => [(0, .ref (ad 0)), (2, .int p2), (3, .int p3), (4, .int a41.1), (5, .int a41.2.1), (6, .int a41.2.2.1)]) (fun b41 => b41.2) (fun b41 => [(0, .ref (ad 0)), (3, .int p3), (4, .int b41.1)]) 121 (fun b41 => ?_) (fun a41 KK41 hc41 hx41 => ?_) ww_F (x4, x5, x6, σ)
    · exact hJ121 b41.2 b41.1
    · unfold f_X6_drift_b41
      have hJ91 : ∀ (σ : ww_M) (x4 : Int32) (x5 : Int32) (x6 : Int32) (s0 : Int32), ww_V X Y ad G 9 σ 91 [(0, .ref (ad 0)), (2, .int p2), (3, .int p3), (4, .int x4), (5, .int x5), (6, .int x6)] [.int s0] ((f_X6_drift_j91 σ p1 p2 p3 x4 x5 x6 s0).bind KK41) := by
        intro σ x4 x5 x6 s0
        unfold f_X6_drift_j91
        refine ww_istore (pc := 91) (lv' := [(8, .int s0), (0, .ref (ad 0)), (2, .int p2), (3, .int p3), (4, .int x4), (5, .int x5), (6, .int x6)]) hC dX6_drift_91 (by decide) rfl ?_
        refine ww_iload (pc := 93) hC 4 rfl dX6_drift_93 ?_
        refine ww_aload_n (pc := 95) hC 1 rfl dX6_drift_95 rfl ?_
        refine ww_getr (pc := 96) (Cl := RX6) (T := TX6) (N := 10) (j := 3) (ref := RX6) hC (hT 0 _ rfl) rfl inT_X6 (by decide) mw_301 rfl rfl dX6_drift_96 ?_
        refine ww_aload_n (pc := 99) hC 1 rfl dX6_drift_99 rfl ?_
        refine ww_getr (pc := 100) (Cl := RX6) (T := TX6) (N := 10) (j := 3) (ref := RX6) hC (hT 0 _ rfl) rfl inT_X6 (by decide) mw_301 rfl rfl dX6_drift_100 ?_
        refine ww_iload (pc := 103) hC 0 rfl dX6_drift_103 ?_
        refine ww_callVi (pc := 105) (st := [.ref (ad 14), .int x4]) (As := [.int s0]) hC (c_X2_workableSlot 14 (ww_top_spare hT) σ s0) mm_X2_workableSlot mw_819 ((ww_top_spare hT) 0 _ rfl) rfl (by omega) (by decide) (Nat.le_of_ble_eq_true rfl) rfl dX6_drift_105 (fun v105 => ?_)
        refine ww_iconst (pc := 108) (v := (-1)) hC dX6_drift_108 rfl ?_
        refine ww_callVw (pc := 109) (st := [.int x4]) (As := [.int v105, .int (-1)]) hC (c_X2_hourGoes 14 (ww_top_spare hT) σ v105 (-1)) mm_X2_hourGoes mw_639 ((ww_top_spare hT) 0 _ rfl) rfl (by omega) (by decide) (Nat.le_of_ble_eq_true rfl) rfl dX6_drift_109 (fun v109 => ?_)
        refine ww_iadd (pc := 112) hC dX6_drift_112 ?_
        refine ww_istore (pc := 113) (lv' := [(4, .int (x4 + v109.1)), (8, .int s0), (0, .ref (ad 0)), (2, .int p2), (3, .int p3), (5, .int x5), (6, .int x6)]) hC dX6_drift_113 (by decide) rfl ?_
        refine ww_iinc (pc := 115) (v := x6 + 1) (lv' := [(6, .int (x6 + 1)), (4, .int (x4 + v109.1)), (8, .int s0), (0, .ref (ad 0)), (2, .int p2), (3, .int p3), (5, .int x5)]) hC 6 rfl dX6_drift_115 rfl (by decide) rfl ?_
        refine ww_goto (pc := 118) (tgt := 41) hC dX6_drift_118 (by decide) ?_
        refine ww_lv [3, 4, 5, 1, 6, 0] rfl ?_
        exact hc41 (x4 + v109.1, x5, x6 + 1, v109.2)
      refine ww_iload (pc := 41) hC 5 rfl dX6_drift_41 ?_
      refine ww_iload_n (pc := 43) hC 1 rfl dX6_drift_43 rfl ?_
      refine ww_icmp_ge (pc := 44) (tgt := 121) hC dX6_drift_44 (by decide) ?_ ?_
      · refine ww_lv [0, 2, 3] rfl ?_
        exact hx41 (a41.1, a41.2.2.2)
      · refine ww_iload (pc := 47) hC 4 rfl dX6_drift_47 ?_
        refine ww_ldc (pc := 49) hC dX6_drift_49 mw_814 ?_
        refine ww_imul (pc := 51) hC dX6_drift_51 ?_
        refine ww_sipush (pc := 52) (v := 12345) hC dX6_drift_52 rfl ?_
        refine ww_iadd (pc := 55) hC dX6_drift_55 ?_
        refine ww_istore (pc := 56) (lv' := [(5, .int ((a41.2.1 * 1103515245) + 12345)), (0, .ref (ad 0)), (2, .int p2), (3, .int p3), (4, .int a41.1), (6, .int a41.2.2.1)]) hC dX6_drift_56 (by decide) rfl ?_
        refine ww_aload_n (pc := 58) hC 1 rfl dX6_drift_58 rfl ?_
        refine ww_getr (pc := 59) (Cl := RX6) (T := TX6) (N := 10) (j := 3) (ref := RX6) hC (hT 0 _ rfl) rfl inT_X6 (by decide) mw_301 rfl rfl dX6_drift_59 ?_
        refine ww_callVi (pc := 62) (st := []) (As := []) hC (c_X2_workableParts 14 (ww_top_spare hT) a41.2.2.2) mm_X2_workableParts mw_815 ((ww_top_spare hT) 0 _ rfl) rfl (by omega) (by decide) (Nat.le_of_ble_eq_true rfl) rfl dX6_drift_62 (fun v62 => ?_)
        refine ww_iconst (pc := 65) (v := 1) hC dX6_drift_65 rfl ?_
        refine ww_iadd (pc := 66) hC dX6_drift_66 ?_
        refine ww_istore (pc := 67) (lv' := [(7, .int (v62 + 1)), (5, .int ((a41.2.1 * 1103515245) + 12345)), (0, .ref (ad 0)), (2, .int p2), (3, .int p3), (4, .int a41.1), (6, .int a41.2.2.1)]) hC dX6_drift_67 (by decide) rfl ?_
        refine ww_iload (pc := 69) hC 0 rfl dX6_drift_69 ?_
        refine ww_iconst (pc := 71) (v := 1) hC dX6_drift_71 rfl ?_
        refine ww_icmp_ge (pc := 72) (tgt := 79) hC dX6_drift_72 (by decide) ?_ ?_
        · refine ww_iload (pc := 79) hC 1 rfl dX6_drift_79 ?_
          refine ww_bipush (pc := 81) (v := 16) hC dX6_drift_81 rfl ?_
          refine ww_iushr (pc := 83) hC dX6_drift_83 ?_
          refine ww_sipush (pc := 84) (v := 32767) hC dX6_drift_84 rfl ?_
          refine ww_iand (pc := 87) hC dX6_drift_87 ?_
          refine ww_iload (pc := 88) hC 0 rfl dX6_drift_88 ?_
          refine ww_irem (pc := 90) hC dX6_drift_90 ?_
          refine ww_lv [2, 3, 4, 5, 1, 6] rfl ?_
          exact hJ91 a41.2.2.2 a41.1 ((a41.2.1 * 1103515245) + 12345) a41.2.2.1 (ww_rem ((ww_ushr ((a41.2.1 * 1103515245) + 12345) 16) &&& 32767) (v62 + 1))
        · refine ww_iconst (pc := 75) (v := 0) hC dX6_drift_75 rfl ?_
          refine ww_goto (pc := 76) (tgt := 91) hC dX6_drift_76 (by decide) ?_
          refine ww_lv [2, 3, 4, 5, 1, 6] rfl ?_
          exact hJ91 a41.2.2.2 a41.1 ((a41.2.1 * 1103515245) + 12345) a41.2.2.1 0
  unfold f_X6_drift
  refine ww_iload_n (pc := 0) hC 2 rfl dX6_drift_0 rfl ?_
  refine ww_iconst (pc := 1) (v := 1) hC dX6_drift_1 rfl ?_
  refine ww_bipush (pc := 2) (v := 60) hC dX6_drift_2 rfl ?_
  refine ww_callSi (pc := 4) (st := []) (As := [.int p2, .int 1, .int 60]) hC (c_X6_within σ p2 1 60) mm_X6_within mw_333 (by omega) (by decide) (Nat.le_of_ble_eq_true rfl) rfl dX6_drift_4 (fun v4 => ?_)
  refine ww_if_eq (pc := 7) (tgt := 19) hC dX6_drift_7 (by decide) ?_ ?_
  · refine ww_iconst (pc := 19) (v := (-1)) hC dX6_drift_19 rfl ?_
    exact ww_ireturn (pc := 20) hC hR dX6_drift_20 rfl
  · refine ww_iload_n (pc := 10) hC 3 rfl dX6_drift_10 rfl ?_
    refine ww_iconst (pc := 11) (v := 0) hC dX6_drift_11 rfl ?_
    refine ww_iconst (pc := 12) (v := 1) hC dX6_drift_12 rfl ?_
    refine ww_callSi (pc := 13) (st := []) (As := [.int p3, .int 0, .int 1]) hC (c_X6_within σ p3 0 1) mm_X6_within mw_333 (by omega) (by decide) (Nat.le_of_ble_eq_true rfl) rfl dX6_drift_13 (fun v13 => ?_)
    refine ww_if_ne (pc := 16) (tgt := 21) hC dX6_drift_16 (by decide) ?_ ?_
    · refine ww_aload_n (pc := 21) hC 0 rfl dX6_drift_21 rfl ?_
      refine ww_getr (pc := 22) (Cl := RX6) (T := TX6) (N := 10) (j := 3) (ref := RX6) hC (hT 0 _ rfl) rfl inT_X6 (by decide) mw_301 rfl rfl dX6_drift_22 ?_
      refine ww_aload_n (pc := 25) hC 0 rfl dX6_drift_25 rfl ?_
      refine ww_getr (pc := 26) (Cl := RX6) (T := TX6) (N := 10) (j := 2) (ref := RX6) hC (hT 0 _ rfl) rfl inT_X6 (by decide) mw_300 rfl rfl dX6_drift_26 ?_
      refine ww_callVv (pc := 29) (st := []) (As := [.ref (ad 4)]) hC (c_X2_copyFrom 14 (ww_top_spare hT) 4 (ww_top_now hT) σ) mm_X2_copyFrom mw_494 ((ww_top_spare hT) 0 _ rfl) rfl (by omega) (by decide) (Nat.le_of_ble_eq_true rfl) rfl dX6_drift_29 (fun v29 => ?_)
      refine ww_iconst (pc := 32) (v := 0) hC dX6_drift_32 rfl ?_
      refine ww_istore (pc := 33) (lv' := [(4, .int 0), (0, .ref (ad 0)), (1, .int p1), (2, .int p2), (3, .int p3)]) hC dX6_drift_33 (by decide) rfl ?_
      refine ww_iload_n (pc := 35) hC 2 rfl dX6_drift_35 rfl ?_
      refine ww_istore (pc := 36) (lv' := [(5, .int p1), (4, .int 0), (0, .ref (ad 0)), (1, .int p1), (2, .int p2), (3, .int p3)]) hC dX6_drift_36 (by decide) rfl ?_
      refine ww_iconst (pc := 38) (v := 0) hC dX6_drift_38 rfl ?_
      refine ww_istore (pc := 39) (lv' := [(6, .int 0), (5, .int p1), (4, .int 0), (0, .ref (ad 0)), (1, .int p1), (2, .int p2), (3, .int p3)]) hC dX6_drift_39 (by decide) rfl ?_
      refine ww_lv [3, 5, 6, 2, 1, 0] rfl ?_
      exact hJ41 v29 0 p1 0
    · refine ww_iconst (pc := 19) (v := (-1)) hC dX6_drift_19 rfl ?_
      exact ww_ireturn (pc := 20) hC hR dX6_drift_20 rfl
theorem dX6_keep_0 : decode cX6_keep 0 = .ok (.iload_n 1, 1) := by decide +kernel
theorem dX6_keep_1 : decode cX6_keep 1 = .ok (.iconst 0, 1) := by decide +kernel
theorem dX6_keep_2 : decode cX6_keep 2 = .ok (.iconst 1, 1) := by decide +kernel
theorem dX6_keep_3 : decode cX6_keep 3 = .ok (.invokestatic 61, 3) := by decide +kernel
theorem dX6_keep_6 : decode cX6_keep 6 = .ok (.ifCond .ne 5, 3) := by decide +kernel
theorem dX6_keep_9 : decode cX6_keep 9 = .ok (.iconst (-1), 1) := by decide +kernel
theorem dX6_keep_10 : decode cX6_keep 10 = .ok (.ireturn, 1) := by decide +kernel
theorem dX6_keep_11 : decode cX6_keep 11 = .ok (.aload_n 0, 1) := by decide +kernel
theorem dX6_keep_12 : decode cX6_keep 12 = .ok (.getfield 91, 3) := by decide +kernel
theorem dX6_keep_15 : decode cX6_keep 15 = .ok (.iload_n 1, 1) := by decide +kernel
theorem dX6_keep_16 : decode cX6_keep 16 = .ok (.ishr, 1) := by decide +kernel
theorem dX6_keep_17 : decode cX6_keep 17 = .ok (.iconst 1, 1) := by decide +kernel
theorem dX6_keep_18 : decode cX6_keep 18 = .ok (.iand, 1) := by decide +kernel
theorem dX6_keep_19 : decode cX6_keep 19 = .ok (.istore_n 2, 1) := by decide +kernel
theorem dX6_keep_20 : decode cX6_keep 20 = .ok (.aload_n 0, 1) := by decide +kernel
theorem dX6_keep_21 : decode cX6_keep 21 = .ok (.getfield 33, 3) := by decide +kernel
theorem dX6_keep_24 : decode cX6_keep 24 = .ok (.iload_n 1, 1) := by decide +kernel
theorem dX6_keep_25 : decode cX6_keep 25 = .ok (.aaload, 1) := by decide +kernel
theorem dX6_keep_26 : decode cX6_keep 26 = .ok (.aload_n 0, 1) := by decide +kernel
theorem dX6_keep_27 : decode cX6_keep 27 = .ok (.getfield 26, 3) := by decide +kernel
theorem dX6_keep_30 : decode cX6_keep 30 = .ok (.invokevirtual 83, 3) := by decide +kernel
theorem dX6_keep_33 : decode cX6_keep 33 = .ok (.aload_n 0, 1) := by decide +kernel
theorem dX6_keep_34 : decode cX6_keep 34 = .ok (.dup, 1) := by decide +kernel
theorem dX6_keep_35 : decode cX6_keep 35 = .ok (.getfield 91, 3) := by decide +kernel
theorem dX6_keep_38 : decode cX6_keep 38 = .ok (.iconst 1, 1) := by decide +kernel
theorem dX6_keep_39 : decode cX6_keep 39 = .ok (.iload_n 1, 1) := by decide +kernel
theorem dX6_keep_40 : decode cX6_keep 40 = .ok (.ishl, 1) := by decide +kernel
theorem dX6_keep_41 : decode cX6_keep 41 = .ok (.ior, 1) := by decide +kernel
theorem dX6_keep_42 : decode cX6_keep 42 = .ok (.putfield 91, 3) := by decide +kernel
theorem dX6_keep_45 : decode cX6_keep 45 = .ok (.iload_n 2, 1) := by decide +kernel
theorem dX6_keep_46 : decode cX6_keep 46 = .ok (.ireturn, 1) := by decide +kernel
set_option maxHeartbeats 4000000 in
set_option maxRecDepth 100000 in
theorem c_X6_keep {l : Launch} {Y : ww_Y} {ad : Nat → Nat} {G : List ww_L} (hT : ww_at G 0 ww_LTop) (σ : ww_M) (p1 : Int32) : ww_Cn l Y ad G yX6_keep cX6_keep 3 (some .int) 4 [.ref (ad 0), .int p1] σ ((f_X6_keep σ p1).bind ww_rw) := by
  refine ww_met (by decide +kernel) (Nat.le_of_ble_eq_true rfl) ?_
  intro X hC hR
  have hC : ww_C X l Y ad G 4 cX6_keep 3 RX6 := hC
  show ww_V X Y ad G 3 σ 0 [(0, .ref (ad 0)), (1, .int p1)] [] ((f_X6_keep σ p1).bind ww_rw)
  unfold f_X6_keep
  refine ww_iload_n (pc := 0) hC 1 rfl dX6_keep_0 rfl ?_
  refine ww_iconst (pc := 1) (v := 0) hC dX6_keep_1 rfl ?_
  refine ww_iconst (pc := 2) (v := 1) hC dX6_keep_2 rfl ?_
  refine ww_callSi (pc := 3) (st := []) (As := [.int p1, .int 0, .int 1]) hC (c_X6_within σ p1 0 1) mm_X6_within mw_333 (by omega) (by decide) (Nat.le_of_ble_eq_true rfl) rfl dX6_keep_3 (fun v3 => ?_)
  refine ww_if_ne (pc := 6) (tgt := 11) hC dX6_keep_6 (by decide) ?_ ?_
  · refine ww_aload_n (pc := 11) hC 0 rfl dX6_keep_11 rfl ?_
    refine ww_geti (pc := 12) (Cl := RX6) (T := TX6) (N := 10) (j := 5) (ref := RX6) hC (hT 0 _ rfl) rfl inT_X6 (by decide) mw_303 rfl rfl dX6_keep_12 ?_
    refine ww_iload_n (pc := 15) hC 1 rfl dX6_keep_15 rfl ?_
    refine ww_ishr (pc := 16) hC dX6_keep_16 ?_
    refine ww_iconst (pc := 17) (v := 1) hC dX6_keep_17 rfl ?_
    refine ww_iand (pc := 18) hC dX6_keep_18 ?_
    refine ww_istore_n (pc := 19) (lv' := [(2, .int ((ww_shr (σ 0 5) p1) &&& 1)), (0, .ref (ad 0)), (1, .int p1)]) hC dX6_keep_19 rfl (by decide) rfl ?_
    refine ww_aload_n (pc := 20) hC 1 rfl dX6_keep_20 rfl ?_
    refine ww_getr (pc := 21) (Cl := RX6) (T := TX6) (N := 10) (j := 4) (ref := RX6) hC (hT 0 _ rfl) rfl inT_X6 (by decide) mw_302 rfl rfl dX6_keep_21 ?_
    refine ww_iload_n (pc := 24) hC 2 rfl dX6_keep_24 rfl ?_
    refine ww_aald (pc := 25) hC (hT 24 _ rfl) (fun _ => rfl) dX6_keep_25 (fun hi25 => ?_)
    refine ww_aload_n (pc := 26) hC 1 rfl dX6_keep_26 rfl ?_
    refine ww_getr (pc := 27) (Cl := RX6) (T := TX6) (N := 10) (j := 2) (ref := RX6) hC (hT 0 _ rfl) rfl inT_X6 (by decide) mw_300 rfl rfl dX6_keep_27 ?_
    refine ww_callVv (pc := 30) (st := []) (As := [.ref (ad 4)]) hC (c_X2_copyFrom (25 + 10 * ww_ix p1) (ww_top_img hT hi25) 4 (ww_top_now hT) σ) mm_X2_copyFrom mw_494 ((ww_top_img hT hi25) 0 _ rfl) rfl (by omega) (by decide) (Nat.le_of_ble_eq_true rfl) rfl dX6_keep_30 (fun v30 => ?_)
    refine ww_aload_n (pc := 33) hC 1 rfl dX6_keep_33 rfl ?_
    refine ww_dup (pc := 34) hC dX6_keep_34 rfl ?_
    refine ww_geti (pc := 35) (Cl := RX6) (T := TX6) (N := 10) (j := 5) (ref := RX6) hC (hT 0 _ rfl) rfl inT_X6 (by decide) mw_303 rfl rfl dX6_keep_35 ?_
    refine ww_iconst (pc := 38) (v := 1) hC dX6_keep_38 rfl ?_
    refine ww_iload_n (pc := 39) hC 2 rfl dX6_keep_39 rfl ?_
    refine ww_ishl (pc := 40) hC dX6_keep_40 ?_
    refine ww_ior (pc := 41) hC dX6_keep_41 ?_
    refine ww_puti (pc := 42) (Cl := RX6) (T := TX6) (N := 10) (j := 5) (ref := RX6) hC (hT 0 _ rfl) rfl inT_X6 (by decide) mw_303 rfl tyX6 tyX6_ok nmX6 rfl rfl (tyX6_ok 5 (by decide)) dX6_keep_42 ?_
    refine ww_iload_n (pc := 45) hC 0 rfl dX6_keep_45 rfl ?_
    exact ww_ireturn (pc := 46) hC hR dX6_keep_46 rfl
  · refine ww_iconst (pc := 9) (v := (-1)) hC dX6_keep_9 rfl ?_
    exact ww_ireturn (pc := 10) hC hR dX6_keep_10 rfl
theorem dX6_back_0 : decode cX6_back 0 = .ok (.iload_n 1, 1) := by decide +kernel
theorem dX6_back_1 : decode cX6_back 1 = .ok (.iconst 0, 1) := by decide +kernel
theorem dX6_back_2 : decode cX6_back 2 = .ok (.iconst 1, 1) := by decide +kernel
theorem dX6_back_3 : decode cX6_back 3 = .ok (.invokestatic 61, 3) := by decide +kernel
theorem dX6_back_6 : decode cX6_back 6 = .ok (.ifCond .ne 5, 3) := by decide +kernel
theorem dX6_back_9 : decode cX6_back 9 = .ok (.iconst (-1), 1) := by decide +kernel
theorem dX6_back_10 : decode cX6_back 10 = .ok (.ireturn, 1) := by decide +kernel
theorem dX6_back_11 : decode cX6_back 11 = .ok (.aload_n 0, 1) := by decide +kernel
theorem dX6_back_12 : decode cX6_back 12 = .ok (.getfield 91, 3) := by decide +kernel
theorem dX6_back_15 : decode cX6_back 15 = .ok (.iload_n 1, 1) := by decide +kernel
theorem dX6_back_16 : decode cX6_back 16 = .ok (.ishr, 1) := by decide +kernel
theorem dX6_back_17 : decode cX6_back 17 = .ok (.iconst 1, 1) := by decide +kernel
theorem dX6_back_18 : decode cX6_back 18 = .ok (.iand, 1) := by decide +kernel
theorem dX6_back_19 : decode cX6_back 19 = .ok (.ifCond .ne 6, 3) := by decide +kernel
theorem dX6_back_22 : decode cX6_back 22 = .ok (.bipush (-2), 2) := by decide +kernel
theorem dX6_back_24 : decode cX6_back 24 = .ok (.ireturn, 1) := by decide +kernel
theorem dX6_back_25 : decode cX6_back 25 = .ok (.aload_n 0, 1) := by decide +kernel
theorem dX6_back_26 : decode cX6_back 26 = .ok (.getfield 26, 3) := by decide +kernel
theorem dX6_back_29 : decode cX6_back 29 = .ok (.aload_n 0, 1) := by decide +kernel
theorem dX6_back_30 : decode cX6_back 30 = .ok (.getfield 33, 3) := by decide +kernel
theorem dX6_back_33 : decode cX6_back 33 = .ok (.iload_n 1, 1) := by decide +kernel
theorem dX6_back_34 : decode cX6_back 34 = .ok (.aaload, 1) := by decide +kernel
theorem dX6_back_35 : decode cX6_back 35 = .ok (.invokevirtual 83, 3) := by decide +kernel
theorem dX6_back_38 : decode cX6_back 38 = .ok (.aload_n 0, 1) := by decide +kernel
theorem dX6_back_39 : decode cX6_back 39 = .ok (.getfield 26, 3) := by decide +kernel
theorem dX6_back_42 : decode cX6_back 42 = .ok (.getfield 112, 3) := by decide +kernel
theorem dX6_back_45 : decode cX6_back 45 = .ok (.ireturn, 1) := by decide +kernel
set_option maxHeartbeats 4000000 in
set_option maxRecDepth 100000 in
theorem c_X6_back {l : Launch} {Y : ww_Y} {ad : Nat → Nat} {G : List ww_L} (hT : ww_at G 0 ww_LTop) (σ : ww_M) (p1 : Int32) : ww_Cn l Y ad G yX6_back cX6_back 2 (some .int) 4 [.ref (ad 0), .int p1] σ ((f_X6_back σ p1).bind ww_rw) := by
  refine ww_met (by decide +kernel) (Nat.le_of_ble_eq_true rfl) ?_
  intro X hC hR
  have hC : ww_C X l Y ad G 4 cX6_back 2 RX6 := hC
  show ww_V X Y ad G 2 σ 0 [(0, .ref (ad 0)), (1, .int p1)] [] ((f_X6_back σ p1).bind ww_rw)
  unfold f_X6_back
  refine ww_iload_n (pc := 0) hC 1 rfl dX6_back_0 rfl ?_
  refine ww_iconst (pc := 1) (v := 0) hC dX6_back_1 rfl ?_
  refine ww_iconst (pc := 2) (v := 1) hC dX6_back_2 rfl ?_
  refine ww_callSi (pc := 3) (st := []) (As := [.int p1, .int 0, .int 1]) hC (c_X6_within σ p1 0 1) mm_X6_within mw_333 (by omega) (by decide) (Nat.le_of_ble_eq_true rfl) rfl dX6_back_3 (fun v3 => ?_)
  refine ww_if_ne (pc := 6) (tgt := 11) hC dX6_back_6 (by decide) ?_ ?_
  · refine ww_aload_n (pc := 11) hC 0 rfl dX6_back_11 rfl ?_
    refine ww_geti (pc := 12) (Cl := RX6) (T := TX6) (N := 10) (j := 5) (ref := RX6) hC (hT 0 _ rfl) rfl inT_X6 (by decide) mw_303 rfl rfl dX6_back_12 ?_
    refine ww_iload_n (pc := 15) hC 1 rfl dX6_back_15 rfl ?_
    refine ww_ishr (pc := 16) hC dX6_back_16 ?_
    refine ww_iconst (pc := 17) (v := 1) hC dX6_back_17 rfl ?_
    refine ww_iand (pc := 18) hC dX6_back_18 ?_
    refine ww_if_ne (pc := 19) (tgt := 25) hC dX6_back_19 (by decide) ?_ ?_
    · refine ww_aload_n (pc := 25) hC 0 rfl dX6_back_25 rfl ?_
      refine ww_getr (pc := 26) (Cl := RX6) (T := TX6) (N := 10) (j := 2) (ref := RX6) hC (hT 0 _ rfl) rfl inT_X6 (by decide) mw_300 rfl rfl dX6_back_26 ?_
      refine ww_aload_n (pc := 29) hC 0 rfl dX6_back_29 rfl ?_
      refine ww_getr (pc := 30) (Cl := RX6) (T := TX6) (N := 10) (j := 4) (ref := RX6) hC (hT 0 _ rfl) rfl inT_X6 (by decide) mw_302 rfl rfl dX6_back_30 ?_
      refine ww_iload_n (pc := 33) hC 1 rfl dX6_back_33 rfl ?_
      refine ww_aald (pc := 34) hC (hT 24 _ rfl) (fun _ => rfl) dX6_back_34 (fun hi34 => ?_)
      refine ww_callVv (pc := 35) (st := []) (As := [.ref (ad (25 + 10 * ww_ix p1))]) hC (c_X2_copyFrom 4 (ww_top_now hT) (25 + 10 * ww_ix p1) (ww_top_img hT hi34) σ) mm_X2_copyFrom mw_494 ((ww_top_now hT) 0 _ rfl) rfl (by omega) (by decide) (Nat.le_of_ble_eq_true rfl) rfl dX6_back_35 (fun v35 => ?_)
      refine ww_aload_n (pc := 38) hC 0 rfl dX6_back_38 rfl ?_
      refine ww_getr (pc := 39) (Cl := RX6) (T := TX6) (N := 10) (j := 2) (ref := RX6) hC (hT 0 _ rfl) rfl inT_X6 (by decide) mw_300 rfl rfl dX6_back_39 ?_
      refine ww_geti (pc := 42) (Cl := RX2) (T := TX2) (N := 17) (j := 15) (ref := RX2) hC ((ww_top_now hT) 0 _ rfl) rfl inT_X2 (by decide) mw_180 rfl rfl dX6_back_42 ?_
      exact ww_ireturn (pc := 45) hC hR dX6_back_45 rfl
    · refine ww_bipush (pc := 22) (v := (-2)) hC dX6_back_22 rfl ?_
      exact ww_ireturn (pc := 24) hC hR dX6_back_24 rfl
  · refine ww_iconst (pc := 9) (v := (-1)) hC dX6_back_9 rfl ?_
    exact ww_ireturn (pc := 10) hC hR dX6_back_10 rfl
theorem dX6_sheet_0 : decode cX6_sheet 0 = .ok (.iload_n 1, 1) := by decide +kernel
theorem dX6_sheet_1 : decode cX6_sheet 1 = .ok (.iconst 0, 1) := by decide +kernel
theorem dX6_sheet_2 : decode cX6_sheet 2 = .ok (.iconst 3, 1) := by decide +kernel
theorem dX6_sheet_3 : decode cX6_sheet 3 = .ok (.invokestatic 61, 3) := by decide +kernel
theorem dX6_sheet_6 : decode cX6_sheet 6 = .ok (.ifCond .eq 18, 3) := by decide +kernel
theorem dX6_sheet_9 : decode cX6_sheet 9 = .ok (.iload_n 2, 1) := by decide +kernel
theorem dX6_sheet_10 : decode cX6_sheet 10 = .ok (.iconst 0, 1) := by decide +kernel
theorem dX6_sheet_11 : decode cX6_sheet 11 = .ok (.iconst 2, 1) := by decide +kernel
theorem dX6_sheet_12 : decode cX6_sheet 12 = .ok (.invokestatic 61, 3) := by decide +kernel
theorem dX6_sheet_15 : decode cX6_sheet 15 = .ok (.ifCond .eq 9, 3) := by decide +kernel
theorem dX6_sheet_18 : decode cX6_sheet 18 = .ok (.iload_n 3, 1) := by decide +kernel
theorem dX6_sheet_19 : decode cX6_sheet 19 = .ok (.bipush 40, 2) := by decide +kernel
theorem dX6_sheet_21 : decode cX6_sheet 21 = .ok (.if_icmp .le 5, 3) := by decide +kernel
theorem dX6_sheet_24 : decode cX6_sheet 24 = .ok (.iconst (-1), 1) := by decide +kernel
theorem dX6_sheet_25 : decode cX6_sheet 25 = .ok (.ireturn, 1) := by decide +kernel
theorem dX6_sheet_26 : decode cX6_sheet 26 = .ok (.iload_n 3, 1) := by decide +kernel
theorem dX6_sheet_27 : decode cX6_sheet 27 = .ok (.ifCond .ge 6, 3) := by decide +kernel
theorem dX6_sheet_30 : decode cX6_sheet 30 = .ok (.bipush (-14), 2) := by decide +kernel
theorem dX6_sheet_32 : decode cX6_sheet 32 = .ok (.ireturn, 1) := by decide +kernel
theorem dX6_sheet_33 : decode cX6_sheet 33 = .ok (.aload_n 0, 1) := by decide +kernel
theorem dX6_sheet_34 : decode cX6_sheet 34 = .ok (.getfield 53, 3) := by decide +kernel
theorem dX6_sheet_37 : decode cX6_sheet 37 = .ok (.iload_n 1, 1) := by decide +kernel
theorem dX6_sheet_38 : decode cX6_sheet 38 = .ok (.aaload, 1) := by decide +kernel
theorem dX6_sheet_39 : decode cX6_sheet 39 = .ok (.iload_n 2, 1) := by decide +kernel
theorem dX6_sheet_40 : decode cX6_sheet 40 = .ok (.iload_n 3, 1) := by decide +kernel
theorem dX6_sheet_41 : decode cX6_sheet 41 = .ok (.invokevirtual 230, 3) := by decide +kernel
theorem dX6_sheet_44 : decode cX6_sheet 44 = .ok (.iconst 1, 1) := by decide +kernel
theorem dX6_sheet_45 : decode cX6_sheet 45 = .ok (.ireturn, 1) := by decide +kernel
set_option maxHeartbeats 4000000 in
set_option maxRecDepth 100000 in
theorem c_X6_sheet {l : Launch} {Y : ww_Y} {ad : Nat → Nat} {G : List ww_L} (hT : ww_at G 0 ww_LTop) (σ : ww_M) (p1 : Int32) (p2 : Int32) (p3 : Int32) : ww_Cn l Y ad G yX6_sheet cX6_sheet 4 (some .int) 4 [.ref (ad 0), .int p1, .int p2, .int p3] σ ((f_X6_sheet σ p1 p2 p3).bind ww_rw) := by
  refine ww_met (by decide +kernel) (Nat.le_of_ble_eq_true rfl) ?_
  intro X hC hR
  have hC : ww_C X l Y ad G 4 cX6_sheet 4 RX6 := hC
  show ww_V X Y ad G 4 σ 0 [(0, .ref (ad 0)), (1, .int p1), (2, .int p2), (3, .int p3)] [] ((f_X6_sheet σ p1 p2 p3).bind ww_rw)
  unfold f_X6_sheet
  refine ww_iload_n (pc := 0) hC 1 rfl dX6_sheet_0 rfl ?_
  refine ww_iconst (pc := 1) (v := 0) hC dX6_sheet_1 rfl ?_
  refine ww_iconst (pc := 2) (v := 3) hC dX6_sheet_2 rfl ?_
  refine ww_callSi (pc := 3) (st := []) (As := [.int p1, .int 0, .int 3]) hC (c_X6_within σ p1 0 3) mm_X6_within mw_333 (by omega) (by decide) (Nat.le_of_ble_eq_true rfl) rfl dX6_sheet_3 (fun v3 => ?_)
  refine ww_if_eq (pc := 6) (tgt := 24) hC dX6_sheet_6 (by decide) ?_ ?_
  · refine ww_iconst (pc := 24) (v := (-1)) hC dX6_sheet_24 rfl ?_
    exact ww_ireturn (pc := 25) hC hR dX6_sheet_25 rfl
  · refine ww_iload_n (pc := 9) hC 2 rfl dX6_sheet_9 rfl ?_
    refine ww_iconst (pc := 10) (v := 0) hC dX6_sheet_10 rfl ?_
    refine ww_iconst (pc := 11) (v := 2) hC dX6_sheet_11 rfl ?_
    refine ww_callSi (pc := 12) (st := []) (As := [.int p2, .int 0, .int 2]) hC (c_X6_within σ p2 0 2) mm_X6_within mw_333 (by omega) (by decide) (Nat.le_of_ble_eq_true rfl) rfl dX6_sheet_12 (fun v12 => ?_)
    refine ww_if_eq (pc := 15) (tgt := 24) hC dX6_sheet_15 (by decide) ?_ ?_
    · refine ww_iconst (pc := 24) (v := (-1)) hC dX6_sheet_24 rfl ?_
      exact ww_ireturn (pc := 25) hC hR dX6_sheet_25 rfl
    · refine ww_iload_n (pc := 18) hC 3 rfl dX6_sheet_18 rfl ?_
      refine ww_bipush (pc := 19) (v := 40) hC dX6_sheet_19 rfl ?_
      refine ww_icmp_le (pc := 21) (tgt := 26) hC dX6_sheet_21 (by decide) ?_ ?_
      · refine ww_iload_n (pc := 26) hC 3 rfl dX6_sheet_26 rfl ?_
        refine ww_if_ge (pc := 27) (tgt := 33) hC dX6_sheet_27 (by decide) ?_ ?_
        · refine ww_aload_n (pc := 33) hC 0 rfl dX6_sheet_33 rfl ?_
          refine ww_getr (pc := 34) (Cl := RX6) (T := TX6) (N := 10) (j := 8) (ref := RX6) hC (hT 0 _ rfl) rfl inT_X6 (by decide) mw_306 rfl rfl dX6_sheet_34 ?_
          refine ww_iload_n (pc := 37) hC 1 rfl dX6_sheet_37 rfl ?_
          refine ww_aald (pc := 38) hC (hT 53 _ rfl) (fun _ => rfl) dX6_sheet_38 (fun hi38 => ?_)
          refine ww_iload_n (pc := 39) hC 2 rfl dX6_sheet_39 rfl ?_
          refine ww_iload_n (pc := 40) hC 3 rfl dX6_sheet_40 rfl ?_
          refine ww_callVv (pc := 41) (st := []) (As := [.int p2, .int p3]) hC (c_X1_renew (54 + 2 * ww_ix p1) (ww_top_sheet hT hi38) σ p2 p3) mm_X1_renew mw_836 ((ww_top_sheet hT hi38) 0 _ rfl) rfl (by omega) (by decide) (Nat.le_of_ble_eq_true rfl) rfl dX6_sheet_41 (fun v41 => ?_)
          refine ww_iconst (pc := 44) (v := 1) hC dX6_sheet_44 rfl ?_
          exact ww_ireturn (pc := 45) hC hR dX6_sheet_45 rfl
        · refine ww_bipush (pc := 30) (v := (-14)) hC dX6_sheet_30 rfl ?_
          exact ww_ireturn (pc := 32) hC hR dX6_sheet_32 rfl
      · refine ww_iconst (pc := 24) (v := (-1)) hC dX6_sheet_24 rfl ?_
        exact ww_ireturn (pc := 25) hC hR dX6_sheet_25 rfl
theorem dX6_lay_0 : decode cX6_lay 0 = .ok (.iload_n 1, 1) := by decide +kernel
theorem dX6_lay_1 : decode cX6_lay 1 = .ok (.iconst 0, 1) := by decide +kernel
theorem dX6_lay_2 : decode cX6_lay 2 = .ok (.iconst 3, 1) := by decide +kernel
theorem dX6_lay_3 : decode cX6_lay 3 = .ok (.invokestatic 61, 3) := by decide +kernel
theorem dX6_lay_6 : decode cX6_lay 6 = .ok (.ifCond .ne 5, 3) := by decide +kernel
theorem dX6_lay_9 : decode cX6_lay 9 = .ok (.iconst (-1), 1) := by decide +kernel
theorem dX6_lay_10 : decode cX6_lay 10 = .ok (.ireturn, 1) := by decide +kernel
theorem dX6_lay_11 : decode cX6_lay 11 = .ok (.aload_n 0, 1) := by decide +kernel
theorem dX6_lay_12 : decode cX6_lay 12 = .ok (.getfield 53, 3) := by decide +kernel
theorem dX6_lay_15 : decode cX6_lay 15 = .ok (.iload_n 1, 1) := by decide +kernel
theorem dX6_lay_16 : decode cX6_lay 16 = .ok (.aaload, 1) := by decide +kernel
theorem dX6_lay_17 : decode cX6_lay 17 = .ok (.astore 4, 2) := by decide +kernel
theorem dX6_lay_19 : decode cX6_lay 19 = .ok (.aload 4, 2) := by decide +kernel
theorem dX6_lay_21 : decode cX6_lay 21 = .ok (.aload 4, 2) := by decide +kernel
theorem dX6_lay_23 : decode cX6_lay 23 = .ok (.getfield 234, 3) := by decide +kernel
theorem dX6_lay_26 : decode cX6_lay 26 = .ok (.iload_n 2, 1) := by decide +kernel
theorem dX6_lay_27 : decode cX6_lay 27 = .ok (.invokevirtual 237, 3) := by decide +kernel
theorem dX6_lay_30 : decode cX6_lay 30 = .ok (.istore 5, 2) := by decide +kernel
theorem dX6_lay_32 : decode cX6_lay 32 = .ok (.iload 5, 2) := by decide +kernel
theorem dX6_lay_34 : decode cX6_lay 34 = .ok (.ifCond .eq 9, 3) := by decide +kernel
theorem dX6_lay_37 : decode cX6_lay 37 = .ok (.bipush (-10), 2) := by decide +kernel
theorem dX6_lay_39 : decode cX6_lay 39 = .ok (.iload 5, 2) := by decide +kernel
theorem dX6_lay_41 : decode cX6_lay 41 = .ok (.isub, 1) := by decide +kernel
theorem dX6_lay_42 : decode cX6_lay 42 = .ok (.ireturn, 1) := by decide +kernel
theorem dX6_lay_43 : decode cX6_lay 43 = .ok (.aload 4, 2) := by decide +kernel
theorem dX6_lay_45 : decode cX6_lay 45 = .ok (.iload_n 2, 1) := by decide +kernel
theorem dX6_lay_46 : decode cX6_lay 46 = .ok (.iload_n 3, 1) := by decide +kernel
theorem dX6_lay_47 : decode cX6_lay 47 = .ok (.invokevirtual 240, 3) := by decide +kernel
theorem dX6_lay_50 : decode cX6_lay 50 = .ok (.iconst 1, 1) := by decide +kernel
theorem dX6_lay_51 : decode cX6_lay 51 = .ok (.ireturn, 1) := by decide +kernel
set_option maxHeartbeats 4000000 in
set_option maxRecDepth 100000 in
theorem c_X6_lay {l : Launch} {Y : ww_Y} {ad : Nat → Nat} {G : List ww_L} (hT : ww_at G 0 ww_LTop) (σ : ww_M) (p1 : Int32) (p2 : Int32) (p3 : Int32) : ww_Cn l Y ad G yX6_lay cX6_lay 6 (some .int) 3 [.ref (ad 0), .int p1, .int p2, .int p3] σ ((f_X6_lay σ p1 p2 p3).bind ww_rw) := by
  refine ww_met (by decide +kernel) (Nat.le_of_ble_eq_true rfl) ?_
  intro X hC hR
  have hC : ww_C X l Y ad G 3 cX6_lay 6 RX6 := hC
  show ww_V X Y ad G 6 σ 0 [(0, .ref (ad 0)), (1, .int p1), (2, .int p2), (3, .int p3)] [] ((f_X6_lay σ p1 p2 p3).bind ww_rw)
  unfold f_X6_lay
  refine ww_iload_n (pc := 0) hC 1 rfl dX6_lay_0 rfl ?_
  refine ww_iconst (pc := 1) (v := 0) hC dX6_lay_1 rfl ?_
  refine ww_iconst (pc := 2) (v := 3) hC dX6_lay_2 rfl ?_
  refine ww_callSi (pc := 3) (st := []) (As := [.int p1, .int 0, .int 3]) hC (c_X6_within σ p1 0 3) mm_X6_within mw_333 (by omega) (by decide) (Nat.le_of_ble_eq_true rfl) rfl dX6_lay_3 (fun v3 => ?_)
  refine ww_if_ne (pc := 6) (tgt := 11) hC dX6_lay_6 (by decide) ?_ ?_
  · refine ww_aload_n (pc := 11) hC 0 rfl dX6_lay_11 rfl ?_
    refine ww_getr (pc := 12) (Cl := RX6) (T := TX6) (N := 10) (j := 8) (ref := RX6) hC (hT 0 _ rfl) rfl inT_X6 (by decide) mw_306 rfl rfl dX6_lay_12 ?_
    refine ww_iload_n (pc := 15) hC 1 rfl dX6_lay_15 rfl ?_
    refine ww_aald (pc := 16) hC (hT 53 _ rfl) (fun _ => rfl) dX6_lay_16 (fun hi16 => ?_)
    refine ww_astore (pc := 17) (lv' := [(4, .ref (ad (54 + 2 * ww_ix p1))), (0, .ref (ad 0)), (1, .int p1), (2, .int p2), (3, .int p3)]) hC dX6_lay_17 (by decide) rfl ?_
    refine ww_aload (pc := 19) hC 0 rfl dX6_lay_19 ?_
    refine ww_aload (pc := 21) hC 0 rfl dX6_lay_21 ?_
    refine ww_geti (pc := 23) (Cl := RX1) (T := TX1) (N := 3) (j := 1) (ref := RX1) hC ((ww_top_sheet hT hi16) 0 _ rfl) rfl inT_X1 (by decide) mw_281 rfl rfl dX6_lay_23 ?_
    refine ww_iload_n (pc := 26) hC 3 rfl dX6_lay_26 rfl ?_
    refine ww_callVi (pc := 27) (st := []) (As := [.int (σ (54 + 2 * ww_ix p1) 1), .int p2]) hC (c_X1_faultAt (54 + 2 * ww_ix p1) (ww_top_sheet hT hi16) σ (σ (54 + 2 * ww_ix p1) 1) p2) mm_X1_faultAt mw_845 ((ww_top_sheet hT hi16) 0 _ rfl) rfl (by omega) (by decide) (Nat.le_of_ble_eq_true rfl) rfl dX6_lay_27 (fun v27 => ?_)
    refine ww_istore (pc := 30) (lv' := [(5, .int v27), (4, .ref (ad (54 + 2 * ww_ix p1))), (0, .ref (ad 0)), (1, .int p1), (2, .int p2), (3, .int p3)]) hC dX6_lay_30 (by decide) rfl ?_
    refine ww_iload (pc := 32) hC 0 rfl dX6_lay_32 ?_
    refine ww_if_eq (pc := 34) (tgt := 43) hC dX6_lay_34 (by decide) ?_ ?_
    · refine ww_aload (pc := 43) hC 1 rfl dX6_lay_43 ?_
      refine ww_iload_n (pc := 45) hC 4 rfl dX6_lay_45 rfl ?_
      refine ww_iload_n (pc := 46) hC 5 rfl dX6_lay_46 rfl ?_
      refine ww_callVv (pc := 47) (st := []) (As := [.int p2, .int p3]) hC (c_X1_put (54 + 2 * ww_ix p1) (ww_top_sheet hT hi16) σ p2 p3) mm_X1_put mw_850 ((ww_top_sheet hT hi16) 0 _ rfl) rfl (by omega) (by decide) (Nat.le_of_ble_eq_true rfl) rfl dX6_lay_47 (fun v47 => ?_)
      refine ww_iconst (pc := 50) (v := 1) hC dX6_lay_50 rfl ?_
      exact ww_ireturn (pc := 51) hC hR dX6_lay_51 rfl
    · refine ww_bipush (pc := 37) (v := (-10)) hC dX6_lay_37 rfl ?_
      refine ww_iload (pc := 39) hC 0 rfl dX6_lay_39 ?_
      refine ww_isub (pc := 41) hC dX6_lay_41 ?_
      exact ww_ireturn (pc := 42) hC hR dX6_lay_42 rfl
  · refine ww_iconst (pc := 9) (v := (-1)) hC dX6_lay_9 rfl ?_
    exact ww_ireturn (pc := 10) hC hR dX6_lay_10 rfl
theorem dX6_read_0 : decode cX6_read 0 = .ok (.iload_n 1, 1) := by decide +kernel
theorem dX6_read_1 : decode cX6_read 1 = .ok (.iconst 0, 1) := by decide +kernel
theorem dX6_read_2 : decode cX6_read 2 = .ok (.iconst 3, 1) := by decide +kernel
theorem dX6_read_3 : decode cX6_read 3 = .ok (.invokestatic 61, 3) := by decide +kernel
theorem dX6_read_6 : decode cX6_read 6 = .ok (.ifCond .eq 23, 3) := by decide +kernel
theorem dX6_read_9 : decode cX6_read 9 = .ok (.iload_n 2, 1) := by decide +kernel
theorem dX6_read_10 : decode cX6_read 10 = .ok (.iconst 0, 1) := by decide +kernel
theorem dX6_read_11 : decode cX6_read 11 = .ok (.iconst 2, 1) := by decide +kernel
theorem dX6_read_12 : decode cX6_read 12 = .ok (.invokestatic 61, 3) := by decide +kernel
theorem dX6_read_15 : decode cX6_read 15 = .ok (.ifCond .eq 14, 3) := by decide +kernel
theorem dX6_read_18 : decode cX6_read 18 = .ok (.iload 4, 2) := by decide +kernel
theorem dX6_read_20 : decode cX6_read 20 = .ok (.iconst 0, 1) := by decide +kernel
theorem dX6_read_21 : decode cX6_read 21 = .ok (.bipush 20, 2) := by decide +kernel
theorem dX6_read_23 : decode cX6_read 23 = .ok (.invokestatic 61, 3) := by decide +kernel
theorem dX6_read_26 : decode cX6_read 26 = .ok (.ifCond .ne 5, 3) := by decide +kernel
theorem dX6_read_29 : decode cX6_read 29 = .ok (.iconst (-1), 1) := by decide +kernel
theorem dX6_read_30 : decode cX6_read 30 = .ok (.ireturn, 1) := by decide +kernel
theorem dX6_read_31 : decode cX6_read 31 = .ok (.aload_n 0, 1) := by decide +kernel
theorem dX6_read_32 : decode cX6_read 32 = .ok (.getfield 53, 3) := by decide +kernel
theorem dX6_read_35 : decode cX6_read 35 = .ok (.iload_n 1, 1) := by decide +kernel
theorem dX6_read_36 : decode cX6_read 36 = .ok (.aaload, 1) := by decide +kernel
theorem dX6_read_37 : decode cX6_read 37 = .ok (.astore 5, 2) := by decide +kernel
theorem dX6_read_39 : decode cX6_read 39 = .ok (.aload_n 0, 1) := by decide +kernel
theorem dX6_read_40 : decode cX6_read 40 = .ok (.getfield 30, 3) := by decide +kernel
theorem dX6_read_43 : decode cX6_read 43 = .ok (.aload_n 0, 1) := by decide +kernel
theorem dX6_read_44 : decode cX6_read 44 = .ok (.getfield 26, 3) := by decide +kernel
theorem dX6_read_47 : decode cX6_read 47 = .ok (.invokevirtual 83, 3) := by decide +kernel
theorem dX6_read_50 : decode cX6_read 50 = .ok (.iconst 0, 1) := by decide +kernel
theorem dX6_read_51 : decode cX6_read 51 = .ok (.istore 6, 2) := by decide +kernel
theorem dX6_read_53 : decode cX6_read 53 = .ok (.iconst 0, 1) := by decide +kernel
theorem dX6_read_54 : decode cX6_read 54 = .ok (.istore 7, 2) := by decide +kernel
theorem dX6_read_56 : decode cX6_read 56 = .ok (.iload 7, 2) := by decide +kernel
theorem dX6_read_58 : decode cX6_read 58 = .ok (.iload 4, 2) := by decide +kernel
theorem dX6_read_60 : decode cX6_read 60 = .ok (.if_icmp .ge 92, 3) := by decide +kernel
theorem dX6_read_63 : decode cX6_read 63 = .ok (.iload 6, 2) := by decide +kernel
theorem dX6_read_65 : decode cX6_read 65 = .ok (.ifCond .ne 87, 3) := by decide +kernel
theorem dX6_read_68 : decode cX6_read 68 = .ok (.aload 5, 2) := by decide +kernel
theorem dX6_read_70 : decode cX6_read 70 = .ok (.iload_n 2, 1) := by decide +kernel
theorem dX6_read_71 : decode cX6_read 71 = .ok (.iload_n 3, 1) := by decide +kernel
theorem dX6_read_72 : decode cX6_read 72 = .ok (.iload 7, 2) := by decide +kernel
theorem dX6_read_74 : decode cX6_read 74 = .ok (.iadd, 1) := by decide +kernel
theorem dX6_read_75 : decode cX6_read 75 = .ok (.invokevirtual 237, 3) := by decide +kernel
theorem dX6_read_78 : decode cX6_read 78 = .ok (.istore 6, 2) := by decide +kernel
theorem dX6_read_80 : decode cX6_read 80 = .ok (.iload 6, 2) := by decide +kernel
theorem dX6_read_82 : decode cX6_read 82 = .ok (.ifCond .ne (-26), 3) := by decide +kernel
theorem dX6_read_85 : decode cX6_read 85 = .ok (.aload 5, 2) := by decide +kernel
theorem dX6_read_87 : decode cX6_read 87 = .ok (.getfield 243, 3) := by decide +kernel
theorem dX6_read_90 : decode cX6_read 90 = .ok (.iload_n 3, 1) := by decide +kernel
theorem dX6_read_91 : decode cX6_read 91 = .ok (.iload 7, 2) := by decide +kernel
theorem dX6_read_93 : decode cX6_read 93 = .ok (.iadd, 1) := by decide +kernel
theorem dX6_read_94 : decode cX6_read 94 = .ok (.iaload, 1) := by decide +kernel
theorem dX6_read_95 : decode cX6_read 95 = .ok (.istore 8, 2) := by decide +kernel
theorem dX6_read_97 : decode cX6_read 97 = .ok (.aload_n 0, 1) := by decide +kernel
theorem dX6_read_98 : decode cX6_read 98 = .ok (.getfield 26, 3) := by decide +kernel
theorem dX6_read_101 : decode cX6_read 101 = .ok (.iload 8, 2) := by decide +kernel
theorem dX6_read_103 : decode cX6_read 103 = .ok (.bipush (-4), 2) := by decide +kernel
theorem dX6_read_105 : decode cX6_read 105 = .ok (.invokevirtual 164, 3) := by decide +kernel
theorem dX6_read_108 : decode cX6_read 108 = .ok (.ifCond .eq 20, 3) := by decide +kernel
theorem dX6_read_111 : decode cX6_read 111 = .ok (.aload_n 0, 1) := by decide +kernel
theorem dX6_read_112 : decode cX6_read 112 = .ok (.getfield 26, 3) := by decide +kernel
theorem dX6_read_115 : decode cX6_read 115 = .ok (.aload_n 0, 1) := by decide +kernel
theorem dX6_read_116 : decode cX6_read 116 = .ok (.getfield 30, 3) := by decide +kernel
theorem dX6_read_119 : decode cX6_read 119 = .ok (.invokevirtual 83, 3) := by decide +kernel
theorem dX6_read_122 : decode cX6_read 122 = .ok (.bipush (-20), 2) := by decide +kernel
theorem dX6_read_124 : decode cX6_read 124 = .ok (.iload 7, 2) := by decide +kernel
theorem dX6_read_126 : decode cX6_read 126 = .ok (.isub, 1) := by decide +kernel
theorem dX6_read_127 : decode cX6_read 127 = .ok (.ireturn, 1) := by decide +kernel
theorem dX6_read_128 : decode cX6_read 128 = .ok (.aload_n 0, 1) := by decide +kernel
theorem dX6_read_129 : decode cX6_read 129 = .ok (.getfield 26, 3) := by decide +kernel
theorem dX6_read_132 : decode cX6_read 132 = .ok (.aload_n 0, 1) := by decide +kernel
theorem dX6_read_133 : decode cX6_read 133 = .ok (.getfield 26, 3) := by decide +kernel
theorem dX6_read_136 : decode cX6_read 136 = .ok (.iload 8, 2) := by decide +kernel
theorem dX6_read_138 : decode cX6_read 138 = .ok (.invokevirtual 141, 3) := by decide +kernel
theorem dX6_read_141 : decode cX6_read 141 = .ok (.iconst (-1), 1) := by decide +kernel
theorem dX6_read_142 : decode cX6_read 142 = .ok (.invokevirtual 167, 3) := by decide +kernel
theorem dX6_read_145 : decode cX6_read 145 = .ok (.pop, 1) := by decide +kernel
theorem dX6_read_146 : decode cX6_read 146 = .ok (.iinc 7 1, 3) := by decide +kernel
theorem dX6_read_149 : decode cX6_read 149 = .ok (.goto (-93), 3) := by decide +kernel
theorem dX6_read_152 : decode cX6_read 152 = .ok (.aload_n 0, 1) := by decide +kernel
theorem dX6_read_153 : decode cX6_read 153 = .ok (.iload 6, 2) := by decide +kernel
theorem dX6_read_155 : decode cX6_read 155 = .ok (.putfield 246, 3) := by decide +kernel
theorem dX6_read_158 : decode cX6_read 158 = .ok (.iload 7, 2) := by decide +kernel
theorem dX6_read_160 : decode cX6_read 160 = .ok (.ireturn, 1) := by decide +kernel
set_option maxHeartbeats 4000000 in
set_option maxRecDepth 100000 in
theorem c_X6_read {l : Launch} {Y : ww_Y} {ad : Nat → Nat} {G : List ww_L} (hT : ww_at G 0 ww_LTop) (σ : ww_M) (p1 : Int32) (p2 : Int32) (p3 : Int32) (p4 : Int32) : ww_Cn l Y ad G yX6_read cX6_read 9 (some .int) 7 [.ref (ad 0), .int p1, .int p2, .int p3, .int p4] σ ((f_X6_read σ p1 p2 p3 p4).bind ww_rw) := by
  refine ww_met (by decide +kernel) (Nat.le_of_ble_eq_true rfl) ?_
  intro X hC hR
  have hC : ww_C X l Y ad G 7 cX6_read 9 RX6 := hC
  show ww_V X Y ad G 9 σ 0 [(0, .ref (ad 0)), (1, .int p1), (2, .int p2), (3, .int p3), (4, .int p4)] [] ((f_X6_read σ p1 p2 p3 p4).bind ww_rw)
  have hJ152 : ∀ (σ : ww_M) (x6 : Int32) (x7 : Int32), ww_V X Y ad G 9 σ 152 [(0, .ref (ad 0)), (6, .int x6), (7, .int x7)] [] ((f_X6_read_j152 σ p1 p2 p3 p4 x6 x7).bind ww_rw) := by
    intro σ x6 x7
    unfold f_X6_read_j152
    refine ww_aload_n (pc := 152) hC 0 rfl dX6_read_152 rfl ?_
    refine ww_iload (pc := 153) hC 1 rfl dX6_read_153 ?_
    refine ww_puti (pc := 155) (Cl := RX6) (T := TX6) (N := 10) (j := 9) (ref := RX6) hC (hT 0 _ rfl) rfl inT_X6 (by decide) mw_307 rfl tyX6 tyX6_ok nmX6 rfl rfl (tyX6_ok 9 (by decide)) dX6_read_155 ?_
    refine ww_iload (pc := 158) hC 2 rfl dX6_read_158 ?_
    exact ww_ireturn (pc := 160) hC hR dX6_read_160 rfl
  have hJ56 : ∀ (hi36 : ww_in p1 4 = true) (σ : ww_M) (x6 : Int32) (x7 : Int32), ww_V X Y ad G 9 σ 56 [(0, .ref (ad 0)), (2, .int p2), (3, .int p3), (4, .int p4), (5, .ref (ad (54 + 2 * ww_ix p1))), (6, .int x6), (7, .int x7)] [] ((f_X6_read_j56 σ p1 p2 p3 p4 x6 x7).bind ww_rw) := by
    intro hi36 σ x6 x7
    unfold f_X6_read_j56
    refine ww_assoc ?_
    refine ww_loopR (f := f_X6_read_b56 p1 p2 p3 p4) (fun a56 => a56.2.2) (fun a56 => [(0, .ref (ad 0)), (2, .int p2), (3, .int p3), (4, .int p4), (5, .ref (ad (54 + 2 * ww_ix p1))), (6, .int a56.1), (7, .int a56.2.1)]) (fun b56 => b56.2.2) (fun b56 => [(0, .ref (ad 0)), (6, .int b56.1), (7, .int b56.2.1)]) 152 (fun b56 => ?_) (fun a56 KK56 hc56 hx56 hr56 => ?_) ww_F (x6, x7, σ)
    · exact hJ152 b56.2.2 b56.1 b56.2.1
    · unfold f_X6_read_b56
      refine ww_iload (pc := 56) hC 6 rfl dX6_read_56 ?_
      refine ww_iload (pc := 58) hC 3 rfl dX6_read_58 ?_
      refine ww_icmp_ge (pc := 60) (tgt := 152) hC dX6_read_60 (by decide) ?_ ?_
      · refine ww_lv [0, 5, 6] rfl ?_
        exact hx56 (a56.1, a56.2.1, a56.2.2)
      · refine ww_iload (pc := 63) hC 5 rfl dX6_read_63 ?_
        refine ww_if_ne (pc := 65) (tgt := 152) hC dX6_read_65 (by decide) ?_ ?_
        · refine ww_lv [0, 5, 6] rfl ?_
          exact hx56 (a56.1, a56.2.1, a56.2.2)
        · refine ww_aload (pc := 68) hC 4 rfl dX6_read_68 ?_
          refine ww_iload_n (pc := 70) hC 1 rfl dX6_read_70 rfl ?_
          refine ww_iload_n (pc := 71) hC 2 rfl dX6_read_71 rfl ?_
          refine ww_iload (pc := 72) hC 6 rfl dX6_read_72 ?_
          refine ww_iadd (pc := 74) hC dX6_read_74 ?_
          refine ww_callVi (pc := 75) (st := []) (As := [.int p2, .int (p3 + a56.2.1)]) hC (c_X1_faultAt (54 + 2 * ww_ix p1) (ww_top_sheet hT hi36) a56.2.2 p2 (p3 + a56.2.1)) mm_X1_faultAt mw_845 ((ww_top_sheet hT hi36) 0 _ rfl) rfl (by omega) (by decide) (Nat.le_of_ble_eq_true rfl) rfl dX6_read_75 (fun v75 => ?_)
          refine ww_istore (pc := 78) (lv' := [(6, .int v75), (0, .ref (ad 0)), (2, .int p2), (3, .int p3), (4, .int p4), (5, .ref (ad (54 + 2 * ww_ix p1))), (7, .int a56.2.1)]) hC dX6_read_78 (by decide) rfl ?_
          refine ww_iload (pc := 80) hC 0 rfl dX6_read_80 ?_
          refine ww_if_ne (pc := 82) (tgt := 56) hC dX6_read_82 (by decide) ?_ ?_
          · refine ww_lv [1, 2, 3, 4, 5, 0, 6] rfl ?_
            exact hc56 (v75, a56.2.1, a56.2.2)
          · refine ww_aload (pc := 85) hC 5 rfl dX6_read_85 ?_
            refine ww_getr (pc := 87) (Cl := RX1) (T := TX1) (N := 3) (j := 0) (ref := RX1) hC ((ww_top_sheet hT hi36) 0 _ rfl) rfl inT_X1 (by decide) mw_279 rfl rfl dX6_read_87 ?_
            refine ww_iload_n (pc := 90) hC 3 rfl dX6_read_90 rfl ?_
            refine ww_iload (pc := 91) hC 6 rfl dX6_read_91 ?_
            refine ww_iadd (pc := 93) hC dX6_read_93 ?_
            refine ww_iald (pc := 94) hC ((ww_top_sheet hT hi36) 1 _ rfl) dX6_read_94 ?_
            refine ww_istore (pc := 95) (lv' := [(8, .int (a56.2.2 (54 + 2 * ww_ix p1 + 1) (ww_ix (p3 + a56.2.1)))), (6, .int v75), (0, .ref (ad 0)), (2, .int p2), (3, .int p3), (4, .int p4), (5, .ref (ad (54 + 2 * ww_ix p1))), (7, .int a56.2.1)]) hC dX6_read_95 (by decide) rfl ?_
            refine ww_aload_n (pc := 97) hC 2 rfl dX6_read_97 rfl ?_
            refine ww_getr (pc := 98) (Cl := RX6) (T := TX6) (N := 10) (j := 2) (ref := RX6) hC (hT 0 _ rfl) rfl inT_X6 (by decide) mw_300 rfl rfl dX6_read_98 ?_
            refine ww_iload (pc := 101) hC 0 rfl dX6_read_101 ?_
            refine ww_bipush (pc := 103) (v := (-4)) hC dX6_read_103 rfl ?_
            refine ww_callVi (pc := 105) (st := []) (As := [.int (a56.2.2 (54 + 2 * ww_ix p1 + 1) (ww_ix (p3 + a56.2.1))), .int (-4)]) hC (c_X2_refusal 4 (ww_top_now hT) a56.2.2 (a56.2.2 (54 + 2 * ww_ix p1 + 1) (ww_ix (p3 + a56.2.1))) (-4)) mm_X2_refusal mw_625 ((ww_top_now hT) 0 _ rfl) rfl (by omega) (by decide) (Nat.le_of_ble_eq_true rfl) rfl dX6_read_105 (fun v105 => ?_)
            refine ww_if_eq (pc := 108) (tgt := 128) hC dX6_read_108 (by decide) ?_ ?_
            · refine ww_aload_n (pc := 128) hC 2 rfl dX6_read_128 rfl ?_
              refine ww_getr (pc := 129) (Cl := RX6) (T := TX6) (N := 10) (j := 2) (ref := RX6) hC (hT 0 _ rfl) rfl inT_X6 (by decide) mw_300 rfl rfl dX6_read_129 ?_
              refine ww_aload_n (pc := 132) hC 2 rfl dX6_read_132 rfl ?_
              refine ww_getr (pc := 133) (Cl := RX6) (T := TX6) (N := 10) (j := 2) (ref := RX6) hC (hT 0 _ rfl) rfl inT_X6 (by decide) mw_300 rfl rfl dX6_read_133 ?_
              refine ww_iload (pc := 136) hC 0 rfl dX6_read_136 ?_
              refine ww_callVi (pc := 138) (st := [.ref (ad 4)]) (As := [.int (a56.2.2 (54 + 2 * ww_ix p1 + 1) (ww_ix (p3 + a56.2.1)))]) hC (c_X2_slotOf 4 (ww_top_now hT) a56.2.2 (a56.2.2 (54 + 2 * ww_ix p1 + 1) (ww_ix (p3 + a56.2.1)))) mm_X2_slotOf mw_564 ((ww_top_now hT) 0 _ rfl) rfl (by omega) (by decide) (Nat.le_of_ble_eq_true rfl) rfl dX6_read_138 (fun v138 => ?_)
              refine ww_iconst (pc := 141) (v := (-1)) hC dX6_read_141 rfl ?_
              refine ww_callVw (pc := 142) (st := []) (As := [.int v138, .int (-1)]) hC (c_X2_hourGoes 4 (ww_top_now hT) a56.2.2 v138 (-1)) mm_X2_hourGoes mw_639 ((ww_top_now hT) 0 _ rfl) rfl (by omega) (by decide) (Nat.le_of_ble_eq_true rfl) rfl dX6_read_142 (fun v142 => ?_)
              refine ww_pop (pc := 145) hC dX6_read_145 rfl ?_
              refine ww_iinc (pc := 146) (v := a56.2.1 + 1) (lv' := [(7, .int (a56.2.1 + 1)), (8, .int (a56.2.2 (54 + 2 * ww_ix p1 + 1) (ww_ix (p3 + a56.2.1)))), (6, .int v75), (0, .ref (ad 0)), (2, .int p2), (3, .int p3), (4, .int p4), (5, .ref (ad (54 + 2 * ww_ix p1)))]) hC 7 rfl dX6_read_146 rfl (by decide) rfl ?_
              refine ww_goto (pc := 149) (tgt := 56) hC dX6_read_149 (by decide) ?_
              refine ww_lv [3, 4, 5, 6, 7, 2, 0] rfl ?_
              exact hc56 (v75, a56.2.1 + 1, v142.2)
            · refine ww_aload_n (pc := 111) hC 2 rfl dX6_read_111 rfl ?_
              refine ww_getr (pc := 112) (Cl := RX6) (T := TX6) (N := 10) (j := 2) (ref := RX6) hC (hT 0 _ rfl) rfl inT_X6 (by decide) mw_300 rfl rfl dX6_read_112 ?_
              refine ww_aload_n (pc := 115) hC 2 rfl dX6_read_115 rfl ?_
              refine ww_getr (pc := 116) (Cl := RX6) (T := TX6) (N := 10) (j := 3) (ref := RX6) hC (hT 0 _ rfl) rfl inT_X6 (by decide) mw_301 rfl rfl dX6_read_116 ?_
              refine ww_callVv (pc := 119) (st := []) (As := [.ref (ad 14)]) hC (c_X2_copyFrom 4 (ww_top_now hT) 14 (ww_top_spare hT) a56.2.2) mm_X2_copyFrom mw_494 ((ww_top_now hT) 0 _ rfl) rfl (by omega) (by decide) (Nat.le_of_ble_eq_true rfl) rfl dX6_read_119 (fun v119 => ?_)
              refine ww_bipush (pc := 122) (v := (-20)) hC dX6_read_122 rfl ?_
              refine ww_iload (pc := 124) hC 7 rfl dX6_read_124 ?_
              refine ww_isub (pc := 126) hC dX6_read_126 ?_
              exact ww_ireturn (pc := 127) hC hR dX6_read_127 ((hr56 _).trans rfl)
  unfold f_X6_read
  refine ww_iload_n (pc := 0) hC 1 rfl dX6_read_0 rfl ?_
  refine ww_iconst (pc := 1) (v := 0) hC dX6_read_1 rfl ?_
  refine ww_iconst (pc := 2) (v := 3) hC dX6_read_2 rfl ?_
  refine ww_callSi (pc := 3) (st := []) (As := [.int p1, .int 0, .int 3]) hC (c_X6_within σ p1 0 3) mm_X6_within mw_333 (by omega) (by decide) (Nat.le_of_ble_eq_true rfl) rfl dX6_read_3 (fun v3 => ?_)
  refine ww_if_eq (pc := 6) (tgt := 29) hC dX6_read_6 (by decide) ?_ ?_
  · refine ww_iconst (pc := 29) (v := (-1)) hC dX6_read_29 rfl ?_
    exact ww_ireturn (pc := 30) hC hR dX6_read_30 rfl
  · refine ww_iload_n (pc := 9) hC 2 rfl dX6_read_9 rfl ?_
    refine ww_iconst (pc := 10) (v := 0) hC dX6_read_10 rfl ?_
    refine ww_iconst (pc := 11) (v := 2) hC dX6_read_11 rfl ?_
    refine ww_callSi (pc := 12) (st := []) (As := [.int p2, .int 0, .int 2]) hC (c_X6_within σ p2 0 2) mm_X6_within mw_333 (by omega) (by decide) (Nat.le_of_ble_eq_true rfl) rfl dX6_read_12 (fun v12 => ?_)
    refine ww_if_eq (pc := 15) (tgt := 29) hC dX6_read_15 (by decide) ?_ ?_
    · refine ww_iconst (pc := 29) (v := (-1)) hC dX6_read_29 rfl ?_
      exact ww_ireturn (pc := 30) hC hR dX6_read_30 rfl
    · refine ww_iload (pc := 18) hC 4 rfl dX6_read_18 ?_
      refine ww_iconst (pc := 20) (v := 0) hC dX6_read_20 rfl ?_
      refine ww_bipush (pc := 21) (v := 20) hC dX6_read_21 rfl ?_
      refine ww_callSi (pc := 23) (st := []) (As := [.int p4, .int 0, .int 20]) hC (c_X6_within σ p4 0 20) mm_X6_within mw_333 (by omega) (by decide) (Nat.le_of_ble_eq_true rfl) rfl dX6_read_23 (fun v23 => ?_)
      refine ww_if_ne (pc := 26) (tgt := 31) hC dX6_read_26 (by decide) ?_ ?_
      · refine ww_aload_n (pc := 31) hC 0 rfl dX6_read_31 rfl ?_
        refine ww_getr (pc := 32) (Cl := RX6) (T := TX6) (N := 10) (j := 8) (ref := RX6) hC (hT 0 _ rfl) rfl inT_X6 (by decide) mw_306 rfl rfl dX6_read_32 ?_
        refine ww_iload_n (pc := 35) hC 1 rfl dX6_read_35 rfl ?_
        refine ww_aald (pc := 36) hC (hT 53 _ rfl) (fun _ => rfl) dX6_read_36 (fun hi36 => ?_)
        refine ww_astore (pc := 37) (lv' := [(5, .ref (ad (54 + 2 * ww_ix p1))), (0, .ref (ad 0)), (1, .int p1), (2, .int p2), (3, .int p3), (4, .int p4)]) hC dX6_read_37 (by decide) rfl ?_
        refine ww_aload_n (pc := 39) hC 1 rfl dX6_read_39 rfl ?_
        refine ww_getr (pc := 40) (Cl := RX6) (T := TX6) (N := 10) (j := 3) (ref := RX6) hC (hT 0 _ rfl) rfl inT_X6 (by decide) mw_301 rfl rfl dX6_read_40 ?_
        refine ww_aload_n (pc := 43) hC 1 rfl dX6_read_43 rfl ?_
        refine ww_getr (pc := 44) (Cl := RX6) (T := TX6) (N := 10) (j := 2) (ref := RX6) hC (hT 0 _ rfl) rfl inT_X6 (by decide) mw_300 rfl rfl dX6_read_44 ?_
        refine ww_callVv (pc := 47) (st := []) (As := [.ref (ad 4)]) hC (c_X2_copyFrom 14 (ww_top_spare hT) 4 (ww_top_now hT) σ) mm_X2_copyFrom mw_494 ((ww_top_spare hT) 0 _ rfl) rfl (by omega) (by decide) (Nat.le_of_ble_eq_true rfl) rfl dX6_read_47 (fun v47 => ?_)
        refine ww_iconst (pc := 50) (v := 0) hC dX6_read_50 rfl ?_
        refine ww_istore (pc := 51) (lv' := [(6, .int 0), (5, .ref (ad (54 + 2 * ww_ix p1))), (0, .ref (ad 0)), (1, .int p1), (2, .int p2), (3, .int p3), (4, .int p4)]) hC dX6_read_51 (by decide) rfl ?_
        refine ww_iconst (pc := 53) (v := 0) hC dX6_read_53 rfl ?_
        refine ww_istore (pc := 54) (lv' := [(7, .int 0), (6, .int 0), (5, .ref (ad (54 + 2 * ww_ix p1))), (0, .ref (ad 0)), (1, .int p1), (2, .int p2), (3, .int p3), (4, .int p4)]) hC dX6_read_54 (by decide) rfl ?_
        refine ww_lv [3, 5, 6, 7, 2, 1, 0] rfl ?_
        exact hJ56 hi36 v47 0 0
      · refine ww_iconst (pc := 29) (v := (-1)) hC dX6_read_29 rfl ?_
        exact ww_ireturn (pc := 30) hC hR dX6_read_30 rfl
theorem dX6_torn_0 : decode cX6_torn 0 = .ok (.aload_n 0, 1) := by decide +kernel
theorem dX6_torn_1 : decode cX6_torn 1 = .ok (.getfield 246, 3) := by decide +kernel
theorem dX6_torn_4 : decode cX6_torn 4 = .ok (.ireturn, 1) := by decide +kernel
set_option maxHeartbeats 4000000 in
set_option maxRecDepth 100000 in
theorem c_X6_torn {l : Launch} {Y : ww_Y} {ad : Nat → Nat} {G : List ww_L} (hT : ww_at G 0 ww_LTop) (σ : ww_M) : ww_Cn l Y ad G yX6_torn cX6_torn 1 (some .int) 1 [.ref (ad 0)] σ ((f_X6_torn σ).bind (ww_ri σ)) := by
  refine ww_met (by decide +kernel) (Nat.le_of_ble_eq_true rfl) ?_
  intro X hC hR
  have hC : ww_C X l Y ad G 1 cX6_torn 1 RX6 := hC
  show ww_V X Y ad G 1 σ 0 [(0, .ref (ad 0))] [] ((f_X6_torn σ).bind (ww_ri σ))
  unfold f_X6_torn
  refine ww_aload_n (pc := 0) hC 0 rfl dX6_torn_0 rfl ?_
  refine ww_geti (pc := 1) (Cl := RX6) (T := TX6) (N := 10) (j := 9) (ref := RX6) hC (hT 0 _ rfl) rfl inT_X6 (by decide) mw_307 rfl rfl dX6_torn_1 ?_
  exact ww_ireturn (pc := 4) hC hR dX6_torn_4 rfl
theorem dX6_count_0 : decode cX6_count 0 = .ok (.iload_n 1, 1) := by decide +kernel
theorem dX6_count_1 : decode cX6_count 1 = .ok (.tableswitch 109 0 5 #[39, 47, 55, 63, 90, 98], 39) := by decide +kernel
theorem dX6_count_40 : decode cX6_count 40 = .ok (.aload_n 0, 1) := by decide +kernel
theorem dX6_count_41 : decode cX6_count 41 = .ok (.getfield 40, 3) := by decide +kernel
theorem dX6_count_44 : decode cX6_count 44 = .ok (.getfield 90, 3) := by decide +kernel
theorem dX6_count_47 : decode cX6_count 47 = .ok (.ireturn, 1) := by decide +kernel
theorem dX6_count_48 : decode cX6_count 48 = .ok (.aload_n 0, 1) := by decide +kernel
theorem dX6_count_49 : decode cX6_count 49 = .ok (.getfield 91, 3) := by decide +kernel
theorem dX6_count_52 : decode cX6_count 52 = .ok (.invokestatic 225, 3) := by decide +kernel
theorem dX6_count_55 : decode cX6_count 55 = .ok (.ireturn, 1) := by decide +kernel
theorem dX6_count_56 : decode cX6_count 56 = .ok (.aload_n 0, 1) := by decide +kernel
theorem dX6_count_57 : decode cX6_count 57 = .ok (.getfield 12, 3) := by decide +kernel
theorem dX6_count_60 : decode cX6_count 60 = .ok (.getfield 69, 3) := by decide +kernel
theorem dX6_count_63 : decode cX6_count 63 = .ok (.ireturn, 1) := by decide +kernel
theorem dX6_count_64 : decode cX6_count 64 = .ok (.aload_n 0, 1) := by decide +kernel
theorem dX6_count_65 : decode cX6_count 65 = .ok (.getfield 53, 3) := by decide +kernel
theorem dX6_count_68 : decode cX6_count 68 = .ok (.iconst 0, 1) := by decide +kernel
theorem dX6_count_69 : decode cX6_count 69 = .ok (.aaload, 1) := by decide +kernel
theorem dX6_count_70 : decode cX6_count 70 = .ok (.getfield 249, 3) := by decide +kernel
theorem dX6_count_73 : decode cX6_count 73 = .ok (.ifCond .ge 8, 3) := by decide +kernel
theorem dX6_count_76 : decode cX6_count 76 = .ok (.bipush (-4), 2) := by decide +kernel
theorem dX6_count_78 : decode cX6_count 78 = .ok (.goto 12, 3) := by decide +kernel
theorem dX6_count_81 : decode cX6_count 81 = .ok (.aload_n 0, 1) := by decide +kernel
theorem dX6_count_82 : decode cX6_count 82 = .ok (.getfield 53, 3) := by decide +kernel
theorem dX6_count_85 : decode cX6_count 85 = .ok (.iconst 0, 1) := by decide +kernel
theorem dX6_count_86 : decode cX6_count 86 = .ok (.aaload, 1) := by decide +kernel
theorem dX6_count_87 : decode cX6_count 87 = .ok (.getfield 249, 3) := by decide +kernel
theorem dX6_count_90 : decode cX6_count 90 = .ok (.ireturn, 1) := by decide +kernel
theorem dX6_count_91 : decode cX6_count 91 = .ok (.aload_n 0, 1) := by decide +kernel
theorem dX6_count_92 : decode cX6_count 92 = .ok (.getfield 26, 3) := by decide +kernel
theorem dX6_count_95 : decode cX6_count 95 = .ok (.invokevirtual 250, 3) := by decide +kernel
theorem dX6_count_98 : decode cX6_count 98 = .ok (.ireturn, 1) := by decide +kernel
theorem dX6_count_99 : decode cX6_count 99 = .ok (.aload_n 0, 1) := by decide +kernel
theorem dX6_count_100 : decode cX6_count 100 = .ok (.getfield 26, 3) := by decide +kernel
theorem dX6_count_103 : decode cX6_count 103 = .ok (.getfield 222, 3) := by decide +kernel
theorem dX6_count_106 : decode cX6_count 106 = .ok (.invokestatic 225, 3) := by decide +kernel
theorem dX6_count_109 : decode cX6_count 109 = .ok (.ireturn, 1) := by decide +kernel
theorem dX6_count_110 : decode cX6_count 110 = .ok (.iconst (-1), 1) := by decide +kernel
theorem dX6_count_111 : decode cX6_count 111 = .ok (.ireturn, 1) := by decide +kernel
set_option maxHeartbeats 4000000 in
set_option maxRecDepth 100000 in
theorem c_X6_count {l : Launch} {Y : ww_Y} {ad : Nat → Nat} {G : List ww_L} (hT : ww_at G 0 ww_LTop) (σ : ww_M) (p1 : Int32) : ww_Cn l Y ad G yX6_count cX6_count 2 (some .int) 5 [.ref (ad 0), .int p1] σ ((f_X6_count σ p1).bind (ww_ri σ)) := by
  refine ww_met (by decide +kernel) (Nat.le_of_ble_eq_true rfl) ?_
  intro X hC hR
  have hC : ww_C X l Y ad G 5 cX6_count 2 RX6 := hC
  show ww_V X Y ad G 2 σ 0 [(0, .ref (ad 0)), (1, .int p1)] [] ((f_X6_count σ p1).bind (ww_ri σ))
  unfold f_X6_count
  refine ww_iload_n (pc := 0) hC 1 rfl dX6_count_0 rfl ?_
  refine ww_tab (pc := 1) (tgt := 40) hC 0 dX6_count_1 (by decide) (by decide) rfl (by decide) ?_ (fun q1_0 => ?_)
  · refine ww_aload_n (pc := 40) hC 0 rfl dX6_count_40 rfl ?_
    refine ww_getr (pc := 41) (Cl := RX6) (T := TX6) (N := 10) (j := 6) (ref := RX6) hC (hT 0 _ rfl) rfl inT_X6 (by decide) mw_304 rfl rfl dX6_count_41 ?_
    refine ww_geti (pc := 44) (Cl := RX3) (T := TX3) (N := 3) (j := 2) (ref := RX3) hC ((ww_top_tales hT) 0 _ rfl) rfl inT_X3 (by decide) mw_229 rfl rfl dX6_count_44 ?_
    exact ww_ireturn (pc := 47) hC hR dX6_count_47 rfl
  refine ww_tab (pc := 1) (tgt := 48) hC 1 dX6_count_1 (by decide) (by decide) rfl (by decide) ?_ (fun q1_1 => ?_)
  · refine ww_aload_n (pc := 48) hC 0 rfl dX6_count_48 rfl ?_
    refine ww_geti (pc := 49) (Cl := RX6) (T := TX6) (N := 10) (j := 5) (ref := RX6) hC (hT 0 _ rfl) rfl inT_X6 (by decide) mw_303 rfl rfl dX6_count_49 ?_
    refine ww_callSi (pc := 52) (st := []) (As := [.int (σ 0 5)]) hC (c_J6_bitCount_0f7a4 σ (σ 0 5)) mm_J6_bitCount_0f7a4 mw_823 (by omega) (by decide) (Nat.le_of_ble_eq_true rfl) rfl dX6_count_52 (fun v52 => ?_)
    exact ww_ireturn (pc := 55) hC hR dX6_count_55 rfl
  refine ww_tab (pc := 1) (tgt := 56) hC 2 dX6_count_1 (by decide) (by decide) rfl (by decide) ?_ (fun q1_2 => ?_)
  · refine ww_aload_n (pc := 56) hC 0 rfl dX6_count_56 rfl ?_
    refine ww_getr (pc := 57) (Cl := RX6) (T := TX6) (N := 10) (j := 0) (ref := RX6) hC (hT 0 _ rfl) rfl inT_X6 (by decide) mw_298 rfl rfl dX6_count_57 ?_
    refine ww_geti (pc := 60) (Cl := RX4) (T := TX4) (N := 6) (j := 1) (ref := RX4) hC ((ww_top_tape hT) 0 _ rfl) rfl inT_X4 (by decide) mw_91 rfl rfl dX6_count_60 ?_
    exact ww_ireturn (pc := 63) hC hR dX6_count_63 rfl
  refine ww_tab (pc := 1) (tgt := 64) hC 3 dX6_count_1 (by decide) (by decide) rfl (by decide) ?_ (fun q1_3 => ?_)
  · refine ww_aload_n (pc := 64) hC 0 rfl dX6_count_64 rfl ?_
    refine ww_getr (pc := 65) (Cl := RX6) (T := TX6) (N := 10) (j := 8) (ref := RX6) hC (hT 0 _ rfl) rfl inT_X6 (by decide) mw_306 rfl rfl dX6_count_65 ?_
    refine ww_iconst (pc := 68) (v := 0) hC dX6_count_68 rfl ?_
    refine ww_aald (pc := 69) hC (hT 53 _ rfl) (fun _ => rfl) dX6_count_69 (fun hi69 => ?_)
    refine ww_geti (pc := 70) (Cl := RX1) (T := TX1) (N := 3) (j := 2) (ref := RX1) hC ((ww_top_sheet hT hi69) 0 _ rfl) rfl inT_X1 (by decide) mw_283 rfl rfl dX6_count_70 ?_
    refine ww_if_ge (pc := 73) (tgt := 81) hC dX6_count_73 (by decide) ?_ ?_
    · refine ww_aload_n (pc := 81) hC 0 rfl dX6_count_81 rfl ?_
      refine ww_getr (pc := 82) (Cl := RX6) (T := TX6) (N := 10) (j := 8) (ref := RX6) hC (hT 0 _ rfl) rfl inT_X6 (by decide) mw_306 rfl rfl dX6_count_82 ?_
      refine ww_iconst (pc := 85) (v := 0) hC dX6_count_85 rfl ?_
      refine ww_aald (pc := 86) hC (hT 53 _ rfl) (fun _ => rfl) dX6_count_86 (fun hi86 => ?_)
      refine ww_geti (pc := 87) (Cl := RX1) (T := TX1) (N := 3) (j := 2) (ref := RX1) hC ((ww_top_sheet hT hi86) 0 _ rfl) rfl inT_X1 (by decide) mw_283 rfl rfl dX6_count_87 ?_
      exact ww_ireturn (pc := 90) hC hR dX6_count_90 rfl
    · refine ww_bipush (pc := 76) (v := (-4)) hC dX6_count_76 rfl ?_
      refine ww_goto (pc := 78) (tgt := 90) hC dX6_count_78 (by decide) ?_
      exact ww_ireturn (pc := 90) hC hR dX6_count_90 rfl
  refine ww_tab (pc := 1) (tgt := 91) hC 4 dX6_count_1 (by decide) (by decide) rfl (by decide) ?_ (fun q1_4 => ?_)
  · refine ww_aload_n (pc := 91) hC 0 rfl dX6_count_91 rfl ?_
    refine ww_getr (pc := 92) (Cl := RX6) (T := TX6) (N := 10) (j := 2) (ref := RX6) hC (hT 0 _ rfl) rfl inT_X6 (by decide) mw_300 rfl rfl dX6_count_92 ?_
    refine ww_callVi (pc := 95) (st := []) (As := []) hC (c_X2_cutParts 4 (ww_top_now hT) σ) mm_X2_cutParts mw_866 ((ww_top_now hT) 0 _ rfl) rfl (by omega) (by decide) (Nat.le_of_ble_eq_true rfl) rfl dX6_count_95 (fun v95 => ?_)
    exact ww_ireturn (pc := 98) hC hR dX6_count_98 rfl
  refine ww_tab (pc := 1) (tgt := 99) hC 5 dX6_count_1 (by decide) (by decide) rfl (by decide) ?_ (fun q1_5 => ?_)
  · refine ww_aload_n (pc := 99) hC 0 rfl dX6_count_99 rfl ?_
    refine ww_getr (pc := 100) (Cl := RX6) (T := TX6) (N := 10) (j := 2) (ref := RX6) hC (hT 0 _ rfl) rfl inT_X6 (by decide) mw_300 rfl rfl dX6_count_100 ?_
    refine ww_geti (pc := 103) (Cl := RX2) (T := TX2) (N := 17) (j := 16) (ref := RX2) hC ((ww_top_now hT) 0 _ rfl) rfl inT_X2 (by decide) mw_182 rfl rfl dX6_count_103 ?_
    refine ww_callSi (pc := 106) (st := []) (As := [.int (σ 4 16)]) hC (c_J6_bitCount_0f7a4 σ (σ 4 16)) mm_J6_bitCount_0f7a4 mw_823 (by omega) (by decide) (Nat.le_of_ble_eq_true rfl) rfl dX6_count_106 (fun v106 => ?_)
    exact ww_ireturn (pc := 109) hC hR dX6_count_109 rfl
  have z1_0 : p1.toInt ≠ (0 : Int) := ww_nei q1_0
  have z1_1 : p1.toInt ≠ (1 : Int) := ww_nei q1_1
  have z1_2 : p1.toInt ≠ (2 : Int) := ww_nei q1_2
  have z1_3 : p1.toInt ≠ (3 : Int) := ww_nei q1_3
  have z1_4 : p1.toInt ≠ (4 : Int) := ww_nei q1_4
  have z1_5 : p1.toInt ≠ (5 : Int) := ww_nei q1_5
  refine ww_tabD (pc := 1) (tgt := 110) hC dX6_count_1 (by omega) (by decide) ?_
  refine ww_iconst (pc := 110) (v := (-1)) hC dX6_count_110 rfl ?_
  exact ww_ireturn (pc := 111) hC hR dX6_count_111 rfl
