theorem dX7_laws_0 : decode cX7_laws 0 = .ok (.iconst 0, 1) := by decide +kernel
theorem dX7_laws_1 : decode cX7_laws 1 = .ok (.istore_n 1, 1) := by decide +kernel
theorem dX7_laws_2 : decode cX7_laws 2 = .ok (.iconst 0, 1) := by decide +kernel
theorem dX7_laws_3 : decode cX7_laws 3 = .ok (.istore_n 2, 1) := by decide +kernel
theorem dX7_laws_4 : decode cX7_laws 4 = .ok (.iload_n 2, 1) := by decide +kernel
theorem dX7_laws_5 : decode cX7_laws 5 = .ok (.iconst 4, 1) := by decide +kernel
theorem dX7_laws_6 : decode cX7_laws 6 = .ok (.if_icmp .ge 27, 3) := by decide +kernel
theorem dX7_laws_9 : decode cX7_laws 9 = .ok (.iload_n 1, 1) := by decide +kernel
theorem dX7_laws_10 : decode cX7_laws 10 = .ok (.aload_n 0, 1) := by decide +kernel
theorem dX7_laws_11 : decode cX7_laws 11 = .ok (.iload_n 2, 1) := by decide +kernel
theorem dX7_laws_12 : decode cX7_laws 12 = .ok (.invokevirtual 258, 3) := by decide +kernel
theorem dX7_laws_15 : decode cX7_laws 15 = .ok (.ifCond .eq 9, 3) := by decide +kernel
theorem dX7_laws_18 : decode cX7_laws 18 = .ok (.iconst 1, 1) := by decide +kernel
theorem dX7_laws_19 : decode cX7_laws 19 = .ok (.iload_n 2, 1) := by decide +kernel
theorem dX7_laws_20 : decode cX7_laws 20 = .ok (.ishl, 1) := by decide +kernel
theorem dX7_laws_21 : decode cX7_laws 21 = .ok (.goto 4, 3) := by decide +kernel
theorem dX7_laws_24 : decode cX7_laws 24 = .ok (.iconst 0, 1) := by decide +kernel
theorem dX7_laws_25 : decode cX7_laws 25 = .ok (.ior, 1) := by decide +kernel
theorem dX7_laws_26 : decode cX7_laws 26 = .ok (.istore_n 1, 1) := by decide +kernel
theorem dX7_laws_27 : decode cX7_laws 27 = .ok (.iinc 2 1, 3) := by decide +kernel
theorem dX7_laws_30 : decode cX7_laws 30 = .ok (.goto (-26), 3) := by decide +kernel
theorem dX7_laws_33 : decode cX7_laws 33 = .ok (.iload_n 1, 1) := by decide +kernel
theorem dX7_laws_34 : decode cX7_laws 34 = .ok (.ireturn, 1) := by decide +kernel
set_option maxHeartbeats 4000000 in
set_option maxRecDepth 100000 in
theorem c_X7_laws {l : Launch} {Y : ww_Y} {ad : Nat → Nat} {G : List ww_L} (o0 : Nat) (h0 : ww_at G o0 (ww_LModel o0)) (σ : ww_M) : ww_Cn l Y ad G yX7_laws cX7_laws 3 (some .int) 6 [.ref (ad o0)] σ ((f_X7_laws σ o0).bind (ww_ri σ)) := by
  refine ww_met (by decide +kernel) (Nat.le_of_ble_eq_true rfl) ?_
  intro X hC hR
  have hC : ww_C X l Y ad G 6 cX7_laws 3 RX7 := hC
  show ww_V X Y ad G 3 σ 0 [(0, .ref (ad o0))] [] ((f_X7_laws σ o0).bind (ww_ri σ))
  have hJ33 : ∀ (x1 : Int32), ww_V X Y ad G 3 σ 33 [(1, .int x1)] [] ((f_X7_laws_j33 σ o0 x1).bind (ww_ri σ)) := by
    intro x1
    unfold f_X7_laws_j33
    refine ww_iload_n (pc := 33) hC 0 rfl dX7_laws_33 rfl ?_
    exact ww_ireturn (pc := 34) hC hR dX7_laws_34 rfl
  have hJ4 : ∀ (x1 : Int32) (x2 : Int32), ww_V X Y ad G 3 σ 4 [(0, .ref (ad o0)), (1, .int x1), (2, .int x2)] [] ((f_X7_laws_j4 σ o0 x1 x2).bind (ww_ri σ)) := by
    intro x1 x2
    unfold f_X7_laws_j4
    refine ww_assoc ?_
    refine ww_loop (f := f_X7_laws_b4 σ o0) (fun a4 => σ) (fun a4 => [(0, .ref (ad o0)), (1, .int a4.1), (2, .int a4.2)]) (fun b4 => σ) (fun b4 => [(1, .int b4)]) 33 (fun b4 => ?_) (fun a4 KK4 hc4 hx4 => ?_) ww_F (x1, x2)
    · exact hJ33 b4
    · unfold f_X7_laws_b4
      refine ww_iload_n (pc := 4) hC 2 rfl dX7_laws_4 rfl ?_
      refine ww_iconst (pc := 5) (v := 4) hC dX7_laws_5 rfl ?_
      refine ww_icmp_ge (pc := 6) (tgt := 33) hC dX7_laws_6 (by decide) ?_ ?_
      · refine ww_lv [1] rfl ?_
        exact hx4 a4.1
      · refine ww_iload_n (pc := 9) hC 1 rfl dX7_laws_9 rfl ?_
        refine ww_aload_n (pc := 10) hC 0 rfl dX7_laws_10 rfl ?_
        refine ww_iload_n (pc := 11) hC 2 rfl dX7_laws_11 rfl ?_
        refine ww_callVi (pc := 12) (st := [.int a4.1]) (As := [.int a4.2]) hC (c_X7_explains o0 h0 σ a4.2) mm_X7_explains mw_1234 (h0 0 _ rfl) rfl (by omega) (by decide) (Nat.le_of_ble_eq_true rfl) rfl dX7_laws_12 (fun v12 => ?_)
        refine ww_if_eq (pc := 15) (tgt := 24) hC dX7_laws_15 (by decide) ?_ ?_
        · refine ww_iconst (pc := 24) (v := 0) hC dX7_laws_24 rfl ?_
          refine ww_ior (pc := 25) hC dX7_laws_25 ?_
          refine ww_istore_n (pc := 26) (lv' := [(1, .int (a4.1 ||| 0)), (0, .ref (ad o0)), (2, .int a4.2)]) hC dX7_laws_26 rfl (by decide) rfl ?_
          refine ww_iinc (pc := 27) (v := a4.2 + 1) (lv' := [(2, .int (a4.2 + 1)), (1, .int (a4.1 ||| 0)), (0, .ref (ad o0))]) hC 2 rfl dX7_laws_27 rfl (by decide) rfl ?_
          refine ww_goto (pc := 30) (tgt := 4) hC dX7_laws_30 (by decide) ?_
          refine ww_lv [2, 1, 0] rfl ?_
          exact hc4 (a4.1 ||| 0, a4.2 + 1)
        · refine ww_iconst (pc := 18) (v := 1) hC dX7_laws_18 rfl ?_
          refine ww_iload_n (pc := 19) hC 2 rfl dX7_laws_19 rfl ?_
          refine ww_ishl (pc := 20) hC dX7_laws_20 ?_
          refine ww_goto (pc := 21) (tgt := 25) hC dX7_laws_21 (by decide) ?_
          refine ww_ior (pc := 25) hC dX7_laws_25 ?_
          refine ww_istore_n (pc := 26) (lv' := [(1, .int (a4.1 ||| (ww_shl 1 a4.2))), (0, .ref (ad o0)), (2, .int a4.2)]) hC dX7_laws_26 rfl (by decide) rfl ?_
          refine ww_iinc (pc := 27) (v := a4.2 + 1) (lv' := [(2, .int (a4.2 + 1)), (1, .int (a4.1 ||| (ww_shl 1 a4.2))), (0, .ref (ad o0))]) hC 2 rfl dX7_laws_27 rfl (by decide) rfl ?_
          refine ww_goto (pc := 30) (tgt := 4) hC dX7_laws_30 (by decide) ?_
          refine ww_lv [2, 1, 0] rfl ?_
          exact hc4 (a4.1 ||| (ww_shl 1 a4.2), a4.2 + 1)
  unfold f_X7_laws
  refine ww_iconst (pc := 0) (v := 0) hC dX7_laws_0 rfl ?_
  refine ww_istore_n (pc := 1) (lv' := [(1, .int 0), (0, .ref (ad o0))]) hC dX7_laws_1 rfl (by decide) rfl ?_
  refine ww_iconst (pc := 2) (v := 0) hC dX7_laws_2 rfl ?_
  refine ww_istore_n (pc := 3) (lv' := [(2, .int 0), (1, .int 0), (0, .ref (ad o0))]) hC dX7_laws_3 rfl (by decide) rfl ?_
  refine ww_lv [2, 1, 0] rfl ?_
  exact hJ4 0 0
theorem dX7_whose_0 : decode cX7_whose 0 = .ok (.aload_n 0, 1) := by decide +kernel
theorem dX7_whose_1 : decode cX7_whose 1 = .ok (.iload_n 1, 1) := by decide +kernel
theorem dX7_whose_2 : decode cX7_whose 2 = .ok (.invokevirtual 175, 3) := by decide +kernel
theorem dX7_whose_5 : decode cX7_whose 5 = .ok (.ifCond .ne 5, 3) := by decide +kernel
theorem dX7_whose_8 : decode cX7_whose 8 = .ok (.iconst (-1), 1) := by decide +kernel
theorem dX7_whose_9 : decode cX7_whose 9 = .ok (.ireturn, 1) := by decide +kernel
theorem dX7_whose_10 : decode cX7_whose 10 = .ok (.aload_n 0, 1) := by decide +kernel
theorem dX7_whose_11 : decode cX7_whose 11 = .ok (.getfield 7, 3) := by decide +kernel
theorem dX7_whose_14 : decode cX7_whose 14 = .ok (.iconst 2, 1) := by decide +kernel
theorem dX7_whose_15 : decode cX7_whose 15 = .ok (.iload_n 1, 1) := by decide +kernel
theorem dX7_whose_16 : decode cX7_whose 16 = .ok (.imul, 1) := by decide +kernel
theorem dX7_whose_17 : decode cX7_whose 17 = .ok (.iaload, 1) := by decide +kernel
theorem dX7_whose_18 : decode cX7_whose 18 = .ok (.istore_n 2, 1) := by decide +kernel
theorem dX7_whose_19 : decode cX7_whose 19 = .ok (.iconst 0, 1) := by decide +kernel
theorem dX7_whose_20 : decode cX7_whose 20 = .ok (.istore_n 3, 1) := by decide +kernel
theorem dX7_whose_21 : decode cX7_whose 21 = .ok (.iconst 0, 1) := by decide +kernel
theorem dX7_whose_22 : decode cX7_whose 22 = .ok (.istore 4, 2) := by decide +kernel
theorem dX7_whose_24 : decode cX7_whose 24 = .ok (.iload 4, 2) := by decide +kernel
theorem dX7_whose_26 : decode cX7_whose 26 = .ok (.iconst 4, 1) := by decide +kernel
theorem dX7_whose_27 : decode cX7_whose 27 = .ok (.if_icmp .ge 44, 3) := by decide +kernel
theorem dX7_whose_30 : decode cX7_whose 30 = .ok (.aload_n 0, 1) := by decide +kernel
theorem dX7_whose_31 : decode cX7_whose 31 = .ok (.getfield 7, 3) := by decide +kernel
theorem dX7_whose_34 : decode cX7_whose 34 = .ok (.iconst 2, 1) := by decide +kernel
theorem dX7_whose_35 : decode cX7_whose 35 = .ok (.iload_n 1, 1) := by decide +kernel
theorem dX7_whose_36 : decode cX7_whose 36 = .ok (.imul, 1) := by decide +kernel
theorem dX7_whose_37 : decode cX7_whose 37 = .ok (.iload 4, 2) := by decide +kernel
theorem dX7_whose_39 : decode cX7_whose 39 = .ok (.iastore, 1) := by decide +kernel
theorem dX7_whose_40 : decode cX7_whose 40 = .ok (.iload_n 3, 1) := by decide +kernel
theorem dX7_whose_41 : decode cX7_whose 41 = .ok (.aload_n 0, 1) := by decide +kernel
theorem dX7_whose_42 : decode cX7_whose 42 = .ok (.aload_n 0, 1) := by decide +kernel
theorem dX7_whose_43 : decode cX7_whose 43 = .ok (.getfield 7, 3) := by decide +kernel
theorem dX7_whose_46 : decode cX7_whose 46 = .ok (.bipush 12, 2) := by decide +kernel
theorem dX7_whose_48 : decode cX7_whose 48 = .ok (.iaload, 1) := by decide +kernel
theorem dX7_whose_49 : decode cX7_whose 49 = .ok (.invokevirtual 258, 3) := by decide +kernel
theorem dX7_whose_52 : decode cX7_whose 52 = .ok (.ifCond .eq 10, 3) := by decide +kernel
theorem dX7_whose_55 : decode cX7_whose 55 = .ok (.iconst 1, 1) := by decide +kernel
theorem dX7_whose_56 : decode cX7_whose 56 = .ok (.iload 4, 2) := by decide +kernel
theorem dX7_whose_58 : decode cX7_whose 58 = .ok (.ishl, 1) := by decide +kernel
theorem dX7_whose_59 : decode cX7_whose 59 = .ok (.goto 4, 3) := by decide +kernel
theorem dX7_whose_62 : decode cX7_whose 62 = .ok (.iconst 0, 1) := by decide +kernel
theorem dX7_whose_63 : decode cX7_whose 63 = .ok (.ior, 1) := by decide +kernel
theorem dX7_whose_64 : decode cX7_whose 64 = .ok (.istore_n 3, 1) := by decide +kernel
theorem dX7_whose_65 : decode cX7_whose 65 = .ok (.iinc 4 1, 3) := by decide +kernel
theorem dX7_whose_68 : decode cX7_whose 68 = .ok (.goto (-44), 3) := by decide +kernel
theorem dX7_whose_71 : decode cX7_whose 71 = .ok (.aload_n 0, 1) := by decide +kernel
theorem dX7_whose_72 : decode cX7_whose 72 = .ok (.getfield 7, 3) := by decide +kernel
theorem dX7_whose_75 : decode cX7_whose 75 = .ok (.iconst 2, 1) := by decide +kernel
theorem dX7_whose_76 : decode cX7_whose 76 = .ok (.iload_n 1, 1) := by decide +kernel
theorem dX7_whose_77 : decode cX7_whose 77 = .ok (.imul, 1) := by decide +kernel
theorem dX7_whose_78 : decode cX7_whose 78 = .ok (.iload_n 2, 1) := by decide +kernel
theorem dX7_whose_79 : decode cX7_whose 79 = .ok (.iastore, 1) := by decide +kernel
theorem dX7_whose_80 : decode cX7_whose 80 = .ok (.iload_n 3, 1) := by decide +kernel
theorem dX7_whose_81 : decode cX7_whose 81 = .ok (.ireturn, 1) := by decide +kernel
set_option maxHeartbeats 4000000 in
set_option maxRecDepth 100000 in
theorem c_X7_whose {l : Launch} {Y : ww_Y} {ad : Nat → Nat} {G : List ww_L} (o0 : Nat) (h0 : ww_at G o0 (ww_LModel o0)) (σ : ww_M) (p1 : Int32) : ww_Cn l Y ad G yX7_whose cX7_whose 5 (some .int) 6 [.ref (ad o0), .int p1] σ ((f_X7_whose σ o0 p1).bind ww_rw) := by
  refine ww_met (by decide +kernel) (Nat.le_of_ble_eq_true rfl) ?_
  intro X hC hR
  have hC : ww_C X l Y ad G 6 cX7_whose 5 RX7 := hC
  show ww_V X Y ad G 5 σ 0 [(0, .ref (ad o0)), (1, .int p1)] [] ((f_X7_whose σ o0 p1).bind ww_rw)
  have hJ71 : ∀ (σ : ww_M) (x2 : Int32) (x3 : Int32), ww_V X Y ad G 5 σ 71 [(0, .ref (ad o0)), (1, .int p1), (2, .int x2), (3, .int x3)] [] ((f_X7_whose_j71 σ o0 p1 x2 x3).bind ww_rw) := by
    intro σ x2 x3
    unfold f_X7_whose_j71
    refine ww_aload_n (pc := 71) hC 0 rfl dX7_whose_71 rfl ?_
    refine ww_getr (pc := 72) (Cl := RX7) (T := TX7) (N := 36) (j := 0) (ref := RX7) hC (h0 0 _ rfl) rfl inT_X7 (by decide) mw_876 rfl rfl dX7_whose_72 ?_
    refine ww_iconst (pc := 75) (v := 2) hC dX7_whose_75 rfl ?_
    refine ww_iload_n (pc := 76) hC 1 rfl dX7_whose_76 rfl ?_
    refine ww_imul (pc := 77) hC dX7_whose_77 ?_
    refine ww_iload_n (pc := 78) hC 2 rfl dX7_whose_78 rfl ?_
    refine ww_iast (pc := 79) hC (h0 1 _ rfl) dX7_whose_79 ?_
    refine ww_iload_n (pc := 80) hC 3 rfl dX7_whose_80 rfl ?_
    exact ww_ireturn (pc := 81) hC hR dX7_whose_81 rfl
  have hJ24 : ∀ (σ : ww_M) (x2 : Int32) (x3 : Int32) (x4 : Int32), ww_V X Y ad G 5 σ 24 [(0, .ref (ad o0)), (1, .int p1), (2, .int x2), (3, .int x3), (4, .int x4)] [] ((f_X7_whose_j24 σ o0 p1 x2 x3 x4).bind ww_rw) := by
    intro σ x2 x3 x4
    unfold f_X7_whose_j24
    refine ww_assoc ?_
    refine ww_loop (f := f_X7_whose_b24 o0 p1 x2) (fun a24 => a24.2.2) (fun a24 => [(0, .ref (ad o0)), (1, .int p1), (2, .int x2), (3, .int a24.1), (4, .int a24.2.1)]) (fun b24 => b24.2) (fun b24 => [(0, .ref (ad o0)), (1, .int p1), (2, .int x2), (3, .int b24.1)]) 71 (fun b24 => ?_) (fun a24 KK24 hc24 hx24 => ?_) ww_F (x3, x4, σ)
    · exact hJ71 b24.2 x2 b24.1
    · unfold f_X7_whose_b24
      refine ww_iload (pc := 24) hC 4 rfl dX7_whose_24 ?_
      refine ww_iconst (pc := 26) (v := 4) hC dX7_whose_26 rfl ?_
      refine ww_icmp_ge (pc := 27) (tgt := 71) hC dX7_whose_27 (by decide) ?_ ?_
      · refine ww_lv [0, 1, 2, 3] rfl ?_
        exact hx24 (a24.1, a24.2.2)
      · refine ww_aload_n (pc := 30) hC 0 rfl dX7_whose_30 rfl ?_
        refine ww_getr (pc := 31) (Cl := RX7) (T := TX7) (N := 36) (j := 0) (ref := RX7) hC (h0 0 _ rfl) rfl inT_X7 (by decide) mw_876 rfl rfl dX7_whose_31 ?_
        refine ww_iconst (pc := 34) (v := 2) hC dX7_whose_34 rfl ?_
        refine ww_iload_n (pc := 35) hC 1 rfl dX7_whose_35 rfl ?_
        refine ww_imul (pc := 36) hC dX7_whose_36 ?_
        refine ww_iload (pc := 37) hC 4 rfl dX7_whose_37 ?_
        refine ww_iast (pc := 39) hC (h0 1 _ rfl) dX7_whose_39 ?_
        refine ww_iload_n (pc := 40) hC 3 rfl dX7_whose_40 rfl ?_
        refine ww_aload_n (pc := 41) hC 0 rfl dX7_whose_41 rfl ?_
        refine ww_aload_n (pc := 42) hC 0 rfl dX7_whose_42 rfl ?_
        refine ww_getr (pc := 43) (Cl := RX7) (T := TX7) (N := 36) (j := 0) (ref := RX7) hC (h0 0 _ rfl) rfl inT_X7 (by decide) mw_876 rfl rfl dX7_whose_43 ?_
        refine ww_bipush (pc := 46) (v := 12) hC dX7_whose_46 rfl ?_
        refine ww_iald_c (pc := 48) (j := 12) hC (h0 1 _ rfl) (by decide) rfl dX7_whose_48 ?_
        refine ww_callVi (pc := 49) (st := [.int a24.1]) (As := [.int ((ww_up a24.2.2 (o0 + 1) (ww_ix (2 * p1)) a24.2.1) (o0 + 1) 12)]) hC (c_X7_explains o0 h0 (ww_up a24.2.2 (o0 + 1) (ww_ix (2 * p1)) a24.2.1) ((ww_up a24.2.2 (o0 + 1) (ww_ix (2 * p1)) a24.2.1) (o0 + 1) 12)) mm_X7_explains mw_1234 (h0 0 _ rfl) rfl (by omega) (by decide) (Nat.le_of_ble_eq_true rfl) rfl dX7_whose_49 (fun v49 => ?_)
        refine ww_if_eq (pc := 52) (tgt := 62) hC dX7_whose_52 (by decide) ?_ ?_
        · refine ww_iconst (pc := 62) (v := 0) hC dX7_whose_62 rfl ?_
          refine ww_ior (pc := 63) hC dX7_whose_63 ?_
          refine ww_istore_n (pc := 64) (lv' := [(3, .int (a24.1 ||| 0)), (0, .ref (ad o0)), (1, .int p1), (2, .int x2), (4, .int a24.2.1)]) hC dX7_whose_64 rfl (by decide) rfl ?_
          refine ww_iinc (pc := 65) (v := a24.2.1 + 1) (lv' := [(4, .int (a24.2.1 + 1)), (3, .int (a24.1 ||| 0)), (0, .ref (ad o0)), (1, .int p1), (2, .int x2)]) hC 4 rfl dX7_whose_65 rfl (by decide) rfl ?_
          refine ww_goto (pc := 68) (tgt := 24) hC dX7_whose_68 (by decide) ?_
          refine ww_lv [2, 3, 4, 1, 0] rfl ?_
          exact hc24 (a24.1 ||| 0, a24.2.1 + 1, ww_up a24.2.2 (o0 + 1) (ww_ix (2 * p1)) a24.2.1)
        · refine ww_iconst (pc := 55) (v := 1) hC dX7_whose_55 rfl ?_
          refine ww_iload (pc := 56) hC 4 rfl dX7_whose_56 ?_
          refine ww_ishl (pc := 58) hC dX7_whose_58 ?_
          refine ww_goto (pc := 59) (tgt := 63) hC dX7_whose_59 (by decide) ?_
          refine ww_ior (pc := 63) hC dX7_whose_63 ?_
          refine ww_istore_n (pc := 64) (lv' := [(3, .int (a24.1 ||| (ww_shl 1 a24.2.1))), (0, .ref (ad o0)), (1, .int p1), (2, .int x2), (4, .int a24.2.1)]) hC dX7_whose_64 rfl (by decide) rfl ?_
          refine ww_iinc (pc := 65) (v := a24.2.1 + 1) (lv' := [(4, .int (a24.2.1 + 1)), (3, .int (a24.1 ||| (ww_shl 1 a24.2.1))), (0, .ref (ad o0)), (1, .int p1), (2, .int x2)]) hC 4 rfl dX7_whose_65 rfl (by decide) rfl ?_
          refine ww_goto (pc := 68) (tgt := 24) hC dX7_whose_68 (by decide) ?_
          refine ww_lv [2, 3, 4, 1, 0] rfl ?_
          exact hc24 (a24.1 ||| (ww_shl 1 a24.2.1), a24.2.1 + 1, ww_up a24.2.2 (o0 + 1) (ww_ix (2 * p1)) a24.2.1)
  unfold f_X7_whose
  refine ww_aload_n (pc := 0) hC 0 rfl dX7_whose_0 rfl ?_
  refine ww_iload_n (pc := 1) hC 1 rfl dX7_whose_1 rfl ?_
  refine ww_callVi (pc := 2) (st := []) (As := [.int p1]) hC (c_X7_isPlace o0 h0 σ p1) mm_X7_isPlace mw_1077 (h0 0 _ rfl) rfl (by omega) (by decide) (Nat.le_of_ble_eq_true rfl) rfl dX7_whose_2 (fun v2 => ?_)
  refine ww_if_ne (pc := 5) (tgt := 10) hC dX7_whose_5 (by decide) ?_ ?_
  · refine ww_aload_n (pc := 10) hC 0 rfl dX7_whose_10 rfl ?_
    refine ww_getr (pc := 11) (Cl := RX7) (T := TX7) (N := 36) (j := 0) (ref := RX7) hC (h0 0 _ rfl) rfl inT_X7 (by decide) mw_876 rfl rfl dX7_whose_11 ?_
    refine ww_iconst (pc := 14) (v := 2) hC dX7_whose_14 rfl ?_
    refine ww_iload_n (pc := 15) hC 1 rfl dX7_whose_15 rfl ?_
    refine ww_imul (pc := 16) hC dX7_whose_16 ?_
    refine ww_iald (pc := 17) hC (h0 1 _ rfl) dX7_whose_17 ?_
    refine ww_istore_n (pc := 18) (lv' := [(2, .int (σ (o0 + 1) (ww_ix (2 * p1)))), (0, .ref (ad o0)), (1, .int p1)]) hC dX7_whose_18 rfl (by decide) rfl ?_
    refine ww_iconst (pc := 19) (v := 0) hC dX7_whose_19 rfl ?_
    refine ww_istore_n (pc := 20) (lv' := [(3, .int 0), (2, .int (σ (o0 + 1) (ww_ix (2 * p1)))), (0, .ref (ad o0)), (1, .int p1)]) hC dX7_whose_20 rfl (by decide) rfl ?_
    refine ww_iconst (pc := 21) (v := 0) hC dX7_whose_21 rfl ?_
    refine ww_istore (pc := 22) (lv' := [(4, .int 0), (3, .int 0), (2, .int (σ (o0 + 1) (ww_ix (2 * p1)))), (0, .ref (ad o0)), (1, .int p1)]) hC dX7_whose_22 (by decide) rfl ?_
    refine ww_lv [3, 4, 2, 1, 0] rfl ?_
    exact hJ24 σ (σ (o0 + 1) (ww_ix (2 * p1))) 0 0
  · refine ww_iconst (pc := 8) (v := (-1)) hC dX7_whose_8 rfl ?_
    exact ww_ireturn (pc := 9) hC hR dX7_whose_9 rfl
theorem dX7_strand_0 : decode cX7_strand 0 = .ok (.iload_n 1, 1) := by decide +kernel
theorem dX7_strand_1 : decode cX7_strand 1 = .ok (.i2l, 1) := by decide +kernel
theorem dX7_strand_2 : decode cX7_strand 2 = .ok (.lconst 1, 1) := by decide +kernel
theorem dX7_strand_3 : decode cX7_strand 3 = .ok (.ldc2_w 210, 3) := by decide +kernel
theorem dX7_strand_6 : decode cX7_strand 6 = .ok (.invokestatic 68, 3) := by decide +kernel
theorem dX7_strand_9 : decode cX7_strand 9 = .ok (.ifCond .eq 15, 3) := by decide +kernel
theorem dX7_strand_12 : decode cX7_strand 12 = .ok (.iload_n 2, 1) := by decide +kernel
theorem dX7_strand_13 : decode cX7_strand 13 = .ok (.i2l, 1) := by decide +kernel
theorem dX7_strand_14 : decode cX7_strand 14 = .ok (.lconst 0, 1) := by decide +kernel
theorem dX7_strand_15 : decode cX7_strand 15 = .ok (.ldc2_w 261, 3) := by decide +kernel
theorem dX7_strand_18 : decode cX7_strand 18 = .ok (.invokestatic 68, 3) := by decide +kernel
theorem dX7_strand_21 : decode cX7_strand 21 = .ok (.ifCond .ne 5, 3) := by decide +kernel
theorem dX7_strand_24 : decode cX7_strand 24 = .ok (.iconst (-1), 1) := by decide +kernel
theorem dX7_strand_25 : decode cX7_strand 25 = .ok (.ireturn, 1) := by decide +kernel
theorem dX7_strand_26 : decode cX7_strand 26 = .ok (.iconst 0, 1) := by decide +kernel
theorem dX7_strand_27 : decode cX7_strand 27 = .ok (.istore_n 3, 1) := by decide +kernel
theorem dX7_strand_28 : decode cX7_strand 28 = .ok (.iconst 0, 1) := by decide +kernel
theorem dX7_strand_29 : decode cX7_strand 29 = .ok (.istore 4, 2) := by decide +kernel
theorem dX7_strand_31 : decode cX7_strand 31 = .ok (.iload 4, 2) := by decide +kernel
theorem dX7_strand_33 : decode cX7_strand 33 = .ok (.aload_n 0, 1) := by decide +kernel
theorem dX7_strand_34 : decode cX7_strand 34 = .ok (.getfield 159, 3) := by decide +kernel
theorem dX7_strand_37 : decode cX7_strand 37 = .ok (.if_icmp .ge 55, 3) := by decide +kernel
theorem dX7_strand_40 : decode cX7_strand 40 = .ok (.iload_n 3, 1) := by decide +kernel
theorem dX7_strand_41 : decode cX7_strand 41 = .ok (.aload_n 0, 1) := by decide +kernel
theorem dX7_strand_42 : decode cX7_strand 42 = .ok (.getfield 7, 3) := by decide +kernel
theorem dX7_strand_45 : decode cX7_strand 45 = .ok (.bipush 15, 2) := by decide +kernel
theorem dX7_strand_47 : decode cX7_strand 47 = .ok (.iload 4, 2) := by decide +kernel
theorem dX7_strand_49 : decode cX7_strand 49 = .ok (.iadd, 1) := by decide +kernel
theorem dX7_strand_50 : decode cX7_strand 50 = .ok (.iaload, 1) := by decide +kernel
theorem dX7_strand_51 : decode cX7_strand 51 = .ok (.iconst 1, 1) := by decide +kernel
theorem dX7_strand_52 : decode cX7_strand 52 = .ok (.if_icmp .ne 7, 3) := by decide +kernel
theorem dX7_strand_55 : decode cX7_strand 55 = .ok (.iconst 0, 1) := by decide +kernel
theorem dX7_strand_56 : decode cX7_strand 56 = .ok (.goto 28, 3) := by decide +kernel
theorem dX7_strand_59 : decode cX7_strand 59 = .ok (.iconst 1, 1) := by decide +kernel
theorem dX7_strand_60 : decode cX7_strand 60 = .ok (.aload_n 0, 1) := by decide +kernel
theorem dX7_strand_61 : decode cX7_strand 61 = .ok (.getfield 20, 3) := by decide +kernel
theorem dX7_strand_64 : decode cX7_strand 64 = .ok (.iconst 2, 1) := by decide +kernel
theorem dX7_strand_65 : decode cX7_strand 65 = .ok (.iload 4, 2) := by decide +kernel
theorem dX7_strand_67 : decode cX7_strand 67 = .ok (.imul, 1) := by decide +kernel
theorem dX7_strand_68 : decode cX7_strand 68 = .ok (.iconst 1, 1) := by decide +kernel
theorem dX7_strand_69 : decode cX7_strand 69 = .ok (.iadd, 1) := by decide +kernel
theorem dX7_strand_70 : decode cX7_strand 70 = .ok (.iaload, 1) := by decide +kernel
theorem dX7_strand_71 : decode cX7_strand 71 = .ok (.ishl, 1) := by decide +kernel
theorem dX7_strand_72 : decode cX7_strand 72 = .ok (.iconst 1, 1) := by decide +kernel
theorem dX7_strand_73 : decode cX7_strand 73 = .ok (.isub, 1) := by decide +kernel
theorem dX7_strand_74 : decode cX7_strand 74 = .ok (.aload_n 0, 1) := by decide +kernel
theorem dX7_strand_75 : decode cX7_strand 75 = .ok (.getfield 20, 3) := by decide +kernel
theorem dX7_strand_78 : decode cX7_strand 78 = .ok (.iconst 2, 1) := by decide +kernel
theorem dX7_strand_79 : decode cX7_strand 79 = .ok (.iload 4, 2) := by decide +kernel
theorem dX7_strand_81 : decode cX7_strand 81 = .ok (.imul, 1) := by decide +kernel
theorem dX7_strand_82 : decode cX7_strand 82 = .ok (.iaload, 1) := by decide +kernel
theorem dX7_strand_83 : decode cX7_strand 83 = .ok (.ishl, 1) := by decide +kernel
theorem dX7_strand_84 : decode cX7_strand 84 = .ok (.ior, 1) := by decide +kernel
theorem dX7_strand_85 : decode cX7_strand 85 = .ok (.istore_n 3, 1) := by decide +kernel
theorem dX7_strand_86 : decode cX7_strand 86 = .ok (.iinc 4 1, 3) := by decide +kernel
theorem dX7_strand_89 : decode cX7_strand 89 = .ok (.goto (-58), 3) := by decide +kernel
theorem dX7_strand_92 : decode cX7_strand 92 = .ok (.iconst 0, 1) := by decide +kernel
theorem dX7_strand_93 : decode cX7_strand 93 = .ok (.istore 4, 2) := by decide +kernel
theorem dX7_strand_95 : decode cX7_strand 95 = .ok (.iconst 0, 1) := by decide +kernel
theorem dX7_strand_96 : decode cX7_strand 96 = .ok (.istore 5, 2) := by decide +kernel
theorem dX7_strand_98 : decode cX7_strand 98 = .ok (.iload 5, 2) := by decide +kernel
theorem dX7_strand_100 : decode cX7_strand 100 = .ok (.iload_n 1, 1) := by decide +kernel
theorem dX7_strand_101 : decode cX7_strand 101 = .ok (.iadd, 1) := by decide +kernel
theorem dX7_strand_102 : decode cX7_strand 102 = .ok (.aload_n 0, 1) := by decide +kernel
theorem dX7_strand_103 : decode cX7_strand 103 = .ok (.getfield 156, 3) := by decide +kernel
theorem dX7_strand_106 : decode cX7_strand 106 = .ok (.if_icmp .gt 71, 3) := by decide +kernel
theorem dX7_strand_109 : decode cX7_strand 109 = .ok (.aload_n 0, 1) := by decide +kernel
theorem dX7_strand_110 : decode cX7_strand 110 = .ok (.iload 5, 2) := by decide +kernel
theorem dX7_strand_112 : decode cX7_strand 112 = .ok (.iload_n 1, 1) := by decide +kernel
theorem dX7_strand_113 : decode cX7_strand 113 = .ok (.iload_n 2, 1) := by decide +kernel
theorem dX7_strand_114 : decode cX7_strand 114 = .ok (.invokevirtual 184, 3) := by decide +kernel
theorem dX7_strand_117 : decode cX7_strand 117 = .ok (.ifCond .eq 33, 3) := by decide +kernel
theorem dX7_strand_120 : decode cX7_strand 120 = .ok (.aload_n 0, 1) := by decide +kernel
theorem dX7_strand_121 : decode cX7_strand 121 = .ok (.iload 5, 2) := by decide +kernel
theorem dX7_strand_123 : decode cX7_strand 123 = .ok (.iload_n 1, 1) := by decide +kernel
theorem dX7_strand_124 : decode cX7_strand 124 = .ok (.iload_n 2, 1) := by decide +kernel
theorem dX7_strand_125 : decode cX7_strand 125 = .ok (.iconst 1, 1) := by decide +kernel
theorem dX7_strand_126 : decode cX7_strand 126 = .ok (.iadd, 1) := by decide +kernel
theorem dX7_strand_127 : decode cX7_strand 127 = .ok (.invokevirtual 184, 3) := by decide +kernel
theorem dX7_strand_130 : decode cX7_strand 130 = .ok (.ifCond .ne 20, 3) := by decide +kernel
theorem dX7_strand_133 : decode cX7_strand 133 = .ok (.iload_n 3, 1) := by decide +kernel
theorem dX7_strand_134 : decode cX7_strand 134 = .ok (.iconst 1, 1) := by decide +kernel
theorem dX7_strand_135 : decode cX7_strand 135 = .ok (.iload_n 1, 1) := by decide +kernel
theorem dX7_strand_136 : decode cX7_strand 136 = .ok (.ishl, 1) := by decide +kernel
theorem dX7_strand_137 : decode cX7_strand 137 = .ok (.iconst 1, 1) := by decide +kernel
theorem dX7_strand_138 : decode cX7_strand 138 = .ok (.isub, 1) := by decide +kernel
theorem dX7_strand_139 : decode cX7_strand 139 = .ok (.iload 5, 2) := by decide +kernel
theorem dX7_strand_141 : decode cX7_strand 141 = .ok (.ishl, 1) := by decide +kernel
theorem dX7_strand_142 : decode cX7_strand 142 = .ok (.iand, 1) := by decide +kernel
theorem dX7_strand_143 : decode cX7_strand 143 = .ok (.ifCond .ne 7, 3) := by decide +kernel
theorem dX7_strand_146 : decode cX7_strand 146 = .ok (.iconst 1, 1) := by decide +kernel
theorem dX7_strand_147 : decode cX7_strand 147 = .ok (.goto 4, 3) := by decide +kernel
theorem dX7_strand_150 : decode cX7_strand 150 = .ok (.iconst 0, 1) := by decide +kernel
theorem dX7_strand_151 : decode cX7_strand 151 = .ok (.istore 6, 2) := by decide +kernel
theorem dX7_strand_153 : decode cX7_strand 153 = .ok (.iload 4, 2) := by decide +kernel
theorem dX7_strand_155 : decode cX7_strand 155 = .ok (.iload 6, 2) := by decide +kernel
theorem dX7_strand_157 : decode cX7_strand 157 = .ok (.ifCond .eq 10, 3) := by decide +kernel
theorem dX7_strand_160 : decode cX7_strand 160 = .ok (.iconst 1, 1) := by decide +kernel
theorem dX7_strand_161 : decode cX7_strand 161 = .ok (.iload 5, 2) := by decide +kernel
theorem dX7_strand_163 : decode cX7_strand 163 = .ok (.ishl, 1) := by decide +kernel
theorem dX7_strand_164 : decode cX7_strand 164 = .ok (.goto 4, 3) := by decide +kernel
theorem dX7_strand_167 : decode cX7_strand 167 = .ok (.iconst 0, 1) := by decide +kernel
theorem dX7_strand_168 : decode cX7_strand 168 = .ok (.ior, 1) := by decide +kernel
theorem dX7_strand_169 : decode cX7_strand 169 = .ok (.istore 4, 2) := by decide +kernel
theorem dX7_strand_171 : decode cX7_strand 171 = .ok (.iinc 5 1, 3) := by decide +kernel
theorem dX7_strand_174 : decode cX7_strand 174 = .ok (.goto (-76), 3) := by decide +kernel
theorem dX7_strand_177 : decode cX7_strand 177 = .ok (.iload 4, 2) := by decide +kernel
theorem dX7_strand_179 : decode cX7_strand 179 = .ok (.ireturn, 1) := by decide +kernel
set_option maxHeartbeats 4000000 in
set_option maxRecDepth 100000 in
theorem c_X7_strand {l : Launch} {Y : ww_Y} {ad : Nat → Nat} {G : List ww_L} (o0 : Nat) (h0 : ww_at G o0 (ww_LModel o0)) (σ : ww_M) (p1 : Int32) (p2 : Int32) : ww_Cn l Y ad G yX7_strand cX7_strand 7 (some .int) 3 [.ref (ad o0), .int p1, .int p2] σ ((f_X7_strand σ o0 p1 p2).bind (ww_ri σ)) := by
  refine ww_met (by decide +kernel) (Nat.le_of_ble_eq_true rfl) ?_
  intro X hC hR
  have hC : ww_C X l Y ad G 3 cX7_strand 7 RX7 := hC
  show ww_V X Y ad G 7 σ 0 [(0, .ref (ad o0)), (1, .int p1), (2, .int p2)] [] ((f_X7_strand σ o0 p1 p2).bind (ww_ri σ))
  have hJ177 : ∀ (x4 : Int32), ww_V X Y ad G 7 σ 177 [(4, .int x4)] [] ((f_X7_strand_j177 σ o0 p1 p2 x4).bind (ww_ri σ)) := by
    intro x4
    unfold f_X7_strand_j177
    refine ww_iload (pc := 177) hC 0 rfl dX7_strand_177 ?_
    exact ww_ireturn (pc := 179) hC hR dX7_strand_179 rfl
  have hJ98 : ∀ (x3 : Int32) (x4 : Int32) (x5 : Int32), ww_V X Y ad G 7 σ 98 [(0, .ref (ad o0)), (1, .int p1), (2, .int p2), (3, .int x3), (4, .int x4), (5, .int x5)] [] ((f_X7_strand_j98 σ o0 p1 p2 x3 x4 x5).bind (ww_ri σ)) := by
    intro x3 x4 x5
    unfold f_X7_strand_j98
    refine ww_assoc ?_
    refine ww_loop (f := f_X7_strand_b98 σ o0 p1 p2 x3) (fun a98 => σ) (fun a98 => [(0, .ref (ad o0)), (1, .int p1), (2, .int p2), (3, .int x3), (4, .int a98.1), (5, .int a98.2)]) (fun b98 => σ) (fun b98 => [(4, .int b98)]) 177 (fun b98 => ?_) (fun a98 KK98 hc98 hx98 => ?_) ww_F (x4, x5)
    · exact hJ177 b98
    · unfold f_X7_strand_b98
      have hJ151 : ∀ (x4 : Int32) (x5 : Int32) (s0 : Int32), ww_V X Y ad G 7 σ 151 [(0, .ref (ad o0)), (1, .int p1), (2, .int p2), (3, .int x3), (4, .int x4), (5, .int x5)] [.int s0] ((f_X7_strand_j151 σ o0 p1 p2 x3 x4 x5 s0).bind KK98) := by
        intro x4 x5 s0
        unfold f_X7_strand_j151
        refine ww_istore (pc := 151) (lv' := [(6, .int s0), (0, .ref (ad o0)), (1, .int p1), (2, .int p2), (3, .int x3), (4, .int x4), (5, .int x5)]) hC dX7_strand_151 (by decide) rfl ?_
        refine ww_iload (pc := 153) hC 5 rfl dX7_strand_153 ?_
        refine ww_iload (pc := 155) hC 0 rfl dX7_strand_155 ?_
        refine ww_if_eq (pc := 157) (tgt := 167) hC dX7_strand_157 (by decide) ?_ ?_
        · refine ww_iconst (pc := 167) (v := 0) hC dX7_strand_167 rfl ?_
          refine ww_ior (pc := 168) hC dX7_strand_168 ?_
          refine ww_istore (pc := 169) (lv' := [(4, .int (x4 ||| 0)), (6, .int s0), (0, .ref (ad o0)), (1, .int p1), (2, .int p2), (3, .int x3), (5, .int x5)]) hC dX7_strand_169 (by decide) rfl ?_
          refine ww_iinc (pc := 171) (v := x5 + 1) (lv' := [(5, .int (x5 + 1)), (4, .int (x4 ||| 0)), (6, .int s0), (0, .ref (ad o0)), (1, .int p1), (2, .int p2), (3, .int x3)]) hC 6 rfl dX7_strand_171 rfl (by decide) rfl ?_
          refine ww_goto (pc := 174) (tgt := 98) hC dX7_strand_174 (by decide) ?_
          refine ww_lv [3, 4, 5, 6, 1, 0] rfl ?_
          exact hc98 (x4 ||| 0, x5 + 1)
        · refine ww_iconst (pc := 160) (v := 1) hC dX7_strand_160 rfl ?_
          refine ww_iload (pc := 161) hC 6 rfl dX7_strand_161 ?_
          refine ww_ishl (pc := 163) hC dX7_strand_163 ?_
          refine ww_goto (pc := 164) (tgt := 168) hC dX7_strand_164 (by decide) ?_
          refine ww_ior (pc := 168) hC dX7_strand_168 ?_
          refine ww_istore (pc := 169) (lv' := [(4, .int (x4 ||| (ww_shl 1 x5))), (6, .int s0), (0, .ref (ad o0)), (1, .int p1), (2, .int p2), (3, .int x3), (5, .int x5)]) hC dX7_strand_169 (by decide) rfl ?_
          refine ww_iinc (pc := 171) (v := x5 + 1) (lv' := [(5, .int (x5 + 1)), (4, .int (x4 ||| (ww_shl 1 x5))), (6, .int s0), (0, .ref (ad o0)), (1, .int p1), (2, .int p2), (3, .int x3)]) hC 6 rfl dX7_strand_171 rfl (by decide) rfl ?_
          refine ww_goto (pc := 174) (tgt := 98) hC dX7_strand_174 (by decide) ?_
          refine ww_lv [3, 4, 5, 6, 1, 0] rfl ?_
          exact hc98 (x4 ||| (ww_shl 1 x5), x5 + 1)
      have hJ150 : ∀ (x4 : Int32) (x5 : Int32), ww_V X Y ad G 7 σ 150 [(0, .ref (ad o0)), (1, .int p1), (2, .int p2), (3, .int x3), (4, .int x4), (5, .int x5)] [] ((f_X7_strand_j150 σ o0 p1 p2 x3 x4 x5).bind KK98) := by
        intro x4 x5
        unfold f_X7_strand_j150
        refine ww_iconst (pc := 150) (v := 0) hC dX7_strand_150 rfl ?_
        exact hJ151 x4 x5 0
      refine ww_iload (pc := 98) hC 5 rfl dX7_strand_98 ?_
      refine ww_iload_n (pc := 100) hC 1 rfl dX7_strand_100 rfl ?_
      refine ww_iadd (pc := 101) hC dX7_strand_101 ?_
      refine ww_aload_n (pc := 102) hC 0 rfl dX7_strand_102 rfl ?_
      refine ww_geti (pc := 103) (Cl := RX7) (T := TX7) (N := 36) (j := 3) (ref := RX7) hC (h0 0 _ rfl) rfl inT_X7 (by decide) mw_879 rfl rfl dX7_strand_103 ?_
      refine ww_icmp_gt (pc := 106) (tgt := 177) hC dX7_strand_106 (by decide) ?_ ?_
      · refine ww_lv [4] rfl ?_
        exact hx98 a98.1
      · refine ww_aload_n (pc := 109) hC 0 rfl dX7_strand_109 rfl ?_
        refine ww_iload (pc := 110) hC 5 rfl dX7_strand_110 ?_
        refine ww_iload_n (pc := 112) hC 1 rfl dX7_strand_112 rfl ?_
        refine ww_iload_n (pc := 113) hC 2 rfl dX7_strand_113 rfl ?_
        refine ww_callVi (pc := 114) (st := []) (As := [.int a98.2, .int p1, .int p2]) hC (c_X7_floatsIn o0 h0 σ a98.2 p1 p2) mm_X7_floatsIn mw_1053 (h0 0 _ rfl) rfl (by omega) (by decide) (Nat.le_of_ble_eq_true rfl) rfl dX7_strand_114 (fun v114 => ?_)
        refine ww_if_eq (pc := 117) (tgt := 150) hC dX7_strand_117 (by decide) ?_ ?_
        · exact hJ150 a98.1 a98.2
        · refine ww_aload_n (pc := 120) hC 0 rfl dX7_strand_120 rfl ?_
          refine ww_iload (pc := 121) hC 5 rfl dX7_strand_121 ?_
          refine ww_iload_n (pc := 123) hC 1 rfl dX7_strand_123 rfl ?_
          refine ww_iload_n (pc := 124) hC 2 rfl dX7_strand_124 rfl ?_
          refine ww_iconst (pc := 125) (v := 1) hC dX7_strand_125 rfl ?_
          refine ww_iadd (pc := 126) hC dX7_strand_126 ?_
          refine ww_callVi (pc := 127) (st := []) (As := [.int a98.2, .int p1, .int (p2 + 1)]) hC (c_X7_floatsIn o0 h0 σ a98.2 p1 (p2 + 1)) mm_X7_floatsIn mw_1053 (h0 0 _ rfl) rfl (by omega) (by decide) (Nat.le_of_ble_eq_true rfl) rfl dX7_strand_127 (fun v127 => ?_)
          refine ww_if_ne (pc := 130) (tgt := 150) hC dX7_strand_130 (by decide) ?_ ?_
          · exact hJ150 a98.1 a98.2
          · refine ww_iload_n (pc := 133) hC 3 rfl dX7_strand_133 rfl ?_
            refine ww_iconst (pc := 134) (v := 1) hC dX7_strand_134 rfl ?_
            refine ww_iload_n (pc := 135) hC 1 rfl dX7_strand_135 rfl ?_
            refine ww_ishl (pc := 136) hC dX7_strand_136 ?_
            refine ww_iconst (pc := 137) (v := 1) hC dX7_strand_137 rfl ?_
            refine ww_isub (pc := 138) hC dX7_strand_138 ?_
            refine ww_iload (pc := 139) hC 5 rfl dX7_strand_139 ?_
            refine ww_ishl (pc := 141) hC dX7_strand_141 ?_
            refine ww_iand (pc := 142) hC dX7_strand_142 ?_
            refine ww_if_ne (pc := 143) (tgt := 150) hC dX7_strand_143 (by decide) ?_ ?_
            · exact hJ150 a98.1 a98.2
            · refine ww_iconst (pc := 146) (v := 1) hC dX7_strand_146 rfl ?_
              refine ww_goto (pc := 147) (tgt := 151) hC dX7_strand_147 (by decide) ?_
              exact hJ151 a98.1 a98.2 1
  have hJ92 : ∀ (x3 : Int32), ww_V X Y ad G 7 σ 92 [(0, .ref (ad o0)), (1, .int p1), (2, .int p2), (3, .int x3)] [] ((f_X7_strand_j92 σ o0 p1 p2 x3).bind (ww_ri σ)) := by
    intro x3
    unfold f_X7_strand_j92
    refine ww_iconst (pc := 92) (v := 0) hC dX7_strand_92 rfl ?_
    refine ww_istore (pc := 93) (lv' := [(4, .int 0), (0, .ref (ad o0)), (1, .int p1), (2, .int p2), (3, .int x3)]) hC dX7_strand_93 (by decide) rfl ?_
    refine ww_iconst (pc := 95) (v := 0) hC dX7_strand_95 rfl ?_
    refine ww_istore (pc := 96) (lv' := [(5, .int 0), (4, .int 0), (0, .ref (ad o0)), (1, .int p1), (2, .int p2), (3, .int x3)]) hC dX7_strand_96 (by decide) rfl ?_
    refine ww_lv [2, 3, 4, 5, 1, 0] rfl ?_
    exact hJ98 x3 0 0
  have hJ31 : ∀ (x3 : Int32) (x4 : Int32), ww_V X Y ad G 7 σ 31 [(0, .ref (ad o0)), (1, .int p1), (2, .int p2), (3, .int x3), (4, .int x4)] [] ((f_X7_strand_j31 σ o0 p1 p2 x3 x4).bind (ww_ri σ)) := by
    intro x3 x4
    unfold f_X7_strand_j31
    refine ww_assoc ?_
    refine ww_loop (f := f_X7_strand_b31 σ o0 p1 p2) (fun a31 => σ) (fun a31 => [(0, .ref (ad o0)), (1, .int p1), (2, .int p2), (3, .int a31.1), (4, .int a31.2)]) (fun b31 => σ) (fun b31 => [(0, .ref (ad o0)), (1, .int p1), (2, .int p2), (3, .int b31)]) 92 (fun b31 => ?_) (fun a31 KK31 hc31 hx31 => ?_) ww_F (x3, x4)
    · exact hJ92 b31
    · unfold f_X7_strand_b31
      refine ww_iload (pc := 31) hC 4 rfl dX7_strand_31 ?_
      refine ww_aload_n (pc := 33) hC 0 rfl dX7_strand_33 rfl ?_
      refine ww_geti (pc := 34) (Cl := RX7) (T := TX7) (N := 36) (j := 5) (ref := RX7) hC (h0 0 _ rfl) rfl inT_X7 (by decide) mw_881 rfl rfl dX7_strand_34 ?_
      refine ww_icmp_ge (pc := 37) (tgt := 92) hC dX7_strand_37 (by decide) ?_ ?_
      · refine ww_lv [0, 1, 2, 3] rfl ?_
        exact hx31 a31.1
      · refine ww_iload_n (pc := 40) hC 3 rfl dX7_strand_40 rfl ?_
        refine ww_aload_n (pc := 41) hC 0 rfl dX7_strand_41 rfl ?_
        refine ww_getr (pc := 42) (Cl := RX7) (T := TX7) (N := 36) (j := 0) (ref := RX7) hC (h0 0 _ rfl) rfl inT_X7 (by decide) mw_876 rfl rfl dX7_strand_42 ?_
        refine ww_bipush (pc := 45) (v := 15) hC dX7_strand_45 rfl ?_
        refine ww_iload (pc := 47) hC 4 rfl dX7_strand_47 ?_
        refine ww_iadd (pc := 49) hC dX7_strand_49 ?_
        refine ww_iald (pc := 50) hC (h0 1 _ rfl) dX7_strand_50 ?_
        refine ww_iconst (pc := 51) (v := 1) hC dX7_strand_51 rfl ?_
        refine ww_icmp_ne (pc := 52) (tgt := 59) hC dX7_strand_52 (by decide) ?_ ?_
        · refine ww_iconst (pc := 59) (v := 1) hC dX7_strand_59 rfl ?_
          refine ww_aload_n (pc := 60) hC 0 rfl dX7_strand_60 rfl ?_
          refine ww_getr (pc := 61) (Cl := RX7) (T := TX7) (N := 36) (j := 4) (ref := RX7) hC (h0 0 _ rfl) rfl inT_X7 (by decide) mw_880 rfl rfl dX7_strand_61 ?_
          refine ww_iconst (pc := 64) (v := 2) hC dX7_strand_64 rfl ?_
          refine ww_iload (pc := 65) hC 4 rfl dX7_strand_65 ?_
          refine ww_imul (pc := 67) hC dX7_strand_67 ?_
          refine ww_iconst (pc := 68) (v := 1) hC dX7_strand_68 rfl ?_
          refine ww_iadd (pc := 69) hC dX7_strand_69 ?_
          refine ww_iald (pc := 70) hC (h0 3 _ rfl) dX7_strand_70 ?_
          refine ww_ishl (pc := 71) hC dX7_strand_71 ?_
          refine ww_iconst (pc := 72) (v := 1) hC dX7_strand_72 rfl ?_
          refine ww_isub (pc := 73) hC dX7_strand_73 ?_
          refine ww_aload_n (pc := 74) hC 0 rfl dX7_strand_74 rfl ?_
          refine ww_getr (pc := 75) (Cl := RX7) (T := TX7) (N := 36) (j := 4) (ref := RX7) hC (h0 0 _ rfl) rfl inT_X7 (by decide) mw_880 rfl rfl dX7_strand_75 ?_
          refine ww_iconst (pc := 78) (v := 2) hC dX7_strand_78 rfl ?_
          refine ww_iload (pc := 79) hC 4 rfl dX7_strand_79 ?_
          refine ww_imul (pc := 81) hC dX7_strand_81 ?_
          refine ww_iald (pc := 82) hC (h0 3 _ rfl) dX7_strand_82 ?_
          refine ww_ishl (pc := 83) hC dX7_strand_83 ?_
          refine ww_ior (pc := 84) hC dX7_strand_84 ?_
          refine ww_istore_n (pc := 85) (lv' := [(3, .int (a31.1 ||| (ww_shl ((ww_shl 1 (σ (o0 + 3) (ww_ix ((2 * a31.2) + 1)))) - 1) (σ (o0 + 3) (ww_ix (2 * a31.2)))))), (0, .ref (ad o0)), (1, .int p1), (2, .int p2), (4, .int a31.2)]) hC dX7_strand_85 rfl (by decide) rfl ?_
          refine ww_iinc (pc := 86) (v := a31.2 + 1) (lv' := [(4, .int (a31.2 + 1)), (3, .int (a31.1 ||| (ww_shl ((ww_shl 1 (σ (o0 + 3) (ww_ix ((2 * a31.2) + 1)))) - 1) (σ (o0 + 3) (ww_ix (2 * a31.2)))))), (0, .ref (ad o0)), (1, .int p1), (2, .int p2)]) hC 4 rfl dX7_strand_86 rfl (by decide) rfl ?_
          refine ww_goto (pc := 89) (tgt := 31) hC dX7_strand_89 (by decide) ?_
          refine ww_lv [2, 3, 4, 1, 0] rfl ?_
          exact hc31 (a31.1 ||| (ww_shl ((ww_shl 1 (σ (o0 + 3) (ww_ix ((2 * a31.2) + 1)))) - 1) (σ (o0 + 3) (ww_ix (2 * a31.2)))), a31.2 + 1)
        · refine ww_iconst (pc := 55) (v := 0) hC dX7_strand_55 rfl ?_
          refine ww_goto (pc := 56) (tgt := 84) hC dX7_strand_56 (by decide) ?_
          refine ww_ior (pc := 84) hC dX7_strand_84 ?_
          refine ww_istore_n (pc := 85) (lv' := [(3, .int (a31.1 ||| 0)), (0, .ref (ad o0)), (1, .int p1), (2, .int p2), (4, .int a31.2)]) hC dX7_strand_85 rfl (by decide) rfl ?_
          refine ww_iinc (pc := 86) (v := a31.2 + 1) (lv' := [(4, .int (a31.2 + 1)), (3, .int (a31.1 ||| 0)), (0, .ref (ad o0)), (1, .int p1), (2, .int p2)]) hC 4 rfl dX7_strand_86 rfl (by decide) rfl ?_
          refine ww_goto (pc := 89) (tgt := 31) hC dX7_strand_89 (by decide) ?_
          refine ww_lv [2, 3, 4, 1, 0] rfl ?_
          exact hc31 (a31.1 ||| 0, a31.2 + 1)
  unfold f_X7_strand
  refine ww_iload_n (pc := 0) hC 1 rfl dX7_strand_0 rfl ?_
  refine ww_i2l (pc := 1) hC dX7_strand_1 ?_
  refine ww_lconst (pc := 2) (v := 1) hC dX7_strand_2 rfl ?_
  refine ww_ldc2 (pc := 3) hC dX7_strand_3 mw_1130 ?_
  refine ww_callSi (pc := 6) (st := []) (As := [.long p1.toInt64, .long 1, .long 3]) hC (c_X7_in σ p1.toInt64 1 3) mm_X7_in mw_991 (by omega) (by decide) (Nat.le_of_ble_eq_true rfl) rfl dX7_strand_6 (fun v6 => ?_)
  refine ww_if_eq (pc := 9) (tgt := 24) hC dX7_strand_9 (by decide) ?_ ?_
  · refine ww_iconst (pc := 24) (v := (-1)) hC dX7_strand_24 rfl ?_
    exact ww_ireturn (pc := 25) hC hR dX7_strand_25 rfl
  · refine ww_iload_n (pc := 12) hC 2 rfl dX7_strand_12 rfl ?_
    refine ww_i2l (pc := 13) hC dX7_strand_13 ?_
    refine ww_lconst (pc := 14) (v := 0) hC dX7_strand_14 rfl ?_
    refine ww_ldc2 (pc := 15) hC dX7_strand_15 mw_1246 ?_
    refine ww_callSi (pc := 18) (st := []) (As := [.long p2.toInt64, .long 0, .long 998]) hC (c_X7_in σ p2.toInt64 0 998) mm_X7_in mw_991 (by omega) (by decide) (Nat.le_of_ble_eq_true rfl) rfl dX7_strand_18 (fun v18 => ?_)
    refine ww_if_ne (pc := 21) (tgt := 26) hC dX7_strand_21 (by decide) ?_ ?_
    · refine ww_iconst (pc := 26) (v := 0) hC dX7_strand_26 rfl ?_
      refine ww_istore_n (pc := 27) (lv' := [(3, .int 0), (0, .ref (ad o0)), (1, .int p1), (2, .int p2)]) hC dX7_strand_27 rfl (by decide) rfl ?_
      refine ww_iconst (pc := 28) (v := 0) hC dX7_strand_28 rfl ?_
      refine ww_istore (pc := 29) (lv' := [(4, .int 0), (3, .int 0), (0, .ref (ad o0)), (1, .int p1), (2, .int p2)]) hC dX7_strand_29 (by decide) rfl ?_
      refine ww_lv [2, 3, 4, 1, 0] rfl ?_
      exact hJ31 0 0
    · refine ww_iconst (pc := 24) (v := (-1)) hC dX7_strand_24 rfl ?_
      exact ww_ireturn (pc := 25) hC hR dX7_strand_25 rfl
theorem dX7_lowest_0 : decode cX7_lowest 0 = .ok (.lload_n 0, 1) := by decide +kernel
theorem dX7_lowest_1 : decode cX7_lowest 1 = .ok (.lstore 5, 2) := by decide +kernel
theorem dX7_lowest_3 : decode cX7_lowest 3 = .ok (.lload_n 2, 1) := by decide +kernel
theorem dX7_lowest_4 : decode cX7_lowest 4 = .ok (.lstore 7, 2) := by decide +kernel
theorem dX7_lowest_6 : decode cX7_lowest 6 = .ok (.lload 7, 2) := by decide +kernel
theorem dX7_lowest_8 : decode cX7_lowest 8 = .ok (.lconst 0, 1) := by decide +kernel
theorem dX7_lowest_9 : decode cX7_lowest 9 = .ok (.lcmp, 1) := by decide +kernel
theorem dX7_lowest_10 : decode cX7_lowest 10 = .ok (.ifCond .eq 21, 3) := by decide +kernel
theorem dX7_lowest_13 : decode cX7_lowest 13 = .ok (.lload 5, 2) := by decide +kernel
theorem dX7_lowest_15 : decode cX7_lowest 15 = .ok (.lload 7, 2) := by decide +kernel
theorem dX7_lowest_17 : decode cX7_lowest 17 = .ok (.lrem, 1) := by decide +kernel
theorem dX7_lowest_18 : decode cX7_lowest 18 = .ok (.lstore 9, 2) := by decide +kernel
theorem dX7_lowest_20 : decode cX7_lowest 20 = .ok (.lload 7, 2) := by decide +kernel
theorem dX7_lowest_22 : decode cX7_lowest 22 = .ok (.lstore 5, 2) := by decide +kernel
theorem dX7_lowest_24 : decode cX7_lowest 24 = .ok (.lload 9, 2) := by decide +kernel
theorem dX7_lowest_26 : decode cX7_lowest 26 = .ok (.lstore 7, 2) := by decide +kernel
theorem dX7_lowest_28 : decode cX7_lowest 28 = .ok (.goto (-22), 3) := by decide +kernel
theorem dX7_lowest_31 : decode cX7_lowest 31 = .ok (.iload 4, 2) := by decide +kernel
theorem dX7_lowest_33 : decode cX7_lowest 33 = .ok (.ifCond .ne 7, 3) := by decide +kernel
theorem dX7_lowest_36 : decode cX7_lowest 36 = .ok (.lload_n 0, 1) := by decide +kernel
theorem dX7_lowest_37 : decode cX7_lowest 37 = .ok (.goto 4, 3) := by decide +kernel
theorem dX7_lowest_40 : decode cX7_lowest 40 = .ok (.lload_n 2, 1) := by decide +kernel
theorem dX7_lowest_41 : decode cX7_lowest 41 = .ok (.lload 5, 2) := by decide +kernel
theorem dX7_lowest_43 : decode cX7_lowest 43 = .ok (.ldiv, 1) := by decide +kernel
theorem dX7_lowest_44 : decode cX7_lowest 44 = .ok (.lreturn, 1) := by decide +kernel
set_option maxHeartbeats 4000000 in
set_option maxRecDepth 100000 in
theorem c_X7_lowest {l : Launch} {Y : ww_Y} {ad : Nat → Nat} {G : List ww_L} (σ : ww_M) (u0 : Int64) (u2 : Int64) (p4 : Int32) : ww_Cn l Y ad G yX7_lowest cX7_lowest 11 (some .long) 1 [.long u0, .long u2, .int p4] σ ((f_X7_lowest u0 u2 p4).bind (ww_rl σ)) := by
  refine ww_met (by decide +kernel) (Nat.le_of_ble_eq_true rfl) ?_
  intro X hC hR
  have hC : ww_C X l Y ad G 1 cX7_lowest 11 RX7 := hC
  show ww_V X Y ad G 11 σ 0 [(0, .long u0), (2, .long u2), (4, .int p4)] [] ((f_X7_lowest u0 u2 p4).bind (ww_rl σ))
  have hJ31 : ∀ (y5 : Int64), ww_V X Y ad G 11 σ 31 [(0, .long u0), (2, .long u2), (4, .int p4), (5, .long y5)] [] ((f_X7_lowest_j31 u0 u2 p4 y5).bind (ww_rl σ)) := by
    intro y5
    unfold f_X7_lowest_j31
    refine ww_iload (pc := 31) hC 2 rfl dX7_lowest_31 ?_
    refine ww_if_ne (pc := 33) (tgt := 40) hC dX7_lowest_33 (by decide) ?_ ?_
    · refine ww_lload_n (pc := 40) hC 1 rfl dX7_lowest_40 rfl ?_
      refine ww_lload (pc := 41) hC 3 rfl dX7_lowest_41 ?_
      refine ww_ldiv (pc := 43) hC dX7_lowest_43 ?_
      exact ww_lreturn (pc := 44) hC hR dX7_lowest_44 rfl
    · refine ww_lload_n (pc := 36) hC 0 rfl dX7_lowest_36 rfl ?_
      refine ww_goto (pc := 37) (tgt := 41) hC dX7_lowest_37 (by decide) ?_
      refine ww_lload (pc := 41) hC 3 rfl dX7_lowest_41 ?_
      refine ww_ldiv (pc := 43) hC dX7_lowest_43 ?_
      exact ww_lreturn (pc := 44) hC hR dX7_lowest_44 rfl
  have hJ6 : ∀ (y5 : Int64) (y7 : Int64), ww_V X Y ad G 11 σ 6 [(0, .long u0), (2, .long u2), (4, .int p4), (5, .long y5), (7, .long y7)] [] ((f_X7_lowest_j6 u0 u2 p4 y5 y7).bind (ww_rl σ)) := by
    intro y5 y7
    unfold f_X7_lowest_j6
    refine ww_assoc ?_
    refine ww_loop (f := f_X7_lowest_b6 u0 u2 p4) (fun a6 => σ) (fun a6 => [(0, .long u0), (2, .long u2), (4, .int p4), (5, .long a6.1), (7, .long a6.2)]) (fun b6 => σ) (fun b6 => [(0, .long u0), (2, .long u2), (4, .int p4), (5, .long b6)]) 31 (fun b6 => ?_) (fun a6 KK6 hc6 hx6 => ?_) ww_F (y5, y7)
    · exact hJ31 b6
    · unfold f_X7_lowest_b6
      refine ww_lload (pc := 6) hC 4 rfl dX7_lowest_6 ?_
      refine ww_lconst (pc := 8) (v := 0) hC dX7_lowest_8 rfl ?_
      refine ww_lcmp (pc := 9) hC dX7_lowest_9 ?_
      refine ww_if_eq (pc := 10) (tgt := 31) hC dX7_lowest_10 (by decide) ?_ ?_
      · refine ww_lv [0, 1, 2, 3] rfl ?_
        exact hx6 a6.1
      · refine ww_lload (pc := 13) hC 3 rfl dX7_lowest_13 ?_
        refine ww_lload (pc := 15) hC 4 rfl dX7_lowest_15 ?_
        refine ww_lrem (pc := 17) hC dX7_lowest_17 ?_
        refine ww_lstore (pc := 18) (lv' := [(9, .long (ww_remL a6.1 a6.2)), (0, .long u0), (2, .long u2), (4, .int p4), (5, .long a6.1), (7, .long a6.2)]) hC dX7_lowest_18 (by decide) rfl ?_
        refine ww_lload (pc := 20) hC 5 rfl dX7_lowest_20 ?_
        refine ww_lstore (pc := 22) (lv' := [(5, .long a6.2), (9, .long (ww_remL a6.1 a6.2)), (0, .long u0), (2, .long u2), (4, .int p4), (7, .long a6.2)]) hC dX7_lowest_22 (by decide) rfl ?_
        refine ww_lload (pc := 24) hC 1 rfl dX7_lowest_24 ?_
        refine ww_lstore (pc := 26) (lv' := [(7, .long (ww_remL a6.1 a6.2)), (5, .long a6.2), (9, .long (ww_remL a6.1 a6.2)), (0, .long u0), (2, .long u2), (4, .int p4)]) hC dX7_lowest_26 (by decide) rfl ?_
        refine ww_goto (pc := 28) (tgt := 6) hC dX7_lowest_28 (by decide) ?_
        refine ww_lv [3, 4, 5, 1, 0] rfl ?_
        exact hc6 (a6.2, ww_remL a6.1 a6.2)
  unfold f_X7_lowest
  refine ww_lload_n (pc := 0) hC 0 rfl dX7_lowest_0 rfl ?_
  refine ww_lstore (pc := 1) (lv' := [(5, .long u0), (0, .long u0), (2, .long u2), (4, .int p4)]) hC dX7_lowest_1 (by decide) rfl ?_
  refine ww_lload_n (pc := 3) hC 2 rfl dX7_lowest_3 rfl ?_
  refine ww_lstore (pc := 4) (lv' := [(7, .long u2), (5, .long u0), (0, .long u0), (2, .long u2), (4, .int p4)]) hC dX7_lowest_4 (by decide) rfl ?_
  refine ww_lv [2, 3, 4, 1, 0] rfl ?_
  exact hJ6 u0 u2
theorem dX7_luck_0 : decode cX7_luck 0 = .ok (.aload_n 0, 1) := by decide +kernel
theorem dX7_luck_1 : decode cX7_luck 1 = .ok (.iload_n 1, 1) := by decide +kernel
theorem dX7_luck_2 : decode cX7_luck 2 = .ok (.invokevirtual 168, 3) := by decide +kernel
theorem dX7_luck_5 : decode cX7_luck 5 = .ok (.ifCond .eq 13, 3) := by decide +kernel
theorem dX7_luck_8 : decode cX7_luck 8 = .ok (.iload_n 2, 1) := by decide +kernel
theorem dX7_luck_9 : decode cX7_luck 9 = .ok (.i2l, 1) := by decide +kernel
theorem dX7_luck_10 : decode cX7_luck 10 = .ok (.lconst 0, 1) := by decide +kernel
theorem dX7_luck_11 : decode cX7_luck 11 = .ok (.lconst 1, 1) := by decide +kernel
theorem dX7_luck_12 : decode cX7_luck 12 = .ok (.invokestatic 68, 3) := by decide +kernel
theorem dX7_luck_15 : decode cX7_luck 15 = .ok (.ifCond .ne 7, 3) := by decide +kernel
theorem dX7_luck_18 : decode cX7_luck 18 = .ok (.ldc2_w 263, 3) := by decide +kernel
theorem dX7_luck_21 : decode cX7_luck 21 = .ok (.lreturn, 1) := by decide +kernel
theorem dX7_luck_22 : decode cX7_luck 22 = .ok (.lconst 1, 1) := by decide +kernel
theorem dX7_luck_23 : decode cX7_luck 23 = .ok (.lstore_n 3, 1) := by decide +kernel
theorem dX7_luck_24 : decode cX7_luck 24 = .ok (.lconst 1, 1) := by decide +kernel
theorem dX7_luck_25 : decode cX7_luck 25 = .ok (.lstore 5, 2) := by decide +kernel
theorem dX7_luck_27 : decode cX7_luck 27 = .ok (.iconst 0, 1) := by decide +kernel
theorem dX7_luck_28 : decode cX7_luck 28 = .ok (.istore 7, 2) := by decide +kernel
theorem dX7_luck_30 : decode cX7_luck 30 = .ok (.iload 7, 2) := by decide +kernel
theorem dX7_luck_32 : decode cX7_luck 32 = .ok (.aload_n 0, 1) := by decide +kernel
theorem dX7_luck_33 : decode cX7_luck 33 = .ok (.getfield 20, 3) := by decide +kernel
theorem dX7_luck_36 : decode cX7_luck 36 = .ok (.iconst 2, 1) := by decide +kernel
theorem dX7_luck_37 : decode cX7_luck 37 = .ok (.iload_n 1, 1) := by decide +kernel
theorem dX7_luck_38 : decode cX7_luck 38 = .ok (.imul, 1) := by decide +kernel
theorem dX7_luck_39 : decode cX7_luck 39 = .ok (.iconst 1, 1) := by decide +kernel
theorem dX7_luck_40 : decode cX7_luck 40 = .ok (.iadd, 1) := by decide +kernel
theorem dX7_luck_41 : decode cX7_luck 41 = .ok (.iaload, 1) := by decide +kernel
theorem dX7_luck_42 : decode cX7_luck 42 = .ok (.if_icmp .ge 69, 3) := by decide +kernel
theorem dX7_luck_45 : decode cX7_luck 45 = .ok (.aload_n 0, 1) := by decide +kernel
theorem dX7_luck_46 : decode cX7_luck 46 = .ok (.getfield 7, 3) := by decide +kernel
theorem dX7_luck_49 : decode cX7_luck 49 = .ok (.bipush 15, 2) := by decide +kernel
theorem dX7_luck_51 : decode cX7_luck 51 = .ok (.iload_n 1, 1) := by decide +kernel
theorem dX7_luck_52 : decode cX7_luck 52 = .ok (.iadd, 1) := by decide +kernel
theorem dX7_luck_53 : decode cX7_luck 53 = .ok (.iaload, 1) := by decide +kernel
theorem dX7_luck_54 : decode cX7_luck 54 = .ok (.ifCond .ne 57, 3) := by decide +kernel
theorem dX7_luck_57 : decode cX7_luck 57 = .ok (.bipush 10, 2) := by decide +kernel
theorem dX7_luck_59 : decode cX7_luck 59 = .ok (.iload_n 1, 1) := by decide +kernel
theorem dX7_luck_60 : decode cX7_luck 60 = .ok (.imul, 1) := by decide +kernel
theorem dX7_luck_61 : decode cX7_luck 61 = .ok (.iload 7, 2) := by decide +kernel
theorem dX7_luck_63 : decode cX7_luck 63 = .ok (.iadd, 1) := by decide +kernel
theorem dX7_luck_64 : decode cX7_luck 64 = .ok (.invokestatic 188, 3) := by decide +kernel
theorem dX7_luck_67 : decode cX7_luck 67 = .ok (.istore 8, 2) := by decide +kernel
theorem dX7_luck_69 : decode cX7_luck 69 = .ok (.aload_n 0, 1) := by decide +kernel
theorem dX7_luck_70 : decode cX7_luck 70 = .ok (.getfield 7, 3) := by decide +kernel
theorem dX7_luck_73 : decode cX7_luck 73 = .ok (.iload 8, 2) := by decide +kernel
theorem dX7_luck_75 : decode cX7_luck 75 = .ok (.iconst 1, 1) := by decide +kernel
theorem dX7_luck_76 : decode cX7_luck 76 = .ok (.iadd, 1) := by decide +kernel
theorem dX7_luck_77 : decode cX7_luck 77 = .ok (.iaload, 1) := by decide +kernel
theorem dX7_luck_78 : decode cX7_luck 78 = .ok (.ifCond .le 27, 3) := by decide +kernel
theorem dX7_luck_81 : decode cX7_luck 81 = .ok (.lload_n 3, 1) := by decide +kernel
theorem dX7_luck_82 : decode cX7_luck 82 = .ok (.bipush 8, 2) := by decide +kernel
theorem dX7_luck_84 : decode cX7_luck 84 = .ok (.aload_n 0, 1) := by decide +kernel
theorem dX7_luck_85 : decode cX7_luck 85 = .ok (.getfield 7, 3) := by decide +kernel
theorem dX7_luck_88 : decode cX7_luck 88 = .ok (.iload 8, 2) := by decide +kernel
theorem dX7_luck_90 : decode cX7_luck 90 = .ok (.iconst 2, 1) := by decide +kernel
theorem dX7_luck_91 : decode cX7_luck 91 = .ok (.iadd, 1) := by decide +kernel
theorem dX7_luck_92 : decode cX7_luck 92 = .ok (.iaload, 1) := by decide +kernel
theorem dX7_luck_93 : decode cX7_luck 93 = .ok (.isub, 1) := by decide +kernel
theorem dX7_luck_94 : decode cX7_luck 94 = .ok (.i2l, 1) := by decide +kernel
theorem dX7_luck_95 : decode cX7_luck 95 = .ok (.lmul, 1) := by decide +kernel
theorem dX7_luck_96 : decode cX7_luck 96 = .ok (.lstore_n 3, 1) := by decide +kernel
theorem dX7_luck_97 : decode cX7_luck 97 = .ok (.lload 5, 2) := by decide +kernel
theorem dX7_luck_99 : decode cX7_luck 99 = .ok (.ldc2_w 212, 3) := by decide +kernel
theorem dX7_luck_102 : decode cX7_luck 102 = .ok (.lmul, 1) := by decide +kernel
theorem dX7_luck_103 : decode cX7_luck 103 = .ok (.lstore 5, 2) := by decide +kernel
theorem dX7_luck_105 : decode cX7_luck 105 = .ok (.iinc 7 1, 3) := by decide +kernel
theorem dX7_luck_108 : decode cX7_luck 108 = .ok (.goto (-78), 3) := by decide +kernel
theorem dX7_luck_111 : decode cX7_luck 111 = .ok (.lload 5, 2) := by decide +kernel
theorem dX7_luck_113 : decode cX7_luck 113 = .ok (.lload_n 3, 1) := by decide +kernel
theorem dX7_luck_114 : decode cX7_luck 114 = .ok (.lsub, 1) := by decide +kernel
theorem dX7_luck_115 : decode cX7_luck 115 = .ok (.lload 5, 2) := by decide +kernel
theorem dX7_luck_117 : decode cX7_luck 117 = .ok (.iload_n 2, 1) := by decide +kernel
theorem dX7_luck_118 : decode cX7_luck 118 = .ok (.invokestatic 265, 3) := by decide +kernel
theorem dX7_luck_121 : decode cX7_luck 121 = .ok (.lreturn, 1) := by decide +kernel
set_option maxHeartbeats 4000000 in
set_option maxRecDepth 100000 in
theorem c_X7_luck {l : Launch} {Y : ww_Y} {ad : Nat → Nat} {G : List ww_L} (o0 : Nat) (h0 : ww_at G o0 (ww_LModel o0)) (σ : ww_M) (p1 : Int32) (p2 : Int32) : ww_Cn l Y ad G yX7_luck cX7_luck 9 (some .long) 3 [.ref (ad o0), .int p1, .int p2] σ ((f_X7_luck σ o0 p1 p2).bind (ww_rl σ)) := by
  refine ww_met (by decide +kernel) (Nat.le_of_ble_eq_true rfl) ?_
  intro X hC hR
  have hC : ww_C X l Y ad G 3 cX7_luck 9 RX7 := hC
  show ww_V X Y ad G 9 σ 0 [(0, .ref (ad o0)), (1, .int p1), (2, .int p2)] [] ((f_X7_luck σ o0 p1 p2).bind (ww_rl σ))
  have hJ111 : ∀ (y3 : Int64) (y5 : Int64), ww_V X Y ad G 9 σ 111 [(2, .int p2), (3, .long y3), (5, .long y5)] [] ((f_X7_luck_j111 σ o0 p1 p2 y3 y5).bind (ww_rl σ)) := by
    intro y3 y5
    unfold f_X7_luck_j111
    refine ww_lload (pc := 111) hC 2 rfl dX7_luck_111 ?_
    refine ww_lload_n (pc := 113) hC 1 rfl dX7_luck_113 rfl ?_
    refine ww_lsub (pc := 114) hC dX7_luck_114 ?_
    refine ww_lload (pc := 115) hC 2 rfl dX7_luck_115 ?_
    refine ww_iload_n (pc := 117) hC 0 rfl dX7_luck_117 rfl ?_
    refine ww_callSl (pc := 118) (st := []) (As := [.long (y5 - y3), .long y5, .int p2]) hC (c_X7_lowest σ (y5 - y3) y5 p2) mm_X7_lowest mw_1252 (by omega) (by decide) (Nat.le_of_ble_eq_true rfl) rfl dX7_luck_118 (fun v118 => ?_)
    exact ww_lreturn (pc := 121) hC hR dX7_luck_121 rfl
  have hJ30 : ∀ (y3 : Int64) (y5 : Int64) (x7 : Int32), ww_V X Y ad G 9 σ 30 [(0, .ref (ad o0)), (1, .int p1), (2, .int p2), (3, .long y3), (5, .long y5), (7, .int x7)] [] ((f_X7_luck_j30 σ o0 p1 p2 y3 y5 x7).bind (ww_rl σ)) := by
    intro y3 y5 x7
    unfold f_X7_luck_j30
    refine ww_assoc ?_
    refine ww_loop (f := f_X7_luck_b30 σ o0 p1 p2) (fun a30 => σ) (fun a30 => [(0, .ref (ad o0)), (1, .int p1), (2, .int p2), (3, .long a30.1), (5, .long a30.2.1), (7, .int a30.2.2)]) (fun b30 => σ) (fun b30 => [(2, .int p2), (3, .long b30.1), (5, .long b30.2)]) 111 (fun b30 => ?_) (fun a30 KK30 hc30 hx30 => ?_) ww_F (y3, y5, x7)
    · exact hJ111 b30.1 b30.2
    · unfold f_X7_luck_b30
      refine ww_iload (pc := 30) hC 5 rfl dX7_luck_30 ?_
      refine ww_aload_n (pc := 32) hC 0 rfl dX7_luck_32 rfl ?_
      refine ww_getr (pc := 33) (Cl := RX7) (T := TX7) (N := 36) (j := 4) (ref := RX7) hC (h0 0 _ rfl) rfl inT_X7 (by decide) mw_880 rfl rfl dX7_luck_33 ?_
      refine ww_iconst (pc := 36) (v := 2) hC dX7_luck_36 rfl ?_
      refine ww_iload_n (pc := 37) hC 1 rfl dX7_luck_37 rfl ?_
      refine ww_imul (pc := 38) hC dX7_luck_38 ?_
      refine ww_iconst (pc := 39) (v := 1) hC dX7_luck_39 rfl ?_
      refine ww_iadd (pc := 40) hC dX7_luck_40 ?_
      refine ww_iald (pc := 41) hC (h0 3 _ rfl) dX7_luck_41 ?_
      refine ww_icmp_ge (pc := 42) (tgt := 111) hC dX7_luck_42 (by decide) ?_ ?_
      · refine ww_lv [2, 3, 4] rfl ?_
        exact hx30 (a30.1, a30.2.1)
      · refine ww_aload_n (pc := 45) hC 0 rfl dX7_luck_45 rfl ?_
        refine ww_getr (pc := 46) (Cl := RX7) (T := TX7) (N := 36) (j := 0) (ref := RX7) hC (h0 0 _ rfl) rfl inT_X7 (by decide) mw_876 rfl rfl dX7_luck_46 ?_
        refine ww_bipush (pc := 49) (v := 15) hC dX7_luck_49 rfl ?_
        refine ww_iload_n (pc := 51) hC 1 rfl dX7_luck_51 rfl ?_
        refine ww_iadd (pc := 52) hC dX7_luck_52 ?_
        refine ww_iald (pc := 53) hC (h0 1 _ rfl) dX7_luck_53 ?_
        refine ww_if_ne (pc := 54) (tgt := 111) hC dX7_luck_54 (by decide) ?_ ?_
        · refine ww_lv [2, 3, 4] rfl ?_
          exact hx30 (a30.1, a30.2.1)
        · refine ww_bipush (pc := 57) (v := 10) hC dX7_luck_57 rfl ?_
          refine ww_iload_n (pc := 59) hC 1 rfl dX7_luck_59 rfl ?_
          refine ww_imul (pc := 60) hC dX7_luck_60 ?_
          refine ww_iload (pc := 61) hC 5 rfl dX7_luck_61 ?_
          refine ww_iadd (pc := 63) hC dX7_luck_63 ?_
          refine ww_callSi (pc := 64) (st := []) (As := [.int ((10 * p1) + a30.2.2)]) hC (c_X7_partAt σ ((10 * p1) + a30.2.2)) mm_X7_partAt mw_1102 (by omega) (by decide) (Nat.le_of_ble_eq_true rfl) rfl dX7_luck_64 (fun v64 => ?_)
          refine ww_istore (pc := 67) (lv' := [(8, .int v64), (0, .ref (ad o0)), (1, .int p1), (2, .int p2), (3, .long a30.1), (5, .long a30.2.1), (7, .int a30.2.2)]) hC dX7_luck_67 (by decide) rfl ?_
          refine ww_aload_n (pc := 69) hC 1 rfl dX7_luck_69 rfl ?_
          refine ww_getr (pc := 70) (Cl := RX7) (T := TX7) (N := 36) (j := 0) (ref := RX7) hC (h0 0 _ rfl) rfl inT_X7 (by decide) mw_876 rfl rfl dX7_luck_70 ?_
          refine ww_iload (pc := 73) hC 0 rfl dX7_luck_73 ?_
          refine ww_iconst (pc := 75) (v := 1) hC dX7_luck_75 rfl ?_
          refine ww_iadd (pc := 76) hC dX7_luck_76 ?_
          refine ww_iald (pc := 77) hC (h0 1 _ rfl) dX7_luck_77 ?_
          refine ww_if_le (pc := 78) (tgt := 105) hC dX7_luck_78 (by decide) ?_ ?_
          · refine ww_iinc (pc := 105) (v := a30.2.2 + 1) (lv' := [(7, .int (a30.2.2 + 1)), (8, .int v64), (0, .ref (ad o0)), (1, .int p1), (2, .int p2), (3, .long a30.1), (5, .long a30.2.1)]) hC 6 rfl dX7_luck_105 rfl (by decide) rfl ?_
            refine ww_goto (pc := 108) (tgt := 30) hC dX7_luck_108 (by decide) ?_
            refine ww_lv [2, 3, 4, 5, 6, 0] rfl ?_
            exact hc30 (a30.1, a30.2.1, a30.2.2 + 1)
          · refine ww_lload_n (pc := 81) hC 4 rfl dX7_luck_81 rfl ?_
            refine ww_bipush (pc := 82) (v := 8) hC dX7_luck_82 rfl ?_
            refine ww_aload_n (pc := 84) hC 1 rfl dX7_luck_84 rfl ?_
            refine ww_getr (pc := 85) (Cl := RX7) (T := TX7) (N := 36) (j := 0) (ref := RX7) hC (h0 0 _ rfl) rfl inT_X7 (by decide) mw_876 rfl rfl dX7_luck_85 ?_
            refine ww_iload (pc := 88) hC 0 rfl dX7_luck_88 ?_
            refine ww_iconst (pc := 90) (v := 2) hC dX7_luck_90 rfl ?_
            refine ww_iadd (pc := 91) hC dX7_luck_91 ?_
            refine ww_iald (pc := 92) hC (h0 1 _ rfl) dX7_luck_92 ?_
            refine ww_isub (pc := 93) hC dX7_luck_93 ?_
            refine ww_i2l (pc := 94) hC dX7_luck_94 ?_
            refine ww_lmul (pc := 95) hC dX7_luck_95 ?_
            refine ww_lstore_n (pc := 96) (lv' := [(3, .long (a30.1 * ((8 - (σ (o0 + 1) (ww_ix (v64 + 2)))).toInt64))), (8, .int v64), (0, .ref (ad o0)), (1, .int p1), (2, .int p2), (5, .long a30.2.1), (7, .int a30.2.2)]) hC dX7_luck_96 rfl (by decide) rfl ?_
            refine ww_lload (pc := 97) hC 5 rfl dX7_luck_97 ?_
            refine ww_ldc2 (pc := 99) hC dX7_luck_99 mw_1147 ?_
            refine ww_lmul (pc := 102) hC dX7_luck_102 ?_
            refine ww_lstore (pc := 103) (lv' := [(5, .long (a30.2.1 * 8)), (3, .long (a30.1 * ((8 - (σ (o0 + 1) (ww_ix (v64 + 2)))).toInt64))), (8, .int v64), (0, .ref (ad o0)), (1, .int p1), (2, .int p2), (7, .int a30.2.2)]) hC dX7_luck_103 (by decide) rfl ?_
            refine ww_iinc (pc := 105) (v := a30.2.2 + 1) (lv' := [(7, .int (a30.2.2 + 1)), (5, .long (a30.2.1 * 8)), (3, .long (a30.1 * ((8 - (σ (o0 + 1) (ww_ix (v64 + 2)))).toInt64))), (8, .int v64), (0, .ref (ad o0)), (1, .int p1), (2, .int p2)]) hC 6 rfl dX7_luck_105 rfl (by decide) rfl ?_
            refine ww_goto (pc := 108) (tgt := 30) hC dX7_luck_108 (by decide) ?_
            refine ww_lv [4, 5, 6, 2, 1, 0] rfl ?_
            exact hc30 (a30.1 * ((8 - (σ (o0 + 1) (ww_ix (v64 + 2)))).toInt64), a30.2.1 * 8, a30.2.2 + 1)
  unfold f_X7_luck
  refine ww_aload_n (pc := 0) hC 0 rfl dX7_luck_0 rfl ?_
  refine ww_iload_n (pc := 1) hC 1 rfl dX7_luck_1 rfl ?_
  refine ww_callVi (pc := 2) (st := []) (As := [.int p1]) hC (c_X7_isBeast o0 h0 σ p1) mm_X7_isBeast mw_1090 (h0 0 _ rfl) rfl (by omega) (by decide) (Nat.le_of_ble_eq_true rfl) rfl dX7_luck_2 (fun v2 => ?_)
  refine ww_if_eq (pc := 5) (tgt := 18) hC dX7_luck_5 (by decide) ?_ ?_
  · refine ww_ldc2 (pc := 18) hC dX7_luck_18 mw_1251 ?_
    exact ww_lreturn (pc := 21) hC hR dX7_luck_21 rfl
  · refine ww_iload_n (pc := 8) hC 2 rfl dX7_luck_8 rfl ?_
    refine ww_i2l (pc := 9) hC dX7_luck_9 ?_
    refine ww_lconst (pc := 10) (v := 0) hC dX7_luck_10 rfl ?_
    refine ww_lconst (pc := 11) (v := 1) hC dX7_luck_11 rfl ?_
    refine ww_callSi (pc := 12) (st := []) (As := [.long p2.toInt64, .long 0, .long 1]) hC (c_X7_in σ p2.toInt64 0 1) mm_X7_in mw_991 (by omega) (by decide) (Nat.le_of_ble_eq_true rfl) rfl dX7_luck_12 (fun v12 => ?_)
    refine ww_if_ne (pc := 15) (tgt := 22) hC dX7_luck_15 (by decide) ?_ ?_
    · refine ww_lconst (pc := 22) (v := 1) hC dX7_luck_22 rfl ?_
      refine ww_lstore_n (pc := 23) (lv' := [(3, .long 1), (0, .ref (ad o0)), (1, .int p1), (2, .int p2)]) hC dX7_luck_23 rfl (by decide) rfl ?_
      refine ww_lconst (pc := 24) (v := 1) hC dX7_luck_24 rfl ?_
      refine ww_lstore (pc := 25) (lv' := [(5, .long 1), (3, .long 1), (0, .ref (ad o0)), (1, .int p1), (2, .int p2)]) hC dX7_luck_25 (by decide) rfl ?_
      refine ww_iconst (pc := 27) (v := 0) hC dX7_luck_27 rfl ?_
      refine ww_istore (pc := 28) (lv' := [(7, .int 0), (5, .long 1), (3, .long 1), (0, .ref (ad o0)), (1, .int p1), (2, .int p2)]) hC dX7_luck_28 (by decide) rfl ?_
      refine ww_lv [3, 4, 5, 2, 1, 0] rfl ?_
      exact hJ30 1 1 0
    · refine ww_ldc2 (pc := 18) hC dX7_luck_18 mw_1251 ?_
      exact ww_lreturn (pc := 21) hC hR dX7_luck_21 rfl
theorem dX7_open_0 : decode cX7_open 0 = .ok (.bipush (-4), 2) := by decide +kernel
theorem dX7_open_2 : decode cX7_open 2 = .ok (.istore_n 1, 1) := by decide +kernel
theorem dX7_open_3 : decode cX7_open 3 = .ok (.iconst 0, 1) := by decide +kernel
theorem dX7_open_4 : decode cX7_open 4 = .ok (.istore_n 2, 1) := by decide +kernel
theorem dX7_open_5 : decode cX7_open 5 = .ok (.iload_n 2, 1) := by decide +kernel
theorem dX7_open_6 : decode cX7_open 6 = .ok (.bipush 30, 2) := by decide +kernel
theorem dX7_open_8 : decode cX7_open 8 = .ok (.if_icmp .ge 96, 3) := by decide +kernel
theorem dX7_open_11 : decode cX7_open 11 = .ok (.aload_n 0, 1) := by decide +kernel
theorem dX7_open_12 : decode cX7_open 12 = .ok (.iload_n 2, 1) := by decide +kernel
theorem dX7_open_13 : decode cX7_open 13 = .ok (.invokevirtual 191, 3) := by decide +kernel
theorem dX7_open_16 : decode cX7_open 16 = .ok (.ifCond .eq 82, 3) := by decide +kernel
theorem dX7_open_19 : decode cX7_open 19 = .ok (.aload_n 0, 1) := by decide +kernel
theorem dX7_open_20 : decode cX7_open 20 = .ok (.iload_n 2, 1) := by decide +kernel
theorem dX7_open_21 : decode cX7_open 21 = .ok (.invokevirtual 198, 3) := by decide +kernel
theorem dX7_open_24 : decode cX7_open 24 = .ok (.ifCond .eq 74, 3) := by decide +kernel
theorem dX7_open_27 : decode cX7_open 27 = .ok (.iload_n 1, 1) := by decide +kernel
theorem dX7_open_28 : decode cX7_open 28 = .ok (.bipush (-4), 2) := by decide +kernel
theorem dX7_open_30 : decode cX7_open 30 = .ok (.if_icmp .eq 52, 3) := by decide +kernel
theorem dX7_open_33 : decode cX7_open 33 = .ok (.aload_n 0, 1) := by decide +kernel
theorem dX7_open_34 : decode cX7_open 34 = .ok (.getfield 7, 3) := by decide +kernel
theorem dX7_open_37 : decode cX7_open 37 = .ok (.iload_n 2, 1) := by decide +kernel
theorem dX7_open_38 : decode cX7_open 38 = .ok (.invokestatic 188, 3) := by decide +kernel
theorem dX7_open_41 : decode cX7_open 41 = .ok (.iconst 2, 1) := by decide +kernel
theorem dX7_open_42 : decode cX7_open 42 = .ok (.iadd, 1) := by decide +kernel
theorem dX7_open_43 : decode cX7_open 43 = .ok (.iaload, 1) := by decide +kernel
theorem dX7_open_44 : decode cX7_open 44 = .ok (.aload_n 0, 1) := by decide +kernel
theorem dX7_open_45 : decode cX7_open 45 = .ok (.getfield 7, 3) := by decide +kernel
theorem dX7_open_48 : decode cX7_open 48 = .ok (.iload_n 1, 1) := by decide +kernel
theorem dX7_open_49 : decode cX7_open 49 = .ok (.invokestatic 188, 3) := by decide +kernel
theorem dX7_open_52 : decode cX7_open 52 = .ok (.iconst 1, 1) := by decide +kernel
theorem dX7_open_53 : decode cX7_open 53 = .ok (.iadd, 1) := by decide +kernel
theorem dX7_open_54 : decode cX7_open 54 = .ok (.iaload, 1) := by decide +kernel
theorem dX7_open_55 : decode cX7_open 55 = .ok (.imul, 1) := by decide +kernel
theorem dX7_open_56 : decode cX7_open 56 = .ok (.aload_n 0, 1) := by decide +kernel
theorem dX7_open_57 : decode cX7_open 57 = .ok (.getfield 7, 3) := by decide +kernel
theorem dX7_open_60 : decode cX7_open 60 = .ok (.iload_n 1, 1) := by decide +kernel
theorem dX7_open_61 : decode cX7_open 61 = .ok (.invokestatic 188, 3) := by decide +kernel
theorem dX7_open_64 : decode cX7_open 64 = .ok (.iconst 2, 1) := by decide +kernel
theorem dX7_open_65 : decode cX7_open 65 = .ok (.iadd, 1) := by decide +kernel
theorem dX7_open_66 : decode cX7_open 66 = .ok (.iaload, 1) := by decide +kernel
theorem dX7_open_67 : decode cX7_open 67 = .ok (.aload_n 0, 1) := by decide +kernel
theorem dX7_open_68 : decode cX7_open 68 = .ok (.getfield 7, 3) := by decide +kernel
theorem dX7_open_71 : decode cX7_open 71 = .ok (.iload_n 2, 1) := by decide +kernel
theorem dX7_open_72 : decode cX7_open 72 = .ok (.invokestatic 188, 3) := by decide +kernel
theorem dX7_open_75 : decode cX7_open 75 = .ok (.iconst 1, 1) := by decide +kernel
theorem dX7_open_76 : decode cX7_open 76 = .ok (.iadd, 1) := by decide +kernel
theorem dX7_open_77 : decode cX7_open 77 = .ok (.iaload, 1) := by decide +kernel
theorem dX7_open_78 : decode cX7_open 78 = .ok (.imul, 1) := by decide +kernel
theorem dX7_open_79 : decode cX7_open 79 = .ok (.if_icmp .le 7, 3) := by decide +kernel
theorem dX7_open_82 : decode cX7_open 82 = .ok (.iconst 1, 1) := by decide +kernel
theorem dX7_open_83 : decode cX7_open 83 = .ok (.goto 4, 3) := by decide +kernel
theorem dX7_open_86 : decode cX7_open 86 = .ok (.iconst 0, 1) := by decide +kernel
theorem dX7_open_87 : decode cX7_open 87 = .ok (.istore_n 3, 1) := by decide +kernel
theorem dX7_open_88 : decode cX7_open 88 = .ok (.iload_n 3, 1) := by decide +kernel
theorem dX7_open_89 : decode cX7_open 89 = .ok (.ifCond .eq 7, 3) := by decide +kernel
theorem dX7_open_92 : decode cX7_open 92 = .ok (.iload_n 2, 1) := by decide +kernel
theorem dX7_open_93 : decode cX7_open 93 = .ok (.goto 4, 3) := by decide +kernel
theorem dX7_open_96 : decode cX7_open 96 = .ok (.iload_n 1, 1) := by decide +kernel
theorem dX7_open_97 : decode cX7_open 97 = .ok (.istore_n 1, 1) := by decide +kernel
theorem dX7_open_98 : decode cX7_open 98 = .ok (.iinc 2 1, 3) := by decide +kernel
theorem dX7_open_101 : decode cX7_open 101 = .ok (.goto (-96), 3) := by decide +kernel
theorem dX7_open_104 : decode cX7_open 104 = .ok (.iload_n 1, 1) := by decide +kernel
theorem dX7_open_105 : decode cX7_open 105 = .ok (.ireturn, 1) := by decide +kernel
set_option maxHeartbeats 4000000 in
set_option maxRecDepth 100000 in
theorem c_X7_open {l : Launch} {Y : ww_Y} {ad : Nat → Nat} {G : List ww_L} (o0 : Nat) (h0 : ww_at G o0 (ww_LModel o0)) (σ : ww_M) : ww_Cn l Y ad G yX7_open cX7_open 4 (some .int) 4 [.ref (ad o0)] σ ((f_X7_open σ o0).bind (ww_ri σ)) := by
  refine ww_met (by decide +kernel) (Nat.le_of_ble_eq_true rfl) ?_
  intro X hC hR
  have hC : ww_C X l Y ad G 4 cX7_open 4 RX7 := hC
  show ww_V X Y ad G 4 σ 0 [(0, .ref (ad o0))] [] ((f_X7_open σ o0).bind (ww_ri σ))
  have hJ104 : ∀ (x1 : Int32), ww_V X Y ad G 4 σ 104 [(1, .int x1)] [] ((f_X7_open_j104 σ o0 x1).bind (ww_ri σ)) := by
    intro x1
    unfold f_X7_open_j104
    refine ww_iload_n (pc := 104) hC 0 rfl dX7_open_104 rfl ?_
    exact ww_ireturn (pc := 105) hC hR dX7_open_105 rfl
  have hJ5 : ∀ (x1 : Int32) (x2 : Int32), ww_V X Y ad G 4 σ 5 [(0, .ref (ad o0)), (1, .int x1), (2, .int x2)] [] ((f_X7_open_j5 σ o0 x1 x2).bind (ww_ri σ)) := by
    intro x1 x2
    unfold f_X7_open_j5
    refine ww_assoc ?_
    refine ww_loop (f := f_X7_open_b5 σ o0) (fun a5 => σ) (fun a5 => [(0, .ref (ad o0)), (1, .int a5.1), (2, .int a5.2)]) (fun b5 => σ) (fun b5 => [(1, .int b5)]) 104 (fun b5 => ?_) (fun a5 KK5 hc5 hx5 => ?_) ww_F (x1, x2)
    · exact hJ104 b5
    · unfold f_X7_open_b5
      have hJ87 : ∀ (x1 : Int32) (x2 : Int32) (s0 : Int32), ww_V X Y ad G 4 σ 87 [(0, .ref (ad o0)), (1, .int x1), (2, .int x2)] [.int s0] ((f_X7_open_j87 σ o0 x1 x2 s0).bind KK5) := by
        intro x1 x2 s0
        unfold f_X7_open_j87
        refine ww_istore_n (pc := 87) (lv' := [(3, .int s0), (0, .ref (ad o0)), (1, .int x1), (2, .int x2)]) hC dX7_open_87 rfl (by decide) rfl ?_
        refine ww_iload_n (pc := 88) hC 0 rfl dX7_open_88 rfl ?_
        refine ww_if_eq (pc := 89) (tgt := 96) hC dX7_open_89 (by decide) ?_ ?_
        · refine ww_iload_n (pc := 96) hC 2 rfl dX7_open_96 rfl ?_
          refine ww_istore_n (pc := 97) (lv' := [(1, .int x1), (3, .int s0), (0, .ref (ad o0)), (2, .int x2)]) hC dX7_open_97 rfl (by decide) rfl ?_
          refine ww_iinc (pc := 98) (v := x2 + 1) (lv' := [(2, .int (x2 + 1)), (1, .int x1), (3, .int s0), (0, .ref (ad o0))]) hC 3 rfl dX7_open_98 rfl (by decide) rfl ?_
          refine ww_goto (pc := 101) (tgt := 5) hC dX7_open_101 (by decide) ?_
          refine ww_lv [3, 1, 0] rfl ?_
          exact hc5 (x1, x2 + 1)
        · refine ww_iload_n (pc := 92) hC 3 rfl dX7_open_92 rfl ?_
          refine ww_goto (pc := 93) (tgt := 97) hC dX7_open_93 (by decide) ?_
          refine ww_istore_n (pc := 97) (lv' := [(1, .int x2), (3, .int s0), (0, .ref (ad o0)), (2, .int x2)]) hC dX7_open_97 rfl (by decide) rfl ?_
          refine ww_iinc (pc := 98) (v := x2 + 1) (lv' := [(2, .int (x2 + 1)), (1, .int x2), (3, .int s0), (0, .ref (ad o0))]) hC 3 rfl dX7_open_98 rfl (by decide) rfl ?_
          refine ww_goto (pc := 101) (tgt := 5) hC dX7_open_101 (by decide) ?_
          refine ww_lv [3, 1, 0] rfl ?_
          exact hc5 (x2, x2 + 1)
      have hJ82 : ∀ (x1 : Int32) (x2 : Int32), ww_V X Y ad G 4 σ 82 [(0, .ref (ad o0)), (1, .int x1), (2, .int x2)] [] ((f_X7_open_j82 σ o0 x1 x2).bind KK5) := by
        intro x1 x2
        unfold f_X7_open_j82
        refine ww_iconst (pc := 82) (v := 1) hC dX7_open_82 rfl ?_
        refine ww_goto (pc := 83) (tgt := 87) hC dX7_open_83 (by decide) ?_
        exact hJ87 x1 x2 1
      refine ww_iload_n (pc := 5) hC 2 rfl dX7_open_5 rfl ?_
      refine ww_bipush (pc := 6) (v := 30) hC dX7_open_6 rfl ?_
      refine ww_icmp_ge (pc := 8) (tgt := 104) hC dX7_open_8 (by decide) ?_ ?_
      · refine ww_lv [1] rfl ?_
        exact hx5 a5.1
      · refine ww_aload_n (pc := 11) hC 0 rfl dX7_open_11 rfl ?_
        refine ww_iload_n (pc := 12) hC 2 rfl dX7_open_12 rfl ?_
        refine ww_callVi (pc := 13) (st := []) (As := [.int a5.2]) hC (c_X7_isPart o0 h0 σ a5.2) mm_X7_isPart mw_1098 (h0 0 _ rfl) rfl (by omega) (by decide) (Nat.le_of_ble_eq_true rfl) rfl dX7_open_13 (fun v13 => ?_)
        refine ww_if_eq (pc := 16) (tgt := 98) hC dX7_open_16 (by decide) ?_ ?_
        · refine ww_iinc (pc := 98) (v := a5.2 + 1) (lv' := [(2, .int (a5.2 + 1)), (0, .ref (ad o0)), (1, .int a5.1)]) hC 2 rfl dX7_open_98 rfl (by decide) rfl ?_
          refine ww_goto (pc := 101) (tgt := 5) hC dX7_open_101 (by decide) ?_
          refine ww_lv [1, 2, 0] rfl ?_
          exact hc5 (a5.1, a5.2 + 1)
        · refine ww_aload_n (pc := 19) hC 0 rfl dX7_open_19 rfl ?_
          refine ww_iload_n (pc := 20) hC 2 rfl dX7_open_20 rfl ?_
          refine ww_callVi (pc := 21) (st := []) (As := [.int a5.2]) hC (c_X7_canBeWorked o0 h0 σ a5.2) mm_X7_canBeWorked mw_1109 (h0 0 _ rfl) rfl (by omega) (by decide) (Nat.le_of_ble_eq_true rfl) rfl dX7_open_21 (fun v21 => ?_)
          refine ww_if_eq (pc := 24) (tgt := 98) hC dX7_open_24 (by decide) ?_ ?_
          · refine ww_iinc (pc := 98) (v := a5.2 + 1) (lv' := [(2, .int (a5.2 + 1)), (0, .ref (ad o0)), (1, .int a5.1)]) hC 2 rfl dX7_open_98 rfl (by decide) rfl ?_
            refine ww_goto (pc := 101) (tgt := 5) hC dX7_open_101 (by decide) ?_
            refine ww_lv [1, 2, 0] rfl ?_
            exact hc5 (a5.1, a5.2 + 1)
          · refine ww_iload_n (pc := 27) hC 1 rfl dX7_open_27 rfl ?_
            refine ww_bipush (pc := 28) (v := (-4)) hC dX7_open_28 rfl ?_
            refine ww_icmp_eq (pc := 30) (tgt := 82) hC dX7_open_30 (by decide) ?_ ?_
            · exact hJ82 a5.1 a5.2
            · refine ww_aload_n (pc := 33) hC 0 rfl dX7_open_33 rfl ?_
              refine ww_getr (pc := 34) (Cl := RX7) (T := TX7) (N := 36) (j := 0) (ref := RX7) hC (h0 0 _ rfl) rfl inT_X7 (by decide) mw_876 rfl rfl dX7_open_34 ?_
              refine ww_iload_n (pc := 37) hC 2 rfl dX7_open_37 rfl ?_
              refine ww_callSi (pc := 38) (st := [.ref (ad (o0 + 1))]) (As := [.int a5.2]) hC (c_X7_partAt σ a5.2) mm_X7_partAt mw_1102 (by omega) (by decide) (Nat.le_of_ble_eq_true rfl) rfl dX7_open_38 (fun v38 => ?_)
              refine ww_iconst (pc := 41) (v := 2) hC dX7_open_41 rfl ?_
              refine ww_iadd (pc := 42) hC dX7_open_42 ?_
              refine ww_iald (pc := 43) hC (h0 1 _ rfl) dX7_open_43 ?_
              refine ww_aload_n (pc := 44) hC 0 rfl dX7_open_44 rfl ?_
              refine ww_getr (pc := 45) (Cl := RX7) (T := TX7) (N := 36) (j := 0) (ref := RX7) hC (h0 0 _ rfl) rfl inT_X7 (by decide) mw_876 rfl rfl dX7_open_45 ?_
              refine ww_iload_n (pc := 48) hC 1 rfl dX7_open_48 rfl ?_
              refine ww_callSi (pc := 49) (st := [.ref (ad (o0 + 1)), .int (σ (o0 + 1) (ww_ix (v38 + 2)))]) (As := [.int a5.1]) hC (c_X7_partAt σ a5.1) mm_X7_partAt mw_1102 (by omega) (by decide) (Nat.le_of_ble_eq_true rfl) rfl dX7_open_49 (fun v49 => ?_)
              refine ww_iconst (pc := 52) (v := 1) hC dX7_open_52 rfl ?_
              refine ww_iadd (pc := 53) hC dX7_open_53 ?_
              refine ww_iald (pc := 54) hC (h0 1 _ rfl) dX7_open_54 ?_
              refine ww_imul (pc := 55) hC dX7_open_55 ?_
              refine ww_aload_n (pc := 56) hC 0 rfl dX7_open_56 rfl ?_
              refine ww_getr (pc := 57) (Cl := RX7) (T := TX7) (N := 36) (j := 0) (ref := RX7) hC (h0 0 _ rfl) rfl inT_X7 (by decide) mw_876 rfl rfl dX7_open_57 ?_
              refine ww_iload_n (pc := 60) hC 1 rfl dX7_open_60 rfl ?_
              refine ww_callSi (pc := 61) (st := [.ref (ad (o0 + 1)), .int ((σ (o0 + 1) (ww_ix (v38 + 2))) * (σ (o0 + 1) (ww_ix (v49 + 1))))]) (As := [.int a5.1]) hC (c_X7_partAt σ a5.1) mm_X7_partAt mw_1102 (by omega) (by decide) (Nat.le_of_ble_eq_true rfl) rfl dX7_open_61 (fun v61 => ?_)
              refine ww_iconst (pc := 64) (v := 2) hC dX7_open_64 rfl ?_
              refine ww_iadd (pc := 65) hC dX7_open_65 ?_
              refine ww_iald (pc := 66) hC (h0 1 _ rfl) dX7_open_66 ?_
              refine ww_aload_n (pc := 67) hC 0 rfl dX7_open_67 rfl ?_
              refine ww_getr (pc := 68) (Cl := RX7) (T := TX7) (N := 36) (j := 0) (ref := RX7) hC (h0 0 _ rfl) rfl inT_X7 (by decide) mw_876 rfl rfl dX7_open_68 ?_
              refine ww_iload_n (pc := 71) hC 2 rfl dX7_open_71 rfl ?_
              refine ww_callSi (pc := 72) (st := [.ref (ad (o0 + 1)), .int (σ (o0 + 1) (ww_ix (v61 + 2))), .int ((σ (o0 + 1) (ww_ix (v38 + 2))) * (σ (o0 + 1) (ww_ix (v49 + 1))))]) (As := [.int a5.2]) hC (c_X7_partAt σ a5.2) mm_X7_partAt mw_1102 (by omega) (by decide) (Nat.le_of_ble_eq_true rfl) rfl dX7_open_72 (fun v72 => ?_)
              refine ww_iconst (pc := 75) (v := 1) hC dX7_open_75 rfl ?_
              refine ww_iadd (pc := 76) hC dX7_open_76 ?_
              refine ww_iald (pc := 77) hC (h0 1 _ rfl) dX7_open_77 ?_
              refine ww_imul (pc := 78) hC dX7_open_78 ?_
              refine ww_icmp_le (pc := 79) (tgt := 86) hC dX7_open_79 (by decide) ?_ ?_
              · refine ww_iconst (pc := 86) (v := 0) hC dX7_open_86 rfl ?_
                exact hJ87 a5.1 a5.2 0
              · exact hJ82 a5.1 a5.2
  unfold f_X7_open
  refine ww_bipush (pc := 0) (v := (-4)) hC dX7_open_0 rfl ?_
  refine ww_istore_n (pc := 2) (lv' := [(1, .int (-4)), (0, .ref (ad o0))]) hC dX7_open_2 rfl (by decide) rfl ?_
  refine ww_iconst (pc := 3) (v := 0) hC dX7_open_3 rfl ?_
  refine ww_istore_n (pc := 4) (lv' := [(2, .int 0), (1, .int (-4)), (0, .ref (ad o0))]) hC dX7_open_4 rfl (by decide) rfl ?_
  refine ww_lv [2, 1, 0] rfl ?_
  exact hJ5 (-4) 0
theorem dX7_copies_0 : decode cX7_copies 0 = .ok (.iconst 0, 1) := by decide +kernel
theorem dX7_copies_1 : decode cX7_copies 1 = .ok (.istore_n 3, 1) := by decide +kernel
theorem dX7_copies_2 : decode cX7_copies 2 = .ok (.iload_n 3, 1) := by decide +kernel
theorem dX7_copies_3 : decode cX7_copies 3 = .ok (.bipush 50, 2) := by decide +kernel
theorem dX7_copies_5 : decode cX7_copies 5 = .ok (.if_icmp .ge 25, 3) := by decide +kernel
theorem dX7_copies_8 : decode cX7_copies 8 = .ok (.aload_n 0, 1) := by decide +kernel
theorem dX7_copies_9 : decode cX7_copies 9 = .ok (.getfield 7, 3) := by decide +kernel
theorem dX7_copies_12 : decode cX7_copies 12 = .ok (.iload_n 2, 1) := by decide +kernel
theorem dX7_copies_13 : decode cX7_copies 13 = .ok (.iload_n 3, 1) := by decide +kernel
theorem dX7_copies_14 : decode cX7_copies 14 = .ok (.iadd, 1) := by decide +kernel
theorem dX7_copies_15 : decode cX7_copies 15 = .ok (.aload_n 0, 1) := by decide +kernel
theorem dX7_copies_16 : decode cX7_copies 16 = .ok (.getfield 7, 3) := by decide +kernel
theorem dX7_copies_19 : decode cX7_copies 19 = .ok (.iload_n 1, 1) := by decide +kernel
theorem dX7_copies_20 : decode cX7_copies 20 = .ok (.iload_n 3, 1) := by decide +kernel
theorem dX7_copies_21 : decode cX7_copies 21 = .ok (.iadd, 1) := by decide +kernel
theorem dX7_copies_22 : decode cX7_copies 22 = .ok (.iaload, 1) := by decide +kernel
theorem dX7_copies_23 : decode cX7_copies 23 = .ok (.iastore, 1) := by decide +kernel
theorem dX7_copies_24 : decode cX7_copies 24 = .ok (.iinc 3 1, 3) := by decide +kernel
theorem dX7_copies_27 : decode cX7_copies 27 = .ok (.goto (-25), 3) := by decide +kernel
theorem dX7_copies_30 : decode cX7_copies 30 = .ok (.return_, 1) := by decide +kernel
set_option maxHeartbeats 4000000 in
set_option maxRecDepth 100000 in
theorem c_X7_copies {l : Launch} {Y : ww_Y} {ad : Nat → Nat} {G : List ww_L} (o0 : Nat) (h0 : ww_at G o0 (ww_LModel o0)) (σ : ww_M) (p1 : Int32) (p2 : Int32) : ww_Cn l Y ad G yX7_copies cX7_copies 4 none 1 [.ref (ad o0), .int p1, .int p2] σ ((f_X7_copies σ o0 p1 p2).bind ww_rv) := by
  refine ww_met (by decide +kernel) (Nat.le_of_ble_eq_true rfl) ?_
  intro X hC hR
  have hC : ww_C X l Y ad G 1 cX7_copies 4 RX7 := hC
  show ww_V X Y ad G 4 σ 0 [(0, .ref (ad o0)), (1, .int p1), (2, .int p2)] [] ((f_X7_copies σ o0 p1 p2).bind ww_rv)
  have hJ30 : ∀ (σ : ww_M), ww_V X Y ad G 4 σ 30 [] [] ((f_X7_copies_j30 σ o0 p1 p2).bind ww_rv) := by
    intro σ
    unfold f_X7_copies_j30
    exact ww_return (pc := 30) hC hR dX7_copies_30 rfl
  have hJ2 : ∀ (σ : ww_M) (x3 : Int32), ww_V X Y ad G 4 σ 2 [(0, .ref (ad o0)), (1, .int p1), (2, .int p2), (3, .int x3)] [] ((f_X7_copies_j2 σ o0 p1 p2 x3).bind ww_rv) := by
    intro σ x3
    unfold f_X7_copies_j2
    refine ww_assoc ?_
    refine ww_loop (f := f_X7_copies_b2 o0 p1 p2) (fun a2 => a2.2) (fun a2 => [(0, .ref (ad o0)), (1, .int p1), (2, .int p2), (3, .int a2.1)]) (fun b2 => b2) (fun b2 => []) 30 (fun b2 => ?_) (fun a2 KK2 hc2 hx2 => ?_) ww_F (x3, σ)
    · exact hJ30 b2
    · unfold f_X7_copies_b2
      refine ww_iload_n (pc := 2) hC 3 rfl dX7_copies_2 rfl ?_
      refine ww_bipush (pc := 3) (v := 50) hC dX7_copies_3 rfl ?_
      refine ww_icmp_ge (pc := 5) (tgt := 30) hC dX7_copies_5 (by decide) ?_ ?_
      · refine ww_lv [] rfl ?_
        exact hx2 a2.2
      · refine ww_aload_n (pc := 8) hC 0 rfl dX7_copies_8 rfl ?_
        refine ww_getr (pc := 9) (Cl := RX7) (T := TX7) (N := 36) (j := 0) (ref := RX7) hC (h0 0 _ rfl) rfl inT_X7 (by decide) mw_876 rfl rfl dX7_copies_9 ?_
        refine ww_iload_n (pc := 12) hC 2 rfl dX7_copies_12 rfl ?_
        refine ww_iload_n (pc := 13) hC 3 rfl dX7_copies_13 rfl ?_
        refine ww_iadd (pc := 14) hC dX7_copies_14 ?_
        refine ww_aload_n (pc := 15) hC 0 rfl dX7_copies_15 rfl ?_
        refine ww_getr (pc := 16) (Cl := RX7) (T := TX7) (N := 36) (j := 0) (ref := RX7) hC (h0 0 _ rfl) rfl inT_X7 (by decide) mw_876 rfl rfl dX7_copies_16 ?_
        refine ww_iload_n (pc := 19) hC 1 rfl dX7_copies_19 rfl ?_
        refine ww_iload_n (pc := 20) hC 3 rfl dX7_copies_20 rfl ?_
        refine ww_iadd (pc := 21) hC dX7_copies_21 ?_
        refine ww_iald (pc := 22) hC (h0 1 _ rfl) dX7_copies_22 ?_
        refine ww_iast (pc := 23) hC (h0 1 _ rfl) dX7_copies_23 ?_
        refine ww_iinc (pc := 24) (v := a2.1 + 1) (lv' := [(3, .int (a2.1 + 1)), (0, .ref (ad o0)), (1, .int p1), (2, .int p2)]) hC 3 rfl dX7_copies_24 rfl (by decide) rfl ?_
        refine ww_goto (pc := 27) (tgt := 2) hC dX7_copies_27 (by decide) ?_
        refine ww_lv [1, 2, 3, 0] rfl ?_
        exact hc2 (a2.1 + 1, ww_up a2.2 (o0 + 1) (ww_ix (p2 + a2.1)) (a2.2 (o0 + 1) (ww_ix (p1 + a2.1))))
  unfold f_X7_copies
  refine ww_iconst (pc := 0) (v := 0) hC dX7_copies_0 rfl ?_
  refine ww_istore_n (pc := 1) (lv' := [(3, .int 0), (0, .ref (ad o0)), (1, .int p1), (2, .int p2)]) hC dX7_copies_1 rfl (by decide) rfl ?_
  refine ww_lv [1, 2, 3, 0] rfl ?_
  exact hJ2 σ 0
theorem dX7_partBy_0 : decode cX7_partBy 0 = .ok (.iconst 0, 1) := by decide +kernel
theorem dX7_partBy_1 : decode cX7_partBy 1 = .ok (.istore_n 2, 1) := by decide +kernel
theorem dX7_partBy_2 : decode cX7_partBy 2 = .ok (.iconst 0, 1) := by decide +kernel
theorem dX7_partBy_3 : decode cX7_partBy 3 = .ok (.istore_n 3, 1) := by decide +kernel
theorem dX7_partBy_4 : decode cX7_partBy 4 = .ok (.iload_n 3, 1) := by decide +kernel
theorem dX7_partBy_5 : decode cX7_partBy 5 = .ok (.bipush 30, 2) := by decide +kernel
theorem dX7_partBy_7 : decode cX7_partBy 7 = .ok (.if_icmp .ge 35, 3) := by decide +kernel
theorem dX7_partBy_10 : decode cX7_partBy 10 = .ok (.aload_n 0, 1) := by decide +kernel
theorem dX7_partBy_11 : decode cX7_partBy 11 = .ok (.iload_n 3, 1) := by decide +kernel
theorem dX7_partBy_12 : decode cX7_partBy 12 = .ok (.invokevirtual 191, 3) := by decide +kernel
theorem dX7_partBy_15 : decode cX7_partBy 15 = .ok (.ifCond .eq 21, 3) := by decide +kernel
theorem dX7_partBy_18 : decode cX7_partBy 18 = .ok (.aload_n 0, 1) := by decide +kernel
theorem dX7_partBy_19 : decode cX7_partBy 19 = .ok (.iload_n 3, 1) := by decide +kernel
theorem dX7_partBy_20 : decode cX7_partBy 20 = .ok (.invokevirtual 198, 3) := by decide +kernel
theorem dX7_partBy_23 : decode cX7_partBy 23 = .ok (.ifCond .eq 13, 3) := by decide +kernel
theorem dX7_partBy_26 : decode cX7_partBy 26 = .ok (.iload_n 2, 1) := by decide +kernel
theorem dX7_partBy_27 : decode cX7_partBy 27 = .ok (.iload_n 1, 1) := by decide +kernel
theorem dX7_partBy_28 : decode cX7_partBy 28 = .ok (.if_icmp .ne 5, 3) := by decide +kernel
theorem dX7_partBy_31 : decode cX7_partBy 31 = .ok (.iload_n 3, 1) := by decide +kernel
theorem dX7_partBy_32 : decode cX7_partBy 32 = .ok (.ireturn, 1) := by decide +kernel
theorem dX7_partBy_33 : decode cX7_partBy 33 = .ok (.iinc 2 1, 3) := by decide +kernel
theorem dX7_partBy_36 : decode cX7_partBy 36 = .ok (.iinc 3 1, 3) := by decide +kernel
theorem dX7_partBy_39 : decode cX7_partBy 39 = .ok (.goto (-35), 3) := by decide +kernel
theorem dX7_partBy_42 : decode cX7_partBy 42 = .ok (.iload_n 1, 1) := by decide +kernel
theorem dX7_partBy_43 : decode cX7_partBy 43 = .ok (.ifCond .ge 7, 3) := by decide +kernel
theorem dX7_partBy_46 : decode cX7_partBy 46 = .ok (.iload_n 2, 1) := by decide +kernel
theorem dX7_partBy_47 : decode cX7_partBy 47 = .ok (.goto 5, 3) := by decide +kernel
theorem dX7_partBy_50 : decode cX7_partBy 50 = .ok (.bipush (-4), 2) := by decide +kernel
theorem dX7_partBy_52 : decode cX7_partBy 52 = .ok (.ireturn, 1) := by decide +kernel
set_option maxHeartbeats 4000000 in
set_option maxRecDepth 100000 in
theorem c_X7_partBy {l : Launch} {Y : ww_Y} {ad : Nat → Nat} {G : List ww_L} (o0 : Nat) (h0 : ww_at G o0 (ww_LModel o0)) (σ : ww_M) (p1 : Int32) : ww_Cn l Y ad G yX7_partBy cX7_partBy 4 (some .int) 4 [.ref (ad o0), .int p1] σ ((f_X7_partBy σ o0 p1).bind (ww_ri σ)) := by
  refine ww_met (by decide +kernel) (Nat.le_of_ble_eq_true rfl) ?_
  intro X hC hR
  have hC : ww_C X l Y ad G 4 cX7_partBy 4 RX7 := hC
  show ww_V X Y ad G 4 σ 0 [(0, .ref (ad o0)), (1, .int p1)] [] ((f_X7_partBy σ o0 p1).bind (ww_ri σ))
  have hJ42 : ∀ (x2 : Int32), ww_V X Y ad G 4 σ 42 [(1, .int p1), (2, .int x2)] [] ((f_X7_partBy_j42 σ o0 p1 x2).bind (ww_ri σ)) := by
    intro x2
    unfold f_X7_partBy_j42
    refine ww_iload_n (pc := 42) hC 0 rfl dX7_partBy_42 rfl ?_
    refine ww_if_ge (pc := 43) (tgt := 50) hC dX7_partBy_43 (by decide) ?_ ?_
    · refine ww_bipush (pc := 50) (v := (-4)) hC dX7_partBy_50 rfl ?_
      exact ww_ireturn (pc := 52) hC hR dX7_partBy_52 rfl
    · refine ww_iload_n (pc := 46) hC 1 rfl dX7_partBy_46 rfl ?_
      refine ww_goto (pc := 47) (tgt := 52) hC dX7_partBy_47 (by decide) ?_
      exact ww_ireturn (pc := 52) hC hR dX7_partBy_52 rfl
  have hJ4 : ∀ (x2 : Int32) (x3 : Int32), ww_V X Y ad G 4 σ 4 [(0, .ref (ad o0)), (1, .int p1), (2, .int x2), (3, .int x3)] [] ((f_X7_partBy_j4 σ o0 p1 x2 x3).bind (ww_ri σ)) := by
    intro x2 x3
    unfold f_X7_partBy_j4
    refine ww_assoc ?_
    refine ww_loopR (f := f_X7_partBy_b4 σ o0 p1) (fun a4 => σ) (fun a4 => [(0, .ref (ad o0)), (1, .int p1), (2, .int a4.1), (3, .int a4.2)]) (fun b4 => σ) (fun b4 => [(1, .int p1), (2, .int b4)]) 42 (fun b4 => ?_) (fun a4 KK4 hc4 hx4 hr4 => ?_) ww_F (x2, x3)
    · exact hJ42 b4
    · unfold f_X7_partBy_b4
      refine ww_iload_n (pc := 4) hC 3 rfl dX7_partBy_4 rfl ?_
      refine ww_bipush (pc := 5) (v := 30) hC dX7_partBy_5 rfl ?_
      refine ww_icmp_ge (pc := 7) (tgt := 42) hC dX7_partBy_7 (by decide) ?_ ?_
      · refine ww_lv [1, 2] rfl ?_
        exact hx4 a4.1
      · refine ww_aload_n (pc := 10) hC 0 rfl dX7_partBy_10 rfl ?_
        refine ww_iload_n (pc := 11) hC 3 rfl dX7_partBy_11 rfl ?_
        refine ww_callVi (pc := 12) (st := []) (As := [.int a4.2]) hC (c_X7_isPart o0 h0 σ a4.2) mm_X7_isPart mw_1098 (h0 0 _ rfl) rfl (by omega) (by decide) (Nat.le_of_ble_eq_true rfl) rfl dX7_partBy_12 (fun v12 => ?_)
        refine ww_if_eq (pc := 15) (tgt := 36) hC dX7_partBy_15 (by decide) ?_ ?_
        · refine ww_iinc (pc := 36) (v := a4.2 + 1) (lv' := [(3, .int (a4.2 + 1)), (0, .ref (ad o0)), (1, .int p1), (2, .int a4.1)]) hC 3 rfl dX7_partBy_36 rfl (by decide) rfl ?_
          refine ww_goto (pc := 39) (tgt := 4) hC dX7_partBy_39 (by decide) ?_
          refine ww_lv [1, 2, 3, 0] rfl ?_
          exact hc4 (a4.1, a4.2 + 1)
        · refine ww_aload_n (pc := 18) hC 0 rfl dX7_partBy_18 rfl ?_
          refine ww_iload_n (pc := 19) hC 3 rfl dX7_partBy_19 rfl ?_
          refine ww_callVi (pc := 20) (st := []) (As := [.int a4.2]) hC (c_X7_canBeWorked o0 h0 σ a4.2) mm_X7_canBeWorked mw_1109 (h0 0 _ rfl) rfl (by omega) (by decide) (Nat.le_of_ble_eq_true rfl) rfl dX7_partBy_20 (fun v20 => ?_)
          refine ww_if_eq (pc := 23) (tgt := 36) hC dX7_partBy_23 (by decide) ?_ ?_
          · refine ww_iinc (pc := 36) (v := a4.2 + 1) (lv' := [(3, .int (a4.2 + 1)), (0, .ref (ad o0)), (1, .int p1), (2, .int a4.1)]) hC 3 rfl dX7_partBy_36 rfl (by decide) rfl ?_
            refine ww_goto (pc := 39) (tgt := 4) hC dX7_partBy_39 (by decide) ?_
            refine ww_lv [1, 2, 3, 0] rfl ?_
            exact hc4 (a4.1, a4.2 + 1)
          · refine ww_iload_n (pc := 26) hC 2 rfl dX7_partBy_26 rfl ?_
            refine ww_iload_n (pc := 27) hC 1 rfl dX7_partBy_27 rfl ?_
            refine ww_icmp_ne (pc := 28) (tgt := 33) hC dX7_partBy_28 (by decide) ?_ ?_
            · refine ww_iinc (pc := 33) (v := a4.1 + 1) (lv' := [(2, .int (a4.1 + 1)), (0, .ref (ad o0)), (1, .int p1), (3, .int a4.2)]) hC 2 rfl dX7_partBy_33 rfl (by decide) rfl ?_
              refine ww_iinc (pc := 36) (v := a4.2 + 1) (lv' := [(3, .int (a4.2 + 1)), (2, .int (a4.1 + 1)), (0, .ref (ad o0)), (1, .int p1)]) hC 3 rfl dX7_partBy_36 rfl (by decide) rfl ?_
              refine ww_goto (pc := 39) (tgt := 4) hC dX7_partBy_39 (by decide) ?_
              refine ww_lv [2, 3, 1, 0] rfl ?_
              exact hc4 (a4.1 + 1, a4.2 + 1)
            · refine ww_iload_n (pc := 31) hC 3 rfl dX7_partBy_31 rfl ?_
              exact ww_ireturn (pc := 32) hC hR dX7_partBy_32 ((hr4 _).trans rfl)
  unfold f_X7_partBy
  refine ww_iconst (pc := 0) (v := 0) hC dX7_partBy_0 rfl ?_
  refine ww_istore_n (pc := 1) (lv' := [(2, .int 0), (0, .ref (ad o0)), (1, .int p1)]) hC dX7_partBy_1 rfl (by decide) rfl ?_
  refine ww_iconst (pc := 2) (v := 0) hC dX7_partBy_2 rfl ?_
  refine ww_istore_n (pc := 3) (lv' := [(3, .int 0), (2, .int 0), (0, .ref (ad o0)), (1, .int p1)]) hC dX7_partBy_3 rfl (by decide) rfl ?_
  refine ww_lv [2, 3, 1, 0] rfl ?_
  exact hJ4 0 0
theorem dX7_lostMany_0 : decode cX7_lostMany 0 = .ok (.iconst 0, 1) := by decide +kernel
theorem dX7_lostMany_1 : decode cX7_lostMany 1 = .ok (.istore_n 1, 1) := by decide +kernel
theorem dX7_lostMany_2 : decode cX7_lostMany 2 = .ok (.iconst 0, 1) := by decide +kernel
theorem dX7_lostMany_3 : decode cX7_lostMany 3 = .ok (.istore_n 2, 1) := by decide +kernel
theorem dX7_lostMany_4 : decode cX7_lostMany 4 = .ok (.iload_n 2, 1) := by decide +kernel
theorem dX7_lostMany_5 : decode cX7_lostMany 5 = .ok (.aload_n 0, 1) := by decide +kernel
theorem dX7_lostMany_6 : decode cX7_lostMany 6 = .ok (.getfield 159, 3) := by decide +kernel
theorem dX7_lostMany_9 : decode cX7_lostMany 9 = .ok (.if_icmp .ge 21, 3) := by decide +kernel
theorem dX7_lostMany_12 : decode cX7_lostMany 12 = .ok (.iload_n 1, 1) := by decide +kernel
theorem dX7_lostMany_13 : decode cX7_lostMany 13 = .ok (.aload_n 0, 1) := by decide +kernel
theorem dX7_lostMany_14 : decode cX7_lostMany 14 = .ok (.getfield 7, 3) := by decide +kernel
theorem dX7_lostMany_17 : decode cX7_lostMany 17 = .ok (.bipush 15, 2) := by decide +kernel
theorem dX7_lostMany_19 : decode cX7_lostMany 19 = .ok (.iload_n 2, 1) := by decide +kernel
theorem dX7_lostMany_20 : decode cX7_lostMany 20 = .ok (.iadd, 1) := by decide +kernel
theorem dX7_lostMany_21 : decode cX7_lostMany 21 = .ok (.iaload, 1) := by decide +kernel
theorem dX7_lostMany_22 : decode cX7_lostMany 22 = .ok (.iadd, 1) := by decide +kernel
theorem dX7_lostMany_23 : decode cX7_lostMany 23 = .ok (.istore_n 1, 1) := by decide +kernel
theorem dX7_lostMany_24 : decode cX7_lostMany 24 = .ok (.iinc 2 1, 3) := by decide +kernel
theorem dX7_lostMany_27 : decode cX7_lostMany 27 = .ok (.goto (-23), 3) := by decide +kernel
theorem dX7_lostMany_30 : decode cX7_lostMany 30 = .ok (.iload_n 1, 1) := by decide +kernel
theorem dX7_lostMany_31 : decode cX7_lostMany 31 = .ok (.ireturn, 1) := by decide +kernel
set_option maxHeartbeats 4000000 in
set_option maxRecDepth 100000 in
theorem c_X7_lostMany {l : Launch} {Y : ww_Y} {ad : Nat → Nat} {G : List ww_L} (o0 : Nat) (h0 : ww_at G o0 (ww_LModel o0)) (σ : ww_M) : ww_Cn l Y ad G yX7_lostMany cX7_lostMany 3 (some .int) 1 [.ref (ad o0)] σ ((f_X7_lostMany σ o0).bind (ww_ri σ)) := by
  refine ww_met (by decide +kernel) (Nat.le_of_ble_eq_true rfl) ?_
  intro X hC hR
  have hC : ww_C X l Y ad G 1 cX7_lostMany 3 RX7 := hC
  show ww_V X Y ad G 3 σ 0 [(0, .ref (ad o0))] [] ((f_X7_lostMany σ o0).bind (ww_ri σ))
  have hJ30 : ∀ (x1 : Int32), ww_V X Y ad G 3 σ 30 [(1, .int x1)] [] ((f_X7_lostMany_j30 σ o0 x1).bind (ww_ri σ)) := by
    intro x1
    unfold f_X7_lostMany_j30
    refine ww_iload_n (pc := 30) hC 0 rfl dX7_lostMany_30 rfl ?_
    exact ww_ireturn (pc := 31) hC hR dX7_lostMany_31 rfl
  have hJ4 : ∀ (x1 : Int32) (x2 : Int32), ww_V X Y ad G 3 σ 4 [(0, .ref (ad o0)), (1, .int x1), (2, .int x2)] [] ((f_X7_lostMany_j4 σ o0 x1 x2).bind (ww_ri σ)) := by
    intro x1 x2
    unfold f_X7_lostMany_j4
    refine ww_assoc ?_
    refine ww_loop (f := f_X7_lostMany_b4 σ o0) (fun a4 => σ) (fun a4 => [(0, .ref (ad o0)), (1, .int a4.1), (2, .int a4.2)]) (fun b4 => σ) (fun b4 => [(1, .int b4)]) 30 (fun b4 => ?_) (fun a4 KK4 hc4 hx4 => ?_) ww_F (x1, x2)
    · exact hJ30 b4
    · unfold f_X7_lostMany_b4
      refine ww_iload_n (pc := 4) hC 2 rfl dX7_lostMany_4 rfl ?_
      refine ww_aload_n (pc := 5) hC 0 rfl dX7_lostMany_5 rfl ?_
      refine ww_geti (pc := 6) (Cl := RX7) (T := TX7) (N := 36) (j := 5) (ref := RX7) hC (h0 0 _ rfl) rfl inT_X7 (by decide) mw_881 rfl rfl dX7_lostMany_6 ?_
      refine ww_icmp_ge (pc := 9) (tgt := 30) hC dX7_lostMany_9 (by decide) ?_ ?_
      · refine ww_lv [1] rfl ?_
        exact hx4 a4.1
      · refine ww_iload_n (pc := 12) hC 1 rfl dX7_lostMany_12 rfl ?_
        refine ww_aload_n (pc := 13) hC 0 rfl dX7_lostMany_13 rfl ?_
        refine ww_getr (pc := 14) (Cl := RX7) (T := TX7) (N := 36) (j := 0) (ref := RX7) hC (h0 0 _ rfl) rfl inT_X7 (by decide) mw_876 rfl rfl dX7_lostMany_14 ?_
        refine ww_bipush (pc := 17) (v := 15) hC dX7_lostMany_17 rfl ?_
        refine ww_iload_n (pc := 19) hC 2 rfl dX7_lostMany_19 rfl ?_
        refine ww_iadd (pc := 20) hC dX7_lostMany_20 ?_
        refine ww_iald (pc := 21) hC (h0 1 _ rfl) dX7_lostMany_21 ?_
        refine ww_iadd (pc := 22) hC dX7_lostMany_22 ?_
        refine ww_istore_n (pc := 23) (lv' := [(1, .int (a4.1 + (σ (o0 + 1) (ww_ix (15 + a4.2))))), (0, .ref (ad o0)), (2, .int a4.2)]) hC dX7_lostMany_23 rfl (by decide) rfl ?_
        refine ww_iinc (pc := 24) (v := a4.2 + 1) (lv' := [(2, .int (a4.2 + 1)), (1, .int (a4.1 + (σ (o0 + 1) (ww_ix (15 + a4.2))))), (0, .ref (ad o0))]) hC 2 rfl dX7_lostMany_24 rfl (by decide) rfl ?_
        refine ww_goto (pc := 27) (tgt := 4) hC dX7_lostMany_27 (by decide) ?_
        refine ww_lv [2, 1, 0] rfl ?_
        exact hc4 (a4.1 + (σ (o0 + 1) (ww_ix (15 + a4.2))), a4.2 + 1)
  unfold f_X7_lostMany
  refine ww_iconst (pc := 0) (v := 0) hC dX7_lostMany_0 rfl ?_
  refine ww_istore_n (pc := 1) (lv' := [(1, .int 0), (0, .ref (ad o0))]) hC dX7_lostMany_1 rfl (by decide) rfl ?_
  refine ww_iconst (pc := 2) (v := 0) hC dX7_lostMany_2 rfl ?_
  refine ww_istore_n (pc := 3) (lv' := [(2, .int 0), (1, .int 0), (0, .ref (ad o0))]) hC dX7_lostMany_3 rfl (by decide) rfl ?_
  refine ww_lv [2, 1, 0] rfl ?_
  exact hJ4 0 0
theorem dX7_drift_0 : decode cX7_drift 0 = .ok (.iload_n 2, 1) := by decide +kernel
theorem dX7_drift_1 : decode cX7_drift 1 = .ok (.i2l, 1) := by decide +kernel
theorem dX7_drift_2 : decode cX7_drift 2 = .ok (.lconst 1, 1) := by decide +kernel
theorem dX7_drift_3 : decode cX7_drift 3 = .ok (.ldc2_w 269, 3) := by decide +kernel
theorem dX7_drift_6 : decode cX7_drift 6 = .ok (.invokestatic 68, 3) := by decide +kernel
theorem dX7_drift_9 : decode cX7_drift 9 = .ok (.ifCond .eq 13, 3) := by decide +kernel
theorem dX7_drift_12 : decode cX7_drift 12 = .ok (.iload_n 3, 1) := by decide +kernel
theorem dX7_drift_13 : decode cX7_drift 13 = .ok (.i2l, 1) := by decide +kernel
theorem dX7_drift_14 : decode cX7_drift 14 = .ok (.lconst 0, 1) := by decide +kernel
theorem dX7_drift_15 : decode cX7_drift 15 = .ok (.lconst 1, 1) := by decide +kernel
theorem dX7_drift_16 : decode cX7_drift 16 = .ok (.invokestatic 68, 3) := by decide +kernel
theorem dX7_drift_19 : decode cX7_drift 19 = .ok (.ifCond .ne 5, 3) := by decide +kernel
theorem dX7_drift_22 : decode cX7_drift 22 = .ok (.iconst (-1), 1) := by decide +kernel
theorem dX7_drift_23 : decode cX7_drift 23 = .ok (.ireturn, 1) := by decide +kernel
theorem dX7_drift_24 : decode cX7_drift 24 = .ok (.aload_n 0, 1) := by decide +kernel
theorem dX7_drift_25 : decode cX7_drift 25 = .ok (.iconst 0, 1) := by decide +kernel
theorem dX7_drift_26 : decode cX7_drift 26 = .ok (.sipush 150, 3) := by decide +kernel
theorem dX7_drift_29 : decode cX7_drift 29 = .ok (.invokevirtual 271, 3) := by decide +kernel
theorem dX7_drift_32 : decode cX7_drift 32 = .ok (.iload_n 1, 1) := by decide +kernel
theorem dX7_drift_33 : decode cX7_drift 33 = .ok (.istore 4, 2) := by decide +kernel
theorem dX7_drift_35 : decode cX7_drift 35 = .ok (.iconst 0, 1) := by decide +kernel
theorem dX7_drift_36 : decode cX7_drift 36 = .ok (.istore 5, 2) := by decide +kernel
theorem dX7_drift_38 : decode cX7_drift 38 = .ok (.iconst 0, 1) := by decide +kernel
theorem dX7_drift_39 : decode cX7_drift 39 = .ok (.istore 6, 2) := by decide +kernel
theorem dX7_drift_41 : decode cX7_drift 41 = .ok (.iload 6, 2) := by decide +kernel
theorem dX7_drift_43 : decode cX7_drift 43 = .ok (.iload_n 2, 1) := by decide +kernel
theorem dX7_drift_44 : decode cX7_drift 44 = .ok (.if_icmp .ge 53, 3) := by decide +kernel
theorem dX7_drift_47 : decode cX7_drift 47 = .ok (.iload 4, 2) := by decide +kernel
theorem dX7_drift_49 : decode cX7_drift 49 = .ok (.ldc_w 274, 3) := by decide +kernel
theorem dX7_drift_52 : decode cX7_drift 52 = .ok (.imul, 1) := by decide +kernel
theorem dX7_drift_53 : decode cX7_drift 53 = .ok (.sipush 12345, 3) := by decide +kernel
theorem dX7_drift_56 : decode cX7_drift 56 = .ok (.iadd, 1) := by decide +kernel
theorem dX7_drift_57 : decode cX7_drift 57 = .ok (.istore 4, 2) := by decide +kernel
theorem dX7_drift_59 : decode cX7_drift 59 = .ok (.iload 5, 2) := by decide +kernel
theorem dX7_drift_61 : decode cX7_drift 61 = .ok (.aload_n 0, 1) := by decide +kernel
theorem dX7_drift_62 : decode cX7_drift 62 = .ok (.aload_n 0, 1) := by decide +kernel
theorem dX7_drift_63 : decode cX7_drift 63 = .ok (.iload 4, 2) := by decide +kernel
theorem dX7_drift_65 : decode cX7_drift 65 = .ok (.bipush 16, 2) := by decide +kernel
theorem dX7_drift_67 : decode cX7_drift 67 = .ok (.ishr, 1) := by decide +kernel
theorem dX7_drift_68 : decode cX7_drift 68 = .ok (.sipush 32767, 3) := by decide +kernel
theorem dX7_drift_71 : decode cX7_drift 71 = .ok (.iand, 1) := by decide +kernel
theorem dX7_drift_72 : decode cX7_drift 72 = .ok (.aload_n 0, 1) := by decide +kernel
theorem dX7_drift_73 : decode cX7_drift 73 = .ok (.iconst (-1), 1) := by decide +kernel
theorem dX7_drift_74 : decode cX7_drift 74 = .ok (.invokevirtual 275, 3) := by decide +kernel
theorem dX7_drift_77 : decode cX7_drift 77 = .ok (.iconst 1, 1) := by decide +kernel
theorem dX7_drift_78 : decode cX7_drift 78 = .ok (.iadd, 1) := by decide +kernel
theorem dX7_drift_79 : decode cX7_drift 79 = .ok (.irem, 1) := by decide +kernel
theorem dX7_drift_80 : decode cX7_drift 80 = .ok (.invokevirtual 275, 3) := by decide +kernel
theorem dX7_drift_83 : decode cX7_drift 83 = .ok (.bipush (-4), 2) := by decide +kernel
theorem dX7_drift_85 : decode cX7_drift 85 = .ok (.invokevirtual 217, 3) := by decide +kernel
theorem dX7_drift_88 : decode cX7_drift 88 = .ok (.iadd, 1) := by decide +kernel
theorem dX7_drift_89 : decode cX7_drift 89 = .ok (.istore 5, 2) := by decide +kernel
theorem dX7_drift_91 : decode cX7_drift 91 = .ok (.iinc 6 1, 3) := by decide +kernel
theorem dX7_drift_94 : decode cX7_drift 94 = .ok (.goto (-53), 3) := by decide +kernel
theorem dX7_drift_97 : decode cX7_drift 97 = .ok (.aload_n 0, 1) := by decide +kernel
theorem dX7_drift_98 : decode cX7_drift 98 = .ok (.invokevirtual 278, 3) := by decide +kernel
theorem dX7_drift_101 : decode cX7_drift 101 = .ok (.istore 6, 2) := by decide +kernel
theorem dX7_drift_103 : decode cX7_drift 103 = .ok (.aload_n 0, 1) := by decide +kernel
theorem dX7_drift_104 : decode cX7_drift 104 = .ok (.sipush 150, 3) := by decide +kernel
theorem dX7_drift_107 : decode cX7_drift 107 = .ok (.iconst 0, 1) := by decide +kernel
theorem dX7_drift_108 : decode cX7_drift 108 = .ok (.invokevirtual 271, 3) := by decide +kernel
theorem dX7_drift_111 : decode cX7_drift 111 = .ok (.iload_n 3, 1) := by decide +kernel
theorem dX7_drift_112 : decode cX7_drift 112 = .ok (.ifCond .ne 8, 3) := by decide +kernel
theorem dX7_drift_115 : decode cX7_drift 115 = .ok (.iload 5, 2) := by decide +kernel
theorem dX7_drift_117 : decode cX7_drift 117 = .ok (.goto 5, 3) := by decide +kernel
theorem dX7_drift_120 : decode cX7_drift 120 = .ok (.iload 6, 2) := by decide +kernel
theorem dX7_drift_122 : decode cX7_drift 122 = .ok (.ireturn, 1) := by decide +kernel
set_option maxHeartbeats 4000000 in
set_option maxRecDepth 100000 in
theorem c_X7_drift {l : Launch} {Y : ww_Y} {ad : Nat → Nat} {G : List ww_L} (o0 : Nat) (h0 : ww_at G o0 (ww_LModel o0)) (σ : ww_M) (p1 : Int32) (p2 : Int32) (p3 : Int32) : ww_Cn l Y ad G yX7_drift cX7_drift 7 (some .int) 5 [.ref (ad o0), .int p1, .int p2, .int p3] σ ((f_X7_drift σ o0 p1 p2 p3).bind ww_rw) := by
  refine ww_met (by decide +kernel) (Nat.le_of_ble_eq_true rfl) ?_
  intro X hC hR
  have hC : ww_C X l Y ad G 5 cX7_drift 7 RX7 := hC
  show ww_V X Y ad G 7 σ 0 [(0, .ref (ad o0)), (1, .int p1), (2, .int p2), (3, .int p3)] [] ((f_X7_drift σ o0 p1 p2 p3).bind ww_rw)
  have hJ97 : ∀ (σ : ww_M) (x5 : Int32), ww_V X Y ad G 7 σ 97 [(0, .ref (ad o0)), (3, .int p3), (5, .int x5)] [] ((f_X7_drift_j97 σ o0 p1 p2 p3 x5).bind ww_rw) := by
    intro σ x5
    unfold f_X7_drift_j97
    refine ww_aload_n (pc := 97) hC 0 rfl dX7_drift_97 rfl ?_
    refine ww_callVi (pc := 98) (st := []) (As := []) hC (c_X7_lostMany o0 h0 σ) mm_X7_lostMany mw_1273 (h0 0 _ rfl) rfl (by omega) (by decide) (Nat.le_of_ble_eq_true rfl) rfl dX7_drift_98 (fun v98 => ?_)
    refine ww_istore (pc := 101) (lv' := [(6, .int v98), (0, .ref (ad o0)), (3, .int p3), (5, .int x5)]) hC dX7_drift_101 (by decide) rfl ?_
    refine ww_aload_n (pc := 103) hC 1 rfl dX7_drift_103 rfl ?_
    refine ww_sipush (pc := 104) (v := 150) hC dX7_drift_104 rfl ?_
    refine ww_iconst (pc := 107) (v := 0) hC dX7_drift_107 rfl ?_
    refine ww_callVv (pc := 108) (st := []) (As := [.int 150, .int 0]) hC (c_X7_copies o0 h0 σ 150 0) mm_X7_copies mw_1264 (h0 0 _ rfl) rfl (by omega) (by decide) (Nat.le_of_ble_eq_true rfl) rfl dX7_drift_108 (fun v108 => ?_)
    refine ww_iload_n (pc := 111) hC 2 rfl dX7_drift_111 rfl ?_
    refine ww_if_ne (pc := 112) (tgt := 120) hC dX7_drift_112 (by decide) ?_ ?_
    · refine ww_iload (pc := 120) hC 0 rfl dX7_drift_120 ?_
      exact ww_ireturn (pc := 122) hC hR dX7_drift_122 rfl
    · refine ww_iload (pc := 115) hC 3 rfl dX7_drift_115 ?_
      refine ww_goto (pc := 117) (tgt := 122) hC dX7_drift_117 (by decide) ?_
      exact ww_ireturn (pc := 122) hC hR dX7_drift_122 rfl
  have hJ41 : ∀ (σ : ww_M) (x4 : Int32) (x5 : Int32) (x6 : Int32), ww_V X Y ad G 7 σ 41 [(0, .ref (ad o0)), (2, .int p2), (3, .int p3), (4, .int x4), (5, .int x5), (6, .int x6)] [] ((f_X7_drift_j41 σ o0 p1 p2 p3 x4 x5 x6).bind ww_rw) := by
    intro σ x4 x5 x6
    unfold f_X7_drift_j41
    refine ww_assoc ?_
    refine ww_loop (f := f_X7_drift_b41 o0 p1 p2 p3) (fun a41 => a41.2.2.2) (fun a41 => [(0, .ref (ad o0)), (2, .int p2), (3, .int p3), (4, .int a41.1), (5, .int a41.2.1), (6, .int a41.2.2.1)]) (fun b41 => b41.2) (fun b41 => [(0, .ref (ad o0)), (3, .int p3), (5, .int b41.1)]) 97 (fun b41 => ?_) (fun a41 KK41 hc41 hx41 => ?_) ww_F (x4, x5, x6, σ)
    · exact hJ97 b41.2 b41.1
    · unfold f_X7_drift_b41
      refine ww_iload (pc := 41) hC 5 rfl dX7_drift_41 ?_
      refine ww_iload_n (pc := 43) hC 1 rfl dX7_drift_43 rfl ?_
      refine ww_icmp_ge (pc := 44) (tgt := 97) hC dX7_drift_44 (by decide) ?_ ?_
      · refine ww_lv [0, 2, 4] rfl ?_
        exact hx41 (a41.2.1, a41.2.2.2)
      · refine ww_iload (pc := 47) hC 3 rfl dX7_drift_47 ?_
        refine ww_ldcw (pc := 49) hC dX7_drift_49 mw_1268 ?_
        refine ww_imul (pc := 52) hC dX7_drift_52 ?_
        refine ww_sipush (pc := 53) (v := 12345) hC dX7_drift_53 rfl ?_
        refine ww_iadd (pc := 56) hC dX7_drift_56 ?_
        refine ww_istore (pc := 57) (lv' := [(4, .int ((a41.1 * 1103515245) + 12345)), (0, .ref (ad o0)), (2, .int p2), (3, .int p3), (5, .int a41.2.1), (6, .int a41.2.2.1)]) hC dX7_drift_57 (by decide) rfl ?_
        refine ww_iload (pc := 59) hC 4 rfl dX7_drift_59 ?_
        refine ww_aload_n (pc := 61) hC 1 rfl dX7_drift_61 rfl ?_
        refine ww_aload_n (pc := 62) hC 1 rfl dX7_drift_62 rfl ?_
        refine ww_iload (pc := 63) hC 0 rfl dX7_drift_63 ?_
        refine ww_bipush (pc := 65) (v := 16) hC dX7_drift_65 rfl ?_
        refine ww_ishr (pc := 67) hC dX7_drift_67 ?_
        refine ww_sipush (pc := 68) (v := 32767) hC dX7_drift_68 rfl ?_
        refine ww_iand (pc := 71) hC dX7_drift_71 ?_
        refine ww_aload_n (pc := 72) hC 1 rfl dX7_drift_72 rfl ?_
        refine ww_iconst (pc := 73) (v := (-1)) hC dX7_drift_73 rfl ?_
        refine ww_callVi (pc := 74) (st := [.int ((ww_shr ((a41.1 * 1103515245) + 12345) 16) &&& 32767), .ref (ad o0), .ref (ad o0), .int a41.2.1]) (As := [.int (-1)]) hC (c_X7_partBy o0 h0 a41.2.2.2 (-1)) mm_X7_partBy mw_1269 (h0 0 _ rfl) rfl (by omega) (by decide) (Nat.le_of_ble_eq_true rfl) rfl dX7_drift_74 (fun v74 => ?_)
        refine ww_iconst (pc := 77) (v := 1) hC dX7_drift_77 rfl ?_
        refine ww_iadd (pc := 78) hC dX7_drift_78 ?_
        refine ww_irem (pc := 79) hC dX7_drift_79 ?_
        refine ww_callVi (pc := 80) (st := [.ref (ad o0), .int a41.2.1]) (As := [.int (ww_rem ((ww_shr ((a41.1 * 1103515245) + 12345) 16) &&& 32767) (v74 + 1))]) hC (c_X7_partBy o0 h0 a41.2.2.2 (ww_rem ((ww_shr ((a41.1 * 1103515245) + 12345) 16) &&& 32767) (v74 + 1))) mm_X7_partBy mw_1269 (h0 0 _ rfl) rfl (by omega) (by decide) (Nat.le_of_ble_eq_true rfl) rfl dX7_drift_80 (fun v80 => ?_)
        refine ww_bipush (pc := 83) (v := (-4)) hC dX7_drift_83 rfl ?_
        refine ww_callVw (pc := 85) (st := [.int a41.2.1]) (As := [.int v80, .int (-4)]) hC (c_X7_hourGoes o0 h0 a41.2.2.2 v80 (-4)) mm_X7_hourGoes mw_1156 (h0 0 _ rfl) rfl (by omega) (by decide) (Nat.le_of_ble_eq_true rfl) rfl dX7_drift_85 (fun v85 => ?_)
        refine ww_iadd (pc := 88) hC dX7_drift_88 ?_
        refine ww_istore (pc := 89) (lv' := [(5, .int (a41.2.1 + v85.1)), (4, .int ((a41.1 * 1103515245) + 12345)), (0, .ref (ad o0)), (2, .int p2), (3, .int p3), (6, .int a41.2.2.1)]) hC dX7_drift_89 (by decide) rfl ?_
        refine ww_iinc (pc := 91) (v := a41.2.2.1 + 1) (lv' := [(6, .int (a41.2.2.1 + 1)), (5, .int (a41.2.1 + v85.1)), (4, .int ((a41.1 * 1103515245) + 12345)), (0, .ref (ad o0)), (2, .int p2), (3, .int p3)]) hC 5 rfl dX7_drift_91 rfl (by decide) rfl ?_
        refine ww_goto (pc := 94) (tgt := 41) hC dX7_drift_94 (by decide) ?_
        refine ww_lv [3, 4, 5, 2, 1, 0] rfl ?_
        exact hc41 ((a41.1 * 1103515245) + 12345, a41.2.1 + v85.1, a41.2.2.1 + 1, v85.2)
  unfold f_X7_drift
  refine ww_iload_n (pc := 0) hC 2 rfl dX7_drift_0 rfl ?_
  refine ww_i2l (pc := 1) hC dX7_drift_1 ?_
  refine ww_lconst (pc := 2) (v := 1) hC dX7_drift_2 rfl ?_
  refine ww_ldc2 (pc := 3) hC dX7_drift_3 mw_1263 ?_
  refine ww_callSi (pc := 6) (st := []) (As := [.long p2.toInt64, .long 1, .long 60]) hC (c_X7_in σ p2.toInt64 1 60) mm_X7_in mw_991 (by omega) (by decide) (Nat.le_of_ble_eq_true rfl) rfl dX7_drift_6 (fun v6 => ?_)
  refine ww_if_eq (pc := 9) (tgt := 22) hC dX7_drift_9 (by decide) ?_ ?_
  · refine ww_iconst (pc := 22) (v := (-1)) hC dX7_drift_22 rfl ?_
    exact ww_ireturn (pc := 23) hC hR dX7_drift_23 rfl
  · refine ww_iload_n (pc := 12) hC 3 rfl dX7_drift_12 rfl ?_
    refine ww_i2l (pc := 13) hC dX7_drift_13 ?_
    refine ww_lconst (pc := 14) (v := 0) hC dX7_drift_14 rfl ?_
    refine ww_lconst (pc := 15) (v := 1) hC dX7_drift_15 rfl ?_
    refine ww_callSi (pc := 16) (st := []) (As := [.long p3.toInt64, .long 0, .long 1]) hC (c_X7_in σ p3.toInt64 0 1) mm_X7_in mw_991 (by omega) (by decide) (Nat.le_of_ble_eq_true rfl) rfl dX7_drift_16 (fun v16 => ?_)
    refine ww_if_ne (pc := 19) (tgt := 24) hC dX7_drift_19 (by decide) ?_ ?_
    · refine ww_aload_n (pc := 24) hC 0 rfl dX7_drift_24 rfl ?_
      refine ww_iconst (pc := 25) (v := 0) hC dX7_drift_25 rfl ?_
      refine ww_sipush (pc := 26) (v := 150) hC dX7_drift_26 rfl ?_
      refine ww_callVv (pc := 29) (st := []) (As := [.int 0, .int 150]) hC (c_X7_copies o0 h0 σ 0 150) mm_X7_copies mw_1264 (h0 0 _ rfl) rfl (by omega) (by decide) (Nat.le_of_ble_eq_true rfl) rfl dX7_drift_29 (fun v29 => ?_)
      refine ww_iload_n (pc := 32) hC 1 rfl dX7_drift_32 rfl ?_
      refine ww_istore (pc := 33) (lv' := [(4, .int p1), (0, .ref (ad o0)), (1, .int p1), (2, .int p2), (3, .int p3)]) hC dX7_drift_33 (by decide) rfl ?_
      refine ww_iconst (pc := 35) (v := 0) hC dX7_drift_35 rfl ?_
      refine ww_istore (pc := 36) (lv' := [(5, .int 0), (4, .int p1), (0, .ref (ad o0)), (1, .int p1), (2, .int p2), (3, .int p3)]) hC dX7_drift_36 (by decide) rfl ?_
      refine ww_iconst (pc := 38) (v := 0) hC dX7_drift_38 rfl ?_
      refine ww_istore (pc := 39) (lv' := [(6, .int 0), (5, .int 0), (4, .int p1), (0, .ref (ad o0)), (1, .int p1), (2, .int p2), (3, .int p3)]) hC dX7_drift_39 (by decide) rfl ?_
      refine ww_lv [3, 5, 6, 2, 1, 0] rfl ?_
      exact hJ41 v29 p1 0 0
    · refine ww_iconst (pc := 22) (v := (-1)) hC dX7_drift_22 rfl ?_
      exact ww_ireturn (pc := 23) hC hR dX7_drift_23 rfl
theorem dX7_keep_0 : decode cX7_keep 0 = .ok (.iload_n 1, 1) := by decide +kernel
theorem dX7_keep_1 : decode cX7_keep 1 = .ok (.i2l, 1) := by decide +kernel
theorem dX7_keep_2 : decode cX7_keep 2 = .ok (.lconst 0, 1) := by decide +kernel
theorem dX7_keep_3 : decode cX7_keep 3 = .ok (.lconst 1, 1) := by decide +kernel
theorem dX7_keep_4 : decode cX7_keep 4 = .ok (.invokestatic 68, 3) := by decide +kernel
theorem dX7_keep_7 : decode cX7_keep 7 = .ok (.ifCond .ne 5, 3) := by decide +kernel
theorem dX7_keep_10 : decode cX7_keep 10 = .ok (.iconst (-1), 1) := by decide +kernel
theorem dX7_keep_11 : decode cX7_keep 11 = .ok (.ireturn, 1) := by decide +kernel
theorem dX7_keep_12 : decode cX7_keep 12 = .ok (.aload_n 0, 1) := by decide +kernel
theorem dX7_keep_13 : decode cX7_keep 13 = .ok (.iconst 0, 1) := by decide +kernel
theorem dX7_keep_14 : decode cX7_keep 14 = .ok (.bipush 50, 2) := by decide +kernel
theorem dX7_keep_16 : decode cX7_keep 16 = .ok (.iload_n 1, 1) := by decide +kernel
theorem dX7_keep_17 : decode cX7_keep 17 = .ok (.iconst 1, 1) := by decide +kernel
theorem dX7_keep_18 : decode cX7_keep 18 = .ok (.iadd, 1) := by decide +kernel
theorem dX7_keep_19 : decode cX7_keep 19 = .ok (.imul, 1) := by decide +kernel
theorem dX7_keep_20 : decode cX7_keep 20 = .ok (.invokevirtual 271, 3) := by decide +kernel
theorem dX7_keep_23 : decode cX7_keep 23 = .ok (.aload_n 0, 1) := by decide +kernel
theorem dX7_keep_24 : decode cX7_keep 24 = .ok (.getfield 53, 3) := by decide +kernel
theorem dX7_keep_27 : decode cX7_keep 27 = .ok (.iload_n 1, 1) := by decide +kernel
theorem dX7_keep_28 : decode cX7_keep 28 = .ok (.baload, 1) := by decide +kernel
theorem dX7_keep_29 : decode cX7_keep 29 = .ok (.ifCond .eq 7, 3) := by decide +kernel
theorem dX7_keep_32 : decode cX7_keep 32 = .ok (.iconst 1, 1) := by decide +kernel
theorem dX7_keep_33 : decode cX7_keep 33 = .ok (.goto 4, 3) := by decide +kernel
theorem dX7_keep_36 : decode cX7_keep 36 = .ok (.iconst 0, 1) := by decide +kernel
theorem dX7_keep_37 : decode cX7_keep 37 = .ok (.istore_n 2, 1) := by decide +kernel
theorem dX7_keep_38 : decode cX7_keep 38 = .ok (.aload_n 0, 1) := by decide +kernel
theorem dX7_keep_39 : decode cX7_keep 39 = .ok (.getfield 53, 3) := by decide +kernel
theorem dX7_keep_42 : decode cX7_keep 42 = .ok (.iload_n 1, 1) := by decide +kernel
theorem dX7_keep_43 : decode cX7_keep 43 = .ok (.iconst 1, 1) := by decide +kernel
theorem dX7_keep_44 : decode cX7_keep 44 = .ok (.bastore, 1) := by decide +kernel
theorem dX7_keep_45 : decode cX7_keep 45 = .ok (.iload_n 2, 1) := by decide +kernel
theorem dX7_keep_46 : decode cX7_keep 46 = .ok (.ireturn, 1) := by decide +kernel
set_option maxHeartbeats 4000000 in
set_option maxRecDepth 100000 in
theorem c_X7_keep {l : Launch} {Y : ww_Y} {ad : Nat → Nat} {G : List ww_L} (o0 : Nat) (h0 : ww_at G o0 (ww_LModel o0)) (σ : ww_M) (p1 : Int32) : ww_Cn l Y ad G yX7_keep cX7_keep 3 (some .int) 2 [.ref (ad o0), .int p1] σ ((f_X7_keep σ o0 p1).bind ww_rw) := by
  refine ww_met (by decide +kernel) (Nat.le_of_ble_eq_true rfl) ?_
  intro X hC hR
  have hC : ww_C X l Y ad G 2 cX7_keep 3 RX7 := hC
  show ww_V X Y ad G 3 σ 0 [(0, .ref (ad o0)), (1, .int p1)] [] ((f_X7_keep σ o0 p1).bind ww_rw)
  unfold f_X7_keep
  refine ww_iload_n (pc := 0) hC 1 rfl dX7_keep_0 rfl ?_
  refine ww_i2l (pc := 1) hC dX7_keep_1 ?_
  refine ww_lconst (pc := 2) (v := 0) hC dX7_keep_2 rfl ?_
  refine ww_lconst (pc := 3) (v := 1) hC dX7_keep_3 rfl ?_
  refine ww_callSi (pc := 4) (st := []) (As := [.long p1.toInt64, .long 0, .long 1]) hC (c_X7_in σ p1.toInt64 0 1) mm_X7_in mw_991 (by omega) (by decide) (Nat.le_of_ble_eq_true rfl) rfl dX7_keep_4 (fun v4 => ?_)
  refine ww_if_ne (pc := 7) (tgt := 12) hC dX7_keep_7 (by decide) ?_ ?_
  · refine ww_aload_n (pc := 12) hC 0 rfl dX7_keep_12 rfl ?_
    refine ww_iconst (pc := 13) (v := 0) hC dX7_keep_13 rfl ?_
    refine ww_bipush (pc := 14) (v := 50) hC dX7_keep_14 rfl ?_
    refine ww_iload_n (pc := 16) hC 1 rfl dX7_keep_16 rfl ?_
    refine ww_iconst (pc := 17) (v := 1) hC dX7_keep_17 rfl ?_
    refine ww_iadd (pc := 18) hC dX7_keep_18 ?_
    refine ww_imul (pc := 19) hC dX7_keep_19 ?_
    refine ww_callVv (pc := 20) (st := []) (As := [.int 0, .int (50 * (p1 + 1))]) hC (c_X7_copies o0 h0 σ 0 (50 * (p1 + 1))) mm_X7_copies mw_1264 (h0 0 _ rfl) rfl (by omega) (by decide) (Nat.le_of_ble_eq_true rfl) rfl dX7_keep_20 (fun v20 => ?_)
    refine ww_aload_n (pc := 23) hC 0 rfl dX7_keep_23 rfl ?_
    refine ww_getr (pc := 24) (Cl := RX7) (T := TX7) (N := 36) (j := 31) (ref := RX7) hC (h0 0 _ rfl) rfl inT_X7 (by decide) mw_907 rfl rfl dX7_keep_24 ?_
    refine ww_iload_n (pc := 27) hC 1 rfl dX7_keep_27 rfl ?_
    refine ww_zald (pc := 28) hC (h0 14 _ rfl) dX7_keep_28 ?_
    refine ww_if_eq (pc := 29) (tgt := 36) hC dX7_keep_29 (by decide) ?_ ?_
    · refine ww_iconst (pc := 36) (v := 0) hC dX7_keep_36 rfl ?_
      refine ww_istore_n (pc := 37) (lv' := [(2, .int 0), (0, .ref (ad o0)), (1, .int p1)]) hC dX7_keep_37 rfl (by decide) rfl ?_
      refine ww_aload_n (pc := 38) hC 1 rfl dX7_keep_38 rfl ?_
      refine ww_getr (pc := 39) (Cl := RX7) (T := TX7) (N := 36) (j := 31) (ref := RX7) hC (h0 0 _ rfl) rfl inT_X7 (by decide) mw_907 rfl rfl dX7_keep_39 ?_
      refine ww_iload_n (pc := 42) hC 2 rfl dX7_keep_42 rfl ?_
      refine ww_iconst (pc := 43) (v := 1) hC dX7_keep_43 rfl ?_
      refine ww_zast (pc := 44) hC (h0 14 _ rfl) dX7_keep_44 ?_
      refine ww_iload_n (pc := 45) hC 0 rfl dX7_keep_45 rfl ?_
      exact ww_ireturn (pc := 46) hC hR dX7_keep_46 rfl
    · refine ww_iconst (pc := 32) (v := 1) hC dX7_keep_32 rfl ?_
      refine ww_goto (pc := 33) (tgt := 37) hC dX7_keep_33 (by decide) ?_
      refine ww_istore_n (pc := 37) (lv' := [(2, .int 1), (0, .ref (ad o0)), (1, .int p1)]) hC dX7_keep_37 rfl (by decide) rfl ?_
      refine ww_aload_n (pc := 38) hC 1 rfl dX7_keep_38 rfl ?_
      refine ww_getr (pc := 39) (Cl := RX7) (T := TX7) (N := 36) (j := 31) (ref := RX7) hC (h0 0 _ rfl) rfl inT_X7 (by decide) mw_907 rfl rfl dX7_keep_39 ?_
      refine ww_iload_n (pc := 42) hC 2 rfl dX7_keep_42 rfl ?_
      refine ww_iconst (pc := 43) (v := 1) hC dX7_keep_43 rfl ?_
      refine ww_zast (pc := 44) hC (h0 14 _ rfl) dX7_keep_44 ?_
      refine ww_iload_n (pc := 45) hC 0 rfl dX7_keep_45 rfl ?_
      exact ww_ireturn (pc := 46) hC hR dX7_keep_46 rfl
  · refine ww_iconst (pc := 10) (v := (-1)) hC dX7_keep_10 rfl ?_
    exact ww_ireturn (pc := 11) hC hR dX7_keep_11 rfl
theorem dX7_back_0 : decode cX7_back 0 = .ok (.iload_n 1, 1) := by decide +kernel
theorem dX7_back_1 : decode cX7_back 1 = .ok (.i2l, 1) := by decide +kernel
theorem dX7_back_2 : decode cX7_back 2 = .ok (.lconst 0, 1) := by decide +kernel
theorem dX7_back_3 : decode cX7_back 3 = .ok (.lconst 1, 1) := by decide +kernel
theorem dX7_back_4 : decode cX7_back 4 = .ok (.invokestatic 68, 3) := by decide +kernel
theorem dX7_back_7 : decode cX7_back 7 = .ok (.ifCond .ne 5, 3) := by decide +kernel
theorem dX7_back_10 : decode cX7_back 10 = .ok (.iconst (-1), 1) := by decide +kernel
theorem dX7_back_11 : decode cX7_back 11 = .ok (.ireturn, 1) := by decide +kernel
theorem dX7_back_12 : decode cX7_back 12 = .ok (.aload_n 0, 1) := by decide +kernel
theorem dX7_back_13 : decode cX7_back 13 = .ok (.getfield 53, 3) := by decide +kernel
theorem dX7_back_16 : decode cX7_back 16 = .ok (.iload_n 1, 1) := by decide +kernel
theorem dX7_back_17 : decode cX7_back 17 = .ok (.baload, 1) := by decide +kernel
theorem dX7_back_18 : decode cX7_back 18 = .ok (.ifCond .ne 6, 3) := by decide +kernel
theorem dX7_back_21 : decode cX7_back 21 = .ok (.bipush (-2), 2) := by decide +kernel
theorem dX7_back_23 : decode cX7_back 23 = .ok (.ireturn, 1) := by decide +kernel
theorem dX7_back_24 : decode cX7_back 24 = .ok (.aload_n 0, 1) := by decide +kernel
theorem dX7_back_25 : decode cX7_back 25 = .ok (.bipush 50, 2) := by decide +kernel
theorem dX7_back_27 : decode cX7_back 27 = .ok (.iload_n 1, 1) := by decide +kernel
theorem dX7_back_28 : decode cX7_back 28 = .ok (.iconst 1, 1) := by decide +kernel
theorem dX7_back_29 : decode cX7_back 29 = .ok (.iadd, 1) := by decide +kernel
theorem dX7_back_30 : decode cX7_back 30 = .ok (.imul, 1) := by decide +kernel
theorem dX7_back_31 : decode cX7_back 31 = .ok (.iconst 0, 1) := by decide +kernel
theorem dX7_back_32 : decode cX7_back 32 = .ok (.invokevirtual 271, 3) := by decide +kernel
theorem dX7_back_35 : decode cX7_back 35 = .ok (.aload_n 0, 1) := by decide +kernel
theorem dX7_back_36 : decode cX7_back 36 = .ok (.getfield 7, 3) := by decide +kernel
theorem dX7_back_39 : decode cX7_back 39 = .ok (.bipush 45, 2) := by decide +kernel
theorem dX7_back_41 : decode cX7_back 41 = .ok (.iaload, 1) := by decide +kernel
theorem dX7_back_42 : decode cX7_back 42 = .ok (.ireturn, 1) := by decide +kernel
set_option maxHeartbeats 4000000 in
set_option maxRecDepth 100000 in
theorem c_X7_back {l : Launch} {Y : ww_Y} {ad : Nat → Nat} {G : List ww_L} (o0 : Nat) (h0 : ww_at G o0 (ww_LModel o0)) (σ : ww_M) (p1 : Int32) : ww_Cn l Y ad G yX7_back cX7_back 2 (some .int) 2 [.ref (ad o0), .int p1] σ ((f_X7_back σ o0 p1).bind ww_rw) := by
  refine ww_met (by decide +kernel) (Nat.le_of_ble_eq_true rfl) ?_
  intro X hC hR
  have hC : ww_C X l Y ad G 2 cX7_back 2 RX7 := hC
  show ww_V X Y ad G 2 σ 0 [(0, .ref (ad o0)), (1, .int p1)] [] ((f_X7_back σ o0 p1).bind ww_rw)
  unfold f_X7_back
  refine ww_iload_n (pc := 0) hC 1 rfl dX7_back_0 rfl ?_
  refine ww_i2l (pc := 1) hC dX7_back_1 ?_
  refine ww_lconst (pc := 2) (v := 0) hC dX7_back_2 rfl ?_
  refine ww_lconst (pc := 3) (v := 1) hC dX7_back_3 rfl ?_
  refine ww_callSi (pc := 4) (st := []) (As := [.long p1.toInt64, .long 0, .long 1]) hC (c_X7_in σ p1.toInt64 0 1) mm_X7_in mw_991 (by omega) (by decide) (Nat.le_of_ble_eq_true rfl) rfl dX7_back_4 (fun v4 => ?_)
  refine ww_if_ne (pc := 7) (tgt := 12) hC dX7_back_7 (by decide) ?_ ?_
  · refine ww_aload_n (pc := 12) hC 0 rfl dX7_back_12 rfl ?_
    refine ww_getr (pc := 13) (Cl := RX7) (T := TX7) (N := 36) (j := 31) (ref := RX7) hC (h0 0 _ rfl) rfl inT_X7 (by decide) mw_907 rfl rfl dX7_back_13 ?_
    refine ww_iload_n (pc := 16) hC 1 rfl dX7_back_16 rfl ?_
    refine ww_zald (pc := 17) hC (h0 14 _ rfl) dX7_back_17 ?_
    refine ww_if_ne (pc := 18) (tgt := 24) hC dX7_back_18 (by decide) ?_ ?_
    · refine ww_aload_n (pc := 24) hC 0 rfl dX7_back_24 rfl ?_
      refine ww_bipush (pc := 25) (v := 50) hC dX7_back_25 rfl ?_
      refine ww_iload_n (pc := 27) hC 1 rfl dX7_back_27 rfl ?_
      refine ww_iconst (pc := 28) (v := 1) hC dX7_back_28 rfl ?_
      refine ww_iadd (pc := 29) hC dX7_back_29 ?_
      refine ww_imul (pc := 30) hC dX7_back_30 ?_
      refine ww_iconst (pc := 31) (v := 0) hC dX7_back_31 rfl ?_
      refine ww_callVv (pc := 32) (st := []) (As := [.int (50 * (p1 + 1)), .int 0]) hC (c_X7_copies o0 h0 σ (50 * (p1 + 1)) 0) mm_X7_copies mw_1264 (h0 0 _ rfl) rfl (by omega) (by decide) (Nat.le_of_ble_eq_true rfl) rfl dX7_back_32 (fun v32 => ?_)
      refine ww_aload_n (pc := 35) hC 0 rfl dX7_back_35 rfl ?_
      refine ww_getr (pc := 36) (Cl := RX7) (T := TX7) (N := 36) (j := 0) (ref := RX7) hC (h0 0 _ rfl) rfl inT_X7 (by decide) mw_876 rfl rfl dX7_back_36 ?_
      refine ww_bipush (pc := 39) (v := 45) hC dX7_back_39 rfl ?_
      refine ww_iald_c (pc := 41) (j := 45) hC (h0 1 _ rfl) (by decide) rfl dX7_back_41 ?_
      exact ww_ireturn (pc := 42) hC hR dX7_back_42 rfl
    · refine ww_bipush (pc := 21) (v := (-2)) hC dX7_back_21 rfl ?_
      exact ww_ireturn (pc := 23) hC hR dX7_back_23 rfl
  · refine ww_iconst (pc := 10) (v := (-1)) hC dX7_back_10 rfl ?_
    exact ww_ireturn (pc := 11) hC hR dX7_back_11 rfl
theorem dX7_sheet_0 : decode cX7_sheet 0 = .ok (.iload_n 1, 1) := by decide +kernel
theorem dX7_sheet_1 : decode cX7_sheet 1 = .ok (.i2l, 1) := by decide +kernel
theorem dX7_sheet_2 : decode cX7_sheet 2 = .ok (.lconst 0, 1) := by decide +kernel
theorem dX7_sheet_3 : decode cX7_sheet 3 = .ok (.ldc2_w 210, 3) := by decide +kernel
theorem dX7_sheet_6 : decode cX7_sheet 6 = .ok (.invokestatic 68, 3) := by decide +kernel
theorem dX7_sheet_9 : decode cX7_sheet 9 = .ok (.ifCond .eq 21, 3) := by decide +kernel
theorem dX7_sheet_12 : decode cX7_sheet 12 = .ok (.iload_n 2, 1) := by decide +kernel
theorem dX7_sheet_13 : decode cX7_sheet 13 = .ok (.i2l, 1) := by decide +kernel
theorem dX7_sheet_14 : decode cX7_sheet 14 = .ok (.lconst 0, 1) := by decide +kernel
theorem dX7_sheet_15 : decode cX7_sheet 15 = .ok (.ldc2_w 128, 3) := by decide +kernel
theorem dX7_sheet_18 : decode cX7_sheet 18 = .ok (.invokestatic 68, 3) := by decide +kernel
theorem dX7_sheet_21 : decode cX7_sheet 21 = .ok (.ifCond .eq 9, 3) := by decide +kernel
theorem dX7_sheet_24 : decode cX7_sheet 24 = .ok (.iload_n 3, 1) := by decide +kernel
theorem dX7_sheet_25 : decode cX7_sheet 25 = .ok (.bipush 40, 2) := by decide +kernel
theorem dX7_sheet_27 : decode cX7_sheet 27 = .ok (.if_icmp .le 5, 3) := by decide +kernel
theorem dX7_sheet_30 : decode cX7_sheet 30 = .ok (.iconst (-1), 1) := by decide +kernel
theorem dX7_sheet_31 : decode cX7_sheet 31 = .ok (.ireturn, 1) := by decide +kernel
theorem dX7_sheet_32 : decode cX7_sheet 32 = .ok (.iload_n 3, 1) := by decide +kernel
theorem dX7_sheet_33 : decode cX7_sheet 33 = .ok (.ifCond .ge 6, 3) := by decide +kernel
theorem dX7_sheet_36 : decode cX7_sheet 36 = .ok (.bipush (-14), 2) := by decide +kernel
theorem dX7_sheet_38 : decode cX7_sheet 38 = .ok (.ireturn, 1) := by decide +kernel
theorem dX7_sheet_39 : decode cX7_sheet 39 = .ok (.aload_n 0, 1) := by decide +kernel
theorem dX7_sheet_40 : decode cX7_sheet 40 = .ok (.getfield 57, 3) := by decide +kernel
theorem dX7_sheet_43 : decode cX7_sheet 43 = .ok (.iload_n 1, 1) := by decide +kernel
theorem dX7_sheet_44 : decode cX7_sheet 44 = .ok (.iload_n 2, 1) := by decide +kernel
theorem dX7_sheet_45 : decode cX7_sheet 45 = .ok (.iastore, 1) := by decide +kernel
theorem dX7_sheet_46 : decode cX7_sheet 46 = .ok (.aload_n 0, 1) := by decide +kernel
theorem dX7_sheet_47 : decode cX7_sheet 47 = .ok (.getfield 60, 3) := by decide +kernel
theorem dX7_sheet_50 : decode cX7_sheet 50 = .ok (.iload_n 1, 1) := by decide +kernel
theorem dX7_sheet_51 : decode cX7_sheet 51 = .ok (.iload_n 3, 1) := by decide +kernel
theorem dX7_sheet_52 : decode cX7_sheet 52 = .ok (.iastore, 1) := by decide +kernel
theorem dX7_sheet_53 : decode cX7_sheet 53 = .ok (.iconst 0, 1) := by decide +kernel
theorem dX7_sheet_54 : decode cX7_sheet 54 = .ok (.istore 4, 2) := by decide +kernel
theorem dX7_sheet_56 : decode cX7_sheet 56 = .ok (.iload 4, 2) := by decide +kernel
theorem dX7_sheet_58 : decode cX7_sheet 58 = .ok (.bipush 40, 2) := by decide +kernel
theorem dX7_sheet_60 : decode cX7_sheet 60 = .ok (.if_icmp .ge 22, 3) := by decide +kernel
theorem dX7_sheet_63 : decode cX7_sheet 63 = .ok (.aload_n 0, 1) := by decide +kernel
theorem dX7_sheet_64 : decode cX7_sheet 64 = .ok (.getfield 63, 3) := by decide +kernel
theorem dX7_sheet_67 : decode cX7_sheet 67 = .ok (.bipush 40, 2) := by decide +kernel
theorem dX7_sheet_69 : decode cX7_sheet 69 = .ok (.iload_n 1, 1) := by decide +kernel
theorem dX7_sheet_70 : decode cX7_sheet 70 = .ok (.imul, 1) := by decide +kernel
theorem dX7_sheet_71 : decode cX7_sheet 71 = .ok (.iload 4, 2) := by decide +kernel
theorem dX7_sheet_73 : decode cX7_sheet 73 = .ok (.iadd, 1) := by decide +kernel
theorem dX7_sheet_74 : decode cX7_sheet 74 = .ok (.iconst 0, 1) := by decide +kernel
theorem dX7_sheet_75 : decode cX7_sheet 75 = .ok (.iastore, 1) := by decide +kernel
theorem dX7_sheet_76 : decode cX7_sheet 76 = .ok (.iinc 4 1, 3) := by decide +kernel
theorem dX7_sheet_79 : decode cX7_sheet 79 = .ok (.goto (-23), 3) := by decide +kernel
theorem dX7_sheet_82 : decode cX7_sheet 82 = .ok (.iconst 1, 1) := by decide +kernel
theorem dX7_sheet_83 : decode cX7_sheet 83 = .ok (.ireturn, 1) := by decide +kernel
set_option maxHeartbeats 4000000 in
set_option maxRecDepth 100000 in
theorem c_X7_sheet {l : Launch} {Y : ww_Y} {ad : Nat → Nat} {G : List ww_L} (o0 : Nat) (h0 : ww_at G o0 (ww_LModel o0)) (σ : ww_M) (p1 : Int32) (p2 : Int32) (p3 : Int32) : ww_Cn l Y ad G yX7_sheet cX7_sheet 5 (some .int) 2 [.ref (ad o0), .int p1, .int p2, .int p3] σ ((f_X7_sheet σ o0 p1 p2 p3).bind ww_rw) := by
  refine ww_met (by decide +kernel) (Nat.le_of_ble_eq_true rfl) ?_
  intro X hC hR
  have hC : ww_C X l Y ad G 2 cX7_sheet 5 RX7 := hC
  show ww_V X Y ad G 5 σ 0 [(0, .ref (ad o0)), (1, .int p1), (2, .int p2), (3, .int p3)] [] ((f_X7_sheet σ o0 p1 p2 p3).bind ww_rw)
  have hJ82 : ∀ (σ : ww_M), ww_V X Y ad G 5 σ 82 [] [] ((f_X7_sheet_j82 σ o0 p1 p2 p3).bind ww_rw) := by
    intro σ
    unfold f_X7_sheet_j82
    refine ww_iconst (pc := 82) (v := 1) hC dX7_sheet_82 rfl ?_
    exact ww_ireturn (pc := 83) hC hR dX7_sheet_83 rfl
  have hJ56 : ∀ (σ : ww_M) (x4 : Int32), ww_V X Y ad G 5 σ 56 [(0, .ref (ad o0)), (1, .int p1), (4, .int x4)] [] ((f_X7_sheet_j56 σ o0 p1 p2 p3 x4).bind ww_rw) := by
    intro σ x4
    unfold f_X7_sheet_j56
    refine ww_assoc ?_
    refine ww_loop (f := f_X7_sheet_b56 o0 p1 p2 p3) (fun a56 => a56.2) (fun a56 => [(0, .ref (ad o0)), (1, .int p1), (4, .int a56.1)]) (fun b56 => b56) (fun b56 => []) 82 (fun b56 => ?_) (fun a56 KK56 hc56 hx56 => ?_) ww_F (x4, σ)
    · exact hJ82 b56
    · unfold f_X7_sheet_b56
      refine ww_iload (pc := 56) hC 2 rfl dX7_sheet_56 ?_
      refine ww_bipush (pc := 58) (v := 40) hC dX7_sheet_58 rfl ?_
      refine ww_icmp_ge (pc := 60) (tgt := 82) hC dX7_sheet_60 (by decide) ?_ ?_
      · refine ww_lv [] rfl ?_
        exact hx56 a56.2
      · refine ww_aload_n (pc := 63) hC 0 rfl dX7_sheet_63 rfl ?_
        refine ww_getr (pc := 64) (Cl := RX7) (T := TX7) (N := 36) (j := 34) (ref := RX7) hC (h0 0 _ rfl) rfl inT_X7 (by decide) mw_910 rfl rfl dX7_sheet_64 ?_
        refine ww_bipush (pc := 67) (v := 40) hC dX7_sheet_67 rfl ?_
        refine ww_iload_n (pc := 69) hC 1 rfl dX7_sheet_69 rfl ?_
        refine ww_imul (pc := 70) hC dX7_sheet_70 ?_
        refine ww_iload (pc := 71) hC 2 rfl dX7_sheet_71 ?_
        refine ww_iadd (pc := 73) hC dX7_sheet_73 ?_
        refine ww_iconst (pc := 74) (v := 0) hC dX7_sheet_74 rfl ?_
        refine ww_iast (pc := 75) hC (h0 17 _ rfl) dX7_sheet_75 ?_
        refine ww_iinc (pc := 76) (v := a56.1 + 1) (lv' := [(4, .int (a56.1 + 1)), (0, .ref (ad o0)), (1, .int p1)]) hC 2 rfl dX7_sheet_76 rfl (by decide) rfl ?_
        refine ww_goto (pc := 79) (tgt := 56) hC dX7_sheet_79 (by decide) ?_
        refine ww_lv [1, 2, 0] rfl ?_
        exact hc56 (a56.1 + 1, ww_up a56.2 (o0 + 17) (ww_ix ((40 * p1) + a56.1)) 0)
  unfold f_X7_sheet
  refine ww_iload_n (pc := 0) hC 1 rfl dX7_sheet_0 rfl ?_
  refine ww_i2l (pc := 1) hC dX7_sheet_1 ?_
  refine ww_lconst (pc := 2) (v := 0) hC dX7_sheet_2 rfl ?_
  refine ww_ldc2 (pc := 3) hC dX7_sheet_3 mw_1130 ?_
  refine ww_callSi (pc := 6) (st := []) (As := [.long p1.toInt64, .long 0, .long 3]) hC (c_X7_in σ p1.toInt64 0 3) mm_X7_in mw_991 (by omega) (by decide) (Nat.le_of_ble_eq_true rfl) rfl dX7_sheet_6 (fun v6 => ?_)
  refine ww_if_eq (pc := 9) (tgt := 30) hC dX7_sheet_9 (by decide) ?_ ?_
  · refine ww_iconst (pc := 30) (v := (-1)) hC dX7_sheet_30 rfl ?_
    exact ww_ireturn (pc := 31) hC hR dX7_sheet_31 rfl
  · refine ww_iload_n (pc := 12) hC 2 rfl dX7_sheet_12 rfl ?_
    refine ww_i2l (pc := 13) hC dX7_sheet_13 ?_
    refine ww_lconst (pc := 14) (v := 0) hC dX7_sheet_14 rfl ?_
    refine ww_ldc2 (pc := 15) hC dX7_sheet_15 mw_1027 ?_
    refine ww_callSi (pc := 18) (st := []) (As := [.long p2.toInt64, .long 0, .long 2]) hC (c_X7_in σ p2.toInt64 0 2) mm_X7_in mw_991 (by omega) (by decide) (Nat.le_of_ble_eq_true rfl) rfl dX7_sheet_18 (fun v18 => ?_)
    refine ww_if_eq (pc := 21) (tgt := 30) hC dX7_sheet_21 (by decide) ?_ ?_
    · refine ww_iconst (pc := 30) (v := (-1)) hC dX7_sheet_30 rfl ?_
      exact ww_ireturn (pc := 31) hC hR dX7_sheet_31 rfl
    · refine ww_iload_n (pc := 24) hC 3 rfl dX7_sheet_24 rfl ?_
      refine ww_bipush (pc := 25) (v := 40) hC dX7_sheet_25 rfl ?_
      refine ww_icmp_le (pc := 27) (tgt := 32) hC dX7_sheet_27 (by decide) ?_ ?_
      · refine ww_iload_n (pc := 32) hC 3 rfl dX7_sheet_32 rfl ?_
        refine ww_if_ge (pc := 33) (tgt := 39) hC dX7_sheet_33 (by decide) ?_ ?_
        · refine ww_aload_n (pc := 39) hC 0 rfl dX7_sheet_39 rfl ?_
          refine ww_getr (pc := 40) (Cl := RX7) (T := TX7) (N := 36) (j := 32) (ref := RX7) hC (h0 0 _ rfl) rfl inT_X7 (by decide) mw_908 rfl rfl dX7_sheet_40 ?_
          refine ww_iload_n (pc := 43) hC 1 rfl dX7_sheet_43 rfl ?_
          refine ww_iload_n (pc := 44) hC 2 rfl dX7_sheet_44 rfl ?_
          refine ww_iast (pc := 45) hC (h0 15 _ rfl) dX7_sheet_45 ?_
          refine ww_aload_n (pc := 46) hC 0 rfl dX7_sheet_46 rfl ?_
          refine ww_getr (pc := 47) (Cl := RX7) (T := TX7) (N := 36) (j := 33) (ref := RX7) hC (h0 0 _ rfl) rfl inT_X7 (by decide) mw_909 rfl rfl dX7_sheet_47 ?_
          refine ww_iload_n (pc := 50) hC 1 rfl dX7_sheet_50 rfl ?_
          refine ww_iload_n (pc := 51) hC 3 rfl dX7_sheet_51 rfl ?_
          refine ww_iast (pc := 52) hC (h0 16 _ rfl) dX7_sheet_52 ?_
          refine ww_iconst (pc := 53) (v := 0) hC dX7_sheet_53 rfl ?_
          refine ww_istore (pc := 54) (lv' := [(4, .int 0), (0, .ref (ad o0)), (1, .int p1), (2, .int p2), (3, .int p3)]) hC dX7_sheet_54 (by decide) rfl ?_
          refine ww_lv [1, 2, 0] rfl ?_
          exact hJ56 (ww_up (ww_up σ (o0 + 15) (ww_ix p1) p2) (o0 + 16) (ww_ix p1) p3) 0
        · refine ww_bipush (pc := 36) (v := (-14)) hC dX7_sheet_36 rfl ?_
          exact ww_ireturn (pc := 38) hC hR dX7_sheet_38 rfl
      · refine ww_iconst (pc := 30) (v := (-1)) hC dX7_sheet_30 rfl ?_
        exact ww_ireturn (pc := 31) hC hR dX7_sheet_31 rfl
theorem dX7_lay_0 : decode cX7_lay 0 = .ok (.iload_n 1, 1) := by decide +kernel
theorem dX7_lay_1 : decode cX7_lay 1 = .ok (.i2l, 1) := by decide +kernel
theorem dX7_lay_2 : decode cX7_lay 2 = .ok (.lconst 0, 1) := by decide +kernel
theorem dX7_lay_3 : decode cX7_lay 3 = .ok (.ldc2_w 210, 3) := by decide +kernel
theorem dX7_lay_6 : decode cX7_lay 6 = .ok (.invokestatic 68, 3) := by decide +kernel
theorem dX7_lay_9 : decode cX7_lay 9 = .ok (.ifCond .ne 5, 3) := by decide +kernel
theorem dX7_lay_12 : decode cX7_lay 12 = .ok (.iconst (-1), 1) := by decide +kernel
theorem dX7_lay_13 : decode cX7_lay 13 = .ok (.ireturn, 1) := by decide +kernel
theorem dX7_lay_14 : decode cX7_lay 14 = .ok (.aload_n 0, 1) := by decide +kernel
theorem dX7_lay_15 : decode cX7_lay 15 = .ok (.getfield 57, 3) := by decide +kernel
theorem dX7_lay_18 : decode cX7_lay 18 = .ok (.iload_n 1, 1) := by decide +kernel
theorem dX7_lay_19 : decode cX7_lay 19 = .ok (.iaload, 1) := by decide +kernel
theorem dX7_lay_20 : decode cX7_lay 20 = .ok (.bipush (-4), 2) := by decide +kernel
theorem dX7_lay_22 : decode cX7_lay 22 = .ok (.if_icmp .ne 6, 3) := by decide +kernel
theorem dX7_lay_25 : decode cX7_lay 25 = .ok (.bipush (-11), 2) := by decide +kernel
theorem dX7_lay_27 : decode cX7_lay 27 = .ok (.ireturn, 1) := by decide +kernel
theorem dX7_lay_28 : decode cX7_lay 28 = .ok (.iload_n 2, 1) := by decide +kernel
theorem dX7_lay_29 : decode cX7_lay 29 = .ok (.i2l, 1) := by decide +kernel
theorem dX7_lay_30 : decode cX7_lay 30 = .ok (.lconst 0, 1) := by decide +kernel
theorem dX7_lay_31 : decode cX7_lay 31 = .ok (.aload_n 0, 1) := by decide +kernel
theorem dX7_lay_32 : decode cX7_lay 32 = .ok (.getfield 60, 3) := by decide +kernel
theorem dX7_lay_35 : decode cX7_lay 35 = .ok (.iload_n 1, 1) := by decide +kernel
theorem dX7_lay_36 : decode cX7_lay 36 = .ok (.iaload, 1) := by decide +kernel
theorem dX7_lay_37 : decode cX7_lay 37 = .ok (.iconst 1, 1) := by decide +kernel
theorem dX7_lay_38 : decode cX7_lay 38 = .ok (.isub, 1) := by decide +kernel
theorem dX7_lay_39 : decode cX7_lay 39 = .ok (.i2l, 1) := by decide +kernel
theorem dX7_lay_40 : decode cX7_lay 40 = .ok (.invokestatic 68, 3) := by decide +kernel
theorem dX7_lay_43 : decode cX7_lay 43 = .ok (.ifCond .ne 6, 3) := by decide +kernel
theorem dX7_lay_46 : decode cX7_lay 46 = .ok (.bipush (-12), 2) := by decide +kernel
theorem dX7_lay_48 : decode cX7_lay 48 = .ok (.ireturn, 1) := by decide +kernel
theorem dX7_lay_49 : decode cX7_lay 49 = .ok (.aload_n 0, 1) := by decide +kernel
theorem dX7_lay_50 : decode cX7_lay 50 = .ok (.getfield 63, 3) := by decide +kernel
theorem dX7_lay_53 : decode cX7_lay 53 = .ok (.bipush 40, 2) := by decide +kernel
theorem dX7_lay_55 : decode cX7_lay 55 = .ok (.iload_n 1, 1) := by decide +kernel
theorem dX7_lay_56 : decode cX7_lay 56 = .ok (.imul, 1) := by decide +kernel
theorem dX7_lay_57 : decode cX7_lay 57 = .ok (.iload_n 2, 1) := by decide +kernel
theorem dX7_lay_58 : decode cX7_lay 58 = .ok (.iadd, 1) := by decide +kernel
theorem dX7_lay_59 : decode cX7_lay 59 = .ok (.aload_n 0, 1) := by decide +kernel
theorem dX7_lay_60 : decode cX7_lay 60 = .ok (.getfield 57, 3) := by decide +kernel
theorem dX7_lay_63 : decode cX7_lay 63 = .ok (.iload_n 1, 1) := by decide +kernel
theorem dX7_lay_64 : decode cX7_lay 64 = .ok (.iaload, 1) := by decide +kernel
theorem dX7_lay_65 : decode cX7_lay 65 = .ok (.ifCond .ne 13, 3) := by decide +kernel
theorem dX7_lay_68 : decode cX7_lay 68 = .ok (.iload_n 3, 1) := by decide +kernel
theorem dX7_lay_69 : decode cX7_lay 69 = .ok (.bipush 24, 2) := by decide +kernel
theorem dX7_lay_71 : decode cX7_lay 71 = .ok (.ishl, 1) := by decide +kernel
theorem dX7_lay_72 : decode cX7_lay 72 = .ok (.bipush 24, 2) := by decide +kernel
theorem dX7_lay_74 : decode cX7_lay 74 = .ok (.ishr, 1) := by decide +kernel
theorem dX7_lay_75 : decode cX7_lay 75 = .ok (.goto 24, 3) := by decide +kernel
theorem dX7_lay_78 : decode cX7_lay 78 = .ok (.aload_n 0, 1) := by decide +kernel
theorem dX7_lay_79 : decode cX7_lay 79 = .ok (.getfield 57, 3) := by decide +kernel
theorem dX7_lay_82 : decode cX7_lay 82 = .ok (.iload_n 1, 1) := by decide +kernel
theorem dX7_lay_83 : decode cX7_lay 83 = .ok (.iaload, 1) := by decide +kernel
theorem dX7_lay_84 : decode cX7_lay 84 = .ok (.iconst 1, 1) := by decide +kernel
theorem dX7_lay_85 : decode cX7_lay 85 = .ok (.if_icmp .ne 13, 3) := by decide +kernel
theorem dX7_lay_88 : decode cX7_lay 88 = .ok (.iload_n 3, 1) := by decide +kernel
theorem dX7_lay_89 : decode cX7_lay 89 = .ok (.bipush 16, 2) := by decide +kernel
theorem dX7_lay_91 : decode cX7_lay 91 = .ok (.ishl, 1) := by decide +kernel
theorem dX7_lay_92 : decode cX7_lay 92 = .ok (.bipush 16, 2) := by decide +kernel
theorem dX7_lay_94 : decode cX7_lay 94 = .ok (.ishr, 1) := by decide +kernel
theorem dX7_lay_95 : decode cX7_lay 95 = .ok (.goto 4, 3) := by decide +kernel
theorem dX7_lay_98 : decode cX7_lay 98 = .ok (.iload_n 3, 1) := by decide +kernel
theorem dX7_lay_99 : decode cX7_lay 99 = .ok (.iastore, 1) := by decide +kernel
theorem dX7_lay_100 : decode cX7_lay 100 = .ok (.iconst 1, 1) := by decide +kernel
theorem dX7_lay_101 : decode cX7_lay 101 = .ok (.ireturn, 1) := by decide +kernel
set_option maxHeartbeats 4000000 in
set_option maxRecDepth 100000 in
theorem c_X7_lay {l : Launch} {Y : ww_Y} {ad : Nat → Nat} {G : List ww_L} (o0 : Nat) (h0 : ww_at G o0 (ww_LModel o0)) (σ : ww_M) (p1 : Int32) (p2 : Int32) (p3 : Int32) : ww_Cn l Y ad G yX7_lay cX7_lay 4 (some .int) 2 [.ref (ad o0), .int p1, .int p2, .int p3] σ ((f_X7_lay σ o0 p1 p2 p3).bind ww_rw) := by
  refine ww_met (by decide +kernel) (Nat.le_of_ble_eq_true rfl) ?_
  intro X hC hR
  have hC : ww_C X l Y ad G 2 cX7_lay 4 RX7 := hC
  show ww_V X Y ad G 4 σ 0 [(0, .ref (ad o0)), (1, .int p1), (2, .int p2), (3, .int p3)] [] ((f_X7_lay σ o0 p1 p2 p3).bind ww_rw)
  unfold f_X7_lay
  refine ww_iload_n (pc := 0) hC 1 rfl dX7_lay_0 rfl ?_
  refine ww_i2l (pc := 1) hC dX7_lay_1 ?_
  refine ww_lconst (pc := 2) (v := 0) hC dX7_lay_2 rfl ?_
  refine ww_ldc2 (pc := 3) hC dX7_lay_3 mw_1130 ?_
  refine ww_callSi (pc := 6) (st := []) (As := [.long p1.toInt64, .long 0, .long 3]) hC (c_X7_in σ p1.toInt64 0 3) mm_X7_in mw_991 (by omega) (by decide) (Nat.le_of_ble_eq_true rfl) rfl dX7_lay_6 (fun v6 => ?_)
  refine ww_if_ne (pc := 9) (tgt := 14) hC dX7_lay_9 (by decide) ?_ ?_
  · refine ww_aload_n (pc := 14) hC 0 rfl dX7_lay_14 rfl ?_
    refine ww_getr (pc := 15) (Cl := RX7) (T := TX7) (N := 36) (j := 32) (ref := RX7) hC (h0 0 _ rfl) rfl inT_X7 (by decide) mw_908 rfl rfl dX7_lay_15 ?_
    refine ww_iload_n (pc := 18) hC 1 rfl dX7_lay_18 rfl ?_
    refine ww_iald (pc := 19) hC (h0 15 _ rfl) dX7_lay_19 ?_
    refine ww_bipush (pc := 20) (v := (-4)) hC dX7_lay_20 rfl ?_
    refine ww_icmp_ne (pc := 22) (tgt := 28) hC dX7_lay_22 (by decide) ?_ ?_
    · refine ww_iload_n (pc := 28) hC 2 rfl dX7_lay_28 rfl ?_
      refine ww_i2l (pc := 29) hC dX7_lay_29 ?_
      refine ww_lconst (pc := 30) (v := 0) hC dX7_lay_30 rfl ?_
      refine ww_aload_n (pc := 31) hC 0 rfl dX7_lay_31 rfl ?_
      refine ww_getr (pc := 32) (Cl := RX7) (T := TX7) (N := 36) (j := 33) (ref := RX7) hC (h0 0 _ rfl) rfl inT_X7 (by decide) mw_909 rfl rfl dX7_lay_32 ?_
      refine ww_iload_n (pc := 35) hC 1 rfl dX7_lay_35 rfl ?_
      refine ww_iald (pc := 36) hC (h0 16 _ rfl) dX7_lay_36 ?_
      refine ww_iconst (pc := 37) (v := 1) hC dX7_lay_37 rfl ?_
      refine ww_isub (pc := 38) hC dX7_lay_38 ?_
      refine ww_i2l (pc := 39) hC dX7_lay_39 ?_
      refine ww_callSi (pc := 40) (st := []) (As := [.long p2.toInt64, .long 0, .long (((σ (o0 + 16) (ww_ix p1)) - 1).toInt64)]) hC (c_X7_in σ p2.toInt64 0 (((σ (o0 + 16) (ww_ix p1)) - 1).toInt64)) mm_X7_in mw_991 (by omega) (by decide) (Nat.le_of_ble_eq_true rfl) rfl dX7_lay_40 (fun v40 => ?_)
      refine ww_if_ne (pc := 43) (tgt := 49) hC dX7_lay_43 (by decide) ?_ ?_
      · refine ww_aload_n (pc := 49) hC 0 rfl dX7_lay_49 rfl ?_
        refine ww_getr (pc := 50) (Cl := RX7) (T := TX7) (N := 36) (j := 34) (ref := RX7) hC (h0 0 _ rfl) rfl inT_X7 (by decide) mw_910 rfl rfl dX7_lay_50 ?_
        refine ww_bipush (pc := 53) (v := 40) hC dX7_lay_53 rfl ?_
        refine ww_iload_n (pc := 55) hC 1 rfl dX7_lay_55 rfl ?_
        refine ww_imul (pc := 56) hC dX7_lay_56 ?_
        refine ww_iload_n (pc := 57) hC 2 rfl dX7_lay_57 rfl ?_
        refine ww_iadd (pc := 58) hC dX7_lay_58 ?_
        refine ww_aload_n (pc := 59) hC 0 rfl dX7_lay_59 rfl ?_
        refine ww_getr (pc := 60) (Cl := RX7) (T := TX7) (N := 36) (j := 32) (ref := RX7) hC (h0 0 _ rfl) rfl inT_X7 (by decide) mw_908 rfl rfl dX7_lay_60 ?_
        refine ww_iload_n (pc := 63) hC 1 rfl dX7_lay_63 rfl ?_
        refine ww_iald (pc := 64) hC (h0 15 _ rfl) dX7_lay_64 ?_
        refine ww_if_ne (pc := 65) (tgt := 78) hC dX7_lay_65 (by decide) ?_ ?_
        · refine ww_aload_n (pc := 78) hC 0 rfl dX7_lay_78 rfl ?_
          refine ww_getr (pc := 79) (Cl := RX7) (T := TX7) (N := 36) (j := 32) (ref := RX7) hC (h0 0 _ rfl) rfl inT_X7 (by decide) mw_908 rfl rfl dX7_lay_79 ?_
          refine ww_iload_n (pc := 82) hC 1 rfl dX7_lay_82 rfl ?_
          refine ww_iald (pc := 83) hC (h0 15 _ rfl) dX7_lay_83 ?_
          refine ww_iconst (pc := 84) (v := 1) hC dX7_lay_84 rfl ?_
          refine ww_icmp_ne (pc := 85) (tgt := 98) hC dX7_lay_85 (by decide) ?_ ?_
          · refine ww_iload_n (pc := 98) hC 3 rfl dX7_lay_98 rfl ?_
            refine ww_iast (pc := 99) hC (h0 17 _ rfl) dX7_lay_99 ?_
            refine ww_iconst (pc := 100) (v := 1) hC dX7_lay_100 rfl ?_
            exact ww_ireturn (pc := 101) hC hR dX7_lay_101 rfl
          · refine ww_iload_n (pc := 88) hC 3 rfl dX7_lay_88 rfl ?_
            refine ww_bipush (pc := 89) (v := 16) hC dX7_lay_89 rfl ?_
            refine ww_ishl (pc := 91) hC dX7_lay_91 ?_
            refine ww_bipush (pc := 92) (v := 16) hC dX7_lay_92 rfl ?_
            refine ww_ishr (pc := 94) hC dX7_lay_94 ?_
            refine ww_goto (pc := 95) (tgt := 99) hC dX7_lay_95 (by decide) ?_
            refine ww_iast (pc := 99) hC (h0 17 _ rfl) dX7_lay_99 ?_
            refine ww_iconst (pc := 100) (v := 1) hC dX7_lay_100 rfl ?_
            exact ww_ireturn (pc := 101) hC hR dX7_lay_101 rfl
        · refine ww_iload_n (pc := 68) hC 3 rfl dX7_lay_68 rfl ?_
          refine ww_bipush (pc := 69) (v := 24) hC dX7_lay_69 rfl ?_
          refine ww_ishl (pc := 71) hC dX7_lay_71 ?_
          refine ww_bipush (pc := 72) (v := 24) hC dX7_lay_72 rfl ?_
          refine ww_ishr (pc := 74) hC dX7_lay_74 ?_
          refine ww_goto (pc := 75) (tgt := 99) hC dX7_lay_75 (by decide) ?_
          refine ww_iast (pc := 99) hC (h0 17 _ rfl) dX7_lay_99 ?_
          refine ww_iconst (pc := 100) (v := 1) hC dX7_lay_100 rfl ?_
          exact ww_ireturn (pc := 101) hC hR dX7_lay_101 rfl
      · refine ww_bipush (pc := 46) (v := (-12)) hC dX7_lay_46 rfl ?_
        exact ww_ireturn (pc := 48) hC hR dX7_lay_48 rfl
    · refine ww_bipush (pc := 25) (v := (-11)) hC dX7_lay_25 rfl ?_
      exact ww_ireturn (pc := 27) hC hR dX7_lay_27 rfl
  · refine ww_iconst (pc := 12) (v := (-1)) hC dX7_lay_12 rfl ?_
    exact ww_ireturn (pc := 13) hC hR dX7_lay_13 rfl
