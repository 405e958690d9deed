theorem dX4_add_0 : decode cX4_add 0 = .ok (.aload_n 0, 1) := by decide +kernel
theorem dX4_add_1 : decode cX4_add 1 = .ok (.getfield 15, 3) := by decide +kernel
theorem dX4_add_4 : decode cX4_add 4 = .ok (.aload_n 0, 1) := by decide +kernel
theorem dX4_add_5 : decode cX4_add 5 = .ok (.getfield 9, 3) := by decide +kernel
theorem dX4_add_8 : decode cX4_add 8 = .ok (.arraylength, 1) := by decide +kernel
theorem dX4_add_9 : decode cX4_add 9 = .ok (.if_icmp .lt 5, 3) := by decide +kernel
theorem dX4_add_12 : decode cX4_add 12 = .ok (.iconst 0, 1) := by decide +kernel
theorem dX4_add_13 : decode cX4_add 13 = .ok (.ireturn, 1) := by decide +kernel
theorem dX4_add_14 : decode cX4_add 14 = .ok (.aload_n 0, 1) := by decide +kernel
theorem dX4_add_15 : decode cX4_add 15 = .ok (.getfield 9, 3) := by decide +kernel
theorem dX4_add_18 : decode cX4_add 18 = .ok (.aload_n 0, 1) := by decide +kernel
theorem dX4_add_19 : decode cX4_add 19 = .ok (.getfield 15, 3) := by decide +kernel
theorem dX4_add_22 : decode cX4_add 22 = .ok (.iload_n 1, 1) := by decide +kernel
theorem dX4_add_23 : decode cX4_add 23 = .ok (.i2b, 1) := by decide +kernel
theorem dX4_add_24 : decode cX4_add 24 = .ok (.bastore, 1) := by decide +kernel
theorem dX4_add_25 : decode cX4_add 25 = .ok (.aload_n 0, 1) := by decide +kernel
theorem dX4_add_26 : decode cX4_add 26 = .ok (.dup, 1) := by decide +kernel
theorem dX4_add_27 : decode cX4_add 27 = .ok (.getfield 15, 3) := by decide +kernel
theorem dX4_add_30 : decode cX4_add 30 = .ok (.iconst 1, 1) := by decide +kernel
theorem dX4_add_31 : decode cX4_add 31 = .ok (.iadd, 1) := by decide +kernel
theorem dX4_add_32 : decode cX4_add 32 = .ok (.putfield 15, 3) := by decide +kernel
theorem dX4_add_35 : decode cX4_add 35 = .ok (.iconst 1, 1) := by decide +kernel
theorem dX4_add_36 : decode cX4_add 36 = .ok (.ireturn, 1) := by decide +kernel
set_option maxHeartbeats 4000000 in
set_option maxRecDepth 100000 in
theorem c_X4_add {l : Launch} {Y : ww_Y} {ad : Nat → Nat} {G : List ww_L} (o0 : Nat) (h0 : ww_at G o0 (ww_LTape o0)) (σ : ww_M) (p1 : Int32) : ww_Cn l Y ad G yX4_add cX4_add 2 (some .boolean) 1 [.ref (ad o0), .int p1] σ ((f_X4_add σ o0 p1).bind ww_rw) := by
  refine ww_met (by decide +kernel) (Nat.le_of_ble_eq_true rfl) ?_
  intro X hC hR
  have hC : ww_C X l Y ad G 1 cX4_add 2 RX4 := hC
  show ww_V X Y ad G 2 σ 0 [(0, .ref (ad o0)), (1, .int p1)] [] ((f_X4_add σ o0 p1).bind ww_rw)
  unfold f_X4_add
  refine ww_aload_n (pc := 0) hC 0 rfl dX4_add_0 rfl ?_
  refine ww_geti (pc := 1) (Cl := RX4) (T := TX4) (N := 6) (j := 1) (ref := RX4) hC (h0 0 _ rfl) rfl inT_X4 (by decide) mw_90 rfl rfl dX4_add_1 ?_
  refine ww_aload_n (pc := 4) hC 0 rfl dX4_add_4 rfl ?_
  refine ww_getr (pc := 5) (Cl := RX4) (T := TX4) (N := 6) (j := 0) (ref := RX4) hC (h0 0 _ rfl) rfl inT_X4 (by decide) mw_89 rfl rfl dX4_add_5 ?_
  refine ww_alen (pc := 8) (v := 160) hC (h0 1 _ rfl) (fun _ => rfl) rfl dX4_add_8 ?_
  refine ww_icmp_lt (pc := 9) (tgt := 14) hC dX4_add_9 (by decide) ?_ ?_
  · refine ww_aload_n (pc := 14) hC 0 rfl dX4_add_14 rfl ?_
    refine ww_getr (pc := 15) (Cl := RX4) (T := TX4) (N := 6) (j := 0) (ref := RX4) hC (h0 0 _ rfl) rfl inT_X4 (by decide) mw_89 rfl rfl dX4_add_15 ?_
    refine ww_aload_n (pc := 18) hC 0 rfl dX4_add_18 rfl ?_
    refine ww_geti (pc := 19) (Cl := RX4) (T := TX4) (N := 6) (j := 1) (ref := RX4) hC (h0 0 _ rfl) rfl inT_X4 (by decide) mw_90 rfl rfl dX4_add_19 ?_
    refine ww_iload_n (pc := 22) hC 1 rfl dX4_add_22 rfl ?_
    refine ww_i2b (pc := 23) hC dX4_add_23 ?_
    refine ww_bast (pc := 24) hC (h0 1 _ rfl) dX4_add_24 ?_
    refine ww_aload_n (pc := 25) hC 0 rfl dX4_add_25 rfl ?_
    refine ww_dup (pc := 26) hC dX4_add_26 rfl ?_
    refine ww_geti (pc := 27) (Cl := RX4) (T := TX4) (N := 6) (j := 1) (ref := RX4) hC (h0 0 _ rfl) rfl inT_X4 (by decide) mw_90 rfl rfl dX4_add_27 ?_
    refine ww_iconst (pc := 30) (v := 1) hC dX4_add_30 rfl ?_
    refine ww_iadd (pc := 31) hC dX4_add_31 ?_
    refine ww_puti (pc := 32) (Cl := RX4) (T := TX4) (N := 6) (j := 1) (ref := RX4) hC (h0 0 _ rfl) rfl inT_X4 (by decide) mw_90 rfl tyX4 tyX4_ok nmX4 rfl rfl (tyX4_ok 1 (by decide)) dX4_add_32 ?_
    refine ww_iconst (pc := 35) (v := 1) hC dX4_add_35 rfl ?_
    exact ww_zreturn (pc := 36) hC hR dX4_add_36 rfl rfl
  · refine ww_iconst (pc := 12) (v := 0) hC dX4_add_12 rfl ?_
    exact ww_zreturn (pc := 13) hC hR dX4_add_13 rfl rfl
theorem dX4_isLetter_0 : decode cX4_isLetter 0 = .ok (.iload_n 0, 1) := by decide +kernel
theorem dX4_isLetter_1 : decode cX4_isLetter 1 = .ok (.bipush 97, 2) := by decide +kernel
theorem dX4_isLetter_3 : decode cX4_isLetter 3 = .ok (.bipush 122, 2) := by decide +kernel
theorem dX4_isLetter_5 : decode cX4_isLetter 5 = .ok (.invokestatic 54, 3) := by decide +kernel
theorem dX4_isLetter_8 : decode cX4_isLetter 8 = .ok (.ireturn, 1) := by decide +kernel
set_option maxHeartbeats 4000000 in
set_option maxRecDepth 100000 in
theorem c_X4_isLetter {l : Launch} {Y : ww_Y} {ad : Nat → Nat} {G : List ww_L} (σ : ww_M) (p0 : Int32) : ww_Cn l Y ad G yX4_isLetter cX4_isLetter 1 (some .boolean) 2 [.int p0] σ ((f_X4_isLetter p0).bind (ww_ri σ)) := by
  refine ww_met (by decide +kernel) (Nat.le_of_ble_eq_true rfl) ?_
  intro X hC hR
  have hC : ww_C X l Y ad G 2 cX4_isLetter 1 RX4 := hC
  show ww_V X Y ad G 1 σ 0 [(0, .int p0)] [] ((f_X4_isLetter p0).bind (ww_ri σ))
  unfold f_X4_isLetter
  refine ww_iload_n (pc := 0) hC 0 rfl dX4_isLetter_0 rfl ?_
  refine ww_bipush (pc := 1) (v := 97) hC dX4_isLetter_1 rfl ?_
  refine ww_bipush (pc := 3) (v := 122) hC dX4_isLetter_3 rfl ?_
  refine ww_callSNi (pc := 5) (st := []) (As := [.int p0, .int 97, .int 122]) hC (c_X6_within σ p0 97 122) mm_X6_within mw_360 (by omega) (by decide) (Nat.le_of_ble_eq_true rfl) rfl dX4_isLetter_5 (fun v5 => ?_)
  exact ww_zreturnG (pc := 8) hC hR dX4_isLetter_8 rfl
theorem dX4_stepName_0 : decode cX4_stepName 0 = .ok (.aload_n 0, 1) := by decide +kernel
theorem dX4_stepName_1 : decode cX4_stepName 1 = .ok (.iconst 1, 1) := by decide +kernel
theorem dX4_stepName_2 : decode cX4_stepName 2 = .ok (.putfield 25, 3) := by decide +kernel
theorem dX4_stepName_5 : decode cX4_stepName 5 = .ok (.aload_n 0, 1) := by decide +kernel
theorem dX4_stepName_6 : decode cX4_stepName 6 = .ok (.getfield 19, 3) := by decide +kernel
theorem dX4_stepName_9 : decode cX4_stepName 9 = .ok (.aload_n 0, 1) := by decide +kernel
theorem dX4_stepName_10 : decode cX4_stepName 10 = .ok (.getfield 15, 3) := by decide +kernel
theorem dX4_stepName_13 : decode cX4_stepName 13 = .ok (.if_icmp .ge 31, 3) := by decide +kernel
theorem dX4_stepName_16 : decode cX4_stepName 16 = .ok (.aload_n 0, 1) := by decide +kernel
theorem dX4_stepName_17 : decode cX4_stepName 17 = .ok (.getfield 9, 3) := by decide +kernel
theorem dX4_stepName_20 : decode cX4_stepName 20 = .ok (.aload_n 0, 1) := by decide +kernel
theorem dX4_stepName_21 : decode cX4_stepName 21 = .ok (.getfield 19, 3) := by decide +kernel
theorem dX4_stepName_24 : decode cX4_stepName 24 = .ok (.baload, 1) := by decide +kernel
theorem dX4_stepName_25 : decode cX4_stepName 25 = .ok (.invokestatic 28, 3) := by decide +kernel
theorem dX4_stepName_28 : decode cX4_stepName 28 = .ok (.ifCond .eq 16, 3) := by decide +kernel
theorem dX4_stepName_31 : decode cX4_stepName 31 = .ok (.aload_n 0, 1) := by decide +kernel
theorem dX4_stepName_32 : decode cX4_stepName 32 = .ok (.dup, 1) := by decide +kernel
theorem dX4_stepName_33 : decode cX4_stepName 33 = .ok (.getfield 19, 3) := by decide +kernel
theorem dX4_stepName_36 : decode cX4_stepName 36 = .ok (.iconst 1, 1) := by decide +kernel
theorem dX4_stepName_37 : decode cX4_stepName 37 = .ok (.iadd, 1) := by decide +kernel
theorem dX4_stepName_38 : decode cX4_stepName 38 = .ok (.putfield 19, 3) := by decide +kernel
theorem dX4_stepName_41 : decode cX4_stepName 41 = .ok (.goto (-36), 3) := by decide +kernel
theorem dX4_stepName_44 : decode cX4_stepName 44 = .ok (.return_, 1) := by decide +kernel
set_option maxHeartbeats 4000000 in
set_option maxRecDepth 100000 in
theorem c_X4_stepName {l : Launch} {Y : ww_Y} {ad : Nat → Nat} {G : List ww_L} (o0 : Nat) (h0 : ww_at G o0 (ww_LTape o0)) (σ : ww_M) : ww_Cn l Y ad G yX4_stepName cX4_stepName 1 none 3 [.ref (ad o0)] σ ((f_X4_stepName σ o0).bind ww_rv) := by
  refine ww_met (by decide +kernel) (Nat.le_of_ble_eq_true rfl) ?_
  intro X hC hR
  have hC : ww_C X l Y ad G 3 cX4_stepName 1 RX4 := hC
  show ww_V X Y ad G 1 σ 0 [(0, .ref (ad o0))] [] ((f_X4_stepName σ o0).bind ww_rv)
  have hJ44 : ∀ (σ : ww_M), ww_V X Y ad G 1 σ 44 [] [] ((f_X4_stepName_j44 σ o0).bind ww_rv) := by
    intro σ
    unfold f_X4_stepName_j44
    exact ww_return (pc := 44) hC hR dX4_stepName_44 rfl
  have hJ5 : ∀ (σ : ww_M), ww_V X Y ad G 1 σ 5 [(0, .ref (ad o0))] [] ((f_X4_stepName_j5 σ o0).bind ww_rv) := by
    intro σ
    unfold f_X4_stepName_j5
    refine ww_assoc ?_
    refine ww_loop (f := f_X4_stepName_b5 o0) (fun a5 => a5) (fun a5 => [(0, .ref (ad o0))]) (fun b5 => b5) (fun b5 => []) 44 (fun b5 => ?_) (fun a5 KK5 hc5 hx5 => ?_) ww_F σ
    · exact hJ44 b5
    · unfold f_X4_stepName_b5
      refine ww_aload_n (pc := 5) hC 0 rfl dX4_stepName_5 rfl ?_
      refine ww_geti (pc := 6) (Cl := RX4) (T := TX4) (N := 6) (j := 2) (ref := RX4) hC (h0 0 _ rfl) rfl inT_X4 (by decide) mw_94 rfl rfl dX4_stepName_6 ?_
      refine ww_aload_n (pc := 9) hC 0 rfl dX4_stepName_9 rfl ?_
      refine ww_geti (pc := 10) (Cl := RX4) (T := TX4) (N := 6) (j := 1) (ref := RX4) hC (h0 0 _ rfl) rfl inT_X4 (by decide) mw_90 rfl rfl dX4_stepName_10 ?_
      refine ww_icmp_ge (pc := 13) (tgt := 44) hC dX4_stepName_13 (by decide) ?_ ?_
      · refine ww_lv [] rfl ?_
        exact hx5 a5
      · refine ww_aload_n (pc := 16) hC 0 rfl dX4_stepName_16 rfl ?_
        refine ww_getr (pc := 17) (Cl := RX4) (T := TX4) (N := 6) (j := 0) (ref := RX4) hC (h0 0 _ rfl) rfl inT_X4 (by decide) mw_89 rfl rfl dX4_stepName_17 ?_
        refine ww_aload_n (pc := 20) hC 0 rfl dX4_stepName_20 rfl ?_
        refine ww_geti (pc := 21) (Cl := RX4) (T := TX4) (N := 6) (j := 2) (ref := RX4) hC (h0 0 _ rfl) rfl inT_X4 (by decide) mw_94 rfl rfl dX4_stepName_21 ?_
        refine ww_bald (pc := 24) hC (h0 1 _ rfl) dX4_stepName_24 ?_
        refine ww_callSi (pc := 25) (st := []) (As := [.int (a5 (o0 + 1) (ww_ix (a5 o0 2)))]) hC (c_X4_isLetter a5 (a5 (o0 + 1) (ww_ix (a5 o0 2)))) mm_X4_isLetter mw_357 (by omega) (by decide) (Nat.le_of_ble_eq_true rfl) rfl dX4_stepName_25 (fun v25 => ?_)
        refine ww_if_eq (pc := 28) (tgt := 44) hC dX4_stepName_28 (by decide) ?_ ?_
        · refine ww_lv [] rfl ?_
          exact hx5 a5
        · refine ww_aload_n (pc := 31) hC 0 rfl dX4_stepName_31 rfl ?_
          refine ww_dup (pc := 32) hC dX4_stepName_32 rfl ?_
          refine ww_geti (pc := 33) (Cl := RX4) (T := TX4) (N := 6) (j := 2) (ref := RX4) hC (h0 0 _ rfl) rfl inT_X4 (by decide) mw_94 rfl rfl dX4_stepName_33 ?_
          refine ww_iconst (pc := 36) (v := 1) hC dX4_stepName_36 rfl ?_
          refine ww_iadd (pc := 37) hC dX4_stepName_37 ?_
          refine ww_puti (pc := 38) (Cl := RX4) (T := TX4) (N := 6) (j := 2) (ref := RX4) hC (h0 0 _ rfl) rfl inT_X4 (by decide) mw_94 rfl tyX4 tyX4_ok nmX4 rfl rfl (tyX4_ok 2 (by decide)) dX4_stepName_38 ?_
          refine ww_goto (pc := 41) (tgt := 5) hC dX4_stepName_41 (by decide) ?_
          exact hc5 (ww_up a5 o0 2 ((a5 o0 2) + 1))
  unfold f_X4_stepName
  refine ww_aload_n (pc := 0) hC 0 rfl dX4_stepName_0 rfl ?_
  refine ww_iconst (pc := 1) (v := 1) hC dX4_stepName_1 rfl ?_
  refine ww_puti (pc := 2) (Cl := RX4) (T := TX4) (N := 6) (j := 3) (ref := RX4) hC (h0 0 _ rfl) rfl inT_X4 (by decide) mw_96 rfl tyX4 tyX4_ok nmX4 rfl rfl (tyX4_ok 3 (by decide)) dX4_stepName_2 ?_
  exact hJ5 (ww_up σ o0 3 1)
theorem dX4_isFigure_0 : decode cX4_isFigure 0 = .ok (.iload_n 0, 1) := by decide +kernel
theorem dX4_isFigure_1 : decode cX4_isFigure 1 = .ok (.bipush 48, 2) := by decide +kernel
theorem dX4_isFigure_3 : decode cX4_isFigure 3 = .ok (.bipush 57, 2) := by decide +kernel
theorem dX4_isFigure_5 : decode cX4_isFigure 5 = .ok (.invokestatic 54, 3) := by decide +kernel
theorem dX4_isFigure_8 : decode cX4_isFigure 8 = .ok (.ireturn, 1) := by decide +kernel
set_option maxHeartbeats 4000000 in
set_option maxRecDepth 100000 in
theorem c_X4_isFigure {l : Launch} {Y : ww_Y} {ad : Nat → Nat} {G : List ww_L} (σ : ww_M) (p0 : Int32) : ww_Cn l Y ad G yX4_isFigure cX4_isFigure 1 (some .boolean) 2 [.int p0] σ ((f_X4_isFigure p0).bind (ww_ri σ)) := by
  refine ww_met (by decide +kernel) (Nat.le_of_ble_eq_true rfl) ?_
  intro X hC hR
  have hC : ww_C X l Y ad G 2 cX4_isFigure 1 RX4 := hC
  show ww_V X Y ad G 1 σ 0 [(0, .int p0)] [] ((f_X4_isFigure p0).bind (ww_ri σ))
  unfold f_X4_isFigure
  refine ww_iload_n (pc := 0) hC 0 rfl dX4_isFigure_0 rfl ?_
  refine ww_bipush (pc := 1) (v := 48) hC dX4_isFigure_1 rfl ?_
  refine ww_bipush (pc := 3) (v := 57) hC dX4_isFigure_3 rfl ?_
  refine ww_callSNi (pc := 5) (st := []) (As := [.int p0, .int 48, .int 57]) hC (c_X6_within σ p0 48 57) mm_X6_within mw_360 (by omega) (by decide) (Nat.le_of_ble_eq_true rfl) rfl dX4_isFigure_5 (fun v5 => ?_)
  exact ww_zreturnG (pc := 8) hC hR dX4_isFigure_8 rfl
theorem dX4_stepNumber_0 : decode cX4_stepNumber 0 = .ok (.aload_n 0, 1) := by decide +kernel
theorem dX4_stepNumber_1 : decode cX4_stepNumber 1 = .ok (.iconst 0, 1) := by decide +kernel
theorem dX4_stepNumber_2 : decode cX4_stepNumber 2 = .ok (.putfield 41, 3) := by decide +kernel
theorem dX4_stepNumber_5 : decode cX4_stepNumber 5 = .ok (.aload_n 0, 1) := by decide +kernel
theorem dX4_stepNumber_6 : decode cX4_stepNumber 6 = .ok (.getfield 19, 3) := by decide +kernel
theorem dX4_stepNumber_9 : decode cX4_stepNumber 9 = .ok (.aload_n 0, 1) := by decide +kernel
theorem dX4_stepNumber_10 : decode cX4_stepNumber 10 = .ok (.getfield 15, 3) := by decide +kernel
theorem dX4_stepNumber_13 : decode cX4_stepNumber 13 = .ok (.if_icmp .ge 55, 3) := by decide +kernel
theorem dX4_stepNumber_16 : decode cX4_stepNumber 16 = .ok (.aload_n 0, 1) := by decide +kernel
theorem dX4_stepNumber_17 : decode cX4_stepNumber 17 = .ok (.getfield 9, 3) := by decide +kernel
theorem dX4_stepNumber_20 : decode cX4_stepNumber 20 = .ok (.aload_n 0, 1) := by decide +kernel
theorem dX4_stepNumber_21 : decode cX4_stepNumber 21 = .ok (.getfield 19, 3) := by decide +kernel
theorem dX4_stepNumber_24 : decode cX4_stepNumber 24 = .ok (.baload, 1) := by decide +kernel
theorem dX4_stepNumber_25 : decode cX4_stepNumber 25 = .ok (.invokestatic 35, 3) := by decide +kernel
theorem dX4_stepNumber_28 : decode cX4_stepNumber 28 = .ok (.ifCond .eq 40, 3) := by decide +kernel
theorem dX4_stepNumber_31 : decode cX4_stepNumber 31 = .ok (.aload_n 0, 1) := by decide +kernel
theorem dX4_stepNumber_32 : decode cX4_stepNumber 32 = .ok (.aload_n 0, 1) := by decide +kernel
theorem dX4_stepNumber_33 : decode cX4_stepNumber 33 = .ok (.getfield 41, 3) := by decide +kernel
theorem dX4_stepNumber_36 : decode cX4_stepNumber 36 = .ok (.bipush 10, 2) := by decide +kernel
theorem dX4_stepNumber_38 : decode cX4_stepNumber 38 = .ok (.imul, 1) := by decide +kernel
theorem dX4_stepNumber_39 : decode cX4_stepNumber 39 = .ok (.aload_n 0, 1) := by decide +kernel
theorem dX4_stepNumber_40 : decode cX4_stepNumber 40 = .ok (.getfield 9, 3) := by decide +kernel
theorem dX4_stepNumber_43 : decode cX4_stepNumber 43 = .ok (.aload_n 0, 1) := by decide +kernel
theorem dX4_stepNumber_44 : decode cX4_stepNumber 44 = .ok (.getfield 19, 3) := by decide +kernel
theorem dX4_stepNumber_47 : decode cX4_stepNumber 47 = .ok (.baload, 1) := by decide +kernel
theorem dX4_stepNumber_48 : decode cX4_stepNumber 48 = .ok (.iadd, 1) := by decide +kernel
theorem dX4_stepNumber_49 : decode cX4_stepNumber 49 = .ok (.bipush 48, 2) := by decide +kernel
theorem dX4_stepNumber_51 : decode cX4_stepNumber 51 = .ok (.isub, 1) := by decide +kernel
theorem dX4_stepNumber_52 : decode cX4_stepNumber 52 = .ok (.putfield 41, 3) := by decide +kernel
theorem dX4_stepNumber_55 : decode cX4_stepNumber 55 = .ok (.aload_n 0, 1) := by decide +kernel
theorem dX4_stepNumber_56 : decode cX4_stepNumber 56 = .ok (.dup, 1) := by decide +kernel
theorem dX4_stepNumber_57 : decode cX4_stepNumber 57 = .ok (.getfield 19, 3) := by decide +kernel
theorem dX4_stepNumber_60 : decode cX4_stepNumber 60 = .ok (.iconst 1, 1) := by decide +kernel
theorem dX4_stepNumber_61 : decode cX4_stepNumber 61 = .ok (.iadd, 1) := by decide +kernel
theorem dX4_stepNumber_62 : decode cX4_stepNumber 62 = .ok (.putfield 19, 3) := by decide +kernel
theorem dX4_stepNumber_65 : decode cX4_stepNumber 65 = .ok (.goto (-60), 3) := by decide +kernel
theorem dX4_stepNumber_68 : decode cX4_stepNumber 68 = .ok (.aload_n 0, 1) := by decide +kernel
theorem dX4_stepNumber_69 : decode cX4_stepNumber 69 = .ok (.aload_n 0, 1) := by decide +kernel
theorem dX4_stepNumber_70 : decode cX4_stepNumber 70 = .ok (.getfield 19, 3) := by decide +kernel
theorem dX4_stepNumber_73 : decode cX4_stepNumber 73 = .ok (.aload_n 0, 1) := by decide +kernel
theorem dX4_stepNumber_74 : decode cX4_stepNumber 74 = .ok (.getfield 22, 3) := by decide +kernel
theorem dX4_stepNumber_77 : decode cX4_stepNumber 77 = .ok (.isub, 1) := by decide +kernel
theorem dX4_stepNumber_78 : decode cX4_stepNumber 78 = .ok (.iconst 2, 1) := by decide +kernel
theorem dX4_stepNumber_79 : decode cX4_stepNumber 79 = .ok (.if_icmp .le 7, 3) := by decide +kernel
theorem dX4_stepNumber_82 : decode cX4_stepNumber 82 = .ok (.iconst 4, 1) := by decide +kernel
theorem dX4_stepNumber_83 : decode cX4_stepNumber 83 = .ok (.goto 4, 3) := by decide +kernel
theorem dX4_stepNumber_86 : decode cX4_stepNumber 86 = .ok (.iconst 2, 1) := by decide +kernel
theorem dX4_stepNumber_87 : decode cX4_stepNumber 87 = .ok (.putfield 25, 3) := by decide +kernel
theorem dX4_stepNumber_90 : decode cX4_stepNumber 90 = .ok (.return_, 1) := by decide +kernel
set_option maxHeartbeats 4000000 in
set_option maxRecDepth 100000 in
theorem c_X4_stepNumber {l : Launch} {Y : ww_Y} {ad : Nat → Nat} {G : List ww_L} (o0 : Nat) (h0 : ww_at G o0 (ww_LTape o0)) (σ : ww_M) : ww_Cn l Y ad G yX4_stepNumber cX4_stepNumber 1 none 3 [.ref (ad o0)] σ ((f_X4_stepNumber σ o0).bind ww_rv) := by
  refine ww_met (by decide +kernel) (Nat.le_of_ble_eq_true rfl) ?_
  intro X hC hR
  have hC : ww_C X l Y ad G 3 cX4_stepNumber 1 RX4 := hC
  show ww_V X Y ad G 1 σ 0 [(0, .ref (ad o0))] [] ((f_X4_stepNumber σ o0).bind ww_rv)
  have hJ68 : ∀ (σ : ww_M), ww_V X Y ad G 1 σ 68 [(0, .ref (ad o0))] [] ((f_X4_stepNumber_j68 σ o0).bind ww_rv) := by
    intro σ
    unfold f_X4_stepNumber_j68
    refine ww_aload_n (pc := 68) hC 0 rfl dX4_stepNumber_68 rfl ?_
    refine ww_aload_n (pc := 69) hC 0 rfl dX4_stepNumber_69 rfl ?_
    refine ww_geti (pc := 70) (Cl := RX4) (T := TX4) (N := 6) (j := 2) (ref := RX4) hC (h0 0 _ rfl) rfl inT_X4 (by decide) mw_94 rfl rfl dX4_stepNumber_70 ?_
    refine ww_aload_n (pc := 73) hC 0 rfl dX4_stepNumber_73 rfl ?_
    refine ww_geti (pc := 74) (Cl := RX4) (T := TX4) (N := 6) (j := 4) (ref := RX4) hC (h0 0 _ rfl) rfl inT_X4 (by decide) mw_98 rfl rfl dX4_stepNumber_74 ?_
    refine ww_isub (pc := 77) hC dX4_stepNumber_77 ?_
    refine ww_iconst (pc := 78) (v := 2) hC dX4_stepNumber_78 rfl ?_
    refine ww_icmp_le (pc := 79) (tgt := 86) hC dX4_stepNumber_79 (by decide) ?_ ?_
    · refine ww_iconst (pc := 86) (v := 2) hC dX4_stepNumber_86 rfl ?_
      refine ww_puti (pc := 87) (Cl := RX4) (T := TX4) (N := 6) (j := 3) (ref := RX4) hC (h0 0 _ rfl) rfl inT_X4 (by decide) mw_96 rfl tyX4 tyX4_ok nmX4 rfl rfl (tyX4_ok 3 (by decide)) dX4_stepNumber_87 ?_
      exact ww_return (pc := 90) hC hR dX4_stepNumber_90 rfl
    · refine ww_iconst (pc := 82) (v := 4) hC dX4_stepNumber_82 rfl ?_
      refine ww_goto (pc := 83) (tgt := 87) hC dX4_stepNumber_83 (by decide) ?_
      refine ww_puti (pc := 87) (Cl := RX4) (T := TX4) (N := 6) (j := 3) (ref := RX4) hC (h0 0 _ rfl) rfl inT_X4 (by decide) mw_96 rfl tyX4 tyX4_ok nmX4 rfl rfl (tyX4_ok 3 (by decide)) dX4_stepNumber_87 ?_
      exact ww_return (pc := 90) hC hR dX4_stepNumber_90 rfl
  have hJ5 : ∀ (σ : ww_M), ww_V X Y ad G 1 σ 5 [(0, .ref (ad o0))] [] ((f_X4_stepNumber_j5 σ o0).bind ww_rv) := by
    intro σ
    unfold f_X4_stepNumber_j5
    refine ww_assoc ?_
    refine ww_loop (f := f_X4_stepNumber_b5 o0) (fun a5 => a5) (fun a5 => [(0, .ref (ad o0))]) (fun b5 => b5) (fun b5 => [(0, .ref (ad o0))]) 68 (fun b5 => ?_) (fun a5 KK5 hc5 hx5 => ?_) ww_F σ
    · exact hJ68 b5
    · unfold f_X4_stepNumber_b5
      refine ww_aload_n (pc := 5) hC 0 rfl dX4_stepNumber_5 rfl ?_
      refine ww_geti (pc := 6) (Cl := RX4) (T := TX4) (N := 6) (j := 2) (ref := RX4) hC (h0 0 _ rfl) rfl inT_X4 (by decide) mw_94 rfl rfl dX4_stepNumber_6 ?_
      refine ww_aload_n (pc := 9) hC 0 rfl dX4_stepNumber_9 rfl ?_
      refine ww_geti (pc := 10) (Cl := RX4) (T := TX4) (N := 6) (j := 1) (ref := RX4) hC (h0 0 _ rfl) rfl inT_X4 (by decide) mw_90 rfl rfl dX4_stepNumber_10 ?_
      refine ww_icmp_ge (pc := 13) (tgt := 68) hC dX4_stepNumber_13 (by decide) ?_ ?_
      · exact hx5 a5
      · refine ww_aload_n (pc := 16) hC 0 rfl dX4_stepNumber_16 rfl ?_
        refine ww_getr (pc := 17) (Cl := RX4) (T := TX4) (N := 6) (j := 0) (ref := RX4) hC (h0 0 _ rfl) rfl inT_X4 (by decide) mw_89 rfl rfl dX4_stepNumber_17 ?_
        refine ww_aload_n (pc := 20) hC 0 rfl dX4_stepNumber_20 rfl ?_
        refine ww_geti (pc := 21) (Cl := RX4) (T := TX4) (N := 6) (j := 2) (ref := RX4) hC (h0 0 _ rfl) rfl inT_X4 (by decide) mw_94 rfl rfl dX4_stepNumber_21 ?_
        refine ww_bald (pc := 24) hC (h0 1 _ rfl) dX4_stepNumber_24 ?_
        refine ww_callSi (pc := 25) (st := []) (As := [.int (a5 (o0 + 1) (ww_ix (a5 o0 2)))]) hC (c_X4_isFigure a5 (a5 (o0 + 1) (ww_ix (a5 o0 2)))) mm_X4_isFigure mw_365 (by omega) (by decide) (Nat.le_of_ble_eq_true rfl) rfl dX4_stepNumber_25 (fun v25 => ?_)
        refine ww_if_eq (pc := 28) (tgt := 68) hC dX4_stepNumber_28 (by decide) ?_ ?_
        · exact hx5 a5
        · refine ww_aload_n (pc := 31) hC 0 rfl dX4_stepNumber_31 rfl ?_
          refine ww_aload_n (pc := 32) hC 0 rfl dX4_stepNumber_32 rfl ?_
          refine ww_geti (pc := 33) (Cl := RX4) (T := TX4) (N := 6) (j := 5) (ref := RX4) hC (h0 0 _ rfl) rfl inT_X4 (by decide) mw_100 rfl rfl dX4_stepNumber_33 ?_
          refine ww_bipush (pc := 36) (v := 10) hC dX4_stepNumber_36 rfl ?_
          refine ww_imul (pc := 38) hC dX4_stepNumber_38 ?_
          refine ww_aload_n (pc := 39) hC 0 rfl dX4_stepNumber_39 rfl ?_
          refine ww_getr (pc := 40) (Cl := RX4) (T := TX4) (N := 6) (j := 0) (ref := RX4) hC (h0 0 _ rfl) rfl inT_X4 (by decide) mw_89 rfl rfl dX4_stepNumber_40 ?_
          refine ww_aload_n (pc := 43) hC 0 rfl dX4_stepNumber_43 rfl ?_
          refine ww_geti (pc := 44) (Cl := RX4) (T := TX4) (N := 6) (j := 2) (ref := RX4) hC (h0 0 _ rfl) rfl inT_X4 (by decide) mw_94 rfl rfl dX4_stepNumber_44 ?_
          refine ww_bald (pc := 47) hC (h0 1 _ rfl) dX4_stepNumber_47 ?_
          refine ww_iadd (pc := 48) hC dX4_stepNumber_48 ?_
          refine ww_bipush (pc := 49) (v := 48) hC dX4_stepNumber_49 rfl ?_
          refine ww_isub (pc := 51) hC dX4_stepNumber_51 ?_
          refine ww_puti (pc := 52) (Cl := RX4) (T := TX4) (N := 6) (j := 5) (ref := RX4) hC (h0 0 _ rfl) rfl inT_X4 (by decide) mw_100 rfl tyX4 tyX4_ok nmX4 rfl rfl (tyX4_ok 5 (by decide)) dX4_stepNumber_52 ?_
          refine ww_aload_n (pc := 55) hC 0 rfl dX4_stepNumber_55 rfl ?_
          refine ww_dup (pc := 56) hC dX4_stepNumber_56 rfl ?_
          refine ww_geti (pc := 57) (Cl := RX4) (T := TX4) (N := 6) (j := 2) (ref := RX4) hC (h0 0 _ rfl) rfl inT_X4 (by decide) mw_94 rfl rfl dX4_stepNumber_57 ?_
          refine ww_iconst (pc := 60) (v := 1) hC dX4_stepNumber_60 rfl ?_
          refine ww_iadd (pc := 61) hC dX4_stepNumber_61 ?_
          refine ww_puti (pc := 62) (Cl := RX4) (T := TX4) (N := 6) (j := 2) (ref := RX4) hC (h0 0 _ rfl) rfl inT_X4 (by decide) mw_94 rfl tyX4 tyX4_ok nmX4 rfl rfl (tyX4_ok 2 (by decide)) dX4_stepNumber_62 ?_
          refine ww_goto (pc := 65) (tgt := 5) hC dX4_stepNumber_65 (by decide) ?_
          exact hc5 (ww_up (ww_up a5 o0 5 ((((a5 o0 5) * 10) + (a5 (o0 + 1) (ww_ix (a5 o0 2)))) - 48)) o0 2 (((ww_up a5 o0 5 ((((a5 o0 5) * 10) + (a5 (o0 + 1) (ww_ix (a5 o0 2)))) - 48)) o0 2) + 1))
  unfold f_X4_stepNumber
  refine ww_aload_n (pc := 0) hC 0 rfl dX4_stepNumber_0 rfl ?_
  refine ww_iconst (pc := 1) (v := 0) hC dX4_stepNumber_1 rfl ?_
  refine ww_puti (pc := 2) (Cl := RX4) (T := TX4) (N := 6) (j := 5) (ref := RX4) hC (h0 0 _ rfl) rfl inT_X4 (by decide) mw_100 rfl tyX4 tyX4_ok nmX4 rfl rfl (tyX4_ok 5 (by decide)) dX4_stepNumber_2 ?_
  exact hJ5 (ww_up σ o0 5 0)
theorem dX4_step_0 : decode cX4_step 0 = .ok (.aload_n 0, 1) := by decide +kernel
theorem dX4_step_1 : decode cX4_step 1 = .ok (.getfield 19, 3) := by decide +kernel
theorem dX4_step_4 : decode cX4_step 4 = .ok (.aload_n 0, 1) := by decide +kernel
theorem dX4_step_5 : decode cX4_step 5 = .ok (.getfield 15, 3) := by decide +kernel
theorem dX4_step_8 : decode cX4_step 8 = .ok (.if_icmp .ge 30, 3) := by decide +kernel
theorem dX4_step_11 : decode cX4_step 11 = .ok (.aload_n 0, 1) := by decide +kernel
theorem dX4_step_12 : decode cX4_step 12 = .ok (.getfield 9, 3) := by decide +kernel
theorem dX4_step_15 : decode cX4_step 15 = .ok (.aload_n 0, 1) := by decide +kernel
theorem dX4_step_16 : decode cX4_step 16 = .ok (.getfield 19, 3) := by decide +kernel
theorem dX4_step_19 : decode cX4_step 19 = .ok (.baload, 1) := by decide +kernel
theorem dX4_step_20 : decode cX4_step 20 = .ok (.bipush 32, 2) := by decide +kernel
theorem dX4_step_22 : decode cX4_step 22 = .ok (.if_icmp .ne 16, 3) := by decide +kernel
theorem dX4_step_25 : decode cX4_step 25 = .ok (.aload_n 0, 1) := by decide +kernel
theorem dX4_step_26 : decode cX4_step 26 = .ok (.dup, 1) := by decide +kernel
theorem dX4_step_27 : decode cX4_step 27 = .ok (.getfield 19, 3) := by decide +kernel
theorem dX4_step_30 : decode cX4_step 30 = .ok (.iconst 1, 1) := by decide +kernel
theorem dX4_step_31 : decode cX4_step 31 = .ok (.iadd, 1) := by decide +kernel
theorem dX4_step_32 : decode cX4_step 32 = .ok (.putfield 19, 3) := by decide +kernel
theorem dX4_step_35 : decode cX4_step 35 = .ok (.goto (-35), 3) := by decide +kernel
theorem dX4_step_38 : decode cX4_step 38 = .ok (.aload_n 0, 1) := by decide +kernel
theorem dX4_step_39 : decode cX4_step 39 = .ok (.aload_n 0, 1) := by decide +kernel
theorem dX4_step_40 : decode cX4_step 40 = .ok (.getfield 19, 3) := by decide +kernel
theorem dX4_step_43 : decode cX4_step 43 = .ok (.putfield 22, 3) := by decide +kernel
theorem dX4_step_46 : decode cX4_step 46 = .ok (.aload_n 0, 1) := by decide +kernel
theorem dX4_step_47 : decode cX4_step 47 = .ok (.getfield 19, 3) := by decide +kernel
theorem dX4_step_50 : decode cX4_step 50 = .ok (.aload_n 0, 1) := by decide +kernel
theorem dX4_step_51 : decode cX4_step 51 = .ok (.getfield 15, 3) := by decide +kernel
theorem dX4_step_54 : decode cX4_step 54 = .ok (.if_icmp .lt 11, 3) := by decide +kernel
theorem dX4_step_57 : decode cX4_step 57 = .ok (.aload_n 0, 1) := by decide +kernel
theorem dX4_step_58 : decode cX4_step 58 = .ok (.iconst 0, 1) := by decide +kernel
theorem dX4_step_59 : decode cX4_step 59 = .ok (.putfield 25, 3) := by decide +kernel
theorem dX4_step_62 : decode cX4_step 62 = .ok (.goto 80, 3) := by decide +kernel
theorem dX4_step_65 : decode cX4_step 65 = .ok (.aload_n 0, 1) := by decide +kernel
theorem dX4_step_66 : decode cX4_step 66 = .ok (.getfield 9, 3) := by decide +kernel
theorem dX4_step_69 : decode cX4_step 69 = .ok (.aload_n 0, 1) := by decide +kernel
theorem dX4_step_70 : decode cX4_step 70 = .ok (.getfield 19, 3) := by decide +kernel
theorem dX4_step_73 : decode cX4_step 73 = .ok (.baload, 1) := by decide +kernel
theorem dX4_step_74 : decode cX4_step 74 = .ok (.invokestatic 28, 3) := by decide +kernel
theorem dX4_step_77 : decode cX4_step 77 = .ok (.ifCond .eq 10, 3) := by decide +kernel
theorem dX4_step_80 : decode cX4_step 80 = .ok (.aload_n 0, 1) := by decide +kernel
theorem dX4_step_81 : decode cX4_step 81 = .ok (.invokevirtual 32, 3) := by decide +kernel
theorem dX4_step_84 : decode cX4_step 84 = .ok (.goto 58, 3) := by decide +kernel
theorem dX4_step_87 : decode cX4_step 87 = .ok (.aload_n 0, 1) := by decide +kernel
theorem dX4_step_88 : decode cX4_step 88 = .ok (.getfield 9, 3) := by decide +kernel
theorem dX4_step_91 : decode cX4_step 91 = .ok (.aload_n 0, 1) := by decide +kernel
theorem dX4_step_92 : decode cX4_step 92 = .ok (.getfield 19, 3) := by decide +kernel
theorem dX4_step_95 : decode cX4_step 95 = .ok (.baload, 1) := by decide +kernel
theorem dX4_step_96 : decode cX4_step 96 = .ok (.invokestatic 35, 3) := by decide +kernel
theorem dX4_step_99 : decode cX4_step 99 = .ok (.ifCond .eq 10, 3) := by decide +kernel
theorem dX4_step_102 : decode cX4_step 102 = .ok (.aload_n 0, 1) := by decide +kernel
theorem dX4_step_103 : decode cX4_step 103 = .ok (.invokevirtual 38, 3) := by decide +kernel
theorem dX4_step_106 : decode cX4_step 106 = .ok (.goto 36, 3) := by decide +kernel
theorem dX4_step_109 : decode cX4_step 109 = .ok (.aload_n 0, 1) := by decide +kernel
theorem dX4_step_110 : decode cX4_step 110 = .ok (.aload_n 0, 1) := by decide +kernel
theorem dX4_step_111 : decode cX4_step 111 = .ok (.getfield 9, 3) := by decide +kernel
theorem dX4_step_114 : decode cX4_step 114 = .ok (.aload_n 0, 1) := by decide +kernel
theorem dX4_step_115 : decode cX4_step 115 = .ok (.getfield 19, 3) := by decide +kernel
theorem dX4_step_118 : decode cX4_step 118 = .ok (.baload, 1) := by decide +kernel
theorem dX4_step_119 : decode cX4_step 119 = .ok (.bipush 59, 2) := by decide +kernel
theorem dX4_step_121 : decode cX4_step 121 = .ok (.if_icmp .ne 7, 3) := by decide +kernel
theorem dX4_step_124 : decode cX4_step 124 = .ok (.iconst 3, 1) := by decide +kernel
theorem dX4_step_125 : decode cX4_step 125 = .ok (.goto 4, 3) := by decide +kernel
theorem dX4_step_128 : decode cX4_step 128 = .ok (.iconst 4, 1) := by decide +kernel
theorem dX4_step_129 : decode cX4_step 129 = .ok (.putfield 25, 3) := by decide +kernel
theorem dX4_step_132 : decode cX4_step 132 = .ok (.aload_n 0, 1) := by decide +kernel
theorem dX4_step_133 : decode cX4_step 133 = .ok (.dup, 1) := by decide +kernel
theorem dX4_step_134 : decode cX4_step 134 = .ok (.getfield 19, 3) := by decide +kernel
theorem dX4_step_137 : decode cX4_step 137 = .ok (.iconst 1, 1) := by decide +kernel
theorem dX4_step_138 : decode cX4_step 138 = .ok (.iadd, 1) := by decide +kernel
theorem dX4_step_139 : decode cX4_step 139 = .ok (.putfield 19, 3) := by decide +kernel
theorem dX4_step_142 : decode cX4_step 142 = .ok (.return_, 1) := by decide +kernel
set_option maxHeartbeats 4000000 in
set_option maxRecDepth 100000 in
theorem c_X4_step {l : Launch} {Y : ww_Y} {ad : Nat → Nat} {G : List ww_L} (o0 : Nat) (h0 : ww_at G o0 (ww_LTape o0)) (σ : ww_M) : ww_Cn l Y ad G yX4_step cX4_step 1 none 4 [.ref (ad o0)] σ ((f_X4_step σ o0).bind ww_rv) := by
  refine ww_met (by decide +kernel) (Nat.le_of_ble_eq_true rfl) ?_
  intro X hC hR
  have hC : ww_C X l Y ad G 4 cX4_step 1 RX4 := hC
  show ww_V X Y ad G 1 σ 0 [(0, .ref (ad o0))] [] ((f_X4_step σ o0).bind ww_rv)
  have hJ38 : ∀ (σ : ww_M), ww_V X Y ad G 1 σ 38 [(0, .ref (ad o0))] [] ((f_X4_step_j38 σ o0).bind ww_rv) := by
    intro σ
    unfold f_X4_step_j38
    refine ww_aload_n (pc := 38) hC 0 rfl dX4_step_38 rfl ?_
    refine ww_aload_n (pc := 39) hC 0 rfl dX4_step_39 rfl ?_
    refine ww_geti (pc := 40) (Cl := RX4) (T := TX4) (N := 6) (j := 2) (ref := RX4) hC (h0 0 _ rfl) rfl inT_X4 (by decide) mw_94 rfl rfl dX4_step_40 ?_
    refine ww_puti (pc := 43) (Cl := RX4) (T := TX4) (N := 6) (j := 4) (ref := RX4) hC (h0 0 _ rfl) rfl inT_X4 (by decide) mw_98 rfl tyX4 tyX4_ok nmX4 rfl rfl (tyX4_ok 4 (by decide)) dX4_step_43 ?_
    refine ww_aload_n (pc := 46) hC 0 rfl dX4_step_46 rfl ?_
    refine ww_geti (pc := 47) (Cl := RX4) (T := TX4) (N := 6) (j := 2) (ref := RX4) hC (h0 0 _ rfl) rfl inT_X4 (by decide) mw_94 rfl rfl dX4_step_47 ?_
    refine ww_aload_n (pc := 50) hC 0 rfl dX4_step_50 rfl ?_
    refine ww_geti (pc := 51) (Cl := RX4) (T := TX4) (N := 6) (j := 1) (ref := RX4) hC (h0 0 _ rfl) rfl inT_X4 (by decide) mw_90 rfl rfl dX4_step_51 ?_
    refine ww_icmp_lt (pc := 54) (tgt := 65) hC dX4_step_54 (by decide) ?_ ?_
    · refine ww_aload_n (pc := 65) hC 0 rfl dX4_step_65 rfl ?_
      refine ww_getr (pc := 66) (Cl := RX4) (T := TX4) (N := 6) (j := 0) (ref := RX4) hC (h0 0 _ rfl) rfl inT_X4 (by decide) mw_89 rfl rfl dX4_step_66 ?_
      refine ww_aload_n (pc := 69) hC 0 rfl dX4_step_69 rfl ?_
      refine ww_geti (pc := 70) (Cl := RX4) (T := TX4) (N := 6) (j := 2) (ref := RX4) hC (h0 0 _ rfl) rfl inT_X4 (by decide) mw_94 rfl rfl dX4_step_70 ?_
      refine ww_bald (pc := 73) hC (h0 1 _ rfl) dX4_step_73 ?_
      refine ww_callSi (pc := 74) (st := []) (As := [.int ((ww_up σ o0 4 (σ o0 2)) (o0 + 1) (ww_ix ((ww_up σ o0 4 (σ o0 2)) o0 2)))]) hC (c_X4_isLetter (ww_up σ o0 4 (σ o0 2)) ((ww_up σ o0 4 (σ o0 2)) (o0 + 1) (ww_ix ((ww_up σ o0 4 (σ o0 2)) o0 2)))) mm_X4_isLetter mw_357 (by omega) (by decide) (Nat.le_of_ble_eq_true rfl) rfl dX4_step_74 (fun v74 => ?_)
      refine ww_if_eq (pc := 77) (tgt := 87) hC dX4_step_77 (by decide) ?_ ?_
      · refine ww_aload_n (pc := 87) hC 0 rfl dX4_step_87 rfl ?_
        refine ww_getr (pc := 88) (Cl := RX4) (T := TX4) (N := 6) (j := 0) (ref := RX4) hC (h0 0 _ rfl) rfl inT_X4 (by decide) mw_89 rfl rfl dX4_step_88 ?_
        refine ww_aload_n (pc := 91) hC 0 rfl dX4_step_91 rfl ?_
        refine ww_geti (pc := 92) (Cl := RX4) (T := TX4) (N := 6) (j := 2) (ref := RX4) hC (h0 0 _ rfl) rfl inT_X4 (by decide) mw_94 rfl rfl dX4_step_92 ?_
        refine ww_bald (pc := 95) hC (h0 1 _ rfl) dX4_step_95 ?_
        refine ww_callSi (pc := 96) (st := []) (As := [.int ((ww_up σ o0 4 (σ o0 2)) (o0 + 1) (ww_ix ((ww_up σ o0 4 (σ o0 2)) o0 2)))]) hC (c_X4_isFigure (ww_up σ o0 4 (σ o0 2)) ((ww_up σ o0 4 (σ o0 2)) (o0 + 1) (ww_ix ((ww_up σ o0 4 (σ o0 2)) o0 2)))) mm_X4_isFigure mw_365 (by omega) (by decide) (Nat.le_of_ble_eq_true rfl) rfl dX4_step_96 (fun v96 => ?_)
        refine ww_if_eq (pc := 99) (tgt := 109) hC dX4_step_99 (by decide) ?_ ?_
        · refine ww_aload_n (pc := 109) hC 0 rfl dX4_step_109 rfl ?_
          refine ww_aload_n (pc := 110) hC 0 rfl dX4_step_110 rfl ?_
          refine ww_getr (pc := 111) (Cl := RX4) (T := TX4) (N := 6) (j := 0) (ref := RX4) hC (h0 0 _ rfl) rfl inT_X4 (by decide) mw_89 rfl rfl dX4_step_111 ?_
          refine ww_aload_n (pc := 114) hC 0 rfl dX4_step_114 rfl ?_
          refine ww_geti (pc := 115) (Cl := RX4) (T := TX4) (N := 6) (j := 2) (ref := RX4) hC (h0 0 _ rfl) rfl inT_X4 (by decide) mw_94 rfl rfl dX4_step_115 ?_
          refine ww_bald (pc := 118) hC (h0 1 _ rfl) dX4_step_118 ?_
          refine ww_bipush (pc := 119) (v := 59) hC dX4_step_119 rfl ?_
          refine ww_icmp_ne (pc := 121) (tgt := 128) hC dX4_step_121 (by decide) ?_ ?_
          · refine ww_iconst (pc := 128) (v := 4) hC dX4_step_128 rfl ?_
            refine ww_puti (pc := 129) (Cl := RX4) (T := TX4) (N := 6) (j := 3) (ref := RX4) hC (h0 0 _ rfl) rfl inT_X4 (by decide) mw_96 rfl tyX4 tyX4_ok nmX4 rfl rfl (tyX4_ok 3 (by decide)) dX4_step_129 ?_
            refine ww_aload_n (pc := 132) hC 0 rfl dX4_step_132 rfl ?_
            refine ww_dup (pc := 133) hC dX4_step_133 rfl ?_
            refine ww_geti (pc := 134) (Cl := RX4) (T := TX4) (N := 6) (j := 2) (ref := RX4) hC (h0 0 _ rfl) rfl inT_X4 (by decide) mw_94 rfl rfl dX4_step_134 ?_
            refine ww_iconst (pc := 137) (v := 1) hC dX4_step_137 rfl ?_
            refine ww_iadd (pc := 138) hC dX4_step_138 ?_
            refine ww_puti (pc := 139) (Cl := RX4) (T := TX4) (N := 6) (j := 2) (ref := RX4) hC (h0 0 _ rfl) rfl inT_X4 (by decide) mw_94 rfl tyX4 tyX4_ok nmX4 rfl rfl (tyX4_ok 2 (by decide)) dX4_step_139 ?_
            exact ww_return (pc := 142) hC hR dX4_step_142 rfl
          · refine ww_iconst (pc := 124) (v := 3) hC dX4_step_124 rfl ?_
            refine ww_goto (pc := 125) (tgt := 129) hC dX4_step_125 (by decide) ?_
            refine ww_puti (pc := 129) (Cl := RX4) (T := TX4) (N := 6) (j := 3) (ref := RX4) hC (h0 0 _ rfl) rfl inT_X4 (by decide) mw_96 rfl tyX4 tyX4_ok nmX4 rfl rfl (tyX4_ok 3 (by decide)) dX4_step_129 ?_
            refine ww_aload_n (pc := 132) hC 0 rfl dX4_step_132 rfl ?_
            refine ww_dup (pc := 133) hC dX4_step_133 rfl ?_
            refine ww_geti (pc := 134) (Cl := RX4) (T := TX4) (N := 6) (j := 2) (ref := RX4) hC (h0 0 _ rfl) rfl inT_X4 (by decide) mw_94 rfl rfl dX4_step_134 ?_
            refine ww_iconst (pc := 137) (v := 1) hC dX4_step_137 rfl ?_
            refine ww_iadd (pc := 138) hC dX4_step_138 ?_
            refine ww_puti (pc := 139) (Cl := RX4) (T := TX4) (N := 6) (j := 2) (ref := RX4) hC (h0 0 _ rfl) rfl inT_X4 (by decide) mw_94 rfl tyX4 tyX4_ok nmX4 rfl rfl (tyX4_ok 2 (by decide)) dX4_step_139 ?_
            exact ww_return (pc := 142) hC hR dX4_step_142 rfl
        · refine ww_aload_n (pc := 102) hC 0 rfl dX4_step_102 rfl ?_
          refine ww_callVv (pc := 103) (st := []) (As := []) hC (c_X4_stepNumber o0 h0 (ww_up σ o0 4 (σ o0 2))) mm_X4_stepNumber mw_368 (h0 0 _ rfl) rfl (by omega) (by decide) (Nat.le_of_ble_eq_true rfl) rfl dX4_step_103 (fun v103 => ?_)
          refine ww_goto (pc := 106) (tgt := 142) hC dX4_step_106 (by decide) ?_
          exact ww_return (pc := 142) hC hR dX4_step_142 rfl
      · refine ww_aload_n (pc := 80) hC 0 rfl dX4_step_80 rfl ?_
        refine ww_callVv (pc := 81) (st := []) (As := []) hC (c_X4_stepName o0 h0 (ww_up σ o0 4 (σ o0 2))) mm_X4_stepName mw_361 (h0 0 _ rfl) rfl (by omega) (by decide) (Nat.le_of_ble_eq_true rfl) rfl dX4_step_81 (fun v81 => ?_)
        refine ww_goto (pc := 84) (tgt := 142) hC dX4_step_84 (by decide) ?_
        exact ww_return (pc := 142) hC hR dX4_step_142 rfl
    · refine ww_aload_n (pc := 57) hC 0 rfl dX4_step_57 rfl ?_
      refine ww_iconst (pc := 58) (v := 0) hC dX4_step_58 rfl ?_
      refine ww_puti (pc := 59) (Cl := RX4) (T := TX4) (N := 6) (j := 3) (ref := RX4) hC (h0 0 _ rfl) rfl inT_X4 (by decide) mw_96 rfl tyX4 tyX4_ok nmX4 rfl rfl (tyX4_ok 3 (by decide)) dX4_step_59 ?_
      refine ww_goto (pc := 62) (tgt := 142) hC dX4_step_62 (by decide) ?_
      exact ww_return (pc := 142) hC hR dX4_step_142 rfl
  have hJ0 : ∀ (σ : ww_M), ww_V X Y ad G 1 σ 0 [(0, .ref (ad o0))] [] ((f_X4_step_j0 σ o0).bind ww_rv) := by
    intro σ
    unfold f_X4_step_j0
    refine ww_assoc ?_
    refine ww_loop (f := f_X4_step_b0 o0) (fun a0 => a0) (fun a0 => [(0, .ref (ad o0))]) (fun b0 => b0) (fun b0 => [(0, .ref (ad o0))]) 38 (fun b0 => ?_) (fun a0 KK0 hc0 hx0 => ?_) ww_F σ
    · exact hJ38 b0
    · unfold f_X4_step_b0
      refine ww_aload_n (pc := 0) hC 0 rfl dX4_step_0 rfl ?_
      refine ww_geti (pc := 1) (Cl := RX4) (T := TX4) (N := 6) (j := 2) (ref := RX4) hC (h0 0 _ rfl) rfl inT_X4 (by decide) mw_94 rfl rfl dX4_step_1 ?_
      refine ww_aload_n (pc := 4) hC 0 rfl dX4_step_4 rfl ?_
      refine ww_geti (pc := 5) (Cl := RX4) (T := TX4) (N := 6) (j := 1) (ref := RX4) hC (h0 0 _ rfl) rfl inT_X4 (by decide) mw_90 rfl rfl dX4_step_5 ?_
      refine ww_icmp_ge (pc := 8) (tgt := 38) hC dX4_step_8 (by decide) ?_ ?_
      · exact hx0 a0
      · refine ww_aload_n (pc := 11) hC 0 rfl dX4_step_11 rfl ?_
        refine ww_getr (pc := 12) (Cl := RX4) (T := TX4) (N := 6) (j := 0) (ref := RX4) hC (h0 0 _ rfl) rfl inT_X4 (by decide) mw_89 rfl rfl dX4_step_12 ?_
        refine ww_aload_n (pc := 15) hC 0 rfl dX4_step_15 rfl ?_
        refine ww_geti (pc := 16) (Cl := RX4) (T := TX4) (N := 6) (j := 2) (ref := RX4) hC (h0 0 _ rfl) rfl inT_X4 (by decide) mw_94 rfl rfl dX4_step_16 ?_
        refine ww_bald (pc := 19) hC (h0 1 _ rfl) dX4_step_19 ?_
        refine ww_bipush (pc := 20) (v := 32) hC dX4_step_20 rfl ?_
        refine ww_icmp_ne (pc := 22) (tgt := 38) hC dX4_step_22 (by decide) ?_ ?_
        · exact hx0 a0
        · refine ww_aload_n (pc := 25) hC 0 rfl dX4_step_25 rfl ?_
          refine ww_dup (pc := 26) hC dX4_step_26 rfl ?_
          refine ww_geti (pc := 27) (Cl := RX4) (T := TX4) (N := 6) (j := 2) (ref := RX4) hC (h0 0 _ rfl) rfl inT_X4 (by decide) mw_94 rfl rfl dX4_step_27 ?_
          refine ww_iconst (pc := 30) (v := 1) hC dX4_step_30 rfl ?_
          refine ww_iadd (pc := 31) hC dX4_step_31 ?_
          refine ww_puti (pc := 32) (Cl := RX4) (T := TX4) (N := 6) (j := 2) (ref := RX4) hC (h0 0 _ rfl) rfl inT_X4 (by decide) mw_94 rfl tyX4 tyX4_ok nmX4 rfl rfl (tyX4_ok 2 (by decide)) dX4_step_32 ?_
          refine ww_goto (pc := 35) (tgt := 0) hC dX4_step_35 (by decide) ?_
          exact hc0 (ww_up a0 o0 2 ((a0 o0 2) + 1))
  unfold f_X4_step
  exact hJ0 σ
theorem dX4_isName_0 : decode cX4_isName 0 = .ok (.aload_n 0, 1) := by decide +kernel
theorem dX4_isName_1 : decode cX4_isName 1 = .ok (.getfield 25, 3) := by decide +kernel
theorem dX4_isName_4 : decode cX4_isName 4 = .ok (.iconst 1, 1) := by decide +kernel
theorem dX4_isName_5 : decode cX4_isName 5 = .ok (.if_icmp .ne 19, 3) := by decide +kernel
theorem dX4_isName_8 : decode cX4_isName 8 = .ok (.aload_n 0, 1) := by decide +kernel
theorem dX4_isName_9 : decode cX4_isName 9 = .ok (.getfield 19, 3) := by decide +kernel
theorem dX4_isName_12 : decode cX4_isName 12 = .ok (.aload_n 0, 1) := by decide +kernel
theorem dX4_isName_13 : decode cX4_isName 13 = .ok (.getfield 22, 3) := by decide +kernel
theorem dX4_isName_16 : decode cX4_isName 16 = .ok (.isub, 1) := by decide +kernel
theorem dX4_isName_17 : decode cX4_isName 17 = .ok (.aload_n 1, 1) := by decide +kernel
theorem dX4_isName_18 : decode cX4_isName 18 = .ok (.invokevirtual 44, 3) := by decide +kernel
theorem dX4_isName_21 : decode cX4_isName 21 = .ok (.if_icmp .eq 5, 3) := by decide +kernel
theorem dX4_isName_24 : decode cX4_isName 24 = .ok (.iconst 0, 1) := by decide +kernel
theorem dX4_isName_25 : decode cX4_isName 25 = .ok (.ireturn, 1) := by decide +kernel
theorem dX4_isName_26 : decode cX4_isName 26 = .ok (.iconst 0, 1) := by decide +kernel
theorem dX4_isName_27 : decode cX4_isName 27 = .ok (.istore_n 2, 1) := by decide +kernel
theorem dX4_isName_28 : decode cX4_isName 28 = .ok (.iload_n 2, 1) := by decide +kernel
theorem dX4_isName_29 : decode cX4_isName 29 = .ok (.aload_n 1, 1) := by decide +kernel
theorem dX4_isName_30 : decode cX4_isName 30 = .ok (.invokevirtual 44, 3) := by decide +kernel
theorem dX4_isName_33 : decode cX4_isName 33 = .ok (.if_icmp .ge 30, 3) := by decide +kernel
theorem dX4_isName_36 : decode cX4_isName 36 = .ok (.aload_n 0, 1) := by decide +kernel
theorem dX4_isName_37 : decode cX4_isName 37 = .ok (.getfield 9, 3) := by decide +kernel
theorem dX4_isName_40 : decode cX4_isName 40 = .ok (.aload_n 0, 1) := by decide +kernel
theorem dX4_isName_41 : decode cX4_isName 41 = .ok (.getfield 22, 3) := by decide +kernel
theorem dX4_isName_44 : decode cX4_isName 44 = .ok (.iload_n 2, 1) := by decide +kernel
theorem dX4_isName_45 : decode cX4_isName 45 = .ok (.iadd, 1) := by decide +kernel
theorem dX4_isName_46 : decode cX4_isName 46 = .ok (.baload, 1) := by decide +kernel
theorem dX4_isName_47 : decode cX4_isName 47 = .ok (.aload_n 1, 1) := by decide +kernel
theorem dX4_isName_48 : decode cX4_isName 48 = .ok (.iload_n 2, 1) := by decide +kernel
theorem dX4_isName_49 : decode cX4_isName 49 = .ok (.invokevirtual 50, 3) := by decide +kernel
theorem dX4_isName_52 : decode cX4_isName 52 = .ok (.if_icmp .eq 5, 3) := by decide +kernel
theorem dX4_isName_55 : decode cX4_isName 55 = .ok (.iconst 0, 1) := by decide +kernel
theorem dX4_isName_56 : decode cX4_isName 56 = .ok (.ireturn, 1) := by decide +kernel
theorem dX4_isName_57 : decode cX4_isName 57 = .ok (.iinc 2 1, 3) := by decide +kernel
theorem dX4_isName_60 : decode cX4_isName 60 = .ok (.goto (-32), 3) := by decide +kernel
theorem dX4_isName_63 : decode cX4_isName 63 = .ok (.iconst 1, 1) := by decide +kernel
theorem dX4_isName_64 : decode cX4_isName 64 = .ok (.ireturn, 1) := by decide +kernel
set_option maxHeartbeats 4000000 in
set_option maxRecDepth 100000 in
theorem c_X4_isName {l : Launch} {Y : ww_Y} {ad : Nat → Nat} {G : List ww_L} (o0 : Nat) (h0 : ww_at G o0 (ww_LTape o0)) (o1 : Nat) (h1 : o1 < 6) (σ : ww_M) : ww_Cn l Y ad G yX4_isName cX4_isName 3 (some .boolean) 6 [.ref (ad o0), .ref (Y.2.2.2 o1)] σ ((f_X4_isName σ o0 o1).bind (ww_ri σ)) := by
  refine ww_met (by decide +kernel) (Nat.le_of_ble_eq_true rfl) ?_
  intro X hC hR
  have hC : ww_C X l Y ad G 6 cX4_isName 3 RX4 := hC
  show ww_V X Y ad G 3 σ 0 [(0, .ref (ad o0)), (1, .ref (Y.2.2.2 o1))] [] ((f_X4_isName σ o0 o1).bind (ww_ri σ))
  have hJ63 : ww_V X Y ad G 3 σ 63 [] [] ((f_X4_isName_j63 σ o0 o1).bind (ww_ri σ)) := by
    unfold f_X4_isName_j63
    refine ww_iconst (pc := 63) (v := 1) hC dX4_isName_63 rfl ?_
    exact ww_zreturn (pc := 64) hC hR dX4_isName_64 rfl rfl
  have hJ28 : ∀ (x2 : Int32), ww_V X Y ad G 3 σ 28 [(0, .ref (ad o0)), (1, .ref (Y.2.2.2 o1)), (2, .int x2)] [] ((f_X4_isName_j28 σ o0 o1 x2).bind (ww_ri σ)) := by
    intro x2
    unfold f_X4_isName_j28
    refine ww_assoc ?_
    refine ww_loopR (f := f_X4_isName_b28 σ o0 o1) (fun a28 => σ) (fun a28 => [(0, .ref (ad o0)), (1, .ref (Y.2.2.2 o1)), (2, .int a28)]) (fun b28 => σ) (fun b28 => []) 63 (fun b28 => ?_) (fun a28 KK28 hc28 hx28 hr28 => ?_) ww_F x2
    · exact hJ63
    · unfold f_X4_isName_b28
      refine ww_iload_n (pc := 28) hC 2 rfl dX4_isName_28 rfl ?_
      refine ww_aload_n (pc := 29) hC 1 rfl dX4_isName_29 rfl ?_
      refine ww_strlen (pc := 30) hC h1 mw_384 (by omega) (Nat.le_of_ble_eq_true rfl) dX4_isName_30 ?_
      refine ww_icmp_ge (pc := 33) (tgt := 63) hC dX4_isName_33 (by decide) ?_ ?_
      · refine ww_lv [] rfl ?_
        exact hx28 ()
      · refine ww_aload_n (pc := 36) hC 0 rfl dX4_isName_36 rfl ?_
        refine ww_getr (pc := 37) (Cl := RX4) (T := TX4) (N := 6) (j := 0) (ref := RX4) hC (h0 0 _ rfl) rfl inT_X4 (by decide) mw_89 rfl rfl dX4_isName_37 ?_
        refine ww_aload_n (pc := 40) hC 0 rfl dX4_isName_40 rfl ?_
        refine ww_geti (pc := 41) (Cl := RX4) (T := TX4) (N := 6) (j := 4) (ref := RX4) hC (h0 0 _ rfl) rfl inT_X4 (by decide) mw_98 rfl rfl dX4_isName_41 ?_
        refine ww_iload_n (pc := 44) hC 2 rfl dX4_isName_44 rfl ?_
        refine ww_iadd (pc := 45) hC dX4_isName_45 ?_
        refine ww_bald (pc := 46) hC (h0 1 _ rfl) dX4_isName_46 ?_
        refine ww_aload_n (pc := 47) hC 1 rfl dX4_isName_47 rfl ?_
        refine ww_iload_n (pc := 48) hC 2 rfl dX4_isName_48 rfl ?_
        refine ww_strchr (pc := 49) hC h1 mw_394 (by omega) (Nat.le_of_ble_eq_true rfl) dX4_isName_49 ?_
        refine ww_icmp_eq (pc := 52) (tgt := 57) hC dX4_isName_52 (by decide) ?_ ?_
        · refine ww_iinc (pc := 57) (v := a28 + 1) (lv' := [(2, .int (a28 + 1)), (0, .ref (ad o0)), (1, .ref (Y.2.2.2 o1))]) hC 2 rfl dX4_isName_57 rfl (by decide) rfl ?_
          refine ww_goto (pc := 60) (tgt := 28) hC dX4_isName_60 (by decide) ?_
          refine ww_lv [1, 2, 0] rfl ?_
          exact hc28 (a28 + 1)
        · refine ww_iconst (pc := 55) (v := 0) hC dX4_isName_55 rfl ?_
          exact ww_zreturn (pc := 56) hC hR dX4_isName_56 rfl ((hr28 _).trans rfl)
  unfold f_X4_isName
  refine ww_aload_n (pc := 0) hC 0 rfl dX4_isName_0 rfl ?_
  refine ww_geti (pc := 1) (Cl := RX4) (T := TX4) (N := 6) (j := 3) (ref := RX4) hC (h0 0 _ rfl) rfl inT_X4 (by decide) mw_96 rfl rfl dX4_isName_1 ?_
  refine ww_iconst (pc := 4) (v := 1) hC dX4_isName_4 rfl ?_
  refine ww_icmp_ne (pc := 5) (tgt := 24) hC dX4_isName_5 (by decide) ?_ ?_
  · refine ww_iconst (pc := 24) (v := 0) hC dX4_isName_24 rfl ?_
    exact ww_zreturn (pc := 25) hC hR dX4_isName_25 rfl rfl
  · refine ww_aload_n (pc := 8) hC 0 rfl dX4_isName_8 rfl ?_
    refine ww_geti (pc := 9) (Cl := RX4) (T := TX4) (N := 6) (j := 2) (ref := RX4) hC (h0 0 _ rfl) rfl inT_X4 (by decide) mw_94 rfl rfl dX4_isName_9 ?_
    refine ww_aload_n (pc := 12) hC 0 rfl dX4_isName_12 rfl ?_
    refine ww_geti (pc := 13) (Cl := RX4) (T := TX4) (N := 6) (j := 4) (ref := RX4) hC (h0 0 _ rfl) rfl inT_X4 (by decide) mw_98 rfl rfl dX4_isName_13 ?_
    refine ww_isub (pc := 16) hC dX4_isName_16 ?_
    refine ww_aload_n (pc := 17) hC 1 rfl dX4_isName_17 rfl ?_
    refine ww_strlen (pc := 18) hC h1 mw_384 (by omega) (Nat.le_of_ble_eq_true rfl) dX4_isName_18 ?_
    refine ww_icmp_eq (pc := 21) (tgt := 26) hC dX4_isName_21 (by decide) ?_ ?_
    · refine ww_iconst (pc := 26) (v := 0) hC dX4_isName_26 rfl ?_
      refine ww_istore_n (pc := 27) (lv' := [(2, .int 0), (0, .ref (ad o0)), (1, .ref (Y.2.2.2 o1))]) hC dX4_isName_27 rfl (by decide) rfl ?_
      refine ww_lv [1, 2, 0] rfl ?_
      exact hJ28 0
    · refine ww_iconst (pc := 24) (v := 0) hC dX4_isName_24 rfl ?_
      exact ww_zreturn (pc := 25) hC hR dX4_isName_25 rfl rfl
theorem dX5_lineOf_0 : decode cX5_lineOf 0 = .ok (.aload_n 0, 1) := by decide +kernel
theorem dX5_lineOf_1 : decode cX5_lineOf 1 = .ok (.ldc 91, 2) := by decide +kernel
theorem dX5_lineOf_3 : decode cX5_lineOf 3 = .ok (.invokevirtual 93, 3) := by decide +kernel
theorem dX5_lineOf_6 : decode cX5_lineOf 6 = .ok (.ifCond .eq 5, 3) := by decide +kernel
theorem dX5_lineOf_9 : decode cX5_lineOf 9 = .ok (.iconst 1, 1) := by decide +kernel
theorem dX5_lineOf_10 : decode cX5_lineOf 10 = .ok (.ireturn, 1) := by decide +kernel
theorem dX5_lineOf_11 : decode cX5_lineOf 11 = .ok (.aload_n 0, 1) := by decide +kernel
theorem dX5_lineOf_12 : decode cX5_lineOf 12 = .ok (.ldc 97, 2) := by decide +kernel
theorem dX5_lineOf_14 : decode cX5_lineOf 14 = .ok (.invokevirtual 93, 3) := by decide +kernel
theorem dX5_lineOf_17 : decode cX5_lineOf 17 = .ok (.ifCond .eq 5, 3) := by decide +kernel
theorem dX5_lineOf_20 : decode cX5_lineOf 20 = .ok (.iconst 2, 1) := by decide +kernel
theorem dX5_lineOf_21 : decode cX5_lineOf 21 = .ok (.ireturn, 1) := by decide +kernel
theorem dX5_lineOf_22 : decode cX5_lineOf 22 = .ok (.aload_n 0, 1) := by decide +kernel
theorem dX5_lineOf_23 : decode cX5_lineOf 23 = .ok (.ldc 99, 2) := by decide +kernel
theorem dX5_lineOf_25 : decode cX5_lineOf 25 = .ok (.invokevirtual 93, 3) := by decide +kernel
theorem dX5_lineOf_28 : decode cX5_lineOf 28 = .ok (.ifCond .eq 5, 3) := by decide +kernel
theorem dX5_lineOf_31 : decode cX5_lineOf 31 = .ok (.iconst 3, 1) := by decide +kernel
theorem dX5_lineOf_32 : decode cX5_lineOf 32 = .ok (.ireturn, 1) := by decide +kernel
theorem dX5_lineOf_33 : decode cX5_lineOf 33 = .ok (.aload_n 0, 1) := by decide +kernel
theorem dX5_lineOf_34 : decode cX5_lineOf 34 = .ok (.ldc 101, 2) := by decide +kernel
theorem dX5_lineOf_36 : decode cX5_lineOf 36 = .ok (.invokevirtual 93, 3) := by decide +kernel
theorem dX5_lineOf_39 : decode cX5_lineOf 39 = .ok (.ifCond .eq 5, 3) := by decide +kernel
theorem dX5_lineOf_42 : decode cX5_lineOf 42 = .ok (.iconst 4, 1) := by decide +kernel
theorem dX5_lineOf_43 : decode cX5_lineOf 43 = .ok (.ireturn, 1) := by decide +kernel
theorem dX5_lineOf_44 : decode cX5_lineOf 44 = .ok (.aload_n 0, 1) := by decide +kernel
theorem dX5_lineOf_45 : decode cX5_lineOf 45 = .ok (.ldc 103, 2) := by decide +kernel
theorem dX5_lineOf_47 : decode cX5_lineOf 47 = .ok (.invokevirtual 93, 3) := by decide +kernel
theorem dX5_lineOf_50 : decode cX5_lineOf 50 = .ok (.ifCond .eq 5, 3) := by decide +kernel
theorem dX5_lineOf_53 : decode cX5_lineOf 53 = .ok (.iconst 5, 1) := by decide +kernel
theorem dX5_lineOf_54 : decode cX5_lineOf 54 = .ok (.ireturn, 1) := by decide +kernel
theorem dX5_lineOf_55 : decode cX5_lineOf 55 = .ok (.aload_n 0, 1) := by decide +kernel
theorem dX5_lineOf_56 : decode cX5_lineOf 56 = .ok (.ldc 105, 2) := by decide +kernel
theorem dX5_lineOf_58 : decode cX5_lineOf 58 = .ok (.invokevirtual 93, 3) := by decide +kernel
theorem dX5_lineOf_61 : decode cX5_lineOf 61 = .ok (.ifCond .eq 8, 3) := by decide +kernel
theorem dX5_lineOf_64 : decode cX5_lineOf 64 = .ok (.bipush 6, 2) := by decide +kernel
theorem dX5_lineOf_66 : decode cX5_lineOf 66 = .ok (.goto 4, 3) := by decide +kernel
theorem dX5_lineOf_69 : decode cX5_lineOf 69 = .ok (.iconst 0, 1) := by decide +kernel
theorem dX5_lineOf_70 : decode cX5_lineOf 70 = .ok (.ireturn, 1) := by decide +kernel
set_option maxHeartbeats 4000000 in
set_option maxRecDepth 100000 in
theorem c_X5_lineOf {l : Launch} {Y : ww_Y} {ad : Nat → Nat} {G : List ww_L} (o0 : Nat) (h0 : ww_at G o0 (ww_LTape o0)) (σ : ww_M) : ww_Cn l Y ad G yX5_lineOf cX5_lineOf 1 (some .int) 7 [.ref (ad o0)] σ ((f_X5_lineOf σ o0).bind (ww_ri σ)) := by
  refine ww_met (by decide +kernel) (Nat.le_of_ble_eq_true rfl) ?_
  intro X hC hR
  have hC : ww_C X l Y ad G 7 cX5_lineOf 1 RX5 := hC
  show ww_V X Y ad G 1 σ 0 [(0, .ref (ad o0))] [] ((f_X5_lineOf σ o0).bind (ww_ri σ))
  unfold f_X5_lineOf
  refine ww_aload_n (pc := 0) hC 0 rfl dX5_lineOf_0 rfl ?_
  refine ww_ldcS0 (pc := 1) hC dX5_lineOf_1 ?_
  refine ww_callVi (pc := 3) (st := []) (As := [.ref (Y.2.2.2 0)]) hC (c_X4_isName o0 h0 0 (by decide) σ) mm_X4_isName mw_380 (h0 0 _ rfl) rfl (by omega) (by decide) (Nat.le_of_ble_eq_true rfl) rfl dX5_lineOf_3 (fun v3 => ?_)
  refine ww_if_eq (pc := 6) (tgt := 11) hC dX5_lineOf_6 (by decide) ?_ ?_
  · refine ww_aload_n (pc := 11) hC 0 rfl dX5_lineOf_11 rfl ?_
    refine ww_ldcS1 (pc := 12) hC dX5_lineOf_12 ?_
    refine ww_callVi (pc := 14) (st := []) (As := [.ref (Y.2.2.2 1)]) hC (c_X4_isName o0 h0 1 (by decide) σ) mm_X4_isName mw_380 (h0 0 _ rfl) rfl (by omega) (by decide) (Nat.le_of_ble_eq_true rfl) rfl dX5_lineOf_14 (fun v14 => ?_)
    refine ww_if_eq (pc := 17) (tgt := 22) hC dX5_lineOf_17 (by decide) ?_ ?_
    · refine ww_aload_n (pc := 22) hC 0 rfl dX5_lineOf_22 rfl ?_
      refine ww_ldcS2 (pc := 23) hC dX5_lineOf_23 ?_
      refine ww_callVi (pc := 25) (st := []) (As := [.ref (Y.2.2.2 2)]) hC (c_X4_isName o0 h0 2 (by decide) σ) mm_X4_isName mw_380 (h0 0 _ rfl) rfl (by omega) (by decide) (Nat.le_of_ble_eq_true rfl) rfl dX5_lineOf_25 (fun v25 => ?_)
      refine ww_if_eq (pc := 28) (tgt := 33) hC dX5_lineOf_28 (by decide) ?_ ?_
      · refine ww_aload_n (pc := 33) hC 0 rfl dX5_lineOf_33 rfl ?_
        refine ww_ldcS3 (pc := 34) hC dX5_lineOf_34 ?_
        refine ww_callVi (pc := 36) (st := []) (As := [.ref (Y.2.2.2 3)]) hC (c_X4_isName o0 h0 3 (by decide) σ) mm_X4_isName mw_380 (h0 0 _ rfl) rfl (by omega) (by decide) (Nat.le_of_ble_eq_true rfl) rfl dX5_lineOf_36 (fun v36 => ?_)
        refine ww_if_eq (pc := 39) (tgt := 44) hC dX5_lineOf_39 (by decide) ?_ ?_
        · refine ww_aload_n (pc := 44) hC 0 rfl dX5_lineOf_44 rfl ?_
          refine ww_ldcS4 (pc := 45) hC dX5_lineOf_45 ?_
          refine ww_callVi (pc := 47) (st := []) (As := [.ref (Y.2.2.2 4)]) hC (c_X4_isName o0 h0 4 (by decide) σ) mm_X4_isName mw_380 (h0 0 _ rfl) rfl (by omega) (by decide) (Nat.le_of_ble_eq_true rfl) rfl dX5_lineOf_47 (fun v47 => ?_)
          refine ww_if_eq (pc := 50) (tgt := 55) hC dX5_lineOf_50 (by decide) ?_ ?_
          · refine ww_aload_n (pc := 55) hC 0 rfl dX5_lineOf_55 rfl ?_
            refine ww_ldcS5 (pc := 56) hC dX5_lineOf_56 ?_
            refine ww_callVi (pc := 58) (st := []) (As := [.ref (Y.2.2.2 5)]) hC (c_X4_isName o0 h0 5 (by decide) σ) mm_X4_isName mw_380 (h0 0 _ rfl) rfl (by omega) (by decide) (Nat.le_of_ble_eq_true rfl) rfl dX5_lineOf_58 (fun v58 => ?_)
            refine ww_if_eq (pc := 61) (tgt := 69) hC dX5_lineOf_61 (by decide) ?_ ?_
            · refine ww_iconst (pc := 69) (v := 0) hC dX5_lineOf_69 rfl ?_
              exact ww_ireturn (pc := 70) hC hR dX5_lineOf_70 rfl
            · refine ww_bipush (pc := 64) (v := 6) hC dX5_lineOf_64 rfl ?_
              refine ww_goto (pc := 66) (tgt := 70) hC dX5_lineOf_66 (by decide) ?_
              exact ww_ireturn (pc := 70) hC hR dX5_lineOf_70 rfl
          · refine ww_iconst (pc := 53) (v := 5) hC dX5_lineOf_53 rfl ?_
            exact ww_ireturn (pc := 54) hC hR dX5_lineOf_54 rfl
        · refine ww_iconst (pc := 42) (v := 4) hC dX5_lineOf_42 rfl ?_
          exact ww_ireturn (pc := 43) hC hR dX5_lineOf_43 rfl
      · refine ww_iconst (pc := 31) (v := 3) hC dX5_lineOf_31 rfl ?_
        exact ww_ireturn (pc := 32) hC hR dX5_lineOf_32 rfl
    · refine ww_iconst (pc := 20) (v := 2) hC dX5_lineOf_20 rfl ?_
      exact ww_ireturn (pc := 21) hC hR dX5_lineOf_21 rfl
  · refine ww_iconst (pc := 9) (v := 1) hC dX5_lineOf_9 rfl ?_
    exact ww_ireturn (pc := 10) hC hR dX5_lineOf_10 rfl
theorem dX5_fail_0 : decode cX5_fail 0 = .ok (.aload_n 0, 1) := by decide +kernel
theorem dX5_fail_1 : decode cX5_fail 1 = .ok (.iload_n 1, 1) := by decide +kernel
theorem dX5_fail_2 : decode cX5_fail 2 = .ok (.putfield 9, 3) := by decide +kernel
theorem dX5_fail_5 : decode cX5_fail 5 = .ok (.aload_n 0, 1) := by decide +kernel
theorem dX5_fail_6 : decode cX5_fail 6 = .ok (.iload_n 2, 1) := by decide +kernel
theorem dX5_fail_7 : decode cX5_fail 7 = .ok (.putfield 88, 3) := by decide +kernel
theorem dX5_fail_10 : decode cX5_fail 10 = .ok (.iconst 0, 1) := by decide +kernel
theorem dX5_fail_11 : decode cX5_fail 11 = .ok (.ireturn, 1) := by decide +kernel
set_option maxHeartbeats 4000000 in
set_option maxRecDepth 100000 in
theorem c_X5_fail {l : Launch} {Y : ww_Y} {ad : Nat → Nat} {G : List ww_L} (o0 : Nat) (h0 : ww_at G o0 (ww_LTeller o0)) (σ : ww_M) (p1 : Int32) (p2 : Int32) : ww_Cn l Y ad G yX5_fail cX5_fail 3 (some .boolean) 1 [.ref (ad o0), .int p1, .int p2] σ ((f_X5_fail σ o0 p1 p2).bind ww_rw) := by
  refine ww_met (by decide +kernel) (Nat.le_of_ble_eq_true rfl) ?_
  intro X hC hR
  have hC : ww_C X l Y ad G 1 cX5_fail 3 RX5 := hC
  show ww_V X Y ad G 3 σ 0 [(0, .ref (ad o0)), (1, .int p1), (2, .int p2)] [] ((f_X5_fail σ o0 p1 p2).bind ww_rw)
  unfold f_X5_fail
  refine ww_aload_n (pc := 0) hC 0 rfl dX5_fail_0 rfl ?_
  refine ww_iload_n (pc := 1) hC 1 rfl dX5_fail_1 rfl ?_
  refine ww_puti (pc := 2) (Cl := RX5) (T := TX5) (N := 3) (j := 0) (ref := RX5) hC (h0 0 _ rfl) rfl inT_X5 (by decide) mw_121 rfl tyX5 tyX5_ok nmX5 rfl rfl (tyX5_ok 0 (by decide)) dX5_fail_2 ?_
  refine ww_aload_n (pc := 5) hC 0 rfl dX5_fail_5 rfl ?_
  refine ww_iload_n (pc := 6) hC 2 rfl dX5_fail_6 rfl ?_
  refine ww_puti (pc := 7) (Cl := RX5) (T := TX5) (N := 3) (j := 1) (ref := RX5) hC (h0 0 _ rfl) rfl inT_X5 (by decide) mw_123 rfl tyX5 tyX5_ok nmX5 rfl rfl (tyX5_ok 1 (by decide)) dX5_fail_7 ?_
  refine ww_iconst (pc := 10) (v := 0) hC dX5_fail_10 rfl ?_
  exact ww_zreturn (pc := 11) hC hR dX5_fail_11 rfl rfl
theorem dX5_failAtToken_0 : decode cX5_failAtToken 0 = .ok (.aload_n 0, 1) := by decide +kernel
theorem dX5_failAtToken_1 : decode cX5_failAtToken 1 = .ok (.aload_n 1, 1) := by decide +kernel
theorem dX5_failAtToken_2 : decode cX5_failAtToken 2 = .ok (.getfield 34, 3) := by decide +kernel
theorem dX5_failAtToken_5 : decode cX5_failAtToken 5 = .ok (.iconst 4, 1) := by decide +kernel
theorem dX5_failAtToken_6 : decode cX5_failAtToken 6 = .ok (.if_icmp .ne 7, 3) := by decide +kernel
theorem dX5_failAtToken_9 : decode cX5_failAtToken 9 = .ok (.iconst 1, 1) := by decide +kernel
theorem dX5_failAtToken_10 : decode cX5_failAtToken 10 = .ok (.goto 4, 3) := by decide +kernel
theorem dX5_failAtToken_13 : decode cX5_failAtToken 13 = .ok (.iconst 2, 1) := by decide +kernel
theorem dX5_failAtToken_14 : decode cX5_failAtToken 14 = .ok (.aload_n 1, 1) := by decide +kernel
theorem dX5_failAtToken_15 : decode cX5_failAtToken 15 = .ok (.getfield 57, 3) := by decide +kernel
theorem dX5_failAtToken_18 : decode cX5_failAtToken 18 = .ok (.invokevirtual 60, 3) := by decide +kernel
theorem dX5_failAtToken_21 : decode cX5_failAtToken 21 = .ok (.ireturn, 1) := by decide +kernel
set_option maxHeartbeats 4000000 in
set_option maxRecDepth 100000 in
theorem c_X5_failAtToken {l : Launch} {Y : ww_Y} {ad : Nat → Nat} {G : List ww_L} (o0 : Nat) (h0 : ww_at G o0 (ww_LTeller o0)) (o1 : Nat) (h1 : ww_at G o1 (ww_LTape o1)) (σ : ww_M) : ww_Cn l Y ad G yX5_failAtToken cX5_failAtToken 2 (some .boolean) 2 [.ref (ad o0), .ref (ad o1)] σ ((f_X5_failAtToken σ o0 o1).bind ww_rw) := by
  refine ww_met (by decide +kernel) (Nat.le_of_ble_eq_true rfl) ?_
  intro X hC hR
  have hC : ww_C X l Y ad G 2 cX5_failAtToken 2 RX5 := hC
  show ww_V X Y ad G 2 σ 0 [(0, .ref (ad o0)), (1, .ref (ad o1))] [] ((f_X5_failAtToken σ o0 o1).bind ww_rw)
  have hJ14 : ∀ (σ : ww_M) (s0 : Int32), ww_V X Y ad G 2 σ 14 [(1, .ref (ad o1))] [.int s0, .ref (ad o0)] ((f_X5_failAtToken_j14 σ o0 o1 s0).bind ww_rw) := by
    intro σ s0
    unfold f_X5_failAtToken_j14
    refine ww_aload_n (pc := 14) hC 0 rfl dX5_failAtToken_14 rfl ?_
    refine ww_geti (pc := 15) (Cl := RX4) (T := TX4) (N := 6) (j := 4) (ref := RX4) hC (h1 0 _ rfl) rfl inT_X4 (by decide) mw_97 rfl rfl dX5_failAtToken_15 ?_
    refine ww_callVw (pc := 18) (st := []) (As := [.int s0, .int (σ o1 4)]) hC (c_X5_fail o0 h0 σ s0 (σ o1 4)) mm_X5_fail mw_441 (h0 0 _ rfl) rfl (by omega) (by decide) (Nat.le_of_ble_eq_true rfl) rfl dX5_failAtToken_18 (fun v18 => ?_)
    exact ww_zreturnG (pc := 21) hC hR dX5_failAtToken_21 rfl
  unfold f_X5_failAtToken
  refine ww_aload_n (pc := 0) hC 0 rfl dX5_failAtToken_0 rfl ?_
  refine ww_aload_n (pc := 1) hC 1 rfl dX5_failAtToken_1 rfl ?_
  refine ww_geti (pc := 2) (Cl := RX4) (T := TX4) (N := 6) (j := 3) (ref := RX4) hC (h1 0 _ rfl) rfl inT_X4 (by decide) mw_95 rfl rfl dX5_failAtToken_2 ?_
  refine ww_iconst (pc := 5) (v := 4) hC dX5_failAtToken_5 rfl ?_
  refine ww_icmp_ne (pc := 6) (tgt := 13) hC dX5_failAtToken_6 (by decide) ?_ ?_
  · refine ww_iconst (pc := 13) (v := 2) hC dX5_failAtToken_13 rfl ?_
    refine ww_lv [1] rfl ?_
    exact hJ14 σ 2
  · refine ww_iconst (pc := 9) (v := 1) hC dX5_failAtToken_9 rfl ?_
    refine ww_goto (pc := 10) (tgt := 14) hC dX5_failAtToken_10 (by decide) ?_
    refine ww_lv [1] rfl ?_
    exact hJ14 σ 1
theorem dX5_refusedName_0 : decode cX5_refusedName 0 = .ok (.iload_n 1, 1) := by decide +kernel
theorem dX5_refusedName_1 : decode cX5_refusedName 1 = .ok (.iconst 1, 1) := by decide +kernel
theorem dX5_refusedName_2 : decode cX5_refusedName 2 = .ok (.if_icmp .ne 18, 3) := by decide +kernel
theorem dX5_refusedName_5 : decode cX5_refusedName 5 = .ok (.aload_n 2, 1) := by decide +kernel
theorem dX5_refusedName_6 : decode cX5_refusedName 6 = .ok (.getfield 107, 3) := by decide +kernel
theorem dX5_refusedName_9 : decode cX5_refusedName 9 = .ok (.bipush 6, 2) := by decide +kernel
theorem dX5_refusedName_11 : decode cX5_refusedName 11 = .ok (.if_icmp .lt 7, 3) := by decide +kernel
theorem dX5_refusedName_14 : decode cX5_refusedName 14 = .ok (.iconst 5, 1) := by decide +kernel
theorem dX5_refusedName_15 : decode cX5_refusedName 15 = .ok (.goto 4, 3) := by decide +kernel
theorem dX5_refusedName_18 : decode cX5_refusedName 18 = .ok (.iconst 0, 1) := by decide +kernel
theorem dX5_refusedName_19 : decode cX5_refusedName 19 = .ok (.ireturn, 1) := by decide +kernel
theorem dX5_refusedName_20 : decode cX5_refusedName 20 = .ok (.iload_n 1, 1) := by decide +kernel
theorem dX5_refusedName_21 : decode cX5_refusedName 21 = .ok (.bipush 6, 2) := by decide +kernel
theorem dX5_refusedName_23 : decode cX5_refusedName 23 = .ok (.if_icmp .ne 17, 3) := by decide +kernel
theorem dX5_refusedName_26 : decode cX5_refusedName 26 = .ok (.aload_n 2, 1) := by decide +kernel
theorem dX5_refusedName_27 : decode cX5_refusedName 27 = .ok (.getfield 110, 3) := by decide +kernel
theorem dX5_refusedName_30 : decode cX5_refusedName 30 = .ok (.iconst 3, 1) := by decide +kernel
theorem dX5_refusedName_31 : decode cX5_refusedName 31 = .ok (.if_icmp .lt 7, 3) := by decide +kernel
theorem dX5_refusedName_34 : decode cX5_refusedName 34 = .ok (.iconst 5, 1) := by decide +kernel
theorem dX5_refusedName_35 : decode cX5_refusedName 35 = .ok (.goto 4, 3) := by decide +kernel
theorem dX5_refusedName_38 : decode cX5_refusedName 38 = .ok (.iconst 0, 1) := by decide +kernel
theorem dX5_refusedName_39 : decode cX5_refusedName 39 = .ok (.ireturn, 1) := by decide +kernel
theorem dX5_refusedName_40 : decode cX5_refusedName 40 = .ok (.iload_n 1, 1) := by decide +kernel
theorem dX5_refusedName_41 : decode cX5_refusedName 41 = .ok (.iconst 2, 1) := by decide +kernel
theorem dX5_refusedName_42 : decode cX5_refusedName 42 = .ok (.if_icmp .ne 5, 3) := by decide +kernel
theorem dX5_refusedName_45 : decode cX5_refusedName 45 = .ok (.iconst 0, 1) := by decide +kernel
theorem dX5_refusedName_46 : decode cX5_refusedName 46 = .ok (.ireturn, 1) := by decide +kernel
theorem dX5_refusedName_47 : decode cX5_refusedName 47 = .ok (.aload_n 0, 1) := by decide +kernel
theorem dX5_refusedName_48 : decode cX5_refusedName 48 = .ok (.getfield 15, 3) := by decide +kernel
theorem dX5_refusedName_51 : decode cX5_refusedName 51 = .ok (.iload_n 1, 1) := by decide +kernel
theorem dX5_refusedName_52 : decode cX5_refusedName 52 = .ok (.ishr, 1) := by decide +kernel
theorem dX5_refusedName_53 : decode cX5_refusedName 53 = .ok (.iconst 1, 1) := by decide +kernel
theorem dX5_refusedName_54 : decode cX5_refusedName 54 = .ok (.iand, 1) := by decide +kernel
theorem dX5_refusedName_55 : decode cX5_refusedName 55 = .ok (.istore_n 3, 1) := by decide +kernel
theorem dX5_refusedName_56 : decode cX5_refusedName 56 = .ok (.aload_n 0, 1) := by decide +kernel
theorem dX5_refusedName_57 : decode cX5_refusedName 57 = .ok (.dup, 1) := by decide +kernel
theorem dX5_refusedName_58 : decode cX5_refusedName 58 = .ok (.getfield 15, 3) := by decide +kernel
theorem dX5_refusedName_61 : decode cX5_refusedName 61 = .ok (.iconst 1, 1) := by decide +kernel
theorem dX5_refusedName_62 : decode cX5_refusedName 62 = .ok (.iload_n 1, 1) := by decide +kernel
theorem dX5_refusedName_63 : decode cX5_refusedName 63 = .ok (.ishl, 1) := by decide +kernel
theorem dX5_refusedName_64 : decode cX5_refusedName 64 = .ok (.ior, 1) := by decide +kernel
theorem dX5_refusedName_65 : decode cX5_refusedName 65 = .ok (.putfield 15, 3) := by decide +kernel
theorem dX5_refusedName_68 : decode cX5_refusedName 68 = .ok (.iload_n 3, 1) := by decide +kernel
theorem dX5_refusedName_69 : decode cX5_refusedName 69 = .ok (.iconst 1, 1) := by decide +kernel
theorem dX5_refusedName_70 : decode cX5_refusedName 70 = .ok (.if_icmp .ne 7, 3) := by decide +kernel
theorem dX5_refusedName_73 : decode cX5_refusedName 73 = .ok (.iconst 4, 1) := by decide +kernel
theorem dX5_refusedName_74 : decode cX5_refusedName 74 = .ok (.goto 4, 3) := by decide +kernel
theorem dX5_refusedName_77 : decode cX5_refusedName 77 = .ok (.iconst 0, 1) := by decide +kernel
theorem dX5_refusedName_78 : decode cX5_refusedName 78 = .ok (.ireturn, 1) := by decide +kernel
set_option maxHeartbeats 4000000 in
set_option maxRecDepth 100000 in
theorem c_X5_refusedName {l : Launch} {Y : ww_Y} {ad : Nat → Nat} {G : List ww_L} (o0 : Nat) (h0 : ww_at G o0 (ww_LTeller o0)) (o2 : Nat) (h2 : ww_at G o2 (ww_LShore o2)) (σ : ww_M) (p1 : Int32) : ww_Cn l Y ad G yX5_refusedName cX5_refusedName 4 (some .int) 1 [.ref (ad o0), .int p1, .ref (ad o2)] σ ((f_X5_refusedName σ o0 o2 p1).bind ww_rw) := by
  refine ww_met (by decide +kernel) (Nat.le_of_ble_eq_true rfl) ?_
  intro X hC hR
  have hC : ww_C X l Y ad G 1 cX5_refusedName 4 RX5 := hC
  show ww_V X Y ad G 4 σ 0 [(0, .ref (ad o0)), (1, .int p1), (2, .ref (ad o2))] [] ((f_X5_refusedName σ o0 o2 p1).bind ww_rw)
  unfold f_X5_refusedName
  refine ww_iload_n (pc := 0) hC 1 rfl dX5_refusedName_0 rfl ?_
  refine ww_iconst (pc := 1) (v := 1) hC dX5_refusedName_1 rfl ?_
  refine ww_icmp_ne (pc := 2) (tgt := 20) hC dX5_refusedName_2 (by decide) ?_ ?_
  · refine ww_iload_n (pc := 20) hC 1 rfl dX5_refusedName_20 rfl ?_
    refine ww_bipush (pc := 21) (v := 6) hC dX5_refusedName_21 rfl ?_
    refine ww_icmp_ne (pc := 23) (tgt := 40) hC dX5_refusedName_23 (by decide) ?_ ?_
    · refine ww_iload_n (pc := 40) hC 1 rfl dX5_refusedName_40 rfl ?_
      refine ww_iconst (pc := 41) (v := 2) hC dX5_refusedName_41 rfl ?_
      refine ww_icmp_ne (pc := 42) (tgt := 47) hC dX5_refusedName_42 (by decide) ?_ ?_
      · refine ww_aload_n (pc := 47) hC 0 rfl dX5_refusedName_47 rfl ?_
        refine ww_geti (pc := 48) (Cl := RX5) (T := TX5) (N := 3) (j := 2) (ref := RX5) hC (h0 0 _ rfl) rfl inT_X5 (by decide) mw_125 rfl rfl dX5_refusedName_48 ?_
        refine ww_iload_n (pc := 51) hC 1 rfl dX5_refusedName_51 rfl ?_
        refine ww_ishr (pc := 52) hC dX5_refusedName_52 ?_
        refine ww_iconst (pc := 53) (v := 1) hC dX5_refusedName_53 rfl ?_
        refine ww_iand (pc := 54) hC dX5_refusedName_54 ?_
        refine ww_istore_n (pc := 55) (lv' := [(3, .int ((ww_shr (σ o0 2) p1) &&& 1)), (0, .ref (ad o0)), (1, .int p1), (2, .ref (ad o2))]) hC dX5_refusedName_55 rfl (by decide) rfl ?_
        refine ww_aload_n (pc := 56) hC 1 rfl dX5_refusedName_56 rfl ?_
        refine ww_dup (pc := 57) hC dX5_refusedName_57 rfl ?_
        refine ww_geti (pc := 58) (Cl := RX5) (T := TX5) (N := 3) (j := 2) (ref := RX5) hC (h0 0 _ rfl) rfl inT_X5 (by decide) mw_125 rfl rfl dX5_refusedName_58 ?_
        refine ww_iconst (pc := 61) (v := 1) hC dX5_refusedName_61 rfl ?_
        refine ww_iload_n (pc := 62) hC 2 rfl dX5_refusedName_62 rfl ?_
        refine ww_ishl (pc := 63) hC dX5_refusedName_63 ?_
        refine ww_ior (pc := 64) hC dX5_refusedName_64 ?_
        refine ww_puti (pc := 65) (Cl := RX5) (T := TX5) (N := 3) (j := 2) (ref := RX5) hC (h0 0 _ rfl) rfl inT_X5 (by decide) mw_125 rfl tyX5 tyX5_ok nmX5 rfl rfl (tyX5_ok 2 (by decide)) dX5_refusedName_65 ?_
        refine ww_iload_n (pc := 68) hC 0 rfl dX5_refusedName_68 rfl ?_
        refine ww_iconst (pc := 69) (v := 1) hC dX5_refusedName_69 rfl ?_
        refine ww_icmp_ne (pc := 70) (tgt := 77) hC dX5_refusedName_70 (by decide) ?_ ?_
        · refine ww_iconst (pc := 77) (v := 0) hC dX5_refusedName_77 rfl ?_
          exact ww_ireturn (pc := 78) hC hR dX5_refusedName_78 rfl
        · refine ww_iconst (pc := 73) (v := 4) hC dX5_refusedName_73 rfl ?_
          refine ww_goto (pc := 74) (tgt := 78) hC dX5_refusedName_74 (by decide) ?_
          exact ww_ireturn (pc := 78) hC hR dX5_refusedName_78 rfl
      · refine ww_iconst (pc := 45) (v := 0) hC dX5_refusedName_45 rfl ?_
        exact ww_ireturn (pc := 46) hC hR dX5_refusedName_46 rfl
    · refine ww_aload_n (pc := 26) hC 2 rfl dX5_refusedName_26 rfl ?_
      refine ww_geti (pc := 27) (Cl := RX2) (T := TX2) (N := 17) (j := 11) (ref := RX2) hC (h2 0 _ rfl) rfl inT_X2 (by decide) mw_167 rfl rfl dX5_refusedName_27 ?_
      refine ww_iconst (pc := 30) (v := 3) hC dX5_refusedName_30 rfl ?_
      refine ww_icmp_lt (pc := 31) (tgt := 38) hC dX5_refusedName_31 (by decide) ?_ ?_
      · refine ww_iconst (pc := 38) (v := 0) hC dX5_refusedName_38 rfl ?_
        exact ww_ireturn (pc := 39) hC hR dX5_refusedName_39 rfl
      · refine ww_iconst (pc := 34) (v := 5) hC dX5_refusedName_34 rfl ?_
        refine ww_goto (pc := 35) (tgt := 39) hC dX5_refusedName_35 (by decide) ?_
        exact ww_ireturn (pc := 39) hC hR dX5_refusedName_39 rfl
  · refine ww_aload_n (pc := 5) hC 2 rfl dX5_refusedName_5 rfl ?_
    refine ww_geti (pc := 6) (Cl := RX2) (T := TX2) (N := 17) (j := 9) (ref := RX2) hC (h2 0 _ rfl) rfl inT_X2 (by decide) mw_161 rfl rfl dX5_refusedName_6 ?_
    refine ww_bipush (pc := 9) (v := 6) hC dX5_refusedName_9 rfl ?_
    refine ww_icmp_lt (pc := 11) (tgt := 18) hC dX5_refusedName_11 (by decide) ?_ ?_
    · refine ww_iconst (pc := 18) (v := 0) hC dX5_refusedName_18 rfl ?_
      exact ww_ireturn (pc := 19) hC hR dX5_refusedName_19 rfl
    · refine ww_iconst (pc := 14) (v := 5) hC dX5_refusedName_14 rfl ?_
      refine ww_goto (pc := 15) (tgt := 19) hC dX5_refusedName_15 (by decide) ?_
      exact ww_ireturn (pc := 19) hC hR dX5_refusedName_19 rfl
theorem dX5_mayStop_0 : decode cX5_mayStop 0 = .ok (.iload_n 0, 1) := by decide +kernel
theorem dX5_mayStop_1 : decode cX5_mayStop 1 = .ok (.lookupswitch 74 #[(1, 35), (2, 46), (6, 56)], 35) := by decide +kernel
theorem dX5_mayStop_36 : decode cX5_mayStop 36 = .ok (.iload_n 1, 1) := by decide +kernel
theorem dX5_mayStop_37 : decode cX5_mayStop 37 = .ok (.iconst 2, 1) := by decide +kernel
theorem dX5_mayStop_38 : decode cX5_mayStop 38 = .ok (.if_icmp .ne 7, 3) := by decide +kernel
theorem dX5_mayStop_41 : decode cX5_mayStop 41 = .ok (.iconst 1, 1) := by decide +kernel
theorem dX5_mayStop_42 : decode cX5_mayStop 42 = .ok (.goto 4, 3) := by decide +kernel
theorem dX5_mayStop_45 : decode cX5_mayStop 45 = .ok (.iconst 0, 1) := by decide +kernel
theorem dX5_mayStop_46 : decode cX5_mayStop 46 = .ok (.ireturn, 1) := by decide +kernel
theorem dX5_mayStop_47 : decode cX5_mayStop 47 = .ok (.iload_n 1, 1) := by decide +kernel
theorem dX5_mayStop_48 : decode cX5_mayStop 48 = .ok (.ifCond .le 7, 3) := by decide +kernel
theorem dX5_mayStop_51 : decode cX5_mayStop 51 = .ok (.iconst 1, 1) := by decide +kernel
theorem dX5_mayStop_52 : decode cX5_mayStop 52 = .ok (.goto 4, 3) := by decide +kernel
theorem dX5_mayStop_55 : decode cX5_mayStop 55 = .ok (.iconst 0, 1) := by decide +kernel
theorem dX5_mayStop_56 : decode cX5_mayStop 56 = .ok (.ireturn, 1) := by decide +kernel
theorem dX5_mayStop_57 : decode cX5_mayStop 57 = .ok (.iload_n 1, 1) := by decide +kernel
theorem dX5_mayStop_58 : decode cX5_mayStop 58 = .ok (.iconst 3, 1) := by decide +kernel
theorem dX5_mayStop_59 : decode cX5_mayStop 59 = .ok (.if_icmp .le 14, 3) := by decide +kernel
theorem dX5_mayStop_62 : decode cX5_mayStop 62 = .ok (.iload_n 1, 1) := by decide +kernel
theorem dX5_mayStop_63 : decode cX5_mayStop 63 = .ok (.iconst 3, 1) := by decide +kernel
theorem dX5_mayStop_64 : decode cX5_mayStop 64 = .ok (.irem, 1) := by decide +kernel
theorem dX5_mayStop_65 : decode cX5_mayStop 65 = .ok (.iconst 1, 1) := by decide +kernel
theorem dX5_mayStop_66 : decode cX5_mayStop 66 = .ok (.if_icmp .ne 7, 3) := by decide +kernel
theorem dX5_mayStop_69 : decode cX5_mayStop 69 = .ok (.iconst 1, 1) := by decide +kernel
theorem dX5_mayStop_70 : decode cX5_mayStop 70 = .ok (.goto 4, 3) := by decide +kernel
theorem dX5_mayStop_73 : decode cX5_mayStop 73 = .ok (.iconst 0, 1) := by decide +kernel
theorem dX5_mayStop_74 : decode cX5_mayStop 74 = .ok (.ireturn, 1) := by decide +kernel
theorem dX5_mayStop_75 : decode cX5_mayStop 75 = .ok (.iload_n 1, 1) := by decide +kernel
theorem dX5_mayStop_76 : decode cX5_mayStop 76 = .ok (.iconst 1, 1) := by decide +kernel
theorem dX5_mayStop_77 : decode cX5_mayStop 77 = .ok (.if_icmp .ne 7, 3) := by decide +kernel
theorem dX5_mayStop_80 : decode cX5_mayStop 80 = .ok (.iconst 1, 1) := by decide +kernel
theorem dX5_mayStop_81 : decode cX5_mayStop 81 = .ok (.goto 4, 3) := by decide +kernel
theorem dX5_mayStop_84 : decode cX5_mayStop 84 = .ok (.iconst 0, 1) := by decide +kernel
theorem dX5_mayStop_85 : decode cX5_mayStop 85 = .ok (.ireturn, 1) := by decide +kernel
set_option maxHeartbeats 4000000 in
set_option maxRecDepth 100000 in
theorem c_X5_mayStop {l : Launch} {Y : ww_Y} {ad : Nat → Nat} {G : List ww_L} (σ : ww_M) (p0 : Int32) (p1 : Int32) : ww_Cn l Y ad G yX5_mayStop cX5_mayStop 2 (some .boolean) 1 [.int p0, .int p1] σ ((f_X5_mayStop p0 p1).bind (ww_ri σ)) := by
  refine ww_met (by decide +kernel) (Nat.le_of_ble_eq_true rfl) ?_
  intro X hC hR
  have hC : ww_C X l Y ad G 1 cX5_mayStop 2 RX5 := hC
  show ww_V X Y ad G 2 σ 0 [(0, .int p0), (1, .int p1)] [] ((f_X5_mayStop p0 p1).bind (ww_ri σ))
  unfold f_X5_mayStop
  refine ww_iload_n (pc := 0) hC 0 rfl dX5_mayStop_0 rfl ?_
  refine ww_look (pc := 1) (tgt := 36) (off := 35) hC 1 dX5_mayStop_1 (by decide) (by decide) (by decide) ?_ (fun q1_0 => ?_)
  · refine ww_iload_n (pc := 36) hC 1 rfl dX5_mayStop_36 rfl ?_
    refine ww_iconst (pc := 37) (v := 2) hC dX5_mayStop_37 rfl ?_
    refine ww_icmp_ne (pc := 38) (tgt := 45) hC dX5_mayStop_38 (by decide) ?_ ?_
    · refine ww_iconst (pc := 45) (v := 0) hC dX5_mayStop_45 rfl ?_
      exact ww_zreturn (pc := 46) hC hR dX5_mayStop_46 rfl rfl
    · refine ww_iconst (pc := 41) (v := 1) hC dX5_mayStop_41 rfl ?_
      refine ww_goto (pc := 42) (tgt := 46) hC dX5_mayStop_42 (by decide) ?_
      exact ww_zreturn (pc := 46) hC hR dX5_mayStop_46 rfl rfl
  refine ww_look (pc := 1) (tgt := 47) (off := 46) hC 2 dX5_mayStop_1 (by decide) (by decide) (by decide) ?_ (fun q1_1 => ?_)
  · refine ww_iload_n (pc := 47) hC 1 rfl dX5_mayStop_47 rfl ?_
    refine ww_if_le (pc := 48) (tgt := 55) hC dX5_mayStop_48 (by decide) ?_ ?_
    · refine ww_iconst (pc := 55) (v := 0) hC dX5_mayStop_55 rfl ?_
      exact ww_zreturn (pc := 56) hC hR dX5_mayStop_56 rfl rfl
    · refine ww_iconst (pc := 51) (v := 1) hC dX5_mayStop_51 rfl ?_
      refine ww_goto (pc := 52) (tgt := 56) hC dX5_mayStop_52 (by decide) ?_
      exact ww_zreturn (pc := 56) hC hR dX5_mayStop_56 rfl rfl
  refine ww_look (pc := 1) (tgt := 57) (off := 56) hC 6 dX5_mayStop_1 (by decide) (by decide) (by decide) ?_ (fun q1_2 => ?_)
  · refine ww_iload_n (pc := 57) hC 1 rfl dX5_mayStop_57 rfl ?_
    refine ww_iconst (pc := 58) (v := 3) hC dX5_mayStop_58 rfl ?_
    refine ww_icmp_le (pc := 59) (tgt := 73) hC dX5_mayStop_59 (by decide) ?_ ?_
    · refine ww_iconst (pc := 73) (v := 0) hC dX5_mayStop_73 rfl ?_
      exact ww_zreturn (pc := 74) hC hR dX5_mayStop_74 rfl rfl
    · refine ww_iload_n (pc := 62) hC 1 rfl dX5_mayStop_62 rfl ?_
      refine ww_iconst (pc := 63) (v := 3) hC dX5_mayStop_63 rfl ?_
      refine ww_irem_c (pc := 64) hC dX5_mayStop_64 (by decide) ?_
      refine ww_iconst (pc := 65) (v := 1) hC dX5_mayStop_65 rfl ?_
      refine ww_icmp_ne (pc := 66) (tgt := 73) hC dX5_mayStop_66 (by decide) ?_ ?_
      · refine ww_iconst (pc := 73) (v := 0) hC dX5_mayStop_73 rfl ?_
        exact ww_zreturn (pc := 74) hC hR dX5_mayStop_74 rfl rfl
      · refine ww_iconst (pc := 69) (v := 1) hC dX5_mayStop_69 rfl ?_
        refine ww_goto (pc := 70) (tgt := 74) hC dX5_mayStop_70 (by decide) ?_
        exact ww_zreturn (pc := 74) hC hR dX5_mayStop_74 rfl rfl
  have z1_0 : ¬ (1 : Int) = p0.toInt := fun e => ww_nei q1_0 e.symm
  have z1_1 : ¬ (2 : Int) = p0.toInt := fun e => ww_nei q1_1 e.symm
  have z1_2 : ¬ (6 : Int) = p0.toInt := fun e => ww_nei q1_2 e.symm
  refine ww_lookD (pc := 1) (tgt := 75) hC dX5_mayStop_1 (by decide) (by simp [Op.lookupswitch.offset, z1_0, z1_1, z1_2]) (by decide) ?_
  refine ww_iload_n (pc := 75) hC 1 rfl dX5_mayStop_75 rfl ?_
  refine ww_iconst (pc := 76) (v := 1) hC dX5_mayStop_76 rfl ?_
  refine ww_icmp_ne (pc := 77) (tgt := 84) hC dX5_mayStop_77 (by decide) ?_ ?_
  · refine ww_iconst (pc := 84) (v := 0) hC dX5_mayStop_84 rfl ?_
    exact ww_zreturn (pc := 85) hC hR dX5_mayStop_85 rfl rfl
  · refine ww_iconst (pc := 80) (v := 1) hC dX5_mayStop_80 rfl ?_
    refine ww_goto (pc := 81) (tgt := 85) hC dX5_mayStop_81 (by decide) ?_
    exact ww_zreturn (pc := 85) hC hR dX5_mayStop_85 rfl rfl
theorem dX5_mayGoOn_0 : decode cX5_mayGoOn 0 = .ok (.iload_n 0, 1) := by decide +kernel
theorem dX5_mayGoOn_1 : decode cX5_mayGoOn 1 = .ok (.lookupswitch 50 #[(1, 35), (2, 46), (6, 48)], 35) := by decide +kernel
theorem dX5_mayGoOn_36 : decode cX5_mayGoOn 36 = .ok (.iload_n 1, 1) := by decide +kernel
theorem dX5_mayGoOn_37 : decode cX5_mayGoOn 37 = .ok (.iconst 2, 1) := by decide +kernel
theorem dX5_mayGoOn_38 : decode cX5_mayGoOn 38 = .ok (.if_icmp .ge 7, 3) := by decide +kernel
theorem dX5_mayGoOn_41 : decode cX5_mayGoOn 41 = .ok (.iconst 1, 1) := by decide +kernel
theorem dX5_mayGoOn_42 : decode cX5_mayGoOn 42 = .ok (.goto 4, 3) := by decide +kernel
theorem dX5_mayGoOn_45 : decode cX5_mayGoOn 45 = .ok (.iconst 0, 1) := by decide +kernel
theorem dX5_mayGoOn_46 : decode cX5_mayGoOn 46 = .ok (.ireturn, 1) := by decide +kernel
theorem dX5_mayGoOn_47 : decode cX5_mayGoOn 47 = .ok (.iconst 1, 1) := by decide +kernel
theorem dX5_mayGoOn_48 : decode cX5_mayGoOn 48 = .ok (.ireturn, 1) := by decide +kernel
theorem dX5_mayGoOn_49 : decode cX5_mayGoOn 49 = .ok (.iconst 1, 1) := by decide +kernel
theorem dX5_mayGoOn_50 : decode cX5_mayGoOn 50 = .ok (.ireturn, 1) := by decide +kernel
theorem dX5_mayGoOn_51 : decode cX5_mayGoOn 51 = .ok (.iload_n 1, 1) := by decide +kernel
theorem dX5_mayGoOn_52 : decode cX5_mayGoOn 52 = .ok (.iconst 1, 1) := by decide +kernel
theorem dX5_mayGoOn_53 : decode cX5_mayGoOn 53 = .ok (.if_icmp .ge 7, 3) := by decide +kernel
theorem dX5_mayGoOn_56 : decode cX5_mayGoOn 56 = .ok (.iconst 1, 1) := by decide +kernel
theorem dX5_mayGoOn_57 : decode cX5_mayGoOn 57 = .ok (.goto 4, 3) := by decide +kernel
theorem dX5_mayGoOn_60 : decode cX5_mayGoOn 60 = .ok (.iconst 0, 1) := by decide +kernel
theorem dX5_mayGoOn_61 : decode cX5_mayGoOn 61 = .ok (.ireturn, 1) := by decide +kernel
set_option maxHeartbeats 4000000 in
set_option maxRecDepth 100000 in
theorem c_X5_mayGoOn {l : Launch} {Y : ww_Y} {ad : Nat → Nat} {G : List ww_L} (σ : ww_M) (p0 : Int32) (p1 : Int32) : ww_Cn l Y ad G yX5_mayGoOn cX5_mayGoOn 2 (some .boolean) 1 [.int p0, .int p1] σ ((f_X5_mayGoOn p0 p1).bind (ww_ri σ)) := by
  refine ww_met (by decide +kernel) (Nat.le_of_ble_eq_true rfl) ?_
  intro X hC hR
  have hC : ww_C X l Y ad G 1 cX5_mayGoOn 2 RX5 := hC
  show ww_V X Y ad G 2 σ 0 [(0, .int p0), (1, .int p1)] [] ((f_X5_mayGoOn p0 p1).bind (ww_ri σ))
  unfold f_X5_mayGoOn
  refine ww_iload_n (pc := 0) hC 0 rfl dX5_mayGoOn_0 rfl ?_
  refine ww_look (pc := 1) (tgt := 36) (off := 35) hC 1 dX5_mayGoOn_1 (by decide) (by decide) (by decide) ?_ (fun q1_0 => ?_)
  · refine ww_iload_n (pc := 36) hC 1 rfl dX5_mayGoOn_36 rfl ?_
    refine ww_iconst (pc := 37) (v := 2) hC dX5_mayGoOn_37 rfl ?_
    refine ww_icmp_ge (pc := 38) (tgt := 45) hC dX5_mayGoOn_38 (by decide) ?_ ?_
    · refine ww_iconst (pc := 45) (v := 0) hC dX5_mayGoOn_45 rfl ?_
      exact ww_zreturn (pc := 46) hC hR dX5_mayGoOn_46 rfl rfl
    · refine ww_iconst (pc := 41) (v := 1) hC dX5_mayGoOn_41 rfl ?_
      refine ww_goto (pc := 42) (tgt := 46) hC dX5_mayGoOn_42 (by decide) ?_
      exact ww_zreturn (pc := 46) hC hR dX5_mayGoOn_46 rfl rfl
  refine ww_look (pc := 1) (tgt := 47) (off := 46) hC 2 dX5_mayGoOn_1 (by decide) (by decide) (by decide) ?_ (fun q1_1 => ?_)
  · refine ww_iconst (pc := 47) (v := 1) hC dX5_mayGoOn_47 rfl ?_
    exact ww_zreturn (pc := 48) hC hR dX5_mayGoOn_48 rfl rfl
  refine ww_look (pc := 1) (tgt := 49) (off := 48) hC 6 dX5_mayGoOn_1 (by decide) (by decide) (by decide) ?_ (fun q1_2 => ?_)
  · refine ww_iconst (pc := 49) (v := 1) hC dX5_mayGoOn_49 rfl ?_
    exact ww_zreturn (pc := 50) hC hR dX5_mayGoOn_50 rfl rfl
  have z1_0 : ¬ (1 : Int) = p0.toInt := fun e => ww_nei q1_0 e.symm
  have z1_1 : ¬ (2 : Int) = p0.toInt := fun e => ww_nei q1_1 e.symm
  have z1_2 : ¬ (6 : Int) = p0.toInt := fun e => ww_nei q1_2 e.symm
  refine ww_lookD (pc := 1) (tgt := 51) hC dX5_mayGoOn_1 (by decide) (by simp [Op.lookupswitch.offset, z1_0, z1_1, z1_2]) (by decide) ?_
  refine ww_iload_n (pc := 51) hC 1 rfl dX5_mayGoOn_51 rfl ?_
  refine ww_iconst (pc := 52) (v := 1) hC dX5_mayGoOn_52 rfl ?_
  refine ww_icmp_ge (pc := 53) (tgt := 60) hC dX5_mayGoOn_53 (by decide) ?_ ?_
  · refine ww_iconst (pc := 60) (v := 0) hC dX5_mayGoOn_60 rfl ?_
    exact ww_zreturn (pc := 61) hC hR dX5_mayGoOn_61 rfl rfl
  · refine ww_iconst (pc := 56) (v := 1) hC dX5_mayGoOn_56 rfl ?_
    refine ww_goto (pc := 57) (tgt := 61) hC dX5_mayGoOn_57 (by decide) ?_
    exact ww_zreturn (pc := 61) hC hR dX5_mayGoOn_61 rfl rfl
theorem dX5_isTooMany_0 : decode cX5_isTooMany 0 = .ok (.iload_n 0, 1) := by decide +kernel
theorem dX5_isTooMany_1 : decode cX5_isTooMany 1 = .ok (.iconst 2, 1) := by decide +kernel
theorem dX5_isTooMany_2 : decode cX5_isTooMany 2 = .ok (.if_icmp .ne 12, 3) := by decide +kernel
theorem dX5_isTooMany_5 : decode cX5_isTooMany 5 = .ok (.aload_n 2, 1) := by decide +kernel
theorem dX5_isTooMany_6 : decode cX5_isTooMany 6 = .ok (.getfield 23, 3) := by decide +kernel
theorem dX5_isTooMany_9 : decode cX5_isTooMany 9 = .ok (.bipush 6, 2) := by decide +kernel
theorem dX5_isTooMany_11 : decode cX5_isTooMany 11 = .ok (.if_icmp .ge 15, 3) := by decide +kernel
theorem dX5_isTooMany_14 : decode cX5_isTooMany 14 = .ok (.iload_n 0, 1) := by decide +kernel
theorem dX5_isTooMany_15 : decode cX5_isTooMany 15 = .ok (.bipush 6, 2) := by decide +kernel
theorem dX5_isTooMany_17 : decode cX5_isTooMany 17 = .ok (.if_icmp .ne 13, 3) := by decide +kernel
theorem dX5_isTooMany_20 : decode cX5_isTooMany 20 = .ok (.iload_n 1, 1) := by decide +kernel
theorem dX5_isTooMany_21 : decode cX5_isTooMany 21 = .ok (.bipush 10, 2) := by decide +kernel
theorem dX5_isTooMany_23 : decode cX5_isTooMany 23 = .ok (.if_icmp .lt 7, 3) := by decide +kernel
theorem dX5_isTooMany_26 : decode cX5_isTooMany 26 = .ok (.iconst 1, 1) := by decide +kernel
theorem dX5_isTooMany_27 : decode cX5_isTooMany 27 = .ok (.goto 4, 3) := by decide +kernel
theorem dX5_isTooMany_30 : decode cX5_isTooMany 30 = .ok (.iconst 0, 1) := by decide +kernel
theorem dX5_isTooMany_31 : decode cX5_isTooMany 31 = .ok (.ireturn, 1) := by decide +kernel
set_option maxHeartbeats 4000000 in
set_option maxRecDepth 100000 in
theorem c_X5_isTooMany {l : Launch} {Y : ww_Y} {ad : Nat → Nat} {G : List ww_L} (o2 : Nat) (h2 : ww_at G o2 (ww_LShore o2)) (σ : ww_M) (p0 : Int32) (p1 : Int32) : ww_Cn l Y ad G yX5_isTooMany cX5_isTooMany 3 (some .boolean) 1 [.int p0, .int p1, .ref (ad o2)] σ ((f_X5_isTooMany σ o2 p0 p1).bind (ww_ri σ)) := by
  refine ww_met (by decide +kernel) (Nat.le_of_ble_eq_true rfl) ?_
  intro X hC hR
  have hC : ww_C X l Y ad G 1 cX5_isTooMany 3 RX5 := hC
  show ww_V X Y ad G 3 σ 0 [(0, .int p0), (1, .int p1), (2, .ref (ad o2))] [] ((f_X5_isTooMany σ o2 p0 p1).bind (ww_ri σ))
  have hJ14 : ww_V X Y ad G 3 σ 14 [(0, .int p0), (1, .int p1)] [] ((f_X5_isTooMany_j14 σ o2 p0 p1).bind (ww_ri σ)) := by
    unfold f_X5_isTooMany_j14
    refine ww_iload_n (pc := 14) hC 0 rfl dX5_isTooMany_14 rfl ?_
    refine ww_bipush (pc := 15) (v := 6) hC dX5_isTooMany_15 rfl ?_
    refine ww_icmp_ne (pc := 17) (tgt := 30) hC dX5_isTooMany_17 (by decide) ?_ ?_
    · refine ww_iconst (pc := 30) (v := 0) hC dX5_isTooMany_30 rfl ?_
      exact ww_zreturn (pc := 31) hC hR dX5_isTooMany_31 rfl rfl
    · refine ww_iload_n (pc := 20) hC 1 rfl dX5_isTooMany_20 rfl ?_
      refine ww_bipush (pc := 21) (v := 10) hC dX5_isTooMany_21 rfl ?_
      refine ww_icmp_lt (pc := 23) (tgt := 30) hC dX5_isTooMany_23 (by decide) ?_ ?_
      · refine ww_iconst (pc := 30) (v := 0) hC dX5_isTooMany_30 rfl ?_
        exact ww_zreturn (pc := 31) hC hR dX5_isTooMany_31 rfl rfl
      · refine ww_iconst (pc := 26) (v := 1) hC dX5_isTooMany_26 rfl ?_
        refine ww_goto (pc := 27) (tgt := 31) hC dX5_isTooMany_27 (by decide) ?_
        exact ww_zreturn (pc := 31) hC hR dX5_isTooMany_31 rfl rfl
  unfold f_X5_isTooMany
  refine ww_iload_n (pc := 0) hC 0 rfl dX5_isTooMany_0 rfl ?_
  refine ww_iconst (pc := 1) (v := 2) hC dX5_isTooMany_1 rfl ?_
  refine ww_icmp_ne (pc := 2) (tgt := 14) hC dX5_isTooMany_2 (by decide) ?_ ?_
  · refine ww_lv [0, 1] rfl ?_
    exact hJ14
  · refine ww_aload_n (pc := 5) hC 2 rfl dX5_isTooMany_5 rfl ?_
    refine ww_geti (pc := 6) (Cl := RX2) (T := TX2) (N := 17) (j := 10) (ref := RX2) hC (h2 0 _ rfl) rfl inT_X2 (by decide) mw_163 rfl rfl dX5_isTooMany_6 ?_
    refine ww_bipush (pc := 9) (v := 6) hC dX5_isTooMany_9 rfl ?_
    refine ww_icmp_ge (pc := 11) (tgt := 26) hC dX5_isTooMany_11 (by decide) ?_ ?_
    · refine ww_iconst (pc := 26) (v := 1) hC dX5_isTooMany_26 rfl ?_
      refine ww_goto (pc := 27) (tgt := 31) hC dX5_isTooMany_27 (by decide) ?_
      exact ww_zreturn (pc := 31) hC hR dX5_isTooMany_31 rfl rfl
    · refine ww_lv [0, 1] rfl ?_
      exact hJ14
theorem dX5_lowest_0 : decode cX5_lowest 0 = .ok (.iload_n 0, 1) := by decide +kernel
theorem dX5_lowest_1 : decode cX5_lowest 1 = .ok (.bipush 6, 2) := by decide +kernel
theorem dX5_lowest_3 : decode cX5_lowest 3 = .ok (.if_icmp .ne 14, 3) := by decide +kernel
theorem dX5_lowest_6 : decode cX5_lowest 6 = .ok (.iload_n 1, 1) := by decide +kernel
theorem dX5_lowest_7 : decode cX5_lowest 7 = .ok (.iconst 3, 1) := by decide +kernel
theorem dX5_lowest_8 : decode cX5_lowest 8 = .ok (.irem, 1) := by decide +kernel
theorem dX5_lowest_9 : decode cX5_lowest 9 = .ok (.iconst 2, 1) := by decide +kernel
theorem dX5_lowest_10 : decode cX5_lowest 10 = .ok (.if_icmp .ne 7, 3) := by decide +kernel
theorem dX5_lowest_13 : decode cX5_lowest 13 = .ok (.iconst 1, 1) := by decide +kernel
theorem dX5_lowest_14 : decode cX5_lowest 14 = .ok (.goto 4, 3) := by decide +kernel
theorem dX5_lowest_17 : decode cX5_lowest 17 = .ok (.iconst 0, 1) := by decide +kernel
theorem dX5_lowest_18 : decode cX5_lowest 18 = .ok (.istore_n 2, 1) := by decide +kernel
theorem dX5_lowest_19 : decode cX5_lowest 19 = .ok (.iload_n 0, 1) := by decide +kernel
theorem dX5_lowest_20 : decode cX5_lowest 20 = .ok (.iconst 4, 1) := by decide +kernel
theorem dX5_lowest_21 : decode cX5_lowest 21 = .ok (.if_icmp .eq 12, 3) := by decide +kernel
theorem dX5_lowest_24 : decode cX5_lowest 24 = .ok (.iload_n 0, 1) := by decide +kernel
theorem dX5_lowest_25 : decode cX5_lowest 25 = .ok (.iconst 5, 1) := by decide +kernel
theorem dX5_lowest_26 : decode cX5_lowest 26 = .ok (.if_icmp .eq 7, 3) := by decide +kernel
theorem dX5_lowest_29 : decode cX5_lowest 29 = .ok (.iload_n 2, 1) := by decide +kernel
theorem dX5_lowest_30 : decode cX5_lowest 30 = .ok (.ifCond .eq 7, 3) := by decide +kernel
theorem dX5_lowest_33 : decode cX5_lowest 33 = .ok (.iconst 1, 1) := by decide +kernel
theorem dX5_lowest_34 : decode cX5_lowest 34 = .ok (.goto 4, 3) := by decide +kernel
theorem dX5_lowest_37 : decode cX5_lowest 37 = .ok (.iconst 0, 1) := by decide +kernel
theorem dX5_lowest_38 : decode cX5_lowest 38 = .ok (.ireturn, 1) := by decide +kernel
set_option maxHeartbeats 4000000 in
set_option maxRecDepth 100000 in
theorem c_X5_lowest {l : Launch} {Y : ww_Y} {ad : Nat → Nat} {G : List ww_L} (σ : ww_M) (p0 : Int32) (p1 : Int32) : ww_Cn l Y ad G yX5_lowest cX5_lowest 3 (some .int) 1 [.int p0, .int p1] σ ((f_X5_lowest p0 p1).bind (ww_ri σ)) := by
  refine ww_met (by decide +kernel) (Nat.le_of_ble_eq_true rfl) ?_
  intro X hC hR
  have hC : ww_C X l Y ad G 1 cX5_lowest 3 RX5 := hC
  show ww_V X Y ad G 3 σ 0 [(0, .int p0), (1, .int p1)] [] ((f_X5_lowest p0 p1).bind (ww_ri σ))
  have hJ18 : ∀ (s0 : Int32), ww_V X Y ad G 3 σ 18 [(0, .int p0)] [.int s0] ((f_X5_lowest_j18 p0 p1 s0).bind (ww_ri σ)) := by
    intro s0
    unfold f_X5_lowest_j18
    refine ww_istore_n (pc := 18) (lv' := [(2, .int s0), (0, .int p0)]) hC dX5_lowest_18 rfl (by decide) rfl ?_
    refine ww_iload_n (pc := 19) hC 1 rfl dX5_lowest_19 rfl ?_
    refine ww_iconst (pc := 20) (v := 4) hC dX5_lowest_20 rfl ?_
    refine ww_icmp_eq (pc := 21) (tgt := 33) hC dX5_lowest_21 (by decide) ?_ ?_
    · refine ww_iconst (pc := 33) (v := 1) hC dX5_lowest_33 rfl ?_
      refine ww_goto (pc := 34) (tgt := 38) hC dX5_lowest_34 (by decide) ?_
      exact ww_ireturn (pc := 38) hC hR dX5_lowest_38 rfl
    · refine ww_iload_n (pc := 24) hC 1 rfl dX5_lowest_24 rfl ?_
      refine ww_iconst (pc := 25) (v := 5) hC dX5_lowest_25 rfl ?_
      refine ww_icmp_eq (pc := 26) (tgt := 33) hC dX5_lowest_26 (by decide) ?_ ?_
      · refine ww_iconst (pc := 33) (v := 1) hC dX5_lowest_33 rfl ?_
        refine ww_goto (pc := 34) (tgt := 38) hC dX5_lowest_34 (by decide) ?_
        exact ww_ireturn (pc := 38) hC hR dX5_lowest_38 rfl
      · refine ww_iload_n (pc := 29) hC 0 rfl dX5_lowest_29 rfl ?_
        refine ww_if_eq (pc := 30) (tgt := 37) hC dX5_lowest_30 (by decide) ?_ ?_
        · refine ww_iconst (pc := 37) (v := 0) hC dX5_lowest_37 rfl ?_
          exact ww_ireturn (pc := 38) hC hR dX5_lowest_38 rfl
        · refine ww_iconst (pc := 33) (v := 1) hC dX5_lowest_33 rfl ?_
          refine ww_goto (pc := 34) (tgt := 38) hC dX5_lowest_34 (by decide) ?_
          exact ww_ireturn (pc := 38) hC hR dX5_lowest_38 rfl
  have hJ17 : ww_V X Y ad G 3 σ 17 [(0, .int p0)] [] ((f_X5_lowest_j17 p0 p1).bind (ww_ri σ)) := by
    unfold f_X5_lowest_j17
    refine ww_iconst (pc := 17) (v := 0) hC dX5_lowest_17 rfl ?_
    exact hJ18 0
  unfold f_X5_lowest
  refine ww_iload_n (pc := 0) hC 0 rfl dX5_lowest_0 rfl ?_
  refine ww_bipush (pc := 1) (v := 6) hC dX5_lowest_1 rfl ?_
  refine ww_icmp_ne (pc := 3) (tgt := 17) hC dX5_lowest_3 (by decide) ?_ ?_
  · refine ww_lv [0] rfl ?_
    exact hJ17
  · refine ww_iload_n (pc := 6) hC 1 rfl dX5_lowest_6 rfl ?_
    refine ww_iconst (pc := 7) (v := 3) hC dX5_lowest_7 rfl ?_
    refine ww_irem_c (pc := 8) hC dX5_lowest_8 (by decide) ?_
    refine ww_iconst (pc := 9) (v := 2) hC dX5_lowest_9 rfl ?_
    refine ww_icmp_ne (pc := 10) (tgt := 17) hC dX5_lowest_10 (by decide) ?_ ?_
    · refine ww_lv [0] rfl ?_
      exact hJ17
    · refine ww_iconst (pc := 13) (v := 1) hC dX5_lowest_13 rfl ?_
      refine ww_goto (pc := 14) (tgt := 18) hC dX5_lowest_14 (by decide) ?_
      refine ww_lv [0] rfl ?_
      exact hJ18 1
theorem dX5_highestOfWhale_0 : decode cX5_highestOfWhale 0 = .ok (.iload_n 0, 1) := by decide +kernel
theorem dX5_highestOfWhale_1 : decode cX5_highestOfWhale 1 = .ok (.ifCond .ne 5, 3) := by decide +kernel
theorem dX5_highestOfWhale_4 : decode cX5_highestOfWhale 4 = .ok (.iconst 5, 1) := by decide +kernel
theorem dX5_highestOfWhale_5 : decode cX5_highestOfWhale 5 = .ok (.ireturn, 1) := by decide +kernel
theorem dX5_highestOfWhale_6 : decode cX5_highestOfWhale 6 = .ok (.iload_n 0, 1) := by decide +kernel
theorem dX5_highestOfWhale_7 : decode cX5_highestOfWhale 7 = .ok (.iconst 3, 1) := by decide +kernel
theorem dX5_highestOfWhale_8 : decode cX5_highestOfWhale 8 = .ok (.irem, 1) := by decide +kernel
theorem dX5_highestOfWhale_9 : decode cX5_highestOfWhale 9 = .ok (.lookupswitch 32 #[(1, 27), (2, 30)], 27) := by decide +kernel
theorem dX5_highestOfWhale_36 : decode cX5_highestOfWhale 36 = .ok (.bipush 9, 2) := by decide +kernel
theorem dX5_highestOfWhale_38 : decode cX5_highestOfWhale 38 = .ok (.ireturn, 1) := by decide +kernel
theorem dX5_highestOfWhale_39 : decode cX5_highestOfWhale 39 = .ok (.iconst 3, 1) := by decide +kernel
theorem dX5_highestOfWhale_40 : decode cX5_highestOfWhale 40 = .ok (.ireturn, 1) := by decide +kernel
theorem dX5_highestOfWhale_41 : decode cX5_highestOfWhale 41 = .ok (.bipush 8, 2) := by decide +kernel
theorem dX5_highestOfWhale_43 : decode cX5_highestOfWhale 43 = .ok (.ireturn, 1) := by decide +kernel
set_option maxHeartbeats 4000000 in
set_option maxRecDepth 100000 in
theorem c_X5_highestOfWhale {l : Launch} {Y : ww_Y} {ad : Nat → Nat} {G : List ww_L} (σ : ww_M) (p0 : Int32) : ww_Cn l Y ad G yX5_highestOfWhale cX5_highestOfWhale 1 (some .int) 1 [.int p0] σ ((f_X5_highestOfWhale p0).bind (ww_ri σ)) := by
  refine ww_met (by decide +kernel) (Nat.le_of_ble_eq_true rfl) ?_
  intro X hC hR
  have hC : ww_C X l Y ad G 1 cX5_highestOfWhale 1 RX5 := hC
  show ww_V X Y ad G 1 σ 0 [(0, .int p0)] [] ((f_X5_highestOfWhale p0).bind (ww_ri σ))
  unfold f_X5_highestOfWhale
  refine ww_iload_n (pc := 0) hC 0 rfl dX5_highestOfWhale_0 rfl ?_
  refine ww_if_ne (pc := 1) (tgt := 6) hC dX5_highestOfWhale_1 (by decide) ?_ ?_
  · refine ww_iload_n (pc := 6) hC 0 rfl dX5_highestOfWhale_6 rfl ?_
    refine ww_iconst (pc := 7) (v := 3) hC dX5_highestOfWhale_7 rfl ?_
    refine ww_irem_c (pc := 8) hC dX5_highestOfWhale_8 (by decide) ?_
    refine ww_look (pc := 9) (tgt := 36) (off := 27) hC 1 dX5_highestOfWhale_9 (by decide) (by decide) (by decide) ?_ (fun q9_0 => ?_)
    · refine ww_bipush (pc := 36) (v := 9) hC dX5_highestOfWhale_36 rfl ?_
      exact ww_ireturn (pc := 38) hC hR dX5_highestOfWhale_38 rfl
    refine ww_look (pc := 9) (tgt := 39) (off := 30) hC 2 dX5_highestOfWhale_9 (by decide) (by decide) (by decide) ?_ (fun q9_1 => ?_)
    · refine ww_iconst (pc := 39) (v := 3) hC dX5_highestOfWhale_39 rfl ?_
      exact ww_ireturn (pc := 40) hC hR dX5_highestOfWhale_40 rfl
    have z9_0 : ¬ (1 : Int) = (ww_rem p0 3).toInt := fun e => ww_nei q9_0 e.symm
    have z9_1 : ¬ (2 : Int) = (ww_rem p0 3).toInt := fun e => ww_nei q9_1 e.symm
    refine ww_lookD (pc := 9) (tgt := 41) hC dX5_highestOfWhale_9 (by decide) (by simp [Op.lookupswitch.offset, z9_0, z9_1]) (by decide) ?_
    refine ww_bipush (pc := 41) (v := 8) hC dX5_highestOfWhale_41 rfl ?_
    exact ww_ireturn (pc := 43) hC hR dX5_highestOfWhale_43 rfl
  · refine ww_iconst (pc := 4) (v := 5) hC dX5_highestOfWhale_4 rfl ?_
    exact ww_ireturn (pc := 5) hC hR dX5_highestOfWhale_5 rfl
theorem dX5_highest_0 : decode cX5_highest 0 = .ok (.iload_n 0, 1) := by decide +kernel
theorem dX5_highest_1 : decode cX5_highest 1 = .ok (.tableswitch 56 1 5 #[35, 46, 49, 51, 54], 35) := by decide +kernel
theorem dX5_highest_36 : decode cX5_highest 36 = .ok (.iload_n 1, 1) := by decide +kernel
theorem dX5_highest_37 : decode cX5_highest 37 = .ok (.ifCond .ne 7, 3) := by decide +kernel
theorem dX5_highest_40 : decode cX5_highest 40 = .ok (.iconst 3, 1) := by decide +kernel
theorem dX5_highest_41 : decode cX5_highest 41 = .ok (.goto 5, 3) := by decide +kernel
theorem dX5_highest_44 : decode cX5_highest 44 = .ok (.bipush 9, 2) := by decide +kernel
theorem dX5_highest_46 : decode cX5_highest 46 = .ok (.ireturn, 1) := by decide +kernel
theorem dX5_highest_47 : decode cX5_highest 47 = .ok (.bipush 9, 2) := by decide +kernel
theorem dX5_highest_49 : decode cX5_highest 49 = .ok (.ireturn, 1) := by decide +kernel
theorem dX5_highest_50 : decode cX5_highest 50 = .ok (.iconst 3, 1) := by decide +kernel
theorem dX5_highest_51 : decode cX5_highest 51 = .ok (.ireturn, 1) := by decide +kernel
theorem dX5_highest_52 : decode cX5_highest 52 = .ok (.bipush 9, 2) := by decide +kernel
theorem dX5_highest_54 : decode cX5_highest 54 = .ok (.ireturn, 1) := by decide +kernel
theorem dX5_highest_55 : decode cX5_highest 55 = .ok (.iconst 2, 1) := by decide +kernel
theorem dX5_highest_56 : decode cX5_highest 56 = .ok (.ireturn, 1) := by decide +kernel
theorem dX5_highest_57 : decode cX5_highest 57 = .ok (.iload_n 1, 1) := by decide +kernel
theorem dX5_highest_58 : decode cX5_highest 58 = .ok (.invokestatic 113, 3) := by decide +kernel
theorem dX5_highest_61 : decode cX5_highest 61 = .ok (.ireturn, 1) := by decide +kernel
set_option maxHeartbeats 4000000 in
set_option maxRecDepth 100000 in
theorem c_X5_highest {l : Launch} {Y : ww_Y} {ad : Nat → Nat} {G : List ww_L} (σ : ww_M) (p0 : Int32) (p1 : Int32) : ww_Cn l Y ad G yX5_highest cX5_highest 2 (some .int) 2 [.int p0, .int p1] σ ((f_X5_highest p0 p1).bind (ww_ri σ)) := by
  refine ww_met (by decide +kernel) (Nat.le_of_ble_eq_true rfl) ?_
  intro X hC hR
  have hC : ww_C X l Y ad G 2 cX5_highest 2 RX5 := hC
  show ww_V X Y ad G 2 σ 0 [(0, .int p0), (1, .int p1)] [] ((f_X5_highest p0 p1).bind (ww_ri σ))
  unfold f_X5_highest
  refine ww_iload_n (pc := 0) hC 0 rfl dX5_highest_0 rfl ?_
  refine ww_tab (pc := 1) (tgt := 36) hC 1 dX5_highest_1 (by decide) (by decide) rfl (by decide) ?_ (fun q1_0 => ?_)
  · refine ww_iload_n (pc := 36) hC 1 rfl dX5_highest_36 rfl ?_
    refine ww_if_ne (pc := 37) (tgt := 44) hC dX5_highest_37 (by decide) ?_ ?_
    · refine ww_bipush (pc := 44) (v := 9) hC dX5_highest_44 rfl ?_
      exact ww_ireturn (pc := 46) hC hR dX5_highest_46 rfl
    · refine ww_iconst (pc := 40) (v := 3) hC dX5_highest_40 rfl ?_
      refine ww_goto (pc := 41) (tgt := 46) hC dX5_highest_41 (by decide) ?_
      exact ww_ireturn (pc := 46) hC hR dX5_highest_46 rfl
  refine ww_tab (pc := 1) (tgt := 47) hC 2 dX5_highest_1 (by decide) (by decide) rfl (by decide) ?_ (fun q1_1 => ?_)
  · refine ww_bipush (pc := 47) (v := 9) hC dX5_highest_47 rfl ?_
    exact ww_ireturn (pc := 49) hC hR dX5_highest_49 rfl
  refine ww_tab (pc := 1) (tgt := 50) hC 3 dX5_highest_1 (by decide) (by decide) rfl (by decide) ?_ (fun q1_2 => ?_)
  · refine ww_iconst (pc := 50) (v := 3) hC dX5_highest_50 rfl ?_
    exact ww_ireturn (pc := 51) hC hR dX5_highest_51 rfl
  refine ww_tab (pc := 1) (tgt := 52) hC 4 dX5_highest_1 (by decide) (by decide) rfl (by decide) ?_ (fun q1_3 => ?_)
  · refine ww_bipush (pc := 52) (v := 9) hC dX5_highest_52 rfl ?_
    exact ww_ireturn (pc := 54) hC hR dX5_highest_54 rfl
  refine ww_tab (pc := 1) (tgt := 55) hC 5 dX5_highest_1 (by decide) (by decide) rfl (by decide) ?_ (fun q1_4 => ?_)
  · refine ww_iconst (pc := 55) (v := 2) hC dX5_highest_55 rfl ?_
    exact ww_ireturn (pc := 56) hC hR dX5_highest_56 rfl
  have z1_0 : p0.toInt ≠ (1 : Int) := ww_nei q1_0
  have z1_1 : p0.toInt ≠ (2 : Int) := ww_nei q1_1
  have z1_2 : p0.toInt ≠ (3 : Int) := ww_nei q1_2
  have z1_3 : p0.toInt ≠ (4 : Int) := ww_nei q1_3
  have z1_4 : p0.toInt ≠ (5 : Int) := ww_nei q1_4
  refine ww_tabD (pc := 1) (tgt := 57) hC dX5_highest_1 (by omega) (by decide) ?_
  refine ww_iload_n (pc := 57) hC 1 rfl dX5_highest_57 rfl ?_
  refine ww_callSi (pc := 58) (st := []) (As := [.int p1]) hC (c_X5_highestOfWhale σ p1) mm_X5_highestOfWhale mw_464 (by omega) (by decide) (Nat.le_of_ble_eq_true rfl) rfl dX5_highest_58 (fun v58 => ?_)
  exact ww_ireturn (pc := 61) hC hR dX5_highest_61 rfl
theorem dX5_put_0 : decode cX5_put 0 = .ok (.iload_n 0, 1) := by decide +kernel
theorem dX5_put_1 : decode cX5_put 1 = .ok (.tableswitch 76 1 5 #[35, 44, 52, 60, 68], 35) := by decide +kernel
theorem dX5_put_36 : decode cX5_put 36 = .ok (.aload_n 3, 1) := by decide +kernel
theorem dX5_put_37 : decode cX5_put 37 = .ok (.iload_n 1, 1) := by decide +kernel
theorem dX5_put_38 : decode cX5_put 38 = .ok (.iload_n 2, 1) := by decide +kernel
theorem dX5_put_39 : decode cX5_put 39 = .ok (.invokevirtual 117, 3) := by decide +kernel
theorem dX5_put_42 : decode cX5_put 42 = .ok (.goto 41, 3) := by decide +kernel
theorem dX5_put_45 : decode cX5_put 45 = .ok (.aload_n 3, 1) := by decide +kernel
theorem dX5_put_46 : decode cX5_put 46 = .ok (.iload_n 2, 1) := by decide +kernel
theorem dX5_put_47 : decode cX5_put 47 = .ok (.invokevirtual 121, 3) := by decide +kernel
theorem dX5_put_50 : decode cX5_put 50 = .ok (.goto 33, 3) := by decide +kernel
theorem dX5_put_53 : decode cX5_put 53 = .ok (.aload_n 3, 1) := by decide +kernel
theorem dX5_put_54 : decode cX5_put 54 = .ok (.iload_n 2, 1) := by decide +kernel
theorem dX5_put_55 : decode cX5_put 55 = .ok (.putfield 125, 3) := by decide +kernel
theorem dX5_put_58 : decode cX5_put 58 = .ok (.goto 25, 3) := by decide +kernel
theorem dX5_put_61 : decode cX5_put 61 = .ok (.aload_n 3, 1) := by decide +kernel
theorem dX5_put_62 : decode cX5_put 62 = .ok (.iload_n 2, 1) := by decide +kernel
theorem dX5_put_63 : decode cX5_put 63 = .ok (.putfield 128, 3) := by decide +kernel
theorem dX5_put_66 : decode cX5_put 66 = .ok (.goto 17, 3) := by decide +kernel
theorem dX5_put_69 : decode cX5_put 69 = .ok (.aload_n 3, 1) := by decide +kernel
theorem dX5_put_70 : decode cX5_put 70 = .ok (.iload_n 2, 1) := by decide +kernel
theorem dX5_put_71 : decode cX5_put 71 = .ok (.putfield 131, 3) := by decide +kernel
theorem dX5_put_74 : decode cX5_put 74 = .ok (.goto 9, 3) := by decide +kernel
theorem dX5_put_77 : decode cX5_put 77 = .ok (.aload_n 3, 1) := by decide +kernel
theorem dX5_put_78 : decode cX5_put 78 = .ok (.iload_n 1, 1) := by decide +kernel
theorem dX5_put_79 : decode cX5_put 79 = .ok (.iload_n 2, 1) := by decide +kernel
theorem dX5_put_80 : decode cX5_put 80 = .ok (.invokevirtual 134, 3) := by decide +kernel
theorem dX5_put_83 : decode cX5_put 83 = .ok (.return_, 1) := by decide +kernel
set_option maxHeartbeats 4000000 in
set_option maxRecDepth 100000 in
theorem c_X5_put {l : Launch} {Y : ww_Y} {ad : Nat → Nat} {G : List ww_L} (o3 : Nat) (h3 : ww_at G o3 (ww_LShore o3)) (σ : ww_M) (p0 : Int32) (p1 : Int32) (p2 : Int32) : ww_Cn l Y ad G yX5_put cX5_put 4 none 3 [.int p0, .int p1, .int p2, .ref (ad o3)] σ ((f_X5_put σ o3 p0 p1 p2).bind ww_rv) := by
  refine ww_met (by decide +kernel) (Nat.le_of_ble_eq_true rfl) ?_
  intro X hC hR
  have hC : ww_C X l Y ad G 3 cX5_put 4 RX5 := hC
  show ww_V X Y ad G 4 σ 0 [(0, .int p0), (1, .int p1), (2, .int p2), (3, .ref (ad o3))] [] ((f_X5_put σ o3 p0 p1 p2).bind ww_rv)
  unfold f_X5_put
  refine ww_iload_n (pc := 0) hC 0 rfl dX5_put_0 rfl ?_
  refine ww_tab (pc := 1) (tgt := 36) hC 1 dX5_put_1 (by decide) (by decide) rfl (by decide) ?_ (fun q1_0 => ?_)
  · refine ww_aload_n (pc := 36) hC 3 rfl dX5_put_36 rfl ?_
    refine ww_iload_n (pc := 37) hC 1 rfl dX5_put_37 rfl ?_
    refine ww_iload_n (pc := 38) hC 2 rfl dX5_put_38 rfl ?_
    refine ww_callVv (pc := 39) (st := []) (As := [.int p1, .int p2]) hC (c_X2_putSand o3 h3 σ p1 p2) mm_X2_putSand mw_470 (h3 0 _ rfl) rfl (by omega) (by decide) (Nat.le_of_ble_eq_true rfl) rfl dX5_put_39 (fun v39 => ?_)
    refine ww_goto (pc := 42) (tgt := 83) hC dX5_put_42 (by decide) ?_
    exact ww_return (pc := 83) hC hR dX5_put_83 rfl
  refine ww_tab (pc := 1) (tgt := 45) hC 2 dX5_put_1 (by decide) (by decide) rfl (by decide) ?_ (fun q1_1 => ?_)
  · refine ww_aload_n (pc := 45) hC 3 rfl dX5_put_45 rfl ?_
    refine ww_iload_n (pc := 46) hC 2 rfl dX5_put_46 rfl ?_
    refine ww_callVv (pc := 47) (st := []) (As := [.int p2]) hC (c_X2_putLevel o3 h3 σ p2) mm_X2_putLevel mw_475 (h3 0 _ rfl) rfl (by omega) (by decide) (Nat.le_of_ble_eq_true rfl) rfl dX5_put_47 (fun v47 => ?_)
    refine ww_goto (pc := 50) (tgt := 83) hC dX5_put_50 (by decide) ?_
    exact ww_return (pc := 83) hC hR dX5_put_83 rfl
  refine ww_tab (pc := 1) (tgt := 53) hC 3 dX5_put_1 (by decide) (by decide) rfl (by decide) ?_ (fun q1_2 => ?_)
  · refine ww_aload_n (pc := 53) hC 3 rfl dX5_put_53 rfl ?_
    refine ww_iload_n (pc := 54) hC 2 rfl dX5_put_54 rfl ?_
    refine ww_puti (pc := 55) (Cl := RX2) (T := TX2) (N := 17) (j := 12) (ref := RX2) hC (h3 0 _ rfl) rfl inT_X2 (by decide) mw_170 rfl tyX2 tyX2_ok nmX2 rfl rfl (tyX2_ok 12 (by decide)) dX5_put_55 ?_
    refine ww_goto (pc := 58) (tgt := 83) hC dX5_put_58 (by decide) ?_
    exact ww_return (pc := 83) hC hR dX5_put_83 rfl
  refine ww_tab (pc := 1) (tgt := 61) hC 4 dX5_put_1 (by decide) (by decide) rfl (by decide) ?_ (fun q1_3 => ?_)
  · refine ww_aload_n (pc := 61) hC 3 rfl dX5_put_61 rfl ?_
    refine ww_iload_n (pc := 62) hC 2 rfl dX5_put_62 rfl ?_
    refine ww_puti (pc := 63) (Cl := RX2) (T := TX2) (N := 17) (j := 13) (ref := RX2) hC (h3 0 _ rfl) rfl inT_X2 (by decide) mw_173 rfl tyX2 tyX2_ok nmX2 rfl rfl (tyX2_ok 13 (by decide)) dX5_put_63 ?_
    refine ww_goto (pc := 66) (tgt := 83) hC dX5_put_66 (by decide) ?_
    exact ww_return (pc := 83) hC hR dX5_put_83 rfl
  refine ww_tab (pc := 1) (tgt := 69) hC 5 dX5_put_1 (by decide) (by decide) rfl (by decide) ?_ (fun q1_4 => ?_)
  · refine ww_aload_n (pc := 69) hC 3 rfl dX5_put_69 rfl ?_
    refine ww_iload_n (pc := 70) hC 2 rfl dX5_put_70 rfl ?_
    refine ww_puti (pc := 71) (Cl := RX2) (T := TX2) (N := 17) (j := 14) (ref := RX2) hC (h3 0 _ rfl) rfl inT_X2 (by decide) mw_177 rfl tyX2 tyX2_ok nmX2 rfl rfl (tyX2_ok 14 (by decide)) dX5_put_71 ?_
    refine ww_goto (pc := 74) (tgt := 83) hC dX5_put_74 (by decide) ?_
    exact ww_return (pc := 83) hC hR dX5_put_83 rfl
  have z1_0 : p0.toInt ≠ (1 : Int) := ww_nei q1_0
  have z1_1 : p0.toInt ≠ (2 : Int) := ww_nei q1_1
  have z1_2 : p0.toInt ≠ (3 : Int) := ww_nei q1_2
  have z1_3 : p0.toInt ≠ (4 : Int) := ww_nei q1_3
  have z1_4 : p0.toInt ≠ (5 : Int) := ww_nei q1_4
  refine ww_tabD (pc := 1) (tgt := 77) hC dX5_put_1 (by omega) (by decide) ?_
  refine ww_aload_n (pc := 77) hC 3 rfl dX5_put_77 rfl ?_
  refine ww_iload_n (pc := 78) hC 1 rfl dX5_put_78 rfl ?_
  refine ww_iload_n (pc := 79) hC 2 rfl dX5_put_79 rfl ?_
  refine ww_callVv (pc := 80) (st := []) (As := [.int p1, .int p2]) hC (c_X2_putWhale o3 h3 σ p1 p2) mm_X2_putWhale mw_479 (h3 0 _ rfl) rfl (by omega) (by decide) (Nat.le_of_ble_eq_true rfl) rfl dX5_put_80 (fun v80 => ?_)
  exact ww_return (pc := 83) hC hR dX5_put_83 rfl
theorem dX5_readLine_0 : decode cX5_readLine 0 = .ok (.aload_n 1, 1) := by decide +kernel
theorem dX5_readLine_1 : decode cX5_readLine 1 = .ok (.invokestatic 45, 3) := by decide +kernel
theorem dX5_readLine_4 : decode cX5_readLine 4 = .ok (.istore_n 3, 1) := by decide +kernel
theorem dX5_readLine_5 : decode cX5_readLine 5 = .ok (.iload_n 3, 1) := by decide +kernel
theorem dX5_readLine_6 : decode cX5_readLine 6 = .ok (.ifCond .ne 9, 3) := by decide +kernel
theorem dX5_readLine_9 : decode cX5_readLine 9 = .ok (.aload_n 0, 1) := by decide +kernel
theorem dX5_readLine_10 : decode cX5_readLine 10 = .ok (.aload_n 1, 1) := by decide +kernel
theorem dX5_readLine_11 : decode cX5_readLine 11 = .ok (.invokevirtual 49, 3) := by decide +kernel
theorem dX5_readLine_14 : decode cX5_readLine 14 = .ok (.ireturn, 1) := by decide +kernel
theorem dX5_readLine_15 : decode cX5_readLine 15 = .ok (.aload_n 0, 1) := by decide +kernel
theorem dX5_readLine_16 : decode cX5_readLine 16 = .ok (.iload_n 3, 1) := by decide +kernel
theorem dX5_readLine_17 : decode cX5_readLine 17 = .ok (.aload_n 2, 1) := by decide +kernel
theorem dX5_readLine_18 : decode cX5_readLine 18 = .ok (.invokevirtual 53, 3) := by decide +kernel
theorem dX5_readLine_21 : decode cX5_readLine 21 = .ok (.istore 4, 2) := by decide +kernel
theorem dX5_readLine_23 : decode cX5_readLine 23 = .ok (.iload 4, 2) := by decide +kernel
theorem dX5_readLine_25 : decode cX5_readLine 25 = .ok (.ifCond .eq 14, 3) := by decide +kernel
theorem dX5_readLine_28 : decode cX5_readLine 28 = .ok (.aload_n 0, 1) := by decide +kernel
theorem dX5_readLine_29 : decode cX5_readLine 29 = .ok (.iload 4, 2) := by decide +kernel
theorem dX5_readLine_31 : decode cX5_readLine 31 = .ok (.aload_n 1, 1) := by decide +kernel
theorem dX5_readLine_32 : decode cX5_readLine 32 = .ok (.getfield 57, 3) := by decide +kernel
theorem dX5_readLine_35 : decode cX5_readLine 35 = .ok (.invokevirtual 60, 3) := by decide +kernel
theorem dX5_readLine_38 : decode cX5_readLine 38 = .ok (.ireturn, 1) := by decide +kernel
theorem dX5_readLine_39 : decode cX5_readLine 39 = .ok (.iconst 0, 1) := by decide +kernel
theorem dX5_readLine_40 : decode cX5_readLine 40 = .ok (.istore 5, 2) := by decide +kernel
theorem dX5_readLine_42 : decode cX5_readLine 42 = .ok (.iload 5, 2) := by decide +kernel
theorem dX5_readLine_44 : decode cX5_readLine 44 = .ok (.bipush 10, 2) := by decide +kernel
theorem dX5_readLine_46 : decode cX5_readLine 46 = .ok (.if_icmp .gt 122, 3) := by decide +kernel
theorem dX5_readLine_49 : decode cX5_readLine 49 = .ok (.aload_n 1, 1) := by decide +kernel
theorem dX5_readLine_50 : decode cX5_readLine 50 = .ok (.invokevirtual 31, 3) := by decide +kernel
theorem dX5_readLine_53 : decode cX5_readLine 53 = .ok (.aload_n 1, 1) := by decide +kernel
theorem dX5_readLine_54 : decode cX5_readLine 54 = .ok (.getfield 34, 3) := by decide +kernel
theorem dX5_readLine_57 : decode cX5_readLine 57 = .ok (.iconst 3, 1) := by decide +kernel
theorem dX5_readLine_58 : decode cX5_readLine 58 = .ok (.if_icmp .ne 14, 3) := by decide +kernel
theorem dX5_readLine_61 : decode cX5_readLine 61 = .ok (.iload_n 3, 1) := by decide +kernel
theorem dX5_readLine_62 : decode cX5_readLine 62 = .ok (.iload 5, 2) := by decide +kernel
theorem dX5_readLine_64 : decode cX5_readLine 64 = .ok (.invokestatic 64, 3) := by decide +kernel
theorem dX5_readLine_67 : decode cX5_readLine 67 = .ok (.ifCond .eq 5, 3) := by decide +kernel
theorem dX5_readLine_70 : decode cX5_readLine 70 = .ok (.iconst 1, 1) := by decide +kernel
theorem dX5_readLine_71 : decode cX5_readLine 71 = .ok (.ireturn, 1) := by decide +kernel
theorem dX5_readLine_72 : decode cX5_readLine 72 = .ok (.aload_n 1, 1) := by decide +kernel
theorem dX5_readLine_73 : decode cX5_readLine 73 = .ok (.getfield 34, 3) := by decide +kernel
theorem dX5_readLine_76 : decode cX5_readLine 76 = .ok (.iconst 2, 1) := by decide +kernel
theorem dX5_readLine_77 : decode cX5_readLine 77 = .ok (.if_icmp .ne 12, 3) := by decide +kernel
theorem dX5_readLine_80 : decode cX5_readLine 80 = .ok (.iload_n 3, 1) := by decide +kernel
theorem dX5_readLine_81 : decode cX5_readLine 81 = .ok (.iload 5, 2) := by decide +kernel
theorem dX5_readLine_83 : decode cX5_readLine 83 = .ok (.invokestatic 67, 3) := by decide +kernel
theorem dX5_readLine_86 : decode cX5_readLine 86 = .ok (.ifCond .ne 9, 3) := by decide +kernel
theorem dX5_readLine_89 : decode cX5_readLine 89 = .ok (.aload_n 0, 1) := by decide +kernel
theorem dX5_readLine_90 : decode cX5_readLine 90 = .ok (.aload_n 1, 1) := by decide +kernel
theorem dX5_readLine_91 : decode cX5_readLine 91 = .ok (.invokevirtual 49, 3) := by decide +kernel
theorem dX5_readLine_94 : decode cX5_readLine 94 = .ok (.ireturn, 1) := by decide +kernel
theorem dX5_readLine_95 : decode cX5_readLine 95 = .ok (.iload_n 3, 1) := by decide +kernel
theorem dX5_readLine_96 : decode cX5_readLine 96 = .ok (.iload 5, 2) := by decide +kernel
theorem dX5_readLine_98 : decode cX5_readLine 98 = .ok (.aload_n 2, 1) := by decide +kernel
theorem dX5_readLine_99 : decode cX5_readLine 99 = .ok (.invokestatic 70, 3) := by decide +kernel
theorem dX5_readLine_102 : decode cX5_readLine 102 = .ok (.ifCond .eq 13, 3) := by decide +kernel
theorem dX5_readLine_105 : decode cX5_readLine 105 = .ok (.aload_n 0, 1) := by decide +kernel
theorem dX5_readLine_106 : decode cX5_readLine 106 = .ok (.iconst 5, 1) := by decide +kernel
theorem dX5_readLine_107 : decode cX5_readLine 107 = .ok (.aload_n 1, 1) := by decide +kernel
theorem dX5_readLine_108 : decode cX5_readLine 108 = .ok (.getfield 57, 3) := by decide +kernel
theorem dX5_readLine_111 : decode cX5_readLine 111 = .ok (.invokevirtual 60, 3) := by decide +kernel
theorem dX5_readLine_114 : decode cX5_readLine 114 = .ok (.ireturn, 1) := by decide +kernel
theorem dX5_readLine_115 : decode cX5_readLine 115 = .ok (.aload_n 1, 1) := by decide +kernel
theorem dX5_readLine_116 : decode cX5_readLine 116 = .ok (.getfield 74, 3) := by decide +kernel
theorem dX5_readLine_119 : decode cX5_readLine 119 = .ok (.iload_n 3, 1) := by decide +kernel
theorem dX5_readLine_120 : decode cX5_readLine 120 = .ok (.iload 5, 2) := by decide +kernel
theorem dX5_readLine_122 : decode cX5_readLine 122 = .ok (.invokestatic 77, 3) := by decide +kernel
theorem dX5_readLine_125 : decode cX5_readLine 125 = .ok (.if_icmp .lt 16, 3) := by decide +kernel
theorem dX5_readLine_128 : decode cX5_readLine 128 = .ok (.aload_n 1, 1) := by decide +kernel
theorem dX5_readLine_129 : decode cX5_readLine 129 = .ok (.getfield 74, 3) := by decide +kernel
theorem dX5_readLine_132 : decode cX5_readLine 132 = .ok (.iload_n 3, 1) := by decide +kernel
theorem dX5_readLine_133 : decode cX5_readLine 133 = .ok (.iload 5, 2) := by decide +kernel
theorem dX5_readLine_135 : decode cX5_readLine 135 = .ok (.invokestatic 81, 3) := by decide +kernel
theorem dX5_readLine_138 : decode cX5_readLine 138 = .ok (.if_icmp .le 13, 3) := by decide +kernel
theorem dX5_readLine_141 : decode cX5_readLine 141 = .ok (.aload_n 0, 1) := by decide +kernel
theorem dX5_readLine_142 : decode cX5_readLine 142 = .ok (.iconst 3, 1) := by decide +kernel
theorem dX5_readLine_143 : decode cX5_readLine 143 = .ok (.aload_n 1, 1) := by decide +kernel
theorem dX5_readLine_144 : decode cX5_readLine 144 = .ok (.getfield 57, 3) := by decide +kernel
theorem dX5_readLine_147 : decode cX5_readLine 147 = .ok (.invokevirtual 60, 3) := by decide +kernel
theorem dX5_readLine_150 : decode cX5_readLine 150 = .ok (.ireturn, 1) := by decide +kernel
theorem dX5_readLine_151 : decode cX5_readLine 151 = .ok (.iload_n 3, 1) := by decide +kernel
theorem dX5_readLine_152 : decode cX5_readLine 152 = .ok (.iload 5, 2) := by decide +kernel
theorem dX5_readLine_154 : decode cX5_readLine 154 = .ok (.aload_n 1, 1) := by decide +kernel
theorem dX5_readLine_155 : decode cX5_readLine 155 = .ok (.getfield 74, 3) := by decide +kernel
theorem dX5_readLine_158 : decode cX5_readLine 158 = .ok (.aload_n 2, 1) := by decide +kernel
theorem dX5_readLine_159 : decode cX5_readLine 159 = .ok (.invokestatic 84, 3) := by decide +kernel
theorem dX5_readLine_162 : decode cX5_readLine 162 = .ok (.iinc 5 1, 3) := by decide +kernel
theorem dX5_readLine_165 : decode cX5_readLine 165 = .ok (.goto (-123), 3) := by decide +kernel
theorem dX5_readLine_168 : decode cX5_readLine 168 = .ok (.aload_n 0, 1) := by decide +kernel
theorem dX5_readLine_169 : decode cX5_readLine 169 = .ok (.aload_n 1, 1) := by decide +kernel
theorem dX5_readLine_170 : decode cX5_readLine 170 = .ok (.invokevirtual 49, 3) := by decide +kernel
theorem dX5_readLine_173 : decode cX5_readLine 173 = .ok (.ireturn, 1) := by decide +kernel
set_option maxHeartbeats 4000000 in
set_option maxRecDepth 100000 in
theorem c_X5_readLine {l : Launch} {Y : ww_Y} {ad : Nat → Nat} {G : List ww_L} (o0 : Nat) (h0 : ww_at G o0 (ww_LTeller o0)) (o1 : Nat) (h1 : ww_at G o1 (ww_LTape o1)) (o2 : Nat) (h2 : ww_at G o2 (ww_LShore o2)) (σ : ww_M) : ww_Cn l Y ad G yX5_readLine cX5_readLine 6 (some .boolean) 8 [.ref (ad o0), .ref (ad o1), .ref (ad o2)] σ ((f_X5_readLine σ o0 o1 o2).bind ww_rw) := by
  refine ww_met (by decide +kernel) (Nat.le_of_ble_eq_true rfl) ?_
  intro X hC hR
  have hC : ww_C X l Y ad G 8 cX5_readLine 6 RX5 := hC
  show ww_V X Y ad G 6 σ 0 [(0, .ref (ad o0)), (1, .ref (ad o1)), (2, .ref (ad o2))] [] ((f_X5_readLine σ o0 o1 o2).bind ww_rw)
  have hJ168 : ∀ (σ : ww_M), ww_V X Y ad G 6 σ 168 [(0, .ref (ad o0)), (1, .ref (ad o1))] [] ((f_X5_readLine_j168 σ o0 o1 o2).bind ww_rw) := by
    intro σ
    unfold f_X5_readLine_j168
    refine ww_aload_n (pc := 168) hC 0 rfl dX5_readLine_168 rfl ?_
    refine ww_aload_n (pc := 169) hC 1 rfl dX5_readLine_169 rfl ?_
    refine ww_callVw (pc := 170) (st := []) (As := [.ref (ad o1)]) hC (c_X5_failAtToken o0 h0 o1 h1 σ) mm_X5_failAtToken mw_437 (h0 0 _ rfl) rfl (by omega) (by decide) (Nat.le_of_ble_eq_true rfl) rfl dX5_readLine_170 (fun v170 => ?_)
    exact ww_zreturnG (pc := 173) hC hR dX5_readLine_173 rfl
  have hJ42 : ∀ (σ : ww_M) (x3 : Int32) (x5 : Int32), ww_V X Y ad G 6 σ 42 [(0, .ref (ad o0)), (1, .ref (ad o1)), (2, .ref (ad o2)), (3, .int x3), (5, .int x5)] [] ((f_X5_readLine_j42 σ o0 o1 o2 x3 x5).bind ww_rw) := by
    intro σ x3 x5
    unfold f_X5_readLine_j42
    refine ww_assoc ?_
    refine ww_loopR (f := f_X5_readLine_b42 o0 o1 o2 x3) (fun a42 => a42.2) (fun a42 => [(0, .ref (ad o0)), (1, .ref (ad o1)), (2, .ref (ad o2)), (3, .int x3), (5, .int a42.1)]) (fun b42 => b42) (fun b42 => [(0, .ref (ad o0)), (1, .ref (ad o1))]) 168 (fun b42 => ?_) (fun a42 KK42 hc42 hx42 hr42 => ?_) ww_F (x5, σ)
    · exact hJ168 b42
    · unfold f_X5_readLine_b42
      have hJ141 : ∀ (σ : ww_M), ww_V X Y ad G 6 σ 141 [(0, .ref (ad o0)), (1, .ref (ad o1))] [] ((f_X5_readLine_j141 σ o0 o1 o2 x3).bind KK42) := by
        intro σ
        unfold f_X5_readLine_j141
        refine ww_aload_n (pc := 141) hC 0 rfl dX5_readLine_141 rfl ?_
        refine ww_iconst (pc := 142) (v := 3) hC dX5_readLine_142 rfl ?_
        refine ww_aload_n (pc := 143) hC 1 rfl dX5_readLine_143 rfl ?_
        refine ww_geti (pc := 144) (Cl := RX4) (T := TX4) (N := 6) (j := 4) (ref := RX4) hC (h1 0 _ rfl) rfl inT_X4 (by decide) mw_97 rfl rfl dX5_readLine_144 ?_
        refine ww_callVw (pc := 147) (st := []) (As := [.int 3, .int (σ o1 4)]) hC (c_X5_fail o0 h0 σ 3 (σ o1 4)) mm_X5_fail mw_441 (h0 0 _ rfl) rfl (by omega) (by decide) (Nat.le_of_ble_eq_true rfl) rfl dX5_readLine_147 (fun v147 => ?_)
        exact ww_zreturnG (pc := 150) hC hR dX5_readLine_150 ((hr42 _).trans rfl)
      have hJ89 : ∀ (σ : ww_M), ww_V X Y ad G 6 σ 89 [(0, .ref (ad o0)), (1, .ref (ad o1))] [] ((f_X5_readLine_j89 σ o0 o1 o2 x3).bind KK42) := by
        intro σ
        unfold f_X5_readLine_j89
        refine ww_aload_n (pc := 89) hC 0 rfl dX5_readLine_89 rfl ?_
        refine ww_aload_n (pc := 90) hC 1 rfl dX5_readLine_90 rfl ?_
        refine ww_callVw (pc := 91) (st := []) (As := [.ref (ad o1)]) hC (c_X5_failAtToken o0 h0 o1 h1 σ) mm_X5_failAtToken mw_437 (h0 0 _ rfl) rfl (by omega) (by decide) (Nat.le_of_ble_eq_true rfl) rfl dX5_readLine_91 (fun v91 => ?_)
        exact ww_zreturnG (pc := 94) hC hR dX5_readLine_94 ((hr42 _).trans rfl)
      have hJ72 : ∀ (σ : ww_M) (x5 : Int32), ww_V X Y ad G 6 σ 72 [(0, .ref (ad o0)), (1, .ref (ad o1)), (2, .ref (ad o2)), (3, .int x3), (5, .int x5)] [] ((f_X5_readLine_j72 σ o0 o1 o2 x3 x5).bind KK42) := by
        intro σ x5
        unfold f_X5_readLine_j72
        refine ww_aload_n (pc := 72) hC 1 rfl dX5_readLine_72 rfl ?_
        refine ww_geti (pc := 73) (Cl := RX4) (T := TX4) (N := 6) (j := 3) (ref := RX4) hC (h1 0 _ rfl) rfl inT_X4 (by decide) mw_95 rfl rfl dX5_readLine_73 ?_
        refine ww_iconst (pc := 76) (v := 2) hC dX5_readLine_76 rfl ?_
        refine ww_icmp_ne (pc := 77) (tgt := 89) hC dX5_readLine_77 (by decide) ?_ ?_
        · refine ww_lv [0, 1] rfl ?_
          exact hJ89 σ
        · refine ww_iload_n (pc := 80) hC 3 rfl dX5_readLine_80 rfl ?_
          refine ww_iload (pc := 81) hC 4 rfl dX5_readLine_81 ?_
          refine ww_callSi (pc := 83) (st := []) (As := [.int x3, .int x5]) hC (c_X5_mayGoOn σ x3 x5) mm_X5_mayGoOn mw_452 (by omega) (by decide) (Nat.le_of_ble_eq_true rfl) rfl dX5_readLine_83 (fun v83 => ?_)
          refine ww_if_ne (pc := 86) (tgt := 95) hC dX5_readLine_86 (by decide) ?_ ?_
          · refine ww_iload_n (pc := 95) hC 3 rfl dX5_readLine_95 rfl ?_
            refine ww_iload (pc := 96) hC 4 rfl dX5_readLine_96 ?_
            refine ww_aload_n (pc := 98) hC 2 rfl dX5_readLine_98 rfl ?_
            refine ww_callSi (pc := 99) (st := []) (As := [.int x3, .int x5, .ref (ad o2)]) hC (c_X5_isTooMany o2 h2 σ x3 x5) mm_X5_isTooMany mw_455 (by omega) (by decide) (Nat.le_of_ble_eq_true rfl) rfl dX5_readLine_99 (fun v99 => ?_)
            refine ww_if_eq (pc := 102) (tgt := 115) hC dX5_readLine_102 (by decide) ?_ ?_
            · refine ww_aload_n (pc := 115) hC 1 rfl dX5_readLine_115 rfl ?_
              refine ww_geti (pc := 116) (Cl := RX4) (T := TX4) (N := 6) (j := 5) (ref := RX4) hC (h1 0 _ rfl) rfl inT_X4 (by decide) mw_99 rfl rfl dX5_readLine_116 ?_
              refine ww_iload_n (pc := 119) hC 3 rfl dX5_readLine_119 rfl ?_
              refine ww_iload (pc := 120) hC 4 rfl dX5_readLine_120 ?_
              refine ww_callSi (pc := 122) (st := [.int (σ o1 5)]) (As := [.int x3, .int x5]) hC (c_X5_lowest σ x3 x5) mm_X5_lowest mw_458 (by omega) (by decide) (Nat.le_of_ble_eq_true rfl) rfl dX5_readLine_122 (fun v122 => ?_)
              refine ww_icmp_lt (pc := 125) (tgt := 141) hC dX5_readLine_125 (by decide) ?_ ?_
              · refine ww_lv [0, 1] rfl ?_
                exact hJ141 σ
              · refine ww_aload_n (pc := 128) hC 1 rfl dX5_readLine_128 rfl ?_
                refine ww_geti (pc := 129) (Cl := RX4) (T := TX4) (N := 6) (j := 5) (ref := RX4) hC (h1 0 _ rfl) rfl inT_X4 (by decide) mw_99 rfl rfl dX5_readLine_129 ?_
                refine ww_iload_n (pc := 132) hC 3 rfl dX5_readLine_132 rfl ?_
                refine ww_iload (pc := 133) hC 4 rfl dX5_readLine_133 ?_
                refine ww_callSi (pc := 135) (st := [.int (σ o1 5)]) (As := [.int x3, .int x5]) hC (c_X5_highest σ x3 x5) mm_X5_highest mw_461 (by omega) (by decide) (Nat.le_of_ble_eq_true rfl) rfl dX5_readLine_135 (fun v135 => ?_)
                refine ww_icmp_le (pc := 138) (tgt := 151) hC dX5_readLine_138 (by decide) ?_ ?_
                · refine ww_iload_n (pc := 151) hC 3 rfl dX5_readLine_151 rfl ?_
                  refine ww_iload (pc := 152) hC 4 rfl dX5_readLine_152 ?_
                  refine ww_aload_n (pc := 154) hC 1 rfl dX5_readLine_154 rfl ?_
                  refine ww_geti (pc := 155) (Cl := RX4) (T := TX4) (N := 6) (j := 5) (ref := RX4) hC (h1 0 _ rfl) rfl inT_X4 (by decide) mw_99 rfl rfl dX5_readLine_155 ?_
                  refine ww_aload_n (pc := 158) hC 2 rfl dX5_readLine_158 rfl ?_
                  refine ww_callSv (pc := 159) (st := []) (As := [.int x3, .int x5, .int (σ o1 5), .ref (ad o2)]) hC (c_X5_put o2 h2 σ x3 x5 (σ o1 5)) mm_X5_put mw_467 (by omega) (by decide) (Nat.le_of_ble_eq_true rfl) rfl dX5_readLine_159 (fun v159 => ?_)
                  refine ww_iinc (pc := 162) (v := x5 + 1) (lv' := [(5, .int (x5 + 1)), (0, .ref (ad o0)), (1, .ref (ad o1)), (2, .ref (ad o2)), (3, .int x3)]) hC 4 rfl dX5_readLine_162 rfl (by decide) rfl ?_
                  refine ww_goto (pc := 165) (tgt := 42) hC dX5_readLine_165 (by decide) ?_
                  refine ww_lv [1, 2, 3, 4, 0] rfl ?_
                  exact hc42 (x5 + 1, v159)
                · refine ww_lv [0, 1] rfl ?_
                  exact hJ141 σ
            · refine ww_aload_n (pc := 105) hC 0 rfl dX5_readLine_105 rfl ?_
              refine ww_iconst (pc := 106) (v := 5) hC dX5_readLine_106 rfl ?_
              refine ww_aload_n (pc := 107) hC 1 rfl dX5_readLine_107 rfl ?_
              refine ww_geti (pc := 108) (Cl := RX4) (T := TX4) (N := 6) (j := 4) (ref := RX4) hC (h1 0 _ rfl) rfl inT_X4 (by decide) mw_97 rfl rfl dX5_readLine_108 ?_
              refine ww_callVw (pc := 111) (st := []) (As := [.int 5, .int (σ o1 4)]) hC (c_X5_fail o0 h0 σ 5 (σ o1 4)) mm_X5_fail mw_441 (h0 0 _ rfl) rfl (by omega) (by decide) (Nat.le_of_ble_eq_true rfl) rfl dX5_readLine_111 (fun v111 => ?_)
              exact ww_zreturnG (pc := 114) hC hR dX5_readLine_114 ((hr42 _).trans rfl)
          · refine ww_lv [0, 1] rfl ?_
            exact hJ89 σ
      refine ww_iload (pc := 42) hC 4 rfl dX5_readLine_42 ?_
      refine ww_bipush (pc := 44) (v := 10) hC dX5_readLine_44 rfl ?_
      refine ww_icmp_gt (pc := 46) (tgt := 168) hC dX5_readLine_46 (by decide) ?_ ?_
      · refine ww_lv [0, 1] rfl ?_
        exact hx42 a42.2
      · refine ww_aload_n (pc := 49) hC 1 rfl dX5_readLine_49 rfl ?_
        refine ww_callVv (pc := 50) (st := []) (As := []) hC (c_X4_step o1 h1 a42.2) mm_X4_step mw_353 (h1 0 _ rfl) rfl (by omega) (by decide) (Nat.le_of_ble_eq_true rfl) rfl dX5_readLine_50 (fun v50 => ?_)
        refine ww_aload_n (pc := 53) hC 1 rfl dX5_readLine_53 rfl ?_
        refine ww_geti (pc := 54) (Cl := RX4) (T := TX4) (N := 6) (j := 3) (ref := RX4) hC (h1 0 _ rfl) rfl inT_X4 (by decide) mw_95 rfl rfl dX5_readLine_54 ?_
        refine ww_iconst (pc := 57) (v := 3) hC dX5_readLine_57 rfl ?_
        refine ww_icmp_ne (pc := 58) (tgt := 72) hC dX5_readLine_58 (by decide) ?_ ?_
        · exact hJ72 v50 a42.1
        · refine ww_iload_n (pc := 61) hC 3 rfl dX5_readLine_61 rfl ?_
          refine ww_iload (pc := 62) hC 4 rfl dX5_readLine_62 ?_
          refine ww_callSi (pc := 64) (st := []) (As := [.int x3, .int a42.1]) hC (c_X5_mayStop v50 x3 a42.1) mm_X5_mayStop mw_449 (by omega) (by decide) (Nat.le_of_ble_eq_true rfl) rfl dX5_readLine_64 (fun v64 => ?_)
          refine ww_if_eq (pc := 67) (tgt := 72) hC dX5_readLine_67 (by decide) ?_ ?_
          · exact hJ72 v50 a42.1
          · refine ww_iconst (pc := 70) (v := 1) hC dX5_readLine_70 rfl ?_
            exact ww_zreturn (pc := 71) hC hR dX5_readLine_71 rfl ((hr42 _).trans rfl)
  unfold f_X5_readLine
  refine ww_aload_n (pc := 0) hC 1 rfl dX5_readLine_0 rfl ?_
  refine ww_callSi (pc := 1) (st := []) (As := [.ref (ad o1)]) hC (c_X5_lineOf o1 h1 σ) mm_X5_lineOf mw_376 (by omega) (by decide) (Nat.le_of_ble_eq_true rfl) rfl dX5_readLine_1 (fun v1 => ?_)
  refine ww_istore_n (pc := 4) (lv' := [(3, .int v1), (0, .ref (ad o0)), (1, .ref (ad o1)), (2, .ref (ad o2))]) hC dX5_readLine_4 rfl (by decide) rfl ?_
  refine ww_iload_n (pc := 5) hC 0 rfl dX5_readLine_5 rfl ?_
  refine ww_if_ne (pc := 6) (tgt := 15) hC dX5_readLine_6 (by decide) ?_ ?_
  · refine ww_aload_n (pc := 15) hC 1 rfl dX5_readLine_15 rfl ?_
    refine ww_iload_n (pc := 16) hC 0 rfl dX5_readLine_16 rfl ?_
    refine ww_aload_n (pc := 17) hC 3 rfl dX5_readLine_17 rfl ?_
    refine ww_callVw (pc := 18) (st := []) (As := [.int v1, .ref (ad o2)]) hC (c_X5_refusedName o0 h0 o2 h2 σ v1) mm_X5_refusedName mw_445 (h0 0 _ rfl) rfl (by omega) (by decide) (Nat.le_of_ble_eq_true rfl) rfl dX5_readLine_18 (fun v18 => ?_)
    refine ww_istore (pc := 21) (lv' := [(4, .int v18.1), (3, .int v1), (0, .ref (ad o0)), (1, .ref (ad o1)), (2, .ref (ad o2))]) hC dX5_readLine_21 (by decide) rfl ?_
    refine ww_iload (pc := 23) hC 0 rfl dX5_readLine_23 ?_
    refine ww_if_eq (pc := 25) (tgt := 39) hC dX5_readLine_25 (by decide) ?_ ?_
    · refine ww_iconst (pc := 39) (v := 0) hC dX5_readLine_39 rfl ?_
      refine ww_istore (pc := 40) (lv' := [(5, .int 0), (4, .int v18.1), (3, .int v1), (0, .ref (ad o0)), (1, .ref (ad o1)), (2, .ref (ad o2))]) hC dX5_readLine_40 (by decide) rfl ?_
      refine ww_lv [3, 4, 5, 2, 0] rfl ?_
      exact hJ42 v18.2 v1 0
    · refine ww_aload_n (pc := 28) hC 2 rfl dX5_readLine_28 rfl ?_
      refine ww_iload (pc := 29) hC 0 rfl dX5_readLine_29 ?_
      refine ww_aload_n (pc := 31) hC 3 rfl dX5_readLine_31 rfl ?_
      refine ww_geti (pc := 32) (Cl := RX4) (T := TX4) (N := 6) (j := 4) (ref := RX4) hC (h1 0 _ rfl) rfl inT_X4 (by decide) mw_97 rfl rfl dX5_readLine_32 ?_
      refine ww_callVw (pc := 35) (st := []) (As := [.int v18.1, .int (v18.2 o1 4)]) hC (c_X5_fail o0 h0 v18.2 v18.1 (v18.2 o1 4)) mm_X5_fail mw_441 (h0 0 _ rfl) rfl (by omega) (by decide) (Nat.le_of_ble_eq_true rfl) rfl dX5_readLine_35 (fun v35 => ?_)
      exact ww_zreturnG (pc := 38) hC hR dX5_readLine_38 rfl
  · refine ww_aload_n (pc := 9) hC 1 rfl dX5_readLine_9 rfl ?_
    refine ww_aload_n (pc := 10) hC 2 rfl dX5_readLine_10 rfl ?_
    refine ww_callVw (pc := 11) (st := []) (As := [.ref (ad o1)]) hC (c_X5_failAtToken o0 h0 o1 h1 σ) mm_X5_failAtToken mw_437 (h0 0 _ rfl) rfl (by omega) (by decide) (Nat.le_of_ble_eq_true rfl) rfl dX5_readLine_11 (fun v11 => ?_)
    exact ww_zreturnG (pc := 14) hC hR dX5_readLine_14 rfl
theorem dX5_checkBeasts_0 : decode cX5_checkBeasts 0 = .ok (.iconst 0, 1) := by decide +kernel
theorem dX5_checkBeasts_1 : decode cX5_checkBeasts 1 = .ok (.istore_n 3, 1) := by decide +kernel
theorem dX5_checkBeasts_2 : decode cX5_checkBeasts 2 = .ok (.iload_n 3, 1) := by decide +kernel
theorem dX5_checkBeasts_3 : decode cX5_checkBeasts 3 = .ok (.aload_n 2, 1) := by decide +kernel
theorem dX5_checkBeasts_4 : decode cX5_checkBeasts 4 = .ok (.getfield 110, 3) := by decide +kernel
theorem dX5_checkBeasts_7 : decode cX5_checkBeasts 7 = .ok (.if_icmp .ge 41, 3) := by decide +kernel
theorem dX5_checkBeasts_10 : decode cX5_checkBeasts 10 = .ok (.aload_n 2, 1) := by decide +kernel
theorem dX5_checkBeasts_11 : decode cX5_checkBeasts 11 = .ok (.getfield 137, 3) := by decide +kernel
theorem dX5_checkBeasts_14 : decode cX5_checkBeasts 14 = .ok (.iload_n 3, 1) := by decide +kernel
theorem dX5_checkBeasts_15 : decode cX5_checkBeasts 15 = .ok (.iaload, 1) := by decide +kernel
theorem dX5_checkBeasts_16 : decode cX5_checkBeasts 16 = .ok (.aload_n 2, 1) := by decide +kernel
theorem dX5_checkBeasts_17 : decode cX5_checkBeasts 17 = .ok (.getfield 141, 3) := by decide +kernel
theorem dX5_checkBeasts_20 : decode cX5_checkBeasts 20 = .ok (.iload_n 3, 1) := by decide +kernel
theorem dX5_checkBeasts_21 : decode cX5_checkBeasts 21 = .ok (.iaload, 1) := by decide +kernel
theorem dX5_checkBeasts_22 : decode cX5_checkBeasts 22 = .ok (.iadd, 1) := by decide +kernel
theorem dX5_checkBeasts_23 : decode cX5_checkBeasts 23 = .ok (.aload_n 2, 1) := by decide +kernel
theorem dX5_checkBeasts_24 : decode cX5_checkBeasts 24 = .ok (.getfield 107, 3) := by decide +kernel
theorem dX5_checkBeasts_27 : decode cX5_checkBeasts 27 = .ok (.if_icmp .le 15, 3) := by decide +kernel
theorem dX5_checkBeasts_30 : decode cX5_checkBeasts 30 = .ok (.aload_n 0, 1) := by decide +kernel
theorem dX5_checkBeasts_31 : decode cX5_checkBeasts 31 = .ok (.bipush 6, 2) := by decide +kernel
theorem dX5_checkBeasts_33 : decode cX5_checkBeasts 33 = .ok (.aload_n 1, 1) := by decide +kernel
theorem dX5_checkBeasts_34 : decode cX5_checkBeasts 34 = .ok (.getfield 144, 3) := by decide +kernel
theorem dX5_checkBeasts_37 : decode cX5_checkBeasts 37 = .ok (.invokevirtual 60, 3) := by decide +kernel
theorem dX5_checkBeasts_40 : decode cX5_checkBeasts 40 = .ok (.pop, 1) := by decide +kernel
theorem dX5_checkBeasts_41 : decode cX5_checkBeasts 41 = .ok (.return_, 1) := by decide +kernel
theorem dX5_checkBeasts_42 : decode cX5_checkBeasts 42 = .ok (.iinc 3 1, 3) := by decide +kernel
theorem dX5_checkBeasts_45 : decode cX5_checkBeasts 45 = .ok (.goto (-43), 3) := by decide +kernel
theorem dX5_checkBeasts_48 : decode cX5_checkBeasts 48 = .ok (.iconst 0, 1) := by decide +kernel
theorem dX5_checkBeasts_49 : decode cX5_checkBeasts 49 = .ok (.istore_n 3, 1) := by decide +kernel
theorem dX5_checkBeasts_50 : decode cX5_checkBeasts 50 = .ok (.iconst 0, 1) := by decide +kernel
theorem dX5_checkBeasts_51 : decode cX5_checkBeasts 51 = .ok (.istore 4, 2) := by decide +kernel
theorem dX5_checkBeasts_53 : decode cX5_checkBeasts 53 = .ok (.iload 4, 2) := by decide +kernel
theorem dX5_checkBeasts_55 : decode cX5_checkBeasts 55 = .ok (.aload_n 2, 1) := by decide +kernel
theorem dX5_checkBeasts_56 : decode cX5_checkBeasts 56 = .ok (.getfield 110, 3) := by decide +kernel
theorem dX5_checkBeasts_59 : decode cX5_checkBeasts 59 = .ok (.if_icmp .ge 41, 3) := by decide +kernel
theorem dX5_checkBeasts_62 : decode cX5_checkBeasts 62 = .ok (.aload_n 2, 1) := by decide +kernel
theorem dX5_checkBeasts_63 : decode cX5_checkBeasts 63 = .ok (.iload 4, 2) := by decide +kernel
theorem dX5_checkBeasts_65 : decode cX5_checkBeasts 65 = .ok (.invokevirtual 147, 3) := by decide +kernel
theorem dX5_checkBeasts_68 : decode cX5_checkBeasts 68 = .ok (.istore 5, 2) := by decide +kernel
theorem dX5_checkBeasts_70 : decode cX5_checkBeasts 70 = .ok (.iload_n 3, 1) := by decide +kernel
theorem dX5_checkBeasts_71 : decode cX5_checkBeasts 71 = .ok (.iload 5, 2) := by decide +kernel
theorem dX5_checkBeasts_73 : decode cX5_checkBeasts 73 = .ok (.iand, 1) := by decide +kernel
theorem dX5_checkBeasts_74 : decode cX5_checkBeasts 74 = .ok (.ifCond .eq 15, 3) := by decide +kernel
theorem dX5_checkBeasts_77 : decode cX5_checkBeasts 77 = .ok (.aload_n 0, 1) := by decide +kernel
theorem dX5_checkBeasts_78 : decode cX5_checkBeasts 78 = .ok (.bipush 7, 2) := by decide +kernel
theorem dX5_checkBeasts_80 : decode cX5_checkBeasts 80 = .ok (.aload_n 1, 1) := by decide +kernel
theorem dX5_checkBeasts_81 : decode cX5_checkBeasts 81 = .ok (.getfield 144, 3) := by decide +kernel
theorem dX5_checkBeasts_84 : decode cX5_checkBeasts 84 = .ok (.invokevirtual 60, 3) := by decide +kernel
theorem dX5_checkBeasts_87 : decode cX5_checkBeasts 87 = .ok (.pop, 1) := by decide +kernel
theorem dX5_checkBeasts_88 : decode cX5_checkBeasts 88 = .ok (.return_, 1) := by decide +kernel
theorem dX5_checkBeasts_89 : decode cX5_checkBeasts 89 = .ok (.iload_n 3, 1) := by decide +kernel
theorem dX5_checkBeasts_90 : decode cX5_checkBeasts 90 = .ok (.iload 5, 2) := by decide +kernel
theorem dX5_checkBeasts_92 : decode cX5_checkBeasts 92 = .ok (.ior, 1) := by decide +kernel
theorem dX5_checkBeasts_93 : decode cX5_checkBeasts 93 = .ok (.istore_n 3, 1) := by decide +kernel
theorem dX5_checkBeasts_94 : decode cX5_checkBeasts 94 = .ok (.iinc 4 1, 3) := by decide +kernel
theorem dX5_checkBeasts_97 : decode cX5_checkBeasts 97 = .ok (.goto (-44), 3) := by decide +kernel
theorem dX5_checkBeasts_100 : decode cX5_checkBeasts 100 = .ok (.return_, 1) := by decide +kernel
set_option maxHeartbeats 4000000 in
set_option maxRecDepth 100000 in
theorem c_X5_checkBeasts {l : Launch} {Y : ww_Y} {ad : Nat → Nat} {G : List ww_L} (o0 : Nat) (h0 : ww_at G o0 (ww_LTeller o0)) (o1 : Nat) (h1 : ww_at G o1 (ww_LTape o1)) (o2 : Nat) (h2 : ww_at G o2 (ww_LShore o2)) (σ : ww_M) : ww_Cn l Y ad G yX5_checkBeasts cX5_checkBeasts 6 none 3 [.ref (ad o0), .ref (ad o1), .ref (ad o2)] σ ((f_X5_checkBeasts σ o0 o1 o2).bind ww_rv) := by
  refine ww_met (by decide +kernel) (Nat.le_of_ble_eq_true rfl) ?_
  intro X hC hR
  have hC : ww_C X l Y ad G 3 cX5_checkBeasts 6 RX5 := hC
  show ww_V X Y ad G 6 σ 0 [(0, .ref (ad o0)), (1, .ref (ad o1)), (2, .ref (ad o2))] [] ((f_X5_checkBeasts σ o0 o1 o2).bind ww_rv)
  have hJ100 : ∀ (σ : ww_M), ww_V X Y ad G 6 σ 100 [] [] ((f_X5_checkBeasts_j100 σ o0 o1 o2).bind ww_rv) := by
    intro σ
    unfold f_X5_checkBeasts_j100
    exact ww_return (pc := 100) hC hR dX5_checkBeasts_100 rfl
  have hJ53 : ∀ (σ : ww_M) (x3 : Int32) (x4 : Int32), ww_V X Y ad G 6 σ 53 [(0, .ref (ad o0)), (1, .ref (ad o1)), (2, .ref (ad o2)), (3, .int x3), (4, .int x4)] [] ((f_X5_checkBeasts_j53 σ o0 o1 o2 x3 x4).bind ww_rv) := by
    intro σ x3 x4
    unfold f_X5_checkBeasts_j53
    refine ww_assoc ?_
    refine ww_loopR (f := f_X5_checkBeasts_b53 o0 o1 o2) (fun a53 => a53.2.2) (fun a53 => [(0, .ref (ad o0)), (1, .ref (ad o1)), (2, .ref (ad o2)), (3, .int a53.1), (4, .int a53.2.1)]) (fun b53 => b53) (fun b53 => []) 100 (fun b53 => ?_) (fun a53 KK53 hc53 hx53 hr53 => ?_) ww_F (x3, x4, σ)
    · exact hJ100 b53
    · unfold f_X5_checkBeasts_b53
      refine ww_iload (pc := 53) hC 4 rfl dX5_checkBeasts_53 ?_
      refine ww_aload_n (pc := 55) hC 2 rfl dX5_checkBeasts_55 rfl ?_
      refine ww_geti (pc := 56) (Cl := RX2) (T := TX2) (N := 17) (j := 11) (ref := RX2) hC (h2 0 _ rfl) rfl inT_X2 (by decide) mw_167 rfl rfl dX5_checkBeasts_56 ?_
      refine ww_icmp_ge (pc := 59) (tgt := 100) hC dX5_checkBeasts_59 (by decide) ?_ ?_
      · refine ww_lv [] rfl ?_
        exact hx53 a53.2.2
      · refine ww_aload_n (pc := 62) hC 2 rfl dX5_checkBeasts_62 rfl ?_
        refine ww_iload (pc := 63) hC 4 rfl dX5_checkBeasts_63 ?_
        refine ww_callVi (pc := 65) (st := []) (As := [.int a53.2.1]) hC (c_X2_bodyOf o2 h2 a53.2.2 a53.2.1) mm_X2_bodyOf mw_487 (h2 0 _ rfl) rfl (by omega) (by decide) (Nat.le_of_ble_eq_true rfl) rfl dX5_checkBeasts_65 (fun v65 => ?_)
        refine ww_istore (pc := 68) (lv' := [(5, .int v65), (0, .ref (ad o0)), (1, .ref (ad o1)), (2, .ref (ad o2)), (3, .int a53.1), (4, .int a53.2.1)]) hC dX5_checkBeasts_68 (by decide) rfl ?_
        refine ww_iload_n (pc := 70) hC 4 rfl dX5_checkBeasts_70 rfl ?_
        refine ww_iload (pc := 71) hC 0 rfl dX5_checkBeasts_71 ?_
        refine ww_iand (pc := 73) hC dX5_checkBeasts_73 ?_
        refine ww_if_eq (pc := 74) (tgt := 89) hC dX5_checkBeasts_74 (by decide) ?_ ?_
        · refine ww_iload_n (pc := 89) hC 4 rfl dX5_checkBeasts_89 rfl ?_
          refine ww_iload (pc := 90) hC 0 rfl dX5_checkBeasts_90 ?_
          refine ww_ior (pc := 92) hC dX5_checkBeasts_92 ?_
          refine ww_istore_n (pc := 93) (lv' := [(3, .int (a53.1 ||| v65)), (5, .int v65), (0, .ref (ad o0)), (1, .ref (ad o1)), (2, .ref (ad o2)), (4, .int a53.2.1)]) hC dX5_checkBeasts_93 rfl (by decide) rfl ?_
          refine ww_iinc (pc := 94) (v := a53.2.1 + 1) (lv' := [(4, .int (a53.2.1 + 1)), (3, .int (a53.1 ||| v65)), (5, .int v65), (0, .ref (ad o0)), (1, .ref (ad o1)), (2, .ref (ad o2))]) hC 5 rfl dX5_checkBeasts_94 rfl (by decide) rfl ?_
          refine ww_goto (pc := 97) (tgt := 53) hC dX5_checkBeasts_97 (by decide) ?_
          refine ww_lv [3, 4, 5, 1, 0] rfl ?_
          exact hc53 (a53.1 ||| v65, a53.2.1 + 1, a53.2.2)
        · refine ww_aload_n (pc := 77) hC 1 rfl dX5_checkBeasts_77 rfl ?_
          refine ww_bipush (pc := 78) (v := 7) hC dX5_checkBeasts_78 rfl ?_
          refine ww_aload_n (pc := 80) hC 2 rfl dX5_checkBeasts_80 rfl ?_
          refine ww_geti (pc := 81) (Cl := RX4) (T := TX4) (N := 6) (j := 1) (ref := RX4) hC (h1 0 _ rfl) rfl inT_X4 (by decide) mw_92 rfl rfl dX5_checkBeasts_81 ?_
          refine ww_callVw (pc := 84) (st := []) (As := [.int 7, .int (a53.2.2 o1 1)]) hC (c_X5_fail o0 h0 a53.2.2 7 (a53.2.2 o1 1)) mm_X5_fail mw_441 (h0 0 _ rfl) rfl (by omega) (by decide) (Nat.le_of_ble_eq_true rfl) rfl dX5_checkBeasts_84 (fun v84 => ?_)
          refine ww_pop (pc := 87) hC dX5_checkBeasts_87 rfl ?_
          exact ww_return (pc := 88) hC hR dX5_checkBeasts_88 ((hr53 _).trans rfl)
  have hJ48 : ∀ (σ : ww_M), ww_V X Y ad G 6 σ 48 [(0, .ref (ad o0)), (1, .ref (ad o1)), (2, .ref (ad o2))] [] ((f_X5_checkBeasts_j48 σ o0 o1 o2).bind ww_rv) := by
    intro σ
    unfold f_X5_checkBeasts_j48
    refine ww_iconst (pc := 48) (v := 0) hC dX5_checkBeasts_48 rfl ?_
    refine ww_istore_n (pc := 49) (lv' := [(3, .int 0), (0, .ref (ad o0)), (1, .ref (ad o1)), (2, .ref (ad o2))]) hC dX5_checkBeasts_49 rfl (by decide) rfl ?_
    refine ww_iconst (pc := 50) (v := 0) hC dX5_checkBeasts_50 rfl ?_
    refine ww_istore (pc := 51) (lv' := [(4, .int 0), (3, .int 0), (0, .ref (ad o0)), (1, .ref (ad o1)), (2, .ref (ad o2))]) hC dX5_checkBeasts_51 (by decide) rfl ?_
    refine ww_lv [2, 3, 4, 1, 0] rfl ?_
    exact hJ53 σ 0 0
  have hJ2 : ∀ (σ : ww_M) (x3 : Int32), ww_V X Y ad G 6 σ 2 [(0, .ref (ad o0)), (1, .ref (ad o1)), (2, .ref (ad o2)), (3, .int x3)] [] ((f_X5_checkBeasts_j2 σ o0 o1 o2 x3).bind ww_rv) := by
    intro σ x3
    unfold f_X5_checkBeasts_j2
    refine ww_assoc ?_
    refine ww_loopR (f := f_X5_checkBeasts_b2 o0 o1 o2) (fun a2 => a2.2) (fun a2 => [(0, .ref (ad o0)), (1, .ref (ad o1)), (2, .ref (ad o2)), (3, .int a2.1)]) (fun b2 => b2) (fun b2 => [(0, .ref (ad o0)), (1, .ref (ad o1)), (2, .ref (ad o2))]) 48 (fun b2 => ?_) (fun a2 KK2 hc2 hx2 hr2 => ?_) ww_F (x3, σ)
    · exact hJ48 b2
    · unfold f_X5_checkBeasts_b2
      refine ww_iload_n (pc := 2) hC 3 rfl dX5_checkBeasts_2 rfl ?_
      refine ww_aload_n (pc := 3) hC 2 rfl dX5_checkBeasts_3 rfl ?_
      refine ww_geti (pc := 4) (Cl := RX2) (T := TX2) (N := 17) (j := 11) (ref := RX2) hC (h2 0 _ rfl) rfl inT_X2 (by decide) mw_167 rfl rfl dX5_checkBeasts_4 ?_
      refine ww_icmp_ge (pc := 7) (tgt := 48) hC dX5_checkBeasts_7 (by decide) ?_ ?_
      · refine ww_lv [0, 1, 2] rfl ?_
        exact hx2 a2.2
      · refine ww_aload_n (pc := 10) hC 2 rfl dX5_checkBeasts_10 rfl ?_
        refine ww_getr (pc := 11) (Cl := RX2) (T := TX2) (N := 17) (j := 3) (ref := RX2) hC (h2 0 _ rfl) rfl inT_X2 (by decide) mw_146 rfl rfl dX5_checkBeasts_11 ?_
        refine ww_iload_n (pc := 14) hC 3 rfl dX5_checkBeasts_14 rfl ?_
        refine ww_iald (pc := 15) hC (h2 4 _ rfl) dX5_checkBeasts_15 ?_
        refine ww_aload_n (pc := 16) hC 2 rfl dX5_checkBeasts_16 rfl ?_
        refine ww_getr (pc := 17) (Cl := RX2) (T := TX2) (N := 17) (j := 4) (ref := RX2) hC (h2 0 _ rfl) rfl inT_X2 (by decide) mw_149 rfl rfl dX5_checkBeasts_17 ?_
        refine ww_iload_n (pc := 20) hC 3 rfl dX5_checkBeasts_20 rfl ?_
        refine ww_iald (pc := 21) hC (h2 5 _ rfl) dX5_checkBeasts_21 ?_
        refine ww_iadd (pc := 22) hC dX5_checkBeasts_22 ?_
        refine ww_aload_n (pc := 23) hC 2 rfl dX5_checkBeasts_23 rfl ?_
        refine ww_geti (pc := 24) (Cl := RX2) (T := TX2) (N := 17) (j := 9) (ref := RX2) hC (h2 0 _ rfl) rfl inT_X2 (by decide) mw_161 rfl rfl dX5_checkBeasts_24 ?_
        refine ww_icmp_le (pc := 27) (tgt := 42) hC dX5_checkBeasts_27 (by decide) ?_ ?_
        · refine ww_iinc (pc := 42) (v := a2.1 + 1) (lv' := [(3, .int (a2.1 + 1)), (0, .ref (ad o0)), (1, .ref (ad o1)), (2, .ref (ad o2))]) hC 3 rfl dX5_checkBeasts_42 rfl (by decide) rfl ?_
          refine ww_goto (pc := 45) (tgt := 2) hC dX5_checkBeasts_45 (by decide) ?_
          refine ww_lv [1, 2, 3, 0] rfl ?_
          exact hc2 (a2.1 + 1, a2.2)
        · refine ww_aload_n (pc := 30) hC 0 rfl dX5_checkBeasts_30 rfl ?_
          refine ww_bipush (pc := 31) (v := 6) hC dX5_checkBeasts_31 rfl ?_
          refine ww_aload_n (pc := 33) hC 1 rfl dX5_checkBeasts_33 rfl ?_
          refine ww_geti (pc := 34) (Cl := RX4) (T := TX4) (N := 6) (j := 1) (ref := RX4) hC (h1 0 _ rfl) rfl inT_X4 (by decide) mw_92 rfl rfl dX5_checkBeasts_34 ?_
          refine ww_callVw (pc := 37) (st := []) (As := [.int 6, .int (a2.2 o1 1)]) hC (c_X5_fail o0 h0 a2.2 6 (a2.2 o1 1)) mm_X5_fail mw_441 (h0 0 _ rfl) rfl (by omega) (by decide) (Nat.le_of_ble_eq_true rfl) rfl dX5_checkBeasts_37 (fun v37 => ?_)
          refine ww_pop (pc := 40) hC dX5_checkBeasts_40 rfl ?_
          exact ww_return (pc := 41) hC hR dX5_checkBeasts_41 ((hr2 _).trans rfl)
  unfold f_X5_checkBeasts
  refine ww_iconst (pc := 0) (v := 0) hC dX5_checkBeasts_0 rfl ?_
  refine ww_istore_n (pc := 1) (lv' := [(3, .int 0), (0, .ref (ad o0)), (1, .ref (ad o1)), (2, .ref (ad o2))]) hC dX5_checkBeasts_1 rfl (by decide) rfl ?_
  refine ww_lv [1, 2, 3, 0] rfl ?_
  exact hJ2 σ 0
