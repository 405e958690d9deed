theorem dX6_within_0 : decode cX6_within 0 = .ok (.iload_n 0, 1) := by decide +kernel
theorem dX6_within_1 : decode cX6_within 1 = .ok (.iload_n 1, 1) := by decide +kernel
theorem dX6_within_2 : decode cX6_within 2 = .ok (.if_icmp .lt 12, 3) := by decide +kernel
theorem dX6_within_5 : decode cX6_within 5 = .ok (.iload_n 0, 1) := by decide +kernel
theorem dX6_within_6 : decode cX6_within 6 = .ok (.iload_n 2, 1) := by decide +kernel
theorem dX6_within_7 : decode cX6_within 7 = .ok (.if_icmp .gt 7, 3) := by decide +kernel
theorem dX6_within_10 : decode cX6_within 10 = .ok (.iconst 1, 1) := by decide +kernel
theorem dX6_within_11 : decode cX6_within 11 = .ok (.goto 4, 3) := by decide +kernel
theorem dX6_within_14 : decode cX6_within 14 = .ok (.iconst 0, 1) := by decide +kernel
theorem dX6_within_15 : decode cX6_within 15 = .ok (.ireturn, 1) := by decide +kernel
set_option maxHeartbeats 4000000 in
set_option maxRecDepth 100000 in
theorem c_X6_within {l : Launch} {Y : ww_Y} {ad : Nat → Nat} {G : List ww_L} (σ : ww_M) (p0 : Int32) (p1 : Int32) (p2 : Int32) : ww_Cn l Y ad G yX6_within cX6_within 3 (some .boolean) 1 [.int p0, .int p1, .int p2] σ ((f_X6_within p0 p1 p2).bind (ww_ri σ)) := by
  refine ww_met (by decide +kernel) (Nat.le_of_ble_eq_true rfl) ?_
  intro X hC hR
  have hC : ww_C X l Y ad G 1 cX6_within 3 RX6 := hC
  show ww_V X Y ad G 3 σ 0 [(0, .int p0), (1, .int p1), (2, .int p2)] [] ((f_X6_within p0 p1 p2).bind (ww_ri σ))
  unfold f_X6_within
  refine ww_iload_n (pc := 0) hC 0 rfl dX6_within_0 rfl ?_
  refine ww_iload_n (pc := 1) hC 1 rfl dX6_within_1 rfl ?_
  refine ww_icmp_lt (pc := 2) (tgt := 14) hC dX6_within_2 (by decide) ?_ ?_
  · refine ww_iconst (pc := 14) (v := 0) hC dX6_within_14 rfl ?_
    exact ww_zreturn (pc := 15) hC hR dX6_within_15 rfl rfl
  · refine ww_iload_n (pc := 5) hC 0 rfl dX6_within_5 rfl ?_
    refine ww_iload_n (pc := 6) hC 2 rfl dX6_within_6 rfl ?_
    refine ww_icmp_gt (pc := 7) (tgt := 14) hC dX6_within_7 (by decide) ?_ ?_
    · refine ww_iconst (pc := 14) (v := 0) hC dX6_within_14 rfl ?_
      exact ww_zreturn (pc := 15) hC hR dX6_within_15 rfl rfl
    · refine ww_iconst (pc := 10) (v := 1) hC dX6_within_10 rfl ?_
      refine ww_goto (pc := 11) (tgt := 15) hC dX6_within_11 (by decide) ?_
      exact ww_zreturn (pc := 15) hC hR dX6_within_15 rfl rfl
theorem dX2_clear_0 : decode cX2_clear 0 = .ok (.aload_n 0, 1) := by decide +kernel
theorem dX2_clear_1 : decode cX2_clear 1 = .ok (.iconst 0, 1) := by decide +kernel
theorem dX2_clear_2 : decode cX2_clear 2 = .ok (.putfield 39, 3) := by decide +kernel
theorem dX2_clear_5 : decode cX2_clear 5 = .ok (.aload_n 0, 1) := by decide +kernel
theorem dX2_clear_6 : decode cX2_clear 6 = .ok (.iconst 1, 1) := by decide +kernel
theorem dX2_clear_7 : decode cX2_clear 7 = .ok (.putfield 43, 3) := by decide +kernel
theorem dX2_clear_10 : decode cX2_clear 10 = .ok (.aload_n 0, 1) := by decide +kernel
theorem dX2_clear_11 : decode cX2_clear 11 = .ok (.getfield 18, 3) := by decide +kernel
theorem dX2_clear_14 : decode cX2_clear 14 = .ok (.iconst 0, 1) := by decide +kernel
theorem dX2_clear_15 : decode cX2_clear 15 = .ok (.iconst 0, 1) := by decide +kernel
theorem dX2_clear_16 : decode cX2_clear 16 = .ok (.iastore, 1) := by decide +kernel
theorem dX2_clear_17 : decode cX2_clear 17 = .ok (.aload_n 0, 1) := by decide +kernel
theorem dX2_clear_18 : decode cX2_clear 18 = .ok (.iconst 0, 1) := by decide +kernel
theorem dX2_clear_19 : decode cX2_clear 19 = .ok (.putfield 46, 3) := by decide +kernel
theorem dX2_clear_22 : decode cX2_clear 22 = .ok (.aload_n 0, 1) := by decide +kernel
theorem dX2_clear_23 : decode cX2_clear 23 = .ok (.iconst 0, 1) := by decide +kernel
theorem dX2_clear_24 : decode cX2_clear 24 = .ok (.putfield 49, 3) := by decide +kernel
theorem dX2_clear_27 : decode cX2_clear 27 = .ok (.aload_n 0, 1) := by decide +kernel
theorem dX2_clear_28 : decode cX2_clear 28 = .ok (.iconst 4, 1) := by decide +kernel
theorem dX2_clear_29 : decode cX2_clear 29 = .ok (.putfield 52, 3) := by decide +kernel
theorem dX2_clear_32 : decode cX2_clear 32 = .ok (.aload_n 0, 1) := by decide +kernel
theorem dX2_clear_33 : decode cX2_clear 33 = .ok (.iconst 1, 1) := by decide +kernel
theorem dX2_clear_34 : decode cX2_clear 34 = .ok (.putfield 55, 3) := by decide +kernel
theorem dX2_clear_37 : decode cX2_clear 37 = .ok (.aload_n 0, 1) := by decide +kernel
theorem dX2_clear_38 : decode cX2_clear 38 = .ok (.iconst 0, 1) := by decide +kernel
theorem dX2_clear_39 : decode cX2_clear 39 = .ok (.putfield 58, 3) := by decide +kernel
theorem dX2_clear_42 : decode cX2_clear 42 = .ok (.aload_n 0, 1) := by decide +kernel
theorem dX2_clear_43 : decode cX2_clear 43 = .ok (.iconst 0, 1) := by decide +kernel
theorem dX2_clear_44 : decode cX2_clear 44 = .ok (.putfield 61, 3) := by decide +kernel
theorem dX2_clear_47 : decode cX2_clear 47 = .ok (.aload_n 0, 1) := by decide +kernel
theorem dX2_clear_48 : decode cX2_clear 48 = .ok (.getfield 36, 3) := by decide +kernel
theorem dX2_clear_51 : decode cX2_clear 51 = .ok (.iconst 0, 1) := by decide +kernel
theorem dX2_clear_52 : decode cX2_clear 52 = .ok (.invokestatic 64, 3) := by decide +kernel
theorem dX2_clear_55 : decode cX2_clear 55 = .ok (.return_, 1) := by decide +kernel
set_option maxHeartbeats 4000000 in
set_option maxRecDepth 100000 in
theorem c_X2_clear {l : Launch} {Y : ww_Y} {ad : Nat → Nat} {G : List ww_L} (o0 : Nat) (h0 : ww_at G o0 (ww_LShore o0)) (σ : ww_M) : ww_Cn l Y ad G yX2_clear cX2_clear 1 none 3 [.ref (ad o0)] σ ((f_X2_clear σ o0).bind ww_rv) := by
  refine ww_met (by decide +kernel) (Nat.le_of_ble_eq_true rfl) ?_
  intro X hC hR
  have hC : ww_C X l Y ad G 3 cX2_clear 1 RX2 := hC
  show ww_V X Y ad G 1 σ 0 [(0, .ref (ad o0))] [] ((f_X2_clear σ o0).bind ww_rv)
  unfold f_X2_clear
  refine ww_aload_n (pc := 0) hC 0 rfl dX2_clear_0 rfl ?_
  refine ww_iconst (pc := 1) (v := 0) hC dX2_clear_1 rfl ?_
  refine ww_puti (pc := 2) (Cl := RX2) (T := TX2) (N := 17) (j := 9) (ref := RX2) hC (h0 0 _ rfl) rfl inT_X2 (by decide) mw_159 rfl tyX2 tyX2_ok nmX2 rfl rfl (tyX2_ok 9 (by decide)) dX2_clear_2 ?_
  refine ww_aload_n (pc := 5) hC 0 rfl dX2_clear_5 rfl ?_
  refine ww_iconst (pc := 6) (v := 1) hC dX2_clear_6 rfl ?_
  refine ww_puti (pc := 7) (Cl := RX2) (T := TX2) (N := 17) (j := 10) (ref := RX2) hC (h0 0 _ rfl) rfl inT_X2 (by decide) mw_162 rfl tyX2 tyX2_ok nmX2 rfl rfl (tyX2_ok 10 (by decide)) dX2_clear_7 ?_
  refine ww_aload_n (pc := 10) hC 0 rfl dX2_clear_10 rfl ?_
  refine ww_getr (pc := 11) (Cl := RX2) (T := TX2) (N := 17) (j := 2) (ref := RX2) hC (h0 0 _ rfl) rfl inT_X2 (by decide) mw_143 rfl rfl dX2_clear_11 ?_
  refine ww_iconst (pc := 14) (v := 0) hC dX2_clear_14 rfl ?_
  refine ww_iconst (pc := 15) (v := 0) hC dX2_clear_15 rfl ?_
  refine ww_iast_c (pc := 16) (j := 0) hC (h0 3 _ rfl) (by decide) rfl dX2_clear_16 ?_
  refine ww_aload_n (pc := 17) hC 0 rfl dX2_clear_17 rfl ?_
  refine ww_iconst (pc := 18) (v := 0) hC dX2_clear_18 rfl ?_
  refine ww_puti (pc := 19) (Cl := RX2) (T := TX2) (N := 17) (j := 11) (ref := RX2) hC (h0 0 _ rfl) rfl inT_X2 (by decide) mw_165 rfl tyX2 tyX2_ok nmX2 rfl rfl (tyX2_ok 11 (by decide)) dX2_clear_19 ?_
  refine ww_aload_n (pc := 22) hC 0 rfl dX2_clear_22 rfl ?_
  refine ww_iconst (pc := 23) (v := 0) hC dX2_clear_23 rfl ?_
  refine ww_puti (pc := 24) (Cl := RX2) (T := TX2) (N := 17) (j := 12) (ref := RX2) hC (h0 0 _ rfl) rfl inT_X2 (by decide) mw_168 rfl tyX2 tyX2_ok nmX2 rfl rfl (tyX2_ok 12 (by decide)) dX2_clear_24 ?_
  refine ww_aload_n (pc := 27) hC 0 rfl dX2_clear_27 rfl ?_
  refine ww_iconst (pc := 28) (v := 4) hC dX2_clear_28 rfl ?_
  refine ww_puti (pc := 29) (Cl := RX2) (T := TX2) (N := 17) (j := 13) (ref := RX2) hC (h0 0 _ rfl) rfl inT_X2 (by decide) mw_171 rfl tyX2 tyX2_ok nmX2 rfl rfl (tyX2_ok 13 (by decide)) dX2_clear_29 ?_
  refine ww_aload_n (pc := 32) hC 0 rfl dX2_clear_32 rfl ?_
  refine ww_iconst (pc := 33) (v := 1) hC dX2_clear_33 rfl ?_
  refine ww_puti (pc := 34) (Cl := RX2) (T := TX2) (N := 17) (j := 14) (ref := RX2) hC (h0 0 _ rfl) rfl inT_X2 (by decide) mw_174 rfl tyX2 tyX2_ok nmX2 rfl rfl (tyX2_ok 14 (by decide)) dX2_clear_34 ?_
  refine ww_aload_n (pc := 37) hC 0 rfl dX2_clear_37 rfl ?_
  refine ww_iconst (pc := 38) (v := 0) hC dX2_clear_38 rfl ?_
  refine ww_puti (pc := 39) (Cl := RX2) (T := TX2) (N := 17) (j := 15) (ref := RX2) hC (h0 0 _ rfl) rfl inT_X2 (by decide) mw_178 rfl tyX2 tyX2_ok nmX2 rfl rfl (tyX2_ok 15 (by decide)) dX2_clear_39 ?_
  refine ww_aload_n (pc := 42) hC 0 rfl dX2_clear_42 rfl ?_
  refine ww_iconst (pc := 43) (v := 0) hC dX2_clear_43 rfl ?_
  refine ww_puti (pc := 44) (Cl := RX2) (T := TX2) (N := 17) (j := 16) (ref := RX2) hC (h0 0 _ rfl) rfl inT_X2 (by decide) mw_181 rfl tyX2 tyX2_ok nmX2 rfl rfl (tyX2_ok 16 (by decide)) dX2_clear_44 ?_
  refine ww_aload_n (pc := 47) hC 0 rfl dX2_clear_47 rfl ?_
  refine ww_getr (pc := 48) (Cl := RX2) (T := TX2) (N := 17) (j := 8) (ref := RX2) hC (h0 0 _ rfl) rfl inT_X2 (by decide) mw_157 rfl rfl dX2_clear_48 ?_
  refine ww_iconst (pc := 51) (v := 0) hC dX2_clear_51 rfl ?_
  refine ww_fillR (pc := 52) hC (h0 9 _ rfl) (by decide) mw_295 (by omega) (Nat.le_of_ble_eq_true rfl) dX2_clear_52 ?_
  exact ww_return (pc := 55) hC hR dX2_clear_55 rfl
theorem dX2_copyFrom_0 : decode cX2_copyFrom 0 = .ok (.aload_n 1, 1) := by decide +kernel
theorem dX2_copyFrom_1 : decode cX2_copyFrom 1 = .ok (.getfield 9, 3) := by decide +kernel
theorem dX2_copyFrom_4 : decode cX2_copyFrom 4 = .ok (.aload_n 0, 1) := by decide +kernel
theorem dX2_copyFrom_5 : decode cX2_copyFrom 5 = .ok (.getfield 9, 3) := by decide +kernel
theorem dX2_copyFrom_8 : decode cX2_copyFrom 8 = .ok (.invokestatic 70, 3) := by decide +kernel
theorem dX2_copyFrom_11 : decode cX2_copyFrom 11 = .ok (.aload_n 1, 1) := by decide +kernel
theorem dX2_copyFrom_12 : decode cX2_copyFrom 12 = .ok (.getfield 15, 3) := by decide +kernel
theorem dX2_copyFrom_15 : decode cX2_copyFrom 15 = .ok (.aload_n 0, 1) := by decide +kernel
theorem dX2_copyFrom_16 : decode cX2_copyFrom 16 = .ok (.getfield 15, 3) := by decide +kernel
theorem dX2_copyFrom_19 : decode cX2_copyFrom 19 = .ok (.invokestatic 70, 3) := by decide +kernel
theorem dX2_copyFrom_22 : decode cX2_copyFrom 22 = .ok (.aload_n 1, 1) := by decide +kernel
theorem dX2_copyFrom_23 : decode cX2_copyFrom 23 = .ok (.getfield 18, 3) := by decide +kernel
theorem dX2_copyFrom_26 : decode cX2_copyFrom 26 = .ok (.aload_n 0, 1) := by decide +kernel
theorem dX2_copyFrom_27 : decode cX2_copyFrom 27 = .ok (.getfield 18, 3) := by decide +kernel
theorem dX2_copyFrom_30 : decode cX2_copyFrom 30 = .ok (.invokestatic 70, 3) := by decide +kernel
theorem dX2_copyFrom_33 : decode cX2_copyFrom 33 = .ok (.aload_n 1, 1) := by decide +kernel
theorem dX2_copyFrom_34 : decode cX2_copyFrom 34 = .ok (.getfield 21, 3) := by decide +kernel
theorem dX2_copyFrom_37 : decode cX2_copyFrom 37 = .ok (.aload_n 0, 1) := by decide +kernel
theorem dX2_copyFrom_38 : decode cX2_copyFrom 38 = .ok (.getfield 21, 3) := by decide +kernel
theorem dX2_copyFrom_41 : decode cX2_copyFrom 41 = .ok (.invokestatic 70, 3) := by decide +kernel
theorem dX2_copyFrom_44 : decode cX2_copyFrom 44 = .ok (.aload_n 1, 1) := by decide +kernel
theorem dX2_copyFrom_45 : decode cX2_copyFrom 45 = .ok (.getfield 24, 3) := by decide +kernel
theorem dX2_copyFrom_48 : decode cX2_copyFrom 48 = .ok (.aload_n 0, 1) := by decide +kernel
theorem dX2_copyFrom_49 : decode cX2_copyFrom 49 = .ok (.getfield 24, 3) := by decide +kernel
theorem dX2_copyFrom_52 : decode cX2_copyFrom 52 = .ok (.invokestatic 70, 3) := by decide +kernel
theorem dX2_copyFrom_55 : decode cX2_copyFrom 55 = .ok (.aload_n 1, 1) := by decide +kernel
theorem dX2_copyFrom_56 : decode cX2_copyFrom 56 = .ok (.getfield 27, 3) := by decide +kernel
theorem dX2_copyFrom_59 : decode cX2_copyFrom 59 = .ok (.aload_n 0, 1) := by decide +kernel
theorem dX2_copyFrom_60 : decode cX2_copyFrom 60 = .ok (.getfield 27, 3) := by decide +kernel
theorem dX2_copyFrom_63 : decode cX2_copyFrom 63 = .ok (.invokestatic 70, 3) := by decide +kernel
theorem dX2_copyFrom_66 : decode cX2_copyFrom 66 = .ok (.aload_n 1, 1) := by decide +kernel
theorem dX2_copyFrom_67 : decode cX2_copyFrom 67 = .ok (.getfield 30, 3) := by decide +kernel
theorem dX2_copyFrom_70 : decode cX2_copyFrom 70 = .ok (.aload_n 0, 1) := by decide +kernel
theorem dX2_copyFrom_71 : decode cX2_copyFrom 71 = .ok (.getfield 30, 3) := by decide +kernel
theorem dX2_copyFrom_74 : decode cX2_copyFrom 74 = .ok (.invokestatic 70, 3) := by decide +kernel
theorem dX2_copyFrom_77 : decode cX2_copyFrom 77 = .ok (.aload_n 1, 1) := by decide +kernel
theorem dX2_copyFrom_78 : decode cX2_copyFrom 78 = .ok (.getfield 33, 3) := by decide +kernel
theorem dX2_copyFrom_81 : decode cX2_copyFrom 81 = .ok (.aload_n 0, 1) := by decide +kernel
theorem dX2_copyFrom_82 : decode cX2_copyFrom 82 = .ok (.getfield 33, 3) := by decide +kernel
theorem dX2_copyFrom_85 : decode cX2_copyFrom 85 = .ok (.invokestatic 70, 3) := by decide +kernel
theorem dX2_copyFrom_88 : decode cX2_copyFrom 88 = .ok (.aload_n 1, 1) := by decide +kernel
theorem dX2_copyFrom_89 : decode cX2_copyFrom 89 = .ok (.getfield 36, 3) := by decide +kernel
theorem dX2_copyFrom_92 : decode cX2_copyFrom 92 = .ok (.aload_n 0, 1) := by decide +kernel
theorem dX2_copyFrom_93 : decode cX2_copyFrom 93 = .ok (.getfield 36, 3) := by decide +kernel
theorem dX2_copyFrom_96 : decode cX2_copyFrom 96 = .ok (.invokestatic 70, 3) := by decide +kernel
theorem dX2_copyFrom_99 : decode cX2_copyFrom 99 = .ok (.aload_n 0, 1) := by decide +kernel
theorem dX2_copyFrom_100 : decode cX2_copyFrom 100 = .ok (.aload_n 1, 1) := by decide +kernel
theorem dX2_copyFrom_101 : decode cX2_copyFrom 101 = .ok (.getfield 39, 3) := by decide +kernel
theorem dX2_copyFrom_104 : decode cX2_copyFrom 104 = .ok (.putfield 39, 3) := by decide +kernel
theorem dX2_copyFrom_107 : decode cX2_copyFrom 107 = .ok (.aload_n 0, 1) := by decide +kernel
theorem dX2_copyFrom_108 : decode cX2_copyFrom 108 = .ok (.aload_n 1, 1) := by decide +kernel
theorem dX2_copyFrom_109 : decode cX2_copyFrom 109 = .ok (.getfield 43, 3) := by decide +kernel
theorem dX2_copyFrom_112 : decode cX2_copyFrom 112 = .ok (.putfield 43, 3) := by decide +kernel
theorem dX2_copyFrom_115 : decode cX2_copyFrom 115 = .ok (.aload_n 0, 1) := by decide +kernel
theorem dX2_copyFrom_116 : decode cX2_copyFrom 116 = .ok (.aload_n 1, 1) := by decide +kernel
theorem dX2_copyFrom_117 : decode cX2_copyFrom 117 = .ok (.getfield 46, 3) := by decide +kernel
theorem dX2_copyFrom_120 : decode cX2_copyFrom 120 = .ok (.putfield 46, 3) := by decide +kernel
theorem dX2_copyFrom_123 : decode cX2_copyFrom 123 = .ok (.aload_n 0, 1) := by decide +kernel
theorem dX2_copyFrom_124 : decode cX2_copyFrom 124 = .ok (.aload_n 1, 1) := by decide +kernel
theorem dX2_copyFrom_125 : decode cX2_copyFrom 125 = .ok (.getfield 49, 3) := by decide +kernel
theorem dX2_copyFrom_128 : decode cX2_copyFrom 128 = .ok (.putfield 49, 3) := by decide +kernel
theorem dX2_copyFrom_131 : decode cX2_copyFrom 131 = .ok (.aload_n 0, 1) := by decide +kernel
theorem dX2_copyFrom_132 : decode cX2_copyFrom 132 = .ok (.aload_n 1, 1) := by decide +kernel
theorem dX2_copyFrom_133 : decode cX2_copyFrom 133 = .ok (.getfield 52, 3) := by decide +kernel
theorem dX2_copyFrom_136 : decode cX2_copyFrom 136 = .ok (.putfield 52, 3) := by decide +kernel
theorem dX2_copyFrom_139 : decode cX2_copyFrom 139 = .ok (.aload_n 0, 1) := by decide +kernel
theorem dX2_copyFrom_140 : decode cX2_copyFrom 140 = .ok (.aload_n 1, 1) := by decide +kernel
theorem dX2_copyFrom_141 : decode cX2_copyFrom 141 = .ok (.getfield 55, 3) := by decide +kernel
theorem dX2_copyFrom_144 : decode cX2_copyFrom 144 = .ok (.putfield 55, 3) := by decide +kernel
theorem dX2_copyFrom_147 : decode cX2_copyFrom 147 = .ok (.aload_n 0, 1) := by decide +kernel
theorem dX2_copyFrom_148 : decode cX2_copyFrom 148 = .ok (.aload_n 1, 1) := by decide +kernel
theorem dX2_copyFrom_149 : decode cX2_copyFrom 149 = .ok (.getfield 58, 3) := by decide +kernel
theorem dX2_copyFrom_152 : decode cX2_copyFrom 152 = .ok (.putfield 58, 3) := by decide +kernel
theorem dX2_copyFrom_155 : decode cX2_copyFrom 155 = .ok (.aload_n 0, 1) := by decide +kernel
theorem dX2_copyFrom_156 : decode cX2_copyFrom 156 = .ok (.aload_n 1, 1) := by decide +kernel
theorem dX2_copyFrom_157 : decode cX2_copyFrom 157 = .ok (.getfield 61, 3) := by decide +kernel
theorem dX2_copyFrom_160 : decode cX2_copyFrom 160 = .ok (.putfield 61, 3) := by decide +kernel
theorem dX2_copyFrom_163 : decode cX2_copyFrom 163 = .ok (.return_, 1) := by decide +kernel
set_option maxHeartbeats 4000000 in
set_option maxRecDepth 100000 in
theorem c_X2_copyFrom {l : Launch} {Y : ww_Y} {ad : Nat → Nat} {G : List ww_L} (o0 : Nat) (h0 : ww_at G o0 (ww_LShore o0)) (o1 : Nat) (h1 : ww_at G o1 (ww_LShore o1)) (σ : ww_M) : ww_Cn l Y ad G yX2_copyFrom cX2_copyFrom 2 none 3 [.ref (ad o0), .ref (ad o1)] σ ((f_X2_copyFrom σ o0 o1).bind ww_rv) := by
  refine ww_met (by decide +kernel) (Nat.le_of_ble_eq_true rfl) ?_
  intro X hC hR
  have hC : ww_C X l Y ad G 3 cX2_copyFrom 2 RX2 := hC
  show ww_V X Y ad G 2 σ 0 [(0, .ref (ad o0)), (1, .ref (ad o1))] [] ((f_X2_copyFrom σ o0 o1).bind ww_rv)
  unfold f_X2_copyFrom
  refine ww_aload_n (pc := 0) hC 1 rfl dX2_copyFrom_0 rfl ?_
  refine ww_getr (pc := 1) (Cl := RX2) (T := TX2) (N := 17) (j := 0) (ref := RX2) hC (h1 0 _ rfl) rfl inT_X2 (by decide) mw_139 rfl rfl dX2_copyFrom_1 ?_
  refine ww_aload_n (pc := 4) hC 0 rfl dX2_copyFrom_4 rfl ?_
  refine ww_getr (pc := 5) (Cl := RX2) (T := TX2) (N := 17) (j := 0) (ref := RX2) hC (h0 0 _ rfl) rfl inT_X2 (by decide) mw_139 rfl rfl dX2_copyFrom_5 ?_
  refine ww_copyR (pc := 8) hC (h1 1 _ rfl) (h0 1 _ rfl) (by decide) mw_498 (by omega) (Nat.le_of_ble_eq_true rfl) dX2_copyFrom_8 ?_
  refine ww_aload_n (pc := 11) hC 1 rfl dX2_copyFrom_11 rfl ?_
  refine ww_getr (pc := 12) (Cl := RX2) (T := TX2) (N := 17) (j := 1) (ref := RX2) hC (h1 0 _ rfl) rfl inT_X2 (by decide) mw_141 rfl rfl dX2_copyFrom_12 ?_
  refine ww_aload_n (pc := 15) hC 0 rfl dX2_copyFrom_15 rfl ?_
  refine ww_getr (pc := 16) (Cl := RX2) (T := TX2) (N := 17) (j := 1) (ref := RX2) hC (h0 0 _ rfl) rfl inT_X2 (by decide) mw_141 rfl rfl dX2_copyFrom_16 ?_
  refine ww_copyR (pc := 19) hC (h1 2 _ rfl) (h0 2 _ rfl) (by decide) mw_498 (by omega) (Nat.le_of_ble_eq_true rfl) dX2_copyFrom_19 ?_
  refine ww_aload_n (pc := 22) hC 1 rfl dX2_copyFrom_22 rfl ?_
  refine ww_getr (pc := 23) (Cl := RX2) (T := TX2) (N := 17) (j := 2) (ref := RX2) hC (h1 0 _ rfl) rfl inT_X2 (by decide) mw_143 rfl rfl dX2_copyFrom_23 ?_
  refine ww_aload_n (pc := 26) hC 0 rfl dX2_copyFrom_26 rfl ?_
  refine ww_getr (pc := 27) (Cl := RX2) (T := TX2) (N := 17) (j := 2) (ref := RX2) hC (h0 0 _ rfl) rfl inT_X2 (by decide) mw_143 rfl rfl dX2_copyFrom_27 ?_
  refine ww_copyR (pc := 30) hC (h1 3 _ rfl) (h0 3 _ rfl) (by decide) mw_498 (by omega) (Nat.le_of_ble_eq_true rfl) dX2_copyFrom_30 ?_
  refine ww_aload_n (pc := 33) hC 1 rfl dX2_copyFrom_33 rfl ?_
  refine ww_getr (pc := 34) (Cl := RX2) (T := TX2) (N := 17) (j := 3) (ref := RX2) hC (h1 0 _ rfl) rfl inT_X2 (by decide) mw_144 rfl rfl dX2_copyFrom_34 ?_
  refine ww_aload_n (pc := 37) hC 0 rfl dX2_copyFrom_37 rfl ?_
  refine ww_getr (pc := 38) (Cl := RX2) (T := TX2) (N := 17) (j := 3) (ref := RX2) hC (h0 0 _ rfl) rfl inT_X2 (by decide) mw_144 rfl rfl dX2_copyFrom_38 ?_
  refine ww_copyR (pc := 41) hC (h1 4 _ rfl) (h0 4 _ rfl) (by decide) mw_498 (by omega) (Nat.le_of_ble_eq_true rfl) dX2_copyFrom_41 ?_
  refine ww_aload_n (pc := 44) hC 1 rfl dX2_copyFrom_44 rfl ?_
  refine ww_getr (pc := 45) (Cl := RX2) (T := TX2) (N := 17) (j := 4) (ref := RX2) hC (h1 0 _ rfl) rfl inT_X2 (by decide) mw_147 rfl rfl dX2_copyFrom_45 ?_
  refine ww_aload_n (pc := 48) hC 0 rfl dX2_copyFrom_48 rfl ?_
  refine ww_getr (pc := 49) (Cl := RX2) (T := TX2) (N := 17) (j := 4) (ref := RX2) hC (h0 0 _ rfl) rfl inT_X2 (by decide) mw_147 rfl rfl dX2_copyFrom_49 ?_
  refine ww_copyR (pc := 52) hC (h1 5 _ rfl) (h0 5 _ rfl) (by decide) mw_498 (by omega) (Nat.le_of_ble_eq_true rfl) dX2_copyFrom_52 ?_
  refine ww_aload_n (pc := 55) hC 1 rfl dX2_copyFrom_55 rfl ?_
  refine ww_getr (pc := 56) (Cl := RX2) (T := TX2) (N := 17) (j := 5) (ref := RX2) hC (h1 0 _ rfl) rfl inT_X2 (by decide) mw_150 rfl rfl dX2_copyFrom_56 ?_
  refine ww_aload_n (pc := 59) hC 0 rfl dX2_copyFrom_59 rfl ?_
  refine ww_getr (pc := 60) (Cl := RX2) (T := TX2) (N := 17) (j := 5) (ref := RX2) hC (h0 0 _ rfl) rfl inT_X2 (by decide) mw_150 rfl rfl dX2_copyFrom_60 ?_
  refine ww_copyR (pc := 63) hC (h1 6 _ rfl) (h0 6 _ rfl) (by decide) mw_498 (by omega) (Nat.le_of_ble_eq_true rfl) dX2_copyFrom_63 ?_
  refine ww_aload_n (pc := 66) hC 1 rfl dX2_copyFrom_66 rfl ?_
  refine ww_getr (pc := 67) (Cl := RX2) (T := TX2) (N := 17) (j := 6) (ref := RX2) hC (h1 0 _ rfl) rfl inT_X2 (by decide) mw_152 rfl rfl dX2_copyFrom_67 ?_
  refine ww_aload_n (pc := 70) hC 0 rfl dX2_copyFrom_70 rfl ?_
  refine ww_getr (pc := 71) (Cl := RX2) (T := TX2) (N := 17) (j := 6) (ref := RX2) hC (h0 0 _ rfl) rfl inT_X2 (by decide) mw_152 rfl rfl dX2_copyFrom_71 ?_
  refine ww_copyR (pc := 74) hC (h1 7 _ rfl) (h0 7 _ rfl) (by decide) mw_498 (by omega) (Nat.le_of_ble_eq_true rfl) dX2_copyFrom_74 ?_
  refine ww_aload_n (pc := 77) hC 1 rfl dX2_copyFrom_77 rfl ?_
  refine ww_getr (pc := 78) (Cl := RX2) (T := TX2) (N := 17) (j := 7) (ref := RX2) hC (h1 0 _ rfl) rfl inT_X2 (by decide) mw_155 rfl rfl dX2_copyFrom_78 ?_
  refine ww_aload_n (pc := 81) hC 0 rfl dX2_copyFrom_81 rfl ?_
  refine ww_getr (pc := 82) (Cl := RX2) (T := TX2) (N := 17) (j := 7) (ref := RX2) hC (h0 0 _ rfl) rfl inT_X2 (by decide) mw_155 rfl rfl dX2_copyFrom_82 ?_
  refine ww_copyR (pc := 85) hC (h1 8 _ rfl) (h0 8 _ rfl) (by decide) mw_498 (by omega) (Nat.le_of_ble_eq_true rfl) dX2_copyFrom_85 ?_
  refine ww_aload_n (pc := 88) hC 1 rfl dX2_copyFrom_88 rfl ?_
  refine ww_getr (pc := 89) (Cl := RX2) (T := TX2) (N := 17) (j := 8) (ref := RX2) hC (h1 0 _ rfl) rfl inT_X2 (by decide) mw_157 rfl rfl dX2_copyFrom_89 ?_
  refine ww_aload_n (pc := 92) hC 0 rfl dX2_copyFrom_92 rfl ?_
  refine ww_getr (pc := 93) (Cl := RX2) (T := TX2) (N := 17) (j := 8) (ref := RX2) hC (h0 0 _ rfl) rfl inT_X2 (by decide) mw_157 rfl rfl dX2_copyFrom_93 ?_
  refine ww_copyR (pc := 96) hC (h1 9 _ rfl) (h0 9 _ rfl) (by decide) mw_498 (by omega) (Nat.le_of_ble_eq_true rfl) dX2_copyFrom_96 ?_
  refine ww_aload_n (pc := 99) hC 0 rfl dX2_copyFrom_99 rfl ?_
  refine ww_aload_n (pc := 100) hC 1 rfl dX2_copyFrom_100 rfl ?_
  refine ww_geti (pc := 101) (Cl := RX2) (T := TX2) (N := 17) (j := 9) (ref := RX2) hC (h1 0 _ rfl) rfl inT_X2 (by decide) mw_159 rfl rfl dX2_copyFrom_101 ?_
  refine ww_puti (pc := 104) (Cl := RX2) (T := TX2) (N := 17) (j := 9) (ref := RX2) hC (h0 0 _ rfl) rfl inT_X2 (by decide) mw_159 rfl tyX2 tyX2_ok nmX2 rfl rfl (tyX2_ok 9 (by decide)) dX2_copyFrom_104 ?_
  refine ww_aload_n (pc := 107) hC 0 rfl dX2_copyFrom_107 rfl ?_
  refine ww_aload_n (pc := 108) hC 1 rfl dX2_copyFrom_108 rfl ?_
  refine ww_geti (pc := 109) (Cl := RX2) (T := TX2) (N := 17) (j := 10) (ref := RX2) hC (h1 0 _ rfl) rfl inT_X2 (by decide) mw_162 rfl rfl dX2_copyFrom_109 ?_
  refine ww_puti (pc := 112) (Cl := RX2) (T := TX2) (N := 17) (j := 10) (ref := RX2) hC (h0 0 _ rfl) rfl inT_X2 (by decide) mw_162 rfl tyX2 tyX2_ok nmX2 rfl rfl (tyX2_ok 10 (by decide)) dX2_copyFrom_112 ?_
  refine ww_aload_n (pc := 115) hC 0 rfl dX2_copyFrom_115 rfl ?_
  refine ww_aload_n (pc := 116) hC 1 rfl dX2_copyFrom_116 rfl ?_
  refine ww_geti (pc := 117) (Cl := RX2) (T := TX2) (N := 17) (j := 11) (ref := RX2) hC (h1 0 _ rfl) rfl inT_X2 (by decide) mw_165 rfl rfl dX2_copyFrom_117 ?_
  refine ww_puti (pc := 120) (Cl := RX2) (T := TX2) (N := 17) (j := 11) (ref := RX2) hC (h0 0 _ rfl) rfl inT_X2 (by decide) mw_165 rfl tyX2 tyX2_ok nmX2 rfl rfl (tyX2_ok 11 (by decide)) dX2_copyFrom_120 ?_
  refine ww_aload_n (pc := 123) hC 0 rfl dX2_copyFrom_123 rfl ?_
  refine ww_aload_n (pc := 124) hC 1 rfl dX2_copyFrom_124 rfl ?_
  refine ww_geti (pc := 125) (Cl := RX2) (T := TX2) (N := 17) (j := 12) (ref := RX2) hC (h1 0 _ rfl) rfl inT_X2 (by decide) mw_168 rfl rfl dX2_copyFrom_125 ?_
  refine ww_puti (pc := 128) (Cl := RX2) (T := TX2) (N := 17) (j := 12) (ref := RX2) hC (h0 0 _ rfl) rfl inT_X2 (by decide) mw_168 rfl tyX2 tyX2_ok nmX2 rfl rfl (tyX2_ok 12 (by decide)) dX2_copyFrom_128 ?_
  refine ww_aload_n (pc := 131) hC 0 rfl dX2_copyFrom_131 rfl ?_
  refine ww_aload_n (pc := 132) hC 1 rfl dX2_copyFrom_132 rfl ?_
  refine ww_geti (pc := 133) (Cl := RX2) (T := TX2) (N := 17) (j := 13) (ref := RX2) hC (h1 0 _ rfl) rfl inT_X2 (by decide) mw_171 rfl rfl dX2_copyFrom_133 ?_
  refine ww_puti (pc := 136) (Cl := RX2) (T := TX2) (N := 17) (j := 13) (ref := RX2) hC (h0 0 _ rfl) rfl inT_X2 (by decide) mw_171 rfl tyX2 tyX2_ok nmX2 rfl rfl (tyX2_ok 13 (by decide)) dX2_copyFrom_136 ?_
  refine ww_aload_n (pc := 139) hC 0 rfl dX2_copyFrom_139 rfl ?_
  refine ww_aload_n (pc := 140) hC 1 rfl dX2_copyFrom_140 rfl ?_
  refine ww_geti (pc := 141) (Cl := RX2) (T := TX2) (N := 17) (j := 14) (ref := RX2) hC (h1 0 _ rfl) rfl inT_X2 (by decide) mw_174 rfl rfl dX2_copyFrom_141 ?_
  refine ww_puti (pc := 144) (Cl := RX2) (T := TX2) (N := 17) (j := 14) (ref := RX2) hC (h0 0 _ rfl) rfl inT_X2 (by decide) mw_174 rfl tyX2 tyX2_ok nmX2 rfl rfl (tyX2_ok 14 (by decide)) dX2_copyFrom_144 ?_
  refine ww_aload_n (pc := 147) hC 0 rfl dX2_copyFrom_147 rfl ?_
  refine ww_aload_n (pc := 148) hC 1 rfl dX2_copyFrom_148 rfl ?_
  refine ww_geti (pc := 149) (Cl := RX2) (T := TX2) (N := 17) (j := 15) (ref := RX2) hC (h1 0 _ rfl) rfl inT_X2 (by decide) mw_178 rfl rfl dX2_copyFrom_149 ?_
  refine ww_puti (pc := 152) (Cl := RX2) (T := TX2) (N := 17) (j := 15) (ref := RX2) hC (h0 0 _ rfl) rfl inT_X2 (by decide) mw_178 rfl tyX2 tyX2_ok nmX2 rfl rfl (tyX2_ok 15 (by decide)) dX2_copyFrom_152 ?_
  refine ww_aload_n (pc := 155) hC 0 rfl dX2_copyFrom_155 rfl ?_
  refine ww_aload_n (pc := 156) hC 1 rfl dX2_copyFrom_156 rfl ?_
  refine ww_geti (pc := 157) (Cl := RX2) (T := TX2) (N := 17) (j := 16) (ref := RX2) hC (h1 0 _ rfl) rfl inT_X2 (by decide) mw_181 rfl rfl dX2_copyFrom_157 ?_
  refine ww_puti (pc := 160) (Cl := RX2) (T := TX2) (N := 17) (j := 16) (ref := RX2) hC (h0 0 _ rfl) rfl inT_X2 (by decide) mw_181 rfl tyX2 tyX2_ok nmX2 rfl rfl (tyX2_ok 16 (by decide)) dX2_copyFrom_160 ?_
  exact ww_return (pc := 163) hC hR dX2_copyFrom_163 rfl
theorem dX2_putSand_0 : decode cX2_putSand 0 = .ok (.iload_n 1, 1) := by decide +kernel
theorem dX2_putSand_1 : decode cX2_putSand 1 = .ok (.ifCond .ne 35, 3) := by decide +kernel
theorem dX2_putSand_4 : decode cX2_putSand 4 = .ok (.aload_n 0, 1) := by decide +kernel
theorem dX2_putSand_5 : decode cX2_putSand 5 = .ok (.getfield 39, 3) := by decide +kernel
theorem dX2_putSand_8 : decode cX2_putSand 8 = .ok (.bipush 6, 2) := by decide +kernel
theorem dX2_putSand_10 : decode cX2_putSand 10 = .ok (.if_icmp .ge 26, 3) := by decide +kernel
theorem dX2_putSand_13 : decode cX2_putSand 13 = .ok (.aload_n 0, 1) := by decide +kernel
theorem dX2_putSand_14 : decode cX2_putSand 14 = .ok (.getfield 9, 3) := by decide +kernel
theorem dX2_putSand_17 : decode cX2_putSand 17 = .ok (.aload_n 0, 1) := by decide +kernel
theorem dX2_putSand_18 : decode cX2_putSand 18 = .ok (.getfield 39, 3) := by decide +kernel
theorem dX2_putSand_21 : decode cX2_putSand 21 = .ok (.iload_n 2, 1) := by decide +kernel
theorem dX2_putSand_22 : decode cX2_putSand 22 = .ok (.iastore, 1) := by decide +kernel
theorem dX2_putSand_23 : decode cX2_putSand 23 = .ok (.aload_n 0, 1) := by decide +kernel
theorem dX2_putSand_24 : decode cX2_putSand 24 = .ok (.dup, 1) := by decide +kernel
theorem dX2_putSand_25 : decode cX2_putSand 25 = .ok (.getfield 39, 3) := by decide +kernel
theorem dX2_putSand_28 : decode cX2_putSand 28 = .ok (.iconst 1, 1) := by decide +kernel
theorem dX2_putSand_29 : decode cX2_putSand 29 = .ok (.iadd, 1) := by decide +kernel
theorem dX2_putSand_30 : decode cX2_putSand 30 = .ok (.putfield 39, 3) := by decide +kernel
theorem dX2_putSand_33 : decode cX2_putSand 33 = .ok (.goto 28, 3) := by decide +kernel
theorem dX2_putSand_36 : decode cX2_putSand 36 = .ok (.aload_n 0, 1) := by decide +kernel
theorem dX2_putSand_37 : decode cX2_putSand 37 = .ok (.getfield 39, 3) := by decide +kernel
theorem dX2_putSand_40 : decode cX2_putSand 40 = .ok (.iconst 1, 1) := by decide +kernel
theorem dX2_putSand_41 : decode cX2_putSand 41 = .ok (.bipush 6, 2) := by decide +kernel
theorem dX2_putSand_43 : decode cX2_putSand 43 = .ok (.invokestatic 86, 3) := by decide +kernel
theorem dX2_putSand_46 : decode cX2_putSand 46 = .ok (.ifCond .eq 15, 3) := by decide +kernel
theorem dX2_putSand_49 : decode cX2_putSand 49 = .ok (.aload_n 0, 1) := by decide +kernel
theorem dX2_putSand_50 : decode cX2_putSand 50 = .ok (.getfield 15, 3) := by decide +kernel
theorem dX2_putSand_53 : decode cX2_putSand 53 = .ok (.aload_n 0, 1) := by decide +kernel
theorem dX2_putSand_54 : decode cX2_putSand 54 = .ok (.getfield 39, 3) := by decide +kernel
theorem dX2_putSand_57 : decode cX2_putSand 57 = .ok (.iconst 1, 1) := by decide +kernel
theorem dX2_putSand_58 : decode cX2_putSand 58 = .ok (.isub, 1) := by decide +kernel
theorem dX2_putSand_59 : decode cX2_putSand 59 = .ok (.iload_n 2, 1) := by decide +kernel
theorem dX2_putSand_60 : decode cX2_putSand 60 = .ok (.iastore, 1) := by decide +kernel
theorem dX2_putSand_61 : decode cX2_putSand 61 = .ok (.return_, 1) := by decide +kernel
set_option maxHeartbeats 4000000 in
set_option maxRecDepth 100000 in
theorem c_X2_putSand {l : Launch} {Y : ww_Y} {ad : Nat → Nat} {G : List ww_L} (o0 : Nat) (h0 : ww_at G o0 (ww_LShore o0)) (σ : ww_M) (p1 : Int32) (p2 : Int32) : ww_Cn l Y ad G yX2_putSand cX2_putSand 3 none 2 [.ref (ad o0), .int p1, .int p2] σ ((f_X2_putSand σ o0 p1 p2).bind ww_rv) := by
  refine ww_met (by decide +kernel) (Nat.le_of_ble_eq_true rfl) ?_
  intro X hC hR
  have hC : ww_C X l Y ad G 2 cX2_putSand 3 RX2 := hC
  show ww_V X Y ad G 3 σ 0 [(0, .ref (ad o0)), (1, .int p1), (2, .int p2)] [] ((f_X2_putSand σ o0 p1 p2).bind ww_rv)
  have hJ36 : ∀ (σ : ww_M), ww_V X Y ad G 3 σ 36 [(0, .ref (ad o0)), (2, .int p2)] [] ((f_X2_putSand_j36 σ o0 p1 p2).bind ww_rv) := by
    intro σ
    unfold f_X2_putSand_j36
    refine ww_aload_n (pc := 36) hC 0 rfl dX2_putSand_36 rfl ?_
    refine ww_geti (pc := 37) (Cl := RX2) (T := TX2) (N := 17) (j := 9) (ref := RX2) hC (h0 0 _ rfl) rfl inT_X2 (by decide) mw_159 rfl rfl dX2_putSand_37 ?_
    refine ww_iconst (pc := 40) (v := 1) hC dX2_putSand_40 rfl ?_
    refine ww_bipush (pc := 41) (v := 6) hC dX2_putSand_41 rfl ?_
    refine ww_callSNi (pc := 43) (st := []) (As := [.int (σ o0 9), .int 1, .int 6]) hC (c_X6_within σ (σ o0 9) 1 6) mm_X6_within mw_474 (by omega) (by decide) (Nat.le_of_ble_eq_true rfl) rfl dX2_putSand_43 (fun v43 => ?_)
    refine ww_if_eq (pc := 46) (tgt := 61) hC dX2_putSand_46 (by decide) ?_ ?_
    · exact ww_return (pc := 61) hC hR dX2_putSand_61 rfl
    · refine ww_aload_n (pc := 49) hC 0 rfl dX2_putSand_49 rfl ?_
      refine ww_getr (pc := 50) (Cl := RX2) (T := TX2) (N := 17) (j := 1) (ref := RX2) hC (h0 0 _ rfl) rfl inT_X2 (by decide) mw_141 rfl rfl dX2_putSand_50 ?_
      refine ww_aload_n (pc := 53) hC 0 rfl dX2_putSand_53 rfl ?_
      refine ww_geti (pc := 54) (Cl := RX2) (T := TX2) (N := 17) (j := 9) (ref := RX2) hC (h0 0 _ rfl) rfl inT_X2 (by decide) mw_159 rfl rfl dX2_putSand_54 ?_
      refine ww_iconst (pc := 57) (v := 1) hC dX2_putSand_57 rfl ?_
      refine ww_isub (pc := 58) hC dX2_putSand_58 ?_
      refine ww_iload_n (pc := 59) hC 1 rfl dX2_putSand_59 rfl ?_
      refine ww_iast (pc := 60) hC (h0 2 _ rfl) dX2_putSand_60 ?_
      exact ww_return (pc := 61) hC hR dX2_putSand_61 rfl
  unfold f_X2_putSand
  refine ww_iload_n (pc := 0) hC 1 rfl dX2_putSand_0 rfl ?_
  refine ww_if_ne (pc := 1) (tgt := 36) hC dX2_putSand_1 (by decide) ?_ ?_
  · refine ww_lv [0, 2] rfl ?_
    exact hJ36 σ
  · refine ww_aload_n (pc := 4) hC 0 rfl dX2_putSand_4 rfl ?_
    refine ww_geti (pc := 5) (Cl := RX2) (T := TX2) (N := 17) (j := 9) (ref := RX2) hC (h0 0 _ rfl) rfl inT_X2 (by decide) mw_159 rfl rfl dX2_putSand_5 ?_
    refine ww_bipush (pc := 8) (v := 6) hC dX2_putSand_8 rfl ?_
    refine ww_icmp_ge (pc := 10) (tgt := 36) hC dX2_putSand_10 (by decide) ?_ ?_
    · refine ww_lv [0, 2] rfl ?_
      exact hJ36 σ
    · refine ww_aload_n (pc := 13) hC 0 rfl dX2_putSand_13 rfl ?_
      refine ww_getr (pc := 14) (Cl := RX2) (T := TX2) (N := 17) (j := 0) (ref := RX2) hC (h0 0 _ rfl) rfl inT_X2 (by decide) mw_139 rfl rfl dX2_putSand_14 ?_
      refine ww_aload_n (pc := 17) hC 0 rfl dX2_putSand_17 rfl ?_
      refine ww_geti (pc := 18) (Cl := RX2) (T := TX2) (N := 17) (j := 9) (ref := RX2) hC (h0 0 _ rfl) rfl inT_X2 (by decide) mw_159 rfl rfl dX2_putSand_18 ?_
      refine ww_iload_n (pc := 21) hC 2 rfl dX2_putSand_21 rfl ?_
      refine ww_iast (pc := 22) hC (h0 1 _ rfl) dX2_putSand_22 ?_
      refine ww_aload_n (pc := 23) hC 0 rfl dX2_putSand_23 rfl ?_
      refine ww_dup (pc := 24) hC dX2_putSand_24 rfl ?_
      refine ww_geti (pc := 25) (Cl := RX2) (T := TX2) (N := 17) (j := 9) (ref := RX2) hC (h0 0 _ rfl) rfl inT_X2 (by decide) mw_159 rfl rfl dX2_putSand_25 ?_
      refine ww_iconst (pc := 28) (v := 1) hC dX2_putSand_28 rfl ?_
      refine ww_iadd (pc := 29) hC dX2_putSand_29 ?_
      refine ww_puti (pc := 30) (Cl := RX2) (T := TX2) (N := 17) (j := 9) (ref := RX2) hC (h0 0 _ rfl) rfl inT_X2 (by decide) mw_159 rfl tyX2 tyX2_ok nmX2 rfl rfl (tyX2_ok 9 (by decide)) dX2_putSand_30 ?_
      refine ww_goto (pc := 33) (tgt := 61) hC dX2_putSand_33 (by decide) ?_
      exact ww_return (pc := 61) hC hR dX2_putSand_61 rfl
theorem dX2_putLevel_0 : decode cX2_putLevel 0 = .ok (.aload_n 0, 1) := by decide +kernel
theorem dX2_putLevel_1 : decode cX2_putLevel 1 = .ok (.getfield 43, 3) := by decide +kernel
theorem dX2_putLevel_4 : decode cX2_putLevel 4 = .ok (.iconst 0, 1) := by decide +kernel
theorem dX2_putLevel_5 : decode cX2_putLevel 5 = .ok (.iconst 5, 1) := by decide +kernel
theorem dX2_putLevel_6 : decode cX2_putLevel 6 = .ok (.invokestatic 86, 3) := by decide +kernel
theorem dX2_putLevel_9 : decode cX2_putLevel 9 = .ok (.ifCond .eq 23, 3) := by decide +kernel
theorem dX2_putLevel_12 : decode cX2_putLevel 12 = .ok (.aload_n 0, 1) := by decide +kernel
theorem dX2_putLevel_13 : decode cX2_putLevel 13 = .ok (.getfield 18, 3) := by decide +kernel
theorem dX2_putLevel_16 : decode cX2_putLevel 16 = .ok (.aload_n 0, 1) := by decide +kernel
theorem dX2_putLevel_17 : decode cX2_putLevel 17 = .ok (.getfield 43, 3) := by decide +kernel
theorem dX2_putLevel_20 : decode cX2_putLevel 20 = .ok (.iload_n 1, 1) := by decide +kernel
theorem dX2_putLevel_21 : decode cX2_putLevel 21 = .ok (.iastore, 1) := by decide +kernel
theorem dX2_putLevel_22 : decode cX2_putLevel 22 = .ok (.aload_n 0, 1) := by decide +kernel
theorem dX2_putLevel_23 : decode cX2_putLevel 23 = .ok (.dup, 1) := by decide +kernel
theorem dX2_putLevel_24 : decode cX2_putLevel 24 = .ok (.getfield 43, 3) := by decide +kernel
theorem dX2_putLevel_27 : decode cX2_putLevel 27 = .ok (.iconst 1, 1) := by decide +kernel
theorem dX2_putLevel_28 : decode cX2_putLevel 28 = .ok (.iadd, 1) := by decide +kernel
theorem dX2_putLevel_29 : decode cX2_putLevel 29 = .ok (.putfield 43, 3) := by decide +kernel
theorem dX2_putLevel_32 : decode cX2_putLevel 32 = .ok (.return_, 1) := by decide +kernel
set_option maxHeartbeats 4000000 in
set_option maxRecDepth 100000 in
theorem c_X2_putLevel {l : Launch} {Y : ww_Y} {ad : Nat → Nat} {G : List ww_L} (o0 : Nat) (h0 : ww_at G o0 (ww_LShore o0)) (σ : ww_M) (p1 : Int32) : ww_Cn l Y ad G yX2_putLevel cX2_putLevel 2 none 2 [.ref (ad o0), .int p1] σ ((f_X2_putLevel σ o0 p1).bind ww_rv) := by
  refine ww_met (by decide +kernel) (Nat.le_of_ble_eq_true rfl) ?_
  intro X hC hR
  have hC : ww_C X l Y ad G 2 cX2_putLevel 2 RX2 := hC
  show ww_V X Y ad G 2 σ 0 [(0, .ref (ad o0)), (1, .int p1)] [] ((f_X2_putLevel σ o0 p1).bind ww_rv)
  unfold f_X2_putLevel
  refine ww_aload_n (pc := 0) hC 0 rfl dX2_putLevel_0 rfl ?_
  refine ww_geti (pc := 1) (Cl := RX2) (T := TX2) (N := 17) (j := 10) (ref := RX2) hC (h0 0 _ rfl) rfl inT_X2 (by decide) mw_162 rfl rfl dX2_putLevel_1 ?_
  refine ww_iconst (pc := 4) (v := 0) hC dX2_putLevel_4 rfl ?_
  refine ww_iconst (pc := 5) (v := 5) hC dX2_putLevel_5 rfl ?_
  refine ww_callSNi (pc := 6) (st := []) (As := [.int (σ o0 10), .int 0, .int 5]) hC (c_X6_within σ (σ o0 10) 0 5) mm_X6_within mw_474 (by omega) (by decide) (Nat.le_of_ble_eq_true rfl) rfl dX2_putLevel_6 (fun v6 => ?_)
  refine ww_if_eq (pc := 9) (tgt := 32) hC dX2_putLevel_9 (by decide) ?_ ?_
  · exact ww_return (pc := 32) hC hR dX2_putLevel_32 rfl
  · refine ww_aload_n (pc := 12) hC 0 rfl dX2_putLevel_12 rfl ?_
    refine ww_getr (pc := 13) (Cl := RX2) (T := TX2) (N := 17) (j := 2) (ref := RX2) hC (h0 0 _ rfl) rfl inT_X2 (by decide) mw_143 rfl rfl dX2_putLevel_13 ?_
    refine ww_aload_n (pc := 16) hC 0 rfl dX2_putLevel_16 rfl ?_
    refine ww_geti (pc := 17) (Cl := RX2) (T := TX2) (N := 17) (j := 10) (ref := RX2) hC (h0 0 _ rfl) rfl inT_X2 (by decide) mw_162 rfl rfl dX2_putLevel_17 ?_
    refine ww_iload_n (pc := 20) hC 1 rfl dX2_putLevel_20 rfl ?_
    refine ww_iast (pc := 21) hC (h0 3 _ rfl) dX2_putLevel_21 ?_
    refine ww_aload_n (pc := 22) hC 0 rfl dX2_putLevel_22 rfl ?_
    refine ww_dup (pc := 23) hC dX2_putLevel_23 rfl ?_
    refine ww_geti (pc := 24) (Cl := RX2) (T := TX2) (N := 17) (j := 10) (ref := RX2) hC (h0 0 _ rfl) rfl inT_X2 (by decide) mw_162 rfl rfl dX2_putLevel_24 ?_
    refine ww_iconst (pc := 27) (v := 1) hC dX2_putLevel_27 rfl ?_
    refine ww_iadd (pc := 28) hC dX2_putLevel_28 ?_
    refine ww_puti (pc := 29) (Cl := RX2) (T := TX2) (N := 17) (j := 10) (ref := RX2) hC (h0 0 _ rfl) rfl inT_X2 (by decide) mw_162 rfl tyX2 tyX2_ok nmX2 rfl rfl (tyX2_ok 10 (by decide)) dX2_putLevel_29 ?_
    exact ww_return (pc := 32) hC hR dX2_putLevel_32 rfl
theorem dX2_putWhale_0 : decode cX2_putWhale 0 = .ok (.iload_n 1, 1) := by decide +kernel
theorem dX2_putWhale_1 : decode cX2_putWhale 1 = .ok (.ifCond .ne 44, 3) := by decide +kernel
theorem dX2_putWhale_4 : decode cX2_putWhale 4 = .ok (.aload_n 0, 1) := by decide +kernel
theorem dX2_putWhale_5 : decode cX2_putWhale 5 = .ok (.getfield 46, 3) := by decide +kernel
theorem dX2_putWhale_8 : decode cX2_putWhale 8 = .ok (.iconst 3, 1) := by decide +kernel
theorem dX2_putWhale_9 : decode cX2_putWhale 9 = .ok (.if_icmp .ge 36, 3) := by decide +kernel
theorem dX2_putWhale_12 : decode cX2_putWhale 12 = .ok (.aload_n 0, 1) := by decide +kernel
theorem dX2_putWhale_13 : decode cX2_putWhale 13 = .ok (.getfield 21, 3) := by decide +kernel
theorem dX2_putWhale_16 : decode cX2_putWhale 16 = .ok (.aload_n 0, 1) := by decide +kernel
theorem dX2_putWhale_17 : decode cX2_putWhale 17 = .ok (.getfield 46, 3) := by decide +kernel
theorem dX2_putWhale_20 : decode cX2_putWhale 20 = .ok (.iload_n 2, 1) := by decide +kernel
theorem dX2_putWhale_21 : decode cX2_putWhale 21 = .ok (.iastore, 1) := by decide +kernel
theorem dX2_putWhale_22 : decode cX2_putWhale 22 = .ok (.aload_n 0, 1) := by decide +kernel
theorem dX2_putWhale_23 : decode cX2_putWhale 23 = .ok (.getfield 24, 3) := by decide +kernel
theorem dX2_putWhale_26 : decode cX2_putWhale 26 = .ok (.aload_n 0, 1) := by decide +kernel
theorem dX2_putWhale_27 : decode cX2_putWhale 27 = .ok (.getfield 46, 3) := by decide +kernel
theorem dX2_putWhale_30 : decode cX2_putWhale 30 = .ok (.iconst 0, 1) := by decide +kernel
theorem dX2_putWhale_31 : decode cX2_putWhale 31 = .ok (.iastore, 1) := by decide +kernel
theorem dX2_putWhale_32 : decode cX2_putWhale 32 = .ok (.aload_n 0, 1) := by decide +kernel
theorem dX2_putWhale_33 : decode cX2_putWhale 33 = .ok (.dup, 1) := by decide +kernel
theorem dX2_putWhale_34 : decode cX2_putWhale 34 = .ok (.getfield 46, 3) := by decide +kernel
theorem dX2_putWhale_37 : decode cX2_putWhale 37 = .ok (.iconst 1, 1) := by decide +kernel
theorem dX2_putWhale_38 : decode cX2_putWhale 38 = .ok (.iadd, 1) := by decide +kernel
theorem dX2_putWhale_39 : decode cX2_putWhale 39 = .ok (.putfield 46, 3) := by decide +kernel
theorem dX2_putWhale_42 : decode cX2_putWhale 42 = .ok (.goto 117, 3) := by decide +kernel
theorem dX2_putWhale_45 : decode cX2_putWhale 45 = .ok (.aload_n 0, 1) := by decide +kernel
theorem dX2_putWhale_46 : decode cX2_putWhale 46 = .ok (.getfield 46, 3) := by decide +kernel
theorem dX2_putWhale_49 : decode cX2_putWhale 49 = .ok (.iconst 1, 1) := by decide +kernel
theorem dX2_putWhale_50 : decode cX2_putWhale 50 = .ok (.iconst 3, 1) := by decide +kernel
theorem dX2_putWhale_51 : decode cX2_putWhale 51 = .ok (.invokestatic 86, 3) := by decide +kernel
theorem dX2_putWhale_54 : decode cX2_putWhale 54 = .ok (.ifCond .eq 105, 3) := by decide +kernel
theorem dX2_putWhale_57 : decode cX2_putWhale 57 = .ok (.iload_n 1, 1) := by decide +kernel
theorem dX2_putWhale_58 : decode cX2_putWhale 58 = .ok (.iconst 1, 1) := by decide +kernel
theorem dX2_putWhale_59 : decode cX2_putWhale 59 = .ok (.bipush 9, 2) := by decide +kernel
theorem dX2_putWhale_61 : decode cX2_putWhale 61 = .ok (.invokestatic 86, 3) := by decide +kernel
theorem dX2_putWhale_64 : decode cX2_putWhale 64 = .ok (.ifCond .eq 95, 3) := by decide +kernel
theorem dX2_putWhale_67 : decode cX2_putWhale 67 = .ok (.aload_n 0, 1) := by decide +kernel
theorem dX2_putWhale_68 : decode cX2_putWhale 68 = .ok (.getfield 46, 3) := by decide +kernel
theorem dX2_putWhale_71 : decode cX2_putWhale 71 = .ok (.iconst 1, 1) := by decide +kernel
theorem dX2_putWhale_72 : decode cX2_putWhale 72 = .ok (.isub, 1) := by decide +kernel
theorem dX2_putWhale_73 : decode cX2_putWhale 73 = .ok (.istore_n 3, 1) := by decide +kernel
theorem dX2_putWhale_74 : decode cX2_putWhale 74 = .ok (.iload_n 3, 1) := by decide +kernel
theorem dX2_putWhale_75 : decode cX2_putWhale 75 = .ok (.iconst 3, 1) := by decide +kernel
theorem dX2_putWhale_76 : decode cX2_putWhale 76 = .ok (.imul, 1) := by decide +kernel
theorem dX2_putWhale_77 : decode cX2_putWhale 77 = .ok (.iload_n 1, 1) := by decide +kernel
theorem dX2_putWhale_78 : decode cX2_putWhale 78 = .ok (.iconst 1, 1) := by decide +kernel
theorem dX2_putWhale_79 : decode cX2_putWhale 79 = .ok (.isub, 1) := by decide +kernel
theorem dX2_putWhale_80 : decode cX2_putWhale 80 = .ok (.iconst 3, 1) := by decide +kernel
theorem dX2_putWhale_81 : decode cX2_putWhale 81 = .ok (.idiv, 1) := by decide +kernel
theorem dX2_putWhale_82 : decode cX2_putWhale 82 = .ok (.iadd, 1) := by decide +kernel
theorem dX2_putWhale_83 : decode cX2_putWhale 83 = .ok (.istore 4, 2) := by decide +kernel
theorem dX2_putWhale_85 : decode cX2_putWhale 85 = .ok (.iload_n 1, 1) := by decide +kernel
theorem dX2_putWhale_86 : decode cX2_putWhale 86 = .ok (.iconst 3, 1) := by decide +kernel
theorem dX2_putWhale_87 : decode cX2_putWhale 87 = .ok (.irem, 1) := by decide +kernel
theorem dX2_putWhale_88 : decode cX2_putWhale 88 = .ok (.lookupswitch 50 #[(1, 28), (2, 39)], 28) := by decide +kernel
theorem dX2_putWhale_116 : decode cX2_putWhale 116 = .ok (.aload_n 0, 1) := by decide +kernel
theorem dX2_putWhale_117 : decode cX2_putWhale 117 = .ok (.getfield 27, 3) := by decide +kernel
theorem dX2_putWhale_120 : decode cX2_putWhale 120 = .ok (.iload 4, 2) := by decide +kernel
theorem dX2_putWhale_122 : decode cX2_putWhale 122 = .ok (.iload_n 2, 1) := by decide +kernel
theorem dX2_putWhale_123 : decode cX2_putWhale 123 = .ok (.iastore, 1) := by decide +kernel
theorem dX2_putWhale_124 : decode cX2_putWhale 124 = .ok (.goto 22, 3) := by decide +kernel
theorem dX2_putWhale_127 : decode cX2_putWhale 127 = .ok (.aload_n 0, 1) := by decide +kernel
theorem dX2_putWhale_128 : decode cX2_putWhale 128 = .ok (.getfield 30, 3) := by decide +kernel
theorem dX2_putWhale_131 : decode cX2_putWhale 131 = .ok (.iload 4, 2) := by decide +kernel
theorem dX2_putWhale_133 : decode cX2_putWhale 133 = .ok (.iload_n 2, 1) := by decide +kernel
theorem dX2_putWhale_134 : decode cX2_putWhale 134 = .ok (.iastore, 1) := by decide +kernel
theorem dX2_putWhale_135 : decode cX2_putWhale 135 = .ok (.goto 11, 3) := by decide +kernel
theorem dX2_putWhale_138 : decode cX2_putWhale 138 = .ok (.aload_n 0, 1) := by decide +kernel
theorem dX2_putWhale_139 : decode cX2_putWhale 139 = .ok (.getfield 33, 3) := by decide +kernel
theorem dX2_putWhale_142 : decode cX2_putWhale 142 = .ok (.iload 4, 2) := by decide +kernel
theorem dX2_putWhale_144 : decode cX2_putWhale 144 = .ok (.iload_n 2, 1) := by decide +kernel
theorem dX2_putWhale_145 : decode cX2_putWhale 145 = .ok (.iastore, 1) := by decide +kernel
theorem dX2_putWhale_146 : decode cX2_putWhale 146 = .ok (.aload_n 0, 1) := by decide +kernel
theorem dX2_putWhale_147 : decode cX2_putWhale 147 = .ok (.getfield 24, 3) := by decide +kernel
theorem dX2_putWhale_150 : decode cX2_putWhale 150 = .ok (.iload_n 3, 1) := by decide +kernel
theorem dX2_putWhale_151 : decode cX2_putWhale 151 = .ok (.iload_n 1, 1) := by decide +kernel
theorem dX2_putWhale_152 : decode cX2_putWhale 152 = .ok (.iconst 1, 1) := by decide +kernel
theorem dX2_putWhale_153 : decode cX2_putWhale 153 = .ok (.isub, 1) := by decide +kernel
theorem dX2_putWhale_154 : decode cX2_putWhale 154 = .ok (.iconst 3, 1) := by decide +kernel
theorem dX2_putWhale_155 : decode cX2_putWhale 155 = .ok (.idiv, 1) := by decide +kernel
theorem dX2_putWhale_156 : decode cX2_putWhale 156 = .ok (.iconst 1, 1) := by decide +kernel
theorem dX2_putWhale_157 : decode cX2_putWhale 157 = .ok (.iadd, 1) := by decide +kernel
theorem dX2_putWhale_158 : decode cX2_putWhale 158 = .ok (.iastore, 1) := by decide +kernel
theorem dX2_putWhale_159 : decode cX2_putWhale 159 = .ok (.return_, 1) := by decide +kernel
set_option maxHeartbeats 4000000 in
set_option maxRecDepth 100000 in
theorem c_X2_putWhale {l : Launch} {Y : ww_Y} {ad : Nat → Nat} {G : List ww_L} (o0 : Nat) (h0 : ww_at G o0 (ww_LShore o0)) (σ : ww_M) (p1 : Int32) (p2 : Int32) : ww_Cn l Y ad G yX2_putWhale cX2_putWhale 5 none 2 [.ref (ad o0), .int p1, .int p2] σ ((f_X2_putWhale σ o0 p1 p2).bind ww_rv) := by
  refine ww_met (by decide +kernel) (Nat.le_of_ble_eq_true rfl) ?_
  intro X hC hR
  have hC : ww_C X l Y ad G 2 cX2_putWhale 5 RX2 := hC
  show ww_V X Y ad G 5 σ 0 [(0, .ref (ad o0)), (1, .int p1), (2, .int p2)] [] ((f_X2_putWhale σ o0 p1 p2).bind ww_rv)
  have hJ45 : ∀ (σ : ww_M), ww_V X Y ad G 5 σ 45 [(0, .ref (ad o0)), (1, .int p1), (2, .int p2)] [] ((f_X2_putWhale_j45 σ o0 p1 p2).bind ww_rv) := by
    intro σ
    unfold f_X2_putWhale_j45
    refine ww_aload_n (pc := 45) hC 0 rfl dX2_putWhale_45 rfl ?_
    refine ww_geti (pc := 46) (Cl := RX2) (T := TX2) (N := 17) (j := 11) (ref := RX2) hC (h0 0 _ rfl) rfl inT_X2 (by decide) mw_165 rfl rfl dX2_putWhale_46 ?_
    refine ww_iconst (pc := 49) (v := 1) hC dX2_putWhale_49 rfl ?_
    refine ww_iconst (pc := 50) (v := 3) hC dX2_putWhale_50 rfl ?_
    refine ww_callSNi (pc := 51) (st := []) (As := [.int (σ o0 11), .int 1, .int 3]) hC (c_X6_within σ (σ o0 11) 1 3) mm_X6_within mw_474 (by omega) (by decide) (Nat.le_of_ble_eq_true rfl) rfl dX2_putWhale_51 (fun v51 => ?_)
    refine ww_if_eq (pc := 54) (tgt := 159) hC dX2_putWhale_54 (by decide) ?_ ?_
    · exact ww_return (pc := 159) hC hR dX2_putWhale_159 rfl
    · refine ww_iload_n (pc := 57) hC 1 rfl dX2_putWhale_57 rfl ?_
      refine ww_iconst (pc := 58) (v := 1) hC dX2_putWhale_58 rfl ?_
      refine ww_bipush (pc := 59) (v := 9) hC dX2_putWhale_59 rfl ?_
      refine ww_callSNi (pc := 61) (st := []) (As := [.int p1, .int 1, .int 9]) hC (c_X6_within σ p1 1 9) mm_X6_within mw_474 (by omega) (by decide) (Nat.le_of_ble_eq_true rfl) rfl dX2_putWhale_61 (fun v61 => ?_)
      refine ww_if_eq (pc := 64) (tgt := 159) hC dX2_putWhale_64 (by decide) ?_ ?_
      · exact ww_return (pc := 159) hC hR dX2_putWhale_159 rfl
      · refine ww_aload_n (pc := 67) hC 0 rfl dX2_putWhale_67 rfl ?_
        refine ww_geti (pc := 68) (Cl := RX2) (T := TX2) (N := 17) (j := 11) (ref := RX2) hC (h0 0 _ rfl) rfl inT_X2 (by decide) mw_165 rfl rfl dX2_putWhale_68 ?_
        refine ww_iconst (pc := 71) (v := 1) hC dX2_putWhale_71 rfl ?_
        refine ww_isub (pc := 72) hC dX2_putWhale_72 ?_
        refine ww_istore_n (pc := 73) (lv' := [(3, .int ((σ o0 11) - 1)), (0, .ref (ad o0)), (1, .int p1), (2, .int p2)]) hC dX2_putWhale_73 rfl (by decide) rfl ?_
        refine ww_iload_n (pc := 74) hC 0 rfl dX2_putWhale_74 rfl ?_
        refine ww_iconst (pc := 75) (v := 3) hC dX2_putWhale_75 rfl ?_
        refine ww_imul (pc := 76) hC dX2_putWhale_76 ?_
        refine ww_iload_n (pc := 77) hC 2 rfl dX2_putWhale_77 rfl ?_
        refine ww_iconst (pc := 78) (v := 1) hC dX2_putWhale_78 rfl ?_
        refine ww_isub (pc := 79) hC dX2_putWhale_79 ?_
        refine ww_iconst (pc := 80) (v := 3) hC dX2_putWhale_80 rfl ?_
        refine ww_idiv_c (pc := 81) hC dX2_putWhale_81 (by decide) ?_
        refine ww_iadd (pc := 82) hC dX2_putWhale_82 ?_
        refine ww_istore (pc := 83) (lv' := [(4, .int ((((σ o0 11) - 1) * 3) + ((p1 - 1) / 3))), (3, .int ((σ o0 11) - 1)), (0, .ref (ad o0)), (1, .int p1), (2, .int p2)]) hC dX2_putWhale_83 (by decide) rfl ?_
        refine ww_iload_n (pc := 85) hC 3 rfl dX2_putWhale_85 rfl ?_
        refine ww_iconst (pc := 86) (v := 3) hC dX2_putWhale_86 rfl ?_
        refine ww_irem_c (pc := 87) hC dX2_putWhale_87 (by decide) ?_
        refine ww_look (pc := 88) (tgt := 116) (off := 28) hC 1 dX2_putWhale_88 (by decide) (by decide) (by decide) ?_ (fun q88_0 => ?_)
        · refine ww_aload_n (pc := 116) hC 2 rfl dX2_putWhale_116 rfl ?_
          refine ww_getr (pc := 117) (Cl := RX2) (T := TX2) (N := 17) (j := 5) (ref := RX2) hC (h0 0 _ rfl) rfl inT_X2 (by decide) mw_150 rfl rfl dX2_putWhale_117 ?_
          refine ww_iload (pc := 120) hC 0 rfl dX2_putWhale_120 ?_
          refine ww_iload_n (pc := 122) hC 4 rfl dX2_putWhale_122 rfl ?_
          refine ww_iast (pc := 123) hC (h0 6 _ rfl) dX2_putWhale_123 ?_
          refine ww_goto (pc := 124) (tgt := 146) hC dX2_putWhale_124 (by decide) ?_
          refine ww_aload_n (pc := 146) hC 2 rfl dX2_putWhale_146 rfl ?_
          refine ww_getr (pc := 147) (Cl := RX2) (T := TX2) (N := 17) (j := 4) (ref := RX2) hC (h0 0 _ rfl) rfl inT_X2 (by decide) mw_147 rfl rfl dX2_putWhale_147 ?_
          refine ww_iload_n (pc := 150) hC 1 rfl dX2_putWhale_150 rfl ?_
          refine ww_iload_n (pc := 151) hC 3 rfl dX2_putWhale_151 rfl ?_
          refine ww_iconst (pc := 152) (v := 1) hC dX2_putWhale_152 rfl ?_
          refine ww_isub (pc := 153) hC dX2_putWhale_153 ?_
          refine ww_iconst (pc := 154) (v := 3) hC dX2_putWhale_154 rfl ?_
          refine ww_idiv_c (pc := 155) hC dX2_putWhale_155 (by decide) ?_
          refine ww_iconst (pc := 156) (v := 1) hC dX2_putWhale_156 rfl ?_
          refine ww_iadd (pc := 157) hC dX2_putWhale_157 ?_
          refine ww_iast (pc := 158) hC (h0 5 _ rfl) dX2_putWhale_158 ?_
          exact ww_return (pc := 159) hC hR dX2_putWhale_159 rfl
        refine ww_look (pc := 88) (tgt := 127) (off := 39) hC 2 dX2_putWhale_88 (by decide) (by decide) (by decide) ?_ (fun q88_1 => ?_)
        · refine ww_aload_n (pc := 127) hC 2 rfl dX2_putWhale_127 rfl ?_
          refine ww_getr (pc := 128) (Cl := RX2) (T := TX2) (N := 17) (j := 6) (ref := RX2) hC (h0 0 _ rfl) rfl inT_X2 (by decide) mw_152 rfl rfl dX2_putWhale_128 ?_
          refine ww_iload (pc := 131) hC 0 rfl dX2_putWhale_131 ?_
          refine ww_iload_n (pc := 133) hC 4 rfl dX2_putWhale_133 rfl ?_
          refine ww_iast (pc := 134) hC (h0 7 _ rfl) dX2_putWhale_134 ?_
          refine ww_goto (pc := 135) (tgt := 146) hC dX2_putWhale_135 (by decide) ?_
          refine ww_aload_n (pc := 146) hC 2 rfl dX2_putWhale_146 rfl ?_
          refine ww_getr (pc := 147) (Cl := RX2) (T := TX2) (N := 17) (j := 4) (ref := RX2) hC (h0 0 _ rfl) rfl inT_X2 (by decide) mw_147 rfl rfl dX2_putWhale_147 ?_
          refine ww_iload_n (pc := 150) hC 1 rfl dX2_putWhale_150 rfl ?_
          refine ww_iload_n (pc := 151) hC 3 rfl dX2_putWhale_151 rfl ?_
          refine ww_iconst (pc := 152) (v := 1) hC dX2_putWhale_152 rfl ?_
          refine ww_isub (pc := 153) hC dX2_putWhale_153 ?_
          refine ww_iconst (pc := 154) (v := 3) hC dX2_putWhale_154 rfl ?_
          refine ww_idiv_c (pc := 155) hC dX2_putWhale_155 (by decide) ?_
          refine ww_iconst (pc := 156) (v := 1) hC dX2_putWhale_156 rfl ?_
          refine ww_iadd (pc := 157) hC dX2_putWhale_157 ?_
          refine ww_iast (pc := 158) hC (h0 5 _ rfl) dX2_putWhale_158 ?_
          exact ww_return (pc := 159) hC hR dX2_putWhale_159 rfl
        have z88_0 : ¬ (1 : Int) = (ww_rem p1 3).toInt := fun e => ww_nei q88_0 e.symm
        have z88_1 : ¬ (2 : Int) = (ww_rem p1 3).toInt := fun e => ww_nei q88_1 e.symm
        refine ww_lookD (pc := 88) (tgt := 138) hC dX2_putWhale_88 (by decide) (by simp [Op.lookupswitch.offset, z88_0, z88_1]) (by decide) ?_
        refine ww_aload_n (pc := 138) hC 2 rfl dX2_putWhale_138 rfl ?_
        refine ww_getr (pc := 139) (Cl := RX2) (T := TX2) (N := 17) (j := 7) (ref := RX2) hC (h0 0 _ rfl) rfl inT_X2 (by decide) mw_155 rfl rfl dX2_putWhale_139 ?_
        refine ww_iload (pc := 142) hC 0 rfl dX2_putWhale_142 ?_
        refine ww_iload_n (pc := 144) hC 4 rfl dX2_putWhale_144 rfl ?_
        refine ww_iast (pc := 145) hC (h0 8 _ rfl) dX2_putWhale_145 ?_
        refine ww_aload_n (pc := 146) hC 2 rfl dX2_putWhale_146 rfl ?_
        refine ww_getr (pc := 147) (Cl := RX2) (T := TX2) (N := 17) (j := 4) (ref := RX2) hC (h0 0 _ rfl) rfl inT_X2 (by decide) mw_147 rfl rfl dX2_putWhale_147 ?_
        refine ww_iload_n (pc := 150) hC 1 rfl dX2_putWhale_150 rfl ?_
        refine ww_iload_n (pc := 151) hC 3 rfl dX2_putWhale_151 rfl ?_
        refine ww_iconst (pc := 152) (v := 1) hC dX2_putWhale_152 rfl ?_
        refine ww_isub (pc := 153) hC dX2_putWhale_153 ?_
        refine ww_iconst (pc := 154) (v := 3) hC dX2_putWhale_154 rfl ?_
        refine ww_idiv_c (pc := 155) hC dX2_putWhale_155 (by decide) ?_
        refine ww_iconst (pc := 156) (v := 1) hC dX2_putWhale_156 rfl ?_
        refine ww_iadd (pc := 157) hC dX2_putWhale_157 ?_
        refine ww_iast (pc := 158) hC (h0 5 _ rfl) dX2_putWhale_158 ?_
        exact ww_return (pc := 159) hC hR dX2_putWhale_159 rfl
  unfold f_X2_putWhale
  refine ww_iload_n (pc := 0) hC 1 rfl dX2_putWhale_0 rfl ?_
  refine ww_if_ne (pc := 1) (tgt := 45) hC dX2_putWhale_1 (by decide) ?_ ?_
  · exact hJ45 σ
  · refine ww_aload_n (pc := 4) hC 0 rfl dX2_putWhale_4 rfl ?_
    refine ww_geti (pc := 5) (Cl := RX2) (T := TX2) (N := 17) (j := 11) (ref := RX2) hC (h0 0 _ rfl) rfl inT_X2 (by decide) mw_165 rfl rfl dX2_putWhale_5 ?_
    refine ww_iconst (pc := 8) (v := 3) hC dX2_putWhale_8 rfl ?_
    refine ww_icmp_ge (pc := 9) (tgt := 45) hC dX2_putWhale_9 (by decide) ?_ ?_
    · exact hJ45 σ
    · refine ww_aload_n (pc := 12) hC 0 rfl dX2_putWhale_12 rfl ?_
      refine ww_getr (pc := 13) (Cl := RX2) (T := TX2) (N := 17) (j := 3) (ref := RX2) hC (h0 0 _ rfl) rfl inT_X2 (by decide) mw_144 rfl rfl dX2_putWhale_13 ?_
      refine ww_aload_n (pc := 16) hC 0 rfl dX2_putWhale_16 rfl ?_
      refine ww_geti (pc := 17) (Cl := RX2) (T := TX2) (N := 17) (j := 11) (ref := RX2) hC (h0 0 _ rfl) rfl inT_X2 (by decide) mw_165 rfl rfl dX2_putWhale_17 ?_
      refine ww_iload_n (pc := 20) hC 2 rfl dX2_putWhale_20 rfl ?_
      refine ww_iast (pc := 21) hC (h0 4 _ rfl) dX2_putWhale_21 ?_
      refine ww_aload_n (pc := 22) hC 0 rfl dX2_putWhale_22 rfl ?_
      refine ww_getr (pc := 23) (Cl := RX2) (T := TX2) (N := 17) (j := 4) (ref := RX2) hC (h0 0 _ rfl) rfl inT_X2 (by decide) mw_147 rfl rfl dX2_putWhale_23 ?_
      refine ww_aload_n (pc := 26) hC 0 rfl dX2_putWhale_26 rfl ?_
      refine ww_geti (pc := 27) (Cl := RX2) (T := TX2) (N := 17) (j := 11) (ref := RX2) hC (h0 0 _ rfl) rfl inT_X2 (by decide) mw_165 rfl rfl dX2_putWhale_27 ?_
      refine ww_iconst (pc := 30) (v := 0) hC dX2_putWhale_30 rfl ?_
      refine ww_iast (pc := 31) hC (h0 5 _ rfl) dX2_putWhale_31 ?_
      refine ww_aload_n (pc := 32) hC 0 rfl dX2_putWhale_32 rfl ?_
      refine ww_dup (pc := 33) hC dX2_putWhale_33 rfl ?_
      refine ww_geti (pc := 34) (Cl := RX2) (T := TX2) (N := 17) (j := 11) (ref := RX2) hC (h0 0 _ rfl) rfl inT_X2 (by decide) mw_165 rfl rfl dX2_putWhale_34 ?_
      refine ww_iconst (pc := 37) (v := 1) hC dX2_putWhale_37 rfl ?_
      refine ww_iadd (pc := 38) hC dX2_putWhale_38 ?_
      refine ww_puti (pc := 39) (Cl := RX2) (T := TX2) (N := 17) (j := 11) (ref := RX2) hC (h0 0 _ rfl) rfl inT_X2 (by decide) mw_165 rfl tyX2 tyX2_ok nmX2 rfl rfl (tyX2_ok 11 (by decide)) dX2_putWhale_39 ?_
      refine ww_goto (pc := 42) (tgt := 159) hC dX2_putWhale_42 (by decide) ?_
      exact ww_return (pc := 159) hC hR dX2_putWhale_159 rfl
theorem dX2_hasPlace_0 : decode cX2_hasPlace 0 = .ok (.iload_n 1, 1) := by decide +kernel
theorem dX2_hasPlace_1 : decode cX2_hasPlace 1 = .ok (.iconst 0, 1) := by decide +kernel
theorem dX2_hasPlace_2 : decode cX2_hasPlace 2 = .ok (.aload_n 0, 1) := by decide +kernel
theorem dX2_hasPlace_3 : decode cX2_hasPlace 3 = .ok (.getfield 39, 3) := by decide +kernel
theorem dX2_hasPlace_6 : decode cX2_hasPlace 6 = .ok (.iconst 1, 1) := by decide +kernel
theorem dX2_hasPlace_7 : decode cX2_hasPlace 7 = .ok (.isub, 1) := by decide +kernel
theorem dX2_hasPlace_8 : decode cX2_hasPlace 8 = .ok (.invokestatic 86, 3) := by decide +kernel
theorem dX2_hasPlace_11 : decode cX2_hasPlace 11 = .ok (.ireturn, 1) := by decide +kernel
set_option maxHeartbeats 4000000 in
set_option maxRecDepth 100000 in
theorem c_X2_hasPlace {l : Launch} {Y : ww_Y} {ad : Nat → Nat} {G : List ww_L} (o0 : Nat) (h0 : ww_at G o0 (ww_LShore o0)) (σ : ww_M) (p1 : Int32) : ww_Cn l Y ad G yX2_hasPlace cX2_hasPlace 2 (some .boolean) 2 [.ref (ad o0), .int p1] σ ((f_X2_hasPlace σ o0 p1).bind (ww_ri σ)) := by
  refine ww_met (by decide +kernel) (Nat.le_of_ble_eq_true rfl) ?_
  intro X hC hR
  have hC : ww_C X l Y ad G 2 cX2_hasPlace 2 RX2 := hC
  show ww_V X Y ad G 2 σ 0 [(0, .ref (ad o0)), (1, .int p1)] [] ((f_X2_hasPlace σ o0 p1).bind (ww_ri σ))
  unfold f_X2_hasPlace
  refine ww_iload_n (pc := 0) hC 1 rfl dX2_hasPlace_0 rfl ?_
  refine ww_iconst (pc := 1) (v := 0) hC dX2_hasPlace_1 rfl ?_
  refine ww_aload_n (pc := 2) hC 0 rfl dX2_hasPlace_2 rfl ?_
  refine ww_geti (pc := 3) (Cl := RX2) (T := TX2) (N := 17) (j := 9) (ref := RX2) hC (h0 0 _ rfl) rfl inT_X2 (by decide) mw_159 rfl rfl dX2_hasPlace_3 ?_
  refine ww_iconst (pc := 6) (v := 1) hC dX2_hasPlace_6 rfl ?_
  refine ww_isub (pc := 7) hC dX2_hasPlace_7 ?_
  refine ww_callSNi (pc := 8) (st := []) (As := [.int p1, .int 0, .int ((σ o0 9) - 1)]) hC (c_X6_within σ p1 0 ((σ o0 9) - 1)) mm_X6_within mw_474 (by omega) (by decide) (Nat.le_of_ble_eq_true rfl) rfl dX2_hasPlace_8 (fun v8 => ?_)
  exact ww_zreturnG (pc := 11) hC hR dX2_hasPlace_11 rfl
theorem dX2_hasBeast_0 : decode cX2_hasBeast 0 = .ok (.iload_n 1, 1) := by decide +kernel
theorem dX2_hasBeast_1 : decode cX2_hasBeast 1 = .ok (.iconst 0, 1) := by decide +kernel
theorem dX2_hasBeast_2 : decode cX2_hasBeast 2 = .ok (.aload_n 0, 1) := by decide +kernel
theorem dX2_hasBeast_3 : decode cX2_hasBeast 3 = .ok (.getfield 46, 3) := by decide +kernel
theorem dX2_hasBeast_6 : decode cX2_hasBeast 6 = .ok (.iconst 1, 1) := by decide +kernel
theorem dX2_hasBeast_7 : decode cX2_hasBeast 7 = .ok (.isub, 1) := by decide +kernel
theorem dX2_hasBeast_8 : decode cX2_hasBeast 8 = .ok (.invokestatic 86, 3) := by decide +kernel
theorem dX2_hasBeast_11 : decode cX2_hasBeast 11 = .ok (.ireturn, 1) := by decide +kernel
set_option maxHeartbeats 4000000 in
set_option maxRecDepth 100000 in
theorem c_X2_hasBeast {l : Launch} {Y : ww_Y} {ad : Nat → Nat} {G : List ww_L} (o0 : Nat) (h0 : ww_at G o0 (ww_LShore o0)) (σ : ww_M) (p1 : Int32) : ww_Cn l Y ad G yX2_hasBeast cX2_hasBeast 2 (some .boolean) 2 [.ref (ad o0), .int p1] σ ((f_X2_hasBeast σ o0 p1).bind (ww_ri σ)) := by
  refine ww_met (by decide +kernel) (Nat.le_of_ble_eq_true rfl) ?_
  intro X hC hR
  have hC : ww_C X l Y ad G 2 cX2_hasBeast 2 RX2 := hC
  show ww_V X Y ad G 2 σ 0 [(0, .ref (ad o0)), (1, .int p1)] [] ((f_X2_hasBeast σ o0 p1).bind (ww_ri σ))
  unfold f_X2_hasBeast
  refine ww_iload_n (pc := 0) hC 1 rfl dX2_hasBeast_0 rfl ?_
  refine ww_iconst (pc := 1) (v := 0) hC dX2_hasBeast_1 rfl ?_
  refine ww_aload_n (pc := 2) hC 0 rfl dX2_hasBeast_2 rfl ?_
  refine ww_geti (pc := 3) (Cl := RX2) (T := TX2) (N := 17) (j := 11) (ref := RX2) hC (h0 0 _ rfl) rfl inT_X2 (by decide) mw_165 rfl rfl dX2_hasBeast_3 ?_
  refine ww_iconst (pc := 6) (v := 1) hC dX2_hasBeast_6 rfl ?_
  refine ww_isub (pc := 7) hC dX2_hasBeast_7 ?_
  refine ww_callSNi (pc := 8) (st := []) (As := [.int p1, .int 0, .int ((σ o0 11) - 1)]) hC (c_X6_within σ p1 0 ((σ o0 11) - 1)) mm_X6_within mw_474 (by omega) (by decide) (Nat.le_of_ble_eq_true rfl) rfl dX2_hasBeast_8 (fun v8 => ?_)
  exact ww_zreturnG (pc := 11) hC hR dX2_hasBeast_11 rfl
theorem dX2_slotOf_0 : decode cX2_slotOf 0 = .ok (.iload_n 1, 1) := by decide +kernel
theorem dX2_slotOf_1 : decode cX2_slotOf 1 = .ok (.bipush 10, 2) := by decide +kernel
theorem dX2_slotOf_3 : decode cX2_slotOf 3 = .ok (.idiv, 1) := by decide +kernel
theorem dX2_slotOf_4 : decode cX2_slotOf 4 = .ok (.istore_n 2, 1) := by decide +kernel
theorem dX2_slotOf_5 : decode cX2_slotOf 5 = .ok (.iload_n 1, 1) := by decide +kernel
theorem dX2_slotOf_6 : decode cX2_slotOf 6 = .ok (.bipush 10, 2) := by decide +kernel
theorem dX2_slotOf_8 : decode cX2_slotOf 8 = .ok (.irem, 1) := by decide +kernel
theorem dX2_slotOf_9 : decode cX2_slotOf 9 = .ok (.istore_n 3, 1) := by decide +kernel
theorem dX2_slotOf_10 : decode cX2_slotOf 10 = .ok (.iload_n 1, 1) := by decide +kernel
theorem dX2_slotOf_11 : decode cX2_slotOf 11 = .ok (.ifCond .lt 29, 3) := by decide +kernel
theorem dX2_slotOf_14 : decode cX2_slotOf 14 = .ok (.aload_n 0, 1) := by decide +kernel
theorem dX2_slotOf_15 : decode cX2_slotOf 15 = .ok (.iload_n 2, 1) := by decide +kernel
theorem dX2_slotOf_16 : decode cX2_slotOf 16 = .ok (.invokevirtual 90, 3) := by decide +kernel
theorem dX2_slotOf_19 : decode cX2_slotOf 19 = .ok (.ifCond .eq 21, 3) := by decide +kernel
theorem dX2_slotOf_22 : decode cX2_slotOf 22 = .ok (.iload_n 3, 1) := by decide +kernel
theorem dX2_slotOf_23 : decode cX2_slotOf 23 = .ok (.aload_n 0, 1) := by decide +kernel
theorem dX2_slotOf_24 : decode cX2_slotOf 24 = .ok (.getfield 24, 3) := by decide +kernel
theorem dX2_slotOf_27 : decode cX2_slotOf 27 = .ok (.iload_n 2, 1) := by decide +kernel
theorem dX2_slotOf_28 : decode cX2_slotOf 28 = .ok (.iaload, 1) := by decide +kernel
theorem dX2_slotOf_29 : decode cX2_slotOf 29 = .ok (.if_icmp .ge 11, 3) := by decide +kernel
theorem dX2_slotOf_32 : decode cX2_slotOf 32 = .ok (.iload_n 2, 1) := by decide +kernel
theorem dX2_slotOf_33 : decode cX2_slotOf 33 = .ok (.iconst 3, 1) := by decide +kernel
theorem dX2_slotOf_34 : decode cX2_slotOf 34 = .ok (.imul, 1) := by decide +kernel
theorem dX2_slotOf_35 : decode cX2_slotOf 35 = .ok (.iload_n 3, 1) := by decide +kernel
theorem dX2_slotOf_36 : decode cX2_slotOf 36 = .ok (.iadd, 1) := by decide +kernel
theorem dX2_slotOf_37 : decode cX2_slotOf 37 = .ok (.goto 4, 3) := by decide +kernel
theorem dX2_slotOf_40 : decode cX2_slotOf 40 = .ok (.iconst (-1), 1) := by decide +kernel
theorem dX2_slotOf_41 : decode cX2_slotOf 41 = .ok (.ireturn, 1) := by decide +kernel
set_option maxHeartbeats 4000000 in
set_option maxRecDepth 100000 in
theorem c_X2_slotOf {l : Launch} {Y : ww_Y} {ad : Nat → Nat} {G : List ww_L} (o0 : Nat) (h0 : ww_at G o0 (ww_LShore o0)) (σ : ww_M) (p1 : Int32) : ww_Cn l Y ad G yX2_slotOf cX2_slotOf 4 (some .int) 3 [.ref (ad o0), .int p1] σ ((f_X2_slotOf σ o0 p1).bind (ww_ri σ)) := by
  refine ww_met (by decide +kernel) (Nat.le_of_ble_eq_true rfl) ?_
  intro X hC hR
  have hC : ww_C X l Y ad G 3 cX2_slotOf 4 RX2 := hC
  show ww_V X Y ad G 4 σ 0 [(0, .ref (ad o0)), (1, .int p1)] [] ((f_X2_slotOf σ o0 p1).bind (ww_ri σ))
  unfold f_X2_slotOf
  refine ww_iload_n (pc := 0) hC 1 rfl dX2_slotOf_0 rfl ?_
  refine ww_bipush (pc := 1) (v := 10) hC dX2_slotOf_1 rfl ?_
  refine ww_idiv_c (pc := 3) hC dX2_slotOf_3 (by decide) ?_
  refine ww_istore_n (pc := 4) (lv' := [(2, .int (p1 / 10)), (0, .ref (ad o0)), (1, .int p1)]) hC dX2_slotOf_4 rfl (by decide) rfl ?_
  refine ww_iload_n (pc := 5) hC 2 rfl dX2_slotOf_5 rfl ?_
  refine ww_bipush (pc := 6) (v := 10) hC dX2_slotOf_6 rfl ?_
  refine ww_irem_c (pc := 8) hC dX2_slotOf_8 (by decide) ?_
  refine ww_istore_n (pc := 9) (lv' := [(3, .int (ww_rem p1 10)), (2, .int (p1 / 10)), (0, .ref (ad o0)), (1, .int p1)]) hC dX2_slotOf_9 rfl (by decide) rfl ?_
  refine ww_iload_n (pc := 10) hC 3 rfl dX2_slotOf_10 rfl ?_
  refine ww_if_lt (pc := 11) (tgt := 40) hC dX2_slotOf_11 (by decide) ?_ ?_
  · refine ww_iconst (pc := 40) (v := (-1)) hC dX2_slotOf_40 rfl ?_
    exact ww_ireturn (pc := 41) hC hR dX2_slotOf_41 rfl
  · refine ww_aload_n (pc := 14) hC 2 rfl dX2_slotOf_14 rfl ?_
    refine ww_iload_n (pc := 15) hC 1 rfl dX2_slotOf_15 rfl ?_
    refine ww_callVi (pc := 16) (st := []) (As := [.int (p1 / 10)]) hC (c_X2_hasBeast o0 h0 σ (p1 / 10)) mm_X2_hasBeast mw_568 (h0 0 _ rfl) rfl (by omega) (by decide) (Nat.le_of_ble_eq_true rfl) rfl dX2_slotOf_16 (fun v16 => ?_)
    refine ww_if_eq (pc := 19) (tgt := 40) hC dX2_slotOf_19 (by decide) ?_ ?_
    · refine ww_iconst (pc := 40) (v := (-1)) hC dX2_slotOf_40 rfl ?_
      exact ww_ireturn (pc := 41) hC hR dX2_slotOf_41 rfl
    · refine ww_iload_n (pc := 22) hC 0 rfl dX2_slotOf_22 rfl ?_
      refine ww_aload_n (pc := 23) hC 2 rfl dX2_slotOf_23 rfl ?_
      refine ww_getr (pc := 24) (Cl := RX2) (T := TX2) (N := 17) (j := 4) (ref := RX2) hC (h0 0 _ rfl) rfl inT_X2 (by decide) mw_147 rfl rfl dX2_slotOf_24 ?_
      refine ww_iload_n (pc := 27) hC 1 rfl dX2_slotOf_27 rfl ?_
      refine ww_iald (pc := 28) hC (h0 5 _ rfl) dX2_slotOf_28 ?_
      refine ww_icmp_ge (pc := 29) (tgt := 40) hC dX2_slotOf_29 (by decide) ?_ ?_
      · refine ww_iconst (pc := 40) (v := (-1)) hC dX2_slotOf_40 rfl ?_
        exact ww_ireturn (pc := 41) hC hR dX2_slotOf_41 rfl
      · refine ww_iload_n (pc := 32) hC 1 rfl dX2_slotOf_32 rfl ?_
        refine ww_iconst (pc := 33) (v := 3) hC dX2_slotOf_33 rfl ?_
        refine ww_imul (pc := 34) hC dX2_slotOf_34 ?_
        refine ww_iload_n (pc := 35) hC 0 rfl dX2_slotOf_35 rfl ?_
        refine ww_iadd (pc := 36) hC dX2_slotOf_36 ?_
        refine ww_goto (pc := 37) (tgt := 41) hC dX2_slotOf_37 (by decide) ?_
        exact ww_ireturn (pc := 41) hC hR dX2_slotOf_41 rfl
theorem dX2_hasSlot_0 : decode cX2_hasSlot 0 = .ok (.iload_n 1, 1) := by decide +kernel
theorem dX2_hasSlot_1 : decode cX2_hasSlot 1 = .ok (.iconst 0, 1) := by decide +kernel
theorem dX2_hasSlot_2 : decode cX2_hasSlot 2 = .ok (.bipush 8, 2) := by decide +kernel
theorem dX2_hasSlot_4 : decode cX2_hasSlot 4 = .ok (.invokestatic 86, 3) := by decide +kernel
theorem dX2_hasSlot_7 : decode cX2_hasSlot 7 = .ok (.ifCond .eq 31, 3) := by decide +kernel
theorem dX2_hasSlot_10 : decode cX2_hasSlot 10 = .ok (.aload_n 0, 1) := by decide +kernel
theorem dX2_hasSlot_11 : decode cX2_hasSlot 11 = .ok (.iload_n 1, 1) := by decide +kernel
theorem dX2_hasSlot_12 : decode cX2_hasSlot 12 = .ok (.iconst 3, 1) := by decide +kernel
theorem dX2_hasSlot_13 : decode cX2_hasSlot 13 = .ok (.idiv, 1) := by decide +kernel
theorem dX2_hasSlot_14 : decode cX2_hasSlot 14 = .ok (.invokevirtual 90, 3) := by decide +kernel
theorem dX2_hasSlot_17 : decode cX2_hasSlot 17 = .ok (.ifCond .eq 21, 3) := by decide +kernel
theorem dX2_hasSlot_20 : decode cX2_hasSlot 20 = .ok (.iload_n 1, 1) := by decide +kernel
theorem dX2_hasSlot_21 : decode cX2_hasSlot 21 = .ok (.iconst 3, 1) := by decide +kernel
theorem dX2_hasSlot_22 : decode cX2_hasSlot 22 = .ok (.irem, 1) := by decide +kernel
theorem dX2_hasSlot_23 : decode cX2_hasSlot 23 = .ok (.aload_n 0, 1) := by decide +kernel
theorem dX2_hasSlot_24 : decode cX2_hasSlot 24 = .ok (.getfield 24, 3) := by decide +kernel
theorem dX2_hasSlot_27 : decode cX2_hasSlot 27 = .ok (.iload_n 1, 1) := by decide +kernel
theorem dX2_hasSlot_28 : decode cX2_hasSlot 28 = .ok (.iconst 3, 1) := by decide +kernel
theorem dX2_hasSlot_29 : decode cX2_hasSlot 29 = .ok (.idiv, 1) := by decide +kernel
theorem dX2_hasSlot_30 : decode cX2_hasSlot 30 = .ok (.iaload, 1) := by decide +kernel
theorem dX2_hasSlot_31 : decode cX2_hasSlot 31 = .ok (.if_icmp .ge 7, 3) := by decide +kernel
theorem dX2_hasSlot_34 : decode cX2_hasSlot 34 = .ok (.iconst 1, 1) := by decide +kernel
theorem dX2_hasSlot_35 : decode cX2_hasSlot 35 = .ok (.goto 4, 3) := by decide +kernel
theorem dX2_hasSlot_38 : decode cX2_hasSlot 38 = .ok (.iconst 0, 1) := by decide +kernel
theorem dX2_hasSlot_39 : decode cX2_hasSlot 39 = .ok (.ireturn, 1) := by decide +kernel
set_option maxHeartbeats 4000000 in
set_option maxRecDepth 100000 in
theorem c_X2_hasSlot {l : Launch} {Y : ww_Y} {ad : Nat → Nat} {G : List ww_L} (o0 : Nat) (h0 : ww_at G o0 (ww_LShore o0)) (σ : ww_M) (p1 : Int32) : ww_Cn l Y ad G yX2_hasSlot cX2_hasSlot 2 (some .boolean) 3 [.ref (ad o0), .int p1] σ ((f_X2_hasSlot σ o0 p1).bind (ww_ri σ)) := by
  refine ww_met (by decide +kernel) (Nat.le_of_ble_eq_true rfl) ?_
  intro X hC hR
  have hC : ww_C X l Y ad G 3 cX2_hasSlot 2 RX2 := hC
  show ww_V X Y ad G 2 σ 0 [(0, .ref (ad o0)), (1, .int p1)] [] ((f_X2_hasSlot σ o0 p1).bind (ww_ri σ))
  unfold f_X2_hasSlot
  refine ww_iload_n (pc := 0) hC 1 rfl dX2_hasSlot_0 rfl ?_
  refine ww_iconst (pc := 1) (v := 0) hC dX2_hasSlot_1 rfl ?_
  refine ww_bipush (pc := 2) (v := 8) hC dX2_hasSlot_2 rfl ?_
  refine ww_callSNi (pc := 4) (st := []) (As := [.int p1, .int 0, .int 8]) hC (c_X6_within σ p1 0 8) mm_X6_within mw_474 (by omega) (by decide) (Nat.le_of_ble_eq_true rfl) rfl dX2_hasSlot_4 (fun v4 => ?_)
  refine ww_if_eq (pc := 7) (tgt := 38) hC dX2_hasSlot_7 (by decide) ?_ ?_
  · refine ww_iconst (pc := 38) (v := 0) hC dX2_hasSlot_38 rfl ?_
    exact ww_zreturn (pc := 39) hC hR dX2_hasSlot_39 rfl rfl
  · refine ww_aload_n (pc := 10) hC 0 rfl dX2_hasSlot_10 rfl ?_
    refine ww_iload_n (pc := 11) hC 1 rfl dX2_hasSlot_11 rfl ?_
    refine ww_iconst (pc := 12) (v := 3) hC dX2_hasSlot_12 rfl ?_
    refine ww_idiv_c (pc := 13) hC dX2_hasSlot_13 (by decide) ?_
    refine ww_callVi (pc := 14) (st := []) (As := [.int (p1 / 3)]) hC (c_X2_hasBeast o0 h0 σ (p1 / 3)) mm_X2_hasBeast mw_568 (h0 0 _ rfl) rfl (by omega) (by decide) (Nat.le_of_ble_eq_true rfl) rfl dX2_hasSlot_14 (fun v14 => ?_)
    refine ww_if_eq (pc := 17) (tgt := 38) hC dX2_hasSlot_17 (by decide) ?_ ?_
    · refine ww_iconst (pc := 38) (v := 0) hC dX2_hasSlot_38 rfl ?_
      exact ww_zreturn (pc := 39) hC hR dX2_hasSlot_39 rfl rfl
    · refine ww_iload_n (pc := 20) hC 1 rfl dX2_hasSlot_20 rfl ?_
      refine ww_iconst (pc := 21) (v := 3) hC dX2_hasSlot_21 rfl ?_
      refine ww_irem_c (pc := 22) hC dX2_hasSlot_22 (by decide) ?_
      refine ww_aload_n (pc := 23) hC 0 rfl dX2_hasSlot_23 rfl ?_
      refine ww_getr (pc := 24) (Cl := RX2) (T := TX2) (N := 17) (j := 4) (ref := RX2) hC (h0 0 _ rfl) rfl inT_X2 (by decide) mw_147 rfl rfl dX2_hasSlot_24 ?_
      refine ww_iload_n (pc := 27) hC 1 rfl dX2_hasSlot_27 rfl ?_
      refine ww_iconst (pc := 28) (v := 3) hC dX2_hasSlot_28 rfl ?_
      refine ww_idiv_c (pc := 29) hC dX2_hasSlot_29 (by decide) ?_
      refine ww_iald (pc := 30) hC (h0 5 _ rfl) dX2_hasSlot_30 ?_
      refine ww_icmp_ge (pc := 31) (tgt := 38) hC dX2_hasSlot_31 (by decide) ?_ ?_
      · refine ww_iconst (pc := 38) (v := 0) hC dX2_hasSlot_38 rfl ?_
        exact ww_zreturn (pc := 39) hC hR dX2_hasSlot_39 rfl rfl
      · refine ww_iconst (pc := 34) (v := 1) hC dX2_hasSlot_34 rfl ?_
        refine ww_goto (pc := 35) (tgt := 39) hC dX2_hasSlot_35 (by decide) ?_
        exact ww_zreturn (pc := 39) hC hR dX2_hasSlot_39 rfl rfl
theorem dX2_placeOf_0 : decode cX2_placeOf 0 = .ok (.aload_n 0, 1) := by decide +kernel
theorem dX2_placeOf_1 : decode cX2_placeOf 1 = .ok (.getfield 21, 3) := by decide +kernel
theorem dX2_placeOf_4 : decode cX2_placeOf 4 = .ok (.iload_n 1, 1) := by decide +kernel
theorem dX2_placeOf_5 : decode cX2_placeOf 5 = .ok (.iconst 3, 1) := by decide +kernel
theorem dX2_placeOf_6 : decode cX2_placeOf 6 = .ok (.idiv, 1) := by decide +kernel
theorem dX2_placeOf_7 : decode cX2_placeOf 7 = .ok (.iaload, 1) := by decide +kernel
theorem dX2_placeOf_8 : decode cX2_placeOf 8 = .ok (.iload_n 1, 1) := by decide +kernel
theorem dX2_placeOf_9 : decode cX2_placeOf 9 = .ok (.iconst 3, 1) := by decide +kernel
theorem dX2_placeOf_10 : decode cX2_placeOf 10 = .ok (.irem, 1) := by decide +kernel
theorem dX2_placeOf_11 : decode cX2_placeOf 11 = .ok (.iadd, 1) := by decide +kernel
theorem dX2_placeOf_12 : decode cX2_placeOf 12 = .ok (.ireturn, 1) := by decide +kernel
set_option maxHeartbeats 4000000 in
set_option maxRecDepth 100000 in
theorem c_X2_placeOf {l : Launch} {Y : ww_Y} {ad : Nat → Nat} {G : List ww_L} (o0 : Nat) (h0 : ww_at G o0 (ww_LShore o0)) (σ : ww_M) (p1 : Int32) : ww_Cn l Y ad G yX2_placeOf cX2_placeOf 2 (some .int) 1 [.ref (ad o0), .int p1] σ ((f_X2_placeOf σ o0 p1).bind (ww_ri σ)) := by
  refine ww_met (by decide +kernel) (Nat.le_of_ble_eq_true rfl) ?_
  intro X hC hR
  have hC : ww_C X l Y ad G 1 cX2_placeOf 2 RX2 := hC
  show ww_V X Y ad G 2 σ 0 [(0, .ref (ad o0)), (1, .int p1)] [] ((f_X2_placeOf σ o0 p1).bind (ww_ri σ))
  unfold f_X2_placeOf
  refine ww_aload_n (pc := 0) hC 0 rfl dX2_placeOf_0 rfl ?_
  refine ww_getr (pc := 1) (Cl := RX2) (T := TX2) (N := 17) (j := 3) (ref := RX2) hC (h0 0 _ rfl) rfl inT_X2 (by decide) mw_144 rfl rfl dX2_placeOf_1 ?_
  refine ww_iload_n (pc := 4) hC 1 rfl dX2_placeOf_4 rfl ?_
  refine ww_iconst (pc := 5) (v := 3) hC dX2_placeOf_5 rfl ?_
  refine ww_idiv_c (pc := 6) hC dX2_placeOf_6 (by decide) ?_
  refine ww_iald (pc := 7) hC (h0 4 _ rfl) dX2_placeOf_7 ?_
  refine ww_iload_n (pc := 8) hC 1 rfl dX2_placeOf_8 rfl ?_
  refine ww_iconst (pc := 9) (v := 3) hC dX2_placeOf_9 rfl ?_
  refine ww_irem_c (pc := 10) hC dX2_placeOf_10 (by decide) ?_
  refine ww_iadd (pc := 11) hC dX2_placeOf_11 ?_
  exact ww_ireturn (pc := 12) hC hR dX2_placeOf_12 rfl
theorem dX2_isLost_0 : decode cX2_isLost 0 = .ok (.aload_n 0, 1) := by decide +kernel
theorem dX2_isLost_1 : decode cX2_isLost 1 = .ok (.getfield 61, 3) := by decide +kernel
theorem dX2_isLost_4 : decode cX2_isLost 4 = .ok (.iload_n 1, 1) := by decide +kernel
theorem dX2_isLost_5 : decode cX2_isLost 5 = .ok (.ishr, 1) := by decide +kernel
theorem dX2_isLost_6 : decode cX2_isLost 6 = .ok (.iconst 1, 1) := by decide +kernel
theorem dX2_isLost_7 : decode cX2_isLost 7 = .ok (.iand, 1) := by decide +kernel
theorem dX2_isLost_8 : decode cX2_isLost 8 = .ok (.iconst 1, 1) := by decide +kernel
theorem dX2_isLost_9 : decode cX2_isLost 9 = .ok (.if_icmp .ne 7, 3) := by decide +kernel
theorem dX2_isLost_12 : decode cX2_isLost 12 = .ok (.iconst 1, 1) := by decide +kernel
theorem dX2_isLost_13 : decode cX2_isLost 13 = .ok (.goto 4, 3) := by decide +kernel
theorem dX2_isLost_16 : decode cX2_isLost 16 = .ok (.iconst 0, 1) := by decide +kernel
theorem dX2_isLost_17 : decode cX2_isLost 17 = .ok (.ireturn, 1) := by decide +kernel
set_option maxHeartbeats 4000000 in
set_option maxRecDepth 100000 in
theorem c_X2_isLost {l : Launch} {Y : ww_Y} {ad : Nat → Nat} {G : List ww_L} (o0 : Nat) (h0 : ww_at G o0 (ww_LShore o0)) (σ : ww_M) (p1 : Int32) : ww_Cn l Y ad G yX2_isLost cX2_isLost 2 (some .boolean) 1 [.ref (ad o0), .int p1] σ ((f_X2_isLost σ o0 p1).bind (ww_ri σ)) := by
  refine ww_met (by decide +kernel) (Nat.le_of_ble_eq_true rfl) ?_
  intro X hC hR
  have hC : ww_C X l Y ad G 1 cX2_isLost 2 RX2 := hC
  show ww_V X Y ad G 2 σ 0 [(0, .ref (ad o0)), (1, .int p1)] [] ((f_X2_isLost σ o0 p1).bind (ww_ri σ))
  unfold f_X2_isLost
  refine ww_aload_n (pc := 0) hC 0 rfl dX2_isLost_0 rfl ?_
  refine ww_geti (pc := 1) (Cl := RX2) (T := TX2) (N := 17) (j := 16) (ref := RX2) hC (h0 0 _ rfl) rfl inT_X2 (by decide) mw_181 rfl rfl dX2_isLost_1 ?_
  refine ww_iload_n (pc := 4) hC 1 rfl dX2_isLost_4 rfl ?_
  refine ww_ishr (pc := 5) hC dX2_isLost_5 ?_
  refine ww_iconst (pc := 6) (v := 1) hC dX2_isLost_6 rfl ?_
  refine ww_iand (pc := 7) hC dX2_isLost_7 ?_
  refine ww_iconst (pc := 8) (v := 1) hC dX2_isLost_8 rfl ?_
  refine ww_icmp_ne (pc := 9) (tgt := 16) hC dX2_isLost_9 (by decide) ?_ ?_
  · refine ww_iconst (pc := 16) (v := 0) hC dX2_isLost_16 rfl ?_
    exact ww_zreturn (pc := 17) hC hR dX2_isLost_17 rfl rfl
  · refine ww_iconst (pc := 12) (v := 1) hC dX2_isLost_12 rfl ?_
    refine ww_goto (pc := 13) (tgt := 17) hC dX2_isLost_13 (by decide) ?_
    exact ww_zreturn (pc := 17) hC hR dX2_isLost_17 rfl rfl
theorem dX6_bodyAt_0 : decode cX6_bodyAt 0 = .ok (.iconst 1, 1) := by decide +kernel
theorem dX6_bodyAt_1 : decode cX6_bodyAt 1 = .ok (.iload_n 1, 1) := by decide +kernel
theorem dX6_bodyAt_2 : decode cX6_bodyAt 2 = .ok (.ishl, 1) := by decide +kernel
theorem dX6_bodyAt_3 : decode cX6_bodyAt 3 = .ok (.iconst 1, 1) := by decide +kernel
theorem dX6_bodyAt_4 : decode cX6_bodyAt 4 = .ok (.isub, 1) := by decide +kernel
theorem dX6_bodyAt_5 : decode cX6_bodyAt 5 = .ok (.iload_n 0, 1) := by decide +kernel
theorem dX6_bodyAt_6 : decode cX6_bodyAt 6 = .ok (.ishl, 1) := by decide +kernel
theorem dX6_bodyAt_7 : decode cX6_bodyAt 7 = .ok (.ireturn, 1) := by decide +kernel
set_option maxHeartbeats 4000000 in
set_option maxRecDepth 100000 in
theorem c_X6_bodyAt {l : Launch} {Y : ww_Y} {ad : Nat → Nat} {G : List ww_L} (σ : ww_M) (p0 : Int32) (p1 : Int32) : ww_Cn l Y ad G yX6_bodyAt cX6_bodyAt 2 (some .int) 1 [.int p0, .int p1] σ ((f_X6_bodyAt p0 p1).bind (ww_ri σ)) := by
  refine ww_met (by decide +kernel) (Nat.le_of_ble_eq_true rfl) ?_
  intro X hC hR
  have hC : ww_C X l Y ad G 1 cX6_bodyAt 2 RX6 := hC
  show ww_V X Y ad G 2 σ 0 [(0, .int p0), (1, .int p1)] [] ((f_X6_bodyAt p0 p1).bind (ww_ri σ))
  unfold f_X6_bodyAt
  refine ww_iconst (pc := 0) (v := 1) hC dX6_bodyAt_0 rfl ?_
  refine ww_iload_n (pc := 1) hC 1 rfl dX6_bodyAt_1 rfl ?_
  refine ww_ishl (pc := 2) hC dX6_bodyAt_2 ?_
  refine ww_iconst (pc := 3) (v := 1) hC dX6_bodyAt_3 rfl ?_
  refine ww_isub (pc := 4) hC dX6_bodyAt_4 ?_
  refine ww_iload_n (pc := 5) hC 0 rfl dX6_bodyAt_5 rfl ?_
  refine ww_ishl (pc := 6) hC dX6_bodyAt_6 ?_
  exact ww_ireturn (pc := 7) hC hR dX6_bodyAt_7 rfl
theorem dX2_bodyOf_0 : decode cX2_bodyOf 0 = .ok (.aload_n 0, 1) := by decide +kernel
theorem dX2_bodyOf_1 : decode cX2_bodyOf 1 = .ok (.getfield 21, 3) := by decide +kernel
theorem dX2_bodyOf_4 : decode cX2_bodyOf 4 = .ok (.iload_n 1, 1) := by decide +kernel
theorem dX2_bodyOf_5 : decode cX2_bodyOf 5 = .ok (.iaload, 1) := by decide +kernel
theorem dX2_bodyOf_6 : decode cX2_bodyOf 6 = .ok (.aload_n 0, 1) := by decide +kernel
theorem dX2_bodyOf_7 : decode cX2_bodyOf 7 = .ok (.getfield 24, 3) := by decide +kernel
theorem dX2_bodyOf_10 : decode cX2_bodyOf 10 = .ok (.iload_n 1, 1) := by decide +kernel
theorem dX2_bodyOf_11 : decode cX2_bodyOf 11 = .ok (.iaload, 1) := by decide +kernel
theorem dX2_bodyOf_12 : decode cX2_bodyOf 12 = .ok (.invokestatic 94, 3) := by decide +kernel
theorem dX2_bodyOf_15 : decode cX2_bodyOf 15 = .ok (.ireturn, 1) := by decide +kernel
set_option maxHeartbeats 4000000 in
set_option maxRecDepth 100000 in
theorem c_X2_bodyOf {l : Launch} {Y : ww_Y} {ad : Nat → Nat} {G : List ww_L} (o0 : Nat) (h0 : ww_at G o0 (ww_LShore o0)) (σ : ww_M) (p1 : Int32) : ww_Cn l Y ad G yX2_bodyOf cX2_bodyOf 2 (some .int) 2 [.ref (ad o0), .int p1] σ ((f_X2_bodyOf σ o0 p1).bind (ww_ri σ)) := by
  refine ww_met (by decide +kernel) (Nat.le_of_ble_eq_true rfl) ?_
  intro X hC hR
  have hC : ww_C X l Y ad G 2 cX2_bodyOf 2 RX2 := hC
  show ww_V X Y ad G 2 σ 0 [(0, .ref (ad o0)), (1, .int p1)] [] ((f_X2_bodyOf σ o0 p1).bind (ww_ri σ))
  unfold f_X2_bodyOf
  refine ww_aload_n (pc := 0) hC 0 rfl dX2_bodyOf_0 rfl ?_
  refine ww_getr (pc := 1) (Cl := RX2) (T := TX2) (N := 17) (j := 3) (ref := RX2) hC (h0 0 _ rfl) rfl inT_X2 (by decide) mw_144 rfl rfl dX2_bodyOf_1 ?_
  refine ww_iload_n (pc := 4) hC 1 rfl dX2_bodyOf_4 rfl ?_
  refine ww_iald (pc := 5) hC (h0 4 _ rfl) dX2_bodyOf_5 ?_
  refine ww_aload_n (pc := 6) hC 0 rfl dX2_bodyOf_6 rfl ?_
  refine ww_getr (pc := 7) (Cl := RX2) (T := TX2) (N := 17) (j := 4) (ref := RX2) hC (h0 0 _ rfl) rfl inT_X2 (by decide) mw_147 rfl rfl dX2_bodyOf_7 ?_
  refine ww_iload_n (pc := 10) hC 1 rfl dX2_bodyOf_10 rfl ?_
  refine ww_iald (pc := 11) hC (h0 5 _ rfl) dX2_bodyOf_11 ?_
  refine ww_callSNi (pc := 12) (st := []) (As := [.int (σ (o0 + 4) (ww_ix p1)), .int (σ (o0 + 5) (ww_ix p1))]) hC (c_X6_bodyAt σ (σ (o0 + 4) (ww_ix p1)) (σ (o0 + 5) (ww_ix p1))) mm_X6_bodyAt mw_491 (by omega) (by decide) (Nat.le_of_ble_eq_true rfl) rfl dX2_bodyOf_12 (fun v12 => ?_)
  exact ww_ireturn (pc := 15) hC hR dX2_bodyOf_15 rfl
theorem dX2_takenPlaces_0 : decode cX2_takenPlaces 0 = .ok (.iconst 0, 1) := by decide +kernel
theorem dX2_takenPlaces_1 : decode cX2_takenPlaces 1 = .ok (.istore_n 1, 1) := by decide +kernel
theorem dX2_takenPlaces_2 : decode cX2_takenPlaces 2 = .ok (.iconst 0, 1) := by decide +kernel
theorem dX2_takenPlaces_3 : decode cX2_takenPlaces 3 = .ok (.istore_n 2, 1) := by decide +kernel
theorem dX2_takenPlaces_4 : decode cX2_takenPlaces 4 = .ok (.iload_n 2, 1) := by decide +kernel
theorem dX2_takenPlaces_5 : decode cX2_takenPlaces 5 = .ok (.aload_n 0, 1) := by decide +kernel
theorem dX2_takenPlaces_6 : decode cX2_takenPlaces 6 = .ok (.getfield 46, 3) := by decide +kernel
theorem dX2_takenPlaces_9 : decode cX2_takenPlaces 9 = .ok (.if_icmp .ge 25, 3) := by decide +kernel
theorem dX2_takenPlaces_12 : decode cX2_takenPlaces 12 = .ok (.aload_n 0, 1) := by decide +kernel
theorem dX2_takenPlaces_13 : decode cX2_takenPlaces 13 = .ok (.iload_n 2, 1) := by decide +kernel
theorem dX2_takenPlaces_14 : decode cX2_takenPlaces 14 = .ok (.invokevirtual 97, 3) := by decide +kernel
theorem dX2_takenPlaces_17 : decode cX2_takenPlaces 17 = .ok (.ifCond .ne 11, 3) := by decide +kernel
theorem dX2_takenPlaces_20 : decode cX2_takenPlaces 20 = .ok (.iload_n 1, 1) := by decide +kernel
theorem dX2_takenPlaces_21 : decode cX2_takenPlaces 21 = .ok (.aload_n 0, 1) := by decide +kernel
theorem dX2_takenPlaces_22 : decode cX2_takenPlaces 22 = .ok (.iload_n 2, 1) := by decide +kernel
theorem dX2_takenPlaces_23 : decode cX2_takenPlaces 23 = .ok (.invokevirtual 100, 3) := by decide +kernel
theorem dX2_takenPlaces_26 : decode cX2_takenPlaces 26 = .ok (.ior, 1) := by decide +kernel
theorem dX2_takenPlaces_27 : decode cX2_takenPlaces 27 = .ok (.istore_n 1, 1) := by decide +kernel
theorem dX2_takenPlaces_28 : decode cX2_takenPlaces 28 = .ok (.iinc 2 1, 3) := by decide +kernel
theorem dX2_takenPlaces_31 : decode cX2_takenPlaces 31 = .ok (.goto (-27), 3) := by decide +kernel
theorem dX2_takenPlaces_34 : decode cX2_takenPlaces 34 = .ok (.iload_n 1, 1) := by decide +kernel
theorem dX2_takenPlaces_35 : decode cX2_takenPlaces 35 = .ok (.ireturn, 1) := by decide +kernel
set_option maxHeartbeats 4000000 in
set_option maxRecDepth 100000 in
theorem c_X2_takenPlaces {l : Launch} {Y : ww_Y} {ad : Nat → Nat} {G : List ww_L} (o0 : Nat) (h0 : ww_at G o0 (ww_LShore o0)) (σ : ww_M) : ww_Cn l Y ad G yX2_takenPlaces cX2_takenPlaces 3 (some .int) 3 [.ref (ad o0)] σ ((f_X2_takenPlaces σ o0).bind (ww_ri σ)) := by
  refine ww_met (by decide +kernel) (Nat.le_of_ble_eq_true rfl) ?_
  intro X hC hR
  have hC : ww_C X l Y ad G 3 cX2_takenPlaces 3 RX2 := hC
  show ww_V X Y ad G 3 σ 0 [(0, .ref (ad o0))] [] ((f_X2_takenPlaces σ o0).bind (ww_ri σ))
  have hJ34 : ∀ (x1 : Int32), ww_V X Y ad G 3 σ 34 [(1, .int x1)] [] ((f_X2_takenPlaces_j34 σ o0 x1).bind (ww_ri σ)) := by
    intro x1
    unfold f_X2_takenPlaces_j34
    refine ww_iload_n (pc := 34) hC 0 rfl dX2_takenPlaces_34 rfl ?_
    exact ww_ireturn (pc := 35) hC hR dX2_takenPlaces_35 rfl
  have hJ4 : ∀ (x1 : Int32) (x2 : Int32), ww_V X Y ad G 3 σ 4 [(0, .ref (ad o0)), (1, .int x1), (2, .int x2)] [] ((f_X2_takenPlaces_j4 σ o0 x1 x2).bind (ww_ri σ)) := by
    intro x1 x2
    unfold f_X2_takenPlaces_j4
    refine ww_assoc ?_
    refine ww_loop (f := f_X2_takenPlaces_b4 σ o0) (fun a4 => σ) (fun a4 => [(0, .ref (ad o0)), (1, .int a4.1), (2, .int a4.2)]) (fun b4 => σ) (fun b4 => [(1, .int b4)]) 34 (fun b4 => ?_) (fun a4 KK4 hc4 hx4 => ?_) ww_F (x1, x2)
    · exact hJ34 b4
    · unfold f_X2_takenPlaces_b4
      refine ww_iload_n (pc := 4) hC 2 rfl dX2_takenPlaces_4 rfl ?_
      refine ww_aload_n (pc := 5) hC 0 rfl dX2_takenPlaces_5 rfl ?_
      refine ww_geti (pc := 6) (Cl := RX2) (T := TX2) (N := 17) (j := 11) (ref := RX2) hC (h0 0 _ rfl) rfl inT_X2 (by decide) mw_165 rfl rfl dX2_takenPlaces_6 ?_
      refine ww_icmp_ge (pc := 9) (tgt := 34) hC dX2_takenPlaces_9 (by decide) ?_ ?_
      · refine ww_lv [1] rfl ?_
        exact hx4 a4.1
      · refine ww_aload_n (pc := 12) hC 0 rfl dX2_takenPlaces_12 rfl ?_
        refine ww_iload_n (pc := 13) hC 2 rfl dX2_takenPlaces_13 rfl ?_
        refine ww_callVi (pc := 14) (st := []) (As := [.int a4.2]) hC (c_X2_isLost o0 h0 σ a4.2) mm_X2_isLost mw_584 (h0 0 _ rfl) rfl (by omega) (by decide) (Nat.le_of_ble_eq_true rfl) rfl dX2_takenPlaces_14 (fun v14 => ?_)
        refine ww_if_ne (pc := 17) (tgt := 28) hC dX2_takenPlaces_17 (by decide) ?_ ?_
        · refine ww_iinc (pc := 28) (v := a4.2 + 1) (lv' := [(2, .int (a4.2 + 1)), (0, .ref (ad o0)), (1, .int a4.1)]) hC 2 rfl dX2_takenPlaces_28 rfl (by decide) rfl ?_
          refine ww_goto (pc := 31) (tgt := 4) hC dX2_takenPlaces_31 (by decide) ?_
          refine ww_lv [1, 2, 0] rfl ?_
          exact hc4 (a4.1, a4.2 + 1)
        · refine ww_iload_n (pc := 20) hC 1 rfl dX2_takenPlaces_20 rfl ?_
          refine ww_aload_n (pc := 21) hC 0 rfl dX2_takenPlaces_21 rfl ?_
          refine ww_iload_n (pc := 22) hC 2 rfl dX2_takenPlaces_22 rfl ?_
          refine ww_callVi (pc := 23) (st := [.int a4.1]) (As := [.int a4.2]) hC (c_X2_bodyOf o0 h0 σ a4.2) mm_X2_bodyOf mw_526 (h0 0 _ rfl) rfl (by omega) (by decide) (Nat.le_of_ble_eq_true rfl) rfl dX2_takenPlaces_23 (fun v23 => ?_)
          refine ww_ior (pc := 26) hC dX2_takenPlaces_26 ?_
          refine ww_istore_n (pc := 27) (lv' := [(1, .int (a4.1 ||| v23)), (0, .ref (ad o0)), (2, .int a4.2)]) hC dX2_takenPlaces_27 rfl (by decide) rfl ?_
          refine ww_iinc (pc := 28) (v := a4.2 + 1) (lv' := [(2, .int (a4.2 + 1)), (1, .int (a4.1 ||| v23)), (0, .ref (ad o0))]) hC 2 rfl dX2_takenPlaces_28 rfl (by decide) rfl ?_
          refine ww_goto (pc := 31) (tgt := 4) hC dX2_takenPlaces_31 (by decide) ?_
          refine ww_lv [2, 1, 0] rfl ?_
          exact hc4 (a4.1 ||| v23, a4.2 + 1)
  unfold f_X2_takenPlaces
  refine ww_iconst (pc := 0) (v := 0) hC dX2_takenPlaces_0 rfl ?_
  refine ww_istore_n (pc := 1) (lv' := [(1, .int 0), (0, .ref (ad o0))]) hC dX2_takenPlaces_1 rfl (by decide) rfl ?_
  refine ww_iconst (pc := 2) (v := 0) hC dX2_takenPlaces_2 rfl ?_
  refine ww_istore_n (pc := 3) (lv' := [(2, .int 0), (1, .int 0), (0, .ref (ad o0))]) hC dX2_takenPlaces_3 rfl (by decide) rfl ?_
  refine ww_lv [2, 1, 0] rfl ?_
  exact hJ4 0 0
theorem dJ9_floorMod_7cf53_0 : decode cJ9_floorMod_7cf53 0 = .ok (.iload_n 0, 1) := by decide +kernel
theorem dJ9_floorMod_7cf53_1 : decode cJ9_floorMod_7cf53 1 = .ok (.iload_n 1, 1) := by decide +kernel
theorem dJ9_floorMod_7cf53_2 : decode cJ9_floorMod_7cf53 2 = .ok (.irem, 1) := by decide +kernel
theorem dJ9_floorMod_7cf53_3 : decode cJ9_floorMod_7cf53 3 = .ok (.istore_n 2, 1) := by decide +kernel
theorem dJ9_floorMod_7cf53_4 : decode cJ9_floorMod_7cf53 4 = .ok (.iload_n 0, 1) := by decide +kernel
theorem dJ9_floorMod_7cf53_5 : decode cJ9_floorMod_7cf53 5 = .ok (.iload_n 1, 1) := by decide +kernel
theorem dJ9_floorMod_7cf53_6 : decode cJ9_floorMod_7cf53 6 = .ok (.ixor, 1) := by decide +kernel
theorem dJ9_floorMod_7cf53_7 : decode cJ9_floorMod_7cf53 7 = .ok (.ifCond .ge 11, 3) := by decide +kernel
theorem dJ9_floorMod_7cf53_10 : decode cJ9_floorMod_7cf53 10 = .ok (.iload_n 2, 1) := by decide +kernel
theorem dJ9_floorMod_7cf53_11 : decode cJ9_floorMod_7cf53 11 = .ok (.ifCond .eq 7, 3) := by decide +kernel
theorem dJ9_floorMod_7cf53_14 : decode cJ9_floorMod_7cf53 14 = .ok (.iload_n 2, 1) := by decide +kernel
theorem dJ9_floorMod_7cf53_15 : decode cJ9_floorMod_7cf53 15 = .ok (.iload_n 1, 1) := by decide +kernel
theorem dJ9_floorMod_7cf53_16 : decode cJ9_floorMod_7cf53 16 = .ok (.iadd, 1) := by decide +kernel
theorem dJ9_floorMod_7cf53_17 : decode cJ9_floorMod_7cf53 17 = .ok (.ireturn, 1) := by decide +kernel
theorem dJ9_floorMod_7cf53_18 : decode cJ9_floorMod_7cf53 18 = .ok (.iload_n 2, 1) := by decide +kernel
theorem dJ9_floorMod_7cf53_19 : decode cJ9_floorMod_7cf53 19 = .ok (.ireturn, 1) := by decide +kernel
set_option maxHeartbeats 4000000 in
set_option maxRecDepth 100000 in
theorem c_J9_floorMod_7cf53 {l : Launch} {Y : ww_Y} {ad : Nat → Nat} {G : List ww_L} (σ : ww_M) (p0 : Int32) (p1 : Int32) : ww_Cn l Y ad G yJ9_floorMod_7cf53 cJ9_floorMod_7cf53 3 (some .int) 1 [.int p0, .int p1] σ ((f_J9_floorMod_7cf53 p0 p1).bind (ww_ri σ)) := by
  refine ww_met (by decide +kernel) (Nat.le_of_ble_eq_true rfl) ?_
  intro X hC hR
  have hC : ww_C X l Y ad G 1 cJ9_floorMod_7cf53 3 RJ9 := hC
  show ww_V X Y ad G 3 σ 0 [(0, .int p0), (1, .int p1)] [] ((f_J9_floorMod_7cf53 p0 p1).bind (ww_ri σ))
  unfold f_J9_floorMod_7cf53
  refine ww_iload_n (pc := 0) hC 0 rfl dJ9_floorMod_7cf53_0 rfl ?_
  refine ww_iload_n (pc := 1) hC 1 rfl dJ9_floorMod_7cf53_1 rfl ?_
  refine ww_irem (pc := 2) hC dJ9_floorMod_7cf53_2 ?_
  refine ww_istore_n (pc := 3) (lv' := [(2, .int (ww_rem p0 p1)), (0, .int p0), (1, .int p1)]) hC dJ9_floorMod_7cf53_3 rfl (by decide) rfl ?_
  refine ww_iload_n (pc := 4) hC 1 rfl dJ9_floorMod_7cf53_4 rfl ?_
  refine ww_iload_n (pc := 5) hC 2 rfl dJ9_floorMod_7cf53_5 rfl ?_
  refine ww_ixor (pc := 6) hC dJ9_floorMod_7cf53_6 ?_
  refine ww_if_ge (pc := 7) (tgt := 18) hC dJ9_floorMod_7cf53_7 (by decide) ?_ ?_
  · refine ww_iload_n (pc := 18) hC 0 rfl dJ9_floorMod_7cf53_18 rfl ?_
    exact ww_ireturn (pc := 19) hC hR dJ9_floorMod_7cf53_19 rfl
  · refine ww_iload_n (pc := 10) hC 0 rfl dJ9_floorMod_7cf53_10 rfl ?_
    refine ww_if_eq (pc := 11) (tgt := 18) hC dJ9_floorMod_7cf53_11 (by decide) ?_ ?_
    · refine ww_iload_n (pc := 18) hC 0 rfl dJ9_floorMod_7cf53_18 rfl ?_
      exact ww_ireturn (pc := 19) hC hR dJ9_floorMod_7cf53_19 rfl
    · refine ww_iload_n (pc := 14) hC 0 rfl dJ9_floorMod_7cf53_14 rfl ?_
      refine ww_iload_n (pc := 15) hC 2 rfl dJ9_floorMod_7cf53_15 rfl ?_
      refine ww_iadd (pc := 16) hC dJ9_floorMod_7cf53_16 ?_
      exact ww_ireturn (pc := 17) hC hR dJ9_floorMod_7cf53_17 rfl
theorem dX2_levelIn_0 : decode cX2_levelIn 0 = .ok (.aload_n 0, 1) := by decide +kernel
theorem dX2_levelIn_1 : decode cX2_levelIn 1 = .ok (.getfield 43, 3) := by decide +kernel
theorem dX2_levelIn_4 : decode cX2_levelIn 4 = .ok (.iconst 1, 1) := by decide +kernel
theorem dX2_levelIn_5 : decode cX2_levelIn 5 = .ok (.if_icmp .lt 12, 3) := by decide +kernel
theorem dX2_levelIn_8 : decode cX2_levelIn 8 = .ok (.aload_n 0, 1) := by decide +kernel
theorem dX2_levelIn_9 : decode cX2_levelIn 9 = .ok (.getfield 43, 3) := by decide +kernel
theorem dX2_levelIn_12 : decode cX2_levelIn 12 = .ok (.bipush 6, 2) := by decide +kernel
theorem dX2_levelIn_14 : decode cX2_levelIn 14 = .ok (.if_icmp .le 7, 3) := by decide +kernel
theorem dX2_levelIn_17 : decode cX2_levelIn 17 = .ok (.iconst 0, 1) := by decide +kernel
theorem dX2_levelIn_18 : decode cX2_levelIn 18 = .ok (.goto 16, 3) := by decide +kernel
theorem dX2_levelIn_21 : decode cX2_levelIn 21 = .ok (.aload_n 0, 1) := by decide +kernel
theorem dX2_levelIn_22 : decode cX2_levelIn 22 = .ok (.getfield 18, 3) := by decide +kernel
theorem dX2_levelIn_25 : decode cX2_levelIn 25 = .ok (.iload_n 1, 1) := by decide +kernel
theorem dX2_levelIn_26 : decode cX2_levelIn 26 = .ok (.aload_n 0, 1) := by decide +kernel
theorem dX2_levelIn_27 : decode cX2_levelIn 27 = .ok (.getfield 43, 3) := by decide +kernel
theorem dX2_levelIn_30 : decode cX2_levelIn 30 = .ok (.invokestatic 104, 3) := by decide +kernel
theorem dX2_levelIn_33 : decode cX2_levelIn 33 = .ok (.iaload, 1) := by decide +kernel
theorem dX2_levelIn_34 : decode cX2_levelIn 34 = .ok (.ireturn, 1) := by decide +kernel
set_option maxHeartbeats 4000000 in
set_option maxRecDepth 100000 in
theorem c_X2_levelIn {l : Launch} {Y : ww_Y} {ad : Nat → Nat} {G : List ww_L} (o0 : Nat) (h0 : ww_at G o0 (ww_LShore o0)) (σ : ww_M) (p1 : Int32) : ww_Cn l Y ad G yX2_levelIn cX2_levelIn 2 (some .int) 2 [.ref (ad o0), .int p1] σ ((f_X2_levelIn σ o0 p1).bind (ww_ri σ)) := by
  refine ww_met (by decide +kernel) (Nat.le_of_ble_eq_true rfl) ?_
  intro X hC hR
  have hC : ww_C X l Y ad G 2 cX2_levelIn 2 RX2 := hC
  show ww_V X Y ad G 2 σ 0 [(0, .ref (ad o0)), (1, .int p1)] [] ((f_X2_levelIn σ o0 p1).bind (ww_ri σ))
  unfold f_X2_levelIn
  refine ww_aload_n (pc := 0) hC 0 rfl dX2_levelIn_0 rfl ?_
  refine ww_geti (pc := 1) (Cl := RX2) (T := TX2) (N := 17) (j := 10) (ref := RX2) hC (h0 0 _ rfl) rfl inT_X2 (by decide) mw_162 rfl rfl dX2_levelIn_1 ?_
  refine ww_iconst (pc := 4) (v := 1) hC dX2_levelIn_4 rfl ?_
  refine ww_icmp_lt (pc := 5) (tgt := 17) hC dX2_levelIn_5 (by decide) ?_ ?_
  · refine ww_iconst (pc := 17) (v := 0) hC dX2_levelIn_17 rfl ?_
    refine ww_goto (pc := 18) (tgt := 34) hC dX2_levelIn_18 (by decide) ?_
    exact ww_ireturn (pc := 34) hC hR dX2_levelIn_34 rfl
  · refine ww_aload_n (pc := 8) hC 0 rfl dX2_levelIn_8 rfl ?_
    refine ww_geti (pc := 9) (Cl := RX2) (T := TX2) (N := 17) (j := 10) (ref := RX2) hC (h0 0 _ rfl) rfl inT_X2 (by decide) mw_162 rfl rfl dX2_levelIn_9 ?_
    refine ww_bipush (pc := 12) (v := 6) hC dX2_levelIn_12 rfl ?_
    refine ww_icmp_le (pc := 14) (tgt := 21) hC dX2_levelIn_14 (by decide) ?_ ?_
    · refine ww_aload_n (pc := 21) hC 0 rfl dX2_levelIn_21 rfl ?_
      refine ww_getr (pc := 22) (Cl := RX2) (T := TX2) (N := 17) (j := 2) (ref := RX2) hC (h0 0 _ rfl) rfl inT_X2 (by decide) mw_143 rfl rfl dX2_levelIn_22 ?_
      refine ww_iload_n (pc := 25) hC 1 rfl dX2_levelIn_25 rfl ?_
      refine ww_aload_n (pc := 26) hC 0 rfl dX2_levelIn_26 rfl ?_
      refine ww_geti (pc := 27) (Cl := RX2) (T := TX2) (N := 17) (j := 10) (ref := RX2) hC (h0 0 _ rfl) rfl inT_X2 (by decide) mw_162 rfl rfl dX2_levelIn_27 ?_
      refine ww_callSi (pc := 30) (st := [.ref (ad (o0 + 3))]) (As := [.int p1, .int (σ o0 10)]) hC (c_J9_floorMod_7cf53 σ p1 (σ o0 10)) mm_J9_floorMod_7cf53 mw_523 (by omega) (by decide) (Nat.le_of_ble_eq_true rfl) rfl dX2_levelIn_30 (fun v30 => ?_)
      refine ww_iald (pc := 33) hC (h0 3 _ rfl) dX2_levelIn_33 ?_
      exact ww_ireturn (pc := 34) hC hR dX2_levelIn_34 rfl
    · refine ww_iconst (pc := 17) (v := 0) hC dX2_levelIn_17 rfl ?_
      refine ww_goto (pc := 18) (tgt := 34) hC dX2_levelIn_18 (by decide) ?_
      exact ww_ireturn (pc := 34) hC hR dX2_levelIn_34 rfl
theorem dX2_wetPlaces_0 : decode cX2_wetPlaces 0 = .ok (.aload_n 0, 1) := by decide +kernel
theorem dX2_wetPlaces_1 : decode cX2_wetPlaces 1 = .ok (.iload_n 1, 1) := by decide +kernel
theorem dX2_wetPlaces_2 : decode cX2_wetPlaces 2 = .ok (.invokevirtual 107, 3) := by decide +kernel
theorem dX2_wetPlaces_5 : decode cX2_wetPlaces 5 = .ok (.istore_n 2, 1) := by decide +kernel
theorem dX2_wetPlaces_6 : decode cX2_wetPlaces 6 = .ok (.iconst 0, 1) := by decide +kernel
theorem dX2_wetPlaces_7 : decode cX2_wetPlaces 7 = .ok (.istore_n 3, 1) := by decide +kernel
theorem dX2_wetPlaces_8 : decode cX2_wetPlaces 8 = .ok (.iconst 0, 1) := by decide +kernel
theorem dX2_wetPlaces_9 : decode cX2_wetPlaces 9 = .ok (.istore 4, 2) := by decide +kernel
theorem dX2_wetPlaces_11 : decode cX2_wetPlaces 11 = .ok (.iload 4, 2) := by decide +kernel
theorem dX2_wetPlaces_13 : decode cX2_wetPlaces 13 = .ok (.aload_n 0, 1) := by decide +kernel
theorem dX2_wetPlaces_14 : decode cX2_wetPlaces 14 = .ok (.getfield 39, 3) := by decide +kernel
theorem dX2_wetPlaces_17 : decode cX2_wetPlaces 17 = .ok (.if_icmp .ge 27, 3) := by decide +kernel
theorem dX2_wetPlaces_20 : decode cX2_wetPlaces 20 = .ok (.iload_n 2, 1) := by decide +kernel
theorem dX2_wetPlaces_21 : decode cX2_wetPlaces 21 = .ok (.aload_n 0, 1) := by decide +kernel
theorem dX2_wetPlaces_22 : decode cX2_wetPlaces 22 = .ok (.getfield 15, 3) := by decide +kernel
theorem dX2_wetPlaces_25 : decode cX2_wetPlaces 25 = .ok (.iload 4, 2) := by decide +kernel
theorem dX2_wetPlaces_27 : decode cX2_wetPlaces 27 = .ok (.iaload, 1) := by decide +kernel
theorem dX2_wetPlaces_28 : decode cX2_wetPlaces 28 = .ok (.if_icmp .le 10, 3) := by decide +kernel
theorem dX2_wetPlaces_31 : decode cX2_wetPlaces 31 = .ok (.iload_n 3, 1) := by decide +kernel
theorem dX2_wetPlaces_32 : decode cX2_wetPlaces 32 = .ok (.iconst 1, 1) := by decide +kernel
theorem dX2_wetPlaces_33 : decode cX2_wetPlaces 33 = .ok (.iload 4, 2) := by decide +kernel
theorem dX2_wetPlaces_35 : decode cX2_wetPlaces 35 = .ok (.ishl, 1) := by decide +kernel
theorem dX2_wetPlaces_36 : decode cX2_wetPlaces 36 = .ok (.ior, 1) := by decide +kernel
theorem dX2_wetPlaces_37 : decode cX2_wetPlaces 37 = .ok (.istore_n 3, 1) := by decide +kernel
theorem dX2_wetPlaces_38 : decode cX2_wetPlaces 38 = .ok (.iinc 4 1, 3) := by decide +kernel
theorem dX2_wetPlaces_41 : decode cX2_wetPlaces 41 = .ok (.goto (-30), 3) := by decide +kernel
theorem dX2_wetPlaces_44 : decode cX2_wetPlaces 44 = .ok (.iload_n 3, 1) := by decide +kernel
theorem dX2_wetPlaces_45 : decode cX2_wetPlaces 45 = .ok (.ireturn, 1) := by decide +kernel
set_option maxHeartbeats 4000000 in
set_option maxRecDepth 100000 in
theorem c_X2_wetPlaces {l : Launch} {Y : ww_Y} {ad : Nat → Nat} {G : List ww_L} (o0 : Nat) (h0 : ww_at G o0 (ww_LShore o0)) (σ : ww_M) (p1 : Int32) : ww_Cn l Y ad G yX2_wetPlaces cX2_wetPlaces 5 (some .int) 3 [.ref (ad o0), .int p1] σ ((f_X2_wetPlaces σ o0 p1).bind (ww_ri σ)) := by
  refine ww_met (by decide +kernel) (Nat.le_of_ble_eq_true rfl) ?_
  intro X hC hR
  have hC : ww_C X l Y ad G 3 cX2_wetPlaces 5 RX2 := hC
  show ww_V X Y ad G 5 σ 0 [(0, .ref (ad o0)), (1, .int p1)] [] ((f_X2_wetPlaces σ o0 p1).bind (ww_ri σ))
  have hJ44 : ∀ (x3 : Int32), ww_V X Y ad G 5 σ 44 [(3, .int x3)] [] ((f_X2_wetPlaces_j44 σ o0 p1 x3).bind (ww_ri σ)) := by
    intro x3
    unfold f_X2_wetPlaces_j44
    refine ww_iload_n (pc := 44) hC 0 rfl dX2_wetPlaces_44 rfl ?_
    exact ww_ireturn (pc := 45) hC hR dX2_wetPlaces_45 rfl
  have hJ11 : ∀ (x2 : Int32) (x3 : Int32) (x4 : Int32), ww_V X Y ad G 5 σ 11 [(0, .ref (ad o0)), (2, .int x2), (3, .int x3), (4, .int x4)] [] ((f_X2_wetPlaces_j11 σ o0 p1 x2 x3 x4).bind (ww_ri σ)) := by
    intro x2 x3 x4
    unfold f_X2_wetPlaces_j11
    refine ww_assoc ?_
    refine ww_loop (f := f_X2_wetPlaces_b11 σ o0 p1 x2) (fun a11 => σ) (fun a11 => [(0, .ref (ad o0)), (2, .int x2), (3, .int a11.1), (4, .int a11.2)]) (fun b11 => σ) (fun b11 => [(3, .int b11)]) 44 (fun b11 => ?_) (fun a11 KK11 hc11 hx11 => ?_) ww_F (x3, x4)
    · exact hJ44 b11
    · unfold f_X2_wetPlaces_b11
      refine ww_iload (pc := 11) hC 3 rfl dX2_wetPlaces_11 ?_
      refine ww_aload_n (pc := 13) hC 0 rfl dX2_wetPlaces_13 rfl ?_
      refine ww_geti (pc := 14) (Cl := RX2) (T := TX2) (N := 17) (j := 9) (ref := RX2) hC (h0 0 _ rfl) rfl inT_X2 (by decide) mw_159 rfl rfl dX2_wetPlaces_14 ?_
      refine ww_icmp_ge (pc := 17) (tgt := 44) hC dX2_wetPlaces_17 (by decide) ?_ ?_
      · refine ww_lv [2] rfl ?_
        exact hx11 a11.1
      · refine ww_iload_n (pc := 20) hC 1 rfl dX2_wetPlaces_20 rfl ?_
        refine ww_aload_n (pc := 21) hC 0 rfl dX2_wetPlaces_21 rfl ?_
        refine ww_getr (pc := 22) (Cl := RX2) (T := TX2) (N := 17) (j := 1) (ref := RX2) hC (h0 0 _ rfl) rfl inT_X2 (by decide) mw_141 rfl rfl dX2_wetPlaces_22 ?_
        refine ww_iload (pc := 25) hC 3 rfl dX2_wetPlaces_25 ?_
        refine ww_iald (pc := 27) hC (h0 2 _ rfl) dX2_wetPlaces_27 ?_
        refine ww_icmp_le (pc := 28) (tgt := 38) hC dX2_wetPlaces_28 (by decide) ?_ ?_
        · refine ww_iinc (pc := 38) (v := a11.2 + 1) (lv' := [(4, .int (a11.2 + 1)), (0, .ref (ad o0)), (2, .int x2), (3, .int a11.1)]) hC 3 rfl dX2_wetPlaces_38 rfl (by decide) rfl ?_
          refine ww_goto (pc := 41) (tgt := 11) hC dX2_wetPlaces_41 (by decide) ?_
          refine ww_lv [1, 2, 3, 0] rfl ?_
          exact hc11 (a11.1, a11.2 + 1)
        · refine ww_iload_n (pc := 31) hC 2 rfl dX2_wetPlaces_31 rfl ?_
          refine ww_iconst (pc := 32) (v := 1) hC dX2_wetPlaces_32 rfl ?_
          refine ww_iload (pc := 33) hC 3 rfl dX2_wetPlaces_33 ?_
          refine ww_ishl (pc := 35) hC dX2_wetPlaces_35 ?_
          refine ww_ior (pc := 36) hC dX2_wetPlaces_36 ?_
          refine ww_istore_n (pc := 37) (lv' := [(3, .int (a11.1 ||| (ww_shl 1 a11.2))), (0, .ref (ad o0)), (2, .int x2), (4, .int a11.2)]) hC dX2_wetPlaces_37 rfl (by decide) rfl ?_
          refine ww_iinc (pc := 38) (v := a11.2 + 1) (lv' := [(4, .int (a11.2 + 1)), (3, .int (a11.1 ||| (ww_shl 1 a11.2))), (0, .ref (ad o0)), (2, .int x2)]) hC 3 rfl dX2_wetPlaces_38 rfl (by decide) rfl ?_
          refine ww_goto (pc := 41) (tgt := 11) hC dX2_wetPlaces_41 (by decide) ?_
          refine ww_lv [2, 3, 1, 0] rfl ?_
          exact hc11 (a11.1 ||| (ww_shl 1 a11.2), a11.2 + 1)
  unfold f_X2_wetPlaces
  refine ww_aload_n (pc := 0) hC 0 rfl dX2_wetPlaces_0 rfl ?_
  refine ww_iload_n (pc := 1) hC 1 rfl dX2_wetPlaces_1 rfl ?_
  refine ww_callVi (pc := 2) (st := []) (As := [.int p1]) hC (c_X2_levelIn o0 h0 σ p1) mm_X2_levelIn mw_519 (h0 0 _ rfl) rfl (by omega) (by decide) (Nat.le_of_ble_eq_true rfl) rfl dX2_wetPlaces_2 (fun v2 => ?_)
  refine ww_istore_n (pc := 5) (lv' := [(2, .int v2), (0, .ref (ad o0)), (1, .int p1)]) hC dX2_wetPlaces_5 rfl (by decide) rfl ?_
  refine ww_iconst (pc := 6) (v := 0) hC dX2_wetPlaces_6 rfl ?_
  refine ww_istore_n (pc := 7) (lv' := [(3, .int 0), (2, .int v2), (0, .ref (ad o0)), (1, .int p1)]) hC dX2_wetPlaces_7 rfl (by decide) rfl ?_
  refine ww_iconst (pc := 8) (v := 0) hC dX2_wetPlaces_8 rfl ?_
  refine ww_istore (pc := 9) (lv' := [(4, .int 0), (3, .int 0), (2, .int v2), (0, .ref (ad o0)), (1, .int p1)]) hC dX2_wetPlaces_9 (by decide) rfl ?_
  refine ww_lv [3, 2, 1, 0] rfl ?_
  exact hJ11 v2 0 0
theorem dX2_floatingBeasts_0 : decode cX2_floatingBeasts 0 = .ok (.aload_n 0, 1) := by decide +kernel
theorem dX2_floatingBeasts_1 : decode cX2_floatingBeasts 1 = .ok (.iload_n 1, 1) := by decide +kernel
theorem dX2_floatingBeasts_2 : decode cX2_floatingBeasts 2 = .ok (.invokevirtual 110, 3) := by decide +kernel
theorem dX2_floatingBeasts_5 : decode cX2_floatingBeasts 5 = .ok (.istore_n 2, 1) := by decide +kernel
theorem dX2_floatingBeasts_6 : decode cX2_floatingBeasts 6 = .ok (.iconst 0, 1) := by decide +kernel
theorem dX2_floatingBeasts_7 : decode cX2_floatingBeasts 7 = .ok (.istore_n 3, 1) := by decide +kernel
theorem dX2_floatingBeasts_8 : decode cX2_floatingBeasts 8 = .ok (.iconst 0, 1) := by decide +kernel
theorem dX2_floatingBeasts_9 : decode cX2_floatingBeasts 9 = .ok (.istore 4, 2) := by decide +kernel
theorem dX2_floatingBeasts_11 : decode cX2_floatingBeasts 11 = .ok (.iload 4, 2) := by decide +kernel
theorem dX2_floatingBeasts_13 : decode cX2_floatingBeasts 13 = .ok (.aload_n 0, 1) := by decide +kernel
theorem dX2_floatingBeasts_14 : decode cX2_floatingBeasts 14 = .ok (.getfield 46, 3) := by decide +kernel
theorem dX2_floatingBeasts_17 : decode cX2_floatingBeasts 17 = .ok (.if_icmp .ge 33, 3) := by decide +kernel
theorem dX2_floatingBeasts_20 : decode cX2_floatingBeasts 20 = .ok (.aload_n 0, 1) := by decide +kernel
theorem dX2_floatingBeasts_21 : decode cX2_floatingBeasts 21 = .ok (.iload 4, 2) := by decide +kernel
theorem dX2_floatingBeasts_23 : decode cX2_floatingBeasts 23 = .ok (.invokevirtual 100, 3) := by decide +kernel
theorem dX2_floatingBeasts_26 : decode cX2_floatingBeasts 26 = .ok (.istore 5, 2) := by decide +kernel
theorem dX2_floatingBeasts_28 : decode cX2_floatingBeasts 28 = .ok (.iload_n 2, 1) := by decide +kernel
theorem dX2_floatingBeasts_29 : decode cX2_floatingBeasts 29 = .ok (.iload 5, 2) := by decide +kernel
theorem dX2_floatingBeasts_31 : decode cX2_floatingBeasts 31 = .ok (.iand, 1) := by decide +kernel
theorem dX2_floatingBeasts_32 : decode cX2_floatingBeasts 32 = .ok (.iload 5, 2) := by decide +kernel
theorem dX2_floatingBeasts_34 : decode cX2_floatingBeasts 34 = .ok (.if_icmp .ne 10, 3) := by decide +kernel
theorem dX2_floatingBeasts_37 : decode cX2_floatingBeasts 37 = .ok (.iload_n 3, 1) := by decide +kernel
theorem dX2_floatingBeasts_38 : decode cX2_floatingBeasts 38 = .ok (.iconst 1, 1) := by decide +kernel
theorem dX2_floatingBeasts_39 : decode cX2_floatingBeasts 39 = .ok (.iload 4, 2) := by decide +kernel
theorem dX2_floatingBeasts_41 : decode cX2_floatingBeasts 41 = .ok (.ishl, 1) := by decide +kernel
theorem dX2_floatingBeasts_42 : decode cX2_floatingBeasts 42 = .ok (.ior, 1) := by decide +kernel
theorem dX2_floatingBeasts_43 : decode cX2_floatingBeasts 43 = .ok (.istore_n 3, 1) := by decide +kernel
theorem dX2_floatingBeasts_44 : decode cX2_floatingBeasts 44 = .ok (.iinc 4 1, 3) := by decide +kernel
theorem dX2_floatingBeasts_47 : decode cX2_floatingBeasts 47 = .ok (.goto (-36), 3) := by decide +kernel
theorem dX2_floatingBeasts_50 : decode cX2_floatingBeasts 50 = .ok (.iload_n 3, 1) := by decide +kernel
theorem dX2_floatingBeasts_51 : decode cX2_floatingBeasts 51 = .ok (.ireturn, 1) := by decide +kernel
set_option maxHeartbeats 4000000 in
set_option maxRecDepth 100000 in
theorem c_X2_floatingBeasts {l : Launch} {Y : ww_Y} {ad : Nat → Nat} {G : List ww_L} (o0 : Nat) (h0 : ww_at G o0 (ww_LShore o0)) (σ : ww_M) (p1 : Int32) : ww_Cn l Y ad G yX2_floatingBeasts cX2_floatingBeasts 6 (some .int) 4 [.ref (ad o0), .int p1] σ ((f_X2_floatingBeasts σ o0 p1).bind (ww_ri σ)) := by
  refine ww_met (by decide +kernel) (Nat.le_of_ble_eq_true rfl) ?_
  intro X hC hR
  have hC : ww_C X l Y ad G 4 cX2_floatingBeasts 6 RX2 := hC
  show ww_V X Y ad G 6 σ 0 [(0, .ref (ad o0)), (1, .int p1)] [] ((f_X2_floatingBeasts σ o0 p1).bind (ww_ri σ))
  have hJ50 : ∀ (x3 : Int32), ww_V X Y ad G 6 σ 50 [(3, .int x3)] [] ((f_X2_floatingBeasts_j50 σ o0 p1 x3).bind (ww_ri σ)) := by
    intro x3
    unfold f_X2_floatingBeasts_j50
    refine ww_iload_n (pc := 50) hC 0 rfl dX2_floatingBeasts_50 rfl ?_
    exact ww_ireturn (pc := 51) hC hR dX2_floatingBeasts_51 rfl
  have hJ11 : ∀ (x2 : Int32) (x3 : Int32) (x4 : Int32), ww_V X Y ad G 6 σ 11 [(0, .ref (ad o0)), (2, .int x2), (3, .int x3), (4, .int x4)] [] ((f_X2_floatingBeasts_j11 σ o0 p1 x2 x3 x4).bind (ww_ri σ)) := by
    intro x2 x3 x4
    unfold f_X2_floatingBeasts_j11
    refine ww_assoc ?_
    refine ww_loop (f := f_X2_floatingBeasts_b11 σ o0 p1 x2) (fun a11 => σ) (fun a11 => [(0, .ref (ad o0)), (2, .int x2), (3, .int a11.1), (4, .int a11.2)]) (fun b11 => σ) (fun b11 => [(3, .int b11)]) 50 (fun b11 => ?_) (fun a11 KK11 hc11 hx11 => ?_) ww_F (x3, x4)
    · exact hJ50 b11
    · unfold f_X2_floatingBeasts_b11
      refine ww_iload (pc := 11) hC 3 rfl dX2_floatingBeasts_11 ?_
      refine ww_aload_n (pc := 13) hC 0 rfl dX2_floatingBeasts_13 rfl ?_
      refine ww_geti (pc := 14) (Cl := RX2) (T := TX2) (N := 17) (j := 11) (ref := RX2) hC (h0 0 _ rfl) rfl inT_X2 (by decide) mw_165 rfl rfl dX2_floatingBeasts_14 ?_
      refine ww_icmp_ge (pc := 17) (tgt := 50) hC dX2_floatingBeasts_17 (by decide) ?_ ?_
      · refine ww_lv [2] rfl ?_
        exact hx11 a11.1
      · refine ww_aload_n (pc := 20) hC 0 rfl dX2_floatingBeasts_20 rfl ?_
        refine ww_iload (pc := 21) hC 3 rfl dX2_floatingBeasts_21 ?_
        refine ww_callVi (pc := 23) (st := []) (As := [.int a11.2]) hC (c_X2_bodyOf o0 h0 σ a11.2) mm_X2_bodyOf mw_526 (h0 0 _ rfl) rfl (by omega) (by decide) (Nat.le_of_ble_eq_true rfl) rfl dX2_floatingBeasts_23 (fun v23 => ?_)
        refine ww_istore (pc := 26) (lv' := [(5, .int v23), (0, .ref (ad o0)), (2, .int x2), (3, .int a11.1), (4, .int a11.2)]) hC dX2_floatingBeasts_26 (by decide) rfl ?_
        refine ww_iload_n (pc := 28) hC 2 rfl dX2_floatingBeasts_28 rfl ?_
        refine ww_iload (pc := 29) hC 0 rfl dX2_floatingBeasts_29 ?_
        refine ww_iand (pc := 31) hC dX2_floatingBeasts_31 ?_
        refine ww_iload (pc := 32) hC 0 rfl dX2_floatingBeasts_32 ?_
        refine ww_icmp_ne (pc := 34) (tgt := 44) hC dX2_floatingBeasts_34 (by decide) ?_ ?_
        · refine ww_iinc (pc := 44) (v := a11.2 + 1) (lv' := [(4, .int (a11.2 + 1)), (5, .int v23), (0, .ref (ad o0)), (2, .int x2), (3, .int a11.1)]) hC 4 rfl dX2_floatingBeasts_44 rfl (by decide) rfl ?_
          refine ww_goto (pc := 47) (tgt := 11) hC dX2_floatingBeasts_47 (by decide) ?_
          refine ww_lv [2, 3, 4, 0] rfl ?_
          exact hc11 (a11.1, a11.2 + 1)
        · refine ww_iload_n (pc := 37) hC 3 rfl dX2_floatingBeasts_37 rfl ?_
          refine ww_iconst (pc := 38) (v := 1) hC dX2_floatingBeasts_38 rfl ?_
          refine ww_iload (pc := 39) hC 4 rfl dX2_floatingBeasts_39 ?_
          refine ww_ishl (pc := 41) hC dX2_floatingBeasts_41 ?_
          refine ww_ior (pc := 42) hC dX2_floatingBeasts_42 ?_
          refine ww_istore_n (pc := 43) (lv' := [(3, .int (a11.1 ||| (ww_shl 1 a11.2))), (5, .int v23), (0, .ref (ad o0)), (2, .int x2), (4, .int a11.2)]) hC dX2_floatingBeasts_43 rfl (by decide) rfl ?_
          refine ww_iinc (pc := 44) (v := a11.2 + 1) (lv' := [(4, .int (a11.2 + 1)), (3, .int (a11.1 ||| (ww_shl 1 a11.2))), (5, .int v23), (0, .ref (ad o0)), (2, .int x2)]) hC 4 rfl dX2_floatingBeasts_44 rfl (by decide) rfl ?_
          refine ww_goto (pc := 47) (tgt := 11) hC dX2_floatingBeasts_47 (by decide) ?_
          refine ww_lv [3, 4, 1, 0] rfl ?_
          exact hc11 (a11.1 ||| (ww_shl 1 a11.2), a11.2 + 1)
  unfold f_X2_floatingBeasts
  refine ww_aload_n (pc := 0) hC 0 rfl dX2_floatingBeasts_0 rfl ?_
  refine ww_iload_n (pc := 1) hC 1 rfl dX2_floatingBeasts_1 rfl ?_
  refine ww_callVi (pc := 2) (st := []) (As := [.int p1]) hC (c_X2_wetPlaces o0 h0 σ p1) mm_X2_wetPlaces mw_515 (h0 0 _ rfl) rfl (by omega) (by decide) (Nat.le_of_ble_eq_true rfl) rfl dX2_floatingBeasts_2 (fun v2 => ?_)
  refine ww_istore_n (pc := 5) (lv' := [(2, .int v2), (0, .ref (ad o0)), (1, .int p1)]) hC dX2_floatingBeasts_5 rfl (by decide) rfl ?_
  refine ww_iconst (pc := 6) (v := 0) hC dX2_floatingBeasts_6 rfl ?_
  refine ww_istore_n (pc := 7) (lv' := [(3, .int 0), (2, .int v2), (0, .ref (ad o0)), (1, .int p1)]) hC dX2_floatingBeasts_7 rfl (by decide) rfl ?_
  refine ww_iconst (pc := 8) (v := 0) hC dX2_floatingBeasts_8 rfl ?_
  refine ww_istore (pc := 9) (lv' := [(4, .int 0), (3, .int 0), (2, .int v2), (0, .ref (ad o0)), (1, .int p1)]) hC dX2_floatingBeasts_9 (by decide) rfl ?_
  refine ww_lv [3, 2, 1, 0] rfl ?_
  exact hJ11 v2 0 0
theorem dX2_loseFloating_0 : decode cX2_loseFloating 0 = .ok (.aload_n 0, 1) := by decide +kernel
theorem dX2_loseFloating_1 : decode cX2_loseFloating 1 = .ok (.dup, 1) := by decide +kernel
theorem dX2_loseFloating_2 : decode cX2_loseFloating 2 = .ok (.getfield 61, 3) := by decide +kernel
theorem dX2_loseFloating_5 : decode cX2_loseFloating 5 = .ok (.aload_n 0, 1) := by decide +kernel
theorem dX2_loseFloating_6 : decode cX2_loseFloating 6 = .ok (.aload_n 0, 1) := by decide +kernel
theorem dX2_loseFloating_7 : decode cX2_loseFloating 7 = .ok (.getfield 58, 3) := by decide +kernel
theorem dX2_loseFloating_10 : decode cX2_loseFloating 10 = .ok (.invokevirtual 113, 3) := by decide +kernel
theorem dX2_loseFloating_13 : decode cX2_loseFloating 13 = .ok (.ior, 1) := by decide +kernel
theorem dX2_loseFloating_14 : decode cX2_loseFloating 14 = .ok (.putfield 61, 3) := by decide +kernel
theorem dX2_loseFloating_17 : decode cX2_loseFloating 17 = .ok (.return_, 1) := by decide +kernel
set_option maxHeartbeats 4000000 in
set_option maxRecDepth 100000 in
theorem c_X2_loseFloating {l : Launch} {Y : ww_Y} {ad : Nat → Nat} {G : List ww_L} (o0 : Nat) (h0 : ww_at G o0 (ww_LShore o0)) (σ : ww_M) : ww_Cn l Y ad G yX2_loseFloating cX2_loseFloating 1 none 5 [.ref (ad o0)] σ ((f_X2_loseFloating σ o0).bind ww_rv) := by
  refine ww_met (by decide +kernel) (Nat.le_of_ble_eq_true rfl) ?_
  intro X hC hR
  have hC : ww_C X l Y ad G 5 cX2_loseFloating 1 RX2 := hC
  show ww_V X Y ad G 1 σ 0 [(0, .ref (ad o0))] [] ((f_X2_loseFloating σ o0).bind ww_rv)
  unfold f_X2_loseFloating
  refine ww_aload_n (pc := 0) hC 0 rfl dX2_loseFloating_0 rfl ?_
  refine ww_dup (pc := 1) hC dX2_loseFloating_1 rfl ?_
  refine ww_geti (pc := 2) (Cl := RX2) (T := TX2) (N := 17) (j := 16) (ref := RX2) hC (h0 0 _ rfl) rfl inT_X2 (by decide) mw_181 rfl rfl dX2_loseFloating_2 ?_
  refine ww_aload_n (pc := 5) hC 0 rfl dX2_loseFloating_5 rfl ?_
  refine ww_aload_n (pc := 6) hC 0 rfl dX2_loseFloating_6 rfl ?_
  refine ww_geti (pc := 7) (Cl := RX2) (T := TX2) (N := 17) (j := 15) (ref := RX2) hC (h0 0 _ rfl) rfl inT_X2 (by decide) mw_178 rfl rfl dX2_loseFloating_7 ?_
  refine ww_callVi (pc := 10) (st := [.int (σ o0 16), .ref (ad o0)]) (As := [.int (σ o0 15)]) hC (c_X2_floatingBeasts o0 h0 σ (σ o0 15)) mm_X2_floatingBeasts mw_511 (h0 0 _ rfl) rfl (by omega) (by decide) (Nat.le_of_ble_eq_true rfl) rfl dX2_loseFloating_10 (fun v10 => ?_)
  refine ww_ior (pc := 13) hC dX2_loseFloating_13 ?_
  refine ww_puti (pc := 14) (Cl := RX2) (T := TX2) (N := 17) (j := 16) (ref := RX2) hC (h0 0 _ rfl) rfl inT_X2 (by decide) mw_181 rfl tyX2 tyX2_ok nmX2 rfl rfl (tyX2_ok 16 (by decide)) dX2_loseFloating_14 ?_
  exact ww_return (pc := 17) hC hR dX2_loseFloating_17 rfl
theorem dX2_worthIn_0 : decode cX2_worthIn 0 = .ok (.iload_n 3, 1) := by decide +kernel
theorem dX2_worthIn_1 : decode cX2_worthIn 1 = .ok (.iconst 1, 1) := by decide +kernel
theorem dX2_worthIn_2 : decode cX2_worthIn 2 = .ok (.if_icmp .ge 7, 3) := by decide +kernel
theorem dX2_worthIn_5 : decode cX2_worthIn 5 = .ok (.iconst 0, 1) := by decide +kernel
theorem dX2_worthIn_6 : decode cX2_worthIn 6 = .ok (.goto 17, 3) := by decide +kernel
theorem dX2_worthIn_9 : decode cX2_worthIn 9 = .ok (.iconst 0, 1) := by decide +kernel
theorem dX2_worthIn_10 : decode cX2_worthIn 10 = .ok (.aload_n 0, 1) := by decide +kernel
theorem dX2_worthIn_11 : decode cX2_worthIn 11 = .ok (.getfield 27, 3) := by decide +kernel
theorem dX2_worthIn_14 : decode cX2_worthIn 14 = .ok (.iload_n 1, 1) := by decide +kernel
theorem dX2_worthIn_15 : decode cX2_worthIn 15 = .ok (.iaload, 1) := by decide +kernel
theorem dX2_worthIn_16 : decode cX2_worthIn 16 = .ok (.iload_n 2, 1) := by decide +kernel
theorem dX2_worthIn_17 : decode cX2_worthIn 17 = .ok (.iload_n 3, 1) := by decide +kernel
theorem dX2_worthIn_18 : decode cX2_worthIn 18 = .ok (.idiv, 1) := by decide +kernel
theorem dX2_worthIn_19 : decode cX2_worthIn 19 = .ok (.isub, 1) := by decide +kernel
theorem dX2_worthIn_20 : decode cX2_worthIn 20 = .ok (.invokestatic 116, 3) := by decide +kernel
theorem dX2_worthIn_23 : decode cX2_worthIn 23 = .ok (.ireturn, 1) := by decide +kernel
set_option maxHeartbeats 4000000 in
set_option maxRecDepth 100000 in
theorem c_X2_worthIn {l : Launch} {Y : ww_Y} {ad : Nat → Nat} {G : List ww_L} (o0 : Nat) (h0 : ww_at G o0 (ww_LShore o0)) (σ : ww_M) (p1 : Int32) (p2 : Int32) (p3 : Int32) : ww_Cn l Y ad G yX2_worthIn cX2_worthIn 4 (some .int) 1 [.ref (ad o0), .int p1, .int p2, .int p3] σ ((f_X2_worthIn σ o0 p1 p2 p3).bind (ww_ri σ)) := by
  refine ww_met (by decide +kernel) (Nat.le_of_ble_eq_true rfl) ?_
  intro X hC hR
  have hC : ww_C X l Y ad G 1 cX2_worthIn 4 RX2 := hC
  show ww_V X Y ad G 4 σ 0 [(0, .ref (ad o0)), (1, .int p1), (2, .int p2), (3, .int p3)] [] ((f_X2_worthIn σ o0 p1 p2 p3).bind (ww_ri σ))
  unfold f_X2_worthIn
  refine ww_iload_n (pc := 0) hC 3 rfl dX2_worthIn_0 rfl ?_
  refine ww_iconst (pc := 1) (v := 1) hC dX2_worthIn_1 rfl ?_
  refine ww_icmp_ge (pc := 2) (tgt := 9) hC dX2_worthIn_2 (by decide) ?_ ?_
  · refine ww_iconst (pc := 9) (v := 0) hC dX2_worthIn_9 rfl ?_
    refine ww_aload_n (pc := 10) hC 0 rfl dX2_worthIn_10 rfl ?_
    refine ww_getr (pc := 11) (Cl := RX2) (T := TX2) (N := 17) (j := 5) (ref := RX2) hC (h0 0 _ rfl) rfl inT_X2 (by decide) mw_150 rfl rfl dX2_worthIn_11 ?_
    refine ww_iload_n (pc := 14) hC 1 rfl dX2_worthIn_14 rfl ?_
    refine ww_iald (pc := 15) hC (h0 6 _ rfl) dX2_worthIn_15 ?_
    refine ww_iload_n (pc := 16) hC 2 rfl dX2_worthIn_16 rfl ?_
    refine ww_iload_n (pc := 17) hC 3 rfl dX2_worthIn_17 rfl ?_
    refine ww_idiv (pc := 18) hC dX2_worthIn_18 ?_
    refine ww_isub (pc := 19) hC dX2_worthIn_19 ?_
    refine ww_mmax (pc := 20) hC dX2_worthIn_20 mw_573 mw_574 mw_72 mw_575 (by omega) (Nat.le_of_ble_eq_true rfl) ?_
    exact ww_ireturn (pc := 23) hC hR dX2_worthIn_23 rfl
  · refine ww_iconst (pc := 5) (v := 0) hC dX2_worthIn_5 rfl ?_
    refine ww_goto (pc := 6) (tgt := 23) hC dX2_worthIn_6 (by decide) ?_
    exact ww_ireturn (pc := 23) hC hR dX2_worthIn_23 rfl
theorem dX2_canWork_0 : decode cX2_canWork 0 = .ok (.aload_n 0, 1) := by decide +kernel
theorem dX2_canWork_1 : decode cX2_canWork 1 = .ok (.iload_n 1, 1) := by decide +kernel
theorem dX2_canWork_2 : decode cX2_canWork 2 = .ok (.invokevirtual 119, 3) := by decide +kernel
theorem dX2_canWork_5 : decode cX2_canWork 5 = .ok (.ifCond .eq 45, 3) := by decide +kernel
theorem dX2_canWork_8 : decode cX2_canWork 8 = .ok (.aload_n 0, 1) := by decide +kernel
theorem dX2_canWork_9 : decode cX2_canWork 9 = .ok (.getfield 30, 3) := by decide +kernel
theorem dX2_canWork_12 : decode cX2_canWork 12 = .ok (.iload_n 1, 1) := by decide +kernel
theorem dX2_canWork_13 : decode cX2_canWork 13 = .ok (.iaload, 1) := by decide +kernel
theorem dX2_canWork_14 : decode cX2_canWork 14 = .ok (.ifCond .le 36, 3) := by decide +kernel
theorem dX2_canWork_17 : decode cX2_canWork 17 = .ok (.aload_n 0, 1) := by decide +kernel
theorem dX2_canWork_18 : decode cX2_canWork 18 = .ok (.iload_n 1, 1) := by decide +kernel
theorem dX2_canWork_19 : decode cX2_canWork 19 = .ok (.iconst 3, 1) := by decide +kernel
theorem dX2_canWork_20 : decode cX2_canWork 20 = .ok (.idiv, 1) := by decide +kernel
theorem dX2_canWork_21 : decode cX2_canWork 21 = .ok (.invokevirtual 97, 3) := by decide +kernel
theorem dX2_canWork_24 : decode cX2_canWork 24 = .ok (.ifCond .ne 26, 3) := by decide +kernel
theorem dX2_canWork_27 : decode cX2_canWork 27 = .ok (.aload_n 0, 1) := by decide +kernel
theorem dX2_canWork_28 : decode cX2_canWork 28 = .ok (.aload_n 0, 1) := by decide +kernel
theorem dX2_canWork_29 : decode cX2_canWork 29 = .ok (.getfield 58, 3) := by decide +kernel
theorem dX2_canWork_32 : decode cX2_canWork 32 = .ok (.invokevirtual 110, 3) := by decide +kernel
theorem dX2_canWork_35 : decode cX2_canWork 35 = .ok (.aload_n 0, 1) := by decide +kernel
theorem dX2_canWork_36 : decode cX2_canWork 36 = .ok (.iload_n 1, 1) := by decide +kernel
theorem dX2_canWork_37 : decode cX2_canWork 37 = .ok (.invokevirtual 122, 3) := by decide +kernel
theorem dX2_canWork_40 : decode cX2_canWork 40 = .ok (.ishr, 1) := by decide +kernel
theorem dX2_canWork_41 : decode cX2_canWork 41 = .ok (.iconst 1, 1) := by decide +kernel
theorem dX2_canWork_42 : decode cX2_canWork 42 = .ok (.iand, 1) := by decide +kernel
theorem dX2_canWork_43 : decode cX2_canWork 43 = .ok (.ifCond .ne 7, 3) := by decide +kernel
theorem dX2_canWork_46 : decode cX2_canWork 46 = .ok (.iconst 1, 1) := by decide +kernel
theorem dX2_canWork_47 : decode cX2_canWork 47 = .ok (.goto 4, 3) := by decide +kernel
theorem dX2_canWork_50 : decode cX2_canWork 50 = .ok (.iconst 0, 1) := by decide +kernel
theorem dX2_canWork_51 : decode cX2_canWork 51 = .ok (.ireturn, 1) := by decide +kernel
set_option maxHeartbeats 4000000 in
set_option maxRecDepth 100000 in
theorem c_X2_canWork {l : Launch} {Y : ww_Y} {ad : Nat → Nat} {G : List ww_L} (o0 : Nat) (h0 : ww_at G o0 (ww_LShore o0)) (σ : ww_M) (p1 : Int32) : ww_Cn l Y ad G yX2_canWork cX2_canWork 2 (some .boolean) 4 [.ref (ad o0), .int p1] σ ((f_X2_canWork σ o0 p1).bind (ww_ri σ)) := by
  refine ww_met (by decide +kernel) (Nat.le_of_ble_eq_true rfl) ?_
  intro X hC hR
  have hC : ww_C X l Y ad G 4 cX2_canWork 2 RX2 := hC
  show ww_V X Y ad G 2 σ 0 [(0, .ref (ad o0)), (1, .int p1)] [] ((f_X2_canWork σ o0 p1).bind (ww_ri σ))
  unfold f_X2_canWork
  refine ww_aload_n (pc := 0) hC 0 rfl dX2_canWork_0 rfl ?_
  refine ww_iload_n (pc := 1) hC 1 rfl dX2_canWork_1 rfl ?_
  refine ww_callVi (pc := 2) (st := []) (As := [.int p1]) hC (c_X2_hasSlot o0 h0 σ p1) mm_X2_hasSlot mw_580 (h0 0 _ rfl) rfl (by omega) (by decide) (Nat.le_of_ble_eq_true rfl) rfl dX2_canWork_2 (fun v2 => ?_)
  refine ww_if_eq (pc := 5) (tgt := 50) hC dX2_canWork_5 (by decide) ?_ ?_
  · refine ww_iconst (pc := 50) (v := 0) hC dX2_canWork_50 rfl ?_
    exact ww_zreturn (pc := 51) hC hR dX2_canWork_51 rfl rfl
  · refine ww_aload_n (pc := 8) hC 0 rfl dX2_canWork_8 rfl ?_
    refine ww_getr (pc := 9) (Cl := RX2) (T := TX2) (N := 17) (j := 6) (ref := RX2) hC (h0 0 _ rfl) rfl inT_X2 (by decide) mw_152 rfl rfl dX2_canWork_9 ?_
    refine ww_iload_n (pc := 12) hC 1 rfl dX2_canWork_12 rfl ?_
    refine ww_iald (pc := 13) hC (h0 7 _ rfl) dX2_canWork_13 ?_
    refine ww_if_le (pc := 14) (tgt := 50) hC dX2_canWork_14 (by decide) ?_ ?_
    · refine ww_iconst (pc := 50) (v := 0) hC dX2_canWork_50 rfl ?_
      exact ww_zreturn (pc := 51) hC hR dX2_canWork_51 rfl rfl
    · refine ww_aload_n (pc := 17) hC 0 rfl dX2_canWork_17 rfl ?_
      refine ww_iload_n (pc := 18) hC 1 rfl dX2_canWork_18 rfl ?_
      refine ww_iconst (pc := 19) (v := 3) hC dX2_canWork_19 rfl ?_
      refine ww_idiv_c (pc := 20) hC dX2_canWork_20 (by decide) ?_
      refine ww_callVi (pc := 21) (st := []) (As := [.int (p1 / 3)]) hC (c_X2_isLost o0 h0 σ (p1 / 3)) mm_X2_isLost mw_584 (h0 0 _ rfl) rfl (by omega) (by decide) (Nat.le_of_ble_eq_true rfl) rfl dX2_canWork_21 (fun v21 => ?_)
      refine ww_if_ne (pc := 24) (tgt := 50) hC dX2_canWork_24 (by decide) ?_ ?_
      · refine ww_iconst (pc := 50) (v := 0) hC dX2_canWork_50 rfl ?_
        exact ww_zreturn (pc := 51) hC hR dX2_canWork_51 rfl rfl
      · refine ww_aload_n (pc := 27) hC 0 rfl dX2_canWork_27 rfl ?_
        refine ww_aload_n (pc := 28) hC 0 rfl dX2_canWork_28 rfl ?_
        refine ww_geti (pc := 29) (Cl := RX2) (T := TX2) (N := 17) (j := 15) (ref := RX2) hC (h0 0 _ rfl) rfl inT_X2 (by decide) mw_178 rfl rfl dX2_canWork_29 ?_
        refine ww_callVi (pc := 32) (st := []) (As := [.int (σ o0 15)]) hC (c_X2_wetPlaces o0 h0 σ (σ o0 15)) mm_X2_wetPlaces mw_515 (h0 0 _ rfl) rfl (by omega) (by decide) (Nat.le_of_ble_eq_true rfl) rfl dX2_canWork_32 (fun v32 => ?_)
        refine ww_aload_n (pc := 35) hC 0 rfl dX2_canWork_35 rfl ?_
        refine ww_iload_n (pc := 36) hC 1 rfl dX2_canWork_36 rfl ?_
        refine ww_callVi (pc := 37) (st := [.int v32]) (As := [.int p1]) hC (c_X2_placeOf o0 h0 σ p1) mm_X2_placeOf mw_585 (h0 0 _ rfl) rfl (by omega) (by decide) (Nat.le_of_ble_eq_true rfl) rfl dX2_canWork_37 (fun v37 => ?_)
        refine ww_ishr (pc := 40) hC dX2_canWork_40 ?_
        refine ww_iconst (pc := 41) (v := 1) hC dX2_canWork_41 rfl ?_
        refine ww_iand (pc := 42) hC dX2_canWork_42 ?_
        refine ww_if_ne (pc := 43) (tgt := 50) hC dX2_canWork_43 (by decide) ?_ ?_
        · refine ww_iconst (pc := 50) (v := 0) hC dX2_canWork_50 rfl ?_
          exact ww_zreturn (pc := 51) hC hR dX2_canWork_51 rfl rfl
        · refine ww_iconst (pc := 46) (v := 1) hC dX2_canWork_46 rfl ?_
          refine ww_goto (pc := 47) (tgt := 51) hC dX2_canWork_47 (by decide) ?_
          exact ww_zreturn (pc := 51) hC hR dX2_canWork_51 rfl rfl
theorem dX2_workableParts_0 : decode cX2_workableParts 0 = .ok (.iconst 0, 1) := by decide +kernel
theorem dX2_workableParts_1 : decode cX2_workableParts 1 = .ok (.istore_n 1, 1) := by decide +kernel
theorem dX2_workableParts_2 : decode cX2_workableParts 2 = .ok (.iconst 0, 1) := by decide +kernel
theorem dX2_workableParts_3 : decode cX2_workableParts 3 = .ok (.istore_n 2, 1) := by decide +kernel
theorem dX2_workableParts_4 : decode cX2_workableParts 4 = .ok (.iload_n 2, 1) := by decide +kernel
theorem dX2_workableParts_5 : decode cX2_workableParts 5 = .ok (.bipush 9, 2) := by decide +kernel
theorem dX2_workableParts_7 : decode cX2_workableParts 7 = .ok (.if_icmp .ge 20, 3) := by decide +kernel
theorem dX2_workableParts_10 : decode cX2_workableParts 10 = .ok (.aload_n 0, 1) := by decide +kernel
theorem dX2_workableParts_11 : decode cX2_workableParts 11 = .ok (.iload_n 2, 1) := by decide +kernel
theorem dX2_workableParts_12 : decode cX2_workableParts 12 = .ok (.invokevirtual 125, 3) := by decide +kernel
theorem dX2_workableParts_15 : decode cX2_workableParts 15 = .ok (.ifCond .eq 6, 3) := by decide +kernel
theorem dX2_workableParts_18 : decode cX2_workableParts 18 = .ok (.iinc 1 1, 3) := by decide +kernel
theorem dX2_workableParts_21 : decode cX2_workableParts 21 = .ok (.iinc 2 1, 3) := by decide +kernel
theorem dX2_workableParts_24 : decode cX2_workableParts 24 = .ok (.goto (-20), 3) := by decide +kernel
theorem dX2_workableParts_27 : decode cX2_workableParts 27 = .ok (.iload_n 1, 1) := by decide +kernel
theorem dX2_workableParts_28 : decode cX2_workableParts 28 = .ok (.ireturn, 1) := by decide +kernel
set_option maxHeartbeats 4000000 in
set_option maxRecDepth 100000 in
theorem c_X2_workableParts {l : Launch} {Y : ww_Y} {ad : Nat → Nat} {G : List ww_L} (o0 : Nat) (h0 : ww_at G o0 (ww_LShore o0)) (σ : ww_M) : ww_Cn l Y ad G yX2_workableParts cX2_workableParts 3 (some .int) 5 [.ref (ad o0)] σ ((f_X2_workableParts σ o0).bind (ww_ri σ)) := by
  refine ww_met (by decide +kernel) (Nat.le_of_ble_eq_true rfl) ?_
  intro X hC hR
  have hC : ww_C X l Y ad G 5 cX2_workableParts 3 RX2 := hC
  show ww_V X Y ad G 3 σ 0 [(0, .ref (ad o0))] [] ((f_X2_workableParts σ o0).bind (ww_ri σ))
  have hJ27 : ∀ (x1 : Int32), ww_V X Y ad G 3 σ 27 [(1, .int x1)] [] ((f_X2_workableParts_j27 σ o0 x1).bind (ww_ri σ)) := by
    intro x1
    unfold f_X2_workableParts_j27
    refine ww_iload_n (pc := 27) hC 0 rfl dX2_workableParts_27 rfl ?_
    exact ww_ireturn (pc := 28) hC hR dX2_workableParts_28 rfl
  have hJ4 : ∀ (x1 : Int32) (x2 : Int32), ww_V X Y ad G 3 σ 4 [(0, .ref (ad o0)), (1, .int x1), (2, .int x2)] [] ((f_X2_workableParts_j4 σ o0 x1 x2).bind (ww_ri σ)) := by
    intro x1 x2
    unfold f_X2_workableParts_j4
    refine ww_assoc ?_
    refine ww_loop (f := f_X2_workableParts_b4 σ o0) (fun a4 => σ) (fun a4 => [(0, .ref (ad o0)), (1, .int a4.1), (2, .int a4.2)]) (fun b4 => σ) (fun b4 => [(1, .int b4)]) 27 (fun b4 => ?_) (fun a4 KK4 hc4 hx4 => ?_) ww_F (x1, x2)
    · exact hJ27 b4
    · unfold f_X2_workableParts_b4
      refine ww_iload_n (pc := 4) hC 2 rfl dX2_workableParts_4 rfl ?_
      refine ww_bipush (pc := 5) (v := 9) hC dX2_workableParts_5 rfl ?_
      refine ww_icmp_ge (pc := 7) (tgt := 27) hC dX2_workableParts_7 (by decide) ?_ ?_
      · refine ww_lv [1] rfl ?_
        exact hx4 a4.1
      · refine ww_aload_n (pc := 10) hC 0 rfl dX2_workableParts_10 rfl ?_
        refine ww_iload_n (pc := 11) hC 2 rfl dX2_workableParts_11 rfl ?_
        refine ww_callVi (pc := 12) (st := []) (As := [.int a4.2]) hC (c_X2_canWork o0 h0 σ a4.2) mm_X2_canWork mw_638 (h0 0 _ rfl) rfl (by omega) (by decide) (Nat.le_of_ble_eq_true rfl) rfl dX2_workableParts_12 (fun v12 => ?_)
        refine ww_if_eq (pc := 15) (tgt := 21) hC dX2_workableParts_15 (by decide) ?_ ?_
        · refine ww_iinc (pc := 21) (v := a4.2 + 1) (lv' := [(2, .int (a4.2 + 1)), (0, .ref (ad o0)), (1, .int a4.1)]) hC 2 rfl dX2_workableParts_21 rfl (by decide) rfl ?_
          refine ww_goto (pc := 24) (tgt := 4) hC dX2_workableParts_24 (by decide) ?_
          refine ww_lv [1, 2, 0] rfl ?_
          exact hc4 (a4.1, a4.2 + 1)
        · refine ww_iinc (pc := 18) (v := a4.1 + 1) (lv' := [(1, .int (a4.1 + 1)), (0, .ref (ad o0)), (2, .int a4.2)]) hC 1 rfl dX2_workableParts_18 rfl (by decide) rfl ?_
          refine ww_iinc (pc := 21) (v := a4.2 + 1) (lv' := [(2, .int (a4.2 + 1)), (1, .int (a4.1 + 1)), (0, .ref (ad o0))]) hC 2 rfl dX2_workableParts_21 rfl (by decide) rfl ?_
          refine ww_goto (pc := 24) (tgt := 4) hC dX2_workableParts_24 (by decide) ?_
          refine ww_lv [2, 1, 0] rfl ?_
          exact hc4 (a4.1 + 1, a4.2 + 1)
  unfold f_X2_workableParts
  refine ww_iconst (pc := 0) (v := 0) hC dX2_workableParts_0 rfl ?_
  refine ww_istore_n (pc := 1) (lv' := [(1, .int 0), (0, .ref (ad o0))]) hC dX2_workableParts_1 rfl (by decide) rfl ?_
  refine ww_iconst (pc := 2) (v := 0) hC dX2_workableParts_2 rfl ?_
  refine ww_istore_n (pc := 3) (lv' := [(2, .int 0), (1, .int 0), (0, .ref (ad o0))]) hC dX2_workableParts_3 rfl (by decide) rfl ?_
  refine ww_lv [2, 1, 0] rfl ?_
  exact hJ4 0 0
theorem dX2_workableSlot_0 : decode cX2_workableSlot 0 = .ok (.iconst 0, 1) := by decide +kernel
theorem dX2_workableSlot_1 : decode cX2_workableSlot 1 = .ok (.istore_n 2, 1) := by decide +kernel
theorem dX2_workableSlot_2 : decode cX2_workableSlot 2 = .ok (.iconst 0, 1) := by decide +kernel
theorem dX2_workableSlot_3 : decode cX2_workableSlot 3 = .ok (.istore_n 3, 1) := by decide +kernel
theorem dX2_workableSlot_4 : decode cX2_workableSlot 4 = .ok (.iload_n 3, 1) := by decide +kernel
theorem dX2_workableSlot_5 : decode cX2_workableSlot 5 = .ok (.bipush 9, 2) := by decide +kernel
theorem dX2_workableSlot_7 : decode cX2_workableSlot 7 = .ok (.if_icmp .ge 27, 3) := by decide +kernel
theorem dX2_workableSlot_10 : decode cX2_workableSlot 10 = .ok (.aload_n 0, 1) := by decide +kernel
theorem dX2_workableSlot_11 : decode cX2_workableSlot 11 = .ok (.iload_n 3, 1) := by decide +kernel
theorem dX2_workableSlot_12 : decode cX2_workableSlot 12 = .ok (.invokevirtual 125, 3) := by decide +kernel
theorem dX2_workableSlot_15 : decode cX2_workableSlot 15 = .ok (.ifCond .eq 13, 3) := by decide +kernel
theorem dX2_workableSlot_18 : decode cX2_workableSlot 18 = .ok (.iload_n 2, 1) := by decide +kernel
theorem dX2_workableSlot_19 : decode cX2_workableSlot 19 = .ok (.iload_n 1, 1) := by decide +kernel
theorem dX2_workableSlot_20 : decode cX2_workableSlot 20 = .ok (.if_icmp .ne 5, 3) := by decide +kernel
theorem dX2_workableSlot_23 : decode cX2_workableSlot 23 = .ok (.iload_n 3, 1) := by decide +kernel
theorem dX2_workableSlot_24 : decode cX2_workableSlot 24 = .ok (.ireturn, 1) := by decide +kernel
theorem dX2_workableSlot_25 : decode cX2_workableSlot 25 = .ok (.iinc 2 1, 3) := by decide +kernel
theorem dX2_workableSlot_28 : decode cX2_workableSlot 28 = .ok (.iinc 3 1, 3) := by decide +kernel
theorem dX2_workableSlot_31 : decode cX2_workableSlot 31 = .ok (.goto (-27), 3) := by decide +kernel
theorem dX2_workableSlot_34 : decode cX2_workableSlot 34 = .ok (.iconst (-1), 1) := by decide +kernel
theorem dX2_workableSlot_35 : decode cX2_workableSlot 35 = .ok (.ireturn, 1) := by decide +kernel
set_option maxHeartbeats 4000000 in
set_option maxRecDepth 100000 in
theorem c_X2_workableSlot {l : Launch} {Y : ww_Y} {ad : Nat → Nat} {G : List ww_L} (o0 : Nat) (h0 : ww_at G o0 (ww_LShore o0)) (σ : ww_M) (p1 : Int32) : ww_Cn l Y ad G yX2_workableSlot cX2_workableSlot 4 (some .int) 5 [.ref (ad o0), .int p1] σ ((f_X2_workableSlot σ o0 p1).bind (ww_ri σ)) := by
  refine ww_met (by decide +kernel) (Nat.le_of_ble_eq_true rfl) ?_
  intro X hC hR
  have hC : ww_C X l Y ad G 5 cX2_workableSlot 4 RX2 := hC
  show ww_V X Y ad G 4 σ 0 [(0, .ref (ad o0)), (1, .int p1)] [] ((f_X2_workableSlot σ o0 p1).bind (ww_ri σ))
  have hJ34 : ww_V X Y ad G 4 σ 34 [] [] ((f_X2_workableSlot_j34 σ o0 p1).bind (ww_ri σ)) := by
    unfold f_X2_workableSlot_j34
    refine ww_iconst (pc := 34) (v := (-1)) hC dX2_workableSlot_34 rfl ?_
    exact ww_ireturn (pc := 35) hC hR dX2_workableSlot_35 rfl
  have hJ4 : ∀ (x2 : Int32) (x3 : Int32), ww_V X Y ad G 4 σ 4 [(0, .ref (ad o0)), (1, .int p1), (2, .int x2), (3, .int x3)] [] ((f_X2_workableSlot_j4 σ o0 p1 x2 x3).bind (ww_ri σ)) := by
    intro x2 x3
    unfold f_X2_workableSlot_j4
    refine ww_assoc ?_
    refine ww_loopR (f := f_X2_workableSlot_b4 σ o0 p1) (fun a4 => σ) (fun a4 => [(0, .ref (ad o0)), (1, .int p1), (2, .int a4.1), (3, .int a4.2)]) (fun b4 => σ) (fun b4 => []) 34 (fun b4 => ?_) (fun a4 KK4 hc4 hx4 hr4 => ?_) ww_F (x2, x3)
    · exact hJ34
    · unfold f_X2_workableSlot_b4
      refine ww_iload_n (pc := 4) hC 3 rfl dX2_workableSlot_4 rfl ?_
      refine ww_bipush (pc := 5) (v := 9) hC dX2_workableSlot_5 rfl ?_
      refine ww_icmp_ge (pc := 7) (tgt := 34) hC dX2_workableSlot_7 (by decide) ?_ ?_
      · refine ww_lv [] rfl ?_
        exact hx4 ()
      · refine ww_aload_n (pc := 10) hC 0 rfl dX2_workableSlot_10 rfl ?_
        refine ww_iload_n (pc := 11) hC 3 rfl dX2_workableSlot_11 rfl ?_
        refine ww_callVi (pc := 12) (st := []) (As := [.int a4.2]) hC (c_X2_canWork o0 h0 σ a4.2) mm_X2_canWork mw_638 (h0 0 _ rfl) rfl (by omega) (by decide) (Nat.le_of_ble_eq_true rfl) rfl dX2_workableSlot_12 (fun v12 => ?_)
        refine ww_if_eq (pc := 15) (tgt := 28) hC dX2_workableSlot_15 (by decide) ?_ ?_
        · refine ww_iinc (pc := 28) (v := a4.2 + 1) (lv' := [(3, .int (a4.2 + 1)), (0, .ref (ad o0)), (1, .int p1), (2, .int a4.1)]) hC 3 rfl dX2_workableSlot_28 rfl (by decide) rfl ?_
          refine ww_goto (pc := 31) (tgt := 4) hC dX2_workableSlot_31 (by decide) ?_
          refine ww_lv [1, 2, 3, 0] rfl ?_
          exact hc4 (a4.1, a4.2 + 1)
        · refine ww_iload_n (pc := 18) hC 2 rfl dX2_workableSlot_18 rfl ?_
          refine ww_iload_n (pc := 19) hC 1 rfl dX2_workableSlot_19 rfl ?_
          refine ww_icmp_ne (pc := 20) (tgt := 25) hC dX2_workableSlot_20 (by decide) ?_ ?_
          · refine ww_iinc (pc := 25) (v := a4.1 + 1) (lv' := [(2, .int (a4.1 + 1)), (0, .ref (ad o0)), (1, .int p1), (3, .int a4.2)]) hC 2 rfl dX2_workableSlot_25 rfl (by decide) rfl ?_
            refine ww_iinc (pc := 28) (v := a4.2 + 1) (lv' := [(3, .int (a4.2 + 1)), (2, .int (a4.1 + 1)), (0, .ref (ad o0)), (1, .int p1)]) hC 3 rfl dX2_workableSlot_28 rfl (by decide) rfl ?_
            refine ww_goto (pc := 31) (tgt := 4) hC dX2_workableSlot_31 (by decide) ?_
            refine ww_lv [2, 3, 1, 0] rfl ?_
            exact hc4 (a4.1 + 1, a4.2 + 1)
          · refine ww_iload_n (pc := 23) hC 3 rfl dX2_workableSlot_23 rfl ?_
            exact ww_ireturn (pc := 24) hC hR dX2_workableSlot_24 ((hr4 _).trans rfl)
  unfold f_X2_workableSlot
  refine ww_iconst (pc := 0) (v := 0) hC dX2_workableSlot_0 rfl ?_
  refine ww_istore_n (pc := 1) (lv' := [(2, .int 0), (0, .ref (ad o0)), (1, .int p1)]) hC dX2_workableSlot_1 rfl (by decide) rfl ?_
  refine ww_iconst (pc := 2) (v := 0) hC dX2_workableSlot_2 rfl ?_
  refine ww_istore_n (pc := 3) (lv' := [(3, .int 0), (2, .int 0), (0, .ref (ad o0)), (1, .int p1)]) hC dX2_workableSlot_3 rfl (by decide) rfl ?_
  refine ww_lv [2, 3, 1, 0] rfl ?_
  exact hJ4 0 0
theorem dX2_isRicher_0 : decode cX2_isRicher 0 = .ok (.aload_n 0, 1) := by decide +kernel
theorem dX2_isRicher_1 : decode cX2_isRicher 1 = .ok (.getfield 33, 3) := by decide +kernel
theorem dX2_isRicher_4 : decode cX2_isRicher 4 = .ok (.iload_n 1, 1) := by decide +kernel
theorem dX2_isRicher_5 : decode cX2_isRicher 5 = .ok (.iaload, 1) := by decide +kernel
theorem dX2_isRicher_6 : decode cX2_isRicher 6 = .ok (.aload_n 0, 1) := by decide +kernel
theorem dX2_isRicher_7 : decode cX2_isRicher 7 = .ok (.getfield 30, 3) := by decide +kernel
theorem dX2_isRicher_10 : decode cX2_isRicher 10 = .ok (.iload_n 2, 1) := by decide +kernel
theorem dX2_isRicher_11 : decode cX2_isRicher 11 = .ok (.iaload, 1) := by decide +kernel
theorem dX2_isRicher_12 : decode cX2_isRicher 12 = .ok (.imul, 1) := by decide +kernel
theorem dX2_isRicher_13 : decode cX2_isRicher 13 = .ok (.aload_n 0, 1) := by decide +kernel
theorem dX2_isRicher_14 : decode cX2_isRicher 14 = .ok (.getfield 33, 3) := by decide +kernel
theorem dX2_isRicher_17 : decode cX2_isRicher 17 = .ok (.iload_n 2, 1) := by decide +kernel
theorem dX2_isRicher_18 : decode cX2_isRicher 18 = .ok (.iaload, 1) := by decide +kernel
theorem dX2_isRicher_19 : decode cX2_isRicher 19 = .ok (.aload_n 0, 1) := by decide +kernel
theorem dX2_isRicher_20 : decode cX2_isRicher 20 = .ok (.getfield 30, 3) := by decide +kernel
theorem dX2_isRicher_23 : decode cX2_isRicher 23 = .ok (.iload_n 1, 1) := by decide +kernel
theorem dX2_isRicher_24 : decode cX2_isRicher 24 = .ok (.iaload, 1) := by decide +kernel
theorem dX2_isRicher_25 : decode cX2_isRicher 25 = .ok (.imul, 1) := by decide +kernel
theorem dX2_isRicher_26 : decode cX2_isRicher 26 = .ok (.if_icmp .le 7, 3) := by decide +kernel
theorem dX2_isRicher_29 : decode cX2_isRicher 29 = .ok (.iconst 1, 1) := by decide +kernel
theorem dX2_isRicher_30 : decode cX2_isRicher 30 = .ok (.goto 4, 3) := by decide +kernel
theorem dX2_isRicher_33 : decode cX2_isRicher 33 = .ok (.iconst 0, 1) := by decide +kernel
theorem dX2_isRicher_34 : decode cX2_isRicher 34 = .ok (.ireturn, 1) := by decide +kernel
set_option maxHeartbeats 4000000 in
set_option maxRecDepth 100000 in
theorem c_X2_isRicher {l : Launch} {Y : ww_Y} {ad : Nat → Nat} {G : List ww_L} (o0 : Nat) (h0 : ww_at G o0 (ww_LShore o0)) (σ : ww_M) (p1 : Int32) (p2 : Int32) : ww_Cn l Y ad G yX2_isRicher cX2_isRicher 3 (some .boolean) 1 [.ref (ad o0), .int p1, .int p2] σ ((f_X2_isRicher σ o0 p1 p2).bind (ww_ri σ)) := by
  refine ww_met (by decide +kernel) (Nat.le_of_ble_eq_true rfl) ?_
  intro X hC hR
  have hC : ww_C X l Y ad G 1 cX2_isRicher 3 RX2 := hC
  show ww_V X Y ad G 3 σ 0 [(0, .ref (ad o0)), (1, .int p1), (2, .int p2)] [] ((f_X2_isRicher σ o0 p1 p2).bind (ww_ri σ))
  unfold f_X2_isRicher
  refine ww_aload_n (pc := 0) hC 0 rfl dX2_isRicher_0 rfl ?_
  refine ww_getr (pc := 1) (Cl := RX2) (T := TX2) (N := 17) (j := 7) (ref := RX2) hC (h0 0 _ rfl) rfl inT_X2 (by decide) mw_155 rfl rfl dX2_isRicher_1 ?_
  refine ww_iload_n (pc := 4) hC 1 rfl dX2_isRicher_4 rfl ?_
  refine ww_iald (pc := 5) hC (h0 8 _ rfl) dX2_isRicher_5 ?_
  refine ww_aload_n (pc := 6) hC 0 rfl dX2_isRicher_6 rfl ?_
  refine ww_getr (pc := 7) (Cl := RX2) (T := TX2) (N := 17) (j := 6) (ref := RX2) hC (h0 0 _ rfl) rfl inT_X2 (by decide) mw_152 rfl rfl dX2_isRicher_7 ?_
  refine ww_iload_n (pc := 10) hC 2 rfl dX2_isRicher_10 rfl ?_
  refine ww_iald (pc := 11) hC (h0 7 _ rfl) dX2_isRicher_11 ?_
  refine ww_imul (pc := 12) hC dX2_isRicher_12 ?_
  refine ww_aload_n (pc := 13) hC 0 rfl dX2_isRicher_13 rfl ?_
  refine ww_getr (pc := 14) (Cl := RX2) (T := TX2) (N := 17) (j := 7) (ref := RX2) hC (h0 0 _ rfl) rfl inT_X2 (by decide) mw_155 rfl rfl dX2_isRicher_14 ?_
  refine ww_iload_n (pc := 17) hC 2 rfl dX2_isRicher_17 rfl ?_
  refine ww_iald (pc := 18) hC (h0 8 _ rfl) dX2_isRicher_18 ?_
  refine ww_aload_n (pc := 19) hC 0 rfl dX2_isRicher_19 rfl ?_
  refine ww_getr (pc := 20) (Cl := RX2) (T := TX2) (N := 17) (j := 6) (ref := RX2) hC (h0 0 _ rfl) rfl inT_X2 (by decide) mw_152 rfl rfl dX2_isRicher_20 ?_
  refine ww_iload_n (pc := 23) hC 1 rfl dX2_isRicher_23 rfl ?_
  refine ww_iald (pc := 24) hC (h0 7 _ rfl) dX2_isRicher_24 ?_
  refine ww_imul (pc := 25) hC dX2_isRicher_25 ?_
  refine ww_icmp_le (pc := 26) (tgt := 33) hC dX2_isRicher_26 (by decide) ?_ ?_
  · refine ww_iconst (pc := 33) (v := 0) hC dX2_isRicher_33 rfl ?_
    exact ww_zreturn (pc := 34) hC hR dX2_isRicher_34 rfl rfl
  · refine ww_iconst (pc := 29) (v := 1) hC dX2_isRicher_29 rfl ?_
    refine ww_goto (pc := 30) (tgt := 34) hC dX2_isRicher_30 (by decide) ?_
    exact ww_zreturn (pc := 34) hC hR dX2_isRicher_34 rfl rfl
theorem dX2_cutParts_0 : decode cX2_cutParts 0 = .ok (.iconst 0, 1) := by decide +kernel
theorem dX2_cutParts_1 : decode cX2_cutParts 1 = .ok (.istore_n 1, 1) := by decide +kernel
theorem dX2_cutParts_2 : decode cX2_cutParts 2 = .ok (.iconst 0, 1) := by decide +kernel
theorem dX2_cutParts_3 : decode cX2_cutParts 3 = .ok (.istore_n 2, 1) := by decide +kernel
theorem dX2_cutParts_4 : decode cX2_cutParts 4 = .ok (.iload_n 2, 1) := by decide +kernel
theorem dX2_cutParts_5 : decode cX2_cutParts 5 = .ok (.bipush 9, 2) := by decide +kernel
theorem dX2_cutParts_7 : decode cX2_cutParts 7 = .ok (.if_icmp .ge 29, 3) := by decide +kernel
theorem dX2_cutParts_10 : decode cX2_cutParts 10 = .ok (.aload_n 0, 1) := by decide +kernel
theorem dX2_cutParts_11 : decode cX2_cutParts 11 = .ok (.iload_n 2, 1) := by decide +kernel
theorem dX2_cutParts_12 : decode cX2_cutParts 12 = .ok (.invokevirtual 119, 3) := by decide +kernel
theorem dX2_cutParts_15 : decode cX2_cutParts 15 = .ok (.ifCond .eq 15, 3) := by decide +kernel
theorem dX2_cutParts_18 : decode cX2_cutParts 18 = .ok (.aload_n 0, 1) := by decide +kernel
theorem dX2_cutParts_19 : decode cX2_cutParts 19 = .ok (.getfield 30, 3) := by decide +kernel
theorem dX2_cutParts_22 : decode cX2_cutParts 22 = .ok (.iload_n 2, 1) := by decide +kernel
theorem dX2_cutParts_23 : decode cX2_cutParts 23 = .ok (.iaload, 1) := by decide +kernel
theorem dX2_cutParts_24 : decode cX2_cutParts 24 = .ok (.ifCond .ne 6, 3) := by decide +kernel
theorem dX2_cutParts_27 : decode cX2_cutParts 27 = .ok (.iinc 1 1, 3) := by decide +kernel
theorem dX2_cutParts_30 : decode cX2_cutParts 30 = .ok (.iinc 2 1, 3) := by decide +kernel
theorem dX2_cutParts_33 : decode cX2_cutParts 33 = .ok (.goto (-29), 3) := by decide +kernel
theorem dX2_cutParts_36 : decode cX2_cutParts 36 = .ok (.iload_n 1, 1) := by decide +kernel
theorem dX2_cutParts_37 : decode cX2_cutParts 37 = .ok (.ireturn, 1) := by decide +kernel
set_option maxHeartbeats 4000000 in
set_option maxRecDepth 100000 in
theorem c_X2_cutParts {l : Launch} {Y : ww_Y} {ad : Nat → Nat} {G : List ww_L} (o0 : Nat) (h0 : ww_at G o0 (ww_LShore o0)) (σ : ww_M) : ww_Cn l Y ad G yX2_cutParts cX2_cutParts 3 (some .int) 4 [.ref (ad o0)] σ ((f_X2_cutParts σ o0).bind (ww_ri σ)) := by
  refine ww_met (by decide +kernel) (Nat.le_of_ble_eq_true rfl) ?_
  intro X hC hR
  have hC : ww_C X l Y ad G 4 cX2_cutParts 3 RX2 := hC
  show ww_V X Y ad G 3 σ 0 [(0, .ref (ad o0))] [] ((f_X2_cutParts σ o0).bind (ww_ri σ))
  have hJ36 : ∀ (x1 : Int32), ww_V X Y ad G 3 σ 36 [(1, .int x1)] [] ((f_X2_cutParts_j36 σ o0 x1).bind (ww_ri σ)) := by
    intro x1
    unfold f_X2_cutParts_j36
    refine ww_iload_n (pc := 36) hC 0 rfl dX2_cutParts_36 rfl ?_
    exact ww_ireturn (pc := 37) hC hR dX2_cutParts_37 rfl
  have hJ4 : ∀ (x1 : Int32) (x2 : Int32), ww_V X Y ad G 3 σ 4 [(0, .ref (ad o0)), (1, .int x1), (2, .int x2)] [] ((f_X2_cutParts_j4 σ o0 x1 x2).bind (ww_ri σ)) := by
    intro x1 x2
    unfold f_X2_cutParts_j4
    refine ww_assoc ?_
    refine ww_loop (f := f_X2_cutParts_b4 σ o0) (fun a4 => σ) (fun a4 => [(0, .ref (ad o0)), (1, .int a4.1), (2, .int a4.2)]) (fun b4 => σ) (fun b4 => [(1, .int b4)]) 36 (fun b4 => ?_) (fun a4 KK4 hc4 hx4 => ?_) ww_F (x1, x2)
    · exact hJ36 b4
    · unfold f_X2_cutParts_b4
      refine ww_iload_n (pc := 4) hC 2 rfl dX2_cutParts_4 rfl ?_
      refine ww_bipush (pc := 5) (v := 9) hC dX2_cutParts_5 rfl ?_
      refine ww_icmp_ge (pc := 7) (tgt := 36) hC dX2_cutParts_7 (by decide) ?_ ?_
      · refine ww_lv [1] rfl ?_
        exact hx4 a4.1
      · refine ww_aload_n (pc := 10) hC 0 rfl dX2_cutParts_10 rfl ?_
        refine ww_iload_n (pc := 11) hC 2 rfl dX2_cutParts_11 rfl ?_
        refine ww_callVi (pc := 12) (st := []) (As := [.int a4.2]) hC (c_X2_hasSlot o0 h0 σ a4.2) mm_X2_hasSlot mw_580 (h0 0 _ rfl) rfl (by omega) (by decide) (Nat.le_of_ble_eq_true rfl) rfl dX2_cutParts_12 (fun v12 => ?_)
        refine ww_if_eq (pc := 15) (tgt := 30) hC dX2_cutParts_15 (by decide) ?_ ?_
        · refine ww_iinc (pc := 30) (v := a4.2 + 1) (lv' := [(2, .int (a4.2 + 1)), (0, .ref (ad o0)), (1, .int a4.1)]) hC 2 rfl dX2_cutParts_30 rfl (by decide) rfl ?_
          refine ww_goto (pc := 33) (tgt := 4) hC dX2_cutParts_33 (by decide) ?_
          refine ww_lv [1, 2, 0] rfl ?_
          exact hc4 (a4.1, a4.2 + 1)
        · refine ww_aload_n (pc := 18) hC 0 rfl dX2_cutParts_18 rfl ?_
          refine ww_getr (pc := 19) (Cl := RX2) (T := TX2) (N := 17) (j := 6) (ref := RX2) hC (h0 0 _ rfl) rfl inT_X2 (by decide) mw_152 rfl rfl dX2_cutParts_19 ?_
          refine ww_iload_n (pc := 22) hC 2 rfl dX2_cutParts_22 rfl ?_
          refine ww_iald (pc := 23) hC (h0 7 _ rfl) dX2_cutParts_23 ?_
          refine ww_if_ne (pc := 24) (tgt := 30) hC dX2_cutParts_24 (by decide) ?_ ?_
          · refine ww_iinc (pc := 30) (v := a4.2 + 1) (lv' := [(2, .int (a4.2 + 1)), (0, .ref (ad o0)), (1, .int a4.1)]) hC 2 rfl dX2_cutParts_30 rfl (by decide) rfl ?_
            refine ww_goto (pc := 33) (tgt := 4) hC dX2_cutParts_33 (by decide) ?_
            refine ww_lv [1, 2, 0] rfl ?_
            exact hc4 (a4.1, a4.2 + 1)
          · refine ww_iinc (pc := 27) (v := a4.1 + 1) (lv' := [(1, .int (a4.1 + 1)), (0, .ref (ad o0)), (2, .int a4.2)]) hC 1 rfl dX2_cutParts_27 rfl (by decide) rfl ?_
            refine ww_iinc (pc := 30) (v := a4.2 + 1) (lv' := [(2, .int (a4.2 + 1)), (1, .int (a4.1 + 1)), (0, .ref (ad o0))]) hC 2 rfl dX2_cutParts_30 rfl (by decide) rfl ?_
            refine ww_goto (pc := 33) (tgt := 4) hC dX2_cutParts_33 (by decide) ?_
            refine ww_lv [2, 1, 0] rfl ?_
            exact hc4 (a4.1 + 1, a4.2 + 1)
  unfold f_X2_cutParts
  refine ww_iconst (pc := 0) (v := 0) hC dX2_cutParts_0 rfl ?_
  refine ww_istore_n (pc := 1) (lv' := [(1, .int 0), (0, .ref (ad o0))]) hC dX2_cutParts_1 rfl (by decide) rfl ?_
  refine ww_iconst (pc := 2) (v := 0) hC dX2_cutParts_2 rfl ?_
  refine ww_istore_n (pc := 3) (lv' := [(2, .int 0), (1, .int 0), (0, .ref (ad o0))]) hC dX2_cutParts_3 rfl (by decide) rfl ?_
  refine ww_lv [2, 1, 0] rfl ?_
  exact hJ4 0 0
