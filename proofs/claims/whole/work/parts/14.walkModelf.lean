theorem dX7_read_0 : decode cX7_read 0 = .ok (.iload_n 1, 1) := by decide +kernel
theorem dX7_read_1 : decode cX7_read 1 = .ok (.i2l, 1) := by decide +kernel
theorem dX7_read_2 : decode cX7_read 2 = .ok (.lconst 0, 1) := by decide +kernel
theorem dX7_read_3 : decode cX7_read 3 = .ok (.ldc2_w 210, 3) := by decide +kernel
theorem dX7_read_6 : decode cX7_read 6 = .ok (.invokestatic 68, 3) := by decide +kernel
theorem dX7_read_9 : decode cX7_read 9 = .ok (.ifCond .eq 28, 3) := by decide +kernel
theorem dX7_read_12 : decode cX7_read 12 = .ok (.iload_n 2, 1) := by decide +kernel
theorem dX7_read_13 : decode cX7_read 13 = .ok (.i2l, 1) := by decide +kernel
theorem dX7_read_14 : decode cX7_read 14 = .ok (.lconst 0, 1) := by decide +kernel
theorem dX7_read_15 : decode cX7_read 15 = .ok (.ldc2_w 128, 3) := by decide +kernel
theorem dX7_read_18 : decode cX7_read 18 = .ok (.invokestatic 68, 3) := by decide +kernel
theorem dX7_read_21 : decode cX7_read 21 = .ok (.ifCond .eq 16, 3) := by decide +kernel
theorem dX7_read_24 : decode cX7_read 24 = .ok (.iload 4, 2) := by decide +kernel
theorem dX7_read_26 : decode cX7_read 26 = .ok (.i2l, 1) := by decide +kernel
theorem dX7_read_27 : decode cX7_read 27 = .ok (.lconst 0, 1) := by decide +kernel
theorem dX7_read_28 : decode cX7_read 28 = .ok (.ldc2_w 281, 3) := by decide +kernel
theorem dX7_read_31 : decode cX7_read 31 = .ok (.invokestatic 68, 3) := by decide +kernel
theorem dX7_read_34 : decode cX7_read 34 = .ok (.ifCond .ne 5, 3) := by decide +kernel
theorem dX7_read_37 : decode cX7_read 37 = .ok (.iconst (-1), 1) := by decide +kernel
theorem dX7_read_38 : decode cX7_read 38 = .ok (.ireturn, 1) := by decide +kernel
theorem dX7_read_39 : decode cX7_read 39 = .ok (.aload_n 0, 1) := by decide +kernel
theorem dX7_read_40 : decode cX7_read 40 = .ok (.iconst 0, 1) := by decide +kernel
theorem dX7_read_41 : decode cX7_read 41 = .ok (.sipush 150, 3) := by decide +kernel
theorem dX7_read_44 : decode cX7_read 44 = .ok (.invokevirtual 271, 3) := by decide +kernel
theorem dX7_read_47 : decode cX7_read 47 = .ok (.iconst 0, 1) := by decide +kernel
theorem dX7_read_48 : decode cX7_read 48 = .ok (.istore 5, 2) := by decide +kernel
theorem dX7_read_50 : decode cX7_read 50 = .ok (.iconst 0, 1) := by decide +kernel
theorem dX7_read_51 : decode cX7_read 51 = .ok (.istore 6, 2) := by decide +kernel
theorem dX7_read_53 : decode cX7_read 53 = .ok (.iload 6, 2) := by decide +kernel
theorem dX7_read_55 : decode cX7_read 55 = .ok (.iload 4, 2) := by decide +kernel
theorem dX7_read_57 : decode cX7_read 57 = .ok (.if_icmp .ge 114, 3) := by decide +kernel
theorem dX7_read_60 : decode cX7_read 60 = .ok (.iload 5, 2) := by decide +kernel
theorem dX7_read_62 : decode cX7_read 62 = .ok (.ifCond .ne 109, 3) := by decide +kernel
theorem dX7_read_65 : decode cX7_read 65 = .ok (.aload_n 0, 1) := by decide +kernel
theorem dX7_read_66 : decode cX7_read 66 = .ok (.getfield 57, 3) := by decide +kernel
theorem dX7_read_69 : decode cX7_read 69 = .ok (.iload_n 1, 1) := by decide +kernel
theorem dX7_read_70 : decode cX7_read 70 = .ok (.iaload, 1) := by decide +kernel
theorem dX7_read_71 : decode cX7_read 71 = .ok (.bipush (-4), 2) := by decide +kernel
theorem dX7_read_73 : decode cX7_read 73 = .ok (.if_icmp .ne 7, 3) := by decide +kernel
theorem dX7_read_76 : decode cX7_read 76 = .ok (.iconst 1, 1) := by decide +kernel
theorem dX7_read_77 : decode cX7_read 77 = .ok (.goto 44, 3) := by decide +kernel
theorem dX7_read_80 : decode cX7_read 80 = .ok (.aload_n 0, 1) := by decide +kernel
theorem dX7_read_81 : decode cX7_read 81 = .ok (.getfield 57, 3) := by decide +kernel
theorem dX7_read_84 : decode cX7_read 84 = .ok (.iload_n 1, 1) := by decide +kernel
theorem dX7_read_85 : decode cX7_read 85 = .ok (.iaload, 1) := by decide +kernel
theorem dX7_read_86 : decode cX7_read 86 = .ok (.iload_n 2, 1) := by decide +kernel
theorem dX7_read_87 : decode cX7_read 87 = .ok (.if_icmp .eq 7, 3) := by decide +kernel
theorem dX7_read_90 : decode cX7_read 90 = .ok (.iconst 3, 1) := by decide +kernel
theorem dX7_read_91 : decode cX7_read 91 = .ok (.goto 30, 3) := by decide +kernel
theorem dX7_read_94 : decode cX7_read 94 = .ok (.iload_n 3, 1) := by decide +kernel
theorem dX7_read_95 : decode cX7_read 95 = .ok (.i2l, 1) := by decide +kernel
theorem dX7_read_96 : decode cX7_read 96 = .ok (.iload 6, 2) := by decide +kernel
theorem dX7_read_98 : decode cX7_read 98 = .ok (.i2l, 1) := by decide +kernel
theorem dX7_read_99 : decode cX7_read 99 = .ok (.ladd, 1) := by decide +kernel
theorem dX7_read_100 : decode cX7_read 100 = .ok (.lconst 0, 1) := by decide +kernel
theorem dX7_read_101 : decode cX7_read 101 = .ok (.aload_n 0, 1) := by decide +kernel
theorem dX7_read_102 : decode cX7_read 102 = .ok (.getfield 60, 3) := by decide +kernel
theorem dX7_read_105 : decode cX7_read 105 = .ok (.iload_n 1, 1) := by decide +kernel
theorem dX7_read_106 : decode cX7_read 106 = .ok (.iaload, 1) := by decide +kernel
theorem dX7_read_107 : decode cX7_read 107 = .ok (.iconst 1, 1) := by decide +kernel
theorem dX7_read_108 : decode cX7_read 108 = .ok (.isub, 1) := by decide +kernel
theorem dX7_read_109 : decode cX7_read 109 = .ok (.i2l, 1) := by decide +kernel
theorem dX7_read_110 : decode cX7_read 110 = .ok (.invokestatic 68, 3) := by decide +kernel
theorem dX7_read_113 : decode cX7_read 113 = .ok (.ifCond .ne 7, 3) := by decide +kernel
theorem dX7_read_116 : decode cX7_read 116 = .ok (.iconst 2, 1) := by decide +kernel
theorem dX7_read_117 : decode cX7_read 117 = .ok (.goto 4, 3) := by decide +kernel
theorem dX7_read_120 : decode cX7_read 120 = .ok (.iconst 0, 1) := by decide +kernel
theorem dX7_read_121 : decode cX7_read 121 = .ok (.istore 5, 2) := by decide +kernel
theorem dX7_read_123 : decode cX7_read 123 = .ok (.iload 5, 2) := by decide +kernel
theorem dX7_read_125 : decode cX7_read 125 = .ok (.ifCond .ne (-72), 3) := by decide +kernel
theorem dX7_read_128 : decode cX7_read 128 = .ok (.aload_n 0, 1) := by decide +kernel
theorem dX7_read_129 : decode cX7_read 129 = .ok (.aload_n 0, 1) := by decide +kernel
theorem dX7_read_130 : decode cX7_read 130 = .ok (.getfield 63, 3) := by decide +kernel
theorem dX7_read_133 : decode cX7_read 133 = .ok (.bipush 40, 2) := by decide +kernel
theorem dX7_read_135 : decode cX7_read 135 = .ok (.iload_n 1, 1) := by decide +kernel
theorem dX7_read_136 : decode cX7_read 136 = .ok (.imul, 1) := by decide +kernel
theorem dX7_read_137 : decode cX7_read 137 = .ok (.iload_n 3, 1) := by decide +kernel
theorem dX7_read_138 : decode cX7_read 138 = .ok (.iadd, 1) := by decide +kernel
theorem dX7_read_139 : decode cX7_read 139 = .ok (.iload 6, 2) := by decide +kernel
theorem dX7_read_141 : decode cX7_read 141 = .ok (.iadd, 1) := by decide +kernel
theorem dX7_read_142 : decode cX7_read 142 = .ok (.iaload, 1) := by decide +kernel
theorem dX7_read_143 : decode cX7_read 143 = .ok (.bipush (-4), 2) := by decide +kernel
theorem dX7_read_145 : decode cX7_read 145 = .ok (.invokevirtual 220, 3) := by decide +kernel
theorem dX7_read_148 : decode cX7_read 148 = .ok (.ifCond .ge 17, 3) := by decide +kernel
theorem dX7_read_151 : decode cX7_read 151 = .ok (.aload_n 0, 1) := by decide +kernel
theorem dX7_read_152 : decode cX7_read 152 = .ok (.sipush 150, 3) := by decide +kernel
theorem dX7_read_155 : decode cX7_read 155 = .ok (.iconst 0, 1) := by decide +kernel
theorem dX7_read_156 : decode cX7_read 156 = .ok (.invokevirtual 271, 3) := by decide +kernel
theorem dX7_read_159 : decode cX7_read 159 = .ok (.bipush (-20), 2) := by decide +kernel
theorem dX7_read_161 : decode cX7_read 161 = .ok (.iload 6, 2) := by decide +kernel
theorem dX7_read_163 : decode cX7_read 163 = .ok (.isub, 1) := by decide +kernel
theorem dX7_read_164 : decode cX7_read 164 = .ok (.ireturn, 1) := by decide +kernel
theorem dX7_read_165 : decode cX7_read 165 = .ok (.iinc 6 1, 3) := by decide +kernel
theorem dX7_read_168 : decode cX7_read 168 = .ok (.goto (-115), 3) := by decide +kernel
theorem dX7_read_171 : decode cX7_read 171 = .ok (.aload_n 0, 1) := by decide +kernel
theorem dX7_read_172 : decode cX7_read 172 = .ok (.iload 5, 2) := by decide +kernel
theorem dX7_read_174 : decode cX7_read 174 = .ok (.putfield 283, 3) := by decide +kernel
theorem dX7_read_177 : decode cX7_read 177 = .ok (.iload 6, 2) := by decide +kernel
theorem dX7_read_179 : decode cX7_read 179 = .ok (.ireturn, 1) := by decide +kernel
set_option maxHeartbeats 4000000 in
set_option maxRecDepth 100000 in
theorem c_X7_read {l : Launch} {Y : ww_Y} {ad : Nat → Nat} {G : List ww_L} (o0 : Nat) (h0 : ww_at G o0 (ww_LModel o0)) (σ : ww_M) (p1 : Int32) (p2 : Int32) (p3 : Int32) (p4 : Int32) : ww_Cn l Y ad G yX7_read cX7_read 7 (some .int) 6 [.ref (ad o0), .int p1, .int p2, .int p3, .int p4] σ ((f_X7_read σ o0 p1 p2 p3 p4).bind ww_rw) := by
  refine ww_met (by decide +kernel) (Nat.le_of_ble_eq_true rfl) ?_
  intro X hC hR
  have hC : ww_C X l Y ad G 6 cX7_read 7 RX7 := hC
  show ww_V X Y ad G 7 σ 0 [(0, .ref (ad o0)), (1, .int p1), (2, .int p2), (3, .int p3), (4, .int p4)] [] ((f_X7_read σ o0 p1 p2 p3 p4).bind ww_rw)
  have hJ171 : ∀ (σ : ww_M) (x5 : Int32) (x6 : Int32), ww_V X Y ad G 7 σ 171 [(0, .ref (ad o0)), (5, .int x5), (6, .int x6)] [] ((f_X7_read_j171 σ o0 p1 p2 p3 p4 x5 x6).bind ww_rw) := by
    intro σ x5 x6
    unfold f_X7_read_j171
    refine ww_aload_n (pc := 171) hC 0 rfl dX7_read_171 rfl ?_
    refine ww_iload (pc := 172) hC 1 rfl dX7_read_172 ?_
    refine ww_puti (pc := 174) (Cl := RX7) (T := TX7) (N := 36) (j := 35) (ref := RX7) hC (h0 0 _ rfl) rfl inT_X7 (by decide) mw_911 rfl tyX7 tyX7_ok nmX7 rfl rfl (tyX7_ok 35 (by decide)) dX7_read_174 ?_
    refine ww_iload (pc := 177) hC 2 rfl dX7_read_177 ?_
    exact ww_ireturn (pc := 179) hC hR dX7_read_179 rfl
  have hJ53 : ∀ (σ : ww_M) (x5 : Int32) (x6 : Int32), ww_V X Y ad G 7 σ 53 [(0, .ref (ad o0)), (1, .int p1), (2, .int p2), (3, .int p3), (4, .int p4), (5, .int x5), (6, .int x6)] [] ((f_X7_read_j53 σ o0 p1 p2 p3 p4 x5 x6).bind ww_rw) := by
    intro σ x5 x6
    unfold f_X7_read_j53
    refine ww_assoc ?_
    refine ww_loopR (f := f_X7_read_b53 o0 p1 p2 p3 p4) (fun a53 => a53.2.2) (fun a53 => [(0, .ref (ad o0)), (1, .int p1), (2, .int p2), (3, .int p3), (4, .int p4), (5, .int a53.1), (6, .int a53.2.1)]) (fun b53 => b53.2.2) (fun b53 => [(0, .ref (ad o0)), (5, .int b53.1), (6, .int b53.2.1)]) 171 (fun b53 => ?_) (fun a53 KK53 hc53 hx53 hr53 => ?_) ww_F (x5, x6, σ)
    · exact hJ171 b53.2.2 b53.1 b53.2.1
    · unfold f_X7_read_b53
      have hJ121 : ∀ (σ : ww_M) (x6 : Int32) (s0 : Int32), ww_V X Y ad G 7 σ 121 [(0, .ref (ad o0)), (1, .int p1), (2, .int p2), (3, .int p3), (4, .int p4), (6, .int x6)] [.int s0] ((f_X7_read_j121 σ o0 p1 p2 p3 p4 x6 s0).bind KK53) := by
        intro σ x6 s0
        unfold f_X7_read_j121
        refine ww_istore (pc := 121) (lv' := [(5, .int s0), (0, .ref (ad o0)), (1, .int p1), (2, .int p2), (3, .int p3), (4, .int p4), (6, .int x6)]) hC dX7_read_121 (by decide) rfl ?_
        refine ww_iload (pc := 123) hC 0 rfl dX7_read_123 ?_
        refine ww_if_ne (pc := 125) (tgt := 53) hC dX7_read_125 (by decide) ?_ ?_
        · refine ww_lv [1, 2, 3, 4, 5, 0, 6] rfl ?_
          exact hc53 (s0, x6, σ)
        · refine ww_aload_n (pc := 128) hC 1 rfl dX7_read_128 rfl ?_
          refine ww_aload_n (pc := 129) hC 1 rfl dX7_read_129 rfl ?_
          refine ww_getr (pc := 130) (Cl := RX7) (T := TX7) (N := 36) (j := 34) (ref := RX7) hC (h0 0 _ rfl) rfl inT_X7 (by decide) mw_910 rfl rfl dX7_read_130 ?_
          refine ww_bipush (pc := 133) (v := 40) hC dX7_read_133 rfl ?_
          refine ww_iload_n (pc := 135) hC 2 rfl dX7_read_135 rfl ?_
          refine ww_imul (pc := 136) hC dX7_read_136 ?_
          refine ww_iload_n (pc := 137) hC 4 rfl dX7_read_137 rfl ?_
          refine ww_iadd (pc := 138) hC dX7_read_138 ?_
          refine ww_iload (pc := 139) hC 6 rfl dX7_read_139 ?_
          refine ww_iadd (pc := 141) hC dX7_read_141 ?_
          refine ww_iald (pc := 142) hC (h0 17 _ rfl) dX7_read_142 ?_
          refine ww_bipush (pc := 143) (v := (-4)) hC dX7_read_143 rfl ?_
          refine ww_callVw (pc := 145) (st := []) (As := [.int (σ (o0 + 17) (ww_ix (((40 * p1) + p3) + x6))), .int (-4)]) hC (c_X7_goes o0 h0 σ (σ (o0 + 17) (ww_ix (((40 * p1) + p3) + x6))) (-4)) mm_X7_goes mw_1152 (h0 0 _ rfl) rfl (by omega) (by decide) (Nat.le_of_ble_eq_true rfl) rfl dX7_read_145 (fun v145 => ?_)
          refine ww_if_ge (pc := 148) (tgt := 165) hC dX7_read_148 (by decide) ?_ ?_
          · refine ww_iinc (pc := 165) (v := x6 + 1) (lv' := [(6, .int (x6 + 1)), (5, .int s0), (0, .ref (ad o0)), (1, .int p1), (2, .int p2), (3, .int p3), (4, .int p4)]) hC 6 rfl dX7_read_165 rfl (by decide) rfl ?_
            refine ww_goto (pc := 168) (tgt := 53) hC dX7_read_168 (by decide) ?_
            refine ww_lv [2, 3, 4, 5, 6, 1, 0] rfl ?_
            exact hc53 (s0, x6 + 1, v145.2)
          · refine ww_aload_n (pc := 151) hC 1 rfl dX7_read_151 rfl ?_
            refine ww_sipush (pc := 152) (v := 150) hC dX7_read_152 rfl ?_
            refine ww_iconst (pc := 155) (v := 0) hC dX7_read_155 rfl ?_
            refine ww_callVv (pc := 156) (st := []) (As := [.int 150, .int 0]) hC (c_X7_copies o0 h0 v145.2 150 0) mm_X7_copies mw_1264 (h0 0 _ rfl) rfl (by omega) (by decide) (Nat.le_of_ble_eq_true rfl) rfl dX7_read_156 (fun v156 => ?_)
            refine ww_bipush (pc := 159) (v := (-20)) hC dX7_read_159 rfl ?_
            refine ww_iload (pc := 161) hC 6 rfl dX7_read_161 ?_
            refine ww_isub (pc := 163) hC dX7_read_163 ?_
            exact ww_ireturn (pc := 164) hC hR dX7_read_164 ((hr53 _).trans rfl)
      refine ww_iload (pc := 53) hC 6 rfl dX7_read_53 ?_
      refine ww_iload (pc := 55) hC 4 rfl dX7_read_55 ?_
      refine ww_icmp_ge (pc := 57) (tgt := 171) hC dX7_read_57 (by decide) ?_ ?_
      · refine ww_lv [0, 5, 6] rfl ?_
        exact hx53 (a53.1, a53.2.1, a53.2.2)
      · refine ww_iload (pc := 60) hC 5 rfl dX7_read_60 ?_
        refine ww_if_ne (pc := 62) (tgt := 171) hC dX7_read_62 (by decide) ?_ ?_
        · refine ww_lv [0, 5, 6] rfl ?_
          exact hx53 (a53.1, a53.2.1, a53.2.2)
        · refine ww_aload_n (pc := 65) hC 0 rfl dX7_read_65 rfl ?_
          refine ww_getr (pc := 66) (Cl := RX7) (T := TX7) (N := 36) (j := 32) (ref := RX7) hC (h0 0 _ rfl) rfl inT_X7 (by decide) mw_908 rfl rfl dX7_read_66 ?_
          refine ww_iload_n (pc := 69) hC 1 rfl dX7_read_69 rfl ?_
          refine ww_iald (pc := 70) hC (h0 15 _ rfl) dX7_read_70 ?_
          refine ww_bipush (pc := 71) (v := (-4)) hC dX7_read_71 rfl ?_
          refine ww_icmp_ne (pc := 73) (tgt := 80) hC dX7_read_73 (by decide) ?_ ?_
          · refine ww_aload_n (pc := 80) hC 0 rfl dX7_read_80 rfl ?_
            refine ww_getr (pc := 81) (Cl := RX7) (T := TX7) (N := 36) (j := 32) (ref := RX7) hC (h0 0 _ rfl) rfl inT_X7 (by decide) mw_908 rfl rfl dX7_read_81 ?_
            refine ww_iload_n (pc := 84) hC 1 rfl dX7_read_84 rfl ?_
            refine ww_iald (pc := 85) hC (h0 15 _ rfl) dX7_read_85 ?_
            refine ww_iload_n (pc := 86) hC 2 rfl dX7_read_86 rfl ?_
            refine ww_icmp_eq (pc := 87) (tgt := 94) hC dX7_read_87 (by decide) ?_ ?_
            · refine ww_iload_n (pc := 94) hC 3 rfl dX7_read_94 rfl ?_
              refine ww_i2l (pc := 95) hC dX7_read_95 ?_
              refine ww_iload (pc := 96) hC 6 rfl dX7_read_96 ?_
              refine ww_i2l (pc := 98) hC dX7_read_98 ?_
              refine ww_ladd (pc := 99) hC dX7_read_99 ?_
              refine ww_lconst (pc := 100) (v := 0) hC dX7_read_100 rfl ?_
              refine ww_aload_n (pc := 101) hC 0 rfl dX7_read_101 rfl ?_
              refine ww_getr (pc := 102) (Cl := RX7) (T := TX7) (N := 36) (j := 33) (ref := RX7) hC (h0 0 _ rfl) rfl inT_X7 (by decide) mw_909 rfl rfl dX7_read_102 ?_
              refine ww_iload_n (pc := 105) hC 1 rfl dX7_read_105 rfl ?_
              refine ww_iald (pc := 106) hC (h0 16 _ rfl) dX7_read_106 ?_
              refine ww_iconst (pc := 107) (v := 1) hC dX7_read_107 rfl ?_
              refine ww_isub (pc := 108) hC dX7_read_108 ?_
              refine ww_i2l (pc := 109) hC dX7_read_109 ?_
              refine ww_callSi (pc := 110) (st := []) (As := [.long (p3.toInt64 + a53.2.1.toInt64), .long 0, .long (((a53.2.2 (o0 + 16) (ww_ix p1)) - 1).toInt64)]) hC (c_X7_in a53.2.2 (p3.toInt64 + a53.2.1.toInt64) 0 (((a53.2.2 (o0 + 16) (ww_ix p1)) - 1).toInt64)) mm_X7_in mw_991 (by omega) (by decide) (Nat.le_of_ble_eq_true rfl) rfl dX7_read_110 (fun v110 => ?_)
              refine ww_if_ne (pc := 113) (tgt := 120) hC dX7_read_113 (by decide) ?_ ?_
              · refine ww_iconst (pc := 120) (v := 0) hC dX7_read_120 rfl ?_
                refine ww_lv [0, 1, 2, 3, 4, 6] rfl ?_
                exact hJ121 a53.2.2 a53.2.1 0
              · refine ww_iconst (pc := 116) (v := 2) hC dX7_read_116 rfl ?_
                refine ww_goto (pc := 117) (tgt := 121) hC dX7_read_117 (by decide) ?_
                refine ww_lv [0, 1, 2, 3, 4, 6] rfl ?_
                exact hJ121 a53.2.2 a53.2.1 2
            · refine ww_iconst (pc := 90) (v := 3) hC dX7_read_90 rfl ?_
              refine ww_goto (pc := 91) (tgt := 121) hC dX7_read_91 (by decide) ?_
              refine ww_lv [0, 1, 2, 3, 4, 6] rfl ?_
              exact hJ121 a53.2.2 a53.2.1 3
          · refine ww_iconst (pc := 76) (v := 1) hC dX7_read_76 rfl ?_
            refine ww_goto (pc := 77) (tgt := 121) hC dX7_read_77 (by decide) ?_
            refine ww_lv [0, 1, 2, 3, 4, 6] rfl ?_
            exact hJ121 a53.2.2 a53.2.1 1
  unfold f_X7_read
  refine ww_iload_n (pc := 0) hC 1 rfl dX7_read_0 rfl ?_
  refine ww_i2l (pc := 1) hC dX7_read_1 ?_
  refine ww_lconst (pc := 2) (v := 0) hC dX7_read_2 rfl ?_
  refine ww_ldc2 (pc := 3) hC dX7_read_3 mw_1130 ?_
  refine ww_callSi (pc := 6) (st := []) (As := [.long p1.toInt64, .long 0, .long 3]) hC (c_X7_in σ p1.toInt64 0 3) mm_X7_in mw_991 (by omega) (by decide) (Nat.le_of_ble_eq_true rfl) rfl dX7_read_6 (fun v6 => ?_)
  refine ww_if_eq (pc := 9) (tgt := 37) hC dX7_read_9 (by decide) ?_ ?_
  · refine ww_iconst (pc := 37) (v := (-1)) hC dX7_read_37 rfl ?_
    exact ww_ireturn (pc := 38) hC hR dX7_read_38 rfl
  · refine ww_iload_n (pc := 12) hC 2 rfl dX7_read_12 rfl ?_
    refine ww_i2l (pc := 13) hC dX7_read_13 ?_
    refine ww_lconst (pc := 14) (v := 0) hC dX7_read_14 rfl ?_
    refine ww_ldc2 (pc := 15) hC dX7_read_15 mw_1027 ?_
    refine ww_callSi (pc := 18) (st := []) (As := [.long p2.toInt64, .long 0, .long 2]) hC (c_X7_in σ p2.toInt64 0 2) mm_X7_in mw_991 (by omega) (by decide) (Nat.le_of_ble_eq_true rfl) rfl dX7_read_18 (fun v18 => ?_)
    refine ww_if_eq (pc := 21) (tgt := 37) hC dX7_read_21 (by decide) ?_ ?_
    · refine ww_iconst (pc := 37) (v := (-1)) hC dX7_read_37 rfl ?_
      exact ww_ireturn (pc := 38) hC hR dX7_read_38 rfl
    · refine ww_iload (pc := 24) hC 4 rfl dX7_read_24 ?_
      refine ww_i2l (pc := 26) hC dX7_read_26 ?_
      refine ww_lconst (pc := 27) (v := 0) hC dX7_read_27 rfl ?_
      refine ww_ldc2 (pc := 28) hC dX7_read_28 mw_1297 ?_
      refine ww_callSi (pc := 31) (st := []) (As := [.long p4.toInt64, .long 0, .long 20]) hC (c_X7_in σ p4.toInt64 0 20) mm_X7_in mw_991 (by omega) (by decide) (Nat.le_of_ble_eq_true rfl) rfl dX7_read_31 (fun v31 => ?_)
      refine ww_if_ne (pc := 34) (tgt := 39) hC dX7_read_34 (by decide) ?_ ?_
      · refine ww_aload_n (pc := 39) hC 0 rfl dX7_read_39 rfl ?_
        refine ww_iconst (pc := 40) (v := 0) hC dX7_read_40 rfl ?_
        refine ww_sipush (pc := 41) (v := 150) hC dX7_read_41 rfl ?_
        refine ww_callVv (pc := 44) (st := []) (As := [.int 0, .int 150]) hC (c_X7_copies o0 h0 σ 0 150) mm_X7_copies mw_1264 (h0 0 _ rfl) rfl (by omega) (by decide) (Nat.le_of_ble_eq_true rfl) rfl dX7_read_44 (fun v44 => ?_)
        refine ww_iconst (pc := 47) (v := 0) hC dX7_read_47 rfl ?_
        refine ww_istore (pc := 48) (lv' := [(5, .int 0), (0, .ref (ad o0)), (1, .int p1), (2, .int p2), (3, .int p3), (4, .int p4)]) hC dX7_read_48 (by decide) rfl ?_
        refine ww_iconst (pc := 50) (v := 0) hC dX7_read_50 rfl ?_
        refine ww_istore (pc := 51) (lv' := [(6, .int 0), (5, .int 0), (0, .ref (ad o0)), (1, .int p1), (2, .int p2), (3, .int p3), (4, .int p4)]) hC dX7_read_51 (by decide) rfl ?_
        refine ww_lv [2, 3, 4, 5, 6, 1, 0] rfl ?_
        exact hJ53 v44 0 0
      · refine ww_iconst (pc := 37) (v := (-1)) hC dX7_read_37 rfl ?_
        exact ww_ireturn (pc := 38) hC hR dX7_read_38 rfl
theorem dX7_torn_0 : decode cX7_torn 0 = .ok (.aload_n 0, 1) := by decide +kernel
theorem dX7_torn_1 : decode cX7_torn 1 = .ok (.getfield 283, 3) := by decide +kernel
theorem dX7_torn_4 : decode cX7_torn 4 = .ok (.ireturn, 1) := by decide +kernel
set_option maxHeartbeats 4000000 in
set_option maxRecDepth 100000 in
theorem c_X7_torn {l : Launch} {Y : ww_Y} {ad : Nat → Nat} {G : List ww_L} (o0 : Nat) (h0 : ww_at G o0 (ww_LModel o0)) (σ : ww_M) : ww_Cn l Y ad G yX7_torn cX7_torn 1 (some .int) 1 [.ref (ad o0)] σ ((f_X7_torn σ o0).bind (ww_ri σ)) := by
  refine ww_met (by decide +kernel) (Nat.le_of_ble_eq_true rfl) ?_
  intro X hC hR
  have hC : ww_C X l Y ad G 1 cX7_torn 1 RX7 := hC
  show ww_V X Y ad G 1 σ 0 [(0, .ref (ad o0))] [] ((f_X7_torn σ o0).bind (ww_ri σ))
  unfold f_X7_torn
  refine ww_aload_n (pc := 0) hC 0 rfl dX7_torn_0 rfl ?_
  refine ww_geti (pc := 1) (Cl := RX7) (T := TX7) (N := 36) (j := 35) (ref := RX7) hC (h0 0 _ rfl) rfl inT_X7 (by decide) mw_911 rfl rfl dX7_torn_1 ?_
  exact ww_ireturn (pc := 4) hC hR dX7_torn_4 rfl
theorem dX7_cutMany_0 : decode cX7_cutMany 0 = .ok (.iconst 0, 1) := by decide +kernel
theorem dX7_cutMany_1 : decode cX7_cutMany 1 = .ok (.istore_n 1, 1) := by decide +kernel
theorem dX7_cutMany_2 : decode cX7_cutMany 2 = .ok (.iconst 0, 1) := by decide +kernel
theorem dX7_cutMany_3 : decode cX7_cutMany 3 = .ok (.istore_n 2, 1) := by decide +kernel
theorem dX7_cutMany_4 : decode cX7_cutMany 4 = .ok (.iload_n 2, 1) := by decide +kernel
theorem dX7_cutMany_5 : decode cX7_cutMany 5 = .ok (.bipush 30, 2) := by decide +kernel
theorem dX7_cutMany_7 : decode cX7_cutMany 7 = .ok (.if_icmp .ge 39, 3) := by decide +kernel
theorem dX7_cutMany_10 : decode cX7_cutMany 10 = .ok (.iload_n 1, 1) := by decide +kernel
theorem dX7_cutMany_11 : decode cX7_cutMany 11 = .ok (.aload_n 0, 1) := by decide +kernel
theorem dX7_cutMany_12 : decode cX7_cutMany 12 = .ok (.iload_n 2, 1) := by decide +kernel
theorem dX7_cutMany_13 : decode cX7_cutMany 13 = .ok (.invokevirtual 191, 3) := by decide +kernel
theorem dX7_cutMany_16 : decode cX7_cutMany 16 = .ok (.ifCond .eq 21, 3) := by decide +kernel
theorem dX7_cutMany_19 : decode cX7_cutMany 19 = .ok (.aload_n 0, 1) := by decide +kernel
theorem dX7_cutMany_20 : decode cX7_cutMany 20 = .ok (.getfield 7, 3) := by decide +kernel
theorem dX7_cutMany_23 : decode cX7_cutMany 23 = .ok (.iload_n 2, 1) := by decide +kernel
theorem dX7_cutMany_24 : decode cX7_cutMany 24 = .ok (.invokestatic 188, 3) := by decide +kernel
theorem dX7_cutMany_27 : decode cX7_cutMany 27 = .ok (.iconst 1, 1) := by decide +kernel
theorem dX7_cutMany_28 : decode cX7_cutMany 28 = .ok (.iadd, 1) := by decide +kernel
theorem dX7_cutMany_29 : decode cX7_cutMany 29 = .ok (.iaload, 1) := by decide +kernel
theorem dX7_cutMany_30 : decode cX7_cutMany 30 = .ok (.ifCond .ne 7, 3) := by decide +kernel
theorem dX7_cutMany_33 : decode cX7_cutMany 33 = .ok (.iconst 1, 1) := by decide +kernel
theorem dX7_cutMany_34 : decode cX7_cutMany 34 = .ok (.goto 4, 3) := by decide +kernel
theorem dX7_cutMany_37 : decode cX7_cutMany 37 = .ok (.iconst 0, 1) := by decide +kernel
theorem dX7_cutMany_38 : decode cX7_cutMany 38 = .ok (.iadd, 1) := by decide +kernel
theorem dX7_cutMany_39 : decode cX7_cutMany 39 = .ok (.istore_n 1, 1) := by decide +kernel
theorem dX7_cutMany_40 : decode cX7_cutMany 40 = .ok (.iinc 2 1, 3) := by decide +kernel
theorem dX7_cutMany_43 : decode cX7_cutMany 43 = .ok (.goto (-39), 3) := by decide +kernel
theorem dX7_cutMany_46 : decode cX7_cutMany 46 = .ok (.iload_n 1, 1) := by decide +kernel
theorem dX7_cutMany_47 : decode cX7_cutMany 47 = .ok (.ireturn, 1) := by decide +kernel
set_option maxHeartbeats 4000000 in
set_option maxRecDepth 100000 in
theorem c_X7_cutMany {l : Launch} {Y : ww_Y} {ad : Nat → Nat} {G : List ww_L} (o0 : Nat) (h0 : ww_at G o0 (ww_LModel o0)) (σ : ww_M) : ww_Cn l Y ad G yX7_cutMany cX7_cutMany 3 (some .int) 4 [.ref (ad o0)] σ ((f_X7_cutMany σ o0).bind (ww_ri σ)) := by
  refine ww_met (by decide +kernel) (Nat.le_of_ble_eq_true rfl) ?_
  intro X hC hR
  have hC : ww_C X l Y ad G 4 cX7_cutMany 3 RX7 := hC
  show ww_V X Y ad G 3 σ 0 [(0, .ref (ad o0))] [] ((f_X7_cutMany σ o0).bind (ww_ri σ))
  have hJ46 : ∀ (x1 : Int32), ww_V X Y ad G 3 σ 46 [(1, .int x1)] [] ((f_X7_cutMany_j46 σ o0 x1).bind (ww_ri σ)) := by
    intro x1
    unfold f_X7_cutMany_j46
    refine ww_iload_n (pc := 46) hC 0 rfl dX7_cutMany_46 rfl ?_
    exact ww_ireturn (pc := 47) hC hR dX7_cutMany_47 rfl
  have hJ4 : ∀ (x1 : Int32) (x2 : Int32), ww_V X Y ad G 3 σ 4 [(0, .ref (ad o0)), (1, .int x1), (2, .int x2)] [] ((f_X7_cutMany_j4 σ o0 x1 x2).bind (ww_ri σ)) := by
    intro x1 x2
    unfold f_X7_cutMany_j4
    refine ww_assoc ?_
    refine ww_loop (f := f_X7_cutMany_b4 σ o0) (fun a4 => σ) (fun a4 => [(0, .ref (ad o0)), (1, .int a4.1), (2, .int a4.2)]) (fun b4 => σ) (fun b4 => [(1, .int b4)]) 46 (fun b4 => ?_) (fun a4 KK4 hc4 hx4 => ?_) ww_F (x1, x2)
    · exact hJ46 b4
    · unfold f_X7_cutMany_b4
      refine ww_iload_n (pc := 4) hC 2 rfl dX7_cutMany_4 rfl ?_
      refine ww_bipush (pc := 5) (v := 30) hC dX7_cutMany_5 rfl ?_
      refine ww_icmp_ge (pc := 7) (tgt := 46) hC dX7_cutMany_7 (by decide) ?_ ?_
      · refine ww_lv [1] rfl ?_
        exact hx4 a4.1
      · refine ww_iload_n (pc := 10) hC 1 rfl dX7_cutMany_10 rfl ?_
        refine ww_aload_n (pc := 11) hC 0 rfl dX7_cutMany_11 rfl ?_
        refine ww_iload_n (pc := 12) hC 2 rfl dX7_cutMany_12 rfl ?_
        refine ww_callVi (pc := 13) (st := [.int a4.1]) (As := [.int a4.2]) hC (c_X7_isPart o0 h0 σ a4.2) mm_X7_isPart mw_1098 (h0 0 _ rfl) rfl (by omega) (by decide) (Nat.le_of_ble_eq_true rfl) rfl dX7_cutMany_13 (fun v13 => ?_)
        refine ww_if_eq (pc := 16) (tgt := 37) hC dX7_cutMany_16 (by decide) ?_ ?_
        · refine ww_iconst (pc := 37) (v := 0) hC dX7_cutMany_37 rfl ?_
          refine ww_iadd (pc := 38) hC dX7_cutMany_38 ?_
          refine ww_istore_n (pc := 39) (lv' := [(1, .int (a4.1 + 0)), (0, .ref (ad o0)), (2, .int a4.2)]) hC dX7_cutMany_39 rfl (by decide) rfl ?_
          refine ww_iinc (pc := 40) (v := a4.2 + 1) (lv' := [(2, .int (a4.2 + 1)), (1, .int (a4.1 + 0)), (0, .ref (ad o0))]) hC 2 rfl dX7_cutMany_40 rfl (by decide) rfl ?_
          refine ww_goto (pc := 43) (tgt := 4) hC dX7_cutMany_43 (by decide) ?_
          refine ww_lv [2, 1, 0] rfl ?_
          exact hc4 (a4.1 + 0, a4.2 + 1)
        · refine ww_aload_n (pc := 19) hC 0 rfl dX7_cutMany_19 rfl ?_
          refine ww_getr (pc := 20) (Cl := RX7) (T := TX7) (N := 36) (j := 0) (ref := RX7) hC (h0 0 _ rfl) rfl inT_X7 (by decide) mw_876 rfl rfl dX7_cutMany_20 ?_
          refine ww_iload_n (pc := 23) hC 2 rfl dX7_cutMany_23 rfl ?_
          refine ww_callSi (pc := 24) (st := [.ref (ad (o0 + 1)), .int a4.1]) (As := [.int a4.2]) hC (c_X7_partAt σ a4.2) mm_X7_partAt mw_1102 (by omega) (by decide) (Nat.le_of_ble_eq_true rfl) rfl dX7_cutMany_24 (fun v24 => ?_)
          refine ww_iconst (pc := 27) (v := 1) hC dX7_cutMany_27 rfl ?_
          refine ww_iadd (pc := 28) hC dX7_cutMany_28 ?_
          refine ww_iald (pc := 29) hC (h0 1 _ rfl) dX7_cutMany_29 ?_
          refine ww_if_ne (pc := 30) (tgt := 37) hC dX7_cutMany_30 (by decide) ?_ ?_
          · refine ww_iconst (pc := 37) (v := 0) hC dX7_cutMany_37 rfl ?_
            refine ww_iadd (pc := 38) hC dX7_cutMany_38 ?_
            refine ww_istore_n (pc := 39) (lv' := [(1, .int (a4.1 + 0)), (0, .ref (ad o0)), (2, .int a4.2)]) hC dX7_cutMany_39 rfl (by decide) rfl ?_
            refine ww_iinc (pc := 40) (v := a4.2 + 1) (lv' := [(2, .int (a4.2 + 1)), (1, .int (a4.1 + 0)), (0, .ref (ad o0))]) hC 2 rfl dX7_cutMany_40 rfl (by decide) rfl ?_
            refine ww_goto (pc := 43) (tgt := 4) hC dX7_cutMany_43 (by decide) ?_
            refine ww_lv [2, 1, 0] rfl ?_
            exact hc4 (a4.1 + 0, a4.2 + 1)
          · refine ww_iconst (pc := 33) (v := 1) hC dX7_cutMany_33 rfl ?_
            refine ww_goto (pc := 34) (tgt := 38) hC dX7_cutMany_34 (by decide) ?_
            refine ww_iadd (pc := 38) hC dX7_cutMany_38 ?_
            refine ww_istore_n (pc := 39) (lv' := [(1, .int (a4.1 + 1)), (0, .ref (ad o0)), (2, .int a4.2)]) hC dX7_cutMany_39 rfl (by decide) rfl ?_
            refine ww_iinc (pc := 40) (v := a4.2 + 1) (lv' := [(2, .int (a4.2 + 1)), (1, .int (a4.1 + 1)), (0, .ref (ad o0))]) hC 2 rfl dX7_cutMany_40 rfl (by decide) rfl ?_
            refine ww_goto (pc := 43) (tgt := 4) hC dX7_cutMany_43 (by decide) ?_
            refine ww_lv [2, 1, 0] rfl ?_
            exact hc4 (a4.1 + 1, a4.2 + 1)
  unfold f_X7_cutMany
  refine ww_iconst (pc := 0) (v := 0) hC dX7_cutMany_0 rfl ?_
  refine ww_istore_n (pc := 1) (lv' := [(1, .int 0), (0, .ref (ad o0))]) hC dX7_cutMany_1 rfl (by decide) rfl ?_
  refine ww_iconst (pc := 2) (v := 0) hC dX7_cutMany_2 rfl ?_
  refine ww_istore_n (pc := 3) (lv' := [(2, .int 0), (1, .int 0), (0, .ref (ad o0))]) hC dX7_cutMany_3 rfl (by decide) rfl ?_
  refine ww_lv [2, 1, 0] rfl ?_
  exact hJ4 0 0
theorem dX7_count_0 : decode cX7_count 0 = .ok (.iload_n 1, 1) := by decide +kernel
theorem dX7_count_1 : decode cX7_count 1 = .ok (.tableswitch 112 0 5 #[39, 44, 74, 79, 102, 107], 39) := by decide +kernel
theorem dX7_count_40 : decode cX7_count 40 = .ok (.aload_n 0, 1) := by decide +kernel
theorem dX7_count_41 : decode cX7_count 41 = .ok (.getfield 162, 3) := by decide +kernel
theorem dX7_count_44 : decode cX7_count 44 = .ok (.ireturn, 1) := by decide +kernel
theorem dX7_count_45 : decode cX7_count 45 = .ok (.aload_n 0, 1) := by decide +kernel
theorem dX7_count_46 : decode cX7_count 46 = .ok (.getfield 53, 3) := by decide +kernel
theorem dX7_count_49 : decode cX7_count 49 = .ok (.iconst 0, 1) := by decide +kernel
theorem dX7_count_50 : decode cX7_count 50 = .ok (.baload, 1) := by decide +kernel
theorem dX7_count_51 : decode cX7_count 51 = .ok (.ifCond .eq 7, 3) := by decide +kernel
theorem dX7_count_54 : decode cX7_count 54 = .ok (.iconst 1, 1) := by decide +kernel
theorem dX7_count_55 : decode cX7_count 55 = .ok (.goto 4, 3) := by decide +kernel
theorem dX7_count_58 : decode cX7_count 58 = .ok (.iconst 0, 1) := by decide +kernel
theorem dX7_count_59 : decode cX7_count 59 = .ok (.aload_n 0, 1) := by decide +kernel
theorem dX7_count_60 : decode cX7_count 60 = .ok (.getfield 53, 3) := by decide +kernel
theorem dX7_count_63 : decode cX7_count 63 = .ok (.iconst 1, 1) := by decide +kernel
theorem dX7_count_64 : decode cX7_count 64 = .ok (.baload, 1) := by decide +kernel
theorem dX7_count_65 : decode cX7_count 65 = .ok (.ifCond .eq 7, 3) := by decide +kernel
theorem dX7_count_68 : decode cX7_count 68 = .ok (.iconst 1, 1) := by decide +kernel
theorem dX7_count_69 : decode cX7_count 69 = .ok (.goto 4, 3) := by decide +kernel
theorem dX7_count_72 : decode cX7_count 72 = .ok (.iconst 0, 1) := by decide +kernel
theorem dX7_count_73 : decode cX7_count 73 = .ok (.iadd, 1) := by decide +kernel
theorem dX7_count_74 : decode cX7_count 74 = .ok (.ireturn, 1) := by decide +kernel
theorem dX7_count_75 : decode cX7_count 75 = .ok (.aload_n 0, 1) := by decide +kernel
theorem dX7_count_76 : decode cX7_count 76 = .ok (.getfield 72, 3) := by decide +kernel
theorem dX7_count_79 : decode cX7_count 79 = .ok (.ireturn, 1) := by decide +kernel
theorem dX7_count_80 : decode cX7_count 80 = .ok (.aload_n 0, 1) := by decide +kernel
theorem dX7_count_81 : decode cX7_count 81 = .ok (.getfield 57, 3) := by decide +kernel
theorem dX7_count_84 : decode cX7_count 84 = .ok (.iconst 0, 1) := by decide +kernel
theorem dX7_count_85 : decode cX7_count 85 = .ok (.iaload, 1) := by decide +kernel
theorem dX7_count_86 : decode cX7_count 86 = .ok (.bipush (-4), 2) := by decide +kernel
theorem dX7_count_88 : decode cX7_count 88 = .ok (.if_icmp .ne 8, 3) := by decide +kernel
theorem dX7_count_91 : decode cX7_count 91 = .ok (.bipush (-4), 2) := by decide +kernel
theorem dX7_count_93 : decode cX7_count 93 = .ok (.goto 9, 3) := by decide +kernel
theorem dX7_count_96 : decode cX7_count 96 = .ok (.aload_n 0, 1) := by decide +kernel
theorem dX7_count_97 : decode cX7_count 97 = .ok (.getfield 60, 3) := by decide +kernel
theorem dX7_count_100 : decode cX7_count 100 = .ok (.iconst 0, 1) := by decide +kernel
theorem dX7_count_101 : decode cX7_count 101 = .ok (.iaload, 1) := by decide +kernel
theorem dX7_count_102 : decode cX7_count 102 = .ok (.ireturn, 1) := by decide +kernel
theorem dX7_count_103 : decode cX7_count 103 = .ok (.aload_n 0, 1) := by decide +kernel
theorem dX7_count_104 : decode cX7_count 104 = .ok (.invokevirtual 286, 3) := by decide +kernel
theorem dX7_count_107 : decode cX7_count 107 = .ok (.ireturn, 1) := by decide +kernel
theorem dX7_count_108 : decode cX7_count 108 = .ok (.aload_n 0, 1) := by decide +kernel
theorem dX7_count_109 : decode cX7_count 109 = .ok (.invokevirtual 278, 3) := by decide +kernel
theorem dX7_count_112 : decode cX7_count 112 = .ok (.ireturn, 1) := by decide +kernel
theorem dX7_count_113 : decode cX7_count 113 = .ok (.iconst (-1), 1) := by decide +kernel
theorem dX7_count_114 : decode cX7_count 114 = .ok (.ireturn, 1) := by decide +kernel
set_option maxHeartbeats 4000000 in
set_option maxRecDepth 100000 in
theorem c_X7_count {l : Launch} {Y : ww_Y} {ad : Nat → Nat} {G : List ww_L} (o0 : Nat) (h0 : ww_at G o0 (ww_LModel o0)) (σ : ww_M) (p1 : Int32) : ww_Cn l Y ad G yX7_count cX7_count 2 (some .int) 5 [.ref (ad o0), .int p1] σ ((f_X7_count σ o0 p1).bind (ww_ri σ)) := by
  refine ww_met (by decide +kernel) (Nat.le_of_ble_eq_true rfl) ?_
  intro X hC hR
  have hC : ww_C X l Y ad G 5 cX7_count 2 RX7 := hC
  show ww_V X Y ad G 2 σ 0 [(0, .ref (ad o0)), (1, .int p1)] [] ((f_X7_count σ o0 p1).bind (ww_ri σ))
  have hJ59 : ∀ (s0 : Int32), ww_V X Y ad G 2 σ 59 [(0, .ref (ad o0))] [.int s0] ((f_X7_count_j59 σ o0 p1 s0).bind (ww_ri σ)) := by
    intro s0
    unfold f_X7_count_j59
    refine ww_aload_n (pc := 59) hC 0 rfl dX7_count_59 rfl ?_
    refine ww_getr (pc := 60) (Cl := RX7) (T := TX7) (N := 36) (j := 31) (ref := RX7) hC (h0 0 _ rfl) rfl inT_X7 (by decide) mw_907 rfl rfl dX7_count_60 ?_
    refine ww_iconst (pc := 63) (v := 1) hC dX7_count_63 rfl ?_
    refine ww_zald_c (pc := 64) (j := 1) hC (h0 14 _ rfl) (by decide) rfl dX7_count_64 ?_
    refine ww_if_eq (pc := 65) (tgt := 72) hC dX7_count_65 (by decide) ?_ ?_
    · refine ww_iconst (pc := 72) (v := 0) hC dX7_count_72 rfl ?_
      refine ww_iadd (pc := 73) hC dX7_count_73 ?_
      exact ww_ireturn (pc := 74) hC hR dX7_count_74 rfl
    · refine ww_iconst (pc := 68) (v := 1) hC dX7_count_68 rfl ?_
      refine ww_goto (pc := 69) (tgt := 73) hC dX7_count_69 (by decide) ?_
      refine ww_iadd (pc := 73) hC dX7_count_73 ?_
      exact ww_ireturn (pc := 74) hC hR dX7_count_74 rfl
  unfold f_X7_count
  refine ww_iload_n (pc := 0) hC 1 rfl dX7_count_0 rfl ?_
  refine ww_tab (pc := 1) (tgt := 40) hC 0 dX7_count_1 (by decide) (by decide) rfl (by decide) ?_ (fun q1_0 => ?_)
  · refine ww_aload_n (pc := 40) hC 0 rfl dX7_count_40 rfl ?_
    refine ww_geti (pc := 41) (Cl := RX7) (T := TX7) (N := 36) (j := 30) (ref := RX7) hC (h0 0 _ rfl) rfl inT_X7 (by decide) mw_906 rfl rfl dX7_count_41 ?_
    exact ww_ireturn (pc := 44) hC hR dX7_count_44 rfl
  refine ww_tab (pc := 1) (tgt := 45) hC 1 dX7_count_1 (by decide) (by decide) rfl (by decide) ?_ (fun q1_1 => ?_)
  · refine ww_aload_n (pc := 45) hC 0 rfl dX7_count_45 rfl ?_
    refine ww_getr (pc := 46) (Cl := RX7) (T := TX7) (N := 36) (j := 31) (ref := RX7) hC (h0 0 _ rfl) rfl inT_X7 (by decide) mw_907 rfl rfl dX7_count_46 ?_
    refine ww_iconst (pc := 49) (v := 0) hC dX7_count_49 rfl ?_
    refine ww_zald_c (pc := 50) (j := 0) hC (h0 14 _ rfl) (by decide) rfl dX7_count_50 ?_
    refine ww_if_eq (pc := 51) (tgt := 58) hC dX7_count_51 (by decide) ?_ ?_
    · refine ww_iconst (pc := 58) (v := 0) hC dX7_count_58 rfl ?_
      refine ww_lv [0] rfl ?_
      exact hJ59 0
    · refine ww_iconst (pc := 54) (v := 1) hC dX7_count_54 rfl ?_
      refine ww_goto (pc := 55) (tgt := 59) hC dX7_count_55 (by decide) ?_
      refine ww_lv [0] rfl ?_
      exact hJ59 1
  refine ww_tab (pc := 1) (tgt := 75) hC 2 dX7_count_1 (by decide) (by decide) rfl (by decide) ?_ (fun q1_2 => ?_)
  · refine ww_aload_n (pc := 75) hC 0 rfl dX7_count_75 rfl ?_
    refine ww_geti (pc := 76) (Cl := RX7) (T := TX7) (N := 36) (j := 14) (ref := RX7) hC (h0 0 _ rfl) rfl inT_X7 (by decide) mw_890 rfl rfl dX7_count_76 ?_
    exact ww_ireturn (pc := 79) hC hR dX7_count_79 rfl
  refine ww_tab (pc := 1) (tgt := 80) hC 3 dX7_count_1 (by decide) (by decide) rfl (by decide) ?_ (fun q1_3 => ?_)
  · refine ww_aload_n (pc := 80) hC 0 rfl dX7_count_80 rfl ?_
    refine ww_getr (pc := 81) (Cl := RX7) (T := TX7) (N := 36) (j := 32) (ref := RX7) hC (h0 0 _ rfl) rfl inT_X7 (by decide) mw_908 rfl rfl dX7_count_81 ?_
    refine ww_iconst (pc := 84) (v := 0) hC dX7_count_84 rfl ?_
    refine ww_iald_c (pc := 85) (j := 0) hC (h0 15 _ rfl) (by decide) rfl dX7_count_85 ?_
    refine ww_bipush (pc := 86) (v := (-4)) hC dX7_count_86 rfl ?_
    refine ww_icmp_ne (pc := 88) (tgt := 96) hC dX7_count_88 (by decide) ?_ ?_
    · refine ww_aload_n (pc := 96) hC 0 rfl dX7_count_96 rfl ?_
      refine ww_getr (pc := 97) (Cl := RX7) (T := TX7) (N := 36) (j := 33) (ref := RX7) hC (h0 0 _ rfl) rfl inT_X7 (by decide) mw_909 rfl rfl dX7_count_97 ?_
      refine ww_iconst (pc := 100) (v := 0) hC dX7_count_100 rfl ?_
      refine ww_iald_c (pc := 101) (j := 0) hC (h0 16 _ rfl) (by decide) rfl dX7_count_101 ?_
      exact ww_ireturn (pc := 102) hC hR dX7_count_102 rfl
    · refine ww_bipush (pc := 91) (v := (-4)) hC dX7_count_91 rfl ?_
      refine ww_goto (pc := 93) (tgt := 102) hC dX7_count_93 (by decide) ?_
      exact ww_ireturn (pc := 102) hC hR dX7_count_102 rfl
  refine ww_tab (pc := 1) (tgt := 103) hC 4 dX7_count_1 (by decide) (by decide) rfl (by decide) ?_ (fun q1_4 => ?_)
  · refine ww_aload_n (pc := 103) hC 0 rfl dX7_count_103 rfl ?_
    refine ww_callVi (pc := 104) (st := []) (As := []) hC (c_X7_cutMany o0 h0 σ) mm_X7_cutMany mw_1306 (h0 0 _ rfl) rfl (by omega) (by decide) (Nat.le_of_ble_eq_true rfl) rfl dX7_count_104 (fun v104 => ?_)
    exact ww_ireturn (pc := 107) hC hR dX7_count_107 rfl
  refine ww_tab (pc := 1) (tgt := 108) hC 5 dX7_count_1 (by decide) (by decide) rfl (by decide) ?_ (fun q1_5 => ?_)
  · refine ww_aload_n (pc := 108) hC 0 rfl dX7_count_108 rfl ?_
    refine ww_callVi (pc := 109) (st := []) (As := []) hC (c_X7_lostMany o0 h0 σ) mm_X7_lostMany mw_1273 (h0 0 _ rfl) rfl (by omega) (by decide) (Nat.le_of_ble_eq_true rfl) rfl dX7_count_109 (fun v109 => ?_)
    exact ww_ireturn (pc := 112) hC hR dX7_count_112 rfl
  have z1_0 : p1.toInt ≠ (0 : Int) := ww_nei q1_0
  have z1_1 : p1.toInt ≠ (1 : Int) := ww_nei q1_1
  have z1_2 : p1.toInt ≠ (2 : Int) := ww_nei q1_2
  have z1_3 : p1.toInt ≠ (3 : Int) := ww_nei q1_3
  have z1_4 : p1.toInt ≠ (4 : Int) := ww_nei q1_4
  have z1_5 : p1.toInt ≠ (5 : Int) := ww_nei q1_5
  refine ww_tabD (pc := 1) (tgt := 113) hC dX7_count_1 (by omega) (by decide) ?_
  refine ww_iconst (pc := 113) (v := (-1)) hC dX7_count_113 rfl ?_
  exact ww_ireturn (pc := 114) hC hR dX7_count_114 rfl
