theorem dX7_byWork_0 : decode cX7_byWork 0 = .ok (.iload_n 2, 1) := by decide +kernel
theorem dX7_byWork_1 : decode cX7_byWork 1 = .ok (.istore 5, 2) := by decide +kernel
theorem dX7_byWork_3 : decode cX7_byWork 3 = .ok (.iconst 0, 1) := by decide +kernel
theorem dX7_byWork_4 : decode cX7_byWork 4 = .ok (.istore 6, 2) := by decide +kernel
theorem dX7_byWork_6 : decode cX7_byWork 6 = .ok (.iconst 1, 1) := by decide +kernel
theorem dX7_byWork_7 : decode cX7_byWork 7 = .ok (.istore 7, 2) := by decide +kernel
theorem dX7_byWork_9 : decode cX7_byWork 9 = .ok (.iconst 0, 1) := by decide +kernel
theorem dX7_byWork_10 : decode cX7_byWork 10 = .ok (.istore 8, 2) := by decide +kernel
theorem dX7_byWork_12 : decode cX7_byWork 12 = .ok (.iload 8, 2) := by decide +kernel
theorem dX7_byWork_14 : decode cX7_byWork 14 = .ok (.iconst 2, 1) := by decide +kernel
theorem dX7_byWork_15 : decode cX7_byWork 15 = .ok (.if_icmp .ge 135, 3) := by decide +kernel
theorem dX7_byWork_18 : decode cX7_byWork 18 = .ok (.iload 8, 2) := by decide +kernel
theorem dX7_byWork_20 : decode cX7_byWork 20 = .ok (.ifCond .ne 7, 3) := by decide +kernel
theorem dX7_byWork_23 : decode cX7_byWork 23 = .ok (.iload_n 3, 1) := by decide +kernel
theorem dX7_byWork_24 : decode cX7_byWork 24 = .ok (.goto 5, 3) := by decide +kernel
theorem dX7_byWork_27 : decode cX7_byWork 27 = .ok (.iload 4, 2) := by decide +kernel
theorem dX7_byWork_29 : decode cX7_byWork 29 = .ok (.istore 9, 2) := by decide +kernel
theorem dX7_byWork_31 : decode cX7_byWork 31 = .ok (.iload 9, 2) := by decide +kernel
theorem dX7_byWork_33 : decode cX7_byWork 33 = .ok (.aload_n 0, 1) := by decide +kernel
theorem dX7_byWork_34 : decode cX7_byWork 34 = .ok (.getfield 223, 3) := by decide +kernel
theorem dX7_byWork_37 : decode cX7_byWork 37 = .ok (.if_icmp .ge 107, 3) := by decide +kernel
theorem dX7_byWork_40 : decode cX7_byWork 40 = .ok (.iload 7, 2) := by decide +kernel
theorem dX7_byWork_42 : decode cX7_byWork 42 = .ok (.ifCond .eq 31, 3) := by decide +kernel
theorem dX7_byWork_45 : decode cX7_byWork 45 = .ok (.aload_n 0, 1) := by decide +kernel
theorem dX7_byWork_46 : decode cX7_byWork 46 = .ok (.getfield 47, 3) := by decide +kernel
theorem dX7_byWork_49 : decode cX7_byWork 49 = .ok (.iload_n 1, 1) := by decide +kernel
theorem dX7_byWork_50 : decode cX7_byWork 50 = .ok (.iaload, 1) := by decide +kernel
theorem dX7_byWork_51 : decode cX7_byWork 51 = .ok (.iload 9, 2) := by decide +kernel
theorem dX7_byWork_53 : decode cX7_byWork 53 = .ok (.ishr, 1) := by decide +kernel
theorem dX7_byWork_54 : decode cX7_byWork 54 = .ok (.iconst 1, 1) := by decide +kernel
theorem dX7_byWork_55 : decode cX7_byWork 55 = .ok (.iand, 1) := by decide +kernel
theorem dX7_byWork_56 : decode cX7_byWork 56 = .ok (.iconst 1, 1) := by decide +kernel
theorem dX7_byWork_57 : decode cX7_byWork 57 = .ok (.if_icmp .ne 16, 3) := by decide +kernel
theorem dX7_byWork_60 : decode cX7_byWork 60 = .ok (.iload_n 2, 1) := by decide +kernel
theorem dX7_byWork_61 : decode cX7_byWork 61 = .ok (.iload 9, 2) := by decide +kernel
theorem dX7_byWork_63 : decode cX7_byWork 63 = .ok (.invokestatic 226, 3) := by decide +kernel
theorem dX7_byWork_66 : decode cX7_byWork 66 = .ok (.ifCond .le 7, 3) := by decide +kernel
theorem dX7_byWork_69 : decode cX7_byWork 69 = .ok (.iconst 1, 1) := by decide +kernel
theorem dX7_byWork_70 : decode cX7_byWork 70 = .ok (.goto 4, 3) := by decide +kernel
theorem dX7_byWork_73 : decode cX7_byWork 73 = .ok (.iconst 0, 1) := by decide +kernel
theorem dX7_byWork_74 : decode cX7_byWork 74 = .ok (.istore 7, 2) := by decide +kernel
theorem dX7_byWork_76 : decode cX7_byWork 76 = .ok (.iload 5, 2) := by decide +kernel
theorem dX7_byWork_78 : decode cX7_byWork 78 = .ok (.iload 7, 2) := by decide +kernel
theorem dX7_byWork_80 : decode cX7_byWork 80 = .ok (.ifCond .eq 12, 3) := by decide +kernel
theorem dX7_byWork_83 : decode cX7_byWork 83 = .ok (.iconst 1, 1) := by decide +kernel
theorem dX7_byWork_84 : decode cX7_byWork 84 = .ok (.iconst 2, 1) := by decide +kernel
theorem dX7_byWork_85 : decode cX7_byWork 85 = .ok (.iload 9, 2) := by decide +kernel
theorem dX7_byWork_87 : decode cX7_byWork 87 = .ok (.imul, 1) := by decide +kernel
theorem dX7_byWork_88 : decode cX7_byWork 88 = .ok (.ishl, 1) := by decide +kernel
theorem dX7_byWork_89 : decode cX7_byWork 89 = .ok (.goto 4, 3) := by decide +kernel
theorem dX7_byWork_92 : decode cX7_byWork 92 = .ok (.iconst 0, 1) := by decide +kernel
theorem dX7_byWork_93 : decode cX7_byWork 93 = .ok (.isub, 1) := by decide +kernel
theorem dX7_byWork_94 : decode cX7_byWork 94 = .ok (.istore 5, 2) := by decide +kernel
theorem dX7_byWork_96 : decode cX7_byWork 96 = .ok (.iload 6, 2) := by decide +kernel
theorem dX7_byWork_98 : decode cX7_byWork 98 = .ok (.iload 7, 2) := by decide +kernel
theorem dX7_byWork_100 : decode cX7_byWork 100 = .ok (.ifCond .eq 40, 3) := by decide +kernel
theorem dX7_byWork_103 : decode cX7_byWork 103 = .ok (.iload_n 2, 1) := by decide +kernel
theorem dX7_byWork_104 : decode cX7_byWork 104 = .ok (.iload 9, 2) := by decide +kernel
theorem dX7_byWork_106 : decode cX7_byWork 106 = .ok (.invokestatic 226, 3) := by decide +kernel
theorem dX7_byWork_109 : decode cX7_byWork 109 = .ok (.iconst 1, 1) := by decide +kernel
theorem dX7_byWork_110 : decode cX7_byWork 110 = .ok (.if_icmp .ne 30, 3) := by decide +kernel
theorem dX7_byWork_113 : decode cX7_byWork 113 = .ok (.aload_n 0, 1) := by decide +kernel
theorem dX7_byWork_114 : decode cX7_byWork 114 = .ok (.aload_n 0, 1) := by decide +kernel
theorem dX7_byWork_115 : decode cX7_byWork 115 = .ok (.getfield 41, 3) := by decide +kernel
theorem dX7_byWork_118 : decode cX7_byWork 118 = .ok (.iload 9, 2) := by decide +kernel
theorem dX7_byWork_120 : decode cX7_byWork 120 = .ok (.iaload, 1) := by decide +kernel
theorem dX7_byWork_121 : decode cX7_byWork 121 = .ok (.aload_n 0, 1) := by decide +kernel
theorem dX7_byWork_122 : decode cX7_byWork 122 = .ok (.getfield 7, 3) := by decide +kernel
theorem dX7_byWork_125 : decode cX7_byWork 125 = .ok (.bipush 45, 2) := by decide +kernel
theorem dX7_byWork_127 : decode cX7_byWork 127 = .ok (.iaload, 1) := by decide +kernel
theorem dX7_byWork_128 : decode cX7_byWork 128 = .ok (.iload_n 1, 1) := by decide +kernel
theorem dX7_byWork_129 : decode cX7_byWork 129 = .ok (.iadd, 1) := by decide +kernel
theorem dX7_byWork_130 : decode cX7_byWork 130 = .ok (.aload_n 0, 1) := by decide +kernel
theorem dX7_byWork_131 : decode cX7_byWork 131 = .ok (.getfield 229, 3) := by decide +kernel
theorem dX7_byWork_134 : decode cX7_byWork 134 = .ok (.invokevirtual 194, 3) := by decide +kernel
theorem dX7_byWork_137 : decode cX7_byWork 137 = .ok (.goto 4, 3) := by decide +kernel
theorem dX7_byWork_140 : decode cX7_byWork 140 = .ok (.iconst 0, 1) := by decide +kernel
theorem dX7_byWork_141 : decode cX7_byWork 141 = .ok (.iadd, 1) := by decide +kernel
theorem dX7_byWork_142 : decode cX7_byWork 142 = .ok (.istore 6, 2) := by decide +kernel
theorem dX7_byWork_144 : decode cX7_byWork 144 = .ok (.iinc 8 1, 3) := by decide +kernel
theorem dX7_byWork_147 : decode cX7_byWork 147 = .ok (.goto (-135), 3) := by decide +kernel
theorem dX7_byWork_150 : decode cX7_byWork 150 = .ok (.iload 7, 2) := by decide +kernel
theorem dX7_byWork_152 : decode cX7_byWork 152 = .ok (.ifCond .eq 24, 3) := by decide +kernel
theorem dX7_byWork_155 : decode cX7_byWork 155 = .ok (.iload 6, 2) := by decide +kernel
theorem dX7_byWork_157 : decode cX7_byWork 157 = .ok (.aload_n 0, 1) := by decide +kernel
theorem dX7_byWork_158 : decode cX7_byWork 158 = .ok (.getfield 44, 3) := by decide +kernel
theorem dX7_byWork_161 : decode cX7_byWork 161 = .ok (.sipush 4096, 3) := by decide +kernel
theorem dX7_byWork_164 : decode cX7_byWork 164 = .ok (.iload_n 1, 1) := by decide +kernel
theorem dX7_byWork_165 : decode cX7_byWork 165 = .ok (.iconst 1, 1) := by decide +kernel
theorem dX7_byWork_166 : decode cX7_byWork 166 = .ok (.iadd, 1) := by decide +kernel
theorem dX7_byWork_167 : decode cX7_byWork 167 = .ok (.imul, 1) := by decide +kernel
theorem dX7_byWork_168 : decode cX7_byWork 168 = .ok (.iload 5, 2) := by decide +kernel
theorem dX7_byWork_170 : decode cX7_byWork 170 = .ok (.iadd, 1) := by decide +kernel
theorem dX7_byWork_171 : decode cX7_byWork 171 = .ok (.iaload, 1) := by decide +kernel
theorem dX7_byWork_172 : decode cX7_byWork 172 = .ok (.iadd, 1) := by decide +kernel
theorem dX7_byWork_173 : decode cX7_byWork 173 = .ok (.goto 5, 3) := by decide +kernel
theorem dX7_byWork_176 : decode cX7_byWork 176 = .ok (.bipush (-4), 2) := by decide +kernel
theorem dX7_byWork_178 : decode cX7_byWork 178 = .ok (.ireturn, 1) := by decide +kernel
set_option maxHeartbeats 4000000 in
set_option maxRecDepth 100000 in
theorem c_X7_byWork {l : Launch} {Y : ww_Y} {ad : Nat → Nat} {G : List ww_L} (o0 : Nat) (h0 : ww_at G o0 (ww_LModel o0)) (σ : ww_M) (p1 : Int32) (p2 : Int32) (p3 : Int32) (p4 : Int32) : ww_Cn l Y ad G yX7_byWork cX7_byWork 10 (some .int) 3 [.ref (ad o0), .int p1, .int p2, .int p3, .int p4] σ ((f_X7_byWork σ o0 p1 p2 p3 p4).bind (ww_ri σ)) := by
  refine ww_met (by decide +kernel) (Nat.le_of_ble_eq_true rfl) ?_
  intro X hC hR
  have hC : ww_C X l Y ad G 3 cX7_byWork 10 RX7 := hC
  show ww_V X Y ad G 10 σ 0 [(0, .ref (ad o0)), (1, .int p1), (2, .int p2), (3, .int p3), (4, .int p4)] [] ((f_X7_byWork σ o0 p1 p2 p3 p4).bind (ww_ri σ))
  have hJ150 : ∀ (x5 : Int32) (x6 : Int32) (x7 : Int32), ww_V X Y ad G 10 σ 150 [(0, .ref (ad o0)), (1, .int p1), (5, .int x5), (6, .int x6), (7, .int x7)] [] ((f_X7_byWork_j150 σ o0 p1 p2 p3 p4 x5 x6 x7).bind (ww_ri σ)) := by
    intro x5 x6 x7
    unfold f_X7_byWork_j150
    refine ww_iload (pc := 150) hC 4 rfl dX7_byWork_150 ?_
    refine ww_if_eq (pc := 152) (tgt := 176) hC dX7_byWork_152 (by decide) ?_ ?_
    · refine ww_bipush (pc := 176) (v := (-4)) hC dX7_byWork_176 rfl ?_
      exact ww_ireturn (pc := 178) hC hR dX7_byWork_178 rfl
    · refine ww_iload (pc := 155) hC 3 rfl dX7_byWork_155 ?_
      refine ww_aload_n (pc := 157) hC 0 rfl dX7_byWork_157 rfl ?_
      refine ww_getr (pc := 158) (Cl := RX7) (T := TX7) (N := 36) (j := 26) (ref := RX7) hC (h0 0 _ rfl) rfl inT_X7 (by decide) mw_902 rfl rfl dX7_byWork_158 ?_
      refine ww_sipush (pc := 161) (v := 4096) hC dX7_byWork_161 rfl ?_
      refine ww_iload_n (pc := 164) hC 1 rfl dX7_byWork_164 rfl ?_
      refine ww_iconst (pc := 165) (v := 1) hC dX7_byWork_165 rfl ?_
      refine ww_iadd (pc := 166) hC dX7_byWork_166 ?_
      refine ww_imul (pc := 167) hC dX7_byWork_167 ?_
      refine ww_iload (pc := 168) hC 2 rfl dX7_byWork_168 ?_
      refine ww_iadd (pc := 170) hC dX7_byWork_170 ?_
      refine ww_iald (pc := 171) hC (h0 11 _ rfl) dX7_byWork_171 ?_
      refine ww_iadd (pc := 172) hC dX7_byWork_172 ?_
      refine ww_goto (pc := 173) (tgt := 178) hC dX7_byWork_173 (by decide) ?_
      exact ww_ireturn (pc := 178) hC hR dX7_byWork_178 rfl
  have hJ12 : ∀ (x5 : Int32) (x6 : Int32) (x7 : Int32) (x8 : Int32), ww_V X Y ad G 10 σ 12 [(0, .ref (ad o0)), (1, .int p1), (2, .int p2), (3, .int p3), (4, .int p4), (5, .int x5), (6, .int x6), (7, .int x7), (8, .int x8)] [] ((f_X7_byWork_j12 σ o0 p1 p2 p3 p4 x5 x6 x7 x8).bind (ww_ri σ)) := by
    intro x5 x6 x7 x8
    unfold f_X7_byWork_j12
    refine ww_assoc ?_
    refine ww_loop (f := f_X7_byWork_b12 σ o0 p1 p2 p3 p4) (fun a12 => σ) (fun a12 => [(0, .ref (ad o0)), (1, .int p1), (2, .int p2), (3, .int p3), (4, .int p4), (5, .int a12.1), (6, .int a12.2.1), (7, .int a12.2.2.1), (8, .int a12.2.2.2)]) (fun b12 => σ) (fun b12 => [(0, .ref (ad o0)), (1, .int p1), (5, .int b12.1), (6, .int b12.2.1), (7, .int b12.2.2)]) 150 (fun b12 => ?_) (fun a12 KK12 hc12 hx12 => ?_) ww_F (x5, x6, x7, x8)
    · exact hJ150 b12.1 b12.2.1 b12.2.2
    · unfold f_X7_byWork_b12
      have hJ93 : ∀ (x6 : Int32) (x7 : Int32) (x8 : Int32) (x9 : Int32) (s0 : Int32) (s1 : Int32), ww_V X Y ad G 10 σ 93 [(0, .ref (ad o0)), (1, .int p1), (2, .int p2), (3, .int p3), (4, .int p4), (6, .int x6), (7, .int x7), (8, .int x8), (9, .int x9)] [.int s0, .int s1] ((f_X7_byWork_j93 σ o0 p1 p2 p3 p4 x6 x7 x8 x9 s0 s1).bind KK12) := by
        intro x6 x7 x8 x9 s0 s1
        unfold f_X7_byWork_j93
        refine ww_isub (pc := 93) hC dX7_byWork_93 ?_
        refine ww_istore (pc := 94) (lv' := [(5, .int (s1 - s0)), (0, .ref (ad o0)), (1, .int p1), (2, .int p2), (3, .int p3), (4, .int p4), (6, .int x6), (7, .int x7), (8, .int x8), (9, .int x9)]) hC dX7_byWork_94 (by decide) rfl ?_
        refine ww_iload (pc := 96) hC 6 rfl dX7_byWork_96 ?_
        refine ww_iload (pc := 98) hC 7 rfl dX7_byWork_98 ?_
        refine ww_if_eq (pc := 100) (tgt := 140) hC dX7_byWork_100 (by decide) ?_ ?_
        · refine ww_iconst (pc := 140) (v := 0) hC dX7_byWork_140 rfl ?_
          refine ww_iadd (pc := 141) hC dX7_byWork_141 ?_
          refine ww_istore (pc := 142) (lv' := [(6, .int (x6 + 0)), (5, .int (s1 - s0)), (0, .ref (ad o0)), (1, .int p1), (2, .int p2), (3, .int p3), (4, .int p4), (7, .int x7), (8, .int x8), (9, .int x9)]) hC dX7_byWork_142 (by decide) rfl ?_
          refine ww_iinc (pc := 144) (v := x8 + 1) (lv' := [(8, .int (x8 + 1)), (6, .int (x6 + 0)), (5, .int (s1 - s0)), (0, .ref (ad o0)), (1, .int p1), (2, .int p2), (3, .int p3), (4, .int p4), (7, .int x7), (9, .int x9)]) hC 8 rfl dX7_byWork_144 rfl (by decide) rfl ?_
          refine ww_goto (pc := 147) (tgt := 12) hC dX7_byWork_147 (by decide) ?_
          refine ww_lv [3, 4, 5, 6, 7, 2, 1, 8, 0] rfl ?_
          exact hc12 (s1 - s0, x6 + 0, x7, x8 + 1)
        · refine ww_iload_n (pc := 103) hC 3 rfl dX7_byWork_103 rfl ?_
          refine ww_iload (pc := 104) hC 9 rfl dX7_byWork_104 ?_
          refine ww_callSi (pc := 106) (st := [.int x6]) (As := [.int p2, .int x9]) hC (c_X7_digit σ p2 x9) mm_X7_digit mw_1198 (by omega) (by decide) (Nat.le_of_ble_eq_true rfl) rfl dX7_byWork_106 (fun v106 => ?_)
          refine ww_iconst (pc := 109) (v := 1) hC dX7_byWork_109 rfl ?_
          refine ww_icmp_ne (pc := 110) (tgt := 140) hC dX7_byWork_110 (by decide) ?_ ?_
          · refine ww_iconst (pc := 140) (v := 0) hC dX7_byWork_140 rfl ?_
            refine ww_iadd (pc := 141) hC dX7_byWork_141 ?_
            refine ww_istore (pc := 142) (lv' := [(6, .int (x6 + 0)), (5, .int (s1 - s0)), (0, .ref (ad o0)), (1, .int p1), (2, .int p2), (3, .int p3), (4, .int p4), (7, .int x7), (8, .int x8), (9, .int x9)]) hC dX7_byWork_142 (by decide) rfl ?_
            refine ww_iinc (pc := 144) (v := x8 + 1) (lv' := [(8, .int (x8 + 1)), (6, .int (x6 + 0)), (5, .int (s1 - s0)), (0, .ref (ad o0)), (1, .int p1), (2, .int p2), (3, .int p3), (4, .int p4), (7, .int x7), (9, .int x9)]) hC 8 rfl dX7_byWork_144 rfl (by decide) rfl ?_
            refine ww_goto (pc := 147) (tgt := 12) hC dX7_byWork_147 (by decide) ?_
            refine ww_lv [3, 4, 5, 6, 7, 2, 1, 8, 0] rfl ?_
            exact hc12 (s1 - s0, x6 + 0, x7, x8 + 1)
          · refine ww_aload_n (pc := 113) hC 1 rfl dX7_byWork_113 rfl ?_
            refine ww_aload_n (pc := 114) hC 1 rfl dX7_byWork_114 rfl ?_
            refine ww_getr (pc := 115) (Cl := RX7) (T := TX7) (N := 36) (j := 24) (ref := RX7) hC (h0 0 _ rfl) rfl inT_X7 (by decide) mw_900 rfl rfl dX7_byWork_115 ?_
            refine ww_iload (pc := 118) hC 9 rfl dX7_byWork_118 ?_
            refine ww_iald (pc := 120) hC (h0 10 _ rfl) dX7_byWork_120 ?_
            refine ww_aload_n (pc := 121) hC 1 rfl dX7_byWork_121 rfl ?_
            refine ww_getr (pc := 122) (Cl := RX7) (T := TX7) (N := 36) (j := 0) (ref := RX7) hC (h0 0 _ rfl) rfl inT_X7 (by decide) mw_876 rfl rfl dX7_byWork_122 ?_
            refine ww_bipush (pc := 125) (v := 45) hC dX7_byWork_125 rfl ?_
            refine ww_iald_c (pc := 127) (j := 45) hC (h0 1 _ rfl) (by decide) rfl dX7_byWork_127 ?_
            refine ww_iload_n (pc := 128) hC 2 rfl dX7_byWork_128 rfl ?_
            refine ww_iadd (pc := 129) hC dX7_byWork_129 ?_
            refine ww_aload_n (pc := 130) hC 1 rfl dX7_byWork_130 rfl ?_
            refine ww_geti (pc := 131) (Cl := RX7) (T := TX7) (N := 36) (j := 28) (ref := RX7) hC (h0 0 _ rfl) rfl inT_X7 (by decide) mw_904 rfl rfl dX7_byWork_131 ?_
            refine ww_callVi (pc := 134) (st := [.int x6]) (As := [.int (σ (o0 + 10) (ww_ix x9)), .int ((σ (o0 + 1) 45) + p1), .int (σ o0 28)]) hC (c_X7_worthIn o0 h0 σ (σ (o0 + 10) (ww_ix x9)) ((σ (o0 + 1) 45) + p1) (σ o0 28)) mm_X7_worthIn mw_1105 (h0 0 _ rfl) rfl (by omega) (by decide) (Nat.le_of_ble_eq_true rfl) rfl dX7_byWork_134 (fun v134 => ?_)
            refine ww_goto (pc := 137) (tgt := 141) hC dX7_byWork_137 (by decide) ?_
            refine ww_iadd (pc := 141) hC dX7_byWork_141 ?_
            refine ww_istore (pc := 142) (lv' := [(6, .int (x6 + v134)), (5, .int (s1 - s0)), (0, .ref (ad o0)), (1, .int p1), (2, .int p2), (3, .int p3), (4, .int p4), (7, .int x7), (8, .int x8), (9, .int x9)]) hC dX7_byWork_142 (by decide) rfl ?_
            refine ww_iinc (pc := 144) (v := x8 + 1) (lv' := [(8, .int (x8 + 1)), (6, .int (x6 + v134)), (5, .int (s1 - s0)), (0, .ref (ad o0)), (1, .int p1), (2, .int p2), (3, .int p3), (4, .int p4), (7, .int x7), (9, .int x9)]) hC 8 rfl dX7_byWork_144 rfl (by decide) rfl ?_
            refine ww_goto (pc := 147) (tgt := 12) hC dX7_byWork_147 (by decide) ?_
            refine ww_lv [3, 4, 5, 6, 7, 2, 1, 8, 0] rfl ?_
            exact hc12 (s1 - s0, x6 + v134, x7, x8 + 1)
      have hJ74 : ∀ (x5 : Int32) (x6 : Int32) (x8 : Int32) (x9 : Int32) (s0 : Int32), ww_V X Y ad G 10 σ 74 [(0, .ref (ad o0)), (1, .int p1), (2, .int p2), (3, .int p3), (4, .int p4), (5, .int x5), (6, .int x6), (8, .int x8), (9, .int x9)] [.int s0] ((f_X7_byWork_j74 σ o0 p1 p2 p3 p4 x5 x6 x8 x9 s0).bind KK12) := by
        intro x5 x6 x8 x9 s0
        unfold f_X7_byWork_j74
        refine ww_istore (pc := 74) (lv' := [(7, .int s0), (0, .ref (ad o0)), (1, .int p1), (2, .int p2), (3, .int p3), (4, .int p4), (5, .int x5), (6, .int x6), (8, .int x8), (9, .int x9)]) hC dX7_byWork_74 (by decide) rfl ?_
        refine ww_iload (pc := 76) hC 6 rfl dX7_byWork_76 ?_
        refine ww_iload (pc := 78) hC 0 rfl dX7_byWork_78 ?_
        refine ww_if_eq (pc := 80) (tgt := 92) hC dX7_byWork_80 (by decide) ?_ ?_
        · refine ww_iconst (pc := 92) (v := 0) hC dX7_byWork_92 rfl ?_
          refine ww_lv [1, 2, 3, 4, 5, 7, 0, 8, 9] rfl ?_
          exact hJ93 x6 s0 x8 x9 0 x5
        · refine ww_iconst (pc := 83) (v := 1) hC dX7_byWork_83 rfl ?_
          refine ww_iconst (pc := 84) (v := 2) hC dX7_byWork_84 rfl ?_
          refine ww_iload (pc := 85) hC 9 rfl dX7_byWork_85 ?_
          refine ww_imul (pc := 87) hC dX7_byWork_87 ?_
          refine ww_ishl (pc := 88) hC dX7_byWork_88 ?_
          refine ww_goto (pc := 89) (tgt := 93) hC dX7_byWork_89 (by decide) ?_
          refine ww_lv [1, 2, 3, 4, 5, 7, 0, 8, 9] rfl ?_
          exact hJ93 x6 s0 x8 x9 (ww_shl 1 (2 * x9)) x5
      have hJ73 : ∀ (x5 : Int32) (x6 : Int32) (x8 : Int32) (x9 : Int32), ww_V X Y ad G 10 σ 73 [(0, .ref (ad o0)), (1, .int p1), (2, .int p2), (3, .int p3), (4, .int p4), (5, .int x5), (6, .int x6), (8, .int x8), (9, .int x9)] [] ((f_X7_byWork_j73 σ o0 p1 p2 p3 p4 x5 x6 x8 x9).bind KK12) := by
        intro x5 x6 x8 x9
        unfold f_X7_byWork_j73
        refine ww_iconst (pc := 73) (v := 0) hC dX7_byWork_73 rfl ?_
        exact hJ74 x5 x6 x8 x9 0
      have hJ29 : ∀ (x5 : Int32) (x6 : Int32) (x7 : Int32) (x8 : Int32) (s0 : Int32), ww_V X Y ad G 10 σ 29 [(0, .ref (ad o0)), (1, .int p1), (2, .int p2), (3, .int p3), (4, .int p4), (5, .int x5), (6, .int x6), (7, .int x7), (8, .int x8)] [.int s0] ((f_X7_byWork_j29 σ o0 p1 p2 p3 p4 x5 x6 x7 x8 s0).bind KK12) := by
        intro x5 x6 x7 x8 s0
        unfold f_X7_byWork_j29
        refine ww_istore (pc := 29) (lv' := [(9, .int s0), (0, .ref (ad o0)), (1, .int p1), (2, .int p2), (3, .int p3), (4, .int p4), (5, .int x5), (6, .int x6), (7, .int x7), (8, .int x8)]) hC dX7_byWork_29 (by decide) rfl ?_
        refine ww_iload (pc := 31) hC 0 rfl dX7_byWork_31 ?_
        refine ww_aload_n (pc := 33) hC 1 rfl dX7_byWork_33 rfl ?_
        refine ww_geti (pc := 34) (Cl := RX7) (T := TX7) (N := 36) (j := 25) (ref := RX7) hC (h0 0 _ rfl) rfl inT_X7 (by decide) mw_901 rfl rfl dX7_byWork_34 ?_
        refine ww_icmp_ge (pc := 37) (tgt := 144) hC dX7_byWork_37 (by decide) ?_ ?_
        · refine ww_iinc (pc := 144) (v := x8 + 1) (lv' := [(8, .int (x8 + 1)), (9, .int s0), (0, .ref (ad o0)), (1, .int p1), (2, .int p2), (3, .int p3), (4, .int p4), (5, .int x5), (6, .int x6), (7, .int x7)]) hC 9 rfl dX7_byWork_144 rfl (by decide) rfl ?_
          refine ww_goto (pc := 147) (tgt := 12) hC dX7_byWork_147 (by decide) ?_
          refine ww_lv [2, 3, 4, 5, 6, 7, 8, 9, 0] rfl ?_
          exact hc12 (x5, x6, x7, x8 + 1)
        · refine ww_iload (pc := 40) hC 8 rfl dX7_byWork_40 ?_
          refine ww_if_eq (pc := 42) (tgt := 73) hC dX7_byWork_42 (by decide) ?_ ?_
          · refine ww_lv [1, 2, 3, 4, 5, 6, 7, 9, 0] rfl ?_
            exact hJ73 x5 x6 x8 s0
          · refine ww_aload_n (pc := 45) hC 1 rfl dX7_byWork_45 rfl ?_
            refine ww_getr (pc := 46) (Cl := RX7) (T := TX7) (N := 36) (j := 27) (ref := RX7) hC (h0 0 _ rfl) rfl inT_X7 (by decide) mw_903 rfl rfl dX7_byWork_46 ?_
            refine ww_iload_n (pc := 49) hC 2 rfl dX7_byWork_49 rfl ?_
            refine ww_iald (pc := 50) hC (h0 12 _ rfl) dX7_byWork_50 ?_
            refine ww_iload (pc := 51) hC 0 rfl dX7_byWork_51 ?_
            refine ww_ishr (pc := 53) hC dX7_byWork_53 ?_
            refine ww_iconst (pc := 54) (v := 1) hC dX7_byWork_54 rfl ?_
            refine ww_iand (pc := 55) hC dX7_byWork_55 ?_
            refine ww_iconst (pc := 56) (v := 1) hC dX7_byWork_56 rfl ?_
            refine ww_icmp_ne (pc := 57) (tgt := 73) hC dX7_byWork_57 (by decide) ?_ ?_
            · refine ww_lv [1, 2, 3, 4, 5, 6, 7, 9, 0] rfl ?_
              exact hJ73 x5 x6 x8 s0
            · refine ww_iload_n (pc := 60) hC 3 rfl dX7_byWork_60 rfl ?_
              refine ww_iload (pc := 61) hC 0 rfl dX7_byWork_61 ?_
              refine ww_callSi (pc := 63) (st := []) (As := [.int p2, .int s0]) hC (c_X7_digit σ p2 s0) mm_X7_digit mw_1198 (by omega) (by decide) (Nat.le_of_ble_eq_true rfl) rfl dX7_byWork_63 (fun v63 => ?_)
              refine ww_if_le (pc := 66) (tgt := 73) hC dX7_byWork_66 (by decide) ?_ ?_
              · refine ww_lv [1, 2, 3, 4, 5, 6, 7, 9, 0] rfl ?_
                exact hJ73 x5 x6 x8 s0
              · refine ww_iconst (pc := 69) (v := 1) hC dX7_byWork_69 rfl ?_
                refine ww_goto (pc := 70) (tgt := 74) hC dX7_byWork_70 (by decide) ?_
                refine ww_lv [1, 2, 3, 4, 5, 6, 7, 9, 0] rfl ?_
                exact hJ74 x5 x6 x8 s0 1
      refine ww_iload (pc := 12) hC 8 rfl dX7_byWork_12 ?_
      refine ww_iconst (pc := 14) (v := 2) hC dX7_byWork_14 rfl ?_
      refine ww_icmp_ge (pc := 15) (tgt := 150) hC dX7_byWork_15 (by decide) ?_ ?_
      · refine ww_lv [0, 1, 5, 6, 7] rfl ?_
        exact hx12 (a12.1, a12.2.1, a12.2.2.1)
      · refine ww_iload (pc := 18) hC 8 rfl dX7_byWork_18 ?_
        refine ww_if_ne (pc := 20) (tgt := 27) hC dX7_byWork_20 (by decide) ?_ ?_
        · refine ww_iload (pc := 27) hC 4 rfl dX7_byWork_27 ?_
          exact hJ29 a12.1 a12.2.1 a12.2.2.1 a12.2.2.2 p4
        · refine ww_iload_n (pc := 23) hC 3 rfl dX7_byWork_23 rfl ?_
          refine ww_goto (pc := 24) (tgt := 29) hC dX7_byWork_24 (by decide) ?_
          exact hJ29 a12.1 a12.2.1 a12.2.2.1 a12.2.2.2 p3
  unfold f_X7_byWork
  refine ww_iload_n (pc := 0) hC 2 rfl dX7_byWork_0 rfl ?_
  refine ww_istore (pc := 1) (lv' := [(5, .int p2), (0, .ref (ad o0)), (1, .int p1), (2, .int p2), (3, .int p3), (4, .int p4)]) hC dX7_byWork_1 (by decide) rfl ?_
  refine ww_iconst (pc := 3) (v := 0) hC dX7_byWork_3 rfl ?_
  refine ww_istore (pc := 4) (lv' := [(6, .int 0), (5, .int p2), (0, .ref (ad o0)), (1, .int p1), (2, .int p2), (3, .int p3), (4, .int p4)]) hC dX7_byWork_4 (by decide) rfl ?_
  refine ww_iconst (pc := 6) (v := 1) hC dX7_byWork_6 rfl ?_
  refine ww_istore (pc := 7) (lv' := [(7, .int 1), (6, .int 0), (5, .int p2), (0, .ref (ad o0)), (1, .int p1), (2, .int p2), (3, .int p3), (4, .int p4)]) hC dX7_byWork_7 (by decide) rfl ?_
  refine ww_iconst (pc := 9) (v := 0) hC dX7_byWork_9 rfl ?_
  refine ww_istore (pc := 10) (lv' := [(8, .int 0), (7, .int 1), (6, .int 0), (5, .int p2), (0, .ref (ad o0)), (1, .int p1), (2, .int p2), (3, .int p3), (4, .int p4)]) hC dX7_byWork_10 (by decide) rfl ?_
  refine ww_lv [4, 5, 6, 7, 8, 3, 2, 1, 0] rfl ?_
  exact hJ12 p2 0 1 0
theorem dX7_choice_0 : decode cX7_choice 0 = .ok (.iload_n 1, 1) := by decide +kernel
theorem dX7_choice_1 : decode cX7_choice 1 = .ok (.bipush 7, 2) := by decide +kernel
theorem dX7_choice_3 : decode cX7_choice 3 = .ok (.idiv, 1) := by decide +kernel
theorem dX7_choice_4 : decode cX7_choice 4 = .ok (.istore_n 2, 1) := by decide +kernel
theorem dX7_choice_5 : decode cX7_choice 5 = .ok (.iload_n 1, 1) := by decide +kernel
theorem dX7_choice_6 : decode cX7_choice 6 = .ok (.bipush 7, 2) := by decide +kernel
theorem dX7_choice_8 : decode cX7_choice 8 = .ok (.irem, 1) := by decide +kernel
theorem dX7_choice_9 : decode cX7_choice 9 = .ok (.istore_n 3, 1) := by decide +kernel
theorem dX7_choice_10 : decode cX7_choice 10 = .ok (.aload_n 0, 1) := by decide +kernel
theorem dX7_choice_11 : decode cX7_choice 11 = .ok (.getfield 223, 3) := by decide +kernel
theorem dX7_choice_14 : decode cX7_choice 14 = .ok (.istore 4, 2) := by decide +kernel
theorem dX7_choice_16 : decode cX7_choice 16 = .ok (.iload_n 2, 1) := by decide +kernel
theorem dX7_choice_17 : decode cX7_choice 17 = .ok (.iload 4, 2) := by decide +kernel
theorem dX7_choice_19 : decode cX7_choice 19 = .ok (.if_icmp .gt 9, 3) := by decide +kernel
theorem dX7_choice_22 : decode cX7_choice 22 = .ok (.iload_n 3, 1) := by decide +kernel
theorem dX7_choice_23 : decode cX7_choice 23 = .ok (.iload 4, 2) := by decide +kernel
theorem dX7_choice_25 : decode cX7_choice 25 = .ok (.if_icmp .le 5, 3) := by decide +kernel
theorem dX7_choice_28 : decode cX7_choice 28 = .ok (.iconst (-1), 1) := by decide +kernel
theorem dX7_choice_29 : decode cX7_choice 29 = .ok (.ireturn, 1) := by decide +kernel
theorem dX7_choice_30 : decode cX7_choice 30 = .ok (.iload_n 3, 1) := by decide +kernel
theorem dX7_choice_31 : decode cX7_choice 31 = .ok (.iload 4, 2) := by decide +kernel
theorem dX7_choice_33 : decode cX7_choice 33 = .ok (.if_icmp .eq 19, 3) := by decide +kernel
theorem dX7_choice_36 : decode cX7_choice 36 = .ok (.iload_n 2, 1) := by decide +kernel
theorem dX7_choice_37 : decode cX7_choice 37 = .ok (.iload_n 3, 1) := by decide +kernel
theorem dX7_choice_38 : decode cX7_choice 38 = .ok (.if_icmp .ge 18, 3) := by decide +kernel
theorem dX7_choice_41 : decode cX7_choice 41 = .ok (.aload_n 0, 1) := by decide +kernel
theorem dX7_choice_42 : decode cX7_choice 42 = .ok (.getfield 7, 3) := by decide +kernel
theorem dX7_choice_45 : decode cX7_choice 45 = .ok (.bipush 14, 2) := by decide +kernel
theorem dX7_choice_47 : decode cX7_choice 47 = .ok (.iaload, 1) := by decide +kernel
theorem dX7_choice_48 : decode cX7_choice 48 = .ok (.iconst 1, 1) := by decide +kernel
theorem dX7_choice_49 : decode cX7_choice 49 = .ok (.if_icmp .ne 7, 3) := by decide +kernel
theorem dX7_choice_52 : decode cX7_choice 52 = .ok (.iconst 1, 1) := by decide +kernel
theorem dX7_choice_53 : decode cX7_choice 53 = .ok (.goto 4, 3) := by decide +kernel
theorem dX7_choice_56 : decode cX7_choice 56 = .ok (.iconst 0, 1) := by decide +kernel
theorem dX7_choice_57 : decode cX7_choice 57 = .ok (.istore 5, 2) := by decide +kernel
theorem dX7_choice_59 : decode cX7_choice 59 = .ok (.iload 5, 2) := by decide +kernel
theorem dX7_choice_61 : decode cX7_choice 61 = .ok (.ifCond .eq 12, 3) := by decide +kernel
theorem dX7_choice_64 : decode cX7_choice 64 = .ok (.iload_n 2, 1) := by decide +kernel
theorem dX7_choice_65 : decode cX7_choice 65 = .ok (.bipush 9, 2) := by decide +kernel
theorem dX7_choice_67 : decode cX7_choice 67 = .ok (.iload_n 3, 1) := by decide +kernel
theorem dX7_choice_68 : decode cX7_choice 68 = .ok (.imul, 1) := by decide +kernel
theorem dX7_choice_69 : decode cX7_choice 69 = .ok (.iadd, 1) := by decide +kernel
theorem dX7_choice_70 : decode cX7_choice 70 = .ok (.goto 4, 3) := by decide +kernel
theorem dX7_choice_73 : decode cX7_choice 73 = .ok (.iconst (-1), 1) := by decide +kernel
theorem dX7_choice_74 : decode cX7_choice 74 = .ok (.ireturn, 1) := by decide +kernel
set_option maxHeartbeats 4000000 in
set_option maxRecDepth 100000 in
theorem c_X7_choice {l : Launch} {Y : ww_Y} {ad : Nat → Nat} {G : List ww_L} (o0 : Nat) (h0 : ww_at G o0 (ww_LModel o0)) (σ : ww_M) (p1 : Int32) : ww_Cn l Y ad G yX7_choice cX7_choice 6 (some .int) 1 [.ref (ad o0), .int p1] σ ((f_X7_choice σ o0 p1).bind (ww_ri σ)) := by
  refine ww_met (by decide +kernel) (Nat.le_of_ble_eq_true rfl) ?_
  intro X hC hR
  have hC : ww_C X l Y ad G 1 cX7_choice 6 RX7 := hC
  show ww_V X Y ad G 6 σ 0 [(0, .ref (ad o0)), (1, .int p1)] [] ((f_X7_choice σ o0 p1).bind (ww_ri σ))
  have hJ57 : ∀ (x2 : Int32) (x3 : Int32) (s0 : Int32), ww_V X Y ad G 6 σ 57 [(2, .int x2), (3, .int x3)] [.int s0] ((f_X7_choice_j57 σ o0 p1 x2 x3 s0).bind (ww_ri σ)) := by
    intro x2 x3 s0
    unfold f_X7_choice_j57
    refine ww_istore (pc := 57) (lv' := [(5, .int s0), (2, .int x2), (3, .int x3)]) hC dX7_choice_57 (by decide) rfl ?_
    refine ww_iload (pc := 59) hC 0 rfl dX7_choice_59 ?_
    refine ww_if_eq (pc := 61) (tgt := 73) hC dX7_choice_61 (by decide) ?_ ?_
    · refine ww_iconst (pc := 73) (v := (-1)) hC dX7_choice_73 rfl ?_
      exact ww_ireturn (pc := 74) hC hR dX7_choice_74 rfl
    · refine ww_iload_n (pc := 64) hC 1 rfl dX7_choice_64 rfl ?_
      refine ww_bipush (pc := 65) (v := 9) hC dX7_choice_65 rfl ?_
      refine ww_iload_n (pc := 67) hC 2 rfl dX7_choice_67 rfl ?_
      refine ww_imul (pc := 68) hC dX7_choice_68 ?_
      refine ww_iadd (pc := 69) hC dX7_choice_69 ?_
      refine ww_goto (pc := 70) (tgt := 74) hC dX7_choice_70 (by decide) ?_
      exact ww_ireturn (pc := 74) hC hR dX7_choice_74 rfl
  have hJ56 : ∀ (x2 : Int32) (x3 : Int32), ww_V X Y ad G 6 σ 56 [(2, .int x2), (3, .int x3)] [] ((f_X7_choice_j56 σ o0 p1 x2 x3).bind (ww_ri σ)) := by
    intro x2 x3
    unfold f_X7_choice_j56
    refine ww_iconst (pc := 56) (v := 0) hC dX7_choice_56 rfl ?_
    exact hJ57 x2 x3 0
  have hJ52 : ∀ (x2 : Int32) (x3 : Int32), ww_V X Y ad G 6 σ 52 [(2, .int x2), (3, .int x3)] [] ((f_X7_choice_j52 σ o0 p1 x2 x3).bind (ww_ri σ)) := by
    intro x2 x3
    unfold f_X7_choice_j52
    refine ww_iconst (pc := 52) (v := 1) hC dX7_choice_52 rfl ?_
    refine ww_goto (pc := 53) (tgt := 57) hC dX7_choice_53 (by decide) ?_
    exact hJ57 x2 x3 1
  unfold f_X7_choice
  refine ww_iload_n (pc := 0) hC 1 rfl dX7_choice_0 rfl ?_
  refine ww_bipush (pc := 1) (v := 7) hC dX7_choice_1 rfl ?_
  refine ww_idiv_c (pc := 3) hC dX7_choice_3 (by decide) ?_
  refine ww_istore_n (pc := 4) (lv' := [(2, .int (p1 / 7)), (0, .ref (ad o0)), (1, .int p1)]) hC dX7_choice_4 rfl (by decide) rfl ?_
  refine ww_iload_n (pc := 5) hC 2 rfl dX7_choice_5 rfl ?_
  refine ww_bipush (pc := 6) (v := 7) hC dX7_choice_6 rfl ?_
  refine ww_irem_c (pc := 8) hC dX7_choice_8 (by decide) ?_
  refine ww_istore_n (pc := 9) (lv' := [(3, .int (ww_rem p1 7)), (2, .int (p1 / 7)), (0, .ref (ad o0)), (1, .int p1)]) hC dX7_choice_9 rfl (by decide) rfl ?_
  refine ww_aload_n (pc := 10) hC 2 rfl dX7_choice_10 rfl ?_
  refine ww_geti (pc := 11) (Cl := RX7) (T := TX7) (N := 36) (j := 25) (ref := RX7) hC (h0 0 _ rfl) rfl inT_X7 (by decide) mw_901 rfl rfl dX7_choice_11 ?_
  refine ww_istore (pc := 14) (lv' := [(4, .int (σ o0 25)), (3, .int (ww_rem p1 7)), (2, .int (p1 / 7)), (0, .ref (ad o0)), (1, .int p1)]) hC dX7_choice_14 (by decide) rfl ?_
  refine ww_iload_n (pc := 16) hC 2 rfl dX7_choice_16 rfl ?_
  refine ww_iload (pc := 17) hC 0 rfl dX7_choice_17 ?_
  refine ww_icmp_gt (pc := 19) (tgt := 28) hC dX7_choice_19 (by decide) ?_ ?_
  · refine ww_iconst (pc := 28) (v := (-1)) hC dX7_choice_28 rfl ?_
    exact ww_ireturn (pc := 29) hC hR dX7_choice_29 rfl
  · refine ww_iload_n (pc := 22) hC 1 rfl dX7_choice_22 rfl ?_
    refine ww_iload (pc := 23) hC 0 rfl dX7_choice_23 ?_
    refine ww_icmp_le (pc := 25) (tgt := 30) hC dX7_choice_25 (by decide) ?_ ?_
    · refine ww_iload_n (pc := 30) hC 1 rfl dX7_choice_30 rfl ?_
      refine ww_iload (pc := 31) hC 0 rfl dX7_choice_31 ?_
      refine ww_icmp_eq (pc := 33) (tgt := 52) hC dX7_choice_33 (by decide) ?_ ?_
      · refine ww_lv [2, 1] rfl ?_
        exact hJ52 (p1 / 7) (ww_rem p1 7)
      · refine ww_iload_n (pc := 36) hC 2 rfl dX7_choice_36 rfl ?_
        refine ww_iload_n (pc := 37) hC 1 rfl dX7_choice_37 rfl ?_
        refine ww_icmp_ge (pc := 38) (tgt := 56) hC dX7_choice_38 (by decide) ?_ ?_
        · refine ww_lv [2, 1] rfl ?_
          exact hJ56 (p1 / 7) (ww_rem p1 7)
        · refine ww_aload_n (pc := 41) hC 3 rfl dX7_choice_41 rfl ?_
          refine ww_getr (pc := 42) (Cl := RX7) (T := TX7) (N := 36) (j := 0) (ref := RX7) hC (h0 0 _ rfl) rfl inT_X7 (by decide) mw_876 rfl rfl dX7_choice_42 ?_
          refine ww_bipush (pc := 45) (v := 14) hC dX7_choice_45 rfl ?_
          refine ww_iald_c (pc := 47) (j := 14) hC (h0 1 _ rfl) (by decide) rfl dX7_choice_47 ?_
          refine ww_iconst (pc := 48) (v := 1) hC dX7_choice_48 rfl ?_
          refine ww_icmp_ne (pc := 49) (tgt := 56) hC dX7_choice_49 (by decide) ?_ ?_
          · refine ww_lv [2, 1] rfl ?_
            exact hJ56 (p1 / 7) (ww_rem p1 7)
          · refine ww_lv [2, 1] rfl ?_
            exact hJ52 (p1 / 7) (ww_rem p1 7)
    · refine ww_iconst (pc := 28) (v := (-1)) hC dX7_choice_28 rfl ?_
      exact ww_ireturn (pc := 29) hC hR dX7_choice_29 rfl
theorem dX7_leftNow_0 : decode cX7_leftNow 0 = .ok (.iconst 0, 1) := by decide +kernel
theorem dX7_leftNow_1 : decode cX7_leftNow 1 = .ok (.istore_n 1, 1) := by decide +kernel
theorem dX7_leftNow_2 : decode cX7_leftNow 2 = .ok (.iconst 0, 1) := by decide +kernel
theorem dX7_leftNow_3 : decode cX7_leftNow 3 = .ok (.istore_n 2, 1) := by decide +kernel
theorem dX7_leftNow_4 : decode cX7_leftNow 4 = .ok (.iload_n 2, 1) := by decide +kernel
theorem dX7_leftNow_5 : decode cX7_leftNow 5 = .ok (.aload_n 0, 1) := by decide +kernel
theorem dX7_leftNow_6 : decode cX7_leftNow 6 = .ok (.getfield 223, 3) := by decide +kernel
theorem dX7_leftNow_9 : decode cX7_leftNow 9 = .ok (.if_icmp .ge 32, 3) := by decide +kernel
theorem dX7_leftNow_12 : decode cX7_leftNow 12 = .ok (.iload_n 1, 1) := by decide +kernel
theorem dX7_leftNow_13 : decode cX7_leftNow 13 = .ok (.aload_n 0, 1) := by decide +kernel
theorem dX7_leftNow_14 : decode cX7_leftNow 14 = .ok (.getfield 7, 3) := by decide +kernel
theorem dX7_leftNow_17 : decode cX7_leftNow 17 = .ok (.aload_n 0, 1) := by decide +kernel
theorem dX7_leftNow_18 : decode cX7_leftNow 18 = .ok (.getfield 41, 3) := by decide +kernel
theorem dX7_leftNow_21 : decode cX7_leftNow 21 = .ok (.iload_n 2, 1) := by decide +kernel
theorem dX7_leftNow_22 : decode cX7_leftNow 22 = .ok (.iaload, 1) := by decide +kernel
theorem dX7_leftNow_23 : decode cX7_leftNow 23 = .ok (.invokestatic 188, 3) := by decide +kernel
theorem dX7_leftNow_26 : decode cX7_leftNow 26 = .ok (.iconst 1, 1) := by decide +kernel
theorem dX7_leftNow_27 : decode cX7_leftNow 27 = .ok (.iadd, 1) := by decide +kernel
theorem dX7_leftNow_28 : decode cX7_leftNow 28 = .ok (.iaload, 1) := by decide +kernel
theorem dX7_leftNow_29 : decode cX7_leftNow 29 = .ok (.iconst 2, 1) := by decide +kernel
theorem dX7_leftNow_30 : decode cX7_leftNow 30 = .ok (.iload_n 2, 1) := by decide +kernel
theorem dX7_leftNow_31 : decode cX7_leftNow 31 = .ok (.imul, 1) := by decide +kernel
theorem dX7_leftNow_32 : decode cX7_leftNow 32 = .ok (.ishl, 1) := by decide +kernel
theorem dX7_leftNow_33 : decode cX7_leftNow 33 = .ok (.ior, 1) := by decide +kernel
theorem dX7_leftNow_34 : decode cX7_leftNow 34 = .ok (.istore_n 1, 1) := by decide +kernel
theorem dX7_leftNow_35 : decode cX7_leftNow 35 = .ok (.iinc 2 1, 3) := by decide +kernel
theorem dX7_leftNow_38 : decode cX7_leftNow 38 = .ok (.goto (-34), 3) := by decide +kernel
theorem dX7_leftNow_41 : decode cX7_leftNow 41 = .ok (.iload_n 1, 1) := by decide +kernel
theorem dX7_leftNow_42 : decode cX7_leftNow 42 = .ok (.ireturn, 1) := by decide +kernel
set_option maxHeartbeats 4000000 in
set_option maxRecDepth 100000 in
theorem c_X7_leftNow {l : Launch} {Y : ww_Y} {ad : Nat → Nat} {G : List ww_L} (o0 : Nat) (h0 : ww_at G o0 (ww_LModel o0)) (σ : ww_M) : ww_Cn l Y ad G yX7_leftNow cX7_leftNow 3 (some .int) 2 [.ref (ad o0)] σ ((f_X7_leftNow σ o0).bind (ww_ri σ)) := by
  refine ww_met (by decide +kernel) (Nat.le_of_ble_eq_true rfl) ?_
  intro X hC hR
  have hC : ww_C X l Y ad G 2 cX7_leftNow 3 RX7 := hC
  show ww_V X Y ad G 3 σ 0 [(0, .ref (ad o0))] [] ((f_X7_leftNow σ o0).bind (ww_ri σ))
  have hJ41 : ∀ (x1 : Int32), ww_V X Y ad G 3 σ 41 [(1, .int x1)] [] ((f_X7_leftNow_j41 σ o0 x1).bind (ww_ri σ)) := by
    intro x1
    unfold f_X7_leftNow_j41
    refine ww_iload_n (pc := 41) hC 0 rfl dX7_leftNow_41 rfl ?_
    exact ww_ireturn (pc := 42) hC hR dX7_leftNow_42 rfl
  have hJ4 : ∀ (x1 : Int32) (x2 : Int32), ww_V X Y ad G 3 σ 4 [(0, .ref (ad o0)), (1, .int x1), (2, .int x2)] [] ((f_X7_leftNow_j4 σ o0 x1 x2).bind (ww_ri σ)) := by
    intro x1 x2
    unfold f_X7_leftNow_j4
    refine ww_assoc ?_
    refine ww_loop (f := f_X7_leftNow_b4 σ o0) (fun a4 => σ) (fun a4 => [(0, .ref (ad o0)), (1, .int a4.1), (2, .int a4.2)]) (fun b4 => σ) (fun b4 => [(1, .int b4)]) 41 (fun b4 => ?_) (fun a4 KK4 hc4 hx4 => ?_) ww_F (x1, x2)
    · exact hJ41 b4
    · unfold f_X7_leftNow_b4
      refine ww_iload_n (pc := 4) hC 2 rfl dX7_leftNow_4 rfl ?_
      refine ww_aload_n (pc := 5) hC 0 rfl dX7_leftNow_5 rfl ?_
      refine ww_geti (pc := 6) (Cl := RX7) (T := TX7) (N := 36) (j := 25) (ref := RX7) hC (h0 0 _ rfl) rfl inT_X7 (by decide) mw_901 rfl rfl dX7_leftNow_6 ?_
      refine ww_icmp_ge (pc := 9) (tgt := 41) hC dX7_leftNow_9 (by decide) ?_ ?_
      · refine ww_lv [1] rfl ?_
        exact hx4 a4.1
      · refine ww_iload_n (pc := 12) hC 1 rfl dX7_leftNow_12 rfl ?_
        refine ww_aload_n (pc := 13) hC 0 rfl dX7_leftNow_13 rfl ?_
        refine ww_getr (pc := 14) (Cl := RX7) (T := TX7) (N := 36) (j := 0) (ref := RX7) hC (h0 0 _ rfl) rfl inT_X7 (by decide) mw_876 rfl rfl dX7_leftNow_14 ?_
        refine ww_aload_n (pc := 17) hC 0 rfl dX7_leftNow_17 rfl ?_
        refine ww_getr (pc := 18) (Cl := RX7) (T := TX7) (N := 36) (j := 24) (ref := RX7) hC (h0 0 _ rfl) rfl inT_X7 (by decide) mw_900 rfl rfl dX7_leftNow_18 ?_
        refine ww_iload_n (pc := 21) hC 2 rfl dX7_leftNow_21 rfl ?_
        refine ww_iald (pc := 22) hC (h0 10 _ rfl) dX7_leftNow_22 ?_
        refine ww_callSi (pc := 23) (st := [.ref (ad (o0 + 1)), .int a4.1]) (As := [.int (σ (o0 + 10) (ww_ix a4.2))]) hC (c_X7_partAt σ (σ (o0 + 10) (ww_ix a4.2))) mm_X7_partAt mw_1102 (by omega) (by decide) (Nat.le_of_ble_eq_true rfl) rfl dX7_leftNow_23 (fun v23 => ?_)
        refine ww_iconst (pc := 26) (v := 1) hC dX7_leftNow_26 rfl ?_
        refine ww_iadd (pc := 27) hC dX7_leftNow_27 ?_
        refine ww_iald (pc := 28) hC (h0 1 _ rfl) dX7_leftNow_28 ?_
        refine ww_iconst (pc := 29) (v := 2) hC dX7_leftNow_29 rfl ?_
        refine ww_iload_n (pc := 30) hC 2 rfl dX7_leftNow_30 rfl ?_
        refine ww_imul (pc := 31) hC dX7_leftNow_31 ?_
        refine ww_ishl (pc := 32) hC dX7_leftNow_32 ?_
        refine ww_ior (pc := 33) hC dX7_leftNow_33 ?_
        refine ww_istore_n (pc := 34) (lv' := [(1, .int (a4.1 ||| (ww_shl (σ (o0 + 1) (ww_ix (v23 + 1))) (2 * a4.2)))), (0, .ref (ad o0)), (2, .int a4.2)]) hC dX7_leftNow_34 rfl (by decide) rfl ?_
        refine ww_iinc (pc := 35) (v := a4.2 + 1) (lv' := [(2, .int (a4.2 + 1)), (1, .int (a4.1 ||| (ww_shl (σ (o0 + 1) (ww_ix (v23 + 1))) (2 * a4.2)))), (0, .ref (ad o0))]) hC 2 rfl dX7_leftNow_35 rfl (by decide) rfl ?_
        refine ww_goto (pc := 38) (tgt := 4) hC dX7_leftNow_38 (by decide) ?_
        refine ww_lv [2, 1, 0] rfl ?_
        exact hc4 (a4.1 ||| (ww_shl (σ (o0 + 1) (ww_ix (v23 + 1))) (2 * a4.2)), a4.2 + 1)
  unfold f_X7_leftNow
  refine ww_iconst (pc := 0) (v := 0) hC dX7_leftNow_0 rfl ?_
  refine ww_istore_n (pc := 1) (lv' := [(1, .int 0), (0, .ref (ad o0))]) hC dX7_leftNow_1 rfl (by decide) rfl ?_
  refine ww_iconst (pc := 2) (v := 0) hC dX7_leftNow_2 rfl ?_
  refine ww_istore_n (pc := 3) (lv' := [(2, .int 0), (1, .int 0), (0, .ref (ad o0))]) hC dX7_leftNow_3 rfl (by decide) rfl ?_
  refine ww_lv [2, 1, 0] rfl ?_
  exact hJ4 0 0
theorem dX7_layBest_0 : decode cX7_layBest 0 = .ok (.aload_n 0, 1) := by decide +kernel
theorem dX7_layBest_1 : decode cX7_layBest 1 = .ok (.iload_n 1, 1) := by decide +kernel
theorem dX7_layBest_2 : decode cX7_layBest 2 = .ok (.iload_n 3, 1) := by decide +kernel
theorem dX7_layBest_3 : decode cX7_layBest 3 = .ok (.invokevirtual 232, 3) := by decide +kernel
theorem dX7_layBest_6 : decode cX7_layBest 6 = .ok (.aload_n 0, 1) := by decide +kernel
theorem dX7_layBest_7 : decode cX7_layBest 7 = .ok (.iload_n 2, 1) := by decide +kernel
theorem dX7_layBest_8 : decode cX7_layBest 8 = .ok (.putfield 229, 3) := by decide +kernel
theorem dX7_layBest_11 : decode cX7_layBest 11 = .ok (.iconst 1, 1) := by decide +kernel
theorem dX7_layBest_12 : decode cX7_layBest 12 = .ok (.iconst 2, 1) := by decide +kernel
theorem dX7_layBest_13 : decode cX7_layBest 13 = .ok (.aload_n 0, 1) := by decide +kernel
theorem dX7_layBest_14 : decode cX7_layBest 14 = .ok (.getfield 223, 3) := by decide +kernel
theorem dX7_layBest_17 : decode cX7_layBest 17 = .ok (.imul, 1) := by decide +kernel
theorem dX7_layBest_18 : decode cX7_layBest 18 = .ok (.ishl, 1) := by decide +kernel
theorem dX7_layBest_19 : decode cX7_layBest 19 = .ok (.istore 4, 2) := by decide +kernel
theorem dX7_layBest_21 : decode cX7_layBest 21 = .ok (.iconst 0, 1) := by decide +kernel
theorem dX7_layBest_22 : decode cX7_layBest 22 = .ok (.istore 5, 2) := by decide +kernel
theorem dX7_layBest_24 : decode cX7_layBest 24 = .ok (.iload 5, 2) := by decide +kernel
theorem dX7_layBest_26 : decode cX7_layBest 26 = .ok (.iload 4, 2) := by decide +kernel
theorem dX7_layBest_28 : decode cX7_layBest 28 = .ok (.if_icmp .ge 23, 3) := by decide +kernel
theorem dX7_layBest_31 : decode cX7_layBest 31 = .ok (.aload_n 0, 1) := by decide +kernel
theorem dX7_layBest_32 : decode cX7_layBest 32 = .ok (.getfield 44, 3) := by decide +kernel
theorem dX7_layBest_35 : decode cX7_layBest 35 = .ok (.sipush 4096, 3) := by decide +kernel
theorem dX7_layBest_38 : decode cX7_layBest 38 = .ok (.iload_n 1, 1) := by decide +kernel
theorem dX7_layBest_39 : decode cX7_layBest 39 = .ok (.imul, 1) := by decide +kernel
theorem dX7_layBest_40 : decode cX7_layBest 40 = .ok (.iload 5, 2) := by decide +kernel
theorem dX7_layBest_42 : decode cX7_layBest 42 = .ok (.iadd, 1) := by decide +kernel
theorem dX7_layBest_43 : decode cX7_layBest 43 = .ok (.iconst 0, 1) := by decide +kernel
theorem dX7_layBest_44 : decode cX7_layBest 44 = .ok (.iastore, 1) := by decide +kernel
theorem dX7_layBest_45 : decode cX7_layBest 45 = .ok (.iinc 5 1, 3) := by decide +kernel
theorem dX7_layBest_48 : decode cX7_layBest 48 = .ok (.goto (-24), 3) := by decide +kernel
theorem dX7_layBest_51 : decode cX7_layBest 51 = .ok (.iload_n 1, 1) := by decide +kernel
theorem dX7_layBest_52 : decode cX7_layBest 52 = .ok (.iconst 1, 1) := by decide +kernel
theorem dX7_layBest_53 : decode cX7_layBest 53 = .ok (.isub, 1) := by decide +kernel
theorem dX7_layBest_54 : decode cX7_layBest 54 = .ok (.istore 5, 2) := by decide +kernel
theorem dX7_layBest_56 : decode cX7_layBest 56 = .ok (.iload 5, 2) := by decide +kernel
theorem dX7_layBest_58 : decode cX7_layBest 58 = .ok (.ifCond .lt 115, 3) := by decide +kernel
theorem dX7_layBest_61 : decode cX7_layBest 61 = .ok (.iconst 0, 1) := by decide +kernel
theorem dX7_layBest_62 : decode cX7_layBest 62 = .ok (.istore 6, 2) := by decide +kernel
theorem dX7_layBest_64 : decode cX7_layBest 64 = .ok (.iload 6, 2) := by decide +kernel
theorem dX7_layBest_66 : decode cX7_layBest 66 = .ok (.iload 4, 2) := by decide +kernel
theorem dX7_layBest_68 : decode cX7_layBest 68 = .ok (.if_icmp .ge 99, 3) := by decide +kernel
theorem dX7_layBest_71 : decode cX7_layBest 71 = .ok (.iconst 0, 1) := by decide +kernel
theorem dX7_layBest_72 : decode cX7_layBest 72 = .ok (.istore 7, 2) := by decide +kernel
theorem dX7_layBest_74 : decode cX7_layBest 74 = .ok (.iconst 0, 1) := by decide +kernel
theorem dX7_layBest_75 : decode cX7_layBest 75 = .ok (.istore 8, 2) := by decide +kernel
theorem dX7_layBest_77 : decode cX7_layBest 77 = .ok (.iload 8, 2) := by decide +kernel
theorem dX7_layBest_79 : decode cX7_layBest 79 = .ok (.bipush 49, 2) := by decide +kernel
theorem dX7_layBest_81 : decode cX7_layBest 81 = .ok (.if_icmp .ge 64, 3) := by decide +kernel
theorem dX7_layBest_84 : decode cX7_layBest 84 = .ok (.aload_n 0, 1) := by decide +kernel
theorem dX7_layBest_85 : decode cX7_layBest 85 = .ok (.iload 8, 2) := by decide +kernel
theorem dX7_layBest_87 : decode cX7_layBest 87 = .ok (.invokevirtual 236, 3) := by decide +kernel
theorem dX7_layBest_90 : decode cX7_layBest 90 = .ok (.istore 9, 2) := by decide +kernel
theorem dX7_layBest_92 : decode cX7_layBest 92 = .ok (.iload 9, 2) := by decide +kernel
theorem dX7_layBest_94 : decode cX7_layBest 94 = .ok (.iconst (-1), 1) := by decide +kernel
theorem dX7_layBest_95 : decode cX7_layBest 95 = .ok (.if_icmp .ne 8, 3) := by decide +kernel
theorem dX7_layBest_98 : decode cX7_layBest 98 = .ok (.bipush (-4), 2) := by decide +kernel
theorem dX7_layBest_100 : decode cX7_layBest 100 = .ok (.goto 21, 3) := by decide +kernel
theorem dX7_layBest_103 : decode cX7_layBest 103 = .ok (.aload_n 0, 1) := by decide +kernel
theorem dX7_layBest_104 : decode cX7_layBest 104 = .ok (.iload 5, 2) := by decide +kernel
theorem dX7_layBest_106 : decode cX7_layBest 106 = .ok (.iload 6, 2) := by decide +kernel
theorem dX7_layBest_108 : decode cX7_layBest 108 = .ok (.iload 9, 2) := by decide +kernel
theorem dX7_layBest_110 : decode cX7_layBest 110 = .ok (.bipush 9, 2) := by decide +kernel
theorem dX7_layBest_112 : decode cX7_layBest 112 = .ok (.irem, 1) := by decide +kernel
theorem dX7_layBest_113 : decode cX7_layBest 113 = .ok (.iload 9, 2) := by decide +kernel
theorem dX7_layBest_115 : decode cX7_layBest 115 = .ok (.bipush 9, 2) := by decide +kernel
theorem dX7_layBest_117 : decode cX7_layBest 117 = .ok (.idiv, 1) := by decide +kernel
theorem dX7_layBest_118 : decode cX7_layBest 118 = .ok (.invokevirtual 239, 3) := by decide +kernel
theorem dX7_layBest_121 : decode cX7_layBest 121 = .ok (.istore 10, 2) := by decide +kernel
theorem dX7_layBest_123 : decode cX7_layBest 123 = .ok (.iload 10, 2) := by decide +kernel
theorem dX7_layBest_125 : decode cX7_layBest 125 = .ok (.iload 7, 2) := by decide +kernel
theorem dX7_layBest_127 : decode cX7_layBest 127 = .ok (.if_icmp .le 8, 3) := by decide +kernel
theorem dX7_layBest_130 : decode cX7_layBest 130 = .ok (.iload 10, 2) := by decide +kernel
theorem dX7_layBest_132 : decode cX7_layBest 132 = .ok (.goto 5, 3) := by decide +kernel
theorem dX7_layBest_135 : decode cX7_layBest 135 = .ok (.iload 7, 2) := by decide +kernel
theorem dX7_layBest_137 : decode cX7_layBest 137 = .ok (.istore 7, 2) := by decide +kernel
theorem dX7_layBest_139 : decode cX7_layBest 139 = .ok (.iinc 8 1, 3) := by decide +kernel
theorem dX7_layBest_142 : decode cX7_layBest 142 = .ok (.goto (-65), 3) := by decide +kernel
theorem dX7_layBest_145 : decode cX7_layBest 145 = .ok (.aload_n 0, 1) := by decide +kernel
theorem dX7_layBest_146 : decode cX7_layBest 146 = .ok (.getfield 44, 3) := by decide +kernel
theorem dX7_layBest_149 : decode cX7_layBest 149 = .ok (.sipush 4096, 3) := by decide +kernel
theorem dX7_layBest_152 : decode cX7_layBest 152 = .ok (.iload 5, 2) := by decide +kernel
theorem dX7_layBest_154 : decode cX7_layBest 154 = .ok (.imul, 1) := by decide +kernel
theorem dX7_layBest_155 : decode cX7_layBest 155 = .ok (.iload 6, 2) := by decide +kernel
theorem dX7_layBest_157 : decode cX7_layBest 157 = .ok (.iadd, 1) := by decide +kernel
theorem dX7_layBest_158 : decode cX7_layBest 158 = .ok (.iload 7, 2) := by decide +kernel
theorem dX7_layBest_160 : decode cX7_layBest 160 = .ok (.iastore, 1) := by decide +kernel
theorem dX7_layBest_161 : decode cX7_layBest 161 = .ok (.iinc 6 1, 3) := by decide +kernel
theorem dX7_layBest_164 : decode cX7_layBest 164 = .ok (.goto (-100), 3) := by decide +kernel
theorem dX7_layBest_167 : decode cX7_layBest 167 = .ok (.iinc 5 (-1), 3) := by decide +kernel
theorem dX7_layBest_170 : decode cX7_layBest 170 = .ok (.goto (-114), 3) := by decide +kernel
theorem dX7_layBest_173 : decode cX7_layBest 173 = .ok (.aload_n 0, 1) := by decide +kernel
theorem dX7_layBest_174 : decode cX7_layBest 174 = .ok (.getfield 44, 3) := by decide +kernel
theorem dX7_layBest_177 : decode cX7_layBest 177 = .ok (.aload_n 0, 1) := by decide +kernel
theorem dX7_layBest_178 : decode cX7_layBest 178 = .ok (.invokevirtual 243, 3) := by decide +kernel
theorem dX7_layBest_181 : decode cX7_layBest 181 = .ok (.iaload, 1) := by decide +kernel
theorem dX7_layBest_182 : decode cX7_layBest 182 = .ok (.ireturn, 1) := by decide +kernel
set_option maxHeartbeats 4000000 in
set_option maxRecDepth 100000 in
theorem c_X7_layBest {l : Launch} {Y : ww_Y} {ad : Nat → Nat} {G : List ww_L} (o0 : Nat) (h0 : ww_at G o0 (ww_LModel o0)) (σ : ww_M) (p1 : Int32) (p2 : Int32) (p3 : Int32) : ww_Cn l Y ad G yX7_layBest cX7_layBest 11 (some .int) 5 [.ref (ad o0), .int p1, .int p2, .int p3] σ ((f_X7_layBest σ o0 p1 p2 p3).bind ww_rw) := by
  refine ww_met (by decide +kernel) (Nat.le_of_ble_eq_true rfl) ?_
  intro X hC hR
  have hC : ww_C X l Y ad G 5 cX7_layBest 11 RX7 := hC
  show ww_V X Y ad G 11 σ 0 [(0, .ref (ad o0)), (1, .int p1), (2, .int p2), (3, .int p3)] [] ((f_X7_layBest σ o0 p1 p2 p3).bind ww_rw)
  have hJ173 : ∀ (σ : ww_M), ww_V X Y ad G 11 σ 173 [(0, .ref (ad o0))] [] ((f_X7_layBest_j173 σ o0 p1 p2 p3).bind ww_rw) := by
    intro σ
    unfold f_X7_layBest_j173
    refine ww_aload_n (pc := 173) hC 0 rfl dX7_layBest_173 rfl ?_
    refine ww_getr (pc := 174) (Cl := RX7) (T := TX7) (N := 36) (j := 26) (ref := RX7) hC (h0 0 _ rfl) rfl inT_X7 (by decide) mw_902 rfl rfl dX7_layBest_174 ?_
    refine ww_aload_n (pc := 177) hC 0 rfl dX7_layBest_177 rfl ?_
    refine ww_callVi (pc := 178) (st := [.ref (ad (o0 + 11))]) (As := []) hC (c_X7_leftNow o0 h0 σ) mm_X7_leftNow mw_1201 (h0 0 _ rfl) rfl (by omega) (by decide) (Nat.le_of_ble_eq_true rfl) rfl dX7_layBest_178 (fun v178 => ?_)
    refine ww_iald (pc := 181) hC (h0 11 _ rfl) dX7_layBest_181 ?_
    exact ww_ireturn (pc := 182) hC hR dX7_layBest_182 rfl
  have hJ56 : ∀ (σ : ww_M) (x4 : Int32) (x5 : Int32), ww_V X Y ad G 11 σ 56 [(0, .ref (ad o0)), (4, .int x4), (5, .int x5)] [] ((f_X7_layBest_j56 σ o0 p1 p2 p3 x4 x5).bind ww_rw) := by
    intro σ x4 x5
    unfold f_X7_layBest_j56
    refine ww_assoc ?_
    refine ww_loop (f := f_X7_layBest_b56 o0 p1 p2 p3 x4) (fun a56 => a56.2) (fun a56 => [(0, .ref (ad o0)), (4, .int x4), (5, .int a56.1)]) (fun b56 => b56) (fun b56 => [(0, .ref (ad o0))]) 173 (fun b56 => ?_) (fun a56 KK56 hc56 hx56 => ?_) ww_F (x5, σ)
    · exact hJ173 b56
    · unfold f_X7_layBest_b56
      have hJ167 : ∀ (σ : ww_M) (x5 : Int32), ww_V X Y ad G 11 σ 167 [(0, .ref (ad o0)), (4, .int x4), (5, .int x5)] [] ((f_X7_layBest_j167 σ o0 p1 p2 p3 x4 x5).bind KK56) := by
        intro σ x5
        unfold f_X7_layBest_j167
        refine ww_iinc (pc := 167) (v := x5 + (-1)) (lv' := [(5, .int (x5 + (-1))), (0, .ref (ad o0)), (4, .int x4)]) hC 2 rfl dX7_layBest_167 rfl (by decide) rfl ?_
        refine ww_goto (pc := 170) (tgt := 56) hC dX7_layBest_170 (by decide) ?_
        refine ww_lv [1, 2, 0] rfl ?_
        exact hc56 (x5 + (-1), σ)
      have hJ64 : ∀ (σ : ww_M) (x5 : Int32) (x6 : Int32), ww_V X Y ad G 11 σ 64 [(0, .ref (ad o0)), (4, .int x4), (5, .int x5), (6, .int x6)] [] ((f_X7_layBest_j64 σ o0 p1 p2 p3 x4 x5 x6).bind KK56) := by
        intro σ x5 x6
        unfold f_X7_layBest_j64
        refine ww_assoc ?_
        refine ww_loop (f := f_X7_layBest_b64 o0 p1 p2 p3 x4 x5) (fun a64 => a64.2) (fun a64 => [(0, .ref (ad o0)), (4, .int x4), (5, .int x5), (6, .int a64.1)]) (fun b64 => b64) (fun b64 => [(0, .ref (ad o0)), (4, .int x4), (5, .int x5)]) 167 (fun b64 => ?_) (fun a64 KK64 hc64 hx64 => ?_) ww_F (x6, σ)
        · exact hJ167 b64 x5
        · unfold f_X7_layBest_b64
          have hJ145 : ∀ (σ : ww_M) (x6 : Int32) (x7 : Int32), ww_V X Y ad G 11 σ 145 [(0, .ref (ad o0)), (4, .int x4), (5, .int x5), (6, .int x6), (7, .int x7)] [] ((f_X7_layBest_j145 σ o0 p1 p2 p3 x4 x5 x6 x7).bind KK64) := by
            intro σ x6 x7
            unfold f_X7_layBest_j145
            refine ww_aload_n (pc := 145) hC 0 rfl dX7_layBest_145 rfl ?_
            refine ww_getr (pc := 146) (Cl := RX7) (T := TX7) (N := 36) (j := 26) (ref := RX7) hC (h0 0 _ rfl) rfl inT_X7 (by decide) mw_902 rfl rfl dX7_layBest_146 ?_
            refine ww_sipush (pc := 149) (v := 4096) hC dX7_layBest_149 rfl ?_
            refine ww_iload (pc := 152) hC 2 rfl dX7_layBest_152 ?_
            refine ww_imul (pc := 154) hC dX7_layBest_154 ?_
            refine ww_iload (pc := 155) hC 3 rfl dX7_layBest_155 ?_
            refine ww_iadd (pc := 157) hC dX7_layBest_157 ?_
            refine ww_iload (pc := 158) hC 4 rfl dX7_layBest_158 ?_
            refine ww_iast (pc := 160) hC (h0 11 _ rfl) dX7_layBest_160 ?_
            refine ww_iinc (pc := 161) (v := x6 + 1) (lv' := [(6, .int (x6 + 1)), (0, .ref (ad o0)), (4, .int x4), (5, .int x5), (7, .int x7)]) hC 3 rfl dX7_layBest_161 rfl (by decide) rfl ?_
            refine ww_goto (pc := 164) (tgt := 64) hC dX7_layBest_164 (by decide) ?_
            refine ww_lv [1, 2, 3, 0] rfl ?_
            exact hc64 (x6 + 1, ww_up σ (o0 + 11) (ww_ix ((4096 * x5) + x6)) x7)
          have hJ77 : ∀ (σ : ww_M) (x6 : Int32) (x7 : Int32) (x8 : Int32), ww_V X Y ad G 11 σ 77 [(0, .ref (ad o0)), (4, .int x4), (5, .int x5), (6, .int x6), (7, .int x7), (8, .int x8)] [] ((f_X7_layBest_j77 σ o0 p1 p2 p3 x4 x5 x6 x7 x8).bind KK64) := by
            intro σ x6 x7 x8
            unfold f_X7_layBest_j77
            refine ww_assoc ?_
            refine ww_loop (f := f_X7_layBest_b77 σ o0 p1 p2 p3 x4 x5 x6) (fun a77 => σ) (fun a77 => [(0, .ref (ad o0)), (4, .int x4), (5, .int x5), (6, .int x6), (7, .int a77.1), (8, .int a77.2)]) (fun b77 => σ) (fun b77 => [(0, .ref (ad o0)), (4, .int x4), (5, .int x5), (6, .int x6), (7, .int b77)]) 145 (fun b77 => ?_) (fun a77 KK77 hc77 hx77 => ?_) ww_F (x7, x8)
            · exact hJ145 σ x6 b77
            · unfold f_X7_layBest_b77
              have hJ121 : ∀ (x7 : Int32) (x8 : Int32) (s0 : Int32), ww_V X Y ad G 11 σ 121 [(0, .ref (ad o0)), (4, .int x4), (5, .int x5), (6, .int x6), (7, .int x7), (8, .int x8)] [.int s0] ((f_X7_layBest_j121 σ o0 p1 p2 p3 x4 x5 x6 x7 x8 s0).bind KK77) := by
                intro x7 x8 s0
                unfold f_X7_layBest_j121
                refine ww_istore (pc := 121) (lv' := [(10, .int s0), (0, .ref (ad o0)), (4, .int x4), (5, .int x5), (6, .int x6), (7, .int x7), (8, .int x8)]) hC dX7_layBest_121 (by decide) rfl ?_
                refine ww_iload (pc := 123) hC 0 rfl dX7_layBest_123 ?_
                refine ww_iload (pc := 125) hC 5 rfl dX7_layBest_125 ?_
                refine ww_icmp_le (pc := 127) (tgt := 135) hC dX7_layBest_127 (by decide) ?_ ?_
                · refine ww_iload (pc := 135) hC 5 rfl dX7_layBest_135 ?_
                  refine ww_istore (pc := 137) (lv' := [(7, .int x7), (10, .int s0), (0, .ref (ad o0)), (4, .int x4), (5, .int x5), (6, .int x6), (8, .int x8)]) hC dX7_layBest_137 (by decide) rfl ?_
                  refine ww_iinc (pc := 139) (v := x8 + 1) (lv' := [(8, .int (x8 + 1)), (7, .int x7), (10, .int s0), (0, .ref (ad o0)), (4, .int x4), (5, .int x5), (6, .int x6)]) hC 6 rfl dX7_layBest_139 rfl (by decide) rfl ?_
                  refine ww_goto (pc := 142) (tgt := 77) hC dX7_layBest_142 (by decide) ?_
                  refine ww_lv [3, 4, 5, 6, 1, 0] rfl ?_
                  exact hc77 (x7, x8 + 1)
                · refine ww_iload (pc := 130) hC 0 rfl dX7_layBest_130 ?_
                  refine ww_goto (pc := 132) (tgt := 137) hC dX7_layBest_132 (by decide) ?_
                  refine ww_istore (pc := 137) (lv' := [(7, .int s0), (10, .int s0), (0, .ref (ad o0)), (4, .int x4), (5, .int x5), (6, .int x6), (8, .int x8)]) hC dX7_layBest_137 (by decide) rfl ?_
                  refine ww_iinc (pc := 139) (v := x8 + 1) (lv' := [(8, .int (x8 + 1)), (7, .int s0), (10, .int s0), (0, .ref (ad o0)), (4, .int x4), (5, .int x5), (6, .int x6)]) hC 6 rfl dX7_layBest_139 rfl (by decide) rfl ?_
                  refine ww_goto (pc := 142) (tgt := 77) hC dX7_layBest_142 (by decide) ?_
                  refine ww_lv [3, 4, 5, 6, 1, 0] rfl ?_
                  exact hc77 (s0, x8 + 1)
              refine ww_iload (pc := 77) hC 5 rfl dX7_layBest_77 ?_
              refine ww_bipush (pc := 79) (v := 49) hC dX7_layBest_79 rfl ?_
              refine ww_icmp_ge (pc := 81) (tgt := 145) hC dX7_layBest_81 (by decide) ?_ ?_
              · refine ww_lv [0, 1, 2, 3, 4] rfl ?_
                exact hx77 a77.1
              · refine ww_aload_n (pc := 84) hC 0 rfl dX7_layBest_84 rfl ?_
                refine ww_iload (pc := 85) hC 5 rfl dX7_layBest_85 ?_
                refine ww_callVi (pc := 87) (st := []) (As := [.int a77.2]) hC (c_X7_choice o0 h0 σ a77.2) mm_X7_choice mw_1190 (h0 0 _ rfl) rfl (by omega) (by decide) (Nat.le_of_ble_eq_true rfl) rfl dX7_layBest_87 (fun v87 => ?_)
                refine ww_istore (pc := 90) (lv' := [(9, .int v87), (0, .ref (ad o0)), (4, .int x4), (5, .int x5), (6, .int x6), (7, .int a77.1), (8, .int a77.2)]) hC dX7_layBest_90 (by decide) rfl ?_
                refine ww_iload (pc := 92) hC 0 rfl dX7_layBest_92 ?_
                refine ww_iconst (pc := 94) (v := (-1)) hC dX7_layBest_94 rfl ?_
                refine ww_icmp_ne (pc := 95) (tgt := 103) hC dX7_layBest_95 (by decide) ?_ ?_
                · refine ww_aload_n (pc := 103) hC 1 rfl dX7_layBest_103 rfl ?_
                  refine ww_iload (pc := 104) hC 3 rfl dX7_layBest_104 ?_
                  refine ww_iload (pc := 106) hC 4 rfl dX7_layBest_106 ?_
                  refine ww_iload (pc := 108) hC 0 rfl dX7_layBest_108 ?_
                  refine ww_bipush (pc := 110) (v := 9) hC dX7_layBest_110 rfl ?_
                  refine ww_irem_c (pc := 112) hC dX7_layBest_112 (by decide) ?_
                  refine ww_iload (pc := 113) hC 0 rfl dX7_layBest_113 ?_
                  refine ww_bipush (pc := 115) (v := 9) hC dX7_layBest_115 rfl ?_
                  refine ww_idiv_c (pc := 117) hC dX7_layBest_117 (by decide) ?_
                  refine ww_callVi (pc := 118) (st := []) (As := [.int x5, .int x6, .int (ww_rem v87 9), .int (v87 / 9)]) hC (c_X7_byWork o0 h0 σ x5 x6 (ww_rem v87 9) (v87 / 9)) mm_X7_byWork mw_1194 (h0 0 _ rfl) rfl (by omega) (by decide) (Nat.le_of_ble_eq_true rfl) rfl dX7_layBest_118 (fun v118 => ?_)
                  refine ww_lv [1, 2, 3, 4, 5, 6] rfl ?_
                  exact hJ121 a77.1 a77.2 v118
                · refine ww_bipush (pc := 98) (v := (-4)) hC dX7_layBest_98 rfl ?_
                  refine ww_goto (pc := 100) (tgt := 121) hC dX7_layBest_100 (by decide) ?_
                  refine ww_lv [1, 2, 3, 4, 5, 6] rfl ?_
                  exact hJ121 a77.1 a77.2 (-4)
          refine ww_iload (pc := 64) hC 3 rfl dX7_layBest_64 ?_
          refine ww_iload (pc := 66) hC 1 rfl dX7_layBest_66 ?_
          refine ww_icmp_ge (pc := 68) (tgt := 167) hC dX7_layBest_68 (by decide) ?_ ?_
          · refine ww_lv [0, 1, 2] rfl ?_
            exact hx64 a64.2
          · refine ww_iconst (pc := 71) (v := 0) hC dX7_layBest_71 rfl ?_
            refine ww_istore (pc := 72) (lv' := [(7, .int 0), (0, .ref (ad o0)), (4, .int x4), (5, .int x5), (6, .int a64.1)]) hC dX7_layBest_72 (by decide) rfl ?_
            refine ww_iconst (pc := 74) (v := 0) hC dX7_layBest_74 rfl ?_
            refine ww_istore (pc := 75) (lv' := [(8, .int 0), (7, .int 0), (0, .ref (ad o0)), (4, .int x4), (5, .int x5), (6, .int a64.1)]) hC dX7_layBest_75 (by decide) rfl ?_
            refine ww_lv [2, 3, 4, 5, 1, 0] rfl ?_
            exact hJ77 a64.2 a64.1 0 0
      refine ww_iload (pc := 56) hC 2 rfl dX7_layBest_56 ?_
      refine ww_if_lt (pc := 58) (tgt := 173) hC dX7_layBest_58 (by decide) ?_ ?_
      · refine ww_lv [0] rfl ?_
        exact hx56 a56.2
      · refine ww_iconst (pc := 61) (v := 0) hC dX7_layBest_61 rfl ?_
        refine ww_istore (pc := 62) (lv' := [(6, .int 0), (0, .ref (ad o0)), (4, .int x4), (5, .int a56.1)]) hC dX7_layBest_62 (by decide) rfl ?_
        refine ww_lv [1, 2, 3, 0] rfl ?_
        exact hJ64 a56.2 a56.1 0
  have hJ51 : ∀ (σ : ww_M) (x4 : Int32), ww_V X Y ad G 11 σ 51 [(0, .ref (ad o0)), (1, .int p1), (4, .int x4)] [] ((f_X7_layBest_j51 σ o0 p1 p2 p3 x4).bind ww_rw) := by
    intro σ x4
    unfold f_X7_layBest_j51
    refine ww_iload_n (pc := 51) hC 1 rfl dX7_layBest_51 rfl ?_
    refine ww_iconst (pc := 52) (v := 1) hC dX7_layBest_52 rfl ?_
    refine ww_isub (pc := 53) hC dX7_layBest_53 ?_
    refine ww_istore (pc := 54) (lv' := [(5, .int (p1 - 1)), (0, .ref (ad o0)), (1, .int p1), (4, .int x4)]) hC dX7_layBest_54 (by decide) rfl ?_
    refine ww_lv [1, 3, 0] rfl ?_
    exact hJ56 σ x4 (p1 - 1)
  have hJ24 : ∀ (σ : ww_M) (x4 : Int32) (x5 : Int32), ww_V X Y ad G 11 σ 24 [(0, .ref (ad o0)), (1, .int p1), (4, .int x4), (5, .int x5)] [] ((f_X7_layBest_j24 σ o0 p1 p2 p3 x4 x5).bind ww_rw) := by
    intro σ x4 x5
    unfold f_X7_layBest_j24
    refine ww_assoc ?_
    refine ww_loop (f := f_X7_layBest_b24 o0 p1 p2 p3 x4) (fun a24 => a24.2) (fun a24 => [(0, .ref (ad o0)), (1, .int p1), (4, .int x4), (5, .int a24.1)]) (fun b24 => b24) (fun b24 => [(0, .ref (ad o0)), (1, .int p1), (4, .int x4)]) 51 (fun b24 => ?_) (fun a24 KK24 hc24 hx24 => ?_) ww_F (x5, σ)
    · exact hJ51 b24 x4
    · unfold f_X7_layBest_b24
      refine ww_iload (pc := 24) hC 3 rfl dX7_layBest_24 ?_
      refine ww_iload (pc := 26) hC 2 rfl dX7_layBest_26 ?_
      refine ww_icmp_ge (pc := 28) (tgt := 51) hC dX7_layBest_28 (by decide) ?_ ?_
      · refine ww_lv [0, 1, 2] rfl ?_
        exact hx24 a24.2
      · refine ww_aload_n (pc := 31) hC 0 rfl dX7_layBest_31 rfl ?_
        refine ww_getr (pc := 32) (Cl := RX7) (T := TX7) (N := 36) (j := 26) (ref := RX7) hC (h0 0 _ rfl) rfl inT_X7 (by decide) mw_902 rfl rfl dX7_layBest_32 ?_
        refine ww_sipush (pc := 35) (v := 4096) hC dX7_layBest_35 rfl ?_
        refine ww_iload_n (pc := 38) hC 1 rfl dX7_layBest_38 rfl ?_
        refine ww_imul (pc := 39) hC dX7_layBest_39 ?_
        refine ww_iload (pc := 40) hC 3 rfl dX7_layBest_40 ?_
        refine ww_iadd (pc := 42) hC dX7_layBest_42 ?_
        refine ww_iconst (pc := 43) (v := 0) hC dX7_layBest_43 rfl ?_
        refine ww_iast (pc := 44) hC (h0 11 _ rfl) dX7_layBest_44 ?_
        refine ww_iinc (pc := 45) (v := a24.1 + 1) (lv' := [(5, .int (a24.1 + 1)), (0, .ref (ad o0)), (1, .int p1), (4, .int x4)]) hC 3 rfl dX7_layBest_45 rfl (by decide) rfl ?_
        refine ww_goto (pc := 48) (tgt := 24) hC dX7_layBest_48 (by decide) ?_
        refine ww_lv [1, 2, 3, 0] rfl ?_
        exact hc24 (a24.1 + 1, ww_up a24.2 (o0 + 11) (ww_ix ((4096 * p1) + a24.1)) 0)
  unfold f_X7_layBest
  refine ww_aload_n (pc := 0) hC 0 rfl dX7_layBest_0 rfl ?_
  refine ww_iload_n (pc := 1) hC 1 rfl dX7_layBest_1 rfl ?_
  refine ww_iload_n (pc := 2) hC 3 rfl dX7_layBest_2 rfl ?_
  refine ww_callVv (pc := 3) (st := []) (As := [.int p1, .int p3]) hC (c_X7_layParts o0 h0 σ p1 p3) mm_X7_layParts mw_1186 (h0 0 _ rfl) rfl (by omega) (by decide) (Nat.le_of_ble_eq_true rfl) rfl dX7_layBest_3 (fun v3 => ?_)
  refine ww_aload_n (pc := 6) hC 0 rfl dX7_layBest_6 rfl ?_
  refine ww_iload_n (pc := 7) hC 2 rfl dX7_layBest_7 rfl ?_
  refine ww_puti (pc := 8) (Cl := RX7) (T := TX7) (N := 36) (j := 28) (ref := RX7) hC (h0 0 _ rfl) rfl inT_X7 (by decide) mw_904 rfl tyX7 tyX7_ok nmX7 rfl rfl (tyX7_ok 28 (by decide)) dX7_layBest_8 ?_
  refine ww_iconst (pc := 11) (v := 1) hC dX7_layBest_11 rfl ?_
  refine ww_iconst (pc := 12) (v := 2) hC dX7_layBest_12 rfl ?_
  refine ww_aload_n (pc := 13) hC 0 rfl dX7_layBest_13 rfl ?_
  refine ww_geti (pc := 14) (Cl := RX7) (T := TX7) (N := 36) (j := 25) (ref := RX7) hC (h0 0 _ rfl) rfl inT_X7 (by decide) mw_901 rfl rfl dX7_layBest_14 ?_
  refine ww_imul (pc := 17) hC dX7_layBest_17 ?_
  refine ww_ishl (pc := 18) hC dX7_layBest_18 ?_
  refine ww_istore (pc := 19) (lv' := [(4, .int (ww_shl 1 (2 * ((ww_up v3 o0 28 p2) o0 25)))), (0, .ref (ad o0)), (1, .int p1), (2, .int p2), (3, .int p3)]) hC dX7_layBest_19 (by decide) rfl ?_
  refine ww_iconst (pc := 21) (v := 0) hC dX7_layBest_21 rfl ?_
  refine ww_istore (pc := 22) (lv' := [(5, .int 0), (4, .int (ww_shl 1 (2 * ((ww_up v3 o0 28 p2) o0 25)))), (0, .ref (ad o0)), (1, .int p1), (2, .int p2), (3, .int p3)]) hC dX7_layBest_22 (by decide) rfl ?_
  refine ww_lv [2, 3, 1, 0] rfl ?_
  exact hJ24 (ww_up v3 o0 28 p2) (ww_shl 1 (2 * ((ww_up v3 o0 28 p2) o0 25))) 0
theorem dX7_best_0 : decode cX7_best 0 = .ok (.iload_n 1, 1) := by decide +kernel
theorem dX7_best_1 : decode cX7_best 1 = .ok (.i2l, 1) := by decide +kernel
theorem dX7_best_2 : decode cX7_best 2 = .ok (.lconst 0, 1) := by decide +kernel
theorem dX7_best_3 : decode cX7_best 3 = .ok (.ldc2_w 246, 3) := by decide +kernel
theorem dX7_best_6 : decode cX7_best 6 = .ok (.invokestatic 68, 3) := by decide +kernel
theorem dX7_best_9 : decode cX7_best 9 = .ok (.ifCond .eq 25, 3) := by decide +kernel
theorem dX7_best_12 : decode cX7_best 12 = .ok (.iload_n 2, 1) := by decide +kernel
theorem dX7_best_13 : decode cX7_best 13 = .ok (.ifCond .eq 23, 3) := by decide +kernel
theorem dX7_best_16 : decode cX7_best 16 = .ok (.iload_n 2, 1) := by decide +kernel
theorem dX7_best_17 : decode cX7_best 17 = .ok (.i2l, 1) := by decide +kernel
theorem dX7_best_18 : decode cX7_best 18 = .ok (.ldc2_w 248, 3) := by decide +kernel
theorem dX7_best_21 : decode cX7_best 21 = .ok (.bipush 9, 2) := by decide +kernel
theorem dX7_best_23 : decode cX7_best 23 = .ok (.iconst 2, 1) := by decide +kernel
theorem dX7_best_24 : decode cX7_best 24 = .ok (.iload_n 1, 1) := by decide +kernel
theorem dX7_best_25 : decode cX7_best 25 = .ok (.imul, 1) := by decide +kernel
theorem dX7_best_26 : decode cX7_best 26 = .ok (.iadd, 1) := by decide +kernel
theorem dX7_best_27 : decode cX7_best 27 = .ok (.i2l, 1) := by decide +kernel
theorem dX7_best_28 : decode cX7_best 28 = .ok (.invokestatic 68, 3) := by decide +kernel
theorem dX7_best_31 : decode cX7_best 31 = .ok (.ifCond .ne 5, 3) := by decide +kernel
theorem dX7_best_34 : decode cX7_best 34 = .ok (.iconst (-1), 1) := by decide +kernel
theorem dX7_best_35 : decode cX7_best 35 = .ok (.ireturn, 1) := by decide +kernel
theorem dX7_best_36 : decode cX7_best 36 = .ok (.aload_n 0, 1) := by decide +kernel
theorem dX7_best_37 : decode cX7_best 37 = .ok (.iload_n 1, 1) := by decide +kernel
theorem dX7_best_38 : decode cX7_best 38 = .ok (.aload_n 0, 1) := by decide +kernel
theorem dX7_best_39 : decode cX7_best 39 = .ok (.invokevirtual 172, 3) := by decide +kernel
theorem dX7_best_42 : decode cX7_best 42 = .ok (.bipush (-4), 2) := by decide +kernel
theorem dX7_best_44 : decode cX7_best 44 = .ok (.invokevirtual 250, 3) := by decide +kernel
theorem dX7_best_47 : decode cX7_best 47 = .ok (.istore_n 3, 1) := by decide +kernel
theorem dX7_best_48 : decode cX7_best 48 = .ok (.iload_n 2, 1) := by decide +kernel
theorem dX7_best_49 : decode cX7_best 49 = .ok (.ifCond .ne 5, 3) := by decide +kernel
theorem dX7_best_52 : decode cX7_best 52 = .ok (.iload_n 3, 1) := by decide +kernel
theorem dX7_best_53 : decode cX7_best 53 = .ok (.ireturn, 1) := by decide +kernel
theorem dX7_best_54 : decode cX7_best 54 = .ok (.aload_n 0, 1) := by decide +kernel
theorem dX7_best_55 : decode cX7_best 55 = .ok (.invokevirtual 243, 3) := by decide +kernel
theorem dX7_best_58 : decode cX7_best 58 = .ok (.istore 4, 2) := by decide +kernel
theorem dX7_best_60 : decode cX7_best 60 = .ok (.iconst 0, 1) := by decide +kernel
theorem dX7_best_61 : decode cX7_best 61 = .ok (.istore 5, 2) := by decide +kernel
theorem dX7_best_63 : decode cX7_best 63 = .ok (.iconst 0, 1) := by decide +kernel
theorem dX7_best_64 : decode cX7_best 64 = .ok (.istore 6, 2) := by decide +kernel
theorem dX7_best_66 : decode cX7_best 66 = .ok (.iload 6, 2) := by decide +kernel
theorem dX7_best_68 : decode cX7_best 68 = .ok (.iload_n 2, 1) := by decide +kernel
theorem dX7_best_69 : decode cX7_best 69 = .ok (.bipush 10, 2) := by decide +kernel
theorem dX7_best_71 : decode cX7_best 71 = .ok (.isub, 1) := by decide +kernel
theorem dX7_best_72 : decode cX7_best 72 = .ok (.iconst 2, 1) := by decide +kernel
theorem dX7_best_73 : decode cX7_best 73 = .ok (.idiv, 1) := by decide +kernel
theorem dX7_best_74 : decode cX7_best 74 = .ok (.if_icmp .gt 135, 3) := by decide +kernel
theorem dX7_best_77 : decode cX7_best 77 = .ok (.iconst 0, 1) := by decide +kernel
theorem dX7_best_78 : decode cX7_best 78 = .ok (.istore 7, 2) := by decide +kernel
theorem dX7_best_80 : decode cX7_best 80 = .ok (.aload_n 0, 1) := by decide +kernel
theorem dX7_best_81 : decode cX7_best 81 = .ok (.iload 7, 2) := by decide +kernel
theorem dX7_best_83 : decode cX7_best 83 = .ok (.invokevirtual 236, 3) := by decide +kernel
theorem dX7_best_86 : decode cX7_best 86 = .ok (.istore 5, 2) := by decide +kernel
theorem dX7_best_88 : decode cX7_best 88 = .ok (.iload 5, 2) := by decide +kernel
theorem dX7_best_90 : decode cX7_best 90 = .ok (.iconst (-1), 1) := by decide +kernel
theorem dX7_best_91 : decode cX7_best 91 = .ok (.if_icmp .eq 38, 3) := by decide +kernel
theorem dX7_best_94 : decode cX7_best 94 = .ok (.aload_n 0, 1) := by decide +kernel
theorem dX7_best_95 : decode cX7_best 95 = .ok (.iload 6, 2) := by decide +kernel
theorem dX7_best_97 : decode cX7_best 97 = .ok (.iload 4, 2) := by decide +kernel
theorem dX7_best_99 : decode cX7_best 99 = .ok (.iload 5, 2) := by decide +kernel
theorem dX7_best_101 : decode cX7_best 101 = .ok (.bipush 9, 2) := by decide +kernel
theorem dX7_best_103 : decode cX7_best 103 = .ok (.irem, 1) := by decide +kernel
theorem dX7_best_104 : decode cX7_best 104 = .ok (.iload 5, 2) := by decide +kernel
theorem dX7_best_106 : decode cX7_best 106 = .ok (.bipush 9, 2) := by decide +kernel
theorem dX7_best_108 : decode cX7_best 108 = .ok (.idiv, 1) := by decide +kernel
theorem dX7_best_109 : decode cX7_best 109 = .ok (.invokevirtual 239, 3) := by decide +kernel
theorem dX7_best_112 : decode cX7_best 112 = .ok (.aload_n 0, 1) := by decide +kernel
theorem dX7_best_113 : decode cX7_best 113 = .ok (.getfield 44, 3) := by decide +kernel
theorem dX7_best_116 : decode cX7_best 116 = .ok (.sipush 4096, 3) := by decide +kernel
theorem dX7_best_119 : decode cX7_best 119 = .ok (.iload 6, 2) := by decide +kernel
theorem dX7_best_121 : decode cX7_best 121 = .ok (.imul, 1) := by decide +kernel
theorem dX7_best_122 : decode cX7_best 122 = .ok (.iload 4, 2) := by decide +kernel
theorem dX7_best_124 : decode cX7_best 124 = .ok (.iadd, 1) := by decide +kernel
theorem dX7_best_125 : decode cX7_best 125 = .ok (.iaload, 1) := by decide +kernel
theorem dX7_best_126 : decode cX7_best 126 = .ok (.if_icmp .eq 17, 3) := by decide +kernel
theorem dX7_best_129 : decode cX7_best 129 = .ok (.iinc 7 1, 3) := by decide +kernel
theorem dX7_best_132 : decode cX7_best 132 = .ok (.aload_n 0, 1) := by decide +kernel
theorem dX7_best_133 : decode cX7_best 133 = .ok (.iload 7, 2) := by decide +kernel
theorem dX7_best_135 : decode cX7_best 135 = .ok (.invokevirtual 236, 3) := by decide +kernel
theorem dX7_best_138 : decode cX7_best 138 = .ok (.istore 5, 2) := by decide +kernel
theorem dX7_best_140 : decode cX7_best 140 = .ok (.goto (-52), 3) := by decide +kernel
theorem dX7_best_143 : decode cX7_best 143 = .ok (.iload 4, 2) := by decide +kernel
theorem dX7_best_145 : decode cX7_best 145 = .ok (.iload 5, 2) := by decide +kernel
theorem dX7_best_147 : decode cX7_best 147 = .ok (.bipush 9, 2) := by decide +kernel
theorem dX7_best_149 : decode cX7_best 149 = .ok (.irem, 1) := by decide +kernel
theorem dX7_best_150 : decode cX7_best 150 = .ok (.aload_n 0, 1) := by decide +kernel
theorem dX7_best_151 : decode cX7_best 151 = .ok (.getfield 223, 3) := by decide +kernel
theorem dX7_best_154 : decode cX7_best 154 = .ok (.if_icmp .ge 15, 3) := by decide +kernel
theorem dX7_best_157 : decode cX7_best 157 = .ok (.iconst 1, 1) := by decide +kernel
theorem dX7_best_158 : decode cX7_best 158 = .ok (.iconst 2, 1) := by decide +kernel
theorem dX7_best_159 : decode cX7_best 159 = .ok (.iload 5, 2) := by decide +kernel
theorem dX7_best_161 : decode cX7_best 161 = .ok (.bipush 9, 2) := by decide +kernel
theorem dX7_best_163 : decode cX7_best 163 = .ok (.irem, 1) := by decide +kernel
theorem dX7_best_164 : decode cX7_best 164 = .ok (.imul, 1) := by decide +kernel
theorem dX7_best_165 : decode cX7_best 165 = .ok (.ishl, 1) := by decide +kernel
theorem dX7_best_166 : decode cX7_best 166 = .ok (.goto 4, 3) := by decide +kernel
theorem dX7_best_169 : decode cX7_best 169 = .ok (.iconst 0, 1) := by decide +kernel
theorem dX7_best_170 : decode cX7_best 170 = .ok (.isub, 1) := by decide +kernel
theorem dX7_best_171 : decode cX7_best 171 = .ok (.istore 4, 2) := by decide +kernel
theorem dX7_best_173 : decode cX7_best 173 = .ok (.iload 4, 2) := by decide +kernel
theorem dX7_best_175 : decode cX7_best 175 = .ok (.iload 5, 2) := by decide +kernel
theorem dX7_best_177 : decode cX7_best 177 = .ok (.bipush 9, 2) := by decide +kernel
theorem dX7_best_179 : decode cX7_best 179 = .ok (.idiv, 1) := by decide +kernel
theorem dX7_best_180 : decode cX7_best 180 = .ok (.aload_n 0, 1) := by decide +kernel
theorem dX7_best_181 : decode cX7_best 181 = .ok (.getfield 223, 3) := by decide +kernel
theorem dX7_best_184 : decode cX7_best 184 = .ok (.if_icmp .ge 15, 3) := by decide +kernel
theorem dX7_best_187 : decode cX7_best 187 = .ok (.iconst 1, 1) := by decide +kernel
theorem dX7_best_188 : decode cX7_best 188 = .ok (.iconst 2, 1) := by decide +kernel
theorem dX7_best_189 : decode cX7_best 189 = .ok (.iload 5, 2) := by decide +kernel
theorem dX7_best_191 : decode cX7_best 191 = .ok (.bipush 9, 2) := by decide +kernel
theorem dX7_best_193 : decode cX7_best 193 = .ok (.idiv, 1) := by decide +kernel
theorem dX7_best_194 : decode cX7_best 194 = .ok (.imul, 1) := by decide +kernel
theorem dX7_best_195 : decode cX7_best 195 = .ok (.ishl, 1) := by decide +kernel
theorem dX7_best_196 : decode cX7_best 196 = .ok (.goto 4, 3) := by decide +kernel
theorem dX7_best_199 : decode cX7_best 199 = .ok (.iconst 0, 1) := by decide +kernel
theorem dX7_best_200 : decode cX7_best 200 = .ok (.isub, 1) := by decide +kernel
theorem dX7_best_201 : decode cX7_best 201 = .ok (.istore 4, 2) := by decide +kernel
theorem dX7_best_203 : decode cX7_best 203 = .ok (.iinc 6 1, 3) := by decide +kernel
theorem dX7_best_206 : decode cX7_best 206 = .ok (.goto (-140), 3) := by decide +kernel
theorem dX7_best_209 : decode cX7_best 209 = .ok (.iload_n 2, 1) := by decide +kernel
theorem dX7_best_210 : decode cX7_best 210 = .ok (.iconst 2, 1) := by decide +kernel
theorem dX7_best_211 : decode cX7_best 211 = .ok (.irem, 1) := by decide +kernel
theorem dX7_best_212 : decode cX7_best 212 = .ok (.ifCond .ne 11, 3) := by decide +kernel
theorem dX7_best_215 : decode cX7_best 215 = .ok (.iload 5, 2) := by decide +kernel
theorem dX7_best_217 : decode cX7_best 217 = .ok (.bipush 9, 2) := by decide +kernel
theorem dX7_best_219 : decode cX7_best 219 = .ok (.irem, 1) := by decide +kernel
theorem dX7_best_220 : decode cX7_best 220 = .ok (.goto 8, 3) := by decide +kernel
theorem dX7_best_223 : decode cX7_best 223 = .ok (.iload 5, 2) := by decide +kernel
theorem dX7_best_225 : decode cX7_best 225 = .ok (.bipush 9, 2) := by decide +kernel
theorem dX7_best_227 : decode cX7_best 227 = .ok (.idiv, 1) := by decide +kernel
theorem dX7_best_228 : decode cX7_best 228 = .ok (.istore 6, 2) := by decide +kernel
theorem dX7_best_230 : decode cX7_best 230 = .ok (.iload 6, 2) := by decide +kernel
theorem dX7_best_232 : decode cX7_best 232 = .ok (.aload_n 0, 1) := by decide +kernel
theorem dX7_best_233 : decode cX7_best 233 = .ok (.getfield 223, 3) := by decide +kernel
theorem dX7_best_236 : decode cX7_best 236 = .ok (.if_icmp .ge 13, 3) := by decide +kernel
theorem dX7_best_239 : decode cX7_best 239 = .ok (.aload_n 0, 1) := by decide +kernel
theorem dX7_best_240 : decode cX7_best 240 = .ok (.getfield 41, 3) := by decide +kernel
theorem dX7_best_243 : decode cX7_best 243 = .ok (.iload 6, 2) := by decide +kernel
theorem dX7_best_245 : decode cX7_best 245 = .ok (.iaload, 1) := by decide +kernel
theorem dX7_best_246 : decode cX7_best 246 = .ok (.goto 5, 3) := by decide +kernel
theorem dX7_best_249 : decode cX7_best 249 = .ok (.bipush (-4), 2) := by decide +kernel
theorem dX7_best_251 : decode cX7_best 251 = .ok (.ireturn, 1) := by decide +kernel
set_option maxHeartbeats 4000000 in
set_option maxRecDepth 100000 in
theorem c_X7_best {l : Launch} {Y : ww_Y} {ad : Nat → Nat} {G : List ww_L} (o0 : Nat) (h0 : ww_at G o0 (ww_LModel o0)) (σ : ww_M) (p1 : Int32) (p2 : Int32) : ww_Cn l Y ad G yX7_best cX7_best 8 (some .int) 6 [.ref (ad o0), .int p1, .int p2] σ ((f_X7_best σ o0 p1 p2).bind ww_rw) := by
  refine ww_met (by decide +kernel) (Nat.le_of_ble_eq_true rfl) ?_
  intro X hC hR
  have hC : ww_C X l Y ad G 6 cX7_best 8 RX7 := hC
  show ww_V X Y ad G 8 σ 0 [(0, .ref (ad o0)), (1, .int p1), (2, .int p2)] [] ((f_X7_best σ o0 p1 p2).bind ww_rw)
  have hJ228 : ∀ (σ : ww_M) (s0 : Int32), ww_V X Y ad G 8 σ 228 [(0, .ref (ad o0))] [.int s0] ((f_X7_best_j228 σ o0 p1 p2 s0).bind ww_rw) := by
    intro σ s0
    unfold f_X7_best_j228
    refine ww_istore (pc := 228) (lv' := [(6, .int s0), (0, .ref (ad o0))]) hC dX7_best_228 (by decide) rfl ?_
    refine ww_iload (pc := 230) hC 0 rfl dX7_best_230 ?_
    refine ww_aload_n (pc := 232) hC 1 rfl dX7_best_232 rfl ?_
    refine ww_geti (pc := 233) (Cl := RX7) (T := TX7) (N := 36) (j := 25) (ref := RX7) hC (h0 0 _ rfl) rfl inT_X7 (by decide) mw_901 rfl rfl dX7_best_233 ?_
    refine ww_icmp_ge (pc := 236) (tgt := 249) hC dX7_best_236 (by decide) ?_ ?_
    · refine ww_bipush (pc := 249) (v := (-4)) hC dX7_best_249 rfl ?_
      exact ww_ireturn (pc := 251) hC hR dX7_best_251 rfl
    · refine ww_aload_n (pc := 239) hC 1 rfl dX7_best_239 rfl ?_
      refine ww_getr (pc := 240) (Cl := RX7) (T := TX7) (N := 36) (j := 24) (ref := RX7) hC (h0 0 _ rfl) rfl inT_X7 (by decide) mw_900 rfl rfl dX7_best_240 ?_
      refine ww_iload (pc := 243) hC 0 rfl dX7_best_243 ?_
      refine ww_iald (pc := 245) hC (h0 10 _ rfl) dX7_best_245 ?_
      refine ww_goto (pc := 246) (tgt := 251) hC dX7_best_246 (by decide) ?_
      exact ww_ireturn (pc := 251) hC hR dX7_best_251 rfl
  have hJ209 : ∀ (σ : ww_M) (x5 : Int32), ww_V X Y ad G 8 σ 209 [(0, .ref (ad o0)), (2, .int p2), (5, .int x5)] [] ((f_X7_best_j209 σ o0 p1 p2 x5).bind ww_rw) := by
    intro σ x5
    unfold f_X7_best_j209
    refine ww_iload_n (pc := 209) hC 1 rfl dX7_best_209 rfl ?_
    refine ww_iconst (pc := 210) (v := 2) hC dX7_best_210 rfl ?_
    refine ww_irem_c (pc := 211) hC dX7_best_211 (by decide) ?_
    refine ww_if_ne (pc := 212) (tgt := 223) hC dX7_best_212 (by decide) ?_ ?_
    · refine ww_iload (pc := 223) hC 2 rfl dX7_best_223 ?_
      refine ww_bipush (pc := 225) (v := 9) hC dX7_best_225 rfl ?_
      refine ww_idiv_c (pc := 227) hC dX7_best_227 (by decide) ?_
      refine ww_lv [0] rfl ?_
      exact hJ228 σ (x5 / 9)
    · refine ww_iload (pc := 215) hC 2 rfl dX7_best_215 ?_
      refine ww_bipush (pc := 217) (v := 9) hC dX7_best_217 rfl ?_
      refine ww_irem_c (pc := 219) hC dX7_best_219 (by decide) ?_
      refine ww_goto (pc := 220) (tgt := 228) hC dX7_best_220 (by decide) ?_
      refine ww_lv [0] rfl ?_
      exact hJ228 σ (ww_rem x5 9)
  have hJ66 : ∀ (σ : ww_M) (x4 : Int32) (x5 : Int32) (x6 : Int32), ww_V X Y ad G 8 σ 66 [(0, .ref (ad o0)), (2, .int p2), (4, .int x4), (5, .int x5), (6, .int x6)] [] ((f_X7_best_j66 σ o0 p1 p2 x4 x5 x6).bind ww_rw) := by
    intro σ x4 x5 x6
    unfold f_X7_best_j66
    refine ww_assoc ?_
    refine ww_loop (f := f_X7_best_b66 σ o0 p1 p2) (fun a66 => σ) (fun a66 => [(0, .ref (ad o0)), (2, .int p2), (4, .int a66.1), (5, .int a66.2.1), (6, .int a66.2.2)]) (fun b66 => σ) (fun b66 => [(0, .ref (ad o0)), (2, .int p2), (5, .int b66)]) 209 (fun b66 => ?_) (fun a66 KK66 hc66 hx66 => ?_) ww_F (x4, x5, x6)
    · exact hJ209 σ b66
    · unfold f_X7_best_b66
      have hJ170 : ∀ (x5 : Int32) (x6 : Int32) (s0 : Int32) (s1 : Int32), ww_V X Y ad G 8 σ 170 [(0, .ref (ad o0)), (2, .int p2), (5, .int x5), (6, .int x6)] [.int s0, .int s1] ((f_X7_best_j170 σ o0 p1 p2 x5 x6 s0 s1).bind KK66) := by
        intro x5 x6 s0 s1
        unfold f_X7_best_j170
        refine ww_isub (pc := 170) hC dX7_best_170 ?_
        refine ww_istore (pc := 171) (lv' := [(4, .int (s1 - s0)), (0, .ref (ad o0)), (2, .int p2), (5, .int x5), (6, .int x6)]) hC dX7_best_171 (by decide) rfl ?_
        refine ww_iload (pc := 173) hC 0 rfl dX7_best_173 ?_
        refine ww_iload (pc := 175) hC 3 rfl dX7_best_175 ?_
        refine ww_bipush (pc := 177) (v := 9) hC dX7_best_177 rfl ?_
        refine ww_idiv_c (pc := 179) hC dX7_best_179 (by decide) ?_
        refine ww_aload_n (pc := 180) hC 1 rfl dX7_best_180 rfl ?_
        refine ww_geti (pc := 181) (Cl := RX7) (T := TX7) (N := 36) (j := 25) (ref := RX7) hC (h0 0 _ rfl) rfl inT_X7 (by decide) mw_901 rfl rfl dX7_best_181 ?_
        refine ww_icmp_ge (pc := 184) (tgt := 199) hC dX7_best_184 (by decide) ?_ ?_
        · refine ww_iconst (pc := 199) (v := 0) hC dX7_best_199 rfl ?_
          refine ww_isub (pc := 200) hC dX7_best_200 ?_
          refine ww_istore (pc := 201) (lv' := [(4, .int ((s1 - s0) - 0)), (0, .ref (ad o0)), (2, .int p2), (5, .int x5), (6, .int x6)]) hC dX7_best_201 (by decide) rfl ?_
          refine ww_iinc (pc := 203) (v := x6 + 1) (lv' := [(6, .int (x6 + 1)), (4, .int ((s1 - s0) - 0)), (0, .ref (ad o0)), (2, .int p2), (5, .int x5)]) hC 4 rfl dX7_best_203 rfl (by decide) rfl ?_
          refine ww_goto (pc := 206) (tgt := 66) hC dX7_best_206 (by decide) ?_
          refine ww_lv [2, 3, 1, 4, 0] rfl ?_
          exact hc66 ((s1 - s0) - 0, x5, x6 + 1)
        · refine ww_iconst (pc := 187) (v := 1) hC dX7_best_187 rfl ?_
          refine ww_iconst (pc := 188) (v := 2) hC dX7_best_188 rfl ?_
          refine ww_iload (pc := 189) hC 3 rfl dX7_best_189 ?_
          refine ww_bipush (pc := 191) (v := 9) hC dX7_best_191 rfl ?_
          refine ww_idiv_c (pc := 193) hC dX7_best_193 (by decide) ?_
          refine ww_imul (pc := 194) hC dX7_best_194 ?_
          refine ww_ishl (pc := 195) hC dX7_best_195 ?_
          refine ww_goto (pc := 196) (tgt := 200) hC dX7_best_196 (by decide) ?_
          refine ww_isub (pc := 200) hC dX7_best_200 ?_
          refine ww_istore (pc := 201) (lv' := [(4, .int ((s1 - s0) - (ww_shl 1 (2 * (x5 / 9))))), (0, .ref (ad o0)), (2, .int p2), (5, .int x5), (6, .int x6)]) hC dX7_best_201 (by decide) rfl ?_
          refine ww_iinc (pc := 203) (v := x6 + 1) (lv' := [(6, .int (x6 + 1)), (4, .int ((s1 - s0) - (ww_shl 1 (2 * (x5 / 9))))), (0, .ref (ad o0)), (2, .int p2), (5, .int x5)]) hC 4 rfl dX7_best_203 rfl (by decide) rfl ?_
          refine ww_goto (pc := 206) (tgt := 66) hC dX7_best_206 (by decide) ?_
          refine ww_lv [2, 3, 1, 4, 0] rfl ?_
          exact hc66 ((s1 - s0) - (ww_shl 1 (2 * (x5 / 9))), x5, x6 + 1)
      have hJ143 : ∀ (x4 : Int32) (x5 : Int32) (x6 : Int32), ww_V X Y ad G 8 σ 143 [(0, .ref (ad o0)), (2, .int p2), (4, .int x4), (5, .int x5), (6, .int x6)] [] ((f_X7_best_j143 σ o0 p1 p2 x4 x5 x6).bind KK66) := by
        intro x4 x5 x6
        unfold f_X7_best_j143
        refine ww_iload (pc := 143) hC 2 rfl dX7_best_143 ?_
        refine ww_iload (pc := 145) hC 3 rfl dX7_best_145 ?_
        refine ww_bipush (pc := 147) (v := 9) hC dX7_best_147 rfl ?_
        refine ww_irem_c (pc := 149) hC dX7_best_149 (by decide) ?_
        refine ww_aload_n (pc := 150) hC 0 rfl dX7_best_150 rfl ?_
        refine ww_geti (pc := 151) (Cl := RX7) (T := TX7) (N := 36) (j := 25) (ref := RX7) hC (h0 0 _ rfl) rfl inT_X7 (by decide) mw_901 rfl rfl dX7_best_151 ?_
        refine ww_icmp_ge (pc := 154) (tgt := 169) hC dX7_best_154 (by decide) ?_ ?_
        · refine ww_iconst (pc := 169) (v := 0) hC dX7_best_169 rfl ?_
          refine ww_lv [0, 1, 3, 4] rfl ?_
          exact hJ170 x5 x6 0 x4
        · refine ww_iconst (pc := 157) (v := 1) hC dX7_best_157 rfl ?_
          refine ww_iconst (pc := 158) (v := 2) hC dX7_best_158 rfl ?_
          refine ww_iload (pc := 159) hC 3 rfl dX7_best_159 ?_
          refine ww_bipush (pc := 161) (v := 9) hC dX7_best_161 rfl ?_
          refine ww_irem_c (pc := 163) hC dX7_best_163 (by decide) ?_
          refine ww_imul (pc := 164) hC dX7_best_164 ?_
          refine ww_ishl (pc := 165) hC dX7_best_165 ?_
          refine ww_goto (pc := 166) (tgt := 170) hC dX7_best_166 (by decide) ?_
          refine ww_lv [0, 1, 3, 4] rfl ?_
          exact hJ170 x5 x6 (ww_shl 1 (2 * (ww_rem x5 9))) x4
      have hJ88 : ∀ (x4 : Int32) (x5 : Int32) (x6 : Int32) (x7 : Int32), ww_V X Y ad G 8 σ 88 [(0, .ref (ad o0)), (2, .int p2), (4, .int x4), (5, .int x5), (6, .int x6), (7, .int x7)] [] ((f_X7_best_j88 σ o0 p1 p2 x4 x5 x6 x7).bind KK66) := by
        intro x4 x5 x6 x7
        unfold f_X7_best_j88
        refine ww_assoc ?_
        refine ww_loop (f := f_X7_best_b88 σ o0 p1 p2 x4 x6) (fun a88 => σ) (fun a88 => [(0, .ref (ad o0)), (2, .int p2), (4, .int x4), (5, .int a88.1), (6, .int x6), (7, .int a88.2)]) (fun b88 => σ) (fun b88 => [(0, .ref (ad o0)), (2, .int p2), (4, .int x4), (5, .int b88), (6, .int x6)]) 143 (fun b88 => ?_) (fun a88 KK88 hc88 hx88 => ?_) ww_F (x5, x7)
        · exact hJ143 x4 b88 x6
        · unfold f_X7_best_b88
          have hJ129 : ∀ (x7 : Int32), ww_V X Y ad G 8 σ 129 [(0, .ref (ad o0)), (2, .int p2), (4, .int x4), (6, .int x6), (7, .int x7)] [] ((f_X7_best_j129 σ o0 p1 p2 x4 x6 x7).bind KK88) := by
            intro x7
            unfold f_X7_best_j129
            refine ww_iinc (pc := 129) (v := x7 + 1) (lv' := [(7, .int (x7 + 1)), (0, .ref (ad o0)), (2, .int p2), (4, .int x4), (6, .int x6)]) hC 4 rfl dX7_best_129 rfl (by decide) rfl ?_
            refine ww_aload_n (pc := 132) hC 1 rfl dX7_best_132 rfl ?_
            refine ww_iload (pc := 133) hC 0 rfl dX7_best_133 ?_
            refine ww_callVi (pc := 135) (st := []) (As := [.int (x7 + 1)]) hC (c_X7_choice o0 h0 σ (x7 + 1)) mm_X7_choice mw_1190 (h0 0 _ rfl) rfl (by omega) (by decide) (Nat.le_of_ble_eq_true rfl) rfl dX7_best_135 (fun v135 => ?_)
            refine ww_istore (pc := 138) (lv' := [(5, .int v135), (7, .int (x7 + 1)), (0, .ref (ad o0)), (2, .int p2), (4, .int x4), (6, .int x6)]) hC dX7_best_138 (by decide) rfl ?_
            refine ww_goto (pc := 140) (tgt := 88) hC dX7_best_140 (by decide) ?_
            refine ww_lv [2, 3, 4, 0, 5, 1] rfl ?_
            exact hc88 (v135, x7 + 1)
          refine ww_iload (pc := 88) hC 3 rfl dX7_best_88 ?_
          refine ww_iconst (pc := 90) (v := (-1)) hC dX7_best_90 rfl ?_
          refine ww_icmp_eq (pc := 91) (tgt := 129) hC dX7_best_91 (by decide) ?_ ?_
          · refine ww_lv [0, 1, 2, 4, 5] rfl ?_
            exact hJ129 a88.2
          · refine ww_aload_n (pc := 94) hC 0 rfl dX7_best_94 rfl ?_
            refine ww_iload (pc := 95) hC 4 rfl dX7_best_95 ?_
            refine ww_iload (pc := 97) hC 2 rfl dX7_best_97 ?_
            refine ww_iload (pc := 99) hC 3 rfl dX7_best_99 ?_
            refine ww_bipush (pc := 101) (v := 9) hC dX7_best_101 rfl ?_
            refine ww_irem_c (pc := 103) hC dX7_best_103 (by decide) ?_
            refine ww_iload (pc := 104) hC 3 rfl dX7_best_104 ?_
            refine ww_bipush (pc := 106) (v := 9) hC dX7_best_106 rfl ?_
            refine ww_idiv_c (pc := 108) hC dX7_best_108 (by decide) ?_
            refine ww_callVi (pc := 109) (st := []) (As := [.int x6, .int x4, .int (ww_rem a88.1 9), .int (a88.1 / 9)]) hC (c_X7_byWork o0 h0 σ x6 x4 (ww_rem a88.1 9) (a88.1 / 9)) mm_X7_byWork mw_1194 (h0 0 _ rfl) rfl (by omega) (by decide) (Nat.le_of_ble_eq_true rfl) rfl dX7_best_109 (fun v109 => ?_)
            refine ww_aload_n (pc := 112) hC 0 rfl dX7_best_112 rfl ?_
            refine ww_getr (pc := 113) (Cl := RX7) (T := TX7) (N := 36) (j := 26) (ref := RX7) hC (h0 0 _ rfl) rfl inT_X7 (by decide) mw_902 rfl rfl dX7_best_113 ?_
            refine ww_sipush (pc := 116) (v := 4096) hC dX7_best_116 rfl ?_
            refine ww_iload (pc := 119) hC 4 rfl dX7_best_119 ?_
            refine ww_imul (pc := 121) hC dX7_best_121 ?_
            refine ww_iload (pc := 122) hC 2 rfl dX7_best_122 ?_
            refine ww_iadd (pc := 124) hC dX7_best_124 ?_
            refine ww_iald (pc := 125) hC (h0 11 _ rfl) dX7_best_125 ?_
            refine ww_icmp_eq (pc := 126) (tgt := 143) hC dX7_best_126 (by decide) ?_ ?_
            · refine ww_lv [0, 1, 2, 3, 4] rfl ?_
              exact hx88 a88.1
            · refine ww_lv [0, 1, 2, 4, 5] rfl ?_
              exact hJ129 a88.2
      refine ww_iload (pc := 66) hC 4 rfl dX7_best_66 ?_
      refine ww_iload_n (pc := 68) hC 1 rfl dX7_best_68 rfl ?_
      refine ww_bipush (pc := 69) (v := 10) hC dX7_best_69 rfl ?_
      refine ww_isub (pc := 71) hC dX7_best_71 ?_
      refine ww_iconst (pc := 72) (v := 2) hC dX7_best_72 rfl ?_
      refine ww_idiv_c (pc := 73) hC dX7_best_73 (by decide) ?_
      refine ww_icmp_gt (pc := 74) (tgt := 209) hC dX7_best_74 (by decide) ?_ ?_
      · refine ww_lv [0, 1, 3] rfl ?_
        exact hx66 a66.2.1
      · refine ww_iconst (pc := 77) (v := 0) hC dX7_best_77 rfl ?_
        refine ww_istore (pc := 78) (lv' := [(7, .int 0), (0, .ref (ad o0)), (2, .int p2), (4, .int a66.1), (5, .int a66.2.1), (6, .int a66.2.2)]) hC dX7_best_78 (by decide) rfl ?_
        refine ww_aload_n (pc := 80) hC 1 rfl dX7_best_80 rfl ?_
        refine ww_iload (pc := 81) hC 0 rfl dX7_best_81 ?_
        refine ww_callVi (pc := 83) (st := []) (As := [.int 0]) hC (c_X7_choice o0 h0 σ 0) mm_X7_choice mw_1190 (h0 0 _ rfl) rfl (by omega) (by decide) (Nat.le_of_ble_eq_true rfl) rfl dX7_best_83 (fun v83 => ?_)
        refine ww_istore (pc := 86) (lv' := [(5, .int v83), (7, .int 0), (0, .ref (ad o0)), (2, .int p2), (4, .int a66.1), (6, .int a66.2.2)]) hC dX7_best_86 (by decide) rfl ?_
        refine ww_lv [2, 3, 4, 0, 5, 1] rfl ?_
        exact hJ88 a66.1 v83 a66.2.2 0
  have hJ36 : ∀ (σ : ww_M), ww_V X Y ad G 8 σ 36 [(0, .ref (ad o0)), (1, .int p1), (2, .int p2)] [] ((f_X7_best_j36 σ o0 p1 p2).bind ww_rw) := by
    intro σ
    unfold f_X7_best_j36
    refine ww_aload_n (pc := 36) hC 0 rfl dX7_best_36 rfl ?_
    refine ww_iload_n (pc := 37) hC 1 rfl dX7_best_37 rfl ?_
    refine ww_aload_n (pc := 38) hC 0 rfl dX7_best_38 rfl ?_
    refine ww_callVi (pc := 39) (st := [.int p1, .ref (ad o0)]) (As := []) hC (c_X7_rotNow o0 h0 σ) mm_X7_rotNow mw_1069 (h0 0 _ rfl) rfl (by omega) (by decide) (Nat.le_of_ble_eq_true rfl) rfl dX7_best_39 (fun v39 => ?_)
    refine ww_bipush (pc := 42) (v := (-4)) hC dX7_best_42 rfl ?_
    refine ww_callVw (pc := 44) (st := []) (As := [.int p1, .int v39, .int (-4)]) hC (c_X7_layBest o0 h0 σ p1 v39 (-4)) mm_X7_layBest mw_1182 (h0 0 _ rfl) rfl (by omega) (by decide) (Nat.le_of_ble_eq_true rfl) rfl dX7_best_44 (fun v44 => ?_)
    refine ww_istore_n (pc := 47) (lv' := [(3, .int v44.1), (0, .ref (ad o0)), (1, .int p1), (2, .int p2)]) hC dX7_best_47 rfl (by decide) rfl ?_
    refine ww_iload_n (pc := 48) hC 3 rfl dX7_best_48 rfl ?_
    refine ww_if_ne (pc := 49) (tgt := 54) hC dX7_best_49 (by decide) ?_ ?_
    · refine ww_aload_n (pc := 54) hC 1 rfl dX7_best_54 rfl ?_
      refine ww_callVi (pc := 55) (st := []) (As := []) hC (c_X7_leftNow o0 h0 v44.2) mm_X7_leftNow mw_1201 (h0 0 _ rfl) rfl (by omega) (by decide) (Nat.le_of_ble_eq_true rfl) rfl dX7_best_55 (fun v55 => ?_)
      refine ww_istore (pc := 58) (lv' := [(4, .int v55), (3, .int v44.1), (0, .ref (ad o0)), (1, .int p1), (2, .int p2)]) hC dX7_best_58 (by decide) rfl ?_
      refine ww_iconst (pc := 60) (v := 0) hC dX7_best_60 rfl ?_
      refine ww_istore (pc := 61) (lv' := [(5, .int 0), (4, .int v55), (3, .int v44.1), (0, .ref (ad o0)), (1, .int p1), (2, .int p2)]) hC dX7_best_61 (by decide) rfl ?_
      refine ww_iconst (pc := 63) (v := 0) hC dX7_best_63 rfl ?_
      refine ww_istore (pc := 64) (lv' := [(6, .int 0), (5, .int 0), (4, .int v55), (3, .int v44.1), (0, .ref (ad o0)), (1, .int p1), (2, .int p2)]) hC dX7_best_64 (by decide) rfl ?_
      refine ww_lv [4, 6, 2, 1, 0] rfl ?_
      exact hJ66 v44.2 v55 0 0
    · refine ww_iload_n (pc := 52) hC 0 rfl dX7_best_52 rfl ?_
      exact ww_ireturn (pc := 53) hC hR dX7_best_53 rfl
  unfold f_X7_best
  refine ww_iload_n (pc := 0) hC 1 rfl dX7_best_0 rfl ?_
  refine ww_i2l (pc := 1) hC dX7_best_1 ?_
  refine ww_lconst (pc := 2) (v := 0) hC dX7_best_2 rfl ?_
  refine ww_ldc2 (pc := 3) hC dX7_best_3 mw_1180 ?_
  refine ww_callSi (pc := 6) (st := []) (As := [.long p1.toInt64, .long 0, .long 6]) hC (c_X7_in σ p1.toInt64 0 6) mm_X7_in mw_991 (by omega) (by decide) (Nat.le_of_ble_eq_true rfl) rfl dX7_best_6 (fun v6 => ?_)
  refine ww_if_eq (pc := 9) (tgt := 34) hC dX7_best_9 (by decide) ?_ ?_
  · refine ww_iconst (pc := 34) (v := (-1)) hC dX7_best_34 rfl ?_
    exact ww_ireturn (pc := 35) hC hR dX7_best_35 rfl
  · refine ww_iload_n (pc := 12) hC 2 rfl dX7_best_12 rfl ?_
    refine ww_if_eq (pc := 13) (tgt := 36) hC dX7_best_13 (by decide) ?_ ?_
    · exact hJ36 σ
    · refine ww_iload_n (pc := 16) hC 2 rfl dX7_best_16 rfl ?_
      refine ww_i2l (pc := 17) hC dX7_best_17 ?_
      refine ww_ldc2 (pc := 18) hC dX7_best_18 mw_1181 ?_
      refine ww_bipush (pc := 21) (v := 9) hC dX7_best_21 rfl ?_
      refine ww_iconst (pc := 23) (v := 2) hC dX7_best_23 rfl ?_
      refine ww_iload_n (pc := 24) hC 1 rfl dX7_best_24 rfl ?_
      refine ww_imul (pc := 25) hC dX7_best_25 ?_
      refine ww_iadd (pc := 26) hC dX7_best_26 ?_
      refine ww_i2l (pc := 27) hC dX7_best_27 ?_
      refine ww_callSi (pc := 28) (st := []) (As := [.long p2.toInt64, .long 10, .long ((9 + (2 * p1)).toInt64)]) hC (c_X7_in σ p2.toInt64 10 ((9 + (2 * p1)).toInt64)) mm_X7_in mw_991 (by omega) (by decide) (Nat.le_of_ble_eq_true rfl) rfl dX7_best_28 (fun v28 => ?_)
      refine ww_if_ne (pc := 31) (tgt := 36) hC dX7_best_31 (by decide) ?_ ?_
      · exact hJ36 σ
      · refine ww_iconst (pc := 34) (v := (-1)) hC dX7_best_34 rfl ?_
        exact ww_ireturn (pc := 35) hC hR dX7_best_35 rfl
theorem dX7_worth_0 : decode cX7_worth 0 = .ok (.aload_n 0, 1) := by decide +kernel
theorem dX7_worth_1 : decode cX7_worth 1 = .ok (.iload_n 1, 1) := by decide +kernel
theorem dX7_worth_2 : decode cX7_worth 2 = .ok (.invokevirtual 168, 3) := by decide +kernel
theorem dX7_worth_5 : decode cX7_worth 5 = .ok (.ifCond .eq 15, 3) := by decide +kernel
theorem dX7_worth_8 : decode cX7_worth 8 = .ok (.iload_n 2, 1) := by decide +kernel
theorem dX7_worth_9 : decode cX7_worth 9 = .ok (.i2l, 1) := by decide +kernel
theorem dX7_worth_10 : decode cX7_worth 10 = .ok (.lconst 0, 1) := by decide +kernel
theorem dX7_worth_11 : decode cX7_worth 11 = .ok (.ldc2_w 246, 3) := by decide +kernel
theorem dX7_worth_14 : decode cX7_worth 14 = .ok (.invokestatic 68, 3) := by decide +kernel
theorem dX7_worth_17 : decode cX7_worth 17 = .ok (.ifCond .ne 5, 3) := by decide +kernel
theorem dX7_worth_20 : decode cX7_worth 20 = .ok (.iconst (-1), 1) := by decide +kernel
theorem dX7_worth_21 : decode cX7_worth 21 = .ok (.ireturn, 1) := by decide +kernel
theorem dX7_worth_22 : decode cX7_worth 22 = .ok (.aload_n 0, 1) := by decide +kernel
theorem dX7_worth_23 : decode cX7_worth 23 = .ok (.iload_n 2, 1) := by decide +kernel
theorem dX7_worth_24 : decode cX7_worth 24 = .ok (.aload_n 0, 1) := by decide +kernel
theorem dX7_worth_25 : decode cX7_worth 25 = .ok (.invokevirtual 172, 3) := by decide +kernel
theorem dX7_worth_28 : decode cX7_worth 28 = .ok (.bipush (-4), 2) := by decide +kernel
theorem dX7_worth_30 : decode cX7_worth 30 = .ok (.invokevirtual 250, 3) := by decide +kernel
theorem dX7_worth_33 : decode cX7_worth 33 = .ok (.istore_n 3, 1) := by decide +kernel
theorem dX7_worth_34 : decode cX7_worth 34 = .ok (.iload_n 3, 1) := by decide +kernel
theorem dX7_worth_35 : decode cX7_worth 35 = .ok (.aload_n 0, 1) := by decide +kernel
theorem dX7_worth_36 : decode cX7_worth 36 = .ok (.iload_n 2, 1) := by decide +kernel
theorem dX7_worth_37 : decode cX7_worth 37 = .ok (.aload_n 0, 1) := by decide +kernel
theorem dX7_worth_38 : decode cX7_worth 38 = .ok (.invokevirtual 172, 3) := by decide +kernel
theorem dX7_worth_41 : decode cX7_worth 41 = .ok (.iload_n 1, 1) := by decide +kernel
theorem dX7_worth_42 : decode cX7_worth 42 = .ok (.invokevirtual 250, 3) := by decide +kernel
theorem dX7_worth_45 : decode cX7_worth 45 = .ok (.isub, 1) := by decide +kernel
theorem dX7_worth_46 : decode cX7_worth 46 = .ok (.ireturn, 1) := by decide +kernel
set_option maxHeartbeats 4000000 in
set_option maxRecDepth 100000 in
theorem c_X7_worth {l : Launch} {Y : ww_Y} {ad : Nat → Nat} {G : List ww_L} (o0 : Nat) (h0 : ww_at G o0 (ww_LModel o0)) (σ : ww_M) (p1 : Int32) (p2 : Int32) : ww_Cn l Y ad G yX7_worth cX7_worth 4 (some .int) 6 [.ref (ad o0), .int p1, .int p2] σ ((f_X7_worth σ o0 p1 p2).bind ww_rw) := by
  refine ww_met (by decide +kernel) (Nat.le_of_ble_eq_true rfl) ?_
  intro X hC hR
  have hC : ww_C X l Y ad G 6 cX7_worth 4 RX7 := hC
  show ww_V X Y ad G 4 σ 0 [(0, .ref (ad o0)), (1, .int p1), (2, .int p2)] [] ((f_X7_worth σ o0 p1 p2).bind ww_rw)
  unfold f_X7_worth
  refine ww_aload_n (pc := 0) hC 0 rfl dX7_worth_0 rfl ?_
  refine ww_iload_n (pc := 1) hC 1 rfl dX7_worth_1 rfl ?_
  refine ww_callVi (pc := 2) (st := []) (As := [.int p1]) hC (c_X7_isBeast o0 h0 σ p1) mm_X7_isBeast mw_1090 (h0 0 _ rfl) rfl (by omega) (by decide) (Nat.le_of_ble_eq_true rfl) rfl dX7_worth_2 (fun v2 => ?_)
  refine ww_if_eq (pc := 5) (tgt := 20) hC dX7_worth_5 (by decide) ?_ ?_
  · refine ww_iconst (pc := 20) (v := (-1)) hC dX7_worth_20 rfl ?_
    exact ww_ireturn (pc := 21) hC hR dX7_worth_21 rfl
  · refine ww_iload_n (pc := 8) hC 2 rfl dX7_worth_8 rfl ?_
    refine ww_i2l (pc := 9) hC dX7_worth_9 ?_
    refine ww_lconst (pc := 10) (v := 0) hC dX7_worth_10 rfl ?_
    refine ww_ldc2 (pc := 11) hC dX7_worth_11 mw_1180 ?_
    refine ww_callSi (pc := 14) (st := []) (As := [.long p2.toInt64, .long 0, .long 6]) hC (c_X7_in σ p2.toInt64 0 6) mm_X7_in mw_991 (by omega) (by decide) (Nat.le_of_ble_eq_true rfl) rfl dX7_worth_14 (fun v14 => ?_)
    refine ww_if_ne (pc := 17) (tgt := 22) hC dX7_worth_17 (by decide) ?_ ?_
    · refine ww_aload_n (pc := 22) hC 0 rfl dX7_worth_22 rfl ?_
      refine ww_iload_n (pc := 23) hC 2 rfl dX7_worth_23 rfl ?_
      refine ww_aload_n (pc := 24) hC 0 rfl dX7_worth_24 rfl ?_
      refine ww_callVi (pc := 25) (st := [.int p2, .ref (ad o0)]) (As := []) hC (c_X7_rotNow o0 h0 σ) mm_X7_rotNow mw_1069 (h0 0 _ rfl) rfl (by omega) (by decide) (Nat.le_of_ble_eq_true rfl) rfl dX7_worth_25 (fun v25 => ?_)
      refine ww_bipush (pc := 28) (v := (-4)) hC dX7_worth_28 rfl ?_
      refine ww_callVw (pc := 30) (st := []) (As := [.int p2, .int v25, .int (-4)]) hC (c_X7_layBest o0 h0 σ p2 v25 (-4)) mm_X7_layBest mw_1182 (h0 0 _ rfl) rfl (by omega) (by decide) (Nat.le_of_ble_eq_true rfl) rfl dX7_worth_30 (fun v30 => ?_)
      refine ww_istore_n (pc := 33) (lv' := [(3, .int v30.1), (0, .ref (ad o0)), (1, .int p1), (2, .int p2)]) hC dX7_worth_33 rfl (by decide) rfl ?_
      refine ww_iload_n (pc := 34) hC 0 rfl dX7_worth_34 rfl ?_
      refine ww_aload_n (pc := 35) hC 1 rfl dX7_worth_35 rfl ?_
      refine ww_iload_n (pc := 36) hC 3 rfl dX7_worth_36 rfl ?_
      refine ww_aload_n (pc := 37) hC 1 rfl dX7_worth_37 rfl ?_
      refine ww_callVi (pc := 38) (st := [.int p2, .ref (ad o0), .int v30.1]) (As := []) hC (c_X7_rotNow o0 h0 v30.2) mm_X7_rotNow mw_1069 (h0 0 _ rfl) rfl (by omega) (by decide) (Nat.le_of_ble_eq_true rfl) rfl dX7_worth_38 (fun v38 => ?_)
      refine ww_iload_n (pc := 41) hC 2 rfl dX7_worth_41 rfl ?_
      refine ww_callVw (pc := 42) (st := [.int v30.1]) (As := [.int p2, .int v38, .int p1]) hC (c_X7_layBest o0 h0 v30.2 p2 v38 p1) mm_X7_layBest mw_1182 (h0 0 _ rfl) rfl (by omega) (by decide) (Nat.le_of_ble_eq_true rfl) rfl dX7_worth_42 (fun v42 => ?_)
      refine ww_isub (pc := 45) hC dX7_worth_45 ?_
      exact ww_ireturn (pc := 46) hC hR dX7_worth_46 rfl
    · refine ww_iconst (pc := 20) (v := (-1)) hC dX7_worth_20 rfl ?_
      exact ww_ireturn (pc := 21) hC hR dX7_worth_21 rfl
theorem dX7_salted_0 : decode cX7_salted 0 = .ok (.iload_n 1, 1) := by decide +kernel
theorem dX7_salted_1 : decode cX7_salted 1 = .ok (.i2l, 1) := by decide +kernel
theorem dX7_salted_2 : decode cX7_salted 2 = .ok (.lconst 0, 1) := by decide +kernel
theorem dX7_salted_3 : decode cX7_salted 3 = .ok (.ldc2_w 246, 3) := by decide +kernel
theorem dX7_salted_6 : decode cX7_salted 6 = .ok (.invokestatic 68, 3) := by decide +kernel
theorem dX7_salted_9 : decode cX7_salted 9 = .ok (.ifCond .ne 5, 3) := by decide +kernel
theorem dX7_salted_12 : decode cX7_salted 12 = .ok (.iconst (-1), 1) := by decide +kernel
theorem dX7_salted_13 : decode cX7_salted 13 = .ok (.ireturn, 1) := by decide +kernel
theorem dX7_salted_14 : decode cX7_salted 14 = .ok (.aload_n 0, 1) := by decide +kernel
theorem dX7_salted_15 : decode cX7_salted 15 = .ok (.iload_n 1, 1) := by decide +kernel
theorem dX7_salted_16 : decode cX7_salted 16 = .ok (.bipush 9, 2) := by decide +kernel
theorem dX7_salted_18 : decode cX7_salted 18 = .ok (.bipush (-4), 2) := by decide +kernel
theorem dX7_salted_20 : decode cX7_salted 20 = .ok (.invokevirtual 250, 3) := by decide +kernel
theorem dX7_salted_23 : decode cX7_salted 23 = .ok (.istore_n 2, 1) := by decide +kernel
theorem dX7_salted_24 : decode cX7_salted 24 = .ok (.iconst 1, 1) := by decide +kernel
theorem dX7_salted_25 : decode cX7_salted 25 = .ok (.istore_n 3, 1) := by decide +kernel
theorem dX7_salted_26 : decode cX7_salted 26 = .ok (.aload_n 0, 1) := by decide +kernel
theorem dX7_salted_27 : decode cX7_salted 27 = .ok (.iload_n 1, 1) := by decide +kernel
theorem dX7_salted_28 : decode cX7_salted 28 = .ok (.iload_n 3, 1) := by decide +kernel
theorem dX7_salted_29 : decode cX7_salted 29 = .ok (.bipush (-4), 2) := by decide +kernel
theorem dX7_salted_31 : decode cX7_salted 31 = .ok (.invokevirtual 250, 3) := by decide +kernel
theorem dX7_salted_34 : decode cX7_salted 34 = .ok (.iload_n 2, 1) := by decide +kernel
theorem dX7_salted_35 : decode cX7_salted 35 = .ok (.if_icmp .eq 9, 3) := by decide +kernel
theorem dX7_salted_38 : decode cX7_salted 38 = .ok (.iinc 3 1, 3) := by decide +kernel
theorem dX7_salted_41 : decode cX7_salted 41 = .ok (.goto (-15), 3) := by decide +kernel
theorem dX7_salted_44 : decode cX7_salted 44 = .ok (.iload_n 3, 1) := by decide +kernel
theorem dX7_salted_45 : decode cX7_salted 45 = .ok (.ireturn, 1) := by decide +kernel
set_option maxHeartbeats 4000000 in
set_option maxRecDepth 100000 in
theorem c_X7_salted {l : Launch} {Y : ww_Y} {ad : Nat → Nat} {G : List ww_L} (o0 : Nat) (h0 : ww_at G o0 (ww_LModel o0)) (σ : ww_M) (p1 : Int32) : ww_Cn l Y ad G yX7_salted cX7_salted 4 (some .int) 6 [.ref (ad o0), .int p1] σ ((f_X7_salted σ o0 p1).bind ww_rw) := by
  refine ww_met (by decide +kernel) (Nat.le_of_ble_eq_true rfl) ?_
  intro X hC hR
  have hC : ww_C X l Y ad G 6 cX7_salted 4 RX7 := hC
  show ww_V X Y ad G 4 σ 0 [(0, .ref (ad o0)), (1, .int p1)] [] ((f_X7_salted σ o0 p1).bind ww_rw)
  have hJ44 : ∀ (σ : ww_M) (x3 : Int32), ww_V X Y ad G 4 σ 44 [(3, .int x3)] [] ((f_X7_salted_j44 σ o0 p1 x3).bind ww_rw) := by
    intro σ x3
    unfold f_X7_salted_j44
    refine ww_iload_n (pc := 44) hC 0 rfl dX7_salted_44 rfl ?_
    exact ww_ireturn (pc := 45) hC hR dX7_salted_45 rfl
  have hJ26 : ∀ (σ : ww_M) (x2 : Int32) (x3 : Int32), ww_V X Y ad G 4 σ 26 [(0, .ref (ad o0)), (1, .int p1), (2, .int x2), (3, .int x3)] [] ((f_X7_salted_j26 σ o0 p1 x2 x3).bind ww_rw) := by
    intro σ x2 x3
    unfold f_X7_salted_j26
    refine ww_assoc ?_
    refine ww_loop (f := f_X7_salted_b26 o0 p1 x2) (fun a26 => a26.2) (fun a26 => [(0, .ref (ad o0)), (1, .int p1), (2, .int x2), (3, .int a26.1)]) (fun b26 => b26.2) (fun b26 => [(3, .int b26.1)]) 44 (fun b26 => ?_) (fun a26 KK26 hc26 hx26 => ?_) ww_F (x3, σ)
    · exact hJ44 b26.2 b26.1
    · unfold f_X7_salted_b26
      refine ww_aload_n (pc := 26) hC 0 rfl dX7_salted_26 rfl ?_
      refine ww_iload_n (pc := 27) hC 1 rfl dX7_salted_27 rfl ?_
      refine ww_iload_n (pc := 28) hC 3 rfl dX7_salted_28 rfl ?_
      refine ww_bipush (pc := 29) (v := (-4)) hC dX7_salted_29 rfl ?_
      refine ww_callVw (pc := 31) (st := []) (As := [.int p1, .int a26.1, .int (-4)]) hC (c_X7_layBest o0 h0 a26.2 p1 a26.1 (-4)) mm_X7_layBest mw_1182 (h0 0 _ rfl) rfl (by omega) (by decide) (Nat.le_of_ble_eq_true rfl) rfl dX7_salted_31 (fun v31 => ?_)
      refine ww_iload_n (pc := 34) hC 2 rfl dX7_salted_34 rfl ?_
      refine ww_icmp_eq (pc := 35) (tgt := 44) hC dX7_salted_35 (by decide) ?_ ?_
      · refine ww_lv [3] rfl ?_
        exact hx26 (a26.1, v31.2)
      · refine ww_iinc (pc := 38) (v := a26.1 + 1) (lv' := [(3, .int (a26.1 + 1)), (0, .ref (ad o0)), (1, .int p1), (2, .int x2)]) hC 3 rfl dX7_salted_38 rfl (by decide) rfl ?_
        refine ww_goto (pc := 41) (tgt := 26) hC dX7_salted_41 (by decide) ?_
        refine ww_lv [1, 2, 3, 0] rfl ?_
        exact hc26 (a26.1 + 1, v31.2)
  unfold f_X7_salted
  refine ww_iload_n (pc := 0) hC 1 rfl dX7_salted_0 rfl ?_
  refine ww_i2l (pc := 1) hC dX7_salted_1 ?_
  refine ww_lconst (pc := 2) (v := 0) hC dX7_salted_2 rfl ?_
  refine ww_ldc2 (pc := 3) hC dX7_salted_3 mw_1180 ?_
  refine ww_callSi (pc := 6) (st := []) (As := [.long p1.toInt64, .long 0, .long 6]) hC (c_X7_in σ p1.toInt64 0 6) mm_X7_in mw_991 (by omega) (by decide) (Nat.le_of_ble_eq_true rfl) rfl dX7_salted_6 (fun v6 => ?_)
  refine ww_if_ne (pc := 9) (tgt := 14) hC dX7_salted_9 (by decide) ?_ ?_
  · refine ww_aload_n (pc := 14) hC 0 rfl dX7_salted_14 rfl ?_
    refine ww_iload_n (pc := 15) hC 1 rfl dX7_salted_15 rfl ?_
    refine ww_bipush (pc := 16) (v := 9) hC dX7_salted_16 rfl ?_
    refine ww_bipush (pc := 18) (v := (-4)) hC dX7_salted_18 rfl ?_
    refine ww_callVw (pc := 20) (st := []) (As := [.int p1, .int 9, .int (-4)]) hC (c_X7_layBest o0 h0 σ p1 9 (-4)) mm_X7_layBest mw_1182 (h0 0 _ rfl) rfl (by omega) (by decide) (Nat.le_of_ble_eq_true rfl) rfl dX7_salted_20 (fun v20 => ?_)
    refine ww_istore_n (pc := 23) (lv' := [(2, .int v20.1), (0, .ref (ad o0)), (1, .int p1)]) hC dX7_salted_23 rfl (by decide) rfl ?_
    refine ww_iconst (pc := 24) (v := 1) hC dX7_salted_24 rfl ?_
    refine ww_istore_n (pc := 25) (lv' := [(3, .int 1), (2, .int v20.1), (0, .ref (ad o0)), (1, .int p1)]) hC dX7_salted_25 rfl (by decide) rfl ?_
    refine ww_lv [2, 3, 1, 0] rfl ?_
    exact hJ26 v20.2 v20.1 1
  · refine ww_iconst (pc := 12) (v := (-1)) hC dX7_salted_12 rfl ?_
    exact ww_ireturn (pc := 13) hC hR dX7_salted_13 rfl
theorem dX7_shareBy_0 : decode cX7_shareBy 0 = .ok (.iconst 0, 1) := by decide +kernel
theorem dX7_shareBy_1 : decode cX7_shareBy 1 = .ok (.istore_n 3, 1) := by decide +kernel
theorem dX7_shareBy_2 : decode cX7_shareBy 2 = .ok (.iconst 0, 1) := by decide +kernel
theorem dX7_shareBy_3 : decode cX7_shareBy 3 = .ok (.istore 4, 2) := by decide +kernel
theorem dX7_shareBy_5 : decode cX7_shareBy 5 = .ok (.iload 4, 2) := by decide +kernel
theorem dX7_shareBy_7 : decode cX7_shareBy 7 = .ok (.bipush 30, 2) := by decide +kernel
theorem dX7_shareBy_9 : decode cX7_shareBy 9 = .ok (.if_icmp .ge 46, 3) := by decide +kernel
theorem dX7_shareBy_12 : decode cX7_shareBy 12 = .ok (.aload_n 0, 1) := by decide +kernel
theorem dX7_shareBy_13 : decode cX7_shareBy 13 = .ok (.iload 4, 2) := by decide +kernel
theorem dX7_shareBy_15 : decode cX7_shareBy 15 = .ok (.invokevirtual 191, 3) := by decide +kernel
theorem dX7_shareBy_18 : decode cX7_shareBy 18 = .ok (.ifCond .eq 31, 3) := by decide +kernel
theorem dX7_shareBy_21 : decode cX7_shareBy 21 = .ok (.iload_n 3, 1) := by decide +kernel
theorem dX7_shareBy_22 : decode cX7_shareBy 22 = .ok (.aload_n 0, 1) := by decide +kernel
theorem dX7_shareBy_23 : decode cX7_shareBy 23 = .ok (.iload 4, 2) := by decide +kernel
theorem dX7_shareBy_25 : decode cX7_shareBy 25 = .ok (.iload_n 2, 1) := by decide +kernel
theorem dX7_shareBy_26 : decode cX7_shareBy 26 = .ok (.invokevirtual 201, 3) := by decide +kernel
theorem dX7_shareBy_29 : decode cX7_shareBy 29 = .ok (.iload_n 1, 1) := by decide +kernel
theorem dX7_shareBy_30 : decode cX7_shareBy 30 = .ok (.if_icmp .ne 16, 3) := by decide +kernel
theorem dX7_shareBy_33 : decode cX7_shareBy 33 = .ok (.aload_n 0, 1) := by decide +kernel
theorem dX7_shareBy_34 : decode cX7_shareBy 34 = .ok (.getfield 7, 3) := by decide +kernel
theorem dX7_shareBy_37 : decode cX7_shareBy 37 = .ok (.iload 4, 2) := by decide +kernel
theorem dX7_shareBy_39 : decode cX7_shareBy 39 = .ok (.invokestatic 188, 3) := by decide +kernel
theorem dX7_shareBy_42 : decode cX7_shareBy 42 = .ok (.iaload, 1) := by decide +kernel
theorem dX7_shareBy_43 : decode cX7_shareBy 43 = .ok (.goto 4, 3) := by decide +kernel
theorem dX7_shareBy_46 : decode cX7_shareBy 46 = .ok (.iconst 0, 1) := by decide +kernel
theorem dX7_shareBy_47 : decode cX7_shareBy 47 = .ok (.iadd, 1) := by decide +kernel
theorem dX7_shareBy_48 : decode cX7_shareBy 48 = .ok (.istore_n 3, 1) := by decide +kernel
theorem dX7_shareBy_49 : decode cX7_shareBy 49 = .ok (.iinc 4 1, 3) := by decide +kernel
theorem dX7_shareBy_52 : decode cX7_shareBy 52 = .ok (.goto (-47), 3) := by decide +kernel
theorem dX7_shareBy_55 : decode cX7_shareBy 55 = .ok (.iload_n 3, 1) := by decide +kernel
theorem dX7_shareBy_56 : decode cX7_shareBy 56 = .ok (.ireturn, 1) := by decide +kernel
set_option maxHeartbeats 4000000 in
set_option maxRecDepth 100000 in
theorem c_X7_shareBy {l : Launch} {Y : ww_Y} {ad : Nat → Nat} {G : List ww_L} (o0 : Nat) (h0 : ww_at G o0 (ww_LModel o0)) (σ : ww_M) (p1 : Int32) (p2 : Int32) : ww_Cn l Y ad G yX7_shareBy cX7_shareBy 5 (some .int) 4 [.ref (ad o0), .int p1, .int p2] σ ((f_X7_shareBy σ o0 p1 p2).bind (ww_ri σ)) := by
  refine ww_met (by decide +kernel) (Nat.le_of_ble_eq_true rfl) ?_
  intro X hC hR
  have hC : ww_C X l Y ad G 4 cX7_shareBy 5 RX7 := hC
  show ww_V X Y ad G 5 σ 0 [(0, .ref (ad o0)), (1, .int p1), (2, .int p2)] [] ((f_X7_shareBy σ o0 p1 p2).bind (ww_ri σ))
  have hJ55 : ∀ (x3 : Int32), ww_V X Y ad G 5 σ 55 [(3, .int x3)] [] ((f_X7_shareBy_j55 σ o0 p1 p2 x3).bind (ww_ri σ)) := by
    intro x3
    unfold f_X7_shareBy_j55
    refine ww_iload_n (pc := 55) hC 0 rfl dX7_shareBy_55 rfl ?_
    exact ww_ireturn (pc := 56) hC hR dX7_shareBy_56 rfl
  have hJ5 : ∀ (x3 : Int32) (x4 : Int32), ww_V X Y ad G 5 σ 5 [(0, .ref (ad o0)), (1, .int p1), (2, .int p2), (3, .int x3), (4, .int x4)] [] ((f_X7_shareBy_j5 σ o0 p1 p2 x3 x4).bind (ww_ri σ)) := by
    intro x3 x4
    unfold f_X7_shareBy_j5
    refine ww_assoc ?_
    refine ww_loop (f := f_X7_shareBy_b5 σ o0 p1 p2) (fun a5 => σ) (fun a5 => [(0, .ref (ad o0)), (1, .int p1), (2, .int p2), (3, .int a5.1), (4, .int a5.2)]) (fun b5 => σ) (fun b5 => [(3, .int b5)]) 55 (fun b5 => ?_) (fun a5 KK5 hc5 hx5 => ?_) ww_F (x3, x4)
    · exact hJ55 b5
    · unfold f_X7_shareBy_b5
      refine ww_iload (pc := 5) hC 4 rfl dX7_shareBy_5 ?_
      refine ww_bipush (pc := 7) (v := 30) hC dX7_shareBy_7 rfl ?_
      refine ww_icmp_ge (pc := 9) (tgt := 55) hC dX7_shareBy_9 (by decide) ?_ ?_
      · refine ww_lv [3] rfl ?_
        exact hx5 a5.1
      · refine ww_aload_n (pc := 12) hC 0 rfl dX7_shareBy_12 rfl ?_
        refine ww_iload (pc := 13) hC 4 rfl dX7_shareBy_13 ?_
        refine ww_callVi (pc := 15) (st := []) (As := [.int a5.2]) hC (c_X7_isPart o0 h0 σ a5.2) mm_X7_isPart mw_1098 (h0 0 _ rfl) rfl (by omega) (by decide) (Nat.le_of_ble_eq_true rfl) rfl dX7_shareBy_15 (fun v15 => ?_)
        refine ww_if_eq (pc := 18) (tgt := 49) hC dX7_shareBy_18 (by decide) ?_ ?_
        · refine ww_iinc (pc := 49) (v := a5.2 + 1) (lv' := [(4, .int (a5.2 + 1)), (0, .ref (ad o0)), (1, .int p1), (2, .int p2), (3, .int a5.1)]) hC 4 rfl dX7_shareBy_49 rfl (by decide) rfl ?_
          refine ww_goto (pc := 52) (tgt := 5) hC dX7_shareBy_52 (by decide) ?_
          refine ww_lv [1, 2, 3, 4, 0] rfl ?_
          exact hc5 (a5.1, a5.2 + 1)
        · refine ww_iload_n (pc := 21) hC 3 rfl dX7_shareBy_21 rfl ?_
          refine ww_aload_n (pc := 22) hC 0 rfl dX7_shareBy_22 rfl ?_
          refine ww_iload (pc := 23) hC 4 rfl dX7_shareBy_23 ?_
          refine ww_iload_n (pc := 25) hC 2 rfl dX7_shareBy_25 rfl ?_
          refine ww_callVi (pc := 26) (st := [.int a5.1]) (As := [.int a5.2, .int p2]) hC (c_X7_whoseBy o0 h0 σ a5.2 p2) mm_X7_whoseBy mw_1113 (h0 0 _ rfl) rfl (by omega) (by decide) (Nat.le_of_ble_eq_true rfl) rfl dX7_shareBy_26 (fun v26 => ?_)
          refine ww_iload_n (pc := 29) hC 1 rfl dX7_shareBy_29 rfl ?_
          refine ww_icmp_ne (pc := 30) (tgt := 46) hC dX7_shareBy_30 (by decide) ?_ ?_
          · refine ww_iconst (pc := 46) (v := 0) hC dX7_shareBy_46 rfl ?_
            refine ww_iadd (pc := 47) hC dX7_shareBy_47 ?_
            refine ww_istore_n (pc := 48) (lv' := [(3, .int (a5.1 + 0)), (0, .ref (ad o0)), (1, .int p1), (2, .int p2), (4, .int a5.2)]) hC dX7_shareBy_48 rfl (by decide) rfl ?_
            refine ww_iinc (pc := 49) (v := a5.2 + 1) (lv' := [(4, .int (a5.2 + 1)), (3, .int (a5.1 + 0)), (0, .ref (ad o0)), (1, .int p1), (2, .int p2)]) hC 4 rfl dX7_shareBy_49 rfl (by decide) rfl ?_
            refine ww_goto (pc := 52) (tgt := 5) hC dX7_shareBy_52 (by decide) ?_
            refine ww_lv [2, 3, 4, 1, 0] rfl ?_
            exact hc5 (a5.1 + 0, a5.2 + 1)
          · refine ww_aload_n (pc := 33) hC 0 rfl dX7_shareBy_33 rfl ?_
            refine ww_getr (pc := 34) (Cl := RX7) (T := TX7) (N := 36) (j := 0) (ref := RX7) hC (h0 0 _ rfl) rfl inT_X7 (by decide) mw_876 rfl rfl dX7_shareBy_34 ?_
            refine ww_iload (pc := 37) hC 4 rfl dX7_shareBy_37 ?_
            refine ww_callSi (pc := 39) (st := [.ref (ad (o0 + 1)), .int a5.1]) (As := [.int a5.2]) hC (c_X7_partAt σ a5.2) mm_X7_partAt mw_1102 (by omega) (by decide) (Nat.le_of_ble_eq_true rfl) rfl dX7_shareBy_39 (fun v39 => ?_)
            refine ww_iald (pc := 42) hC (h0 1 _ rfl) dX7_shareBy_42 ?_
            refine ww_goto (pc := 43) (tgt := 47) hC dX7_shareBy_43 (by decide) ?_
            refine ww_iadd (pc := 47) hC dX7_shareBy_47 ?_
            refine ww_istore_n (pc := 48) (lv' := [(3, .int (a5.1 + (σ (o0 + 1) (ww_ix v39)))), (0, .ref (ad o0)), (1, .int p1), (2, .int p2), (4, .int a5.2)]) hC dX7_shareBy_48 rfl (by decide) rfl ?_
            refine ww_iinc (pc := 49) (v := a5.2 + 1) (lv' := [(4, .int (a5.2 + 1)), (3, .int (a5.1 + (σ (o0 + 1) (ww_ix v39)))), (0, .ref (ad o0)), (1, .int p1), (2, .int p2)]) hC 4 rfl dX7_shareBy_49 rfl (by decide) rfl ?_
            refine ww_goto (pc := 52) (tgt := 5) hC dX7_shareBy_52 (by decide) ?_
            refine ww_lv [2, 3, 4, 1, 0] rfl ?_
            exact hc5 (a5.1 + (σ (o0 + 1) (ww_ix v39)), a5.2 + 1)
  unfold f_X7_shareBy
  refine ww_iconst (pc := 0) (v := 0) hC dX7_shareBy_0 rfl ?_
  refine ww_istore_n (pc := 1) (lv' := [(3, .int 0), (0, .ref (ad o0)), (1, .int p1), (2, .int p2)]) hC dX7_shareBy_1 rfl (by decide) rfl ?_
  refine ww_iconst (pc := 2) (v := 0) hC dX7_shareBy_2 rfl ?_
  refine ww_istore (pc := 3) (lv' := [(4, .int 0), (3, .int 0), (0, .ref (ad o0)), (1, .int p1), (2, .int p2)]) hC dX7_shareBy_3 (by decide) rfl ?_
  refine ww_lv [2, 3, 4, 1, 0] rfl ?_
  exact hJ5 0 0
theorem dX7_share_0 : decode cX7_share 0 = .ok (.iload_n 1, 1) := by decide +kernel
theorem dX7_share_1 : decode cX7_share 1 = .ok (.i2l, 1) := by decide +kernel
theorem dX7_share_2 : decode cX7_share 2 = .ok (.lconst 0, 1) := by decide +kernel
theorem dX7_share_3 : decode cX7_share 3 = .ok (.ldc2_w 210, 3) := by decide +kernel
theorem dX7_share_6 : decode cX7_share 6 = .ok (.invokestatic 68, 3) := by decide +kernel
theorem dX7_share_9 : decode cX7_share 9 = .ok (.ifCond .eq 24, 3) := by decide +kernel
theorem dX7_share_12 : decode cX7_share 12 = .ok (.iload_n 2, 1) := by decide +kernel
theorem dX7_share_13 : decode cX7_share 13 = .ok (.i2l, 1) := by decide +kernel
theorem dX7_share_14 : decode cX7_share 14 = .ok (.lconst 0, 1) := by decide +kernel
theorem dX7_share_15 : decode cX7_share 15 = .ok (.ldc2_w 210, 3) := by decide +kernel
theorem dX7_share_18 : decode cX7_share 18 = .ok (.invokestatic 68, 3) := by decide +kernel
theorem dX7_share_21 : decode cX7_share 21 = .ok (.ifCond .eq 12, 3) := by decide +kernel
theorem dX7_share_24 : decode cX7_share 24 = .ok (.aload_n 0, 1) := by decide +kernel
theorem dX7_share_25 : decode cX7_share 25 = .ok (.iload_n 1, 1) := by decide +kernel
theorem dX7_share_26 : decode cX7_share 26 = .ok (.iload_n 2, 1) := by decide +kernel
theorem dX7_share_27 : decode cX7_share 27 = .ok (.invokevirtual 253, 3) := by decide +kernel
theorem dX7_share_30 : decode cX7_share 30 = .ok (.goto 4, 3) := by decide +kernel
theorem dX7_share_33 : decode cX7_share 33 = .ok (.iconst (-1), 1) := by decide +kernel
theorem dX7_share_34 : decode cX7_share 34 = .ok (.ireturn, 1) := by decide +kernel
set_option maxHeartbeats 4000000 in
set_option maxRecDepth 100000 in
theorem c_X7_share {l : Launch} {Y : ww_Y} {ad : Nat → Nat} {G : List ww_L} (o0 : Nat) (h0 : ww_at G o0 (ww_LModel o0)) (σ : ww_M) (p1 : Int32) (p2 : Int32) : ww_Cn l Y ad G yX7_share cX7_share 3 (some .int) 5 [.ref (ad o0), .int p1, .int p2] σ ((f_X7_share σ o0 p1 p2).bind (ww_ri σ)) := by
  refine ww_met (by decide +kernel) (Nat.le_of_ble_eq_true rfl) ?_
  intro X hC hR
  have hC : ww_C X l Y ad G 5 cX7_share 3 RX7 := hC
  show ww_V X Y ad G 3 σ 0 [(0, .ref (ad o0)), (1, .int p1), (2, .int p2)] [] ((f_X7_share σ o0 p1 p2).bind (ww_ri σ))
  unfold f_X7_share
  refine ww_iload_n (pc := 0) hC 1 rfl dX7_share_0 rfl ?_
  refine ww_i2l (pc := 1) hC dX7_share_1 ?_
  refine ww_lconst (pc := 2) (v := 0) hC dX7_share_2 rfl ?_
  refine ww_ldc2 (pc := 3) hC dX7_share_3 mw_1130 ?_
  refine ww_callSi (pc := 6) (st := []) (As := [.long p1.toInt64, .long 0, .long 3]) hC (c_X7_in σ p1.toInt64 0 3) mm_X7_in mw_991 (by omega) (by decide) (Nat.le_of_ble_eq_true rfl) rfl dX7_share_6 (fun v6 => ?_)
  refine ww_if_eq (pc := 9) (tgt := 33) hC dX7_share_9 (by decide) ?_ ?_
  · refine ww_iconst (pc := 33) (v := (-1)) hC dX7_share_33 rfl ?_
    exact ww_ireturn (pc := 34) hC hR dX7_share_34 rfl
  · refine ww_iload_n (pc := 12) hC 2 rfl dX7_share_12 rfl ?_
    refine ww_i2l (pc := 13) hC dX7_share_13 ?_
    refine ww_lconst (pc := 14) (v := 0) hC dX7_share_14 rfl ?_
    refine ww_ldc2 (pc := 15) hC dX7_share_15 mw_1130 ?_
    refine ww_callSi (pc := 18) (st := []) (As := [.long p2.toInt64, .long 0, .long 3]) hC (c_X7_in σ p2.toInt64 0 3) mm_X7_in mw_991 (by omega) (by decide) (Nat.le_of_ble_eq_true rfl) rfl dX7_share_18 (fun v18 => ?_)
    refine ww_if_eq (pc := 21) (tgt := 33) hC dX7_share_21 (by decide) ?_ ?_
    · refine ww_iconst (pc := 33) (v := (-1)) hC dX7_share_33 rfl ?_
      exact ww_ireturn (pc := 34) hC hR dX7_share_34 rfl
    · refine ww_aload_n (pc := 24) hC 0 rfl dX7_share_24 rfl ?_
      refine ww_iload_n (pc := 25) hC 1 rfl dX7_share_25 rfl ?_
      refine ww_iload_n (pc := 26) hC 2 rfl dX7_share_26 rfl ?_
      refine ww_callVi (pc := 27) (st := []) (As := [.int p1, .int p2]) hC (c_X7_shareBy o0 h0 σ p1 p2) mm_X7_shareBy mw_1217 (h0 0 _ rfl) rfl (by omega) (by decide) (Nat.le_of_ble_eq_true rfl) rfl dX7_share_27 (fun v27 => ?_)
      refine ww_goto (pc := 30) (tgt := 34) hC dX7_share_30 (by decide) ?_
      exact ww_ireturn (pc := 34) hC hR dX7_share_34 rfl
theorem dX7_tell_0 : decode cX7_tell 0 = .ok (.iload_n 1, 1) := by decide +kernel
theorem dX7_tell_1 : decode cX7_tell 1 = .ok (.i2l, 1) := by decide +kernel
theorem dX7_tell_2 : decode cX7_tell 2 = .ok (.lconst 0, 1) := by decide +kernel
theorem dX7_tell_3 : decode cX7_tell 3 = .ok (.ldc2_w 210, 3) := by decide +kernel
theorem dX7_tell_6 : decode cX7_tell 6 = .ok (.invokestatic 68, 3) := by decide +kernel
theorem dX7_tell_9 : decode cX7_tell 9 = .ok (.ifCond .eq 15, 3) := by decide +kernel
theorem dX7_tell_12 : decode cX7_tell 12 = .ok (.iload_n 2, 1) := by decide +kernel
theorem dX7_tell_13 : decode cX7_tell 13 = .ok (.i2l, 1) := by decide +kernel
theorem dX7_tell_14 : decode cX7_tell 14 = .ok (.lconst 0, 1) := by decide +kernel
theorem dX7_tell_15 : decode cX7_tell 15 = .ok (.ldc2_w 256, 3) := by decide +kernel
theorem dX7_tell_18 : decode cX7_tell 18 = .ok (.invokestatic 68, 3) := by decide +kernel
theorem dX7_tell_21 : decode cX7_tell 21 = .ok (.ifCond .ne 5, 3) := by decide +kernel
theorem dX7_tell_24 : decode cX7_tell 24 = .ok (.iconst (-1), 1) := by decide +kernel
theorem dX7_tell_25 : decode cX7_tell 25 = .ok (.ireturn, 1) := by decide +kernel
theorem dX7_tell_26 : decode cX7_tell 26 = .ok (.aload_n 0, 1) := by decide +kernel
theorem dX7_tell_27 : decode cX7_tell 27 = .ok (.getfield 162, 3) := by decide +kernel
theorem dX7_tell_30 : decode cX7_tell 30 = .ok (.bipush 6, 2) := by decide +kernel
theorem dX7_tell_32 : decode cX7_tell 32 = .ok (.if_icmp .ne 6, 3) := by decide +kernel
theorem dX7_tell_35 : decode cX7_tell 35 = .ok (.bipush (-3), 2) := by decide +kernel
theorem dX7_tell_37 : decode cX7_tell 37 = .ok (.ireturn, 1) := by decide +kernel
theorem dX7_tell_38 : decode cX7_tell 38 = .ok (.aload_n 0, 1) := by decide +kernel
theorem dX7_tell_39 : decode cX7_tell 39 = .ok (.getfield 50, 3) := by decide +kernel
theorem dX7_tell_42 : decode cX7_tell 42 = .ok (.iconst 2, 1) := by decide +kernel
theorem dX7_tell_43 : decode cX7_tell 43 = .ok (.aload_n 0, 1) := by decide +kernel
theorem dX7_tell_44 : decode cX7_tell 44 = .ok (.getfield 162, 3) := by decide +kernel
theorem dX7_tell_47 : decode cX7_tell 47 = .ok (.imul, 1) := by decide +kernel
theorem dX7_tell_48 : decode cX7_tell 48 = .ok (.iload_n 1, 1) := by decide +kernel
theorem dX7_tell_49 : decode cX7_tell 49 = .ok (.iastore, 1) := by decide +kernel
theorem dX7_tell_50 : decode cX7_tell 50 = .ok (.aload_n 0, 1) := by decide +kernel
theorem dX7_tell_51 : decode cX7_tell 51 = .ok (.getfield 50, 3) := by decide +kernel
theorem dX7_tell_54 : decode cX7_tell 54 = .ok (.iconst 2, 1) := by decide +kernel
theorem dX7_tell_55 : decode cX7_tell 55 = .ok (.aload_n 0, 1) := by decide +kernel
theorem dX7_tell_56 : decode cX7_tell 56 = .ok (.getfield 162, 3) := by decide +kernel
theorem dX7_tell_59 : decode cX7_tell 59 = .ok (.imul, 1) := by decide +kernel
theorem dX7_tell_60 : decode cX7_tell 60 = .ok (.iconst 1, 1) := by decide +kernel
theorem dX7_tell_61 : decode cX7_tell 61 = .ok (.iadd, 1) := by decide +kernel
theorem dX7_tell_62 : decode cX7_tell 62 = .ok (.iload_n 2, 1) := by decide +kernel
theorem dX7_tell_63 : decode cX7_tell 63 = .ok (.iastore, 1) := by decide +kernel
theorem dX7_tell_64 : decode cX7_tell 64 = .ok (.aload_n 0, 1) := by decide +kernel
theorem dX7_tell_65 : decode cX7_tell 65 = .ok (.dup, 1) := by decide +kernel
theorem dX7_tell_66 : decode cX7_tell 66 = .ok (.getfield 162, 3) := by decide +kernel
theorem dX7_tell_69 : decode cX7_tell 69 = .ok (.iconst 1, 1) := by decide +kernel
theorem dX7_tell_70 : decode cX7_tell 70 = .ok (.iadd, 1) := by decide +kernel
theorem dX7_tell_71 : decode cX7_tell 71 = .ok (.putfield 162, 3) := by decide +kernel
theorem dX7_tell_74 : decode cX7_tell 74 = .ok (.aload_n 0, 1) := by decide +kernel
theorem dX7_tell_75 : decode cX7_tell 75 = .ok (.getfield 162, 3) := by decide +kernel
theorem dX7_tell_78 : decode cX7_tell 78 = .ok (.ireturn, 1) := by decide +kernel
set_option maxHeartbeats 4000000 in
set_option maxRecDepth 100000 in
theorem c_X7_tell {l : Launch} {Y : ww_Y} {ad : Nat → Nat} {G : List ww_L} (o0 : Nat) (h0 : ww_at G o0 (ww_LModel o0)) (σ : ww_M) (p1 : Int32) (p2 : Int32) : ww_Cn l Y ad G yX7_tell cX7_tell 3 (some .int) 2 [.ref (ad o0), .int p1, .int p2] σ ((f_X7_tell σ o0 p1 p2).bind ww_rw) := by
  refine ww_met (by decide +kernel) (Nat.le_of_ble_eq_true rfl) ?_
  intro X hC hR
  have hC : ww_C X l Y ad G 2 cX7_tell 3 RX7 := hC
  show ww_V X Y ad G 3 σ 0 [(0, .ref (ad o0)), (1, .int p1), (2, .int p2)] [] ((f_X7_tell σ o0 p1 p2).bind ww_rw)
  unfold f_X7_tell
  refine ww_iload_n (pc := 0) hC 1 rfl dX7_tell_0 rfl ?_
  refine ww_i2l (pc := 1) hC dX7_tell_1 ?_
  refine ww_lconst (pc := 2) (v := 0) hC dX7_tell_2 rfl ?_
  refine ww_ldc2 (pc := 3) hC dX7_tell_3 mw_1130 ?_
  refine ww_callSi (pc := 6) (st := []) (As := [.long p1.toInt64, .long 0, .long 3]) hC (c_X7_in σ p1.toInt64 0 3) mm_X7_in mw_991 (by omega) (by decide) (Nat.le_of_ble_eq_true rfl) rfl dX7_tell_6 (fun v6 => ?_)
  refine ww_if_eq (pc := 9) (tgt := 24) hC dX7_tell_9 (by decide) ?_ ?_
  · refine ww_iconst (pc := 24) (v := (-1)) hC dX7_tell_24 rfl ?_
    exact ww_ireturn (pc := 25) hC hR dX7_tell_25 rfl
  · refine ww_iload_n (pc := 12) hC 2 rfl dX7_tell_12 rfl ?_
    refine ww_i2l (pc := 13) hC dX7_tell_13 ?_
    refine ww_lconst (pc := 14) (v := 0) hC dX7_tell_14 rfl ?_
    refine ww_ldc2 (pc := 15) hC dX7_tell_15 mw_1225 ?_
    refine ww_callSi (pc := 18) (st := []) (As := [.long p2.toInt64, .long 0, .long 99]) hC (c_X7_in σ p2.toInt64 0 99) mm_X7_in mw_991 (by omega) (by decide) (Nat.le_of_ble_eq_true rfl) rfl dX7_tell_18 (fun v18 => ?_)
    refine ww_if_ne (pc := 21) (tgt := 26) hC dX7_tell_21 (by decide) ?_ ?_
    · refine ww_aload_n (pc := 26) hC 0 rfl dX7_tell_26 rfl ?_
      refine ww_geti (pc := 27) (Cl := RX7) (T := TX7) (N := 36) (j := 30) (ref := RX7) hC (h0 0 _ rfl) rfl inT_X7 (by decide) mw_906 rfl rfl dX7_tell_27 ?_
      refine ww_bipush (pc := 30) (v := 6) hC dX7_tell_30 rfl ?_
      refine ww_icmp_ne (pc := 32) (tgt := 38) hC dX7_tell_32 (by decide) ?_ ?_
      · refine ww_aload_n (pc := 38) hC 0 rfl dX7_tell_38 rfl ?_
        refine ww_getr (pc := 39) (Cl := RX7) (T := TX7) (N := 36) (j := 29) (ref := RX7) hC (h0 0 _ rfl) rfl inT_X7 (by decide) mw_905 rfl rfl dX7_tell_39 ?_
        refine ww_iconst (pc := 42) (v := 2) hC dX7_tell_42 rfl ?_
        refine ww_aload_n (pc := 43) hC 0 rfl dX7_tell_43 rfl ?_
        refine ww_geti (pc := 44) (Cl := RX7) (T := TX7) (N := 36) (j := 30) (ref := RX7) hC (h0 0 _ rfl) rfl inT_X7 (by decide) mw_906 rfl rfl dX7_tell_44 ?_
        refine ww_imul (pc := 47) hC dX7_tell_47 ?_
        refine ww_iload_n (pc := 48) hC 1 rfl dX7_tell_48 rfl ?_
        refine ww_iast (pc := 49) hC (h0 13 _ rfl) dX7_tell_49 ?_
        refine ww_aload_n (pc := 50) hC 0 rfl dX7_tell_50 rfl ?_
        refine ww_getr (pc := 51) (Cl := RX7) (T := TX7) (N := 36) (j := 29) (ref := RX7) hC (h0 0 _ rfl) rfl inT_X7 (by decide) mw_905 rfl rfl dX7_tell_51 ?_
        refine ww_iconst (pc := 54) (v := 2) hC dX7_tell_54 rfl ?_
        refine ww_aload_n (pc := 55) hC 0 rfl dX7_tell_55 rfl ?_
        refine ww_geti (pc := 56) (Cl := RX7) (T := TX7) (N := 36) (j := 30) (ref := RX7) hC (h0 0 _ rfl) rfl inT_X7 (by decide) mw_906 rfl rfl dX7_tell_56 ?_
        refine ww_imul (pc := 59) hC dX7_tell_59 ?_
        refine ww_iconst (pc := 60) (v := 1) hC dX7_tell_60 rfl ?_
        refine ww_iadd (pc := 61) hC dX7_tell_61 ?_
        refine ww_iload_n (pc := 62) hC 2 rfl dX7_tell_62 rfl ?_
        refine ww_iast (pc := 63) hC (h0 13 _ rfl) dX7_tell_63 ?_
        refine ww_aload_n (pc := 64) hC 0 rfl dX7_tell_64 rfl ?_
        refine ww_dup (pc := 65) hC dX7_tell_65 rfl ?_
        refine ww_geti (pc := 66) (Cl := RX7) (T := TX7) (N := 36) (j := 30) (ref := RX7) hC (h0 0 _ rfl) rfl inT_X7 (by decide) mw_906 rfl rfl dX7_tell_66 ?_
        refine ww_iconst (pc := 69) (v := 1) hC dX7_tell_69 rfl ?_
        refine ww_iadd (pc := 70) hC dX7_tell_70 ?_
        refine ww_puti (pc := 71) (Cl := RX7) (T := TX7) (N := 36) (j := 30) (ref := RX7) hC (h0 0 _ rfl) rfl inT_X7 (by decide) mw_906 rfl tyX7 tyX7_ok nmX7 rfl rfl (tyX7_ok 30 (by decide)) dX7_tell_71 ?_
        refine ww_aload_n (pc := 74) hC 0 rfl dX7_tell_74 rfl ?_
        refine ww_geti (pc := 75) (Cl := RX7) (T := TX7) (N := 36) (j := 30) (ref := RX7) hC (h0 0 _ rfl) rfl inT_X7 (by decide) mw_906 rfl rfl dX7_tell_75 ?_
        exact ww_ireturn (pc := 78) hC hR dX7_tell_78 rfl
      · refine ww_bipush (pc := 35) (v := (-3)) hC dX7_tell_35 rfl ?_
        exact ww_ireturn (pc := 37) hC hR dX7_tell_37 rfl
    · refine ww_iconst (pc := 24) (v := (-1)) hC dX7_tell_24 rfl ?_
      exact ww_ireturn (pc := 25) hC hR dX7_tell_25 rfl
theorem dX7_forget_0 : decode cX7_forget 0 = .ok (.iload_n 1, 1) := by decide +kernel
theorem dX7_forget_1 : decode cX7_forget 1 = .ok (.i2l, 1) := by decide +kernel
theorem dX7_forget_2 : decode cX7_forget 2 = .ok (.lconst 0, 1) := by decide +kernel
theorem dX7_forget_3 : decode cX7_forget 3 = .ok (.aload_n 0, 1) := by decide +kernel
theorem dX7_forget_4 : decode cX7_forget 4 = .ok (.getfield 162, 3) := by decide +kernel
theorem dX7_forget_7 : decode cX7_forget 7 = .ok (.i2l, 1) := by decide +kernel
theorem dX7_forget_8 : decode cX7_forget 8 = .ok (.invokestatic 68, 3) := by decide +kernel
theorem dX7_forget_11 : decode cX7_forget 11 = .ok (.ifCond .ne 5, 3) := by decide +kernel
theorem dX7_forget_14 : decode cX7_forget 14 = .ok (.iconst (-1), 1) := by decide +kernel
theorem dX7_forget_15 : decode cX7_forget 15 = .ok (.ireturn, 1) := by decide +kernel
theorem dX7_forget_16 : decode cX7_forget 16 = .ok (.aload_n 0, 1) := by decide +kernel
theorem dX7_forget_17 : decode cX7_forget 17 = .ok (.getfield 162, 3) := by decide +kernel
theorem dX7_forget_20 : decode cX7_forget 20 = .ok (.istore_n 2, 1) := by decide +kernel
theorem dX7_forget_21 : decode cX7_forget 21 = .ok (.aload_n 0, 1) := by decide +kernel
theorem dX7_forget_22 : decode cX7_forget 22 = .ok (.iload_n 1, 1) := by decide +kernel
theorem dX7_forget_23 : decode cX7_forget 23 = .ok (.putfield 162, 3) := by decide +kernel
theorem dX7_forget_26 : decode cX7_forget 26 = .ok (.iload_n 2, 1) := by decide +kernel
theorem dX7_forget_27 : decode cX7_forget 27 = .ok (.ireturn, 1) := by decide +kernel
set_option maxHeartbeats 4000000 in
set_option maxRecDepth 100000 in
theorem c_X7_forget {l : Launch} {Y : ww_Y} {ad : Nat → Nat} {G : List ww_L} (o0 : Nat) (h0 : ww_at G o0 (ww_LModel o0)) (σ : ww_M) (p1 : Int32) : ww_Cn l Y ad G yX7_forget cX7_forget 3 (some .int) 2 [.ref (ad o0), .int p1] σ ((f_X7_forget σ o0 p1).bind ww_rw) := by
  refine ww_met (by decide +kernel) (Nat.le_of_ble_eq_true rfl) ?_
  intro X hC hR
  have hC : ww_C X l Y ad G 2 cX7_forget 3 RX7 := hC
  show ww_V X Y ad G 3 σ 0 [(0, .ref (ad o0)), (1, .int p1)] [] ((f_X7_forget σ o0 p1).bind ww_rw)
  unfold f_X7_forget
  refine ww_iload_n (pc := 0) hC 1 rfl dX7_forget_0 rfl ?_
  refine ww_i2l (pc := 1) hC dX7_forget_1 ?_
  refine ww_lconst (pc := 2) (v := 0) hC dX7_forget_2 rfl ?_
  refine ww_aload_n (pc := 3) hC 0 rfl dX7_forget_3 rfl ?_
  refine ww_geti (pc := 4) (Cl := RX7) (T := TX7) (N := 36) (j := 30) (ref := RX7) hC (h0 0 _ rfl) rfl inT_X7 (by decide) mw_906 rfl rfl dX7_forget_4 ?_
  refine ww_i2l (pc := 7) hC dX7_forget_7 ?_
  refine ww_callSi (pc := 8) (st := []) (As := [.long p1.toInt64, .long 0, .long ((σ o0 30).toInt64)]) hC (c_X7_in σ p1.toInt64 0 ((σ o0 30).toInt64)) mm_X7_in mw_991 (by omega) (by decide) (Nat.le_of_ble_eq_true rfl) rfl dX7_forget_8 (fun v8 => ?_)
  refine ww_if_ne (pc := 11) (tgt := 16) hC dX7_forget_11 (by decide) ?_ ?_
  · refine ww_aload_n (pc := 16) hC 0 rfl dX7_forget_16 rfl ?_
    refine ww_geti (pc := 17) (Cl := RX7) (T := TX7) (N := 36) (j := 30) (ref := RX7) hC (h0 0 _ rfl) rfl inT_X7 (by decide) mw_906 rfl rfl dX7_forget_17 ?_
    refine ww_istore_n (pc := 20) (lv' := [(2, .int (σ o0 30)), (0, .ref (ad o0)), (1, .int p1)]) hC dX7_forget_20 rfl (by decide) rfl ?_
    refine ww_aload_n (pc := 21) hC 1 rfl dX7_forget_21 rfl ?_
    refine ww_iload_n (pc := 22) hC 2 rfl dX7_forget_22 rfl ?_
    refine ww_puti (pc := 23) (Cl := RX7) (T := TX7) (N := 36) (j := 30) (ref := RX7) hC (h0 0 _ rfl) rfl inT_X7 (by decide) mw_906 rfl tyX7 tyX7_ok nmX7 rfl rfl (tyX7_ok 30 (by decide)) dX7_forget_23 ?_
    refine ww_iload_n (pc := 26) hC 0 rfl dX7_forget_26 rfl ?_
    exact ww_ireturn (pc := 27) hC hR dX7_forget_27 rfl
  · refine ww_iconst (pc := 14) (v := (-1)) hC dX7_forget_14 rfl ?_
    exact ww_ireturn (pc := 15) hC hR dX7_forget_15 rfl
theorem dX7_explains_0 : decode cX7_explains 0 = .ok (.iconst 1, 1) := by decide +kernel
theorem dX7_explains_1 : decode cX7_explains 1 = .ok (.istore_n 2, 1) := by decide +kernel
theorem dX7_explains_2 : decode cX7_explains 2 = .ok (.iconst 0, 1) := by decide +kernel
theorem dX7_explains_3 : decode cX7_explains 3 = .ok (.istore_n 3, 1) := by decide +kernel
theorem dX7_explains_4 : decode cX7_explains 4 = .ok (.iload_n 3, 1) := by decide +kernel
theorem dX7_explains_5 : decode cX7_explains 5 = .ok (.aload_n 0, 1) := by decide +kernel
theorem dX7_explains_6 : decode cX7_explains 6 = .ok (.getfield 162, 3) := by decide +kernel
theorem dX7_explains_9 : decode cX7_explains 9 = .ok (.if_icmp .ge 45, 3) := by decide +kernel
theorem dX7_explains_12 : decode cX7_explains 12 = .ok (.iload_n 2, 1) := by decide +kernel
theorem dX7_explains_13 : decode cX7_explains 13 = .ok (.ifCond .eq 33, 3) := by decide +kernel
theorem dX7_explains_16 : decode cX7_explains 16 = .ok (.aload_n 0, 1) := by decide +kernel
theorem dX7_explains_17 : decode cX7_explains 17 = .ok (.aload_n 0, 1) := by decide +kernel
theorem dX7_explains_18 : decode cX7_explains 18 = .ok (.getfield 50, 3) := by decide +kernel
theorem dX7_explains_21 : decode cX7_explains 21 = .ok (.iconst 2, 1) := by decide +kernel
theorem dX7_explains_22 : decode cX7_explains 22 = .ok (.iload_n 3, 1) := by decide +kernel
theorem dX7_explains_23 : decode cX7_explains 23 = .ok (.imul, 1) := by decide +kernel
theorem dX7_explains_24 : decode cX7_explains 24 = .ok (.iaload, 1) := by decide +kernel
theorem dX7_explains_25 : decode cX7_explains 25 = .ok (.iload_n 1, 1) := by decide +kernel
theorem dX7_explains_26 : decode cX7_explains 26 = .ok (.invokevirtual 253, 3) := by decide +kernel
theorem dX7_explains_29 : decode cX7_explains 29 = .ok (.aload_n 0, 1) := by decide +kernel
theorem dX7_explains_30 : decode cX7_explains 30 = .ok (.getfield 50, 3) := by decide +kernel
theorem dX7_explains_33 : decode cX7_explains 33 = .ok (.iconst 2, 1) := by decide +kernel
theorem dX7_explains_34 : decode cX7_explains 34 = .ok (.iload_n 3, 1) := by decide +kernel
theorem dX7_explains_35 : decode cX7_explains 35 = .ok (.imul, 1) := by decide +kernel
theorem dX7_explains_36 : decode cX7_explains 36 = .ok (.iconst 1, 1) := by decide +kernel
theorem dX7_explains_37 : decode cX7_explains 37 = .ok (.iadd, 1) := by decide +kernel
theorem dX7_explains_38 : decode cX7_explains 38 = .ok (.iaload, 1) := by decide +kernel
theorem dX7_explains_39 : decode cX7_explains 39 = .ok (.if_icmp .ne 7, 3) := by decide +kernel
theorem dX7_explains_42 : decode cX7_explains 42 = .ok (.iconst 1, 1) := by decide +kernel
theorem dX7_explains_43 : decode cX7_explains 43 = .ok (.goto 4, 3) := by decide +kernel
theorem dX7_explains_46 : decode cX7_explains 46 = .ok (.iconst 0, 1) := by decide +kernel
theorem dX7_explains_47 : decode cX7_explains 47 = .ok (.istore_n 2, 1) := by decide +kernel
theorem dX7_explains_48 : decode cX7_explains 48 = .ok (.iinc 3 1, 3) := by decide +kernel
theorem dX7_explains_51 : decode cX7_explains 51 = .ok (.goto (-47), 3) := by decide +kernel
theorem dX7_explains_54 : decode cX7_explains 54 = .ok (.iload_n 2, 1) := by decide +kernel
theorem dX7_explains_55 : decode cX7_explains 55 = .ok (.ireturn, 1) := by decide +kernel
set_option maxHeartbeats 4000000 in
set_option maxRecDepth 100000 in
theorem c_X7_explains {l : Launch} {Y : ww_Y} {ad : Nat → Nat} {G : List ww_L} (o0 : Nat) (h0 : ww_at G o0 (ww_LModel o0)) (σ : ww_M) (p1 : Int32) : ww_Cn l Y ad G yX7_explains cX7_explains 4 (some .boolean) 5 [.ref (ad o0), .int p1] σ ((f_X7_explains σ o0 p1).bind (ww_ri σ)) := by
  refine ww_met (by decide +kernel) (Nat.le_of_ble_eq_true rfl) ?_
  intro X hC hR
  have hC : ww_C X l Y ad G 5 cX7_explains 4 RX7 := hC
  show ww_V X Y ad G 4 σ 0 [(0, .ref (ad o0)), (1, .int p1)] [] ((f_X7_explains σ o0 p1).bind (ww_ri σ))
  have hJ54 : ∀ (x2 : Int32), ww_V X Y ad G 4 σ 54 [(2, .int x2)] [] ((f_X7_explains_j54 σ o0 p1 x2).bind (ww_ri σ)) := by
    intro x2
    unfold f_X7_explains_j54
    refine ww_iload_n (pc := 54) hC 0 rfl dX7_explains_54 rfl ?_
    exact ww_zreturnG (pc := 55) hC hR dX7_explains_55 rfl
  have hJ4 : ∀ (x2 : Int32) (x3 : Int32), ww_V X Y ad G 4 σ 4 [(0, .ref (ad o0)), (1, .int p1), (2, .int x2), (3, .int x3)] [] ((f_X7_explains_j4 σ o0 p1 x2 x3).bind (ww_ri σ)) := by
    intro x2 x3
    unfold f_X7_explains_j4
    refine ww_assoc ?_
    refine ww_loop (f := f_X7_explains_b4 σ o0 p1) (fun a4 => σ) (fun a4 => [(0, .ref (ad o0)), (1, .int p1), (2, .int a4.1), (3, .int a4.2)]) (fun b4 => σ) (fun b4 => [(2, .int b4)]) 54 (fun b4 => ?_) (fun a4 KK4 hc4 hx4 => ?_) ww_F (x2, x3)
    · exact hJ54 b4
    · unfold f_X7_explains_b4
      refine ww_iload_n (pc := 4) hC 3 rfl dX7_explains_4 rfl ?_
      refine ww_aload_n (pc := 5) hC 0 rfl dX7_explains_5 rfl ?_
      refine ww_geti (pc := 6) (Cl := RX7) (T := TX7) (N := 36) (j := 30) (ref := RX7) hC (h0 0 _ rfl) rfl inT_X7 (by decide) mw_906 rfl rfl dX7_explains_6 ?_
      refine ww_icmp_ge (pc := 9) (tgt := 54) hC dX7_explains_9 (by decide) ?_ ?_
      · refine ww_lv [2] rfl ?_
        exact hx4 a4.1
      · refine ww_iload_n (pc := 12) hC 2 rfl dX7_explains_12 rfl ?_
        refine ww_if_eq (pc := 13) (tgt := 46) hC dX7_explains_13 (by decide) ?_ ?_
        · refine ww_iconst (pc := 46) (v := 0) hC dX7_explains_46 rfl ?_
          refine ww_istore_n (pc := 47) (lv' := [(2, .int 0), (0, .ref (ad o0)), (1, .int p1), (3, .int a4.2)]) hC dX7_explains_47 rfl (by decide) rfl ?_
          refine ww_iinc (pc := 48) (v := a4.2 + 1) (lv' := [(3, .int (a4.2 + 1)), (2, .int 0), (0, .ref (ad o0)), (1, .int p1)]) hC 3 rfl dX7_explains_48 rfl (by decide) rfl ?_
          refine ww_goto (pc := 51) (tgt := 4) hC dX7_explains_51 (by decide) ?_
          refine ww_lv [2, 3, 1, 0] rfl ?_
          exact hc4 (0, a4.2 + 1)
        · refine ww_aload_n (pc := 16) hC 0 rfl dX7_explains_16 rfl ?_
          refine ww_aload_n (pc := 17) hC 0 rfl dX7_explains_17 rfl ?_
          refine ww_getr (pc := 18) (Cl := RX7) (T := TX7) (N := 36) (j := 29) (ref := RX7) hC (h0 0 _ rfl) rfl inT_X7 (by decide) mw_905 rfl rfl dX7_explains_18 ?_
          refine ww_iconst (pc := 21) (v := 2) hC dX7_explains_21 rfl ?_
          refine ww_iload_n (pc := 22) hC 3 rfl dX7_explains_22 rfl ?_
          refine ww_imul (pc := 23) hC dX7_explains_23 ?_
          refine ww_iald (pc := 24) hC (h0 13 _ rfl) dX7_explains_24 ?_
          refine ww_iload_n (pc := 25) hC 1 rfl dX7_explains_25 rfl ?_
          refine ww_callVi (pc := 26) (st := []) (As := [.int (σ (o0 + 13) (ww_ix (2 * a4.2))), .int p1]) hC (c_X7_shareBy o0 h0 σ (σ (o0 + 13) (ww_ix (2 * a4.2))) p1) mm_X7_shareBy mw_1217 (h0 0 _ rfl) rfl (by omega) (by decide) (Nat.le_of_ble_eq_true rfl) rfl dX7_explains_26 (fun v26 => ?_)
          refine ww_aload_n (pc := 29) hC 0 rfl dX7_explains_29 rfl ?_
          refine ww_getr (pc := 30) (Cl := RX7) (T := TX7) (N := 36) (j := 29) (ref := RX7) hC (h0 0 _ rfl) rfl inT_X7 (by decide) mw_905 rfl rfl dX7_explains_30 ?_
          refine ww_iconst (pc := 33) (v := 2) hC dX7_explains_33 rfl ?_
          refine ww_iload_n (pc := 34) hC 3 rfl dX7_explains_34 rfl ?_
          refine ww_imul (pc := 35) hC dX7_explains_35 ?_
          refine ww_iconst (pc := 36) (v := 1) hC dX7_explains_36 rfl ?_
          refine ww_iadd (pc := 37) hC dX7_explains_37 ?_
          refine ww_iald (pc := 38) hC (h0 13 _ rfl) dX7_explains_38 ?_
          refine ww_icmp_ne (pc := 39) (tgt := 46) hC dX7_explains_39 (by decide) ?_ ?_
          · refine ww_iconst (pc := 46) (v := 0) hC dX7_explains_46 rfl ?_
            refine ww_istore_n (pc := 47) (lv' := [(2, .int 0), (0, .ref (ad o0)), (1, .int p1), (3, .int a4.2)]) hC dX7_explains_47 rfl (by decide) rfl ?_
            refine ww_iinc (pc := 48) (v := a4.2 + 1) (lv' := [(3, .int (a4.2 + 1)), (2, .int 0), (0, .ref (ad o0)), (1, .int p1)]) hC 3 rfl dX7_explains_48 rfl (by decide) rfl ?_
            refine ww_goto (pc := 51) (tgt := 4) hC dX7_explains_51 (by decide) ?_
            refine ww_lv [2, 3, 1, 0] rfl ?_
            exact hc4 (0, a4.2 + 1)
          · refine ww_iconst (pc := 42) (v := 1) hC dX7_explains_42 rfl ?_
            refine ww_goto (pc := 43) (tgt := 47) hC dX7_explains_43 (by decide) ?_
            refine ww_istore_n (pc := 47) (lv' := [(2, .int 1), (0, .ref (ad o0)), (1, .int p1), (3, .int a4.2)]) hC dX7_explains_47 rfl (by decide) rfl ?_
            refine ww_iinc (pc := 48) (v := a4.2 + 1) (lv' := [(3, .int (a4.2 + 1)), (2, .int 1), (0, .ref (ad o0)), (1, .int p1)]) hC 3 rfl dX7_explains_48 rfl (by decide) rfl ?_
            refine ww_goto (pc := 51) (tgt := 4) hC dX7_explains_51 (by decide) ?_
            refine ww_lv [2, 3, 1, 0] rfl ?_
            exact hc4 (1, a4.2 + 1)
  unfold f_X7_explains
  refine ww_iconst (pc := 0) (v := 1) hC dX7_explains_0 rfl ?_
  refine ww_istore_n (pc := 1) (lv' := [(2, .int 1), (0, .ref (ad o0)), (1, .int p1)]) hC dX7_explains_1 rfl (by decide) rfl ?_
  refine ww_iconst (pc := 2) (v := 0) hC dX7_explains_2 rfl ?_
  refine ww_istore_n (pc := 3) (lv' := [(3, .int 0), (2, .int 1), (0, .ref (ad o0)), (1, .int p1)]) hC dX7_explains_3 rfl (by decide) rfl ?_
  refine ww_lv [2, 3, 1, 0] rfl ?_
  exact hJ4 1 0
