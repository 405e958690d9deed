theorem sc_len : Cond.code yJ0_length_8abf5 cJ0_length_8abf5 1 (some .int) ∈ ww_T := ww_Tt2 89 (by decide +kernel) rfl
theorem si_len : Cond.initialized RJ0 ∈ ww_T := ww_Tt1 10 (by decide +kernel) rfl
theorem ss_len : Cond.instanceMethod yJ0_length_8abf5 ∈ ww_T := ww_Tt2 87 (by decide +kernel) rfl
theorem sl_len : Cond.selects RJ0 yJ0_length_8abf5 yJ0_length_8abf5 ∈ ww_T := ww_Tt2 88 (by decide +kernel) rfl
theorem sm_len : ww_mV yJ0_length_8abf5 cJ0_length_8abf5 1 (some .int) 0 := ⟨sc_len, si_len, ss_len, sl_len, by decide +kernel⟩
theorem dJ0_length_8abf5_0 : decode cJ0_length_8abf5 0 = .ok (.aload_n 0, 1) := by decide +kernel
theorem dJ0_length_8abf5_1 : decode cJ0_length_8abf5 1 = .ok (.getfield 9, 3) := by decide +kernel
theorem dJ0_length_8abf5_4 : decode cJ0_length_8abf5 4 = .ok (.arraylength, 1) := by decide +kernel
theorem dJ0_length_8abf5_5 : decode cJ0_length_8abf5 5 = .ok (.aload_n 0, 1) := by decide +kernel
theorem dJ0_length_8abf5_6 : decode cJ0_length_8abf5 6 = .ok (.invokevirtual 335, 3) := by decide +kernel
theorem dJ0_length_8abf5_9 : decode cJ0_length_8abf5 9 = .ok (.ishr, 1) := by decide +kernel
theorem dJ0_length_8abf5_10 : decode cJ0_length_8abf5 10 = .ok (.ireturn, 1) := by decide +kernel
theorem sc_chr : Cond.code yJ0_charAt_5068e cJ0_charAt_5068e 2 (some .char) ∈ ww_T := ww_Tt2 99 (by decide +kernel) rfl
theorem si_chr : Cond.initialized RJ0 ∈ ww_T := ww_Tt1 10 (by decide +kernel) rfl
theorem ss_chr : Cond.instanceMethod yJ0_charAt_5068e ∈ ww_T := ww_Tt2 97 (by decide +kernel) rfl
theorem sl_chr : Cond.selects RJ0 yJ0_charAt_5068e yJ0_charAt_5068e ∈ ww_T := ww_Tt2 98 (by decide +kernel) rfl
theorem sm_chr : ww_mV yJ0_charAt_5068e cJ0_charAt_5068e 2 (some .char) 1 := ⟨sc_chr, si_chr, ss_chr, sl_chr, by decide +kernel⟩
theorem dJ0_charAt_5068e_0 : decode cJ0_charAt_5068e 0 = .ok (.aload_n 0, 1) := by decide +kernel
theorem dJ0_charAt_5068e_1 : decode cJ0_charAt_5068e 1 = .ok (.invokevirtual 492, 3) := by decide +kernel
theorem dJ0_charAt_5068e_4 : decode cJ0_charAt_5068e 4 = .ok (.ifCond .eq 12, 3) := by decide +kernel
theorem dJ0_charAt_5068e_7 : decode cJ0_charAt_5068e 7 = .ok (.aload_n 0, 1) := by decide +kernel
theorem dJ0_charAt_5068e_8 : decode cJ0_charAt_5068e 8 = .ok (.getfield 9, 3) := by decide +kernel
theorem dJ0_charAt_5068e_11 : decode cJ0_charAt_5068e 11 = .ok (.iload_n 1, 1) := by decide +kernel
theorem dJ0_charAt_5068e_12 : decode cJ0_charAt_5068e 12 = .ok (.invokestatic 495, 3) := by decide +kernel
theorem dJ0_charAt_5068e_15 : decode cJ0_charAt_5068e 15 = .ok (.ireturn, 1) := by decide +kernel
theorem dJ0_charAt_5068e_16 : decode cJ0_charAt_5068e 16 = .ok (.aload_n 0, 1) := by decide +kernel
theorem dJ0_charAt_5068e_17 : decode cJ0_charAt_5068e 17 = .ok (.getfield 9, 3) := by decide +kernel
theorem dJ0_charAt_5068e_20 : decode cJ0_charAt_5068e 20 = .ok (.iload_n 1, 1) := by decide +kernel
theorem dJ0_charAt_5068e_21 : decode cJ0_charAt_5068e 21 = .ok (.invokestatic 498, 3) := by decide +kernel
theorem dJ0_charAt_5068e_24 : decode cJ0_charAt_5068e 24 = .ok (.ireturn, 1) := by decide +kernel
theorem sc_cod : Cond.code yJ0_coder_7d493 cJ0_coder_7d493 1 (some .byte) ∈ ww_T := ww_Tt2 93 (by decide +kernel) rfl
theorem si_cod : Cond.initialized RJ0 ∈ ww_T := ww_Tt1 10 (by decide +kernel) rfl
theorem ss_cod : Cond.instanceMethod yJ0_coder_7d493 ∈ ww_T := ww_Tt2 91 (by decide +kernel) rfl
theorem sl_cod : Cond.selects RJ0 yJ0_coder_7d493 yJ0_coder_7d493 ∈ ww_T := ww_Tt2 92 (by decide +kernel) rfl
theorem sm_cod : ww_mV yJ0_coder_7d493 cJ0_coder_7d493 1 (some .byte) 0 := ⟨sc_cod, si_cod, ss_cod, sl_cod, by decide +kernel⟩
theorem dJ0_coder_7d493_0 : decode cJ0_coder_7d493 0 = .ok (.getstatic 38, 3) := by decide +kernel
theorem dJ0_coder_7d493_3 : decode cJ0_coder_7d493 3 = .ok (.ifCond .eq 10, 3) := by decide +kernel
theorem dJ0_coder_7d493_6 : decode cJ0_coder_7d493 6 = .ok (.aload_n 0, 1) := by decide +kernel
theorem dJ0_coder_7d493_7 : decode cJ0_coder_7d493 7 = .ok (.getfield 15, 3) := by decide +kernel
theorem dJ0_coder_7d493_10 : decode cJ0_coder_7d493 10 = .ok (.goto 4, 3) := by decide +kernel
theorem dJ0_coder_7d493_13 : decode cJ0_coder_7d493 13 = .ok (.iconst 1, 1) := by decide +kernel
theorem dJ0_coder_7d493_14 : decode cJ0_coder_7d493 14 = .ok (.ireturn, 1) := by decide +kernel
theorem sc_lat : Cond.code yJ0_isLatin1_aae02 cJ0_isLatin1_aae02 1 (some .boolean) ∈ ww_T := ww_Tt2 103 (by decide +kernel) rfl
theorem si_lat : Cond.initialized RJ0 ∈ ww_T := ww_Tt1 10 (by decide +kernel) rfl
theorem ss_lat : Cond.instanceMethod yJ0_isLatin1_aae02 ∈ ww_T := ww_Tt2 101 (by decide +kernel) rfl
theorem sl_lat : Cond.selects RJ0 yJ0_isLatin1_aae02 yJ0_isLatin1_aae02 ∈ ww_T := ww_Tt2 102 (by decide +kernel) rfl
theorem sm_lat : ww_mV yJ0_isLatin1_aae02 cJ0_isLatin1_aae02 1 (some .boolean) 0 := ⟨sc_lat, si_lat, ss_lat, sl_lat, by decide +kernel⟩
theorem dJ0_isLatin1_aae02_0 : decode cJ0_isLatin1_aae02 0 = .ok (.getstatic 38, 3) := by decide +kernel
theorem dJ0_isLatin1_aae02_3 : decode cJ0_isLatin1_aae02 3 = .ok (.ifCond .eq 14, 3) := by decide +kernel
theorem dJ0_isLatin1_aae02_6 : decode cJ0_isLatin1_aae02 6 = .ok (.aload_n 0, 1) := by decide +kernel
theorem dJ0_isLatin1_aae02_7 : decode cJ0_isLatin1_aae02 7 = .ok (.getfield 15, 3) := by decide +kernel
theorem dJ0_isLatin1_aae02_10 : decode cJ0_isLatin1_aae02 10 = .ok (.ifCond .ne 7, 3) := by decide +kernel
theorem dJ0_isLatin1_aae02_13 : decode cJ0_isLatin1_aae02 13 = .ok (.iconst 1, 1) := by decide +kernel
theorem dJ0_isLatin1_aae02_14 : decode cJ0_isLatin1_aae02 14 = .ok (.goto 4, 3) := by decide +kernel
theorem dJ0_isLatin1_aae02_17 : decode cJ0_isLatin1_aae02 17 = .ok (.iconst 0, 1) := by decide +kernel
theorem dJ0_isLatin1_aae02_18 : decode cJ0_isLatin1_aae02 18 = .ok (.ireturn, 1) := by decide +kernel
theorem sc_l1c : Cond.code yJ1_charAt_3b067 cJ1_charAt_3b067 2 (some .char) ∈ ww_T := ww_Tt2 106 (by decide +kernel) rfl
theorem si_l1c : Cond.initialized RJ1 ∈ ww_T := ww_Tt1 11 (by decide +kernel) rfl
theorem ss_l1c : Cond.static yJ1_charAt_3b067 ∈ ww_T := ww_Tt2 105 (by decide +kernel) rfl
theorem sm_l1c : ww_mS yJ1_charAt_3b067 cJ1_charAt_3b067 2 (some .char) 2 := ⟨sc_l1c, si_l1c, ss_l1c, by decide +kernel⟩
theorem dJ1_charAt_3b067_0 : decode cJ1_charAt_3b067 0 = .ok (.iload_n 1, 1) := by decide +kernel
theorem dJ1_charAt_3b067_1 : decode cJ1_charAt_3b067 1 = .ok (.aload_n 0, 1) := by decide +kernel
theorem dJ1_charAt_3b067_2 : decode cJ1_charAt_3b067 2 = .ok (.arraylength, 1) := by decide +kernel
theorem dJ1_charAt_3b067_3 : decode cJ1_charAt_3b067 3 = .ok (.invokestatic 9, 3) := by decide +kernel
theorem dJ1_charAt_3b067_6 : decode cJ1_charAt_3b067 6 = .ok (.aload_n 0, 1) := by decide +kernel
theorem dJ1_charAt_3b067_7 : decode cJ1_charAt_3b067 7 = .ok (.iload_n 1, 1) := by decide +kernel
theorem dJ1_charAt_3b067_8 : decode cJ1_charAt_3b067 8 = .ok (.baload, 1) := by decide +kernel
theorem dJ1_charAt_3b067_9 : decode cJ1_charAt_3b067 9 = .ok (.sipush 255, 3) := by decide +kernel
theorem dJ1_charAt_3b067_12 : decode cJ1_charAt_3b067 12 = .ok (.iand, 1) := by decide +kernel
theorem dJ1_charAt_3b067_13 : decode cJ1_charAt_3b067 13 = .ok (.i2c, 1) := by decide +kernel
theorem dJ1_charAt_3b067_14 : decode cJ1_charAt_3b067 14 = .ok (.ireturn, 1) := by decide +kernel
theorem sc_chk : Cond.code yJ0_checkIndex_df160 cJ0_checkIndex_df160 2 none ∈ ww_T := ww_Tt2 109 (by decide +kernel) rfl
theorem si_chk : Cond.initialized RJ0 ∈ ww_T := ww_Tt1 10 (by decide +kernel) rfl
theorem ss_chk : Cond.static yJ0_checkIndex_df160 ∈ ww_T := ww_Tt2 108 (by decide +kernel) rfl
theorem sm_chk : ww_mS yJ0_checkIndex_df160 cJ0_checkIndex_df160 2 none 2 := ⟨sc_chk, si_chk, ss_chk, by decide +kernel⟩
theorem dJ0_checkIndex_df160_0 : decode cJ0_checkIndex_df160 0 = .ok (.iload_n 0, 1) := by decide +kernel
theorem dJ0_checkIndex_df160_1 : decode cJ0_checkIndex_df160 1 = .ok (.iload_n 1, 1) := by decide +kernel
theorem dJ0_checkIndex_df160_2 : decode cJ0_checkIndex_df160 2 = .ok (.getstatic 1053, 3) := by decide +kernel
theorem dJ0_checkIndex_df160_5 : decode cJ0_checkIndex_df160 5 = .ok (.invokestatic 1059, 3) := by decide +kernel
theorem dJ0_checkIndex_df160_8 : decode cJ0_checkIndex_df160 8 = .ok (.pop, 1) := by decide +kernel
theorem dJ0_checkIndex_df160_9 : decode cJ0_checkIndex_df160 9 = .ok (.return_, 1) := by decide +kernel
theorem sc_pre : Cond.code yJ3_checkIndex_8e157 cJ3_checkIndex_8e157 3 (some .int) ∈ ww_T := ww_Tt2 114 (by decide +kernel) rfl
theorem si_pre : Cond.initialized RJ3 ∈ ww_T := ww_Tt1 12 (by decide +kernel) rfl
theorem ss_pre : Cond.static yJ3_checkIndex_8e157 ∈ ww_T := ww_Tt2 113 (by decide +kernel) rfl
theorem sm_pre : ww_mS yJ3_checkIndex_8e157 cJ3_checkIndex_8e157 3 (some .int) 3 := ⟨sc_pre, si_pre, ss_pre, by decide +kernel⟩
theorem dJ3_checkIndex_8e157_0 : decode cJ3_checkIndex_8e157 0 = .ok (.iload_n 0, 1) := by decide +kernel
theorem dJ3_checkIndex_8e157_1 : decode cJ3_checkIndex_8e157 1 = .ok (.ifCond .lt 8, 3) := by decide +kernel
theorem dJ3_checkIndex_8e157_4 : decode cJ3_checkIndex_8e157 4 = .ok (.iload_n 0, 1) := by decide +kernel
theorem dJ3_checkIndex_8e157_5 : decode cJ3_checkIndex_8e157 5 = .ok (.iload_n 1, 1) := by decide +kernel
theorem dJ3_checkIndex_8e157_6 : decode cJ3_checkIndex_8e157 6 = .ok (.if_icmp .lt 10, 3) := by decide +kernel
theorem dJ3_checkIndex_8e157_9 : decode cJ3_checkIndex_8e157 9 = .ok (.aload_n 2, 1) := by decide +kernel
theorem dJ3_checkIndex_8e157_10 : decode cJ3_checkIndex_8e157 10 = .ok (.iload_n 0, 1) := by decide +kernel
theorem dJ3_checkIndex_8e157_11 : decode cJ3_checkIndex_8e157 11 = .ok (.iload_n 1, 1) := by decide +kernel
theorem dJ3_checkIndex_8e157_12 : decode cJ3_checkIndex_8e157 12 = .ok (.invokestatic 95, 3) := by decide +kernel
theorem dJ3_checkIndex_8e157_15 : decode cJ3_checkIndex_8e157 15 = .ok (.athrow, 1) := by decide +kernel
theorem dJ3_checkIndex_8e157_16 : decode cJ3_checkIndex_8e157 16 = .ok (.iload_n 0, 1) := by decide +kernel
theorem dJ3_checkIndex_8e157_17 : decode cJ3_checkIndex_8e157 17 = .ok (.ireturn, 1) := by decide +kernel
theorem sc_fill : Cond.code yJ7_fill_53178 cJ7_fill_53178 4 none ∈ ww_T := ww_Tt1 239 (by decide +kernel) rfl
theorem si_fill : Cond.initialized RJ7 ∈ ww_T := ww_Tt1 8 (by decide +kernel) rfl
theorem ss_fill : Cond.static yJ7_fill_53178 ∈ ww_T := ww_Tt1 238 (by decide +kernel) rfl
theorem sm_fill : ww_mS yJ7_fill_53178 cJ7_fill_53178 4 none 2 := ⟨sc_fill, si_fill, ss_fill, by decide +kernel⟩
theorem dJ7_fill_53178_0 : decode cJ7_fill_53178 0 = .ok (.iconst 0, 1) := by decide +kernel
theorem dJ7_fill_53178_1 : decode cJ7_fill_53178 1 = .ok (.istore_n 2, 1) := by decide +kernel
theorem dJ7_fill_53178_2 : decode cJ7_fill_53178 2 = .ok (.aload_n 0, 1) := by decide +kernel
theorem dJ7_fill_53178_3 : decode cJ7_fill_53178 3 = .ok (.arraylength, 1) := by decide +kernel
theorem dJ7_fill_53178_4 : decode cJ7_fill_53178 4 = .ok (.istore_n 3, 1) := by decide +kernel
theorem dJ7_fill_53178_5 : decode cJ7_fill_53178 5 = .ok (.iload_n 2, 1) := by decide +kernel
theorem dJ7_fill_53178_6 : decode cJ7_fill_53178 6 = .ok (.iload_n 3, 1) := by decide +kernel
theorem dJ7_fill_53178_7 : decode cJ7_fill_53178 7 = .ok (.if_icmp .ge 13, 3) := by decide +kernel
theorem dJ7_fill_53178_10 : decode cJ7_fill_53178 10 = .ok (.aload_n 0, 1) := by decide +kernel
theorem dJ7_fill_53178_11 : decode cJ7_fill_53178 11 = .ok (.iload_n 2, 1) := by decide +kernel
theorem dJ7_fill_53178_12 : decode cJ7_fill_53178 12 = .ok (.iload_n 1, 1) := by decide +kernel
theorem dJ7_fill_53178_13 : decode cJ7_fill_53178 13 = .ok (.iastore, 1) := by decide +kernel
theorem dJ7_fill_53178_14 : decode cJ7_fill_53178 14 = .ok (.iinc 2 1, 3) := by decide +kernel
theorem dJ7_fill_53178_17 : decode cJ7_fill_53178 17 = .ok (.goto (-12), 3) := by decide +kernel
theorem dJ7_fill_53178_20 : decode cJ7_fill_53178 20 = .ok (.return_, 1) := by decide +kernel
theorem sc_cpy : Cond.code yX2_copyAll cX2_copyAll 2 none ∈ ww_T := ww_Tt2 202 (by decide +kernel) rfl
theorem si_cpy : Cond.initialized RX2 ∈ ww_T := ww_Tt1 4 (by decide +kernel) rfl
theorem ss_cpy : Cond.static yX2_copyAll ∈ ww_T := ww_Tt2 201 (by decide +kernel) rfl
theorem sm_cpy : ww_mS yX2_copyAll cX2_copyAll 2 none 2 := ⟨sc_cpy, si_cpy, ss_cpy, by decide +kernel⟩
theorem dX2_copyAll_0 : decode cX2_copyAll 0 = .ok (.aload_n 0, 1) := by decide +kernel
theorem dX2_copyAll_1 : decode cX2_copyAll 1 = .ok (.iconst 0, 1) := by decide +kernel
theorem dX2_copyAll_2 : decode cX2_copyAll 2 = .ok (.aload_n 1, 1) := by decide +kernel
theorem dX2_copyAll_3 : decode cX2_copyAll 3 = .ok (.iconst 0, 1) := by decide +kernel
theorem dX2_copyAll_4 : decode cX2_copyAll 4 = .ok (.aload_n 0, 1) := by decide +kernel
theorem dX2_copyAll_5 : decode cX2_copyAll 5 = .ok (.arraylength, 1) := by decide +kernel
theorem dX2_copyAll_6 : decode cX2_copyAll 6 = .ok (.aload_n 1, 1) := by decide +kernel
theorem dX2_copyAll_7 : decode cX2_copyAll 7 = .ok (.arraylength, 1) := by decide +kernel
theorem dX2_copyAll_8 : decode cX2_copyAll 8 = .ok (.invokestatic 74, 3) := by decide +kernel
theorem dX2_copyAll_11 : decode cX2_copyAll 11 = .ok (.invokestatic 80, 3) := by decide +kernel
theorem dX2_copyAll_14 : decode cX2_copyAll 14 = .ok (.return_, 1) := by decide +kernel
theorem sk_cod : Cond.methodLink RJ0 335 yJ0_coder_7d493 ∈ ww_T := ww_Tt2 90 (by decide +kernel) rfl
theorem sk_lat : Cond.methodLink RJ0 492 yJ0_isLatin1_aae02 ∈ ww_T := ww_Tt2 100 (by decide +kernel) rfl
theorem sk_l1c : Cond.methodLink RJ0 495 yJ1_charAt_3b067 ∈ ww_T := ww_Tt2 104 (by decide +kernel) rfl
theorem sk_chk : Cond.methodLink RJ1 9 yJ0_checkIndex_df160 ∈ ww_T := ww_Tt2 107 (by decide +kernel) rfl
theorem sk_pre : Cond.methodLink RJ0 1059 yJ3_checkIndex_8e157 ∈ ww_T := ww_Tt2 112 (by decide +kernel) rfl
theorem sf_val : Cond.fieldLink RJ0 9 "java/lang/String" "value" "[B" ∈ ww_T := ww_Tt6 52 (by decide +kernel) rfl
theorem sf_cod : Cond.fieldLink RJ0 15 "java/lang/String" "coder" "B" ∈ ww_T := ww_Tt6 53 (by decide +kernel) rfl
theorem sf_cmp : Cond.fieldLink RJ0 38 "java/lang/String" "COMPACT_STRINGS" "Z" ∈ ww_T := ww_Tt2 94 (by decide +kernel) rfl
theorem sf_for : Cond.fieldLink RJ0 1053 "jdk/internal/util/Preconditions" "SIOOBE_FORMATTER" "Ljava/util/function/BiFunction;" ∈ ww_T := ww_Tt2 110 (by decide +kernel) rfl
theorem sa_lk : Cond.methodLink RX2 80 arraycopyName ∈ ww_T := ww_Tt2 206 (by decide +kernel) rfl
theorem sa_st : Cond.static arraycopyName ∈ ww_T := ww_Tt2 207 (by decide +kernel) rfl
theorem sa_na : Cond.native arraycopyName ∈ ww_T := ww_Tt2 208 (by decide +kernel) rfl
theorem sa_in : Cond.initialized "java/lang/System" ∈ ww_T := ww_Tt1 15 (by decide +kernel) rfl
theorem sn_lk : Cond.methodLink RX2 74 Lib.Math.min.name ∈ ww_T := ww_Tt2 203 (by decide +kernel) rfl
theorem sn_st : Cond.static Lib.Math.min.name ∈ ww_T := ww_Tt2 204 (by decide +kernel) rfl
theorem sn_in : Cond.initialized "java/lang/Math" ∈ ww_T := ww_Tt1 14 (by decide +kernel) rfl
theorem sn_co : Cond.code Lib.Math.min.name Lib.Math.min.code 2 (some .int) ∈ ww_T := ww_Tt2 205 (by decide +kernel) rfl
section WSPEC
variable {X : ww_X} {l0 : Launch} {Y : ww_Y} {ad : Nat → Nat} {G : List ww_L} {h nL pc : Nat} {cc : ByteArray} {own : String} {σ : ww_M} {lv : List (Nat × Value)} {st st0 : List Value} {o : Option ww_R} {α : Type} {K : α → Option ww_R}
theorem ww_icmp_geR (hC : ww_C X l0 Y ad G h cc nL own) {x y : Int32} {off : Int} {tgt : Nat} (hd : decode cc pc = .ok (.if_icmp .ge off, 3)) (ht : (pc : Int) + off = (tgt : Int)) (kt : y ≤ x → ww_V X Y ad G nL σ tgt lv st o) (kf : ¬ y ≤ x → ww_V X Y ad G nL σ (pc + 3) lv st o) : ww_V X Y ad G nL σ pc lv (.int y :: .int x :: st) o := by
  obtain ⟨p, l, e, R, s, m, args, below, meth, c, cells, slots, Qf, A⟩ := X
  obtain ⟨rfl, ⟨hRf, hRl, hRc, hRs⟩, hx, hb, hml, hown, hts, hEv, hI, hAk, hA⟩ := hC
  intro H locs ls r hr hP hS hl
  exact lv_icmp_ge hx hb hd ht (fun q => kt q H locs ls r hr hP hS hl) (fun q => kf q H locs ls r hr hP hS hl)
theorem ww_icmp_ltR (hC : ww_C X l0 Y ad G h cc nL own) {x y : Int32} {off : Int} {tgt : Nat} (hd : decode cc pc = .ok (.if_icmp .lt off, 3)) (ht : (pc : Int) + off = (tgt : Int)) (kt : x < y → ww_V X Y ad G nL σ tgt lv st o) (kf : ¬ x < y → ww_V X Y ad G nL σ (pc + 3) lv st o) : ww_V X Y ad G nL σ pc lv (.int y :: .int x :: st) o := by
  obtain ⟨p, l, e, R, s, m, args, below, meth, c, cells, slots, Qf, A⟩ := X
  obtain ⟨rfl, ⟨hRf, hRl, hRc, hRs⟩, hx, hb, hml, hown, hts, hEv, hI, hAk, hA⟩ := hC
  intro H locs ls r hr hP hS hl
  exact lv_icmp_lt hx hb hd ht (fun q => kt q H locs ls r hr hP hS hl) (fun q => kf q H locs ls r hr hP hS hl)
theorem ww_if_ltR (hC : ww_C X l0 Y ad G h cc nL own) {x : Int32} {off : Int} {tgt : Nat} (hd : decode cc pc = .ok (.ifCond .lt off, 3)) (ht : (pc : Int) + off = (tgt : Int)) (kt : x < 0 → ww_V X Y ad G nL σ tgt lv st o) (kf : ¬ x < 0 → ww_V X Y ad G nL σ (pc + 3) lv st o) : ww_V X Y ad G nL σ pc lv (.int x :: st) o := by
  obtain ⟨p, l, e, R, s, m, args, below, meth, c, cells, slots, Qf, A⟩ := X
  obtain ⟨rfl, ⟨hRf, hRl, hRc, hRs⟩, hx, hb, hml, hown, hts, hEv, hI, hAk, hA⟩ := hC
  intro H locs ls r hr hP hS hl
  exact lv_if_lt hx hb hd ht (fun q => kt q H locs ls r hr hP hS hl) (fun q => kf q H locs ls r hr hP hS hl)
theorem ww_if_eqR (hC : ww_C X l0 Y ad G h cc nL own) {x : Int32} {off : Int} {tgt : Nat} (hd : decode cc pc = .ok (.ifCond .eq off, 3)) (ht : (pc : Int) + off = (tgt : Int)) (kt : x = 0 → ww_V X Y ad G nL σ tgt lv st o) (kf : ¬ x = 0 → ww_V X Y ad G nL σ (pc + 3) lv st o) : ww_V X Y ad G nL σ pc lv (.int x :: st) o := by
  obtain ⟨p, l, e, R, s, m, args, below, meth, c, cells, slots, Qf, A⟩ := X
  obtain ⟨rfl, ⟨hRf, hRl, hRc, hRs⟩, hx, hb, hml, hown, hts, hEv, hI, hAk, hA⟩ := hC
  intro H locs ls r hr hP hS hl
  exact lv_if_eq hx hb hd ht (fun q => kt q H locs ls r hr hP hS hl) (fun q => kf q H locs ls r hr hP hS hl)
theorem ww_if_neR (hC : ww_C X l0 Y ad G h cc nL own) {x : Int32} {off : Int} {tgt : Nat} (hd : decode cc pc = .ok (.ifCond .ne off, 3)) (ht : (pc : Int) + off = (tgt : Int)) (kt : ¬ x = 0 → ww_V X Y ad G nL σ tgt lv st o) (kf : x = 0 → ww_V X Y ad G nL σ (pc + 3) lv st o) : ww_V X Y ad G nL σ pc lv (.int x :: st) o := by
  obtain ⟨p, l, e, R, s, m, args, below, meth, c, cells, slots, Qf, A⟩ := X
  obtain ⟨rfl, ⟨hRf, hRl, hRc, hRs⟩, hx, hb, hml, hown, hts, hEv, hI, hAk, hA⟩ := hC
  intro H locs ls r hr hP hS hl
  exact lv_if_ne hx hb hd ht (fun q => kt q H locs ls r hr hP hS hl) (fun q => kf q H locs ls r hr hP hS hl)
theorem ww_callS0 (hC : ww_C X l0 Y ad G h cc nL own) {r : ww_R} {y : MethodName} {bytes : ByteArray} {maxL h' index : Nat} {ret : Option FieldType} {As : List Value} (hM : ww_Cn l0 Y ad G y bytes maxL ret h' As σ (some r)) (hm : ww_mS y bytes maxL ret As.length) (hlk : Cond.methodLink own index y ∈ ww_T) (hh : h' + 1 ≤ h) (hL : maxL ≤ 21) (hs8 : (st.map fun v => v.category).sum ≤ 8) (hst : st0 = As.reverse ++ st) (hd : decode cc pc = .ok (.invokestatic index, 3)) (kk : ww_V X Y ad G nL r.2 (pc + 3) lv (r.1.toList ++ st) o) : ww_V X Y ad G nL σ pc lv st0 o := by
  refine ww_eq (o' := ((some ()).bind (fun _ : Unit => o)).bind some) (by cases o <;> rfl) ?_
  refine ww_callS (f := some ()) (kc := fun _ => r) (E := fun _ => o) (K := some) hC hM hm hlk hh hL hs8 hst hd (fun a => ?_)
  exact ww_eq (by cases o <;> rfl) kk
theorem ww_callVS (hC : ww_C X l0 Y ad G h cc nL own) {r0 : ww_R} {y : MethodName} {bytes : ByteArray} {maxL h' index i : Nat} {ret : Option FieldType} {As : List Value} (hi : i < 6) (hM : ww_Cn l0 Y ad G y bytes maxL ret h' (.ref (Y.2.2.2 i) :: As) σ (some r0)) (hm : ww_mV y bytes maxL ret As.length) (hy : y.cls = "java/lang/String") (hlk : Cond.methodLink own index y ∈ ww_T) (hh : h' + 1 ≤ h) (hL : maxL ≤ 21) (hs8 : (st.map fun v => v.category).sum ≤ 8) (hst : st0 = As.reverse ++ .ref (Y.2.2.2 i) :: st) (hd : decode cc pc = .ok (.invokevirtual index, 3)) (kk : ww_V X Y ad G nL r0.2 (pc + 3) lv (r0.1.toList ++ st) o) : ww_V X Y ad G nL σ pc lv st0 o := by
  obtain ⟨p, l, e, R, s, m, args, below, meth, c, cells, slots, Qf, A⟩ := X
  obtain ⟨rfl, ⟨hRf, hRl, hRc, hRs⟩, hx, hb, hml, hown, hts, hEv, hI, hAk, hA⟩ := hC
  intro H locs ls r hr hP hS hl
  have hM' := hM H.size r0 rfl
  have hf := ww_AAin (G := G) (ad := ad) hS hAk hA
  obtain ⟨m1, m2, m3, m4, m5⟩ := hm
  have hgood : GoodIn ww_T (wsV own index y.cls y (Cond.code y bytes maxL ret :: ww_T)) := by
    intro w hw
    rcases List.mem_append.mp hw with q | q
    · have q2 : w = .methodLink own index y ∨ w = .instanceMethod y ∨ w = .selects y.cls y y ∨ w = .initialized y.cls := by simpa using q
      rcases q2 with rfl | rfl | rfl | rfl
      · exact ww_Tg _ hlk
      · exact ww_Tg _ m3
      · exact ww_Tg _ m4
      · exact ww_Tg _ m2
    · exact ww_good m1 w q
  refine ww_after (a := (Value.ref (Y.2.2.2 i) :: As).toArray) (r := r0) hS hf (va_runV (As := As) (rest := st) ⟨hx, hb, hml, hown, hts⟩ hM' (cwV As.length hts hgood rfl rfl rfl ⟨rfl, m5⟩ ⟨by show h' + 1 ≤ _; omega, by show 8 + (maxL + 11) + 40 * h' ≤ _; omega⟩) ⟨ww_blind _ _ _ _ _ _, by rw [hy]; exact vk_recv hEv.2.2.1 hi hS, fun U hU hW => ⟨rfl, by rw [hU], by rw [hU]; exact hP, by rw [hU]; exact hEv.warm hW hS.2.1 (fun q _ z => hf q z) hf, hI⟩⟩ rfl rfl hl.1 hst (lv_room hs8) hd ⟨hRc, hRs⟩) ?_
  intro H1 locs1 hP1 hS1
  exact kk H1 locs1 ls r hr hP1 hS1 hl
theorem ww_sval (hC : ww_C X l0 Y ad G h cc nL RJ0) {i : Nat} (hi : i < 6) (hd : decode cc pc = .ok (.getfield 9, 3)) (kk : ww_V X Y ad G nL σ (pc + 3) lv (.ref (Y.2.2.1 i) :: st) o) : ww_V X Y ad G nL σ pc lv (.ref (Y.2.2.2 i) :: st) o := by
  obtain ⟨p, l, e, R, s, m, args, below, meth, c, cells, slots, Qf, A⟩ := X
  obtain ⟨rfl, ⟨hRf, hRl, hRc, hRs⟩, hx, hb, hml, hown, hts, hEv, hI, hAk, hA⟩ := hC
  intro H locs ls r hr hP hS hl
  exact vk_getf (ref := "java/lang/String") hx hb (hEv.2.2.1.1 i hi).2.2.1 hS hown (hts _ sf_val) (fun _ h9 => h9) hd (kk H locs ls r hr hP hS hl)
theorem ww_scod (hC : ww_C X l0 Y ad G h cc nL RJ0) {i : Nat} (hi : i < 6) (hd : decode cc pc = .ok (.getfield 15, 3)) (kk : ww_V X Y ad G nL σ (pc + 3) lv (.int 0 :: st) o) : ww_V X Y ad G nL σ pc lv (.ref (Y.2.2.2 i) :: st) o := by
  obtain ⟨p, l, e, R, s, m, args, below, meth, c, cells, slots, Qf, A⟩ := X
  obtain ⟨rfl, ⟨hRf, hRl, hRc, hRs⟩, hx, hb, hml, hown, hts, hEv, hI, hAk, hA⟩ := hC
  intro H locs ls r hr hP hS hl
  exact vk_getf (ref := "java/lang/String") hx hb (hEv.2.2.1.1 i hi).2.1 hS hown (hts _ sf_cod) (fun _ h9 => h9) hd (kk H locs ls r hr hP hS hl)
theorem ww_scmp (hC : ww_C X l0 Y ad G h cc nL RJ0) (hd : decode cc pc = .ok (.getstatic 38, 3)) (kk : ww_V X Y ad G nL σ (pc + 3) lv (.int 1 :: st) o) : ww_V X Y ad G nL σ pc lv st o := by
  obtain ⟨p, l, e, R, s, m, args, below, meth, c, cells, slots, Qf, A⟩ := X
  obtain ⟨rfl, ⟨hRf, hRl, hRc, hRs⟩, hx, hb, hml, hown, hts, hEv, hI, hAk, hA⟩ := hC
  intro H locs ls r hr hP hS hl
  exact va_gets (ref := "java/lang/String") hx hb hEv.2.2.2.1.1 hS hown (hts _ sf_cmp) (fun _ h9 => h9) hd (kk H locs ls r hr hP hS hl)
theorem ww_sfor (hC : ww_C X l0 Y ad G h cc nL RJ0) (hd : decode cc pc = .ok (.getstatic 1053, 3)) (kn : ww_V X Y ad G nL σ (pc + 3) lv (.null :: st) o) (kr : ∀ t : Nat, ww_V X Y ad G nL σ (pc + 3) lv (.ref t :: st) o) : ww_V X Y ad G nL σ pc lv st o := by
  obtain ⟨p, l, e, R, s, m, args, below, meth, c, cells, slots, Qf, A⟩ := X
  obtain ⟨rfl, ⟨hRf, hRl, hRc, hRs⟩, hx, hb, hml, hown, hts, hEv, hI, hAk, hA⟩ := hC
  intro H locs ls r hr hP hS hl
  rcases hEv.2.2.2.1.2 with hz | ⟨t, hz⟩
  · exact va_gets (ref := "jdk/internal/util/Preconditions") hx hb hz hS hown (hts _ sf_for) (fun _ h9 => h9) hd (kn H locs ls r hr hP hS hl)
  · exact va_gets (ref := "jdk/internal/util/Preconditions") hx hb hz hS hown (hts _ sf_for) (fun _ h9 => h9) hd (kr t H locs ls r hr hP hS hl)
theorem ww_stlen (hC : ww_C X l0 Y ad G h cc nL own) {i : Nat} (hi : i < 6) (hd : decode cc pc = .ok (.arraylength, 1)) (kk : ww_V X Y ad G nL σ (pc + 1) lv (.int (nI (ww_sl.getD i 0)) :: st) o) : ww_V X Y ad G nL σ pc lv (.ref (Y.2.2.1 i) :: st) o := by
  obtain ⟨p, l, e, R, s, m, args, below, meth, c, cells, slots, Qf, A⟩ := X
  obtain ⟨rfl, ⟨hRf, hRl, hRc, hRs⟩, hx, hb, hml, hown, hts, hEv, hI, hAk, hA⟩ := hC
  intro H locs ls r hr hP hS hl
  exact va_tlen hx hb (hEv.2.2.1.1 i hi).2.2.2 hS rfl hd (kk H locs ls r hr hP hS hl)
theorem ww_stb (hC : ww_C X l0 Y ad G h cc nL own) {i : Nat} {k : Int32} (hi : i < 6) (hk : vp_in k (ww_sl.getD i 0)) (hd : decode cc pc = .ok (.baload, 1)) (kk : ww_V X Y ad G nL σ (pc + 1) lv (.int ((ww_sb.getD i []).getD (ww_ix k) 0) :: st) o) : ww_V X Y ad G nL σ pc lv (.int k :: .ref (Y.2.2.1 i) :: st) o := by
  obtain ⟨p, l, e, R, s, m, args, below, meth, c, cells, slots, Qf, A⟩ := X
  obtain ⟨rfl, ⟨hRf, hRl, hRc, hRs⟩, hx, hb, hml, hown, hts, hEv, hI, hAk, hA⟩ := hC
  intro H locs ls r hr hP hS hl
  exact va_tb hx hb (hEv.2.2.1.1 i hi).2.2.2 hS hk rfl hd (kk H locs ls r hr hP hS hl)
theorem ww_i2c (hC : ww_C X l0 Y ad G h cc nL own) {x v : Int32} (hd : decode cc pc = .ok (.i2c, 1)) (hv : (x.toUInt32 % 65536).toInt32 = v) (kk : ww_V X Y ad G nL σ (pc + 1) lv (.int v :: st) o) : ww_V X Y ad G nL σ pc lv (.int x :: st) o := by
  obtain ⟨p, l, e, R, s, m, args, below, meth, c, cells, slots, Qf, A⟩ := X
  obtain ⟨rfl, ⟨hRf, hRl, hRc, hRs⟩, hx, hb, hml, hown, hts, hEv, hI, hAk, hA⟩ := hC
  intro H locs ls r hr hP hS hl
  exact lv_i2c hx hb hd hv (kk H locs ls r hr hP hS hl)
end WSPEC
set_option maxHeartbeats 4000000 in
set_option maxRecDepth 100000 in
theorem c_scoder {l : Launch} {Y : ww_Y} {ad : Nat → Nat} {G : List ww_L} {i : Nat} (hi : i < 6) (σ : ww_M) : ww_Cn l Y ad G yJ0_coder_7d493 cJ0_coder_7d493 1 (some .byte) 1 [.ref (Y.2.2.2 i)] σ (some (some (.int 0), σ)) := by
  refine ww_met (by decide +kernel) (Nat.le_of_ble_eq_true rfl) ?_
  intro X hC hR
  have hC : ww_C X l Y ad G 1 cJ0_coder_7d493 1 RJ0 := hC
  show ww_V X Y ad G 1 σ 0 [(0, .ref (Y.2.2.2 i))] [] (some (some (.int 0), σ))
  refine ww_scmp (pc := 0) hC dJ0_coder_7d493_0 ?_
  refine ww_if_eqR (pc := 3) (tgt := 13) hC dJ0_coder_7d493_3 (by decide) (fun q => absurd q (by decide)) (fun _ => ?_)
  refine ww_aload_n (pc := 6) hC 0 rfl dJ0_coder_7d493_6 rfl ?_
  refine ww_scod (pc := 7) hC hi dJ0_coder_7d493_7 ?_
  refine ww_goto (pc := 10) (tgt := 14) hC dJ0_coder_7d493_10 (by decide) ?_
  exact ww_zreturn (pc := 14) hC hR dJ0_coder_7d493_14 rfl rfl
set_option maxHeartbeats 4000000 in
set_option maxRecDepth 100000 in
theorem c_slat {l : Launch} {Y : ww_Y} {ad : Nat → Nat} {G : List ww_L} {i : Nat} (hi : i < 6) (σ : ww_M) : ww_Cn l Y ad G yJ0_isLatin1_aae02 cJ0_isLatin1_aae02 1 (some .boolean) 1 [.ref (Y.2.2.2 i)] σ (some (some (.int 1), σ)) := by
  refine ww_met (by decide +kernel) (Nat.le_of_ble_eq_true rfl) ?_
  intro X hC hR
  have hC : ww_C X l Y ad G 1 cJ0_isLatin1_aae02 1 RJ0 := hC
  show ww_V X Y ad G 1 σ 0 [(0, .ref (Y.2.2.2 i))] [] (some (some (.int 1), σ))
  refine ww_scmp (pc := 0) hC dJ0_isLatin1_aae02_0 ?_
  refine ww_if_eqR (pc := 3) (tgt := 17) hC dJ0_isLatin1_aae02_3 (by decide) (fun q => absurd q (by decide)) (fun _ => ?_)
  refine ww_aload_n (pc := 6) hC 0 rfl dJ0_isLatin1_aae02_6 rfl ?_
  refine ww_scod (pc := 7) hC hi dJ0_isLatin1_aae02_7 ?_
  refine ww_if_neR (pc := 10) (tgt := 17) hC dJ0_isLatin1_aae02_10 (by decide) (fun q => absurd rfl q) (fun _ => ?_)
  refine ww_iconst (pc := 13) (v := 1) hC dJ0_isLatin1_aae02_13 rfl ?_
  refine ww_goto (pc := 14) (tgt := 18) hC dJ0_isLatin1_aae02_14 (by decide) ?_
  exact ww_zreturn (pc := 18) hC hR dJ0_isLatin1_aae02_18 rfl rfl
set_option maxHeartbeats 4000000 in
set_option maxRecDepth 100000 in
theorem c_slen {l : Launch} {Y : ww_Y} {ad : Nat → Nat} {G : List ww_L} {i : Nat} (hi : i < 6) (σ : ww_M) : ww_Cn l Y ad G yJ0_length_8abf5 cJ0_length_8abf5 1 (some .int) 2 [.ref (Y.2.2.2 i)] σ (some (some (.int (ww_slen i)), σ)) := by
  refine ww_met (by decide +kernel) (Nat.le_of_ble_eq_true rfl) ?_
  intro X hC hR
  have hC : ww_C X l Y ad G 2 cJ0_length_8abf5 1 RJ0 := hC
  show ww_V X Y ad G 1 σ 0 [(0, .ref (Y.2.2.2 i))] [] (some (some (.int (ww_slen i)), σ))
  refine ww_aload_n (pc := 0) hC 0 rfl dJ0_length_8abf5_0 rfl ?_
  refine ww_sval (pc := 1) hC hi dJ0_length_8abf5_1 ?_
  refine ww_stlen (pc := 4) hC hi dJ0_length_8abf5_4 ?_
  refine ww_aload_n (pc := 5) hC 0 rfl dJ0_length_8abf5_5 rfl ?_
  refine ww_callVS (pc := 6) (st := [.int (nI (ww_sl.getD i 0))]) (As := []) hC hi (c_scoder hi σ) sm_cod rfl sk_cod (by omega) (by decide) (Nat.le_of_ble_eq_true rfl) rfl dJ0_length_8abf5_6 ?_
  show ww_V X Y ad G 1 σ 9 _ [.int 0, .int (nI (ww_sl.getD i 0))] _
  refine ww_ishr (pc := 9) hC dJ0_length_8abf5_9 ?_
  have e : ww_shr (nI (ww_sl.getD i 0)) 0 = ww_slen i := sb_shr0 _
  rw [e]
  exact ww_ireturn (pc := 10) hC hR dJ0_length_8abf5_10 rfl
set_option maxHeartbeats 4000000 in
set_option maxRecDepth 100000 in
theorem c_spreN {l : Launch} {Y : ww_Y} {ad : Nat → Nat} {G : List ww_L} {x y : Int32} (h1 : ¬ x < 0) (h2 : x < y) (σ : ww_M) : ww_Cn l Y ad G yJ3_checkIndex_8e157 cJ3_checkIndex_8e157 3 (some .int) 1 [.int x, .int y, .null] σ (some (some (.int x), σ)) := by
  refine ww_met (by decide +kernel) (Nat.le_of_ble_eq_true rfl) ?_
  intro X hC hR
  have hC : ww_C X l Y ad G 1 cJ3_checkIndex_8e157 3 RJ3 := hC
  show ww_V X Y ad G 3 σ 0 [(0, .int x), (1, .int y), (2, .null)] [] (some (some (.int x), σ))
  refine ww_iload_n (pc := 0) hC 0 rfl dJ3_checkIndex_8e157_0 rfl ?_
  refine ww_if_ltR (pc := 1) (tgt := 9) hC dJ3_checkIndex_8e157_1 (by decide) (fun q => absurd q h1) (fun _ => ?_)
  refine ww_iload_n (pc := 4) hC 0 rfl dJ3_checkIndex_8e157_4 rfl ?_
  refine ww_iload_n (pc := 5) hC 1 rfl dJ3_checkIndex_8e157_5 rfl ?_
  refine ww_icmp_ltR (pc := 6) (tgt := 16) hC dJ3_checkIndex_8e157_6 (by decide) (fun _ => ?_) (fun q => absurd h2 q)
  refine ww_iload_n (pc := 16) hC 0 rfl dJ3_checkIndex_8e157_16 rfl ?_
  exact ww_ireturn (pc := 17) hC hR dJ3_checkIndex_8e157_17 rfl
set_option maxHeartbeats 4000000 in
set_option maxRecDepth 100000 in
theorem c_spreR {l : Launch} {Y : ww_Y} {ad : Nat → Nat} {G : List ww_L} {t : Nat} {x y : Int32} (h1 : ¬ x < 0) (h2 : x < y) (σ : ww_M) : ww_Cn l Y ad G yJ3_checkIndex_8e157 cJ3_checkIndex_8e157 3 (some .int) 1 [.int x, .int y, .ref t] σ (some (some (.int x), σ)) := by
  refine ww_met (by decide +kernel) (Nat.le_of_ble_eq_true rfl) ?_
  intro X hC hR
  have hC : ww_C X l Y ad G 1 cJ3_checkIndex_8e157 3 RJ3 := hC
  show ww_V X Y ad G 3 σ 0 [(0, .int x), (1, .int y), (2, .ref t)] [] (some (some (.int x), σ))
  refine ww_iload_n (pc := 0) hC 0 rfl dJ3_checkIndex_8e157_0 rfl ?_
  refine ww_if_ltR (pc := 1) (tgt := 9) hC dJ3_checkIndex_8e157_1 (by decide) (fun q => absurd q h1) (fun _ => ?_)
  refine ww_iload_n (pc := 4) hC 0 rfl dJ3_checkIndex_8e157_4 rfl ?_
  refine ww_iload_n (pc := 5) hC 1 rfl dJ3_checkIndex_8e157_5 rfl ?_
  refine ww_icmp_ltR (pc := 6) (tgt := 16) hC dJ3_checkIndex_8e157_6 (by decide) (fun _ => ?_) (fun q => absurd h2 q)
  refine ww_iload_n (pc := 16) hC 0 rfl dJ3_checkIndex_8e157_16 rfl ?_
  exact ww_ireturn (pc := 17) hC hR dJ3_checkIndex_8e157_17 rfl
set_option maxHeartbeats 4000000 in
set_option maxRecDepth 100000 in
theorem c_schk {l : Launch} {Y : ww_Y} {ad : Nat → Nat} {G : List ww_L} {x y : Int32} (h1 : ¬ x < 0) (h2 : x < y) (σ : ww_M) : ww_Cn l Y ad G yJ0_checkIndex_df160 cJ0_checkIndex_df160 2 none 2 [.int x, .int y] σ (some (none, σ)) := by
  refine ww_met (by decide +kernel) (Nat.le_of_ble_eq_true rfl) ?_
  intro X hC hR
  have hC : ww_C X l Y ad G 2 cJ0_checkIndex_df160 2 RJ0 := hC
  show ww_V X Y ad G 2 σ 0 [(0, .int x), (1, .int y)] [] (some (none, σ))
  refine ww_iload_n (pc := 0) hC 0 rfl dJ0_checkIndex_df160_0 rfl ?_
  refine ww_iload_n (pc := 1) hC 1 rfl dJ0_checkIndex_df160_1 rfl ?_
  refine ww_sfor (pc := 2) hC dJ0_checkIndex_df160_2 ?_ (fun t => ?_)
  · refine ww_callS0 (pc := 5) (st := []) (As := [.int x, .int y, .null]) hC (c_spreN h1 h2 σ) sm_pre sk_pre (by omega) (by decide) (Nat.le_of_ble_eq_true rfl) rfl dJ0_checkIndex_df160_5 ?_
    show ww_V X Y ad G 2 σ 8 _ [.int x] _
    refine ww_pop (pc := 8) hC dJ0_checkIndex_df160_8 rfl ?_
    exact ww_return (pc := 9) hC hR dJ0_checkIndex_df160_9 rfl
  · refine ww_callS0 (pc := 5) (st := []) (As := [.int x, .int y, .ref t]) hC (c_spreR h1 h2 σ) sm_pre sk_pre (by omega) (by decide) (Nat.le_of_ble_eq_true rfl) rfl dJ0_checkIndex_df160_5 ?_
    show ww_V X Y ad G 2 σ 8 _ [.int x] _
    refine ww_pop (pc := 8) hC dJ0_checkIndex_df160_8 rfl ?_
    exact ww_return (pc := 9) hC hR dJ0_checkIndex_df160_9 rfl
set_option maxHeartbeats 4000000 in
set_option maxRecDepth 100000 in
theorem c_sl1c {l : Launch} {Y : ww_Y} {ad : Nat → Nat} {G : List ww_L} {i : Nat} {k : Int32} (hi : i < 6) (hk : vp_in k (ww_sl.getD i 0)) (h1 : ¬ k < 0) (h2 : k < nI (ww_sl.getD i 0)) (σ : ww_M) : ww_Cn l Y ad G yJ1_charAt_3b067 cJ1_charAt_3b067 2 (some .char) 3 [.ref (Y.2.2.1 i), .int k] σ (some (some (.int (ww_schr i (ww_ix k))), σ)) := by
  refine ww_met (by decide +kernel) (Nat.le_of_ble_eq_true rfl) ?_
  intro X hC hR
  have hC : ww_C X l Y ad G 3 cJ1_charAt_3b067 2 RJ1 := hC
  show ww_V X Y ad G 2 σ 0 [(0, .ref (Y.2.2.1 i)), (1, .int k)] [] (some (some (.int (ww_schr i (ww_ix k))), σ))
  refine ww_iload_n (pc := 0) hC 1 rfl dJ1_charAt_3b067_0 rfl ?_
  refine ww_aload_n (pc := 1) hC 0 rfl dJ1_charAt_3b067_1 rfl ?_
  refine ww_stlen (pc := 2) hC hi dJ1_charAt_3b067_2 ?_
  refine ww_callS0 (pc := 3) (st := []) (As := [.int k, .int (nI (ww_sl.getD i 0))]) hC (c_schk h1 h2 σ) sm_chk sk_chk (by omega) (by decide) (Nat.le_of_ble_eq_true rfl) rfl dJ1_charAt_3b067_3 ?_
  show ww_V X Y ad G 2 σ 6 _ [] _
  refine ww_aload_n (pc := 6) hC 0 rfl dJ1_charAt_3b067_6 rfl ?_
  refine ww_iload_n (pc := 7) hC 1 rfl dJ1_charAt_3b067_7 rfl ?_
  refine ww_stb (pc := 8) hC hi hk dJ1_charAt_3b067_8 ?_
  refine ww_sipush (pc := 9) (v := 255) hC dJ1_charAt_3b067_9 rfl ?_
  refine ww_iand (pc := 12) hC dJ1_charAt_3b067_12 ?_
  refine ww_i2c (pc := 13) (v := ww_schr i (ww_ix k)) hC dJ1_charAt_3b067_13 (sc_c2 _) ?_
  exact ww_zreturn (pc := 14) hC hR dJ1_charAt_3b067_14 (sc_nar _) rfl
set_option maxHeartbeats 4000000 in
set_option maxRecDepth 100000 in
theorem c_schr {l : Launch} {Y : ww_Y} {ad : Nat → Nat} {G : List ww_L} {i : Nat} {k : Int32} (hi : i < 6) (hk : vp_in k (ww_sl.getD i 0)) (h1 : ¬ k < 0) (h2 : k < nI (ww_sl.getD i 0)) (σ : ww_M) : ww_Cn l Y ad G yJ0_charAt_5068e cJ0_charAt_5068e 2 (some .char) 4 [.ref (Y.2.2.2 i), .int k] σ (some (some (.int (ww_schr i (ww_ix k))), σ)) := by
  refine ww_met (by decide +kernel) (Nat.le_of_ble_eq_true rfl) ?_
  intro X hC hR
  have hC : ww_C X l Y ad G 4 cJ0_charAt_5068e 2 RJ0 := hC
  show ww_V X Y ad G 2 σ 0 [(0, .ref (Y.2.2.2 i)), (1, .int k)] [] (some (some (.int (ww_schr i (ww_ix k))), σ))
  refine ww_aload_n (pc := 0) hC 0 rfl dJ0_charAt_5068e_0 rfl ?_
  refine ww_callVS (pc := 1) (st := []) (As := []) hC hi (c_slat hi σ) sm_lat rfl sk_lat (by omega) (by decide) (Nat.le_of_ble_eq_true rfl) rfl dJ0_charAt_5068e_1 ?_
  show ww_V X Y ad G 2 σ 4 _ [.int 1] _
  refine ww_if_eqR (pc := 4) (tgt := 16) hC dJ0_charAt_5068e_4 (by decide) (fun q => absurd q (by decide)) (fun _ => ?_)
  refine ww_aload_n (pc := 7) hC 0 rfl dJ0_charAt_5068e_7 rfl ?_
  refine ww_sval (pc := 8) hC hi dJ0_charAt_5068e_8 ?_
  refine ww_iload_n (pc := 11) hC 1 rfl dJ0_charAt_5068e_11 rfl ?_
  refine ww_callS0 (pc := 12) (st := []) (As := [.ref (Y.2.2.1 i), .int k]) hC (c_sl1c hi hk h1 h2 σ) sm_l1c sk_l1c (by omega) (by decide) (Nat.le_of_ble_eq_true rfl) rfl dJ0_charAt_5068e_12 ?_
  show ww_V X Y ad G 2 σ 15 _ [.int (ww_schr i (ww_ix k))] _
  exact ww_zreturn (pc := 15) hC hR dJ0_charAt_5068e_15 (sc_nar _) rfl
theorem ww_fill_0 (σ : ww_M) (k : Nat) (x : Int32) : ww_fill σ k 0 x = σ := by
  funext a b
  by_cases h : a = k
  · subst h; simp [ww_fill, ww_upr]
  · simp [ww_fill, ww_upr, h]
theorem ww_fill_s (σ : ww_M) (k n : Nat) (x : Int32) : ww_up (ww_fill σ k n x) k n x = ww_fill σ k (n + 1) x := by
  funext a b
  by_cases h : a = k
  · subst h
    by_cases h2 : b = n
    · subst h2; simp [ww_up, ww_fill, ww_upr]
    · simp only [ww_up, ww_fill, ww_upr, if_true, if_neg h2]
      by_cases h3 : b < n
      · rw [if_pos h3, if_pos (by omega)]
      · rw [if_neg h3, if_neg (by omega)]
  · simp [ww_up, ww_fill, ww_upr, h]
theorem ww_in_nI {j n : Nat} (h : j < n) (hn : n < 2147483648) : ww_in (nI j) n = true ∧ ww_ix (nI j) = j := by
  refine ⟨decide_eq_true (vp_in_nI h hn), nI_clamp (by omega)⟩
set_option maxHeartbeats 4000000 in
set_option maxRecDepth 100000 in
theorem c_fill {l : Launch} {Y : ww_Y} {ad : Nat → Nat} {G : List ww_L} {k n : Nat} {x : Int32} (hG : G[k]? = some (.inr (.inl (0, n)))) (hn : n < 2147483648) (σ : ww_M) : ww_Cn l Y ad G yJ7_fill_53178 cJ7_fill_53178 4 none 1 [.ref (ad k), .int x] σ (some (none, ww_fill σ k n x)) := by
  refine ww_met (by decide +kernel) (Nat.le_of_ble_eq_true rfl) ?_
  intro X hC hR
  have hC : ww_C X l Y ad G 1 cJ7_fill_53178 4 RJ7 := hC
  show ww_V X Y ad G 4 σ 0 [(0, .ref (ad k)), (1, .int x)] [] (some (none, ww_fill σ k n x))
  have key : ∀ j, j ≤ n → ww_V X Y ad G 4 (ww_fill σ k (n - j) x) 5 [(0, .ref (ad k)), (1, .int x), (2, .int (nI (n - j))), (3, .int (nI n))] [] (some (none, ww_fill σ k n x)) := by
    intro j
    induction j with
    | zero =>
      intro _
      refine ww_iload_n (pc := 5) hC 2 rfl dJ7_fill_53178_5 rfl ?_
      refine ww_iload_n (pc := 6) hC 3 rfl dJ7_fill_53178_6 rfl ?_
      refine ww_icmp_geR (pc := 7) (tgt := 20) hC dJ7_fill_53178_7 (by decide) (fun _ => ?_) (fun q => absurd (nI_le (Nat.le_refl _) hn) q)
      exact ww_return (pc := 20) hC hR dJ7_fill_53178_20 rfl
    | succ j ih =>
      intro hj
      refine ww_iload_n (pc := 5) hC 2 rfl dJ7_fill_53178_5 rfl ?_
      refine ww_iload_n (pc := 6) hC 3 rfl dJ7_fill_53178_6 rfl ?_
      refine ww_icmp_geR (pc := 7) (tgt := 20) hC dJ7_fill_53178_7 (by decide) (fun q => absurd q (nI_ge (by omega) hn)) (fun _ => ?_)
      refine ww_aload_n (pc := 10) hC 0 rfl dJ7_fill_53178_10 rfl ?_
      refine ww_iload_n (pc := 11) hC 2 rfl dJ7_fill_53178_11 rfl ?_
      refine ww_iload_n (pc := 12) hC 1 rfl dJ7_fill_53178_12 rfl ?_
      have hz := ww_in_nI (j := n - (j + 1)) (n := n) (by omega) hn
      refine ww_iast_c (pc := 13) hC hG hz.1 hz.2 dJ7_fill_53178_13 ?_
      refine ww_iinc (pc := 14) (v := nI (n - j)) (lv' := [(2, .int (nI (n - j))), (0, .ref (ad k)), (1, .int x), (3, .int (nI n))]) hC 2 rfl dJ7_fill_53178_14 (by rw [show n - j = (n - (j + 1)) + 1 by omega]; exact nI_1 _) (by decide) rfl ?_
      refine ww_goto (pc := 17) (tgt := 5) hC dJ7_fill_53178_17 (by decide) ?_
      refine ww_lv [1, 2, 0, 3] rfl ?_
      rw [ww_fill_s, show (n - (j + 1)) + 1 = n - j by omega]
      exact ih (by omega)
  refine ww_iconst (pc := 0) (v := 0) hC dJ7_fill_53178_0 rfl ?_
  refine ww_istore_n (pc := 1) (lv' := [(2, .int 0), (0, .ref (ad k)), (1, .int x)]) hC dJ7_fill_53178_1 rfl (by decide) rfl ?_
  refine ww_aload_n (pc := 2) hC 1 rfl dJ7_fill_53178_2 rfl ?_
  refine ww_alen (pc := 3) (v := nI n) hC hG (fun _ => rfl) rfl dJ7_fill_53178_3 ?_
  refine ww_istore_n (pc := 4) (lv' := [(3, .int (nI n)), (2, .int 0), (0, .ref (ad k)), (1, .int x)]) hC dJ7_fill_53178_4 rfl (by decide) rfl ?_
  refine ww_lv [2, 3, 1, 0] rfl ?_
  have k0 := key n (Nat.le_refl _)
  rw [Nat.sub_self, ww_fill_0] at k0
  exact k0
theorem ww_cpy_va (σ : ww_M) (a b n : Nat) : ww_upr σ b (va_cpy (σ a) (σ b) 0 0 n) = ww_cpy σ a b n := by
  funext x y
  by_cases h : x = b
  · subst h; simp [ww_upr, ww_cpy, va_cpy]
  · simp [ww_upr, ww_cpy, h]
section WCPY
variable {X : ww_X} {l0 : Launch} {Y : ww_Y} {ad : Nat → Nat} {G : List ww_L} {h nL pc : Nat} {cc : ByteArray} {own : String} {σ : ww_M} {lv : List (Nat × Value)} {st : List Value} {o : Option ww_R}
theorem ww_acopy (hC : ww_C X l0 Y ad G h cc nL RX2) {k q n : Nat} (hG : G[k]? = some (.inr (.inl (0, n)))) (hG2 : G[q]? = some (.inr (.inl (0, n)))) (hn : n < 2147483648) (hh : 1 ≤ h) (hs : (st.map fun v => v.category).sum ≤ 8) (hd : decode cc pc = .ok (.invokestatic 80, 3)) (kk : ww_V X Y ad G nL (ww_cpy σ k q n) (pc + 3) lv st o) : ww_V X Y ad G nL σ pc lv (.int (nI n) :: .int 0 :: .ref (ad q) :: .int 0 :: .ref (ad k) :: st) o := by
  obtain ⟨p, l, e, R, s, m, args, below, meth, c, cells, slots, Qf, A⟩ := X
  obtain ⟨rfl, ⟨hRf, hRl, hRc, hRs⟩, hx, hb, hml, hown, hts, hEv, hI, hAk, hA⟩ := hC
  intro H locs ls r hr hP hS hl
  have hc0 : (nI n).toNatClampNeg = n := nI_clamp hn
  have hnw : nativeFrameWords "java/lang/System" "arraycopy" 5 + 11 ≤ 32 := by decide
  refine va_copyi hx hb (by rw [hml]; exact hl.1.symm) hown (hts _ sa_lk) (hts _ sa_na) (hts _ sa_st) (hts _ sa_in) hEv.1 hP (ww_D hI hAk) hS k q 0 0 (ww_W_get hG) (ww_W_get hG2) rfl rfl rfl (sp := 0) (dp := 0) (n := nI n) (by decide) (by decide) (nI_pos hn) (by rw [hc0]; show 0 + n ≤ n; omega) (by rw [hc0]; show 0 + n ≤ n; omega) (fun _ _ => rfl) (by omega) (by omega) hd (fun H1 locs1 hP1 _ hS1 => ?_)
  rw [hc0] at hP1
  rw [ww_W_row hG2, show (0 : Int32).toNatClampNeg = 0 from rfl, ww_cpy_va] at hP1
  exact kk H1 locs1 ls r hr hP1 hS1 hl
end WCPY
set_option maxHeartbeats 4000000 in
set_option maxRecDepth 100000 in
theorem c_copyAll {l : Launch} {Y : ww_Y} {ad : Nat → Nat} {G : List ww_L} {k q n : Nat} (hG : G[k]? = some (.inr (.inl (0, n)))) (hG2 : G[q]? = some (.inr (.inl (0, n)))) (hn : n < 2147483648) (σ : ww_M) : ww_Cn l Y ad G yX2_copyAll cX2_copyAll 2 none 1 [.ref (ad k), .ref (ad q)] σ (some (none, ww_cpy σ k q n)) := by
  refine ww_met (by decide +kernel) (Nat.le_of_ble_eq_true rfl) ?_
  intro X hC hR
  have hC : ww_C X l Y ad G 1 cX2_copyAll 2 RX2 := hC
  show ww_V X Y ad G 2 σ 0 [(0, .ref (ad k)), (1, .ref (ad q))] [] (some (none, ww_cpy σ k q n))
  refine ww_aload_n (pc := 0) hC 0 rfl dX2_copyAll_0 rfl ?_
  refine ww_iconst (pc := 1) (v := 0) hC dX2_copyAll_1 rfl ?_
  refine ww_aload_n (pc := 2) hC 1 rfl dX2_copyAll_2 rfl ?_
  refine ww_iconst (pc := 3) (v := 0) hC dX2_copyAll_3 rfl ?_
  refine ww_aload_n (pc := 4) hC 0 rfl dX2_copyAll_4 rfl ?_
  refine ww_alen (pc := 5) (v := nI n) hC hG (fun _ => rfl) rfl dX2_copyAll_5 ?_
  refine ww_aload_n (pc := 6) hC 1 rfl dX2_copyAll_6 rfl ?_
  refine ww_alen (pc := 7) (v := nI n) hC hG2 (fun _ => rfl) rfl dX2_copyAll_7 ?_
  refine ww_mmin (pc := 8) hC dX2_copyAll_8 sn_lk sn_st sn_in sn_co (by omega) (Nat.le_of_ble_eq_true rfl) ?_
  have e : ww_min (nI n) (nI n) = nI n := by simp [ww_min]
  rw [e]
  refine ww_acopy (pc := 11) hC hG hG2 hn (by omega) (Nat.le_of_ble_eq_true rfl) dX2_copyAll_11 ?_
  exact ww_return (pc := 14) hC hR dX2_copyAll_14 rfl
section WSPEC2
variable {X : ww_X} {l0 : Launch} {Y : ww_Y} {ad : Nat → Nat} {G : List ww_L} {h nL pc : Nat} {cc : ByteArray} {own : String} {σ : ww_M} {lv : List (Nat × Value)} {st : List Value} {o : Option ww_R} {α : Type} {K : α → Option ww_R}
theorem ww_fillR (hC : ww_C X l0 Y ad G h cc nL own) {k n index : Nat} {x : Int32} (hG : G[k]? = some (.inr (.inl (0, n)))) (hn : n < 2147483648) (hlk : Cond.methodLink own index yJ7_fill_53178 ∈ ww_T) (hh : 2 ≤ h) (hs8 : (st.map fun v => v.category).sum ≤ 8) (hd : decode cc pc = .ok (.invokestatic index, 3)) (kk : ww_V X Y ad G nL (ww_fill σ k n x) (pc + 3) lv st o) : ww_V X Y ad G nL σ pc lv (.int x :: .ref (ad k) :: st) o :=
  ww_callS0 (st := st) (As := [.ref (ad k), .int x]) hC (c_fill hG hn σ) sm_fill hlk hh (by decide) hs8 rfl hd kk
theorem ww_copyR (hC : ww_C X l0 Y ad G h cc nL own) {k q n index : Nat} (hG : G[k]? = some (.inr (.inl (0, n)))) (hG2 : G[q]? = some (.inr (.inl (0, n)))) (hn : n < 2147483648) (hlk : Cond.methodLink own index yX2_copyAll ∈ ww_T) (hh : 2 ≤ h) (hs8 : (st.map fun v => v.category).sum ≤ 8) (hd : decode cc pc = .ok (.invokestatic index, 3)) (kk : ww_V X Y ad G nL (ww_cpy σ k q n) (pc + 3) lv st o) : ww_V X Y ad G nL σ pc lv (.ref (ad q) :: .ref (ad k) :: st) o :=
  ww_callS0 (st := st) (As := [.ref (ad k), .ref (ad q)]) hC (c_copyAll hG hG2 hn σ) sm_cpy hlk hh (by decide) hs8 rfl hd kk
theorem ww_strlen (hC : ww_C X l0 Y ad G h cc nL own) {i index : Nat} (hi : i < 6) (hlk : Cond.methodLink own index yJ0_length_8abf5 ∈ ww_T) (hh : 3 ≤ h) (hs8 : (st.map fun v => v.category).sum ≤ 8) (hd : decode cc pc = .ok (.invokevirtual index, 3)) (kk : ww_V X Y ad G nL σ (pc + 3) lv (.int (ww_slen i) :: st) o) : ww_V X Y ad G nL σ pc lv (.ref (Y.2.2.2 i) :: st) o :=
  ww_callVS (st := st) (As := []) hC hi (c_slen hi σ) sm_len rfl hlk hh (by decide) hs8 rfl hd kk
theorem ww_strchr (hC : ww_C X l0 Y ad G h cc nL own) {E : Option α} {i index : Nat} {k : Int32} (hi : i < 6) (hlk : Cond.methodLink own index yJ0_charAt_5068e ∈ ww_T) (hh : 5 ≤ h) (hs8 : (st.map fun v => v.category).sum ≤ 8) (hd : decode cc pc = .ok (.invokevirtual index, 3)) (kk : ww_V X Y ad G nL σ (pc + 3) lv (.int (ww_schr i (ww_ix k)) :: st) (E.bind K)) : ww_V X Y ad G nL σ pc lv (.int k :: .ref (Y.2.2.2 i) :: st) ((ww_ck (ww_sin i k) E).bind K) := by
  cases hq : ww_sin i k with
  | false => exact ww_none rfl
  | true =>
    have hv : vp_in k (ww_sl.getD i 0) := ww_in_p hq
    have hl6 : ∀ j, j < 6 → ww_sl.getD j 0 < 2147483648 := by decide
    obtain ⟨j, hj, rfl⟩ := vp_in_of hv (hl6 i hi)
    exact ww_callVS (st := st) (As := [.int (nI j)]) hC hi (c_schr hi hv (nI_pos (by have := hl6 i hi; omega)) (nI_lt hj (hl6 i hi)) σ) sm_chr rfl hlk hh (by decide) hs8 rfl hd kk
end WSPEC2
