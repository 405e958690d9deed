section
-- ===== PART A: goes FIRST, ahead of the names: the tables' words, and 'selects' of the private methods out of them =====
/-- a private method of a class that the tables say can be made, by its rows of tables_1 -/
def lw_okq (q : MethodName × Nat) : Prop := (q.1.cls ≠ "java/lang/invoke/MethodHandle" ∧ q.1.cls ≠ "java/lang/invoke/VarHandle") ∧ Cond.instantiable q.1.cls q.2 ∈ tables_1 ∧ Cond.privateMethod q.1 ∈ tables_1 ∧ Cond.instanceMethod q.1 ∈ tables_1
theorem lw_p0 : lw_okq (⟨"WeighedWhales$Tape", "stepName", "()V"⟩, 6) := ⟨⟨by decide +kernel, by decide +kernel⟩, List.mem_of_getElem? (i := 26) (by decide +kernel), List.mem_of_getElem? (i := 304) (by decide +kernel), List.mem_of_getElem? (i := 305) (by decide +kernel)⟩
theorem lw_p1 : lw_okq (⟨"WeighedWhales$Tape", "stepNumber", "()V"⟩, 6) := ⟨⟨by decide +kernel, by decide +kernel⟩, List.mem_of_getElem? (i := 26) (by decide +kernel), List.mem_of_getElem? (i := 311) (by decide +kernel), List.mem_of_getElem? (i := 312) (by decide +kernel)⟩
theorem lw_p2 : lw_okq (⟨"WeighedWhales$Teller", "readLine", "(LWeighedWhales$Tape;LWeighedWhales$Shore;)Z"⟩, 3) := ⟨⟨by decide +kernel, by decide +kernel⟩, List.mem_of_getElem? (i := 58) (by decide +kernel), List.mem_of_getElem? (i := 315) (by decide +kernel), List.mem_of_getElem? (i := 316) (by decide +kernel)⟩
theorem lw_p3 : lw_okq (⟨"WeighedWhales$Teller", "failAtToken", "(LWeighedWhales$Tape;)Z"⟩, 3) := ⟨⟨by decide +kernel, by decide +kernel⟩, List.mem_of_getElem? (i := 58) (by decide +kernel), List.mem_of_getElem? (i := 380) (by decide +kernel), List.mem_of_getElem? (i := 381) (by decide +kernel)⟩
theorem lw_p4 : lw_okq (⟨"WeighedWhales$Teller", "fail", "(II)Z"⟩, 3) := ⟨⟨by decide +kernel, by decide +kernel⟩, List.mem_of_getElem? (i := 58) (by decide +kernel), List.mem_of_getElem? (i := 384) (by decide +kernel), List.mem_of_getElem? (i := 385) (by decide +kernel)⟩
theorem lw_p5 : lw_okq (⟨"WeighedWhales$Teller", "refusedName", "(ILWeighedWhales$Shore;)I"⟩, 3) := ⟨⟨by decide +kernel, by decide +kernel⟩, List.mem_of_getElem? (i := 58) (by decide +kernel), List.mem_of_getElem? (i := 388) (by decide +kernel), List.mem_of_getElem? (i := 389) (by decide +kernel)⟩
theorem lw_p6 : lw_okq (⟨"WeighedWhales$Teller", "checkBeasts", "(LWeighedWhales$Tape;LWeighedWhales$Shore;)V"⟩, 3) := ⟨⟨by decide +kernel, by decide +kernel⟩, List.mem_of_getElem? (i := 58) (by decide +kernel), List.mem_of_getElem? (i := 426) (by decide +kernel), List.mem_of_getElem? (i := 427) (by decide +kernel)⟩
theorem lw_p7 : lw_okq (⟨"WeighedWhales$Shore", "ownerOfMost", "(II)I"⟩, 17) := ⟨⟨by decide +kernel, by decide +kernel⟩, List.mem_of_getElem? (i := 76) (by decide +kernel), List.mem_of_getElem? (i := 536) (by decide +kernel), List.mem_of_getElem? (i := 537) (by decide +kernel)⟩
theorem lw_p8 : lw_okq (⟨"WeighedWhales$Shore", "isUnknown", "(I)Z"⟩, 17) := ⟨⟨by decide +kernel, by decide +kernel⟩, List.mem_of_getElem? (i := 76) (by decide +kernel), List.mem_of_getElem? (i := 572) (by decide +kernel), List.mem_of_getElem? (i := 573) (by decide +kernel)⟩
theorem lw_p9 : lw_okq (⟨"WeighedWhales$Shore", "isBarred", "(I)Z"⟩, 17) := ⟨⟨by decide +kernel, by decide +kernel⟩, List.mem_of_getElem? (i := 76) (by decide +kernel), List.mem_of_getElem? (i := 577) (by decide +kernel), List.mem_of_getElem? (i := 578) (by decide +kernel)⟩
theorem lw_p10 : lw_okq (⟨"WeighedWhales$Shore", "workAt", "(I)I"⟩, 17) := ⟨⟨by decide +kernel, by decide +kernel⟩, List.mem_of_getElem? (i := 76) (by decide +kernel), List.mem_of_getElem? (i := 586) (by decide +kernel), List.mem_of_getElem? (i := 587) (by decide +kernel)⟩
theorem lw_p11 : lw_okq (⟨"WeighedWhales$Planner", "load", "(LWeighedWhales$Shore;III)V"⟩, 9) := ⟨⟨by decide +kernel, by decide +kernel⟩, List.mem_of_getElem? (i := 180) (by decide +kernel), List.mem_of_getElem? (i := 615) (by decide +kernel), List.mem_of_getElem? (i := 616) (by decide +kernel)⟩
theorem lw_p12 : lw_okq (⟨"WeighedWhales$Planner", "loadParts", "(LWeighedWhales$Shore;I)V"⟩, 9) := ⟨⟨by decide +kernel, by decide +kernel⟩, List.mem_of_getElem? (i := 180) (by decide +kernel), List.mem_of_getElem? (i := 620) (by decide +kernel), List.mem_of_getElem? (i := 621) (by decide +kernel)⟩
theorem lw_p13 : lw_okq (⟨"WeighedWhales$Planner", "loadHour", "(LWeighedWhales$Shore;III)V"⟩, 9) := ⟨⟨by decide +kernel, by decide +kernel⟩, List.mem_of_getElem? (i := 180) (by decide +kernel), List.mem_of_getElem? (i := 628) (by decide +kernel), List.mem_of_getElem? (i := 629) (by decide +kernel)⟩
theorem lw_p14 : lw_okq (⟨"WeighedWhales$Planner", "mostFrom", "(II)I"⟩, 9) := ⟨⟨by decide +kernel, by decide +kernel⟩, List.mem_of_getElem? (i := 180) (by decide +kernel), List.mem_of_getElem? (i := 634) (by decide +kernel), List.mem_of_getElem? (i := 635) (by decide +kernel)⟩
theorem lw_p15 : lw_okq (⟨"WeighedWhales$Planner", "triedFrom", "(II)I"⟩, 9) := ⟨⟨by decide +kernel, by decide +kernel⟩, List.mem_of_getElem? (i := 180) (by decide +kernel), List.mem_of_getElem? (i := 638) (by decide +kernel), List.mem_of_getElem? (i := 639) (by decide +kernel)⟩
def lw_privs_1 : List (MethodName × Nat) := [(⟨"WeighedWhales$Tape", "stepName", "()V"⟩, 6), (⟨"WeighedWhales$Tape", "stepNumber", "()V"⟩, 6), (⟨"WeighedWhales$Teller", "readLine", "(LWeighedWhales$Tape;LWeighedWhales$Shore;)Z"⟩, 3), (⟨"WeighedWhales$Teller", "failAtToken", "(LWeighedWhales$Tape;)Z"⟩, 3), (⟨"WeighedWhales$Teller", "fail", "(II)Z"⟩, 3), (⟨"WeighedWhales$Teller", "refusedName", "(ILWeighedWhales$Shore;)I"⟩, 3), (⟨"WeighedWhales$Teller", "checkBeasts", "(LWeighedWhales$Tape;LWeighedWhales$Shore;)V"⟩, 3), (⟨"WeighedWhales$Shore", "ownerOfMost", "(II)I"⟩, 17), (⟨"WeighedWhales$Shore", "isUnknown", "(I)Z"⟩, 17), (⟨"WeighedWhales$Shore", "isBarred", "(I)Z"⟩, 17), (⟨"WeighedWhales$Shore", "workAt", "(I)I"⟩, 17), (⟨"WeighedWhales$Planner", "load", "(LWeighedWhales$Shore;III)V"⟩, 9), (⟨"WeighedWhales$Planner", "loadParts", "(LWeighedWhales$Shore;I)V"⟩, 9), (⟨"WeighedWhales$Planner", "loadHour", "(LWeighedWhales$Shore;III)V"⟩, 9), (⟨"WeighedWhales$Planner", "mostFrom", "(II)I"⟩, 9), (⟨"WeighedWhales$Planner", "triedFrom", "(II)I"⟩, 9)]
theorem lw_r1 : ∀ q ∈ lw_privs_1, lw_okq q := List.forall_mem_cons.mpr ⟨lw_p0, List.forall_mem_cons.mpr ⟨lw_p1, List.forall_mem_cons.mpr ⟨lw_p2, List.forall_mem_cons.mpr ⟨lw_p3, List.forall_mem_cons.mpr ⟨lw_p4, List.forall_mem_cons.mpr ⟨lw_p5, List.forall_mem_cons.mpr ⟨lw_p6, List.forall_mem_cons.mpr ⟨lw_p7, List.forall_mem_cons.mpr ⟨lw_p8, List.forall_mem_cons.mpr ⟨lw_p9, List.forall_mem_cons.mpr ⟨lw_p10, List.forall_mem_cons.mpr ⟨lw_p11, List.forall_mem_cons.mpr ⟨lw_p12, List.forall_mem_cons.mpr ⟨lw_p13, List.forall_mem_cons.mpr ⟨lw_p14, List.forall_mem_cons.mpr ⟨lw_p15, fun _ h => absurd h List.not_mem_nil⟩⟩⟩⟩⟩⟩⟩⟩⟩⟩⟩⟩⟩⟩⟩⟩
theorem lw_p16 : lw_okq (⟨"WeighedWhales$Planner", "usefulIn", "(II)I"⟩, 9) := ⟨⟨by decide +kernel, by decide +kernel⟩, List.mem_of_getElem? (i := 180) (by decide +kernel), List.mem_of_getElem? (i := 642) (by decide +kernel), List.mem_of_getElem? (i := 643) (by decide +kernel)⟩
theorem lw_p17 : lw_okq (⟨"WeighedWhales$Planner", "wonBy", "(IIII)I"⟩, 9) := ⟨⟨by decide +kernel, by decide +kernel⟩, List.mem_of_getElem? (i := 180) (by decide +kernel), List.mem_of_getElem? (i := 655) (by decide +kernel), List.mem_of_getElem? (i := 656) (by decide +kernel)⟩
theorem lw_p18 : lw_okq (⟨"WeighedWhales$Planner", "gainOf", "(III)I"⟩, 9) := ⟨⟨by decide +kernel, by decide +kernel⟩, List.mem_of_getElem? (i := 180) (by decide +kernel), List.mem_of_getElem? (i := 659) (by decide +kernel), List.mem_of_getElem? (i := 660) (by decide +kernel)⟩
theorem lw_p19 : lw_okq (⟨"WeighedWhales$Planner", "after", "(II)I"⟩, 9) := ⟨⟨by decide +kernel, by decide +kernel⟩, List.mem_of_getElem? (i := 180) (by decide +kernel), List.mem_of_getElem? (i := 663) (by decide +kernel), List.mem_of_getElem? (i := 664) (by decide +kernel)⟩
theorem lw_p20 : lw_okq (⟨"WeighedWhales$Planner", "firstBest", "(II)I"⟩, 9) := ⟨⟨by decide +kernel, by decide +kernel⟩, List.mem_of_getElem? (i := 180) (by decide +kernel), List.mem_of_getElem? (i := 672) (by decide +kernel), List.mem_of_getElem? (i := 673) (by decide +kernel)⟩
theorem lw_p21 : lw_okq (⟨"WeighedWhales$Planner", "canChoose", "(III)Z"⟩, 9) := ⟨⟨by decide +kernel, by decide +kernel⟩, List.mem_of_getElem? (i := 180) (by decide +kernel), List.mem_of_getElem? (i := 676) (by decide +kernel), List.mem_of_getElem? (i := 677) (by decide +kernel)⟩
theorem lw_p22 : lw_okq (⟨"WeighedWhales$Planner", "partAt", "(I)I"⟩, 9) := ⟨⟨by decide +kernel, by decide +kernel⟩, List.mem_of_getElem? (i := 180) (by decide +kernel), List.mem_of_getElem? (i := 680) (by decide +kernel), List.mem_of_getElem? (i := 681) (by decide +kernel)⟩
theorem lw_p23 : lw_okq (⟨"WeighedWhalesModel", "step", "()V"⟩, 36) := ⟨⟨by decide +kernel, by decide +kernel⟩, List.mem_of_getElem? (i := 813) (by decide +kernel), List.mem_of_getElem? (i := 945) (by decide +kernel), List.mem_of_getElem? (i := 946) (by decide +kernel)⟩
theorem lw_p24 : lw_okq (⟨"WeighedWhalesModel", "byteAt", "(I)I"⟩, 36) := ⟨⟨by decide +kernel, by decide +kernel⟩, List.mem_of_getElem? (i := 813) (by decide +kernel), List.mem_of_getElem? (i := 949) (by decide +kernel), List.mem_of_getElem? (i := 950) (by decide +kernel)⟩
theorem lw_p25 : lw_okq (⟨"WeighedWhalesModel", "fails", "(I)V"⟩, 36) := ⟨⟨by decide +kernel, by decide +kernel⟩, List.mem_of_getElem? (i := 813) (by decide +kernel), List.mem_of_getElem? (i := 957) (by decide +kernel), List.mem_of_getElem? (i := 958) (by decide +kernel)⟩
theorem lw_p26 : lw_okq (⟨"WeighedWhalesModel", "readLine", "()V"⟩, 36) := ⟨⟨by decide +kernel, by decide +kernel⟩, List.mem_of_getElem? (i := 813) (by decide +kernel), List.mem_of_getElem? (i := 961) (by decide +kernel), List.mem_of_getElem? (i := 962) (by decide +kernel)⟩
theorem lw_p27 : lw_okq (⟨"WeighedWhalesModel", "nameHere", "()I"⟩, 36) := ⟨⟨by decide +kernel, by decide +kernel⟩, List.mem_of_getElem? (i := 813) (by decide +kernel), List.mem_of_getElem? (i := 965) (by decide +kernel), List.mem_of_getElem? (i := 966) (by decide +kernel)⟩
theorem lw_p28 : lw_okq (⟨"WeighedWhalesModel", "number", "(II)I"⟩, 36) := ⟨⟨by decide +kernel, by decide +kernel⟩, List.mem_of_getElem? (i := 813) (by decide +kernel), List.mem_of_getElem? (i := 972) (by decide +kernel), List.mem_of_getElem? (i := 973) (by decide +kernel)⟩
theorem lw_p29 : lw_okq (⟨"WeighedWhalesModel", "readTide", "()V"⟩, 36) := ⟨⟨by decide +kernel, by decide +kernel⟩, List.mem_of_getElem? (i := 813) (by decide +kernel), List.mem_of_getElem? (i := 976) (by decide +kernel), List.mem_of_getElem? (i := 977) (by decide +kernel)⟩
theorem lw_p30 : lw_okq (⟨"WeighedWhalesModel", "readWhale", "()V"⟩, 36) := ⟨⟨by decide +kernel, by decide +kernel⟩, List.mem_of_getElem? (i := 813) (by decide +kernel), List.mem_of_getElem? (i := 980) (by decide +kernel), List.mem_of_getElem? (i := 981) (by decide +kernel)⟩
theorem lw_p31 : lw_okq (⟨"WeighedWhalesModel", "readOnce", "(I)V"⟩, 36) := ⟨⟨by decide +kernel, by decide +kernel⟩, List.mem_of_getElem? (i := 813) (by decide +kernel), List.mem_of_getElem? (i := 984) (by decide +kernel), List.mem_of_getElem? (i := 985) (by decide +kernel)⟩
def lw_privs_2 : List (MethodName × Nat) := [(⟨"WeighedWhales$Planner", "usefulIn", "(II)I"⟩, 9), (⟨"WeighedWhales$Planner", "wonBy", "(IIII)I"⟩, 9), (⟨"WeighedWhales$Planner", "gainOf", "(III)I"⟩, 9), (⟨"WeighedWhales$Planner", "after", "(II)I"⟩, 9), (⟨"WeighedWhales$Planner", "firstBest", "(II)I"⟩, 9), (⟨"WeighedWhales$Planner", "canChoose", "(III)Z"⟩, 9), (⟨"WeighedWhales$Planner", "partAt", "(I)I"⟩, 9), (⟨"WeighedWhalesModel", "step", "()V"⟩, 36), (⟨"WeighedWhalesModel", "byteAt", "(I)I"⟩, 36), (⟨"WeighedWhalesModel", "fails", "(I)V"⟩, 36), (⟨"WeighedWhalesModel", "readLine", "()V"⟩, 36), (⟨"WeighedWhalesModel", "nameHere", "()I"⟩, 36), (⟨"WeighedWhalesModel", "number", "(II)I"⟩, 36), (⟨"WeighedWhalesModel", "readTide", "()V"⟩, 36), (⟨"WeighedWhalesModel", "readWhale", "()V"⟩, 36), (⟨"WeighedWhalesModel", "readOnce", "(I)V"⟩, 36)]
theorem lw_r2 : ∀ q ∈ lw_privs_2, lw_okq q := List.forall_mem_cons.mpr ⟨lw_p16, List.forall_mem_cons.mpr ⟨lw_p17, List.forall_mem_cons.mpr ⟨lw_p18, List.forall_mem_cons.mpr ⟨lw_p19, List.forall_mem_cons.mpr ⟨lw_p20, List.forall_mem_cons.mpr ⟨lw_p21, List.forall_mem_cons.mpr ⟨lw_p22, List.forall_mem_cons.mpr ⟨lw_p23, List.forall_mem_cons.mpr ⟨lw_p24, List.forall_mem_cons.mpr ⟨lw_p25, List.forall_mem_cons.mpr ⟨lw_p26, List.forall_mem_cons.mpr ⟨lw_p27, List.forall_mem_cons.mpr ⟨lw_p28, List.forall_mem_cons.mpr ⟨lw_p29, List.forall_mem_cons.mpr ⟨lw_p30, List.forall_mem_cons.mpr ⟨lw_p31, fun _ h => absurd h List.not_mem_nil⟩⟩⟩⟩⟩⟩⟩⟩⟩⟩⟩⟩⟩⟩⟩⟩
theorem lw_p32 : lw_okq (⟨"WeighedWhalesModel", "looksWhere", "()V"⟩, 36) := ⟨⟨by decide +kernel, by decide +kernel⟩, List.mem_of_getElem? (i := 813) (by decide +kernel), List.mem_of_getElem? (i := 988) (by decide +kernel), List.mem_of_getElem? (i := 989) (by decide +kernel)⟩
theorem lw_p33 : lw_okq (⟨"WeighedWhalesModel", "floatsNow", "()V"⟩, 36) := ⟨⟨by decide +kernel, by decide +kernel⟩, List.mem_of_getElem? (i := 813) (by decide +kernel), List.mem_of_getElem? (i := 992) (by decide +kernel), List.mem_of_getElem? (i := 993) (by decide +kernel)⟩
theorem lw_p34 : lw_okq (⟨"WeighedWhalesModel", "floatsIn", "(III)Z"⟩, 36) := ⟨⟨by decide +kernel, by decide +kernel⟩, List.mem_of_getElem? (i := 813) (by decide +kernel), List.mem_of_getElem? (i := 996) (by decide +kernel), List.mem_of_getElem? (i := 997) (by decide +kernel)⟩
theorem lw_p35 : lw_okq (⟨"WeighedWhalesModel", "isWet", "(II)Z"⟩, 36) := ⟨⟨by decide +kernel, by decide +kernel⟩, List.mem_of_getElem? (i := 813) (by decide +kernel), List.mem_of_getElem? (i := 1000) (by decide +kernel), List.mem_of_getElem? (i := 1001) (by decide +kernel)⟩
theorem lw_p36 : lw_okq (⟨"WeighedWhalesModel", "rotNow", "()I"⟩, 36) := ⟨⟨by decide +kernel, by decide +kernel⟩, List.mem_of_getElem? (i := 813) (by decide +kernel), List.mem_of_getElem? (i := 1012) (by decide +kernel), List.mem_of_getElem? (i := 1013) (by decide +kernel)⟩
theorem lw_p37 : lw_okq (⟨"WeighedWhalesModel", "isPlace", "(I)Z"⟩, 36) := ⟨⟨by decide +kernel, by decide +kernel⟩, List.mem_of_getElem? (i := 813) (by decide +kernel), List.mem_of_getElem? (i := 1020) (by decide +kernel), List.mem_of_getElem? (i := 1021) (by decide +kernel)⟩
theorem lw_p38 : lw_okq (⟨"WeighedWhalesModel", "isBeast", "(I)Z"⟩, 36) := ⟨⟨by decide +kernel, by decide +kernel⟩, List.mem_of_getElem? (i := 813) (by decide +kernel), List.mem_of_getElem? (i := 1033) (by decide +kernel), List.mem_of_getElem? (i := 1034) (by decide +kernel)⟩
theorem lw_p39 : lw_okq (⟨"WeighedWhalesModel", "isPart", "(I)Z"⟩, 36) := ⟨⟨by decide +kernel, by decide +kernel⟩, List.mem_of_getElem? (i := 813) (by decide +kernel), List.mem_of_getElem? (i := 1041) (by decide +kernel), List.mem_of_getElem? (i := 1042) (by decide +kernel)⟩
theorem lw_p40 : lw_okq (⟨"WeighedWhalesModel", "worthIn", "(III)I"⟩, 36) := ⟨⟨by decide +kernel, by decide +kernel⟩, List.mem_of_getElem? (i := 813) (by decide +kernel), List.mem_of_getElem? (i := 1048) (by decide +kernel), List.mem_of_getElem? (i := 1049) (by decide +kernel)⟩
theorem lw_p41 : lw_okq (⟨"WeighedWhalesModel", "canBeWorked", "(I)Z"⟩, 36) := ⟨⟨by decide +kernel, by decide +kernel⟩, List.mem_of_getElem? (i := 813) (by decide +kernel), List.mem_of_getElem? (i := 1052) (by decide +kernel), List.mem_of_getElem? (i := 1053) (by decide +kernel)⟩
theorem lw_p42 : lw_okq (⟨"WeighedWhalesModel", "whoseBy", "(II)I"⟩, 36) := ⟨⟨by decide +kernel, by decide +kernel⟩, List.mem_of_getElem? (i := 813) (by decide +kernel), List.mem_of_getElem? (i := 1056) (by decide +kernel), List.mem_of_getElem? (i := 1057) (by decide +kernel)⟩
theorem lw_p43 : lw_okq (⟨"WeighedWhalesModel", "sets", "(ZII)I"⟩, 36) := ⟨⟨by decide +kernel, by decide +kernel⟩, List.mem_of_getElem? (i := 813) (by decide +kernel), List.mem_of_getElem? (i := 1065) (by decide +kernel), List.mem_of_getElem? (i := 1066) (by decide +kernel)⟩
theorem lw_p44 : lw_okq (⟨"WeighedWhalesModel", "goes", "(II)I"⟩, 36) := ⟨⟨by decide +kernel, by decide +kernel⟩, List.mem_of_getElem? (i := 813) (by decide +kernel), List.mem_of_getElem? (i := 1095) (by decide +kernel), List.mem_of_getElem? (i := 1096) (by decide +kernel)⟩
theorem lw_p45 : lw_okq (⟨"WeighedWhalesModel", "hourGoes", "(II)I"⟩, 36) := ⟨⟨by decide +kernel, by decide +kernel⟩, List.mem_of_getElem? (i := 813) (by decide +kernel), List.mem_of_getElem? (i := 1099) (by decide +kernel), List.mem_of_getElem? (i := 1100) (by decide +kernel)⟩
theorem lw_p46 : lw_okq (⟨"WeighedWhalesModel", "works", "(I)I"⟩, 36) := ⟨⟨by decide +kernel, by decide +kernel⟩, List.mem_of_getElem? (i := 813) (by decide +kernel), List.mem_of_getElem? (i := 1103) (by decide +kernel), List.mem_of_getElem? (i := 1104) (by decide +kernel)⟩
theorem lw_p47 : lw_okq (⟨"WeighedWhalesModel", "layBest", "(III)I"⟩, 36) := ⟨⟨by decide +kernel, by decide +kernel⟩, List.mem_of_getElem? (i := 813) (by decide +kernel), List.mem_of_getElem? (i := 1125) (by decide +kernel), List.mem_of_getElem? (i := 1126) (by decide +kernel)⟩
def lw_privs_3 : List (MethodName × Nat) := [(⟨"WeighedWhalesModel", "looksWhere", "()V"⟩, 36), (⟨"WeighedWhalesModel", "floatsNow", "()V"⟩, 36), (⟨"WeighedWhalesModel", "floatsIn", "(III)Z"⟩, 36), (⟨"WeighedWhalesModel", "isWet", "(II)Z"⟩, 36), (⟨"WeighedWhalesModel", "rotNow", "()I"⟩, 36), (⟨"WeighedWhalesModel", "isPlace", "(I)Z"⟩, 36), (⟨"WeighedWhalesModel", "isBeast", "(I)Z"⟩, 36), (⟨"WeighedWhalesModel", "isPart", "(I)Z"⟩, 36), (⟨"WeighedWhalesModel", "worthIn", "(III)I"⟩, 36), (⟨"WeighedWhalesModel", "canBeWorked", "(I)Z"⟩, 36), (⟨"WeighedWhalesModel", "whoseBy", "(II)I"⟩, 36), (⟨"WeighedWhalesModel", "sets", "(ZII)I"⟩, 36), (⟨"WeighedWhalesModel", "goes", "(II)I"⟩, 36), (⟨"WeighedWhalesModel", "hourGoes", "(II)I"⟩, 36), (⟨"WeighedWhalesModel", "works", "(I)I"⟩, 36), (⟨"WeighedWhalesModel", "layBest", "(III)I"⟩, 36)]
theorem lw_r3 : ∀ q ∈ lw_privs_3, lw_okq q := List.forall_mem_cons.mpr ⟨lw_p32, List.forall_mem_cons.mpr ⟨lw_p33, List.forall_mem_cons.mpr ⟨lw_p34, List.forall_mem_cons.mpr ⟨lw_p35, List.forall_mem_cons.mpr ⟨lw_p36, List.forall_mem_cons.mpr ⟨lw_p37, List.forall_mem_cons.mpr ⟨lw_p38, List.forall_mem_cons.mpr ⟨lw_p39, List.forall_mem_cons.mpr ⟨lw_p40, List.forall_mem_cons.mpr ⟨lw_p41, List.forall_mem_cons.mpr ⟨lw_p42, List.forall_mem_cons.mpr ⟨lw_p43, List.forall_mem_cons.mpr ⟨lw_p44, List.forall_mem_cons.mpr ⟨lw_p45, List.forall_mem_cons.mpr ⟨lw_p46, List.forall_mem_cons.mpr ⟨lw_p47, fun _ h => absurd h List.not_mem_nil⟩⟩⟩⟩⟩⟩⟩⟩⟩⟩⟩⟩⟩⟩⟩⟩
theorem lw_p48 : lw_okq (⟨"WeighedWhalesModel", "layParts", "(II)V"⟩, 36) := ⟨⟨by decide +kernel, by decide +kernel⟩, List.mem_of_getElem? (i := 813) (by decide +kernel), List.mem_of_getElem? (i := 1129) (by decide +kernel), List.mem_of_getElem? (i := 1130) (by decide +kernel)⟩
theorem lw_p49 : lw_okq (⟨"WeighedWhalesModel", "choice", "(I)I"⟩, 36) := ⟨⟨by decide +kernel, by decide +kernel⟩, List.mem_of_getElem? (i := 813) (by decide +kernel), List.mem_of_getElem? (i := 1133) (by decide +kernel), List.mem_of_getElem? (i := 1134) (by decide +kernel)⟩
theorem lw_p50 : lw_okq (⟨"WeighedWhalesModel", "byWork", "(IIII)I"⟩, 36) := ⟨⟨by decide +kernel, by decide +kernel⟩, List.mem_of_getElem? (i := 813) (by decide +kernel), List.mem_of_getElem? (i := 1137) (by decide +kernel), List.mem_of_getElem? (i := 1138) (by decide +kernel)⟩
theorem lw_p51 : lw_okq (⟨"WeighedWhalesModel", "leftNow", "()I"⟩, 36) := ⟨⟨by decide +kernel, by decide +kernel⟩, List.mem_of_getElem? (i := 813) (by decide +kernel), List.mem_of_getElem? (i := 1144) (by decide +kernel), List.mem_of_getElem? (i := 1145) (by decide +kernel)⟩
theorem lw_p52 : lw_okq (⟨"WeighedWhalesModel", "shareBy", "(II)I"⟩, 36) := ⟨⟨by decide +kernel, by decide +kernel⟩, List.mem_of_getElem? (i := 813) (by decide +kernel), List.mem_of_getElem? (i := 1160) (by decide +kernel), List.mem_of_getElem? (i := 1161) (by decide +kernel)⟩
theorem lw_p53 : lw_okq (⟨"WeighedWhalesModel", "explains", "(I)Z"⟩, 36) := ⟨⟨by decide +kernel, by decide +kernel⟩, List.mem_of_getElem? (i := 813) (by decide +kernel), List.mem_of_getElem? (i := 1177) (by decide +kernel), List.mem_of_getElem? (i := 1178) (by decide +kernel)⟩
theorem lw_p54 : lw_okq (⟨"WeighedWhalesModel", "copies", "(II)V"⟩, 36) := ⟨⟨by decide +kernel, by decide +kernel⟩, List.mem_of_getElem? (i := 813) (by decide +kernel), List.mem_of_getElem? (i := 1207) (by decide +kernel), List.mem_of_getElem? (i := 1208) (by decide +kernel)⟩
theorem lw_p55 : lw_okq (⟨"WeighedWhalesModel", "partBy", "(I)I"⟩, 36) := ⟨⟨by decide +kernel, by decide +kernel⟩, List.mem_of_getElem? (i := 813) (by decide +kernel), List.mem_of_getElem? (i := 1212) (by decide +kernel), List.mem_of_getElem? (i := 1213) (by decide +kernel)⟩
theorem lw_p56 : lw_okq (⟨"WeighedWhalesModel", "lostMany", "()I"⟩, 36) := ⟨⟨by decide +kernel, by decide +kernel⟩, List.mem_of_getElem? (i := 813) (by decide +kernel), List.mem_of_getElem? (i := 1216) (by decide +kernel), List.mem_of_getElem? (i := 1217) (by decide +kernel)⟩
theorem lw_p57 : lw_okq (⟨"WeighedWhalesModel", "cutMany", "()I"⟩, 36) := ⟨⟨by decide +kernel, by decide +kernel⟩, List.mem_of_getElem? (i := 813) (by decide +kernel), List.mem_of_getElem? (i := 1249) (by decide +kernel), List.mem_of_getElem? (i := 1250) (by decide +kernel)⟩
def lw_privs_4 : List (MethodName × Nat) := [(⟨"WeighedWhalesModel", "layParts", "(II)V"⟩, 36), (⟨"WeighedWhalesModel", "choice", "(I)I"⟩, 36), (⟨"WeighedWhalesModel", "byWork", "(IIII)I"⟩, 36), (⟨"WeighedWhalesModel", "leftNow", "()I"⟩, 36), (⟨"WeighedWhalesModel", "shareBy", "(II)I"⟩, 36), (⟨"WeighedWhalesModel", "explains", "(I)Z"⟩, 36), (⟨"WeighedWhalesModel", "copies", "(II)V"⟩, 36), (⟨"WeighedWhalesModel", "partBy", "(I)I"⟩, 36), (⟨"WeighedWhalesModel", "lostMany", "()I"⟩, 36), (⟨"WeighedWhalesModel", "cutMany", "()I"⟩, 36)]
theorem lw_r4 : ∀ q ∈ lw_privs_4, lw_okq q := List.forall_mem_cons.mpr ⟨lw_p48, List.forall_mem_cons.mpr ⟨lw_p49, List.forall_mem_cons.mpr ⟨lw_p50, List.forall_mem_cons.mpr ⟨lw_p51, List.forall_mem_cons.mpr ⟨lw_p52, List.forall_mem_cons.mpr ⟨lw_p53, List.forall_mem_cons.mpr ⟨lw_p54, List.forall_mem_cons.mpr ⟨lw_p55, List.forall_mem_cons.mpr ⟨lw_p56, List.forall_mem_cons.mpr ⟨lw_p57, fun _ h => absurd h List.not_mem_nil⟩⟩⟩⟩⟩⟩⟩⟩⟩⟩
def lw_privs : List (MethodName × Nat) := lw_privs_1 ++ (lw_privs_2 ++ (lw_privs_3 ++ (lw_privs_4)))
def lw_tbl : List Cond := k2_sels lw_privs ++ tables_1
theorem lw_privs_ok : ∀ q ∈ lw_privs, lw_okq q := by
  show ∀ q ∈ lw_privs_1 ++ (lw_privs_2 ++ (lw_privs_3 ++ (lw_privs_4))), lw_okq q
  exact List.forall_mem_append.mpr ⟨lw_r1, List.forall_mem_append.mpr ⟨lw_r2, List.forall_mem_append.mpr ⟨lw_r3, lw_r4⟩⟩⟩
end
section
def RX0 : String := "WeighedWhales$Planner"
def TX0 : u_T := fun k => match k with
  | 0 => ("WeighedWhales$Planner", "memo", "[I", true)
  | 1 => ("WeighedWhales$Planner", "slots", "[I", true)
  | 2 => ("WeighedWhales$Planner", "ableIn", "[I", true)
  | 3 => ("WeighedWhales$Planner", "gains", "[I", true)
  | 4 => ("WeighedWhales$Planner", "left", "I", false)
  | 5 => ("WeighedWhales$Planner", "hours", "I", false)
  | 6 => ("WeighedWhales$Planner", "gangsAtWork", "I", false)
  | 7 => ("WeighedWhales$Planner", "startCode", "I", false)
  | _ => ("WeighedWhales$Planner", "stamp", "I", false)
def tyX0 : Nat → FieldType := fun k => match k with
  | 0 => .array .int
  | 1 => .array .int
  | 2 => .array .int
  | 3 => .array .int
  | 4 => .int
  | 5 => .int
  | 6 => .int
  | 7 => .int
  | _ => .int
abbrev wsX00 : List Cond := u_ws RX0 TX0 9
theorem nmX0 : ∀ a, a < 9 → ∀ b, b < 9 → a ≠ b → (TX0 a).2.1 ≠ (TX0 b).2.1 := by decide +kernel
theorem tyX0_ok : ∀ k, k < 9 → parseFieldDescriptor (TX0 k).2.2.1 = some (tyX0 k) := by decide +kernel
abbrev cX0_init : ByteArray := prog_2_method_1_code
def yX0_init : MethodName := ⟨RX0, "<init>", "()V"⟩
abbrev cX0_mostBy : ByteArray := prog_2_method_2_code
def yX0_mostBy : MethodName := ⟨RX0, "mostBy", "(LWeighedWhales$Shore;III)I"⟩
abbrev cX0_load : ByteArray := prog_2_method_3_code
def yX0_load : MethodName := ⟨RX0, "load", "(LWeighedWhales$Shore;III)V"⟩
abbrev cX0_loadParts : ByteArray := prog_2_method_4_code
def yX0_loadParts : MethodName := ⟨RX0, "loadParts", "(LWeighedWhales$Shore;I)V"⟩
abbrev cX0_loadHour : ByteArray := prog_2_method_5_code
def yX0_loadHour : MethodName := ⟨RX0, "loadHour", "(LWeighedWhales$Shore;III)V"⟩
abbrev cX0_bestAt : ByteArray := prog_2_method_6_code
def yX0_bestAt : MethodName := ⟨RX0, "bestAt", "(I)I"⟩
abbrev cX0_partAt : ByteArray := prog_2_method_7_code
def yX0_partAt : MethodName := ⟨RX0, "partAt", "(I)I"⟩
abbrev cX0_firstBest : ByteArray := prog_2_method_8_code
def yX0_firstBest : MethodName := ⟨RX0, "firstBest", "(II)I"⟩
abbrev cX0_canChoose : ByteArray := prog_2_method_9_code
def yX0_canChoose : MethodName := ⟨RX0, "canChoose", "(III)Z"⟩
abbrev cX0_workIn : ByteArray := prog_2_method_10_code
def yX0_workIn : MethodName := ⟨RX0, "workIn", "(II)I"⟩
abbrev cX0_after : ByteArray := prog_2_method_11_code
def yX0_after : MethodName := ⟨RX0, "after", "(II)I"⟩
abbrev cX0_gainOf : ByteArray := prog_2_method_12_code
def yX0_gainOf : MethodName := ⟨RX0, "gainOf", "(III)I"⟩
abbrev cX0_wonBy : ByteArray := prog_2_method_13_code
def yX0_wonBy : MethodName := ⟨RX0, "wonBy", "(IIII)I"⟩
abbrev cX0_mostFrom : ByteArray := prog_2_method_14_code
def yX0_mostFrom : MethodName := ⟨RX0, "mostFrom", "(II)I"⟩
abbrev cX0_triedFrom : ByteArray := prog_2_method_15_code
def yX0_triedFrom : MethodName := ⟨RX0, "triedFrom", "(II)I"⟩
abbrev cX0_usefulIn : ByteArray := prog_2_method_16_code
def yX0_usefulIn : MethodName := ⟨RX0, "usefulIn", "(II)I"⟩
def RX1 : String := "WeighedWhales$Sheet"
def TX1 : u_T := fun k => match k with
  | 0 => ("WeighedWhales$Sheet", "cells", "[I", true)
  | 1 => ("WeighedWhales$Sheet", "laneOf", "I", false)
  | _ => ("WeighedWhales$Sheet", "size", "I", false)
def tyX1 : Nat → FieldType := fun k => match k with
  | 0 => .array .int
  | 1 => .int
  | _ => .int
abbrev wsX10 : List Cond := u_ws RX1 TX1 3
theorem nmX1 : ∀ a, a < 3 → ∀ b, b < 3 → a ≠ b → (TX1 a).2.1 ≠ (TX1 b).2.1 := by decide +kernel
theorem tyX1_ok : ∀ k, k < 3 → parseFieldDescriptor (TX1 k).2.2.1 = some (tyX1 k) := by decide +kernel
abbrev cX1_init : ByteArray := prog_3_method_1_code
def yX1_init : MethodName := ⟨RX1, "<init>", "()V"⟩
abbrev cX1_renew : ByteArray := prog_3_method_2_code
def yX1_renew : MethodName := ⟨RX1, "renew", "(II)V"⟩
abbrev cX1_faultAt : ByteArray := prog_3_method_3_code
def yX1_faultAt : MethodName := ⟨RX1, "faultAt", "(II)I"⟩
abbrev cX1_put : ByteArray := prog_3_method_4_code
def yX1_put : MethodName := ⟨RX1, "put", "(II)V"⟩
def RX2 : String := "WeighedWhales$Shore"
def TX2 : u_T := fun k => match k with
  | 0 => ("WeighedWhales$Shore", "ownerOf", "[I", true)
  | 1 => ("WeighedWhales$Shore", "markOf", "[I", true)
  | 2 => ("WeighedWhales$Shore", "levelOf", "[I", true)
  | 3 => ("WeighedWhales$Shore", "headOf", "[I", true)
  | 4 => ("WeighedWhales$Shore", "partsOf", "[I", true)
  | 5 => ("WeighedWhales$Shore", "worthOf", "[I", true)
  | 6 => ("WeighedWhales$Shore", "workOf", "[I", true)
  | 7 => ("WeighedWhales$Shore", "lumpOf", "[I", true)
  | 8 => ("WeighedWhales$Shore", "wonBy", "[I", true)
  | 9 => ("WeighedWhales$Shore", "places", "I", false)
  | 10 => ("WeighedWhales$Shore", "levels", "I", false)
  | 11 => ("WeighedWhales$Shore", "beasts", "I", false)
  | 12 => ("WeighedWhales$Shore", "lawNow", "I", false)
  | 13 => ("WeighedWhales$Shore", "rotNow", "I", false)
  | 14 => ("WeighedWhales$Shore", "gangsNow", "I", false)
  | 15 => ("WeighedWhales$Shore", "hour", "I", false)
  | _ => ("WeighedWhales$Shore", "lostBeasts", "I", false)
def tyX2 : Nat → FieldType := fun k => match k with
  | 0 => .array .int
  | 1 => .array .int
  | 2 => .array .int
  | 3 => .array .int
  | 4 => .array .int
  | 5 => .array .int
  | 6 => .array .int
  | 7 => .array .int
  | 8 => .array .int
  | 9 => .int
  | 10 => .int
  | 11 => .int
  | 12 => .int
  | 13 => .int
  | 14 => .int
  | 15 => .int
  | _ => .int
abbrev wsX20 : List Cond := u_ws RX2 TX2 17
theorem nmX2 : ∀ a, a < 17 → ∀ b, b < 17 → a ≠ b → (TX2 a).2.1 ≠ (TX2 b).2.1 := by decide +kernel
theorem tyX2_ok : ∀ k, k < 17 → parseFieldDescriptor (TX2 k).2.2.1 = some (tyX2 k) := by decide +kernel
abbrev cX2_init : ByteArray := prog_4_method_1_code
def yX2_init : MethodName := ⟨RX2, "<init>", "()V"⟩
abbrev cX2_clear : ByteArray := prog_4_method_2_code
def yX2_clear : MethodName := ⟨RX2, "clear", "()V"⟩
abbrev cX2_copyFrom : ByteArray := prog_4_method_3_code
def yX2_copyFrom : MethodName := ⟨RX2, "copyFrom", "(LWeighedWhales$Shore;)V"⟩
abbrev cX2_copyAll : ByteArray := prog_4_method_4_code
def yX2_copyAll : MethodName := ⟨RX2, "copyAll", "([I[I)V"⟩
abbrev cX2_putSand : ByteArray := prog_4_method_5_code
def yX2_putSand : MethodName := ⟨RX2, "putSand", "(II)V"⟩
abbrev cX2_putLevel : ByteArray := prog_4_method_6_code
def yX2_putLevel : MethodName := ⟨RX2, "putLevel", "(I)V"⟩
abbrev cX2_putWhale : ByteArray := prog_4_method_7_code
def yX2_putWhale : MethodName := ⟨RX2, "putWhale", "(II)V"⟩
abbrev cX2_hasPlace : ByteArray := prog_4_method_8_code
def yX2_hasPlace : MethodName := ⟨RX2, "hasPlace", "(I)Z"⟩
abbrev cX2_hasBeast : ByteArray := prog_4_method_9_code
def yX2_hasBeast : MethodName := ⟨RX2, "hasBeast", "(I)Z"⟩
abbrev cX2_slotOf : ByteArray := prog_4_method_10_code
def yX2_slotOf : MethodName := ⟨RX2, "slotOf", "(I)I"⟩
abbrev cX2_hasSlot : ByteArray := prog_4_method_11_code
def yX2_hasSlot : MethodName := ⟨RX2, "hasSlot", "(I)Z"⟩
abbrev cX2_placeOf : ByteArray := prog_4_method_12_code
def yX2_placeOf : MethodName := ⟨RX2, "placeOf", "(I)I"⟩
abbrev cX2_isLost : ByteArray := prog_4_method_13_code
def yX2_isLost : MethodName := ⟨RX2, "isLost", "(I)Z"⟩
abbrev cX2_bodyOf : ByteArray := prog_4_method_14_code
def yX2_bodyOf : MethodName := ⟨RX2, "bodyOf", "(I)I"⟩
abbrev cX2_takenPlaces : ByteArray := prog_4_method_15_code
def yX2_takenPlaces : MethodName := ⟨RX2, "takenPlaces", "()I"⟩
abbrev cX2_levelIn : ByteArray := prog_4_method_16_code
def yX2_levelIn : MethodName := ⟨RX2, "levelIn", "(I)I"⟩
abbrev cX2_wetPlaces : ByteArray := prog_4_method_17_code
def yX2_wetPlaces : MethodName := ⟨RX2, "wetPlaces", "(I)I"⟩
abbrev cX2_floatingBeasts : ByteArray := prog_4_method_18_code
def yX2_floatingBeasts : MethodName := ⟨RX2, "floatingBeasts", "(I)I"⟩
abbrev cX2_loseFloating : ByteArray := prog_4_method_19_code
def yX2_loseFloating : MethodName := ⟨RX2, "loseFloating", "()V"⟩
abbrev cX2_worthIn : ByteArray := prog_4_method_20_code
def yX2_worthIn : MethodName := ⟨RX2, "worthIn", "(III)I"⟩
abbrev cX2_canWork : ByteArray := prog_4_method_21_code
def yX2_canWork : MethodName := ⟨RX2, "canWork", "(I)Z"⟩
abbrev cX2_workableParts : ByteArray := prog_4_method_22_code
def yX2_workableParts : MethodName := ⟨RX2, "workableParts", "()I"⟩
abbrev cX2_workableSlot : ByteArray := prog_4_method_23_code
def yX2_workableSlot : MethodName := ⟨RX2, "workableSlot", "(I)I"⟩
abbrev cX2_isRicher : ByteArray := prog_4_method_24_code
def yX2_isRicher : MethodName := ⟨RX2, "isRicher", "(II)Z"⟩
abbrev cX2_cutParts : ByteArray := prog_4_method_25_code
def yX2_cutParts : MethodName := ⟨RX2, "cutParts", "()I"⟩
abbrev cX2_ownerBy : ByteArray := prog_4_method_26_code
def yX2_ownerBy : MethodName := ⟨RX2, "ownerBy", "(II)I"⟩
abbrev cX2_ownerOfMost : ByteArray := prog_4_method_27_code
def yX2_ownerOfMost : MethodName := ⟨RX2, "ownerOfMost", "(II)I"⟩
abbrev cX2_shareBy : ByteArray := prog_4_method_28_code
def yX2_shareBy : MethodName := ⟨RX2, "shareBy", "(II)I"⟩
abbrev cX2_refusal : ByteArray := prog_4_method_29_code
def yX2_refusal : MethodName := ⟨RX2, "refusal", "(II)I"⟩
abbrev cX2_isUnknown : ByteArray := prog_4_method_30_code
def yX2_isUnknown : MethodName := ⟨RX2, "isUnknown", "(I)Z"⟩
abbrev cX2_isBarred : ByteArray := prog_4_method_31_code
def yX2_isBarred : MethodName := ⟨RX2, "isBarred", "(I)Z"⟩
abbrev cX2_hourGoes : ByteArray := prog_4_method_32_code
def yX2_hourGoes : MethodName := ⟨RX2, "hourGoes", "(II)I"⟩
abbrev cX2_workAt : ByteArray := prog_4_method_33_code
def yX2_workAt : MethodName := ⟨RX2, "workAt", "(I)I"⟩
def RX3 : String := "WeighedWhales$Tales"
def TX3 : u_T := fun k => match k with
  | 0 => ("WeighedWhales$Tales", "owners", "[I", true)
  | 1 => ("WeighedWhales$Tales", "sums", "[I", true)
  | _ => ("WeighedWhales$Tales", "size", "I", false)
def tyX3 : Nat → FieldType := fun k => match k with
  | 0 => .array .int
  | 1 => .array .int
  | _ => .int
abbrev wsX30 : List Cond := u_ws RX3 TX3 3
theorem nmX3 : ∀ a, a < 3 → ∀ b, b < 3 → a ≠ b → (TX3 a).2.1 ≠ (TX3 b).2.1 := by decide +kernel
theorem tyX3_ok : ∀ k, k < 3 → parseFieldDescriptor (TX3 k).2.2.1 = some (tyX3 k) := by decide +kernel
abbrev cX3_init : ByteArray := prog_5_method_1_code
def yX3_init : MethodName := ⟨RX3, "<init>", "()V"⟩
abbrev cX3_add : ByteArray := prog_5_method_2_code
def yX3_add : MethodName := ⟨RX3, "add", "(II)Z"⟩
abbrev cX3_areExplained : ByteArray := prog_5_method_3_code
def yX3_areExplained : MethodName := ⟨RX3, "areExplained", "(LWeighedWhales$Shore;I)Z"⟩
def RX4 : String := "WeighedWhales$Tape"
def TX4 : u_T := fun k => match k with
  | 0 => ("WeighedWhales$Tape", "bytes", "[B", true)
  | 1 => ("WeighedWhales$Tape", "size", "I", false)
  | 2 => ("WeighedWhales$Tape", "next", "I", false)
  | 3 => ("WeighedWhales$Tape", "kind", "I", false)
  | 4 => ("WeighedWhales$Tape", "start", "I", false)
  | _ => ("WeighedWhales$Tape", "value", "I", false)
def tyX4 : Nat → FieldType := fun k => match k with
  | 0 => .array .byte
  | 1 => .int
  | 2 => .int
  | 3 => .int
  | 4 => .int
  | _ => .int
abbrev wsX40 : List Cond := u_ws RX4 TX4 6
theorem nmX4 : ∀ a, a < 6 → ∀ b, b < 6 → a ≠ b → (TX4 a).2.1 ≠ (TX4 b).2.1 := by decide +kernel
theorem tyX4_ok : ∀ k, k < 6 → parseFieldDescriptor (TX4 k).2.2.1 = some (tyX4 k) := by decide +kernel
abbrev cX4_init : ByteArray := prog_6_method_1_code
def yX4_init : MethodName := ⟨RX4, "<init>", "()V"⟩
abbrev cX4_add : ByteArray := prog_6_method_2_code
def yX4_add : MethodName := ⟨RX4, "add", "(I)Z"⟩
abbrev cX4_step : ByteArray := prog_6_method_3_code
def yX4_step : MethodName := ⟨RX4, "step", "()V"⟩
abbrev cX4_stepName : ByteArray := prog_6_method_4_code
def yX4_stepName : MethodName := ⟨RX4, "stepName", "()V"⟩
abbrev cX4_stepNumber : ByteArray := prog_6_method_5_code
def yX4_stepNumber : MethodName := ⟨RX4, "stepNumber", "()V"⟩
abbrev cX4_isName : ByteArray := prog_6_method_6_code
def yX4_isName : MethodName := ⟨RX4, "isName", "(Ljava/lang/String;)Z"⟩
abbrev cX4_isLetter : ByteArray := prog_6_method_7_code
def yX4_isLetter : MethodName := ⟨RX4, "isLetter", "(I)Z"⟩
abbrev cX4_isFigure : ByteArray := prog_6_method_8_code
def yX4_isFigure : MethodName := ⟨RX4, "isFigure", "(I)Z"⟩
def RX5 : String := "WeighedWhales$Teller"
def TX5 : u_T := fun k => match k with
  | 0 => ("WeighedWhales$Teller", "found", "I", false)
  | 1 => ("WeighedWhales$Teller", "foundAt", "I", false)
  | _ => ("WeighedWhales$Teller", "toldOnce", "I", false)
def tyX5 : Nat → FieldType := fun k => match k with
  | 0 => .int
  | 1 => .int
  | _ => .int
abbrev wsX50 : List Cond := u_ws RX5 TX5 3
theorem nmX5 : ∀ a, a < 3 → ∀ b, b < 3 → a ≠ b → (TX5 a).2.1 ≠ (TX5 b).2.1 := by decide +kernel
theorem tyX5_ok : ∀ k, k < 3 → parseFieldDescriptor (TX5 k).2.2.1 = some (tyX5 k) := by decide +kernel
abbrev cX5_init : ByteArray := prog_7_method_1_code
def yX5_init : MethodName := ⟨RX5, "<init>", "()V"⟩
abbrev cX5_tellAll : ByteArray := prog_7_method_2_code
def yX5_tellAll : MethodName := ⟨RX5, "tellAll", "(LWeighedWhales$Tape;LWeighedWhales$Shore;)I"⟩
abbrev cX5_readLine : ByteArray := prog_7_method_3_code
def yX5_readLine : MethodName := ⟨RX5, "readLine", "(LWeighedWhales$Tape;LWeighedWhales$Shore;)Z"⟩
abbrev cX5_fail : ByteArray := prog_7_method_4_code
def yX5_fail : MethodName := ⟨RX5, "fail", "(II)Z"⟩
abbrev cX5_failAtToken : ByteArray := prog_7_method_5_code
def yX5_failAtToken : MethodName := ⟨RX5, "failAtToken", "(LWeighedWhales$Tape;)Z"⟩
abbrev cX5_lineOf : ByteArray := prog_7_method_6_code
def yX5_lineOf : MethodName := ⟨RX5, "lineOf", "(LWeighedWhales$Tape;)I"⟩
abbrev cX5_refusedName : ByteArray := prog_7_method_7_code
def yX5_refusedName : MethodName := ⟨RX5, "refusedName", "(ILWeighedWhales$Shore;)I"⟩
abbrev cX5_mayStop : ByteArray := prog_7_method_8_code
def yX5_mayStop : MethodName := ⟨RX5, "mayStop", "(II)Z"⟩
abbrev cX5_mayGoOn : ByteArray := prog_7_method_9_code
def yX5_mayGoOn : MethodName := ⟨RX5, "mayGoOn", "(II)Z"⟩
abbrev cX5_isTooMany : ByteArray := prog_7_method_10_code
def yX5_isTooMany : MethodName := ⟨RX5, "isTooMany", "(IILWeighedWhales$Shore;)Z"⟩
abbrev cX5_lowest : ByteArray := prog_7_method_11_code
def yX5_lowest : MethodName := ⟨RX5, "lowest", "(II)I"⟩
abbrev cX5_highest : ByteArray := prog_7_method_12_code
def yX5_highest : MethodName := ⟨RX5, "highest", "(II)I"⟩
abbrev cX5_highestOfWhale : ByteArray := prog_7_method_13_code
def yX5_highestOfWhale : MethodName := ⟨RX5, "highestOfWhale", "(I)I"⟩
abbrev cX5_put : ByteArray := prog_7_method_14_code
def yX5_put : MethodName := ⟨RX5, "put", "(IIILWeighedWhales$Shore;)V"⟩
abbrev cX5_checkBeasts : ByteArray := prog_7_method_15_code
def yX5_checkBeasts : MethodName := ⟨RX5, "checkBeasts", "(LWeighedWhales$Tape;LWeighedWhales$Shore;)V"⟩
def RX6 : String := "WeighedWhales"
def TX6 : u_T := fun k => match k with
  | 0 => ("WeighedWhales", "tape", "LWeighedWhales$Tape;", true)
  | 1 => ("WeighedWhales", "teller", "LWeighedWhales$Teller;", true)
  | 2 => ("WeighedWhales", "now", "LWeighedWhales$Shore;", true)
  | 3 => ("WeighedWhales", "spare", "LWeighedWhales$Shore;", true)
  | 4 => ("WeighedWhales", "images", "[LWeighedWhales$Shore;", true)
  | 5 => ("WeighedWhales", "keptImages", "I", false)
  | 6 => ("WeighedWhales", "tales", "LWeighedWhales$Tales;", true)
  | 7 => ("WeighedWhales", "planner", "LWeighedWhales$Planner;", true)
  | 8 => ("WeighedWhales", "sheets", "[LWeighedWhales$Sheet;", true)
  | _ => ("WeighedWhales", "tornFault", "I", false)
def tyX6 : Nat → FieldType := fun k => match k with
  | 0 => .object "WeighedWhales$Tape"
  | 1 => .object "WeighedWhales$Teller"
  | 2 => .object "WeighedWhales$Shore"
  | 3 => .object "WeighedWhales$Shore"
  | 4 => .array (.object "WeighedWhales$Shore")
  | 5 => .int
  | 6 => .object "WeighedWhales$Tales"
  | 7 => .object "WeighedWhales$Planner"
  | 8 => .array (.object "WeighedWhales$Sheet")
  | _ => .int
abbrev wsX60 : List Cond := u_ws RX6 TX6 10
theorem nmX6 : ∀ a, a < 10 → ∀ b, b < 10 → a ≠ b → (TX6 a).2.1 ≠ (TX6 b).2.1 := by decide +kernel
theorem tyX6_ok : ∀ k, k < 10 → parseFieldDescriptor (TX6 k).2.2.1 = some (tyX6 k) := by decide +kernel
abbrev cX6_init : ByteArray := prog_1_method_1_code
def yX6_init : MethodName := ⟨RX6, "<init>", "()V"⟩
abbrev cX6_feed : ByteArray := prog_1_method_2_code
def yX6_feed : MethodName := ⟨RX6, "feed", "(I)I"⟩
abbrev cX6_end : ByteArray := prog_1_method_3_code
def yX6_end : MethodName := ⟨RX6, "end", "(I)I"⟩
abbrev cX6_text : ByteArray := prog_1_method_4_code
def yX6_text : MethodName := ⟨RX6, "text", "()I"⟩
abbrev cX6_fault : ByteArray := prog_1_method_5_code
def yX6_fault : MethodName := ⟨RX6, "fault", "()I"⟩
abbrev cX6_rule : ByteArray := prog_1_method_6_code
def yX6_rule : MethodName := ⟨RX6, "rule", "(I)I"⟩
abbrev cX6_place : ByteArray := prog_1_method_7_code
def yX6_place : MethodName := ⟨RX6, "place", "(II)I"⟩
abbrev cX6_level : ByteArray := prog_1_method_8_code
def yX6_level : MethodName := ⟨RX6, "level", "(I)I"⟩
abbrev cX6_beast : ByteArray := prog_1_method_9_code
def yX6_beast : MethodName := ⟨RX6, "beast", "(II)I"⟩
abbrev cX6_part : ByteArray := prog_1_method_10_code
def yX6_part : MethodName := ⟨RX6, "part", "(II)I"⟩
abbrev cX6_mark : ByteArray := prog_1_method_11_code
def yX6_mark : MethodName := ⟨RX6, "mark", "(II)I"⟩
abbrev cX6_own : ByteArray := prog_1_method_12_code
def yX6_own : MethodName := ⟨RX6, "own", "(II)I"⟩
abbrev cX6_law : ByteArray := prog_1_method_13_code
def yX6_law : MethodName := ⟨RX6, "law", "(I)I"⟩
abbrev cX6_rot : ByteArray := prog_1_method_14_code
def yX6_rot : MethodName := ⟨RX6, "rot", "(I)I"⟩
abbrev cX6_gangs : ByteArray := prog_1_method_15_code
def yX6_gangs : MethodName := ⟨RX6, "gangs", "(I)I"⟩
abbrev cX6_lump : ByteArray := prog_1_method_16_code
def yX6_lump : MethodName := ⟨RX6, "lump", "(II)I"⟩
abbrev cX6_go : ByteArray := prog_1_method_17_code
def yX6_go : MethodName := ⟨RX6, "go", "(II)I"⟩
abbrev cX6_wet : ByteArray := prog_1_method_18_code
def yX6_wet : MethodName := ⟨RX6, "wet", "(I)I"⟩
abbrev cX6_floats : ByteArray := prog_1_method_19_code
def yX6_floats : MethodName := ⟨RX6, "floats", "(I)I"⟩
abbrev cX6_has : ByteArray := prog_1_method_20_code
def yX6_has : MethodName := ⟨RX6, "has", "(I)I"⟩
abbrev cX6_best : ByteArray := prog_1_method_21_code
def yX6_best : MethodName := ⟨RX6, "best", "(II)I"⟩
abbrev cX6_worth : ByteArray := prog_1_method_22_code
def yX6_worth : MethodName := ⟨RX6, "worth", "(II)I"⟩
abbrev cX6_salted : ByteArray := prog_1_method_23_code
def yX6_salted : MethodName := ⟨RX6, "salted", "(I)I"⟩
abbrev cX6_share : ByteArray := prog_1_method_24_code
def yX6_share : MethodName := ⟨RX6, "share", "(II)I"⟩
abbrev cX6_tell : ByteArray := prog_1_method_25_code
def yX6_tell : MethodName := ⟨RX6, "tell", "(II)I"⟩
abbrev cX6_forget : ByteArray := prog_1_method_26_code
def yX6_forget : MethodName := ⟨RX6, "forget", "(I)I"⟩
abbrev cX6_laws : ByteArray := prog_1_method_27_code
def yX6_laws : MethodName := ⟨RX6, "laws", "()I"⟩
abbrev cX6_whose : ByteArray := prog_1_method_28_code
def yX6_whose : MethodName := ⟨RX6, "whose", "(I)I"⟩
abbrev cX6_strand : ByteArray := prog_1_method_29_code
def yX6_strand : MethodName := ⟨RX6, "strand", "(II)I"⟩
abbrev cX6_luck : ByteArray := prog_1_method_30_code
def yX6_luck : MethodName := ⟨RX6, "luck", "(II)J"⟩
abbrev cX6_open : ByteArray := prog_1_method_31_code
def yX6_open : MethodName := ⟨RX6, "open", "()I"⟩
abbrev cX6_drift : ByteArray := prog_1_method_32_code
def yX6_drift : MethodName := ⟨RX6, "drift", "(III)I"⟩
abbrev cX6_keep : ByteArray := prog_1_method_33_code
def yX6_keep : MethodName := ⟨RX6, "keep", "(I)I"⟩
abbrev cX6_back : ByteArray := prog_1_method_34_code
def yX6_back : MethodName := ⟨RX6, "back", "(I)I"⟩
abbrev cX6_sheet : ByteArray := prog_1_method_35_code
def yX6_sheet : MethodName := ⟨RX6, "sheet", "(III)I"⟩
abbrev cX6_lay : ByteArray := prog_1_method_36_code
def yX6_lay : MethodName := ⟨RX6, "lay", "(III)I"⟩
abbrev cX6_read : ByteArray := prog_1_method_37_code
def yX6_read : MethodName := ⟨RX6, "read", "(IIII)I"⟩
abbrev cX6_torn : ByteArray := prog_1_method_38_code
def yX6_torn : MethodName := ⟨RX6, "torn", "()I"⟩
abbrev cX6_count : ByteArray := prog_1_method_39_code
def yX6_count : MethodName := ⟨RX6, "count", "(I)I"⟩
abbrev cX6_within : ByteArray := prog_1_method_40_code
def yX6_within : MethodName := ⟨RX6, "within", "(III)Z"⟩
abbrev cX6_bodyAt : ByteArray := prog_1_method_41_code
def yX6_bodyAt : MethodName := ⟨RX6, "bodyAt", "(II)I"⟩
abbrev cX6_numberOf : ByteArray := prog_1_method_42_code
def yX6_numberOf : MethodName := ⟨RX6, "numberOf", "(I)I"⟩
def RX7 : String := "WeighedWhalesModel"
def TX7 : u_T := fun k => match k with
  | 0 => ("WeighedWhalesModel", "state", "[I", true)
  | 1 => ("WeighedWhalesModel", "levels", "[I", true)
  | 2 => ("WeighedWhalesModel", "levelMany", "I", false)
  | 3 => ("WeighedWhalesModel", "placeMany", "I", false)
  | 4 => ("WeighedWhalesModel", "beasts", "[I", true)
  | 5 => ("WeighedWhalesModel", "beastMany", "I", false)
  | 6 => ("WeighedWhalesModel", "readPage", "[I", true)
  | 7 => ("WeighedWhalesModel", "readLevels", "[I", true)
  | 8 => ("WeighedWhalesModel", "readBeasts", "[I", true)
  | 9 => ("WeighedWhalesModel", "readPlaces", "I", false)
  | 10 => ("WeighedWhalesModel", "readLevelMany", "I", false)
  | 11 => ("WeighedWhalesModel", "readBeastMany", "I", false)
  | 12 => ("WeighedWhalesModel", "toldOnce", "I", false)
  | 13 => ("WeighedWhalesModel", "tape", "[I", true)
  | 14 => ("WeighedWhalesModel", "taped", "I", false)
  | 15 => ("WeighedWhalesModel", "fault", "I", false)
  | 16 => ("WeighedWhalesModel", "broken", "I", false)
  | 17 => ("WeighedWhalesModel", "brokenAt", "I", false)
  | 18 => ("WeighedWhalesModel", "spot", "I", false)
  | 19 => ("WeighedWhalesModel", "here", "I", false)
  | 20 => ("WeighedWhalesModel", "token", "I", false)
  | 21 => ("WeighedWhalesModel", "value", "I", false)
  | 22 => ("WeighedWhalesModel", "cuts", "[I", true)
  | 23 => ("WeighedWhalesModel", "letters", "[I", true)
  | 24 => ("WeighedWhalesModel", "names", "[I", true)
  | 25 => ("WeighedWhalesModel", "nameMany", "I", false)
  | 26 => ("WeighedWhalesModel", "mosts", "[I", true)
  | 27 => ("WeighedWhalesModel", "workable", "[I", true)
  | 28 => ("WeighedWhalesModel", "bestRot", "I", false)
  | 29 => ("WeighedWhalesModel", "told", "[I", true)
  | 30 => ("WeighedWhalesModel", "toldMany", "I", false)
  | 31 => ("WeighedWhalesModel", "isKept", "[Z", true)
  | 32 => ("WeighedWhalesModel", "lanes", "[I", true)
  | 33 => ("WeighedWhalesModel", "lengths", "[I", true)
  | 34 => ("WeighedWhalesModel", "cells", "[I", true)
  | _ => ("WeighedWhalesModel", "torn", "I", false)
def tyX7 : Nat → FieldType := fun k => match k with
  | 0 => .array .int
  | 1 => .array .int
  | 2 => .int
  | 3 => .int
  | 4 => .array .int
  | 5 => .int
  | 6 => .array .int
  | 7 => .array .int
  | 8 => .array .int
  | 9 => .int
  | 10 => .int
  | 11 => .int
  | 12 => .int
  | 13 => .array .int
  | 14 => .int
  | 15 => .int
  | 16 => .int
  | 17 => .int
  | 18 => .int
  | 19 => .int
  | 20 => .int
  | 21 => .int
  | 22 => .array .int
  | 23 => .array .int
  | 24 => .array .int
  | 25 => .int
  | 26 => .array .int
  | 27 => .array .int
  | 28 => .int
  | 29 => .array .int
  | 30 => .int
  | 31 => .array .boolean
  | 32 => .array .int
  | 33 => .array .int
  | 34 => .array .int
  | _ => .int
abbrev wsX70 : List Cond := u_ws RX7 TX7 36
theorem nmX7 : ∀ a, a < 36 → ∀ b, b < 36 → a ≠ b → (TX7 a).2.1 ≠ (TX7 b).2.1 := by decide +kernel
theorem tyX7_ok : ∀ k, k < 36 → parseFieldDescriptor (TX7 k).2.2.1 = some (tyX7 k) := by decide +kernel
abbrev cX7_init : ByteArray := prog_9_method_1_code
def yX7_init : MethodName := ⟨RX7, "<init>", "()V"⟩
abbrev cX7_in : ByteArray := prog_9_method_3_code
def yX7_in : MethodName := ⟨RX7, "in", "(JJJ)Z"⟩
abbrev cX7_feed : ByteArray := prog_9_method_4_code
def yX7_feed : MethodName := ⟨RX7, "feed", "(I)I"⟩
abbrev cX7_end : ByteArray := prog_9_method_5_code
def yX7_end : MethodName := ⟨RX7, "end", "(I)I"⟩
abbrev cX7_byteAt : ByteArray := prog_9_method_6_code
def yX7_byteAt : MethodName := ⟨RX7, "byteAt", "(I)I"⟩
abbrev cX7_fails : ByteArray := prog_9_method_7_code
def yX7_fails : MethodName := ⟨RX7, "fails", "(I)V"⟩
abbrev cX7_nameHere : ByteArray := prog_9_method_8_code
def yX7_nameHere : MethodName := ⟨RX7, "nameHere", "()I"⟩
abbrev cX7_step : ByteArray := prog_9_method_9_code
def yX7_step : MethodName := ⟨RX7, "step", "()V"⟩
abbrev cX7_number : ByteArray := prog_9_method_10_code
def yX7_number : MethodName := ⟨RX7, "number", "(II)I"⟩
abbrev cX7_readTide : ByteArray := prog_9_method_11_code
def yX7_readTide : MethodName := ⟨RX7, "readTide", "()V"⟩
abbrev cX7_readWhale : ByteArray := prog_9_method_12_code
def yX7_readWhale : MethodName := ⟨RX7, "readWhale", "()V"⟩
abbrev cX7_readOnce : ByteArray := prog_9_method_13_code
def yX7_readOnce : MethodName := ⟨RX7, "readOnce", "(I)V"⟩
abbrev cX7_readLine : ByteArray := prog_9_method_14_code
def yX7_readLine : MethodName := ⟨RX7, "readLine", "()V"⟩
abbrev cX7_looksWhere : ByteArray := prog_9_method_15_code
def yX7_looksWhere : MethodName := ⟨RX7, "looksWhere", "()V"⟩
abbrev cX7_text : ByteArray := prog_9_method_16_code
def yX7_text : MethodName := ⟨RX7, "text", "()I"⟩
abbrev cX7_fault : ByteArray := prog_9_method_17_code
def yX7_fault : MethodName := ⟨RX7, "fault", "()I"⟩
abbrev cX7_isPlace : ByteArray := prog_9_method_18_code
def yX7_isPlace : MethodName := ⟨RX7, "isPlace", "(I)Z"⟩
abbrev cX7_isBeast : ByteArray := prog_9_method_19_code
def yX7_isBeast : MethodName := ⟨RX7, "isBeast", "(I)Z"⟩
abbrev cX7_isPart : ByteArray := prog_9_method_20_code
def yX7_isPart : MethodName := ⟨RX7, "isPart", "(I)Z"⟩
abbrev cX7_partAt : ByteArray := prog_9_method_21_code
def yX7_partAt : MethodName := ⟨RX7, "partAt", "(I)I"⟩
abbrev cX7_rotNow : ByteArray := prog_9_method_22_code
def yX7_rotNow : MethodName := ⟨RX7, "rotNow", "()I"⟩
abbrev cX7_rule : ByteArray := prog_9_method_23_code
def yX7_rule : MethodName := ⟨RX7, "rule", "(I)I"⟩
abbrev cX7_place : ByteArray := prog_9_method_24_code
def yX7_place : MethodName := ⟨RX7, "place", "(II)I"⟩
abbrev cX7_level : ByteArray := prog_9_method_25_code
def yX7_level : MethodName := ⟨RX7, "level", "(I)I"⟩
abbrev cX7_beast : ByteArray := prog_9_method_26_code
def yX7_beast : MethodName := ⟨RX7, "beast", "(II)I"⟩
abbrev cX7_isWet : ByteArray := prog_9_method_27_code
def yX7_isWet : MethodName := ⟨RX7, "isWet", "(II)Z"⟩
abbrev cX7_floatsIn : ByteArray := prog_9_method_28_code
def yX7_floatsIn : MethodName := ⟨RX7, "floatsIn", "(III)Z"⟩
abbrev cX7_floatsNow : ByteArray := prog_9_method_29_code
def yX7_floatsNow : MethodName := ⟨RX7, "floatsNow", "()V"⟩
abbrev cX7_worthIn : ByteArray := prog_9_method_30_code
def yX7_worthIn : MethodName := ⟨RX7, "worthIn", "(III)I"⟩
abbrev cX7_canBeWorked : ByteArray := prog_9_method_31_code
def yX7_canBeWorked : MethodName := ⟨RX7, "canBeWorked", "(I)Z"⟩
abbrev cX7_whoseBy : ByteArray := prog_9_method_32_code
def yX7_whoseBy : MethodName := ⟨RX7, "whoseBy", "(II)I"⟩
abbrev cX7_part : ByteArray := prog_9_method_33_code
def yX7_part : MethodName := ⟨RX7, "part", "(II)I"⟩
abbrev cX7_sets : ByteArray := prog_9_method_34_code
def yX7_sets : MethodName := ⟨RX7, "sets", "(ZII)I"⟩
abbrev cX7_mark : ByteArray := prog_9_method_35_code
def yX7_mark : MethodName := ⟨RX7, "mark", "(II)I"⟩
abbrev cX7_own : ByteArray := prog_9_method_36_code
def yX7_own : MethodName := ⟨RX7, "own", "(II)I"⟩
abbrev cX7_law : ByteArray := prog_9_method_37_code
def yX7_law : MethodName := ⟨RX7, "law", "(I)I"⟩
abbrev cX7_rot : ByteArray := prog_9_method_38_code
def yX7_rot : MethodName := ⟨RX7, "rot", "(I)I"⟩
abbrev cX7_gangs : ByteArray := prog_9_method_39_code
def yX7_gangs : MethodName := ⟨RX7, "gangs", "(I)I"⟩
abbrev cX7_lump : ByteArray := prog_9_method_40_code
def yX7_lump : MethodName := ⟨RX7, "lump", "(II)I"⟩
abbrev cX7_works : ByteArray := prog_9_method_41_code
def yX7_works : MethodName := ⟨RX7, "works", "(I)I"⟩
abbrev cX7_hourGoes : ByteArray := prog_9_method_42_code
def yX7_hourGoes : MethodName := ⟨RX7, "hourGoes", "(II)I"⟩
abbrev cX7_goes : ByteArray := prog_9_method_43_code
def yX7_goes : MethodName := ⟨RX7, "goes", "(II)I"⟩
abbrev cX7_go : ByteArray := prog_9_method_44_code
def yX7_go : MethodName := ⟨RX7, "go", "(II)I"⟩
abbrev cX7_wet : ByteArray := prog_9_method_45_code
def yX7_wet : MethodName := ⟨RX7, "wet", "(I)I"⟩
abbrev cX7_floats : ByteArray := prog_9_method_46_code
def yX7_floats : MethodName := ⟨RX7, "floats", "(I)I"⟩
abbrev cX7_has : ByteArray := prog_9_method_47_code
def yX7_has : MethodName := ⟨RX7, "has", "(I)I"⟩
abbrev cX7_digit : ByteArray := prog_9_method_48_code
def yX7_digit : MethodName := ⟨RX7, "digit", "(II)I"⟩
abbrev cX7_layParts : ByteArray := prog_9_method_49_code
def yX7_layParts : MethodName := ⟨RX7, "layParts", "(II)V"⟩
abbrev cX7_byWork : ByteArray := prog_9_method_50_code
def yX7_byWork : MethodName := ⟨RX7, "byWork", "(IIII)I"⟩
abbrev cX7_choice : ByteArray := prog_9_method_51_code
def yX7_choice : MethodName := ⟨RX7, "choice", "(I)I"⟩
abbrev cX7_leftNow : ByteArray := prog_9_method_52_code
def yX7_leftNow : MethodName := ⟨RX7, "leftNow", "()I"⟩
abbrev cX7_layBest : ByteArray := prog_9_method_53_code
def yX7_layBest : MethodName := ⟨RX7, "layBest", "(III)I"⟩
abbrev cX7_best : ByteArray := prog_9_method_54_code
def yX7_best : MethodName := ⟨RX7, "best", "(II)I"⟩
abbrev cX7_worth : ByteArray := prog_9_method_55_code
def yX7_worth : MethodName := ⟨RX7, "worth", "(II)I"⟩
abbrev cX7_salted : ByteArray := prog_9_method_56_code
def yX7_salted : MethodName := ⟨RX7, "salted", "(I)I"⟩
abbrev cX7_shareBy : ByteArray := prog_9_method_57_code
def yX7_shareBy : MethodName := ⟨RX7, "shareBy", "(II)I"⟩
abbrev cX7_share : ByteArray := prog_9_method_58_code
def yX7_share : MethodName := ⟨RX7, "share", "(II)I"⟩
abbrev cX7_tell : ByteArray := prog_9_method_59_code
def yX7_tell : MethodName := ⟨RX7, "tell", "(II)I"⟩
abbrev cX7_forget : ByteArray := prog_9_method_60_code
def yX7_forget : MethodName := ⟨RX7, "forget", "(I)I"⟩
abbrev cX7_explains : ByteArray := prog_9_method_61_code
def yX7_explains : MethodName := ⟨RX7, "explains", "(I)Z"⟩
abbrev cX7_laws : ByteArray := prog_9_method_62_code
def yX7_laws : MethodName := ⟨RX7, "laws", "()I"⟩
abbrev cX7_whose : ByteArray := prog_9_method_63_code
def yX7_whose : MethodName := ⟨RX7, "whose", "(I)I"⟩
abbrev cX7_strand : ByteArray := prog_9_method_64_code
def yX7_strand : MethodName := ⟨RX7, "strand", "(II)I"⟩
abbrev cX7_lowest : ByteArray := prog_9_method_65_code
def yX7_lowest : MethodName := ⟨RX7, "lowest", "(JJI)J"⟩
abbrev cX7_luck : ByteArray := prog_9_method_66_code
def yX7_luck : MethodName := ⟨RX7, "luck", "(II)J"⟩
abbrev cX7_open : ByteArray := prog_9_method_67_code
def yX7_open : MethodName := ⟨RX7, "open", "()I"⟩
abbrev cX7_copies : ByteArray := prog_9_method_68_code
def yX7_copies : MethodName := ⟨RX7, "copies", "(II)V"⟩
abbrev cX7_partBy : ByteArray := prog_9_method_69_code
def yX7_partBy : MethodName := ⟨RX7, "partBy", "(I)I"⟩
abbrev cX7_drift : ByteArray := prog_9_method_70_code
def yX7_drift : MethodName := ⟨RX7, "drift", "(III)I"⟩
abbrev cX7_lostMany : ByteArray := prog_9_method_71_code
def yX7_lostMany : MethodName := ⟨RX7, "lostMany", "()I"⟩
abbrev cX7_keep : ByteArray := prog_9_method_72_code
def yX7_keep : MethodName := ⟨RX7, "keep", "(I)I"⟩
abbrev cX7_back : ByteArray := prog_9_method_73_code
def yX7_back : MethodName := ⟨RX7, "back", "(I)I"⟩
abbrev cX7_sheet : ByteArray := prog_9_method_74_code
def yX7_sheet : MethodName := ⟨RX7, "sheet", "(III)I"⟩
abbrev cX7_lay : ByteArray := prog_9_method_75_code
def yX7_lay : MethodName := ⟨RX7, "lay", "(III)I"⟩
abbrev cX7_read : ByteArray := prog_9_method_76_code
def yX7_read : MethodName := ⟨RX7, "read", "(IIII)I"⟩
abbrev cX7_torn : ByteArray := prog_9_method_77_code
def yX7_torn : MethodName := ⟨RX7, "torn", "()I"⟩
abbrev cX7_cutMany : ByteArray := prog_9_method_78_code
def yX7_cutMany : MethodName := ⟨RX7, "cutMany", "()I"⟩
abbrev cX7_count : ByteArray := prog_9_method_79_code
def yX7_count : MethodName := ⟨RX7, "count", "(I)I"⟩
def RJ6 : String := "java/lang/Integer"
def TJ6 : u_T := fun k => match k with
  | _ => ("", "", "", false)
def tyJ6 : Nat → FieldType := fun k => match k with
  | _ => .int
theorem nmJ6 : ∀ a, a < 0 → ∀ b, b < 0 → a ≠ b → (TJ6 a).2.1 ≠ (TJ6 b).2.1 := by decide +kernel
theorem tyJ6_ok : ∀ k, k < 0 → parseFieldDescriptor (TJ6 k).2.2.1 = some (tyJ6 k) := by decide +kernel
abbrev cJ6_bitCount_0f7a4 : ByteArray := prog_10_method_49_code
def yJ6_bitCount_0f7a4 : MethodName := ⟨RJ6, "bitCount", "(I)I"⟩
def RJ9 : String := "java/lang/Math"
def TJ9 : u_T := fun k => match k with
  | _ => ("", "", "", false)
def tyJ9 : Nat → FieldType := fun k => match k with
  | _ => .int
theorem nmJ9 : ∀ a, a < 0 → ∀ b, b < 0 → a ≠ b → (TJ9 a).2.1 ≠ (TJ9 b).2.1 := by decide +kernel
theorem tyJ9_ok : ∀ k, k < 0 → parseFieldDescriptor (TJ9 k).2.2.1 = some (tyJ9 k) := by decide +kernel
abbrev cJ9_floorMod_7cf53 : ByteArray := prog_11_method_50_code
def yJ9_floorMod_7cf53 : MethodName := ⟨RJ9, "floorMod", "(II)I"⟩
abbrev cJ9_max_7cf53 : ByteArray := prog_11_method_65_code
def yJ9_max_7cf53 : MethodName := ⟨RJ9, "max", "(II)I"⟩
abbrev cJ9_min_7cf53 : ByteArray := prog_11_method_69_code
def yJ9_min_7cf53 : MethodName := ⟨RJ9, "min", "(II)I"⟩
def RJ0 : String := "java/lang/String"
def TJ0 : u_T := fun k => match k with
  | _ => ("", "", "", false)
def tyJ0 : Nat → FieldType := fun k => match k with
  | _ => .int
theorem nmJ0 : ∀ a, a < 0 → ∀ b, b < 0 → a ≠ b → (TJ0 a).2.1 ≠ (TJ0 b).2.1 := by decide +kernel
theorem tyJ0_ok : ∀ k, k < 0 → parseFieldDescriptor (TJ0 k).2.2.1 = some (tyJ0 k) := by decide +kernel
abbrev cJ0_length_8abf5 : ByteArray := prog_12_method_54_code
def yJ0_length_8abf5 : MethodName := ⟨RJ0, "length", "()I"⟩
abbrev cJ0_charAt_5068e : ByteArray := prog_12_method_56_code
def yJ0_charAt_5068e : MethodName := ⟨RJ0, "charAt", "(I)C"⟩
abbrev cJ0_coder_7d493 : ByteArray := prog_12_method_152_code
def yJ0_coder_7d493 : MethodName := ⟨RJ0, "coder", "()B"⟩
abbrev cJ0_isLatin1_aae02 : ByteArray := prog_12_method_154_code
def yJ0_isLatin1_aae02 : MethodName := ⟨RJ0, "isLatin1", "()Z"⟩
abbrev cJ0_checkIndex_df160 : ByteArray := prog_12_method_155_code
def yJ0_checkIndex_df160 : MethodName := ⟨RJ0, "checkIndex", "(II)V"⟩
def RJ1 : String := "java/lang/StringLatin1"
def TJ1 : u_T := fun k => match k with
  | _ => ("", "", "", false)
def tyJ1 : Nat → FieldType := fun k => match k with
  | _ => .int
theorem nmJ1 : ∀ a, a < 0 → ∀ b, b < 0 → a ≠ b → (TJ1 a).2.1 ≠ (TJ1 b).2.1 := by decide +kernel
theorem tyJ1_ok : ∀ k, k < 0 → parseFieldDescriptor (TJ1 k).2.2.1 = some (tyJ1 k) := by decide +kernel
abbrev cJ1_charAt_3b067 : ByteArray := prog_13_method_2_code
def yJ1_charAt_3b067 : MethodName := ⟨RJ1, "charAt", "([BI)C"⟩
def RJ2 : String := "java/lang/StringUTF16"
def TJ2 : u_T := fun k => match k with
  | _ => ("", "", "", false)
def tyJ2 : Nat → FieldType := fun k => match k with
  | _ => .int
theorem nmJ2 : ∀ a, a < 0 → ∀ b, b < 0 → a ≠ b → (TJ2 a).2.1 ≠ (TJ2 b).2.1 := by decide +kernel
theorem tyJ2_ok : ∀ k, k < 0 → parseFieldDescriptor (TJ2 k).2.2.1 = some (tyJ2 k) := by decide +kernel
abbrev cJ2_getChar_3b067 : ByteArray := prog_14_method_5_code
def yJ2_getChar_3b067 : MethodName := ⟨RJ2, "getChar", "([BI)C"⟩
abbrev cJ2_length_9d52b : ByteArray := prog_14_method_6_code
def yJ2_length_9d52b : MethodName := ⟨RJ2, "length", "([B)I"⟩
abbrev cJ2_charAt_3b067 : ByteArray := prog_14_method_83_code
def yJ2_charAt_3b067 : MethodName := ⟨RJ2, "charAt", "([BI)C"⟩
abbrev cJ2_checkIndex_2214a : ByteArray := prog_14_method_91_code
def yJ2_checkIndex_2214a : MethodName := ⟨RJ2, "checkIndex", "(I[B)V"⟩
def RJ10 : String := "java/lang/System"
def TJ10 : u_T := fun k => match k with
  | _ => ("", "", "", false)
def tyJ10 : Nat → FieldType := fun k => match k with
  | _ => .int
theorem nmJ10 : ∀ a, a < 0 → ∀ b, b < 0 → a ≠ b → (TJ10 a).2.1 ≠ (TJ10 b).2.1 := by decide +kernel
theorem tyJ10_ok : ∀ k, k < 0 → parseFieldDescriptor (TJ10 k).2.2.1 = some (tyJ10 k) := by decide +kernel
def RJ7 : String := "java/util/Arrays"
def TJ7 : u_T := fun k => match k with
  | _ => ("", "", "", false)
def tyJ7 : Nat → FieldType := fun k => match k with
  | _ => .int
theorem nmJ7 : ∀ a, a < 0 → ∀ b, b < 0 → a ≠ b → (TJ7 a).2.1 ≠ (TJ7 b).2.1 := by decide +kernel
theorem tyJ7_ok : ∀ k, k < 0 → parseFieldDescriptor (TJ7 k).2.2.1 = some (tyJ7 k) := by decide +kernel
abbrev cJ7_fill_53178 : ByteArray := prog_16_method_103_code
def yJ7_fill_53178 : MethodName := ⟨RJ7, "fill", "([II)V"⟩
def RJ3 : String := "jdk/internal/util/Preconditions"
def TJ3 : u_T := fun k => match k with
  | _ => ("", "", "", false)
def tyJ3 : Nat → FieldType := fun k => match k with
  | _ => .int
theorem nmJ3 : ∀ a, a < 0 → ∀ b, b < 0 → a ≠ b → (TJ3 a).2.1 ≠ (TJ3 b).2.1 := by decide +kernel
theorem tyJ3_ok : ∀ k, k < 0 → parseFieldDescriptor (TJ3 k).2.2.1 = some (tyJ3 k) := by decide +kernel
abbrev cJ3_checkIndex_8e157 : ByteArray := prog_17_method_11_code
def yJ3_checkIndex_8e157 : MethodName := ⟨RJ3, "checkIndex", "(IILjava/util/function/BiFunction;)I"⟩
def RL : String := "WeighedWhalesLaw"
abbrev cL_law : ByteArray := code
def yL_law : MethodName := ⟨RL, "law", "([I)Z"⟩
abbrev vwCl : List vw_C := [(RX0, TX0, 9), (RX1, TX1, 3), (RX2, TX2, 17), (RX3, TX3, 3), (RX4, TX4, 6), (RX5, TX5, 3), (RX6, TX6, 10), (RX7, TX7, 36)]
end
section
/-! ===== words ===== -/
def ww_nest : Cond → Bool
  | .fieldLinkNest .. => true
  | .methodLinkNest .. => true
  | _ => false
def ww_T : List Cond := lw_tbl.filter goodWord
def ww_N : List Cond := lw_tbl.filter ww_nest
theorem ww_Ti {w : Cond} (i : Nat) (h : lw_tbl[i]? = some w) (hg : goodWord w = true) : w ∈ ww_T := List.mem_filter.mpr ⟨List.mem_of_getElem? h, hg⟩
theorem ww_Ni {w : Cond} (i : Nat) (h : lw_tbl[i]? = some w) (hg : ww_nest w = true) : w ∈ ww_N := List.mem_filter.mpr ⟨List.mem_of_getElem? h, hg⟩
theorem ww_Tg : GoodIn ww_T ww_T := fun _ h => ⟨h, good_of_word (List.mem_filter.mp h).2⟩
theorem ww_Ng {w : Cond} (h : w ∈ ww_N) : ww_nest w = true := (List.mem_filter.mp h).2
/-! ===== the static world ===== -/
abbrev ww_M : Type := Nat → Nat → Int32
abbrev ww_L : Type := (Nat × List (Option Nat)) ⊕ (Nat × Nat) ⊕ (Nat × Nat × Nat × Nat)
def ww_up (σ : ww_M) (k j : Nat) (v : Int32) : ww_M := fun a b => if a = k then (if b = j then v else σ a b) else σ a b
def ww_upr (σ : ww_M) (k : Nat) (f : Nat → Int32) : ww_M := fun a b => if a = k then f b else σ a b
def ww_fld (ad : Nat → Nat) (f : Nat → Int32) (j : Nat) (x : Option Nat) : Value := match x with
  | some r => .ref (ad r)
  | none => .int (f j)
def ww_fs (ad : Nat → Nat) (f : Nat → Int32) (fs : List (Option Nat)) : List Value := fs.mapIdx (fun j x => ww_fld ad f j x)
def ww_cell (ad : Nat → Nat) (cA : Nat → ClassId) (f : Nat → Int32) (L : ww_L) : va_E := match L with
  | .inl (ci, fs) => .inr (ci, ww_fs ad f fs)
  | .inr (.inl (t, n)) => .inl (cA t, n, .inl f)
  | .inr (.inr (t, n, b, d)) => .inl (cA t, n, .inr (.inr (.inr (.inr (fun i => some (ad (b + d * i)))))))
def ww_W (G : List ww_L) (ad : Nat → Nat) (cA : Nat → ClassId) (σ : ww_M) : va_W := G.mapIdx (fun k L => (ad k, ww_cell ad cA (σ k) L))
theorem ww_W_get {G : List ww_L} {ad : Nat → Nat} {cA : Nat → ClassId} {σ : ww_M} {k : Nat} {L : ww_L} (h : G[k]? = some L) : (ww_W G ad cA σ)[k]? = some (ad k, ww_cell ad cA (σ k) L) := by
  simp [ww_W, List.getElem?_mapIdx, h]
theorem ww_W_at {G : List ww_L} {ad : Nat → Nat} {cA : Nat → ClassId} {σ : ww_M} {k : Nat} {q : Nat × va_E} (h : (ww_W G ad cA σ)[k]? = some q) : k < G.length ∧ q.1 = ad k := by
  simp only [ww_W, List.getElem?_mapIdx, Option.map_eq_some_iff] at h
  obtain ⟨L, h1, h2⟩ := h
  exact ⟨(List.getElem?_eq_some_iff.mp h1).1, by rw [← h2]⟩
theorem ww_fs_set {ad : Nat → Nat} {f : Nat → Int32} {fs : List (Option Nat)} {j : Nat} {v : Int32} (h : fs[j]? = some none) : (ww_fs ad f fs).set j (.int v) = ww_fs ad (fun b => if b = j then v else f b) fs := by
  apply List.ext_getElem?
  intro i
  rw [List.getElem?_set]
  by_cases hij : j = i
  · subst hij
    have hl : j < fs.length := (List.getElem?_eq_some_iff.mp h).1
    simp only [ww_fs, List.getElem?_mapIdx, h, Option.map_some, ww_fld, List.length_mapIdx, hl, if_true]
  · rw [if_neg hij]
    simp only [ww_fs, List.getElem?_mapIdx]
    cases hx : fs[i]? with
    | none => rfl
    | some x =>
      cases x with
      | none => simp [ww_fld, Ne.symm hij]
      | some r => simp [ww_fld]
theorem ww_W_set {G : List ww_L} {ad : Nat → Nat} {cA : Nat → ClassId} {σ τ : ww_M} {k : Nat} {L : ww_L} {e : va_E} (h : G[k]? = some L) (he : ww_cell ad cA (τ k) L = e) (ho : ∀ a, a ≠ k → τ a = σ a) : (ww_W G ad cA σ).set k (ad k, e) = ww_W G ad cA τ := by
  apply List.ext_getElem?
  intro i
  rw [List.getElem?_set]
  have hl : k < G.length := (List.getElem?_eq_some_iff.mp h).1
  by_cases hij : k = i
  · subst hij
    rw [ww_W_get (σ := τ) h, he]
    simp [ww_W, hl]
  · rw [if_neg hij]
    simp only [ww_W, List.getElem?_mapIdx]
    cases hx : G[i]? with
    | none => rfl
    | some x => simp only [Option.map_some]; rw [ho i (Ne.symm hij)]
theorem ww_W_put {G : List ww_L} {ad : Nat → Nat} {cA : Nat → ClassId} {σ : ww_M} {k j ci : Nat} {fs : List (Option Nat)} {v : Int32} (h : G[k]? = some (.inl (ci, fs))) (hj : fs[j]? = some none) : (ww_W G ad cA σ).set k (ad k, .inr (ci, (ww_fs ad (σ k) fs).set j (.int v))) = ww_W G ad cA (ww_up σ k j v) := by
  refine ww_W_set h ?_ (fun a ha => by funext b; simp [ww_up, ha])
  rw [ww_fs_set hj]
  simp only [ww_cell]
  congr 3
  funext b
  simp [ww_up]
theorem ww_W_row {G : List ww_L} {ad : Nat → Nat} {cA : Nat → ClassId} {σ : ww_M} {k t n : Nat} {f : Nat → Int32} (h : G[k]? = some (.inr (.inl (t, n)))) : (ww_W G ad cA σ).set k (ad k, .inl (cA t, n, .inl f)) = ww_W G ad cA (ww_upr σ k f) := by
  refine ww_W_set h ?_ (fun a ha => by funext b; simp [ww_upr, ha])
  have e : ww_upr σ k f k = f := by funext b; simp [ww_upr]
  simp [ww_cell, e]
theorem ww_up_row (σ : ww_M) (k j : Nat) (v : Int32) : ww_upr σ k (upd (σ k) j v) = ww_up σ k j v := by
  funext a b
  by_cases ha : a = k
  · subst ha; simp [ww_upr, ww_up, upd]
  · simp [ww_upr, ww_up, ha]
def ww_at (G : List ww_L) (o : Nat) (L : List ww_L) : Prop := ∀ i x, L[i]? = some x → G[o + i]? = some x
abbrev ww_tys (cA : Nat → ClassId) : List (ClassId × FieldType) := [(cA 0, .int), (cA 1, .byte), (cA 2, .boolean), (cA 3, .object RX1), (cA 4, .object RX2)]
/-! ===== strings: sand tide law rot gangs whale ===== -/
def ww_sl : List Nat := [4, 4, 3, 3, 5, 5]
def ww_sb : List (List Int32) := [[115, 97, 110, 100], [116, 105, 100, 101], [108, 97, 119], [114, 111, 116], [103, 97, 110, 103, 115], [119, 104, 97, 108, 101]]
/-! ===== what is known beside the world: D, cA, adV, adK ===== -/
abbrev ww_Y : Type := va_G × (Nat → ClassId) × (Nat → Nat) × (Nat → Nat)
def ww_RS (Y : ww_Y) (U : State) : Prop := vk_R RX5 91 "sand" (Y.2.2.2 0) U ∧ vk_R RX5 97 "tide" (Y.2.2.2 1) U ∧ vk_R RX5 99 "law" (Y.2.2.2 2) U ∧ vk_R RX5 101 "rot" (Y.2.2.2 3) U ∧ vk_R RX5 103 "gangs" (Y.2.2.2 4) U ∧ vk_R RX5 105 "whale" (Y.2.2.2 5) U
theorem ww_RS.same {Y : ww_Y} {U V : State} (hv : U.vm = V.vm) (h : ww_RS Y U) : ww_RS Y V := by
  obtain ⟨h0, h1, h2, h3, h4, h5⟩ := h
  exact ⟨h0.same hv.symm, h1.same hv.symm, h2.same hv.symm, h3.same hv.symm, h4.same hv.symm, h5.same hv.symm⟩
theorem ww_RS.warm {Y : ww_Y} {s U : State} (hW : s.WarmedH U.vm) (h : ww_RS Y s) : ww_RS Y U := by
  obtain ⟨h0, h1, h2, h3, h4, h5⟩ := h
  exact ⟨h0.warm hW, h1.warm hW, h2.warm hW, h3.warm hW, h4.warm hW, h5.warm hW⟩
def ww_Ev (Y : ww_Y) (A : Nat → Prop) (U : State) (H : Heap) : Prop := va_K Y.1 vwCl (ww_tys Y.2.1) U ∧ (∀ w ∈ ww_N, va_Nw w U) ∧ vk_S 6 ww_sl ww_sb Y.2.2.2 Y.2.2.1 A U H ∧ va_Z "java/lang/String" "COMPACT_STRINGS" "Z" (.int 1) A U H ∧ ww_RS Y U
def ww_AA (G : List ww_L) (ad : Nat → Nat) (sz : Nat) : Nat → Prop := fun q => (∃ k, k < G.length ∧ q = ad k) ∨ sz ≤ q
def ww_Rm (h : Nat) : Room := { frames := h, cells := 0, slots := 0, locals := 40 * h }
abbrev ww_R : Type := Option Value × ww_M
def ww_Qr (Y : ww_Y) (ad : Nat → Nat) (G : List ww_L) (A : Nat → Prop) (r : ww_R) : Array Value → State → Outcome → State → Prop := fun _ st oc t => oc = .returned r.1 ∧ va_P Y.1 vwCl (ww_W G ad Y.2.1 r.2) t.heap ∧ va_F A st t
def ww_Pc (Y : ww_Y) (ad : Nat → Nat) (G : List ww_L) (sz : Nat) (σ : ww_M) : State → Prop := fun U => U.heap.size = sz ∧ va_P Y.1 vwCl (ww_W G ad Y.2.1 σ) U.heap ∧ ww_Ev Y (ww_AA G ad sz) U U.heap ∧ ∀ i j, i < G.length → j < G.length → ad i = ad j → i = j
/-- a method's contract: from memory sg, with the answer and the memory that the pure function tells -/
def ww_Cn (l : Launch) (Y : ww_Y) (ad : Nat → Nat) (G : List ww_L) (y : MethodName) (cc : ByteArray) (nL : Nat) (ret : Option FieldType) (h : Nat) (av : List Value) (σ : ww_M) (o : Option ww_R) : Prop :=
  ∀ (sz : Nat) (r : ww_R), o = some r → Met l y (.code y cc nL ret :: ww_T) (ww_Rm h) (va_Pc av (ww_Pc Y ad G sz σ)) (ww_Qr Y ad G (ww_AA G ad sz) r) 0 0 (ww_AA G ad sz)
/-- what is fixed in a walk -/
abbrev ww_X : Type := Program × Launch × Env × Room × State × MethodId × Array Value × List Frame × Method × Code × Nat × Nat × (ww_R → State → Prop) × (Nat → Prop)
def ww_V (X : ww_X) (Y : ww_Y) (ad : Nat → Nat) (G : List ww_L) (nL : Nat) (σ : ww_M) (pc : Nat) (lv : List (Nat × Value)) (st : List Value) (o : Option ww_R) : Prop := match X with
  | (p, l, e, R, s, m, args, below, meth, c, cells, slots, Qf, A) => ∀ (H : Heap) (locs : List Loc) (ls : Array Slot) (r : ww_R), o = some r → va_P Y.1 vwCl (ww_W G ad Y.2.1 σ) H → va_S A s.heap H locs → lv_has ls nL lv → W p l e R s m args below meth c H locs cells slots (Qf r) (F0 m pc ls st)
def ww_C (X : ww_X) (l0 : Launch) (Y : ww_Y) (ad : Nat → Nat) (G : List ww_L) (h : Nat) (cc : ByteArray) (nL : Nat) (own : String) : Prop := match X with
  | (p, l, e, R, s, m, args, below, meth, c, cells, slots, Qf, A) => l = l0 ∧ (h ≤ R.frames ∧ 40 * h ≤ R.locals ∧ cells ≤ R.cells ∧ slots ≤ R.slots) ∧ p.tables.exec = Jvm.exec ∧ c.code = cc ∧ c.maxLocals = nL ∧ s.vm.findClass own = some m.cls ∧ (∀ w ∈ ww_T, w.before args s = true) ∧ ww_Ev Y A s s.heap ∧ (∀ i j, i < G.length → j < G.length → ad i = ad j → i = j) ∧ (∀ k, k < G.length → A (ad k)) ∧ (∀ q, s.heap.size ≤ q → A q)
def ww_CR (X : ww_X) (Y : ww_Y) (ad : Nat → Nat) (G : List ww_L) (ret : Option FieldType) : Prop := match X with
  | (p, l, e, R, s, m, args, below, meth, c, cells, slots, Qf, A) => meth.sig.returnType = ret ∧ meth.locks = false ∧ Qf = fun r => MQ below (ww_Qr Y ad G A r) args s cells slots A
theorem ww_D {G : List ww_L} {ad : Nat → Nat} {cA : Nat → ClassId} {σ : ww_M} {A : Nat → Prop} (hI : ∀ i j, i < G.length → j < G.length → ad i = ad j → i = j) (hA : ∀ k, k < G.length → A (ad k)) : va_D A (ww_W G ad cA σ) := by
  refine ⟨fun i j p q h1 h2 e => ?_, fun k q h => ?_⟩
  · obtain ⟨a1, a2⟩ := ww_W_at h1
    obtain ⟨b1, b2⟩ := ww_W_at h2
    exact hI i j a1 b1 (by rw [← a2, ← b2]; exact e)
  · obtain ⟨a1, a2⟩ := ww_W_at h
    rw [a2]
    exact hA k a1
theorem ww_Ev.warm {Y : ww_Y} {A B : Nat → Prop} {s U : State} {H H1 : Heap} (hW : s.WarmedH U.vm) (h : ww_Ev Y A s H) (hq : ∀ a : Nat, a < H.size → ¬ A a → H1[a]? = H[a]?) (hAB : ∀ q, q < H1.size → B q → A q) (hAB' : ∀ q, B q → A q) : ww_Ev Y B U H1 := by
  obtain ⟨h1, h2, h3, h4, h5⟩ := h
  refine ⟨va_K.moved hW.alike h1, fun w hw => ?_, ((h3.moved hW.alike).kept hq).narrow hAB', ?_, h5.warm hW⟩
  · have hg := ww_Ng hw
    have hz := h2 w hw
    cases w <;> first | exact va_Nw.warmF hW hz | exact va_Nw.warmM hW hz | cases hg
  · exact ((h4.moved hW.alike).kept hq).narrow hAB'
/-! ===== rows that leave the memory ===== -/
section WROWS
variable {X : ww_X} {l0 : Launch} {Y : ww_Y} {ad : Nat → Nat} {G : List ww_L} {h nL pc : Nat} {cc : ByteArray} {own : String} {σ : ww_M} {lv lv' : List (Nat × Value)} {st : List Value} {o : Option ww_R}
theorem ww_eq {o' : Option ww_R} (e : o = o') (k : ww_V X Y ad G nL σ pc lv st o') : ww_V X Y ad G nL σ pc lv st o := e ▸ k
theorem ww_none (e : o = none) : ww_V X Y ad G nL σ pc lv st o := by
  subst e
  obtain ⟨p, l, e, R, s, m, args, below, meth, c, cells, slots, Qf, A⟩ := X
  intro H locs ls r hr
  cases hr
theorem ww_lv (ks : List Nat) (he : lv_pick lv ks = lv') (k : ww_V X Y ad G nL σ pc lv' st o) : ww_V X Y ad G nL σ pc lv st o := by
  obtain ⟨p, l, e, R, s, m, args, below, meth, c, cells, slots, Qf, A⟩ := X
  intro H locs ls r hr hP hS hl
  exact k H locs ls r hr hP hS (lv_sub hl ks he)
end WROWS
end
section
/-! ===== numbers as the machine has them ===== -/
def ww_rem (x y : Int32) : Int32 := x - x / y * y
def ww_remL (x y : Int64) : Int64 := x - x / y * y
def ww_shl (x y : Int32) : Int32 := x <<< (y &&& 31)
def ww_shr (x y : Int32) : Int32 := x >>> (y &&& 31)
def ww_ushr (x y : Int32) : Int32 := (x.toUInt32 >>> (y.toUInt32 &&& Int32.toUInt32 31)).toInt32
def ww_max (x y : Int32) : Int32 := if x < y then y else x
def ww_min (x y : Int32) : Int32 := if y < x then y else x
def ww_nz (y : Int32) : Bool := decide (¬ y = 0)
def ww_lnz (y : Int64) : Bool := decide (¬ y = 0)
def ww_in (i : Int32) (n : Nat) : Bool := decide (¬ (i < 0 ∨ n ≤ i.toNatClampNeg))
def ww_ix (i : Int32) : Nat := i.toNatClampNeg
def ww_isb (x : Int32) : Bool := decide (x = 0 ∨ x = 1)
def ww_ck {α : Type} (b : Bool) (E : Option α) : Option α := match b with
  | true => E
  | false => none
theorem ww_ck_some {α β : Type} {b : Bool} {E : Option α} {K : α → Option β} {r : β} (h : (ww_ck b E).bind K = some r) : b = true ∧ E.bind K = some r := by
  cases b with
  | true => exact ⟨rfl, h⟩
  | false => cases h
theorem ww_in_p {i : Int32} {n : Nat} (h : ww_in i n = true) : vp_in i n := by
  show ¬ (i < 0 ∨ n ≤ i.toNatClampNeg)
  exact of_decide_eq_true h
theorem ww_isb_n {x : Int32} (h : ww_isb x = true) : narrow .boolean (.int x) = .int x := by
  rcases of_decide_eq_true h with rfl | rfl <;> rfl
/-- a loop: its body goes on (inl) or is through (inr) -/
def ww_it {α β : Type} (f : α → Option (α ⊕ β)) : Nat → α → Option β
  | 0, _ => none
  | n + 1, x => match f x with
    | none => none
    | some (.inl y) => ww_it f n y
    | some (.inr b) => some b
def ww_F : Nat := 10000
section WROWS
variable {X : ww_X} {l0 : Launch} {Y : ww_Y} {ad : Nat → Nat} {G : List ww_L} {h nL pc : Nat} {cc : ByteArray} {own : String} {σ : ww_M} {lv lv' : List (Nat × Value)} {st : List Value} {o : Option ww_R} {α β : Type} {K : α → Option ww_R}
theorem ww_iconst (hC : ww_C X l0 Y ad G h cc nL own) {n : Int} (hd : decode cc pc = .ok (.iconst n, 1)) {v : Int32} (hv : Int32.ofInt n = v) (kk : ww_V X Y ad G nL σ (pc + 1) lv (.int v :: st) o) : ww_V X Y ad G nL σ pc lv st o := by
  obtain ⟨p, l, e, R, s, m, args, below, meth, c, cells, slots, Qf, A⟩ := X
  obtain ⟨rfl, ⟨hRf, hRl, hRc, hRs⟩, hx, hb, hml, hown, hts, hEv, hI, hAk, hA⟩ := hC
  intro H locs ls r hr hP hS hl
  exact lv_iconst hx hb hd hv (kk H locs ls r hr hP hS hl)
theorem ww_bipush (hC : ww_C X l0 Y ad G h cc nL own) {n : Int} (hd : decode cc pc = .ok (.bipush n, 2)) {v : Int32} (hv : (Int8.ofInt n).toInt32 = v) (kk : ww_V X Y ad G nL σ (pc + 2) lv (.int v :: st) o) : ww_V X Y ad G nL σ pc lv st o := by
  obtain ⟨p, l, e, R, s, m, args, below, meth, c, cells, slots, Qf, A⟩ := X
  obtain ⟨rfl, ⟨hRf, hRl, hRc, hRs⟩, hx, hb, hml, hown, hts, hEv, hI, hAk, hA⟩ := hC
  intro H locs ls r hr hP hS hl
  exact lv_bipush hx hb hd hv (kk H locs ls r hr hP hS hl)
theorem ww_sipush (hC : ww_C X l0 Y ad G h cc nL own) {n : Int} (hd : decode cc pc = .ok (.sipush n, 3)) {v : Int32} (hv : (Int16.ofInt n).toInt32 = v) (kk : ww_V X Y ad G nL σ (pc + 3) lv (.int v :: st) o) : ww_V X Y ad G nL σ pc lv st o := by
  obtain ⟨p, l, e, R, s, m, args, below, meth, c, cells, slots, Qf, A⟩ := X
  obtain ⟨rfl, ⟨hRf, hRl, hRc, hRs⟩, hx, hb, hml, hown, hts, hEv, hI, hAk, hA⟩ := hC
  intro H locs ls r hr hP hS hl
  exact lv_sipush hx hb hd hv (kk H locs ls r hr hP hS hl)
theorem ww_lconst (hC : ww_C X l0 Y ad G h cc nL own) {n : Fin 2} (hd : decode cc pc = .ok (.lconst n, 1)) {v : Int64} (hv : Int64.ofNat (n : Nat) = v) (kk : ww_V X Y ad G nL σ (pc + 1) lv (.long v :: st) o) : ww_V X Y ad G nL σ pc lv st o := by
  obtain ⟨p, l, e, R, s, m, args, below, meth, c, cells, slots, Qf, A⟩ := X
  obtain ⟨rfl, ⟨hRf, hRl, hRc, hRs⟩, hx, hb, hml, hown, hts, hEv, hI, hAk, hA⟩ := hC
  intro H locs ls r hr hP hS hl
  exact lv_lconst hx hb hd hv (kk H locs ls r hr hP hS hl)
theorem ww_ldc (hC : ww_C X l0 Y ad G h cc nL own) {n : Nat} {v : Int32} (hd : decode cc pc = .ok (.ldc n, 2)) (hw : Cond.constant own n v ∈ ww_T) (kk : ww_V X Y ad G nL σ (pc + 2) lv (.int v :: st) o) : ww_V X Y ad G nL σ pc lv st o := by
  obtain ⟨p, l, e, R, s, m, args, below, meth, c, cells, slots, Qf, A⟩ := X
  obtain ⟨rfl, ⟨hRf, hRl, hRc, hRs⟩, hx, hb, hml, hown, hts, hEv, hI, hAk, hA⟩ := hC
  intro H locs ls r hr hP hS hl
  exact lv_ldc hx hb hown (hts _ hw) hd (kk H locs ls r hr hP hS hl)
theorem ww_ldcw (hC : ww_C X l0 Y ad G h cc nL own) {n : Nat} {v : Int32} (hd : decode cc pc = .ok (.ldc_w n, 3)) (hw : Cond.constant own n v ∈ ww_T) (kk : ww_V X Y ad G nL σ (pc + 3) lv (.int v :: st) o) : ww_V X Y ad G nL σ pc lv st o := by
  obtain ⟨p, l, e, R, s, m, args, below, meth, c, cells, slots, Qf, A⟩ := X
  obtain ⟨rfl, ⟨hRf, hRl, hRc, hRs⟩, hx, hb, hml, hown, hts, hEv, hI, hAk, hA⟩ := hC
  intro H locs ls r hr hP hS hl
  exact lv_ldcw hx hb hown (hts _ hw) hd (kk H locs ls r hr hP hS hl)
theorem ww_ldc2 (hC : ww_C X l0 Y ad G h cc nL own) {n : Nat} {v : Int64} (hd : decode cc pc = .ok (.ldc2_w n, 3)) (hw : Cond.constantLong own n v ∈ ww_T) (kk : ww_V X Y ad G nL σ (pc + 3) lv (.long v :: st) o) : ww_V X Y ad G nL σ pc lv st o := by
  obtain ⟨p, l, e, R, s, m, args, below, meth, c, cells, slots, Qf, A⟩ := X
  obtain ⟨rfl, ⟨hRf, hRl, hRc, hRs⟩, hx, hb, hml, hown, hts, hEv, hI, hAk, hA⟩ := hC
  intro H locs ls r hr hP hS hl
  exact lv_ldc2 hx hb hown (hts _ hw) hd (kk H locs ls r hr hP hS hl)
theorem ww_iload_n (hC : ww_C X l0 Y ad G h cc nL own) {n : Fin 4} {i : Nat} {x : Int32} (j : Nat) (hj : lv[j]? = some (i, .int x)) (hd : decode cc pc = .ok (.iload_n n, 1)) (hi : (n : Nat) = i) (kk : ww_V X Y ad G nL σ (pc + 1) lv (.int x :: st) o) : ww_V X Y ad G nL σ pc lv st o := by
  obtain ⟨p, l, e, R, s, m, args, below, meth, c, cells, slots, Qf, A⟩ := X
  obtain ⟨rfl, ⟨hRf, hRl, hRc, hRs⟩, hx, hb, hml, hown, hts, hEv, hI, hAk, hA⟩ := hC
  intro H locs ls r hr hP hS hl
  exact lv_iload_n hx hb hd hi (lv_at hl j hj) (kk H locs ls r hr hP hS hl)
theorem ww_iload (hC : ww_C X l0 Y ad G h cc nL own) {i : Nat} {x : Int32} (j : Nat) (hj : lv[j]? = some (i, .int x)) (hd : decode cc pc = .ok (.iload i, 2)) (kk : ww_V X Y ad G nL σ (pc + 2) lv (.int x :: st) o) : ww_V X Y ad G nL σ pc lv st o := by
  obtain ⟨p, l, e, R, s, m, args, below, meth, c, cells, slots, Qf, A⟩ := X
  obtain ⟨rfl, ⟨hRf, hRl, hRc, hRs⟩, hx, hb, hml, hown, hts, hEv, hI, hAk, hA⟩ := hC
  intro H locs ls r hr hP hS hl
  exact lv_iload hx hb hd (lv_at hl j hj) (kk H locs ls r hr hP hS hl)
theorem ww_istore_n (hC : ww_C X l0 Y ad G h cc nL own) {n : Fin 4} {i : Nat} {x : Int32} (hd : decode cc pc = .ok (.istore_n n, 1)) (hi : (n : Nat) = i) (hn : i < nL) (hl2 : (i, Value.int x) :: lv.filter (fun q => !(q.1 == i) && !(q.1 + 1 == i && q.2.category == 2)) = lv') (kk : ww_V X Y ad G nL σ (pc + 1) lv' st o) : ww_V X Y ad G nL σ pc lv (.int x :: st) o := by
  obtain ⟨p, l, e, R, s, m, args, below, meth, c, cells, slots, Qf, A⟩ := X
  obtain ⟨rfl, ⟨hRf, hRl, hRc, hRs⟩, hx, hb, hml, hown, hts, hEv, hI, hAk, hA⟩ := hC
  intro H locs ls r hr hP hS hl
  exact lv_istore_n hx hb hd hi hl hn hl2 (fun ls hl => kk H locs ls r hr hP hS hl)
theorem ww_istore (hC : ww_C X l0 Y ad G h cc nL own) {i : Nat} {x : Int32} (hd : decode cc pc = .ok (.istore i, 2)) (hn : i < nL) (hl2 : (i, Value.int x) :: lv.filter (fun q => !(q.1 == i) && !(q.1 + 1 == i && q.2.category == 2)) = lv') (kk : ww_V X Y ad G nL σ (pc + 2) lv' st o) : ww_V X Y ad G nL σ pc lv (.int x :: st) o := by
  obtain ⟨p, l, e, R, s, m, args, below, meth, c, cells, slots, Qf, A⟩ := X
  obtain ⟨rfl, ⟨hRf, hRl, hRc, hRs⟩, hx, hb, hml, hown, hts, hEv, hI, hAk, hA⟩ := hC
  intro H locs ls r hr hP hS hl
  exact lv_istore hx hb hd hl hn hl2 (fun ls hl => kk H locs ls r hr hP hS hl)
theorem ww_lload_n (hC : ww_C X l0 Y ad G h cc nL own) {n : Fin 4} {i : Nat} {x : Int64} (j : Nat) (hj : lv[j]? = some (i, .long x)) (hd : decode cc pc = .ok (.lload_n n, 1)) (hi : (n : Nat) = i) (kk : ww_V X Y ad G nL σ (pc + 1) lv (.long x :: st) o) : ww_V X Y ad G nL σ pc lv st o := by
  obtain ⟨p, l, e, R, s, m, args, below, meth, c, cells, slots, Qf, A⟩ := X
  obtain ⟨rfl, ⟨hRf, hRl, hRc, hRs⟩, hx, hb, hml, hown, hts, hEv, hI, hAk, hA⟩ := hC
  intro H locs ls r hr hP hS hl
  exact lv_lload_n hx hb hd hi (lv_at hl j hj) (kk H locs ls r hr hP hS hl)
theorem ww_lload (hC : ww_C X l0 Y ad G h cc nL own) {i : Nat} {x : Int64} (j : Nat) (hj : lv[j]? = some (i, .long x)) (hd : decode cc pc = .ok (.lload i, 2)) (kk : ww_V X Y ad G nL σ (pc + 2) lv (.long x :: st) o) : ww_V X Y ad G nL σ pc lv st o := by
  obtain ⟨p, l, e, R, s, m, args, below, meth, c, cells, slots, Qf, A⟩ := X
  obtain ⟨rfl, ⟨hRf, hRl, hRc, hRs⟩, hx, hb, hml, hown, hts, hEv, hI, hAk, hA⟩ := hC
  intro H locs ls r hr hP hS hl
  exact lv_lload hx hb hd (lv_at hl j hj) (kk H locs ls r hr hP hS hl)
theorem ww_lstore_n (hC : ww_C X l0 Y ad G h cc nL own) {n : Fin 4} {i : Nat} {x : Int64} (hd : decode cc pc = .ok (.lstore_n n, 1)) (hi : (n : Nat) = i) (hn : i + 1 < nL) (hl2 : (i, Value.long x) :: lv.filter (fun q => !(q.1 == i) && (!(q.1 == i + 1) && !(q.1 + 1 == i && q.2.category == 2))) = lv') (kk : ww_V X Y ad G nL σ (pc + 1) lv' st o) : ww_V X Y ad G nL σ pc lv (.long x :: st) o := by
  obtain ⟨p, l, e, R, s, m, args, below, meth, c, cells, slots, Qf, A⟩ := X
  obtain ⟨rfl, ⟨hRf, hRl, hRc, hRs⟩, hx, hb, hml, hown, hts, hEv, hI, hAk, hA⟩ := hC
  intro H locs ls r hr hP hS hl
  exact lv_lstore_n hx hb hd hi hl hn hl2 (fun ls hl => kk H locs ls r hr hP hS hl)
theorem ww_lstore (hC : ww_C X l0 Y ad G h cc nL own) {i : Nat} {x : Int64} (hd : decode cc pc = .ok (.lstore i, 2)) (hn : i + 1 < nL) (hl2 : (i, Value.long x) :: lv.filter (fun q => !(q.1 == i) && (!(q.1 == i + 1) && !(q.1 + 1 == i && q.2.category == 2))) = lv') (kk : ww_V X Y ad G nL σ (pc + 2) lv' st o) : ww_V X Y ad G nL σ pc lv (.long x :: st) o := by
  obtain ⟨p, l, e, R, s, m, args, below, meth, c, cells, slots, Qf, A⟩ := X
  obtain ⟨rfl, ⟨hRf, hRl, hRc, hRs⟩, hx, hb, hml, hown, hts, hEv, hI, hAk, hA⟩ := hC
  intro H locs ls r hr hP hS hl
  exact lv_lstore hx hb hd hl hn hl2 (fun ls hl => kk H locs ls r hr hP hS hl)
theorem ww_aload_n (hC : ww_C X l0 Y ad G h cc nL own) {n : Fin 4} {i : Nat} {x : Nat} (j : Nat) (hj : lv[j]? = some (i, .ref x)) (hd : decode cc pc = .ok (.aload_n n, 1)) (hi : (n : Nat) = i) (kk : ww_V X Y ad G nL σ (pc + 1) lv (.ref x :: st) o) : ww_V X Y ad G nL σ pc lv st o := by
  obtain ⟨p, l, e, R, s, m, args, below, meth, c, cells, slots, Qf, A⟩ := X
  obtain ⟨rfl, ⟨hRf, hRl, hRc, hRs⟩, hx, hb, hml, hown, hts, hEv, hI, hAk, hA⟩ := hC
  intro H locs ls r hr hP hS hl
  exact lv_aload_n hx hb hd hi (lv_at hl j hj) (kk H locs ls r hr hP hS hl)
theorem ww_aload (hC : ww_C X l0 Y ad G h cc nL own) {i : Nat} {x : Nat} (j : Nat) (hj : lv[j]? = some (i, .ref x)) (hd : decode cc pc = .ok (.aload i, 2)) (kk : ww_V X Y ad G nL σ (pc + 2) lv (.ref x :: st) o) : ww_V X Y ad G nL σ pc lv st o := by
  obtain ⟨p, l, e, R, s, m, args, below, meth, c, cells, slots, Qf, A⟩ := X
  obtain ⟨rfl, ⟨hRf, hRl, hRc, hRs⟩, hx, hb, hml, hown, hts, hEv, hI, hAk, hA⟩ := hC
  intro H locs ls r hr hP hS hl
  exact lv_aload hx hb hd (lv_at hl j hj) (kk H locs ls r hr hP hS hl)
theorem ww_astore_n (hC : ww_C X l0 Y ad G h cc nL own) {n : Fin 4} {i : Nat} {x : Nat} (hd : decode cc pc = .ok (.astore_n n, 1)) (hi : (n : Nat) = i) (hn : i < nL) (hl2 : (i, Value.ref x) :: lv.filter (fun q => !(q.1 == i) && !(q.1 + 1 == i && q.2.category == 2)) = lv') (kk : ww_V X Y ad G nL σ (pc + 1) lv' st o) : ww_V X Y ad G nL σ pc lv (.ref x :: st) o := by
  obtain ⟨p, l, e, R, s, m, args, below, meth, c, cells, slots, Qf, A⟩ := X
  obtain ⟨rfl, ⟨hRf, hRl, hRc, hRs⟩, hx, hb, hml, hown, hts, hEv, hI, hAk, hA⟩ := hC
  intro H locs ls r hr hP hS hl
  exact lv_astore_n hx hb hd hi hl hn hl2 (fun ls hl => kk H locs ls r hr hP hS hl)
theorem ww_astore (hC : ww_C X l0 Y ad G h cc nL own) {i : Nat} {x : Nat} (hd : decode cc pc = .ok (.astore i, 2)) (hn : i < nL) (hl2 : (i, Value.ref x) :: lv.filter (fun q => !(q.1 == i) && !(q.1 + 1 == i && q.2.category == 2)) = lv') (kk : ww_V X Y ad G nL σ (pc + 2) lv' st o) : ww_V X Y ad G nL σ pc lv (.ref x :: st) o := by
  obtain ⟨p, l, e, R, s, m, args, below, meth, c, cells, slots, Qf, A⟩ := X
  obtain ⟨rfl, ⟨hRf, hRl, hRc, hRs⟩, hx, hb, hml, hown, hts, hEv, hI, hAk, hA⟩ := hC
  intro H locs ls r hr hP hS hl
  exact lv_astore hx hb hd hl hn hl2 (fun ls hl => kk H locs ls r hr hP hS hl)
theorem ww_iinc (hC : ww_C X l0 Y ad G h cc nL own) {i : Nat} {n : Int} {x v : Int32} (j : Nat) (hj : lv[j]? = some (i, .int x)) (hd : decode cc pc = .ok (.iinc i n, 3)) (hv : x + Int32.ofInt n = v) (hn : i < nL) (hl2 : (i, Value.int v) :: lv.filter (fun q => !(q.1 == i) && !(q.1 + 1 == i && q.2.category == 2)) = lv') (kk : ww_V X Y ad G nL σ (pc + 3) lv' st o) : ww_V X Y ad G nL σ pc lv st o := by
  obtain ⟨p, l, e, R, s, m, args, below, meth, c, cells, slots, Qf, A⟩ := X
  obtain ⟨rfl, ⟨hRf, hRl, hRc, hRs⟩, hx, hb, hml, hown, hts, hEv, hI, hAk, hA⟩ := hC
  intro H locs ls r hr hP hS hl
  exact lv_iinc hx hb hd hl hj hv hn hl2 (fun ls hl => kk H locs ls r hr hP hS hl)
theorem ww_iadd (hC : ww_C X l0 Y ad G h cc nL own) {x y : Int32} (hd : decode cc pc = .ok (.iadd, 1)) (kk : ww_V X Y ad G nL σ (pc + 1) lv (.int (x + y) :: st) o) : ww_V X Y ad G nL σ pc lv (.int y :: .int x :: st) o := by
  obtain ⟨p, l, e, R, s, m, args, below, meth, c, cells, slots, Qf, A⟩ := X
  obtain ⟨rfl, ⟨hRf, hRl, hRc, hRs⟩, hx, hb, hml, hown, hts, hEv, hI, hAk, hA⟩ := hC
  intro H locs ls r hr hP hS hl
  exact lv_iadd hx hb hd (kk H locs ls r hr hP hS hl)
theorem ww_isub (hC : ww_C X l0 Y ad G h cc nL own) {x y : Int32} (hd : decode cc pc = .ok (.isub, 1)) (kk : ww_V X Y ad G nL σ (pc + 1) lv (.int (x - y) :: st) o) : ww_V X Y ad G nL σ pc lv (.int y :: .int x :: st) o := by
  obtain ⟨p, l, e, R, s, m, args, below, meth, c, cells, slots, Qf, A⟩ := X
  obtain ⟨rfl, ⟨hRf, hRl, hRc, hRs⟩, hx, hb, hml, hown, hts, hEv, hI, hAk, hA⟩ := hC
  intro H locs ls r hr hP hS hl
  exact lv_isub hx hb hd (kk H locs ls r hr hP hS hl)
theorem ww_imul (hC : ww_C X l0 Y ad G h cc nL own) {x y : Int32} (hd : decode cc pc = .ok (.imul, 1)) (kk : ww_V X Y ad G nL σ (pc + 1) lv (.int (x * y) :: st) o) : ww_V X Y ad G nL σ pc lv (.int y :: .int x :: st) o := by
  obtain ⟨p, l, e, R, s, m, args, below, meth, c, cells, slots, Qf, A⟩ := X
  obtain ⟨rfl, ⟨hRf, hRl, hRc, hRs⟩, hx, hb, hml, hown, hts, hEv, hI, hAk, hA⟩ := hC
  intro H locs ls r hr hP hS hl
  exact lv_imul hx hb hd (kk H locs ls r hr hP hS hl)
theorem ww_iand (hC : ww_C X l0 Y ad G h cc nL own) {x y : Int32} (hd : decode cc pc = .ok (.iand, 1)) (kk : ww_V X Y ad G nL σ (pc + 1) lv (.int (x &&& y) :: st) o) : ww_V X Y ad G nL σ pc lv (.int y :: .int x :: st) o := by
  obtain ⟨p, l, e, R, s, m, args, below, meth, c, cells, slots, Qf, A⟩ := X
  obtain ⟨rfl, ⟨hRf, hRl, hRc, hRs⟩, hx, hb, hml, hown, hts, hEv, hI, hAk, hA⟩ := hC
  intro H locs ls r hr hP hS hl
  exact lv_iand hx hb hd (kk H locs ls r hr hP hS hl)
theorem ww_ior (hC : ww_C X l0 Y ad G h cc nL own) {x y : Int32} (hd : decode cc pc = .ok (.ior, 1)) (kk : ww_V X Y ad G nL σ (pc + 1) lv (.int (x ||| y) :: st) o) : ww_V X Y ad G nL σ pc lv (.int y :: .int x :: st) o := by
  obtain ⟨p, l, e, R, s, m, args, below, meth, c, cells, slots, Qf, A⟩ := X
  obtain ⟨rfl, ⟨hRf, hRl, hRc, hRs⟩, hx, hb, hml, hown, hts, hEv, hI, hAk, hA⟩ := hC
  intro H locs ls r hr hP hS hl
  exact lv_ior hx hb hd (kk H locs ls r hr hP hS hl)
theorem ww_ixor (hC : ww_C X l0 Y ad G h cc nL own) {x y : Int32} (hd : decode cc pc = .ok (.ixor, 1)) (kk : ww_V X Y ad G nL σ (pc + 1) lv (.int (x ^^^ y) :: st) o) : ww_V X Y ad G nL σ pc lv (.int y :: .int x :: st) o := by
  obtain ⟨p, l, e, R, s, m, args, below, meth, c, cells, slots, Qf, A⟩ := X
  obtain ⟨rfl, ⟨hRf, hRl, hRc, hRs⟩, hx, hb, hml, hown, hts, hEv, hI, hAk, hA⟩ := hC
  intro H locs ls r hr hP hS hl
  exact lv_ixor hx hb hd (kk H locs ls r hr hP hS hl)
theorem ww_ishl (hC : ww_C X l0 Y ad G h cc nL own) {x y : Int32} (hd : decode cc pc = .ok (.ishl, 1)) (kk : ww_V X Y ad G nL σ (pc + 1) lv (.int (ww_shl x y) :: st) o) : ww_V X Y ad G nL σ pc lv (.int y :: .int x :: st) o := by
  obtain ⟨p, l, e, R, s, m, args, below, meth, c, cells, slots, Qf, A⟩ := X
  obtain ⟨rfl, ⟨hRf, hRl, hRc, hRs⟩, hx, hb, hml, hown, hts, hEv, hI, hAk, hA⟩ := hC
  intro H locs ls r hr hP hS hl
  exact lv_ishl hx hb hd (kk H locs ls r hr hP hS hl)
theorem ww_ishr (hC : ww_C X l0 Y ad G h cc nL own) {x y : Int32} (hd : decode cc pc = .ok (.ishr, 1)) (kk : ww_V X Y ad G nL σ (pc + 1) lv (.int (ww_shr x y) :: st) o) : ww_V X Y ad G nL σ pc lv (.int y :: .int x :: st) o := by
  obtain ⟨p, l, e, R, s, m, args, below, meth, c, cells, slots, Qf, A⟩ := X
  obtain ⟨rfl, ⟨hRf, hRl, hRc, hRs⟩, hx, hb, hml, hown, hts, hEv, hI, hAk, hA⟩ := hC
  intro H locs ls r hr hP hS hl
  exact lv_ishr hx hb hd (kk H locs ls r hr hP hS hl)
theorem ww_iushr (hC : ww_C X l0 Y ad G h cc nL own) {x y : Int32} (hd : decode cc pc = .ok (.iushr, 1)) (kk : ww_V X Y ad G nL σ (pc + 1) lv (.int (ww_ushr x y) :: st) o) : ww_V X Y ad G nL σ pc lv (.int y :: .int x :: st) o := by
  obtain ⟨p, l, e, R, s, m, args, below, meth, c, cells, slots, Qf, A⟩ := X
  obtain ⟨rfl, ⟨hRf, hRl, hRc, hRs⟩, hx, hb, hml, hown, hts, hEv, hI, hAk, hA⟩ := hC
  intro H locs ls r hr hP hS hl
  exact lv_iushr hx hb hd rfl (kk H locs ls r hr hP hS hl)
theorem ww_ladd (hC : ww_C X l0 Y ad G h cc nL own) {x y : Int64} (hd : decode cc pc = .ok (.ladd, 1)) (kk : ww_V X Y ad G nL σ (pc + 1) lv (.long (x + y) :: st) o) : ww_V X Y ad G nL σ pc lv (.long y :: .long x :: st) o := by
  obtain ⟨p, l, e, R, s, m, args, below, meth, c, cells, slots, Qf, A⟩ := X
  obtain ⟨rfl, ⟨hRf, hRl, hRc, hRs⟩, hx, hb, hml, hown, hts, hEv, hI, hAk, hA⟩ := hC
  intro H locs ls r hr hP hS hl
  exact lv_ladd hx hb hd (kk H locs ls r hr hP hS hl)
theorem ww_lsub (hC : ww_C X l0 Y ad G h cc nL own) {x y : Int64} (hd : decode cc pc = .ok (.lsub, 1)) (kk : ww_V X Y ad G nL σ (pc + 1) lv (.long (x - y) :: st) o) : ww_V X Y ad G nL σ pc lv (.long y :: .long x :: st) o := by
  obtain ⟨p, l, e, R, s, m, args, below, meth, c, cells, slots, Qf, A⟩ := X
  obtain ⟨rfl, ⟨hRf, hRl, hRc, hRs⟩, hx, hb, hml, hown, hts, hEv, hI, hAk, hA⟩ := hC
  intro H locs ls r hr hP hS hl
  exact lv_lsub hx hb hd (kk H locs ls r hr hP hS hl)
theorem ww_lmul (hC : ww_C X l0 Y ad G h cc nL own) {x y : Int64} (hd : decode cc pc = .ok (.lmul, 1)) (kk : ww_V X Y ad G nL σ (pc + 1) lv (.long (x * y) :: st) o) : ww_V X Y ad G nL σ pc lv (.long y :: .long x :: st) o := by
  obtain ⟨p, l, e, R, s, m, args, below, meth, c, cells, slots, Qf, A⟩ := X
  obtain ⟨rfl, ⟨hRf, hRl, hRc, hRs⟩, hx, hb, hml, hown, hts, hEv, hI, hAk, hA⟩ := hC
  intro H locs ls r hr hP hS hl
  exact lv_lmul hx hb hd (kk H locs ls r hr hP hS hl)
theorem ww_lcmp (hC : ww_C X l0 Y ad G h cc nL own) {x y : Int64} (hd : decode cc pc = .ok (.lcmp, 1)) (kk : ww_V X Y ad G nL σ (pc + 1) lv (.int (lg_cmp x y) :: st) o) : ww_V X Y ad G nL σ pc lv (.long y :: .long x :: st) o := by
  obtain ⟨p, l, e, R, s, m, args, below, meth, c, cells, slots, Qf, A⟩ := X
  obtain ⟨rfl, ⟨hRf, hRl, hRc, hRs⟩, hx, hb, hml, hown, hts, hEv, hI, hAk, hA⟩ := hC
  intro H locs ls r hr hP hS hl
  exact W.lcmp hx hb hd (kk H locs ls r hr hP hS hl)
theorem ww_idiv_c (hC : ww_C X l0 Y ad G h cc nL own) {x y : Int32} (hd : decode cc pc = .ok (.idiv, 1)) (hy : ¬ y = 0) (kk : ww_V X Y ad G nL σ (pc + 1) lv (.int (x / y) :: st) o) : ww_V X Y ad G nL σ pc lv (.int y :: .int x :: st) o := by
  obtain ⟨p, l, e, R, s, m, args, below, meth, c, cells, slots, Qf, A⟩ := X
  obtain ⟨rfl, ⟨hRf, hRl, hRc, hRs⟩, hx, hb, hml, hown, hts, hEv, hI, hAk, hA⟩ := hC
  intro H locs ls r hr hP hS hl
  exact lv_idiv hx hb hd hy (kk H locs ls r hr hP hS hl)
theorem ww_irem_c (hC : ww_C X l0 Y ad G h cc nL own) {x y : Int32} (hd : decode cc pc = .ok (.irem, 1)) (hy : ¬ y = 0) (kk : ww_V X Y ad G nL σ (pc + 1) lv (.int (ww_rem x y) :: st) o) : ww_V X Y ad G nL σ pc lv (.int y :: .int x :: st) o := by
  obtain ⟨p, l, e, R, s, m, args, below, meth, c, cells, slots, Qf, A⟩ := X
  obtain ⟨rfl, ⟨hRf, hRl, hRc, hRs⟩, hx, hb, hml, hown, hts, hEv, hI, hAk, hA⟩ := hC
  intro H locs ls r hr hP hS hl
  exact lv_irem hx hb hd hy (kk H locs ls r hr hP hS hl)
theorem ww_ldiv_c (hC : ww_C X l0 Y ad G h cc nL own) {x y : Int64} (hd : decode cc pc = .ok (.ldiv, 1)) (hy : ¬ y = 0) (kk : ww_V X Y ad G nL σ (pc + 1) lv (.long (x / y) :: st) o) : ww_V X Y ad G nL σ pc lv (.long y :: .long x :: st) o := by
  obtain ⟨p, l, e, R, s, m, args, below, meth, c, cells, slots, Qf, A⟩ := X
  obtain ⟨rfl, ⟨hRf, hRl, hRc, hRs⟩, hx, hb, hml, hown, hts, hEv, hI, hAk, hA⟩ := hC
  intro H locs ls r hr hP hS hl
  exact lv_ldiv hx hb hd hy (kk H locs ls r hr hP hS hl)
theorem ww_lrem_c (hC : ww_C X l0 Y ad G h cc nL own) {x y : Int64} (hd : decode cc pc = .ok (.lrem, 1)) (hy : ¬ y = 0) (kk : ww_V X Y ad G nL σ (pc + 1) lv (.long (ww_remL x y) :: st) o) : ww_V X Y ad G nL σ pc lv (.long y :: .long x :: st) o := by
  obtain ⟨p, l, e, R, s, m, args, below, meth, c, cells, slots, Qf, A⟩ := X
  obtain ⟨rfl, ⟨hRf, hRl, hRc, hRs⟩, hx, hb, hml, hown, hts, hEv, hI, hAk, hA⟩ := hC
  intro H locs ls r hr hP hS hl
  exact lv_lrem hx hb hd hy (kk H locs ls r hr hP hS hl)
theorem ww_idiv (hC : ww_C X l0 Y ad G h cc nL own) {E : Option α} {x y : Int32} (hd : decode cc pc = .ok (.idiv, 1)) (kk : ww_V X Y ad G nL σ (pc + 1) lv (.int (x / y) :: st) (E.bind K)) : ww_V X Y ad G nL σ pc lv (.int y :: .int x :: st) ((ww_ck (ww_nz y) E).bind K) := by
  obtain ⟨p, l, e, R, s, m, args, below, meth, c, cells, slots, Qf, A⟩ := X
  obtain ⟨rfl, ⟨hRf, hRl, hRc, hRs⟩, hx, hb, hml, hown, hts, hEv, hI, hAk, hA⟩ := hC
  intro H locs ls r hr hP hS hl
  obtain ⟨hg, hr⟩ := ww_ck_some hr
  exact lv_idiv hx hb hd (of_decide_eq_true hg) (kk H locs ls r hr hP hS hl)
theorem ww_irem (hC : ww_C X l0 Y ad G h cc nL own) {E : Option α} {x y : Int32} (hd : decode cc pc = .ok (.irem, 1)) (kk : ww_V X Y ad G nL σ (pc + 1) lv (.int (ww_rem x y) :: st) (E.bind K)) : ww_V X Y ad G nL σ pc lv (.int y :: .int x :: st) ((ww_ck (ww_nz y) E).bind K) := by
  obtain ⟨p, l, e, R, s, m, args, below, meth, c, cells, slots, Qf, A⟩ := X
  obtain ⟨rfl, ⟨hRf, hRl, hRc, hRs⟩, hx, hb, hml, hown, hts, hEv, hI, hAk, hA⟩ := hC
  intro H locs ls r hr hP hS hl
  obtain ⟨hg, hr⟩ := ww_ck_some hr
  exact lv_irem hx hb hd (of_decide_eq_true hg) (kk H locs ls r hr hP hS hl)
theorem ww_ldiv (hC : ww_C X l0 Y ad G h cc nL own) {E : Option α} {x y : Int64} (hd : decode cc pc = .ok (.ldiv, 1)) (kk : ww_V X Y ad G nL σ (pc + 1) lv (.long (x / y) :: st) (E.bind K)) : ww_V X Y ad G nL σ pc lv (.long y :: .long x :: st) ((ww_ck (ww_lnz y) E).bind K) := by
  obtain ⟨p, l, e, R, s, m, args, below, meth, c, cells, slots, Qf, A⟩ := X
  obtain ⟨rfl, ⟨hRf, hRl, hRc, hRs⟩, hx, hb, hml, hown, hts, hEv, hI, hAk, hA⟩ := hC
  intro H locs ls r hr hP hS hl
  obtain ⟨hg, hr⟩ := ww_ck_some hr
  exact lv_ldiv hx hb hd (of_decide_eq_true hg) (kk H locs ls r hr hP hS hl)
theorem ww_lrem (hC : ww_C X l0 Y ad G h cc nL own) {E : Option α} {x y : Int64} (hd : decode cc pc = .ok (.lrem, 1)) (kk : ww_V X Y ad G nL σ (pc + 1) lv (.long (ww_remL x y) :: st) (E.bind K)) : ww_V X Y ad G nL σ pc lv (.long y :: .long x :: st) ((ww_ck (ww_lnz y) E).bind K) := by
  obtain ⟨p, l, e, R, s, m, args, below, meth, c, cells, slots, Qf, A⟩ := X
  obtain ⟨rfl, ⟨hRf, hRl, hRc, hRs⟩, hx, hb, hml, hown, hts, hEv, hI, hAk, hA⟩ := hC
  intro H locs ls r hr hP hS hl
  obtain ⟨hg, hr⟩ := ww_ck_some hr
  exact lv_lrem hx hb hd (of_decide_eq_true hg) (kk H locs ls r hr hP hS hl)
theorem ww_i2b (hC : ww_C X l0 Y ad G h cc nL own) {x : Int32} (hd : decode cc pc = .ok (.i2b, 1)) (kk : ww_V X Y ad G nL σ (pc + 1) lv (.int x.toInt8.toInt32 :: st) o) : ww_V X Y ad G nL σ pc lv (.int x :: st) o := by
  obtain ⟨p, l, e, R, s, m, args, below, meth, c, cells, slots, Qf, A⟩ := X
  obtain ⟨rfl, ⟨hRf, hRl, hRc, hRs⟩, hx, hb, hml, hown, hts, hEv, hI, hAk, hA⟩ := hC
  intro H locs ls r hr hP hS hl
  exact lv_i2b hx hb hd rfl (kk H locs ls r hr hP hS hl)
theorem ww_i2s (hC : ww_C X l0 Y ad G h cc nL own) {x : Int32} (hd : decode cc pc = .ok (.i2s, 1)) (kk : ww_V X Y ad G nL σ (pc + 1) lv (.int x.toInt16.toInt32 :: st) o) : ww_V X Y ad G nL σ pc lv (.int x :: st) o := by
  obtain ⟨p, l, e, R, s, m, args, below, meth, c, cells, slots, Qf, A⟩ := X
  obtain ⟨rfl, ⟨hRf, hRl, hRc, hRs⟩, hx, hb, hml, hown, hts, hEv, hI, hAk, hA⟩ := hC
  intro H locs ls r hr hP hS hl
  exact lv_i2s hx hb hd rfl (kk H locs ls r hr hP hS hl)
theorem ww_i2l (hC : ww_C X l0 Y ad G h cc nL own) {x : Int32} (hd : decode cc pc = .ok (.i2l, 1)) (kk : ww_V X Y ad G nL σ (pc + 1) lv (.long x.toInt64 :: st) o) : ww_V X Y ad G nL σ pc lv (.int x :: st) o := by
  obtain ⟨p, l, e, R, s, m, args, below, meth, c, cells, slots, Qf, A⟩ := X
  obtain ⟨rfl, ⟨hRf, hRl, hRc, hRs⟩, hx, hb, hml, hown, hts, hEv, hI, hAk, hA⟩ := hC
  intro H locs ls r hr hP hS hl
  exact lv_i2l hx hb hd rfl (kk H locs ls r hr hP hS hl)
theorem ww_dup (hC : ww_C X l0 Y ad G h cc nL own) {x : Value} (hd : decode cc pc = .ok (.dup, 1)) (hx1 : x.category = 1) (kk : ww_V X Y ad G nL σ (pc + 1) lv (x :: x :: st) o) : ww_V X Y ad G nL σ pc lv (x :: st) o := by
  obtain ⟨p, l, e, R, s, m, args, below, meth, c, cells, slots, Qf, A⟩ := X
  obtain ⟨rfl, ⟨hRf, hRl, hRc, hRs⟩, hx, hb, hml, hown, hts, hEv, hI, hAk, hA⟩ := hC
  intro H locs ls r hr hP hS hl
  exact lv_dup hx hb hd hx1 (kk H locs ls r hr hP hS hl)
theorem ww_dup2 (hC : ww_C X l0 Y ad G h cc nL own) {x y : Value} (hd : decode cc pc = .ok (.dup2, 1)) (hx1 : x.category = 1) (hy1 : y.category = 1) (kk : ww_V X Y ad G nL σ (pc + 1) lv (x :: y :: x :: y :: st) o) : ww_V X Y ad G nL σ pc lv (x :: y :: st) o := by
  obtain ⟨p, l, e, R, s, m, args, below, meth, c, cells, slots, Qf, A⟩ := X
  obtain ⟨rfl, ⟨hRf, hRl, hRc, hRs⟩, hx, hb, hml, hown, hts, hEv, hI, hAk, hA⟩ := hC
  intro H locs ls r hr hP hS hl
  exact lv_dup2_11 hx hb hd hx1 hy1 (kk H locs ls r hr hP hS hl)
theorem ww_pop (hC : ww_C X l0 Y ad G h cc nL own) {x : Value} (hd : decode cc pc = .ok (.pop, 1)) (hx1 : x.category = 1) (kk : ww_V X Y ad G nL σ (pc + 1) lv st o) : ww_V X Y ad G nL σ pc lv (x :: st) o := by
  obtain ⟨p, l, e, R, s, m, args, below, meth, c, cells, slots, Qf, A⟩ := X
  obtain ⟨rfl, ⟨hRf, hRl, hRc, hRs⟩, hx, hb, hml, hown, hts, hEv, hI, hAk, hA⟩ := hC
  intro H locs ls r hr hP hS hl
  exact lv_pop hx hb hd hx1 (kk H locs ls r hr hP hS hl)
theorem ww_goto (hC : ww_C X l0 Y ad G h cc nL own) {off : Int} {tgt : Nat} (hd : decode cc pc = .ok (.goto off, 3)) (ht : (pc : Int) + off = (tgt : Int)) (kk : ww_V X Y ad G nL σ tgt lv st o) : ww_V X Y ad G nL σ pc lv st o := by
  obtain ⟨p, l, e, R, s, m, args, below, meth, c, cells, slots, Qf, A⟩ := X
  obtain ⟨rfl, ⟨hRf, hRl, hRc, hRs⟩, hx, hb, hml, hown, hts, hEv, hI, hAk, hA⟩ := hC
  intro H locs ls r hr hP hS hl
  exact lv_goto hx hb hd ht (kk H locs ls r hr hP hS hl)
theorem ww_if_eq (hC : ww_C X l0 Y ad G h cc nL own) {E1 E2 : Option α} {x : Int32} {off : Int} {tgt : Nat} (hd : decode cc pc = .ok (.ifCond .eq off, 3)) (ht : (pc : Int) + off = (tgt : Int)) (kt : ww_V X Y ad G nL σ tgt lv st (E1.bind K)) (kf : ww_V X Y ad G nL σ (pc + 3) lv st (E2.bind K)) : ww_V X Y ad G nL σ pc lv (.int x :: st) ((if x = 0 then E1 else E2).bind K) := by
  obtain ⟨p, l, e, R, s, m, args, below, meth, c, cells, slots, Qf, A⟩ := X
  obtain ⟨rfl, ⟨hRf, hRl, hRc, hRs⟩, hx, hb, hml, hown, hts, hEv, hI, hAk, hA⟩ := hC
  intro H locs ls r hr hP hS hl
  exact lv_if_eq hx hb hd ht (fun q => kt H locs ls r (by rw [if_pos q] at hr; exact hr) hP hS hl) (fun q => kf H locs ls r (by rw [if_neg q] at hr; exact hr) hP hS hl)
theorem ww_if_ne (hC : ww_C X l0 Y ad G h cc nL own) {E1 E2 : Option α} {x : Int32} {off : Int} {tgt : Nat} (hd : decode cc pc = .ok (.ifCond .ne off, 3)) (ht : (pc : Int) + off = (tgt : Int)) (kt : ww_V X Y ad G nL σ tgt lv st (E2.bind K)) (kf : ww_V X Y ad G nL σ (pc + 3) lv st (E1.bind K)) : ww_V X Y ad G nL σ pc lv (.int x :: st) ((if x = 0 then E1 else E2).bind K) := by
  obtain ⟨p, l, e, R, s, m, args, below, meth, c, cells, slots, Qf, A⟩ := X
  obtain ⟨rfl, ⟨hRf, hRl, hRc, hRs⟩, hx, hb, hml, hown, hts, hEv, hI, hAk, hA⟩ := hC
  intro H locs ls r hr hP hS hl
  exact lv_if_ne hx hb hd ht (fun q => kt H locs ls r (by rw [if_neg q] at hr; exact hr) hP hS hl) (fun q => kf H locs ls r (by rw [if_pos q] at hr; exact hr) hP hS hl)
theorem ww_if_lt (hC : ww_C X l0 Y ad G h cc nL own) {E1 E2 : Option α} {x : Int32} {off : Int} {tgt : Nat} (hd : decode cc pc = .ok (.ifCond .lt off, 3)) (ht : (pc : Int) + off = (tgt : Int)) (kt : ww_V X Y ad G nL σ tgt lv st (E1.bind K)) (kf : ww_V X Y ad G nL σ (pc + 3) lv st (E2.bind K)) : ww_V X Y ad G nL σ pc lv (.int x :: st) ((if x < 0 then E1 else E2).bind K) := by
  obtain ⟨p, l, e, R, s, m, args, below, meth, c, cells, slots, Qf, A⟩ := X
  obtain ⟨rfl, ⟨hRf, hRl, hRc, hRs⟩, hx, hb, hml, hown, hts, hEv, hI, hAk, hA⟩ := hC
  intro H locs ls r hr hP hS hl
  exact lv_if_lt hx hb hd ht (fun q => kt H locs ls r (by rw [if_pos q] at hr; exact hr) hP hS hl) (fun q => kf H locs ls r (by rw [if_neg q] at hr; exact hr) hP hS hl)
theorem ww_if_ge (hC : ww_C X l0 Y ad G h cc nL own) {E1 E2 : Option α} {x : Int32} {off : Int} {tgt : Nat} (hd : decode cc pc = .ok (.ifCond .ge off, 3)) (ht : (pc : Int) + off = (tgt : Int)) (kt : ww_V X Y ad G nL σ tgt lv st (E1.bind K)) (kf : ww_V X Y ad G nL σ (pc + 3) lv st (E2.bind K)) : ww_V X Y ad G nL σ pc lv (.int x :: st) ((if 0 ≤ x then E1 else E2).bind K) := by
  obtain ⟨p, l, e, R, s, m, args, below, meth, c, cells, slots, Qf, A⟩ := X
  obtain ⟨rfl, ⟨hRf, hRl, hRc, hRs⟩, hx, hb, hml, hown, hts, hEv, hI, hAk, hA⟩ := hC
  intro H locs ls r hr hP hS hl
  exact lv_if_ge hx hb hd ht (fun q => kt H locs ls r (by rw [if_pos q] at hr; exact hr) hP hS hl) (fun q => kf H locs ls r (by rw [if_neg q] at hr; exact hr) hP hS hl)
theorem ww_if_gt (hC : ww_C X l0 Y ad G h cc nL own) {E1 E2 : Option α} {x : Int32} {off : Int} {tgt : Nat} (hd : decode cc pc = .ok (.ifCond .gt off, 3)) (ht : (pc : Int) + off = (tgt : Int)) (kt : ww_V X Y ad G nL σ tgt lv st (E1.bind K)) (kf : ww_V X Y ad G nL σ (pc + 3) lv st (E2.bind K)) : ww_V X Y ad G nL σ pc lv (.int x :: st) ((if 0 < x then E1 else E2).bind K) := by
  obtain ⟨p, l, e, R, s, m, args, below, meth, c, cells, slots, Qf, A⟩ := X
  obtain ⟨rfl, ⟨hRf, hRl, hRc, hRs⟩, hx, hb, hml, hown, hts, hEv, hI, hAk, hA⟩ := hC
  intro H locs ls r hr hP hS hl
  exact lv_if_gt hx hb hd ht (fun q => kt H locs ls r (by rw [if_pos q] at hr; exact hr) hP hS hl) (fun q => kf H locs ls r (by rw [if_neg q] at hr; exact hr) hP hS hl)
theorem ww_if_le (hC : ww_C X l0 Y ad G h cc nL own) {E1 E2 : Option α} {x : Int32} {off : Int} {tgt : Nat} (hd : decode cc pc = .ok (.ifCond .le off, 3)) (ht : (pc : Int) + off = (tgt : Int)) (kt : ww_V X Y ad G nL σ tgt lv st (E1.bind K)) (kf : ww_V X Y ad G nL σ (pc + 3) lv st (E2.bind K)) : ww_V X Y ad G nL σ pc lv (.int x :: st) ((if x ≤ 0 then E1 else E2).bind K) := by
  obtain ⟨p, l, e, R, s, m, args, below, meth, c, cells, slots, Qf, A⟩ := X
  obtain ⟨rfl, ⟨hRf, hRl, hRc, hRs⟩, hx, hb, hml, hown, hts, hEv, hI, hAk, hA⟩ := hC
  intro H locs ls r hr hP hS hl
  exact lv_if_le hx hb hd ht (fun q => kt H locs ls r (by rw [if_pos q] at hr; exact hr) hP hS hl) (fun q => kf H locs ls r (by rw [if_neg q] at hr; exact hr) hP hS hl)
theorem ww_icmp_eq (hC : ww_C X l0 Y ad G h cc nL own) {E1 E2 : Option α} {x y : Int32} {off : Int} {tgt : Nat} (hd : decode cc pc = .ok (.if_icmp .eq off, 3)) (ht : (pc : Int) + off = (tgt : Int)) (kt : ww_V X Y ad G nL σ tgt lv st (E1.bind K)) (kf : ww_V X Y ad G nL σ (pc + 3) lv st (E2.bind K)) : ww_V X Y ad G nL σ pc lv (.int y :: .int x :: st) ((if x = y then E1 else E2).bind K) := by
  obtain ⟨p, l, e, R, s, m, args, below, meth, c, cells, slots, Qf, A⟩ := X
  obtain ⟨rfl, ⟨hRf, hRl, hRc, hRs⟩, hx, hb, hml, hown, hts, hEv, hI, hAk, hA⟩ := hC
  intro H locs ls r hr hP hS hl
  exact lv_icmp_eq hx hb hd ht (fun q => kt H locs ls r (by rw [if_pos q] at hr; exact hr) hP hS hl) (fun q => kf H locs ls r (by rw [if_neg q] at hr; exact hr) hP hS hl)
theorem ww_icmp_ne (hC : ww_C X l0 Y ad G h cc nL own) {E1 E2 : Option α} {x y : Int32} {off : Int} {tgt : Nat} (hd : decode cc pc = .ok (.if_icmp .ne off, 3)) (ht : (pc : Int) + off = (tgt : Int)) (kt : ww_V X Y ad G nL σ tgt lv st (E2.bind K)) (kf : ww_V X Y ad G nL σ (pc + 3) lv st (E1.bind K)) : ww_V X Y ad G nL σ pc lv (.int y :: .int x :: st) ((if x = y then E1 else E2).bind K) := by
  obtain ⟨p, l, e, R, s, m, args, below, meth, c, cells, slots, Qf, A⟩ := X
  obtain ⟨rfl, ⟨hRf, hRl, hRc, hRs⟩, hx, hb, hml, hown, hts, hEv, hI, hAk, hA⟩ := hC
  intro H locs ls r hr hP hS hl
  exact lv_icmp_ne hx hb hd ht (fun q => kt H locs ls r (by rw [if_neg q] at hr; exact hr) hP hS hl) (fun q => kf H locs ls r (by rw [if_pos q] at hr; exact hr) hP hS hl)
theorem ww_icmp_lt (hC : ww_C X l0 Y ad G h cc nL own) {E1 E2 : Option α} {x y : Int32} {off : Int} {tgt : Nat} (hd : decode cc pc = .ok (.if_icmp .lt off, 3)) (ht : (pc : Int) + off = (tgt : Int)) (kt : ww_V X Y ad G nL σ tgt lv st (E1.bind K)) (kf : ww_V X Y ad G nL σ (pc + 3) lv st (E2.bind K)) : ww_V X Y ad G nL σ pc lv (.int y :: .int x :: st) ((if x < y then E1 else E2).bind K) := by
  obtain ⟨p, l, e, R, s, m, args, below, meth, c, cells, slots, Qf, A⟩ := X
  obtain ⟨rfl, ⟨hRf, hRl, hRc, hRs⟩, hx, hb, hml, hown, hts, hEv, hI, hAk, hA⟩ := hC
  intro H locs ls r hr hP hS hl
  exact lv_icmp_lt hx hb hd ht (fun q => kt H locs ls r (by rw [if_pos q] at hr; exact hr) hP hS hl) (fun q => kf H locs ls r (by rw [if_neg q] at hr; exact hr) hP hS hl)
theorem ww_icmp_ge (hC : ww_C X l0 Y ad G h cc nL own) {E1 E2 : Option α} {x y : Int32} {off : Int} {tgt : Nat} (hd : decode cc pc = .ok (.if_icmp .ge off, 3)) (ht : (pc : Int) + off = (tgt : Int)) (kt : ww_V X Y ad G nL σ tgt lv st (E1.bind K)) (kf : ww_V X Y ad G nL σ (pc + 3) lv st (E2.bind K)) : ww_V X Y ad G nL σ pc lv (.int y :: .int x :: st) ((if y ≤ x then E1 else E2).bind K) := by
  obtain ⟨p, l, e, R, s, m, args, below, meth, c, cells, slots, Qf, A⟩ := X
  obtain ⟨rfl, ⟨hRf, hRl, hRc, hRs⟩, hx, hb, hml, hown, hts, hEv, hI, hAk, hA⟩ := hC
  intro H locs ls r hr hP hS hl
  exact lv_icmp_ge hx hb hd ht (fun q => kt H locs ls r (by rw [if_pos q] at hr; exact hr) hP hS hl) (fun q => kf H locs ls r (by rw [if_neg q] at hr; exact hr) hP hS hl)
theorem ww_icmp_gt (hC : ww_C X l0 Y ad G h cc nL own) {E1 E2 : Option α} {x y : Int32} {off : Int} {tgt : Nat} (hd : decode cc pc = .ok (.if_icmp .gt off, 3)) (ht : (pc : Int) + off = (tgt : Int)) (kt : ww_V X Y ad G nL σ tgt lv st (E1.bind K)) (kf : ww_V X Y ad G nL σ (pc + 3) lv st (E2.bind K)) : ww_V X Y ad G nL σ pc lv (.int y :: .int x :: st) ((if y < x then E1 else E2).bind K) := by
  obtain ⟨p, l, e, R, s, m, args, below, meth, c, cells, slots, Qf, A⟩ := X
  obtain ⟨rfl, ⟨hRf, hRl, hRc, hRs⟩, hx, hb, hml, hown, hts, hEv, hI, hAk, hA⟩ := hC
  intro H locs ls r hr hP hS hl
  exact lv_icmp_gt hx hb hd ht (fun q => kt H locs ls r (by rw [if_pos q] at hr; exact hr) hP hS hl) (fun q => kf H locs ls r (by rw [if_neg q] at hr; exact hr) hP hS hl)
theorem ww_icmp_le (hC : ww_C X l0 Y ad G h cc nL own) {E1 E2 : Option α} {x y : Int32} {off : Int} {tgt : Nat} (hd : decode cc pc = .ok (.if_icmp .le off, 3)) (ht : (pc : Int) + off = (tgt : Int)) (kt : ww_V X Y ad G nL σ tgt lv st (E1.bind K)) (kf : ww_V X Y ad G nL σ (pc + 3) lv st (E2.bind K)) : ww_V X Y ad G nL σ pc lv (.int y :: .int x :: st) ((if x ≤ y then E1 else E2).bind K) := by
  obtain ⟨p, l, e, R, s, m, args, below, meth, c, cells, slots, Qf, A⟩ := X
  obtain ⟨rfl, ⟨hRf, hRl, hRc, hRs⟩, hx, hb, hml, hown, hts, hEv, hI, hAk, hA⟩ := hC
  intro H locs ls r hr hP hS hl
  exact lv_icmp_le hx hb hd ht (fun q => kt H locs ls r (by rw [if_pos q] at hr; exact hr) hP hS hl) (fun q => kf H locs ls r (by rw [if_neg q] at hr; exact hr) hP hS hl)
theorem ww_tab (hC : ww_C X l0 Y ad G h cc nL own) {E1 E2 : Option α} {x : Int32} (v : Int32) {dflt lo hi : Int} {offs : Array Int} {len : Nat} {off : Int} {tgt : Nat} (hd : decode cc pc = .ok (.tableswitch dflt lo hi offs, len)) (h1 : ¬ v.toInt < lo) (h2 : ¬ hi < v.toInt) (ho : offs[(v.toInt - lo).toNat]? = some off) (ht : (pc : Int) + off = (tgt : Int)) (k1 : ww_V X Y ad G nL σ tgt lv st (E1.bind K)) (k2 : ¬ x = v → ww_V X Y ad G nL σ pc lv (.int x :: st) (E2.bind K)) : ww_V X Y ad G nL σ pc lv (.int x :: st) ((if x = v then E1 else E2).bind K) := by
  by_cases q : x = v
  · rw [if_pos q]
    subst q
    obtain ⟨p, l, e, R, s, m, args, below, meth, c, cells, slots, Qf, A⟩ := X
    obtain ⟨rfl, ⟨hRf, hRl, hRc, hRs⟩, hx, hb, hml, hown, hts, hEv, hI, hAk, hA⟩ := hC
    intro H locs ls r hr hP hS hl
    exact lv_tableIn hx hb hd h1 h2 ho ht (k1 H locs ls r hr hP hS hl)
  · rw [if_neg q]
    exact k2 q
theorem ww_tabD (hC : ww_C X l0 Y ad G h cc nL own) {x : Int32} {dflt lo hi : Int} {offs : Array Int} {len : Nat} {tgt : Nat} (hd : decode cc pc = .ok (.tableswitch dflt lo hi offs, len)) (hq : x.toInt < lo ∨ hi < x.toInt) (ht : (pc : Int) + dflt = (tgt : Int)) (kk : ww_V X Y ad G nL σ tgt lv st o) : ww_V X Y ad G nL σ pc lv (.int x :: st) o := by
  obtain ⟨p, l, e, R, s, m, args, below, meth, c, cells, slots, Qf, A⟩ := X
  obtain ⟨rfl, ⟨hRf, hRl, hRc, hRs⟩, hx, hb, hml, hown, hts, hEv, hI, hAk, hA⟩ := hC
  intro H locs ls r hr hP hS hl
  exact lv_tableOut hx hb hd hq ht (kk H locs ls r hr hP hS hl)
theorem ww_look (hC : ww_C X l0 Y ad G h cc nL own) {E1 E2 : Option α} {x : Int32} (v : Int32) {dflt : Int} {ps : Array (Int × Int)} {len : Nat} {off : Int} {tgt : Nat} (hd : decode cc pc = .ok (.lookupswitch dflt ps, len)) (hp : (ps.toList.zip (ps.toList.drop 1)).all (fun (a, next) => a.1 < next.1) = true) (ho : Op.lookupswitch.offset ps.toList dflt v.toInt = off) (ht : (pc : Int) + off = (tgt : Int)) (k1 : ww_V X Y ad G nL σ tgt lv st (E1.bind K)) (k2 : ¬ x = v → ww_V X Y ad G nL σ pc lv (.int x :: st) (E2.bind K)) : ww_V X Y ad G nL σ pc lv (.int x :: st) ((if x = v then E1 else E2).bind K) := by
  by_cases q : x = v
  · rw [if_pos q]
    subst q
    obtain ⟨p, l, e, R, s, m, args, below, meth, c, cells, slots, Qf, A⟩ := X
    obtain ⟨rfl, ⟨hRf, hRl, hRc, hRs⟩, hx, hb, hml, hown, hts, hEv, hI, hAk, hA⟩ := hC
    intro H locs ls r hr hP hS hl
    exact lv_lookup hx hb hd hp ho ht (k1 H locs ls r hr hP hS hl)
  · rw [if_neg q]
    exact k2 q
theorem ww_lookD (hC : ww_C X l0 Y ad G h cc nL own) {x : Int32} {dflt : Int} {ps : Array (Int × Int)} {len : Nat} {tgt : Nat} (hd : decode cc pc = .ok (.lookupswitch dflt ps, len)) (hp : (ps.toList.zip (ps.toList.drop 1)).all (fun (a, next) => a.1 < next.1) = true) (ho : Op.lookupswitch.offset ps.toList dflt x.toInt = dflt) (ht : (pc : Int) + dflt = (tgt : Int)) (kk : ww_V X Y ad G nL σ tgt lv st o) : ww_V X Y ad G nL σ pc lv (.int x :: st) o := by
  obtain ⟨p, l, e, R, s, m, args, below, meth, c, cells, slots, Qf, A⟩ := X
  obtain ⟨rfl, ⟨hRf, hRl, hRc, hRs⟩, hx, hb, hml, hown, hts, hEv, hI, hAk, hA⟩ := hC
  intro H locs ls r hr hP hS hl
  exact lv_lookup hx hb hd hp ho ht (kk H locs ls r hr hP hS hl)
theorem ww_nei {x v : Int32} (q : ¬ x = v) : x.toInt ≠ v.toInt := fun e => q (Int32.toInt_inj.mp e)
theorem ww_mmax (hC : ww_C X l0 Y ad G h cc nL own) {x y : Int32} {n : Nat} (hd : decode cc pc = .ok (.invokestatic n, 3)) (hlk : Cond.methodLink own n Lib.Math.max.name ∈ ww_T) (hst : Cond.static Lib.Math.max.name ∈ ww_T) (hin : Cond.initialized "java/lang/Math" ∈ ww_T) (hco : Cond.code Lib.Math.max.name Lib.Math.max.code 2 (some .int) ∈ ww_T) (hh : 1 ≤ h) (hs8 : (st.map fun v => v.category).sum ≤ 8) (kk : ww_V X Y ad G nL σ (pc + 3) lv (.int (ww_max x y) :: st) o) : ww_V X Y ad G nL σ pc lv (.int y :: .int x :: st) o := by
  obtain ⟨p, l, e, R, s, m, args, below, meth, c, cells, slots, Qf, A⟩ := X
  obtain ⟨rfl, ⟨hRf, hRl, hRc, hRs⟩, hx, hb, hml, hown, hts, hEv, hI, hAk, hA⟩ := hC
  intro H locs ls r hr hP hS hl
  exact va_mmax hx hb (by rw [hml]; exact hl.1.symm) hown (hts _ hlk) (hts _ hst) (hts _ hin) (hts _ hco) (by omega) (by omega) hRc hRs hd (kk H locs ls r hr hP hS hl)
theorem ww_mmin (hC : ww_C X l0 Y ad G h cc nL own) {x y : Int32} {n : Nat} (hd : decode cc pc = .ok (.invokestatic n, 3)) (hlk : Cond.methodLink own n Lib.Math.min.name ∈ ww_T) (hst : Cond.static Lib.Math.min.name ∈ ww_T) (hin : Cond.initialized "java/lang/Math" ∈ ww_T) (hco : Cond.code Lib.Math.min.name Lib.Math.min.code 2 (some .int) ∈ ww_T) (hh : 1 ≤ h) (hs8 : (st.map fun v => v.category).sum ≤ 8) (kk : ww_V X Y ad G nL σ (pc + 3) lv (.int (ww_min x y) :: st) o) : ww_V X Y ad G nL σ pc lv (.int y :: .int x :: st) o := by
  obtain ⟨p, l, e, R, s, m, args, below, meth, c, cells, slots, Qf, A⟩ := X
  obtain ⟨rfl, ⟨hRf, hRl, hRc, hRs⟩, hx, hb, hml, hown, hts, hEv, hI, hAk, hA⟩ := hC
  intro H locs ls r hr hP hS hl
  exact va_mmin hx hb (by rw [hml]; exact hl.1.symm) hown (hts _ hlk) (hts _ hst) (hts _ hin) (hts _ hco) (by omega) (by omega) hRc hRs hd (kk H locs ls r hr hP hS hl)
theorem ww_getr (hC : ww_C X l0 Y ad G h cc nL own) {k ci n N j : Nat} {fs : List (Option Nat)} {Cl ref : String} {T : u_T} (hG : G[k]? = some (.inl (ci, fs))) (hc : vwCl[ci]? = some (Cl, T, N)) (hin : ∀ w ∈ u_ws Cl T N, w ∈ ww_T) (hj : j < N) (hlk : Cond.fieldLink own n ref (T j).2.1 (T j).2.2.1 ∈ ww_T) (hrf : (T j).1 = ref) {q : Nat} (hf : fs[j]? = some (some q)) (hd : decode cc pc = .ok (.getfield n, 3)) (kk : ww_V X Y ad G nL σ (pc + 3) lv (.ref (ad q) :: st) o) : ww_V X Y ad G nL σ pc lv (.ref (ad k) :: st) o := by
  obtain ⟨p, l, e, R, s, m, args, below, meth, c, cells, slots, Qf, A⟩ := X
  obtain ⟨rfl, ⟨hRf, hRl, hRc, hRs⟩, hx, hb, hml, hown, hts, hEv, hI, hAk, hA⟩ := hC
  intro H locs ls r hr hP hS hl
  exact va_get hx hb hts hin hown hEv.1 hP k (ww_W_get hG) hc j hj (hts _ hlk) (fun _ h9 => by rw [← hrf]; exact h9) (by simp [ww_fs, List.getElem?_mapIdx, hf, ww_fld]) hd (kk H locs ls r hr hP hS hl)
theorem ww_geti (hC : ww_C X l0 Y ad G h cc nL own) {k ci n N j : Nat} {fs : List (Option Nat)} {Cl ref : String} {T : u_T} (hG : G[k]? = some (.inl (ci, fs))) (hc : vwCl[ci]? = some (Cl, T, N)) (hin : ∀ w ∈ u_ws Cl T N, w ∈ ww_T) (hj : j < N) (hlk : Cond.fieldLink own n ref (T j).2.1 (T j).2.2.1 ∈ ww_T) (hrf : (T j).1 = ref) (hf : fs[j]? = some none) (hd : decode cc pc = .ok (.getfield n, 3)) (kk : ww_V X Y ad G nL σ (pc + 3) lv (.int (σ k j) :: st) o) : ww_V X Y ad G nL σ pc lv (.ref (ad k) :: st) o := by
  obtain ⟨p, l, e, R, s, m, args, below, meth, c, cells, slots, Qf, A⟩ := X
  obtain ⟨rfl, ⟨hRf, hRl, hRc, hRs⟩, hx, hb, hml, hown, hts, hEv, hI, hAk, hA⟩ := hC
  intro H locs ls r hr hP hS hl
  exact va_get hx hb hts hin hown hEv.1 hP k (ww_W_get hG) hc j hj (hts _ hlk) (fun _ h9 => by rw [← hrf]; exact h9) (by simp [ww_fs, List.getElem?_mapIdx, hf, ww_fld]) hd (kk H locs ls r hr hP hS hl)
theorem ww_puti (hC : ww_C X l0 Y ad G h cc nL own) {k ci n N j : Nat} {fs : List (Option Nat)} {Cl ref : String} {T : u_T} (hG : G[k]? = some (.inl (ci, fs))) (hc : vwCl[ci]? = some (Cl, T, N)) (hin : ∀ w ∈ u_ws Cl T N, w ∈ ww_T) (hj : j < N) (hlk : Cond.fieldLink own n ref (T j).2.1 (T j).2.2.1 ∈ ww_T) (hrf : (T j).1 = ref) (ty0 : Nat → FieldType) (hty : ∀ k, k < N → parseFieldDescriptor (T k).2.2.1 = some (ty0 k)) (hnm : ∀ a, a < N → ∀ b, b < N → a ≠ b → (T a).2.1 ≠ (T b).2.1) (hf : fs[j]? = some none) {x : Int32} (hfin : (T j).2.2.2 = false) (hdI : parseFieldDescriptor (T j).2.2.1 = some .int) (hd : decode cc pc = .ok (.putfield n, 3)) (kk : ww_V X Y ad G nL (ww_up σ k j x) (pc + 3) lv st o) : ww_V X Y ad G nL σ pc lv (.int x :: .ref (ad k) :: st) o := by
  obtain ⟨p, l, e, R, s, m, args, below, meth, c, cells, slots, Qf, A⟩ := X
  obtain ⟨rfl, ⟨hRf, hRl, hRc, hRs⟩, hx, hb, hml, hown, hts, hEv, hI, hAk, hA⟩ := hC
  intro H locs ls r hr hP hS hl
  refine va_put hx hb hts hin ty0 hty hnm hown hEv.1 hP (ww_D hI hAk) hS k (ww_W_get hG) hc j hj (hts _ hlk) (fun _ h9 => by rw [← hrf]; exact h9) hfin hdI rfl rfl (by simp [ww_fs]; exact (List.getElem?_eq_some_iff.mp hf).1) hd (fun H1 locs1 hP1 _ hS1 => ?_)
  rw [ww_W_put hG hf] at hP1
  exact kk H1 locs1 ls r hr hP1 hS1 hl
theorem ww_getrN (hC : ww_C X l0 Y ad G h cc nL own) {k ci n N j : Nat} {fs : List (Option Nat)} {Cl ref : String} {T : u_T} (hG : G[k]? = some (.inl (ci, fs))) (hc : vwCl[ci]? = some (Cl, T, N)) (hin : ∀ w ∈ u_ws Cl T N, w ∈ ww_T) (hj : j < N) {host : String} (hlk : Cond.fieldLinkNest own n ref (T j).2.1 (T j).2.2.1 host ∈ ww_N) (hrf : (T j).1 = ref) {q : Nat} (hf : fs[j]? = some (some q)) (hd : decode cc pc = .ok (.getfield n, 3)) (kk : ww_V X Y ad G nL σ (pc + 3) lv (.ref (ad q) :: st) o) : ww_V X Y ad G nL σ pc lv (.ref (ad k) :: st) o := by
  obtain ⟨p, l, e, R, s, m, args, below, meth, c, cells, slots, Qf, A⟩ := X
  obtain ⟨rfl, ⟨hRf, hRl, hRc, hRs⟩, hx, hb, hml, hown, hts, hEv, hI, hAk, hA⟩ := hC
  intro H locs ls r hr hP hS hl
  exact va_getN hx hb hts hin hown hEv.1 hP k (ww_W_get hG) hc j hj (va_Nw.use rfl (hEv.2.1 _ hlk)) (fun _ h9 => by rw [← hrf]; exact h9) (by simp [ww_fs, List.getElem?_mapIdx, hf, ww_fld]) hd (kk H locs ls r hr hP hS hl)
theorem ww_getiN (hC : ww_C X l0 Y ad G h cc nL own) {k ci n N j : Nat} {fs : List (Option Nat)} {Cl ref : String} {T : u_T} (hG : G[k]? = some (.inl (ci, fs))) (hc : vwCl[ci]? = some (Cl, T, N)) (hin : ∀ w ∈ u_ws Cl T N, w ∈ ww_T) (hj : j < N) {host : String} (hlk : Cond.fieldLinkNest own n ref (T j).2.1 (T j).2.2.1 host ∈ ww_N) (hrf : (T j).1 = ref) (hf : fs[j]? = some none) (hd : decode cc pc = .ok (.getfield n, 3)) (kk : ww_V X Y ad G nL σ (pc + 3) lv (.int (σ k j) :: st) o) : ww_V X Y ad G nL σ pc lv (.ref (ad k) :: st) o := by
  obtain ⟨p, l, e, R, s, m, args, below, meth, c, cells, slots, Qf, A⟩ := X
  obtain ⟨rfl, ⟨hRf, hRl, hRc, hRs⟩, hx, hb, hml, hown, hts, hEv, hI, hAk, hA⟩ := hC
  intro H locs ls r hr hP hS hl
  exact va_getN hx hb hts hin hown hEv.1 hP k (ww_W_get hG) hc j hj (va_Nw.use rfl (hEv.2.1 _ hlk)) (fun _ h9 => by rw [← hrf]; exact h9) (by simp [ww_fs, List.getElem?_mapIdx, hf, ww_fld]) hd (kk H locs ls r hr hP hS hl)
theorem ww_putiN (hC : ww_C X l0 Y ad G h cc nL own) {k ci n N j : Nat} {fs : List (Option Nat)} {Cl ref : String} {T : u_T} (hG : G[k]? = some (.inl (ci, fs))) (hc : vwCl[ci]? = some (Cl, T, N)) (hin : ∀ w ∈ u_ws Cl T N, w ∈ ww_T) (hj : j < N) {host : String} (hlk : Cond.fieldLinkNest own n ref (T j).2.1 (T j).2.2.1 host ∈ ww_N) (hrf : (T j).1 = ref) (ty0 : Nat → FieldType) (hty : ∀ k, k < N → parseFieldDescriptor (T k).2.2.1 = some (ty0 k)) (hnm : ∀ a, a < N → ∀ b, b < N → a ≠ b → (T a).2.1 ≠ (T b).2.1) (hf : fs[j]? = some none) {x : Int32} (hfin : (T j).2.2.2 = false) (hdI : parseFieldDescriptor (T j).2.2.1 = some .int) (hd : decode cc pc = .ok (.putfield n, 3)) (kk : ww_V X Y ad G nL (ww_up σ k j x) (pc + 3) lv st o) : ww_V X Y ad G nL σ pc lv (.int x :: .ref (ad k) :: st) o := by
  obtain ⟨p, l, e, R, s, m, args, below, meth, c, cells, slots, Qf, A⟩ := X
  obtain ⟨rfl, ⟨hRf, hRl, hRc, hRs⟩, hx, hb, hml, hown, hts, hEv, hI, hAk, hA⟩ := hC
  intro H locs ls r hr hP hS hl
  refine va_putN hx hb hts hin ty0 hty hnm hown hEv.1 hP (ww_D hI hAk) hS k (ww_W_get hG) hc j hj (va_Nw.use rfl (hEv.2.1 _ hlk)) (fun _ h9 => by rw [← hrf]; exact h9) hfin hdI rfl rfl (by simp [ww_fs]; exact (List.getElem?_eq_some_iff.mp hf).1) hd (fun H1 locs1 hP1 _ hS1 => ?_)
  rw [ww_W_put hG hf] at hP1
  exact kk H1 locs1 ls r hr hP1 hS1 hl
theorem ww_iald (hC : ww_C X l0 Y ad G h cc nL own) {E : Option α} {k n : Nat} {i : Int32} (hG : G[k]? = some (.inr (.inl (0, n)))) (hd : decode cc pc = .ok (.iaload, 1)) (kk : ww_V X Y ad G nL σ (pc + 1) lv (.int (σ k (ww_ix i)) :: st) (E.bind K)) : ww_V X Y ad G nL σ pc lv (.int i :: .ref (ad k) :: st) ((ww_ck (ww_in i n) E).bind K) := by
  obtain ⟨p, l, e, R, s, m, args, below, meth, c, cells, slots, Qf, A⟩ := X
  obtain ⟨rfl, ⟨hRf, hRl, hRc, hRs⟩, hx, hb, hml, hown, hts, hEv, hI, hAk, hA⟩ := hC
  intro H locs ls r hr hP hS hl
  obtain ⟨hg, hr⟩ := ww_ck_some hr
  exact va_iald hx hb hEv.1 hP k 0 (ww_W_get hG) rfl (ww_in_p hg) hd (kk H locs ls r hr hP hS hl)
theorem ww_bald (hC : ww_C X l0 Y ad G h cc nL own) {E : Option α} {k n : Nat} {i : Int32} (hG : G[k]? = some (.inr (.inl (1, n)))) (hd : decode cc pc = .ok (.baload, 1)) (kk : ww_V X Y ad G nL σ (pc + 1) lv (.int (σ k (ww_ix i)) :: st) (E.bind K)) : ww_V X Y ad G nL σ pc lv (.int i :: .ref (ad k) :: st) ((ww_ck (ww_in i n) E).bind K) := by
  obtain ⟨p, l, e, R, s, m, args, below, meth, c, cells, slots, Qf, A⟩ := X
  obtain ⟨rfl, ⟨hRf, hRl, hRc, hRs⟩, hx, hb, hml, hown, hts, hEv, hI, hAk, hA⟩ := hC
  intro H locs ls r hr hP hS hl
  obtain ⟨hg, hr⟩ := ww_ck_some hr
  exact va_bald hx hb hEv.1 hP k 1 (ww_W_get hG) rfl (ww_in_p hg) hd (kk H locs ls r hr hP hS hl)
theorem ww_zald (hC : ww_C X l0 Y ad G h cc nL own) {E : Option α} {k n : Nat} {i : Int32} (hG : G[k]? = some (.inr (.inl (2, n)))) (hd : decode cc pc = .ok (.baload, 1)) (kk : ww_V X Y ad G nL σ (pc + 1) lv (.int (σ k (ww_ix i)) :: st) (E.bind K)) : ww_V X Y ad G nL σ pc lv (.int i :: .ref (ad k) :: st) ((ww_ck (ww_in i n) E).bind K) := by
  obtain ⟨p, l, e, R, s, m, args, below, meth, c, cells, slots, Qf, A⟩ := X
  obtain ⟨rfl, ⟨hRf, hRl, hRc, hRs⟩, hx, hb, hml, hown, hts, hEv, hI, hAk, hA⟩ := hC
  intro H locs ls r hr hP hS hl
  obtain ⟨hg, hr⟩ := ww_ck_some hr
  exact va_zald hx hb hEv.1 hP k 2 (ww_W_get hG) rfl (ww_in_p hg) hd (kk H locs ls r hr hP hS hl)
theorem ww_iast (hC : ww_C X l0 Y ad G h cc nL own) {E : Option α} {k n : Nat} {i x : Int32} (hG : G[k]? = some (.inr (.inl (0, n)))) (hd : decode cc pc = .ok (.iastore, 1)) (kk : ww_V X Y ad G nL (ww_up σ k (ww_ix i) x) (pc + 1) lv st (E.bind K)) : ww_V X Y ad G nL σ pc lv (.int x :: .int i :: .ref (ad k) :: st) ((ww_ck (ww_in i n) E).bind K) := by
  obtain ⟨p, l, e, R, s, m, args, below, meth, c, cells, slots, Qf, A⟩ := X
  obtain ⟨rfl, ⟨hRf, hRl, hRc, hRs⟩, hx, hb, hml, hown, hts, hEv, hI, hAk, hA⟩ := hC
  intro H locs ls r hr hP hS hl
  obtain ⟨hg, hr⟩ := ww_ck_some hr
  refine va_iast hx hb hEv.1 hP (ww_D hI hAk) hS k 0 (ww_W_get hG) rfl (ww_in_p hg) hd (fun H1 locs1 hP1 _ hS1 => ?_)
  rw [ww_W_row hG, ww_up_row] at hP1
  exact kk H1 locs1 ls r hr hP1 hS1 hl
theorem ww_bast (hC : ww_C X l0 Y ad G h cc nL own) {E : Option α} {k n : Nat} {i x : Int32} (hG : G[k]? = some (.inr (.inl (1, n)))) (hd : decode cc pc = .ok (.bastore, 1)) (kk : ww_V X Y ad G nL (ww_up σ k (ww_ix i) (vp_nar .byte x)) (pc + 1) lv st (E.bind K)) : ww_V X Y ad G nL σ pc lv (.int x :: .int i :: .ref (ad k) :: st) ((ww_ck (ww_in i n) E).bind K) := by
  obtain ⟨p, l, e, R, s, m, args, below, meth, c, cells, slots, Qf, A⟩ := X
  obtain ⟨rfl, ⟨hRf, hRl, hRc, hRs⟩, hx, hb, hml, hown, hts, hEv, hI, hAk, hA⟩ := hC
  intro H locs ls r hr hP hS hl
  obtain ⟨hg, hr⟩ := ww_ck_some hr
  refine va_bast hx hb hEv.1 hP (ww_D hI hAk) hS k 1 (ww_W_get hG) rfl (ww_in_p hg) hd (fun H1 locs1 hP1 _ hS1 => ?_)
  rw [ww_W_row hG, ww_up_row] at hP1
  exact kk H1 locs1 ls r hr hP1 hS1 hl
theorem ww_zast (hC : ww_C X l0 Y ad G h cc nL own) {E : Option α} {k n : Nat} {i x : Int32} (hG : G[k]? = some (.inr (.inl (2, n)))) (hd : decode cc pc = .ok (.bastore, 1)) (kk : ww_V X Y ad G nL (ww_up σ k (ww_ix i) (vp_nar .boolean x)) (pc + 1) lv st (E.bind K)) : ww_V X Y ad G nL σ pc lv (.int x :: .int i :: .ref (ad k) :: st) ((ww_ck (ww_in i n) E).bind K) := by
  obtain ⟨p, l, e, R, s, m, args, below, meth, c, cells, slots, Qf, A⟩ := X
  obtain ⟨rfl, ⟨hRf, hRl, hRc, hRs⟩, hx, hb, hml, hown, hts, hEv, hI, hAk, hA⟩ := hC
  intro H locs ls r hr hP hS hl
  obtain ⟨hg, hr⟩ := ww_ck_some hr
  refine va_zast hx hb hEv.1 hP (ww_D hI hAk) hS k 2 (ww_W_get hG) rfl (ww_in_p hg) hd (fun H1 locs1 hP1 _ hS1 => ?_)
  rw [ww_W_row hG, ww_up_row] at hP1
  exact kk H1 locs1 ls r hr hP1 hS1 hl
theorem ww_alen (hC : ww_C X l0 Y ad G h cc nL own) {k n t : Nat} {ty : FieldType} {v : Int32} (hG : G[k]? = some (.inr (.inl (t, n)))) (ht : ∀ cA : Nat → ClassId, (ww_tys cA)[t]? = some (cA t, ty)) (hv : Int32.ofNat n = v) (hd : decode cc pc = .ok (.arraylength, 1)) (kk : ww_V X Y ad G nL σ (pc + 1) lv (.int v :: st) o) : ww_V X Y ad G nL σ pc lv (.ref (ad k) :: st) o := by
  obtain ⟨p, l, e, R, s, m, args, below, meth, c, cells, slots, Qf, A⟩ := X
  obtain ⟨rfl, ⟨hRf, hRl, hRc, hRs⟩, hx, hb, hml, hown, hts, hEv, hI, hAk, hA⟩ := hC
  intro H locs ls r hr hP hS hl
  exact va_alen hx hb hEv.1 hP k t (ww_W_get hG) (ht _) hv hd (kk H locs ls r hr hP hS hl)
theorem ww_alenR (hC : ww_C X l0 Y ad G h cc nL own) {k n t b s2 : Nat} {ty : FieldType} {v : Int32} (hG : G[k]? = some (.inr (.inr (t, n, b, s2)))) (ht : ∀ cA : Nat → ClassId, (ww_tys cA)[t]? = some (cA t, ty)) (hv : Int32.ofNat n = v) (hd : decode cc pc = .ok (.arraylength, 1)) (kk : ww_V X Y ad G nL σ (pc + 1) lv (.int v :: st) o) : ww_V X Y ad G nL σ pc lv (.ref (ad k) :: st) o := by
  obtain ⟨p, l, e, R, s, m, args, below, meth, c, cells, slots, Qf, A⟩ := X
  obtain ⟨rfl, ⟨hRf, hRl, hRc, hRs⟩, hx, hb, hml, hown, hts, hEv, hI, hAk, hA⟩ := hC
  intro H locs ls r hr hP hS hl
  exact va_alen hx hb hEv.1 hP k t (ww_W_get hG) (ht _) hv hd (kk H locs ls r hr hP hS hl)
theorem ww_aald (hC : ww_C X l0 Y ad G h cc nL own) {E : Option α} {k n t b s2 : Nat} {i : Int32} {Cl : String} (hG : G[k]? = some (.inr (.inr (t, n, b, s2)))) (ht : ∀ cA : Nat → ClassId, (ww_tys cA)[t]? = some (cA t, .object Cl)) (hd : decode cc pc = .ok (.aaload, 1)) (kk : ww_in i n = true → ww_V X Y ad G nL σ (pc + 1) lv (.ref (ad (b + s2 * ww_ix i)) :: st) (E.bind K)) : ww_V X Y ad G nL σ pc lv (.int i :: .ref (ad k) :: st) ((ww_ck (ww_in i n) E).bind K) := by
  obtain ⟨p, l, e, R, s, m, args, below, meth, c, cells, slots, Qf, A⟩ := X
  obtain ⟨rfl, ⟨hRf, hRl, hRc, hRs⟩, hx, hb, hml, hown, hts, hEv, hI, hAk, hA⟩ := hC
  intro H locs ls r hr hP hS hl
  obtain ⟨hg, hr⟩ := ww_ck_some hr
  exact va_aldq hx hb hEv.1 hP k t (ww_W_get hG) (ht _) (ww_in_p hg) hd (kk hg H locs ls r hr hP hS hl)
theorem ww_iald_c (hC : ww_C X l0 Y ad G h cc nL own) {k n j : Nat} {i : Int32} (hG : G[k]? = some (.inr (.inl (0, n)))) (hi : ww_in i n = true) (hj : ww_ix i = j) (hd : decode cc pc = .ok (.iaload, 1)) (kk : ww_V X Y ad G nL σ (pc + 1) lv (.int (σ k j) :: st) o) : ww_V X Y ad G nL σ pc lv (.int i :: .ref (ad k) :: st) o := by
  obtain ⟨p, l, e, R, s, m, args, below, meth, c, cells, slots, Qf, A⟩ := X
  obtain ⟨rfl, ⟨hRf, hRl, hRc, hRs⟩, hx, hb, hml, hown, hts, hEv, hI, hAk, hA⟩ := hC
  intro H locs ls r hr hP hS hl
  subst hj
  exact va_iald hx hb hEv.1 hP k 0 (ww_W_get hG) rfl (ww_in_p hi) hd (kk H locs ls r hr hP hS hl)
theorem ww_bald_c (hC : ww_C X l0 Y ad G h cc nL own) {k n j : Nat} {i : Int32} (hG : G[k]? = some (.inr (.inl (1, n)))) (hi : ww_in i n = true) (hj : ww_ix i = j) (hd : decode cc pc = .ok (.baload, 1)) (kk : ww_V X Y ad G nL σ (pc + 1) lv (.int (σ k j) :: st) o) : ww_V X Y ad G nL σ pc lv (.int i :: .ref (ad k) :: st) o := by
  obtain ⟨p, l, e, R, s, m, args, below, meth, c, cells, slots, Qf, A⟩ := X
  obtain ⟨rfl, ⟨hRf, hRl, hRc, hRs⟩, hx, hb, hml, hown, hts, hEv, hI, hAk, hA⟩ := hC
  intro H locs ls r hr hP hS hl
  subst hj
  exact va_bald hx hb hEv.1 hP k 1 (ww_W_get hG) rfl (ww_in_p hi) hd (kk H locs ls r hr hP hS hl)
theorem ww_zald_c (hC : ww_C X l0 Y ad G h cc nL own) {k n j : Nat} {i : Int32} (hG : G[k]? = some (.inr (.inl (2, n)))) (hi : ww_in i n = true) (hj : ww_ix i = j) (hd : decode cc pc = .ok (.baload, 1)) (kk : ww_V X Y ad G nL σ (pc + 1) lv (.int (σ k j) :: st) o) : ww_V X Y ad G nL σ pc lv (.int i :: .ref (ad k) :: st) o := by
  obtain ⟨p, l, e, R, s, m, args, below, meth, c, cells, slots, Qf, A⟩ := X
  obtain ⟨rfl, ⟨hRf, hRl, hRc, hRs⟩, hx, hb, hml, hown, hts, hEv, hI, hAk, hA⟩ := hC
  intro H locs ls r hr hP hS hl
  subst hj
  exact va_zald hx hb hEv.1 hP k 2 (ww_W_get hG) rfl (ww_in_p hi) hd (kk H locs ls r hr hP hS hl)
theorem ww_iast_c (hC : ww_C X l0 Y ad G h cc nL own) {k n j : Nat} {i x : Int32} (hG : G[k]? = some (.inr (.inl (0, n)))) (hi : ww_in i n = true) (hj : ww_ix i = j) (hd : decode cc pc = .ok (.iastore, 1)) (kk : ww_V X Y ad G nL (ww_up σ k j x) (pc + 1) lv st o) : ww_V X Y ad G nL σ pc lv (.int x :: .int i :: .ref (ad k) :: st) o := by
  obtain ⟨p, l, e, R, s, m, args, below, meth, c, cells, slots, Qf, A⟩ := X
  obtain ⟨rfl, ⟨hRf, hRl, hRc, hRs⟩, hx, hb, hml, hown, hts, hEv, hI, hAk, hA⟩ := hC
  intro H locs ls r hr hP hS hl
  subst hj
  refine va_iast hx hb hEv.1 hP (ww_D hI hAk) hS k 0 (ww_W_get hG) rfl (ww_in_p hi) hd (fun H1 locs1 hP1 _ hS1 => ?_)
  rw [ww_W_row hG, ww_up_row] at hP1
  exact kk H1 locs1 ls r hr hP1 hS1 hl
theorem ww_bast_c (hC : ww_C X l0 Y ad G h cc nL own) {k n j : Nat} {i x : Int32} (hG : G[k]? = some (.inr (.inl (1, n)))) (hi : ww_in i n = true) (hj : ww_ix i = j) (hd : decode cc pc = .ok (.bastore, 1)) (kk : ww_V X Y ad G nL (ww_up σ k j (vp_nar .byte x)) (pc + 1) lv st o) : ww_V X Y ad G nL σ pc lv (.int x :: .int i :: .ref (ad k) :: st) o := by
  obtain ⟨p, l, e, R, s, m, args, below, meth, c, cells, slots, Qf, A⟩ := X
  obtain ⟨rfl, ⟨hRf, hRl, hRc, hRs⟩, hx, hb, hml, hown, hts, hEv, hI, hAk, hA⟩ := hC
  intro H locs ls r hr hP hS hl
  subst hj
  refine va_bast hx hb hEv.1 hP (ww_D hI hAk) hS k 1 (ww_W_get hG) rfl (ww_in_p hi) hd (fun H1 locs1 hP1 _ hS1 => ?_)
  rw [ww_W_row hG, ww_up_row] at hP1
  exact kk H1 locs1 ls r hr hP1 hS1 hl
theorem ww_zast_c (hC : ww_C X l0 Y ad G h cc nL own) {k n j : Nat} {i x : Int32} (hG : G[k]? = some (.inr (.inl (2, n)))) (hi : ww_in i n = true) (hj : ww_ix i = j) (hd : decode cc pc = .ok (.bastore, 1)) (kk : ww_V X Y ad G nL (ww_up σ k j (vp_nar .boolean x)) (pc + 1) lv st o) : ww_V X Y ad G nL σ pc lv (.int x :: .int i :: .ref (ad k) :: st) o := by
  obtain ⟨p, l, e, R, s, m, args, below, meth, c, cells, slots, Qf, A⟩ := X
  obtain ⟨rfl, ⟨hRf, hRl, hRc, hRs⟩, hx, hb, hml, hown, hts, hEv, hI, hAk, hA⟩ := hC
  intro H locs ls r hr hP hS hl
  subst hj
  refine va_zast hx hb hEv.1 hP (ww_D hI hAk) hS k 2 (ww_W_get hG) rfl (ww_in_p hi) hd (fun H1 locs1 hP1 _ hS1 => ?_)
  rw [ww_W_row hG, ww_up_row] at hP1
  exact kk H1 locs1 ls r hr hP1 hS1 hl
theorem ww_ldcS0 (hC : ww_C X l0 Y ad G h cc nL RX5) (hd : decode cc pc = .ok (.ldc 91, 2)) (kk : ww_V X Y ad G nL σ (pc + 2) lv (.ref (Y.2.2.2 0) :: st) o) : ww_V X Y ad G nL σ pc lv st o := by
  obtain ⟨p, l, e, R, s, m, args, below, meth, c, cells, slots, Qf, A⟩ := X
  obtain ⟨rfl, ⟨hRf, hRl, hRc, hRs⟩, hx, hb, hml, hown, hts, hEv, hI, hAk, hA⟩ := hC
  intro H locs ls r hr hP hS hl
  exact va_ldcS (tx := "sand") hx hb hown hEv.2.2.2.2.1 hd (kk H locs ls r hr hP hS hl)
theorem ww_ldcS1 (hC : ww_C X l0 Y ad G h cc nL RX5) (hd : decode cc pc = .ok (.ldc 97, 2)) (kk : ww_V X Y ad G nL σ (pc + 2) lv (.ref (Y.2.2.2 1) :: st) o) : ww_V X Y ad G nL σ pc lv st o := by
  obtain ⟨p, l, e, R, s, m, args, below, meth, c, cells, slots, Qf, A⟩ := X
  obtain ⟨rfl, ⟨hRf, hRl, hRc, hRs⟩, hx, hb, hml, hown, hts, hEv, hI, hAk, hA⟩ := hC
  intro H locs ls r hr hP hS hl
  exact va_ldcS (tx := "tide") hx hb hown hEv.2.2.2.2.2.1 hd (kk H locs ls r hr hP hS hl)
theorem ww_ldcS2 (hC : ww_C X l0 Y ad G h cc nL RX5) (hd : decode cc pc = .ok (.ldc 99, 2)) (kk : ww_V X Y ad G nL σ (pc + 2) lv (.ref (Y.2.2.2 2) :: st) o) : ww_V X Y ad G nL σ pc lv st o := by
  obtain ⟨p, l, e, R, s, m, args, below, meth, c, cells, slots, Qf, A⟩ := X
  obtain ⟨rfl, ⟨hRf, hRl, hRc, hRs⟩, hx, hb, hml, hown, hts, hEv, hI, hAk, hA⟩ := hC
  intro H locs ls r hr hP hS hl
  exact va_ldcS (tx := "law") hx hb hown hEv.2.2.2.2.2.2.1 hd (kk H locs ls r hr hP hS hl)
theorem ww_ldcS3 (hC : ww_C X l0 Y ad G h cc nL RX5) (hd : decode cc pc = .ok (.ldc 101, 2)) (kk : ww_V X Y ad G nL σ (pc + 2) lv (.ref (Y.2.2.2 3) :: st) o) : ww_V X Y ad G nL σ pc lv st o := by
  obtain ⟨p, l, e, R, s, m, args, below, meth, c, cells, slots, Qf, A⟩ := X
  obtain ⟨rfl, ⟨hRf, hRl, hRc, hRs⟩, hx, hb, hml, hown, hts, hEv, hI, hAk, hA⟩ := hC
  intro H locs ls r hr hP hS hl
  exact va_ldcS (tx := "rot") hx hb hown hEv.2.2.2.2.2.2.2.1 hd (kk H locs ls r hr hP hS hl)
theorem ww_ldcS4 (hC : ww_C X l0 Y ad G h cc nL RX5) (hd : decode cc pc = .ok (.ldc 103, 2)) (kk : ww_V X Y ad G nL σ (pc + 2) lv (.ref (Y.2.2.2 4) :: st) o) : ww_V X Y ad G nL σ pc lv st o := by
  obtain ⟨p, l, e, R, s, m, args, below, meth, c, cells, slots, Qf, A⟩ := X
  obtain ⟨rfl, ⟨hRf, hRl, hRc, hRs⟩, hx, hb, hml, hown, hts, hEv, hI, hAk, hA⟩ := hC
  intro H locs ls r hr hP hS hl
  exact va_ldcS (tx := "gangs") hx hb hown hEv.2.2.2.2.2.2.2.2.1 hd (kk H locs ls r hr hP hS hl)
theorem ww_ldcS5 (hC : ww_C X l0 Y ad G h cc nL RX5) (hd : decode cc pc = .ok (.ldc 105, 2)) (kk : ww_V X Y ad G nL σ (pc + 2) lv (.ref (Y.2.2.2 5) :: st) o) : ww_V X Y ad G nL σ pc lv st o := by
  obtain ⟨p, l, e, R, s, m, args, below, meth, c, cells, slots, Qf, A⟩ := X
  obtain ⟨rfl, ⟨hRf, hRl, hRc, hRs⟩, hx, hb, hml, hown, hts, hEv, hI, hAk, hA⟩ := hC
  intro H locs ls r hr hP hS hl
  exact va_ldcS (tx := "whale") hx hb hown hEv.2.2.2.2.2.2.2.2.2 hd (kk H locs ls r hr hP hS hl)
end WROWS
end
section
/-! ===== loops, returns, calls, entry ===== -/
def ww_kk {α β : Type} (f : α → Option (α ⊕ β)) (K : β → Option ww_R) (n : Nat) : α ⊕ β → Option ww_R
  | .inl y => (ww_it f n y).bind K
  | .inr b => K b
theorem ww_it_succ {α β : Type} (f : α → Option (α ⊕ β)) (K : β → Option ww_R) (n : Nat) (a : α) : (ww_it f (n + 1) a).bind K = (f a).bind (ww_kk f K n) := by
  cases e : f a with
  | none => simp [ww_it, e]
  | some x => cases x <;> simp [ww_it, e, ww_kk]
section WLOOP
variable {X : ww_X} {l0 : Launch} {Y : ww_Y} {ad : Nat → Nat} {G : List ww_L} {h nL pc : Nat} {cc : ByteArray} {own : String} {σ : ww_M} {lv lv' : List (Nat × Value)} {st : List Value} {o : Option ww_R} {α β γ : Type}
theorem ww_loop {f : α → Option (α ⊕ β)} {K : β → Option ww_R} (σf : α → ww_M) (lvf : α → List (Nat × Value)) (σe : β → ww_M) (lve : β → List (Nat × Value)) (pe : Nat)
    (hexit : ∀ b, ww_V X Y ad G nL (σe b) pe (lve b) st (K b))
    (hs : ∀ (a : α) (KK : α ⊕ β → Option ww_R), (∀ a', ww_V X Y ad G nL (σf a') pc (lvf a') st (KK (.inl a'))) → (∀ b, ww_V X Y ad G nL (σe b) pe (lve b) st (KK (.inr b))) → ww_V X Y ad G nL (σf a) pc (lvf a) st ((f a).bind KK)) :
    ∀ (n : Nat) (a : α), ww_V X Y ad G nL (σf a) pc (lvf a) st ((ww_it f n a).bind K) := by
  intro n
  induction n with
  | zero => intro a; exact ww_none rfl
  | succ n ih =>
    intro a
    exact ww_eq (ww_it_succ f K n a) (hs a (ww_kk f K n) ih hexit)
theorem ww_loopR {f : α → Option (α ⊕ (β ⊕ γ))} {K : β ⊕ γ → Option ww_R} (σf : α → ww_M) (lvf : α → List (Nat × Value)) (σe : β → ww_M) (lve : β → List (Nat × Value)) (pe : Nat)
    (hexit : ∀ b, ww_V X Y ad G nL (σe b) pe (lve b) st (K (.inl b)))
    (hs : ∀ (a : α) (KK : α ⊕ (β ⊕ γ) → Option ww_R), (∀ a', ww_V X Y ad G nL (σf a') pc (lvf a') st (KK (.inl a'))) → (∀ b, ww_V X Y ad G nL (σe b) pe (lve b) st (KK (.inr (.inl b)))) → (∀ g, KK (.inr (.inr g)) = K (.inr g)) → ww_V X Y ad G nL (σf a) pc (lvf a) st ((f a).bind KK)) :
    ∀ (n : Nat) (a : α), ww_V X Y ad G nL (σf a) pc (lvf a) st ((ww_it f n a).bind K) := by
  intro n
  induction n with
  | zero => intro a; exact ww_none rfl
  | succ n ih =>
    intro a
    exact ww_eq (ww_it_succ f K n a) (hs a (ww_kk f K n) ih hexit (fun _ => rfl))
theorem ww_assoc {f : Option α} {E : α → Option β} {K : β → Option ww_R} (k : ww_V X Y ad G nL σ pc lv st (f.bind (fun a => (E a).bind K))) : ww_V X Y ad G nL σ pc lv st ((f.bind E).bind K) := by
  refine ww_eq ?_ k
  cases f <;> rfl
theorem ww_ireturn (hC : ww_C X l0 Y ad G h cc nL own) (hR : ww_CR X Y ad G (some .int)) (hd : decode cc pc = .ok (.ireturn, 1)) {x : Int32} (ho : o = some (some (.int x), σ)) : ww_V X Y ad G nL σ pc lv [.int x] o := by
  obtain ⟨p, l, e, R, s, m, args, below, meth, c, cells, slots, Qf, A⟩ := X
  obtain ⟨rfl, ⟨hRf, hRl, hRc, hRs⟩, hx, hb, hml, hown, hts, hEv, hI, hAk, hA⟩ := hC
  obtain ⟨hr1, hlk, rfl⟩ := hR
  intro H locs ls r hr hP hS hl
  cases hr.symm.trans ho
  exact W.iret hx hb hr1 (fun t ht _ => ⟨rfl, by rw [ht]; exact hP, hS.F ht⟩) hS.2.2 hd (hlocks := hlk)
theorem ww_zreturn (hC : ww_C X l0 Y ad G h cc nL own) {ty : FieldType} (hR : ww_CR X Y ad G (some ty)) (hd : decode cc pc = .ok (.ireturn, 1)) {x : Int32} (hn : narrow ty (.int x) = .int x) (ho : o = some (some (.int x), σ)) : ww_V X Y ad G nL σ pc lv [.int x] o := by
  obtain ⟨p, l, e, R, s, m, args, below, meth, c, cells, slots, Qf, A⟩ := X
  obtain ⟨rfl, ⟨hRf, hRl, hRc, hRs⟩, hx, hb, hml, hown, hts, hEv, hI, hAk, hA⟩ := hC
  obtain ⟨hr1, hlk, rfl⟩ := hR
  intro H locs ls r hr hP hS hl
  cases hr.symm.trans ho
  exact W.zret hx hb hr1 hn (fun t ht _ => ⟨rfl, by rw [ht]; exact hP, hS.F ht⟩) hS.2.2 hd (hlocks := hlk)
theorem ww_zreturnG (hC : ww_C X l0 Y ad G h cc nL own) (hR : ww_CR X Y ad G (some .boolean)) (hd : decode cc pc = .ok (.ireturn, 1)) {x : Int32} {E : Option α} {K : α → Option ww_R} (ho : E.bind K = some (some (.int x), σ)) : ww_V X Y ad G nL σ pc lv [.int x] ((ww_ck (ww_isb x) E).bind K) := by
  cases hq : ww_isb x with
  | true => exact ww_zreturn hC hR hd (ww_isb_n hq) ho
  | false => exact ww_none rfl
theorem ww_lreturn (hC : ww_C X l0 Y ad G h cc nL own) (hR : ww_CR X Y ad G (some .long)) (hd : decode cc pc = .ok (.lreturn, 1)) {x : Int64} (ho : o = some (some (.long x), σ)) : ww_V X Y ad G nL σ pc lv [.long x] o := by
  obtain ⟨p, l, e, R, s, m, args, below, meth, c, cells, slots, Qf, A⟩ := X
  obtain ⟨rfl, ⟨hRf, hRl, hRc, hRs⟩, hx, hb, hml, hown, hts, hEv, hI, hAk, hA⟩ := hC
  obtain ⟨hr1, hlk, rfl⟩ := hR
  intro H locs ls r hr hP hS hl
  cases hr.symm.trans ho
  exact W.lret hx hb hr1 (fun t ht _ => ⟨rfl, by rw [ht]; exact hP, hS.F ht⟩) hS.2.2 hd (hlocks := hlk)
theorem ww_return (hC : ww_C X l0 Y ad G h cc nL own) (hR : ww_CR X Y ad G none) (hd : decode cc pc = .ok (.return_, 1)) (ho : o = some (none, σ)) : ww_V X Y ad G nL σ pc lv [] o := by
  obtain ⟨p, l, e, R, s, m, args, below, meth, c, cells, slots, Qf, A⟩ := X
  obtain ⟨rfl, ⟨hRf, hRl, hRc, hRs⟩, hx, hb, hml, hown, hts, hEv, hI, hAk, hA⟩ := hC
  obtain ⟨hr1, hlk, rfl⟩ := hR
  intro H locs ls r hr hP hS hl
  cases hr.symm.trans ho
  exact W.vret hx hb hr1 (fun t ht _ => ⟨rfl, by rw [ht]; exact hP, hS.F ht⟩) hS.2.2 hd (hlocks := hlk)
end WLOOP
theorem ww_Ev.same {Y : ww_Y} {A : Nat → Prop} {U V : State} {H : Heap} (hv : U.vm = V.vm) (h : ww_Ev Y A U H) : ww_Ev Y A V H := by
  obtain ⟨h1, h2, h3, h4, h5⟩ := h
  have ha : U.vm.Alike V.vm := by rw [← hv]; exact Vm.Alike.refl U.vm
  refine ⟨va_K.moved ha h1, fun w hw => ?_, h3.moved ha, h4.moved ha, ww_RS.same hv h5⟩
  have hg := ww_Ng hw
  have hz := h2 w hw
  exact va_Nw.same (by cases w <;> first | rfl | cases hg) hv hz
theorem ww_blind (Y : ww_Y) (ad : Nat → Nat) (G : List ww_L) (sz : Nat) (σ : ww_M) (av : List Value) : FrameBlind (va_Pc av (ww_Pc Y ad G sz σ)) := by
  intro a U g mk q
  obtain ⟨q0, q1, qP, qE, qI⟩ := q
  have qE2 : ww_Ev Y (ww_AA G ad sz) (U.calling g mk a) U.heap := ww_Ev.same (U := U) (V := U.calling g mk a) rfl qE
  exact ⟨q0, q1, qP, qE2, qI⟩
/-- the body gives the contract -/
theorem ww_met {l : Launch} {Y : ww_Y} {ad : Nat → Nat} {G : List ww_L} {y : MethodName} {cc : ByteArray} {nL : Nat} {ret : Option FieldType} {h : Nat} {av : List Value} {σ : ww_M} {o : Option ww_R} (hy : plainName y.cls = true) (hav : (lg_sl av).length ≤ nL)
    (body : ∀ X : ww_X, ww_C X l Y ad G h cc nL y.cls → ww_CR X Y ad G ret → ww_V X Y ad G nL σ 0 (lv_args 0 av) [] o) : ww_Cn l Y ad G y cc nL ret h av σ o := by
  intro sz r hr
  refine Met.ofW (cc := cc) (maxL := nL) (ret := ret) hy rfl ?_
  intro p e s m args below meth c s₁ B hml hv
  obtain ⟨rfl, hsz, hP, hEv, hI⟩ := hv
  subst hsz
  have hts := atoms_spec (ws := .code y cc nL ret :: ww_T) B.pre
  have hb := body (p, l, e, (headSpec (.code y cc nL ret :: ww_T) (ww_Rm h)).room, s, m, av.toArray, below, meth, c, 0, 0, (fun r => MQ below (ww_Qr Y ad G (ww_AA G ad s.heap.size) r) av.toArray s 0 0 (ww_AA G ad s.heap.size)), ww_AA G ad s.heap.size)
    ⟨rfl, ⟨Nat.le_refl _, Nat.le_refl _, Nat.zero_le _, Nat.zero_le _⟩, B.exec, B.bytes, hml, findClass_of_methodNamed B.named, fun w hw => hts w (List.mem_cons_of_mem _ hw), hEv, hI, fun k hk => Or.inl ⟨k, hk, rfl⟩, fun q hq => Or.inr hq⟩
    ⟨B.returns, B.notSynchronized, rfl⟩
  rw [lg_entry_eq]
  exact hb s.heap [] _ r hr hP va_S.rf (lv_entry av hav)
def ww_mV (y : MethodName) (bytes : ByteArray) (maxL : Nat) (ret : Option FieldType) (n : Nat) : Prop := Cond.code y bytes maxL ret ∈ ww_T ∧ Cond.initialized y.cls ∈ ww_T ∧ Cond.instanceMethod y ∈ ww_T ∧ Cond.selects y.cls y y ∈ ww_T ∧ (y.cls ≠ "java/lang/invoke/MethodHandle" ∧ y.cls ≠ "java/lang/invoke/VarHandle" ∧ (parseMethodDescriptor y.desc).map (fun d => d.parameters.length) = some n)
def ww_mS (y : MethodName) (bytes : ByteArray) (maxL : Nat) (ret : Option FieldType) (n : Nat) : Prop := Cond.code y bytes maxL ret ∈ ww_T ∧ Cond.initialized y.cls ∈ ww_T ∧ Cond.static y ∈ ww_T ∧ (y.cls ≠ "java/lang/invoke/MethodHandle" ∧ y.cls ≠ "java/lang/invoke/VarHandle" ∧ (parseMethodDescriptor y.desc).map (fun d => d.parameters.length) = some n)
theorem ww_good {y : MethodName} {bytes : ByteArray} {maxL : Nat} {ret : Option FieldType} (h : Cond.code y bytes maxL ret ∈ ww_T) : GoodIn ww_T (Cond.code y bytes maxL ret :: ww_T) := fun w hw => (List.mem_cons.mp hw).elim (fun e => by rw [e]; exact ww_Tg _ h) (fun q => ww_Tg _ q)
theorem ww_AAin {G : List ww_L} {ad : Nat → Nat} {A : Nat → Prop} {H0 H : Heap} {locs : List Loc} (hS : va_S A H0 H locs) (hAk : ∀ k, k < G.length → A (ad k)) (hA : ∀ q, H0.size ≤ q → A q) : ∀ q, ww_AA G ad H.size q → A q := by
  intro q h
  rcases h with ⟨k, hk, rfl⟩ | h
  · exact hAk k hk
  · exact hA q (Nat.le_trans hS.1 h)
section WCALL
variable {X : ww_X} {l0 : Launch} {Y : ww_Y} {ad : Nat → Nat} {G : List ww_L} {h nL pc : Nat} {cc : ByteArray} {own : String} {σ : ww_M} {lv : List (Nat × Value)} {st st0 : List Value} {α β : Type}
theorem ww_after {p : Program} {l : Launch} {e : Env} {R : Room} {s : State} {m : MethodId} {args : Array Value} {below : List Frame} {meth : Method} {c : Code} {cells slots : Nat} {H : Heap} {locs : List Loc} {ls : Array Slot} {A : Nat → Prop} {Q : State → Prop} {a : Array Value} {r : ww_R}
    (hS : va_S A s.heap H locs) (hf : ∀ q, ww_AA G ad H.size q → A q)
    (run : va_Run p l e R s m args below meth c H locs cells slots 0 0 (F0 m pc ls st0) st (ww_Qr Y ad G (ww_AA G ad H.size) r a) (ww_AA G ad H.size))
    (kk : ∀ (H1 : Heap) (locs1 : List Loc), va_P Y.1 vwCl (ww_W G ad Y.2.1 r.2) H1 → va_S A s.heap H1 locs1 → W p l e R s m args below meth c H1 locs1 cells slots Q (F0 m (pc + 3) ls (r.1.toList ++ st))) : W p l e R s m args below meth c H locs cells slots Q (F0 m pc ls st0) := by
  intro T hT X
  obtain ⟨v, st₀, t, T', L, h0, X', hL, e1, e2, ⟨hv, hP1, hz, hk⟩, stp⟩ := run T hT X
  rw [h0] at hz hk
  have hv' : v = r.1 := by injection hv
  subst hv'
  obtain ⟨t2, a1, b1⟩ := kk T'.heap (locs ++ L) (by rw [e1]; exact hP1) ⟨Nat.le_trans hS.1 (by rw [e1]; exact hz), fun q h1 h2 => by rw [e1, hk q (Nat.lt_of_lt_of_le h1 hS.1) (fun z => h2 (hf q z))]; exact hS.2.1 q h1 h2, fun q hq => by
      rcases List.mem_append.mp hq with h | h
      · exact hS.2.2 q h
      · exact hf _ (hL q h)⟩ T' rfl X'
  exact ⟨t2, stp t2 a1, b1⟩
theorem ww_bind_some {f : Option α} {E : α → Option β} {K : β → Option ww_R} {r : ww_R} (hr : (f.bind E).bind K = some r) : ∃ a, f = some a ∧ (E a).bind K = some r := by
  cases f with
  | none => cases hr
  | some a => exact ⟨a, rfl, hr⟩
theorem ww_callV (hC : ww_C X l0 Y ad G h cc nL own) {f : Option α} {kc : α → ww_R} {E : α → Option β} {K : β → Option ww_R} {y : MethodName} {bytes : ByteArray} {maxL h' b ci N index : Nat} {ret : Option FieldType} {T : u_T} {fs : List (Option Nat)} {As : List Value}
    (hM : ww_Cn l0 Y ad G y bytes maxL ret h' (.ref (ad b) :: As) σ (f.bind (fun a => some (kc a)))) (hm : ww_mV y bytes maxL ret As.length) (hlk : Cond.methodLink own index y ∈ ww_T) (hG : G[b]? = some (.inl (ci, fs))) (hc : vwCl[ci]? = some (y.cls, T, N)) (hh : h' + 1 ≤ h) (hL : maxL ≤ 21) (hs8 : (st.map fun v => v.category).sum ≤ 8) (hst : st0 = As.reverse ++ .ref (ad b) :: st) (hd : decode cc pc = .ok (.invokevirtual index, 3))
    (kk : ∀ a, ww_V X Y ad G nL (kc a).2 (pc + 3) lv ((kc a).1.toList ++ st) ((E a).bind K)) : ww_V X Y ad G nL σ pc lv st0 ((f.bind E).bind K) := by
  obtain ⟨p, l, e, R, s, m, args, below, meth, c, cells, slots, Qf, A⟩ := X
  obtain ⟨rfl, ⟨hRf, hRl, hRc, hRs⟩, hx, hb, hml, hown, hts, hEv, hI, hAk, hA⟩ := hC
  intro H locs ls r hr hP hS hl
  obtain ⟨a, ha, hr⟩ := ww_bind_some hr
  have hM' := hM H.size (kc a) (by rw [ha]; rfl)
  have hf := ww_AAin (G := G) (ad := ad) hS hAk hA
  obtain ⟨m1, m2, m3, m4, m5⟩ := hm
  have hgood : GoodIn ww_T (wsV own index y.cls y (Cond.code y bytes maxL ret :: ww_T)) := by
    intro w hw
    rcases List.mem_append.mp hw with q | q
    · have q2 : w = .methodLink own index y ∨ w = .instanceMethod y ∨ w = .selects y.cls y y ∨ w = .initialized y.cls := by simpa using q
      rcases q2 with rfl | rfl | rfl | rfl
      · exact ww_Tg _ hlk
      · exact ww_Tg _ m3
      · exact ww_Tg _ m4
      · exact ww_Tg _ m2
    · exact ww_good m1 w q
  refine ww_after (a := (Value.ref (ad b) :: As).toArray) (r := kc a) hS hf (va_runV (As := As) (rest := st) ⟨hx, hb, hml, hown, hts⟩ hM' (cwV As.length hts hgood rfl rfl rfl ⟨rfl, m5⟩ ⟨by show h' + 1 ≤ _; omega, by show 8 + (maxL + 11) + 40 * h' ≤ _; omega⟩) ⟨ww_blind _ _ _ _ _ _, va_recv hEv.1 hP hc (ww_W_get hG), fun U hU hW => ⟨rfl, by rw [hU], by rw [hU]; exact hP, by rw [hU]; exact hEv.warm hW hS.2.1 (fun q _ z => hf q z) hf, hI⟩⟩ rfl rfl hl.1 hst (lv_room hs8) hd ⟨hRc, hRs⟩) ?_
  intro H1 locs1 hP1 hS1
  exact kk a H1 locs1 ls r hr hP1 hS1 hl
theorem ww_callS (hC : ww_C X l0 Y ad G h cc nL own) {f : Option α} {kc : α → ww_R} {E : α → Option β} {K : β → Option ww_R} {y : MethodName} {bytes : ByteArray} {maxL h' index : Nat} {ret : Option FieldType} {As : List Value}
    (hM : ww_Cn l0 Y ad G y bytes maxL ret h' As σ (f.bind (fun a => some (kc a)))) (hm : ww_mS y bytes maxL ret As.length) (hlk : Cond.methodLink own index y ∈ ww_T) (hh : h' + 1 ≤ h) (hL : maxL ≤ 21) (hs8 : (st.map fun v => v.category).sum ≤ 8) (hst : st0 = As.reverse ++ st) (hd : decode cc pc = .ok (.invokestatic index, 3))
    (kk : ∀ a, ww_V X Y ad G nL (kc a).2 (pc + 3) lv ((kc a).1.toList ++ st) ((E a).bind K)) : ww_V X Y ad G nL σ pc lv st0 ((f.bind E).bind K) := by
  obtain ⟨p, l, e, R, s, m, args, below, meth, c, cells, slots, Qf, A⟩ := X
  obtain ⟨rfl, ⟨hRf, hRl, hRc, hRs⟩, hx, hb, hml, hown, hts, hEv, hI, hAk, hA⟩ := hC
  intro H locs ls r hr hP hS hl
  obtain ⟨a, ha, hr⟩ := ww_bind_some hr
  have hM' := hM H.size (kc a) (by rw [ha]; rfl)
  have hf := ww_AAin (G := G) (ad := ad) hS hAk hA
  obtain ⟨m1, m2, m3, m5⟩ := hm
  refine ww_after (a := As.toArray) (r := kc a) hS hf (va_runS (As := As) (rest := st) ⟨hx, hb, hml, hown, hts⟩ hM' ⟨callB_of As.length hts (ww_good m1) rfl rfl rfl (hts _ m2) (hts _ hlk) m5 ⟨by show h' + 1 ≤ _; omega, by show 8 + (maxL + 11) + 40 * h' ≤ _; omega⟩, hts _ m3⟩ ⟨ww_blind _ _ _ _ _ _, fun U hU hW => ⟨rfl, by rw [hU], by rw [hU]; exact hP, by rw [hU]; exact hEv.warm hW hS.2.1 (fun q _ z => hf q z) hf, hI⟩⟩ rfl rfl hl.1 hst (lv_room hs8) hd ⟨hRc, hRs⟩) ?_
  intro H1 locs1 hP1 hS1
  exact kk a H1 locs1 ls r hr hP1 hS1 hl
theorem ww_callSN (hC : ww_C X l0 Y ad G h cc nL own) {f : Option α} {kc : α → ww_R} {E : α → Option β} {K : β → Option ww_R} {y : MethodName} {host : String} {bytes : ByteArray} {maxL h' index : Nat} {ret : Option FieldType} {As : List Value}
    (hM : ww_Cn l0 Y ad G y bytes maxL ret h' As σ (f.bind (fun a => some (kc a)))) (hm : ww_mS y bytes maxL ret As.length) (hlk : Cond.methodLinkNest own index y host ∈ ww_N) (hh : h' + 1 ≤ h) (hL : maxL ≤ 21) (hs8 : (st.map fun v => v.category).sum ≤ 8) (hst : st0 = As.reverse ++ st) (hd : decode cc pc = .ok (.invokestatic index, 3))
    (kk : ∀ a, ww_V X Y ad G nL (kc a).2 (pc + 3) lv ((kc a).1.toList ++ st) ((E a).bind K)) : ww_V X Y ad G nL σ pc lv st0 ((f.bind E).bind K) := by
  obtain ⟨p, l, e, R, s, m, args, below, meth, c, cells, slots, Qf, A⟩ := X
  obtain ⟨rfl, ⟨hRf, hRl, hRc, hRs⟩, hx, hb, hml, hown, hts, hEv, hI, hAk, hA⟩ := hC
  intro H locs ls r hr hP hS hl
  obtain ⟨a, ha, hr⟩ := ww_bind_some hr
  have hM' := hM H.size (kc a) (by rw [ha]; rfl)
  have hf := ww_AAin (G := G) (ad := ad) hS hAk hA
  obtain ⟨m1, m2, m3, m5⟩ := hm
  refine ww_after (a := As.toArray) (r := kc a) hS hf (va_runSN (As := As) (rest := st) ⟨hx, hb, hml, hown, hts⟩ hM' ⟨va_cnB As.length hts (ww_good m1) rfl rfl rfl (hEv.2.1 _ hlk) (hts _ m2) m5 ⟨by show h' + 1 ≤ _; omega, by show 8 + (maxL + 11) + 40 * h' ≤ _; omega⟩, hts _ m3, trivial⟩ ⟨ww_blind _ _ _ _ _ _, fun U hU hW => ⟨rfl, by rw [hU], by rw [hU]; exact hP, by rw [hU]; exact hEv.warm hW hS.2.1 (fun q _ z => hf q z) hf, hI⟩⟩ rfl rfl hl.1 hst (lv_room hs8) hd ⟨hRc, hRs⟩) ?_
  intro H1 locs1 hP1 hS1
  exact kk a H1 locs1 ls r hr hP1 hS1 hl
end WCALL
def ww_ri (σ : ww_M) (x : Int32) : Option ww_R := some (some (.int x), σ)
def ww_rl (σ : ww_M) (x : Int64) : Option ww_R := some (some (.long x), σ)
def ww_rw (q : Int32 × ww_M) : Option ww_R := some (some (.int q.1), q.2)
def ww_rv (τ : ww_M) : Option ww_R := some (none, τ)
section WCALL2
variable {X : ww_X} {l0 : Launch} {Y : ww_Y} {ad : Nat → Nat} {G : List ww_L} {h nL pc : Nat} {cc : ByteArray} {own : String} {σ : ww_M} {lv : List (Nat × Value)} {st st0 : List Value} {β : Type}
theorem ww_callVi (hC : ww_C X l0 Y ad G h cc nL own) {f : Option (Int32)} {E : (Int32) → Option β} {K : β → Option ww_R} {y : MethodName} {bytes : ByteArray} {maxL h' b ci N index : Nat} {ret : Option FieldType} {T : u_T} {fs : List (Option Nat)} {As : List Value} (hM : ww_Cn l0 Y ad G y bytes maxL ret h' (.ref (ad b) :: As) σ (f.bind (ww_ri σ))) (hm : ww_mV y bytes maxL ret As.length) (hlk : Cond.methodLink own index y ∈ ww_T) (hG : G[b]? = some (.inl (ci, fs))) (hc : vwCl[ci]? = some (y.cls, T, N)) (hh : h' + 1 ≤ h) (hL : maxL ≤ 21) (hs8 : (st.map fun v => v.category).sum ≤ 8) (hst : st0 = As.reverse ++ .ref (ad b) :: st) (hd : decode cc pc = .ok (.invokevirtual index, 3)) (kk : ∀ a, ww_V X Y ad G nL σ (pc + 3) lv (.int a :: st) ((E a).bind K)) : ww_V X Y ad G nL σ pc lv st0 ((f.bind E).bind K) :=
  ww_callV (kc := fun x => (some (.int x), σ)) hC hM hm hlk hG hc hh hL hs8 hst hd kk
theorem ww_callSi (hC : ww_C X l0 Y ad G h cc nL own) {f : Option (Int32)} {E : (Int32) → Option β} {K : β → Option ww_R} {y : MethodName} {bytes : ByteArray} {maxL h' index : Nat} {ret : Option FieldType} {As : List Value} (hM : ww_Cn l0 Y ad G y bytes maxL ret h' As σ (f.bind (ww_ri σ))) (hm : ww_mS y bytes maxL ret As.length) (hlk : Cond.methodLink own index y ∈ ww_T) (hh : h' + 1 ≤ h) (hL : maxL ≤ 21) (hs8 : (st.map fun v => v.category).sum ≤ 8) (hst : st0 = As.reverse ++ st) (hd : decode cc pc = .ok (.invokestatic index, 3)) (kk : ∀ a, ww_V X Y ad G nL σ (pc + 3) lv (.int a :: st) ((E a).bind K)) : ww_V X Y ad G nL σ pc lv st0 ((f.bind E).bind K) :=
  ww_callS (kc := fun x => (some (.int x), σ)) hC hM hm hlk hh hL hs8 hst hd kk
theorem ww_callSNi (hC : ww_C X l0 Y ad G h cc nL own) {f : Option (Int32)} {E : (Int32) → Option β} {K : β → Option ww_R} {y : MethodName} {bytes : ByteArray} {host : String} {maxL h' index : Nat} {ret : Option FieldType} {As : List Value} (hM : ww_Cn l0 Y ad G y bytes maxL ret h' As σ (f.bind (ww_ri σ))) (hm : ww_mS y bytes maxL ret As.length) (hlk : Cond.methodLinkNest own index y host ∈ ww_N) (hh : h' + 1 ≤ h) (hL : maxL ≤ 21) (hs8 : (st.map fun v => v.category).sum ≤ 8) (hst : st0 = As.reverse ++ st) (hd : decode cc pc = .ok (.invokestatic index, 3)) (kk : ∀ a, ww_V X Y ad G nL σ (pc + 3) lv (.int a :: st) ((E a).bind K)) : ww_V X Y ad G nL σ pc lv st0 ((f.bind E).bind K) :=
  ww_callSN (kc := fun x => (some (.int x), σ)) hC hM hm hlk hh hL hs8 hst hd kk
theorem ww_callVl (hC : ww_C X l0 Y ad G h cc nL own) {f : Option (Int64)} {E : (Int64) → Option β} {K : β → Option ww_R} {y : MethodName} {bytes : ByteArray} {maxL h' b ci N index : Nat} {ret : Option FieldType} {T : u_T} {fs : List (Option Nat)} {As : List Value} (hM : ww_Cn l0 Y ad G y bytes maxL ret h' (.ref (ad b) :: As) σ (f.bind (ww_rl σ))) (hm : ww_mV y bytes maxL ret As.length) (hlk : Cond.methodLink own index y ∈ ww_T) (hG : G[b]? = some (.inl (ci, fs))) (hc : vwCl[ci]? = some (y.cls, T, N)) (hh : h' + 1 ≤ h) (hL : maxL ≤ 21) (hs8 : (st.map fun v => v.category).sum ≤ 8) (hst : st0 = As.reverse ++ .ref (ad b) :: st) (hd : decode cc pc = .ok (.invokevirtual index, 3)) (kk : ∀ a, ww_V X Y ad G nL σ (pc + 3) lv (.long a :: st) ((E a).bind K)) : ww_V X Y ad G nL σ pc lv st0 ((f.bind E).bind K) :=
  ww_callV (kc := fun x => (some (.long x), σ)) hC hM hm hlk hG hc hh hL hs8 hst hd kk
theorem ww_callSl (hC : ww_C X l0 Y ad G h cc nL own) {f : Option (Int64)} {E : (Int64) → Option β} {K : β → Option ww_R} {y : MethodName} {bytes : ByteArray} {maxL h' index : Nat} {ret : Option FieldType} {As : List Value} (hM : ww_Cn l0 Y ad G y bytes maxL ret h' As σ (f.bind (ww_rl σ))) (hm : ww_mS y bytes maxL ret As.length) (hlk : Cond.methodLink own index y ∈ ww_T) (hh : h' + 1 ≤ h) (hL : maxL ≤ 21) (hs8 : (st.map fun v => v.category).sum ≤ 8) (hst : st0 = As.reverse ++ st) (hd : decode cc pc = .ok (.invokestatic index, 3)) (kk : ∀ a, ww_V X Y ad G nL σ (pc + 3) lv (.long a :: st) ((E a).bind K)) : ww_V X Y ad G nL σ pc lv st0 ((f.bind E).bind K) :=
  ww_callS (kc := fun x => (some (.long x), σ)) hC hM hm hlk hh hL hs8 hst hd kk
theorem ww_callSNl (hC : ww_C X l0 Y ad G h cc nL own) {f : Option (Int64)} {E : (Int64) → Option β} {K : β → Option ww_R} {y : MethodName} {bytes : ByteArray} {host : String} {maxL h' index : Nat} {ret : Option FieldType} {As : List Value} (hM : ww_Cn l0 Y ad G y bytes maxL ret h' As σ (f.bind (ww_rl σ))) (hm : ww_mS y bytes maxL ret As.length) (hlk : Cond.methodLinkNest own index y host ∈ ww_N) (hh : h' + 1 ≤ h) (hL : maxL ≤ 21) (hs8 : (st.map fun v => v.category).sum ≤ 8) (hst : st0 = As.reverse ++ st) (hd : decode cc pc = .ok (.invokestatic index, 3)) (kk : ∀ a, ww_V X Y ad G nL σ (pc + 3) lv (.long a :: st) ((E a).bind K)) : ww_V X Y ad G nL σ pc lv st0 ((f.bind E).bind K) :=
  ww_callSN (kc := fun x => (some (.long x), σ)) hC hM hm hlk hh hL hs8 hst hd kk
theorem ww_callVw (hC : ww_C X l0 Y ad G h cc nL own) {f : Option (Int32 × ww_M)} {E : (Int32 × ww_M) → Option β} {K : β → Option ww_R} {y : MethodName} {bytes : ByteArray} {maxL h' b ci N index : Nat} {ret : Option FieldType} {T : u_T} {fs : List (Option Nat)} {As : List Value} (hM : ww_Cn l0 Y ad G y bytes maxL ret h' (.ref (ad b) :: As) σ (f.bind ww_rw)) (hm : ww_mV y bytes maxL ret As.length) (hlk : Cond.methodLink own index y ∈ ww_T) (hG : G[b]? = some (.inl (ci, fs))) (hc : vwCl[ci]? = some (y.cls, T, N)) (hh : h' + 1 ≤ h) (hL : maxL ≤ 21) (hs8 : (st.map fun v => v.category).sum ≤ 8) (hst : st0 = As.reverse ++ .ref (ad b) :: st) (hd : decode cc pc = .ok (.invokevirtual index, 3)) (kk : ∀ a, ww_V X Y ad G nL a.2 (pc + 3) lv (.int a.1 :: st) ((E a).bind K)) : ww_V X Y ad G nL σ pc lv st0 ((f.bind E).bind K) :=
  ww_callV (kc := fun q => (some (.int q.1), q.2)) hC hM hm hlk hG hc hh hL hs8 hst hd kk
theorem ww_callSw (hC : ww_C X l0 Y ad G h cc nL own) {f : Option (Int32 × ww_M)} {E : (Int32 × ww_M) → Option β} {K : β → Option ww_R} {y : MethodName} {bytes : ByteArray} {maxL h' index : Nat} {ret : Option FieldType} {As : List Value} (hM : ww_Cn l0 Y ad G y bytes maxL ret h' As σ (f.bind ww_rw)) (hm : ww_mS y bytes maxL ret As.length) (hlk : Cond.methodLink own index y ∈ ww_T) (hh : h' + 1 ≤ h) (hL : maxL ≤ 21) (hs8 : (st.map fun v => v.category).sum ≤ 8) (hst : st0 = As.reverse ++ st) (hd : decode cc pc = .ok (.invokestatic index, 3)) (kk : ∀ a, ww_V X Y ad G nL a.2 (pc + 3) lv (.int a.1 :: st) ((E a).bind K)) : ww_V X Y ad G nL σ pc lv st0 ((f.bind E).bind K) :=
  ww_callS (kc := fun q => (some (.int q.1), q.2)) hC hM hm hlk hh hL hs8 hst hd kk
theorem ww_callSNw (hC : ww_C X l0 Y ad G h cc nL own) {f : Option (Int32 × ww_M)} {E : (Int32 × ww_M) → Option β} {K : β → Option ww_R} {y : MethodName} {bytes : ByteArray} {host : String} {maxL h' index : Nat} {ret : Option FieldType} {As : List Value} (hM : ww_Cn l0 Y ad G y bytes maxL ret h' As σ (f.bind ww_rw)) (hm : ww_mS y bytes maxL ret As.length) (hlk : Cond.methodLinkNest own index y host ∈ ww_N) (hh : h' + 1 ≤ h) (hL : maxL ≤ 21) (hs8 : (st.map fun v => v.category).sum ≤ 8) (hst : st0 = As.reverse ++ st) (hd : decode cc pc = .ok (.invokestatic index, 3)) (kk : ∀ a, ww_V X Y ad G nL a.2 (pc + 3) lv (.int a.1 :: st) ((E a).bind K)) : ww_V X Y ad G nL σ pc lv st0 ((f.bind E).bind K) :=
  ww_callSN (kc := fun q => (some (.int q.1), q.2)) hC hM hm hlk hh hL hs8 hst hd kk
theorem ww_callVv (hC : ww_C X l0 Y ad G h cc nL own) {f : Option (ww_M)} {E : (ww_M) → Option β} {K : β → Option ww_R} {y : MethodName} {bytes : ByteArray} {maxL h' b ci N index : Nat} {ret : Option FieldType} {T : u_T} {fs : List (Option Nat)} {As : List Value} (hM : ww_Cn l0 Y ad G y bytes maxL ret h' (.ref (ad b) :: As) σ (f.bind ww_rv)) (hm : ww_mV y bytes maxL ret As.length) (hlk : Cond.methodLink own index y ∈ ww_T) (hG : G[b]? = some (.inl (ci, fs))) (hc : vwCl[ci]? = some (y.cls, T, N)) (hh : h' + 1 ≤ h) (hL : maxL ≤ 21) (hs8 : (st.map fun v => v.category).sum ≤ 8) (hst : st0 = As.reverse ++ .ref (ad b) :: st) (hd : decode cc pc = .ok (.invokevirtual index, 3)) (kk : ∀ a, ww_V X Y ad G nL a (pc + 3) lv st ((E a).bind K)) : ww_V X Y ad G nL σ pc lv st0 ((f.bind E).bind K) :=
  ww_callV (kc := fun τ => (none, τ)) hC hM hm hlk hG hc hh hL hs8 hst hd kk
theorem ww_callSv (hC : ww_C X l0 Y ad G h cc nL own) {f : Option (ww_M)} {E : (ww_M) → Option β} {K : β → Option ww_R} {y : MethodName} {bytes : ByteArray} {maxL h' index : Nat} {ret : Option FieldType} {As : List Value} (hM : ww_Cn l0 Y ad G y bytes maxL ret h' As σ (f.bind ww_rv)) (hm : ww_mS y bytes maxL ret As.length) (hlk : Cond.methodLink own index y ∈ ww_T) (hh : h' + 1 ≤ h) (hL : maxL ≤ 21) (hs8 : (st.map fun v => v.category).sum ≤ 8) (hst : st0 = As.reverse ++ st) (hd : decode cc pc = .ok (.invokestatic index, 3)) (kk : ∀ a, ww_V X Y ad G nL a (pc + 3) lv st ((E a).bind K)) : ww_V X Y ad G nL σ pc lv st0 ((f.bind E).bind K) :=
  ww_callS (kc := fun τ => (none, τ)) hC hM hm hlk hh hL hs8 hst hd kk
theorem ww_callSNv (hC : ww_C X l0 Y ad G h cc nL own) {f : Option (ww_M)} {E : (ww_M) → Option β} {K : β → Option ww_R} {y : MethodName} {bytes : ByteArray} {host : String} {maxL h' index : Nat} {ret : Option FieldType} {As : List Value} (hM : ww_Cn l0 Y ad G y bytes maxL ret h' As σ (f.bind ww_rv)) (hm : ww_mS y bytes maxL ret As.length) (hlk : Cond.methodLinkNest own index y host ∈ ww_N) (hh : h' + 1 ≤ h) (hL : maxL ≤ 21) (hs8 : (st.map fun v => v.category).sum ≤ 8) (hst : st0 = As.reverse ++ st) (hd : decode cc pc = .ok (.invokestatic index, 3)) (kk : ∀ a, ww_V X Y ad G nL a (pc + 3) lv st ((E a).bind K)) : ww_V X Y ad G nL σ pc lv st0 ((f.bind E).bind K) :=
  ww_callSN (kc := fun τ => (none, τ)) hC hM hm hlk hh hL hs8 hst hd kk
end WCALL2
end
