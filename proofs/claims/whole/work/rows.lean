section
-- ===== PART A: goes FIRST, ahead of the names: the tables' words, and 'selects' of the private methods out of them =====
/-- a private method of a class that the tables say can be made, by its rows of tables_1 -/
def lw_okq (q : MethodName × Nat) : Prop := (q.1.cls ≠ "java/lang/invoke/MethodHandle" ∧ q.1.cls ≠ "java/lang/invoke/VarHandle") ∧ Cond.instantiable q.1.cls q.2 ∈ tables_1 ∧ Cond.privateMethod q.1 ∈ tables_1 ∧ Cond.instanceMethod q.1 ∈ tables_1
theorem lw_p0 : lw_okq (⟨"WeighedWhales$Tape", "stepName", "()V"⟩, 6) := ⟨⟨by decide +kernel, by decide +kernel⟩, List.mem_of_getElem? (i := 26) (by decide +kernel), List.mem_of_getElem? (i := 304) (by decide +kernel), List.mem_of_getElem? (i := 305) (by decide +kernel)⟩
theorem lw_p1 : lw_okq (⟨"WeighedWhales$Tape", "stepNumber", "()V"⟩, 6) := ⟨⟨by decide +kernel, by decide +kernel⟩, List.mem_of_getElem? (i := 26) (by decide +kernel), List.mem_of_getElem? (i := 311) (by decide +kernel), List.mem_of_getElem? (i := 312) (by decide +kernel)⟩
theorem lw_p2 : lw_okq (⟨"WeighedWhales$Teller", "readLine", "(LWeighedWhales$Tape;LWeighedWhales$Shore;)Z"⟩, 3) := ⟨⟨by decide +kernel, by decide +kernel⟩, List.mem_of_getElem? (i := 58) (by decide +kernel), List.mem_of_getElem? (i := 315) (by decide +kernel), List.mem_of_getElem? (i := 316) (by decide +kernel)⟩
theorem lw_p3 : lw_okq (⟨"WeighedWhales$Teller", "failAtToken", "(LWeighedWhales$Tape;)Z"⟩, 3) := ⟨⟨by decide +kernel, by decide +kernel⟩, List.mem_of_getElem? (i := 58) (by decide +kernel), List.mem_of_getElem? (i := 380) (by decide +kernel), List.mem_of_getElem? (i := 381) (by decide +kernel)⟩
theorem lw_p4 : lw_okq (⟨"WeighedWhales$Teller", "fail", "(II)Z"⟩, 3) := ⟨⟨by decide +kernel, by decide +kernel⟩, List.mem_of_getElem? (i := 58) (by decide +kernel), List.mem_of_getElem? (i := 384) (by decide +kernel), List.mem_of_getElem? (i := 385) (by decide +kernel)⟩
theorem lw_p5 : lw_okq (⟨"WeighedWhales$Teller", "refusedName", "(ILWeighedWhales$Shore;)I"⟩, 3) := ⟨⟨by decide +kernel, by decide +kernel⟩, List.mem_of_getElem? (i := 58) (by decide +kernel), List.mem_of_getElem? (i := 388) (by decide +kernel), List.mem_of_getElem? (i := 389) (by decide +kernel)⟩
theorem lw_p6 : lw_okq (⟨"WeighedWhales$Teller", "checkBeasts", "(LWeighedWhales$Tape;LWeighedWhales$Shore;)V"⟩, 3) := ⟨⟨by decide +kernel, by decide +kernel⟩, List.mem_of_getElem? (i := 58) (by decide +kernel), List.mem_of_getElem? (i := 426) (by decide +kernel), List.mem_of_getElem? (i := 427) (by decide +kernel)⟩
theorem lw_p7 : lw_okq (⟨"WeighedWhales$Shore", "ownerOfMost", "(II)I"⟩, 17) := ⟨⟨by decide +kernel, by decide +kernel⟩, List.mem_of_getElem? (i := 76) (by decide +kernel), List.mem_of_getElem? (i := 536) (by decide +kernel), List.mem_of_getElem? (i := 537) (by decide +kernel)⟩
theorem lw_p8 : lw_okq (⟨"WeighedWhales$Shore", "isUnknown", "(I)Z"⟩, 17) := ⟨⟨by decide +kernel, by decide +kernel⟩, List.mem_of_getElem? (i := 76) (by decide +kernel), List.mem_of_getElem? (i := 572) (by decide +kernel), List.mem_of_getElem? (i := 573) (by decide +kernel)⟩
theorem lw_p9 : lw_okq (⟨"WeighedWhales$Shore", "isBarred", "(I)Z"⟩, 17) := ⟨⟨by decide +kernel, by decide +kernel⟩, List.mem_of_getElem? (i := 76) (by decide +kernel), List.mem_of_getElem? (i := 577) (by decide +kernel), List.mem_of_getElem? (i := 578) (by decide +kernel)⟩
theorem lw_p10 : lw_okq (⟨"WeighedWhales$Shore", "workAt", "(I)I"⟩, 17) := ⟨⟨by decide +kernel, by decide +kernel⟩, List.mem_of_getElem? (i := 76) (by decide +kernel), List.mem_of_getElem? (i := 586) (by decide +kernel), List.mem_of_getElem? (i := 587) (by decide +kernel)⟩
theorem lw_p11 : lw_okq (⟨"WeighedWhales$Planner", "load", "(LWeighedWhales$Shore;III)V"⟩, 9) := ⟨⟨by decide +kernel, by decide +kernel⟩, List.mem_of_getElem? (i := 180) (by decide +kernel), List.mem_of_getElem? (i := 615) (by decide +kernel), List.mem_of_getElem? (i := 616) (by decide +kernel)⟩
theorem lw_p12 : lw_okq (⟨"WeighedWhales$Planner", "loadParts", "(LWeighedWhales$Shore;I)V"⟩, 9) := ⟨⟨by decide +kernel, by decide +kernel⟩, List.mem_of_getElem? (i := 180) (by decide +kernel), List.mem_of_getElem? (i := 620) (by decide +kernel), List.mem_of_getElem? (i := 621) (by decide +kernel)⟩
theorem lw_p13 : lw_okq (⟨"WeighedWhales$Planner", "loadHour", "(LWeighedWhales$Shore;III)V"⟩, 9) := ⟨⟨by decide +kernel, by decide +kernel⟩, List.mem_of_getElem? (i := 180) (by decide +kernel), List.mem_of_getElem? (i := 628) (by decide +kernel), List.mem_of_getElem? (i := 629) (by decide +kernel)⟩
theorem lw_p14 : lw_okq (⟨"WeighedWhales$Planner", "mostFrom", "(II)I"⟩, 9) := ⟨⟨by decide +kernel, by decide +kernel⟩, List.mem_of_getElem? (i := 180) (by decide +kernel), List.mem_of_getElem? (i := 634) (by decide +kernel), List.mem_of_getElem? (i := 635) (by decide +kernel)⟩
theorem lw_p15 : lw_okq (⟨"WeighedWhales$Planner", "triedFrom", "(II)I"⟩, 9) := ⟨⟨by decide +kernel, by decide +kernel⟩, List.mem_of_getElem? (i := 180) (by decide +kernel), List.mem_of_getElem? (i := 638) (by decide +kernel), List.mem_of_getElem? (i := 639) (by decide +kernel)⟩
def lw_privs_1 : List (MethodName × Nat) := [(⟨"WeighedWhales$Tape", "stepName", "()V"⟩, 6), (⟨"WeighedWhales$Tape", "stepNumber", "()V"⟩, 6), (⟨"WeighedWhales$Teller", "readLine", "(LWeighedWhales$Tape;LWeighedWhales$Shore;)Z"⟩, 3), (⟨"WeighedWhales$Teller", "failAtToken", "(LWeighedWhales$Tape;)Z"⟩, 3), (⟨"WeighedWhales$Teller", "fail", "(II)Z"⟩, 3), (⟨"WeighedWhales$Teller", "refusedName", "(ILWeighedWhales$Shore;)I"⟩, 3), (⟨"WeighedWhales$Teller", "checkBeasts", "(LWeighedWhales$Tape;LWeighedWhales$Shore;)V"⟩, 3), (⟨"WeighedWhales$Shore", "ownerOfMost", "(II)I"⟩, 17), (⟨"WeighedWhales$Shore", "isUnknown", "(I)Z"⟩, 17), (⟨"WeighedWhales$Shore", "isBarred", "(I)Z"⟩, 17), (⟨"WeighedWhales$Shore", "workAt", "(I)I"⟩, 17), (⟨"WeighedWhales$Planner", "load", "(LWeighedWhales$Shore;III)V"⟩, 9), (⟨"WeighedWhales$Planner", "loadParts", "(LWeighedWhales$Shore;I)V"⟩, 9), (⟨"WeighedWhales$Planner", "loadHour", "(LWeighedWhales$Shore;III)V"⟩, 9), (⟨"WeighedWhales$Planner", "mostFrom", "(II)I"⟩, 9), (⟨"WeighedWhales$Planner", "triedFrom", "(II)I"⟩, 9)]
theorem lw_r1 : ∀ q ∈ lw_privs_1, lw_okq q := List.forall_mem_cons.mpr ⟨lw_p0, List.forall_mem_cons.mpr ⟨lw_p1, List.forall_mem_cons.mpr ⟨lw_p2, List.forall_mem_cons.mpr ⟨lw_p3, List.forall_mem_cons.mpr ⟨lw_p4, List.forall_mem_cons.mpr ⟨lw_p5, List.forall_mem_cons.mpr ⟨lw_p6, List.forall_mem_cons.mpr ⟨lw_p7, List.forall_mem_cons.mpr ⟨lw_p8, List.forall_mem_cons.mpr ⟨lw_p9, List.forall_mem_cons.mpr ⟨lw_p10, List.forall_mem_cons.mpr ⟨lw_p11, List.forall_mem_cons.mpr ⟨lw_p12, List.forall_mem_cons.mpr ⟨lw_p13, List.forall_mem_cons.mpr ⟨lw_p14, List.forall_mem_cons.mpr ⟨lw_p15, fun _ h => absurd h List.not_mem_nil⟩⟩⟩⟩⟩⟩⟩⟩⟩⟩⟩⟩⟩⟩⟩⟩
theorem lw_p16 : lw_okq (⟨"WeighedWhales$Planner", "usefulIn", "(II)I"⟩, 9) := ⟨⟨by decide +kernel, by decide +kernel⟩, List.mem_of_getElem? (i := 180) (by decide +kernel), List.mem_of_getElem? (i := 642) (by decide +kernel), List.mem_of_getElem? (i := 643) (by decide +kernel)⟩
theorem lw_p17 : lw_okq (⟨"WeighedWhales$Planner", "wonBy", "(IIII)I"⟩, 9) := ⟨⟨by decide +kernel, by decide +kernel⟩, List.mem_of_getElem? (i := 180) (by decide +kernel), List.mem_of_getElem? (i := 655) (by decide +kernel), List.mem_of_getElem? (i := 656) (by decide +kernel)⟩
theorem lw_p18 : lw_okq (⟨"WeighedWhales$Planner", "gainOf", "(III)I"⟩, 9) := ⟨⟨by decide +kernel, by decide +kernel⟩, List.mem_of_getElem? (i := 180) (by decide +kernel), List.mem_of_getElem? (i := 659) (by decide +kernel), List.mem_of_getElem? (i := 660) (by decide +kernel)⟩
theorem lw_p19 : lw_okq (⟨"WeighedWhales$Planner", "after", "(II)I"⟩, 9) := ⟨⟨by decide +kernel, by decide +kernel⟩, List.mem_of_getElem? (i := 180) (by decide +kernel), List.mem_of_getElem? (i := 663) (by decide +kernel), List.mem_of_getElem? (i := 664) (by decide +kernel)⟩
theorem lw_p20 : lw_okq (⟨"WeighedWhales$Planner", "firstBest", "(II)I"⟩, 9) := ⟨⟨by decide +kernel, by decide +kernel⟩, List.mem_of_getElem? (i := 180) (by decide +kernel), List.mem_of_getElem? (i := 672) (by decide +kernel), List.mem_of_getElem? (i := 673) (by decide +kernel)⟩
theorem lw_p21 : lw_okq (⟨"WeighedWhales$Planner", "canChoose", "(III)Z"⟩, 9) := ⟨⟨by decide +kernel, by decide +kernel⟩, List.mem_of_getElem? (i := 180) (by decide +kernel), List.mem_of_getElem? (i := 676) (by decide +kernel), List.mem_of_getElem? (i := 677) (by decide +kernel)⟩
theorem lw_p22 : lw_okq (⟨"WeighedWhales$Planner", "partAt", "(I)I"⟩, 9) := ⟨⟨by decide +kernel, by decide +kernel⟩, List.mem_of_getElem? (i := 180) (by decide +kernel), List.mem_of_getElem? (i := 680) (by decide +kernel), List.mem_of_getElem? (i := 681) (by decide +kernel)⟩
theorem lw_p23 : lw_okq (⟨"WeighedWhalesModel", "step", "()V"⟩, 36) := ⟨⟨by decide +kernel, by decide +kernel⟩, List.mem_of_getElem? (i := 813) (by decide +kernel), List.mem_of_getElem? (i := 945) (by decide +kernel), List.mem_of_getElem? (i := 946) (by decide +kernel)⟩
theorem lw_p24 : lw_okq (⟨"WeighedWhalesModel", "byteAt", "(I)I"⟩, 36) := ⟨⟨by decide +kernel, by decide +kernel⟩, List.mem_of_getElem? (i := 813) (by decide +kernel), List.mem_of_getElem? (i := 949) (by decide +kernel), List.mem_of_getElem? (i := 950) (by decide +kernel)⟩
theorem lw_p25 : lw_okq (⟨"WeighedWhalesModel", "fails", "(I)V"⟩, 36) := ⟨⟨by decide +kernel, by decide +kernel⟩, List.mem_of_getElem? (i := 813) (by decide +kernel), List.mem_of_getElem? (i := 957) (by decide +kernel), List.mem_of_getElem? (i := 958) (by decide +kernel)⟩
theorem lw_p26 : lw_okq (⟨"WeighedWhalesModel", "readLine", "()V"⟩, 36) := ⟨⟨by decide +kernel, by decide +kernel⟩, List.mem_of_getElem? (i := 813) (by decide +kernel), List.mem_of_getElem? (i := 961) (by decide +kernel), List.mem_of_getElem? (i := 962) (by decide +kernel)⟩
theorem lw_p27 : lw_okq (⟨"WeighedWhalesModel", "nameHere", "()I"⟩, 36) := ⟨⟨by decide +kernel, by decide +kernel⟩, List.mem_of_getElem? (i := 813) (by decide +kernel), List.mem_of_getElem? (i := 965) (by decide +kernel), List.mem_of_getElem? (i := 966) (by decide +kernel)⟩
theorem lw_p28 : lw_okq (⟨"WeighedWhalesModel", "number", "(II)I"⟩, 36) := ⟨⟨by decide +kernel, by decide +kernel⟩, List.mem_of_getElem? (i := 813) (by decide +kernel), List.mem_of_getElem? (i := 972) (by decide +kernel), List.mem_of_getElem? (i := 973) (by decide +kernel)⟩
theorem lw_p29 : lw_okq (⟨"WeighedWhalesModel", "readTide", "()V"⟩, 36) := ⟨⟨by decide +kernel, by decide +kernel⟩, List.mem_of_getElem? (i := 813) (by decide +kernel), List.mem_of_getElem? (i := 976) (by decide +kernel), List.mem_of_getElem? (i := 977) (by decide +kernel)⟩
theorem lw_p30 : lw_okq (⟨"WeighedWhalesModel", "readWhale", "()V"⟩, 36) := ⟨⟨by decide +kernel, by decide +kernel⟩, List.mem_of_getElem? (i := 813) (by decide +kernel), List.mem_of_getElem? (i := 980) (by decide +kernel), List.mem_of_getElem? (i := 981) (by decide +kernel)⟩
theorem lw_p31 : lw_okq (⟨"WeighedWhalesModel", "readOnce", "(I)V"⟩, 36) := ⟨⟨by decide +kernel, by decide +kernel⟩, List.mem_of_getElem? (i := 813) (by decide +kernel), List.mem_of_getElem? (i := 984) (by decide +kernel), List.mem_of_getElem? (i := 985) (by decide +kernel)⟩
def lw_privs_2 : List (MethodName × Nat) := [(⟨"WeighedWhales$Planner", "usefulIn", "(II)I"⟩, 9), (⟨"WeighedWhales$Planner", "wonBy", "(IIII)I"⟩, 9), (⟨"WeighedWhales$Planner", "gainOf", "(III)I"⟩, 9), (⟨"WeighedWhales$Planner", "after", "(II)I"⟩, 9), (⟨"WeighedWhales$Planner", "firstBest", "(II)I"⟩, 9), (⟨"WeighedWhales$Planner", "canChoose", "(III)Z"⟩, 9), (⟨"WeighedWhales$Planner", "partAt", "(I)I"⟩, 9), (⟨"WeighedWhalesModel", "step", "()V"⟩, 36), (⟨"WeighedWhalesModel", "byteAt", "(I)I"⟩, 36), (⟨"WeighedWhalesModel", "fails", "(I)V"⟩, 36), (⟨"WeighedWhalesModel", "readLine", "()V"⟩, 36), (⟨"WeighedWhalesModel", "nameHere", "()I"⟩, 36), (⟨"WeighedWhalesModel", "number", "(II)I"⟩, 36), (⟨"WeighedWhalesModel", "readTide", "()V"⟩, 36), (⟨"WeighedWhalesModel", "readWhale", "()V"⟩, 36), (⟨"WeighedWhalesModel", "readOnce", "(I)V"⟩, 36)]
theorem lw_r2 : ∀ q ∈ lw_privs_2, lw_okq q := List.forall_mem_cons.mpr ⟨lw_p16, List.forall_mem_cons.mpr ⟨lw_p17, List.forall_mem_cons.mpr ⟨lw_p18, List.forall_mem_cons.mpr ⟨lw_p19, List.forall_mem_cons.mpr ⟨lw_p20, List.forall_mem_cons.mpr ⟨lw_p21, List.forall_mem_cons.mpr ⟨lw_p22, List.forall_mem_cons.mpr ⟨lw_p23, List.forall_mem_cons.mpr ⟨lw_p24, List.forall_mem_cons.mpr ⟨lw_p25, List.forall_mem_cons.mpr ⟨lw_p26, List.forall_mem_cons.mpr ⟨lw_p27, List.forall_mem_cons.mpr ⟨lw_p28, List.forall_mem_cons.mpr ⟨lw_p29, List.forall_mem_cons.mpr ⟨lw_p30, List.forall_mem_cons.mpr ⟨lw_p31, fun _ h => absurd h List.not_mem_nil⟩⟩⟩⟩⟩⟩⟩⟩⟩⟩⟩⟩⟩⟩⟩⟩
theorem lw_p32 : lw_okq (⟨"WeighedWhalesModel", "looksWhere", "()V"⟩, 36) := ⟨⟨by decide +kernel, by decide +kernel⟩, List.mem_of_getElem? (i := 813) (by decide +kernel), List.mem_of_getElem? (i := 988) (by decide +kernel), List.mem_of_getElem? (i := 989) (by decide +kernel)⟩
theorem lw_p33 : lw_okq (⟨"WeighedWhalesModel", "floatsNow", "()V"⟩, 36) := ⟨⟨by decide +kernel, by decide +kernel⟩, List.mem_of_getElem? (i := 813) (by decide +kernel), List.mem_of_getElem? (i := 992) (by decide +kernel), List.mem_of_getElem? (i := 993) (by decide +kernel)⟩
theorem lw_p34 : lw_okq (⟨"WeighedWhalesModel", "floatsIn", "(III)Z"⟩, 36) := ⟨⟨by decide +kernel, by decide +kernel⟩, List.mem_of_getElem? (i := 813) (by decide +kernel), List.mem_of_getElem? (i := 996) (by decide +kernel), List.mem_of_getElem? (i := 997) (by decide +kernel)⟩
theorem lw_p35 : lw_okq (⟨"WeighedWhalesModel", "isWet", "(II)Z"⟩, 36) := ⟨⟨by decide +kernel, by decide +kernel⟩, List.mem_of_getElem? (i := 813) (by decide +kernel), List.mem_of_getElem? (i := 1000) (by decide +kernel), List.mem_of_getElem? (i := 1001) (by decide +kernel)⟩
theorem lw_p36 : lw_okq (⟨"WeighedWhalesModel", "rotNow", "()I"⟩, 36) := ⟨⟨by decide +kernel, by decide +kernel⟩, List.mem_of_getElem? (i := 813) (by decide +kernel), List.mem_of_getElem? (i := 1012) (by decide +kernel), List.mem_of_getElem? (i := 1013) (by decide +kernel)⟩
theorem lw_p37 : lw_okq (⟨"WeighedWhalesModel", "isPlace", "(I)Z"⟩, 36) := ⟨⟨by decide +kernel, by decide +kernel⟩, List.mem_of_getElem? (i := 813) (by decide +kernel), List.mem_of_getElem? (i := 1020) (by decide +kernel), List.mem_of_getElem? (i := 1021) (by decide +kernel)⟩
theorem lw_p38 : lw_okq (⟨"WeighedWhalesModel", "isBeast", "(I)Z"⟩, 36) := ⟨⟨by decide +kernel, by decide +kernel⟩, List.mem_of_getElem? (i := 813) (by decide +kernel), List.mem_of_getElem? (i := 1033) (by decide +kernel), List.mem_of_getElem? (i := 1034) (by decide +kernel)⟩
theorem lw_p39 : lw_okq (⟨"WeighedWhalesModel", "isPart", "(I)Z"⟩, 36) := ⟨⟨by decide +kernel, by decide +kernel⟩, List.mem_of_getElem? (i := 813) (by decide +kernel), List.mem_of_getElem? (i := 1041) (by decide +kernel), List.mem_of_getElem? (i := 1042) (by decide +kernel)⟩
theorem lw_p40 : lw_okq (⟨"WeighedWhalesModel", "worthIn", "(III)I"⟩, 36) := ⟨⟨by decide +kernel, by decide +kernel⟩, List.mem_of_getElem? (i := 813) (by decide +kernel), List.mem_of_getElem? (i := 1048) (by decide +kernel), List.mem_of_getElem? (i := 1049) (by decide +kernel)⟩
theorem lw_p41 : lw_okq (⟨"WeighedWhalesModel", "canBeWorked", "(I)Z"⟩, 36) := ⟨⟨by decide +kernel, by decide +kernel⟩, List.mem_of_getElem? (i := 813) (by decide +kernel), List.mem_of_getElem? (i := 1052) (by decide +kernel), List.mem_of_getElem? (i := 1053) (by decide +kernel)⟩
theorem lw_p42 : lw_okq (⟨"WeighedWhalesModel", "whoseBy", "(II)I"⟩, 36) := ⟨⟨by decide +kernel, by decide +kernel⟩, List.mem_of_getElem? (i := 813) (by decide +kernel), List.mem_of_getElem? (i := 1056) (by decide +kernel), List.mem_of_getElem? (i := 1057) (by decide +kernel)⟩
theorem lw_p43 : lw_okq (⟨"WeighedWhalesModel", "sets", "(ZII)I"⟩, 36) := ⟨⟨by decide +kernel, by decide +kernel⟩, List.mem_of_getElem? (i := 813) (by decide +kernel), List.mem_of_getElem? (i := 1065) (by decide +kernel), List.mem_of_getElem? (i := 1066) (by decide +kernel)⟩
theorem lw_p44 : lw_okq (⟨"WeighedWhalesModel", "goes", "(II)I"⟩, 36) := ⟨⟨by decide +kernel, by decide +kernel⟩, List.mem_of_getElem? (i := 813) (by decide +kernel), List.mem_of_getElem? (i := 1095) (by decide +kernel), List.mem_of_getElem? (i := 1096) (by decide +kernel)⟩
theorem lw_p45 : lw_okq (⟨"WeighedWhalesModel", "hourGoes", "(II)I"⟩, 36) := ⟨⟨by decide +kernel, by decide +kernel⟩, List.mem_of_getElem? (i := 813) (by decide +kernel), List.mem_of_getElem? (i := 1099) (by decide +kernel), List.mem_of_getElem? (i := 1100) (by decide +kernel)⟩
theorem lw_p46 : lw_okq (⟨"WeighedWhalesModel", "works", "(I)I"⟩, 36) := ⟨⟨by decide +kernel, by decide +kernel⟩, List.mem_of_getElem? (i := 813) (by decide +kernel), List.mem_of_getElem? (i := 1103) (by decide +kernel), List.mem_of_getElem? (i := 1104) (by decide +kernel)⟩
theorem lw_p47 : lw_okq (⟨"WeighedWhalesModel", "layBest", "(III)I"⟩, 36) := ⟨⟨by decide +kernel, by decide +kernel⟩, List.mem_of_getElem? (i := 813) (by decide +kernel), List.mem_of_getElem? (i := 1125) (by decide +kernel), List.mem_of_getElem? (i := 1126) (by decide +kernel)⟩
def lw_privs_3 : List (MethodName × Nat) := [(⟨"WeighedWhalesModel", "looksWhere", "()V"⟩, 36), (⟨"WeighedWhalesModel", "floatsNow", "()V"⟩, 36), (⟨"WeighedWhalesModel", "floatsIn", "(III)Z"⟩, 36), (⟨"WeighedWhalesModel", "isWet", "(II)Z"⟩, 36), (⟨"WeighedWhalesModel", "rotNow", "()I"⟩, 36), (⟨"WeighedWhalesModel", "isPlace", "(I)Z"⟩, 36), (⟨"WeighedWhalesModel", "isBeast", "(I)Z"⟩, 36), (⟨"WeighedWhalesModel", "isPart", "(I)Z"⟩, 36), (⟨"WeighedWhalesModel", "worthIn", "(III)I"⟩, 36), (⟨"WeighedWhalesModel", "canBeWorked", "(I)Z"⟩, 36), (⟨"WeighedWhalesModel", "whoseBy", "(II)I"⟩, 36), (⟨"WeighedWhalesModel", "sets", "(ZII)I"⟩, 36), (⟨"WeighedWhalesModel", "goes", "(II)I"⟩, 36), (⟨"WeighedWhalesModel", "hourGoes", "(II)I"⟩, 36), (⟨"WeighedWhalesModel", "works", "(I)I"⟩, 36), (⟨"WeighedWhalesModel", "layBest", "(III)I"⟩, 36)]
theorem lw_r3 : ∀ q ∈ lw_privs_3, lw_okq q := List.forall_mem_cons.mpr ⟨lw_p32, List.forall_mem_cons.mpr ⟨lw_p33, List.forall_mem_cons.mpr ⟨lw_p34, List.forall_mem_cons.mpr ⟨lw_p35, List.forall_mem_cons.mpr ⟨lw_p36, List.forall_mem_cons.mpr ⟨lw_p37, List.forall_mem_cons.mpr ⟨lw_p38, List.forall_mem_cons.mpr ⟨lw_p39, List.forall_mem_cons.mpr ⟨lw_p40, List.forall_mem_cons.mpr ⟨lw_p41, List.forall_mem_cons.mpr ⟨lw_p42, List.forall_mem_cons.mpr ⟨lw_p43, List.forall_mem_cons.mpr ⟨lw_p44, List.forall_mem_cons.mpr ⟨lw_p45, List.forall_mem_cons.mpr ⟨lw_p46, List.forall_mem_cons.mpr ⟨lw_p47, fun _ h => absurd h List.not_mem_nil⟩⟩⟩⟩⟩⟩⟩⟩⟩⟩⟩⟩⟩⟩⟩⟩
theorem lw_p48 : lw_okq (⟨"WeighedWhalesModel", "layParts", "(II)V"⟩, 36) := ⟨⟨by decide +kernel, by decide +kernel⟩, List.mem_of_getElem? (i := 813) (by decide +kernel), List.mem_of_getElem? (i := 1129) (by decide +kernel), List.mem_of_getElem? (i := 1130) (by decide +kernel)⟩
theorem lw_p49 : lw_okq (⟨"WeighedWhalesModel", "choice", "(I)I"⟩, 36) := ⟨⟨by decide +kernel, by decide +kernel⟩, List.mem_of_getElem? (i := 813) (by decide +kernel), List.mem_of_getElem? (i := 1133) (by decide +kernel), List.mem_of_getElem? (i := 1134) (by decide +kernel)⟩
theorem lw_p50 : lw_okq (⟨"WeighedWhalesModel", "byWork", "(IIII)I"⟩, 36) := ⟨⟨by decide +kernel, by decide +kernel⟩, List.mem_of_getElem? (i := 813) (by decide +kernel), List.mem_of_getElem? (i := 1137) (by decide +kernel), List.mem_of_getElem? (i := 1138) (by decide +kernel)⟩
theorem lw_p51 : lw_okq (⟨"WeighedWhalesModel", "leftNow", "()I"⟩, 36) := ⟨⟨by decide +kernel, by decide +kernel⟩, List.mem_of_getElem? (i := 813) (by decide +kernel), List.mem_of_getElem? (i := 1144) (by decide +kernel), List.mem_of_getElem? (i := 1145) (by decide +kernel)⟩
theorem lw_p52 : lw_okq (⟨"WeighedWhalesModel", "shareBy", "(II)I"⟩, 36) := ⟨⟨by decide +kernel, by decide +kernel⟩, List.mem_of_getElem? (i := 813) (by decide +kernel), List.mem_of_getElem? (i := 1160) (by decide +kernel), List.mem_of_getElem? (i := 1161) (by decide +kernel)⟩
theorem lw_p53 : lw_okq (⟨"WeighedWhalesModel", "explains", "(I)Z"⟩, 36) := ⟨⟨by decide +kernel, by decide +kernel⟩, List.mem_of_getElem? (i := 813) (by decide +kernel), List.mem_of_getElem? (i := 1177) (by decide +kernel), List.mem_of_getElem? (i := 1178) (by decide +kernel)⟩
theorem lw_p54 : lw_okq (⟨"WeighedWhalesModel", "copies", "(II)V"⟩, 36) := ⟨⟨by decide +kernel, by decide +kernel⟩, List.mem_of_getElem? (i := 813) (by decide +kernel), List.mem_of_getElem? (i := 1207) (by decide +kernel), List.mem_of_getElem? (i := 1208) (by decide +kernel)⟩
theorem lw_p55 : lw_okq (⟨"WeighedWhalesModel", "partBy", "(I)I"⟩, 36) := ⟨⟨by decide +kernel, by decide +kernel⟩, List.mem_of_getElem? (i := 813) (by decide +kernel), List.mem_of_getElem? (i := 1212) (by decide +kernel), List.mem_of_getElem? (i := 1213) (by decide +kernel)⟩
theorem lw_p56 : lw_okq (⟨"WeighedWhalesModel", "lostMany", "()I"⟩, 36) := ⟨⟨by decide +kernel, by decide +kernel⟩, List.mem_of_getElem? (i := 813) (by decide +kernel), List.mem_of_getElem? (i := 1216) (by decide +kernel), List.mem_of_getElem? (i := 1217) (by decide +kernel)⟩
theorem lw_p57 : lw_okq (⟨"WeighedWhalesModel", "cutMany", "()I"⟩, 36) := ⟨⟨by decide +kernel, by decide +kernel⟩, List.mem_of_getElem? (i := 813) (by decide +kernel), List.mem_of_getElem? (i := 1249) (by decide +kernel), List.mem_of_getElem? (i := 1250) (by decide +kernel)⟩
def lw_privs_4 : List (MethodName × Nat) := [(⟨"WeighedWhalesModel", "layParts", "(II)V"⟩, 36), (⟨"WeighedWhalesModel", "choice", "(I)I"⟩, 36), (⟨"WeighedWhalesModel", "byWork", "(IIII)I"⟩, 36), (⟨"WeighedWhalesModel", "leftNow", "()I"⟩, 36), (⟨"WeighedWhalesModel", "shareBy", "(II)I"⟩, 36), (⟨"WeighedWhalesModel", "explains", "(I)Z"⟩, 36), (⟨"WeighedWhalesModel", "copies", "(II)V"⟩, 36), (⟨"WeighedWhalesModel", "partBy", "(I)I"⟩, 36), (⟨"WeighedWhalesModel", "lostMany", "()I"⟩, 36), (⟨"WeighedWhalesModel", "cutMany", "()I"⟩, 36)]
theorem lw_r4 : ∀ q ∈ lw_privs_4, lw_okq q := List.forall_mem_cons.mpr ⟨lw_p48, List.forall_mem_cons.mpr ⟨lw_p49, List.forall_mem_cons.mpr ⟨lw_p50, List.forall_mem_cons.mpr ⟨lw_p51, List.forall_mem_cons.mpr ⟨lw_p52, List.forall_mem_cons.mpr ⟨lw_p53, List.forall_mem_cons.mpr ⟨lw_p54, List.forall_mem_cons.mpr ⟨lw_p55, List.forall_mem_cons.mpr ⟨lw_p56, List.forall_mem_cons.mpr ⟨lw_p57, fun _ h => absurd h List.not_mem_nil⟩⟩⟩⟩⟩⟩⟩⟩⟩⟩
def lw_privs : List (MethodName × Nat) := lw_privs_1 ++ (lw_privs_2 ++ (lw_privs_3 ++ (lw_privs_4)))
def lw_tbl : List Cond := k2_sels lw_privs ++ tables_1
theorem lw_privs_ok : ∀ q ∈ lw_privs, lw_okq q := by
  show ∀ q ∈ lw_privs_1 ++ (lw_privs_2 ++ (lw_privs_3 ++ (lw_privs_4))), lw_okq q
  exact List.forall_mem_append.mpr ⟨lw_r1, List.forall_mem_append.mpr ⟨lw_r2, List.forall_mem_append.mpr ⟨lw_r3, lw_r4⟩⟩⟩
end
section
def RX0 : String := "WeighedWhales$Planner"
def TX0 : u_T := fun k => match k with
  | 0 => ("WeighedWhales$Planner", "memo", "[I", true)
  | 1 => ("WeighedWhales$Planner", "slots", "[I", true)
  | 2 => ("WeighedWhales$Planner", "ableIn", "[I", true)
  | 3 => ("WeighedWhales$Planner", "gains", "[I", true)
  | 4 => ("WeighedWhales$Planner", "left", "I", false)
  | 5 => ("WeighedWhales$Planner", "hours", "I", false)
  | 6 => ("WeighedWhales$Planner", "gangsAtWork", "I", false)
  | 7 => ("WeighedWhales$Planner", "startCode", "I", false)
  | _ => ("WeighedWhales$Planner", "stamp", "I", false)
def tyX0 : Nat → FieldType := fun k => match k with
  | 0 => .array .int
  | 1 => .array .int
  | 2 => .array .int
  | 3 => .array .int
  | 4 => .int
  | 5 => .int
  | 6 => .int
  | 7 => .int
  | _ => .int
abbrev wsX00 : List Cond := u_ws RX0 TX0 9
theorem nmX0 : ∀ a, a < 9 → ∀ b, b < 9 → a ≠ b → (TX0 a).2.1 ≠ (TX0 b).2.1 := by decide +kernel
theorem tyX0_ok : ∀ k, k < 9 → parseFieldDescriptor (TX0 k).2.2.1 = some (tyX0 k) := by decide +kernel
abbrev cX0_init : ByteArray := prog_2_method_1_code
def yX0_init : MethodName := ⟨RX0, "<init>", "()V"⟩
abbrev cX0_mostBy : ByteArray := prog_2_method_2_code
def yX0_mostBy : MethodName := ⟨RX0, "mostBy", "(LWeighedWhales$Shore;III)I"⟩
abbrev cX0_load : ByteArray := prog_2_method_3_code
def yX0_load : MethodName := ⟨RX0, "load", "(LWeighedWhales$Shore;III)V"⟩
abbrev cX0_loadParts : ByteArray := prog_2_method_4_code
def yX0_loadParts : MethodName := ⟨RX0, "loadParts", "(LWeighedWhales$Shore;I)V"⟩
abbrev cX0_loadHour : ByteArray := prog_2_method_5_code
def yX0_loadHour : MethodName := ⟨RX0, "loadHour", "(LWeighedWhales$Shore;III)V"⟩
abbrev cX0_bestAt : ByteArray := prog_2_method_6_code
def yX0_bestAt : MethodName := ⟨RX0, "bestAt", "(I)I"⟩
abbrev cX0_partAt : ByteArray := prog_2_method_7_code
def yX0_partAt : MethodName := ⟨RX0, "partAt", "(I)I"⟩
abbrev cX0_firstBest : ByteArray := prog_2_method_8_code
def yX0_firstBest : MethodName := ⟨RX0, "firstBest", "(II)I"⟩
abbrev cX0_canChoose : ByteArray := prog_2_method_9_code
def yX0_canChoose : MethodName := ⟨RX0, "canChoose", "(III)Z"⟩
abbrev cX0_workIn : ByteArray := prog_2_method_10_code
def yX0_workIn : MethodName := ⟨RX0, "workIn", "(II)I"⟩
abbrev cX0_after : ByteArray := prog_2_method_11_code
def yX0_after : MethodName := ⟨RX0, "after", "(II)I"⟩
abbrev cX0_gainOf : ByteArray := prog_2_method_12_code
def yX0_gainOf : MethodName := ⟨RX0, "gainOf", "(III)I"⟩
abbrev cX0_wonBy : ByteArray := prog_2_method_13_code
def yX0_wonBy : MethodName := ⟨RX0, "wonBy", "(IIII)I"⟩
abbrev cX0_mostFrom : ByteArray := prog_2_method_14_code
def yX0_mostFrom : MethodName := ⟨RX0, "mostFrom", "(II)I"⟩
abbrev cX0_triedFrom : ByteArray := prog_2_method_15_code
def yX0_triedFrom : MethodName := ⟨RX0, "triedFrom", "(II)I"⟩
abbrev cX0_usefulIn : ByteArray := prog_2_method_16_code
def yX0_usefulIn : MethodName := ⟨RX0, "usefulIn", "(II)I"⟩
def RX1 : String := "WeighedWhales$Sheet"
def TX1 : u_T := fun k => match k with
  | 0 => ("WeighedWhales$Sheet", "cells", "[I", true)
  | 1 => ("WeighedWhales$Sheet", "laneOf", "I", false)
  | _ => ("WeighedWhales$Sheet", "size", "I", false)
def tyX1 : Nat → FieldType := fun k => match k with
  | 0 => .array .int
  | 1 => .int
  | _ => .int
abbrev wsX10 : List Cond := u_ws RX1 TX1 3
theorem nmX1 : ∀ a, a < 3 → ∀ b, b < 3 → a ≠ b → (TX1 a).2.1 ≠ (TX1 b).2.1 := by decide +kernel
theorem tyX1_ok : ∀ k, k < 3 → parseFieldDescriptor (TX1 k).2.2.1 = some (tyX1 k) := by decide +kernel
abbrev cX1_init : ByteArray := prog_3_method_1_code
def yX1_init : MethodName := ⟨RX1, "<init>", "()V"⟩
abbrev cX1_renew : ByteArray := prog_3_method_2_code
def yX1_renew : MethodName := ⟨RX1, "renew", "(II)V"⟩
abbrev cX1_faultAt : ByteArray := prog_3_method_3_code
def yX1_faultAt : MethodName := ⟨RX1, "faultAt", "(II)I"⟩
abbrev cX1_put : ByteArray := prog_3_method_4_code
def yX1_put : MethodName := ⟨RX1, "put", "(II)V"⟩
def RX2 : String := "WeighedWhales$Shore"
def TX2 : u_T := fun k => match k with
  | 0 => ("WeighedWhales$Shore", "ownerOf", "[I", true)
  | 1 => ("WeighedWhales$Shore", "markOf", "[I", true)
  | 2 => ("WeighedWhales$Shore", "levelOf", "[I", true)
  | 3 => ("WeighedWhales$Shore", "headOf", "[I", true)
  | 4 => ("WeighedWhales$Shore", "partsOf", "[I", true)
  | 5 => ("WeighedWhales$Shore", "worthOf", "[I", true)
  | 6 => ("WeighedWhales$Shore", "workOf", "[I", true)
  | 7 => ("WeighedWhales$Shore", "lumpOf", "[I", true)
  | 8 => ("WeighedWhales$Shore", "wonBy", "[I", true)
  | 9 => ("WeighedWhales$Shore", "places", "I", false)
  | 10 => ("WeighedWhales$Shore", "levels", "I", false)
  | 11 => ("WeighedWhales$Shore", "beasts", "I", false)
  | 12 => ("WeighedWhales$Shore", "lawNow", "I", false)
  | 13 => ("WeighedWhales$Shore", "rotNow", "I", false)
  | 14 => ("WeighedWhales$Shore", "gangsNow", "I", false)
  | 15 => ("WeighedWhales$Shore", "hour", "I", false)
  | _ => ("WeighedWhales$Shore", "lostBeasts", "I", false)
def tyX2 : Nat → FieldType := fun k => match k with
  | 0 => .array .int
  | 1 => .array .int
  | 2 => .array .int
  | 3 => .array .int
  | 4 => .array .int
  | 5 => .array .int
  | 6 => .array .int
  | 7 => .array .int
  | 8 => .array .int
  | 9 => .int
  | 10 => .int
  | 11 => .int
  | 12 => .int
  | 13 => .int
  | 14 => .int
  | 15 => .int
  | _ => .int
abbrev wsX20 : List Cond := u_ws RX2 TX2 17
theorem nmX2 : ∀ a, a < 17 → ∀ b, b < 17 → a ≠ b → (TX2 a).2.1 ≠ (TX2 b).2.1 := by decide +kernel
theorem tyX2_ok : ∀ k, k < 17 → parseFieldDescriptor (TX2 k).2.2.1 = some (tyX2 k) := by decide +kernel
abbrev cX2_init : ByteArray := prog_4_method_1_code
def yX2_init : MethodName := ⟨RX2, "<init>", "()V"⟩
abbrev cX2_clear : ByteArray := prog_4_method_2_code
def yX2_clear : MethodName := ⟨RX2, "clear", "()V"⟩
abbrev cX2_copyFrom : ByteArray := prog_4_method_3_code
def yX2_copyFrom : MethodName := ⟨RX2, "copyFrom", "(LWeighedWhales$Shore;)V"⟩
abbrev cX2_copyAll : ByteArray := prog_4_method_4_code
def yX2_copyAll : MethodName := ⟨RX2, "copyAll", "([I[I)V"⟩
abbrev cX2_putSand : ByteArray := prog_4_method_5_code
def yX2_putSand : MethodName := ⟨RX2, "putSand", "(II)V"⟩
abbrev cX2_putLevel : ByteArray := prog_4_method_6_code
def yX2_putLevel : MethodName := ⟨RX2, "putLevel", "(I)V"⟩
abbrev cX2_putWhale : ByteArray := prog_4_method_7_code
def yX2_putWhale : MethodName := ⟨RX2, "putWhale", "(II)V"⟩
abbrev cX2_hasPlace : ByteArray := prog_4_method_8_code
def yX2_hasPlace : MethodName := ⟨RX2, "hasPlace", "(I)Z"⟩
abbrev cX2_hasBeast : ByteArray := prog_4_method_9_code
def yX2_hasBeast : MethodName := ⟨RX2, "hasBeast", "(I)Z"⟩
abbrev cX2_slotOf : ByteArray := prog_4_method_10_code
def yX2_slotOf : MethodName := ⟨RX2, "slotOf", "(I)I"⟩
abbrev cX2_hasSlot : ByteArray := prog_4_method_11_code
def yX2_hasSlot : MethodName := ⟨RX2, "hasSlot", "(I)Z"⟩
abbrev cX2_placeOf : ByteArray := prog_4_method_12_code
def yX2_placeOf : MethodName := ⟨RX2, "placeOf", "(I)I"⟩
abbrev cX2_isLost : ByteArray := prog_4_method_13_code
def yX2_isLost : MethodName := ⟨RX2, "isLost", "(I)Z"⟩
abbrev cX2_bodyOf : ByteArray := prog_4_method_14_code
def yX2_bodyOf : MethodName := ⟨RX2, "bodyOf", "(I)I"⟩
abbrev cX2_takenPlaces : ByteArray := prog_4_method_15_code
def yX2_takenPlaces : MethodName := ⟨RX2, "takenPlaces", "()I"⟩
abbrev cX2_levelIn : ByteArray := prog_4_method_16_code
def yX2_levelIn : MethodName := ⟨RX2, "levelIn", "(I)I"⟩
abbrev cX2_wetPlaces : ByteArray := prog_4_method_17_code
def yX2_wetPlaces : MethodName := ⟨RX2, "wetPlaces", "(I)I"⟩
abbrev cX2_floatingBeasts : ByteArray := prog_4_method_18_code
def yX2_floatingBeasts : MethodName := ⟨RX2, "floatingBeasts", "(I)I"⟩
abbrev cX2_loseFloating : ByteArray := prog_4_method_19_code
def yX2_loseFloating : MethodName := ⟨RX2, "loseFloating", "()V"⟩
abbrev cX2_worthIn : ByteArray := prog_4_method_20_code
def yX2_worthIn : MethodName := ⟨RX2, "worthIn", "(III)I"⟩
abbrev cX2_canWork : ByteArray := prog_4_method_21_code
def yX2_canWork : MethodName := ⟨RX2, "canWork", "(I)Z"⟩
abbrev cX2_workableParts : ByteArray := prog_4_method_22_code
def yX2_workableParts : MethodName := ⟨RX2, "workableParts", "()I"⟩
abbrev cX2_workableSlot : ByteArray := prog_4_method_23_code
def yX2_workableSlot : MethodName := ⟨RX2, "workableSlot", "(I)I"⟩
abbrev cX2_isRicher : ByteArray := prog_4_method_24_code
def yX2_isRicher : MethodName := ⟨RX2, "isRicher", "(II)Z"⟩
abbrev cX2_cutParts : ByteArray := prog_4_method_25_code
def yX2_cutParts : MethodName := ⟨RX2, "cutParts", "()I"⟩
abbrev cX2_ownerBy : ByteArray := prog_4_method_26_code
def yX2_ownerBy : MethodName := ⟨RX2, "ownerBy", "(II)I"⟩
abbrev cX2_ownerOfMost : ByteArray := prog_4_method_27_code
def yX2_ownerOfMost : MethodName := ⟨RX2, "ownerOfMost", "(II)I"⟩
abbrev cX2_shareBy : ByteArray := prog_4_method_28_code
def yX2_shareBy : MethodName := ⟨RX2, "shareBy", "(II)I"⟩
abbrev cX2_refusal : ByteArray := prog_4_method_29_code
def yX2_refusal : MethodName := ⟨RX2, "refusal", "(II)I"⟩
abbrev cX2_isUnknown : ByteArray := prog_4_method_30_code
def yX2_isUnknown : MethodName := ⟨RX2, "isUnknown", "(I)Z"⟩
abbrev cX2_isBarred : ByteArray := prog_4_method_31_code
def yX2_isBarred : MethodName := ⟨RX2, "isBarred", "(I)Z"⟩
abbrev cX2_hourGoes : ByteArray := prog_4_method_32_code
def yX2_hourGoes : MethodName := ⟨RX2, "hourGoes", "(II)I"⟩
abbrev cX2_workAt : ByteArray := prog_4_method_33_code
def yX2_workAt : MethodName := ⟨RX2, "workAt", "(I)I"⟩
def RX3 : String := "WeighedWhales$Tales"
def TX3 : u_T := fun k => match k with
  | 0 => ("WeighedWhales$Tales", "owners", "[I", true)
  | 1 => ("WeighedWhales$Tales", "sums", "[I", true)
  | _ => ("WeighedWhales$Tales", "size", "I", false)
def tyX3 : Nat → FieldType := fun k => match k with
  | 0 => .array .int
  | 1 => .array .int
  | _ => .int
abbrev wsX30 : List Cond := u_ws RX3 TX3 3
theorem nmX3 : ∀ a, a < 3 → ∀ b, b < 3 → a ≠ b → (TX3 a).2.1 ≠ (TX3 b).2.1 := by decide +kernel
theorem tyX3_ok : ∀ k, k < 3 → parseFieldDescriptor (TX3 k).2.2.1 = some (tyX3 k) := by decide +kernel
abbrev cX3_init : ByteArray := prog_5_method_1_code
def yX3_init : MethodName := ⟨RX3, "<init>", "()V"⟩
abbrev cX3_add : ByteArray := prog_5_method_2_code
def yX3_add : MethodName := ⟨RX3, "add", "(II)Z"⟩
abbrev cX3_areExplained : ByteArray := prog_5_method_3_code
def yX3_areExplained : MethodName := ⟨RX3, "areExplained", "(LWeighedWhales$Shore;I)Z"⟩
def RX4 : String := "WeighedWhales$Tape"
def TX4 : u_T := fun k => match k with
  | 0 => ("WeighedWhales$Tape", "bytes", "[B", true)
  | 1 => ("WeighedWhales$Tape", "size", "I", false)
  | 2 => ("WeighedWhales$Tape", "next", "I", false)
  | 3 => ("WeighedWhales$Tape", "kind", "I", false)
  | 4 => ("WeighedWhales$Tape", "start", "I", false)
  | _ => ("WeighedWhales$Tape", "value", "I", false)
def tyX4 : Nat → FieldType := fun k => match k with
  | 0 => .array .byte
  | 1 => .int
  | 2 => .int
  | 3 => .int
  | 4 => .int
  | _ => .int
abbrev wsX40 : List Cond := u_ws RX4 TX4 6
theorem nmX4 : ∀ a, a < 6 → ∀ b, b < 6 → a ≠ b → (TX4 a).2.1 ≠ (TX4 b).2.1 := by decide +kernel
theorem tyX4_ok : ∀ k, k < 6 → parseFieldDescriptor (TX4 k).2.2.1 = some (tyX4 k) := by decide +kernel
abbrev cX4_init : ByteArray := prog_6_method_1_code
def yX4_init : MethodName := ⟨RX4, "<init>", "()V"⟩
abbrev cX4_add : ByteArray := prog_6_method_2_code
def yX4_add : MethodName := ⟨RX4, "add", "(I)Z"⟩
abbrev cX4_step : ByteArray := prog_6_method_3_code
def yX4_step : MethodName := ⟨RX4, "step", "()V"⟩
abbrev cX4_stepName : ByteArray := prog_6_method_4_code
def yX4_stepName : MethodName := ⟨RX4, "stepName", "()V"⟩
abbrev cX4_stepNumber : ByteArray := prog_6_method_5_code
def yX4_stepNumber : MethodName := ⟨RX4, "stepNumber", "()V"⟩
abbrev cX4_isName : ByteArray := prog_6_method_6_code
def yX4_isName : MethodName := ⟨RX4, "isName", "(Ljava/lang/String;)Z"⟩
abbrev cX4_isLetter : ByteArray := prog_6_method_7_code
def yX4_isLetter : MethodName := ⟨RX4, "isLetter", "(I)Z"⟩
abbrev cX4_isFigure : ByteArray := prog_6_method_8_code
def yX4_isFigure : MethodName := ⟨RX4, "isFigure", "(I)Z"⟩
def RX5 : String := "WeighedWhales$Teller"
def TX5 : u_T := fun k => match k with
  | 0 => ("WeighedWhales$Teller", "found", "I", false)
  | 1 => ("WeighedWhales$Teller", "foundAt", "I", false)
  | _ => ("WeighedWhales$Teller", "toldOnce", "I", false)
def tyX5 : Nat → FieldType := fun k => match k with
  | 0 => .int
  | 1 => .int
  | _ => .int
abbrev wsX50 : List Cond := u_ws RX5 TX5 3
theorem nmX5 : ∀ a, a < 3 → ∀ b, b < 3 → a ≠ b → (TX5 a).2.1 ≠ (TX5 b).2.1 := by decide +kernel
theorem tyX5_ok : ∀ k, k < 3 → parseFieldDescriptor (TX5 k).2.2.1 = some (tyX5 k) := by decide +kernel
abbrev cX5_init : ByteArray := prog_7_method_1_code
def yX5_init : MethodName := ⟨RX5, "<init>", "()V"⟩
abbrev cX5_tellAll : ByteArray := prog_7_method_2_code
def yX5_tellAll : MethodName := ⟨RX5, "tellAll", "(LWeighedWhales$Tape;LWeighedWhales$Shore;)I"⟩
abbrev cX5_readLine : ByteArray := prog_7_method_3_code
def yX5_readLine : MethodName := ⟨RX5, "readLine", "(LWeighedWhales$Tape;LWeighedWhales$Shore;)Z"⟩
abbrev cX5_fail : ByteArray := prog_7_method_4_code
def yX5_fail : MethodName := ⟨RX5, "fail", "(II)Z"⟩
abbrev cX5_failAtToken : ByteArray := prog_7_method_5_code
def yX5_failAtToken : MethodName := ⟨RX5, "failAtToken", "(LWeighedWhales$Tape;)Z"⟩
abbrev cX5_lineOf : ByteArray := prog_7_method_6_code
def yX5_lineOf : MethodName := ⟨RX5, "lineOf", "(LWeighedWhales$Tape;)I"⟩
abbrev cX5_refusedName : ByteArray := prog_7_method_7_code
def yX5_refusedName : MethodName := ⟨RX5, "refusedName", "(ILWeighedWhales$Shore;)I"⟩
abbrev cX5_mayStop : ByteArray := prog_7_method_8_code
def yX5_mayStop : MethodName := ⟨RX5, "mayStop", "(II)Z"⟩
abbrev cX5_mayGoOn : ByteArray := prog_7_method_9_code
def yX5_mayGoOn : MethodName := ⟨RX5, "mayGoOn", "(II)Z"⟩
abbrev cX5_isTooMany : ByteArray := prog_7_method_10_code
def yX5_isTooMany : MethodName := ⟨RX5, "isTooMany", "(IILWeighedWhales$Shore;)Z"⟩
abbrev cX5_lowest : ByteArray := prog_7_method_11_code
def yX5_lowest : MethodName := ⟨RX5, "lowest", "(II)I"⟩
abbrev cX5_highest : ByteArray := prog_7_method_12_code
def yX5_highest : MethodName := ⟨RX5, "highest", "(II)I"⟩
abbrev cX5_highestOfWhale : ByteArray := prog_7_method_13_code
def yX5_highestOfWhale : MethodName := ⟨RX5, "highestOfWhale", "(I)I"⟩
abbrev cX5_put : ByteArray := prog_7_method_14_code
def yX5_put : MethodName := ⟨RX5, "put", "(IIILWeighedWhales$Shore;)V"⟩
abbrev cX5_checkBeasts : ByteArray := prog_7_method_15_code
def yX5_checkBeasts : MethodName := ⟨RX5, "checkBeasts", "(LWeighedWhales$Tape;LWeighedWhales$Shore;)V"⟩
def RX6 : String := "WeighedWhales"
def TX6 : u_T := fun k => match k with
  | 0 => ("WeighedWhales", "tape", "LWeighedWhales$Tape;", true)
  | 1 => ("WeighedWhales", "teller", "LWeighedWhales$Teller;", true)
  | 2 => ("WeighedWhales", "now", "LWeighedWhales$Shore;", true)
  | 3 => ("WeighedWhales", "spare", "LWeighedWhales$Shore;", true)
  | 4 => ("WeighedWhales", "images", "[LWeighedWhales$Shore;", true)
  | 5 => ("WeighedWhales", "keptImages", "I", false)
  | 6 => ("WeighedWhales", "tales", "LWeighedWhales$Tales;", true)
  | 7 => ("WeighedWhales", "planner", "LWeighedWhales$Planner;", true)
  | 8 => ("WeighedWhales", "sheets", "[LWeighedWhales$Sheet;", true)
  | _ => ("WeighedWhales", "tornFault", "I", false)
def tyX6 : Nat → FieldType := fun k => match k with
  | 0 => .object "WeighedWhales$Tape"
  | 1 => .object "WeighedWhales$Teller"
  | 2 => .object "WeighedWhales$Shore"
  | 3 => .object "WeighedWhales$Shore"
  | 4 => .array (.object "WeighedWhales$Shore")
  | 5 => .int
  | 6 => .object "WeighedWhales$Tales"
  | 7 => .object "WeighedWhales$Planner"
  | 8 => .array (.object "WeighedWhales$Sheet")
  | _ => .int
abbrev wsX60 : List Cond := u_ws RX6 TX6 10
theorem nmX6 : ∀ a, a < 10 → ∀ b, b < 10 → a ≠ b → (TX6 a).2.1 ≠ (TX6 b).2.1 := by decide +kernel
theorem tyX6_ok : ∀ k, k < 10 → parseFieldDescriptor (TX6 k).2.2.1 = some (tyX6 k) := by decide +kernel
abbrev cX6_init : ByteArray := prog_1_method_1_code
def yX6_init : MethodName := ⟨RX6, "<init>", "()V"⟩
abbrev cX6_feed : ByteArray := prog_1_method_2_code
def yX6_feed : MethodName := ⟨RX6, "feed", "(I)I"⟩
abbrev cX6_end : ByteArray := prog_1_method_3_code
def yX6_end : MethodName := ⟨RX6, "end", "(I)I"⟩
abbrev cX6_text : ByteArray := prog_1_method_4_code
def yX6_text : MethodName := ⟨RX6, "text", "()I"⟩
abbrev cX6_fault : ByteArray := prog_1_method_5_code
def yX6_fault : MethodName := ⟨RX6, "fault", "()I"⟩
abbrev cX6_rule : ByteArray := prog_1_method_6_code
def yX6_rule : MethodName := ⟨RX6, "rule", "(I)I"⟩
abbrev cX6_place : ByteArray := prog_1_method_7_code
def yX6_place : MethodName := ⟨RX6, "place", "(II)I"⟩
abbrev cX6_level : ByteArray := prog_1_method_8_code
def yX6_level : MethodName := ⟨RX6, "level", "(I)I"⟩
abbrev cX6_beast : ByteArray := prog_1_method_9_code
def yX6_beast : MethodName := ⟨RX6, "beast", "(II)I"⟩
abbrev cX6_part : ByteArray := prog_1_method_10_code
def yX6_part : MethodName := ⟨RX6, "part", "(II)I"⟩
abbrev cX6_mark : ByteArray := prog_1_method_11_code
def yX6_mark : MethodName := ⟨RX6, "mark", "(II)I"⟩
abbrev cX6_own : ByteArray := prog_1_method_12_code
def yX6_own : MethodName := ⟨RX6, "own", "(II)I"⟩
abbrev cX6_law : ByteArray := prog_1_method_13_code
def yX6_law : MethodName := ⟨RX6, "law", "(I)I"⟩
abbrev cX6_rot : ByteArray := prog_1_method_14_code
def yX6_rot : MethodName := ⟨RX6, "rot", "(I)I"⟩
abbrev cX6_gangs : ByteArray := prog_1_method_15_code
def yX6_gangs : MethodName := ⟨RX6, "gangs", "(I)I"⟩
abbrev cX6_lump : ByteArray := prog_1_method_16_code
def yX6_lump : MethodName := ⟨RX6, "lump", "(II)I"⟩
abbrev cX6_go : ByteArray := prog_1_method_17_code
def yX6_go : MethodName := ⟨RX6, "go", "(II)I"⟩
abbrev cX6_wet : ByteArray := prog_1_method_18_code
def yX6_wet : MethodName := ⟨RX6, "wet", "(I)I"⟩
abbrev cX6_floats : ByteArray := prog_1_method_19_code
def yX6_floats : MethodName := ⟨RX6, "floats", "(I)I"⟩
abbrev cX6_has : ByteArray := prog_1_method_20_code
def yX6_has : MethodName := ⟨RX6, "has", "(I)I"⟩
abbrev cX6_best : ByteArray := prog_1_method_21_code
def yX6_best : MethodName := ⟨RX6, "best", "(II)I"⟩
abbrev cX6_worth : ByteArray := prog_1_method_22_code
def yX6_worth : MethodName := ⟨RX6, "worth", "(II)I"⟩
abbrev cX6_salted : ByteArray := prog_1_method_23_code
def yX6_salted : MethodName := ⟨RX6, "salted", "(I)I"⟩
abbrev cX6_share : ByteArray := prog_1_method_24_code
def yX6_share : MethodName := ⟨RX6, "share", "(II)I"⟩
abbrev cX6_tell : ByteArray := prog_1_method_25_code
def yX6_tell : MethodName := ⟨RX6, "tell", "(II)I"⟩
abbrev cX6_forget : ByteArray := prog_1_method_26_code
def yX6_forget : MethodName := ⟨RX6, "forget", "(I)I"⟩
abbrev cX6_laws : ByteArray := prog_1_method_27_code
def yX6_laws : MethodName := ⟨RX6, "laws", "()I"⟩
abbrev cX6_whose : ByteArray := prog_1_method_28_code
def yX6_whose : MethodName := ⟨RX6, "whose", "(I)I"⟩
abbrev cX6_strand : ByteArray := prog_1_method_29_code
def yX6_strand : MethodName := ⟨RX6, "strand", "(II)I"⟩
abbrev cX6_luck : ByteArray := prog_1_method_30_code
def yX6_luck : MethodName := ⟨RX6, "luck", "(II)J"⟩
abbrev cX6_open : ByteArray := prog_1_method_31_code
def yX6_open : MethodName := ⟨RX6, "open", "()I"⟩
abbrev cX6_drift : ByteArray := prog_1_method_32_code
def yX6_drift : MethodName := ⟨RX6, "drift", "(III)I"⟩
abbrev cX6_keep : ByteArray := prog_1_method_33_code
def yX6_keep : MethodName := ⟨RX6, "keep", "(I)I"⟩
abbrev cX6_back : ByteArray := prog_1_method_34_code
def yX6_back : MethodName := ⟨RX6, "back", "(I)I"⟩
abbrev cX6_sheet : ByteArray := prog_1_method_35_code
def yX6_sheet : MethodName := ⟨RX6, "sheet", "(III)I"⟩
abbrev cX6_lay : ByteArray := prog_1_method_36_code
def yX6_lay : MethodName := ⟨RX6, "lay", "(III)I"⟩
abbrev cX6_read : ByteArray := prog_1_method_37_code
def yX6_read : MethodName := ⟨RX6, "read", "(IIII)I"⟩
abbrev cX6_torn : ByteArray := prog_1_method_38_code
def yX6_torn : MethodName := ⟨RX6, "torn", "()I"⟩
abbrev cX6_count : ByteArray := prog_1_method_39_code
def yX6_count : MethodName := ⟨RX6, "count", "(I)I"⟩
abbrev cX6_within : ByteArray := prog_1_method_40_code
def yX6_within : MethodName := ⟨RX6, "within", "(III)Z"⟩
abbrev cX6_bodyAt : ByteArray := prog_1_method_41_code
def yX6_bodyAt : MethodName := ⟨RX6, "bodyAt", "(II)I"⟩
abbrev cX6_numberOf : ByteArray := prog_1_method_42_code
def yX6_numberOf : MethodName := ⟨RX6, "numberOf", "(I)I"⟩
def RX7 : String := "WeighedWhalesModel"
def TX7 : u_T := fun k => match k with
  | 0 => ("WeighedWhalesModel", "state", "[I", true)
  | 1 => ("WeighedWhalesModel", "levels", "[I", true)
  | 2 => ("WeighedWhalesModel", "levelMany", "I", false)
  | 3 => ("WeighedWhalesModel", "placeMany", "I", false)
  | 4 => ("WeighedWhalesModel", "beasts", "[I", true)
  | 5 => ("WeighedWhalesModel", "beastMany", "I", false)
  | 6 => ("WeighedWhalesModel", "readPage", "[I", true)
  | 7 => ("WeighedWhalesModel", "readLevels", "[I", true)
  | 8 => ("WeighedWhalesModel", "readBeasts", "[I", true)
  | 9 => ("WeighedWhalesModel", "readPlaces", "I", false)
  | 10 => ("WeighedWhalesModel", "readLevelMany", "I", false)
  | 11 => ("WeighedWhalesModel", "readBeastMany", "I", false)
  | 12 => ("WeighedWhalesModel", "toldOnce", "I", false)
  | 13 => ("WeighedWhalesModel", "tape", "[I", true)
  | 14 => ("WeighedWhalesModel", "taped", "I", false)
  | 15 => ("WeighedWhalesModel", "fault", "I", false)
  | 16 => ("WeighedWhalesModel", "broken", "I", false)
  | 17 => ("WeighedWhalesModel", "brokenAt", "I", false)
  | 18 => ("WeighedWhalesModel", "spot", "I", false)
  | 19 => ("WeighedWhalesModel", "here", "I", false)
  | 20 => ("WeighedWhalesModel", "token", "I", false)
  | 21 => ("WeighedWhalesModel", "value", "I", false)
  | 22 => ("WeighedWhalesModel", "cuts", "[I", true)
  | 23 => ("WeighedWhalesModel", "letters", "[I", true)
  | 24 => ("WeighedWhalesModel", "names", "[I", true)
  | 25 => ("WeighedWhalesModel", "nameMany", "I", false)
  | 26 => ("WeighedWhalesModel", "mosts", "[I", true)
  | 27 => ("WeighedWhalesModel", "workable", "[I", true)
  | 28 => ("WeighedWhalesModel", "bestRot", "I", false)
  | 29 => ("WeighedWhalesModel", "told", "[I", true)
  | 30 => ("WeighedWhalesModel", "toldMany", "I", false)
  | 31 => ("WeighedWhalesModel", "isKept", "[Z", true)
  | 32 => ("WeighedWhalesModel", "lanes", "[I", true)
  | 33 => ("WeighedWhalesModel", "lengths", "[I", true)
  | 34 => ("WeighedWhalesModel", "cells", "[I", true)
  | _ => ("WeighedWhalesModel", "torn", "I", false)
def tyX7 : Nat → FieldType := fun k => match k with
  | 0 => .array .int
  | 1 => .array .int
  | 2 => .int
  | 3 => .int
  | 4 => .array .int
  | 5 => .int
  | 6 => .array .int
  | 7 => .array .int
  | 8 => .array .int
  | 9 => .int
  | 10 => .int
  | 11 => .int
  | 12 => .int
  | 13 => .array .int
  | 14 => .int
  | 15 => .int
  | 16 => .int
  | 17 => .int
  | 18 => .int
  | 19 => .int
  | 20 => .int
  | 21 => .int
  | 22 => .array .int
  | 23 => .array .int
  | 24 => .array .int
  | 25 => .int
  | 26 => .array .int
  | 27 => .array .int
  | 28 => .int
  | 29 => .array .int
  | 30 => .int
  | 31 => .array .boolean
  | 32 => .array .int
  | 33 => .array .int
  | 34 => .array .int
  | _ => .int
abbrev wsX70 : List Cond := u_ws RX7 TX7 36
theorem nmX7 : ∀ a, a < 36 → ∀ b, b < 36 → a ≠ b → (TX7 a).2.1 ≠ (TX7 b).2.1 := by decide +kernel
theorem tyX7_ok : ∀ k, k < 36 → parseFieldDescriptor (TX7 k).2.2.1 = some (tyX7 k) := by decide +kernel
abbrev cX7_init : ByteArray := prog_9_method_1_code
def yX7_init : MethodName := ⟨RX7, "<init>", "()V"⟩
abbrev cX7_in : ByteArray := prog_9_method_3_code
def yX7_in : MethodName := ⟨RX7, "in", "(JJJ)Z"⟩
abbrev cX7_feed : ByteArray := prog_9_method_4_code
def yX7_feed : MethodName := ⟨RX7, "feed", "(I)I"⟩
abbrev cX7_end : ByteArray := prog_9_method_5_code
def yX7_end : MethodName := ⟨RX7, "end", "(I)I"⟩
abbrev cX7_byteAt : ByteArray := prog_9_method_6_code
def yX7_byteAt : MethodName := ⟨RX7, "byteAt", "(I)I"⟩
abbrev cX7_fails : ByteArray := prog_9_method_7_code
def yX7_fails : MethodName := ⟨RX7, "fails", "(I)V"⟩
abbrev cX7_nameHere : ByteArray := prog_9_method_8_code
def yX7_nameHere : MethodName := ⟨RX7, "nameHere", "()I"⟩
abbrev cX7_step : ByteArray := prog_9_method_9_code
def yX7_step : MethodName := ⟨RX7, "step", "()V"⟩
abbrev cX7_number : ByteArray := prog_9_method_10_code
def yX7_number : MethodName := ⟨RX7, "number", "(II)I"⟩
abbrev cX7_readTide : ByteArray := prog_9_method_11_code
def yX7_readTide : MethodName := ⟨RX7, "readTide", "()V"⟩
abbrev cX7_readWhale : ByteArray := prog_9_method_12_code
def yX7_readWhale : MethodName := ⟨RX7, "readWhale", "()V"⟩
abbrev cX7_readOnce : ByteArray := prog_9_method_13_code
def yX7_readOnce : MethodName := ⟨RX7, "readOnce", "(I)V"⟩
abbrev cX7_readLine : ByteArray := prog_9_method_14_code
def yX7_readLine : MethodName := ⟨RX7, "readLine", "()V"⟩
abbrev cX7_looksWhere : ByteArray := prog_9_method_15_code
def yX7_looksWhere : MethodName := ⟨RX7, "looksWhere", "()V"⟩
abbrev cX7_text : ByteArray := prog_9_method_16_code
def yX7_text : MethodName := ⟨RX7, "text", "()I"⟩
abbrev cX7_fault : ByteArray := prog_9_method_17_code
def yX7_fault : MethodName := ⟨RX7, "fault", "()I"⟩
abbrev cX7_isPlace : ByteArray := prog_9_method_18_code
def yX7_isPlace : MethodName := ⟨RX7, "isPlace", "(I)Z"⟩
abbrev cX7_isBeast : ByteArray := prog_9_method_19_code
def yX7_isBeast : MethodName := ⟨RX7, "isBeast", "(I)Z"⟩
abbrev cX7_isPart : ByteArray := prog_9_method_20_code
def yX7_isPart : MethodName := ⟨RX7, "isPart", "(I)Z"⟩
abbrev cX7_partAt : ByteArray := prog_9_method_21_code
def yX7_partAt : MethodName := ⟨RX7, "partAt", "(I)I"⟩
abbrev cX7_rotNow : ByteArray := prog_9_method_22_code
def yX7_rotNow : MethodName := ⟨RX7, "rotNow", "()I"⟩
abbrev cX7_rule : ByteArray := prog_9_method_23_code
def yX7_rule : MethodName := ⟨RX7, "rule", "(I)I"⟩
abbrev cX7_place : ByteArray := prog_9_method_24_code
def yX7_place : MethodName := ⟨RX7, "place", "(II)I"⟩
abbrev cX7_level : ByteArray := prog_9_method_25_code
def yX7_level : MethodName := ⟨RX7, "level", "(I)I"⟩
abbrev cX7_beast : ByteArray := prog_9_method_26_code
def yX7_beast : MethodName := ⟨RX7, "beast", "(II)I"⟩
abbrev cX7_isWet : ByteArray := prog_9_method_27_code
def yX7_isWet : MethodName := ⟨RX7, "isWet", "(II)Z"⟩
abbrev cX7_floatsIn : ByteArray := prog_9_method_28_code
def yX7_floatsIn : MethodName := ⟨RX7, "floatsIn", "(III)Z"⟩
abbrev cX7_floatsNow : ByteArray := prog_9_method_29_code
def yX7_floatsNow : MethodName := ⟨RX7, "floatsNow", "()V"⟩
abbrev cX7_worthIn : ByteArray := prog_9_method_30_code
def yX7_worthIn : MethodName := ⟨RX7, "worthIn", "(III)I"⟩
abbrev cX7_canBeWorked : ByteArray := prog_9_method_31_code
def yX7_canBeWorked : MethodName := ⟨RX7, "canBeWorked", "(I)Z"⟩
abbrev cX7_whoseBy : ByteArray := prog_9_method_32_code
def yX7_whoseBy : MethodName := ⟨RX7, "whoseBy", "(II)I"⟩
abbrev cX7_part : ByteArray := prog_9_method_33_code
def yX7_part : MethodName := ⟨RX7, "part", "(II)I"⟩
abbrev cX7_sets : ByteArray := prog_9_method_34_code
def yX7_sets : MethodName := ⟨RX7, "sets", "(ZII)I"⟩
abbrev cX7_mark : ByteArray := prog_9_method_35_code
def yX7_mark : MethodName := ⟨RX7, "mark", "(II)I"⟩
abbrev cX7_own : ByteArray := prog_9_method_36_code
def yX7_own : MethodName := ⟨RX7, "own", "(II)I"⟩
abbrev cX7_law : ByteArray := prog_9_method_37_code
def yX7_law : MethodName := ⟨RX7, "law", "(I)I"⟩
abbrev cX7_rot : ByteArray := prog_9_method_38_code
def yX7_rot : MethodName := ⟨RX7, "rot", "(I)I"⟩
abbrev cX7_gangs : ByteArray := prog_9_method_39_code
def yX7_gangs : MethodName := ⟨RX7, "gangs", "(I)I"⟩
abbrev cX7_lump : ByteArray := prog_9_method_40_code
def yX7_lump : MethodName := ⟨RX7, "lump", "(II)I"⟩
abbrev cX7_works : ByteArray := prog_9_method_41_code
def yX7_works : MethodName := ⟨RX7, "works", "(I)I"⟩
abbrev cX7_hourGoes : ByteArray := prog_9_method_42_code
def yX7_hourGoes : MethodName := ⟨RX7, "hourGoes", "(II)I"⟩
abbrev cX7_goes : ByteArray := prog_9_method_43_code
def yX7_goes : MethodName := ⟨RX7, "goes", "(II)I"⟩
abbrev cX7_go : ByteArray := prog_9_method_44_code
def yX7_go : MethodName := ⟨RX7, "go", "(II)I"⟩
abbrev cX7_wet : ByteArray := prog_9_method_45_code
def yX7_wet : MethodName := ⟨RX7, "wet", "(I)I"⟩
abbrev cX7_floats : ByteArray := prog_9_method_46_code
def yX7_floats : MethodName := ⟨RX7, "floats", "(I)I"⟩
abbrev cX7_has : ByteArray := prog_9_method_47_code
def yX7_has : MethodName := ⟨RX7, "has", "(I)I"⟩
abbrev cX7_digit : ByteArray := prog_9_method_48_code
def yX7_digit : MethodName := ⟨RX7, "digit", "(II)I"⟩
abbrev cX7_layParts : ByteArray := prog_9_method_49_code
def yX7_layParts : MethodName := ⟨RX7, "layParts", "(II)V"⟩
abbrev cX7_byWork : ByteArray := prog_9_method_50_code
def yX7_byWork : MethodName := ⟨RX7, "byWork", "(IIII)I"⟩
abbrev cX7_choice : ByteArray := prog_9_method_51_code
def yX7_choice : MethodName := ⟨RX7, "choice", "(I)I"⟩
abbrev cX7_leftNow : ByteArray := prog_9_method_52_code
def yX7_leftNow : MethodName := ⟨RX7, "leftNow", "()I"⟩
abbrev cX7_layBest : ByteArray := prog_9_method_53_code
def yX7_layBest : MethodName := ⟨RX7, "layBest", "(III)I"⟩
abbrev cX7_best : ByteArray := prog_9_method_54_code
def yX7_best : MethodName := ⟨RX7, "best", "(II)I"⟩
abbrev cX7_worth : ByteArray := prog_9_method_55_code
def yX7_worth : MethodName := ⟨RX7, "worth", "(II)I"⟩
abbrev cX7_salted : ByteArray := prog_9_method_56_code
def yX7_salted : MethodName := ⟨RX7, "salted", "(I)I"⟩
abbrev cX7_shareBy : ByteArray := prog_9_method_57_code
def yX7_shareBy : MethodName := ⟨RX7, "shareBy", "(II)I"⟩
abbrev cX7_share : ByteArray := prog_9_method_58_code
def yX7_share : MethodName := ⟨RX7, "share", "(II)I"⟩
abbrev cX7_tell : ByteArray := prog_9_method_59_code
def yX7_tell : MethodName := ⟨RX7, "tell", "(II)I"⟩
abbrev cX7_forget : ByteArray := prog_9_method_60_code
def yX7_forget : MethodName := ⟨RX7, "forget", "(I)I"⟩
abbrev cX7_explains : ByteArray := prog_9_method_61_code
def yX7_explains : MethodName := ⟨RX7, "explains", "(I)Z"⟩
abbrev cX7_laws : ByteArray := prog_9_method_62_code
def yX7_laws : MethodName := ⟨RX7, "laws", "()I"⟩
abbrev cX7_whose : ByteArray := prog_9_method_63_code
def yX7_whose : MethodName := ⟨RX7, "whose", "(I)I"⟩
abbrev cX7_strand : ByteArray := prog_9_method_64_code
def yX7_strand : MethodName := ⟨RX7, "strand", "(II)I"⟩
abbrev cX7_lowest : ByteArray := prog_9_method_65_code
def yX7_lowest : MethodName := ⟨RX7, "lowest", "(JJI)J"⟩
abbrev cX7_luck : ByteArray := prog_9_method_66_code
def yX7_luck : MethodName := ⟨RX7, "luck", "(II)J"⟩
abbrev cX7_open : ByteArray := prog_9_method_67_code
def yX7_open : MethodName := ⟨RX7, "open", "()I"⟩
abbrev cX7_copies : ByteArray := prog_9_method_68_code
def yX7_copies : MethodName := ⟨RX7, "copies", "(II)V"⟩
abbrev cX7_partBy : ByteArray := prog_9_method_69_code
def yX7_partBy : MethodName := ⟨RX7, "partBy", "(I)I"⟩
abbrev cX7_drift : ByteArray := prog_9_method_70_code
def yX7_drift : MethodName := ⟨RX7, "drift", "(III)I"⟩
abbrev cX7_lostMany : ByteArray := prog_9_method_71_code
def yX7_lostMany : MethodName := ⟨RX7, "lostMany", "()I"⟩
abbrev cX7_keep : ByteArray := prog_9_method_72_code
def yX7_keep : MethodName := ⟨RX7, "keep", "(I)I"⟩
abbrev cX7_back : ByteArray := prog_9_method_73_code
def yX7_back : MethodName := ⟨RX7, "back", "(I)I"⟩
abbrev cX7_sheet : ByteArray := prog_9_method_74_code
def yX7_sheet : MethodName := ⟨RX7, "sheet", "(III)I"⟩
abbrev cX7_lay : ByteArray := prog_9_method_75_code
def yX7_lay : MethodName := ⟨RX7, "lay", "(III)I"⟩
abbrev cX7_read : ByteArray := prog_9_method_76_code
def yX7_read : MethodName := ⟨RX7, "read", "(IIII)I"⟩
abbrev cX7_torn : ByteArray := prog_9_method_77_code
def yX7_torn : MethodName := ⟨RX7, "torn", "()I"⟩
abbrev cX7_cutMany : ByteArray := prog_9_method_78_code
def yX7_cutMany : MethodName := ⟨RX7, "cutMany", "()I"⟩
abbrev cX7_count : ByteArray := prog_9_method_79_code
def yX7_count : MethodName := ⟨RX7, "count", "(I)I"⟩
def RJ6 : String := "java/lang/Integer"
def TJ6 : u_T := fun k => match k with
  | _ => ("", "", "", false)
def tyJ6 : Nat → FieldType := fun k => match k with
  | _ => .int
theorem nmJ6 : ∀ a, a < 0 → ∀ b, b < 0 → a ≠ b → (TJ6 a).2.1 ≠ (TJ6 b).2.1 := by decide +kernel
theorem tyJ6_ok : ∀ k, k < 0 → parseFieldDescriptor (TJ6 k).2.2.1 = some (tyJ6 k) := by decide +kernel
abbrev cJ6_bitCount_0f7a4 : ByteArray := prog_10_method_49_code
def yJ6_bitCount_0f7a4 : MethodName := ⟨RJ6, "bitCount", "(I)I"⟩
def RJ9 : String := "java/lang/Math"
def TJ9 : u_T := fun k => match k with
  | _ => ("", "", "", false)
def tyJ9 : Nat → FieldType := fun k => match k with
  | _ => .int
theorem nmJ9 : ∀ a, a < 0 → ∀ b, b < 0 → a ≠ b → (TJ9 a).2.1 ≠ (TJ9 b).2.1 := by decide +kernel
theorem tyJ9_ok : ∀ k, k < 0 → parseFieldDescriptor (TJ9 k).2.2.1 = some (tyJ9 k) := by decide +kernel
abbrev cJ9_floorMod_7cf53 : ByteArray := prog_11_method_50_code
def yJ9_floorMod_7cf53 : MethodName := ⟨RJ9, "floorMod", "(II)I"⟩
abbrev cJ9_max_7cf53 : ByteArray := prog_11_method_65_code
def yJ9_max_7cf53 : MethodName := ⟨RJ9, "max", "(II)I"⟩
abbrev cJ9_min_7cf53 : ByteArray := prog_11_method_69_code
def yJ9_min_7cf53 : MethodName := ⟨RJ9, "min", "(II)I"⟩
def RJ0 : String := "java/lang/String"
def TJ0 : u_T := fun k => match k with
  | _ => ("", "", "", false)
def tyJ0 : Nat → FieldType := fun k => match k with
  | _ => .int
theorem nmJ0 : ∀ a, a < 0 → ∀ b, b < 0 → a ≠ b → (TJ0 a).2.1 ≠ (TJ0 b).2.1 := by decide +kernel
theorem tyJ0_ok : ∀ k, k < 0 → parseFieldDescriptor (TJ0 k).2.2.1 = some (tyJ0 k) := by decide +kernel
abbrev cJ0_length_8abf5 : ByteArray := prog_12_method_54_code
def yJ0_length_8abf5 : MethodName := ⟨RJ0, "length", "()I"⟩
abbrev cJ0_charAt_5068e : ByteArray := prog_12_method_56_code
def yJ0_charAt_5068e : MethodName := ⟨RJ0, "charAt", "(I)C"⟩
abbrev cJ0_coder_7d493 : ByteArray := prog_12_method_152_code
def yJ0_coder_7d493 : MethodName := ⟨RJ0, "coder", "()B"⟩
abbrev cJ0_isLatin1_aae02 : ByteArray := prog_12_method_154_code
def yJ0_isLatin1_aae02 : MethodName := ⟨RJ0, "isLatin1", "()Z"⟩
abbrev cJ0_checkIndex_df160 : ByteArray := prog_12_method_155_code
def yJ0_checkIndex_df160 : MethodName := ⟨RJ0, "checkIndex", "(II)V"⟩
def RJ1 : String := "java/lang/StringLatin1"
def TJ1 : u_T := fun k => match k with
  | _ => ("", "", "", false)
def tyJ1 : Nat → FieldType := fun k => match k with
  | _ => .int
theorem nmJ1 : ∀ a, a < 0 → ∀ b, b < 0 → a ≠ b → (TJ1 a).2.1 ≠ (TJ1 b).2.1 := by decide +kernel
theorem tyJ1_ok : ∀ k, k < 0 → parseFieldDescriptor (TJ1 k).2.2.1 = some (tyJ1 k) := by decide +kernel
abbrev cJ1_charAt_3b067 : ByteArray := prog_13_method_2_code
def yJ1_charAt_3b067 : MethodName := ⟨RJ1, "charAt", "([BI)C"⟩
def RJ2 : String := "java/lang/StringUTF16"
def TJ2 : u_T := fun k => match k with
  | _ => ("", "", "", false)
def tyJ2 : Nat → FieldType := fun k => match k with
  | _ => .int
theorem nmJ2 : ∀ a, a < 0 → ∀ b, b < 0 → a ≠ b → (TJ2 a).2.1 ≠ (TJ2 b).2.1 := by decide +kernel
theorem tyJ2_ok : ∀ k, k < 0 → parseFieldDescriptor (TJ2 k).2.2.1 = some (tyJ2 k) := by decide +kernel
abbrev cJ2_getChar_3b067 : ByteArray := prog_14_method_5_code
def yJ2_getChar_3b067 : MethodName := ⟨RJ2, "getChar", "([BI)C"⟩
abbrev cJ2_length_9d52b : ByteArray := prog_14_method_6_code
def yJ2_length_9d52b : MethodName := ⟨RJ2, "length", "([B)I"⟩
abbrev cJ2_charAt_3b067 : ByteArray := prog_14_method_83_code
def yJ2_charAt_3b067 : MethodName := ⟨RJ2, "charAt", "([BI)C"⟩
abbrev cJ2_checkIndex_2214a : ByteArray := prog_14_method_91_code
def yJ2_checkIndex_2214a : MethodName := ⟨RJ2, "checkIndex", "(I[B)V"⟩
def RJ10 : String := "java/lang/System"
def TJ10 : u_T := fun k => match k with
  | _ => ("", "", "", false)
def tyJ10 : Nat → FieldType := fun k => match k with
  | _ => .int
theorem nmJ10 : ∀ a, a < 0 → ∀ b, b < 0 → a ≠ b → (TJ10 a).2.1 ≠ (TJ10 b).2.1 := by decide +kernel
theorem tyJ10_ok : ∀ k, k < 0 → parseFieldDescriptor (TJ10 k).2.2.1 = some (tyJ10 k) := by decide +kernel
def RJ7 : String := "java/util/Arrays"
def TJ7 : u_T := fun k => match k with
  | _ => ("", "", "", false)
def tyJ7 : Nat → FieldType := fun k => match k with
  | _ => .int
theorem nmJ7 : ∀ a, a < 0 → ∀ b, b < 0 → a ≠ b → (TJ7 a).2.1 ≠ (TJ7 b).2.1 := by decide +kernel
theorem tyJ7_ok : ∀ k, k < 0 → parseFieldDescriptor (TJ7 k).2.2.1 = some (tyJ7 k) := by decide +kernel
abbrev cJ7_fill_53178 : ByteArray := prog_16_method_103_code
def yJ7_fill_53178 : MethodName := ⟨RJ7, "fill", "([II)V"⟩
def RJ3 : String := "jdk/internal/util/Preconditions"
def TJ3 : u_T := fun k => match k with
  | _ => ("", "", "", false)
def tyJ3 : Nat → FieldType := fun k => match k with
  | _ => .int
theorem nmJ3 : ∀ a, a < 0 → ∀ b, b < 0 → a ≠ b → (TJ3 a).2.1 ≠ (TJ3 b).2.1 := by decide +kernel
theorem tyJ3_ok : ∀ k, k < 0 → parseFieldDescriptor (TJ3 k).2.2.1 = some (tyJ3 k) := by decide +kernel
abbrev cJ3_checkIndex_8e157 : ByteArray := prog_17_method_11_code
def yJ3_checkIndex_8e157 : MethodName := ⟨RJ3, "checkIndex", "(IILjava/util/function/BiFunction;)I"⟩
def RL : String := "WeighedWhalesLaw"
abbrev cL_law : ByteArray := code
def yL_law : MethodName := ⟨RL, "law", "([I)Z"⟩
abbrev vwCl : List vw_C := [(RX0, TX0, 9), (RX1, TX1, 3), (RX2, TX2, 17), (RX3, TX3, 3), (RX4, TX4, 6), (RX5, TX5, 3), (RX6, TX6, 10), (RX7, TX7, 36)]
end
section
/-! ===== words ===== -/
def ww_nest : Cond → Bool
  | .fieldLinkNest .. => true
  | .methodLinkNest .. => true
  | _ => false
def ww_T : List Cond := lw_tbl.filter goodWord
def ww_N : List Cond := lw_tbl.filter ww_nest
theorem ww_Ti {w : Cond} (i : Nat) (h : lw_tbl[i]? = some w) (hg : goodWord w = true) : w ∈ ww_T := List.mem_filter.mpr ⟨List.mem_of_getElem? h, hg⟩
theorem ww_Ni {w : Cond} (i : Nat) (h : lw_tbl[i]? = some w) (hg : ww_nest w = true) : w ∈ ww_N := List.mem_filter.mpr ⟨List.mem_of_getElem? h, hg⟩
theorem ww_Tg : GoodIn ww_T ww_T := fun _ h => ⟨h, good_of_word (List.mem_filter.mp h).2⟩
theorem ww_Ng {w : Cond} (h : w ∈ ww_N) : ww_nest w = true := (List.mem_filter.mp h).2
/-! ===== the static world ===== -/
abbrev ww_M : Type := Nat → Nat → Int32
abbrev ww_L : Type := (Nat × List (Option Nat)) ⊕ (Nat × Nat) ⊕ (Nat × Nat × Nat × Nat)
def ww_up (σ : ww_M) (k j : Nat) (v : Int32) : ww_M := fun a b => if a = k then (if b = j then v else σ a b) else σ a b
def ww_upr (σ : ww_M) (k : Nat) (f : Nat → Int32) : ww_M := fun a b => if a = k then f b else σ a b
def ww_fld (ad : Nat → Nat) (f : Nat → Int32) (j : Nat) (x : Option Nat) : Value := match x with
  | some r => .ref (ad r)
  | none => .int (f j)
def ww_fs (ad : Nat → Nat) (f : Nat → Int32) (fs : List (Option Nat)) : List Value := fs.mapIdx (fun j x => ww_fld ad f j x)
def ww_cell (ad : Nat → Nat) (cA : Nat → ClassId) (f : Nat → Int32) (L : ww_L) : va_E := match L with
  | .inl (ci, fs) => .inr (ci, ww_fs ad f fs)
  | .inr (.inl (t, n)) => .inl (cA t, n, .inl f)
  | .inr (.inr (t, n, b, d)) => .inl (cA t, n, .inr (.inr (.inr (.inr (fun i => some (ad (b + d * i)))))))
def ww_W (G : List ww_L) (ad : Nat → Nat) (cA : Nat → ClassId) (σ : ww_M) : va_W := G.mapIdx (fun k L => (ad k, ww_cell ad cA (σ k) L))
theorem ww_W_get {G : List ww_L} {ad : Nat → Nat} {cA : Nat → ClassId} {σ : ww_M} {k : Nat} {L : ww_L} (h : G[k]? = some L) : (ww_W G ad cA σ)[k]? = some (ad k, ww_cell ad cA (σ k) L) := by
  simp [ww_W, List.getElem?_mapIdx, h]
theorem ww_W_at {G : List ww_L} {ad : Nat → Nat} {cA : Nat → ClassId} {σ : ww_M} {k : Nat} {q : Nat × va_E} (h : (ww_W G ad cA σ)[k]? = some q) : k < G.length ∧ q.1 = ad k := by
  simp only [ww_W, List.getElem?_mapIdx, Option.map_eq_some_iff] at h
  obtain ⟨L, h1, h2⟩ := h
  exact ⟨(List.getElem?_eq_some_iff.mp h1).1, by rw [← h2]⟩
theorem ww_fs_set {ad : Nat → Nat} {f : Nat → Int32} {fs : List (Option Nat)} {j : Nat} {v : Int32} (h : fs[j]? = some none) : (ww_fs ad f fs).set j (.int v) = ww_fs ad (fun b => if b = j then v else f b) fs := by
  apply List.ext_getElem?
  intro i
  rw [List.getElem?_set]
  by_cases hij : j = i
  · subst hij
    have hl : j < fs.length := (List.getElem?_eq_some_iff.mp h).1
    simp only [ww_fs, List.getElem?_mapIdx, h, Option.map_some, ww_fld, List.length_mapIdx, hl, if_true]
  · rw [if_neg hij]
    simp only [ww_fs, List.getElem?_mapIdx]
    cases hx : fs[i]? with
    | none => rfl
    | some x =>
      cases x with
      | none => simp [ww_fld, Ne.symm hij]
      | some r => simp [ww_fld]
theorem ww_W_set {G : List ww_L} {ad : Nat → Nat} {cA : Nat → ClassId} {σ τ : ww_M} {k : Nat} {L : ww_L} {e : va_E} (h : G[k]? = some L) (he : ww_cell ad cA (τ k) L = e) (ho : ∀ a, a ≠ k → τ a = σ a) : (ww_W G ad cA σ).set k (ad k, e) = ww_W G ad cA τ := by
  apply List.ext_getElem?
  intro i
  rw [List.getElem?_set]
  have hl : k < G.length := (List.getElem?_eq_some_iff.mp h).1
  by_cases hij : k = i
  · subst hij
    rw [ww_W_get (σ := τ) h, he]
    simp [ww_W, hl]
  · rw [if_neg hij]
    simp only [ww_W, List.getElem?_mapIdx]
    cases hx : G[i]? with
    | none => rfl
    | some x => simp only [Option.map_some]; rw [ho i (Ne.symm hij)]
theorem ww_W_put {G : List ww_L} {ad : Nat → Nat} {cA : Nat → ClassId} {σ : ww_M} {k j ci : Nat} {fs : List (Option Nat)} {v : Int32} (h : G[k]? = some (.inl (ci, fs))) (hj : fs[j]? = some none) : (ww_W G ad cA σ).set k (ad k, .inr (ci, (ww_fs ad (σ k) fs).set j (.int v))) = ww_W G ad cA (ww_up σ k j v) := by
  refine ww_W_set h ?_ (fun a ha => by funext b; simp [ww_up, ha])
  rw [ww_fs_set hj]
  simp only [ww_cell]
  congr 3
  funext b
  simp [ww_up]
theorem ww_W_row {G : List ww_L} {ad : Nat → Nat} {cA : Nat → ClassId} {σ : ww_M} {k t n : Nat} {f : Nat → Int32} (h : G[k]? = some (.inr (.inl (t, n)))) : (ww_W G ad cA σ).set k (ad k, .inl (cA t, n, .inl f)) = ww_W G ad cA (ww_upr σ k f) := by
  refine ww_W_set h ?_ (fun a ha => by funext b; simp [ww_upr, ha])
  have e : ww_upr σ k f k = f := by funext b; simp [ww_upr]
  simp [ww_cell, e]
theorem ww_up_row (σ : ww_M) (k j : Nat) (v : Int32) : ww_upr σ k (upd (σ k) j v) = ww_up σ k j v := by
  funext a b
  by_cases ha : a = k
  · subst ha; simp [ww_upr, ww_up, upd]
  · simp [ww_upr, ww_up, ha]
def ww_at (G : List ww_L) (o : Nat) (L : List ww_L) : Prop := ∀ i x, L[i]? = some x → G[o + i]? = some x
abbrev ww_tys (cA : Nat → ClassId) : List (ClassId × FieldType) := [(cA 0, .int), (cA 1, .byte), (cA 2, .boolean), (cA 3, .object RX1), (cA 4, .object RX2)]
/-! ===== strings: sand tide law rot gangs whale ===== -/
def ww_sl : List Nat := [4, 4, 3, 3, 5, 5]
def ww_sb : List (List Int32) := [[115, 97, 110, 100], [116, 105, 100, 101], [108, 97, 119], [114, 111, 116], [103, 97, 110, 103, 115], [119, 104, 97, 108, 101]]
/-! ===== what is known beside the world: D, cA, adV, adK ===== -/
abbrev ww_Y : Type := va_G × (Nat → ClassId) × (Nat → Nat) × (Nat → Nat)
def ww_RS (Y : ww_Y) (U : State) : Prop := vk_R RX5 91 "sand" (Y.2.2.2 0) U ∧ vk_R RX5 97 "tide" (Y.2.2.2 1) U ∧ vk_R RX5 99 "law" (Y.2.2.2 2) U ∧ vk_R RX5 101 "rot" (Y.2.2.2 3) U ∧ vk_R RX5 103 "gangs" (Y.2.2.2 4) U ∧ vk_R RX5 105 "whale" (Y.2.2.2 5) U
theorem ww_RS.same {Y : ww_Y} {U V : State} (hv : U.vm = V.vm) (h : ww_RS Y U) : ww_RS Y V := by
  obtain ⟨h0, h1, h2, h3, h4, h5⟩ := h
  exact ⟨h0.same hv.symm, h1.same hv.symm, h2.same hv.symm, h3.same hv.symm, h4.same hv.symm, h5.same hv.symm⟩
theorem ww_RS.warm {Y : ww_Y} {s U : State} (hW : s.WarmedH U.vm) (h : ww_RS Y s) : ww_RS Y U := by
  obtain ⟨h0, h1, h2, h3, h4, h5⟩ := h
  exact ⟨h0.warm hW, h1.warm hW, h2.warm hW, h3.warm hW, h4.warm hW, h5.warm hW⟩
def ww_Ev (Y : ww_Y) (A : Nat → Prop) (U : State) (H : Heap) : Prop := va_K Y.1 vwCl (ww_tys Y.2.1) U ∧ (∀ w ∈ ww_N, va_Nw w U) ∧ vk_S 6 ww_sl ww_sb Y.2.2.2 Y.2.2.1 A U H ∧ (va_Z "java/lang/String" "COMPACT_STRINGS" "Z" (.int 1) A U H ∧ va_Zq "jdk/internal/util/Preconditions" "SIOOBE_FORMATTER" "Ljava/util/function/BiFunction;" A U H) ∧ ww_RS Y U
def ww_AA (G : List ww_L) (ad : Nat → Nat) (sz : Nat) : Nat → Prop := fun q => (∃ k, k < G.length ∧ q = ad k) ∨ sz ≤ q
def ww_Rm (h : Nat) : Room := { frames := h, cells := 0, slots := 0, locals := 40 * h }
abbrev ww_R : Type := Option Value × ww_M
def ww_Qr (Y : ww_Y) (ad : Nat → Nat) (G : List ww_L) (A : Nat → Prop) (r : ww_R) : Array Value → State → Outcome → State → Prop := fun _ st oc t => oc = .returned r.1 ∧ va_P Y.1 vwCl (ww_W G ad Y.2.1 r.2) t.heap ∧ va_F A st t
def ww_Pc (Y : ww_Y) (ad : Nat → Nat) (G : List ww_L) (sz : Nat) (σ : ww_M) : State → Prop := fun U => U.heap.size = sz ∧ va_P Y.1 vwCl (ww_W G ad Y.2.1 σ) U.heap ∧ ww_Ev Y (ww_AA G ad sz) U U.heap ∧ ∀ i j, i < G.length → j < G.length → ad i = ad j → i = j
/-- a method's contract: from memory sg, with the answer and the memory that the pure function tells -/
def ww_Cn (l : Launch) (Y : ww_Y) (ad : Nat → Nat) (G : List ww_L) (y : MethodName) (cc : ByteArray) (nL : Nat) (ret : Option FieldType) (h : Nat) (av : List Value) (σ : ww_M) (o : Option ww_R) : Prop :=
  ∀ (sz : Nat) (r : ww_R), o = some r → Met l y (.code y cc nL ret :: ww_T) (ww_Rm h) (va_Pc av (ww_Pc Y ad G sz σ)) (ww_Qr Y ad G (ww_AA G ad sz) r) 0 0 (ww_AA G ad sz)
/-- what is fixed in a walk -/
abbrev ww_X : Type := Program × Launch × Env × Room × State × MethodId × Array Value × List Frame × Method × Code × Nat × Nat × (ww_R → State → Prop) × (Nat → Prop)
def ww_V (X : ww_X) (Y : ww_Y) (ad : Nat → Nat) (G : List ww_L) (nL : Nat) (σ : ww_M) (pc : Nat) (lv : List (Nat × Value)) (st : List Value) (o : Option ww_R) : Prop := match X with
  | (p, l, e, R, s, m, args, below, meth, c, cells, slots, Qf, A) => ∀ (H : Heap) (locs : List Loc) (ls : Array Slot) (r : ww_R), o = some r → va_P Y.1 vwCl (ww_W G ad Y.2.1 σ) H → va_S A s.heap H locs → lv_has ls nL lv → W p l e R s m args below meth c H locs cells slots (Qf r) (F0 m pc ls st)
def ww_C (X : ww_X) (l0 : Launch) (Y : ww_Y) (ad : Nat → Nat) (G : List ww_L) (h : Nat) (cc : ByteArray) (nL : Nat) (own : String) : Prop := match X with
  | (p, l, e, R, s, m, args, below, meth, c, cells, slots, Qf, A) => l = l0 ∧ (h ≤ R.frames ∧ 40 * h ≤ R.locals ∧ cells ≤ R.cells ∧ slots ≤ R.slots) ∧ p.tables.exec = Jvm.exec ∧ c.code = cc ∧ c.maxLocals = nL ∧ s.vm.findClass own = some m.cls ∧ (∀ w ∈ ww_T, w.before args s = true) ∧ ww_Ev Y A s s.heap ∧ (∀ i j, i < G.length → j < G.length → ad i = ad j → i = j) ∧ (∀ k, k < G.length → A (ad k)) ∧ (∀ q, s.heap.size ≤ q → A q)
def ww_CR (X : ww_X) (Y : ww_Y) (ad : Nat → Nat) (G : List ww_L) (ret : Option FieldType) : Prop := match X with
  | (p, l, e, R, s, m, args, below, meth, c, cells, slots, Qf, A) => meth.sig.returnType = ret ∧ meth.locks = false ∧ Qf = fun r => MQ below (ww_Qr Y ad G A r) args s cells slots A
theorem ww_D {G : List ww_L} {ad : Nat → Nat} {cA : Nat → ClassId} {σ : ww_M} {A : Nat → Prop} (hI : ∀ i j, i < G.length → j < G.length → ad i = ad j → i = j) (hA : ∀ k, k < G.length → A (ad k)) : va_D A (ww_W G ad cA σ) := by
  refine ⟨fun i j p q h1 h2 e => ?_, fun k q h => ?_⟩
  · obtain ⟨a1, a2⟩ := ww_W_at h1
    obtain ⟨b1, b2⟩ := ww_W_at h2
    exact hI i j a1 b1 (by rw [← a2, ← b2]; exact e)
  · obtain ⟨a1, a2⟩ := ww_W_at h
    rw [a2]
    exact hA k a1
theorem ww_Ev.warm {Y : ww_Y} {A B : Nat → Prop} {s U : State} {H H1 : Heap} (hW : s.WarmedH U.vm) (h : ww_Ev Y A s H) (hq : ∀ a : Nat, a < H.size → ¬ A a → H1[a]? = H[a]?) (hAB : ∀ q, q < H1.size → B q → A q) (hAB' : ∀ q, B q → A q) : ww_Ev Y B U H1 := by
  obtain ⟨h1, h2, h3, h4, h5⟩ := h
  refine ⟨va_K.moved hW.alike h1, fun w hw => ?_, ((h3.moved hW.alike).kept hq).narrow hAB', ?_, h5.warm hW⟩
  · have hg := ww_Ng hw
    have hz := h2 w hw
    cases w <;> first | exact va_Nw.warmF hW hz | exact va_Nw.warmM hW hz | cases hg
  · exact ⟨((h4.1.moved hW.alike).kept hq).narrow hAB', ((h4.2.moved hW.alike).kept hq).narrow hAB'⟩
/-! ===== rows that leave the memory ===== -/
section WROWS
variable {X : ww_X} {l0 : Launch} {Y : ww_Y} {ad : Nat → Nat} {G : List ww_L} {h nL pc : Nat} {cc : ByteArray} {own : String} {σ : ww_M} {lv lv' : List (Nat × Value)} {st : List Value} {o : Option ww_R}
theorem ww_eq {o' : Option ww_R} (e : o = o') (k : ww_V X Y ad G nL σ pc lv st o') : ww_V X Y ad G nL σ pc lv st o := e ▸ k
theorem ww_none (e : o = none) : ww_V X Y ad G nL σ pc lv st o := by
  subst e
  obtain ⟨p, l, e, R, s, m, args, below, meth, c, cells, slots, Qf, A⟩ := X
  intro H locs ls r hr
  cases hr
theorem ww_lv (ks : List Nat) (he : lv_pick lv ks = lv') (k : ww_V X Y ad G nL σ pc lv' st o) : ww_V X Y ad G nL σ pc lv st o := by
  obtain ⟨p, l, e, R, s, m, args, below, meth, c, cells, slots, Qf, A⟩ := X
  intro H locs ls r hr hP hS hl
  exact k H locs ls r hr hP hS (lv_sub hl ks he)
end WROWS
end
section
/-! ===== numbers as the machine has them ===== -/
def ww_rem (x y : Int32) : Int32 := x - x / y * y
def ww_remL (x y : Int64) : Int64 := x - x / y * y
def ww_shl (x y : Int32) : Int32 := x <<< (y &&& 31)
def ww_shr (x y : Int32) : Int32 := x >>> (y &&& 31)
def ww_ushr (x y : Int32) : Int32 := (x.toUInt32 >>> (y.toUInt32 &&& Int32.toUInt32 31)).toInt32
def ww_max (x y : Int32) : Int32 := if x < y then y else x
def ww_min (x y : Int32) : Int32 := if y < x then y else x
def ww_nz (y : Int32) : Bool := decide (¬ y = 0)
def ww_lnz (y : Int64) : Bool := decide (¬ y = 0)
def ww_in (i : Int32) (n : Nat) : Bool := decide (¬ (i < 0 ∨ n ≤ i.toNatClampNeg))
def ww_ix (i : Int32) : Nat := i.toNatClampNeg
def ww_isb (x : Int32) : Bool := decide (x = 0 ∨ x = 1)
def ww_ck {α : Type} (b : Bool) (E : Option α) : Option α := match b with
  | true => E
  | false => none
theorem ww_ck_some {α β : Type} {b : Bool} {E : Option α} {K : α → Option β} {r : β} (h : (ww_ck b E).bind K = some r) : b = true ∧ E.bind K = some r := by
  cases b with
  | true => exact ⟨rfl, h⟩
  | false => cases h
theorem ww_in_p {i : Int32} {n : Nat} (h : ww_in i n = true) : vp_in i n := by
  show ¬ (i < 0 ∨ n ≤ i.toNatClampNeg)
  exact of_decide_eq_true h
theorem ww_isb_n {x : Int32} (h : ww_isb x = true) : narrow .boolean (.int x) = .int x := by
  rcases of_decide_eq_true h with rfl | rfl <;> rfl
/-- a loop: its body goes on (inl) or is through (inr) -/
def ww_it {α β : Type} (f : α → Option (α ⊕ β)) : Nat → α → Option β
  | 0, _ => none
  | n + 1, x => match f x with
    | none => none
    | some (.inl y) => ww_it f n y
    | some (.inr b) => some b
def ww_F : Nat := 10000
section WROWS
variable {X : ww_X} {l0 : Launch} {Y : ww_Y} {ad : Nat → Nat} {G : List ww_L} {h nL pc : Nat} {cc : ByteArray} {own : String} {σ : ww_M} {lv lv' : List (Nat × Value)} {st : List Value} {o : Option ww_R} {α β : Type} {K : α → Option ww_R}
theorem ww_iconst (hC : ww_C X l0 Y ad G h cc nL own) {n : Int} (hd : decode cc pc = .ok (.iconst n, 1)) {v : Int32} (hv : Int32.ofInt n = v) (kk : ww_V X Y ad G nL σ (pc + 1) lv (.int v :: st) o) : ww_V X Y ad G nL σ pc lv st o := by
  obtain ⟨p, l, e, R, s, m, args, below, meth, c, cells, slots, Qf, A⟩ := X
  obtain ⟨rfl, ⟨hRf, hRl, hRc, hRs⟩, hx, hb, hml, hown, hts, hEv, hI, hAk, hA⟩ := hC
  intro H locs ls r hr hP hS hl
  exact lv_iconst hx hb hd hv (kk H locs ls r hr hP hS hl)
theorem ww_bipush (hC : ww_C X l0 Y ad G h cc nL own) {n : Int} (hd : decode cc pc = .ok (.bipush n, 2)) {v : Int32} (hv : (Int8.ofInt n).toInt32 = v) (kk : ww_V X Y ad G nL σ (pc + 2) lv (.int v :: st) o) : ww_V X Y ad G nL σ pc lv st o := by
  obtain ⟨p, l, e, R, s, m, args, below, meth, c, cells, slots, Qf, A⟩ := X
  obtain ⟨rfl, ⟨hRf, hRl, hRc, hRs⟩, hx, hb, hml, hown, hts, hEv, hI, hAk, hA⟩ := hC
  intro H locs ls r hr hP hS hl
  exact lv_bipush hx hb hd hv (kk H locs ls r hr hP hS hl)
theorem ww_sipush (hC : ww_C X l0 Y ad G h cc nL own) {n : Int} (hd : decode cc pc = .ok (.sipush n, 3)) {v : Int32} (hv : (Int16.ofInt n).toInt32 = v) (kk : ww_V X Y ad G nL σ (pc + 3) lv (.int v :: st) o) : ww_V X Y ad G nL σ pc lv st o := by
  obtain ⟨p, l, e, R, s, m, args, below, meth, c, cells, slots, Qf, A⟩ := X
  obtain ⟨rfl, ⟨hRf, hRl, hRc, hRs⟩, hx, hb, hml, hown, hts, hEv, hI, hAk, hA⟩ := hC
  intro H locs ls r hr hP hS hl
  exact lv_sipush hx hb hd hv (kk H locs ls r hr hP hS hl)
theorem ww_lconst (hC : ww_C X l0 Y ad G h cc nL own) {n : Fin 2} (hd : decode cc pc = .ok (.lconst n, 1)) {v : Int64} (hv : Int64.ofNat (n : Nat) = v) (kk : ww_V X Y ad G nL σ (pc + 1) lv (.long v :: st) o) : ww_V X Y ad G nL σ pc lv st o := by
  obtain ⟨p, l, e, R, s, m, args, below, meth, c, cells, slots, Qf, A⟩ := X
  obtain ⟨rfl, ⟨hRf, hRl, hRc, hRs⟩, hx, hb, hml, hown, hts, hEv, hI, hAk, hA⟩ := hC
  intro H locs ls r hr hP hS hl
  exact lv_lconst hx hb hd hv (kk H locs ls r hr hP hS hl)
theorem ww_ldc (hC : ww_C X l0 Y ad G h cc nL own) {n : Nat} {v : Int32} (hd : decode cc pc = .ok (.ldc n, 2)) (hw : Cond.constant own n v ∈ ww_T) (kk : ww_V X Y ad G nL σ (pc + 2) lv (.int v :: st) o) : ww_V X Y ad G nL σ pc lv st o := by
  obtain ⟨p, l, e, R, s, m, args, below, meth, c, cells, slots, Qf, A⟩ := X
  obtain ⟨rfl, ⟨hRf, hRl, hRc, hRs⟩, hx, hb, hml, hown, hts, hEv, hI, hAk, hA⟩ := hC
  intro H locs ls r hr hP hS hl
  exact lv_ldc hx hb hown (hts _ hw) hd (kk H locs ls r hr hP hS hl)
theorem ww_ldcw (hC : ww_C X l0 Y ad G h cc nL own) {n : Nat} {v : Int32} (hd : decode cc pc = .ok (.ldc_w n, 3)) (hw : Cond.constant own n v ∈ ww_T) (kk : ww_V X Y ad G nL σ (pc + 3) lv (.int v :: st) o) : ww_V X Y ad G nL σ pc lv st o := by
  obtain ⟨p, l, e, R, s, m, args, below, meth, c, cells, slots, Qf, A⟩ := X
  obtain ⟨rfl, ⟨hRf, hRl, hRc, hRs⟩, hx, hb, hml, hown, hts, hEv, hI, hAk, hA⟩ := hC
  intro H locs ls r hr hP hS hl
  exact lv_ldcw hx hb hown (hts _ hw) hd (kk H locs ls r hr hP hS hl)
theorem ww_ldc2 (hC : ww_C X l0 Y ad G h cc nL own) {n : Nat} {v : Int64} (hd : decode cc pc = .ok (.ldc2_w n, 3)) (hw : Cond.constantLong own n v ∈ ww_T) (kk : ww_V X Y ad G nL σ (pc + 3) lv (.long v :: st) o) : ww_V X Y ad G nL σ pc lv st o := by
  obtain ⟨p, l, e, R, s, m, args, below, meth, c, cells, slots, Qf, A⟩ := X
  obtain ⟨rfl, ⟨hRf, hRl, hRc, hRs⟩, hx, hb, hml, hown, hts, hEv, hI, hAk, hA⟩ := hC
  intro H locs ls r hr hP hS hl
  exact lv_ldc2 hx hb hown (hts _ hw) hd (kk H locs ls r hr hP hS hl)
theorem ww_iload_n (hC : ww_C X l0 Y ad G h cc nL own) {n : Fin 4} {i : Nat} {x : Int32} (j : Nat) (hj : lv[j]? = some (i, .int x)) (hd : decode cc pc = .ok (.iload_n n, 1)) (hi : (n : Nat) = i) (kk : ww_V X Y ad G nL σ (pc + 1) lv (.int x :: st) o) : ww_V X Y ad G nL σ pc lv st o := by
  obtain ⟨p, l, e, R, s, m, args, below, meth, c, cells, slots, Qf, A⟩ := X
  obtain ⟨rfl, ⟨hRf, hRl, hRc, hRs⟩, hx, hb, hml, hown, hts, hEv, hI, hAk, hA⟩ := hC
  intro H locs ls r hr hP hS hl
  exact lv_iload_n hx hb hd hi (lv_at hl j hj) (kk H locs ls r hr hP hS hl)
theorem ww_iload (hC : ww_C X l0 Y ad G h cc nL own) {i : Nat} {x : Int32} (j : Nat) (hj : lv[j]? = some (i, .int x)) (hd : decode cc pc = .ok (.iload i, 2)) (kk : ww_V X Y ad G nL σ (pc + 2) lv (.int x :: st) o) : ww_V X Y ad G nL σ pc lv st o := by
  obtain ⟨p, l, e, R, s, m, args, below, meth, c, cells, slots, Qf, A⟩ := X
  obtain ⟨rfl, ⟨hRf, hRl, hRc, hRs⟩, hx, hb, hml, hown, hts, hEv, hI, hAk, hA⟩ := hC
  intro H locs ls r hr hP hS hl
  exact lv_iload hx hb hd (lv_at hl j hj) (kk H locs ls r hr hP hS hl)
theorem ww_istore_n (hC : ww_C X l0 Y ad G h cc nL own) {n : Fin 4} {i : Nat} {x : Int32} (hd : decode cc pc = .ok (.istore_n n, 1)) (hi : (n : Nat) = i) (hn : i < nL) (hl2 : (i, Value.int x) :: lv.filter (fun q => !(q.1 == i) && !(q.1 + 1 == i && q.2.category == 2)) = lv') (kk : ww_V X Y ad G nL σ (pc + 1) lv' st o) : ww_V X Y ad G nL σ pc lv (.int x :: st) o := by
  obtain ⟨p, l, e, R, s, m, args, below, meth, c, cells, slots, Qf, A⟩ := X
  obtain ⟨rfl, ⟨hRf, hRl, hRc, hRs⟩, hx, hb, hml, hown, hts, hEv, hI, hAk, hA⟩ := hC
  intro H locs ls r hr hP hS hl
  exact lv_istore_n hx hb hd hi hl hn hl2 (fun ls hl => kk H locs ls r hr hP hS hl)
theorem ww_istore (hC : ww_C X l0 Y ad G h cc nL own) {i : Nat} {x : Int32} (hd : decode cc pc = .ok (.istore i, 2)) (hn : i < nL) (hl2 : (i, Value.int x) :: lv.filter (fun q => !(q.1 == i) && !(q.1 + 1 == i && q.2.category == 2)) = lv') (kk : ww_V X Y ad G nL σ (pc + 2) lv' st o) : ww_V X Y ad G nL σ pc lv (.int x :: st) o := by
  obtain ⟨p, l, e, R, s, m, args, below, meth, c, cells, slots, Qf, A⟩ := X
  obtain ⟨rfl, ⟨hRf, hRl, hRc, hRs⟩, hx, hb, hml, hown, hts, hEv, hI, hAk, hA⟩ := hC
  intro H locs ls r hr hP hS hl
  exact lv_istore hx hb hd hl hn hl2 (fun ls hl => kk H locs ls r hr hP hS hl)
theorem ww_lload_n (hC : ww_C X l0 Y ad G h cc nL own) {n : Fin 4} {i : Nat} {x : Int64} (j : Nat) (hj : lv[j]? = some (i, .long x)) (hd : decode cc pc = .ok (.lload_n n, 1)) (hi : (n : Nat) = i) (kk : ww_V X Y ad G nL σ (pc + 1) lv (.long x :: st) o) : ww_V X Y ad G nL σ pc lv st o := by
  obtain ⟨p, l, e, R, s, m, args, below, meth, c, cells, slots, Qf, A⟩ := X
  obtain ⟨rfl, ⟨hRf, hRl, hRc, hRs⟩, hx, hb, hml, hown, hts, hEv, hI, hAk, hA⟩ := hC
  intro H locs ls r hr hP hS hl
  exact lv_lload_n hx hb hd hi (lv_at hl j hj) (kk H locs ls r hr hP hS hl)
theorem ww_lload (hC : ww_C X l0 Y ad G h cc nL own) {i : Nat} {x : Int64} (j : Nat) (hj : lv[j]? = some (i, .long x)) (hd : decode cc pc = .ok (.lload i, 2)) (kk : ww_V X Y ad G nL σ (pc + 2) lv (.long x :: st) o) : ww_V X Y ad G nL σ pc lv st o := by
  obtain ⟨p, l, e, R, s, m, args, below, meth, c, cells, slots, Qf, A⟩ := X
  obtain ⟨rfl, ⟨hRf, hRl, hRc, hRs⟩, hx, hb, hml, hown, hts, hEv, hI, hAk, hA⟩ := hC
  intro H locs ls r hr hP hS hl
  exact lv_lload hx hb hd (lv_at hl j hj) (kk H locs ls r hr hP hS hl)
theorem ww_lstore_n (hC : ww_C X l0 Y ad G h cc nL own) {n : Fin 4} {i : Nat} {x : Int64} (hd : decode cc pc = .ok (.lstore_n n, 1)) (hi : (n : Nat) = i) (hn : i + 1 < nL) (hl2 : (i, Value.long x) :: lv.filter (fun q => !(q.1 == i) && (!(q.1 == i + 1) && !(q.1 + 1 == i && q.2.category == 2))) = lv') (kk : ww_V X Y ad G nL σ (pc + 1) lv' st o) : ww_V X Y ad G nL σ pc lv (.long x :: st) o := by
  obtain ⟨p, l, e, R, s, m, args, below, meth, c, cells, slots, Qf, A⟩ := X
  obtain ⟨rfl, ⟨hRf, hRl, hRc, hRs⟩, hx, hb, hml, hown, hts, hEv, hI, hAk, hA⟩ := hC
  intro H locs ls r hr hP hS hl
  exact lv_lstore_n hx hb hd hi hl hn hl2 (fun ls hl => kk H locs ls r hr hP hS hl)
theorem ww_lstore (hC : ww_C X l0 Y ad G h cc nL own) {i : Nat} {x : Int64} (hd : decode cc pc = .ok (.lstore i, 2)) (hn : i + 1 < nL) (hl2 : (i, Value.long x) :: lv.filter (fun q => !(q.1 == i) && (!(q.1 == i + 1) && !(q.1 + 1 == i && q.2.category == 2))) = lv') (kk : ww_V X Y ad G nL σ (pc + 2) lv' st o) : ww_V X Y ad G nL σ pc lv (.long x :: st) o := by
  obtain ⟨p, l, e, R, s, m, args, below, meth, c, cells, slots, Qf, A⟩ := X
  obtain ⟨rfl, ⟨hRf, hRl, hRc, hRs⟩, hx, hb, hml, hown, hts, hEv, hI, hAk, hA⟩ := hC
  intro H locs ls r hr hP hS hl
  exact lv_lstore hx hb hd hl hn hl2 (fun ls hl => kk H locs ls r hr hP hS hl)
theorem ww_aload_n (hC : ww_C X l0 Y ad G h cc nL own) {n : Fin 4} {i : Nat} {x : Nat} (j : Nat) (hj : lv[j]? = some (i, .ref x)) (hd : decode cc pc = .ok (.aload_n n, 1)) (hi : (n : Nat) = i) (kk : ww_V X Y ad G nL σ (pc + 1) lv (.ref x :: st) o) : ww_V X Y ad G nL σ pc lv st o := by
  obtain ⟨p, l, e, R, s, m, args, below, meth, c, cells, slots, Qf, A⟩ := X
  obtain ⟨rfl, ⟨hRf, hRl, hRc, hRs⟩, hx, hb, hml, hown, hts, hEv, hI, hAk, hA⟩ := hC
  intro H locs ls r hr hP hS hl
  exact lv_aload_n hx hb hd hi (lv_at hl j hj) (kk H locs ls r hr hP hS hl)
theorem ww_aload (hC : ww_C X l0 Y ad G h cc nL own) {i : Nat} {x : Nat} (j : Nat) (hj : lv[j]? = some (i, .ref x)) (hd : decode cc pc = .ok (.aload i, 2)) (kk : ww_V X Y ad G nL σ (pc + 2) lv (.ref x :: st) o) : ww_V X Y ad G nL σ pc lv st o := by
  obtain ⟨p, l, e, R, s, m, args, below, meth, c, cells, slots, Qf, A⟩ := X
  obtain ⟨rfl, ⟨hRf, hRl, hRc, hRs⟩, hx, hb, hml, hown, hts, hEv, hI, hAk, hA⟩ := hC
  intro H locs ls r hr hP hS hl
  exact lv_aload hx hb hd (lv_at hl j hj) (kk H locs ls r hr hP hS hl)
theorem ww_astore_n (hC : ww_C X l0 Y ad G h cc nL own) {n : Fin 4} {i : Nat} {x : Nat} (hd : decode cc pc = .ok (.astore_n n, 1)) (hi : (n : Nat) = i) (hn : i < nL) (hl2 : (i, Value.ref x) :: lv.filter (fun q => !(q.1 == i) && !(q.1 + 1 == i && q.2.category == 2)) = lv') (kk : ww_V X Y ad G nL σ (pc + 1) lv' st o) : ww_V X Y ad G nL σ pc lv (.ref x :: st) o := by
  obtain ⟨p, l, e, R, s, m, args, below, meth, c, cells, slots, Qf, A⟩ := X
  obtain ⟨rfl, ⟨hRf, hRl, hRc, hRs⟩, hx, hb, hml, hown, hts, hEv, hI, hAk, hA⟩ := hC
  intro H locs ls r hr hP hS hl
  exact lv_astore_n hx hb hd hi hl hn hl2 (fun ls hl => kk H locs ls r hr hP hS hl)
theorem ww_astore (hC : ww_C X l0 Y ad G h cc nL own) {i : Nat} {x : Nat} (hd : decode cc pc = .ok (.astore i, 2)) (hn : i < nL) (hl2 : (i, Value.ref x) :: lv.filter (fun q => !(q.1 == i) && !(q.1 + 1 == i && q.2.category == 2)) = lv') (kk : ww_V X Y ad G nL σ (pc + 2) lv' st o) : ww_V X Y ad G nL σ pc lv (.ref x :: st) o := by
  obtain ⟨p, l, e, R, s, m, args, below, meth, c, cells, slots, Qf, A⟩ := X
  obtain ⟨rfl, ⟨hRf, hRl, hRc, hRs⟩, hx, hb, hml, hown, hts, hEv, hI, hAk, hA⟩ := hC
  intro H locs ls r hr hP hS hl
  exact lv_astore hx hb hd hl hn hl2 (fun ls hl => kk H locs ls r hr hP hS hl)
theorem ww_iinc (hC : ww_C X l0 Y ad G h cc nL own) {i : Nat} {n : Int} {x v : Int32} (j : Nat) (hj : lv[j]? = some (i, .int x)) (hd : decode cc pc = .ok (.iinc i n, 3)) (hv : x + Int32.ofInt n = v) (hn : i < nL) (hl2 : (i, Value.int v) :: lv.filter (fun q => !(q.1 == i) && !(q.1 + 1 == i && q.2.category == 2)) = lv') (kk : ww_V X Y ad G nL σ (pc + 3) lv' st o) : ww_V X Y ad G nL σ pc lv st o := by
  obtain ⟨p, l, e, R, s, m, args, below, meth, c, cells, slots, Qf, A⟩ := X
  obtain ⟨rfl, ⟨hRf, hRl, hRc, hRs⟩, hx, hb, hml, hown, hts, hEv, hI, hAk, hA⟩ := hC
  intro H locs ls r hr hP hS hl
  exact lv_iinc hx hb hd hl hj hv hn hl2 (fun ls hl => kk H locs ls r hr hP hS hl)
theorem ww_iadd (hC : ww_C X l0 Y ad G h cc nL own) {x y : Int32} (hd : decode cc pc = .ok (.iadd, 1)) (kk : ww_V X Y ad G nL σ (pc + 1) lv (.int (x + y) :: st) o) : ww_V X Y ad G nL σ pc lv (.int y :: .int x :: st) o := by
  obtain ⟨p, l, e, R, s, m, args, below, meth, c, cells, slots, Qf, A⟩ := X
  obtain ⟨rfl, ⟨hRf, hRl, hRc, hRs⟩, hx, hb, hml, hown, hts, hEv, hI, hAk, hA⟩ := hC
  intro H locs ls r hr hP hS hl
  exact lv_iadd hx hb hd (kk H locs ls r hr hP hS hl)
theorem ww_isub (hC : ww_C X l0 Y ad G h cc nL own) {x y : Int32} (hd : decode cc pc = .ok (.isub, 1)) (kk : ww_V X Y ad G nL σ (pc + 1) lv (.int (x - y) :: st) o) : ww_V X Y ad G nL σ pc lv (.int y :: .int x :: st) o := by
  obtain ⟨p, l, e, R, s, m, args, below, meth, c, cells, slots, Qf, A⟩ := X
  obtain ⟨rfl, ⟨hRf, hRl, hRc, hRs⟩, hx, hb, hml, hown, hts, hEv, hI, hAk, hA⟩ := hC
  intro H locs ls r hr hP hS hl
  exact lv_isub hx hb hd (kk H locs ls r hr hP hS hl)
theorem ww_imul (hC : ww_C X l0 Y ad G h cc nL own) {x y : Int32} (hd : decode cc pc = .ok (.imul, 1)) (kk : ww_V X Y ad G nL σ (pc + 1) lv (.int (x * y) :: st) o) : ww_V X Y ad G nL σ pc lv (.int y :: .int x :: st) o := by
  obtain ⟨p, l, e, R, s, m, args, below, meth, c, cells, slots, Qf, A⟩ := X
  obtain ⟨rfl, ⟨hRf, hRl, hRc, hRs⟩, hx, hb, hml, hown, hts, hEv, hI, hAk, hA⟩ := hC
  intro H locs ls r hr hP hS hl
  exact lv_imul hx hb hd (kk H locs ls r hr hP hS hl)
theorem ww_iand (hC : ww_C X l0 Y ad G h cc nL own) {x y : Int32} (hd : decode cc pc = .ok (.iand, 1)) (kk : ww_V X Y ad G nL σ (pc + 1) lv (.int (x &&& y) :: st) o) : ww_V X Y ad G nL σ pc lv (.int y :: .int x :: st) o := by
  obtain ⟨p, l, e, R, s, m, args, below, meth, c, cells, slots, Qf, A⟩ := X
  obtain ⟨rfl, ⟨hRf, hRl, hRc, hRs⟩, hx, hb, hml, hown, hts, hEv, hI, hAk, hA⟩ := hC
  intro H locs ls r hr hP hS hl
  exact lv_iand hx hb hd (kk H locs ls r hr hP hS hl)
theorem ww_ior (hC : ww_C X l0 Y ad G h cc nL own) {x y : Int32} (hd : decode cc pc = .ok (.ior, 1)) (kk : ww_V X Y ad G nL σ (pc + 1) lv (.int (x ||| y) :: st) o) : ww_V X Y ad G nL σ pc lv (.int y :: .int x :: st) o := by
  obtain ⟨p, l, e, R, s, m, args, below, meth, c, cells, slots, Qf, A⟩ := X
  obtain ⟨rfl, ⟨hRf, hRl, hRc, hRs⟩, hx, hb, hml, hown, hts, hEv, hI, hAk, hA⟩ := hC
  intro H locs ls r hr hP hS hl
  exact lv_ior hx hb hd (kk H locs ls r hr hP hS hl)
theorem ww_ixor (hC : ww_C X l0 Y ad G h cc nL own) {x y : Int32} (hd : decode cc pc = .ok (.ixor, 1)) (kk : ww_V X Y ad G nL σ (pc + 1) lv (.int (x ^^^ y) :: st) o) : ww_V X Y ad G nL σ pc lv (.int y :: .int x :: st) o := by
  obtain ⟨p, l, e, R, s, m, args, below, meth, c, cells, slots, Qf, A⟩ := X
  obtain ⟨rfl, ⟨hRf, hRl, hRc, hRs⟩, hx, hb, hml, hown, hts, hEv, hI, hAk, hA⟩ := hC
  intro H locs ls r hr hP hS hl
  exact lv_ixor hx hb hd (kk H locs ls r hr hP hS hl)
theorem ww_ishl (hC : ww_C X l0 Y ad G h cc nL own) {x y : Int32} (hd : decode cc pc = .ok (.ishl, 1)) (kk : ww_V X Y ad G nL σ (pc + 1) lv (.int (ww_shl x y) :: st) o) : ww_V X Y ad G nL σ pc lv (.int y :: .int x :: st) o := by
  obtain ⟨p, l, e, R, s, m, args, below, meth, c, cells, slots, Qf, A⟩ := X
  obtain ⟨rfl, ⟨hRf, hRl, hRc, hRs⟩, hx, hb, hml, hown, hts, hEv, hI, hAk, hA⟩ := hC
  intro H locs ls r hr hP hS hl
  exact lv_ishl hx hb hd (kk H locs ls r hr hP hS hl)
theorem ww_ishr (hC : ww_C X l0 Y ad G h cc nL own) {x y : Int32} (hd : decode cc pc = .ok (.ishr, 1)) (kk : ww_V X Y ad G nL σ (pc + 1) lv (.int (ww_shr x y) :: st) o) : ww_V X Y ad G nL σ pc lv (.int y :: .int x :: st) o := by
  obtain ⟨p, l, e, R, s, m, args, below, meth, c, cells, slots, Qf, A⟩ := X
  obtain ⟨rfl, ⟨hRf, hRl, hRc, hRs⟩, hx, hb, hml, hown, hts, hEv, hI, hAk, hA⟩ := hC
  intro H locs ls r hr hP hS hl
  exact lv_ishr hx hb hd (kk H locs ls r hr hP hS hl)
theorem ww_iushr (hC : ww_C X l0 Y ad G h cc nL own) {x y : Int32} (hd : decode cc pc = .ok (.iushr, 1)) (kk : ww_V X Y ad G nL σ (pc + 1) lv (.int (ww_ushr x y) :: st) o) : ww_V X Y ad G nL σ pc lv (.int y :: .int x :: st) o := by
  obtain ⟨p, l, e, R, s, m, args, below, meth, c, cells, slots, Qf, A⟩ := X
  obtain ⟨rfl, ⟨hRf, hRl, hRc, hRs⟩, hx, hb, hml, hown, hts, hEv, hI, hAk, hA⟩ := hC
  intro H locs ls r hr hP hS hl
  exact lv_iushr hx hb hd rfl (kk H locs ls r hr hP hS hl)
theorem ww_ladd (hC : ww_C X l0 Y ad G h cc nL own) {x y : Int64} (hd : decode cc pc = .ok (.ladd, 1)) (kk : ww_V X Y ad G nL σ (pc + 1) lv (.long (x + y) :: st) o) : ww_V X Y ad G nL σ pc lv (.long y :: .long x :: st) o := by
  obtain ⟨p, l, e, R, s, m, args, below, meth, c, cells, slots, Qf, A⟩ := X
  obtain ⟨rfl, ⟨hRf, hRl, hRc, hRs⟩, hx, hb, hml, hown, hts, hEv, hI, hAk, hA⟩ := hC
  intro H locs ls r hr hP hS hl
  exact lv_ladd hx hb hd (kk H locs ls r hr hP hS hl)
theorem ww_lsub (hC : ww_C X l0 Y ad G h cc nL own) {x y : Int64} (hd : decode cc pc = .ok (.lsub, 1)) (kk : ww_V X Y ad G nL σ (pc + 1) lv (.long (x - y) :: st) o) : ww_V X Y ad G nL σ pc lv (.long y :: .long x :: st) o := by
  obtain ⟨p, l, e, R, s, m, args, below, meth, c, cells, slots, Qf, A⟩ := X
  obtain ⟨rfl, ⟨hRf, hRl, hRc, hRs⟩, hx, hb, hml, hown, hts, hEv, hI, hAk, hA⟩ := hC
  intro H locs ls r hr hP hS hl
  exact lv_lsub hx hb hd (kk H locs ls r hr hP hS hl)
theorem ww_lmul (hC : ww_C X l0 Y ad G h cc nL own) {x y : Int64} (hd : decode cc pc = .ok (.lmul, 1)) (kk : ww_V X Y ad G nL σ (pc + 1) lv (.long (x * y) :: st) o) : ww_V X Y ad G nL σ pc lv (.long y :: .long x :: st) o := by
  obtain ⟨p, l, e, R, s, m, args, below, meth, c, cells, slots, Qf, A⟩ := X
  obtain ⟨rfl, ⟨hRf, hRl, hRc, hRs⟩, hx, hb, hml, hown, hts, hEv, hI, hAk, hA⟩ := hC
  intro H locs ls r hr hP hS hl
  exact lv_lmul hx hb hd (kk H locs ls r hr hP hS hl)
theorem ww_lcmp (hC : ww_C X l0 Y ad G h cc nL own) {x y : Int64} (hd : decode cc pc = .ok (.lcmp, 1)) (kk : ww_V X Y ad G nL σ (pc + 1) lv (.int (lg_cmp x y) :: st) o) : ww_V X Y ad G nL σ pc lv (.long y :: .long x :: st) o := by
  obtain ⟨p, l, e, R, s, m, args, below, meth, c, cells, slots, Qf, A⟩ := X
  obtain ⟨rfl, ⟨hRf, hRl, hRc, hRs⟩, hx, hb, hml, hown, hts, hEv, hI, hAk, hA⟩ := hC
  intro H locs ls r hr hP hS hl
  exact W.lcmp hx hb hd (kk H locs ls r hr hP hS hl)
theorem ww_idiv_c (hC : ww_C X l0 Y ad G h cc nL own) {x y : Int32} (hd : decode cc pc = .ok (.idiv, 1)) (hy : ¬ y = 0) (kk : ww_V X Y ad G nL σ (pc + 1) lv (.int (x / y) :: st) o) : ww_V X Y ad G nL σ pc lv (.int y :: .int x :: st) o := by
  obtain ⟨p, l, e, R, s, m, args, below, meth, c, cells, slots, Qf, A⟩ := X
  obtain ⟨rfl, ⟨hRf, hRl, hRc, hRs⟩, hx, hb, hml, hown, hts, hEv, hI, hAk, hA⟩ := hC
  intro H locs ls r hr hP hS hl
  exact lv_idiv hx hb hd hy (kk H locs ls r hr hP hS hl)
theorem ww_irem_c (hC : ww_C X l0 Y ad G h cc nL own) {x y : Int32} (hd : decode cc pc = .ok (.irem, 1)) (hy : ¬ y = 0) (kk : ww_V X Y ad G nL σ (pc + 1) lv (.int (ww_rem x y) :: st) o) : ww_V X Y ad G nL σ pc lv (.int y :: .int x :: st) o := by
  obtain ⟨p, l, e, R, s, m, args, below, meth, c, cells, slots, Qf, A⟩ := X
  obtain ⟨rfl, ⟨hRf, hRl, hRc, hRs⟩, hx, hb, hml, hown, hts, hEv, hI, hAk, hA⟩ := hC
  intro H locs ls r hr hP hS hl
  exact lv_irem hx hb hd hy (kk H locs ls r hr hP hS hl)
theorem ww_ldiv_c (hC : ww_C X l0 Y ad G h cc nL own) {x y : Int64} (hd : decode cc pc = .ok (.ldiv, 1)) (hy : ¬ y = 0) (kk : ww_V X Y ad G nL σ (pc + 1) lv (.long (x / y) :: st) o) : ww_V X Y ad G nL σ pc lv (.long y :: .long x :: st) o := by
  obtain ⟨p, l, e, R, s, m, args, below, meth, c, cells, slots, Qf, A⟩ := X
  obtain ⟨rfl, ⟨hRf, hRl, hRc, hRs⟩, hx, hb, hml, hown, hts, hEv, hI, hAk, hA⟩ := hC
  intro H locs ls r hr hP hS hl
  exact lv_ldiv hx hb hd hy (kk H locs ls r hr hP hS hl)
theorem ww_lrem_c (hC : ww_C X l0 Y ad G h cc nL own) {x y : Int64} (hd : decode cc pc = .ok (.lrem, 1)) (hy : ¬ y = 0) (kk : ww_V X Y ad G nL σ (pc + 1) lv (.long (ww_remL x y) :: st) o) : ww_V X Y ad G nL σ pc lv (.long y :: .long x :: st) o := by
  obtain ⟨p, l, e, R, s, m, args, below, meth, c, cells, slots, Qf, A⟩ := X
  obtain ⟨rfl, ⟨hRf, hRl, hRc, hRs⟩, hx, hb, hml, hown, hts, hEv, hI, hAk, hA⟩ := hC
  intro H locs ls r hr hP hS hl
  exact lv_lrem hx hb hd hy (kk H locs ls r hr hP hS hl)
theorem ww_idiv (hC : ww_C X l0 Y ad G h cc nL own) {E : Option α} {x y : Int32} (hd : decode cc pc = .ok (.idiv, 1)) (kk : ww_V X Y ad G nL σ (pc + 1) lv (.int (x / y) :: st) (E.bind K)) : ww_V X Y ad G nL σ pc lv (.int y :: .int x :: st) ((ww_ck (ww_nz y) E).bind K) := by
  obtain ⟨p, l, e, R, s, m, args, below, meth, c, cells, slots, Qf, A⟩ := X
  obtain ⟨rfl, ⟨hRf, hRl, hRc, hRs⟩, hx, hb, hml, hown, hts, hEv, hI, hAk, hA⟩ := hC
  intro H locs ls r hr hP hS hl
  obtain ⟨hg, hr⟩ := ww_ck_some hr
  exact lv_idiv hx hb hd (of_decide_eq_true hg) (kk H locs ls r hr hP hS hl)
theorem ww_irem (hC : ww_C X l0 Y ad G h cc nL own) {E : Option α} {x y : Int32} (hd : decode cc pc = .ok (.irem, 1)) (kk : ww_V X Y ad G nL σ (pc + 1) lv (.int (ww_rem x y) :: st) (E.bind K)) : ww_V X Y ad G nL σ pc lv (.int y :: .int x :: st) ((ww_ck (ww_nz y) E).bind K) := by
  obtain ⟨p, l, e, R, s, m, args, below, meth, c, cells, slots, Qf, A⟩ := X
  obtain ⟨rfl, ⟨hRf, hRl, hRc, hRs⟩, hx, hb, hml, hown, hts, hEv, hI, hAk, hA⟩ := hC
  intro H locs ls r hr hP hS hl
  obtain ⟨hg, hr⟩ := ww_ck_some hr
  exact lv_irem hx hb hd (of_decide_eq_true hg) (kk H locs ls r hr hP hS hl)
theorem ww_ldiv (hC : ww_C X l0 Y ad G h cc nL own) {E : Option α} {x y : Int64} (hd : decode cc pc = .ok (.ldiv, 1)) (kk : ww_V X Y ad G nL σ (pc + 1) lv (.long (x / y) :: st) (E.bind K)) : ww_V X Y ad G nL σ pc lv (.long y :: .long x :: st) ((ww_ck (ww_lnz y) E).bind K) := by
  obtain ⟨p, l, e, R, s, m, args, below, meth, c, cells, slots, Qf, A⟩ := X
  obtain ⟨rfl, ⟨hRf, hRl, hRc, hRs⟩, hx, hb, hml, hown, hts, hEv, hI, hAk, hA⟩ := hC
  intro H locs ls r hr hP hS hl
  obtain ⟨hg, hr⟩ := ww_ck_some hr
  exact lv_ldiv hx hb hd (of_decide_eq_true hg) (kk H locs ls r hr hP hS hl)
theorem ww_lrem (hC : ww_C X l0 Y ad G h cc nL own) {E : Option α} {x y : Int64} (hd : decode cc pc = .ok (.lrem, 1)) (kk : ww_V X Y ad G nL σ (pc + 1) lv (.long (ww_remL x y) :: st) (E.bind K)) : ww_V X Y ad G nL σ pc lv (.long y :: .long x :: st) ((ww_ck (ww_lnz y) E).bind K) := by
  obtain ⟨p, l, e, R, s, m, args, below, meth, c, cells, slots, Qf, A⟩ := X
  obtain ⟨rfl, ⟨hRf, hRl, hRc, hRs⟩, hx, hb, hml, hown, hts, hEv, hI, hAk, hA⟩ := hC
  intro H locs ls r hr hP hS hl
  obtain ⟨hg, hr⟩ := ww_ck_some hr
  exact lv_lrem hx hb hd (of_decide_eq_true hg) (kk H locs ls r hr hP hS hl)
theorem ww_i2b (hC : ww_C X l0 Y ad G h cc nL own) {x : Int32} (hd : decode cc pc = .ok (.i2b, 1)) (kk : ww_V X Y ad G nL σ (pc + 1) lv (.int x.toInt8.toInt32 :: st) o) : ww_V X Y ad G nL σ pc lv (.int x :: st) o := by
  obtain ⟨p, l, e, R, s, m, args, below, meth, c, cells, slots, Qf, A⟩ := X
  obtain ⟨rfl, ⟨hRf, hRl, hRc, hRs⟩, hx, hb, hml, hown, hts, hEv, hI, hAk, hA⟩ := hC
  intro H locs ls r hr hP hS hl
  exact lv_i2b hx hb hd rfl (kk H locs ls r hr hP hS hl)
theorem ww_i2s (hC : ww_C X l0 Y ad G h cc nL own) {x : Int32} (hd : decode cc pc = .ok (.i2s, 1)) (kk : ww_V X Y ad G nL σ (pc + 1) lv (.int x.toInt16.toInt32 :: st) o) : ww_V X Y ad G nL σ pc lv (.int x :: st) o := by
  obtain ⟨p, l, e, R, s, m, args, below, meth, c, cells, slots, Qf, A⟩ := X
  obtain ⟨rfl, ⟨hRf, hRl, hRc, hRs⟩, hx, hb, hml, hown, hts, hEv, hI, hAk, hA⟩ := hC
  intro H locs ls r hr hP hS hl
  exact lv_i2s hx hb hd rfl (kk H locs ls r hr hP hS hl)
theorem ww_i2l (hC : ww_C X l0 Y ad G h cc nL own) {x : Int32} (hd : decode cc pc = .ok (.i2l, 1)) (kk : ww_V X Y ad G nL σ (pc + 1) lv (.long x.toInt64 :: st) o) : ww_V X Y ad G nL σ pc lv (.int x :: st) o := by
  obtain ⟨p, l, e, R, s, m, args, below, meth, c, cells, slots, Qf, A⟩ := X
  obtain ⟨rfl, ⟨hRf, hRl, hRc, hRs⟩, hx, hb, hml, hown, hts, hEv, hI, hAk, hA⟩ := hC
  intro H locs ls r hr hP hS hl
  exact lv_i2l hx hb hd rfl (kk H locs ls r hr hP hS hl)
theorem ww_dup (hC : ww_C X l0 Y ad G h cc nL own) {x : Value} (hd : decode cc pc = .ok (.dup, 1)) (hx1 : x.category = 1) (kk : ww_V X Y ad G nL σ (pc + 1) lv (x :: x :: st) o) : ww_V X Y ad G nL σ pc lv (x :: st) o := by
  obtain ⟨p, l, e, R, s, m, args, below, meth, c, cells, slots, Qf, A⟩ := X
  obtain ⟨rfl, ⟨hRf, hRl, hRc, hRs⟩, hx, hb, hml, hown, hts, hEv, hI, hAk, hA⟩ := hC
  intro H locs ls r hr hP hS hl
  exact lv_dup hx hb hd hx1 (kk H locs ls r hr hP hS hl)
theorem ww_dup2 (hC : ww_C X l0 Y ad G h cc nL own) {x y : Value} (hd : decode cc pc = .ok (.dup2, 1)) (hx1 : x.category = 1) (hy1 : y.category = 1) (kk : ww_V X Y ad G nL σ (pc + 1) lv (x :: y :: x :: y :: st) o) : ww_V X Y ad G nL σ pc lv (x :: y :: st) o := by
  obtain ⟨p, l, e, R, s, m, args, below, meth, c, cells, slots, Qf, A⟩ := X
  obtain ⟨rfl, ⟨hRf, hRl, hRc, hRs⟩, hx, hb, hml, hown, hts, hEv, hI, hAk, hA⟩ := hC
  intro H locs ls r hr hP hS hl
  exact lv_dup2_11 hx hb hd hx1 hy1 (kk H locs ls r hr hP hS hl)
theorem ww_pop (hC : ww_C X l0 Y ad G h cc nL own) {x : Value} (hd : decode cc pc = .ok (.pop, 1)) (hx1 : x.category = 1) (kk : ww_V X Y ad G nL σ (pc + 1) lv st o) : ww_V X Y ad G nL σ pc lv (x :: st) o := by
  obtain ⟨p, l, e, R, s, m, args, below, meth, c, cells, slots, Qf, A⟩ := X
  obtain ⟨rfl, ⟨hRf, hRl, hRc, hRs⟩, hx, hb, hml, hown, hts, hEv, hI, hAk, hA⟩ := hC
  intro H locs ls r hr hP hS hl
  exact lv_pop hx hb hd hx1 (kk H locs ls r hr hP hS hl)
theorem ww_goto (hC : ww_C X l0 Y ad G h cc nL own) {off : Int} {tgt : Nat} (hd : decode cc pc = .ok (.goto off, 3)) (ht : (pc : Int) + off = (tgt : Int)) (kk : ww_V X Y ad G nL σ tgt lv st o) : ww_V X Y ad G nL σ pc lv st o := by
  obtain ⟨p, l, e, R, s, m, args, below, meth, c, cells, slots, Qf, A⟩ := X
  obtain ⟨rfl, ⟨hRf, hRl, hRc, hRs⟩, hx, hb, hml, hown, hts, hEv, hI, hAk, hA⟩ := hC
  intro H locs ls r hr hP hS hl
  exact lv_goto hx hb hd ht (kk H locs ls r hr hP hS hl)
theorem ww_if_eq (hC : ww_C X l0 Y ad G h cc nL own) {E1 E2 : Option α} {x : Int32} {off : Int} {tgt : Nat} (hd : decode cc pc = .ok (.ifCond .eq off, 3)) (ht : (pc : Int) + off = (tgt : Int)) (kt : ww_V X Y ad G nL σ tgt lv st (E1.bind K)) (kf : ww_V X Y ad G nL σ (pc + 3) lv st (E2.bind K)) : ww_V X Y ad G nL σ pc lv (.int x :: st) ((if x = 0 then E1 else E2).bind K) := by
  obtain ⟨p, l, e, R, s, m, args, below, meth, c, cells, slots, Qf, A⟩ := X
  obtain ⟨rfl, ⟨hRf, hRl, hRc, hRs⟩, hx, hb, hml, hown, hts, hEv, hI, hAk, hA⟩ := hC
  intro H locs ls r hr hP hS hl
  exact lv_if_eq hx hb hd ht (fun q => kt H locs ls r (by rw [if_pos q] at hr; exact hr) hP hS hl) (fun q => kf H locs ls r (by rw [if_neg q] at hr; exact hr) hP hS hl)
theorem ww_if_ne (hC : ww_C X l0 Y ad G h cc nL own) {E1 E2 : Option α} {x : Int32} {off : Int} {tgt : Nat} (hd : decode cc pc = .ok (.ifCond .ne off, 3)) (ht : (pc : Int) + off = (tgt : Int)) (kt : ww_V X Y ad G nL σ tgt lv st (E2.bind K)) (kf : ww_V X Y ad G nL σ (pc + 3) lv st (E1.bind K)) : ww_V X Y ad G nL σ pc lv (.int x :: st) ((if x = 0 then E1 else E2).bind K) := by
  obtain ⟨p, l, e, R, s, m, args, below, meth, c, cells, slots, Qf, A⟩ := X
  obtain ⟨rfl, ⟨hRf, hRl, hRc, hRs⟩, hx, hb, hml, hown, hts, hEv, hI, hAk, hA⟩ := hC
  intro H locs ls r hr hP hS hl
  exact lv_if_ne hx hb hd ht (fun q => kt H locs ls r (by rw [if_neg q] at hr; exact hr) hP hS hl) (fun q => kf H locs ls r (by rw [if_pos q] at hr; exact hr) hP hS hl)
theorem ww_if_lt (hC : ww_C X l0 Y ad G h cc nL own) {E1 E2 : Option α} {x : Int32} {off : Int} {tgt : Nat} (hd : decode cc pc = .ok (.ifCond .lt off, 3)) (ht : (pc : Int) + off = (tgt : Int)) (kt : ww_V X Y ad G nL σ tgt lv st (E1.bind K)) (kf : ww_V X Y ad G nL σ (pc + 3) lv st (E2.bind K)) : ww_V X Y ad G nL σ pc lv (.int x :: st) ((if x < 0 then E1 else E2).bind K) := by
  obtain ⟨p, l, e, R, s, m, args, below, meth, c, cells, slots, Qf, A⟩ := X
  obtain ⟨rfl, ⟨hRf, hRl, hRc, hRs⟩, hx, hb, hml, hown, hts, hEv, hI, hAk, hA⟩ := hC
  intro H locs ls r hr hP hS hl
  exact lv_if_lt hx hb hd ht (fun q => kt H locs ls r (by rw [if_pos q] at hr; exact hr) hP hS hl) (fun q => kf H locs ls r (by rw [if_neg q] at hr; exact hr) hP hS hl)
theorem ww_if_ge (hC : ww_C X l0 Y ad G h cc nL own) {E1 E2 : Option α} {x : Int32} {off : Int} {tgt : Nat} (hd : decode cc pc = .ok (.ifCond .ge off, 3)) (ht : (pc : Int) + off = (tgt : Int)) (kt : ww_V X Y ad G nL σ tgt lv st (E1.bind K)) (kf : ww_V X Y ad G nL σ (pc + 3) lv st (E2.bind K)) : ww_V X Y ad G nL σ pc lv (.int x :: st) ((if 0 ≤ x then E1 else E2).bind K) := by
  obtain ⟨p, l, e, R, s, m, args, below, meth, c, cells, slots, Qf, A⟩ := X
  obtain ⟨rfl, ⟨hRf, hRl, hRc, hRs⟩, hx, hb, hml, hown, hts, hEv, hI, hAk, hA⟩ := hC
  intro H locs ls r hr hP hS hl
  exact lv_if_ge hx hb hd ht (fun q => kt H locs ls r (by rw [if_pos q] at hr; exact hr) hP hS hl) (fun q => kf H locs ls r (by rw [if_neg q] at hr; exact hr) hP hS hl)
theorem ww_if_gt (hC : ww_C X l0 Y ad G h cc nL own) {E1 E2 : Option α} {x : Int32} {off : Int} {tgt : Nat} (hd : decode cc pc = .ok (.ifCond .gt off, 3)) (ht : (pc : Int) + off = (tgt : Int)) (kt : ww_V X Y ad G nL σ tgt lv st (E1.bind K)) (kf : ww_V X Y ad G nL σ (pc + 3) lv st (E2.bind K)) : ww_V X Y ad G nL σ pc lv (.int x :: st) ((if 0 < x then E1 else E2).bind K) := by
  obtain ⟨p, l, e, R, s, m, args, below, meth, c, cells, slots, Qf, A⟩ := X
  obtain ⟨rfl, ⟨hRf, hRl, hRc, hRs⟩, hx, hb, hml, hown, hts, hEv, hI, hAk, hA⟩ := hC
  intro H locs ls r hr hP hS hl
  exact lv_if_gt hx hb hd ht (fun q => kt H locs ls r (by rw [if_pos q] at hr; exact hr) hP hS hl) (fun q => kf H locs ls r (by rw [if_neg q] at hr; exact hr) hP hS hl)
theorem ww_if_le (hC : ww_C X l0 Y ad G h cc nL own) {E1 E2 : Option α} {x : Int32} {off : Int} {tgt : Nat} (hd : decode cc pc = .ok (.ifCond .le off, 3)) (ht : (pc : Int) + off = (tgt : Int)) (kt : ww_V X Y ad G nL σ tgt lv st (E1.bind K)) (kf : ww_V X Y ad G nL σ (pc + 3) lv st (E2.bind K)) : ww_V X Y ad G nL σ pc lv (.int x :: st) ((if x ≤ 0 then E1 else E2).bind K) := by
  obtain ⟨p, l, e, R, s, m, args, below, meth, c, cells, slots, Qf, A⟩ := X
  obtain ⟨rfl, ⟨hRf, hRl, hRc, hRs⟩, hx, hb, hml, hown, hts, hEv, hI, hAk, hA⟩ := hC
  intro H locs ls r hr hP hS hl
  exact lv_if_le hx hb hd ht (fun q => kt H locs ls r (by rw [if_pos q] at hr; exact hr) hP hS hl) (fun q => kf H locs ls r (by rw [if_neg q] at hr; exact hr) hP hS hl)
theorem ww_icmp_eq (hC : ww_C X l0 Y ad G h cc nL own) {E1 E2 : Option α} {x y : Int32} {off : Int} {tgt : Nat} (hd : decode cc pc = .ok (.if_icmp .eq off, 3)) (ht : (pc : Int) + off = (tgt : Int)) (kt : ww_V X Y ad G nL σ tgt lv st (E1.bind K)) (kf : ww_V X Y ad G nL σ (pc + 3) lv st (E2.bind K)) : ww_V X Y ad G nL σ pc lv (.int y :: .int x :: st) ((if x = y then E1 else E2).bind K) := by
  obtain ⟨p, l, e, R, s, m, args, below, meth, c, cells, slots, Qf, A⟩ := X
  obtain ⟨rfl, ⟨hRf, hRl, hRc, hRs⟩, hx, hb, hml, hown, hts, hEv, hI, hAk, hA⟩ := hC
  intro H locs ls r hr hP hS hl
  exact lv_icmp_eq hx hb hd ht (fun q => kt H locs ls r (by rw [if_pos q] at hr; exact hr) hP hS hl) (fun q => kf H locs ls r (by rw [if_neg q] at hr; exact hr) hP hS hl)
theorem ww_icmp_ne (hC : ww_C X l0 Y ad G h cc nL own) {E1 E2 : Option α} {x y : Int32} {off : Int} {tgt : Nat} (hd : decode cc pc = .ok (.if_icmp .ne off, 3)) (ht : (pc : Int) + off = (tgt : Int)) (kt : ww_V X Y ad G nL σ tgt lv st (E2.bind K)) (kf : ww_V X Y ad G nL σ (pc + 3) lv st (E1.bind K)) : ww_V X Y ad G nL σ pc lv (.int y :: .int x :: st) ((if x = y then E1 else E2).bind K) := by
  obtain ⟨p, l, e, R, s, m, args, below, meth, c, cells, slots, Qf, A⟩ := X
  obtain ⟨rfl, ⟨hRf, hRl, hRc, hRs⟩, hx, hb, hml, hown, hts, hEv, hI, hAk, hA⟩ := hC
  intro H locs ls r hr hP hS hl
  exact lv_icmp_ne hx hb hd ht (fun q => kt H locs ls r (by rw [if_neg q] at hr; exact hr) hP hS hl) (fun q => kf H locs ls r (by rw [if_pos q] at hr; exact hr) hP hS hl)
theorem ww_icmp_lt (hC : ww_C X l0 Y ad G h cc nL own) {E1 E2 : Option α} {x y : Int32} {off : Int} {tgt : Nat} (hd : decode cc pc = .ok (.if_icmp .lt off, 3)) (ht : (pc : Int) + off = (tgt : Int)) (kt : ww_V X Y ad G nL σ tgt lv st (E1.bind K)) (kf : ww_V X Y ad G nL σ (pc + 3) lv st (E2.bind K)) : ww_V X Y ad G nL σ pc lv (.int y :: .int x :: st) ((if x < y then E1 else E2).bind K) := by
  obtain ⟨p, l, e, R, s, m, args, below, meth, c, cells, slots, Qf, A⟩ := X
  obtain ⟨rfl, ⟨hRf, hRl, hRc, hRs⟩, hx, hb, hml, hown, hts, hEv, hI, hAk, hA⟩ := hC
  intro H locs ls r hr hP hS hl
  exact lv_icmp_lt hx hb hd ht (fun q => kt H locs ls r (by rw [if_pos q] at hr; exact hr) hP hS hl) (fun q => kf H locs ls r (by rw [if_neg q] at hr; exact hr) hP hS hl)
theorem ww_icmp_ge (hC : ww_C X l0 Y ad G h cc nL own) {E1 E2 : Option α} {x y : Int32} {off : Int} {tgt : Nat} (hd : decode cc pc = .ok (.if_icmp .ge off, 3)) (ht : (pc : Int) + off = (tgt : Int)) (kt : ww_V X Y ad G nL σ tgt lv st (E1.bind K)) (kf : ww_V X Y ad G nL σ (pc + 3) lv st (E2.bind K)) : ww_V X Y ad G nL σ pc lv (.int y :: .int x :: st) ((if y ≤ x then E1 else E2).bind K) := by
  obtain ⟨p, l, e, R, s, m, args, below, meth, c, cells, slots, Qf, A⟩ := X
  obtain ⟨rfl, ⟨hRf, hRl, hRc, hRs⟩, hx, hb, hml, hown, hts, hEv, hI, hAk, hA⟩ := hC
  intro H locs ls r hr hP hS hl
  exact lv_icmp_ge hx hb hd ht (fun q => kt H locs ls r (by rw [if_pos q] at hr; exact hr) hP hS hl) (fun q => kf H locs ls r (by rw [if_neg q] at hr; exact hr) hP hS hl)
theorem ww_icmp_gt (hC : ww_C X l0 Y ad G h cc nL own) {E1 E2 : Option α} {x y : Int32} {off : Int} {tgt : Nat} (hd : decode cc pc = .ok (.if_icmp .gt off, 3)) (ht : (pc : Int) + off = (tgt : Int)) (kt : ww_V X Y ad G nL σ tgt lv st (E1.bind K)) (kf : ww_V X Y ad G nL σ (pc + 3) lv st (E2.bind K)) : ww_V X Y ad G nL σ pc lv (.int y :: .int x :: st) ((if y < x then E1 else E2).bind K) := by
  obtain ⟨p, l, e, R, s, m, args, below, meth, c, cells, slots, Qf, A⟩ := X
  obtain ⟨rfl, ⟨hRf, hRl, hRc, hRs⟩, hx, hb, hml, hown, hts, hEv, hI, hAk, hA⟩ := hC
  intro H locs ls r hr hP hS hl
  exact lv_icmp_gt hx hb hd ht (fun q => kt H locs ls r (by rw [if_pos q] at hr; exact hr) hP hS hl) (fun q => kf H locs ls r (by rw [if_neg q] at hr; exact hr) hP hS hl)
theorem ww_icmp_le (hC : ww_C X l0 Y ad G h cc nL own) {E1 E2 : Option α} {x y : Int32} {off : Int} {tgt : Nat} (hd : decode cc pc = .ok (.if_icmp .le off, 3)) (ht : (pc : Int) + off = (tgt : Int)) (kt : ww_V X Y ad G nL σ tgt lv st (E1.bind K)) (kf : ww_V X Y ad G nL σ (pc + 3) lv st (E2.bind K)) : ww_V X Y ad G nL σ pc lv (.int y :: .int x :: st) ((if x ≤ y then E1 else E2).bind K) := by
  obtain ⟨p, l, e, R, s, m, args, below, meth, c, cells, slots, Qf, A⟩ := X
  obtain ⟨rfl, ⟨hRf, hRl, hRc, hRs⟩, hx, hb, hml, hown, hts, hEv, hI, hAk, hA⟩ := hC
  intro H locs ls r hr hP hS hl
  exact lv_icmp_le hx hb hd ht (fun q => kt H locs ls r (by rw [if_pos q] at hr; exact hr) hP hS hl) (fun q => kf H locs ls r (by rw [if_neg q] at hr; exact hr) hP hS hl)
theorem ww_tab (hC : ww_C X l0 Y ad G h cc nL own) {E1 E2 : Option α} {x : Int32} (v : Int32) {dflt lo hi : Int} {offs : Array Int} {len : Nat} {off : Int} {tgt : Nat} (hd : decode cc pc = .ok (.tableswitch dflt lo hi offs, len)) (h1 : ¬ v.toInt < lo) (h2 : ¬ hi < v.toInt) (ho : offs[(v.toInt - lo).toNat]? = some off) (ht : (pc : Int) + off = (tgt : Int)) (k1 : ww_V X Y ad G nL σ tgt lv st (E1.bind K)) (k2 : ¬ x = v → ww_V X Y ad G nL σ pc lv (.int x :: st) (E2.bind K)) : ww_V X Y ad G nL σ pc lv (.int x :: st) ((if x = v then E1 else E2).bind K) := by
  by_cases q : x = v
  · rw [if_pos q]
    subst q
    obtain ⟨p, l, e, R, s, m, args, below, meth, c, cells, slots, Qf, A⟩ := X
    obtain ⟨rfl, ⟨hRf, hRl, hRc, hRs⟩, hx, hb, hml, hown, hts, hEv, hI, hAk, hA⟩ := hC
    intro H locs ls r hr hP hS hl
    exact lv_tableIn hx hb hd h1 h2 ho ht (k1 H locs ls r hr hP hS hl)
  · rw [if_neg q]
    exact k2 q
theorem ww_tabD (hC : ww_C X l0 Y ad G h cc nL own) {x : Int32} {dflt lo hi : Int} {offs : Array Int} {len : Nat} {tgt : Nat} (hd : decode cc pc = .ok (.tableswitch dflt lo hi offs, len)) (hq : x.toInt < lo ∨ hi < x.toInt) (ht : (pc : Int) + dflt = (tgt : Int)) (kk : ww_V X Y ad G nL σ tgt lv st o) : ww_V X Y ad G nL σ pc lv (.int x :: st) o := by
  obtain ⟨p, l, e, R, s, m, args, below, meth, c, cells, slots, Qf, A⟩ := X
  obtain ⟨rfl, ⟨hRf, hRl, hRc, hRs⟩, hx, hb, hml, hown, hts, hEv, hI, hAk, hA⟩ := hC
  intro H locs ls r hr hP hS hl
  exact lv_tableOut hx hb hd hq ht (kk H locs ls r hr hP hS hl)
theorem ww_look (hC : ww_C X l0 Y ad G h cc nL own) {E1 E2 : Option α} {x : Int32} (v : Int32) {dflt : Int} {ps : Array (Int × Int)} {len : Nat} {off : Int} {tgt : Nat} (hd : decode cc pc = .ok (.lookupswitch dflt ps, len)) (hp : (ps.toList.zip (ps.toList.drop 1)).all (fun (a, next) => a.1 < next.1) = true) (ho : Op.lookupswitch.offset ps.toList dflt v.toInt = off) (ht : (pc : Int) + off = (tgt : Int)) (k1 : ww_V X Y ad G nL σ tgt lv st (E1.bind K)) (k2 : ¬ x = v → ww_V X Y ad G nL σ pc lv (.int x :: st) (E2.bind K)) : ww_V X Y ad G nL σ pc lv (.int x :: st) ((if x = v then E1 else E2).bind K) := by
  by_cases q : x = v
  · rw [if_pos q]
    subst q
    obtain ⟨p, l, e, R, s, m, args, below, meth, c, cells, slots, Qf, A⟩ := X
    obtain ⟨rfl, ⟨hRf, hRl, hRc, hRs⟩, hx, hb, hml, hown, hts, hEv, hI, hAk, hA⟩ := hC
    intro H locs ls r hr hP hS hl
    exact lv_lookup hx hb hd hp ho ht (k1 H locs ls r hr hP hS hl)
  · rw [if_neg q]
    exact k2 q
theorem ww_lookD (hC : ww_C X l0 Y ad G h cc nL own) {x : Int32} {dflt : Int} {ps : Array (Int × Int)} {len : Nat} {tgt : Nat} (hd : decode cc pc = .ok (.lookupswitch dflt ps, len)) (hp : (ps.toList.zip (ps.toList.drop 1)).all (fun (a, next) => a.1 < next.1) = true) (ho : Op.lookupswitch.offset ps.toList dflt x.toInt = dflt) (ht : (pc : Int) + dflt = (tgt : Int)) (kk : ww_V X Y ad G nL σ tgt lv st o) : ww_V X Y ad G nL σ pc lv (.int x :: st) o := by
  obtain ⟨p, l, e, R, s, m, args, below, meth, c, cells, slots, Qf, A⟩ := X
  obtain ⟨rfl, ⟨hRf, hRl, hRc, hRs⟩, hx, hb, hml, hown, hts, hEv, hI, hAk, hA⟩ := hC
  intro H locs ls r hr hP hS hl
  exact lv_lookup hx hb hd hp ho ht (kk H locs ls r hr hP hS hl)
theorem ww_nei {x v : Int32} (q : ¬ x = v) : x.toInt ≠ v.toInt := fun e => q (Int32.toInt_inj.mp e)
theorem ww_mmax (hC : ww_C X l0 Y ad G h cc nL own) {x y : Int32} {n : Nat} (hd : decode cc pc = .ok (.invokestatic n, 3)) (hlk : Cond.methodLink own n Lib.Math.max.name ∈ ww_T) (hst : Cond.static Lib.Math.max.name ∈ ww_T) (hin : Cond.initialized "java/lang/Math" ∈ ww_T) (hco : Cond.code Lib.Math.max.name Lib.Math.max.code 2 (some .int) ∈ ww_T) (hh : 1 ≤ h) (hs8 : (st.map fun v => v.category).sum ≤ 8) (kk : ww_V X Y ad G nL σ (pc + 3) lv (.int (ww_max x y) :: st) o) : ww_V X Y ad G nL σ pc lv (.int y :: .int x :: st) o := by
  obtain ⟨p, l, e, R, s, m, args, below, meth, c, cells, slots, Qf, A⟩ := X
  obtain ⟨rfl, ⟨hRf, hRl, hRc, hRs⟩, hx, hb, hml, hown, hts, hEv, hI, hAk, hA⟩ := hC
  intro H locs ls r hr hP hS hl
  exact va_mmax hx hb (by rw [hml]; exact hl.1.symm) hown (hts _ hlk) (hts _ hst) (hts _ hin) (hts _ hco) (by omega) (by omega) hRc hRs hd (kk H locs ls r hr hP hS hl)
theorem ww_mmin (hC : ww_C X l0 Y ad G h cc nL own) {x y : Int32} {n : Nat} (hd : decode cc pc = .ok (.invokestatic n, 3)) (hlk : Cond.methodLink own n Lib.Math.min.name ∈ ww_T) (hst : Cond.static Lib.Math.min.name ∈ ww_T) (hin : Cond.initialized "java/lang/Math" ∈ ww_T) (hco : Cond.code Lib.Math.min.name Lib.Math.min.code 2 (some .int) ∈ ww_T) (hh : 1 ≤ h) (hs8 : (st.map fun v => v.category).sum ≤ 8) (kk : ww_V X Y ad G nL σ (pc + 3) lv (.int (ww_min x y) :: st) o) : ww_V X Y ad G nL σ pc lv (.int y :: .int x :: st) o := by
  obtain ⟨p, l, e, R, s, m, args, below, meth, c, cells, slots, Qf, A⟩ := X
  obtain ⟨rfl, ⟨hRf, hRl, hRc, hRs⟩, hx, hb, hml, hown, hts, hEv, hI, hAk, hA⟩ := hC
  intro H locs ls r hr hP hS hl
  exact va_mmin hx hb (by rw [hml]; exact hl.1.symm) hown (hts _ hlk) (hts _ hst) (hts _ hin) (hts _ hco) (by omega) (by omega) hRc hRs hd (kk H locs ls r hr hP hS hl)
theorem ww_getr (hC : ww_C X l0 Y ad G h cc nL own) {k ci n N j : Nat} {fs : List (Option Nat)} {Cl ref : String} {T : u_T} (hG : G[k]? = some (.inl (ci, fs))) (hc : vwCl[ci]? = some (Cl, T, N)) (hin : ∀ w ∈ u_ws Cl T N, w ∈ ww_T) (hj : j < N) (hlk : Cond.fieldLink own n ref (T j).2.1 (T j).2.2.1 ∈ ww_T) (hrf : (T j).1 = ref) {q : Nat} (hf : fs[j]? = some (some q)) (hd : decode cc pc = .ok (.getfield n, 3)) (kk : ww_V X Y ad G nL σ (pc + 3) lv (.ref (ad q) :: st) o) : ww_V X Y ad G nL σ pc lv (.ref (ad k) :: st) o := by
  obtain ⟨p, l, e, R, s, m, args, below, meth, c, cells, slots, Qf, A⟩ := X
  obtain ⟨rfl, ⟨hRf, hRl, hRc, hRs⟩, hx, hb, hml, hown, hts, hEv, hI, hAk, hA⟩ := hC
  intro H locs ls r hr hP hS hl
  exact va_get hx hb hts hin hown hEv.1 hP k (ww_W_get hG) hc j hj (hts _ hlk) (fun _ h9 => by rw [← hrf]; exact h9) (by simp [ww_fs, List.getElem?_mapIdx, hf, ww_fld]) hd (kk H locs ls r hr hP hS hl)
theorem ww_geti (hC : ww_C X l0 Y ad G h cc nL own) {k ci n N j : Nat} {fs : List (Option Nat)} {Cl ref : String} {T : u_T} (hG : G[k]? = some (.inl (ci, fs))) (hc : vwCl[ci]? = some (Cl, T, N)) (hin : ∀ w ∈ u_ws Cl T N, w ∈ ww_T) (hj : j < N) (hlk : Cond.fieldLink own n ref (T j).2.1 (T j).2.2.1 ∈ ww_T) (hrf : (T j).1 = ref) (hf : fs[j]? = some none) (hd : decode cc pc = .ok (.getfield n, 3)) (kk : ww_V X Y ad G nL σ (pc + 3) lv (.int (σ k j) :: st) o) : ww_V X Y ad G nL σ pc lv (.ref (ad k) :: st) o := by
  obtain ⟨p, l, e, R, s, m, args, below, meth, c, cells, slots, Qf, A⟩ := X
  obtain ⟨rfl, ⟨hRf, hRl, hRc, hRs⟩, hx, hb, hml, hown, hts, hEv, hI, hAk, hA⟩ := hC
  intro H locs ls r hr hP hS hl
  exact va_get hx hb hts hin hown hEv.1 hP k (ww_W_get hG) hc j hj (hts _ hlk) (fun _ h9 => by rw [← hrf]; exact h9) (by simp [ww_fs, List.getElem?_mapIdx, hf, ww_fld]) hd (kk H locs ls r hr hP hS hl)
theorem ww_puti (hC : ww_C X l0 Y ad G h cc nL own) {k ci n N j : Nat} {fs : List (Option Nat)} {Cl ref : String} {T : u_T} (hG : G[k]? = some (.inl (ci, fs))) (hc : vwCl[ci]? = some (Cl, T, N)) (hin : ∀ w ∈ u_ws Cl T N, w ∈ ww_T) (hj : j < N) (hlk : Cond.fieldLink own n ref (T j).2.1 (T j).2.2.1 ∈ ww_T) (hrf : (T j).1 = ref) (ty0 : Nat → FieldType) (hty : ∀ k, k < N → parseFieldDescriptor (T k).2.2.1 = some (ty0 k)) (hnm : ∀ a, a < N → ∀ b, b < N → a ≠ b → (T a).2.1 ≠ (T b).2.1) (hf : fs[j]? = some none) {x : Int32} (hfin : (T j).2.2.2 = false) (hdI : parseFieldDescriptor (T j).2.2.1 = some .int) (hd : decode cc pc = .ok (.putfield n, 3)) (kk : ww_V X Y ad G nL (ww_up σ k j x) (pc + 3) lv st o) : ww_V X Y ad G nL σ pc lv (.int x :: .ref (ad k) :: st) o := by
  obtain ⟨p, l, e, R, s, m, args, below, meth, c, cells, slots, Qf, A⟩ := X
  obtain ⟨rfl, ⟨hRf, hRl, hRc, hRs⟩, hx, hb, hml, hown, hts, hEv, hI, hAk, hA⟩ := hC
  intro H locs ls r hr hP hS hl
  refine va_put hx hb hts hin ty0 hty hnm hown hEv.1 hP (ww_D hI hAk) hS k (ww_W_get hG) hc j hj (hts _ hlk) (fun _ h9 => by rw [← hrf]; exact h9) hfin hdI rfl rfl (by simp [ww_fs]; exact (List.getElem?_eq_some_iff.mp hf).1) hd (fun H1 locs1 hP1 _ hS1 => ?_)
  rw [ww_W_put hG hf] at hP1
  exact kk H1 locs1 ls r hr hP1 hS1 hl
theorem ww_getrN (hC : ww_C X l0 Y ad G h cc nL own) {k ci n N j : Nat} {fs : List (Option Nat)} {Cl ref : String} {T : u_T} (hG : G[k]? = some (.inl (ci, fs))) (hc : vwCl[ci]? = some (Cl, T, N)) (hin : ∀ w ∈ u_ws Cl T N, w ∈ ww_T) (hj : j < N) {host : String} (hlk : Cond.fieldLinkNest own n ref (T j).2.1 (T j).2.2.1 host ∈ ww_N) (hrf : (T j).1 = ref) {q : Nat} (hf : fs[j]? = some (some q)) (hd : decode cc pc = .ok (.getfield n, 3)) (kk : ww_V X Y ad G nL σ (pc + 3) lv (.ref (ad q) :: st) o) : ww_V X Y ad G nL σ pc lv (.ref (ad k) :: st) o := by
  obtain ⟨p, l, e, R, s, m, args, below, meth, c, cells, slots, Qf, A⟩ := X
  obtain ⟨rfl, ⟨hRf, hRl, hRc, hRs⟩, hx, hb, hml, hown, hts, hEv, hI, hAk, hA⟩ := hC
  intro H locs ls r hr hP hS hl
  exact va_getN hx hb hts hin hown hEv.1 hP k (ww_W_get hG) hc j hj (va_Nw.use rfl (hEv.2.1 _ hlk)) (fun _ h9 => by rw [← hrf]; exact h9) (by simp [ww_fs, List.getElem?_mapIdx, hf, ww_fld]) hd (kk H locs ls r hr hP hS hl)
theorem ww_getiN (hC : ww_C X l0 Y ad G h cc nL own) {k ci n N j : Nat} {fs : List (Option Nat)} {Cl ref : String} {T : u_T} (hG : G[k]? = some (.inl (ci, fs))) (hc : vwCl[ci]? = some (Cl, T, N)) (hin : ∀ w ∈ u_ws Cl T N, w ∈ ww_T) (hj : j < N) {host : String} (hlk : Cond.fieldLinkNest own n ref (T j).2.1 (T j).2.2.1 host ∈ ww_N) (hrf : (T j).1 = ref) (hf : fs[j]? = some none) (hd : decode cc pc = .ok (.getfield n, 3)) (kk : ww_V X Y ad G nL σ (pc + 3) lv (.int (σ k j) :: st) o) : ww_V X Y ad G nL σ pc lv (.ref (ad k) :: st) o := by
  obtain ⟨p, l, e, R, s, m, args, below, meth, c, cells, slots, Qf, A⟩ := X
  obtain ⟨rfl, ⟨hRf, hRl, hRc, hRs⟩, hx, hb, hml, hown, hts, hEv, hI, hAk, hA⟩ := hC
  intro H locs ls r hr hP hS hl
  exact va_getN hx hb hts hin hown hEv.1 hP k (ww_W_get hG) hc j hj (va_Nw.use rfl (hEv.2.1 _ hlk)) (fun _ h9 => by rw [← hrf]; exact h9) (by simp [ww_fs, List.getElem?_mapIdx, hf, ww_fld]) hd (kk H locs ls r hr hP hS hl)
theorem ww_putiN (hC : ww_C X l0 Y ad G h cc nL own) {k ci n N j : Nat} {fs : List (Option Nat)} {Cl ref : String} {T : u_T} (hG : G[k]? = some (.inl (ci, fs))) (hc : vwCl[ci]? = some (Cl, T, N)) (hin : ∀ w ∈ u_ws Cl T N, w ∈ ww_T) (hj : j < N) {host : String} (hlk : Cond.fieldLinkNest own n ref (T j).2.1 (T j).2.2.1 host ∈ ww_N) (hrf : (T j).1 = ref) (ty0 : Nat → FieldType) (hty : ∀ k, k < N → parseFieldDescriptor (T k).2.2.1 = some (ty0 k)) (hnm : ∀ a, a < N → ∀ b, b < N → a ≠ b → (T a).2.1 ≠ (T b).2.1) (hf : fs[j]? = some none) {x : Int32} (hfin : (T j).2.2.2 = false) (hdI : parseFieldDescriptor (T j).2.2.1 = some .int) (hd : decode cc pc = .ok (.putfield n, 3)) (kk : ww_V X Y ad G nL (ww_up σ k j x) (pc + 3) lv st o) : ww_V X Y ad G nL σ pc lv (.int x :: .ref (ad k) :: st) o := by
  obtain ⟨p, l, e, R, s, m, args, below, meth, c, cells, slots, Qf, A⟩ := X
  obtain ⟨rfl, ⟨hRf, hRl, hRc, hRs⟩, hx, hb, hml, hown, hts, hEv, hI, hAk, hA⟩ := hC
  intro H locs ls r hr hP hS hl
  refine va_putN hx hb hts hin ty0 hty hnm hown hEv.1 hP (ww_D hI hAk) hS k (ww_W_get hG) hc j hj (va_Nw.use rfl (hEv.2.1 _ hlk)) (fun _ h9 => by rw [← hrf]; exact h9) hfin hdI rfl rfl (by simp [ww_fs]; exact (List.getElem?_eq_some_iff.mp hf).1) hd (fun H1 locs1 hP1 _ hS1 => ?_)
  rw [ww_W_put hG hf] at hP1
  exact kk H1 locs1 ls r hr hP1 hS1 hl
theorem ww_iald (hC : ww_C X l0 Y ad G h cc nL own) {E : Option α} {k n : Nat} {i : Int32} (hG : G[k]? = some (.inr (.inl (0, n)))) (hd : decode cc pc = .ok (.iaload, 1)) (kk : ww_V X Y ad G nL σ (pc + 1) lv (.int (σ k (ww_ix i)) :: st) (E.bind K)) : ww_V X Y ad G nL σ pc lv (.int i :: .ref (ad k) :: st) ((ww_ck (ww_in i n) E).bind K) := by
  obtain ⟨p, l, e, R, s, m, args, below, meth, c, cells, slots, Qf, A⟩ := X
  obtain ⟨rfl, ⟨hRf, hRl, hRc, hRs⟩, hx, hb, hml, hown, hts, hEv, hI, hAk, hA⟩ := hC
  intro H locs ls r hr hP hS hl
  obtain ⟨hg, hr⟩ := ww_ck_some hr
  exact va_iald hx hb hEv.1 hP k 0 (ww_W_get hG) rfl (ww_in_p hg) hd (kk H locs ls r hr hP hS hl)
theorem ww_bald (hC : ww_C X l0 Y ad G h cc nL own) {E : Option α} {k n : Nat} {i : Int32} (hG : G[k]? = some (.inr (.inl (1, n)))) (hd : decode cc pc = .ok (.baload, 1)) (kk : ww_V X Y ad G nL σ (pc + 1) lv (.int (σ k (ww_ix i)) :: st) (E.bind K)) : ww_V X Y ad G nL σ pc lv (.int i :: .ref (ad k) :: st) ((ww_ck (ww_in i n) E).bind K) := by
  obtain ⟨p, l, e, R, s, m, args, below, meth, c, cells, slots, Qf, A⟩ := X
  obtain ⟨rfl, ⟨hRf, hRl, hRc, hRs⟩, hx, hb, hml, hown, hts, hEv, hI, hAk, hA⟩ := hC
  intro H locs ls r hr hP hS hl
  obtain ⟨hg, hr⟩ := ww_ck_some hr
  exact va_bald hx hb hEv.1 hP k 1 (ww_W_get hG) rfl (ww_in_p hg) hd (kk H locs ls r hr hP hS hl)
theorem ww_zald (hC : ww_C X l0 Y ad G h cc nL own) {E : Option α} {k n : Nat} {i : Int32} (hG : G[k]? = some (.inr (.inl (2, n)))) (hd : decode cc pc = .ok (.baload, 1)) (kk : ww_V X Y ad G nL σ (pc + 1) lv (.int (σ k (ww_ix i)) :: st) (E.bind K)) : ww_V X Y ad G nL σ pc lv (.int i :: .ref (ad k) :: st) ((ww_ck (ww_in i n) E).bind K) := by
  obtain ⟨p, l, e, R, s, m, args, below, meth, c, cells, slots, Qf, A⟩ := X
  obtain ⟨rfl, ⟨hRf, hRl, hRc, hRs⟩, hx, hb, hml, hown, hts, hEv, hI, hAk, hA⟩ := hC
  intro H locs ls r hr hP hS hl
  obtain ⟨hg, hr⟩ := ww_ck_some hr
  exact va_zald hx hb hEv.1 hP k 2 (ww_W_get hG) rfl (ww_in_p hg) hd (kk H locs ls r hr hP hS hl)
theorem ww_iast (hC : ww_C X l0 Y ad G h cc nL own) {E : Option α} {k n : Nat} {i x : Int32} (hG : G[k]? = some (.inr (.inl (0, n)))) (hd : decode cc pc = .ok (.iastore, 1)) (kk : ww_V X Y ad G nL (ww_up σ k (ww_ix i) x) (pc + 1) lv st (E.bind K)) : ww_V X Y ad G nL σ pc lv (.int x :: .int i :: .ref (ad k) :: st) ((ww_ck (ww_in i n) E).bind K) := by
  obtain ⟨p, l, e, R, s, m, args, below, meth, c, cells, slots, Qf, A⟩ := X
  obtain ⟨rfl, ⟨hRf, hRl, hRc, hRs⟩, hx, hb, hml, hown, hts, hEv, hI, hAk, hA⟩ := hC
  intro H locs ls r hr hP hS hl
  obtain ⟨hg, hr⟩ := ww_ck_some hr
  refine va_iast hx hb hEv.1 hP (ww_D hI hAk) hS k 0 (ww_W_get hG) rfl (ww_in_p hg) hd (fun H1 locs1 hP1 _ hS1 => ?_)
  rw [ww_W_row hG, ww_up_row] at hP1
  exact kk H1 locs1 ls r hr hP1 hS1 hl
theorem ww_bast (hC : ww_C X l0 Y ad G h cc nL own) {E : Option α} {k n : Nat} {i x : Int32} (hG : G[k]? = some (.inr (.inl (1, n)))) (hd : decode cc pc = .ok (.bastore, 1)) (kk : ww_V X Y ad G nL (ww_up σ k (ww_ix i) (vp_nar .byte x)) (pc + 1) lv st (E.bind K)) : ww_V X Y ad G nL σ pc lv (.int x :: .int i :: .ref (ad k) :: st) ((ww_ck (ww_in i n) E).bind K) := by
  obtain ⟨p, l, e, R, s, m, args, below, meth, c, cells, slots, Qf, A⟩ := X
  obtain ⟨rfl, ⟨hRf, hRl, hRc, hRs⟩, hx, hb, hml, hown, hts, hEv, hI, hAk, hA⟩ := hC
  intro H locs ls r hr hP hS hl
  obtain ⟨hg, hr⟩ := ww_ck_some hr
  refine va_bast hx hb hEv.1 hP (ww_D hI hAk) hS k 1 (ww_W_get hG) rfl (ww_in_p hg) hd (fun H1 locs1 hP1 _ hS1 => ?_)
  rw [ww_W_row hG, ww_up_row] at hP1
  exact kk H1 locs1 ls r hr hP1 hS1 hl
theorem ww_zast (hC : ww_C X l0 Y ad G h cc nL own) {E : Option α} {k n : Nat} {i x : Int32} (hG : G[k]? = some (.inr (.inl (2, n)))) (hd : decode cc pc = .ok (.bastore, 1)) (kk : ww_V X Y ad G nL (ww_up σ k (ww_ix i) (vp_nar .boolean x)) (pc + 1) lv st (E.bind K)) : ww_V X Y ad G nL σ pc lv (.int x :: .int i :: .ref (ad k) :: st) ((ww_ck (ww_in i n) E).bind K) := by
  obtain ⟨p, l, e, R, s, m, args, below, meth, c, cells, slots, Qf, A⟩ := X
  obtain ⟨rfl, ⟨hRf, hRl, hRc, hRs⟩, hx, hb, hml, hown, hts, hEv, hI, hAk, hA⟩ := hC
  intro H locs ls r hr hP hS hl
  obtain ⟨hg, hr⟩ := ww_ck_some hr
  refine va_zast hx hb hEv.1 hP (ww_D hI hAk) hS k 2 (ww_W_get hG) rfl (ww_in_p hg) hd (fun H1 locs1 hP1 _ hS1 => ?_)
  rw [ww_W_row hG, ww_up_row] at hP1
  exact kk H1 locs1 ls r hr hP1 hS1 hl
theorem ww_alen (hC : ww_C X l0 Y ad G h cc nL own) {k n t : Nat} {ty : FieldType} {v : Int32} (hG : G[k]? = some (.inr (.inl (t, n)))) (ht : ∀ cA : Nat → ClassId, (ww_tys cA)[t]? = some (cA t, ty)) (hv : Int32.ofNat n = v) (hd : decode cc pc = .ok (.arraylength, 1)) (kk : ww_V X Y ad G nL σ (pc + 1) lv (.int v :: st) o) : ww_V X Y ad G nL σ pc lv (.ref (ad k) :: st) o := by
  obtain ⟨p, l, e, R, s, m, args, below, meth, c, cells, slots, Qf, A⟩ := X
  obtain ⟨rfl, ⟨hRf, hRl, hRc, hRs⟩, hx, hb, hml, hown, hts, hEv, hI, hAk, hA⟩ := hC
  intro H locs ls r hr hP hS hl
  exact va_alen hx hb hEv.1 hP k t (ww_W_get hG) (ht _) hv hd (kk H locs ls r hr hP hS hl)
theorem ww_alenR (hC : ww_C X l0 Y ad G h cc nL own) {k n t b s2 : Nat} {ty : FieldType} {v : Int32} (hG : G[k]? = some (.inr (.inr (t, n, b, s2)))) (ht : ∀ cA : Nat → ClassId, (ww_tys cA)[t]? = some (cA t, ty)) (hv : Int32.ofNat n = v) (hd : decode cc pc = .ok (.arraylength, 1)) (kk : ww_V X Y ad G nL σ (pc + 1) lv (.int v :: st) o) : ww_V X Y ad G nL σ pc lv (.ref (ad k) :: st) o := by
  obtain ⟨p, l, e, R, s, m, args, below, meth, c, cells, slots, Qf, A⟩ := X
  obtain ⟨rfl, ⟨hRf, hRl, hRc, hRs⟩, hx, hb, hml, hown, hts, hEv, hI, hAk, hA⟩ := hC
  intro H locs ls r hr hP hS hl
  exact va_alen hx hb hEv.1 hP k t (ww_W_get hG) (ht _) hv hd (kk H locs ls r hr hP hS hl)
theorem ww_aald (hC : ww_C X l0 Y ad G h cc nL own) {E : Option α} {k n t b s2 : Nat} {i : Int32} {Cl : String} (hG : G[k]? = some (.inr (.inr (t, n, b, s2)))) (ht : ∀ cA : Nat → ClassId, (ww_tys cA)[t]? = some (cA t, .object Cl)) (hd : decode cc pc = .ok (.aaload, 1)) (kk : ww_in i n = true → ww_V X Y ad G nL σ (pc + 1) lv (.ref (ad (b + s2 * ww_ix i)) :: st) (E.bind K)) : ww_V X Y ad G nL σ pc lv (.int i :: .ref (ad k) :: st) ((ww_ck (ww_in i n) E).bind K) := by
  obtain ⟨p, l, e, R, s, m, args, below, meth, c, cells, slots, Qf, A⟩ := X
  obtain ⟨rfl, ⟨hRf, hRl, hRc, hRs⟩, hx, hb, hml, hown, hts, hEv, hI, hAk, hA⟩ := hC
  intro H locs ls r hr hP hS hl
  obtain ⟨hg, hr⟩ := ww_ck_some hr
  exact va_aldq hx hb hEv.1 hP k t (ww_W_get hG) (ht _) (ww_in_p hg) hd (kk hg H locs ls r hr hP hS hl)
theorem ww_iald_c (hC : ww_C X l0 Y ad G h cc nL own) {k n j : Nat} {i : Int32} (hG : G[k]? = some (.inr (.inl (0, n)))) (hi : ww_in i n = true) (hj : ww_ix i = j) (hd : decode cc pc = .ok (.iaload, 1)) (kk : ww_V X Y ad G nL σ (pc + 1) lv (.int (σ k j) :: st) o) : ww_V X Y ad G nL σ pc lv (.int i :: .ref (ad k) :: st) o := by
  obtain ⟨p, l, e, R, s, m, args, below, meth, c, cells, slots, Qf, A⟩ := X
  obtain ⟨rfl, ⟨hRf, hRl, hRc, hRs⟩, hx, hb, hml, hown, hts, hEv, hI, hAk, hA⟩ := hC
  intro H locs ls r hr hP hS hl
  subst hj
  exact va_iald hx hb hEv.1 hP k 0 (ww_W_get hG) rfl (ww_in_p hi) hd (kk H locs ls r hr hP hS hl)
theorem ww_bald_c (hC : ww_C X l0 Y ad G h cc nL own) {k n j : Nat} {i : Int32} (hG : G[k]? = some (.inr (.inl (1, n)))) (hi : ww_in i n = true) (hj : ww_ix i = j) (hd : decode cc pc = .ok (.baload, 1)) (kk : ww_V X Y ad G nL σ (pc + 1) lv (.int (σ k j) :: st) o) : ww_V X Y ad G nL σ pc lv (.int i :: .ref (ad k) :: st) o := by
  obtain ⟨p, l, e, R, s, m, args, below, meth, c, cells, slots, Qf, A⟩ := X
  obtain ⟨rfl, ⟨hRf, hRl, hRc, hRs⟩, hx, hb, hml, hown, hts, hEv, hI, hAk, hA⟩ := hC
  intro H locs ls r hr hP hS hl
  subst hj
  exact va_bald hx hb hEv.1 hP k 1 (ww_W_get hG) rfl (ww_in_p hi) hd (kk H locs ls r hr hP hS hl)
theorem ww_zald_c (hC : ww_C X l0 Y ad G h cc nL own) {k n j : Nat} {i : Int32} (hG : G[k]? = some (.inr (.inl (2, n)))) (hi : ww_in i n = true) (hj : ww_ix i = j) (hd : decode cc pc = .ok (.baload, 1)) (kk : ww_V X Y ad G nL σ (pc + 1) lv (.int (σ k j) :: st) o) : ww_V X Y ad G nL σ pc lv (.int i :: .ref (ad k) :: st) o := by
  obtain ⟨p, l, e, R, s, m, args, below, meth, c, cells, slots, Qf, A⟩ := X
  obtain ⟨rfl, ⟨hRf, hRl, hRc, hRs⟩, hx, hb, hml, hown, hts, hEv, hI, hAk, hA⟩ := hC
  intro H locs ls r hr hP hS hl
  subst hj
  exact va_zald hx hb hEv.1 hP k 2 (ww_W_get hG) rfl (ww_in_p hi) hd (kk H locs ls r hr hP hS hl)
theorem ww_iast_c (hC : ww_C X l0 Y ad G h cc nL own) {k n j : Nat} {i x : Int32} (hG : G[k]? = some (.inr (.inl (0, n)))) (hi : ww_in i n = true) (hj : ww_ix i = j) (hd : decode cc pc = .ok (.iastore, 1)) (kk : ww_V X Y ad G nL (ww_up σ k j x) (pc + 1) lv st o) : ww_V X Y ad G nL σ pc lv (.int x :: .int i :: .ref (ad k) :: st) o := by
  obtain ⟨p, l, e, R, s, m, args, below, meth, c, cells, slots, Qf, A⟩ := X
  obtain ⟨rfl, ⟨hRf, hRl, hRc, hRs⟩, hx, hb, hml, hown, hts, hEv, hI, hAk, hA⟩ := hC
  intro H locs ls r hr hP hS hl
  subst hj
  refine va_iast hx hb hEv.1 hP (ww_D hI hAk) hS k 0 (ww_W_get hG) rfl (ww_in_p hi) hd (fun H1 locs1 hP1 _ hS1 => ?_)
  rw [ww_W_row hG, ww_up_row] at hP1
  exact kk H1 locs1 ls r hr hP1 hS1 hl
theorem ww_bast_c (hC : ww_C X l0 Y ad G h cc nL own) {k n j : Nat} {i x : Int32} (hG : G[k]? = some (.inr (.inl (1, n)))) (hi : ww_in i n = true) (hj : ww_ix i = j) (hd : decode cc pc = .ok (.bastore, 1)) (kk : ww_V X Y ad G nL (ww_up σ k j (vp_nar .byte x)) (pc + 1) lv st o) : ww_V X Y ad G nL σ pc lv (.int x :: .int i :: .ref (ad k) :: st) o := by
  obtain ⟨p, l, e, R, s, m, args, below, meth, c, cells, slots, Qf, A⟩ := X
  obtain ⟨rfl, ⟨hRf, hRl, hRc, hRs⟩, hx, hb, hml, hown, hts, hEv, hI, hAk, hA⟩ := hC
  intro H locs ls r hr hP hS hl
  subst hj
  refine va_bast hx hb hEv.1 hP (ww_D hI hAk) hS k 1 (ww_W_get hG) rfl (ww_in_p hi) hd (fun H1 locs1 hP1 _ hS1 => ?_)
  rw [ww_W_row hG, ww_up_row] at hP1
  exact kk H1 locs1 ls r hr hP1 hS1 hl
theorem ww_zast_c (hC : ww_C X l0 Y ad G h cc nL own) {k n j : Nat} {i x : Int32} (hG : G[k]? = some (.inr (.inl (2, n)))) (hi : ww_in i n = true) (hj : ww_ix i = j) (hd : decode cc pc = .ok (.bastore, 1)) (kk : ww_V X Y ad G nL (ww_up σ k j (vp_nar .boolean x)) (pc + 1) lv st o) : ww_V X Y ad G nL σ pc lv (.int x :: .int i :: .ref (ad k) :: st) o := by
  obtain ⟨p, l, e, R, s, m, args, below, meth, c, cells, slots, Qf, A⟩ := X
  obtain ⟨rfl, ⟨hRf, hRl, hRc, hRs⟩, hx, hb, hml, hown, hts, hEv, hI, hAk, hA⟩ := hC
  intro H locs ls r hr hP hS hl
  subst hj
  refine va_zast hx hb hEv.1 hP (ww_D hI hAk) hS k 2 (ww_W_get hG) rfl (ww_in_p hi) hd (fun H1 locs1 hP1 _ hS1 => ?_)
  rw [ww_W_row hG, ww_up_row] at hP1
  exact kk H1 locs1 ls r hr hP1 hS1 hl
theorem ww_ldcS0 (hC : ww_C X l0 Y ad G h cc nL RX5) (hd : decode cc pc = .ok (.ldc 91, 2)) (kk : ww_V X Y ad G nL σ (pc + 2) lv (.ref (Y.2.2.2 0) :: st) o) : ww_V X Y ad G nL σ pc lv st o := by
  obtain ⟨p, l, e, R, s, m, args, below, meth, c, cells, slots, Qf, A⟩ := X
  obtain ⟨rfl, ⟨hRf, hRl, hRc, hRs⟩, hx, hb, hml, hown, hts, hEv, hI, hAk, hA⟩ := hC
  intro H locs ls r hr hP hS hl
  exact va_ldcS (tx := "sand") hx hb hown hEv.2.2.2.2.1 hd (kk H locs ls r hr hP hS hl)
theorem ww_ldcS1 (hC : ww_C X l0 Y ad G h cc nL RX5) (hd : decode cc pc = .ok (.ldc 97, 2)) (kk : ww_V X Y ad G nL σ (pc + 2) lv (.ref (Y.2.2.2 1) :: st) o) : ww_V X Y ad G nL σ pc lv st o := by
  obtain ⟨p, l, e, R, s, m, args, below, meth, c, cells, slots, Qf, A⟩ := X
  obtain ⟨rfl, ⟨hRf, hRl, hRc, hRs⟩, hx, hb, hml, hown, hts, hEv, hI, hAk, hA⟩ := hC
  intro H locs ls r hr hP hS hl
  exact va_ldcS (tx := "tide") hx hb hown hEv.2.2.2.2.2.1 hd (kk H locs ls r hr hP hS hl)
theorem ww_ldcS2 (hC : ww_C X l0 Y ad G h cc nL RX5) (hd : decode cc pc = .ok (.ldc 99, 2)) (kk : ww_V X Y ad G nL σ (pc + 2) lv (.ref (Y.2.2.2 2) :: st) o) : ww_V X Y ad G nL σ pc lv st o := by
  obtain ⟨p, l, e, R, s, m, args, below, meth, c, cells, slots, Qf, A⟩ := X
  obtain ⟨rfl, ⟨hRf, hRl, hRc, hRs⟩, hx, hb, hml, hown, hts, hEv, hI, hAk, hA⟩ := hC
  intro H locs ls r hr hP hS hl
  exact va_ldcS (tx := "law") hx hb hown hEv.2.2.2.2.2.2.1 hd (kk H locs ls r hr hP hS hl)
theorem ww_ldcS3 (hC : ww_C X l0 Y ad G h cc nL RX5) (hd : decode cc pc = .ok (.ldc 101, 2)) (kk : ww_V X Y ad G nL σ (pc + 2) lv (.ref (Y.2.2.2 3) :: st) o) : ww_V X Y ad G nL σ pc lv st o := by
  obtain ⟨p, l, e, R, s, m, args, below, meth, c, cells, slots, Qf, A⟩ := X
  obtain ⟨rfl, ⟨hRf, hRl, hRc, hRs⟩, hx, hb, hml, hown, hts, hEv, hI, hAk, hA⟩ := hC
  intro H locs ls r hr hP hS hl
  exact va_ldcS (tx := "rot") hx hb hown hEv.2.2.2.2.2.2.2.1 hd (kk H locs ls r hr hP hS hl)
theorem ww_ldcS4 (hC : ww_C X l0 Y ad G h cc nL RX5) (hd : decode cc pc = .ok (.ldc 103, 2)) (kk : ww_V X Y ad G nL σ (pc + 2) lv (.ref (Y.2.2.2 4) :: st) o) : ww_V X Y ad G nL σ pc lv st o := by
  obtain ⟨p, l, e, R, s, m, args, below, meth, c, cells, slots, Qf, A⟩ := X
  obtain ⟨rfl, ⟨hRf, hRl, hRc, hRs⟩, hx, hb, hml, hown, hts, hEv, hI, hAk, hA⟩ := hC
  intro H locs ls r hr hP hS hl
  exact va_ldcS (tx := "gangs") hx hb hown hEv.2.2.2.2.2.2.2.2.1 hd (kk H locs ls r hr hP hS hl)
theorem ww_ldcS5 (hC : ww_C X l0 Y ad G h cc nL RX5) (hd : decode cc pc = .ok (.ldc 105, 2)) (kk : ww_V X Y ad G nL σ (pc + 2) lv (.ref (Y.2.2.2 5) :: st) o) : ww_V X Y ad G nL σ pc lv st o := by
  obtain ⟨p, l, e, R, s, m, args, below, meth, c, cells, slots, Qf, A⟩ := X
  obtain ⟨rfl, ⟨hRf, hRl, hRc, hRs⟩, hx, hb, hml, hown, hts, hEv, hI, hAk, hA⟩ := hC
  intro H locs ls r hr hP hS hl
  exact va_ldcS (tx := "whale") hx hb hown hEv.2.2.2.2.2.2.2.2.2 hd (kk H locs ls r hr hP hS hl)
end WROWS
end
section
/-! ===== loops, returns, calls, entry ===== -/
def ww_kk {α β : Type} (f : α → Option (α ⊕ β)) (K : β → Option ww_R) (n : Nat) : α ⊕ β → Option ww_R
  | .inl y => (ww_it f n y).bind K
  | .inr b => K b
theorem ww_it_succ {α β : Type} (f : α → Option (α ⊕ β)) (K : β → Option ww_R) (n : Nat) (a : α) : (ww_it f (n + 1) a).bind K = (f a).bind (ww_kk f K n) := by
  cases e : f a with
  | none => simp [ww_it, e]
  | some x => cases x <;> simp [ww_it, e, ww_kk]
section WLOOP
variable {X : ww_X} {l0 : Launch} {Y : ww_Y} {ad : Nat → Nat} {G : List ww_L} {h nL pc : Nat} {cc : ByteArray} {own : String} {σ : ww_M} {lv lv' : List (Nat × Value)} {st : List Value} {o : Option ww_R} {α β γ : Type}
theorem ww_loop {f : α → Option (α ⊕ β)} {K : β → Option ww_R} (σf : α → ww_M) (lvf : α → List (Nat × Value)) (σe : β → ww_M) (lve : β → List (Nat × Value)) (pe : Nat)
    (hexit : ∀ b, ww_V X Y ad G nL (σe b) pe (lve b) st (K b))
    (hs : ∀ (a : α) (KK : α ⊕ β → Option ww_R), (∀ a', ww_V X Y ad G nL (σf a') pc (lvf a') st (KK (.inl a'))) → (∀ b, ww_V X Y ad G nL (σe b) pe (lve b) st (KK (.inr b))) → ww_V X Y ad G nL (σf a) pc (lvf a) st ((f a).bind KK)) :
    ∀ (n : Nat) (a : α), ww_V X Y ad G nL (σf a) pc (lvf a) st ((ww_it f n a).bind K) := by
  intro n
  induction n with
  | zero => intro a; exact ww_none rfl
  | succ n ih =>
    intro a
    exact ww_eq (ww_it_succ f K n a) (hs a (ww_kk f K n) ih hexit)
theorem ww_loopR {f : α → Option (α ⊕ (β ⊕ γ))} {K : β ⊕ γ → Option ww_R} (σf : α → ww_M) (lvf : α → List (Nat × Value)) (σe : β → ww_M) (lve : β → List (Nat × Value)) (pe : Nat)
    (hexit : ∀ b, ww_V X Y ad G nL (σe b) pe (lve b) st (K (.inl b)))
    (hs : ∀ (a : α) (KK : α ⊕ (β ⊕ γ) → Option ww_R), (∀ a', ww_V X Y ad G nL (σf a') pc (lvf a') st (KK (.inl a'))) → (∀ b, ww_V X Y ad G nL (σe b) pe (lve b) st (KK (.inr (.inl b)))) → (∀ g, KK (.inr (.inr g)) = K (.inr g)) → ww_V X Y ad G nL (σf a) pc (lvf a) st ((f a).bind KK)) :
    ∀ (n : Nat) (a : α), ww_V X Y ad G nL (σf a) pc (lvf a) st ((ww_it f n a).bind K) := by
  intro n
  induction n with
  | zero => intro a; exact ww_none rfl
  | succ n ih =>
    intro a
    exact ww_eq (ww_it_succ f K n a) (hs a (ww_kk f K n) ih hexit (fun _ => rfl))
theorem ww_assoc {f : Option α} {E : α → Option β} {K : β → Option ww_R} (k : ww_V X Y ad G nL σ pc lv st (f.bind (fun a => (E a).bind K))) : ww_V X Y ad G nL σ pc lv st ((f.bind E).bind K) := by
  refine ww_eq ?_ k
  cases f <;> rfl
theorem ww_ireturn (hC : ww_C X l0 Y ad G h cc nL own) (hR : ww_CR X Y ad G (some .int)) (hd : decode cc pc = .ok (.ireturn, 1)) {x : Int32} (ho : o = some (some (.int x), σ)) : ww_V X Y ad G nL σ pc lv [.int x] o := by
  obtain ⟨p, l, e, R, s, m, args, below, meth, c, cells, slots, Qf, A⟩ := X
  obtain ⟨rfl, ⟨hRf, hRl, hRc, hRs⟩, hx, hb, hml, hown, hts, hEv, hI, hAk, hA⟩ := hC
  obtain ⟨hr1, hlk, rfl⟩ := hR
  intro H locs ls r hr hP hS hl
  cases hr.symm.trans ho
  exact W.iret hx hb hr1 (fun t ht _ => ⟨rfl, by rw [ht]; exact hP, hS.F ht⟩) hS.2.2 hd (hlocks := hlk)
theorem ww_zreturn (hC : ww_C X l0 Y ad G h cc nL own) {ty : FieldType} (hR : ww_CR X Y ad G (some ty)) (hd : decode cc pc = .ok (.ireturn, 1)) {x : Int32} (hn : narrow ty (.int x) = .int x) (ho : o = some (some (.int x), σ)) : ww_V X Y ad G nL σ pc lv [.int x] o := by
  obtain ⟨p, l, e, R, s, m, args, below, meth, c, cells, slots, Qf, A⟩ := X
  obtain ⟨rfl, ⟨hRf, hRl, hRc, hRs⟩, hx, hb, hml, hown, hts, hEv, hI, hAk, hA⟩ := hC
  obtain ⟨hr1, hlk, rfl⟩ := hR
  intro H locs ls r hr hP hS hl
  cases hr.symm.trans ho
  exact W.zret hx hb hr1 hn (fun t ht _ => ⟨rfl, by rw [ht]; exact hP, hS.F ht⟩) hS.2.2 hd (hlocks := hlk)
theorem ww_zreturnG (hC : ww_C X l0 Y ad G h cc nL own) (hR : ww_CR X Y ad G (some .boolean)) (hd : decode cc pc = .ok (.ireturn, 1)) {x : Int32} {E : Option α} {K : α → Option ww_R} (ho : E.bind K = some (some (.int x), σ)) : ww_V X Y ad G nL σ pc lv [.int x] ((ww_ck (ww_isb x) E).bind K) := by
  cases hq : ww_isb x with
  | true => exact ww_zreturn hC hR hd (ww_isb_n hq) ho
  | false => exact ww_none rfl
theorem ww_lreturn (hC : ww_C X l0 Y ad G h cc nL own) (hR : ww_CR X Y ad G (some .long)) (hd : decode cc pc = .ok (.lreturn, 1)) {x : Int64} (ho : o = some (some (.long x), σ)) : ww_V X Y ad G nL σ pc lv [.long x] o := by
  obtain ⟨p, l, e, R, s, m, args, below, meth, c, cells, slots, Qf, A⟩ := X
  obtain ⟨rfl, ⟨hRf, hRl, hRc, hRs⟩, hx, hb, hml, hown, hts, hEv, hI, hAk, hA⟩ := hC
  obtain ⟨hr1, hlk, rfl⟩ := hR
  intro H locs ls r hr hP hS hl
  cases hr.symm.trans ho
  exact W.lret hx hb hr1 (fun t ht _ => ⟨rfl, by rw [ht]; exact hP, hS.F ht⟩) hS.2.2 hd (hlocks := hlk)
theorem ww_return (hC : ww_C X l0 Y ad G h cc nL own) (hR : ww_CR X Y ad G none) (hd : decode cc pc = .ok (.return_, 1)) (ho : o = some (none, σ)) : ww_V X Y ad G nL σ pc lv [] o := by
  obtain ⟨p, l, e, R, s, m, args, below, meth, c, cells, slots, Qf, A⟩ := X
  obtain ⟨rfl, ⟨hRf, hRl, hRc, hRs⟩, hx, hb, hml, hown, hts, hEv, hI, hAk, hA⟩ := hC
  obtain ⟨hr1, hlk, rfl⟩ := hR
  intro H locs ls r hr hP hS hl
  cases hr.symm.trans ho
  exact W.vret hx hb hr1 (fun t ht _ => ⟨rfl, by rw [ht]; exact hP, hS.F ht⟩) hS.2.2 hd (hlocks := hlk)
end WLOOP
theorem ww_Ev.same {Y : ww_Y} {A : Nat → Prop} {U V : State} {H : Heap} (hv : U.vm = V.vm) (h : ww_Ev Y A U H) : ww_Ev Y A V H := by
  obtain ⟨h1, h2, h3, h4, h5⟩ := h
  have ha : U.vm.Alike V.vm := by rw [← hv]; exact Vm.Alike.refl U.vm
  refine ⟨va_K.moved ha h1, fun w hw => ?_, h3.moved ha, ⟨h4.1.moved ha, h4.2.moved ha⟩, ww_RS.same hv h5⟩
  have hg := ww_Ng hw
  have hz := h2 w hw
  exact va_Nw.same (by cases w <;> first | rfl | cases hg) hv hz
theorem ww_blind (Y : ww_Y) (ad : Nat → Nat) (G : List ww_L) (sz : Nat) (σ : ww_M) (av : List Value) : FrameBlind (va_Pc av (ww_Pc Y ad G sz σ)) := by
  intro a U g mk q
  obtain ⟨q0, q1, qP, qE, qI⟩ := q
  have qE2 : ww_Ev Y (ww_AA G ad sz) (U.calling g mk a) U.heap := ww_Ev.same (U := U) (V := U.calling g mk a) rfl qE
  exact ⟨q0, q1, qP, qE2, qI⟩
/-- the body gives the contract -/
theorem ww_met {l : Launch} {Y : ww_Y} {ad : Nat → Nat} {G : List ww_L} {y : MethodName} {cc : ByteArray} {nL : Nat} {ret : Option FieldType} {h : Nat} {av : List Value} {σ : ww_M} {o : Option ww_R} (hy : plainFor y = true) (hav : (lg_sl av).length ≤ nL)
    (body : ∀ X : ww_X, ww_C X l Y ad G h cc nL y.cls → ww_CR X Y ad G ret → ww_V X Y ad G nL σ 0 (lv_args 0 av) [] o) : ww_Cn l Y ad G y cc nL ret h av σ o := by
  intro sz r hr
  refine va_MetF (cc := cc) (maxL := nL) (ret := ret) hy rfl ?_
  intro p e s m args below meth c s₁ B hml hv
  obtain ⟨rfl, hsz, hP, hEv, hI⟩ := hv
  subst hsz
  have hts := atoms_spec (ws := .code y cc nL ret :: ww_T) B.pre
  have hb := body (p, l, e, (headSpec (.code y cc nL ret :: ww_T) (ww_Rm h)).room, s, m, av.toArray, below, meth, c, 0, 0, (fun r => MQ below (ww_Qr Y ad G (ww_AA G ad s.heap.size) r) av.toArray s 0 0 (ww_AA G ad s.heap.size)), ww_AA G ad s.heap.size)
    ⟨rfl, ⟨Nat.le_refl _, Nat.le_refl _, Nat.zero_le _, Nat.zero_le _⟩, B.exec, B.bytes, hml, findClass_of_methodNamed B.named, fun w hw => hts w (List.mem_cons_of_mem _ hw), hEv, hI, fun k hk => Or.inl ⟨k, hk, rfl⟩, fun q hq => Or.inr hq⟩
    ⟨B.returns, B.notSynchronized, rfl⟩
  rw [lg_entry_eq]
  exact hb s.heap [] _ r hr hP va_S.rf (lv_entry av hav)
def ww_mV (y : MethodName) (bytes : ByteArray) (maxL : Nat) (ret : Option FieldType) (n : Nat) : Prop := Cond.code y bytes maxL ret ∈ ww_T ∧ Cond.initialized y.cls ∈ ww_T ∧ Cond.instanceMethod y ∈ ww_T ∧ Cond.selects y.cls y y ∈ ww_T ∧ (y.cls ≠ "java/lang/invoke/MethodHandle" ∧ y.cls ≠ "java/lang/invoke/VarHandle" ∧ (parseMethodDescriptor y.desc).map (fun d => d.parameters.length) = some n)
def ww_mS (y : MethodName) (bytes : ByteArray) (maxL : Nat) (ret : Option FieldType) (n : Nat) : Prop := Cond.code y bytes maxL ret ∈ ww_T ∧ Cond.initialized y.cls ∈ ww_T ∧ Cond.static y ∈ ww_T ∧ (y.cls ≠ "java/lang/invoke/MethodHandle" ∧ y.cls ≠ "java/lang/invoke/VarHandle" ∧ (parseMethodDescriptor y.desc).map (fun d => d.parameters.length) = some n)
theorem ww_good {y : MethodName} {bytes : ByteArray} {maxL : Nat} {ret : Option FieldType} (h : Cond.code y bytes maxL ret ∈ ww_T) : GoodIn ww_T (Cond.code y bytes maxL ret :: ww_T) := fun w hw => (List.mem_cons.mp hw).elim (fun e => by rw [e]; exact ww_Tg _ h) (fun q => ww_Tg _ q)
theorem ww_AAin {G : List ww_L} {ad : Nat → Nat} {A : Nat → Prop} {H0 H : Heap} {locs : List Loc} (hS : va_S A H0 H locs) (hAk : ∀ k, k < G.length → A (ad k)) (hA : ∀ q, H0.size ≤ q → A q) : ∀ q, ww_AA G ad H.size q → A q := by
  intro q h
  rcases h with ⟨k, hk, rfl⟩ | h
  · exact hAk k hk
  · exact hA q (Nat.le_trans hS.1 h)
section WCALL
variable {X : ww_X} {l0 : Launch} {Y : ww_Y} {ad : Nat → Nat} {G : List ww_L} {h nL pc : Nat} {cc : ByteArray} {own : String} {σ : ww_M} {lv : List (Nat × Value)} {st st0 : List Value} {α β : Type}
theorem ww_after {p : Program} {l : Launch} {e : Env} {R : Room} {s : State} {m : MethodId} {args : Array Value} {below : List Frame} {meth : Method} {c : Code} {cells slots : Nat} {H : Heap} {locs : List Loc} {ls : Array Slot} {A : Nat → Prop} {Q : State → Prop} {a : Array Value} {r : ww_R}
    (hS : va_S A s.heap H locs) (hf : ∀ q, ww_AA G ad H.size q → A q)
    (run : va_Run p l e R s m args below meth c H locs cells slots 0 0 (F0 m pc ls st0) st (ww_Qr Y ad G (ww_AA G ad H.size) r a) (ww_AA G ad H.size))
    (kk : ∀ (H1 : Heap) (locs1 : List Loc), va_P Y.1 vwCl (ww_W G ad Y.2.1 r.2) H1 → va_S A s.heap H1 locs1 → W p l e R s m args below meth c H1 locs1 cells slots Q (F0 m (pc + 3) ls (r.1.toList ++ st))) : W p l e R s m args below meth c H locs cells slots Q (F0 m pc ls st0) := by
  intro T hT X
  obtain ⟨v, st₀, t, T', L, h0, X', hL, e1, e2, ⟨hv, hP1, hz, hk⟩, stp⟩ := run T hT X
  rw [h0] at hz hk
  have hv' : v = r.1 := by injection hv
  subst hv'
  obtain ⟨t2, a1, b1⟩ := kk T'.heap (locs ++ L) (by rw [e1]; exact hP1) ⟨Nat.le_trans hS.1 (by rw [e1]; exact hz), fun q h1 h2 => by rw [e1, hk q (Nat.lt_of_lt_of_le h1 hS.1) (fun z => h2 (hf q z))]; exact hS.2.1 q h1 h2, fun q hq => by
      rcases List.mem_append.mp hq with h | h
      · exact hS.2.2 q h
      · exact hf _ (hL q h)⟩ T' rfl X'
  exact ⟨t2, stp t2 a1, b1⟩
theorem ww_bind_some {f : Option α} {E : α → Option β} {K : β → Option ww_R} {r : ww_R} (hr : (f.bind E).bind K = some r) : ∃ a, f = some a ∧ (E a).bind K = some r := by
  cases f with
  | none => cases hr
  | some a => exact ⟨a, rfl, hr⟩
theorem ww_callV (hC : ww_C X l0 Y ad G h cc nL own) {f : Option α} {kc : α → ww_R} {E : α → Option β} {K : β → Option ww_R} {y : MethodName} {bytes : ByteArray} {maxL h' b ci N index : Nat} {ret : Option FieldType} {T : u_T} {fs : List (Option Nat)} {As : List Value}
    (hM : ww_Cn l0 Y ad G y bytes maxL ret h' (.ref (ad b) :: As) σ (f.bind (fun a => some (kc a)))) (hm : ww_mV y bytes maxL ret As.length) (hlk : Cond.methodLink own index y ∈ ww_T) (hG : G[b]? = some (.inl (ci, fs))) (hc : vwCl[ci]? = some (y.cls, T, N)) (hh : h' + 1 ≤ h) (hL : maxL ≤ 21) (hs8 : (st.map fun v => v.category).sum ≤ 8) (hst : st0 = As.reverse ++ .ref (ad b) :: st) (hd : decode cc pc = .ok (.invokevirtual index, 3))
    (kk : ∀ a, ww_V X Y ad G nL (kc a).2 (pc + 3) lv ((kc a).1.toList ++ st) ((E a).bind K)) : ww_V X Y ad G nL σ pc lv st0 ((f.bind E).bind K) := by
  obtain ⟨p, l, e, R, s, m, args, below, meth, c, cells, slots, Qf, A⟩ := X
  obtain ⟨rfl, ⟨hRf, hRl, hRc, hRs⟩, hx, hb, hml, hown, hts, hEv, hI, hAk, hA⟩ := hC
  intro H locs ls r hr hP hS hl
  obtain ⟨a, ha, hr⟩ := ww_bind_some hr
  have hM' := hM H.size (kc a) (by rw [ha]; rfl)
  have hf := ww_AAin (G := G) (ad := ad) hS hAk hA
  obtain ⟨m1, m2, m3, m4, m5⟩ := hm
  have hgood : GoodIn ww_T (wsV own index y.cls y (Cond.code y bytes maxL ret :: ww_T)) := by
    intro w hw
    rcases List.mem_append.mp hw with q | q
    · have q2 : w = .methodLink own index y ∨ w = .instanceMethod y ∨ w = .selects y.cls y y ∨ w = .initialized y.cls := by simpa using q
      rcases q2 with rfl | rfl | rfl | rfl
      · exact ww_Tg _ hlk
      · exact ww_Tg _ m3
      · exact ww_Tg _ m4
      · exact ww_Tg _ m2
    · exact ww_good m1 w q
  refine ww_after (a := (Value.ref (ad b) :: As).toArray) (r := kc a) hS hf (va_runV (As := As) (rest := st) ⟨hx, hb, hml, hown, hts⟩ hM' (cwV As.length hts hgood rfl rfl rfl ⟨rfl, m5⟩ ⟨by show h' + 1 ≤ _; omega, by show 8 + (maxL + 11) + 40 * h' ≤ _; omega⟩) ⟨ww_blind _ _ _ _ _ _, va_recv hEv.1 hP hc (ww_W_get hG), fun U hU hW => ⟨rfl, by rw [hU], by rw [hU]; exact hP, by rw [hU]; exact hEv.warm hW hS.2.1 (fun q _ z => hf q z) hf, hI⟩⟩ rfl rfl hl.1 hst (lv_room hs8) hd ⟨hRc, hRs⟩) ?_
  intro H1 locs1 hP1 hS1
  exact kk a H1 locs1 ls r hr hP1 hS1 hl
theorem ww_callS (hC : ww_C X l0 Y ad G h cc nL own) {f : Option α} {kc : α → ww_R} {E : α → Option β} {K : β → Option ww_R} {y : MethodName} {bytes : ByteArray} {maxL h' index : Nat} {ret : Option FieldType} {As : List Value}
    (hM : ww_Cn l0 Y ad G y bytes maxL ret h' As σ (f.bind (fun a => some (kc a)))) (hm : ww_mS y bytes maxL ret As.length) (hlk : Cond.methodLink own index y ∈ ww_T) (hh : h' + 1 ≤ h) (hL : maxL ≤ 21) (hs8 : (st.map fun v => v.category).sum ≤ 8) (hst : st0 = As.reverse ++ st) (hd : decode cc pc = .ok (.invokestatic index, 3))
    (kk : ∀ a, ww_V X Y ad G nL (kc a).2 (pc + 3) lv ((kc a).1.toList ++ st) ((E a).bind K)) : ww_V X Y ad G nL σ pc lv st0 ((f.bind E).bind K) := by
  obtain ⟨p, l, e, R, s, m, args, below, meth, c, cells, slots, Qf, A⟩ := X
  obtain ⟨rfl, ⟨hRf, hRl, hRc, hRs⟩, hx, hb, hml, hown, hts, hEv, hI, hAk, hA⟩ := hC
  intro H locs ls r hr hP hS hl
  obtain ⟨a, ha, hr⟩ := ww_bind_some hr
  have hM' := hM H.size (kc a) (by rw [ha]; rfl)
  have hf := ww_AAin (G := G) (ad := ad) hS hAk hA
  obtain ⟨m1, m2, m3, m5⟩ := hm
  refine ww_after (a := As.toArray) (r := kc a) hS hf (va_runS (As := As) (rest := st) ⟨hx, hb, hml, hown, hts⟩ hM' ⟨callB_of As.length hts (ww_good m1) rfl rfl rfl (hts _ m2) (hts _ hlk) m5 ⟨by show h' + 1 ≤ _; omega, by show 8 + (maxL + 11) + 40 * h' ≤ _; omega⟩, hts _ m3⟩ ⟨ww_blind _ _ _ _ _ _, fun U hU hW => ⟨rfl, by rw [hU], by rw [hU]; exact hP, by rw [hU]; exact hEv.warm hW hS.2.1 (fun q _ z => hf q z) hf, hI⟩⟩ rfl rfl hl.1 hst (lv_room hs8) hd ⟨hRc, hRs⟩) ?_
  intro H1 locs1 hP1 hS1
  exact kk a H1 locs1 ls r hr hP1 hS1 hl
theorem ww_callSN (hC : ww_C X l0 Y ad G h cc nL own) {f : Option α} {kc : α → ww_R} {E : α → Option β} {K : β → Option ww_R} {y : MethodName} {host : String} {bytes : ByteArray} {maxL h' index : Nat} {ret : Option FieldType} {As : List Value}
    (hM : ww_Cn l0 Y ad G y bytes maxL ret h' As σ (f.bind (fun a => some (kc a)))) (hm : ww_mS y bytes maxL ret As.length) (hlk : Cond.methodLinkNest own index y host ∈ ww_N) (hh : h' + 1 ≤ h) (hL : maxL ≤ 21) (hs8 : (st.map fun v => v.category).sum ≤ 8) (hst : st0 = As.reverse ++ st) (hd : decode cc pc = .ok (.invokestatic index, 3))
    (kk : ∀ a, ww_V X Y ad G nL (kc a).2 (pc + 3) lv ((kc a).1.toList ++ st) ((E a).bind K)) : ww_V X Y ad G nL σ pc lv st0 ((f.bind E).bind K) := by
  obtain ⟨p, l, e, R, s, m, args, below, meth, c, cells, slots, Qf, A⟩ := X
  obtain ⟨rfl, ⟨hRf, hRl, hRc, hRs⟩, hx, hb, hml, hown, hts, hEv, hI, hAk, hA⟩ := hC
  intro H locs ls r hr hP hS hl
  obtain ⟨a, ha, hr⟩ := ww_bind_some hr
  have hM' := hM H.size (kc a) (by rw [ha]; rfl)
  have hf := ww_AAin (G := G) (ad := ad) hS hAk hA
  obtain ⟨m1, m2, m3, m5⟩ := hm
  refine ww_after (a := As.toArray) (r := kc a) hS hf (va_runSN (As := As) (rest := st) ⟨hx, hb, hml, hown, hts⟩ hM' ⟨va_cnB As.length hts (ww_good m1) rfl rfl rfl (hEv.2.1 _ hlk) (hts _ m2) m5 ⟨by show h' + 1 ≤ _; omega, by show 8 + (maxL + 11) + 40 * h' ≤ _; omega⟩, hts _ m3, trivial⟩ ⟨ww_blind _ _ _ _ _ _, fun U hU hW => ⟨rfl, by rw [hU], by rw [hU]; exact hP, by rw [hU]; exact hEv.warm hW hS.2.1 (fun q _ z => hf q z) hf, hI⟩⟩ rfl rfl hl.1 hst (lv_room hs8) hd ⟨hRc, hRs⟩) ?_
  intro H1 locs1 hP1 hS1
  exact kk a H1 locs1 ls r hr hP1 hS1 hl
end WCALL
def ww_ri (σ : ww_M) (x : Int32) : Option ww_R := some (some (.int x), σ)
def ww_rl (σ : ww_M) (x : Int64) : Option ww_R := some (some (.long x), σ)
def ww_rw (q : Int32 × ww_M) : Option ww_R := some (some (.int q.1), q.2)
def ww_rv (τ : ww_M) : Option ww_R := some (none, τ)
section WCALL2
variable {X : ww_X} {l0 : Launch} {Y : ww_Y} {ad : Nat → Nat} {G : List ww_L} {h nL pc : Nat} {cc : ByteArray} {own : String} {σ : ww_M} {lv : List (Nat × Value)} {st st0 : List Value} {β : Type}
theorem ww_callVi (hC : ww_C X l0 Y ad G h cc nL own) {f : Option (Int32)} {E : (Int32) → Option β} {K : β → Option ww_R} {y : MethodName} {bytes : ByteArray} {maxL h' b ci N index : Nat} {ret : Option FieldType} {T : u_T} {fs : List (Option Nat)} {As : List Value} (hM : ww_Cn l0 Y ad G y bytes maxL ret h' (.ref (ad b) :: As) σ (f.bind (ww_ri σ))) (hm : ww_mV y bytes maxL ret As.length) (hlk : Cond.methodLink own index y ∈ ww_T) (hG : G[b]? = some (.inl (ci, fs))) (hc : vwCl[ci]? = some (y.cls, T, N)) (hh : h' + 1 ≤ h) (hL : maxL ≤ 21) (hs8 : (st.map fun v => v.category).sum ≤ 8) (hst : st0 = As.reverse ++ .ref (ad b) :: st) (hd : decode cc pc = .ok (.invokevirtual index, 3)) (kk : ∀ a, ww_V X Y ad G nL σ (pc + 3) lv (.int a :: st) ((E a).bind K)) : ww_V X Y ad G nL σ pc lv st0 ((f.bind E).bind K) :=
  ww_callV (kc := fun x => (some (.int x), σ)) hC hM hm hlk hG hc hh hL hs8 hst hd kk
theorem ww_callSi (hC : ww_C X l0 Y ad G h cc nL own) {f : Option (Int32)} {E : (Int32) → Option β} {K : β → Option ww_R} {y : MethodName} {bytes : ByteArray} {maxL h' index : Nat} {ret : Option FieldType} {As : List Value} (hM : ww_Cn l0 Y ad G y bytes maxL ret h' As σ (f.bind (ww_ri σ))) (hm : ww_mS y bytes maxL ret As.length) (hlk : Cond.methodLink own index y ∈ ww_T) (hh : h' + 1 ≤ h) (hL : maxL ≤ 21) (hs8 : (st.map fun v => v.category).sum ≤ 8) (hst : st0 = As.reverse ++ st) (hd : decode cc pc = .ok (.invokestatic index, 3)) (kk : ∀ a, ww_V X Y ad G nL σ (pc + 3) lv (.int a :: st) ((E a).bind K)) : ww_V X Y ad G nL σ pc lv st0 ((f.bind E).bind K) :=
  ww_callS (kc := fun x => (some (.int x), σ)) hC hM hm hlk hh hL hs8 hst hd kk
theorem ww_callSNi (hC : ww_C X l0 Y ad G h cc nL own) {f : Option (Int32)} {E : (Int32) → Option β} {K : β → Option ww_R} {y : MethodName} {bytes : ByteArray} {host : String} {maxL h' index : Nat} {ret : Option FieldType} {As : List Value} (hM : ww_Cn l0 Y ad G y bytes maxL ret h' As σ (f.bind (ww_ri σ))) (hm : ww_mS y bytes maxL ret As.length) (hlk : Cond.methodLinkNest own index y host ∈ ww_N) (hh : h' + 1 ≤ h) (hL : maxL ≤ 21) (hs8 : (st.map fun v => v.category).sum ≤ 8) (hst : st0 = As.reverse ++ st) (hd : decode cc pc = .ok (.invokestatic index, 3)) (kk : ∀ a, ww_V X Y ad G nL σ (pc + 3) lv (.int a :: st) ((E a).bind K)) : ww_V X Y ad G nL σ pc lv st0 ((f.bind E).bind K) :=
  ww_callSN (kc := fun x => (some (.int x), σ)) hC hM hm hlk hh hL hs8 hst hd kk
theorem ww_callVl (hC : ww_C X l0 Y ad G h cc nL own) {f : Option (Int64)} {E : (Int64) → Option β} {K : β → Option ww_R} {y : MethodName} {bytes : ByteArray} {maxL h' b ci N index : Nat} {ret : Option FieldType} {T : u_T} {fs : List (Option Nat)} {As : List Value} (hM : ww_Cn l0 Y ad G y bytes maxL ret h' (.ref (ad b) :: As) σ (f.bind (ww_rl σ))) (hm : ww_mV y bytes maxL ret As.length) (hlk : Cond.methodLink own index y ∈ ww_T) (hG : G[b]? = some (.inl (ci, fs))) (hc : vwCl[ci]? = some (y.cls, T, N)) (hh : h' + 1 ≤ h) (hL : maxL ≤ 21) (hs8 : (st.map fun v => v.category).sum ≤ 8) (hst : st0 = As.reverse ++ .ref (ad b) :: st) (hd : decode cc pc = .ok (.invokevirtual index, 3)) (kk : ∀ a, ww_V X Y ad G nL σ (pc + 3) lv (.long a :: st) ((E a).bind K)) : ww_V X Y ad G nL σ pc lv st0 ((f.bind E).bind K) :=
  ww_callV (kc := fun x => (some (.long x), σ)) hC hM hm hlk hG hc hh hL hs8 hst hd kk
theorem ww_callSl (hC : ww_C X l0 Y ad G h cc nL own) {f : Option (Int64)} {E : (Int64) → Option β} {K : β → Option ww_R} {y : MethodName} {bytes : ByteArray} {maxL h' index : Nat} {ret : Option FieldType} {As : List Value} (hM : ww_Cn l0 Y ad G y bytes maxL ret h' As σ (f.bind (ww_rl σ))) (hm : ww_mS y bytes maxL ret As.length) (hlk : Cond.methodLink own index y ∈ ww_T) (hh : h' + 1 ≤ h) (hL : maxL ≤ 21) (hs8 : (st.map fun v => v.category).sum ≤ 8) (hst : st0 = As.reverse ++ st) (hd : decode cc pc = .ok (.invokestatic index, 3)) (kk : ∀ a, ww_V X Y ad G nL σ (pc + 3) lv (.long a :: st) ((E a).bind K)) : ww_V X Y ad G nL σ pc lv st0 ((f.bind E).bind K) :=
  ww_callS (kc := fun x => (some (.long x), σ)) hC hM hm hlk hh hL hs8 hst hd kk
theorem ww_callSNl (hC : ww_C X l0 Y ad G h cc nL own) {f : Option (Int64)} {E : (Int64) → Option β} {K : β → Option ww_R} {y : MethodName} {bytes : ByteArray} {host : String} {maxL h' index : Nat} {ret : Option FieldType} {As : List Value} (hM : ww_Cn l0 Y ad G y bytes maxL ret h' As σ (f.bind (ww_rl σ))) (hm : ww_mS y bytes maxL ret As.length) (hlk : Cond.methodLinkNest own index y host ∈ ww_N) (hh : h' + 1 ≤ h) (hL : maxL ≤ 21) (hs8 : (st.map fun v => v.category).sum ≤ 8) (hst : st0 = As.reverse ++ st) (hd : decode cc pc = .ok (.invokestatic index, 3)) (kk : ∀ a, ww_V X Y ad G nL σ (pc + 3) lv (.long a :: st) ((E a).bind K)) : ww_V X Y ad G nL σ pc lv st0 ((f.bind E).bind K) :=
  ww_callSN (kc := fun x => (some (.long x), σ)) hC hM hm hlk hh hL hs8 hst hd kk
theorem ww_callVw (hC : ww_C X l0 Y ad G h cc nL own) {f : Option (Int32 × ww_M)} {E : (Int32 × ww_M) → Option β} {K : β → Option ww_R} {y : MethodName} {bytes : ByteArray} {maxL h' b ci N index : Nat} {ret : Option FieldType} {T : u_T} {fs : List (Option Nat)} {As : List Value} (hM : ww_Cn l0 Y ad G y bytes maxL ret h' (.ref (ad b) :: As) σ (f.bind ww_rw)) (hm : ww_mV y bytes maxL ret As.length) (hlk : Cond.methodLink own index y ∈ ww_T) (hG : G[b]? = some (.inl (ci, fs))) (hc : vwCl[ci]? = some (y.cls, T, N)) (hh : h' + 1 ≤ h) (hL : maxL ≤ 21) (hs8 : (st.map fun v => v.category).sum ≤ 8) (hst : st0 = As.reverse ++ .ref (ad b) :: st) (hd : decode cc pc = .ok (.invokevirtual index, 3)) (kk : ∀ a, ww_V X Y ad G nL a.2 (pc + 3) lv (.int a.1 :: st) ((E a).bind K)) : ww_V X Y ad G nL σ pc lv st0 ((f.bind E).bind K) :=
  ww_callV (kc := fun q => (some (.int q.1), q.2)) hC hM hm hlk hG hc hh hL hs8 hst hd kk
theorem ww_callSw (hC : ww_C X l0 Y ad G h cc nL own) {f : Option (Int32 × ww_M)} {E : (Int32 × ww_M) → Option β} {K : β → Option ww_R} {y : MethodName} {bytes : ByteArray} {maxL h' index : Nat} {ret : Option FieldType} {As : List Value} (hM : ww_Cn l0 Y ad G y bytes maxL ret h' As σ (f.bind ww_rw)) (hm : ww_mS y bytes maxL ret As.length) (hlk : Cond.methodLink own index y ∈ ww_T) (hh : h' + 1 ≤ h) (hL : maxL ≤ 21) (hs8 : (st.map fun v => v.category).sum ≤ 8) (hst : st0 = As.reverse ++ st) (hd : decode cc pc = .ok (.invokestatic index, 3)) (kk : ∀ a, ww_V X Y ad G nL a.2 (pc + 3) lv (.int a.1 :: st) ((E a).bind K)) : ww_V X Y ad G nL σ pc lv st0 ((f.bind E).bind K) :=
  ww_callS (kc := fun q => (some (.int q.1), q.2)) hC hM hm hlk hh hL hs8 hst hd kk
theorem ww_callSNw (hC : ww_C X l0 Y ad G h cc nL own) {f : Option (Int32 × ww_M)} {E : (Int32 × ww_M) → Option β} {K : β → Option ww_R} {y : MethodName} {bytes : ByteArray} {host : String} {maxL h' index : Nat} {ret : Option FieldType} {As : List Value} (hM : ww_Cn l0 Y ad G y bytes maxL ret h' As σ (f.bind ww_rw)) (hm : ww_mS y bytes maxL ret As.length) (hlk : Cond.methodLinkNest own index y host ∈ ww_N) (hh : h' + 1 ≤ h) (hL : maxL ≤ 21) (hs8 : (st.map fun v => v.category).sum ≤ 8) (hst : st0 = As.reverse ++ st) (hd : decode cc pc = .ok (.invokestatic index, 3)) (kk : ∀ a, ww_V X Y ad G nL a.2 (pc + 3) lv (.int a.1 :: st) ((E a).bind K)) : ww_V X Y ad G nL σ pc lv st0 ((f.bind E).bind K) :=
  ww_callSN (kc := fun q => (some (.int q.1), q.2)) hC hM hm hlk hh hL hs8 hst hd kk
theorem ww_callVv (hC : ww_C X l0 Y ad G h cc nL own) {f : Option (ww_M)} {E : (ww_M) → Option β} {K : β → Option ww_R} {y : MethodName} {bytes : ByteArray} {maxL h' b ci N index : Nat} {ret : Option FieldType} {T : u_T} {fs : List (Option Nat)} {As : List Value} (hM : ww_Cn l0 Y ad G y bytes maxL ret h' (.ref (ad b) :: As) σ (f.bind ww_rv)) (hm : ww_mV y bytes maxL ret As.length) (hlk : Cond.methodLink own index y ∈ ww_T) (hG : G[b]? = some (.inl (ci, fs))) (hc : vwCl[ci]? = some (y.cls, T, N)) (hh : h' + 1 ≤ h) (hL : maxL ≤ 21) (hs8 : (st.map fun v => v.category).sum ≤ 8) (hst : st0 = As.reverse ++ .ref (ad b) :: st) (hd : decode cc pc = .ok (.invokevirtual index, 3)) (kk : ∀ a, ww_V X Y ad G nL a (pc + 3) lv st ((E a).bind K)) : ww_V X Y ad G nL σ pc lv st0 ((f.bind E).bind K) :=
  ww_callV (kc := fun τ => (none, τ)) hC hM hm hlk hG hc hh hL hs8 hst hd kk
theorem ww_callSv (hC : ww_C X l0 Y ad G h cc nL own) {f : Option (ww_M)} {E : (ww_M) → Option β} {K : β → Option ww_R} {y : MethodName} {bytes : ByteArray} {maxL h' index : Nat} {ret : Option FieldType} {As : List Value} (hM : ww_Cn l0 Y ad G y bytes maxL ret h' As σ (f.bind ww_rv)) (hm : ww_mS y bytes maxL ret As.length) (hlk : Cond.methodLink own index y ∈ ww_T) (hh : h' + 1 ≤ h) (hL : maxL ≤ 21) (hs8 : (st.map fun v => v.category).sum ≤ 8) (hst : st0 = As.reverse ++ st) (hd : decode cc pc = .ok (.invokestatic index, 3)) (kk : ∀ a, ww_V X Y ad G nL a (pc + 3) lv st ((E a).bind K)) : ww_V X Y ad G nL σ pc lv st0 ((f.bind E).bind K) :=
  ww_callS (kc := fun τ => (none, τ)) hC hM hm hlk hh hL hs8 hst hd kk
theorem ww_callSNv (hC : ww_C X l0 Y ad G h cc nL own) {f : Option (ww_M)} {E : (ww_M) → Option β} {K : β → Option ww_R} {y : MethodName} {bytes : ByteArray} {host : String} {maxL h' index : Nat} {ret : Option FieldType} {As : List Value} (hM : ww_Cn l0 Y ad G y bytes maxL ret h' As σ (f.bind ww_rv)) (hm : ww_mS y bytes maxL ret As.length) (hlk : Cond.methodLinkNest own index y host ∈ ww_N) (hh : h' + 1 ≤ h) (hL : maxL ≤ 21) (hs8 : (st.map fun v => v.category).sum ≤ 8) (hst : st0 = As.reverse ++ st) (hd : decode cc pc = .ok (.invokestatic index, 3)) (kk : ∀ a, ww_V X Y ad G nL a (pc + 3) lv st ((E a).bind K)) : ww_V X Y ad G nL σ pc lv st0 ((f.bind E).bind K) :=
  ww_callSN (kc := fun τ => (none, τ)) hC hM hm hlk hh hL hs8 hst hd kk
end WCALL2
end
section
/-! ===== the pure functions of the methods, printed by wip/gen out of the bytecode ===== -/
def ww_fill (σ : ww_M) (k n : Nat) (x : Int32) : ww_M := ww_upr σ k (fun j => if j < n then x else σ k j)
def ww_cpy (σ : ww_M) (a b n : Nat) : ww_M := ww_upr σ b (fun j => if j < n then σ a j else σ b j)
def ww_slen (i : Nat) : Int32 := nI (ww_sl.getD i 0)
def ww_sin (i : Nat) (k : Int32) : Bool := ww_in k (ww_sl.getD i 0)
def ww_schr (i k : Nat) : Int32 := (ww_sb.getD i []).getD k 0 &&& 255
def f_X4_add (σ : ww_M) (o0 : Nat) (p1 : Int32) : Option (Int32 × ww_M) :=
  (if (σ o0 1) < 160 then ww_ck (ww_in (σ o0 1) 160) (some (1, ww_up (ww_up σ (o0 + 1) (ww_ix (σ o0 1)) (vp_nar .byte p1.toInt8.toInt32)) o0 1 (((ww_up σ (o0 + 1) (ww_ix (σ o0 1)) (vp_nar .byte p1.toInt8.toInt32)) o0 1) + 1))) else some (0, σ))
def f_X6_within (p0 : Int32) (p1 : Int32) (p2 : Int32) : Option (Int32) :=
  (if p0 < p1 then some 0 else (if p2 < p0 then some 0 else some 1))
def f_X4_isLetter (p0 : Int32) : Option (Int32) :=
  (f_X6_within p0 97 122).bind (fun v5 => ww_ck (ww_isb v5) (some v5))
def f_X4_stepName_b5 (o0 : Nat) (a5 : ww_M) : Option ((ww_M) ⊕ (ww_M)) :=
  (if (a5 o0 1) ≤ (a5 o0 2) then some (.inr a5) else ww_ck (ww_in (a5 o0 2) 160) ((f_X4_isLetter (a5 (o0 + 1) (ww_ix (a5 o0 2)))).bind (fun v25 => (if v25 = 0 then some (.inr a5) else some (.inl (ww_up a5 o0 2 ((a5 o0 2) + 1)))))))
def f_X4_stepName_j44 (σ : ww_M) (o0 : Nat) : Option (ww_M) :=
  some σ
def f_X4_stepName_j5 (σ : ww_M) (o0 : Nat) : Option (ww_M) :=
  (ww_it (f_X4_stepName_b5 o0) ww_F σ).bind (fun b5 => f_X4_stepName_j44 b5 o0)
def f_X4_stepName (σ : ww_M) (o0 : Nat) : Option (ww_M) :=
  f_X4_stepName_j5 (ww_up σ o0 3 1) o0
def f_X4_isFigure (p0 : Int32) : Option (Int32) :=
  (f_X6_within p0 48 57).bind (fun v5 => ww_ck (ww_isb v5) (some v5))
def f_X4_stepNumber_b5 (o0 : Nat) (a5 : ww_M) : Option ((ww_M) ⊕ (ww_M)) :=
  (if (a5 o0 1) ≤ (a5 o0 2) then some (.inr a5) else ww_ck (ww_in (a5 o0 2) 160) ((f_X4_isFigure (a5 (o0 + 1) (ww_ix (a5 o0 2)))).bind (fun v25 => (if v25 = 0 then some (.inr a5) else ww_ck (ww_in (a5 o0 2) 160) (some (.inl (ww_up (ww_up a5 o0 5 ((((a5 o0 5) * 10) + (a5 (o0 + 1) (ww_ix (a5 o0 2)))) - 48)) o0 2 (((ww_up a5 o0 5 ((((a5 o0 5) * 10) + (a5 (o0 + 1) (ww_ix (a5 o0 2)))) - 48)) o0 2) + 1))))))))
def f_X4_stepNumber_j68 (σ : ww_M) (o0 : Nat) : Option (ww_M) :=
  (if ((σ o0 2) - (σ o0 4)) ≤ 2 then some (ww_up σ o0 3 2) else some (ww_up σ o0 3 4))
def f_X4_stepNumber_j5 (σ : ww_M) (o0 : Nat) : Option (ww_M) :=
  (ww_it (f_X4_stepNumber_b5 o0) ww_F σ).bind (fun b5 => f_X4_stepNumber_j68 b5 o0)
def f_X4_stepNumber (σ : ww_M) (o0 : Nat) : Option (ww_M) :=
  f_X4_stepNumber_j5 (ww_up σ o0 5 0) o0
def f_X4_step_b0 (o0 : Nat) (a0 : ww_M) : Option ((ww_M) ⊕ (ww_M)) :=
  (if (a0 o0 1) ≤ (a0 o0 2) then some (.inr a0) else ww_ck (ww_in (a0 o0 2) 160) ((if (a0 (o0 + 1) (ww_ix (a0 o0 2))) = 32 then some (.inl (ww_up a0 o0 2 ((a0 o0 2) + 1))) else some (.inr a0))))
def f_X4_step_j38 (σ : ww_M) (o0 : Nat) : Option (ww_M) :=
  (if ((ww_up σ o0 4 (σ o0 2)) o0 2) < ((ww_up σ o0 4 (σ o0 2)) o0 1) then ww_ck (ww_in ((ww_up σ o0 4 (σ o0 2)) o0 2) 160) ((f_X4_isLetter ((ww_up σ o0 4 (σ o0 2)) (o0 + 1) (ww_ix ((ww_up σ o0 4 (σ o0 2)) o0 2)))).bind (fun v74 => (if v74 = 0 then ww_ck (ww_in ((ww_up σ o0 4 (σ o0 2)) o0 2) 160) ((f_X4_isFigure ((ww_up σ o0 4 (σ o0 2)) (o0 + 1) (ww_ix ((ww_up σ o0 4 (σ o0 2)) o0 2)))).bind (fun v96 => (if v96 = 0 then ww_ck (ww_in ((ww_up σ o0 4 (σ o0 2)) o0 2) 160) ((if ((ww_up σ o0 4 (σ o0 2)) (o0 + 1) (ww_ix ((ww_up σ o0 4 (σ o0 2)) o0 2))) = 59 then some (ww_up (ww_up (ww_up σ o0 4 (σ o0 2)) o0 3 3) o0 2 (((ww_up (ww_up σ o0 4 (σ o0 2)) o0 3 3) o0 2) + 1)) else some (ww_up (ww_up (ww_up σ o0 4 (σ o0 2)) o0 3 4) o0 2 (((ww_up (ww_up σ o0 4 (σ o0 2)) o0 3 4) o0 2) + 1)))) else (f_X4_stepNumber (ww_up σ o0 4 (σ o0 2)) o0).bind (fun v103 => some v103)))) else (f_X4_stepName (ww_up σ o0 4 (σ o0 2)) o0).bind (fun v81 => some v81)))) else some (ww_up (ww_up σ o0 4 (σ o0 2)) o0 3 0))
def f_X4_step_j0 (σ : ww_M) (o0 : Nat) : Option (ww_M) :=
  (ww_it (f_X4_step_b0 o0) ww_F σ).bind (fun b0 => f_X4_step_j38 b0 o0)
def f_X4_step (σ : ww_M) (o0 : Nat) : Option (ww_M) :=
  f_X4_step_j0 σ o0
def f_X4_isName_b28 (σ : ww_M) (o0 : Nat) (o1 : Nat) (a28 : Int32) : Option ((Int32) ⊕ ((Unit) ⊕ (Int32))) :=
  (if (ww_slen o1) ≤ a28 then some (.inr (.inl ())) else ww_ck (ww_in ((σ o0 4) + a28) 160) (ww_ck (ww_sin o1 a28) ((if (σ (o0 + 1) (ww_ix ((σ o0 4) + a28))) = (ww_schr o1 (ww_ix a28)) then some (.inl (a28 + 1)) else some (.inr (.inr 0))))))
def f_X4_isName_j63 (σ : ww_M) (o0 : Nat) (o1 : Nat) : Option (Int32) :=
  some 1
def f_X4_isName_j28 (σ : ww_M) (o0 : Nat) (o1 : Nat) (x2 : Int32) : Option (Int32) :=
  (ww_it (f_X4_isName_b28 σ o0 o1) ww_F x2).bind (fun b28 => match b28 with
    | .inl b28 => f_X4_isName_j63 σ o0 o1
    | .inr g28 => some g28)
def f_X4_isName (σ : ww_M) (o0 : Nat) (o1 : Nat) : Option (Int32) :=
  (if (σ o0 3) = 1 then (if ((σ o0 2) - (σ o0 4)) = (ww_slen o1) then f_X4_isName_j28 σ o0 o1 0 else some 0) else some 0)
def f_X2_clear (σ : ww_M) (o0 : Nat) : Option (ww_M) :=
  some (ww_fill (ww_up (ww_up (ww_up (ww_up (ww_up (ww_up (ww_up (ww_up (ww_up σ o0 9 0) o0 10 1) (o0 + 3) 0 0) o0 11 0) o0 12 0) o0 13 4) o0 14 1) o0 15 0) o0 16 0) (o0 + 9) 4 0)
def f_X2_copyFrom (σ : ww_M) (o0 : Nat) (o1 : Nat) : Option (ww_M) :=
  some (ww_up (ww_up (ww_up (ww_up (ww_up (ww_up (ww_up (ww_up (ww_cpy (ww_cpy (ww_cpy (ww_cpy (ww_cpy (ww_cpy (ww_cpy (ww_cpy (ww_cpy σ (o1 + 1) (o0 + 1) 6) (o1 + 2) (o0 + 2) 6) (o1 + 3) (o0 + 3) 6) (o1 + 4) (o0 + 4) 3) (o1 + 5) (o0 + 5) 3) (o1 + 6) (o0 + 6) 9) (o1 + 7) (o0 + 7) 9) (o1 + 8) (o0 + 8) 9) (o1 + 9) (o0 + 9) 4) o0 9 ((ww_cpy (ww_cpy (ww_cpy (ww_cpy (ww_cpy (ww_cpy (ww_cpy (ww_cpy (ww_cpy σ (o1 + 1) (o0 + 1) 6) (o1 + 2) (o0 + 2) 6) (o1 + 3) (o0 + 3) 6) (o1 + 4) (o0 + 4) 3) (o1 + 5) (o0 + 5) 3) (o1 + 6) (o0 + 6) 9) (o1 + 7) (o0 + 7) 9) (o1 + 8) (o0 + 8) 9) (o1 + 9) (o0 + 9) 4) o1 9)) o0 10 ((ww_up (ww_cpy (ww_cpy (ww_cpy (ww_cpy (ww_cpy (ww_cpy (ww_cpy (ww_cpy (ww_cpy σ (o1 + 1) (o0 + 1) 6) (o1 + 2) (o0 + 2) 6) (o1 + 3) (o0 + 3) 6) (o1 + 4) (o0 + 4) 3) (o1 + 5) (o0 + 5) 3) (o1 + 6) (o0 + 6) 9) (o1 + 7) (o0 + 7) 9) (o1 + 8) (o0 + 8) 9) (o1 + 9) (o0 + 9) 4) o0 9 ((ww_cpy (ww_cpy (ww_cpy (ww_cpy (ww_cpy (ww_cpy (ww_cpy (ww_cpy (ww_cpy σ (o1 + 1) (o0 + 1) 6) (o1 + 2) (o0 + 2) 6) (o1 + 3) (o0 + 3) 6) (o1 + 4) (o0 + 4) 3) (o1 + 5) (o0 + 5) 3) (o1 + 6) (o0 + 6) 9) (o1 + 7) (o0 + 7) 9) (o1 + 8) (o0 + 8) 9) (o1 + 9) (o0 + 9) 4) o1 9)) o1 10)) o0 11 ((ww_up (ww_up (ww_cpy (ww_cpy (ww_cpy (ww_cpy (ww_cpy (ww_cpy (ww_cpy (ww_cpy (ww_cpy σ (o1 + 1) (o0 + 1) 6) (o1 + 2) (o0 + 2) 6) (o1 + 3) (o0 + 3) 6) (o1 + 4) (o0 + 4) 3) (o1 + 5) (o0 + 5) 3) (o1 + 6) (o0 + 6) 9) (o1 + 7) (o0 + 7) 9) (o1 + 8) (o0 + 8) 9) (o1 + 9) (o0 + 9) 4) o0 9 ((ww_cpy (ww_cpy (ww_cpy (ww_cpy (ww_cpy (ww_cpy (ww_cpy (ww_cpy (ww_cpy σ (o1 + 1) (o0 + 1) 6) (o1 + 2) (o0 + 2) 6) (o1 + 3) (o0 + 3) 6) (o1 + 4) (o0 + 4) 3) (o1 + 5) (o0 + 5) 3) (o1 + 6) (o0 + 6) 9) (o1 + 7) (o0 + 7) 9) (o1 + 8) (o0 + 8) 9) (o1 + 9) (o0 + 9) 4) o1 9)) o0 10 ((ww_up (ww_cpy (ww_cpy (ww_cpy (ww_cpy (ww_cpy (ww_cpy (ww_cpy (ww_cpy (ww_cpy σ (o1 + 1) (o0 + 1) 6) (o1 + 2) (o0 + 2) 6) (o1 + 3) (o0 + 3) 6) (o1 + 4) (o0 + 4) 3) (o1 + 5) (o0 + 5) 3) (o1 + 6) (o0 + 6) 9) (o1 + 7) (o0 + 7) 9) (o1 + 8) (o0 + 8) 9) (o1 + 9) (o0 + 9) 4) o0 9 ((ww_cpy (ww_cpy (ww_cpy (ww_cpy (ww_cpy (ww_cpy (ww_cpy (ww_cpy (ww_cpy σ (o1 + 1) (o0 + 1) 6) (o1 + 2) (o0 + 2) 6) (o1 + 3) (o0 + 3) 6) (o1 + 4) (o0 + 4) 3) (o1 + 5) (o0 + 5) 3) (o1 + 6) (o0 + 6) 9) (o1 + 7) (o0 + 7) 9) (o1 + 8) (o0 + 8) 9) (o1 + 9) (o0 + 9) 4) o1 9)) o1 10)) o1 11)) o0 12 ((ww_up (ww_up (ww_up (ww_cpy (ww_cpy (ww_cpy (ww_cpy (ww_cpy (ww_cpy (ww_cpy (ww_cpy (ww_cpy σ (o1 + 1) (o0 + 1) 6) (o1 + 2) (o0 + 2) 6) (o1 + 3) (o0 + 3) 6) (o1 + 4) (o0 + 4) 3) (o1 + 5) (o0 + 5) 3) (o1 + 6) (o0 + 6) 9) (o1 + 7) (o0 + 7) 9) (o1 + 8) (o0 + 8) 9) (o1 + 9) (o0 + 9) 4) o0 9 ((ww_cpy (ww_cpy (ww_cpy (ww_cpy (ww_cpy (ww_cpy (ww_cpy (ww_cpy (ww_cpy σ (o1 + 1) (o0 + 1) 6) (o1 + 2) (o0 + 2) 6) (o1 + 3) (o0 + 3) 6) (o1 + 4) (o0 + 4) 3) (o1 + 5) (o0 + 5) 3) (o1 + 6) (o0 + 6) 9) (o1 + 7) (o0 + 7) 9) (o1 + 8) (o0 + 8) 9) (o1 + 9) (o0 + 9) 4) o1 9)) o0 10 ((ww_up (ww_cpy (ww_cpy (ww_cpy (ww_cpy (ww_cpy (ww_cpy (ww_cpy (ww_cpy (ww_cpy σ (o1 + 1) (o0 + 1) 6) (o1 + 2) (o0 + 2) 6) (o1 + 3) (o0 + 3) 6) (o1 + 4) (o0 + 4) 3) (o1 + 5) (o0 + 5) 3) (o1 + 6) (o0 + 6) 9) (o1 + 7) (o0 + 7) 9) (o1 + 8) (o0 + 8) 9) (o1 + 9) (o0 + 9) 4) o0 9 ((ww_cpy (ww_cpy (ww_cpy (ww_cpy (ww_cpy (ww_cpy (ww_cpy (ww_cpy (ww_cpy σ (o1 + 1) (o0 + 1) 6) (o1 + 2) (o0 + 2) 6) (o1 + 3) (o0 + 3) 6) (o1 + 4) (o0 + 4) 3) (o1 + 5) (o0 + 5) 3) (o1 + 6) (o0 + 6) 9) (o1 + 7) (o0 + 7) 9) (o1 + 8) (o0 + 8) 9) (o1 + 9) (o0 + 9) 4) o1 9)) o1 10)) o0 11 ((ww_up (ww_up (ww_cpy (ww_cpy (ww_cpy (ww_cpy (ww_cpy (ww_cpy (ww_cpy (ww_cpy (ww_cpy σ (o1 + 1) (o0 + 1) 6) (o1 + 2) (o0 + 2) 6) (o1 + 3) (o0 + 3) 6) (o1 + 4) (o0 + 4) 3) (o1 + 5) (o0 + 5) 3) (o1 + 6) (o0 + 6) 9) (o1 + 7) (o0 + 7) 9) (o1 + 8) (o0 + 8) 9) (o1 + 9) (o0 + 9) 4) o0 9 ((ww_cpy (ww_cpy (ww_cpy (ww_cpy (ww_cpy (ww_cpy (ww_cpy (ww_cpy (ww_cpy σ (o1 + 1) (o0 + 1) 6) (o1 + 2) (o0 + 2) 6) (o1 + 3) (o0 + 3) 6) (o1 + 4) (o0 + 4) 3) (o1 + 5) (o0 + 5) 3) (o1 + 6) (o0 + 6) 9) (o1 + 7) (o0 + 7) 9) (o1 + 8) (o0 + 8) 9) (o1 + 9) (o0 + 9) 4) o1 9)) o0 10 ((ww_up (ww_cpy (ww_cpy (ww_cpy (ww_cpy (ww_cpy (ww_cpy (ww_cpy (ww_cpy (ww_cpy σ (o1 + 1) (o0 + 1) 6) (o1 + 2) (o0 + 2) 6) (o1 + 3) (o0 + 3) 6) (o1 + 4) (o0 + 4) 3) (o1 + 5) (o0 + 5) 3) (o1 + 6) (o0 + 6) 9) (o1 + 7) (o0 + 7) 9) (o1 + 8) (o0 + 8) 9) (o1 + 9) (o0 + 9) 4) o0 9 ((ww_cpy (ww_cpy (ww_cpy (ww_cpy (ww_cpy (ww_cpy (ww_cpy (ww_cpy (ww_cpy σ (o1 + 1) (o0 + 1) 6) (o1 + 2) (o0 + 2) 6) (o1 + 3) (o0 + 3) 6) (o1 + 4) (o0 + 4) 3) (o1 + 5) (o0 + 5) 3) (o1 + 6) (o0 + 6) 9) (o1 + 7) (o0 + 7) 9) (o1 + 8) (o0 + 8) 9) (o1 + 9) (o0 + 9) 4) o1 9)) o1 10)) o1 11)) o1 12)) o0 13 ((ww_up (ww_up (ww_up (ww_up (ww_cpy (ww_cpy (ww_cpy (ww_cpy (ww_cpy (ww_cpy (ww_cpy (ww_cpy (ww_cpy σ (o1 + 1) (o0 + 1) 6) (o1 + 2) (o0 + 2) 6) (o1 + 3) (o0 + 3) 6) (o1 + 4) (o0 + 4) 3) (o1 + 5) (o0 + 5) 3) (o1 + 6) (o0 + 6) 9) (o1 + 7) (o0 + 7) 9) (o1 + 8) (o0 + 8) 9) (o1 + 9) (o0 + 9) 4) o0 9 ((ww_cpy (ww_cpy (ww_cpy (ww_cpy (ww_cpy (ww_cpy (ww_cpy (ww_cpy (ww_cpy σ (o1 + 1) (o0 + 1) 6) (o1 + 2) (o0 + 2) 6) (o1 + 3) (o0 + 3) 6) (o1 + 4) (o0 + 4) 3) (o1 + 5) (o0 + 5) 3) (o1 + 6) (o0 + 6) 9) (o1 + 7) (o0 + 7) 9) (o1 + 8) (o0 + 8) 9) (o1 + 9) (o0 + 9) 4) o1 9)) o0 10 ((ww_up (ww_cpy (ww_cpy (ww_cpy (ww_cpy (ww_cpy (ww_cpy (ww_cpy (ww_cpy (ww_cpy σ (o1 + 1) (o0 + 1) 6) (o1 + 2) (o0 + 2) 6) (o1 + 3) (o0 + 3) 6) (o1 + 4) (o0 + 4) 3) (o1 + 5) (o0 + 5) 3) (o1 + 6) (o0 + 6) 9) (o1 + 7) (o0 + 7) 9) (o1 + 8) (o0 + 8) 9) (o1 + 9) (o0 + 9) 4) o0 9 ((ww_cpy (ww_cpy (ww_cpy (ww_cpy (ww_cpy (ww_cpy (ww_cpy (ww_cpy (ww_cpy σ (o1 + 1) (o0 + 1) 6) (o1 + 2) (o0 + 2) 6) (o1 + 3) (o0 + 3) 6) (o1 + 4) (o0 + 4) 3) (o1 + 5) (o0 + 5) 3) (o1 + 6) (o0 + 6) 9) (o1 + 7) (o0 + 7) 9) (o1 + 8) (o0 + 8) 9) (o1 + 9) (o0 + 9) 4) o1 9)) o1 10)) o0 11 ((ww_up (ww_up (ww_cpy (ww_cpy (ww_cpy (ww_cpy (ww_cpy (ww_cpy (ww_cpy (ww_cpy (ww_cpy σ (o1 + 1) (o0 + 1) 6) (o1 + 2) (o0 + 2) 6) (o1 + 3) (o0 + 3) 6) (o1 + 4) (o0 + 4) 3) (o1 + 5) (o0 + 5) 3) (o1 + 6) (o0 + 6) 9) (o1 + 7) (o0 + 7) 9) (o1 + 8) (o0 + 8) 9) (o1 + 9) (o0 + 9) 4) o0 9 ((ww_cpy (ww_cpy (ww_cpy (ww_cpy (ww_cpy (ww_cpy (ww_cpy (ww_cpy (ww_cpy σ (o1 + 1) (o0 + 1) 6) (o1 + 2) (o0 + 2) 6) (o1 + 3) (o0 + 3) 6) (o1 + 4) (o0 + 4) 3) (o1 + 5) (o0 + 5) 3) (o1 + 6) (o0 + 6) 9) (o1 + 7) (o0 + 7) 9) (o1 + 8) (o0 + 8) 9) (o1 + 9) (o0 + 9) 4) o1 9)) o0 10 ((ww_up (ww_cpy (ww_cpy (ww_cpy (ww_cpy (ww_cpy (ww_cpy (ww_cpy (ww_cpy (ww_cpy σ (o1 + 1) (o0 + 1) 6) (o1 + 2) (o0 + 2) 6) (o1 + 3) (o0 + 3) 6) (o1 + 4) (o0 + 4) 3) (o1 + 5) (o0 + 5) 3) (o1 + 6) (o0 + 6) 9) (o1 + 7) (o0 + 7) 9) (o1 + 8) (o0 + 8) 9) (o1 + 9) (o0 + 9) 4) o0 9 ((ww_cpy (ww_cpy (ww_cpy (ww_cpy (ww_cpy (ww_cpy (ww_cpy (ww_cpy (ww_cpy σ (o1 + 1) (o0 + 1) 6) (o1 + 2) (o0 + 2) 6) (o1 + 3) (o0 + 3) 6) (o1 + 4) (o0 + 4) 3) (o1 + 5) (o0 + 5) 3) (o1 + 6) (o0 + 6) 9) (o1 + 7) (o0 + 7) 9) (o1 + 8) (o0 + 8) 9) (o1 + 9) (o0 + 9) 4) o1 9)) o1 10)) o1 11)) o0 12 ((ww_up (ww_up (ww_up (ww_cpy (ww_cpy (ww_cpy (ww_cpy (ww_cpy (ww_cpy (ww_cpy (ww_cpy (ww_cpy σ (o1 + 1) (o0 + 1) 6) (o1 + 2) (o0 + 2) 6) (o1 + 3) (o0 + 3) 6) (o1 + 4) (o0 + 4) 3) (o1 + 5) (o0 + 5) 3) (o1 + 6) (o0 + 6) 9) (o1 + 7) (o0 + 7) 9) (o1 + 8) (o0 + 8) 9) (o1 + 9) (o0 + 9) 4) o0 9 ((ww_cpy (ww_cpy (ww_cpy (ww_cpy (ww_cpy (ww_cpy (ww_cpy (ww_cpy (ww_cpy σ (o1 + 1) (o0 + 1) 6) (o1 + 2) (o0 + 2) 6) (o1 + 3) (o0 + 3) 6) (o1 + 4) (o0 + 4) 3) (o1 + 5) (o0 + 5) 3) (o1 + 6) (o0 + 6) 9) (o1 + 7) (o0 + 7) 9) (o1 + 8) (o0 + 8) 9) (o1 + 9) (o0 + 9) 4) o1 9)) o0 10 ((ww_up (ww_cpy (ww_cpy (ww_cpy (ww_cpy (ww_cpy (ww_cpy (ww_cpy (ww_cpy (ww_cpy σ (o1 + 1) (o0 + 1) 6) (o1 + 2) (o0 + 2) 6) (o1 + 3) (o0 + 3) 6) (o1 + 4) (o0 + 4) 3) (o1 + 5) (o0 + 5) 3) (o1 + 6) (o0 + 6) 9) (o1 + 7) (o0 + 7) 9) (o1 + 8) (o0 + 8) 9) (o1 + 9) (o0 + 9) 4) o0 9 ((ww_cpy (ww_cpy (ww_cpy (ww_cpy (ww_cpy (ww_cpy (ww_cpy (ww_cpy (ww_cpy σ (o1 + 1) (o0 + 1) 6) (o1 + 2) (o0 + 2) 6) (o1 + 3) (o0 + 3) 6) (o1 + 4) (o0 + 4) 3) (o1 + 5) (o0 + 5) 3) (o1 + 6) (o0 + 6) 9) (o1 + 7) (o0 + 7) 9) (o1 + 8) (o0 + 8) 9) (o1 + 9) (o0 + 9) 4) o1 9)) o1 10)) o0 11 ((ww_up (ww_up (ww_cpy (ww_cpy (ww_cpy (ww_cpy (ww_cpy (ww_cpy (ww_cpy (ww_cpy (ww_cpy σ (o1 + 1) (o0 + 1) 6) (o1 + 2) (o0 + 2) 6) (o1 + 3) (o0 + 3) 6) (o1 + 4) (o0 + 4) 3) (o1 + 5) (o0 + 5) 3) (o1 + 6) (o0 + 6) 9) (o1 + 7) (o0 + 7) 9) (o1 + 8) (o0 + 8) 9) (o1 + 9) (o0 + 9) 4) o0 9 ((ww_cpy (ww_cpy (ww_cpy (ww_cpy (ww_cpy (ww_cpy (ww_cpy (ww_cpy (ww_cpy σ (o1 + 1) (o0 + 1) 6) (o1 + 2) (o0 + 2) 6) (o1 + 3) (o0 + 3) 6) (o1 + 4) (o0 + 4) 3) (o1 + 5) (o0 + 5) 3) (o1 + 6) (o0 + 6) 9) (o1 + 7) (o0 + 7) 9) (o1 + 8) (o0 + 8) 9) (o1 + 9) (o0 + 9) 4) o1 9)) o0 10 ((ww_up (ww_cpy (ww_cpy (ww_cpy (ww_cpy (ww_cpy (ww_cpy (ww_cpy (ww_cpy (ww_cpy σ (o1 + 1) (o0 + 1) 6) (o1 + 2) (o0 + 2) 6) (o1 + 3) (o0 + 3) 6) (o1 + 4) (o0 + 4) 3) (o1 + 5) (o0 + 5) 3) (o1 + 6) (o0 + 6) 9) (o1 + 7) (o0 + 7) 9) (o1 + 8) (o0 + 8) 9) (o1 + 9) (o0 + 9) 4) o0 9 ((ww_cpy (ww_cpy (ww_cpy (ww_cpy (ww_cpy (ww_cpy (ww_cpy (ww_cpy (ww_cpy σ (o1 + 1) (o0 + 1) 6) (o1 + 2) (o0 + 2) 6) (o1 + 3) (o0 + 3) 6) (o1 + 4) (o0 + 4) 3) (o1 + 5) (o0 + 5) 3) (o1 + 6) (o0 + 6) 9) (o1 + 7) (o0 + 7) 9) (o1 + 8) (o0 + 8) 9) (o1 + 9) (o0 + 9) 4) o1 9)) o1 10)) o1 11)) o1 12)) o1 13)) o0 14 ((ww_up (ww_up (ww_up (ww_up (ww_up (ww_cpy (ww_cpy (ww_cpy (ww_cpy (ww_cpy (ww_cpy (ww_cpy (ww_cpy (ww_cpy σ (o1 + 1) (o0 + 1) 6) (o1 + 2) (o0 + 2) 6) (o1 + 3) (o0 + 3) 6) (o1 + 4) (o0 + 4) 3) (o1 + 5) (o0 + 5) 3) (o1 + 6) (o0 + 6) 9) (o1 + 7) (o0 + 7) 9) (o1 + 8) (o0 + 8) 9) (o1 + 9) (o0 + 9) 4) o0 9 ((ww_cpy (ww_cpy (ww_cpy (ww_cpy (ww_cpy (ww_cpy (ww_cpy (ww_cpy (ww_cpy σ (o1 + 1) (o0 + 1) 6) (o1 + 2) (o0 + 2) 6) (o1 + 3) (o0 + 3) 6) (o1 + 4) (o0 + 4) 3) (o1 + 5) (o0 + 5) 3) (o1 + 6) (o0 + 6) 9) (o1 + 7) (o0 + 7) 9) (o1 + 8) (o0 + 8) 9) (o1 + 9) (o0 + 9) 4) o1 9)) o0 10 ((ww_up (ww_cpy (ww_cpy (ww_cpy (ww_cpy (ww_cpy (ww_cpy (ww_cpy (ww_cpy (ww_cpy σ (o1 + 1) (o0 + 1) 6) (o1 + 2) (o0 + 2) 6) (o1 + 3) (o0 + 3) 6) (o1 + 4) (o0 + 4) 3) (o1 + 5) (o0 + 5) 3) (o1 + 6) (o0 + 6) 9) (o1 + 7) (o0 + 7) 9) (o1 + 8) (o0 + 8) 9) (o1 + 9) (o0 + 9) 4) o0 9 ((ww_cpy (ww_cpy (ww_cpy (ww_cpy (ww_cpy (ww_cpy (ww_cpy (ww_cpy (ww_cpy σ (o1 + 1) (o0 + 1) 6) (o1 + 2) (o0 + 2) 6) (o1 + 3) (o0 + 3) 6) (o1 + 4) (o0 + 4) 3) (o1 + 5) (o0 + 5) 3) (o1 + 6) (o0 + 6) 9) (o1 + 7) (o0 + 7) 9) (o1 + 8) (o0 + 8) 9) (o1 + 9) (o0 + 9) 4) o1 9)) o1 10)) o0 11 ((ww_up (ww_up (ww_cpy (ww_cpy (ww_cpy (ww_cpy (ww_cpy (ww_cpy (ww_cpy (ww_cpy (ww_cpy σ (o1 + 1) (o0 + 1) 6) (o1 + 2) (o0 + 2) 6) (o1 + 3) (o0 + 3) 6) (o1 + 4) (o0 + 4) 3) (o1 + 5) (o0 + 5) 3) (o1 + 6) (o0 + 6) 9) (o1 + 7) (o0 + 7) 9) (o1 + 8) (o0 + 8) 9) (o1 + 9) (o0 + 9) 4) o0 9 ((ww_cpy (ww_cpy (ww_cpy (ww_cpy (ww_cpy (ww_cpy (ww_cpy (ww_cpy (ww_cpy σ (o1 + 1) (o0 + 1) 6) (o1 + 2) (o0 + 2) 6) (o1 + 3) (o0 + 3) 6) (o1 + 4) (o0 + 4) 3) (o1 + 5) (o0 + 5) 3) (o1 + 6) (o0 + 6) 9) (o1 + 7) (o0 + 7) 9) (o1 + 8) (o0 + 8) 9) (o1 + 9) (o0 + 9) 4) o1 9)) o0 10 ((ww_up (ww_cpy (ww_cpy (ww_cpy (ww_cpy (ww_cpy (ww_cpy (ww_cpy (ww_cpy (ww_cpy σ (o1 + 1) (o0 + 1) 6) (o1 + 2) (o0 + 2) 6) (o1 + 3) (o0 + 3) 6) (o1 + 4) (o0 + 4) 3) (o1 + 5) (o0 + 5) 3) (o1 + 6) (o0 + 6) 9) (o1 + 7) (o0 + 7) 9) (o1 + 8) (o0 + 8) 9) (o1 + 9) (o0 + 9) 4) o0 9 ((ww_cpy (ww_cpy (ww_cpy (ww_cpy (ww_cpy (ww_cpy (ww_cpy (ww_cpy (ww_cpy σ (o1 + 1) (o0 + 1) 6) (o1 + 2) (o0 + 2) 6) (o1 + 3) (o0 + 3) 6) (o1 + 4) (o0 + 4) 3) (o1 + 5) (o0 + 5) 3) (o1 + 6) (o0 + 6) 9) (o1 + 7) (o0 + 7) 9) (o1 + 8) (o0 + 8) 9) (o1 + 9) (o0 + 9) 4) o1 9)) o1 10)) o1 11)) o0 12 ((ww_up (ww_up (ww_up (ww_cpy (ww_cpy (ww_cpy (ww_cpy (ww_cpy (ww_cpy (ww_cpy (ww_cpy (ww_cpy σ (o1 + 1) (o0 + 1) 6) (o1 + 2) (o0 + 2) 6) (o1 + 3) (o0 + 3) 6) (o1 + 4) (o0 + 4) 3) (o1 + 5) (o0 + 5) 3) (o1 + 6) (o0 + 6) 9) (o1 + 7) (o0 + 7) 9) (o1 + 8) (o0 + 8) 9) (o1 + 9) (o0 + 9) 4) o0 9 ((ww_cpy (ww_cpy (ww_cpy (ww_cpy (ww_cpy (ww_cpy (ww_cpy (ww_cpy (ww_cpy σ (o1 + 1) (o0 + 1) 6) (o1 + 2) (o0 + 2) 6) (o1 + 3) (o0 + 3) 6) (o1 + 4) (o0 + 4) 3) (o1 + 5) (o0 + 5) 3) (o1 + 6) (o0 + 6) 9) (o1 + 7) (o0 + 7) 9) (o1 + 8) (o0 + 8) 9) (o1 + 9) (o0 + 9) 4) o1 9)) o0 10 ((ww_up (ww_cpy (ww_cpy (ww_cpy (ww_cpy (ww_cpy (ww_cpy (ww_cpy (ww_cpy (ww_cpy σ (o1 + 1) (o0 + 1) 6) (o1 + 2) (o0 + 2) 6) (o1 + 3) (o0 + 3) 6) (o1 + 4) (o0 + 4) 3) (o1 + 5) (o0 + 5) 3) (o1 + 6) (o0 + 6) 9) (o1 + 7) (o0 + 7) 9) (o1 + 8) (o0 + 8) 9) (o1 + 9) (o0 + 9) 4) o0 9 ((ww_cpy (ww_cpy (ww_cpy (ww_cpy (ww_cpy (ww_cpy (ww_cpy (ww_cpy (ww_cpy σ (o1 + 1) (o0 + 1) 6) (o1 + 2) (o0 + 2) 6) (o1 + 3) (o0 + 3) 6) (o1 + 4) (o0 + 4) 3) (o1 + 5) (o0 + 5) 3) (o1 + 6) (o0 + 6) 9) (o1 + 7) (o0 + 7) 9) (o1 + 8) (o0 + 8) 9) (o1 + 9) (o0 + 9) 4) o1 9)) o1 10)) o0 11 ((ww_up (ww_up (ww_cpy (ww_cpy (ww_cpy (ww_cpy (ww_cpy (ww_cpy (ww_cpy (ww_cpy (ww_cpy σ (o1 + 1) (o0 + 1) 6) (o1 + 2) (o0 + 2) 6) (o1 + 3) (o0 + 3) 6) (o1 + 4) (o0 + 4) 3) (o1 + 5) (o0 + 5) 3) (o1 + 6) (o0 + 6) 9) (o1 + 7) (o0 + 7) 9) (o1 + 8) (o0 + 8) 9) (o1 + 9) (o0 + 9) 4) o0 9 ((ww_cpy (ww_cpy (ww_cpy (ww_cpy (ww_cpy (ww_cpy (ww_cpy (ww_cpy (ww_cpy σ (o1 + 1) (o0 + 1) 6) (o1 + 2) (o0 + 2) 6) (o1 + 3) (o0 + 3) 6) (o1 + 4) (o0 + 4) 3) (o1 + 5) (o0 + 5) 3) (o1 + 6) (o0 + 6) 9) (o1 + 7) (o0 + 7) 9) (o1 + 8) (o0 + 8) 9) (o1 + 9) (o0 + 9) 4) o1 9)) o0 10 ((ww_up (ww_cpy (ww_cpy (ww_cpy (ww_cpy (ww_cpy (ww_cpy (ww_cpy (ww_cpy (ww_cpy σ (o1 + 1) (o0 + 1) 6) (o1 + 2) (o0 + 2) 6) (o1 + 3) (o0 + 3) 6) (o1 + 4) (o0 + 4) 3) (o1 + 5) (o0 + 5) 3) (o1 + 6) (o0 + 6) 9) (o1 + 7) (o0 + 7) 9) (o1 + 8) (o0 + 8) 9) (o1 + 9) (o0 + 9) 4) o0 9 ((ww_cpy (ww_cpy (ww_cpy (ww_cpy (ww_cpy (ww_cpy (ww_cpy (ww_cpy (ww_cpy σ (o1 + 1) (o0 + 1) 6) (o1 + 2) (o0 + 2) 6) (o1 + 3) (o0 + 3) 6) (o1 + 4) (o0 + 4) 3) (o1 + 5) (o0 + 5) 3) (o1 + 6) (o0 + 6) 9) (o1 + 7) (o0 + 7) 9) (o1 + 8) (o0 + 8) 9) (o1 + 9) (o0 + 9) 4) o1 9)) o1 10)) o1 11)) o1 12)) o0 13 ((ww_up (ww_up (ww_up (ww_up (ww_cpy (ww_cpy (ww_cpy (ww_cpy (ww_cpy (ww_cpy (ww_cpy (ww_cpy (ww_cpy σ (o1 + 1) (o0 + 1) 6) (o1 + 2) (o0 + 2) 6) (o1 + 3) (o0 + 3) 6) (o1 + 4) (o0 + 4) 3) (o1 + 5) (o0 + 5) 3) (o1 + 6) (o0 + 6) 9) (o1 + 7) (o0 + 7) 9) (o1 + 8) (o0 + 8) 9) (o1 + 9) (o0 + 9) 4) o0 9 ((ww_cpy (ww_cpy (ww_cpy (ww_cpy (ww_cpy (ww_cpy (ww_cpy (ww_cpy (ww_cpy σ (o1 + 1) (o0 + 1) 6) (o1 + 2) (o0 + 2) 6) (o1 + 3) (o0 + 3) 6) (o1 + 4) (o0 + 4) 3) (o1 + 5) (o0 + 5) 3) (o1 + 6) (o0 + 6) 9) (o1 + 7) (o0 + 7) 9) (o1 + 8) (o0 + 8) 9) (o1 + 9) (o0 + 9) 4) o1 9)) o0 10 ((ww_up (ww_cpy (ww_cpy (ww_cpy (ww_cpy (ww_cpy (ww_cpy (ww_cpy (ww_cpy (ww_cpy σ (o1 + 1) (o0 + 1) 6) (o1 + 2) (o0 + 2) 6) (o1 + 3) (o0 + 3) 6) (o1 + 4) (o0 + 4) 3) (o1 + 5) (o0 + 5) 3) (o1 + 6) (o0 + 6) 9) (o1 + 7) (o0 + 7) 9) (o1 + 8) (o0 + 8) 9) (o1 + 9) (o0 + 9) 4) o0 9 ((ww_cpy (ww_cpy (ww_cpy (ww_cpy (ww_cpy (ww_cpy (ww_cpy (ww_cpy (ww_cpy σ (o1 + 1) (o0 + 1) 6) (o1 + 2) (o0 + 2) 6) (o1 + 3) (o0 + 3) 6) (o1 + 4) (o0 + 4) 3) (o1 + 5) (o0 + 5) 3) (o1 + 6) (o0 + 6) 9) (o1 + 7) (o0 + 7) 9) (o1 + 8) (o0 + 8) 9) (o1 + 9) (o0 + 9) 4) o1 9)) o1 10)) o0 11 ((ww_up (ww_up (ww_cpy (ww_cpy (ww_cpy (ww_cpy (ww_cpy (ww_cpy (ww_cpy (ww_cpy (ww_cpy σ (o1 + 1) (o0 + 1) 6) (o1 + 2) (o0 + 2) 6) (o1 + 3) (o0 + 3) 6) (o1 + 4) (o0 + 4) 3) (o1 + 5) (o0 + 5) 3) (o1 + 6) (o0 + 6) 9) (o1 + 7) (o0 + 7) 9) (o1 + 8) (o0 + 8) 9) (o1 + 9) (o0 + 9) 4) o0 9 ((ww_cpy (ww_cpy (ww_cpy (ww_cpy (ww_cpy (ww_cpy (ww_cpy (ww_cpy (ww_cpy σ (o1 + 1) (o0 + 1) 6) (o1 + 2) (o0 + 2) 6) (o1 + 3) (o0 + 3) 6) (o1 + 4) (o0 + 4) 3) (o1 + 5) (o0 + 5) 3) (o1 + 6) (o0 + 6) 9) (o1 + 7) (o0 + 7) 9) (o1 + 8) (o0 + 8) 9) (o1 + 9) (o0 + 9) 4) o1 9)) o0 10 ((ww_up (ww_cpy (ww_cpy (ww_cpy (ww_cpy (ww_cpy (ww_cpy (ww_cpy (ww_cpy (ww_cpy σ (o1 + 1) (o0 + 1) 6) (o1 + 2) (o0 + 2) 6) (o1 + 3) (o0 + 3) 6) (o1 + 4) (o0 + 4) 3) (o1 + 5) (o0 + 5) 3) (o1 + 6) (o0 + 6) 9) (o1 + 7) (o0 + 7) 9) (o1 + 8) (o0 + 8) 9) (o1 + 9) (o0 + 9) 4) o0 9 ((ww_cpy (ww_cpy (ww_cpy (ww_cpy (ww_cpy (ww_cpy (ww_cpy (ww_cpy (ww_cpy σ (o1 + 1) (o0 + 1) 6) (o1 + 2) (o0 + 2) 6) (o1 + 3) (o0 + 3) 6) (o1 + 4) (o0 + 4) 3) (o1 + 5) (o0 + 5) 3) (o1 + 6) (o0 + 6) 9) (o1 + 7) (o0 + 7) 9) (o1 + 8) (o0 + 8) 9) (o1 + 9) (o0 + 9) 4) o1 9)) o1 10)) o1 11)) o0 12 ((ww_up (ww_up (ww_up (ww_cpy (ww_cpy (ww_cpy (ww_cpy (ww_cpy (ww_cpy (ww_cpy (ww_cpy (ww_cpy σ (o1 + 1) (o0 + 1) 6) (o1 + 2) (o0 + 2) 6) (o1 + 3) (o0 + 3) 6) (o1 + 4) (o0 + 4) 3) (o1 + 5) (o0 + 5) 3) (o1 + 6) (o0 + 6) 9) (o1 + 7) (o0 + 7) 9) (o1 + 8) (o0 + 8) 9) (o1 + 9) (o0 + 9) 4) o0 9 ((ww_cpy (ww_cpy (ww_cpy (ww_cpy (ww_cpy (ww_cpy (ww_cpy (ww_cpy (ww_cpy σ (o1 + 1) (o0 + 1) 6) (o1 + 2) (o0 + 2) 6) (o1 + 3) (o0 + 3) 6) (o1 + 4) (o0 + 4) 3) (o1 + 5) (o0 + 5) 3) (o1 + 6) (o0 + 6) 9) (o1 + 7) (o0 + 7) 9) (o1 + 8) (o0 + 8) 9) (o1 + 9) (o0 + 9) 4) o1 9)) o0 10 ((ww_up (ww_cpy (ww_cpy (ww_cpy (ww_cpy (ww_cpy (ww_cpy (ww_cpy (ww_cpy (ww_cpy σ (o1 + 1) (o0 + 1) 6) (o1 + 2) (o0 + 2) 6) (o1 + 3) (o0 + 3) 6) (o1 + 4) (o0 + 4) 3) (o1 + 5) (o0 + 5) 3) (o1 + 6) (o0 + 6) 9) (o1 + 7) (o0 + 7) 9) (o1 + 8) (o0 + 8) 9) (o1 + 9) (o0 + 9) 4) o0 9 ((ww_cpy (ww_cpy (ww_cpy (ww_cpy (ww_cpy (ww_cpy (ww_cpy (ww_cpy (ww_cpy σ (o1 + 1) (o0 + 1) 6) (o1 + 2) (o0 + 2) 6) (o1 + 3) (o0 + 3) 6) (o1 + 4) (o0 + 4) 3) (o1 + 5) (o0 + 5) 3) (o1 + 6) (o0 + 6) 9) (o1 + 7) (o0 + 7) 9) (o1 + 8) (o0 + 8) 9) (o1 + 9) (o0 + 9) 4) o1 9)) o1 10)) o0 11 ((ww_up (ww_up (ww_cpy (ww_cpy (ww_cpy (ww_cpy (ww_cpy (ww_cpy (ww_cpy (ww_cpy (ww_cpy σ (o1 + 1) (o0 + 1) 6) (o1 + 2) (o0 + 2) 6) (o1 + 3) (o0 + 3) 6) (o1 + 4) (o0 + 4) 3) (o1 + 5) (o0 + 5) 3) (o1 + 6) (o0 + 6) 9) (o1 + 7) (o0 + 7) 9) (o1 + 8) (o0 + 8) 9) (o1 + 9) (o0 + 9) 4) o0 9 ((ww_cpy (ww_cpy (ww_cpy (ww_cpy (ww_cpy (ww_cpy (ww_cpy (ww_cpy (ww_cpy σ (o1 + 1) (o0 + 1) 6) (o1 + 2) (o0 + 2) 6) (o1 + 3) (o0 + 3) 6) (o1 + 4) (o0 + 4) 3) (o1 + 5) (o0 + 5) 3) (o1 + 6) (o0 + 6) 9) (o1 + 7) (o0 + 7) 9) (o1 + 8) (o0 + 8) 9) (o1 + 9) (o0 + 9) 4) o1 9)) o0 10 ((ww_up (ww_cpy (ww_cpy (ww_cpy (ww_cpy (ww_cpy (ww_cpy (ww_cpy (ww_cpy (ww_cpy σ (o1 + 1) (o0 + 1) 6) (o1 + 2) (o0 + 2) 6) (o1 + 3) (o0 + 3) 6) (o1 + 4) (o0 + 4) 3) (o1 + 5) (o0 + 5) 3) (o1 + 6) (o0 + 6) 9) (o1 + 7) (o0 + 7) 9) (o1 + 8) (o0 + 8) 9) (o1 + 9) (o0 + 9) 4) o0 9 ((ww_cpy (ww_cpy (ww_cpy (ww_cpy (ww_cpy (ww_cpy (ww_cpy (ww_cpy (ww_cpy σ (o1 + 1) (o0 + 1) 6) (o1 + 2) (o0 + 2) 6) (o1 + 3) (o0 + 3) 6) (o1 + 4) (o0 + 4) 3) (o1 + 5) (o0 + 5) 3) (o1 + 6) (o0 + 6) 9) (o1 + 7) (o0 + 7) 9) (o1 + 8) (o0 + 8) 9) (o1 + 9) (o0 + 9) 4) o1 9)) o1 10)) o1 11)) o1 12)) o1 13)) o1 14)) o0 15 ((ww_up (ww_up (ww_up (ww_up (ww_up (ww_up (ww_cpy (ww_cpy (ww_cpy (ww_cpy (ww_cpy (ww_cpy (ww_cpy (ww_cpy (ww_cpy σ (o1 + 1) (o0 + 1) 6) (o1 + 2) (o0 + 2) 6) (o1 + 3) (o0 + 3) 6) (o1 + 4) (o0 + 4) 3) (o1 + 5) (o0 + 5) 3) (o1 + 6) (o0 + 6) 9) (o1 + 7) (o0 + 7) 9) (o1 + 8) (o0 + 8) 9) (o1 + 9) (o0 + 9) 4) o0 9 ((ww_cpy (ww_cpy (ww_cpy (ww_cpy (ww_cpy (ww_cpy (ww_cpy (ww_cpy (ww_cpy σ (o1 + 1) (o0 + 1) 6) (o1 + 2) (o0 + 2) 6) (o1 + 3) (o0 + 3) 6) (o1 + 4) (o0 + 4) 3) (o1 + 5) (o0 + 5) 3) (o1 + 6) (o0 + 6) 9) (o1 + 7) (o0 + 7) 9) (o1 + 8) (o0 + 8) 9) (o1 + 9) (o0 + 9) 4) o1 9)) o0 10 ((ww_up (ww_cpy (ww_cpy (ww_cpy (ww_cpy (ww_cpy (ww_cpy (ww_cpy (ww_cpy (ww_cpy σ (o1 + 1) (o0 + 1) 6) (o1 + 2) (o0 + 2) 6) (o1 + 3) (o0 + 3) 6) (o1 + 4) (o0 + 4) 3) (o1 + 5) (o0 + 5) 3) (o1 + 6) (o0 + 6) 9) (o1 + 7) (o0 + 7) 9) (o1 + 8) (o0 + 8) 9) (o1 + 9) (o0 + 9) 4) o0 9 ((ww_cpy (ww_cpy (ww_cpy (ww_cpy (ww_cpy (ww_cpy (ww_cpy (ww_cpy (ww_cpy σ (o1 + 1) (o0 + 1) 6) (o1 + 2) (o0 + 2) 6) (o1 + 3) (o0 + 3) 6) (o1 + 4) (o0 + 4) 3) (o1 + 5) (o0 + 5) 3) (o1 + 6) (o0 + 6) 9) (o1 + 7) (o0 + 7) 9) (o1 + 8) (o0 + 8) 9) (o1 + 9) (o0 + 9) 4) o1 9)) o1 10)) o0 11 ((ww_up (ww_up (ww_cpy (ww_cpy (ww_cpy (ww_cpy (ww_cpy (ww_cpy (ww_cpy (ww_cpy (ww_cpy σ (o1 + 1) (o0 + 1) 6) (o1 + 2) (o0 + 2) 6) (o1 + 3) (o0 + 3) 6) (o1 + 4) (o0 + 4) 3) (o1 + 5) (o0 + 5) 3) (o1 + 6) (o0 + 6) 9) (o1 + 7) (o0 + 7) 9) (o1 + 8) (o0 + 8) 9) (o1 + 9) (o0 + 9) 4) o0 9 ((ww_cpy (ww_cpy (ww_cpy (ww_cpy (ww_cpy (ww_cpy (ww_cpy (ww_cpy (ww_cpy σ (o1 + 1) (o0 + 1) 6) (o1 + 2) (o0 + 2) 6) (o1 + 3) (o0 + 3) 6) (o1 + 4) (o0 + 4) 3) (o1 + 5) (o0 + 5) 3) (o1 + 6) (o0 + 6) 9) (o1 + 7) (o0 + 7) 9) (o1 + 8) (o0 + 8) 9) (o1 + 9) (o0 + 9) 4) o1 9)) o0 10 ((ww_up (ww_cpy (ww_cpy (ww_cpy (ww_cpy (ww_cpy (ww_cpy (ww_cpy (ww_cpy (ww_cpy σ (o1 + 1) (o0 + 1) 6) (o1 + 2) (o0 + 2) 6) (o1 + 3) (o0 + 3) 6) (o1 + 4) (o0 + 4) 3) (o1 + 5) (o0 + 5) 3) (o1 + 6) (o0 + 6) 9) (o1 + 7) (o0 + 7) 9) (o1 + 8) (o0 + 8) 9) (o1 + 9) (o0 + 9) 4) o0 9 ((ww_cpy (ww_cpy (ww_cpy (ww_cpy (ww_cpy (ww_cpy (ww_cpy (ww_cpy (ww_cpy σ (o1 + 1) (o0 + 1) 6) (o1 + 2) (o0 + 2) 6) (o1 + 3) (o0 + 3) 6) (o1 + 4) (o0 + 4) 3) (o1 + 5) (o0 + 5) 3) (o1 + 6) (o0 + 6) 9) (o1 + 7) (o0 + 7) 9) (o1 + 8) (o0 + 8) 9) (o1 + 9) (o0 + 9) 4) o1 9)) o1 10)) o1 11)) o0 12 ((ww_up (ww_up (ww_up (ww_cpy (ww_cpy (ww_cpy (ww_cpy (ww_cpy (ww_cpy (ww_cpy (ww_cpy (ww_cpy σ (o1 + 1) (o0 + 1) 6) (o1 + 2) (o0 + 2) 6) (o1 + 3) (o0 + 3) 6) (o1 + 4) (o0 + 4) 3) (o1 + 5) (o0 + 5) 3) (o1 + 6) (o0 + 6) 9) (o1 + 7) (o0 + 7) 9) (o1 + 8) (o0 + 8) 9) (o1 + 9) (o0 + 9) 4) o0 9 ((ww_cpy (ww_cpy (ww_cpy (ww_cpy (ww_cpy (ww_cpy (ww_cpy (ww_cpy (ww_cpy σ (o1 + 1) (o0 + 1) 6) (o1 + 2) (o0 + 2) 6) (o1 + 3) (o0 + 3) 6) (o1 + 4) (o0 + 4) 3) (o1 + 5) (o0 + 5) 3) (o1 + 6) (o0 + 6) 9) (o1 + 7) (o0 + 7) 9) (o1 + 8) (o0 + 8) 9) (o1 + 9) (o0 + 9) 4) o1 9)) o0 10 ((ww_up (ww_cpy (ww_cpy (ww_cpy (ww_cpy (ww_cpy (ww_cpy (ww_cpy (ww_cpy (ww_cpy σ (o1 + 1) (o0 + 1) 6) (o1 + 2) (o0 + 2) 6) (o1 + 3) (o0 + 3) 6) (o1 + 4) (o0 + 4) 3) (o1 + 5) (o0 + 5) 3) (o1 + 6) (o0 + 6) 9) (o1 + 7) (o0 + 7) 9) (o1 + 8) (o0 + 8) 9) (o1 + 9) (o0 + 9) 4) o0 9 ((ww_cpy (ww_cpy (ww_cpy (ww_cpy (ww_cpy (ww_cpy (ww_cpy (ww_cpy (ww_cpy σ (o1 + 1) (o0 + 1) 6) (o1 + 2) (o0 + 2) 6) (o1 + 3) (o0 + 3) 6) (o1 + 4) (o0 + 4) 3) (o1 + 5) (o0 + 5) 3) (o1 + 6) (o0 + 6) 9) (o1 + 7) (o0 + 7) 9) (o1 + 8) (o0 + 8) 9) (o1 + 9) (o0 + 9) 4) o1 9)) o1 10)) o0 11 ((ww_up (ww_up (ww_cpy (ww_cpy (ww_cpy (ww_cpy (ww_cpy (ww_cpy (ww_cpy (ww_cpy (ww_cpy σ (o1 + 1) (o0 + 1) 6) (o1 + 2) (o0 + 2) 6) (o1 + 3) (o0 + 3) 6) (o1 + 4) (o0 + 4) 3) (o1 + 5) (o0 + 5) 3) (o1 + 6) (o0 + 6) 9) (o1 + 7) (o0 + 7) 9) (o1 + 8) (o0 + 8) 9) (o1 + 9) (o0 + 9) 4) o0 9 ((ww_cpy (ww_cpy (ww_cpy (ww_cpy (ww_cpy (ww_cpy (ww_cpy (ww_cpy (ww_cpy σ (o1 + 1) (o0 + 1) 6) (o1 + 2) (o0 + 2) 6) (o1 + 3) (o0 + 3) 6) (o1 + 4) (o0 + 4) 3) (o1 + 5) (o0 + 5) 3) (o1 + 6) (o0 + 6) 9) (o1 + 7) (o0 + 7) 9) (o1 + 8) (o0 + 8) 9) (o1 + 9) (o0 + 9) 4) o1 9)) o0 10 ((ww_up (ww_cpy (ww_cpy (ww_cpy (ww_cpy (ww_cpy (ww_cpy (ww_cpy (ww_cpy (ww_cpy σ (o1 + 1) (o0 + 1) 6) (o1 + 2) (o0 + 2) 6) (o1 + 3) (o0 + 3) 6) (o1 + 4) (o0 + 4) 3) (o1 + 5) (o0 + 5) 3) (o1 + 6) (o0 + 6) 9) (o1 + 7) (o0 + 7) 9) (o1 + 8) (o0 + 8) 9) (o1 + 9) (o0 + 9) 4) o0 9 ((ww_cpy (ww_cpy (ww_cpy (ww_cpy (ww_cpy (ww_cpy (ww_cpy (ww_cpy (ww_cpy σ (o1 + 1) (o0 + 1) 6) (o1 + 2) (o0 + 2) 6) (o1 + 3) (o0 + 3) 6) (o1 + 4) (o0 + 4) 3) (o1 + 5) (o0 + 5) 3) (o1 + 6) (o0 + 6) 9) (o1 + 7) (o0 + 7) 9) (o1 + 8) (o0 + 8) 9) (o1 + 9) (o0 + 9) 4) o1 9)) o1 10)) o1 11)) o1 12)) o0 13 ((ww_up (ww_up (ww_up (ww_up (ww_cpy (ww_cpy (ww_cpy (ww_cpy (ww_cpy (ww_cpy (ww_cpy (ww_cpy (ww_cpy σ (o1 + 1) (o0 + 1) 6) (o1 + 2) (o0 + 2) 6) (o1 + 3) (o0 + 3) 6) (o1 + 4) (o0 + 4) 3) (o1 + 5) (o0 + 5) 3) (o1 + 6) (o0 + 6) 9) (o1 + 7) (o0 + 7) 9) (o1 + 8) (o0 + 8) 9) (o1 + 9) (o0 + 9) 4) o0 9 ((ww_cpy (ww_cpy (ww_cpy (ww_cpy (ww_cpy (ww_cpy (ww_cpy (ww_cpy (ww_cpy σ (o1 + 1) (o0 + 1) 6) (o1 + 2) (o0 + 2) 6) (o1 + 3) (o0 + 3) 6) (o1 + 4) (o0 + 4) 3) (o1 + 5) (o0 + 5) 3) (o1 + 6) (o0 + 6) 9) (o1 + 7) (o0 + 7) 9) (o1 + 8) (o0 + 8) 9) (o1 + 9) (o0 + 9) 4) o1 9)) o0 10 ((ww_up (ww_cpy (ww_cpy (ww_cpy (ww_cpy (ww_cpy (ww_cpy (ww_cpy (ww_cpy (ww_cpy σ (o1 + 1) (o0 + 1) 6) (o1 + 2) (o0 + 2) 6) (o1 + 3) (o0 + 3) 6) (o1 + 4) (o0 + 4) 3) (o1 + 5) (o0 + 5) 3) (o1 + 6) (o0 + 6) 9) (o1 + 7) (o0 + 7) 9) (o1 + 8) (o0 + 8) 9) (o1 + 9) (o0 + 9) 4) o0 9 ((ww_cpy (ww_cpy (ww_cpy (ww_cpy (ww_cpy (ww_cpy (ww_cpy (ww_cpy (ww_cpy σ (o1 + 1) (o0 + 1) 6) (o1 + 2) (o0 + 2) 6) (o1 + 3) (o0 + 3) 6) (o1 + 4) (o0 + 4) 3) (o1 + 5) (o0 + 5) 3) (o1 + 6) (o0 + 6) 9) (o1 + 7) (o0 + 7) 9) (o1 + 8) (o0 + 8) 9) (o1 + 9) (o0 + 9) 4) o1 9)) o1 10)) o0 11 ((ww_up (ww_up (ww_cpy (ww_cpy (ww_cpy (ww_cpy (ww_cpy (ww_cpy (ww_cpy (ww_cpy (ww_cpy σ (o1 + 1) (o0 + 1) 6) (o1 + 2) (o0 + 2) 6) (o1 + 3) (o0 + 3) 6) (o1 + 4) (o0 + 4) 3) (o1 + 5) (o0 + 5) 3) (o1 + 6) (o0 + 6) 9) (o1 + 7) (o0 + 7) 9) (o1 + 8) (o0 + 8) 9) (o1 + 9) (o0 + 9) 4) o0 9 ((ww_cpy (ww_cpy (ww_cpy (ww_cpy (ww_cpy (ww_cpy (ww_cpy (ww_cpy (ww_cpy σ (o1 + 1) (o0 + 1) 6) (o1 + 2) (o0 + 2) 6) (o1 + 3) (o0 + 3) 6) (o1 + 4) (o0 + 4) 3) (o1 + 5) (o0 + 5) 3) (o1 + 6) (o0 + 6) 9) (o1 + 7) (o0 + 7) 9) (o1 + 8) (o0 + 8) 9) (o1 + 9) (o0 + 9) 4) o1 9)) o0 10 ((ww_up (ww_cpy (ww_cpy (ww_cpy (ww_cpy (ww_cpy (ww_cpy (ww_cpy (ww_cpy (ww_cpy σ (o1 + 1) (o0 + 1) 6) (o1 + 2) (o0 + 2) 6) (o1 + 3) (o0 + 3) 6) (o1 + 4) (o0 + 4) 3) (o1 + 5) (o0 + 5) 3) (o1 + 6) (o0 + 6) 9) (o1 + 7) (o0 + 7) 9) (o1 + 8) (o0 + 8) 9) (o1 + 9) (o0 + 9) 4) o0 9 ((ww_cpy (ww_cpy (ww_cpy (ww_cpy (ww_cpy (ww_cpy (ww_cpy (ww_cpy (ww_cpy σ (o1 + 1) (o0 + 1) 6) (o1 + 2) (o0 + 2) 6) (o1 + 3) (o0 + 3) 6) (o1 + 4) (o0 + 4) 3) (o1 + 5) (o0 + 5) 3) (o1 + 6) (o0 + 6) 9) (o1 + 7) (o0 + 7) 9) (o1 + 8) (o0 + 8) 9) (o1 + 9) (o0 + 9) 4) o1 9)) o1 10)) o1 11)) o0 12 ((ww_up (ww_up (ww_up (ww_cpy (ww_cpy (ww_cpy (ww_cpy (ww_cpy (ww_cpy (ww_cpy (ww_cpy (ww_cpy σ (o1 + 1) (o0 + 1) 6) (o1 + 2) (o0 + 2) 6) (o1 + 3) (o0 + 3) 6) (o1 + 4) (o0 + 4) 3) (o1 + 5) (o0 + 5) 3) (o1 + 6) (o0 + 6) 9) (o1 + 7) (o0 + 7) 9) (o1 + 8) (o0 + 8) 9) (o1 + 9) (o0 + 9) 4) o0 9 ((ww_cpy (ww_cpy (ww_cpy (ww_cpy (ww_cpy (ww_cpy (ww_cpy (ww_cpy (ww_cpy σ (o1 + 1) (o0 + 1) 6) (o1 + 2) (o0 + 2) 6) (o1 + 3) (o0 + 3) 6) (o1 + 4) (o0 + 4) 3) (o1 + 5) (o0 + 5) 3) (o1 + 6) (o0 + 6) 9) (o1 + 7) (o0 + 7) 9) (o1 + 8) (o0 + 8) 9) (o1 + 9) (o0 + 9) 4) o1 9)) o0 10 ((ww_up (ww_cpy (ww_cpy (ww_cpy (ww_cpy (ww_cpy (ww_cpy (ww_cpy (ww_cpy (ww_cpy σ (o1 + 1) (o0 + 1) 6) (o1 + 2) (o0 + 2) 6) (o1 + 3) (o0 + 3) 6) (o1 + 4) (o0 + 4) 3) (o1 + 5) (o0 + 5) 3) (o1 + 6) (o0 + 6) 9) (o1 + 7) (o0 + 7) 9) (o1 + 8) (o0 + 8) 9) (o1 + 9) (o0 + 9) 4) o0 9 ((ww_cpy (ww_cpy (ww_cpy (ww_cpy (ww_cpy (ww_cpy (ww_cpy (ww_cpy (ww_cpy σ (o1 + 1) (o0 + 1) 6) (o1 + 2) (o0 + 2) 6) (o1 + 3) (o0 + 3) 6) (o1 + 4) (o0 + 4) 3) (o1 + 5) (o0 + 5) 3) (o1 + 6) (o0 + 6) 9) (o1 + 7) (o0 + 7) 9) (o1 + 8) (o0 + 8) 9) (o1 + 9) (o0 + 9) 4) o1 9)) o1 10)) o0 11 ((ww_up (ww_up (ww_cpy (ww_cpy (ww_cpy (ww_cpy (ww_cpy (ww_cpy (ww_cpy (ww_cpy (ww_cpy σ (o1 + 1) (o0 + 1) 6) (o1 + 2) (o0 + 2) 6) (o1 + 3) (o0 + 3) 6) (o1 + 4) (o0 + 4) 3) (o1 + 5) (o0 + 5) 3) (o1 + 6) (o0 + 6) 9) (o1 + 7) (o0 + 7) 9) (o1 + 8) (o0 + 8) 9) (o1 + 9) (o0 + 9) 4) o0 9 ((ww_cpy (ww_cpy (ww_cpy (ww_cpy (ww_cpy (ww_cpy (ww_cpy (ww_cpy (ww_cpy σ (o1 + 1) (o0 + 1) 6) (o1 + 2) (o0 + 2) 6) (o1 + 3) (o0 + 3) 6) (o1 + 4) (o0 + 4) 3) (o1 + 5) (o0 + 5) 3) (o1 + 6) (o0 + 6) 9) (o1 + 7) (o0 + 7) 9) (o1 + 8) (o0 + 8) 9) (o1 + 9) (o0 + 9) 4) o1 9)) o0 10 ((ww_up (ww_cpy (ww_cpy (ww_cpy (ww_cpy (ww_cpy (ww_cpy (ww_cpy (ww_cpy (ww_cpy σ (o1 + 1) (o0 + 1) 6) (o1 + 2) (o0 + 2) 6) (o1 + 3) (o0 + 3) 6) (o1 + 4) (o0 + 4) 3) (o1 + 5) (o0 + 5) 3) (o1 + 6) (o0 + 6) 9) (o1 + 7) (o0 + 7) 9) (o1 + 8) (o0 + 8) 9) (o1 + 9) (o0 + 9) 4) o0 9 ((ww_cpy (ww_cpy (ww_cpy (ww_cpy (ww_cpy (ww_cpy (ww_cpy (ww_cpy (ww_cpy σ (o1 + 1) (o0 + 1) 6) (o1 + 2) (o0 + 2) 6) (o1 + 3) (o0 + 3) 6) (o1 + 4) (o0 + 4) 3) (o1 + 5) (o0 + 5) 3) (o1 + 6) (o0 + 6) 9) (o1 + 7) (o0 + 7) 9) (o1 + 8) (o0 + 8) 9) (o1 + 9) (o0 + 9) 4) o1 9)) o1 10)) o1 11)) o1 12)) o1 13)) o0 14 ((ww_up (ww_up (ww_up (ww_up (ww_up (ww_cpy (ww_cpy (ww_cpy (ww_cpy (ww_cpy (ww_cpy (ww_cpy (ww_cpy (ww_cpy σ (o1 + 1) (o0 + 1) 6) (o1 + 2) (o0 + 2) 6) (o1 + 3) (o0 + 3) 6) (o1 + 4) (o0 + 4) 3) (o1 + 5) (o0 + 5) 3) (o1 + 6) (o0 + 6) 9) (o1 + 7) (o0 + 7) 9) (o1 + 8) (o0 + 8) 9) (o1 + 9) (o0 + 9) 4) o0 9 ((ww_cpy (ww_cpy (ww_cpy (ww_cpy (ww_cpy (ww_cpy (ww_cpy (ww_cpy (ww_cpy σ (o1 + 1) (o0 + 1) 6) (o1 + 2) (o0 + 2) 6) (o1 + 3) (o0 + 3) 6) (o1 + 4) (o0 + 4) 3) (o1 + 5) (o0 + 5) 3) (o1 + 6) (o0 + 6) 9) (o1 + 7) (o0 + 7) 9) (o1 + 8) (o0 + 8) 9) (o1 + 9) (o0 + 9) 4) o1 9)) o0 10 ((ww_up (ww_cpy (ww_cpy (ww_cpy (ww_cpy (ww_cpy (ww_cpy (ww_cpy (ww_cpy (ww_cpy σ (o1 + 1) (o0 + 1) 6) (o1 + 2) (o0 + 2) 6) (o1 + 3) (o0 + 3) 6) (o1 + 4) (o0 + 4) 3) (o1 + 5) (o0 + 5) 3) (o1 + 6) (o0 + 6) 9) (o1 + 7) (o0 + 7) 9) (o1 + 8) (o0 + 8) 9) (o1 + 9) (o0 + 9) 4) o0 9 ((ww_cpy (ww_cpy (ww_cpy (ww_cpy (ww_cpy (ww_cpy (ww_cpy (ww_cpy (ww_cpy σ (o1 + 1) (o0 + 1) 6) (o1 + 2) (o0 + 2) 6) (o1 + 3) (o0 + 3) 6) (o1 + 4) (o0 + 4) 3) (o1 + 5) (o0 + 5) 3) (o1 + 6) (o0 + 6) 9) (o1 + 7) (o0 + 7) 9) (o1 + 8) (o0 + 8) 9) (o1 + 9) (o0 + 9) 4) o1 9)) o1 10)) o0 11 ((ww_up (ww_up (ww_cpy (ww_cpy (ww_cpy (ww_cpy (ww_cpy (ww_cpy (ww_cpy (ww_cpy (ww_cpy σ (o1 + 1) (o0 + 1) 6) (o1 + 2) (o0 + 2) 6) (o1 + 3) (o0 + 3) 6) (o1 + 4) (o0 + 4) 3) (o1 + 5) (o0 + 5) 3) (o1 + 6) (o0 + 6) 9) (o1 + 7) (o0 + 7) 9) (o1 + 8) (o0 + 8) 9) (o1 + 9) (o0 + 9) 4) o0 9 ((ww_cpy (ww_cpy (ww_cpy (ww_cpy (ww_cpy (ww_cpy (ww_cpy (ww_cpy (ww_cpy σ (o1 + 1) (o0 + 1) 6) (o1 + 2) (o0 + 2) 6) (o1 + 3) (o0 + 3) 6) (o1 + 4) (o0 + 4) 3) (o1 + 5) (o0 + 5) 3) (o1 + 6) (o0 + 6) 9) (o1 + 7) (o0 + 7) 9) (o1 + 8) (o0 + 8) 9) (o1 + 9) (o0 + 9) 4) o1 9)) o0 10 ((ww_up (ww_cpy (ww_cpy (ww_cpy (ww_cpy (ww_cpy (ww_cpy (ww_cpy (ww_cpy (ww_cpy σ (o1 + 1) (o0 + 1) 6) (o1 + 2) (o0 + 2) 6) (o1 + 3) (o0 + 3) 6) (o1 + 4) (o0 + 4) 3) (o1 + 5) (o0 + 5) 3) (o1 + 6) (o0 + 6) 9) (o1 + 7) (o0 + 7) 9) (o1 + 8) (o0 + 8) 9) (o1 + 9) (o0 + 9) 4) o0 9 ((ww_cpy (ww_cpy (ww_cpy (ww_cpy (ww_cpy (ww_cpy (ww_cpy (ww_cpy (ww_cpy σ (o1 + 1) (o0 + 1) 6) (o1 + 2) (o0 + 2) 6) (o1 + 3) (o0 + 3) 6) (o1 + 4) (o0 + 4) 3) (o1 + 5) (o0 + 5) 3) (o1 + 6) (o0 + 6) 9) (o1 + 7) (o0 + 7) 9) (o1 + 8) (o0 + 8) 9) (o1 + 9) (o0 + 9) 4) o1 9)) o1 10)) o1 11)) o0 12 ((ww_up (ww_up (ww_up (ww_cpy (ww_cpy (ww_cpy (ww_cpy (ww_cpy (ww_cpy (ww_cpy (ww_cpy (ww_cpy σ (o1 + 1) (o0 + 1) 6) (o1 + 2) (o0 + 2) 6) (o1 + 3) (o0 + 3) 6) (o1 + 4) (o0 + 4) 3) (o1 + 5) (o0 + 5) 3) (o1 + 6) (o0 + 6) 9) (o1 + 7) (o0 + 7) 9) (o1 + 8) (o0 + 8) 9) (o1 + 9) (o0 + 9) 4) o0 9 ((ww_cpy (ww_cpy (ww_cpy (ww_cpy (ww_cpy (ww_cpy (ww_cpy (ww_cpy (ww_cpy σ (o1 + 1) (o0 + 1) 6) (o1 + 2) (o0 + 2) 6) (o1 + 3) (o0 + 3) 6) (o1 + 4) (o0 + 4) 3) (o1 + 5) (o0 + 5) 3) (o1 + 6) (o0 + 6) 9) (o1 + 7) (o0 + 7) 9) (o1 + 8) (o0 + 8) 9) (o1 + 9) (o0 + 9) 4) o1 9)) o0 10 ((ww_up (ww_cpy (ww_cpy (ww_cpy (ww_cpy (ww_cpy (ww_cpy (ww_cpy (ww_cpy (ww_cpy σ (o1 + 1) (o0 + 1) 6) (o1 + 2) (o0 + 2) 6) (o1 + 3) (o0 + 3) 6) (o1 + 4) (o0 + 4) 3) (o1 + 5) (o0 + 5) 3) (o1 + 6) (o0 + 6) 9) (o1 + 7) (o0 + 7) 9) (o1 + 8) (o0 + 8) 9) (o1 + 9) (o0 + 9) 4) o0 9 ((ww_cpy (ww_cpy (ww_cpy (ww_cpy (ww_cpy (ww_cpy (ww_cpy (ww_cpy (ww_cpy σ (o1 + 1) (o0 + 1) 6) (o1 + 2) (o0 + 2) 6) (o1 + 3) (o0 + 3) 6) (o1 + 4) (o0 + 4) 3) (o1 + 5) (o0 + 5) 3) (o1 + 6) (o0 + 6) 9) (o1 + 7) (o0 + 7) 9) (o1 + 8) (o0 + 8) 9) (o1 + 9) (o0 + 9) 4) o1 9)) o1 10)) o0 11 ((ww_up (ww_up (ww_cpy (ww_cpy (ww_cpy (ww_cpy (ww_cpy (ww_cpy (ww_cpy (ww_cpy (ww_cpy σ (o1 + 1) (o0 + 1) 6) (o1 + 2) (o0 + 2) 6) (o1 + 3) (o0 + 3) 6) (o1 + 4) (o0 + 4) 3) (o1 + 5) (o0 + 5) 3) (o1 + 6) (o0 + 6) 9) (o1 + 7) (o0 + 7) 9) (o1 + 8) (o0 + 8) 9) (o1 + 9) (o0 + 9) 4) o0 9 ((ww_cpy (ww_cpy (ww_cpy (ww_cpy (ww_cpy (ww_cpy (ww_cpy (ww_cpy (ww_cpy σ (o1 + 1) (o0 + 1) 6) (o1 + 2) (o0 + 2) 6) (o1 + 3) (o0 + 3) 6) (o1 + 4) (o0 + 4) 3) (o1 + 5) (o0 + 5) 3) (o1 + 6) (o0 + 6) 9) (o1 + 7) (o0 + 7) 9) (o1 + 8) (o0 + 8) 9) (o1 + 9) (o0 + 9) 4) o1 9)) o0 10 ((ww_up (ww_cpy (ww_cpy (ww_cpy (ww_cpy (ww_cpy (ww_cpy (ww_cpy (ww_cpy (ww_cpy σ (o1 + 1) (o0 + 1) 6) (o1 + 2) (o0 + 2) 6) (o1 + 3) (o0 + 3) 6) (o1 + 4) (o0 + 4) 3) (o1 + 5) (o0 + 5) 3) (o1 + 6) (o0 + 6) 9) (o1 + 7) (o0 + 7) 9) (o1 + 8) (o0 + 8) 9) (o1 + 9) (o0 + 9) 4) o0 9 ((ww_cpy (ww_cpy (ww_cpy (ww_cpy (ww_cpy (ww_cpy (ww_cpy (ww_cpy (ww_cpy σ (o1 + 1) (o0 + 1) 6) (o1 + 2) (o0 + 2) 6) (o1 + 3) (o0 + 3) 6) (o1 + 4) (o0 + 4) 3) (o1 + 5) (o0 + 5) 3) (o1 + 6) (o0 + 6) 9) (o1 + 7) (o0 + 7) 9) (o1 + 8) (o0 + 8) 9) (o1 + 9) (o0 + 9) 4) o1 9)) o1 10)) o1 11)) o1 12)) o0 13 ((ww_up (ww_up (ww_up (ww_up (ww_cpy (ww_cpy (ww_cpy (ww_cpy (ww_cpy (ww_cpy (ww_cpy (ww_cpy (ww_cpy σ (o1 + 1) (o0 + 1) 6) (o1 + 2) (o0 + 2) 6) (o1 + 3) (o0 + 3) 6) (o1 + 4) (o0 + 4) 3) (o1 + 5) (o0 + 5) 3) (o1 + 6) (o0 + 6) 9) (o1 + 7) (o0 + 7) 9) (o1 + 8) (o0 + 8) 9) (o1 + 9) (o0 + 9) 4) o0 9 ((ww_cpy (ww_cpy (ww_cpy (ww_cpy (ww_cpy (ww_cpy (ww_cpy (ww_cpy (ww_cpy σ (o1 + 1) (o0 + 1) 6) (o1 + 2) (o0 + 2) 6) (o1 + 3) (o0 + 3) 6) (o1 + 4) (o0 + 4) 3) (o1 + 5) (o0 + 5) 3) (o1 + 6) (o0 + 6) 9) (o1 + 7) (o0 + 7) 9) (o1 + 8) (o0 + 8) 9) (o1 + 9) (o0 + 9) 4) o1 9)) o0 10 ((ww_up (ww_cpy (ww_cpy (ww_cpy (ww_cpy (ww_cpy (ww_cpy (ww_cpy (ww_cpy (ww_cpy σ (o1 + 1) (o0 + 1) 6) (o1 + 2) (o0 + 2) 6) (o1 + 3) (o0 + 3) 6) (o1 + 4) (o0 + 4) 3) (o1 + 5) (o0 + 5) 3) (o1 + 6) (o0 + 6) 9) (o1 + 7) (o0 + 7) 9) (o1 + 8) (o0 + 8) 9) (o1 + 9) (o0 + 9) 4) o0 9 ((ww_cpy (ww_cpy (ww_cpy (ww_cpy (ww_cpy (ww_cpy (ww_cpy (ww_cpy (ww_cpy σ (o1 + 1) (o0 + 1) 6) (o1 + 2) (o0 + 2) 6) (o1 + 3) (o0 + 3) 6) (o1 + 4) (o0 + 4) 3) (o1 + 5) (o0 + 5) 3) (o1 + 6) (o0 + 6) 9) (o1 + 7) (o0 + 7) 9) (o1 + 8) (o0 + 8) 9) (o1 + 9) (o0 + 9) 4) o1 9)) o1 10)) o0 11 ((ww_up (ww_up (ww_cpy (ww_cpy (ww_cpy (ww_cpy (ww_cpy (ww_cpy (ww_cpy (ww_cpy (ww_cpy σ (o1 + 1) (o0 + 1) 6) (o1 + 2) (o0 + 2) 6) (o1 + 3) (o0 + 3) 6) (o1 + 4) (o0 + 4) 3) (o1 + 5) (o0 + 5) 3) (o1 + 6) (o0 + 6) 9) (o1 + 7) (o0 + 7) 9) (o1 + 8) (o0 + 8) 9) (o1 + 9) (o0 + 9) 4) o0 9 ((ww_cpy (ww_cpy (ww_cpy (ww_cpy (ww_cpy (ww_cpy (ww_cpy (ww_cpy (ww_cpy σ (o1 + 1) (o0 + 1) 6) (o1 + 2) (o0 + 2) 6) (o1 + 3) (o0 + 3) 6) (o1 + 4) (o0 + 4) 3) (o1 + 5) (o0 + 5) 3) (o1 + 6) (o0 + 6) 9) (o1 + 7) (o0 + 7) 9) (o1 + 8) (o0 + 8) 9) (o1 + 9) (o0 + 9) 4) o1 9)) o0 10 ((ww_up (ww_cpy (ww_cpy (ww_cpy (ww_cpy (ww_cpy (ww_cpy (ww_cpy (ww_cpy (ww_cpy σ (o1 + 1) (o0 + 1) 6) (o1 + 2) (o0 + 2) 6) (o1 + 3) (o0 + 3) 6) (o1 + 4) (o0 + 4) 3) (o1 + 5) (o0 + 5) 3) (o1 + 6) (o0 + 6) 9) (o1 + 7) (o0 + 7) 9) (o1 + 8) (o0 + 8) 9) (o1 + 9) (o0 + 9) 4) o0 9 ((ww_cpy (ww_cpy (ww_cpy (ww_cpy (ww_cpy (ww_cpy (ww_cpy (ww_cpy (ww_cpy σ (o1 + 1) (o0 + 1) 6) (o1 + 2) (o0 + 2) 6) (o1 + 3) (o0 + 3) 6) (o1 + 4) (o0 + 4) 3) (o1 + 5) (o0 + 5) 3) (o1 + 6) (o0 + 6) 9) (o1 + 7) (o0 + 7) 9) (o1 + 8) (o0 + 8) 9) (o1 + 9) (o0 + 9) 4) o1 9)) o1 10)) o1 11)) o0 12 ((ww_up (ww_up (ww_up (ww_cpy (ww_cpy (ww_cpy (ww_cpy (ww_cpy (ww_cpy (ww_cpy (ww_cpy (ww_cpy σ (o1 + 1) (o0 + 1) 6) (o1 + 2) (o0 + 2) 6) (o1 + 3) (o0 + 3) 6) (o1 + 4) (o0 + 4) 3) (o1 + 5) (o0 + 5) 3) (o1 + 6) (o0 + 6) 9) (o1 + 7) (o0 + 7) 9) (o1 + 8) (o0 + 8) 9) (o1 + 9) (o0 + 9) 4) o0 9 ((ww_cpy (ww_cpy (ww_cpy (ww_cpy (ww_cpy (ww_cpy (ww_cpy (ww_cpy (ww_cpy σ (o1 + 1) (o0 + 1) 6) (o1 + 2) (o0 + 2) 6) (o1 + 3) (o0 + 3) 6) (o1 + 4) (o0 + 4) 3) (o1 + 5) (o0 + 5) 3) (o1 + 6) (o0 + 6) 9) (o1 + 7) (o0 + 7) 9) (o1 + 8) (o0 + 8) 9) (o1 + 9) (o0 + 9) 4) o1 9)) o0 10 ((ww_up (ww_cpy (ww_cpy (ww_cpy (ww_cpy (ww_cpy (ww_cpy (ww_cpy (ww_cpy (ww_cpy σ (o1 + 1) (o0 + 1) 6) (o1 + 2) (o0 + 2) 6) (o1 + 3) (o0 + 3) 6) (o1 + 4) (o0 + 4) 3) (o1 + 5) (o0 + 5) 3) (o1 + 6) (o0 + 6) 9) (o1 + 7) (o0 + 7) 9) (o1 + 8) (o0 + 8) 9) (o1 + 9) (o0 + 9) 4) o0 9 ((ww_cpy (ww_cpy (ww_cpy (ww_cpy (ww_cpy (ww_cpy (ww_cpy (ww_cpy (ww_cpy σ (o1 + 1) (o0 + 1) 6) (o1 + 2) (o0 + 2) 6) (o1 + 3) (o0 + 3) 6) (o1 + 4) (o0 + 4) 3) (o1 + 5) (o0 + 5) 3) (o1 + 6) (o0 + 6) 9) (o1 + 7) (o0 + 7) 9) (o1 + 8) (o0 + 8) 9) (o1 + 9) (o0 + 9) 4) o1 9)) o1 10)) o0 11 ((ww_up (ww_up (ww_cpy (ww_cpy (ww_cpy (ww_cpy (ww_cpy (ww_cpy (ww_cpy (ww_cpy (ww_cpy σ (o1 + 1) (o0 + 1) 6) (o1 + 2) (o0 + 2) 6) (o1 + 3) (o0 + 3) 6) (o1 + 4) (o0 + 4) 3) (o1 + 5) (o0 + 5) 3) (o1 + 6) (o0 + 6) 9) (o1 + 7) (o0 + 7) 9) (o1 + 8) (o0 + 8) 9) (o1 + 9) (o0 + 9) 4) o0 9 ((ww_cpy (ww_cpy (ww_cpy (ww_cpy (ww_cpy (ww_cpy (ww_cpy (ww_cpy (ww_cpy σ (o1 + 1) (o0 + 1) 6) (o1 + 2) (o0 + 2) 6) (o1 + 3) (o0 + 3) 6) (o1 + 4) (o0 + 4) 3) (o1 + 5) (o0 + 5) 3) (o1 + 6) (o0 + 6) 9) (o1 + 7) (o0 + 7) 9) (o1 + 8) (o0 + 8) 9) (o1 + 9) (o0 + 9) 4) o1 9)) o0 10 ((ww_up (ww_cpy (ww_cpy (ww_cpy (ww_cpy (ww_cpy (ww_cpy (ww_cpy (ww_cpy (ww_cpy σ (o1 + 1) (o0 + 1) 6) (o1 + 2) (o0 + 2) 6) (o1 + 3) (o0 + 3) 6) (o1 + 4) (o0 + 4) 3) (o1 + 5) (o0 + 5) 3) (o1 + 6) (o0 + 6) 9) (o1 + 7) (o0 + 7) 9) (o1 + 8) (o0 + 8) 9) (o1 + 9) (o0 + 9) 4) o0 9 ((ww_cpy (ww_cpy (ww_cpy (ww_cpy (ww_cpy (ww_cpy (ww_cpy (ww_cpy (ww_cpy σ (o1 + 1) (o0 + 1) 6) (o1 + 2) (o0 + 2) 6) (o1 + 3) (o0 + 3) 6) (o1 + 4) (o0 + 4) 3) (o1 + 5) (o0 + 5) 3) (o1 + 6) (o0 + 6) 9) (o1 + 7) (o0 + 7) 9) (o1 + 8) (o0 + 8) 9) (o1 + 9) (o0 + 9) 4) o1 9)) o1 10)) o1 11)) o1 12)) o1 13)) o1 14)) o1 15)) o0 16 ((ww_up (ww_up (ww_up (ww_up (ww_up (ww_up (ww_up (ww_cpy (ww_cpy (ww_cpy (ww_cpy (ww_cpy (ww_cpy (ww_cpy (ww_cpy (ww_cpy σ (o1 + 1) (o0 + 1) 6) (o1 + 2) (o0 + 2) 6) (o1 + 3) (o0 + 3) 6) (o1 + 4) (o0 + 4) 3) (o1 + 5) (o0 + 5) 3) (o1 + 6) (o0 + 6) 9) (o1 + 7) (o0 + 7) 9) (o1 + 8) (o0 + 8) 9) (o1 + 9) (o0 + 9) 4) o0 9 ((ww_cpy (ww_cpy (ww_cpy (ww_cpy (ww_cpy (ww_cpy (ww_cpy (ww_cpy (ww_cpy σ (o1 + 1) (o0 + 1) 6) (o1 + 2) (o0 + 2) 6) (o1 + 3) (o0 + 3) 6) (o1 + 4) (o0 + 4) 3) (o1 + 5) (o0 + 5) 3) (o1 + 6) (o0 + 6) 9) (o1 + 7) (o0 + 7) 9) (o1 + 8) (o0 + 8) 9) (o1 + 9) (o0 + 9) 4) o1 9)) o0 10 ((ww_up (ww_cpy (ww_cpy (ww_cpy (ww_cpy (ww_cpy (ww_cpy (ww_cpy (ww_cpy (ww_cpy σ (o1 + 1) (o0 + 1) 6) (o1 + 2) (o0 + 2) 6) (o1 + 3) (o0 + 3) 6) (o1 + 4) (o0 + 4) 3) (o1 + 5) (o0 + 5) 3) (o1 + 6) (o0 + 6) 9) (o1 + 7) (o0 + 7) 9) (o1 + 8) (o0 + 8) 9) (o1 + 9) (o0 + 9) 4) o0 9 ((ww_cpy (ww_cpy (ww_cpy (ww_cpy (ww_cpy (ww_cpy (ww_cpy (ww_cpy (ww_cpy σ (o1 + 1) (o0 + 1) 6) (o1 + 2) (o0 + 2) 6) (o1 + 3) (o0 + 3) 6) (o1 + 4) (o0 + 4) 3) (o1 + 5) (o0 + 5) 3) (o1 + 6) (o0 + 6) 9) (o1 + 7) (o0 + 7) 9) (o1 + 8) (o0 + 8) 9) (o1 + 9) (o0 + 9) 4) o1 9)) o1 10)) o0 11 ((ww_up (ww_up (ww_cpy (ww_cpy (ww_cpy (ww_cpy (ww_cpy (ww_cpy (ww_cpy (ww_cpy (ww_cpy σ (o1 + 1) (o0 + 1) 6) (o1 + 2) (o0 + 2) 6) (o1 + 3) (o0 + 3) 6) (o1 + 4) (o0 + 4) 3) (o1 + 5) (o0 + 5) 3) (o1 + 6) (o0 + 6) 9) (o1 + 7) (o0 + 7) 9) (o1 + 8) (o0 + 8) 9) (o1 + 9) (o0 + 9) 4) o0 9 ((ww_cpy (ww_cpy (ww_cpy (ww_cpy (ww_cpy (ww_cpy (ww_cpy (ww_cpy (ww_cpy σ (o1 + 1) (o0 + 1) 6) (o1 + 2) (o0 + 2) 6) (o1 + 3) (o0 + 3) 6) (o1 + 4) (o0 + 4) 3) (o1 + 5) (o0 + 5) 3) (o1 + 6) (o0 + 6) 9) (o1 + 7) (o0 + 7) 9) (o1 + 8) (o0 + 8) 9) (o1 + 9) (o0 + 9) 4) o1 9)) o0 10 ((ww_up (ww_cpy (ww_cpy (ww_cpy (ww_cpy (ww_cpy (ww_cpy (ww_cpy (ww_cpy (ww_cpy σ (o1 + 1) (o0 + 1) 6) (o1 + 2) (o0 + 2) 6) (o1 + 3) (o0 + 3) 6) (o1 + 4) (o0 + 4) 3) (o1 + 5) (o0 + 5) 3) (o1 + 6) (o0 + 6) 9) (o1 + 7) (o0 + 7) 9) (o1 + 8) (o0 + 8) 9) (o1 + 9) (o0 + 9) 4) o0 9 ((ww_cpy (ww_cpy (ww_cpy (ww_cpy (ww_cpy (ww_cpy (ww_cpy (ww_cpy (ww_cpy σ (o1 + 1) (o0 + 1) 6) (o1 + 2) (o0 + 2) 6) (o1 + 3) (o0 + 3) 6) (o1 + 4) (o0 + 4) 3) (o1 + 5) (o0 + 5) 3) (o1 + 6) (o0 + 6) 9) (o1 + 7) (o0 + 7) 9) (o1 + 8) (o0 + 8) 9) (o1 + 9) (o0 + 9) 4) o1 9)) o1 10)) o1 11)) o0 12 ((ww_up (ww_up (ww_up (ww_cpy (ww_cpy (ww_cpy (ww_cpy (ww_cpy (ww_cpy (ww_cpy (ww_cpy (ww_cpy σ (o1 + 1) (o0 + 1) 6) (o1 + 2) (o0 + 2) 6) (o1 + 3) (o0 + 3) 6) (o1 + 4) (o0 + 4) 3) (o1 + 5) (o0 + 5) 3) (o1 + 6) (o0 + 6) 9) (o1 + 7) (o0 + 7) 9) (o1 + 8) (o0 + 8) 9) (o1 + 9) (o0 + 9) 4) o0 9 ((ww_cpy (ww_cpy (ww_cpy (ww_cpy (ww_cpy (ww_cpy (ww_cpy (ww_cpy (ww_cpy σ (o1 + 1) (o0 + 1) 6) (o1 + 2) (o0 + 2) 6) (o1 + 3) (o0 + 3) 6) (o1 + 4) (o0 + 4) 3) (o1 + 5) (o0 + 5) 3) (o1 + 6) (o0 + 6) 9) (o1 + 7) (o0 + 7) 9) (o1 + 8) (o0 + 8) 9) (o1 + 9) (o0 + 9) 4) o1 9)) o0 10 ((ww_up (ww_cpy (ww_cpy (ww_cpy (ww_cpy (ww_cpy (ww_cpy (ww_cpy (ww_cpy (ww_cpy σ (o1 + 1) (o0 + 1) 6) (o1 + 2) (o0 + 2) 6) (o1 + 3) (o0 + 3) 6) (o1 + 4) (o0 + 4) 3) (o1 + 5) (o0 + 5) 3) (o1 + 6) (o0 + 6) 9) (o1 + 7) (o0 + 7) 9) (o1 + 8) (o0 + 8) 9) (o1 + 9) (o0 + 9) 4) o0 9 ((ww_cpy (ww_cpy (ww_cpy (ww_cpy (ww_cpy (ww_cpy (ww_cpy (ww_cpy (ww_cpy σ (o1 + 1) (o0 + 1) 6) (o1 + 2) (o0 + 2) 6) (o1 + 3) (o0 + 3) 6) (o1 + 4) (o0 + 4) 3) (o1 + 5) (o0 + 5) 3) (o1 + 6) (o0 + 6) 9) (o1 + 7) (o0 + 7) 9) (o1 + 8) (o0 + 8) 9) (o1 + 9) (o0 + 9) 4) o1 9)) o1 10)) o0 11 ((ww_up (ww_up (ww_cpy (ww_cpy (ww_cpy (ww_cpy (ww_cpy (ww_cpy (ww_cpy (ww_cpy (ww_cpy σ (o1 + 1) (o0 + 1) 6) (o1 + 2) (o0 + 2) 6) (o1 + 3) (o0 + 3) 6) (o1 + 4) (o0 + 4) 3) (o1 + 5) (o0 + 5) 3) (o1 + 6) (o0 + 6) 9) (o1 + 7) (o0 + 7) 9) (o1 + 8) (o0 + 8) 9) (o1 + 9) (o0 + 9) 4) o0 9 ((ww_cpy (ww_cpy (ww_cpy (ww_cpy (ww_cpy (ww_cpy (ww_cpy (ww_cpy (ww_cpy σ (o1 + 1) (o0 + 1) 6) (o1 + 2) (o0 + 2) 6) (o1 + 3) (o0 + 3) 6) (o1 + 4) (o0 + 4) 3) (o1 + 5) (o0 + 5) 3) (o1 + 6) (o0 + 6) 9) (o1 + 7) (o0 + 7) 9) (o1 + 8) (o0 + 8) 9) (o1 + 9) (o0 + 9) 4) o1 9)) o0 10 ((ww_up (ww_cpy (ww_cpy (ww_cpy (ww_cpy (ww_cpy (ww_cpy (ww_cpy (ww_cpy (ww_cpy σ (o1 + 1) (o0 + 1) 6) (o1 + 2) (o0 + 2) 6) (o1 + 3) (o0 + 3) 6) (o1 + 4) (o0 + 4) 3) (o1 + 5) (o0 + 5) 3) (o1 + 6) (o0 + 6) 9) (o1 + 7) (o0 + 7) 9) (o1 + 8) (o0 + 8) 9) (o1 + 9) (o0 + 9) 4) o0 9 ((ww_cpy (ww_cpy (ww_cpy (ww_cpy (ww_cpy (ww_cpy (ww_cpy (ww_cpy (ww_cpy σ (o1 + 1) (o0 + 1) 6) (o1 + 2) (o0 + 2) 6) (o1 + 3) (o0 + 3) 6) (o1 + 4) (o0 + 4) 3) (o1 + 5) (o0 + 5) 3) (o1 + 6) (o0 + 6) 9) (o1 + 7) (o0 + 7) 9) (o1 + 8) (o0 + 8) 9) (o1 + 9) (o0 + 9) 4) o1 9)) o1 10)) o1 11)) o1 12)) o0 13 ((ww_up (ww_up (ww_up (ww_up (ww_cpy (ww_cpy (ww_cpy (ww_cpy (ww_cpy (ww_cpy (ww_cpy (ww_cpy (ww_cpy σ (o1 + 1) (o0 + 1) 6) (o1 + 2) (o0 + 2) 6) (o1 + 3) (o0 + 3) 6) (o1 + 4) (o0 + 4) 3) (o1 + 5) (o0 + 5) 3) (o1 + 6) (o0 + 6) 9) (o1 + 7) (o0 + 7) 9) (o1 + 8) (o0 + 8) 9) (o1 + 9) (o0 + 9) 4) o0 9 ((ww_cpy (ww_cpy (ww_cpy (ww_cpy (ww_cpy (ww_cpy (ww_cpy (ww_cpy (ww_cpy σ (o1 + 1) (o0 + 1) 6) (o1 + 2) (o0 + 2) 6) (o1 + 3) (o0 + 3) 6) (o1 + 4) (o0 + 4) 3) (o1 + 5) (o0 + 5) 3) (o1 + 6) (o0 + 6) 9) (o1 + 7) (o0 + 7) 9) (o1 + 8) (o0 + 8) 9) (o1 + 9) (o0 + 9) 4) o1 9)) o0 10 ((ww_up (ww_cpy (ww_cpy (ww_cpy (ww_cpy (ww_cpy (ww_cpy (ww_cpy (ww_cpy (ww_cpy σ (o1 + 1) (o0 + 1) 6) (o1 + 2) (o0 + 2) 6) (o1 + 3) (o0 + 3) 6) (o1 + 4) (o0 + 4) 3) (o1 + 5) (o0 + 5) 3) (o1 + 6) (o0 + 6) 9) (o1 + 7) (o0 + 7) 9) (o1 + 8) (o0 + 8) 9) (o1 + 9) (o0 + 9) 4) o0 9 ((ww_cpy (ww_cpy (ww_cpy (ww_cpy (ww_cpy (ww_cpy (ww_cpy (ww_cpy (ww_cpy σ (o1 + 1) (o0 + 1) 6) (o1 + 2) (o0 + 2) 6) (o1 + 3) (o0 + 3) 6) (o1 + 4) (o0 + 4) 3) (o1 + 5) (o0 + 5) 3) (o1 + 6) (o0 + 6) 9) (o1 + 7) (o0 + 7) 9) (o1 + 8) (o0 + 8) 9) (o1 + 9) (o0 + 9) 4) o1 9)) o1 10)) o0 11 ((ww_up (ww_up (ww_cpy (ww_cpy (ww_cpy (ww_cpy (ww_cpy (ww_cpy (ww_cpy (ww_cpy (ww_cpy σ (o1 + 1) (o0 + 1) 6) (o1 + 2) (o0 + 2) 6) (o1 + 3) (o0 + 3) 6) (o1 + 4) (o0 + 4) 3) (o1 + 5) (o0 + 5) 3) (o1 + 6) (o0 + 6) 9) (o1 + 7) (o0 + 7) 9) (o1 + 8) (o0 + 8) 9) (o1 + 9) (o0 + 9) 4) o0 9 ((ww_cpy (ww_cpy (ww_cpy (ww_cpy (ww_cpy (ww_cpy (ww_cpy (ww_cpy (ww_cpy σ (o1 + 1) (o0 + 1) 6) (o1 + 2) (o0 + 2) 6) (o1 + 3) (o0 + 3) 6) (o1 + 4) (o0 + 4) 3) (o1 + 5) (o0 + 5) 3) (o1 + 6) (o0 + 6) 9) (o1 + 7) (o0 + 7) 9) (o1 + 8) (o0 + 8) 9) (o1 + 9) (o0 + 9) 4) o1 9)) o0 10 ((ww_up (ww_cpy (ww_cpy (ww_cpy (ww_cpy (ww_cpy (ww_cpy (ww_cpy (ww_cpy (ww_cpy σ (o1 + 1) (o0 + 1) 6) (o1 + 2) (o0 + 2) 6) (o1 + 3) (o0 + 3) 6) (o1 + 4) (o0 + 4) 3) (o1 + 5) (o0 + 5) 3) (o1 + 6) (o0 + 6) 9) (o1 + 7) (o0 + 7) 9) (o1 + 8) (o0 + 8) 9) (o1 + 9) (o0 + 9) 4) o0 9 ((ww_cpy (ww_cpy (ww_cpy (ww_cpy (ww_cpy (ww_cpy (ww_cpy (ww_cpy (ww_cpy σ (o1 + 1) (o0 + 1) 6) (o1 + 2) (o0 + 2) 6) (o1 + 3) (o0 + 3) 6) (o1 + 4) (o0 + 4) 3) (o1 + 5) (o0 + 5) 3) (o1 + 6) (o0 + 6) 9) (o1 + 7) (o0 + 7) 9) (o1 + 8) (o0 + 8) 9) (o1 + 9) (o0 + 9) 4) o1 9)) o1 10)) o1 11)) o0 12 ((ww_up (ww_up (ww_up (ww_cpy (ww_cpy (ww_cpy (ww_cpy (ww_cpy (ww_cpy (ww_cpy (ww_cpy (ww_cpy σ (o1 + 1) (o0 + 1) 6) (o1 + 2) (o0 + 2) 6) (o1 + 3) (o0 + 3) 6) (o1 + 4) (o0 + 4) 3) (o1 + 5) (o0 + 5) 3) (o1 + 6) (o0 + 6) 9) (o1 + 7) (o0 + 7) 9) (o1 + 8) (o0 + 8) 9) (o1 + 9) (o0 + 9) 4) o0 9 ((ww_cpy (ww_cpy (ww_cpy (ww_cpy (ww_cpy (ww_cpy (ww_cpy (ww_cpy (ww_cpy σ (o1 + 1) (o0 + 1) 6) (o1 + 2) (o0 + 2) 6) (o1 + 3) (o0 + 3) 6) (o1 + 4) (o0 + 4) 3) (o1 + 5) (o0 + 5) 3) (o1 + 6) (o0 + 6) 9) (o1 + 7) (o0 + 7) 9) (o1 + 8) (o0 + 8) 9) (o1 + 9) (o0 + 9) 4) o1 9)) o0 10 ((ww_up (ww_cpy (ww_cpy (ww_cpy (ww_cpy (ww_cpy (ww_cpy (ww_cpy (ww_cpy (ww_cpy σ (o1 + 1) (o0 + 1) 6) (o1 + 2) (o0 + 2) 6) (o1 + 3) (o0 + 3) 6) (o1 + 4) (o0 + 4) 3) (o1 + 5) (o0 + 5) 3) (o1 + 6) (o0 + 6) 9) (o1 + 7) (o0 + 7) 9) (o1 + 8) (o0 + 8) 9) (o1 + 9) (o0 + 9) 4) o0 9 ((ww_cpy (ww_cpy (ww_cpy (ww_cpy (ww_cpy (ww_cpy (ww_cpy (ww_cpy (ww_cpy σ (o1 + 1) (o0 + 1) 6) (o1 + 2) (o0 + 2) 6) (o1 + 3) (o0 + 3) 6) (o1 + 4) (o0 + 4) 3) (o1 + 5) (o0 + 5) 3) (o1 + 6) (o0 + 6) 9) (o1 + 7) (o0 + 7) 9) (o1 + 8) (o0 + 8) 9) (o1 + 9) (o0 + 9) 4) o1 9)) o1 10)) o0 11 ((ww_up (ww_up (ww_cpy (ww_cpy (ww_cpy (ww_cpy (ww_cpy (ww_cpy (ww_cpy (ww_cpy (ww_cpy σ (o1 + 1) (o0 + 1) 6) (o1 + 2) (o0 + 2) 6) (o1 + 3) (o0 + 3) 6) (o1 + 4) (o0 + 4) 3) (o1 + 5) (o0 + 5) 3) (o1 + 6) (o0 + 6) 9) (o1 + 7) (o0 + 7) 9) (o1 + 8) (o0 + 8) 9) (o1 + 9) (o0 + 9) 4) o0 9 ((ww_cpy (ww_cpy (ww_cpy (ww_cpy (ww_cpy (ww_cpy (ww_cpy (ww_cpy (ww_cpy σ (o1 + 1) (o0 + 1) 6) (o1 + 2) (o0 + 2) 6) (o1 + 3) (o0 + 3) 6) (o1 + 4) (o0 + 4) 3) (o1 + 5) (o0 + 5) 3) (o1 + 6) (o0 + 6) 9) (o1 + 7) (o0 + 7) 9) (o1 + 8) (o0 + 8) 9) (o1 + 9) (o0 + 9) 4) o1 9)) o0 10 ((ww_up (ww_cpy (ww_cpy (ww_cpy (ww_cpy (ww_cpy (ww_cpy (ww_cpy (ww_cpy (ww_cpy σ (o1 + 1) (o0 + 1) 6) (o1 + 2) (o0 + 2) 6) (o1 + 3) (o0 + 3) 6) (o1 + 4) (o0 + 4) 3) (o1 + 5) (o0 + 5) 3) (o1 + 6) (o0 + 6) 9) (o1 + 7) (o0 + 7) 9) (o1 + 8) (o0 + 8) 9) (o1 + 9) (o0 + 9) 4) o0 9 ((ww_cpy (ww_cpy (ww_cpy (ww_cpy (ww_cpy (ww_cpy (ww_cpy (ww_cpy (ww_cpy σ (o1 + 1) (o0 + 1) 6) (o1 + 2) (o0 + 2) 6) (o1 + 3) (o0 + 3) 6) (o1 + 4) (o0 + 4) 3) (o1 + 5) (o0 + 5) 3) (o1 + 6) (o0 + 6) 9) (o1 + 7) (o0 + 7) 9) (o1 + 8) (o0 + 8) 9) (o1 + 9) (o0 + 9) 4) o1 9)) o1 10)) o1 11)) o1 12)) o1 13)) o0 14 ((ww_up (ww_up (ww_up (ww_up (ww_up (ww_cpy (ww_cpy (ww_cpy (ww_cpy (ww_cpy (ww_cpy (ww_cpy (ww_cpy (ww_cpy σ (o1 + 1) (o0 + 1) 6) (o1 + 2) (o0 + 2) 6) (o1 + 3) (o0 + 3) 6) (o1 + 4) (o0 + 4) 3) (o1 + 5) (o0 + 5) 3) (o1 + 6) (o0 + 6) 9) (o1 + 7) (o0 + 7) 9) (o1 + 8) (o0 + 8) 9) (o1 + 9) (o0 + 9) 4) o0 9 ((ww_cpy (ww_cpy (ww_cpy (ww_cpy (ww_cpy (ww_cpy (ww_cpy (ww_cpy (ww_cpy σ (o1 + 1) (o0 + 1) 6) (o1 + 2) (o0 + 2) 6) (o1 + 3) (o0 + 3) 6) (o1 + 4) (o0 + 4) 3) (o1 + 5) (o0 + 5) 3) (o1 + 6) (o0 + 6) 9) (o1 + 7) (o0 + 7) 9) (o1 + 8) (o0 + 8) 9) (o1 + 9) (o0 + 9) 4) o1 9)) o0 10 ((ww_up (ww_cpy (ww_cpy (ww_cpy (ww_cpy (ww_cpy (ww_cpy (ww_cpy (ww_cpy (ww_cpy σ (o1 + 1) (o0 + 1) 6) (o1 + 2) (o0 + 2) 6) (o1 + 3) (o0 + 3) 6) (o1 + 4) (o0 + 4) 3) (o1 + 5) (o0 + 5) 3) (o1 + 6) (o0 + 6) 9) (o1 + 7) (o0 + 7) 9) (o1 + 8) (o0 + 8) 9) (o1 + 9) (o0 + 9) 4) o0 9 ((ww_cpy (ww_cpy (ww_cpy (ww_cpy (ww_cpy (ww_cpy (ww_cpy (ww_cpy (ww_cpy σ (o1 + 1) (o0 + 1) 6) (o1 + 2) (o0 + 2) 6) (o1 + 3) (o0 + 3) 6) (o1 + 4) (o0 + 4) 3) (o1 + 5) (o0 + 5) 3) (o1 + 6) (o0 + 6) 9) (o1 + 7) (o0 + 7) 9) (o1 + 8) (o0 + 8) 9) (o1 + 9) (o0 + 9) 4) o1 9)) o1 10)) o0 11 ((ww_up (ww_up (ww_cpy (ww_cpy (ww_cpy (ww_cpy (ww_cpy (ww_cpy (ww_cpy (ww_cpy (ww_cpy σ (o1 + 1) (o0 + 1) 6) (o1 + 2) (o0 + 2) 6) (o1 + 3) (o0 + 3) 6) (o1 + 4) (o0 + 4) 3) (o1 + 5) (o0 + 5) 3) (o1 + 6) (o0 + 6) 9) (o1 + 7) (o0 + 7) 9) (o1 + 8) (o0 + 8) 9) (o1 + 9) (o0 + 9) 4) o0 9 ((ww_cpy (ww_cpy (ww_cpy (ww_cpy (ww_cpy (ww_cpy (ww_cpy (ww_cpy (ww_cpy σ (o1 + 1) (o0 + 1) 6) (o1 + 2) (o0 + 2) 6) (o1 + 3) (o0 + 3) 6) (o1 + 4) (o0 + 4) 3) (o1 + 5) (o0 + 5) 3) (o1 + 6) (o0 + 6) 9) (o1 + 7) (o0 + 7) 9) (o1 + 8) (o0 + 8) 9) (o1 + 9) (o0 + 9) 4) o1 9)) o0 10 ((ww_up (ww_cpy (ww_cpy (ww_cpy (ww_cpy (ww_cpy (ww_cpy (ww_cpy (ww_cpy (ww_cpy σ (o1 + 1) (o0 + 1) 6) (o1 + 2) (o0 + 2) 6) (o1 + 3) (o0 + 3) 6) (o1 + 4) (o0 + 4) 3) (o1 + 5) (o0 + 5) 3) (o1 + 6) (o0 + 6) 9) (o1 + 7) (o0 + 7) 9) (o1 + 8) (o0 + 8) 9) (o1 + 9) (o0 + 9) 4) o0 9 ((ww_cpy (ww_cpy (ww_cpy (ww_cpy (ww_cpy (ww_cpy (ww_cpy (ww_cpy (ww_cpy σ (o1 + 1) (o0 + 1) 6) (o1 + 2) (o0 + 2) 6) (o1 + 3) (o0 + 3) 6) (o1 + 4) (o0 + 4) 3) (o1 + 5) (o0 + 5) 3) (o1 + 6) (o0 + 6) 9) (o1 + 7) (o0 + 7) 9) (o1 + 8) (o0 + 8) 9) (o1 + 9) (o0 + 9) 4) o1 9)) o1 10)) o1 11)) o0 12 ((ww_up (ww_up (ww_up (ww_cpy (ww_cpy (ww_cpy (ww_cpy (ww_cpy (ww_cpy (ww_cpy (ww_cpy (ww_cpy σ (o1 + 1) (o0 + 1) 6) (o1 + 2) (o0 + 2) 6) (o1 + 3) (o0 + 3) 6) (o1 + 4) (o0 + 4) 3) (o1 + 5) (o0 + 5) 3) (o1 + 6) (o0 + 6) 9) (o1 + 7) (o0 + 7) 9) (o1 + 8) (o0 + 8) 9) (o1 + 9) (o0 + 9) 4) o0 9 ((ww_cpy (ww_cpy (ww_cpy (ww_cpy (ww_cpy (ww_cpy (ww_cpy (ww_cpy (ww_cpy σ (o1 + 1) (o0 + 1) 6) (o1 + 2) (o0 + 2) 6) (o1 + 3) (o0 + 3) 6) (o1 + 4) (o0 + 4) 3) (o1 + 5) (o0 + 5) 3) (o1 + 6) (o0 + 6) 9) (o1 + 7) (o0 + 7) 9) (o1 + 8) (o0 + 8) 9) (o1 + 9) (o0 + 9) 4) o1 9)) o0 10 ((ww_up (ww_cpy (ww_cpy (ww_cpy (ww_cpy (ww_cpy (ww_cpy (ww_cpy (ww_cpy (ww_cpy σ (o1 + 1) (o0 + 1) 6) (o1 + 2) (o0 + 2) 6) (o1 + 3) (o0 + 3) 6) (o1 + 4) (o0 + 4) 3) (o1 + 5) (o0 + 5) 3) (o1 + 6) (o0 + 6) 9) (o1 + 7) (o0 + 7) 9) (o1 + 8) (o0 + 8) 9) (o1 + 9) (o0 + 9) 4) o0 9 ((ww_cpy (ww_cpy (ww_cpy (ww_cpy (ww_cpy (ww_cpy (ww_cpy (ww_cpy (ww_cpy σ (o1 + 1) (o0 + 1) 6) (o1 + 2) (o0 + 2) 6) (o1 + 3) (o0 + 3) 6) (o1 + 4) (o0 + 4) 3) (o1 + 5) (o0 + 5) 3) (o1 + 6) (o0 + 6) 9) (o1 + 7) (o0 + 7) 9) (o1 + 8) (o0 + 8) 9) (o1 + 9) (o0 + 9) 4) o1 9)) o1 10)) o0 11 ((ww_up (ww_up (ww_cpy (ww_cpy (ww_cpy (ww_cpy (ww_cpy (ww_cpy (ww_cpy (ww_cpy (ww_cpy σ (o1 + 1) (o0 + 1) 6) (o1 + 2) (o0 + 2) 6) (o1 + 3) (o0 + 3) 6) (o1 + 4) (o0 + 4) 3) (o1 + 5) (o0 + 5) 3) (o1 + 6) (o0 + 6) 9) (o1 + 7) (o0 + 7) 9) (o1 + 8) (o0 + 8) 9) (o1 + 9) (o0 + 9) 4) o0 9 ((ww_cpy (ww_cpy (ww_cpy (ww_cpy (ww_cpy (ww_cpy (ww_cpy (ww_cpy (ww_cpy σ (o1 + 1) (o0 + 1) 6) (o1 + 2) (o0 + 2) 6) (o1 + 3) (o0 + 3) 6) (o1 + 4) (o0 + 4) 3) (o1 + 5) (o0 + 5) 3) (o1 + 6) (o0 + 6) 9) (o1 + 7) (o0 + 7) 9) (o1 + 8) (o0 + 8) 9) (o1 + 9) (o0 + 9) 4) o1 9)) o0 10 ((ww_up (ww_cpy (ww_cpy (ww_cpy (ww_cpy (ww_cpy (ww_cpy (ww_cpy (ww_cpy (ww_cpy σ (o1 + 1) (o0 + 1) 6) (o1 + 2) (o0 + 2) 6) (o1 + 3) (o0 + 3) 6) (o1 + 4) (o0 + 4) 3) (o1 + 5) (o0 + 5) 3) (o1 + 6) (o0 + 6) 9) (o1 + 7) (o0 + 7) 9) (o1 + 8) (o0 + 8) 9) (o1 + 9) (o0 + 9) 4) o0 9 ((ww_cpy (ww_cpy (ww_cpy (ww_cpy (ww_cpy (ww_cpy (ww_cpy (ww_cpy (ww_cpy σ (o1 + 1) (o0 + 1) 6) (o1 + 2) (o0 + 2) 6) (o1 + 3) (o0 + 3) 6) (o1 + 4) (o0 + 4) 3) (o1 + 5) (o0 + 5) 3) (o1 + 6) (o0 + 6) 9) (o1 + 7) (o0 + 7) 9) (o1 + 8) (o0 + 8) 9) (o1 + 9) (o0 + 9) 4) o1 9)) o1 10)) o1 11)) o1 12)) o0 13 ((ww_up (ww_up (ww_up (ww_up (ww_cpy (ww_cpy (ww_cpy (ww_cpy (ww_cpy (ww_cpy (ww_cpy (ww_cpy (ww_cpy σ (o1 + 1) (o0 + 1) 6) (o1 + 2) (o0 + 2) 6) (o1 + 3) (o0 + 3) 6) (o1 + 4) (o0 + 4) 3) (o1 + 5) (o0 + 5) 3) (o1 + 6) (o0 + 6) 9) (o1 + 7) (o0 + 7) 9) (o1 + 8) (o0 + 8) 9) (o1 + 9) (o0 + 9) 4) o0 9 ((ww_cpy (ww_cpy (ww_cpy (ww_cpy (ww_cpy (ww_cpy (ww_cpy (ww_cpy (ww_cpy σ (o1 + 1) (o0 + 1) 6) (o1 + 2) (o0 + 2) 6) (o1 + 3) (o0 + 3) 6) (o1 + 4) (o0 + 4) 3) (o1 + 5) (o0 + 5) 3) (o1 + 6) (o0 + 6) 9) (o1 + 7) (o0 + 7) 9) (o1 + 8) (o0 + 8) 9) (o1 + 9) (o0 + 9) 4) o1 9)) o0 10 ((ww_up (ww_cpy (ww_cpy (ww_cpy (ww_cpy (ww_cpy (ww_cpy (ww_cpy (ww_cpy (ww_cpy σ (o1 + 1) (o0 + 1) 6) (o1 + 2) (o0 + 2) 6) (o1 + 3) (o0 + 3) 6) (o1 + 4) (o0 + 4) 3) (o1 + 5) (o0 + 5) 3) (o1 + 6) (o0 + 6) 9) (o1 + 7) (o0 + 7) 9) (o1 + 8) (o0 + 8) 9) (o1 + 9) (o0 + 9) 4) o0 9 ((ww_cpy (ww_cpy (ww_cpy (ww_cpy (ww_cpy (ww_cpy (ww_cpy (ww_cpy (ww_cpy σ (o1 + 1) (o0 + 1) 6) (o1 + 2) (o0 + 2) 6) (o1 + 3) (o0 + 3) 6) (o1 + 4) (o0 + 4) 3) (o1 + 5) (o0 + 5) 3) (o1 + 6) (o0 + 6) 9) (o1 + 7) (o0 + 7) 9) (o1 + 8) (o0 + 8) 9) (o1 + 9) (o0 + 9) 4) o1 9)) o1 10)) o0 11 ((ww_up (ww_up (ww_cpy (ww_cpy (ww_cpy (ww_cpy (ww_cpy (ww_cpy (ww_cpy (ww_cpy (ww_cpy σ (o1 + 1) (o0 + 1) 6) (o1 + 2) (o0 + 2) 6) (o1 + 3) (o0 + 3) 6) (o1 + 4) (o0 + 4) 3) (o1 + 5) (o0 + 5) 3) (o1 + 6) (o0 + 6) 9) (o1 + 7) (o0 + 7) 9) (o1 + 8) (o0 + 8) 9) (o1 + 9) (o0 + 9) 4) o0 9 ((ww_cpy (ww_cpy (ww_cpy (ww_cpy (ww_cpy (ww_cpy (ww_cpy (ww_cpy (ww_cpy σ (o1 + 1) (o0 + 1) 6) (o1 + 2) (o0 + 2) 6) (o1 + 3) (o0 + 3) 6) (o1 + 4) (o0 + 4) 3) (o1 + 5) (o0 + 5) 3) (o1 + 6) (o0 + 6) 9) (o1 + 7) (o0 + 7) 9) (o1 + 8) (o0 + 8) 9) (o1 + 9) (o0 + 9) 4) o1 9)) o0 10 ((ww_up (ww_cpy (ww_cpy (ww_cpy (ww_cpy (ww_cpy (ww_cpy (ww_cpy (ww_cpy (ww_cpy σ (o1 + 1) (o0 + 1) 6) (o1 + 2) (o0 + 2) 6) (o1 + 3) (o0 + 3) 6) (o1 + 4) (o0 + 4) 3) (o1 + 5) (o0 + 5) 3) (o1 + 6) (o0 + 6) 9) (o1 + 7) (o0 + 7) 9) (o1 + 8) (o0 + 8) 9) (o1 + 9) (o0 + 9) 4) o0 9 ((ww_cpy (ww_cpy (ww_cpy (ww_cpy (ww_cpy (ww_cpy (ww_cpy (ww_cpy (ww_cpy σ (o1 + 1) (o0 + 1) 6) (o1 + 2) (o0 + 2) 6) (o1 + 3) (o0 + 3) 6) (o1 + 4) (o0 + 4) 3) (o1 + 5) (o0 + 5) 3) (o1 + 6) (o0 + 6) 9) (o1 + 7) (o0 + 7) 9) (o1 + 8) (o0 + 8) 9) (o1 + 9) (o0 + 9) 4) o1 9)) o1 10)) o1 11)) o0 12 ((ww_up (ww_up (ww_up (ww_cpy (ww_cpy (ww_cpy (ww_cpy (ww_cpy (ww_cpy (ww_cpy (ww_cpy (ww_cpy σ (o1 + 1) (o0 + 1) 6) (o1 + 2) (o0 + 2) 6) (o1 + 3) (o0 + 3) 6) (o1 + 4) (o0 + 4) 3) (o1 + 5) (o0 + 5) 3) (o1 + 6) (o0 + 6) 9) (o1 + 7) (o0 + 7) 9) (o1 + 8) (o0 + 8) 9) (o1 + 9) (o0 + 9) 4) o0 9 ((ww_cpy (ww_cpy (ww_cpy (ww_cpy (ww_cpy (ww_cpy (ww_cpy (ww_cpy (ww_cpy σ (o1 + 1) (o0 + 1) 6) (o1 + 2) (o0 + 2) 6) (o1 + 3) (o0 + 3) 6) (o1 + 4) (o0 + 4) 3) (o1 + 5) (o0 + 5) 3) (o1 + 6) (o0 + 6) 9) (o1 + 7) (o0 + 7) 9) (o1 + 8) (o0 + 8) 9) (o1 + 9) (o0 + 9) 4) o1 9)) o0 10 ((ww_up (ww_cpy (ww_cpy (ww_cpy (ww_cpy (ww_cpy (ww_cpy (ww_cpy (ww_cpy (ww_cpy σ (o1 + 1) (o0 + 1) 6) (o1 + 2) (o0 + 2) 6) (o1 + 3) (o0 + 3) 6) (o1 + 4) (o0 + 4) 3) (o1 + 5) (o0 + 5) 3) (o1 + 6) (o0 + 6) 9) (o1 + 7) (o0 + 7) 9) (o1 + 8) (o0 + 8) 9) (o1 + 9) (o0 + 9) 4) o0 9 ((ww_cpy (ww_cpy (ww_cpy (ww_cpy (ww_cpy (ww_cpy (ww_cpy (ww_cpy (ww_cpy σ (o1 + 1) (o0 + 1) 6) (o1 + 2) (o0 + 2) 6) (o1 + 3) (o0 + 3) 6) (o1 + 4) (o0 + 4) 3) (o1 + 5) (o0 + 5) 3) (o1 + 6) (o0 + 6) 9) (o1 + 7) (o0 + 7) 9) (o1 + 8) (o0 + 8) 9) (o1 + 9) (o0 + 9) 4) o1 9)) o1 10)) o0 11 ((ww_up (ww_up (ww_cpy (ww_cpy (ww_cpy (ww_cpy (ww_cpy (ww_cpy (ww_cpy (ww_cpy (ww_cpy σ (o1 + 1) (o0 + 1) 6) (o1 + 2) (o0 + 2) 6) (o1 + 3) (o0 + 3) 6) (o1 + 4) (o0 + 4) 3) (o1 + 5) (o0 + 5) 3) (o1 + 6) (o0 + 6) 9) (o1 + 7) (o0 + 7) 9) (o1 + 8) (o0 + 8) 9) (o1 + 9) (o0 + 9) 4) o0 9 ((ww_cpy (ww_cpy (ww_cpy (ww_cpy (ww_cpy (ww_cpy (ww_cpy (ww_cpy (ww_cpy σ (o1 + 1) (o0 + 1) 6) (o1 + 2) (o0 + 2) 6) (o1 + 3) (o0 + 3) 6) (o1 + 4) (o0 + 4) 3) (o1 + 5) (o0 + 5) 3) (o1 + 6) (o0 + 6) 9) (o1 + 7) (o0 + 7) 9) (o1 + 8) (o0 + 8) 9) (o1 + 9) (o0 + 9) 4) o1 9)) o0 10 ((ww_up (ww_cpy (ww_cpy (ww_cpy (ww_cpy (ww_cpy (ww_cpy (ww_cpy (ww_cpy (ww_cpy σ (o1 + 1) (o0 + 1) 6) (o1 + 2) (o0 + 2) 6) (o1 + 3) (o0 + 3) 6) (o1 + 4) (o0 + 4) 3) (o1 + 5) (o0 + 5) 3) (o1 + 6) (o0 + 6) 9) (o1 + 7) (o0 + 7) 9) (o1 + 8) (o0 + 8) 9) (o1 + 9) (o0 + 9) 4) o0 9 ((ww_cpy (ww_cpy (ww_cpy (ww_cpy (ww_cpy (ww_cpy (ww_cpy (ww_cpy (ww_cpy σ (o1 + 1) (o0 + 1) 6) (o1 + 2) (o0 + 2) 6) (o1 + 3) (o0 + 3) 6) (o1 + 4) (o0 + 4) 3) (o1 + 5) (o0 + 5) 3) (o1 + 6) (o0 + 6) 9) (o1 + 7) (o0 + 7) 9) (o1 + 8) (o0 + 8) 9) (o1 + 9) (o0 + 9) 4) o1 9)) o1 10)) o1 11)) o1 12)) o1 13)) o1 14)) o0 15 ((ww_up (ww_up (ww_up (ww_up (ww_up (ww_up (ww_cpy (ww_cpy (ww_cpy (ww_cpy (ww_cpy (ww_cpy (ww_cpy (ww_cpy (ww_cpy σ (o1 + 1) (o0 + 1) 6) (o1 + 2) (o0 + 2) 6) (o1 + 3) (o0 + 3) 6) (o1 + 4) (o0 + 4) 3) (o1 + 5) (o0 + 5) 3) (o1 + 6) (o0 + 6) 9) (o1 + 7) (o0 + 7) 9) (o1 + 8) (o0 + 8) 9) (o1 + 9) (o0 + 9) 4) o0 9 ((ww_cpy (ww_cpy (ww_cpy (ww_cpy (ww_cpy (ww_cpy (ww_cpy (ww_cpy (ww_cpy σ (o1 + 1) (o0 + 1) 6) (o1 + 2) (o0 + 2) 6) (o1 + 3) (o0 + 3) 6) (o1 + 4) (o0 + 4) 3) (o1 + 5) (o0 + 5) 3) (o1 + 6) (o0 + 6) 9) (o1 + 7) (o0 + 7) 9) (o1 + 8) (o0 + 8) 9) (o1 + 9) (o0 + 9) 4) o1 9)) o0 10 ((ww_up (ww_cpy (ww_cpy (ww_cpy (ww_cpy (ww_cpy (ww_cpy (ww_cpy (ww_cpy (ww_cpy σ (o1 + 1) (o0 + 1) 6) (o1 + 2) (o0 + 2) 6) (o1 + 3) (o0 + 3) 6) (o1 + 4) (o0 + 4) 3) (o1 + 5) (o0 + 5) 3) (o1 + 6) (o0 + 6) 9) (o1 + 7) (o0 + 7) 9) (o1 + 8) (o0 + 8) 9) (o1 + 9) (o0 + 9) 4) o0 9 ((ww_cpy (ww_cpy (ww_cpy (ww_cpy (ww_cpy (ww_cpy (ww_cpy (ww_cpy (ww_cpy σ (o1 + 1) (o0 + 1) 6) (o1 + 2) (o0 + 2) 6) (o1 + 3) (o0 + 3) 6) (o1 + 4) (o0 + 4) 3) (o1 + 5) (o0 + 5) 3) (o1 + 6) (o0 + 6) 9) (o1 + 7) (o0 + 7) 9) (o1 + 8) (o0 + 8) 9) (o1 + 9) (o0 + 9) 4) o1 9)) o1 10)) o0 11 ((ww_up (ww_up (ww_cpy (ww_cpy (ww_cpy (ww_cpy (ww_cpy (ww_cpy (ww_cpy (ww_cpy (ww_cpy σ (o1 + 1) (o0 + 1) 6) (o1 + 2) (o0 + 2) 6) (o1 + 3) (o0 + 3) 6) (o1 + 4) (o0 + 4) 3) (o1 + 5) (o0 + 5) 3) (o1 + 6) (o0 + 6) 9) (o1 + 7) (o0 + 7) 9) (o1 + 8) (o0 + 8) 9) (o1 + 9) (o0 + 9) 4) o0 9 ((ww_cpy (ww_cpy (ww_cpy (ww_cpy (ww_cpy (ww_cpy (ww_cpy (ww_cpy (ww_cpy σ (o1 + 1) (o0 + 1) 6) (o1 + 2) (o0 + 2) 6) (o1 + 3) (o0 + 3) 6) (o1 + 4) (o0 + 4) 3) (o1 + 5) (o0 + 5) 3) (o1 + 6) (o0 + 6) 9) (o1 + 7) (o0 + 7) 9) (o1 + 8) (o0 + 8) 9) (o1 + 9) (o0 + 9) 4) o1 9)) o0 10 ((ww_up (ww_cpy (ww_cpy (ww_cpy (ww_cpy (ww_cpy (ww_cpy (ww_cpy (ww_cpy (ww_cpy σ (o1 + 1) (o0 + 1) 6) (o1 + 2) (o0 + 2) 6) (o1 + 3) (o0 + 3) 6) (o1 + 4) (o0 + 4) 3) (o1 + 5) (o0 + 5) 3) (o1 + 6) (o0 + 6) 9) (o1 + 7) (o0 + 7) 9) (o1 + 8) (o0 + 8) 9) (o1 + 9) (o0 + 9) 4) o0 9 ((ww_cpy (ww_cpy (ww_cpy (ww_cpy (ww_cpy (ww_cpy (ww_cpy (ww_cpy (ww_cpy σ (o1 + 1) (o0 + 1) 6) (o1 + 2) (o0 + 2) 6) (o1 + 3) (o0 + 3) 6) (o1 + 4) (o0 + 4) 3) (o1 + 5) (o0 + 5) 3) (o1 + 6) (o0 + 6) 9) (o1 + 7) (o0 + 7) 9) (o1 + 8) (o0 + 8) 9) (o1 + 9) (o0 + 9) 4) o1 9)) o1 10)) o1 11)) o0 12 ((ww_up (ww_up (ww_up (ww_cpy (ww_cpy (ww_cpy (ww_cpy (ww_cpy (ww_cpy (ww_cpy (ww_cpy (ww_cpy σ (o1 + 1) (o0 + 1) 6) (o1 + 2) (o0 + 2) 6) (o1 + 3) (o0 + 3) 6) (o1 + 4) (o0 + 4) 3) (o1 + 5) (o0 + 5) 3) (o1 + 6) (o0 + 6) 9) (o1 + 7) (o0 + 7) 9) (o1 + 8) (o0 + 8) 9) (o1 + 9) (o0 + 9) 4) o0 9 ((ww_cpy (ww_cpy (ww_cpy (ww_cpy (ww_cpy (ww_cpy (ww_cpy (ww_cpy (ww_cpy σ (o1 + 1) (o0 + 1) 6) (o1 + 2) (o0 + 2) 6) (o1 + 3) (o0 + 3) 6) (o1 + 4) (o0 + 4) 3) (o1 + 5) (o0 + 5) 3) (o1 + 6) (o0 + 6) 9) (o1 + 7) (o0 + 7) 9) (o1 + 8) (o0 + 8) 9) (o1 + 9) (o0 + 9) 4) o1 9)) o0 10 ((ww_up (ww_cpy (ww_cpy (ww_cpy (ww_cpy (ww_cpy (ww_cpy (ww_cpy (ww_cpy (ww_cpy σ (o1 + 1) (o0 + 1) 6) (o1 + 2) (o0 + 2) 6) (o1 + 3) (o0 + 3) 6) (o1 + 4) (o0 + 4) 3) (o1 + 5) (o0 + 5) 3) (o1 + 6) (o0 + 6) 9) (o1 + 7) (o0 + 7) 9) (o1 + 8) (o0 + 8) 9) (o1 + 9) (o0 + 9) 4) o0 9 ((ww_cpy (ww_cpy (ww_cpy (ww_cpy (ww_cpy (ww_cpy (ww_cpy (ww_cpy (ww_cpy σ (o1 + 1) (o0 + 1) 6) (o1 + 2) (o0 + 2) 6) (o1 + 3) (o0 + 3) 6) (o1 + 4) (o0 + 4) 3) (o1 + 5) (o0 + 5) 3) (o1 + 6) (o0 + 6) 9) (o1 + 7) (o0 + 7) 9) (o1 + 8) (o0 + 8) 9) (o1 + 9) (o0 + 9) 4) o1 9)) o1 10)) o0 11 ((ww_up (ww_up (ww_cpy (ww_cpy (ww_cpy (ww_cpy (ww_cpy (ww_cpy (ww_cpy (ww_cpy (ww_cpy σ (o1 + 1) (o0 + 1) 6) (o1 + 2) (o0 + 2) 6) (o1 + 3) (o0 + 3) 6) (o1 + 4) (o0 + 4) 3) (o1 + 5) (o0 + 5) 3) (o1 + 6) (o0 + 6) 9) (o1 + 7) (o0 + 7) 9) (o1 + 8) (o0 + 8) 9) (o1 + 9) (o0 + 9) 4) o0 9 ((ww_cpy (ww_cpy (ww_cpy (ww_cpy (ww_cpy (ww_cpy (ww_cpy (ww_cpy (ww_cpy σ (o1 + 1) (o0 + 1) 6) (o1 + 2) (o0 + 2) 6) (o1 + 3) (o0 + 3) 6) (o1 + 4) (o0 + 4) 3) (o1 + 5) (o0 + 5) 3) (o1 + 6) (o0 + 6) 9) (o1 + 7) (o0 + 7) 9) (o1 + 8) (o0 + 8) 9) (o1 + 9) (o0 + 9) 4) o1 9)) o0 10 ((ww_up (ww_cpy (ww_cpy (ww_cpy (ww_cpy (ww_cpy (ww_cpy (ww_cpy (ww_cpy (ww_cpy σ (o1 + 1) (o0 + 1) 6) (o1 + 2) (o0 + 2) 6) (o1 + 3) (o0 + 3) 6) (o1 + 4) (o0 + 4) 3) (o1 + 5) (o0 + 5) 3) (o1 + 6) (o0 + 6) 9) (o1 + 7) (o0 + 7) 9) (o1 + 8) (o0 + 8) 9) (o1 + 9) (o0 + 9) 4) o0 9 ((ww_cpy (ww_cpy (ww_cpy (ww_cpy (ww_cpy (ww_cpy (ww_cpy (ww_cpy (ww_cpy σ (o1 + 1) (o0 + 1) 6) (o1 + 2) (o0 + 2) 6) (o1 + 3) (o0 + 3) 6) (o1 + 4) (o0 + 4) 3) (o1 + 5) (o0 + 5) 3) (o1 + 6) (o0 + 6) 9) (o1 + 7) (o0 + 7) 9) (o1 + 8) (o0 + 8) 9) (o1 + 9) (o0 + 9) 4) o1 9)) o1 10)) o1 11)) o1 12)) o0 13 ((ww_up (ww_up (ww_up (ww_up (ww_cpy (ww_cpy (ww_cpy (ww_cpy (ww_cpy (ww_cpy (ww_cpy (ww_cpy (ww_cpy σ (o1 + 1) (o0 + 1) 6) (o1 + 2) (o0 + 2) 6) (o1 + 3) (o0 + 3) 6) (o1 + 4) (o0 + 4) 3) (o1 + 5) (o0 + 5) 3) (o1 + 6) (o0 + 6) 9) (o1 + 7) (o0 + 7) 9) (o1 + 8) (o0 + 8) 9) (o1 + 9) (o0 + 9) 4) o0 9 ((ww_cpy (ww_cpy (ww_cpy (ww_cpy (ww_cpy (ww_cpy (ww_cpy (ww_cpy (ww_cpy σ (o1 + 1) (o0 + 1) 6) (o1 + 2) (o0 + 2) 6) (o1 + 3) (o0 + 3) 6) (o1 + 4) (o0 + 4) 3) (o1 + 5) (o0 + 5) 3) (o1 + 6) (o0 + 6) 9) (o1 + 7) (o0 + 7) 9) (o1 + 8) (o0 + 8) 9) (o1 + 9) (o0 + 9) 4) o1 9)) o0 10 ((ww_up (ww_cpy (ww_cpy (ww_cpy (ww_cpy (ww_cpy (ww_cpy (ww_cpy (ww_cpy (ww_cpy σ (o1 + 1) (o0 + 1) 6) (o1 + 2) (o0 + 2) 6) (o1 + 3) (o0 + 3) 6) (o1 + 4) (o0 + 4) 3) (o1 + 5) (o0 + 5) 3) (o1 + 6) (o0 + 6) 9) (o1 + 7) (o0 + 7) 9) (o1 + 8) (o0 + 8) 9) (o1 + 9) (o0 + 9) 4) o0 9 ((ww_cpy (ww_cpy (ww_cpy (ww_cpy (ww_cpy (ww_cpy (ww_cpy (ww_cpy (ww_cpy σ (o1 + 1) (o0 + 1) 6) (o1 + 2) (o0 + 2) 6) (o1 + 3) (o0 + 3) 6) (o1 + 4) (o0 + 4) 3) (o1 + 5) (o0 + 5) 3) (o1 + 6) (o0 + 6) 9) (o1 + 7) (o0 + 7) 9) (o1 + 8) (o0 + 8) 9) (o1 + 9) (o0 + 9) 4) o1 9)) o1 10)) o0 11 ((ww_up (ww_up (ww_cpy (ww_cpy (ww_cpy (ww_cpy (ww_cpy (ww_cpy (ww_cpy (ww_cpy (ww_cpy σ (o1 + 1) (o0 + 1) 6) (o1 + 2) (o0 + 2) 6) (o1 + 3) (o0 + 3) 6) (o1 + 4) (o0 + 4) 3) (o1 + 5) (o0 + 5) 3) (o1 + 6) (o0 + 6) 9) (o1 + 7) (o0 + 7) 9) (o1 + 8) (o0 + 8) 9) (o1 + 9) (o0 + 9) 4) o0 9 ((ww_cpy (ww_cpy (ww_cpy (ww_cpy (ww_cpy (ww_cpy (ww_cpy (ww_cpy (ww_cpy σ (o1 + 1) (o0 + 1) 6) (o1 + 2) (o0 + 2) 6) (o1 + 3) (o0 + 3) 6) (o1 + 4) (o0 + 4) 3) (o1 + 5) (o0 + 5) 3) (o1 + 6) (o0 + 6) 9) (o1 + 7) (o0 + 7) 9) (o1 + 8) (o0 + 8) 9) (o1 + 9) (o0 + 9) 4) o1 9)) o0 10 ((ww_up (ww_cpy (ww_cpy (ww_cpy (ww_cpy (ww_cpy (ww_cpy (ww_cpy (ww_cpy (ww_cpy σ (o1 + 1) (o0 + 1) 6) (o1 + 2) (o0 + 2) 6) (o1 + 3) (o0 + 3) 6) (o1 + 4) (o0 + 4) 3) (o1 + 5) (o0 + 5) 3) (o1 + 6) (o0 + 6) 9) (o1 + 7) (o0 + 7) 9) (o1 + 8) (o0 + 8) 9) (o1 + 9) (o0 + 9) 4) o0 9 ((ww_cpy (ww_cpy (ww_cpy (ww_cpy (ww_cpy (ww_cpy (ww_cpy (ww_cpy (ww_cpy σ (o1 + 1) (o0 + 1) 6) (o1 + 2) (o0 + 2) 6) (o1 + 3) (o0 + 3) 6) (o1 + 4) (o0 + 4) 3) (o1 + 5) (o0 + 5) 3) (o1 + 6) (o0 + 6) 9) (o1 + 7) (o0 + 7) 9) (o1 + 8) (o0 + 8) 9) (o1 + 9) (o0 + 9) 4) o1 9)) o1 10)) o1 11)) o0 12 ((ww_up (ww_up (ww_up (ww_cpy (ww_cpy (ww_cpy (ww_cpy (ww_cpy (ww_cpy (ww_cpy (ww_cpy (ww_cpy σ (o1 + 1) (o0 + 1) 6) (o1 + 2) (o0 + 2) 6) (o1 + 3) (o0 + 3) 6) (o1 + 4) (o0 + 4) 3) (o1 + 5) (o0 + 5) 3) (o1 + 6) (o0 + 6) 9) (o1 + 7) (o0 + 7) 9) (o1 + 8) (o0 + 8) 9) (o1 + 9) (o0 + 9) 4) o0 9 ((ww_cpy (ww_cpy (ww_cpy (ww_cpy (ww_cpy (ww_cpy (ww_cpy (ww_cpy (ww_cpy σ (o1 + 1) (o0 + 1) 6) (o1 + 2) (o0 + 2) 6) (o1 + 3) (o0 + 3) 6) (o1 + 4) (o0 + 4) 3) (o1 + 5) (o0 + 5) 3) (o1 + 6) (o0 + 6) 9) (o1 + 7) (o0 + 7) 9) (o1 + 8) (o0 + 8) 9) (o1 + 9) (o0 + 9) 4) o1 9)) o0 10 ((ww_up (ww_cpy (ww_cpy (ww_cpy (ww_cpy (ww_cpy (ww_cpy (ww_cpy (ww_cpy (ww_cpy σ (o1 + 1) (o0 + 1) 6) (o1 + 2) (o0 + 2) 6) (o1 + 3) (o0 + 3) 6) (o1 + 4) (o0 + 4) 3) (o1 + 5) (o0 + 5) 3) (o1 + 6) (o0 + 6) 9) (o1 + 7) (o0 + 7) 9) (o1 + 8) (o0 + 8) 9) (o1 + 9) (o0 + 9) 4) o0 9 ((ww_cpy (ww_cpy (ww_cpy (ww_cpy (ww_cpy (ww_cpy (ww_cpy (ww_cpy (ww_cpy σ (o1 + 1) (o0 + 1) 6) (o1 + 2) (o0 + 2) 6) (o1 + 3) (o0 + 3) 6) (o1 + 4) (o0 + 4) 3) (o1 + 5) (o0 + 5) 3) (o1 + 6) (o0 + 6) 9) (o1 + 7) (o0 + 7) 9) (o1 + 8) (o0 + 8) 9) (o1 + 9) (o0 + 9) 4) o1 9)) o1 10)) o0 11 ((ww_up (ww_up (ww_cpy (ww_cpy (ww_cpy (ww_cpy (ww_cpy (ww_cpy (ww_cpy (ww_cpy (ww_cpy σ (o1 + 1) (o0 + 1) 6) (o1 + 2) (o0 + 2) 6) (o1 + 3) (o0 + 3) 6) (o1 + 4) (o0 + 4) 3) (o1 + 5) (o0 + 5) 3) (o1 + 6) (o0 + 6) 9) (o1 + 7) (o0 + 7) 9) (o1 + 8) (o0 + 8) 9) (o1 + 9) (o0 + 9) 4) o0 9 ((ww_cpy (ww_cpy (ww_cpy (ww_cpy (ww_cpy (ww_cpy (ww_cpy (ww_cpy (ww_cpy σ (o1 + 1) (o0 + 1) 6) (o1 + 2) (o0 + 2) 6) (o1 + 3) (o0 + 3) 6) (o1 + 4) (o0 + 4) 3) (o1 + 5) (o0 + 5) 3) (o1 + 6) (o0 + 6) 9) (o1 + 7) (o0 + 7) 9) (o1 + 8) (o0 + 8) 9) (o1 + 9) (o0 + 9) 4) o1 9)) o0 10 ((ww_up (ww_cpy (ww_cpy (ww_cpy (ww_cpy (ww_cpy (ww_cpy (ww_cpy (ww_cpy (ww_cpy σ (o1 + 1) (o0 + 1) 6) (o1 + 2) (o0 + 2) 6) (o1 + 3) (o0 + 3) 6) (o1 + 4) (o0 + 4) 3) (o1 + 5) (o0 + 5) 3) (o1 + 6) (o0 + 6) 9) (o1 + 7) (o0 + 7) 9) (o1 + 8) (o0 + 8) 9) (o1 + 9) (o0 + 9) 4) o0 9 ((ww_cpy (ww_cpy (ww_cpy (ww_cpy (ww_cpy (ww_cpy (ww_cpy (ww_cpy (ww_cpy σ (o1 + 1) (o0 + 1) 6) (o1 + 2) (o0 + 2) 6) (o1 + 3) (o0 + 3) 6) (o1 + 4) (o0 + 4) 3) (o1 + 5) (o0 + 5) 3) (o1 + 6) (o0 + 6) 9) (o1 + 7) (o0 + 7) 9) (o1 + 8) (o0 + 8) 9) (o1 + 9) (o0 + 9) 4) o1 9)) o1 10)) o1 11)) o1 12)) o1 13)) o0 14 ((ww_up (ww_up (ww_up (ww_up (ww_up (ww_cpy (ww_cpy (ww_cpy (ww_cpy (ww_cpy (ww_cpy (ww_cpy (ww_cpy (ww_cpy σ (o1 + 1) (o0 + 1) 6) (o1 + 2) (o0 + 2) 6) (o1 + 3) (o0 + 3) 6) (o1 + 4) (o0 + 4) 3) (o1 + 5) (o0 + 5) 3) (o1 + 6) (o0 + 6) 9) (o1 + 7) (o0 + 7) 9) (o1 + 8) (o0 + 8) 9) (o1 + 9) (o0 + 9) 4) o0 9 ((ww_cpy (ww_cpy (ww_cpy (ww_cpy (ww_cpy (ww_cpy (ww_cpy (ww_cpy (ww_cpy σ (o1 + 1) (o0 + 1) 6) (o1 + 2) (o0 + 2) 6) (o1 + 3) (o0 + 3) 6) (o1 + 4) (o0 + 4) 3) (o1 + 5) (o0 + 5) 3) (o1 + 6) (o0 + 6) 9) (o1 + 7) (o0 + 7) 9) (o1 + 8) (o0 + 8) 9) (o1 + 9) (o0 + 9) 4) o1 9)) o0 10 ((ww_up (ww_cpy (ww_cpy (ww_cpy (ww_cpy (ww_cpy (ww_cpy (ww_cpy (ww_cpy (ww_cpy σ (o1 + 1) (o0 + 1) 6) (o1 + 2) (o0 + 2) 6) (o1 + 3) (o0 + 3) 6) (o1 + 4) (o0 + 4) 3) (o1 + 5) (o0 + 5) 3) (o1 + 6) (o0 + 6) 9) (o1 + 7) (o0 + 7) 9) (o1 + 8) (o0 + 8) 9) (o1 + 9) (o0 + 9) 4) o0 9 ((ww_cpy (ww_cpy (ww_cpy (ww_cpy (ww_cpy (ww_cpy (ww_cpy (ww_cpy (ww_cpy σ (o1 + 1) (o0 + 1) 6) (o1 + 2) (o0 + 2) 6) (o1 + 3) (o0 + 3) 6) (o1 + 4) (o0 + 4) 3) (o1 + 5) (o0 + 5) 3) (o1 + 6) (o0 + 6) 9) (o1 + 7) (o0 + 7) 9) (o1 + 8) (o0 + 8) 9) (o1 + 9) (o0 + 9) 4) o1 9)) o1 10)) o0 11 ((ww_up (ww_up (ww_cpy (ww_cpy (ww_cpy (ww_cpy (ww_cpy (ww_cpy (ww_cpy (ww_cpy (ww_cpy σ (o1 + 1) (o0 + 1) 6) (o1 + 2) (o0 + 2) 6) (o1 + 3) (o0 + 3) 6) (o1 + 4) (o0 + 4) 3) (o1 + 5) (o0 + 5) 3) (o1 + 6) (o0 + 6) 9) (o1 + 7) (o0 + 7) 9) (o1 + 8) (o0 + 8) 9) (o1 + 9) (o0 + 9) 4) o0 9 ((ww_cpy (ww_cpy (ww_cpy (ww_cpy (ww_cpy (ww_cpy (ww_cpy (ww_cpy (ww_cpy σ (o1 + 1) (o0 + 1) 6) (o1 + 2) (o0 + 2) 6) (o1 + 3) (o0 + 3) 6) (o1 + 4) (o0 + 4) 3) (o1 + 5) (o0 + 5) 3) (o1 + 6) (o0 + 6) 9) (o1 + 7) (o0 + 7) 9) (o1 + 8) (o0 + 8) 9) (o1 + 9) (o0 + 9) 4) o1 9)) o0 10 ((ww_up (ww_cpy (ww_cpy (ww_cpy (ww_cpy (ww_cpy (ww_cpy (ww_cpy (ww_cpy (ww_cpy σ (o1 + 1) (o0 + 1) 6) (o1 + 2) (o0 + 2) 6) (o1 + 3) (o0 + 3) 6) (o1 + 4) (o0 + 4) 3) (o1 + 5) (o0 + 5) 3) (o1 + 6) (o0 + 6) 9) (o1 + 7) (o0 + 7) 9) (o1 + 8) (o0 + 8) 9) (o1 + 9) (o0 + 9) 4) o0 9 ((ww_cpy (ww_cpy (ww_cpy (ww_cpy (ww_cpy (ww_cpy (ww_cpy (ww_cpy (ww_cpy σ (o1 + 1) (o0 + 1) 6) (o1 + 2) (o0 + 2) 6) (o1 + 3) (o0 + 3) 6) (o1 + 4) (o0 + 4) 3) (o1 + 5) (o0 + 5) 3) (o1 + 6) (o0 + 6) 9) (o1 + 7) (o0 + 7) 9) (o1 + 8) (o0 + 8) 9) (o1 + 9) (o0 + 9) 4) o1 9)) o1 10)) o1 11)) o0 12 ((ww_up (ww_up (ww_up (ww_cpy (ww_cpy (ww_cpy (ww_cpy (ww_cpy (ww_cpy (ww_cpy (ww_cpy (ww_cpy σ (o1 + 1) (o0 + 1) 6) (o1 + 2) (o0 + 2) 6) (o1 + 3) (o0 + 3) 6) (o1 + 4) (o0 + 4) 3) (o1 + 5) (o0 + 5) 3) (o1 + 6) (o0 + 6) 9) (o1 + 7) (o0 + 7) 9) (o1 + 8) (o0 + 8) 9) (o1 + 9) (o0 + 9) 4) o0 9 ((ww_cpy (ww_cpy (ww_cpy (ww_cpy (ww_cpy (ww_cpy (ww_cpy (ww_cpy (ww_cpy σ (o1 + 1) (o0 + 1) 6) (o1 + 2) (o0 + 2) 6) (o1 + 3) (o0 + 3) 6) (o1 + 4) (o0 + 4) 3) (o1 + 5) (o0 + 5) 3) (o1 + 6) (o0 + 6) 9) (o1 + 7) (o0 + 7) 9) (o1 + 8) (o0 + 8) 9) (o1 + 9) (o0 + 9) 4) o1 9)) o0 10 ((ww_up (ww_cpy (ww_cpy (ww_cpy (ww_cpy (ww_cpy (ww_cpy (ww_cpy (ww_cpy (ww_cpy σ (o1 + 1) (o0 + 1) 6) (o1 + 2) (o0 + 2) 6) (o1 + 3) (o0 + 3) 6) (o1 + 4) (o0 + 4) 3) (o1 + 5) (o0 + 5) 3) (o1 + 6) (o0 + 6) 9) (o1 + 7) (o0 + 7) 9) (o1 + 8) (o0 + 8) 9) (o1 + 9) (o0 + 9) 4) o0 9 ((ww_cpy (ww_cpy (ww_cpy (ww_cpy (ww_cpy (ww_cpy (ww_cpy (ww_cpy (ww_cpy σ (o1 + 1) (o0 + 1) 6) (o1 + 2) (o0 + 2) 6) (o1 + 3) (o0 + 3) 6) (o1 + 4) (o0 + 4) 3) (o1 + 5) (o0 + 5) 3) (o1 + 6) (o0 + 6) 9) (o1 + 7) (o0 + 7) 9) (o1 + 8) (o0 + 8) 9) (o1 + 9) (o0 + 9) 4) o1 9)) o1 10)) o0 11 ((ww_up (ww_up (ww_cpy (ww_cpy (ww_cpy (ww_cpy (ww_cpy (ww_cpy (ww_cpy (ww_cpy (ww_cpy σ (o1 + 1) (o0 + 1) 6) (o1 + 2) (o0 + 2) 6) (o1 + 3) (o0 + 3) 6) (o1 + 4) (o0 + 4) 3) (o1 + 5) (o0 + 5) 3) (o1 + 6) (o0 + 6) 9) (o1 + 7) (o0 + 7) 9) (o1 + 8) (o0 + 8) 9) (o1 + 9) (o0 + 9) 4) o0 9 ((ww_cpy (ww_cpy (ww_cpy (ww_cpy (ww_cpy (ww_cpy (ww_cpy (ww_cpy (ww_cpy σ (o1 + 1) (o0 + 1) 6) (o1 + 2) (o0 + 2) 6) (o1 + 3) (o0 + 3) 6) (o1 + 4) (o0 + 4) 3) (o1 + 5) (o0 + 5) 3) (o1 + 6) (o0 + 6) 9) (o1 + 7) (o0 + 7) 9) (o1 + 8) (o0 + 8) 9) (o1 + 9) (o0 + 9) 4) o1 9)) o0 10 ((ww_up (ww_cpy (ww_cpy (ww_cpy (ww_cpy (ww_cpy (ww_cpy (ww_cpy (ww_cpy (ww_cpy σ (o1 + 1) (o0 + 1) 6) (o1 + 2) (o0 + 2) 6) (o1 + 3) (o0 + 3) 6) (o1 + 4) (o0 + 4) 3) (o1 + 5) (o0 + 5) 3) (o1 + 6) (o0 + 6) 9) (o1 + 7) (o0 + 7) 9) (o1 + 8) (o0 + 8) 9) (o1 + 9) (o0 + 9) 4) o0 9 ((ww_cpy (ww_cpy (ww_cpy (ww_cpy (ww_cpy (ww_cpy (ww_cpy (ww_cpy (ww_cpy σ (o1 + 1) (o0 + 1) 6) (o1 + 2) (o0 + 2) 6) (o1 + 3) (o0 + 3) 6) (o1 + 4) (o0 + 4) 3) (o1 + 5) (o0 + 5) 3) (o1 + 6) (o0 + 6) 9) (o1 + 7) (o0 + 7) 9) (o1 + 8) (o0 + 8) 9) (o1 + 9) (o0 + 9) 4) o1 9)) o1 10)) o1 11)) o1 12)) o0 13 ((ww_up (ww_up (ww_up (ww_up (ww_cpy (ww_cpy (ww_cpy (ww_cpy (ww_cpy (ww_cpy (ww_cpy (ww_cpy (ww_cpy σ (o1 + 1) (o0 + 1) 6) (o1 + 2) (o0 + 2) 6) (o1 + 3) (o0 + 3) 6) (o1 + 4) (o0 + 4) 3) (o1 + 5) (o0 + 5) 3) (o1 + 6) (o0 + 6) 9) (o1 + 7) (o0 + 7) 9) (o1 + 8) (o0 + 8) 9) (o1 + 9) (o0 + 9) 4) o0 9 ((ww_cpy (ww_cpy (ww_cpy (ww_cpy (ww_cpy (ww_cpy (ww_cpy (ww_cpy (ww_cpy σ (o1 + 1) (o0 + 1) 6) (o1 + 2) (o0 + 2) 6) (o1 + 3) (o0 + 3) 6) (o1 + 4) (o0 + 4) 3) (o1 + 5) (o0 + 5) 3) (o1 + 6) (o0 + 6) 9) (o1 + 7) (o0 + 7) 9) (o1 + 8) (o0 + 8) 9) (o1 + 9) (o0 + 9) 4) o1 9)) o0 10 ((ww_up (ww_cpy (ww_cpy (ww_cpy (ww_cpy (ww_cpy (ww_cpy (ww_cpy (ww_cpy (ww_cpy σ (o1 + 1) (o0 + 1) 6) (o1 + 2) (o0 + 2) 6) (o1 + 3) (o0 + 3) 6) (o1 + 4) (o0 + 4) 3) (o1 + 5) (o0 + 5) 3) (o1 + 6) (o0 + 6) 9) (o1 + 7) (o0 + 7) 9) (o1 + 8) (o0 + 8) 9) (o1 + 9) (o0 + 9) 4) o0 9 ((ww_cpy (ww_cpy (ww_cpy (ww_cpy (ww_cpy (ww_cpy (ww_cpy (ww_cpy (ww_cpy σ (o1 + 1) (o0 + 1) 6) (o1 + 2) (o0 + 2) 6) (o1 + 3) (o0 + 3) 6) (o1 + 4) (o0 + 4) 3) (o1 + 5) (o0 + 5) 3) (o1 + 6) (o0 + 6) 9) (o1 + 7) (o0 + 7) 9) (o1 + 8) (o0 + 8) 9) (o1 + 9) (o0 + 9) 4) o1 9)) o1 10)) o0 11 ((ww_up (ww_up (ww_cpy (ww_cpy (ww_cpy (ww_cpy (ww_cpy (ww_cpy (ww_cpy (ww_cpy (ww_cpy σ (o1 + 1) (o0 + 1) 6) (o1 + 2) (o0 + 2) 6) (o1 + 3) (o0 + 3) 6) (o1 + 4) (o0 + 4) 3) (o1 + 5) (o0 + 5) 3) (o1 + 6) (o0 + 6) 9) (o1 + 7) (o0 + 7) 9) (o1 + 8) (o0 + 8) 9) (o1 + 9) (o0 + 9) 4) o0 9 ((ww_cpy (ww_cpy (ww_cpy (ww_cpy (ww_cpy (ww_cpy (ww_cpy (ww_cpy (ww_cpy σ (o1 + 1) (o0 + 1) 6) (o1 + 2) (o0 + 2) 6) (o1 + 3) (o0 + 3) 6) (o1 + 4) (o0 + 4) 3) (o1 + 5) (o0 + 5) 3) (o1 + 6) (o0 + 6) 9) (o1 + 7) (o0 + 7) 9) (o1 + 8) (o0 + 8) 9) (o1 + 9) (o0 + 9) 4) o1 9)) o0 10 ((ww_up (ww_cpy (ww_cpy (ww_cpy (ww_cpy (ww_cpy (ww_cpy (ww_cpy (ww_cpy (ww_cpy σ (o1 + 1) (o0 + 1) 6) (o1 + 2) (o0 + 2) 6) (o1 + 3) (o0 + 3) 6) (o1 + 4) (o0 + 4) 3) (o1 + 5) (o0 + 5) 3) (o1 + 6) (o0 + 6) 9) (o1 + 7) (o0 + 7) 9) (o1 + 8) (o0 + 8) 9) (o1 + 9) (o0 + 9) 4) o0 9 ((ww_cpy (ww_cpy (ww_cpy (ww_cpy (ww_cpy (ww_cpy (ww_cpy (ww_cpy (ww_cpy σ (o1 + 1) (o0 + 1) 6) (o1 + 2) (o0 + 2) 6) (o1 + 3) (o0 + 3) 6) (o1 + 4) (o0 + 4) 3) (o1 + 5) (o0 + 5) 3) (o1 + 6) (o0 + 6) 9) (o1 + 7) (o0 + 7) 9) (o1 + 8) (o0 + 8) 9) (o1 + 9) (o0 + 9) 4) o1 9)) o1 10)) o1 11)) o0 12 ((ww_up (ww_up (ww_up (ww_cpy (ww_cpy (ww_cpy (ww_cpy (ww_cpy (ww_cpy (ww_cpy (ww_cpy (ww_cpy σ (o1 + 1) (o0 + 1) 6) (o1 + 2) (o0 + 2) 6) (o1 + 3) (o0 + 3) 6) (o1 + 4) (o0 + 4) 3) (o1 + 5) (o0 + 5) 3) (o1 + 6) (o0 + 6) 9) (o1 + 7) (o0 + 7) 9) (o1 + 8) (o0 + 8) 9) (o1 + 9) (o0 + 9) 4) o0 9 ((ww_cpy (ww_cpy (ww_cpy (ww_cpy (ww_cpy (ww_cpy (ww_cpy (ww_cpy (ww_cpy σ (o1 + 1) (o0 + 1) 6) (o1 + 2) (o0 + 2) 6) (o1 + 3) (o0 + 3) 6) (o1 + 4) (o0 + 4) 3) (o1 + 5) (o0 + 5) 3) (o1 + 6) (o0 + 6) 9) (o1 + 7) (o0 + 7) 9) (o1 + 8) (o0 + 8) 9) (o1 + 9) (o0 + 9) 4) o1 9)) o0 10 ((ww_up (ww_cpy (ww_cpy (ww_cpy (ww_cpy (ww_cpy (ww_cpy (ww_cpy (ww_cpy (ww_cpy σ (o1 + 1) (o0 + 1) 6) (o1 + 2) (o0 + 2) 6) (o1 + 3) (o0 + 3) 6) (o1 + 4) (o0 + 4) 3) (o1 + 5) (o0 + 5) 3) (o1 + 6) (o0 + 6) 9) (o1 + 7) (o0 + 7) 9) (o1 + 8) (o0 + 8) 9) (o1 + 9) (o0 + 9) 4) o0 9 ((ww_cpy (ww_cpy (ww_cpy (ww_cpy (ww_cpy (ww_cpy (ww_cpy (ww_cpy (ww_cpy σ (o1 + 1) (o0 + 1) 6) (o1 + 2) (o0 + 2) 6) (o1 + 3) (o0 + 3) 6) (o1 + 4) (o0 + 4) 3) (o1 + 5) (o0 + 5) 3) (o1 + 6) (o0 + 6) 9) (o1 + 7) (o0 + 7) 9) (o1 + 8) (o0 + 8) 9) (o1 + 9) (o0 + 9) 4) o1 9)) o1 10)) o0 11 ((ww_up (ww_up (ww_cpy (ww_cpy (ww_cpy (ww_cpy (ww_cpy (ww_cpy (ww_cpy (ww_cpy (ww_cpy σ (o1 + 1) (o0 + 1) 6) (o1 + 2) (o0 + 2) 6) (o1 + 3) (o0 + 3) 6) (o1 + 4) (o0 + 4) 3) (o1 + 5) (o0 + 5) 3) (o1 + 6) (o0 + 6) 9) (o1 + 7) (o0 + 7) 9) (o1 + 8) (o0 + 8) 9) (o1 + 9) (o0 + 9) 4) o0 9 ((ww_cpy (ww_cpy (ww_cpy (ww_cpy (ww_cpy (ww_cpy (ww_cpy (ww_cpy (ww_cpy σ (o1 + 1) (o0 + 1) 6) (o1 + 2) (o0 + 2) 6) (o1 + 3) (o0 + 3) 6) (o1 + 4) (o0 + 4) 3) (o1 + 5) (o0 + 5) 3) (o1 + 6) (o0 + 6) 9) (o1 + 7) (o0 + 7) 9) (o1 + 8) (o0 + 8) 9) (o1 + 9) (o0 + 9) 4) o1 9)) o0 10 ((ww_up (ww_cpy (ww_cpy (ww_cpy (ww_cpy (ww_cpy (ww_cpy (ww_cpy (ww_cpy (ww_cpy σ (o1 + 1) (o0 + 1) 6) (o1 + 2) (o0 + 2) 6) (o1 + 3) (o0 + 3) 6) (o1 + 4) (o0 + 4) 3) (o1 + 5) (o0 + 5) 3) (o1 + 6) (o0 + 6) 9) (o1 + 7) (o0 + 7) 9) (o1 + 8) (o0 + 8) 9) (o1 + 9) (o0 + 9) 4) o0 9 ((ww_cpy (ww_cpy (ww_cpy (ww_cpy (ww_cpy (ww_cpy (ww_cpy (ww_cpy (ww_cpy σ (o1 + 1) (o0 + 1) 6) (o1 + 2) (o0 + 2) 6) (o1 + 3) (o0 + 3) 6) (o1 + 4) (o0 + 4) 3) (o1 + 5) (o0 + 5) 3) (o1 + 6) (o0 + 6) 9) (o1 + 7) (o0 + 7) 9) (o1 + 8) (o0 + 8) 9) (o1 + 9) (o0 + 9) 4) o1 9)) o1 10)) o1 11)) o1 12)) o1 13)) o1 14)) o1 15)) o1 16))
def f_X2_putSand_j36 (σ : ww_M) (o0 : Nat) (p1 : Int32) (p2 : Int32) : Option (ww_M) :=
  (f_X6_within (σ o0 9) 1 6).bind (fun v43 => (if v43 = 0 then some σ else ww_ck (ww_in ((σ o0 9) - 1) 6) (some (ww_up σ (o0 + 2) (ww_ix ((σ o0 9) - 1)) p2))))
def f_X2_putSand (σ : ww_M) (o0 : Nat) (p1 : Int32) (p2 : Int32) : Option (ww_M) :=
  (if p1 = 0 then (if 6 ≤ (σ o0 9) then f_X2_putSand_j36 σ o0 p1 p2 else ww_ck (ww_in (σ o0 9) 6) (some (ww_up (ww_up σ (o0 + 1) (ww_ix (σ o0 9)) p2) o0 9 (((ww_up σ (o0 + 1) (ww_ix (σ o0 9)) p2) o0 9) + 1)))) else f_X2_putSand_j36 σ o0 p1 p2)
def f_X2_putLevel (σ : ww_M) (o0 : Nat) (p1 : Int32) : Option (ww_M) :=
  (f_X6_within (σ o0 10) 0 5).bind (fun v6 => (if v6 = 0 then some σ else ww_ck (ww_in (σ o0 10) 6) (some (ww_up (ww_up σ (o0 + 3) (ww_ix (σ o0 10)) p1) o0 10 (((ww_up σ (o0 + 3) (ww_ix (σ o0 10)) p1) o0 10) + 1)))))
def f_X2_putWhale_j45 (σ : ww_M) (o0 : Nat) (p1 : Int32) (p2 : Int32) : Option (ww_M) :=
  (f_X6_within (σ o0 11) 1 3).bind (fun v51 => (if v51 = 0 then some σ else (f_X6_within p1 1 9).bind (fun v61 => (if v61 = 0 then some σ else (if (ww_rem p1 3) = 1 then ww_ck (ww_in ((((σ o0 11) - 1) * 3) + ((p1 - 1) / 3)) 9) (ww_ck (ww_in ((σ o0 11) - 1) 3) (some (ww_up (ww_up σ (o0 + 6) (ww_ix ((((σ o0 11) - 1) * 3) + ((p1 - 1) / 3))) p2) (o0 + 5) (ww_ix ((σ o0 11) - 1)) (((p1 - 1) / 3) + 1)))) else (if (ww_rem p1 3) = 2 then ww_ck (ww_in ((((σ o0 11) - 1) * 3) + ((p1 - 1) / 3)) 9) (ww_ck (ww_in ((σ o0 11) - 1) 3) (some (ww_up (ww_up σ (o0 + 7) (ww_ix ((((σ o0 11) - 1) * 3) + ((p1 - 1) / 3))) p2) (o0 + 5) (ww_ix ((σ o0 11) - 1)) (((p1 - 1) / 3) + 1)))) else ww_ck (ww_in ((((σ o0 11) - 1) * 3) + ((p1 - 1) / 3)) 9) (ww_ck (ww_in ((σ o0 11) - 1) 3) (some (ww_up (ww_up σ (o0 + 8) (ww_ix ((((σ o0 11) - 1) * 3) + ((p1 - 1) / 3))) p2) (o0 + 5) (ww_ix ((σ o0 11) - 1)) (((p1 - 1) / 3) + 1))))))))))
def f_X2_putWhale (σ : ww_M) (o0 : Nat) (p1 : Int32) (p2 : Int32) : Option (ww_M) :=
  (if p1 = 0 then (if 3 ≤ (σ o0 11) then f_X2_putWhale_j45 σ o0 p1 p2 else ww_ck (ww_in (σ o0 11) 3) (ww_ck (ww_in ((ww_up σ (o0 + 4) (ww_ix (σ o0 11)) p2) o0 11) 3) (some (ww_up (ww_up (ww_up σ (o0 + 4) (ww_ix (σ o0 11)) p2) (o0 + 5) (ww_ix ((ww_up σ (o0 + 4) (ww_ix (σ o0 11)) p2) o0 11)) 0) o0 11 (((ww_up (ww_up σ (o0 + 4) (ww_ix (σ o0 11)) p2) (o0 + 5) (ww_ix ((ww_up σ (o0 + 4) (ww_ix (σ o0 11)) p2) o0 11)) 0) o0 11) + 1))))) else f_X2_putWhale_j45 σ o0 p1 p2)
def f_X2_hasPlace (σ : ww_M) (o0 : Nat) (p1 : Int32) : Option (Int32) :=
  (f_X6_within p1 0 ((σ o0 9) - 1)).bind (fun v8 => ww_ck (ww_isb v8) (some v8))
def f_X2_hasBeast (σ : ww_M) (o0 : Nat) (p1 : Int32) : Option (Int32) :=
  (f_X6_within p1 0 ((σ o0 11) - 1)).bind (fun v8 => ww_ck (ww_isb v8) (some v8))
def f_X2_slotOf (σ : ww_M) (o0 : Nat) (p1 : Int32) : Option (Int32) :=
  (if p1 < 0 then some (-1) else (f_X2_hasBeast σ o0 (p1 / 10)).bind (fun v16 => (if v16 = 0 then some (-1) else ww_ck (ww_in (p1 / 10) 3) ((if (σ (o0 + 5) (ww_ix (p1 / 10))) ≤ (ww_rem p1 10) then some (-1) else some (((p1 / 10) * 3) + (ww_rem p1 10)))))))
def f_X2_hasSlot (σ : ww_M) (o0 : Nat) (p1 : Int32) : Option (Int32) :=
  (f_X6_within p1 0 8).bind (fun v4 => (if v4 = 0 then some 0 else (f_X2_hasBeast σ o0 (p1 / 3)).bind (fun v14 => (if v14 = 0 then some 0 else ww_ck (ww_in (p1 / 3) 3) ((if (σ (o0 + 5) (ww_ix (p1 / 3))) ≤ (ww_rem p1 3) then some 0 else some 1))))))
def f_X2_placeOf (σ : ww_M) (o0 : Nat) (p1 : Int32) : Option (Int32) :=
  ww_ck (ww_in (p1 / 3) 3) (some ((σ (o0 + 4) (ww_ix (p1 / 3))) + (ww_rem p1 3)))
def f_X2_isLost (σ : ww_M) (o0 : Nat) (p1 : Int32) : Option (Int32) :=
  (if ((ww_shr (σ o0 16) p1) &&& 1) = 1 then some 1 else some 0)
def f_X6_bodyAt (p0 : Int32) (p1 : Int32) : Option (Int32) :=
  some (ww_shl ((ww_shl 1 p1) - 1) p0)
def f_X2_bodyOf (σ : ww_M) (o0 : Nat) (p1 : Int32) : Option (Int32) :=
  ww_ck (ww_in p1 3) (ww_ck (ww_in p1 3) ((f_X6_bodyAt (σ (o0 + 4) (ww_ix p1)) (σ (o0 + 5) (ww_ix p1))).bind (fun v12 => some v12)))
def f_X2_takenPlaces_b4 (σ : ww_M) (o0 : Nat) (a4 : Int32 × Int32) : Option ((Int32 × Int32) ⊕ (Int32)) :=
  (if (σ o0 11) ≤ a4.2 then some (.inr a4.1) else (f_X2_isLost σ o0 a4.2).bind (fun v14 => (if v14 = 0 then (f_X2_bodyOf σ o0 a4.2).bind (fun v23 => some (.inl (a4.1 ||| v23, a4.2 + 1))) else some (.inl (a4.1, a4.2 + 1)))))
def f_X2_takenPlaces_j34 (σ : ww_M) (o0 : Nat) (x1 : Int32) : Option (Int32) :=
  some x1
def f_X2_takenPlaces_j4 (σ : ww_M) (o0 : Nat) (x1 : Int32) (x2 : Int32) : Option (Int32) :=
  (ww_it (f_X2_takenPlaces_b4 σ o0) ww_F (x1, x2)).bind (fun b4 => f_X2_takenPlaces_j34 σ o0 b4)
def f_X2_takenPlaces (σ : ww_M) (o0 : Nat) : Option (Int32) :=
  f_X2_takenPlaces_j4 σ o0 0 0
def f_J9_floorMod_7cf53 (p0 : Int32) (p1 : Int32) : Option (Int32) :=
  ww_ck (ww_nz p1) ((if 0 ≤ (p0 ^^^ p1) then some (ww_rem p0 p1) else (if (ww_rem p0 p1) = 0 then some (ww_rem p0 p1) else some ((ww_rem p0 p1) + p1))))
def f_X2_levelIn (σ : ww_M) (o0 : Nat) (p1 : Int32) : Option (Int32) :=
  (if (σ o0 10) < 1 then some 0 else (if (σ o0 10) ≤ 6 then (f_J9_floorMod_7cf53 p1 (σ o0 10)).bind (fun v30 => ww_ck (ww_in v30 6) (some (σ (o0 + 3) (ww_ix v30)))) else some 0))
def f_X2_wetPlaces_b11 (σ : ww_M) (o0 : Nat) (p1 : Int32) (x2 : Int32) (a11 : Int32 × Int32) : Option ((Int32 × Int32) ⊕ (Int32)) :=
  (if (σ o0 9) ≤ a11.2 then some (.inr a11.1) else ww_ck (ww_in a11.2 6) ((if x2 ≤ (σ (o0 + 2) (ww_ix a11.2)) then some (.inl (a11.1, a11.2 + 1)) else some (.inl (a11.1 ||| (ww_shl 1 a11.2), a11.2 + 1)))))
def f_X2_wetPlaces_j44 (σ : ww_M) (o0 : Nat) (p1 : Int32) (x3 : Int32) : Option (Int32) :=
  some x3
def f_X2_wetPlaces_j11 (σ : ww_M) (o0 : Nat) (p1 : Int32) (x2 : Int32) (x3 : Int32) (x4 : Int32) : Option (Int32) :=
  (ww_it (f_X2_wetPlaces_b11 σ o0 p1 x2) ww_F (x3, x4)).bind (fun b11 => f_X2_wetPlaces_j44 σ o0 p1 b11)
def f_X2_wetPlaces (σ : ww_M) (o0 : Nat) (p1 : Int32) : Option (Int32) :=
  (f_X2_levelIn σ o0 p1).bind (fun v2 => f_X2_wetPlaces_j11 σ o0 p1 v2 0 0)
def f_X2_floatingBeasts_b11 (σ : ww_M) (o0 : Nat) (p1 : Int32) (x2 : Int32) (a11 : Int32 × Int32) : Option ((Int32 × Int32) ⊕ (Int32)) :=
  (if (σ o0 11) ≤ a11.2 then some (.inr a11.1) else (f_X2_bodyOf σ o0 a11.2).bind (fun v23 => (if (x2 &&& v23) = v23 then some (.inl (a11.1 ||| (ww_shl 1 a11.2), a11.2 + 1)) else some (.inl (a11.1, a11.2 + 1)))))
def f_X2_floatingBeasts_j50 (σ : ww_M) (o0 : Nat) (p1 : Int32) (x3 : Int32) : Option (Int32) :=
  some x3
def f_X2_floatingBeasts_j11 (σ : ww_M) (o0 : Nat) (p1 : Int32) (x2 : Int32) (x3 : Int32) (x4 : Int32) : Option (Int32) :=
  (ww_it (f_X2_floatingBeasts_b11 σ o0 p1 x2) ww_F (x3, x4)).bind (fun b11 => f_X2_floatingBeasts_j50 σ o0 p1 b11)
def f_X2_floatingBeasts (σ : ww_M) (o0 : Nat) (p1 : Int32) : Option (Int32) :=
  (f_X2_wetPlaces σ o0 p1).bind (fun v2 => f_X2_floatingBeasts_j11 σ o0 p1 v2 0 0)
def f_X2_loseFloating (σ : ww_M) (o0 : Nat) : Option (ww_M) :=
  (f_X2_floatingBeasts σ o0 (σ o0 15)).bind (fun v10 => some (ww_up σ o0 16 ((σ o0 16) ||| v10)))
def f_X2_worthIn (σ : ww_M) (o0 : Nat) (p1 : Int32) (p2 : Int32) (p3 : Int32) : Option (Int32) :=
  (if 1 ≤ p3 then ww_ck (ww_in p1 9) (ww_ck (ww_nz p3) (some (ww_max 0 ((σ (o0 + 6) (ww_ix p1)) - (p2 / p3))))) else some 0)
def f_X2_canWork (σ : ww_M) (o0 : Nat) (p1 : Int32) : Option (Int32) :=
  (f_X2_hasSlot σ o0 p1).bind (fun v2 => (if v2 = 0 then some 0 else ww_ck (ww_in p1 9) ((if (σ (o0 + 7) (ww_ix p1)) ≤ 0 then some 0 else (f_X2_isLost σ o0 (p1 / 3)).bind (fun v21 => (if v21 = 0 then (f_X2_wetPlaces σ o0 (σ o0 15)).bind (fun v32 => (f_X2_placeOf σ o0 p1).bind (fun v37 => (if ((ww_shr v32 v37) &&& 1) = 0 then some 1 else some 0))) else some 0))))))
def f_X2_workableParts_b4 (σ : ww_M) (o0 : Nat) (a4 : Int32 × Int32) : Option ((Int32 × Int32) ⊕ (Int32)) :=
  (if 9 ≤ a4.2 then some (.inr a4.1) else (f_X2_canWork σ o0 a4.2).bind (fun v12 => (if v12 = 0 then some (.inl (a4.1, a4.2 + 1)) else some (.inl (a4.1 + 1, a4.2 + 1)))))
def f_X2_workableParts_j27 (σ : ww_M) (o0 : Nat) (x1 : Int32) : Option (Int32) :=
  some x1
def f_X2_workableParts_j4 (σ : ww_M) (o0 : Nat) (x1 : Int32) (x2 : Int32) : Option (Int32) :=
  (ww_it (f_X2_workableParts_b4 σ o0) ww_F (x1, x2)).bind (fun b4 => f_X2_workableParts_j27 σ o0 b4)
def f_X2_workableParts (σ : ww_M) (o0 : Nat) : Option (Int32) :=
  f_X2_workableParts_j4 σ o0 0 0
def f_X2_workableSlot_b4 (σ : ww_M) (o0 : Nat) (p1 : Int32) (a4 : Int32 × Int32) : Option ((Int32 × Int32) ⊕ ((Unit) ⊕ (Int32))) :=
  (if 9 ≤ a4.2 then some (.inr (.inl ())) else (f_X2_canWork σ o0 a4.2).bind (fun v12 => (if v12 = 0 then some (.inl (a4.1, a4.2 + 1)) else (if a4.1 = p1 then some (.inr (.inr a4.2)) else some (.inl (a4.1 + 1, a4.2 + 1))))))
def f_X2_workableSlot_j34 (σ : ww_M) (o0 : Nat) (p1 : Int32) : Option (Int32) :=
  some (-1)
def f_X2_workableSlot_j4 (σ : ww_M) (o0 : Nat) (p1 : Int32) (x2 : Int32) (x3 : Int32) : Option (Int32) :=
  (ww_it (f_X2_workableSlot_b4 σ o0 p1) ww_F (x2, x3)).bind (fun b4 => match b4 with
    | .inl b4 => f_X2_workableSlot_j34 σ o0 p1
    | .inr g4 => some g4)
def f_X2_workableSlot (σ : ww_M) (o0 : Nat) (p1 : Int32) : Option (Int32) :=
  f_X2_workableSlot_j4 σ o0 p1 0 0
def f_X2_isRicher (σ : ww_M) (o0 : Nat) (p1 : Int32) (p2 : Int32) : Option (Int32) :=
  ww_ck (ww_in p1 9) (ww_ck (ww_in p2 9) (ww_ck (ww_in p2 9) (ww_ck (ww_in p1 9) ((if ((σ (o0 + 8) (ww_ix p1)) * (σ (o0 + 7) (ww_ix p2))) ≤ ((σ (o0 + 8) (ww_ix p2)) * (σ (o0 + 7) (ww_ix p1))) then some 0 else some 1)))))
def f_X2_cutParts_b4 (σ : ww_M) (o0 : Nat) (a4 : Int32 × Int32) : Option ((Int32 × Int32) ⊕ (Int32)) :=
  (if 9 ≤ a4.2 then some (.inr a4.1) else (f_X2_hasSlot σ o0 a4.2).bind (fun v12 => (if v12 = 0 then some (.inl (a4.1, a4.2 + 1)) else ww_ck (ww_in a4.2 9) ((if (σ (o0 + 7) (ww_ix a4.2)) = 0 then some (.inl (a4.1 + 1, a4.2 + 1)) else some (.inl (a4.1, a4.2 + 1)))))))
def f_X2_cutParts_j36 (σ : ww_M) (o0 : Nat) (x1 : Int32) : Option (Int32) :=
  some x1
def f_X2_cutParts_j4 (σ : ww_M) (o0 : Nat) (x1 : Int32) (x2 : Int32) : Option (Int32) :=
  (ww_it (f_X2_cutParts_b4 σ o0) ww_F (x1, x2)).bind (fun b4 => f_X2_cutParts_j36 σ o0 b4)
def f_X2_cutParts (σ : ww_M) (o0 : Nat) : Option (Int32) :=
  f_X2_cutParts_j4 σ o0 0 0
def f_X2_ownerOfMost_b20 (σ : ww_M) (o0 : Nat) (p1 : Int32) (p2 : Int32) (x3 : Int32) (x4 : Int32) (x5 : Int32) (a20 : Int32 × Int32) : Option ((Int32 × Int32) ⊕ (Int32)) :=
  (if p2 < a20.2 then some (.inr a20.1) else ww_ck (ww_in a20.2 6) ((if (σ (o0 + 1) (ww_ix a20.2)) = x5 then some (.inl (a20.1 + 1, a20.2 + 1)) else some (.inl (a20.1, a20.2 + 1)))))
def f_X2_ownerOfMost_j47 (σ : ww_M) (o0 : Nat) (p1 : Int32) (p2 : Int32) (x3 : Int32) (x4 : Int32) (x5 : Int32) (x6 : Int32) : Option ((Int32 × Int32 × Int32) ⊕ (Int32)) :=
  (if x6 ≤ x3 then some (.inl (x3, x4, x5 + 1)) else some (.inl (x6, x5, x5 + 1)))
def f_X2_ownerOfMost_j20 (σ : ww_M) (o0 : Nat) (p1 : Int32) (p2 : Int32) (x3 : Int32) (x4 : Int32) (x5 : Int32) (x6 : Int32) (x7 : Int32) : Option ((Int32 × Int32 × Int32) ⊕ (Int32)) :=
  (ww_it (f_X2_ownerOfMost_b20 σ o0 p1 p2 x3 x4 x5) ww_F (x6, x7)).bind (fun b20 => f_X2_ownerOfMost_j47 σ o0 p1 p2 x3 x4 x5 b20)
def f_X2_ownerOfMost_b8 (σ : ww_M) (o0 : Nat) (p1 : Int32) (p2 : Int32) (a8 : Int32 × Int32 × Int32) : Option ((Int32 × Int32 × Int32) ⊕ (Int32)) :=
  (if 4 ≤ a8.2.2 then some (.inr a8.2.1) else f_X2_ownerOfMost_j20 σ o0 p1 p2 a8.1 a8.2.1 a8.2.2 0 p1)
def f_X2_ownerOfMost_j66 (σ : ww_M) (o0 : Nat) (p1 : Int32) (p2 : Int32) (x4 : Int32) : Option (Int32) :=
  some x4
def f_X2_ownerOfMost_j8 (σ : ww_M) (o0 : Nat) (p1 : Int32) (p2 : Int32) (x3 : Int32) (x4 : Int32) (x5 : Int32) : Option (Int32) :=
  (ww_it (f_X2_ownerOfMost_b8 σ o0 p1 p2) ww_F (x3, x4, x5)).bind (fun b8 => f_X2_ownerOfMost_j66 σ o0 p1 p2 b8)
def f_X2_ownerOfMost (σ : ww_M) (o0 : Nat) (p1 : Int32) (p2 : Int32) : Option (Int32) :=
  f_X2_ownerOfMost_j8 σ o0 p1 p2 0 0 0
def f_X2_ownerBy (σ : ww_M) (o0 : Nat) (p1 : Int32) (p2 : Int32) : Option (Int32) :=
  ww_ck (ww_in (p1 / 3) 3) (ww_ck (ww_in (p1 / 3) 3) ((if p2 = 0 then ww_ck (ww_in (σ (o0 + 4) (ww_ix (p1 / 3))) 6) (some (σ (o0 + 1) (ww_ix (σ (o0 + 4) (ww_ix (p1 / 3)))))) else (if p2 = 1 then ww_ck (ww_in (((σ (o0 + 4) (ww_ix (p1 / 3))) + (σ (o0 + 5) (ww_ix (p1 / 3)))) - 1) 6) (some (σ (o0 + 1) (ww_ix (((σ (o0 + 4) (ww_ix (p1 / 3))) + (σ (o0 + 5) (ww_ix (p1 / 3)))) - 1)))) else (if p2 = 2 then (f_X2_placeOf σ o0 p1).bind (fun v74 => ww_ck (ww_in v74 6) (some (σ (o0 + 1) (ww_ix v74)))) else (f_X2_ownerOfMost σ o0 (σ (o0 + 4) (ww_ix (p1 / 3))) (((σ (o0 + 4) (ww_ix (p1 / 3))) + (σ (o0 + 5) (ww_ix (p1 / 3)))) - 1)).bind (fun v84 => some v84))))))
def f_X2_shareBy_b5 (σ : ww_M) (o0 : Nat) (p1 : Int32) (p2 : Int32) (a5 : Int32 × Int32) : Option ((Int32 × Int32) ⊕ (Int32)) :=
  (if 9 ≤ a5.2 then some (.inr a5.1) else (f_X2_hasSlot σ o0 a5.2).bind (fun v15 => (if v15 = 0 then some (.inl (a5.1, a5.2 + 1)) else (f_X2_ownerBy σ o0 a5.2 p2).bind (fun v25 => (if v25 = p1 then ww_ck (ww_in a5.2 9) (some (.inl (a5.1 + (σ (o0 + 6) (ww_ix a5.2)), a5.2 + 1))) else some (.inl (a5.1, a5.2 + 1)))))))
def f_X2_shareBy_j48 (σ : ww_M) (o0 : Nat) (p1 : Int32) (p2 : Int32) (x3 : Int32) : Option (Int32) :=
  some x3
def f_X2_shareBy_j5 (σ : ww_M) (o0 : Nat) (p1 : Int32) (p2 : Int32) (x3 : Int32) (x4 : Int32) : Option (Int32) :=
  (ww_it (f_X2_shareBy_b5 σ o0 p1 p2) ww_F (x3, x4)).bind (fun b5 => f_X2_shareBy_j48 σ o0 p1 p2 b5)
def f_X2_shareBy (σ : ww_M) (o0 : Nat) (p1 : Int32) (p2 : Int32) : Option (Int32) :=
  f_X2_shareBy_j5 σ o0 p1 p2 0 0
def f_X2_isUnknown (σ : ww_M) (o0 : Nat) (p1 : Int32) : Option (Int32) :=
  (if p1 = (-4) then some 0 else (f_X2_slotOf σ o0 p1).bind (fun v8 => (if v8 = (-1) then some 1 else some 0)))
def f_X2_isBarred (σ : ww_M) (o0 : Nat) (p1 : Int32) : Option (Int32) :=
  (if p1 = (-4) then some 0 else (f_X2_slotOf σ o0 p1).bind (fun v9 => (f_X2_canWork σ o0 v9).bind (fun v12 => (if v12 = 0 then some 1 else some 0))))
def f_X2_refusal_j43 (σ : ww_M) (o0 : Nat) (p1 : Int32) (p2 : Int32) : Option (Int32) :=
  (f_X2_isBarred σ o0 p1).bind (fun v45 => (if v45 = 0 then (f_X2_isBarred σ o0 p2).bind (fun v53 => (if v53 = 0 then (if (σ o0 15) < 999 then some 0 else some (-3)) else some (-2))) else some (-2)))
def f_X2_refusal_j27 (σ : ww_M) (o0 : Nat) (p1 : Int32) (p2 : Int32) : Option (Int32) :=
  (if p2 = (-4) then f_X2_refusal_j43 σ o0 p1 p2 else (if 2 ≤ (σ o0 14) then f_X2_refusal_j43 σ o0 p1 p2 else some (-1)))
def f_X2_refusal (σ : ww_M) (o0 : Nat) (p1 : Int32) (p2 : Int32) : Option (Int32) :=
  (f_X2_isUnknown σ o0 p1).bind (fun v2 => (if v2 = 0 then (f_X2_isUnknown σ o0 p2).bind (fun v10 => (if v10 = 0 then (if p1 = (-4) then f_X2_refusal_j27 σ o0 p1 p2 else (if p1 = p2 then some (-1) else f_X2_refusal_j27 σ o0 p1 p2)) else some (-1))) else some (-1)))
def f_X2_workAt (σ : ww_M) (o0 : Nat) (p1 : Int32) : Option (Int32 × ww_M) :=
  (f_X2_hasSlot σ o0 p1).bind (fun v2 => (if v2 = 0 then some (0, σ) else ww_ck (ww_in p1 9) (ww_ck (ww_in p1 9) (ww_ck (ww_in p1 9) ((if ((ww_up σ (o0 + 7) (ww_ix p1) ((σ (o0 + 7) (ww_ix p1)) - 1)) (o0 + 7) (ww_ix p1)) ≤ 0 then (f_X2_worthIn (ww_up σ (o0 + 7) (ww_ix p1) ((σ (o0 + 7) (ww_ix p1)) - 1)) o0 p1 ((ww_up σ (o0 + 7) (ww_ix p1) ((σ (o0 + 7) (ww_ix p1)) - 1)) o0 15) ((ww_up σ (o0 + 7) (ww_ix p1) ((σ (o0 + 7) (ww_ix p1)) - 1)) o0 13)).bind (fun v41 => (f_X2_ownerBy (ww_up σ (o0 + 7) (ww_ix p1) ((σ (o0 + 7) (ww_ix p1)) - 1)) o0 p1 ((ww_up σ (o0 + 7) (ww_ix p1) ((σ (o0 + 7) (ww_ix p1)) - 1)) o0 12)).bind (fun v55 => ww_ck (ww_in v55 4) (ww_ck (ww_in v55 4) (some (v41, ww_up (ww_up σ (o0 + 7) (ww_ix p1) ((σ (o0 + 7) (ww_ix p1)) - 1)) (o0 + 9) (ww_ix v55) (((ww_up σ (o0 + 7) (ww_ix p1) ((σ (o0 + 7) (ww_ix p1)) - 1)) (o0 + 9) (ww_ix v55)) + v41)))))) else some (0, ww_up σ (o0 + 7) (ww_ix p1) ((σ (o0 + 7) (ww_ix p1)) - 1))))))))
def f_X2_hourGoes (σ : ww_M) (o0 : Nat) (p1 : Int32) (p2 : Int32) : Option (Int32 × ww_M) :=
  (f_X2_workAt σ o0 p1).bind (fun v2 => (f_X2_workAt v2.2 o0 p2).bind (fun v7 => (f_X2_loseFloating (ww_up v7.2 o0 15 ((v7.2 o0 15) + 1)) o0).bind (fun v23 => some (v2.1 + v7.1, v23))))
def f_X5_lineOf (σ : ww_M) (o0 : Nat) : Option (Int32) :=
  (f_X4_isName σ o0 0).bind (fun v3 => (if v3 = 0 then (f_X4_isName σ o0 1).bind (fun v14 => (if v14 = 0 then (f_X4_isName σ o0 2).bind (fun v25 => (if v25 = 0 then (f_X4_isName σ o0 3).bind (fun v36 => (if v36 = 0 then (f_X4_isName σ o0 4).bind (fun v47 => (if v47 = 0 then (f_X4_isName σ o0 5).bind (fun v58 => (if v58 = 0 then some 0 else some 6)) else some 5)) else some 4)) else some 3)) else some 2)) else some 1))
def f_X5_fail (σ : ww_M) (o0 : Nat) (p1 : Int32) (p2 : Int32) : Option (Int32 × ww_M) :=
  some (0, ww_up (ww_up σ o0 0 p1) o0 1 p2)
def f_X5_failAtToken_j14 (σ : ww_M) (o0 : Nat) (o1 : Nat) (s0 : Int32) : Option (Int32 × ww_M) :=
  (f_X5_fail σ o0 s0 (σ o1 4)).bind (fun v18 => ww_ck (ww_isb v18.1) (some (v18.1, v18.2)))
def f_X5_failAtToken (σ : ww_M) (o0 : Nat) (o1 : Nat) : Option (Int32 × ww_M) :=
  (if (σ o1 3) = 4 then f_X5_failAtToken_j14 σ o0 o1 1 else f_X5_failAtToken_j14 σ o0 o1 2)
def f_X5_refusedName (σ : ww_M) (o0 : Nat) (o2 : Nat) (p1 : Int32) : Option (Int32 × ww_M) :=
  (if p1 = 1 then (if (σ o2 9) < 6 then some (0, σ) else some (5, σ)) else (if p1 = 6 then (if (σ o2 11) < 3 then some (0, σ) else some (5, σ)) else (if p1 = 2 then some (0, σ) else (if ((ww_shr (σ o0 2) p1) &&& 1) = 1 then some (4, ww_up σ o0 2 ((σ o0 2) ||| (ww_shl 1 p1))) else some (0, ww_up σ o0 2 ((σ o0 2) ||| (ww_shl 1 p1)))))))
def f_X5_mayStop (p0 : Int32) (p1 : Int32) : Option (Int32) :=
  (if p0 = 1 then (if p1 = 2 then some 1 else some 0) else (if p0 = 2 then (if p1 ≤ 0 then some 0 else some 1) else (if p0 = 6 then (if p1 ≤ 3 then some 0 else (if (ww_rem p1 3) = 1 then some 1 else some 0)) else (if p1 = 1 then some 1 else some 0))))
def f_X5_mayGoOn (p0 : Int32) (p1 : Int32) : Option (Int32) :=
  (if p0 = 1 then (if 2 ≤ p1 then some 0 else some 1) else (if p0 = 2 then some 1 else (if p0 = 6 then some 1 else (if 1 ≤ p1 then some 0 else some 1))))
def f_X5_isTooMany_j14 (σ : ww_M) (o2 : Nat) (p0 : Int32) (p1 : Int32) : Option (Int32) :=
  (if p0 = 6 then (if p1 < 10 then some 0 else some 1) else some 0)
def f_X5_isTooMany (σ : ww_M) (o2 : Nat) (p0 : Int32) (p1 : Int32) : Option (Int32) :=
  (if p0 = 2 then (if 6 ≤ (σ o2 10) then some 1 else f_X5_isTooMany_j14 σ o2 p0 p1) else f_X5_isTooMany_j14 σ o2 p0 p1)
def f_X5_lowest_j18 (p0 : Int32) (p1 : Int32) (s0 : Int32) : Option (Int32) :=
  (if p0 = 4 then some 1 else (if p0 = 5 then some 1 else (if s0 = 0 then some 0 else some 1)))
def f_X5_lowest_j17 (p0 : Int32) (p1 : Int32) : Option (Int32) :=
  f_X5_lowest_j18 p0 p1 0
def f_X5_lowest (p0 : Int32) (p1 : Int32) : Option (Int32) :=
  (if p0 = 6 then (if (ww_rem p1 3) = 2 then f_X5_lowest_j18 p0 p1 1 else f_X5_lowest_j17 p0 p1) else f_X5_lowest_j17 p0 p1)
def f_X5_highestOfWhale (p0 : Int32) : Option (Int32) :=
  (if p0 = 0 then some 5 else (if (ww_rem p0 3) = 1 then some 9 else (if (ww_rem p0 3) = 2 then some 3 else some 8)))
def f_X5_highest (p0 : Int32) (p1 : Int32) : Option (Int32) :=
  (if p0 = 1 then (if p1 = 0 then some 3 else some 9) else (if p0 = 2 then some 9 else (if p0 = 3 then some 3 else (if p0 = 4 then some 9 else (if p0 = 5 then some 2 else (f_X5_highestOfWhale p1).bind (fun v58 => some v58))))))
def f_X5_put (σ : ww_M) (o3 : Nat) (p0 : Int32) (p1 : Int32) (p2 : Int32) : Option (ww_M) :=
  (if p0 = 1 then (f_X2_putSand σ o3 p1 p2).bind (fun v39 => some v39) else (if p0 = 2 then (f_X2_putLevel σ o3 p2).bind (fun v47 => some v47) else (if p0 = 3 then some (ww_up σ o3 12 p2) else (if p0 = 4 then some (ww_up σ o3 13 p2) else (if p0 = 5 then some (ww_up σ o3 14 p2) else (f_X2_putWhale σ o3 p1 p2).bind (fun v80 => some v80))))))
def f_X5_readLine_j141 (σ : ww_M) (o0 : Nat) (o1 : Nat) (o2 : Nat) (x3 : Int32) : Option ((Int32 × ww_M) ⊕ ((ww_M) ⊕ (Int32 × ww_M))) :=
  (f_X5_fail σ o0 3 (σ o1 4)).bind (fun v147 => ww_ck (ww_isb v147.1) (some (.inr (.inr (v147.1, v147.2)))))
def f_X5_readLine_j89 (σ : ww_M) (o0 : Nat) (o1 : Nat) (o2 : Nat) (x3 : Int32) : Option ((Int32 × ww_M) ⊕ ((ww_M) ⊕ (Int32 × ww_M))) :=
  (f_X5_failAtToken σ o0 o1).bind (fun v91 => ww_ck (ww_isb v91.1) (some (.inr (.inr (v91.1, v91.2)))))
def f_X5_readLine_j72 (σ : ww_M) (o0 : Nat) (o1 : Nat) (o2 : Nat) (x3 : Int32) (x5 : Int32) : Option ((Int32 × ww_M) ⊕ ((ww_M) ⊕ (Int32 × ww_M))) :=
  (if (σ o1 3) = 2 then (f_X5_mayGoOn x3 x5).bind (fun v83 => (if v83 = 0 then f_X5_readLine_j89 σ o0 o1 o2 x3 else (f_X5_isTooMany σ o2 x3 x5).bind (fun v99 => (if v99 = 0 then (f_X5_lowest x3 x5).bind (fun v122 => (if (σ o1 5) < v122 then f_X5_readLine_j141 σ o0 o1 o2 x3 else (f_X5_highest x3 x5).bind (fun v135 => (if (σ o1 5) ≤ v135 then (f_X5_put σ o2 x3 x5 (σ o1 5)).bind (fun v159 => some (.inl (x5 + 1, v159))) else f_X5_readLine_j141 σ o0 o1 o2 x3)))) else (f_X5_fail σ o0 5 (σ o1 4)).bind (fun v111 => ww_ck (ww_isb v111.1) (some (.inr (.inr (v111.1, v111.2))))))))) else f_X5_readLine_j89 σ o0 o1 o2 x3)
def f_X5_readLine_b42 (o0 : Nat) (o1 : Nat) (o2 : Nat) (x3 : Int32) (a42 : Int32 × ww_M) : Option ((Int32 × ww_M) ⊕ ((ww_M) ⊕ (Int32 × ww_M))) :=
  (if 10 < a42.1 then some (.inr (.inl a42.2)) else (f_X4_step a42.2 o1).bind (fun v50 => (if (v50 o1 3) = 3 then (f_X5_mayStop x3 a42.1).bind (fun v64 => (if v64 = 0 then f_X5_readLine_j72 v50 o0 o1 o2 x3 a42.1 else some (.inr (.inr (1, v50))))) else f_X5_readLine_j72 v50 o0 o1 o2 x3 a42.1)))
def f_X5_readLine_j168 (σ : ww_M) (o0 : Nat) (o1 : Nat) (o2 : Nat) : Option (Int32 × ww_M) :=
  (f_X5_failAtToken σ o0 o1).bind (fun v170 => ww_ck (ww_isb v170.1) (some (v170.1, v170.2)))
def f_X5_readLine_j42 (σ : ww_M) (o0 : Nat) (o1 : Nat) (o2 : Nat) (x3 : Int32) (x5 : Int32) : Option (Int32 × ww_M) :=
  (ww_it (f_X5_readLine_b42 o0 o1 o2 x3) ww_F (x5, σ)).bind (fun b42 => match b42 with
    | .inl b42 => f_X5_readLine_j168 b42 o0 o1 o2
    | .inr g42 => some g42)
def f_X5_readLine (σ : ww_M) (o0 : Nat) (o1 : Nat) (o2 : Nat) : Option (Int32 × ww_M) :=
  (f_X5_lineOf σ o1).bind (fun v1 => (if v1 = 0 then (f_X5_failAtToken σ o0 o1).bind (fun v11 => ww_ck (ww_isb v11.1) (some (v11.1, v11.2))) else (f_X5_refusedName σ o0 o2 v1).bind (fun v18 => (if v18.1 = 0 then f_X5_readLine_j42 v18.2 o0 o1 o2 v1 0 else (f_X5_fail v18.2 o0 v18.1 (v18.2 o1 4)).bind (fun v35 => ww_ck (ww_isb v35.1) (some (v35.1, v35.2)))))))
def f_X5_checkBeasts_b2 (o0 : Nat) (o1 : Nat) (o2 : Nat) (a2 : Int32 × ww_M) : Option ((Int32 × ww_M) ⊕ ((ww_M) ⊕ (ww_M))) :=
  (if (a2.2 o2 11) ≤ a2.1 then some (.inr (.inl a2.2)) else ww_ck (ww_in a2.1 3) (ww_ck (ww_in a2.1 3) ((if ((a2.2 (o2 + 4) (ww_ix a2.1)) + (a2.2 (o2 + 5) (ww_ix a2.1))) ≤ (a2.2 o2 9) then some (.inl (a2.1 + 1, a2.2)) else (f_X5_fail a2.2 o0 6 (a2.2 o1 1)).bind (fun v37 => some (.inr (.inr v37.2)))))))
def f_X5_checkBeasts_b53 (o0 : Nat) (o1 : Nat) (o2 : Nat) (a53 : Int32 × Int32 × ww_M) : Option ((Int32 × Int32 × ww_M) ⊕ ((ww_M) ⊕ (ww_M))) :=
  (if (a53.2.2 o2 11) ≤ a53.2.1 then some (.inr (.inl a53.2.2)) else (f_X2_bodyOf a53.2.2 o2 a53.2.1).bind (fun v65 => (if (a53.1 &&& v65) = 0 then some (.inl (a53.1 ||| v65, a53.2.1 + 1, a53.2.2)) else (f_X5_fail a53.2.2 o0 7 (a53.2.2 o1 1)).bind (fun v84 => some (.inr (.inr v84.2))))))
def f_X5_checkBeasts_j100 (σ : ww_M) (o0 : Nat) (o1 : Nat) (o2 : Nat) : Option (ww_M) :=
  some σ
def f_X5_checkBeasts_j53 (σ : ww_M) (o0 : Nat) (o1 : Nat) (o2 : Nat) (x3 : Int32) (x4 : Int32) : Option (ww_M) :=
  (ww_it (f_X5_checkBeasts_b53 o0 o1 o2) ww_F (x3, x4, σ)).bind (fun b53 => match b53 with
    | .inl b53 => f_X5_checkBeasts_j100 b53 o0 o1 o2
    | .inr g53 => some g53)
def f_X5_checkBeasts_j48 (σ : ww_M) (o0 : Nat) (o1 : Nat) (o2 : Nat) : Option (ww_M) :=
  f_X5_checkBeasts_j53 σ o0 o1 o2 0 0
def f_X5_checkBeasts_j2 (σ : ww_M) (o0 : Nat) (o1 : Nat) (o2 : Nat) (x3 : Int32) : Option (ww_M) :=
  (ww_it (f_X5_checkBeasts_b2 o0 o1 o2) ww_F (x3, σ)).bind (fun b2 => match b2 with
    | .inl b2 => f_X5_checkBeasts_j48 b2 o0 o1 o2
    | .inr g2 => some g2)
def f_X5_checkBeasts (σ : ww_M) (o0 : Nat) (o1 : Nat) (o2 : Nat) : Option (ww_M) :=
  f_X5_checkBeasts_j2 σ o0 o1 o2 0
def f_X5_tellAll_b30 (o0 : Nat) (o1 : Nat) (o2 : Nat) (a30 : Int32 × ww_M) : Option ((Int32 × ww_M) ⊕ (Int32 × ww_M)) :=
  (if 160 ≤ a30.1 then some (.inr (a30.1, a30.2)) else (if (a30.2 o1 3) = 0 then some (.inr (a30.1, a30.2)) else (f_X5_readLine a30.2 o0 o1 o2).bind (fun v47 => (if v47.1 = 0 then some (.inr (a30.1, v47.2)) else (f_X4_step v47.2 o1).bind (fun v57 => some (.inl (a30.1 + 1, v57)))))))
def f_X5_tellAll_j76 (σ : ww_M) (o0 : Nat) (o1 : Nat) (o2 : Nat) (x3 : Int32) : Option (Int32 × ww_M) :=
  (if (σ o2 10) = 0 then some (x3, ww_up σ o2 10 1) else some (x3, σ))
def f_X5_tellAll_j63 (σ : ww_M) (o0 : Nat) (o1 : Nat) (o2 : Nat) (x3 : Int32) : Option (Int32 × ww_M) :=
  (if (σ o0 0) = 0 then (f_X5_checkBeasts σ o0 o1 o2).bind (fun v73 => f_X5_tellAll_j76 v73 o0 o1 o2 x3) else f_X5_tellAll_j76 σ o0 o1 o2 x3)
def f_X5_tellAll_j30 (σ : ww_M) (o0 : Nat) (o1 : Nat) (o2 : Nat) (x3 : Int32) : Option (Int32 × ww_M) :=
  (ww_it (f_X5_tellAll_b30 o0 o1 o2) ww_F (x3, σ)).bind (fun b30 => f_X5_tellAll_j63 b30.2 o0 o1 o2 b30.1)
def f_X5_tellAll (σ : ww_M) (o0 : Nat) (o1 : Nat) (o2 : Nat) : Option (Int32 × ww_M) :=
  (f_X2_clear (ww_up (ww_up σ o0 0 0) o0 2 0) o2).bind (fun v11 => (f_X4_step (ww_up (ww_up v11 o2 10 0) o1 2 0) o1).bind (fun v27 => f_X5_tellAll_j30 v27 o0 o1 o2 0))
def f_X3_add (σ : ww_M) (o0 : Nat) (p1 : Int32) (p2 : Int32) : Option (Int32 × ww_M) :=
  (if (σ o0 2) < 6 then ww_ck (ww_in (σ o0 2) 6) (ww_ck (ww_in ((ww_up σ (o0 + 1) (ww_ix (σ o0 2)) p1) o0 2) 6) (some (1, ww_up (ww_up (ww_up σ (o0 + 1) (ww_ix (σ o0 2)) p1) (o0 + 2) (ww_ix ((ww_up σ (o0 + 1) (ww_ix (σ o0 2)) p1) o0 2)) p2) o0 2 (((ww_up (ww_up σ (o0 + 1) (ww_ix (σ o0 2)) p1) (o0 + 2) (ww_ix ((ww_up σ (o0 + 1) (ww_ix (σ o0 2)) p1) o0 2)) p2) o0 2) + 1)))) else some (0, σ))
def f_X3_areExplained_b2 (σ : ww_M) (o0 : Nat) (o1 : Nat) (p2 : Int32) (a2 : Int32) : Option ((Int32) ⊕ ((Unit) ⊕ (Int32))) :=
  (if (σ o0 2) ≤ a2 then some (.inr (.inl ())) else ww_ck (ww_in a2 6) ((f_X2_shareBy σ o1 (σ (o0 + 1) (ww_ix a2)) p2).bind (fun v18 => ww_ck (ww_in a2 6) ((if v18 = (σ (o0 + 2) (ww_ix a2)) then some (.inl (a2 + 1)) else some (.inr (.inr 0)))))))
def f_X3_areExplained_j38 (σ : ww_M) (o0 : Nat) (o1 : Nat) (p2 : Int32) : Option (Int32) :=
  some 1
def f_X3_areExplained_j2 (σ : ww_M) (o0 : Nat) (o1 : Nat) (p2 : Int32) (x3 : Int32) : Option (Int32) :=
  (ww_it (f_X3_areExplained_b2 σ o0 o1 p2) ww_F x3).bind (fun b2 => match b2 with
    | .inl b2 => f_X3_areExplained_j38 σ o0 o1 p2
    | .inr g2 => some g2)
def f_X3_areExplained (σ : ww_M) (o0 : Nat) (o1 : Nat) (p2 : Int32) : Option (Int32) :=
  f_X3_areExplained_j2 σ o0 o1 p2 0
def f_X1_renew (σ : ww_M) (o0 : Nat) (p1 : Int32) (p2 : Int32) : Option (ww_M) :=
  some (ww_fill (ww_up (ww_up σ o0 1 p1) o0 2 p2) (o0 + 1) 40 0)
def f_X1_faultAt (σ : ww_M) (o0 : Nat) (p1 : Int32) (p2 : Int32) : Option (Int32) :=
  (if 0 ≤ (σ o0 2) then (if (σ o0 1) = p1 then (f_X6_within p2 0 ((σ o0 2) - 1)).bind (fun v27 => (if v27 = 0 then some 2 else some 0)) else some 3) else some 1)
def f_X1_put (σ : ww_M) (o0 : Nat) (p1 : Int32) (p2 : Int32) : Option (ww_M) :=
  (if (σ o0 1) = 0 then ww_ck (ww_in p1 40) (some (ww_up σ (o0 + 1) (ww_ix p1) p2.toInt8.toInt32)) else (if (σ o0 1) = 1 then ww_ck (ww_in p1 40) (some (ww_up σ (o0 + 1) (ww_ix p1) p2.toInt16.toInt32)) else ww_ck (ww_in p1 40) (some (ww_up σ (o0 + 1) (ww_ix p1) p2))))
def f_X0_loadParts_j51 (σ : ww_M) (o0 : Nat) (o1 : Nat) (p2 : Int32) (x3 : Int32) (s0 : Int32) : Option ((Int32 × ww_M) ⊕ (ww_M)) :=
  (if s0 = 0 then some (.inl (x3 + 1, σ)) else ww_ck (ww_in x3 9) ((if (σ (o1 + 7) (ww_ix x3)) ≤ 0 then some (.inl (x3 + 1, σ)) else (if 6 ≤ (σ o0 4) then some (.inl (x3 + 1, σ)) else ww_ck (ww_in (σ o0 4) 6) (ww_ck (ww_in x3 9) (some (.inl (x3 + 1, ww_up (ww_up (ww_up σ (o0 + 2) (ww_ix (σ o0 4)) x3) o0 7 (((ww_up σ (o0 + 2) (ww_ix (σ o0 4)) x3) o0 7) ||| (ww_shl ((ww_up σ (o0 + 2) (ww_ix (σ o0 4)) x3) (o1 + 7) (ww_ix x3)) (2 * ((ww_up σ (o0 + 2) (ww_ix (σ o0 4)) x3) o0 4))))) o0 4 (((ww_up (ww_up σ (o0 + 2) (ww_ix (σ o0 4)) x3) o0 7 (((ww_up σ (o0 + 2) (ww_ix (σ o0 4)) x3) o0 7) ||| (ww_shl ((ww_up σ (o0 + 2) (ww_ix (σ o0 4)) x3) (o1 + 7) (ww_ix x3)) (2 * ((ww_up σ (o0 + 2) (ww_ix (σ o0 4)) x3) o0 4))))) o0 4) + 1)))))))))
def f_X0_loadParts_j50 (σ : ww_M) (o0 : Nat) (o1 : Nat) (p2 : Int32) (x3 : Int32) : Option ((Int32 × ww_M) ⊕ (ww_M)) :=
  f_X0_loadParts_j51 σ o0 o1 p2 x3 0
def f_X0_loadParts_b12 (o0 : Nat) (o1 : Nat) (p2 : Int32) (a12 : Int32 × ww_M) : Option ((Int32 × ww_M) ⊕ (ww_M)) :=
  (if 9 ≤ a12.1 then some (.inr a12.2) else (f_X2_hasSlot a12.2 o1 a12.1).bind (fun v25 => (if v25 = 0 then f_X0_loadParts_j50 a12.2 o0 o1 p2 a12.1 else (f_X2_isLost a12.2 o1 (a12.1 / 3)).bind (fun v34 => (if v34 = 0 then (if (a12.1 / 3) = p2 then f_X0_loadParts_j50 a12.2 o0 o1 p2 a12.1 else f_X0_loadParts_j51 a12.2 o0 o1 p2 a12.1 1) else f_X0_loadParts_j50 a12.2 o0 o1 p2 a12.1)))))
def f_X0_loadParts_j124 (σ : ww_M) (o0 : Nat) (o1 : Nat) (p2 : Int32) : Option (ww_M) :=
  some σ
def f_X0_loadParts_j12 (σ : ww_M) (o0 : Nat) (o1 : Nat) (p2 : Int32) (x3 : Int32) : Option (ww_M) :=
  (ww_it (f_X0_loadParts_b12 o0 o1 p2) ww_F (x3, σ)).bind (fun b12 => f_X0_loadParts_j124 b12 o0 o1 p2)
def f_X0_loadParts (σ : ww_M) (o0 : Nat) (o1 : Nat) (p2 : Int32) : Option (ww_M) :=
  f_X0_loadParts_j12 (ww_up (ww_up σ o0 4 0) o0 7 0) o0 o1 p2 0
def f_X0_loadHour_j66 (σ : ww_M) (o0 : Nat) (o1 : Nat) (p2 : Int32) (p3 : Int32) (p4 : Int32) (x5 : Int32) (x6 : Int32) (s0 : Int32) : Option ((Int32 × ww_M) ⊕ (ww_M)) :=
  (if x6 = 0 then some (.inl (x5 + 1, σ)) else (if s0 = 0 then some (.inl (x5 + 1, σ)) else ww_ck (ww_in p2 6) (ww_ck (ww_in p2 6) (some (.inl (x5 + 1, ww_up σ (o0 + 3) (ww_ix p2) ((σ (o0 + 3) (ww_ix p2)) ||| (ww_shl 1 x5))))))))
def f_X0_loadHour_j42 (σ : ww_M) (o0 : Nat) (o1 : Nat) (p2 : Int32) (p3 : Int32) (p4 : Int32) (x5 : Int32) (s0 : Int32) : Option ((Int32 × ww_M) ⊕ (ww_M)) :=
  ww_ck (ww_in x5 6) ((if ((ww_shr p4 ((σ (o0 + 2) (ww_ix x5)) / 3)) &&& 1) = 0 then f_X0_loadHour_j66 σ o0 o1 p2 p3 p4 x5 s0 1 else f_X0_loadHour_j66 σ o0 o1 p2 p3 p4 x5 s0 0))
def f_X0_loadHour_b10 (o0 : Nat) (o1 : Nat) (p2 : Int32) (p3 : Int32) (p4 : Int32) (a10 : Int32 × ww_M) : Option ((Int32 × ww_M) ⊕ (ww_M)) :=
  (if (a10.2 o0 4) ≤ a10.1 then some (.inr a10.2) else ww_ck (ww_in a10.1 6) ((f_X2_placeOf a10.2 o1 (a10.2 (o0 + 2) (ww_ix a10.1))).bind (fun v28 => (if ((ww_shr p3 v28) &&& 1) = 0 then f_X0_loadHour_j42 a10.2 o0 o1 p2 p3 p4 a10.1 1 else f_X0_loadHour_j42 a10.2 o0 o1 p2 p3 p4 a10.1 0))))
def f_X0_loadHour_j97 (σ : ww_M) (o0 : Nat) (o1 : Nat) (p2 : Int32) (p3 : Int32) (p4 : Int32) : Option (ww_M) :=
  some σ
def f_X0_loadHour_j10 (σ : ww_M) (o0 : Nat) (o1 : Nat) (p2 : Int32) (p3 : Int32) (p4 : Int32) (x5 : Int32) : Option (ww_M) :=
  (ww_it (f_X0_loadHour_b10 o0 o1 p2 p3 p4) ww_F (x5, σ)).bind (fun b10 => f_X0_loadHour_j97 b10 o0 o1 p2 p3 p4)
def f_X0_loadHour (σ : ww_M) (o0 : Nat) (o1 : Nat) (p2 : Int32) (p3 : Int32) (p4 : Int32) : Option (ww_M) :=
  ww_ck (ww_in p2 6) (f_X0_loadHour_j10 (ww_up σ (o0 + 3) (ww_ix p2) 0) o0 o1 p2 p3 p4 0)
def f_X0_load_b88 (o0 : Nat) (o1 : Nat) (p2 : Int32) (p3 : Int32) (p4 : Int32) (x5 : Int32) (x6 : Int32) (x7 : Int32) (a88 : Int32 × ww_M) : Option ((Int32 × ww_M) ⊕ (ww_M)) :=
  (if (a88.2 o0 4) ≤ a88.1 then some (.inr a88.2) else ww_ck (ww_in a88.1 6) ((f_X2_worthIn a88.2 o1 (a88.2 (o0 + 2) (ww_ix a88.1)) x7 p3).bind (fun v120 => ww_ck (ww_in ((x6 * 6) + a88.1) 36) (some (.inl (a88.1 + 1, ww_up a88.2 (o0 + 4) (ww_ix ((x6 * 6) + a88.1)) v120))))))
def f_X0_load_j130 (σ : ww_M) (o0 : Nat) (o1 : Nat) (p2 : Int32) (p3 : Int32) (p4 : Int32) (x5 : Int32) (x6 : Int32) : Option ((Int32 × Int32 × ww_M) ⊕ (ww_M)) :=
  some (.inl (x5, x6 + 1, σ))
def f_X0_load_j88 (σ : ww_M) (o0 : Nat) (o1 : Nat) (p2 : Int32) (p3 : Int32) (p4 : Int32) (x5 : Int32) (x6 : Int32) (x7 : Int32) (x8 : Int32) : Option ((Int32 × Int32 × ww_M) ⊕ (ww_M)) :=
  (ww_it (f_X0_load_b88 o0 o1 p2 p3 p4 x5 x6 x7) ww_F (x8, σ)).bind (fun b88 => f_X0_load_j130 b88 o0 o1 p2 p3 p4 x5 x6)
def f_X0_load_b41 (o0 : Nat) (o1 : Nat) (p2 : Int32) (p3 : Int32) (p4 : Int32) (a41 : Int32 × Int32 × ww_M) : Option ((Int32 × Int32 × ww_M) ⊕ (ww_M)) :=
  (if (a41.2.2 o0 5) ≤ a41.2.1 then some (.inr a41.2.2) else (f_X2_floatingBeasts a41.2.2 o1 ((a41.2.2 o1 15) + a41.2.1)).bind (fun v64 => (f_X2_wetPlaces a41.2.2 o1 ((a41.2.2 o1 15) + a41.2.1)).bind (fun v77 => (f_X0_loadHour a41.2.2 o0 o1 a41.2.1 v77 (a41.1 ||| v64)).bind (fun v82 => f_X0_load_j88 v82 o0 o1 p2 p3 p4 (a41.1 ||| v64) a41.2.1 ((a41.2.2 o1 15) + a41.2.1) 0))))
def f_X0_load_j136 (σ : ww_M) (o0 : Nat) (o1 : Nat) (p2 : Int32) (p3 : Int32) (p4 : Int32) : Option (ww_M) :=
  some σ
def f_X0_load_j41 (σ : ww_M) (o0 : Nat) (o1 : Nat) (p2 : Int32) (p3 : Int32) (p4 : Int32) (x5 : Int32) (x6 : Int32) : Option (ww_M) :=
  (ww_it (f_X0_load_b41 o0 o1 p2 p3 p4) ww_F (x5, x6, σ)).bind (fun b41 => f_X0_load_j136 b41 o0 o1 p2 p3 p4)
def f_X0_load (σ : ww_M) (o0 : Nat) (o1 : Nat) (p2 : Int32) (p3 : Int32) (p4 : Int32) : Option (ww_M) :=
  (f_X0_loadParts (ww_up (ww_up (ww_up σ o0 8 ((σ o0 8) + 1)) o0 5 (ww_min p2 6)) o0 6 ((ww_up (ww_up σ o0 8 ((σ o0 8) + 1)) o0 5 (ww_min p2 6)) o1 14)) o0 o1 p4).bind (fun v32 => f_X0_load_j41 v32 o0 o1 p2 p3 p4 0 0)
def f_X0_workIn (p0 : Int32) (p1 : Int32) : Option (Int32) :=
  some ((ww_shr p0 (2 * p1)) &&& 3)
def f_X0_usefulIn_j42 (σ : ww_M) (o0 : Nat) (p1 : Int32) (p2 : Int32) (x3 : Int32) (x4 : Int32) (x5 : Int32) (s0 : Int32) : Option ((Int32 × Int32) ⊕ (Int32)) :=
  (if s0 = 0 then some (.inl (x3, x4 + 1)) else (if x5 ≤ 0 then some (.inl (x3, x4 + 1)) else (if ((σ o0 5) - p1) < x5 then some (.inl (x3, x4 + 1)) else ww_ck (ww_in ((p1 * 6) + x4) 36) ((if (σ (o0 + 4) (ww_ix ((p1 * 6) + x4))) ≤ 0 then some (.inl (x3, x4 + 1)) else some (.inl (x3 ||| (ww_shl 1 x4), x4 + 1)))))))
def f_X0_usefulIn_b5 (σ : ww_M) (o0 : Nat) (p1 : Int32) (p2 : Int32) (a5 : Int32 × Int32) : Option ((Int32 × Int32) ⊕ (Int32)) :=
  (if (σ o0 4) ≤ a5.2 then some (.inr a5.1) else (f_X0_workIn p2 a5.2).bind (fun v17 => ww_ck (ww_in p1 6) ((if ((ww_shr (σ (o0 + 3) (ww_ix p1)) a5.2) &&& 1) = 1 then f_X0_usefulIn_j42 σ o0 p1 p2 a5.1 a5.2 v17 1 else f_X0_usefulIn_j42 σ o0 p1 p2 a5.1 a5.2 v17 0))))
def f_X0_usefulIn_j93 (σ : ww_M) (o0 : Nat) (p1 : Int32) (p2 : Int32) (x3 : Int32) : Option (Int32) :=
  some x3
def f_X0_usefulIn_j5 (σ : ww_M) (o0 : Nat) (p1 : Int32) (p2 : Int32) (x3 : Int32) (x4 : Int32) : Option (Int32) :=
  (ww_it (f_X0_usefulIn_b5 σ o0 p1 p2) ww_F (x3, x4)).bind (fun b5 => f_X0_usefulIn_j93 σ o0 p1 p2 b5)
def f_X0_usefulIn (σ : ww_M) (o0 : Nat) (p1 : Int32) (p2 : Int32) : Option (Int32) :=
  f_X0_usefulIn_j5 σ o0 p1 p2 0 0
def f_J6_bitCount_0f7a4 (p0 : Int32) : Option (Int32) :=
  some ((((((((p0 - ((ww_ushr p0 1) &&& 1431655765)) &&& 858993459) + ((ww_ushr (p0 - ((ww_ushr p0 1) &&& 1431655765)) 2) &&& 858993459)) + (ww_ushr (((p0 - ((ww_ushr p0 1) &&& 1431655765)) &&& 858993459) + ((ww_ushr (p0 - ((ww_ushr p0 1) &&& 1431655765)) 2) &&& 858993459)) 4)) &&& 252645135) + (ww_ushr (((((p0 - ((ww_ushr p0 1) &&& 1431655765)) &&& 858993459) + ((ww_ushr (p0 - ((ww_ushr p0 1) &&& 1431655765)) 2) &&& 858993459)) + (ww_ushr (((p0 - ((ww_ushr p0 1) &&& 1431655765)) &&& 858993459) + ((ww_ushr (p0 - ((ww_ushr p0 1) &&& 1431655765)) 2) &&& 858993459)) 4)) &&& 252645135) 8)) + (ww_ushr ((((((p0 - ((ww_ushr p0 1) &&& 1431655765)) &&& 858993459) + ((ww_ushr (p0 - ((ww_ushr p0 1) &&& 1431655765)) 2) &&& 858993459)) + (ww_ushr (((p0 - ((ww_ushr p0 1) &&& 1431655765)) &&& 858993459) + ((ww_ushr (p0 - ((ww_ushr p0 1) &&& 1431655765)) 2) &&& 858993459)) 4)) &&& 252645135) + (ww_ushr (((((p0 - ((ww_ushr p0 1) &&& 1431655765)) &&& 858993459) + ((ww_ushr (p0 - ((ww_ushr p0 1) &&& 1431655765)) 2) &&& 858993459)) + (ww_ushr (((p0 - ((ww_ushr p0 1) &&& 1431655765)) &&& 858993459) + ((ww_ushr (p0 - ((ww_ushr p0 1) &&& 1431655765)) 2) &&& 858993459)) 4)) &&& 252645135) 8)) 16)) &&& 63)
def f_X0_gainOf (σ : ww_M) (o0 : Nat) (p1 : Int32) (p2 : Int32) (p3 : Int32) : Option (Int32) :=
  (if (σ o0 4) ≤ p3 then some 0 else (f_X0_workIn p2 p3).bind (fun v10 => (if v10 = 1 then ww_ck (ww_in ((p1 * 6) + p3) 36) (some (σ (o0 + 4) (ww_ix ((p1 * 6) + p3)))) else some 0)))
def f_X0_after (σ : ww_M) (o0 : Nat) (p1 : Int32) (p2 : Int32) : Option (Int32) :=
  (if (σ o0 4) ≤ p2 then some p1 else some (p1 - (ww_shl 1 (2 * p2))))
def f_X0_wonBy (mf : ww_M → Nat → Int32 → Int32 → Option (Int32 × ww_M)) (σ : ww_M) (o0 : Nat) (p1 : Int32) (p2 : Int32) (p3 : Int32) (p4 : Int32) : Option (Int32 × ww_M) :=
  (f_X0_gainOf σ o0 p1 p2 p3).bind (fun v4 => (f_X0_gainOf σ o0 p1 p2 p4).bind (fun v12 => (f_X0_after σ o0 p2 p3).bind (fun v24 => (f_X0_after σ o0 v24 p4).bind (fun v29 => (mf σ o0 (p1 + 1) v29).bind (fun v32 => some ((v4 + v12) + v32.1, v32.2))))))
def f_X0_triedFrom_b100 (mf : ww_M → Nat → Int32 → Int32 → Option (Int32 × ww_M)) (o0 : Nat) (p1 : Int32) (p2 : Int32) (x3 : Int32) (x4 : Int32) (x6 : Int32) (a100 : Int32 × Int32 × ww_M) : Option ((Int32 × Int32 × ww_M) ⊕ (Int32 × ww_M)) :=
  (if x4 = 0 then some (.inr (a100.1, a100.2.2)) else (if (a100.2.2 o0 4) ≤ a100.2.1 then some (.inr (a100.1, a100.2.2)) else (if ((ww_shr x3 a100.2.1) &&& 1) = 1 then (f_X0_wonBy mf a100.2.2 o0 p1 p2 x6 a100.2.1).bind (fun v133 => some (.inl (ww_max a100.1 v133.1, a100.2.1 + 1, v133.2))) else some (.inl (a100.1, a100.2.1 + 1, a100.2.2)))))
def f_X0_triedFrom_j147 (mf : ww_M → Nat → Int32 → Int32 → Option (Int32 × ww_M)) (σ : ww_M) (o0 : Nat) (p1 : Int32) (p2 : Int32) (x3 : Int32) (x4 : Int32) (x5 : Int32) (x6 : Int32) : Option ((Int32 × Int32 × ww_M) ⊕ (Int32 × ww_M)) :=
  some (.inl (x5, x6 + 1, σ))
def f_X0_triedFrom_j100 (mf : ww_M → Nat → Int32 → Int32 → Option (Int32 × ww_M)) (σ : ww_M) (o0 : Nat) (p1 : Int32) (p2 : Int32) (x3 : Int32) (x4 : Int32) (x5 : Int32) (x6 : Int32) (x7 : Int32) : Option ((Int32 × Int32 × ww_M) ⊕ (Int32 × ww_M)) :=
  (ww_it (f_X0_triedFrom_b100 mf o0 p1 p2 x3 x4 x6) ww_F (x5, x7, σ)).bind (fun b100 => f_X0_triedFrom_j147 mf b100.2 o0 p1 p2 x3 x4 b100.1 x6)
def f_X0_triedFrom_j94 (mf : ww_M → Nat → Int32 → Int32 → Option (Int32 × ww_M)) (σ : ww_M) (o0 : Nat) (p1 : Int32) (p2 : Int32) (x3 : Int32) (x4 : Int32) (x5 : Int32) (x6 : Int32) : Option ((Int32 × Int32 × ww_M) ⊕ (Int32 × ww_M)) :=
  f_X0_triedFrom_j100 mf σ o0 p1 p2 x3 x4 x5 x6 (x6 + 1)
def f_X0_triedFrom_b49 (mf : ww_M → Nat → Int32 → Int32 → Option (Int32 × ww_M)) (o0 : Nat) (p1 : Int32) (p2 : Int32) (x3 : Int32) (x4 : Int32) (a49 : Int32 × Int32 × ww_M) : Option ((Int32 × Int32 × ww_M) ⊕ (Int32 × ww_M)) :=
  (if (a49.2.2 o0 4) ≤ a49.2.1 then some (.inr (a49.1, a49.2.2)) else (if ((ww_shr x3 a49.2.1) &&& 1) = 0 then f_X0_triedFrom_j147 mf a49.2.2 o0 p1 p2 x3 x4 a49.1 a49.2.1 else (if x4 = 0 then (f_X0_wonBy mf a49.2.2 o0 p1 p2 a49.2.1 (a49.2.2 o0 4)).bind (fun v86 => f_X0_triedFrom_j94 mf v86.2 o0 p1 p2 x3 x4 (ww_max a49.1 v86.1) a49.2.1) else f_X0_triedFrom_j94 mf a49.2.2 o0 p1 p2 x3 x4 a49.1 a49.2.1)))
def f_X0_triedFrom_j153 (mf : ww_M → Nat → Int32 → Int32 → Option (Int32 × ww_M)) (σ : ww_M) (o0 : Nat) (p1 : Int32) (p2 : Int32) (x5 : Int32) : Option (Int32 × ww_M) :=
  some (x5, σ)
def f_X0_triedFrom_j49 (mf : ww_M → Nat → Int32 → Int32 → Option (Int32 × ww_M)) (σ : ww_M) (o0 : Nat) (p1 : Int32) (p2 : Int32) (x3 : Int32) (x4 : Int32) (x5 : Int32) (x6 : Int32) : Option (Int32 × ww_M) :=
  (ww_it (f_X0_triedFrom_b49 mf o0 p1 p2 x3 x4) ww_F (x5, x6, σ)).bind (fun b49 => f_X0_triedFrom_j153 mf b49.2 o0 p1 p2 b49.1)
def f_X0_triedFrom_j28 (mf : ww_M → Nat → Int32 → Int32 → Option (Int32 × ww_M)) (σ : ww_M) (o0 : Nat) (p1 : Int32) (p2 : Int32) (x3 : Int32) (s0 : Int32) : Option (Int32 × ww_M) :=
  (if x3 = 0 then (mf σ o0 (p1 + 1) p2).bind (fun v39 => some (v39.1, v39.2)) else f_X0_triedFrom_j49 mf σ o0 p1 p2 x3 s0 0 0)
def f_X0_triedFrom_j27 (mf : ww_M → Nat → Int32 → Int32 → Option (Int32 × ww_M)) (σ : ww_M) (o0 : Nat) (p1 : Int32) (p2 : Int32) (x3 : Int32) : Option (Int32 × ww_M) :=
  f_X0_triedFrom_j28 mf σ o0 p1 p2 x3 0
def f_X0_triedFrom (mf : ww_M → Nat → Int32 → Int32 → Option (Int32 × ww_M)) (σ : ww_M) (o0 : Nat) (p1 : Int32) (p2 : Int32) : Option (Int32 × ww_M) :=
  (f_X0_usefulIn σ o0 p1 p2).bind (fun v3 => (if (σ o0 6) ≤ 1 then f_X0_triedFrom_j27 mf σ o0 p1 p2 v3 else (f_J6_bitCount_0f7a4 v3).bind (fun v16 => (if v16 ≤ 1 then f_X0_triedFrom_j27 mf σ o0 p1 p2 v3 else f_X0_triedFrom_j28 mf σ o0 p1 p2 v3 1))))
def f_X0_mostFromS (mf : ww_M → Nat → Int32 → Int32 → Option (Int32 × ww_M)) (σ : ww_M) (o0 : Nat) (p1 : Int32) (p2 : Int32) : Option (Int32 × ww_M) :=
  (if p1 < (σ o0 5) then ww_ck (ww_in ((p1 * 4096) + p2) 24576) ((if ((σ (o0 + 1) (ww_ix ((p1 * 4096) + p2))) / 64) = (σ o0 8) then ww_ck (ww_in ((p1 * 4096) + p2) 24576) (some (ww_rem (σ (o0 + 1) (ww_ix ((p1 * 4096) + p2))) 64, σ)) else (f_X0_triedFrom mf σ o0 p1 p2).bind (fun v49 => ww_ck (ww_in ((p1 * 4096) + p2) 24576) (ww_ck (ww_in ((p1 * 4096) + p2) 24576) (some (ww_rem ((ww_up v49.2 (o0 + 1) (ww_ix ((p1 * 4096) + p2)) (((σ o0 8) * 64) + v49.1)) (o0 + 1) (ww_ix ((p1 * 4096) + p2))) 64, ww_up v49.2 (o0 + 1) (ww_ix ((p1 * 4096) + p2)) (((σ o0 8) * 64) + v49.1))))))) else some (0, σ))
def f_X0_mostFrom : Nat → ww_M → Nat → Int32 → Int32 → Option (Int32 × ww_M)
  | 0 => fun _ _ _ _ => none
  | d + 1 => f_X0_mostFromS (f_X0_mostFrom d)
def f_X0_mostBy (σ : ww_M) (o0 : Nat) (o1 : Nat) (p2 : Int32) (p3 : Int32) (p4 : Int32) : Option (Int32 × ww_M) :=
  (f_X0_load σ o0 o1 p2 p3 p4).bind (fun v6 => (f_X0_mostFrom 8 v6 o0 0 (v6 o0 7)).bind (fun v15 => some (v15.1, v15.2)))
def f_X0_canChoose (σ : ww_M) (o0 : Nat) (p1 : Int32) (p2 : Int32) (p3 : Int32) : Option (Int32) :=
  (if p3 = (σ o0 4) then some 1 else ww_ck (ww_in p1 6) ((if ((ww_shr (σ (o0 + 3) (ww_ix p1)) p3) &&& 1) = 1 then (f_X0_workIn p2 p3).bind (fun v24 => (if v24 ≤ 0 then some 0 else some 1)) else some 0)))
def f_X0_firstBest_b54 (o0 : Nat) (p1 : Int32) (p2 : Int32) (x3 : Int32) (x4 : Int32) (a54 : Int32 × ww_M) : Option ((Int32 × ww_M) ⊕ ((ww_M) ⊕ (Int32 × ww_M))) :=
  (if (a54.2 o0 4) < a54.1 then some (.inr (.inl a54.2)) else (f_X0_canChoose a54.2 o0 p1 p2 a54.1).bind (fun v68 => (if v68 = 0 then some (.inl (a54.1 + 1, a54.2)) else (f_X0_wonBy (f_X0_mostFrom 8) a54.2 o0 p1 p2 x4 a54.1).bind (fun v81 => (if v81.1 = x3 then some (.inr (.inr ((x4 * 7) + a54.1, v81.2))) else some (.inl (a54.1 + 1, v81.2)))))))
def f_X0_firstBest_j103 (σ : ww_M) (o0 : Nat) (p1 : Int32) (p2 : Int32) (x3 : Int32) (x4 : Int32) : Option ((Int32 × ww_M) ⊕ ((ww_M) ⊕ (Int32 × ww_M))) :=
  some (.inl (x4 + 1, σ))
def f_X0_firstBest_j54 (σ : ww_M) (o0 : Nat) (p1 : Int32) (p2 : Int32) (x3 : Int32) (x4 : Int32) (x5 : Int32) : Option ((Int32 × ww_M) ⊕ ((ww_M) ⊕ (Int32 × ww_M))) :=
  (ww_it (f_X0_firstBest_b54 o0 p1 p2 x3 x4) ww_F (x5, σ)).bind (fun b54 => match b54 with
    | .inl b54 => f_X0_firstBest_j103 b54 o0 p1 p2 x3 x4
    | .inr g54 => some (.inr (.inr g54)))
def f_X0_firstBest_j52 (σ : ww_M) (o0 : Nat) (p1 : Int32) (p2 : Int32) (x3 : Int32) (x4 : Int32) (s0 : Int32) : Option ((Int32 × ww_M) ⊕ ((ww_M) ⊕ (Int32 × ww_M))) :=
  f_X0_firstBest_j54 σ o0 p1 p2 x3 x4 s0
def f_X0_firstBest_b10 (o0 : Nat) (p1 : Int32) (p2 : Int32) (x3 : Int32) (a10 : Int32 × ww_M) : Option ((Int32 × ww_M) ⊕ ((ww_M) ⊕ (Int32 × ww_M))) :=
  (if (a10.2 o0 4) ≤ a10.1 then some (.inr (.inl a10.2)) else (f_X0_canChoose a10.2 o0 p1 p2 a10.1).bind (fun v24 => (if v24 = 0 then f_X0_firstBest_j103 a10.2 o0 p1 p2 x3 a10.1 else (if (a10.2 o0 6) ≤ 1 then f_X0_firstBest_j52 a10.2 o0 p1 p2 x3 a10.1 (a10.2 o0 4) else f_X0_firstBest_j52 a10.2 o0 p1 p2 x3 a10.1 (a10.1 + 1)))))
def f_X0_firstBest_j109 (σ : ww_M) (o0 : Nat) (p1 : Int32) (p2 : Int32) : Option (Int32 × ww_M) :=
  some (((σ o0 4) * 7) + (σ o0 4), σ)
def f_X0_firstBest_j10 (σ : ww_M) (o0 : Nat) (p1 : Int32) (p2 : Int32) (x3 : Int32) (x4 : Int32) : Option (Int32 × ww_M) :=
  (ww_it (f_X0_firstBest_b10 o0 p1 p2 x3) ww_F (x4, σ)).bind (fun b10 => match b10 with
    | .inl b10 => f_X0_firstBest_j109 b10 o0 p1 p2
    | .inr g10 => some g10)
def f_X0_firstBest (σ : ww_M) (o0 : Nat) (p1 : Int32) (p2 : Int32) : Option (Int32 × ww_M) :=
  (f_X0_mostFrom 8 σ o0 p1 p2).bind (fun v3 => f_X0_firstBest_j10 v3.2 o0 p1 p2 v3.1 0)
def f_X6_numberOf (p0 : Int32) : Option (Int32) :=
  some (((p0 / 3) * 10) + (ww_rem p0 3))
def f_X0_partAt (σ : ww_M) (o0 : Nat) (p1 : Int32) : Option (Int32) :=
  (if (σ o0 4) ≤ p1 then some (-4) else ww_ck (ww_in p1 6) ((f_X6_numberOf (σ (o0 + 2) (ww_ix p1))).bind (fun v14 => some v14)))
def f_X0_bestAt_j58 (σ : ww_M) (o0 : Nat) (p1 : Int32) (s0 : Int32) : Option ((Int32 × Int32 × ww_M) ⊕ ((ww_M) ⊕ (Int32 × ww_M))) :=
  (f_X0_partAt σ o0 s0).bind (fun v58 => some (.inr (.inr (v58, σ))))
def f_X0_bestAt_b7 (o0 : Nat) (p1 : Int32) (a7 : Int32 × Int32 × ww_M) : Option ((Int32 × Int32 × ww_M) ⊕ ((ww_M) ⊕ (Int32 × ww_M))) :=
  (if (a7.2.2 o0 5) ≤ a7.2.1 then some (.inr (.inl a7.2.2)) else (f_X0_firstBest a7.2.2 o0 a7.2.1 a7.1).bind (fun v18 => (if a7.2.1 = (p1 / 2) then (if (ww_rem p1 2) = 0 then f_X0_bestAt_j58 v18.2 o0 p1 (v18.1 / 7) else f_X0_bestAt_j58 v18.2 o0 p1 (ww_rem v18.1 7)) else (f_X0_after v18.2 o0 a7.1 (v18.1 / 7)).bind (fun v67 => (f_X0_after v18.2 o0 v67 (ww_rem v18.1 7)).bind (fun v72 => some (.inl (v72, a7.2.1 + 1, v18.2)))))))
def f_X0_bestAt_j82 (σ : ww_M) (o0 : Nat) (p1 : Int32) : Option (Int32 × ww_M) :=
  some ((-4), σ)
def f_X0_bestAt_j7 (σ : ww_M) (o0 : Nat) (p1 : Int32) (x2 : Int32) (x3 : Int32) : Option (Int32 × ww_M) :=
  (ww_it (f_X0_bestAt_b7 o0 p1) ww_F (x2, x3, σ)).bind (fun b7 => match b7 with
    | .inl b7 => f_X0_bestAt_j82 b7 o0 p1
    | .inr g7 => some g7)
def f_X0_bestAt (σ : ww_M) (o0 : Nat) (p1 : Int32) : Option (Int32 × ww_M) :=
  f_X0_bestAt_j7 σ o0 p1 (σ o0 7) 0
def f_X6_feed (σ : ww_M) (p1 : Int32) : Option (Int32 × ww_M) :=
  (f_X6_within p1 0 127).bind (fun v4 => (if v4 = 0 then some ((-1), σ) else (f_X4_add σ 1 p1).bind (fun v17 => (if v17.1 = 0 then some ((-3), v17.2) else some (v17.2 1 1, v17.2)))))
def f_X6_end (σ : ww_M) (p1 : Int32) : Option (Int32 × ww_M) :=
  (f_X6_within p1 0 (σ 1 1)).bind (fun v9 => (if v9 = 0 then some ((-1), σ) else some (σ 1 1, ww_up σ 1 1 p1)))
def f_X6_text (σ : ww_M) : Option (Int32 × ww_M) :=
  (f_X5_tellAll σ 3 1 14).bind (fun v12 => (if ((ww_up v12.2 1 1 0) 3 0) = 0 then (f_X2_copyFrom (ww_up v12.2 1 1 0) 4 14).bind (fun v53 => (f_X2_loseFloating v53 4).bind (fun v60 => some (v12.1, ww_up (ww_up v60 45 2 0) 0 5 0))) else some ((-10) - ((ww_up v12.2 1 1 0) 3 1), ww_up v12.2 1 1 0)))
def f_X6_fault (σ : ww_M) : Option (Int32) :=
  some (σ 3 0)
def f_X6_rule (σ : ww_M) (p1 : Int32) : Option (Int32) :=
  (if p1 = 0 then some (σ 4 9) else (if p1 = 1 then some (σ 4 10) else (if p1 = 2 then some (σ 4 11) else (if p1 = 3 then some (σ 4 12) else (if p1 = 4 then some (σ 4 13) else (if p1 = 5 then some (σ 4 14) else (if p1 = 6 then some (σ 4 15) else some (-1))))))))
def f_X6_place (σ : ww_M) (p1 : Int32) (p2 : Int32) : Option (Int32) :=
  (f_X2_hasPlace σ 4 p1).bind (fun v5 => (if v5 = 0 then some (-1) else (if p2 = 0 then ww_ck (ww_in p1 6) (some (σ (4 + 1) (ww_ix p1))) else (if p2 = 1 then ww_ck (ww_in p1 6) (some (σ (4 + 2) (ww_ix p1))) else some (-1)))))
def f_X6_level (σ : ww_M) (p1 : Int32) : Option (Int32) :=
  (f_X6_within p1 0 999).bind (fun v5 => (if v5 = 0 then some (-1) else (f_X2_levelIn σ 4 p1).bind (fun v16 => some v16)))
def f_X6_beast (σ : ww_M) (p1 : Int32) (p2 : Int32) : Option (Int32) :=
  (f_X2_hasBeast σ 4 p1).bind (fun v5 => (if v5 = 0 then some (-1) else (if p2 = 0 then ww_ck (ww_in p1 3) (some (σ (4 + 4) (ww_ix p1))) else (if p2 = 1 then ww_ck (ww_in p1 3) (some (σ (4 + 5) (ww_ix p1))) else (if p2 = 2 then (f_X2_isLost σ 4 p1).bind (fun v65 => (if v65 = 0 then some 0 else some 1)) else some (-1))))))
def f_X6_part (σ : ww_M) (p1 : Int32) (p2 : Int32) : Option (Int32) :=
  (f_X2_slotOf σ 4 p1).bind (fun v5 => (if v5 = (-1) then some (-1) else (if p2 = 0 then ww_ck (ww_in v5 9) (some (σ (4 + 6) (ww_ix v5))) else (if p2 = 1 then ww_ck (ww_in v5 9) (some (σ (4 + 7) (ww_ix v5))) else (if p2 = 2 then ww_ck (ww_in v5 9) (some (σ (4 + 8) (ww_ix v5))) else (if p2 = 3 then (f_X2_worthIn σ 4 v5 (σ 4 15) (σ 4 13)).bind (fun v105 => some v105) else (if p2 = 4 then (f_X2_canWork σ 4 v5).bind (fun v114 => (if v114 = 0 then some 0 else some 1)) else (if p2 = 5 then (f_X2_ownerBy σ 4 v5 (σ 4 12)).bind (fun v138 => some v138) else some (-1)))))))))
def f_X6_mark (σ : ww_M) (p1 : Int32) (p2 : Int32) : Option (Int32 × ww_M) :=
  (f_X2_hasPlace σ 4 p1).bind (fun v5 => (if v5 = 0 then some ((-1), σ) else (f_X6_within p2 0 9).bind (fun v15 => (if v15 = 0 then some ((-1), σ) else ww_ck (ww_in p1 6) (ww_ck (ww_in p1 6) ((f_X2_loseFloating (ww_up σ (4 + 2) (ww_ix p1) p2) 4).bind (fun v47 => some (σ (4 + 2) (ww_ix p1), v47))))))))
def f_X6_own (σ : ww_M) (p1 : Int32) (p2 : Int32) : Option (Int32 × ww_M) :=
  (f_X2_hasPlace σ 4 p1).bind (fun v5 => (if v5 = 0 then some ((-1), σ) else (f_X6_within p2 0 3).bind (fun v14 => (if v14 = 0 then some ((-1), σ) else ww_ck (ww_in p1 6) (ww_ck (ww_in p1 6) (some (σ (4 + 1) (ww_ix p1), ww_up σ (4 + 1) (ww_ix p1) p2)))))))
def f_X6_law (σ : ww_M) (p1 : Int32) : Option (Int32 × ww_M) :=
  (f_X6_within p1 0 3).bind (fun v3 => (if v3 = 0 then some ((-1), σ) else some (σ 4 12, ww_up σ 4 12 p1)))
def f_X6_rot (σ : ww_M) (p1 : Int32) : Option (Int32 × ww_M) :=
  (f_X6_within p1 1 9).bind (fun v4 => (if v4 = 0 then some ((-1), σ) else some (σ 4 13, ww_up σ 4 13 p1)))
def f_X6_gangs (σ : ww_M) (p1 : Int32) : Option (Int32 × ww_M) :=
  (f_X6_within p1 1 2).bind (fun v3 => (if v3 = 0 then some ((-1), σ) else some (σ 4 14, ww_up σ 4 14 p1)))
def f_X6_lump (σ : ww_M) (p1 : Int32) (p2 : Int32) : Option (Int32 × ww_M) :=
  (f_X2_slotOf σ 4 p1).bind (fun v5 => (if v5 = (-1) then some ((-1), σ) else (f_X6_within p2 0 8).bind (fun v18 => (if v18 = 0 then some ((-1), σ) else ww_ck (ww_in v5 9) (ww_ck (ww_in v5 9) (some (σ (4 + 8) (ww_ix v5), ww_up σ (4 + 8) (ww_ix v5) p2)))))))
def f_X6_go (σ : ww_M) (p1 : Int32) (p2 : Int32) : Option (Int32 × ww_M) :=
  (f_X2_refusal σ 4 p1 p2).bind (fun v6 => (if v6 = 0 then (f_X2_slotOf σ 4 p1).bind (fun v27 => (f_X2_slotOf σ 4 p2).bind (fun v35 => (f_X2_hourGoes σ 4 v27 v35).bind (fun v38 => some (v38.1, v38.2)))) else some (v6, σ)))
def f_X6_wet (σ : ww_M) (p1 : Int32) : Option (Int32) :=
  (f_X6_within p1 0 999).bind (fun v5 => (if v5 = 0 then some (-1) else (f_X2_wetPlaces σ 4 p1).bind (fun v16 => some v16)))
def f_X6_floats_b29 (σ : ww_M) (p1 : Int32) (a29 : Int32) : Option ((Int32) ⊕ ((Unit) ⊕ (Int32))) :=
  (if 60 ≤ a29 then some (.inr (.inl ())) else (f_X2_floatingBeasts σ 4 ((σ 4 15) + a29)).bind (fun v48 => (if ((ww_shr v48 p1) &&& 1) = 1 then some (.inr (.inr ((σ 4 15) + a29))) else some (.inl (a29 + 1)))))
def f_X6_floats_j75 (σ : ww_M) (p1 : Int32) : Option (Int32) :=
  some (-4)
def f_X6_floats_j29 (σ : ww_M) (p1 : Int32) (x2 : Int32) : Option (Int32) :=
  (ww_it (f_X6_floats_b29 σ p1) ww_F x2).bind (fun b29 => match b29 with
    | .inl b29 => f_X6_floats_j75 σ p1
    | .inr g29 => some g29)
def f_X6_floats (σ : ww_M) (p1 : Int32) : Option (Int32) :=
  (f_X2_hasBeast σ 4 p1).bind (fun v5 => (if v5 = 0 then some (-1) else (f_X2_isLost σ 4 p1).bind (fun v18 => (if v18 = 0 then f_X6_floats_j29 σ p1 0 else some (-2)))))
def f_X6_has (σ : ww_M) (p1 : Int32) : Option (Int32) :=
  (f_X6_within p1 0 3).bind (fun v3 => (if v3 = 0 then some (-1) else ww_ck (ww_in p1 4) (some (σ (4 + 9) (ww_ix p1)))))
def f_X6_best_j33 (σ : ww_M) (p1 : Int32) (p2 : Int32) : Option (Int32 × ww_M) :=
  (f_X0_mostBy σ 48 4 p1 (σ 4 13) (-1)).bind (fun v50 => (if p2 = 0 then some (v50.1, v50.2) else (f_X0_bestAt v50.2 48 (p2 - 10)).bind (fun v70 => some (v70.1, v70.2))))
def f_X6_best (σ : ww_M) (p1 : Int32) (p2 : Int32) : Option (Int32 × ww_M) :=
  (f_X6_within p1 0 6).bind (fun v4 => (if v4 = 0 then some ((-1), σ) else (if p2 = 0 then f_X6_best_j33 σ p1 p2 else (f_X6_within p2 10 (9 + (2 * p1))).bind (fun v25 => (if v25 = 0 then some ((-1), σ) else f_X6_best_j33 σ p1 p2)))))
def f_X6_worth (σ : ww_M) (p1 : Int32) (p2 : Int32) : Option (Int32 × ww_M) :=
  (f_X2_hasBeast σ 4 p1).bind (fun v5 => (if v5 = 0 then some ((-1), σ) else (f_X6_within p2 0 6).bind (fun v15 => (if v15 = 0 then some ((-1), σ) else (f_X0_mostBy σ 48 4 p2 (σ 4 13) (-1)).bind (fun v40 => (f_X0_mostBy v40.2 48 4 p2 (v40.2 4 13) p1).bind (fun v62 => some (v40.1 - v62.1, v62.2)))))))
def f_X6_salted_b37 (p1 : Int32) (x2 : Int32) (a37 : Int32 × Int32 × Int32 × ww_M) : Option ((Int32 × Int32 × Int32 × ww_M) ⊕ (Int32 × ww_M)) :=
  (if 9 ≤ a37.2.2.1 then some (.inr (a37.1, a37.2.2.2)) else (if a37.2.1 ≤ a37.1 then some (.inr (a37.1, a37.2.2.2)) else (f_X0_mostBy a37.2.2.2 48 4 p1 ((a37.1 + a37.2.1) / 2) (-1)).bind (fun v70 => (if v70.1 = x2 then some (.inl (a37.1, (a37.1 + a37.2.1) / 2, a37.2.2.1 + 1, v70.2)) else some (.inl (((a37.1 + a37.2.1) / 2) + 1, a37.2.1, a37.2.2.1 + 1, v70.2))))))
def f_X6_salted_j95 (σ : ww_M) (p1 : Int32) (x3 : Int32) : Option (Int32 × ww_M) :=
  some (x3, σ)
def f_X6_salted_j37 (σ : ww_M) (p1 : Int32) (x2 : Int32) (x3 : Int32) (x4 : Int32) (x5 : Int32) : Option (Int32 × ww_M) :=
  (ww_it (f_X6_salted_b37 p1 x2) ww_F (x3, x4, x5, σ)).bind (fun b37 => f_X6_salted_j95 b37.2 p1 b37.1)
def f_X6_salted (σ : ww_M) (p1 : Int32) : Option (Int32 × ww_M) :=
  (f_X6_within p1 0 6).bind (fun v4 => (if v4 = 0 then some ((-1), σ) else (f_X0_mostBy σ 48 4 p1 9 (-1)).bind (fun v24 => f_X6_salted_j37 v24.2 p1 v24.1 1 9 0)))
def f_X6_share (σ : ww_M) (p1 : Int32) (p2 : Int32) : Option (Int32) :=
  (f_X6_within p1 0 3).bind (fun v3 => (if v3 = 0 then some (-1) else (f_X6_within p2 0 3).bind (fun v12 => (if v12 = 0 then some (-1) else (f_X2_shareBy σ 4 p1 p2).bind (fun v26 => some v26)))))
def f_X6_tell (σ : ww_M) (p1 : Int32) (p2 : Int32) : Option (Int32 × ww_M) :=
  (f_X6_within p1 0 3).bind (fun v3 => (if v3 = 0 then some ((-1), σ) else (f_X6_within p2 0 99).bind (fun v13 => (if v13 = 0 then some ((-1), σ) else (f_X3_add σ 45 p1 p2).bind (fun v27 => (if v27.1 = 0 then some ((-3), v27.2) else some (v27.2 45 2, v27.2)))))))
def f_X6_forget (σ : ww_M) (p1 : Int32) : Option (Int32 × ww_M) :=
  (f_X6_within p1 0 (σ 45 2)).bind (fun v9 => (if v9 = 0 then some ((-1), σ) else some (σ 45 2, ww_up σ 45 2 p1)))
def f_X6_laws_b4 (σ : ww_M) (a4 : Int32 × Int32) : Option ((Int32 × Int32) ⊕ (Int32)) :=
  (if 4 ≤ a4.2 then some (.inr a4.1) else (f_X3_areExplained σ 45 4 a4.2).bind (fun v18 => (if v18 = 0 then some (.inl (a4.1, a4.2 + 1)) else some (.inl (a4.1 ||| (ww_shl 1 a4.2), a4.2 + 1)))))
def f_X6_laws_j36 (σ : ww_M) (x1 : Int32) : Option (Int32) :=
  some x1
def f_X6_laws_j4 (σ : ww_M) (x1 : Int32) (x2 : Int32) : Option (Int32) :=
  (ww_it (f_X6_laws_b4 σ) ww_F (x1, x2)).bind (fun b4 => f_X6_laws_j36 σ b4)
def f_X6_laws (σ : ww_M) : Option (Int32) :=
  f_X6_laws_j4 σ 0 0
def f_X6_whose_b28 (p1 : Int32) (x2 : Int32) (a28 : Int32 × Int32 × ww_M) : Option ((Int32 × Int32 × ww_M) ⊕ (Int32 × ww_M)) :=
  (if 4 ≤ a28.2.1 then some (.inr (a28.1, a28.2.2)) else ww_ck (ww_in p1 6) ((f_X3_areExplained (ww_up a28.2.2 (4 + 1) (ww_ix p1) a28.2.1) 45 4 ((ww_up a28.2.2 (4 + 1) (ww_ix p1) a28.2.1) 4 12)).bind (fun v60 => (if v60 = 0 then some (.inl (a28.1, a28.2.1 + 1, ww_up a28.2.2 (4 + 1) (ww_ix p1) a28.2.1)) else some (.inl (a28.1 ||| (ww_shl 1 a28.2.1), a28.2.1 + 1, ww_up a28.2.2 (4 + 1) (ww_ix p1) a28.2.1))))))
def f_X6_whose_j79 (σ : ww_M) (p1 : Int32) (x2 : Int32) (x3 : Int32) : Option (Int32 × ww_M) :=
  ww_ck (ww_in p1 6) (some (x3, ww_up σ (4 + 1) (ww_ix p1) x2))
def f_X6_whose_j28 (σ : ww_M) (p1 : Int32) (x2 : Int32) (x3 : Int32) (x4 : Int32) : Option (Int32 × ww_M) :=
  (ww_it (f_X6_whose_b28 p1 x2) ww_F (x3, x4, σ)).bind (fun b28 => f_X6_whose_j79 b28.2 p1 x2 b28.1)
def f_X6_whose (σ : ww_M) (p1 : Int32) : Option (Int32 × ww_M) :=
  (f_X2_hasPlace σ 4 p1).bind (fun v5 => (if v5 = 0 then some ((-1), σ) else ww_ck (ww_in p1 6) (f_X6_whose_j28 σ p1 (σ (4 + 1) (ww_ix p1)) 0 0)))
def f_X6_strand_j111 (σ : ww_M) (p1 : Int32) (p2 : Int32) (x3 : Int32) (x4 : Int32) (x5 : Int32) (x6 : Int32) (x7 : Int32) (x8 : Int32) (x9 : Int32) (s0 : Int32) : Option ((Int32 × Int32) ⊕ (Int32)) :=
  (if x9 = 0 then some (.inl (x6, x7 + 1)) else (if s0 = 0 then (if (x5 &&& x8) = 0 then some (.inl (x6 ||| (ww_shl 1 x7), x7 + 1)) else some (.inl (x6, x7 + 1))) else some (.inl (x6, x7 + 1))))
def f_X6_strand_j94 (σ : ww_M) (p1 : Int32) (p2 : Int32) (x3 : Int32) (x4 : Int32) (x5 : Int32) (x6 : Int32) (x7 : Int32) (x8 : Int32) (s0 : Int32) : Option ((Int32 × Int32) ⊕ (Int32)) :=
  (if (x4 &&& x8) = x8 then f_X6_strand_j111 σ p1 p2 x3 x4 x5 x6 x7 x8 s0 1 else f_X6_strand_j111 σ p1 p2 x3 x4 x5 x6 x7 x8 s0 0)
def f_X6_strand_b58 (σ : ww_M) (p1 : Int32) (p2 : Int32) (x3 : Int32) (x4 : Int32) (x5 : Int32) (a58 : Int32 × Int32) : Option ((Int32 × Int32) ⊕ (Int32)) :=
  (if (σ 4 9) < (a58.2 + p1) then some (.inr a58.1) else (f_X6_bodyAt a58.2 p1).bind (fun v75 => (if (x3 &&& v75) = v75 then f_X6_strand_j94 σ p1 p2 x3 x4 x5 a58.1 a58.2 v75 1 else f_X6_strand_j94 σ p1 p2 x3 x4 x5 a58.1 a58.2 v75 0)))
def f_X6_strand_j146 (σ : ww_M) (p1 : Int32) (p2 : Int32) (x6 : Int32) : Option (Int32) :=
  some x6
def f_X6_strand_j58 (σ : ww_M) (p1 : Int32) (p2 : Int32) (x3 : Int32) (x4 : Int32) (x5 : Int32) (x6 : Int32) (x7 : Int32) : Option (Int32) :=
  (ww_it (f_X6_strand_b58 σ p1 p2 x3 x4 x5) ww_F (x6, x7)).bind (fun b58 => f_X6_strand_j146 σ p1 p2 b58)
def f_X6_strand (σ : ww_M) (p1 : Int32) (p2 : Int32) : Option (Int32) :=
  (f_X6_within p1 1 3).bind (fun v3 => (if v3 = 0 then some (-1) else (f_X6_within p2 0 998).bind (fun v14 => (if v14 = 0 then some (-1) else (f_X2_wetPlaces σ 4 p2).bind (fun v27 => (f_X2_wetPlaces σ 4 (p2 + 1)).bind (fun v38 => (f_X2_takenPlaces σ 4).bind (fun v47 => f_X6_strand_j58 σ p1 p2 v27 v38 v47 0 0)))))))
def f_X6_luck_b32 (σ : ww_M) (p1 : Int32) (p2 : Int32) (a32 : Int64 × Int64 × Int32) : Option ((Int64 × Int64 × Int32) ⊕ (Int64 × Int64)) :=
  ww_ck (ww_in p1 3) ((if (σ (4 + 5) (ww_ix p1)) ≤ a32.2.2 then some (.inr (a32.1, a32.2.1)) else ww_ck (ww_in ((p1 * 3) + a32.2.2) 9) ((if (σ (4 + 7) (ww_ix ((p1 * 3) + a32.2.2))) ≤ 0 then some (.inl (a32.1, a32.2.1, a32.2.2 + 1)) else (f_X2_isLost σ 4 p1).bind (fun v72 => (if v72 = 0 then ww_ck (ww_in ((p1 * 3) + a32.2.2) 9) (some (.inl (a32.1 * 8, a32.2.1 * ((8 - (σ (4 + 8) (ww_ix ((p1 * 3) + a32.2.2)))).toInt64), a32.2.2 + 1))) else some (.inl (a32.1, a32.2.1, a32.2.2 + 1))))))))
def f_X6_luck_b118 (σ : ww_M) (p1 : Int32) (p2 : Int32) (a118 : Int64 × Int64 × Int32) : Option ((Int64 × Int64 × Int32) ⊕ (Int64 × Int64)) :=
  (if 9 ≤ a118.2.2 then some (.inr (a118.1, a118.2.1)) else (if (lg_cmp a118.1 1) ≤ 0 then some (.inr (a118.1, a118.2.1)) else (if (lg_cmp (ww_remL a118.2.1 2) 0) = 0 then some (.inl (a118.1 / 2, a118.2.1 / 2, a118.2.2 + 1)) else some (.inr (a118.1, a118.2.1)))))
def f_X6_luck_j162 (σ : ww_M) (p1 : Int32) (p2 : Int32) (y3 : Int64) (y7 : Int64) : Option (Int64) :=
  (if p2 = 0 then some y7 else some y3)
def f_X6_luck_j118 (σ : ww_M) (p1 : Int32) (p2 : Int32) (y3 : Int64) (y7 : Int64) (x9 : Int32) : Option (Int64) :=
  (ww_it (f_X6_luck_b118 σ p1 p2) ww_F (y3, y7, x9)).bind (fun b118 => f_X6_luck_j162 σ p1 p2 b118.1 b118.2)
def f_X6_luck_j109 (σ : ww_M) (p1 : Int32) (p2 : Int32) (y3 : Int64) (y5 : Int64) : Option (Int64) :=
  f_X6_luck_j118 σ p1 p2 y3 (y3 - y5) 0
def f_X6_luck_j32 (σ : ww_M) (p1 : Int32) (p2 : Int32) (y3 : Int64) (y5 : Int64) (x7 : Int32) : Option (Int64) :=
  (ww_it (f_X6_luck_b32 σ p1 p2) ww_F (y3, y5, x7)).bind (fun b32 => f_X6_luck_j109 σ p1 p2 b32.1 b32.2)
def f_X6_luck (σ : ww_M) (p1 : Int32) (p2 : Int32) : Option (Int64) :=
  (f_X2_hasBeast σ 4 p1).bind (fun v5 => (if v5 = 0 then some (-1) else (f_X6_within p2 0 1).bind (fun v14 => (if v14 = 0 then some (-1) else f_X6_luck_j32 σ p1 p2 1 1 0))))
def f_X6_open_b4 (σ : ww_M) (a4 : Int32 × Int32) : Option ((Int32 × Int32) ⊕ (Int32)) :=
  (if 9 ≤ a4.2 then some (.inr a4.1) else (f_X2_canWork σ 4 a4.2).bind (fun v15 => (if v15 = 0 then some (.inl (a4.1, a4.2 + 1)) else (if a4.1 = (-1) then some (.inl (a4.2, a4.2 + 1)) else (f_X2_isRicher σ 4 a4.2 a4.1).bind (fun v32 => (if v32 = 0 then some (.inl (a4.1, a4.2 + 1)) else some (.inl (a4.2, a4.2 + 1))))))))
def f_X6_open_j46 (σ : ww_M) (x1 : Int32) : Option (Int32) :=
  (if x1 = (-1) then some (-4) else (f_X6_numberOf x1).bind (fun v57 => some v57))
def f_X6_open_j4 (σ : ww_M) (x1 : Int32) (x2 : Int32) : Option (Int32) :=
  (ww_it (f_X6_open_b4 σ) ww_F (x1, x2)).bind (fun b4 => f_X6_open_j46 σ b4)
def f_X6_open (σ : ww_M) : Option (Int32) :=
  f_X6_open_j4 σ (-1) 0
def f_X6_drift_j91 (σ : ww_M) (p1 : Int32) (p2 : Int32) (p3 : Int32) (x4 : Int32) (x5 : Int32) (x6 : Int32) (s0 : Int32) : Option ((Int32 × Int32 × Int32 × ww_M) ⊕ (Int32 × ww_M)) :=
  (f_X2_workableSlot σ 14 s0).bind (fun v105 => (f_X2_hourGoes σ 14 v105 (-1)).bind (fun v109 => some (.inl (x4 + v109.1, x5, x6 + 1, v109.2))))
def f_X6_drift_b41 (p1 : Int32) (p2 : Int32) (p3 : Int32) (a41 : Int32 × Int32 × Int32 × ww_M) : Option ((Int32 × Int32 × Int32 × ww_M) ⊕ (Int32 × ww_M)) :=
  (if p2 ≤ a41.2.2.1 then some (.inr (a41.1, a41.2.2.2)) else (f_X2_workableParts a41.2.2.2 14).bind (fun v62 => (if 1 ≤ (v62 + 1) then ww_ck (ww_nz (v62 + 1)) (f_X6_drift_j91 a41.2.2.2 p1 p2 p3 a41.1 ((a41.2.1 * 1103515245) + 12345) a41.2.2.1 (ww_rem ((ww_ushr ((a41.2.1 * 1103515245) + 12345) 16) &&& 32767) (v62 + 1))) else f_X6_drift_j91 a41.2.2.2 p1 p2 p3 a41.1 ((a41.2.1 * 1103515245) + 12345) a41.2.2.1 0)))
def f_X6_drift_j121 (σ : ww_M) (p1 : Int32) (p2 : Int32) (p3 : Int32) (x4 : Int32) : Option (Int32 × ww_M) :=
  (if p3 = 0 then some (x4, σ) else (f_J6_bitCount_0f7a4 (σ 14 16)).bind (fun v137 => some (v137, σ)))
def f_X6_drift_j41 (σ : ww_M) (p1 : Int32) (p2 : Int32) (p3 : Int32) (x4 : Int32) (x5 : Int32) (x6 : Int32) : Option (Int32 × ww_M) :=
  (ww_it (f_X6_drift_b41 p1 p2 p3) ww_F (x4, x5, x6, σ)).bind (fun b41 => f_X6_drift_j121 b41.2 p1 p2 p3 b41.1)
def f_X6_drift (σ : ww_M) (p1 : Int32) (p2 : Int32) (p3 : Int32) : Option (Int32 × ww_M) :=
  (f_X6_within p2 1 60).bind (fun v4 => (if v4 = 0 then some ((-1), σ) else (f_X6_within p3 0 1).bind (fun v13 => (if v13 = 0 then some ((-1), σ) else (f_X2_copyFrom σ 14 4).bind (fun v29 => f_X6_drift_j41 v29 p1 p2 p3 0 p1 0)))))
def f_X6_keep (σ : ww_M) (p1 : Int32) : Option (Int32 × ww_M) :=
  (f_X6_within p1 0 1).bind (fun v3 => (if v3 = 0 then some ((-1), σ) else ww_ck (ww_in p1 2) ((f_X2_copyFrom σ (25 + 10 * ww_ix p1) 4).bind (fun v30 => some ((ww_shr (σ 0 5) p1) &&& 1, ww_up v30 0 5 ((v30 0 5) ||| (ww_shl 1 p1)))))))
def f_X6_back (σ : ww_M) (p1 : Int32) : Option (Int32 × ww_M) :=
  (f_X6_within p1 0 1).bind (fun v3 => (if v3 = 0 then some ((-1), σ) else (if ((ww_shr (σ 0 5) p1) &&& 1) = 0 then some ((-2), σ) else ww_ck (ww_in p1 2) ((f_X2_copyFrom σ 4 (25 + 10 * ww_ix p1)).bind (fun v35 => some (v35 4 15, v35))))))
def f_X6_sheet (σ : ww_M) (p1 : Int32) (p2 : Int32) (p3 : Int32) : Option (Int32 × ww_M) :=
  (f_X6_within p1 0 3).bind (fun v3 => (if v3 = 0 then some ((-1), σ) else (f_X6_within p2 0 2).bind (fun v12 => (if v12 = 0 then some ((-1), σ) else (if p3 ≤ 40 then (if 0 ≤ p3 then ww_ck (ww_in p1 4) ((f_X1_renew σ (54 + 2 * ww_ix p1) p2 p3).bind (fun v41 => some (1, v41))) else some ((-14), σ)) else some ((-1), σ))))))
def f_X6_lay (σ : ww_M) (p1 : Int32) (p2 : Int32) (p3 : Int32) : Option (Int32 × ww_M) :=
  (f_X6_within p1 0 3).bind (fun v3 => (if v3 = 0 then some ((-1), σ) else ww_ck (ww_in p1 4) ((f_X1_faultAt σ (54 + 2 * ww_ix p1) (σ (54 + 2 * ww_ix p1) 1) p2).bind (fun v27 => (if v27 = 0 then (f_X1_put σ (54 + 2 * ww_ix p1) p2 p3).bind (fun v47 => some (1, v47)) else some ((-10) - v27, σ))))))
def f_X6_read_b56 (p1 : Int32) (p2 : Int32) (p3 : Int32) (p4 : Int32) (a56 : Int32 × Int32 × ww_M) : Option ((Int32 × Int32 × ww_M) ⊕ ((Int32 × Int32 × ww_M) ⊕ (Int32 × ww_M))) :=
  (if p4 ≤ a56.2.1 then some (.inr (.inl (a56.1, a56.2.1, a56.2.2))) else (if a56.1 = 0 then (f_X1_faultAt a56.2.2 (54 + 2 * ww_ix p1) p2 (p3 + a56.2.1)).bind (fun v75 => (if v75 = 0 then ww_ck (ww_in (p3 + a56.2.1) 40) ((f_X2_refusal a56.2.2 4 (a56.2.2 (54 + 2 * ww_ix p1 + 1) (ww_ix (p3 + a56.2.1))) (-4)).bind (fun v105 => (if v105 = 0 then (f_X2_slotOf a56.2.2 4 (a56.2.2 (54 + 2 * ww_ix p1 + 1) (ww_ix (p3 + a56.2.1)))).bind (fun v138 => (f_X2_hourGoes a56.2.2 4 v138 (-1)).bind (fun v142 => some (.inl (v75, a56.2.1 + 1, v142.2)))) else (f_X2_copyFrom a56.2.2 4 14).bind (fun v119 => some (.inr (.inr ((-20) - a56.2.1, v119))))))) else some (.inl (v75, a56.2.1, a56.2.2)))) else some (.inr (.inl (a56.1, a56.2.1, a56.2.2)))))
def f_X6_read_j152 (σ : ww_M) (p1 : Int32) (p2 : Int32) (p3 : Int32) (p4 : Int32) (x6 : Int32) (x7 : Int32) : Option (Int32 × ww_M) :=
  some (x7, ww_up σ 0 9 x6)
def f_X6_read_j56 (σ : ww_M) (p1 : Int32) (p2 : Int32) (p3 : Int32) (p4 : Int32) (x6 : Int32) (x7 : Int32) : Option (Int32 × ww_M) :=
  (ww_it (f_X6_read_b56 p1 p2 p3 p4) ww_F (x6, x7, σ)).bind (fun b56 => match b56 with
    | .inl b56 => f_X6_read_j152 b56.2.2 p1 p2 p3 p4 b56.1 b56.2.1
    | .inr g56 => some g56)
def f_X6_read (σ : ww_M) (p1 : Int32) (p2 : Int32) (p3 : Int32) (p4 : Int32) : Option (Int32 × ww_M) :=
  (f_X6_within p1 0 3).bind (fun v3 => (if v3 = 0 then some ((-1), σ) else (f_X6_within p2 0 2).bind (fun v12 => (if v12 = 0 then some ((-1), σ) else (f_X6_within p4 0 20).bind (fun v23 => (if v23 = 0 then some ((-1), σ) else ww_ck (ww_in p1 4) ((f_X2_copyFrom σ 14 4).bind (fun v47 => f_X6_read_j56 v47 p1 p2 p3 p4 0 0))))))))
def f_X6_torn (σ : ww_M) : Option (Int32) :=
  some (σ 0 9)
def f_X6_count (σ : ww_M) (p1 : Int32) : Option (Int32) :=
  (if p1 = 0 then some (σ 45 2) else (if p1 = 1 then (f_J6_bitCount_0f7a4 (σ 0 5)).bind (fun v52 => some v52) else (if p1 = 2 then some (σ 1 1) else (if p1 = 3 then ww_ck (ww_in 0 4) ((if 0 ≤ (σ (54 + 2 * ww_ix 0) 2) then ww_ck (ww_in 0 4) (some (σ (54 + 2 * ww_ix 0) 2)) else some (-4))) else (if p1 = 4 then (f_X2_cutParts σ 4).bind (fun v95 => some v95) else (if p1 = 5 then (f_J6_bitCount_0f7a4 (σ 4 16)).bind (fun v106 => some v106) else some (-1)))))))
def f_X7_in (u0 : Int64) (u2 : Int64) (u4 : Int64) : Option (Int32) :=
  (if (lg_cmp u0 u2) < 0 then some 0 else (if 0 < (lg_cmp u0 u4) then some 0 else some 1))
def f_X7_feed (σ : ww_M) (o0 : Nat) (p1 : Int32) : Option (Int32 × ww_M) :=
  (f_X7_in p1.toInt64 0 127).bind (fun v6 => (if v6 = 0 then some ((-1), σ) else (if (σ o0 14) = 160 then some ((-3), σ) else ww_ck (ww_in (σ o0 14) 160) (some ((ww_up (ww_up σ (o0 + 7) (ww_ix (σ o0 14)) p1) o0 14 (((ww_up σ (o0 + 7) (ww_ix (σ o0 14)) p1) o0 14) + 1)) o0 14, ww_up (ww_up σ (o0 + 7) (ww_ix (σ o0 14)) p1) o0 14 (((ww_up σ (o0 + 7) (ww_ix (σ o0 14)) p1) o0 14) + 1))))))
def f_X7_end (σ : ww_M) (o0 : Nat) (p1 : Int32) : Option (Int32 × ww_M) :=
  (f_X7_in p1.toInt64 0 ((σ o0 14).toInt64)).bind (fun v8 => (if v8 = 0 then some ((-1), σ) else some (σ o0 14, ww_up σ o0 14 p1)))
def f_X7_byteAt (σ : ww_M) (o0 : Nat) (p1 : Int32) : Option (Int32) :=
  (if (σ o0 14) ≤ p1 then some (-4) else ww_ck (ww_in p1 160) (some (σ (o0 + 7) (ww_ix p1))))
def f_X7_fails (σ : ww_M) (o0 : Nat) (p1 : Int32) : Option (ww_M) :=
  (if (σ o0 16) = 0 then some (ww_up (ww_up σ o0 16 p1) o0 17 ((ww_up σ o0 16 p1) o0 19)) else some σ)
def f_X7_nameHere_b51 (σ : ww_M) (o0 : Nat) (x1 : Int32) (a51 : Int32 × Int32) : Option ((Int32 × Int32) ⊕ (Int32)) :=
  (if a51.1 = 0 then some (.inr a51.1) else (if ((σ o0 18) - (σ o0 19)) ≤ a51.2 then some (.inr a51.1) else (f_X7_byteAt σ o0 ((σ o0 19) + a51.2)).bind (fun v75 => ww_ck (ww_in x1 7) (ww_ck (ww_in ((σ (o0 + 8) (ww_ix x1)) + a51.2) 24) ((if v75 = (σ (o0 + 9) (ww_ix ((σ (o0 + 8) (ww_ix x1)) + a51.2))) then some (.inl (1, a51.2 + 1)) else some (.inl (0, a51.2 + 1))))))))
def f_X7_nameHere_j106 (σ : ww_M) (o0 : Nat) (x1 : Int32) (x2 : Int32) : Option ((Int32) ⊕ ((Unit) ⊕ (Int32))) :=
  (if x2 = 0 then some (.inl (x1 + 1)) else some (.inr (.inr x1)))
def f_X7_nameHere_j51 (σ : ww_M) (o0 : Nat) (x1 : Int32) (x2 : Int32) (x3 : Int32) : Option ((Int32) ⊕ ((Unit) ⊕ (Int32))) :=
  (ww_it (f_X7_nameHere_b51 σ o0 x1) ww_F (x2, x3)).bind (fun b51 => f_X7_nameHere_j106 σ o0 x1 b51)
def f_X7_nameHere_j48 (σ : ww_M) (o0 : Nat) (x1 : Int32) (s0 : Int32) : Option ((Int32) ⊕ ((Unit) ⊕ (Int32))) :=
  f_X7_nameHere_j51 σ o0 x1 s0 0
def f_X7_nameHere_b2 (σ : ww_M) (o0 : Nat) (a2 : Int32) : Option ((Int32) ⊕ ((Unit) ⊕ (Int32))) :=
  (if 6 ≤ a2 then some (.inr (.inl ())) else (if (σ o0 20) = 1 then ww_ck (ww_in (a2 + 1) 7) (ww_ck (ww_in a2 7) ((if ((σ o0 18) - (σ o0 19)) = ((σ (o0 + 8) (ww_ix (a2 + 1))) - (σ (o0 + 8) (ww_ix a2))) then f_X7_nameHere_j48 σ o0 a2 1 else f_X7_nameHere_j48 σ o0 a2 0))) else some (.inr (.inl ()))))
def f_X7_nameHere_j118 (σ : ww_M) (o0 : Nat) : Option (Int32) :=
  some (-4)
def f_X7_nameHere_j2 (σ : ww_M) (o0 : Nat) (x1 : Int32) : Option (Int32) :=
  (ww_it (f_X7_nameHere_b2 σ o0) ww_F x1).bind (fun b2 => match b2 with
    | .inl b2 => f_X7_nameHere_j118 σ o0
    | .inr g2 => some g2)
def f_X7_nameHere (σ : ww_M) (o0 : Nat) : Option (Int32) :=
  f_X7_nameHere_j2 σ o0 0
def f_X7_step_b8 (o0 : Nat) (a8 : ww_M) : Option ((ww_M) ⊕ (ww_M)) :=
  (f_X7_byteAt a8 o0 (a8 o0 18)).bind (fun v13 => (if v13 = 32 then some (.inl (ww_up a8 o0 18 ((a8 o0 18) + 1))) else some (.inr a8)))
def f_X7_step_b84 (o0 : Nat) (a84 : ww_M) : Option ((ww_M) ⊕ (ww_M)) :=
  (f_X7_byteAt a84 o0 (a84 o0 18)).bind (fun v89 => (f_X7_in v89.toInt64 97 122).bind (fun v99 => (if v99 = 0 then some (.inr a84) else some (.inl (ww_up a84 o0 18 ((a84 o0 18) + 1))))))
def f_X7_step_b140 (o0 : Nat) (a140 : ww_M) : Option ((ww_M) ⊕ (ww_M)) :=
  (f_X7_byteAt a140 o0 (a140 o0 18)).bind (fun v145 => (f_X7_in v145.toInt64 48 57).bind (fun v155 => (if v155 = 0 then some (.inr a140) else (if 2 ≤ ((a140 o0 18) - (a140 o0 19)) then some (.inl (ww_up (ww_up a140 o0 21 (a140 o0 21)) o0 18 (((ww_up a140 o0 21 (a140 o0 21)) o0 18) + 1))) else (f_X7_byteAt a140 o0 (a140 o0 18)).bind (fun v187 => some (.inl (ww_up (ww_up a140 o0 21 (((10 * (a140 o0 21)) + v187) - 48)) o0 18 (((ww_up a140 o0 21 (((10 * (a140 o0 21)) + v187) - 48)) o0 18) + 1))))))))
def f_X7_step_j217 (σ : ww_M) (o0 : Nat) : Option (ww_M) :=
  (if (((ww_up σ o0 20 2) o0 18) - ((ww_up σ o0 20 2) o0 19)) ≤ 2 then some (ww_up σ o0 20 2) else (f_X7_fails (ww_up σ o0 20 2) o0 1).bind (fun v237 => some v237))
def f_X7_step_j140 (σ : ww_M) (o0 : Nat) : Option (ww_M) :=
  (ww_it (f_X7_step_b140 o0) ww_F σ).bind (fun b140 => f_X7_step_j217 b140 o0)
def f_X7_step_j118 (σ : ww_M) (o0 : Nat) : Option (ww_M) :=
  some (ww_up σ o0 20 1)
def f_X7_step_j84 (σ : ww_M) (o0 : Nat) : Option (ww_M) :=
  (ww_it (f_X7_step_b84 o0) ww_F σ).bind (fun b84 => f_X7_step_j118 b84 o0)
def f_X7_step_j34 (σ : ww_M) (o0 : Nat) : Option (ww_M) :=
  (f_X7_byteAt (ww_up σ o0 19 (σ o0 18)) o0 ((ww_up σ o0 19 (σ o0 18)) o0 18)).bind (fun v47 => (if v47 = (-4) then some (ww_up (ww_up (ww_up σ o0 19 (σ o0 18)) o0 21 0) o0 20 0) else (f_X7_in v47.toInt64 97 122).bind (fun v78 => (if v78 = 0 then (f_X7_in v47.toInt64 48 57).bind (fun v134 => (if v134 = 0 then (if v47 = 59 then some (ww_up (ww_up (ww_up (ww_up σ o0 19 (σ o0 18)) o0 21 0) o0 20 3) o0 18 (((ww_up (ww_up (ww_up σ o0 19 (σ o0 18)) o0 21 0) o0 20 3) o0 18) + 1)) else (f_X7_fails (ww_up (ww_up (ww_up (ww_up σ o0 19 (σ o0 18)) o0 21 0) o0 20 3) o0 18 (((ww_up (ww_up (ww_up σ o0 19 (σ o0 18)) o0 21 0) o0 20 3) o0 18) + 1)) o0 1).bind (fun v266 => some v266)) else f_X7_step_j140 (ww_up (ww_up σ o0 19 (σ o0 18)) o0 21 0) o0)) else f_X7_step_j84 (ww_up (ww_up σ o0 19 (σ o0 18)) o0 21 0) o0))))
def f_X7_step_j8 (σ : ww_M) (o0 : Nat) : Option (ww_M) :=
  (ww_it (f_X7_step_b8 o0) ww_F σ).bind (fun b8 => f_X7_step_j34 b8 o0)
def f_X7_step (σ : ww_M) (o0 : Nat) : Option (ww_M) :=
  (if (σ o0 16) ≤ 0 then f_X7_step_j8 σ o0 else some σ)
def f_X7_number_j62 (σ : ww_M) (o0 : Nat) (p1 : Int32) (p2 : Int32) (s0 : Int32) : Option (Int32 × ww_M) :=
  (f_X7_step σ o0).bind (fun v64 => some (s0, v64))
def f_X7_number_j47 (σ : ww_M) (o0 : Nat) (p1 : Int32) (p2 : Int32) : Option (Int32 × ww_M) :=
  (if (σ o0 16) = 0 then f_X7_number_j62 σ o0 p1 p2 (σ o0 21) else f_X7_number_j62 σ o0 p1 p2 p1)
def f_X7_number_j20 (σ : ww_M) (o0 : Nat) (p1 : Int32) (p2 : Int32) : Option (Int32 × ww_M) :=
  (if (σ o0 16) = 0 then (f_X7_in ((σ o0 21).toInt64) p1.toInt64 p2.toInt64).bind (fun v36 => (if v36 = 0 then (f_X7_fails σ o0 3).bind (fun v44 => f_X7_number_j47 v44 o0 p1 p2) else f_X7_number_j47 σ o0 p1 p2)) else f_X7_number_j47 σ o0 p1 p2)
def f_X7_number (σ : ww_M) (o0 : Nat) (p1 : Int32) (p2 : Int32) : Option (Int32 × ww_M) :=
  (if (σ o0 16) = 0 then (if (σ o0 20) = 2 then f_X7_number_j20 σ o0 p1 p2 else (f_X7_fails σ o0 2).bind (fun v17 => f_X7_number_j20 v17 o0 p1 p2)) else f_X7_number_j20 σ o0 p1 p2)
def f_X7_readTide_j46 (σ : ww_M) (o0 : Nat) (x1 : Int32) : Option ((Int32 × ww_M) ⊕ ((ww_M) ⊕ (ww_M))) :=
  (f_X7_number σ o0 0 9).bind (fun v50 => (if 6 ≤ (v50.2 o0 10) then some (.inl (x1, v50.2)) else ww_ck (ww_in (v50.2 o0 10) 6) (some (.inl (x1, ww_up (ww_up v50.2 (o0 + 5) (ww_ix (v50.2 o0 10)) v50.1) o0 10 (((ww_up v50.2 (o0 + 5) (ww_ix (v50.2 o0 10)) v50.1) o0 10) + 1))))))
def f_X7_readTide_j21 (σ : ww_M) (o0 : Nat) : Option ((Int32 × ww_M) ⊕ ((ww_M) ⊕ (ww_M))) :=
  (if (σ o0 20) = 2 then (if (σ o0 10) = 6 then (f_X7_fails σ o0 5).bind (fun v42 => some (.inr (.inr v42))) else f_X7_readTide_j46 σ o0 0) else f_X7_readTide_j46 σ o0 0)
def f_X7_readTide_b2 (o0 : Nat) (a2 : Int32 × ww_M) : Option ((Int32 × ww_M) ⊕ ((ww_M) ⊕ (ww_M))) :=
  (if (a2.2 o0 16) = 0 then (if a2.1 = 0 then (if (a2.2 o0 20) = 2 then f_X7_readTide_j21 a2.2 o0 else some (.inr (.inl a2.2))) else f_X7_readTide_j21 a2.2 o0) else some (.inr (.inl a2.2)))
def f_X7_readTide_j86 (σ : ww_M) (o0 : Nat) : Option (ww_M) :=
  some σ
def f_X7_readTide_j2 (σ : ww_M) (o0 : Nat) (x1 : Int32) : Option (ww_M) :=
  (ww_it (f_X7_readTide_b2 o0) ww_F (x1, σ)).bind (fun b2 => match b2 with
    | .inl b2 => f_X7_readTide_j86 b2 o0
    | .inr g2 => some g2)
def f_X7_readTide (σ : ww_M) (o0 : Nat) : Option (ww_M) :=
  f_X7_readTide_j2 σ o0 1
def f_X7_readWhale_j59 (σ : ww_M) (o0 : Nat) (x1 : Int32) (x2 : Int32) : Option ((Int32 × ww_M) ⊕ ((Int32 × ww_M) ⊕ (ww_M))) :=
  (f_X7_number σ o0 0 9).bind (fun v80 => ww_ck (ww_in ((18 + (9 * x1)) + (3 * x2)) 50) ((f_X7_number (ww_up v80.2 (o0 + 4) (ww_ix ((18 + (9 * x1)) + (3 * x2))) v80.1) o0 1 3).bind (fun v94 => ww_ck (ww_in (((18 + (9 * x1)) + (3 * x2)) + 1) 50) ((f_X7_number (ww_up v94.2 (o0 + 4) (ww_ix (((18 + (9 * x1)) + (3 * x2)) + 1)) v94.1) o0 0 8).bind (fun v109 => ww_ck (ww_in (((18 + (9 * x1)) + (3 * x2)) + 2) 50) (some (.inl (x2 + 1, ww_up v109.2 (o0 + 4) (ww_ix (((18 + (9 * x1)) + (3 * x2)) + 2)) v109.1))))))))
def f_X7_readWhale_j40 (σ : ww_M) (o0 : Nat) (x1 : Int32) (x2 : Int32) : Option ((Int32 × ww_M) ⊕ ((Int32 × ww_M) ⊕ (ww_M))) :=
  (if (σ o0 20) = 2 then (if x2 = 3 then (f_X7_fails σ o0 5).bind (fun v55 => some (.inr (.inr v55))) else f_X7_readWhale_j59 σ o0 x1 x2) else f_X7_readWhale_j59 σ o0 x1 x2)
def f_X7_readWhale_b21 (o0 : Nat) (x1 : Int32) (a21 : Int32 × ww_M) : Option ((Int32 × ww_M) ⊕ ((Int32 × ww_M) ⊕ (ww_M))) :=
  (if (a21.2 o0 16) = 0 then (if a21.1 = 0 then f_X7_readWhale_j40 a21.2 o0 x1 a21.1 else (if (a21.2 o0 20) = 2 then f_X7_readWhale_j40 a21.2 o0 x1 a21.1 else some (.inr (.inl (a21.1, a21.2))))) else some (.inr (.inl (a21.1, a21.2))))
def f_X7_readWhale_j119 (σ : ww_M) (o0 : Nat) (x1 : Int32) (x2 : Int32) : Option (ww_M) :=
  ww_ck (ww_in ((2 * x1) + 1) 6) (some (ww_up (ww_up σ (o0 + 6) (ww_ix ((2 * x1) + 1)) x2) o0 11 (((ww_up σ (o0 + 6) (ww_ix ((2 * x1) + 1)) x2) o0 11) + 1)))
def f_X7_readWhale_j21 (σ : ww_M) (o0 : Nat) (x1 : Int32) (x2 : Int32) : Option (ww_M) :=
  (ww_it (f_X7_readWhale_b21 o0 x1) ww_F (x2, σ)).bind (fun b21 => match b21 with
    | .inl b21 => f_X7_readWhale_j119 b21.2 o0 x1 b21.1
    | .inr g21 => some g21)
def f_X7_readWhale (σ : ww_M) (o0 : Nat) : Option (ww_M) :=
  (f_X7_number σ o0 0 5).bind (fun v15 => ww_ck (ww_in (2 * (σ o0 11)) 6) (f_X7_readWhale_j21 (ww_up v15.2 (o0 + 6) (ww_ix (2 * (σ o0 11))) v15.1) o0 (σ o0 11) 0))
def f_X7_readOnce (σ : ww_M) (o0 : Nat) (p1 : Int32) : Option (ww_M) :=
  (if p1 = 2 then (f_X7_number σ o0 0 3).bind (fun v14 => some (ww_up v14.2 (o0 + 4) 12 v14.1)) else (if p1 = 3 then (f_X7_number σ o0 1 9).bind (fun v36 => some (ww_up v36.2 (o0 + 4) 13 (v36.1 - 4))) else (f_X7_number σ o0 1 2).bind (fun v54 => some (ww_up v54.2 (o0 + 4) 14 (v54.1 - 1)))))
def f_X7_readLine_j214 (σ : ww_M) (o0 : Nat) : Option (ww_M) :=
  (f_X7_step σ o0).bind (fun v215 => some v215)
def f_X7_readLine_j194 (σ : ww_M) (o0 : Nat) : Option (ww_M) :=
  (if (σ o0 16) = 0 then (if (σ o0 20) = 3 then f_X7_readLine_j214 σ o0 else (f_X7_fails σ o0 2).bind (fun v211 => f_X7_readLine_j214 v211 o0)) else f_X7_readLine_j214 σ o0)
def f_X7_readLine_j87 (σ : ww_M) (o0 : Nat) (x1 : Int32) : Option (ww_M) :=
  (f_X7_step (ww_up σ o0 12 ((σ o0 12) ||| (ww_shl 1 x1))) o0).bind (fun v100 => (if (v100 o0 16) ≤ 0 then (if x1 = 0 then (f_X7_number v100 o0 0 3).bind (fun v128 => ww_ck (ww_in (2 * (v100 o0 9)) 50) ((f_X7_number (ww_up v128.2 (o0 + 4) (ww_ix (2 * (v100 o0 9))) v128.1) o0 0 9).bind (fun v148 => ww_ck (ww_in ((2 * ((ww_up v128.2 (o0 + 4) (ww_ix (2 * (v100 o0 9))) v128.1) o0 9)) + 1) 50) (f_X7_readLine_j194 (ww_up (ww_up v148.2 (o0 + 4) (ww_ix ((2 * ((ww_up v128.2 (o0 + 4) (ww_ix (2 * (v100 o0 9))) v128.1) o0 9)) + 1)) v148.1) o0 9 (((ww_up v148.2 (o0 + 4) (ww_ix ((2 * ((ww_up v128.2 (o0 + 4) (ww_ix (2 * (v100 o0 9))) v128.1) o0 9)) + 1)) v148.1) o0 9) + 1)) o0)))) else (if x1 = 1 then (f_X7_readTide v100 o0).bind (fun v171 => f_X7_readLine_j194 v171 o0) else (if x1 = 5 then (f_X7_readWhale v100 o0).bind (fun v183 => f_X7_readLine_j194 v183 o0) else (f_X7_readOnce v100 o0 x1).bind (fun v191 => f_X7_readLine_j194 v191 o0)))) else some v100))
def f_X7_readLine_j66 (σ : ww_M) (o0 : Nat) (x1 : Int32) (x2 : Int32) : Option (ww_M) :=
  (if x2 = 0 then f_X7_readLine_j87 σ o0 x1 else (if ((ww_shr (σ o0 12) x1) &&& 1) = 1 then (f_X7_fails σ o0 4).bind (fun v84 => f_X7_readLine_j87 v84 o0 x1) else f_X7_readLine_j87 σ o0 x1))
def f_X7_readLine_j61 (σ : ww_M) (o0 : Nat) (x1 : Int32) (x2 : Int32) : Option (ww_M) :=
  (f_X7_fails σ o0 5).bind (fun v63 => f_X7_readLine_j66 v63 o0 x1 x2)
def f_X7_readLine_j48 (σ : ww_M) (o0 : Nat) (x1 : Int32) (x2 : Int32) : Option (ww_M) :=
  (if x1 = 5 then (if (σ o0 11) = 3 then f_X7_readLine_j61 σ o0 x1 x2 else f_X7_readLine_j66 σ o0 x1 x2) else f_X7_readLine_j66 σ o0 x1 x2)
def f_X7_readLine (σ : ww_M) (o0 : Nat) : Option (ww_M) :=
  (f_X7_nameHere σ o0).bind (fun v1 => (f_X7_in v1.toInt64 0 5).bind (fun v11 => (if v11 = 0 then (f_X7_fails σ o0 2).bind (fun v19 => some v19) else (f_X7_in v1.toInt64 2 4).bind (fun v31 => (if v1 = 0 then (if (σ o0 9) = 6 then f_X7_readLine_j61 σ o0 v1 v31 else f_X7_readLine_j48 σ o0 v1 v31) else f_X7_readLine_j48 σ o0 v1 v31)))))
def f_X7_looksWhere_b6 (σ : ww_M) (o0 : Nat) (a6 : Int32 × Int32 × Int32) : Option ((Int32 × Int32 × Int32) ⊕ (Int32 × Int32)) :=
  (if (σ o0 11) ≤ a6.2.2 then some (.inr (a6.1, a6.2.1)) else ww_ck (ww_in ((2 * a6.2.2) + 1) 6) (ww_ck (ww_in (2 * a6.2.2) 6) ((if a6.2.1 = 0 then (if (a6.1 &&& (ww_shl ((ww_shl 1 (σ (o0 + 6) (ww_ix ((2 * a6.2.2) + 1)))) - 1) (σ (o0 + 6) (ww_ix (2 * a6.2.2))))) = 0 then some (.inl (a6.1 ||| (ww_shl ((ww_shl 1 (σ (o0 + 6) (ww_ix ((2 * a6.2.2) + 1)))) - 1) (σ (o0 + 6) (ww_ix (2 * a6.2.2)))), 0, a6.2.2 + 1)) else some (.inl (a6.1 ||| (ww_shl ((ww_shl 1 (σ (o0 + 6) (ww_ix ((2 * a6.2.2) + 1)))) - 1) (σ (o0 + 6) (ww_ix (2 * a6.2.2)))), 1, a6.2.2 + 1))) else some (.inl (a6.1 ||| (ww_shl ((ww_shl 1 (σ (o0 + 6) (ww_ix ((2 * a6.2.2) + 1)))) - 1) (σ (o0 + 6) (ww_ix (2 * a6.2.2)))), 1, a6.2.2 + 1))))))
def f_X7_looksWhere_j89 (σ : ww_M) (o0 : Nat) (x2 : Int32) : Option (ww_M) :=
  (if (σ o0 16) = 0 then (if x2 = 0 then some σ else (f_X7_fails σ o0 7).bind (fun v103 => some v103)) else some σ)
def f_X7_looksWhere_j67 (σ : ww_M) (o0 : Nat) (x1 : Int32) (x2 : Int32) : Option (ww_M) :=
  (if (σ o0 16) = 0 then (if (ww_shr x1 (σ o0 9)) = 0 then f_X7_looksWhere_j89 σ o0 x2 else (f_X7_fails σ o0 6).bind (fun v86 => f_X7_looksWhere_j89 v86 o0 x2)) else f_X7_looksWhere_j89 σ o0 x2)
def f_X7_looksWhere_j6 (σ : ww_M) (o0 : Nat) (x1 : Int32) (x2 : Int32) (x3 : Int32) : Option (ww_M) :=
  (ww_it (f_X7_looksWhere_b6 σ o0) ww_F (x1, x2, x3)).bind (fun b6 => f_X7_looksWhere_j67 σ o0 b6.1 b6.2)
def f_X7_looksWhere (σ : ww_M) (o0 : Nat) : Option (ww_M) :=
  f_X7_looksWhere_j6 σ o0 0 0 0
def f_X7_isWet (σ : ww_M) (o0 : Nat) (p1 : Int32) (p2 : Int32) : Option (Int32) :=
  ww_ck (ww_nz (σ o0 2)) (ww_ck (ww_in (ww_rem p2 (σ o0 2)) 6) (ww_ck (ww_in ((2 * p1) + 1) 200) ((if (σ (o0 + 2) (ww_ix (ww_rem p2 (σ o0 2)))) ≤ (σ (o0 + 1) (ww_ix ((2 * p1) + 1))) then some 0 else some 1))))
def f_X7_floatsIn_b6 (σ : ww_M) (o0 : Nat) (p1 : Int32) (p2 : Int32) (p3 : Int32) (a6 : Int32 × Int32) : Option ((Int32 × Int32) ⊕ (Int32)) :=
  (if (p1 + p2) ≤ a6.2 then some (.inr a6.1) else (if a6.1 = 0 then some (.inl (0, a6.2 + 1)) else (f_X7_isWet σ o0 a6.2 p3).bind (fun v23 => (if v23 = 0 then some (.inl (0, a6.2 + 1)) else some (.inl (1, a6.2 + 1))))))
def f_X7_floatsIn_j42 (σ : ww_M) (o0 : Nat) (p1 : Int32) (p2 : Int32) (p3 : Int32) (x4 : Int32) : Option (Int32) :=
  ww_ck (ww_isb x4) (some x4)
def f_X7_floatsIn_j6 (σ : ww_M) (o0 : Nat) (p1 : Int32) (p2 : Int32) (p3 : Int32) (x4 : Int32) (x5 : Int32) : Option (Int32) :=
  (ww_it (f_X7_floatsIn_b6 σ o0 p1 p2 p3) ww_F (x4, x5)).bind (fun b6 => f_X7_floatsIn_j42 σ o0 p1 p2 p3 b6)
def f_X7_floatsIn (σ : ww_M) (o0 : Nat) (p1 : Int32) (p2 : Int32) (p3 : Int32) : Option (Int32) :=
  f_X7_floatsIn_j6 σ o0 p1 p2 p3 1 p1
def f_X7_floatsNow_b2 (o0 : Nat) (a2 : Int32 × ww_M) : Option ((Int32 × ww_M) ⊕ (ww_M)) :=
  (if (a2.2 o0 5) ≤ a2.1 then some (.inr a2.2) else ww_ck (ww_in (2 * a2.1) 6) (ww_ck (ww_in ((2 * a2.1) + 1) 6) ((f_X7_floatsIn a2.2 o0 (a2.2 (o0 + 3) (ww_ix (2 * a2.1))) (a2.2 (o0 + 3) (ww_ix ((2 * a2.1) + 1))) (a2.2 (o0 + 1) 45)).bind (fun v36 => (if v36 = 0 then some (.inl (a2.1 + 1, a2.2)) else ww_ck (ww_in (15 + a2.1) 200) (some (.inl (a2.1 + 1, ww_up a2.2 (o0 + 1) (ww_ix (15 + a2.1)) 1))))))))
def f_X7_floatsNow_j58 (σ : ww_M) (o0 : Nat) : Option (ww_M) :=
  some σ
def f_X7_floatsNow_j2 (σ : ww_M) (o0 : Nat) (x1 : Int32) : Option (ww_M) :=
  (ww_it (f_X7_floatsNow_b2 o0) ww_F (x1, σ)).bind (fun b2 => f_X7_floatsNow_j58 b2 o0)
def f_X7_floatsNow (σ : ww_M) (o0 : Nat) : Option (ww_M) :=
  f_X7_floatsNow_j2 σ o0 0
def f_X7_text_b34 (o0 : Nat) (x1 : Int32) (a34 : Int32 × ww_M) : Option ((Int32 × ww_M) ⊕ (ww_M)) :=
  (if 50 ≤ a34.1 then some (.inr a34.2) else ww_ck (ww_in a34.1 50) (some (.inl (a34.1 + 1, ww_up a34.2 (o0 + 4) (ww_ix a34.1) 0))))
def f_X7_text_b57 (o0 : Nat) (a57 : Int32 × ww_M) : Option ((Int32 × ww_M) ⊕ (Int32 × ww_M)) :=
  (if (a57.2 o0 16) = 0 then (if (a57.2 o0 20) = 0 then some (.inr (a57.1, a57.2)) else (f_X7_readLine a57.2 o0).bind (fun v72 => some (.inl (a57.1 + 1, v72)))) else some (.inr (a57.1, a57.2)))
def f_X7_text_b115 (o0 : Nat) (x1 : Int32) (a115 : Int32 × ww_M) : Option ((Int32 × ww_M) ⊕ (ww_M)) :=
  (if 50 ≤ a115.1 then some (.inr a115.2) else ww_ck (ww_in a115.1 50) (ww_ck (ww_in a115.1 200) (ww_ck (ww_in (ww_rem a115.1 6) 6) (ww_ck (ww_in (ww_rem a115.1 6) 6) ((if ((ww_up (ww_up a115.2 (o0 + 1) (ww_ix a115.1) (a115.2 (o0 + 4) (ww_ix a115.1))) (o0 + 3) (ww_ix (ww_rem a115.1 6)) ((ww_up a115.2 (o0 + 1) (ww_ix a115.1) (a115.2 (o0 + 4) (ww_ix a115.1))) (o0 + 6) (ww_ix (ww_rem a115.1 6)))) o0 10) ≤ (ww_rem a115.1 6) then ww_ck (ww_in (ww_rem a115.1 6) 6) (some (.inl (a115.1 + 1, ww_up (ww_up (ww_up a115.2 (o0 + 1) (ww_ix a115.1) (a115.2 (o0 + 4) (ww_ix a115.1))) (o0 + 3) (ww_ix (ww_rem a115.1 6)) ((ww_up a115.2 (o0 + 1) (ww_ix a115.1) (a115.2 (o0 + 4) (ww_ix a115.1))) (o0 + 6) (ww_ix (ww_rem a115.1 6)))) (o0 + 2) (ww_ix (ww_rem a115.1 6)) 0))) else ww_ck (ww_in (ww_rem a115.1 6) 6) (ww_ck (ww_in (ww_rem a115.1 6) 6) (some (.inl (a115.1 + 1, ww_up (ww_up (ww_up a115.2 (o0 + 1) (ww_ix a115.1) (a115.2 (o0 + 4) (ww_ix a115.1))) (o0 + 3) (ww_ix (ww_rem a115.1 6)) ((ww_up a115.2 (o0 + 1) (ww_ix a115.1) (a115.2 (o0 + 4) (ww_ix a115.1))) (o0 + 6) (ww_ix (ww_rem a115.1 6)))) (o0 + 2) (ww_ix (ww_rem a115.1 6)) ((ww_up (ww_up a115.2 (o0 + 1) (ww_ix a115.1) (a115.2 (o0 + 4) (ww_ix a115.1))) (o0 + 3) (ww_ix (ww_rem a115.1 6)) ((ww_up a115.2 (o0 + 1) (ww_ix a115.1) (a115.2 (o0 + 4) (ww_ix a115.1))) (o0 + 6) (ww_ix (ww_rem a115.1 6)))) (o0 + 5) (ww_ix (ww_rem a115.1 6)))))))))))))
def f_X7_text_j215 (σ : ww_M) (o0 : Nat) (x1 : Int32) (s0 : Int32) : Option (Int32 × ww_M) :=
  (f_X7_floatsNow (ww_up (ww_up (ww_up (ww_up (ww_up σ o0 2 s0) o0 5 ((ww_up σ o0 2 s0) o0 11)) o0 30 0) (o0 + 14) 0 (vp_nar .boolean 0)) (o0 + 14) 1 (vp_nar .boolean 0)) o0).bind (fun v246 => some (x1, v246))
def f_X7_text_j190 (σ : ww_M) (o0 : Nat) (x1 : Int32) : Option (Int32 × ww_M) :=
  (if 1 ≤ ((ww_up σ o0 3 (σ o0 9)) o0 10) then f_X7_text_j215 (ww_up σ o0 3 (σ o0 9)) o0 x1 ((ww_up σ o0 3 (σ o0 9)) o0 10) else f_X7_text_j215 (ww_up σ o0 3 (σ o0 9)) o0 x1 1)
def f_X7_text_j115 (σ : ww_M) (o0 : Nat) (x1 : Int32) (x2 : Int32) : Option (Int32 × ww_M) :=
  (ww_it (f_X7_text_b115 o0 x1) ww_F (x2, σ)).bind (fun b115 => f_X7_text_j190 b115 o0 x1)
def f_X7_text_j81 (σ : ww_M) (o0 : Nat) (x1 : Int32) : Option (Int32 × ww_M) :=
  (f_X7_looksWhere σ o0).bind (fun v82 => (if ((ww_up (ww_up v82 o0 14 0) o0 15 ((ww_up v82 o0 14 0) o0 16)) o0 16) ≤ 0 then f_X7_text_j115 (ww_up (ww_up v82 o0 14 0) o0 15 ((ww_up v82 o0 14 0) o0 16)) o0 x1 0 else some ((-10) - ((ww_up (ww_up v82 o0 14 0) o0 15 ((ww_up v82 o0 14 0) o0 16)) o0 17), ww_up (ww_up v82 o0 14 0) o0 15 ((ww_up v82 o0 14 0) o0 16))))
def f_X7_text_j57 (σ : ww_M) (o0 : Nat) (x1 : Int32) : Option (Int32 × ww_M) :=
  (ww_it (f_X7_text_b57 o0) ww_F (x1, σ)).bind (fun b57 => f_X7_text_j81 b57.2 o0 b57.1)
def f_X7_text_j53 (σ : ww_M) (o0 : Nat) (x1 : Int32) : Option (Int32 × ww_M) :=
  (f_X7_step σ o0).bind (fun v54 => f_X7_text_j57 v54 o0 x1)
def f_X7_text_j34 (σ : ww_M) (o0 : Nat) (x1 : Int32) (x2 : Int32) : Option (Int32 × ww_M) :=
  (ww_it (f_X7_text_b34 o0 x1) ww_F (x2, σ)).bind (fun b34 => f_X7_text_j53 b34 o0 x1)
def f_X7_text (σ : ww_M) (o0 : Nat) : Option (Int32 × ww_M) :=
  f_X7_text_j34 (ww_up (ww_up (ww_up (ww_up (ww_up (ww_up σ o0 16 0) o0 18 0) o0 9 0) o0 10 0) o0 11 0) o0 12 0) o0 0 0
def f_X7_fault (σ : ww_M) (o0 : Nat) : Option (Int32) :=
  some (σ o0 15)
def f_X7_isPlace (σ : ww_M) (o0 : Nat) (p1 : Int32) : Option (Int32) :=
  (f_X7_in p1.toInt64 0 (((σ o0 3) - 1).toInt64)).bind (fun v10 => ww_ck (ww_isb v10) (some v10))
def f_X7_isBeast (σ : ww_M) (o0 : Nat) (p1 : Int32) : Option (Int32) :=
  (f_X7_in p1.toInt64 0 (((σ o0 5) - 1).toInt64)).bind (fun v10 => ww_ck (ww_isb v10) (some v10))
def f_X7_isPart (σ : ww_M) (o0 : Nat) (p1 : Int32) : Option (Int32) :=
  (if p1 < 0 then some 0 else (f_X7_isBeast σ o0 (p1 / 10)).bind (fun v9 => (if v9 = 0 then some 0 else ww_ck (ww_in ((2 * (p1 / 10)) + 1) 6) ((if (σ (o0 + 3) (ww_ix ((2 * (p1 / 10)) + 1))) ≤ (ww_rem p1 10) then some 0 else some 1)))))
def f_X7_partAt (p0 : Int32) : Option (Int32) :=
  some ((18 + (9 * (p0 / 10))) + (3 * (ww_rem p0 10)))
def f_X7_rotNow (σ : ww_M) (o0 : Nat) : Option (Int32) :=
  some ((σ (o0 + 1) 13) + 4)
def f_X7_rule (σ : ww_M) (o0 : Nat) (p1 : Int32) : Option (Int32) :=
  (if p1 = 0 then some (σ o0 3) else (if p1 = 1 then some (σ o0 2) else (if p1 = 2 then some (σ o0 5) else (if p1 = 3 then some (σ (o0 + 1) 12) else (if p1 = 4 then (f_X7_rotNow σ o0).bind (fun v68 => some v68) else (if p1 = 5 then some ((σ (o0 + 1) 14) + 1) else (if p1 = 6 then some (σ (o0 + 1) 45) else some (-1))))))))
def f_X7_place (σ : ww_M) (o0 : Nat) (p1 : Int32) (p2 : Int32) : Option (Int32) :=
  (f_X7_isPlace σ o0 p1).bind (fun v2 => (if v2 = 0 then some (-1) else (f_X7_in p2.toInt64 0 1).bind (fun v12 => (if v12 = 0 then some (-1) else ww_ck (ww_in ((2 * p1) + p2) 200) (some (σ (o0 + 1) (ww_ix ((2 * p1) + p2))))))))
def f_X7_level (σ : ww_M) (o0 : Nat) (p1 : Int32) : Option (Int32) :=
  (f_X7_in p1.toInt64 0 999).bind (fun v6 => (if v6 = 0 then some (-1) else ww_ck (ww_nz (σ o0 2)) (ww_ck (ww_in (ww_rem p1 (σ o0 2)) 6) (some (σ (o0 + 2) (ww_ix (ww_rem p1 (σ o0 2))))))))
def f_X7_beast (σ : ww_M) (o0 : Nat) (p1 : Int32) (p2 : Int32) : Option (Int32) :=
  (f_X7_isBeast σ o0 p1).bind (fun v2 => (if v2 = 0 then some (-1) else (f_X7_in p2.toInt64 0 2).bind (fun v14 => (if v14 = 0 then some (-1) else (if p2 = 2 then ww_ck (ww_in (15 + p1) 200) (some (σ (o0 + 1) (ww_ix (15 + p1)))) else ww_ck (ww_in ((2 * p1) + p2) 6) (some (σ (o0 + 3) (ww_ix ((2 * p1) + p2)))))))))
def f_X7_worthIn (σ : ww_M) (o0 : Nat) (p1 : Int32) (p2 : Int32) (p3 : Int32) : Option (Int32) :=
  (f_X7_partAt p1).bind (fun v5 => ww_ck (ww_in v5 200) (ww_ck (ww_nz p3) ((if 0 ≤ ((σ (o0 + 1) (ww_ix v5)) - (p2 / p3)) then some ((σ (o0 + 1) (ww_ix v5)) - (p2 / p3)) else some 0))))
def f_X7_canBeWorked (σ : ww_M) (o0 : Nat) (p1 : Int32) : Option (Int32) :=
  (f_X7_partAt p1).bind (fun v10 => ww_ck (ww_in (v10 + 1) 200) ((if (σ (o0 + 1) (ww_ix (v10 + 1))) ≤ 0 then some 0 else ww_ck (ww_in (15 + (p1 / 10)) 200) ((if (σ (o0 + 1) (ww_ix (15 + (p1 / 10)))) = 0 then ww_ck (ww_in (2 * (p1 / 10)) 6) ((f_X7_isWet σ o0 ((σ (o0 + 3) (ww_ix (2 * (p1 / 10)))) + (ww_rem p1 10)) (σ (o0 + 1) 45)).bind (fun v52 => (if v52 = 0 then some 1 else some 0))) else some 0)))))
def f_X7_whoseBy_b87 (σ : ww_M) (o0 : Nat) (p1 : Int32) (p2 : Int32) (x3 : Int32) (x4 : Int32) (x5 : Int32) (x6 : Int32) (x7 : Int32) (a87 : Int32 × Int32) : Option ((Int32 × Int32) ⊕ (Int32)) :=
  (if (x3 + x4) ≤ a87.2 then some (.inr a87.1) else ww_ck (ww_in (2 * a87.2) 200) ((if (σ (o0 + 1) (ww_ix (2 * a87.2))) = x7 then some (.inl (a87.1 + 1, a87.2 + 1)) else some (.inl (a87.1 + 0, a87.2 + 1)))))
def f_X7_whoseBy_j140 (σ : ww_M) (o0 : Nat) (p1 : Int32) (p2 : Int32) (x3 : Int32) (x4 : Int32) (x6 : Int32) (x7 : Int32) (x8 : Int32) (s0 : Int32) : Option ((Int32 × Int32 × Int32) ⊕ (Int32)) :=
  (if x8 ≤ x6 then some (.inl (s0, x6, x7 + 1)) else some (.inl (s0, x8, x7 + 1)))
def f_X7_whoseBy_j126 (σ : ww_M) (o0 : Nat) (p1 : Int32) (p2 : Int32) (x3 : Int32) (x4 : Int32) (x5 : Int32) (x6 : Int32) (x7 : Int32) (x8 : Int32) : Option ((Int32 × Int32 × Int32) ⊕ (Int32)) :=
  (if x8 ≤ x6 then f_X7_whoseBy_j140 σ o0 p1 p2 x3 x4 x6 x7 x8 x5 else f_X7_whoseBy_j140 σ o0 p1 p2 x3 x4 x6 x7 x8 x7)
def f_X7_whoseBy_j87 (σ : ww_M) (o0 : Nat) (p1 : Int32) (p2 : Int32) (x3 : Int32) (x4 : Int32) (x5 : Int32) (x6 : Int32) (x7 : Int32) (x8 : Int32) (x9 : Int32) : Option ((Int32 × Int32 × Int32) ⊕ (Int32)) :=
  (ww_it (f_X7_whoseBy_b87 σ o0 p1 p2 x3 x4 x5 x6 x7) ww_F (x8, x9)).bind (fun b87 => f_X7_whoseBy_j126 σ o0 p1 p2 x3 x4 x5 x6 x7 b87)
def f_X7_whoseBy_b75 (σ : ww_M) (o0 : Nat) (p1 : Int32) (p2 : Int32) (x3 : Int32) (x4 : Int32) (a75 : Int32 × Int32 × Int32) : Option ((Int32 × Int32 × Int32) ⊕ (Int32)) :=
  (if 4 ≤ a75.2.2 then some (.inr a75.1) else f_X7_whoseBy_j87 σ o0 p1 p2 x3 x4 a75.1 a75.2.1 a75.2.2 0 x3)
def f_X7_whoseBy_j164 (σ : ww_M) (o0 : Nat) (p1 : Int32) (p2 : Int32) (x5 : Int32) : Option (Int32) :=
  some x5
def f_X7_whoseBy_j75 (σ : ww_M) (o0 : Nat) (p1 : Int32) (p2 : Int32) (x3 : Int32) (x4 : Int32) (x5 : Int32) (x6 : Int32) (x7 : Int32) : Option (Int32) :=
  (ww_it (f_X7_whoseBy_b75 σ o0 p1 p2 x3 x4) ww_F (x5, x6, x7)).bind (fun b75 => f_X7_whoseBy_j164 σ o0 p1 p2 b75)
def f_X7_whoseBy (σ : ww_M) (o0 : Nat) (p1 : Int32) (p2 : Int32) : Option (Int32) :=
  ww_ck (ww_in (2 * (p1 / 10)) 6) (ww_ck (ww_in ((2 * (p1 / 10)) + 1) 6) ((if 3 ≤ p2 then f_X7_whoseBy_j75 σ o0 p1 p2 (σ (o0 + 3) (ww_ix (2 * (p1 / 10)))) (σ (o0 + 3) (ww_ix ((2 * (p1 / 10)) + 1))) 0 0 0 else (if p2 = 0 then ww_ck (ww_in (2 * ((σ (o0 + 3) (ww_ix (2 * (p1 / 10)))) + 0)) 200) (some (σ (o0 + 1) (ww_ix (2 * ((σ (o0 + 3) (ww_ix (2 * (p1 / 10)))) + 0))))) else (if p2 = 1 then ww_ck (ww_in (2 * ((σ (o0 + 3) (ww_ix (2 * (p1 / 10)))) + ((σ (o0 + 3) (ww_ix ((2 * (p1 / 10)) + 1))) - 1))) 200) (some (σ (o0 + 1) (ww_ix (2 * ((σ (o0 + 3) (ww_ix (2 * (p1 / 10)))) + ((σ (o0 + 3) (ww_ix ((2 * (p1 / 10)) + 1))) - 1)))))) else ww_ck (ww_in (2 * ((σ (o0 + 3) (ww_ix (2 * (p1 / 10)))) + (ww_rem p1 10))) 200) (some (σ (o0 + 1) (ww_ix (2 * ((σ (o0 + 3) (ww_ix (2 * (p1 / 10)))) + (ww_rem p1 10)))))))))))
def f_X7_part (σ : ww_M) (o0 : Nat) (p1 : Int32) (p2 : Int32) : Option (Int32) :=
  (f_X7_isPart σ o0 p1).bind (fun v2 => (if v2 = 0 then some (-1) else (f_X7_in p2.toInt64 0 5).bind (fun v14 => (if v14 = 0 then some (-1) else (if 3 ≤ p2 then (if p2 = 3 then (f_X7_rotNow σ o0).bind (fun v54 => (f_X7_worthIn σ o0 p1 (σ (o0 + 1) 45) v54).bind (fun v57 => some v57)) else (if p2 = 4 then (f_X7_canBeWorked σ o0 p1).bind (fun v70 => (if v70 = 0 then some 0 else some 1)) else (f_X7_whoseBy σ o0 p1 (σ (o0 + 1) 12)).bind (fun v93 => some v93))) else (f_X7_partAt p1).bind (fun v32 => ww_ck (ww_in (v32 + p2) 200) (some (σ (o0 + 1) (ww_ix (v32 + p2))))))))))
def f_X7_sets (σ : ww_M) (o0 : Nat) (p1 : Int32) (p2 : Int32) (p3 : Int32) : Option (Int32 × ww_M) :=
  (if p1 = 0 then some ((-1), σ) else ww_ck (ww_in p2 200) (ww_ck (ww_in p2 200) (some (σ (o0 + 1) (ww_ix p2), ww_up σ (o0 + 1) (ww_ix p2) p3))))
def f_X7_mark_j26 (σ : ww_M) (o0 : Nat) (p1 : Int32) (p2 : Int32) (s0 : Int32) : Option (Int32 × ww_M) :=
  (f_X7_sets σ o0 s0 ((2 * p1) + 1) p2).bind (fun v32 => (f_X7_floatsNow v32.2 o0).bind (fun v37 => some (v32.1, v37)))
def f_X7_mark_j25 (σ : ww_M) (o0 : Nat) (p1 : Int32) (p2 : Int32) : Option (Int32 × ww_M) :=
  f_X7_mark_j26 σ o0 p1 p2 0
def f_X7_mark (σ : ww_M) (o0 : Nat) (p1 : Int32) (p2 : Int32) : Option (Int32 × ww_M) :=
  (f_X7_isPlace σ o0 p1).bind (fun v3 => (if v3 = 0 then f_X7_mark_j25 σ o0 p1 p2 else (f_X7_in p2.toInt64 0 9).bind (fun v15 => (if v15 = 0 then f_X7_mark_j25 σ o0 p1 p2 else f_X7_mark_j26 σ o0 p1 p2 1))))
def f_X7_own_j26 (σ : ww_M) (o0 : Nat) (p1 : Int32) (p2 : Int32) (s0 : Int32) : Option (Int32 × ww_M) :=
  (f_X7_sets σ o0 s0 (2 * p1) p2).bind (fun v30 => some (v30.1, v30.2))
def f_X7_own_j25 (σ : ww_M) (o0 : Nat) (p1 : Int32) (p2 : Int32) : Option (Int32 × ww_M) :=
  f_X7_own_j26 σ o0 p1 p2 0
def f_X7_own (σ : ww_M) (o0 : Nat) (p1 : Int32) (p2 : Int32) : Option (Int32 × ww_M) :=
  (f_X7_isPlace σ o0 p1).bind (fun v3 => (if v3 = 0 then f_X7_own_j25 σ o0 p1 p2 else (f_X7_in p2.toInt64 0 3).bind (fun v15 => (if v15 = 0 then f_X7_own_j25 σ o0 p1 p2 else f_X7_own_j26 σ o0 p1 p2 1))))
def f_X7_law (σ : ww_M) (o0 : Nat) (p1 : Int32) : Option (Int32 × ww_M) :=
  (f_X7_in p1.toInt64 0 3).bind (fun v7 => (f_X7_sets σ o0 v7 12 p1).bind (fun v13 => some (v13.1, v13.2)))
def f_X7_rot (σ : ww_M) (o0 : Nat) (p1 : Int32) : Option (Int32 × ww_M) :=
  (f_X7_in p1.toInt64 1 9).bind (fun v6 => (if v6 = 0 then some ((-1), σ) else (f_X7_sets σ o0 1 13 (p1 - 4)).bind (fun v20 => some (4 + v20.1, v20.2))))
def f_X7_gangs (σ : ww_M) (o0 : Nat) (p1 : Int32) : Option (Int32 × ww_M) :=
  (f_X7_in p1.toInt64 1 2).bind (fun v6 => (if v6 = 0 then some ((-1), σ) else (f_X7_sets σ o0 1 14 (p1 - 1)).bind (fun v20 => some (1 + v20.1, v20.2))))
def f_X7_lump (σ : ww_M) (o0 : Nat) (p1 : Int32) (p2 : Int32) : Option (Int32 × ww_M) :=
  (f_X7_isPart σ o0 p1).bind (fun v2 => (if v2 = 0 then some ((-1), σ) else (f_X7_in p2.toInt64 0 8).bind (fun v15 => (f_X7_partAt p1).bind (fun v19 => (f_X7_sets σ o0 v15 (v19 + 2) p2).bind (fun v25 => some (v25.1, v25.2))))))
def f_X7_works (σ : ww_M) (o0 : Nat) (p1 : Int32) : Option (Int32 × ww_M) :=
  (if p1 = (-4) then some (0, σ) else (f_X7_partAt p1).bind (fun v13 => ww_ck (ww_in (v13 + 1) 200) (ww_ck (ww_in (v13 + 1) 200) ((f_X7_partAt p1).bind (fun v28 => ww_ck (ww_in (v28 + 1) 200) ((if ((ww_up σ (o0 + 1) (ww_ix (v13 + 1)) ((σ (o0 + 1) (ww_ix (v13 + 1))) - 1)) (o0 + 1) (ww_ix (v28 + 1))) ≤ 0 then (f_X7_rotNow (ww_up σ (o0 + 1) (ww_ix (v13 + 1)) ((σ (o0 + 1) (ww_ix (v13 + 1))) - 1)) o0).bind (fun v49 => (f_X7_worthIn (ww_up σ (o0 + 1) (ww_ix (v13 + 1)) ((σ (o0 + 1) (ww_ix (v13 + 1))) - 1)) o0 p1 ((ww_up σ (o0 + 1) (ww_ix (v13 + 1)) ((σ (o0 + 1) (ww_ix (v13 + 1))) - 1)) (o0 + 1) 45) v49).bind (fun v52 => (f_X7_whoseBy (ww_up σ (o0 + 1) (ww_ix (v13 + 1)) ((σ (o0 + 1) (ww_ix (v13 + 1))) - 1)) o0 p1 ((ww_up σ (o0 + 1) (ww_ix (v13 + 1)) ((σ (o0 + 1) (ww_ix (v13 + 1))) - 1)) (o0 + 1) 12)).bind (fun v71 => ww_ck (ww_in (46 + v71) 200) (ww_ck (ww_in (46 + v71) 200) (some (v52, ww_up (ww_up σ (o0 + 1) (ww_ix (v13 + 1)) ((σ (o0 + 1) (ww_ix (v13 + 1))) - 1)) (o0 + 1) (ww_ix (46 + v71)) (((ww_up σ (o0 + 1) (ww_ix (v13 + 1)) ((σ (o0 + 1) (ww_ix (v13 + 1))) - 1)) (o0 + 1) (ww_ix (46 + v71))) + v52))))))) else some (0, ww_up σ (o0 + 1) (ww_ix (v13 + 1)) ((σ (o0 + 1) (ww_ix (v13 + 1))) - 1)))))))))
def f_X7_hourGoes (σ : ww_M) (o0 : Nat) (p1 : Int32) (p2 : Int32) : Option (Int32 × ww_M) :=
  (f_X7_works σ o0 p1).bind (fun v2 => (f_X7_works v2.2 o0 p2).bind (fun v9 => (f_X7_floatsNow (ww_up v9.2 (o0 + 1) 45 ((v9.2 (o0 + 1) 45) + 1)) o0).bind (fun v26 => some (v2.1 + v9.1, v26))))
def f_X7_goes_j76 (σ : ww_M) (o0 : Nat) (p1 : Int32) (p2 : Int32) : Option (Int32 × ww_M) :=
  (if (σ (o0 + 1) 45) = 999 then some ((-3), σ) else (f_X7_hourGoes σ o0 p1 p2).bind (fun v97 => some (v97.1, v97.2)))
def f_X7_goes_j59 (σ : ww_M) (o0 : Nat) (p1 : Int32) (p2 : Int32) : Option (Int32 × ww_M) :=
  (if p2 = (-4) then f_X7_goes_j76 σ o0 p1 p2 else (f_X7_canBeWorked σ o0 p2).bind (fun v67 => (if v67 = 0 then some ((-2), σ) else f_X7_goes_j76 σ o0 p1 p2)))
def f_X7_goes_j45 (σ : ww_M) (o0 : Nat) (p1 : Int32) (p2 : Int32) : Option (Int32 × ww_M) :=
  (if p1 = (-4) then f_X7_goes_j59 σ o0 p1 p2 else (f_X7_canBeWorked σ o0 p1).bind (fun v53 => (if v53 = 0 then some ((-2), σ) else f_X7_goes_j59 σ o0 p1 p2)))
def f_X7_goes_j14 (σ : ww_M) (o0 : Nat) (p1 : Int32) (p2 : Int32) : Option (Int32 × ww_M) :=
  (if p2 = (-4) then f_X7_goes_j45 σ o0 p1 p2 else (f_X7_isPart σ o0 p2).bind (fun v22 => (if v22 = 0 then some ((-1), σ) else (if p1 = p2 then some ((-1), σ) else (if (σ (o0 + 1) 14) = 0 then some ((-1), σ) else f_X7_goes_j45 σ o0 p1 p2)))))
def f_X7_goes (σ : ww_M) (o0 : Nat) (p1 : Int32) (p2 : Int32) : Option (Int32 × ww_M) :=
  (if p1 = (-4) then f_X7_goes_j14 σ o0 p1 p2 else (f_X7_isPart σ o0 p1).bind (fun v8 => (if v8 = 0 then some ((-1), σ) else f_X7_goes_j14 σ o0 p1 p2)))
def f_X7_go (σ : ww_M) (o0 : Nat) (p1 : Int32) (p2 : Int32) : Option (Int32 × ww_M) :=
  (f_X7_goes σ o0 p1 p2).bind (fun v3 => some (v3.1, v3.2))
def f_X7_wet_b18 (σ : ww_M) (o0 : Nat) (p1 : Int32) (a18 : Int32 × Int32) : Option ((Int32 × Int32) ⊕ (Int32)) :=
  (if (σ o0 3) ≤ a18.2 then some (.inr a18.1) else (f_X7_isWet σ o0 a18.2 p1).bind (fun v30 => (if v30 = 0 then some (.inl (a18.1 ||| 0, a18.2 + 1)) else some (.inl (a18.1 ||| (ww_shl 1 a18.2), a18.2 + 1)))))
def f_X7_wet_j51 (σ : ww_M) (o0 : Nat) (p1 : Int32) (x2 : Int32) : Option (Int32) :=
  some x2
def f_X7_wet_j18 (σ : ww_M) (o0 : Nat) (p1 : Int32) (x2 : Int32) (x3 : Int32) : Option (Int32) :=
  (ww_it (f_X7_wet_b18 σ o0 p1) ww_F (x2, x3)).bind (fun b18 => f_X7_wet_j51 σ o0 p1 b18)
def f_X7_wet (σ : ww_M) (o0 : Nat) (p1 : Int32) : Option (Int32) :=
  (f_X7_in p1.toInt64 0 999).bind (fun v6 => (if v6 = 0 then some (-1) else f_X7_wet_j18 σ o0 p1 0 0))
def f_X7_floats_b34 (σ : ww_M) (o0 : Nat) (p1 : Int32) (a34 : Int32) : Option ((Int32) ⊕ ((Unit) ⊕ (Int32))) :=
  (if ((σ (o0 + 1) 45) + 60) ≤ a34 then some (.inr (.inl ())) else ww_ck (ww_in (2 * p1) 6) (ww_ck (ww_in ((2 * p1) + 1) 6) ((f_X7_floatsIn σ o0 (σ (o0 + 3) (ww_ix (2 * p1))) (σ (o0 + 3) (ww_ix ((2 * p1) + 1))) a34).bind (fun v68 => (if v68 = 0 then some (.inl (a34 + 1)) else some (.inr (.inr a34)))))))
def f_X7_floats_j82 (σ : ww_M) (o0 : Nat) (p1 : Int32) : Option (Int32) :=
  some (-4)
def f_X7_floats_j34 (σ : ww_M) (o0 : Nat) (p1 : Int32) (x2 : Int32) : Option (Int32) :=
  (ww_it (f_X7_floats_b34 σ o0 p1) ww_F x2).bind (fun b34 => match b34 with
    | .inl b34 => f_X7_floats_j82 σ o0 p1
    | .inr g34 => some g34)
def f_X7_floats (σ : ww_M) (o0 : Nat) (p1 : Int32) : Option (Int32) :=
  (f_X7_isBeast σ o0 p1).bind (fun v2 => (if v2 = 0 then some (-1) else ww_ck (ww_in (15 + p1) 200) ((if (σ (o0 + 1) (ww_ix (15 + p1))) = 1 then some (-2) else f_X7_floats_j34 σ o0 p1 (σ (o0 + 1) 45)))))
def f_X7_has (σ : ww_M) (o0 : Nat) (p1 : Int32) : Option (Int32) :=
  (f_X7_in p1.toInt64 0 3).bind (fun v6 => (if v6 = 0 then some (-1) else ww_ck (ww_in (46 + p1) 200) (some (σ (o0 + 1) (ww_ix (46 + p1))))))
def f_X7_digit (p0 : Int32) (p1 : Int32) : Option (Int32) :=
  some ((ww_shr p0 (2 * p1)) &&& 3)
def f_X7_layParts_b7 (o0 : Nat) (p1 : Int32) (p2 : Int32) (a7 : Int32 × ww_M) : Option ((Int32 × ww_M) ⊕ (ww_M)) :=
  (if 30 ≤ a7.1 then some (.inr a7.2) else (f_X7_isPart a7.2 o0 a7.1).bind (fun v15 => (if v15 = 0 then some (.inl (a7.1 + 1, a7.2)) else (if (a7.1 / 10) = p2 then some (.inl (a7.1 + 1, a7.2)) else ww_ck (ww_in (a7.2 o0 25) 9) (some (.inl (a7.1 + 1, ww_up (ww_up a7.2 (o0 + 10) (ww_ix (a7.2 o0 25)) a7.1) o0 25 (((ww_up a7.2 (o0 + 10) (ww_ix (a7.2 o0 25)) a7.1) o0 25) + 1))))))))
def f_X7_layParts_b60 (σ : ww_M) (o0 : Nat) (p1 : Int32) (p2 : Int32) (a60 : Int32 × Int32) : Option ((Int32 × Int32) ⊕ (Int32)) :=
  (if (σ o0 5) ≤ a60.2 then some (.inr a60.1) else ww_ck (ww_in (15 + a60.2) 200) (some (.inl (a60.1 ||| (ww_shl (σ (o0 + 1) (ww_ix (15 + a60.2))) a60.2), a60.2 + 1))))
def f_X7_layParts_b123 (σ : ww_M) (o0 : Nat) (p1 : Int32) (p2 : Int32) (x4 : Int32) (x5 : Int32) (a123 : Int32 × Int32) : Option ((Int32 × Int32) ⊕ (Int32)) :=
  (if (σ o0 5) ≤ a123.2 then some (.inr a123.1) else ww_ck (ww_in (2 * a123.2) 6) (ww_ck (ww_in ((2 * a123.2) + 1) 6) ((f_X7_floatsIn σ o0 (σ (o0 + 3) (ww_ix (2 * a123.2))) (σ (o0 + 3) (ww_ix ((2 * a123.2) + 1))) x5).bind (fun v156 => (if v156 = 0 then some (.inl (a123.1 ||| 0, a123.2 + 1)) else some (.inl (a123.1 ||| (ww_shl 1 a123.2), a123.2 + 1)))))))
def f_X7_layParts_j245 (σ : ww_M) (o0 : Nat) (p1 : Int32) (p2 : Int32) (x3 : Int32) (x4 : Int32) (x5 : Int32) (x6 : Int32) (s0 : Int32) : Option ((Int32 × ww_M) ⊕ (ww_M)) :=
  ww_ck (ww_in x4 7) ((if s0 = 0 then ww_ck (ww_in x4 7) (some (.inl (x6 + 1, ww_up σ (o0 + 12) (ww_ix x4) ((σ (o0 + 12) (ww_ix x4)) ||| 0)))) else ww_ck (ww_in x4 7) (some (.inl (x6 + 1, ww_up σ (o0 + 12) (ww_ix x4) ((σ (o0 + 12) (ww_ix x4)) ||| (ww_shl 1 x6)))))))
def f_X7_layParts_j244 (σ : ww_M) (o0 : Nat) (p1 : Int32) (p2 : Int32) (x3 : Int32) (x4 : Int32) (x5 : Int32) (x6 : Int32) : Option ((Int32 × ww_M) ⊕ (ww_M)) :=
  f_X7_layParts_j245 σ o0 p1 p2 x3 x4 x5 x6 0
def f_X7_layParts_b181 (o0 : Nat) (p1 : Int32) (p2 : Int32) (x3 : Int32) (x4 : Int32) (x5 : Int32) (a181 : Int32 × ww_M) : Option ((Int32 × ww_M) ⊕ (ww_M)) :=
  (if (a181.2 o0 25) ≤ a181.1 then some (.inr a181.2) else ww_ck (ww_in a181.1 9) ((if ((ww_shr x3 ((a181.2 (o0 + 10) (ww_ix a181.1)) / 10)) &&& 1) = 0 then ww_ck (ww_in (2 * ((a181.2 (o0 + 10) (ww_ix a181.1)) / 10)) 6) (ww_ck (ww_in a181.1 9) ((f_X7_isWet a181.2 o0 ((a181.2 (o0 + 3) (ww_ix (2 * ((a181.2 (o0 + 10) (ww_ix a181.1)) / 10)))) + (ww_rem (a181.2 (o0 + 10) (ww_ix a181.1)) 10)) x5).bind (fun v234 => (if v234 = 0 then f_X7_layParts_j245 a181.2 o0 p1 p2 x3 x4 x5 a181.1 1 else f_X7_layParts_j244 a181.2 o0 p1 p2 x3 x4 x5 a181.1)))) else f_X7_layParts_j244 a181.2 o0 p1 p2 x3 x4 x5 a181.1)))
def f_X7_layParts_j276 (σ : ww_M) (o0 : Nat) (p1 : Int32) (p2 : Int32) (x3 : Int32) (x4 : Int32) : Option ((Int32 × Int32 × ww_M) ⊕ (ww_M)) :=
  some (.inl (x3, x4 + 1, σ))
def f_X7_layParts_j181 (σ : ww_M) (o0 : Nat) (p1 : Int32) (p2 : Int32) (x3 : Int32) (x4 : Int32) (x5 : Int32) (x6 : Int32) : Option ((Int32 × Int32 × ww_M) ⊕ (ww_M)) :=
  (ww_it (f_X7_layParts_b181 o0 p1 p2 x3 x4 x5) ww_F (x6, σ)).bind (fun b181 => f_X7_layParts_j276 b181 o0 p1 p2 x3 x4)
def f_X7_layParts_j178 (σ : ww_M) (o0 : Nat) (p1 : Int32) (p2 : Int32) (x3 : Int32) (x4 : Int32) (x5 : Int32) : Option ((Int32 × Int32 × ww_M) ⊕ (ww_M)) :=
  f_X7_layParts_j181 σ o0 p1 p2 x3 x4 x5 0
def f_X7_layParts_j123 (σ : ww_M) (o0 : Nat) (p1 : Int32) (p2 : Int32) (x3 : Int32) (x4 : Int32) (x5 : Int32) (x6 : Int32) : Option ((Int32 × Int32 × ww_M) ⊕ (ww_M)) :=
  (ww_it (f_X7_layParts_b123 σ o0 p1 p2 x4 x5) ww_F (x3, x6)).bind (fun b123 => f_X7_layParts_j178 σ o0 p1 p2 b123 x4 x5)
def f_X7_layParts_b94 (o0 : Nat) (p1 : Int32) (p2 : Int32) (a94 : Int32 × Int32 × ww_M) : Option ((Int32 × Int32 × ww_M) ⊕ (ww_M)) :=
  (if p1 ≤ a94.2.1 then some (.inr a94.2.2) else ww_ck (ww_in a94.2.1 7) (f_X7_layParts_j123 (ww_up a94.2.2 (o0 + 12) (ww_ix a94.2.1) 0) o0 p1 p2 a94.1 a94.2.1 ((a94.2.2 (o0 + 1) 45) + a94.2.1) 0))
def f_X7_layParts_j282 (σ : ww_M) (o0 : Nat) (p1 : Int32) (p2 : Int32) : Option (ww_M) :=
  some σ
def f_X7_layParts_j94 (σ : ww_M) (o0 : Nat) (p1 : Int32) (p2 : Int32) (x3 : Int32) (x4 : Int32) : Option (ww_M) :=
  (ww_it (f_X7_layParts_b94 o0 p1 p2) ww_F (x3, x4, σ)).bind (fun b94 => f_X7_layParts_j282 b94 o0 p1 p2)
def f_X7_layParts_j91 (σ : ww_M) (o0 : Nat) (p1 : Int32) (p2 : Int32) (x3 : Int32) : Option (ww_M) :=
  f_X7_layParts_j94 σ o0 p1 p2 x3 0
def f_X7_layParts_j60 (σ : ww_M) (o0 : Nat) (p1 : Int32) (p2 : Int32) (x3 : Int32) (x4 : Int32) : Option (ww_M) :=
  (ww_it (f_X7_layParts_b60 σ o0 p1 p2) ww_F (x3, x4)).bind (fun b60 => f_X7_layParts_j91 σ o0 p1 p2 b60)
def f_X7_layParts_j55 (σ : ww_M) (o0 : Nat) (p1 : Int32) (p2 : Int32) : Option (ww_M) :=
  f_X7_layParts_j60 σ o0 p1 p2 0 0
def f_X7_layParts_j7 (σ : ww_M) (o0 : Nat) (p1 : Int32) (p2 : Int32) (x3 : Int32) : Option (ww_M) :=
  (ww_it (f_X7_layParts_b7 o0 p1 p2) ww_F (x3, σ)).bind (fun b7 => f_X7_layParts_j55 b7 o0 p1 p2)
def f_X7_layParts (σ : ww_M) (o0 : Nat) (p1 : Int32) (p2 : Int32) : Option (ww_M) :=
  f_X7_layParts_j7 (ww_up σ o0 25 0) o0 p1 p2 0
def f_X7_byWork_j93 (σ : ww_M) (o0 : Nat) (p1 : Int32) (p2 : Int32) (p3 : Int32) (p4 : Int32) (x6 : Int32) (x7 : Int32) (x8 : Int32) (x9 : Int32) (s0 : Int32) (s1 : Int32) : Option ((Int32 × Int32 × Int32 × Int32) ⊕ (Int32 × Int32 × Int32)) :=
  (if x7 = 0 then some (.inl (s1 - s0, x6 + 0, x7, x8 + 1)) else (f_X7_digit p2 x9).bind (fun v106 => (if v106 = 1 then ww_ck (ww_in x9 9) ((f_X7_worthIn σ o0 (σ (o0 + 10) (ww_ix x9)) ((σ (o0 + 1) 45) + p1) (σ o0 28)).bind (fun v134 => some (.inl (s1 - s0, x6 + v134, x7, x8 + 1)))) else some (.inl (s1 - s0, x6 + 0, x7, x8 + 1)))))
def f_X7_byWork_j74 (σ : ww_M) (o0 : Nat) (p1 : Int32) (p2 : Int32) (p3 : Int32) (p4 : Int32) (x5 : Int32) (x6 : Int32) (x8 : Int32) (x9 : Int32) (s0 : Int32) : Option ((Int32 × Int32 × Int32 × Int32) ⊕ (Int32 × Int32 × Int32)) :=
  (if s0 = 0 then f_X7_byWork_j93 σ o0 p1 p2 p3 p4 x6 s0 x8 x9 0 x5 else f_X7_byWork_j93 σ o0 p1 p2 p3 p4 x6 s0 x8 x9 (ww_shl 1 (2 * x9)) x5)
def f_X7_byWork_j73 (σ : ww_M) (o0 : Nat) (p1 : Int32) (p2 : Int32) (p3 : Int32) (p4 : Int32) (x5 : Int32) (x6 : Int32) (x8 : Int32) (x9 : Int32) : Option ((Int32 × Int32 × Int32 × Int32) ⊕ (Int32 × Int32 × Int32)) :=
  f_X7_byWork_j74 σ o0 p1 p2 p3 p4 x5 x6 x8 x9 0
def f_X7_byWork_j29 (σ : ww_M) (o0 : Nat) (p1 : Int32) (p2 : Int32) (p3 : Int32) (p4 : Int32) (x5 : Int32) (x6 : Int32) (x7 : Int32) (x8 : Int32) (s0 : Int32) : Option ((Int32 × Int32 × Int32 × Int32) ⊕ (Int32 × Int32 × Int32)) :=
  (if (σ o0 25) ≤ s0 then some (.inl (x5, x6, x7, x8 + 1)) else (if x7 = 0 then f_X7_byWork_j73 σ o0 p1 p2 p3 p4 x5 x6 x8 s0 else ww_ck (ww_in p1 7) ((if ((ww_shr (σ (o0 + 12) (ww_ix p1)) s0) &&& 1) = 1 then (f_X7_digit p2 s0).bind (fun v63 => (if v63 ≤ 0 then f_X7_byWork_j73 σ o0 p1 p2 p3 p4 x5 x6 x8 s0 else f_X7_byWork_j74 σ o0 p1 p2 p3 p4 x5 x6 x8 s0 1)) else f_X7_byWork_j73 σ o0 p1 p2 p3 p4 x5 x6 x8 s0))))
def f_X7_byWork_b12 (σ : ww_M) (o0 : Nat) (p1 : Int32) (p2 : Int32) (p3 : Int32) (p4 : Int32) (a12 : Int32 × Int32 × Int32 × Int32) : Option ((Int32 × Int32 × Int32 × Int32) ⊕ (Int32 × Int32 × Int32)) :=
  (if 2 ≤ a12.2.2.2 then some (.inr (a12.1, a12.2.1, a12.2.2.1)) else (if a12.2.2.2 = 0 then f_X7_byWork_j29 σ o0 p1 p2 p3 p4 a12.1 a12.2.1 a12.2.2.1 a12.2.2.2 p3 else f_X7_byWork_j29 σ o0 p1 p2 p3 p4 a12.1 a12.2.1 a12.2.2.1 a12.2.2.2 p4))
def f_X7_byWork_j150 (σ : ww_M) (o0 : Nat) (p1 : Int32) (p2 : Int32) (p3 : Int32) (p4 : Int32) (x5 : Int32) (x6 : Int32) (x7 : Int32) : Option (Int32) :=
  (if x7 = 0 then some (-4) else ww_ck (ww_in ((4096 * (p1 + 1)) + x5) 28672) (some (x6 + (σ (o0 + 11) (ww_ix ((4096 * (p1 + 1)) + x5))))))
def f_X7_byWork_j12 (σ : ww_M) (o0 : Nat) (p1 : Int32) (p2 : Int32) (p3 : Int32) (p4 : Int32) (x5 : Int32) (x6 : Int32) (x7 : Int32) (x8 : Int32) : Option (Int32) :=
  (ww_it (f_X7_byWork_b12 σ o0 p1 p2 p3 p4) ww_F (x5, x6, x7, x8)).bind (fun b12 => f_X7_byWork_j150 σ o0 p1 p2 p3 p4 b12.1 b12.2.1 b12.2.2)
def f_X7_byWork (σ : ww_M) (o0 : Nat) (p1 : Int32) (p2 : Int32) (p3 : Int32) (p4 : Int32) : Option (Int32) :=
  f_X7_byWork_j12 σ o0 p1 p2 p3 p4 p2 0 1 0
def f_X7_choice_j57 (σ : ww_M) (o0 : Nat) (p1 : Int32) (x2 : Int32) (x3 : Int32) (s0 : Int32) : Option (Int32) :=
  (if s0 = 0 then some (-1) else some (x2 + (9 * x3)))
def f_X7_choice_j56 (σ : ww_M) (o0 : Nat) (p1 : Int32) (x2 : Int32) (x3 : Int32) : Option (Int32) :=
  f_X7_choice_j57 σ o0 p1 x2 x3 0
def f_X7_choice_j52 (σ : ww_M) (o0 : Nat) (p1 : Int32) (x2 : Int32) (x3 : Int32) : Option (Int32) :=
  f_X7_choice_j57 σ o0 p1 x2 x3 1
def f_X7_choice (σ : ww_M) (o0 : Nat) (p1 : Int32) : Option (Int32) :=
  (if (σ o0 25) < (p1 / 7) then some (-1) else (if (ww_rem p1 7) ≤ (σ o0 25) then (if (ww_rem p1 7) = (σ o0 25) then f_X7_choice_j52 σ o0 p1 (p1 / 7) (ww_rem p1 7) else (if (ww_rem p1 7) ≤ (p1 / 7) then f_X7_choice_j56 σ o0 p1 (p1 / 7) (ww_rem p1 7) else (if (σ (o0 + 1) 14) = 1 then f_X7_choice_j52 σ o0 p1 (p1 / 7) (ww_rem p1 7) else f_X7_choice_j56 σ o0 p1 (p1 / 7) (ww_rem p1 7)))) else some (-1)))
def f_X7_leftNow_b4 (σ : ww_M) (o0 : Nat) (a4 : Int32 × Int32) : Option ((Int32 × Int32) ⊕ (Int32)) :=
  (if (σ o0 25) ≤ a4.2 then some (.inr a4.1) else ww_ck (ww_in a4.2 9) ((f_X7_partAt (σ (o0 + 10) (ww_ix a4.2))).bind (fun v23 => ww_ck (ww_in (v23 + 1) 200) (some (.inl (a4.1 ||| (ww_shl (σ (o0 + 1) (ww_ix (v23 + 1))) (2 * a4.2)), a4.2 + 1))))))
def f_X7_leftNow_j41 (σ : ww_M) (o0 : Nat) (x1 : Int32) : Option (Int32) :=
  some x1
def f_X7_leftNow_j4 (σ : ww_M) (o0 : Nat) (x1 : Int32) (x2 : Int32) : Option (Int32) :=
  (ww_it (f_X7_leftNow_b4 σ o0) ww_F (x1, x2)).bind (fun b4 => f_X7_leftNow_j41 σ o0 b4)
def f_X7_leftNow (σ : ww_M) (o0 : Nat) : Option (Int32) :=
  f_X7_leftNow_j4 σ o0 0 0
def f_X7_layBest_b24 (o0 : Nat) (p1 : Int32) (p2 : Int32) (p3 : Int32) (x4 : Int32) (a24 : Int32 × ww_M) : Option ((Int32 × ww_M) ⊕ (ww_M)) :=
  (if x4 ≤ a24.1 then some (.inr a24.2) else ww_ck (ww_in ((4096 * p1) + a24.1) 28672) (some (.inl (a24.1 + 1, ww_up a24.2 (o0 + 11) (ww_ix ((4096 * p1) + a24.1)) 0))))
def f_X7_layBest_j121 (σ : ww_M) (o0 : Nat) (p1 : Int32) (p2 : Int32) (p3 : Int32) (x4 : Int32) (x5 : Int32) (x6 : Int32) (x7 : Int32) (x8 : Int32) (s0 : Int32) : Option ((Int32 × Int32) ⊕ (Int32)) :=
  (if s0 ≤ x7 then some (.inl (x7, x8 + 1)) else some (.inl (s0, x8 + 1)))
def f_X7_layBest_b77 (σ : ww_M) (o0 : Nat) (p1 : Int32) (p2 : Int32) (p3 : Int32) (x4 : Int32) (x5 : Int32) (x6 : Int32) (a77 : Int32 × Int32) : Option ((Int32 × Int32) ⊕ (Int32)) :=
  (if 49 ≤ a77.2 then some (.inr a77.1) else (f_X7_choice σ o0 a77.2).bind (fun v87 => (if v87 = (-1) then f_X7_layBest_j121 σ o0 p1 p2 p3 x4 x5 x6 a77.1 a77.2 (-4) else (f_X7_byWork σ o0 x5 x6 (ww_rem v87 9) (v87 / 9)).bind (fun v118 => f_X7_layBest_j121 σ o0 p1 p2 p3 x4 x5 x6 a77.1 a77.2 v118))))
def f_X7_layBest_j145 (σ : ww_M) (o0 : Nat) (p1 : Int32) (p2 : Int32) (p3 : Int32) (x4 : Int32) (x5 : Int32) (x6 : Int32) (x7 : Int32) : Option ((Int32 × ww_M) ⊕ (ww_M)) :=
  ww_ck (ww_in ((4096 * x5) + x6) 28672) (some (.inl (x6 + 1, ww_up σ (o0 + 11) (ww_ix ((4096 * x5) + x6)) x7)))
def f_X7_layBest_j77 (σ : ww_M) (o0 : Nat) (p1 : Int32) (p2 : Int32) (p3 : Int32) (x4 : Int32) (x5 : Int32) (x6 : Int32) (x7 : Int32) (x8 : Int32) : Option ((Int32 × ww_M) ⊕ (ww_M)) :=
  (ww_it (f_X7_layBest_b77 σ o0 p1 p2 p3 x4 x5 x6) ww_F (x7, x8)).bind (fun b77 => f_X7_layBest_j145 σ o0 p1 p2 p3 x4 x5 x6 b77)
def f_X7_layBest_b64 (o0 : Nat) (p1 : Int32) (p2 : Int32) (p3 : Int32) (x4 : Int32) (x5 : Int32) (a64 : Int32 × ww_M) : Option ((Int32 × ww_M) ⊕ (ww_M)) :=
  (if x4 ≤ a64.1 then some (.inr a64.2) else f_X7_layBest_j77 a64.2 o0 p1 p2 p3 x4 x5 a64.1 0 0)
def f_X7_layBest_j167 (σ : ww_M) (o0 : Nat) (p1 : Int32) (p2 : Int32) (p3 : Int32) (x4 : Int32) (x5 : Int32) : Option ((Int32 × ww_M) ⊕ (ww_M)) :=
  some (.inl (x5 + (-1), σ))
def f_X7_layBest_j64 (σ : ww_M) (o0 : Nat) (p1 : Int32) (p2 : Int32) (p3 : Int32) (x4 : Int32) (x5 : Int32) (x6 : Int32) : Option ((Int32 × ww_M) ⊕ (ww_M)) :=
  (ww_it (f_X7_layBest_b64 o0 p1 p2 p3 x4 x5) ww_F (x6, σ)).bind (fun b64 => f_X7_layBest_j167 b64 o0 p1 p2 p3 x4 x5)
def f_X7_layBest_b56 (o0 : Nat) (p1 : Int32) (p2 : Int32) (p3 : Int32) (x4 : Int32) (a56 : Int32 × ww_M) : Option ((Int32 × ww_M) ⊕ (ww_M)) :=
  (if a56.1 < 0 then some (.inr a56.2) else f_X7_layBest_j64 a56.2 o0 p1 p2 p3 x4 a56.1 0)
def f_X7_layBest_j173 (σ : ww_M) (o0 : Nat) (p1 : Int32) (p2 : Int32) (p3 : Int32) : Option (Int32 × ww_M) :=
  (f_X7_leftNow σ o0).bind (fun v178 => ww_ck (ww_in v178 28672) (some (σ (o0 + 11) (ww_ix v178), σ)))
def f_X7_layBest_j56 (σ : ww_M) (o0 : Nat) (p1 : Int32) (p2 : Int32) (p3 : Int32) (x4 : Int32) (x5 : Int32) : Option (Int32 × ww_M) :=
  (ww_it (f_X7_layBest_b56 o0 p1 p2 p3 x4) ww_F (x5, σ)).bind (fun b56 => f_X7_layBest_j173 b56 o0 p1 p2 p3)
def f_X7_layBest_j51 (σ : ww_M) (o0 : Nat) (p1 : Int32) (p2 : Int32) (p3 : Int32) (x4 : Int32) : Option (Int32 × ww_M) :=
  f_X7_layBest_j56 σ o0 p1 p2 p3 x4 (p1 - 1)
def f_X7_layBest_j24 (σ : ww_M) (o0 : Nat) (p1 : Int32) (p2 : Int32) (p3 : Int32) (x4 : Int32) (x5 : Int32) : Option (Int32 × ww_M) :=
  (ww_it (f_X7_layBest_b24 o0 p1 p2 p3 x4) ww_F (x5, σ)).bind (fun b24 => f_X7_layBest_j51 b24 o0 p1 p2 p3 x4)
def f_X7_layBest (σ : ww_M) (o0 : Nat) (p1 : Int32) (p2 : Int32) (p3 : Int32) : Option (Int32 × ww_M) :=
  (f_X7_layParts σ o0 p1 p3).bind (fun v3 => f_X7_layBest_j24 (ww_up v3 o0 28 p2) o0 p1 p2 p3 (ww_shl 1 (2 * ((ww_up v3 o0 28 p2) o0 25))) 0)
def f_X7_best_j129 (σ : ww_M) (o0 : Nat) (p1 : Int32) (p2 : Int32) (x4 : Int32) (x6 : Int32) (x7 : Int32) : Option ((Int32 × Int32) ⊕ (Int32)) :=
  (f_X7_choice σ o0 (x7 + 1)).bind (fun v135 => some (.inl (v135, x7 + 1)))
def f_X7_best_b88 (σ : ww_M) (o0 : Nat) (p1 : Int32) (p2 : Int32) (x4 : Int32) (x6 : Int32) (a88 : Int32 × Int32) : Option ((Int32 × Int32) ⊕ (Int32)) :=
  (if a88.1 = (-1) then f_X7_best_j129 σ o0 p1 p2 x4 x6 a88.2 else (f_X7_byWork σ o0 x6 x4 (ww_rem a88.1 9) (a88.1 / 9)).bind (fun v109 => ww_ck (ww_in ((4096 * x6) + x4) 28672) ((if v109 = (σ (o0 + 11) (ww_ix ((4096 * x6) + x4))) then some (.inr a88.1) else f_X7_best_j129 σ o0 p1 p2 x4 x6 a88.2))))
def f_X7_best_j170 (σ : ww_M) (o0 : Nat) (p1 : Int32) (p2 : Int32) (x5 : Int32) (x6 : Int32) (s0 : Int32) (s1 : Int32) : Option ((Int32 × Int32 × Int32) ⊕ (Int32)) :=
  (if (σ o0 25) ≤ (x5 / 9) then some (.inl ((s1 - s0) - 0, x5, x6 + 1)) else some (.inl ((s1 - s0) - (ww_shl 1 (2 * (x5 / 9))), x5, x6 + 1)))
def f_X7_best_j143 (σ : ww_M) (o0 : Nat) (p1 : Int32) (p2 : Int32) (x4 : Int32) (x5 : Int32) (x6 : Int32) : Option ((Int32 × Int32 × Int32) ⊕ (Int32)) :=
  (if (σ o0 25) ≤ (ww_rem x5 9) then f_X7_best_j170 σ o0 p1 p2 x5 x6 0 x4 else f_X7_best_j170 σ o0 p1 p2 x5 x6 (ww_shl 1 (2 * (ww_rem x5 9))) x4)
def f_X7_best_j88 (σ : ww_M) (o0 : Nat) (p1 : Int32) (p2 : Int32) (x4 : Int32) (x5 : Int32) (x6 : Int32) (x7 : Int32) : Option ((Int32 × Int32 × Int32) ⊕ (Int32)) :=
  (ww_it (f_X7_best_b88 σ o0 p1 p2 x4 x6) ww_F (x5, x7)).bind (fun b88 => f_X7_best_j143 σ o0 p1 p2 x4 b88 x6)
def f_X7_best_b66 (σ : ww_M) (o0 : Nat) (p1 : Int32) (p2 : Int32) (a66 : Int32 × Int32 × Int32) : Option ((Int32 × Int32 × Int32) ⊕ (Int32)) :=
  (if ((p2 - 10) / 2) < a66.2.2 then some (.inr a66.2.1) else (f_X7_choice σ o0 0).bind (fun v83 => f_X7_best_j88 σ o0 p1 p2 a66.1 v83 a66.2.2 0))
def f_X7_best_j228 (σ : ww_M) (o0 : Nat) (p1 : Int32) (p2 : Int32) (s0 : Int32) : Option (Int32 × ww_M) :=
  (if (σ o0 25) ≤ s0 then some ((-4), σ) else ww_ck (ww_in s0 9) (some (σ (o0 + 10) (ww_ix s0), σ)))
def f_X7_best_j209 (σ : ww_M) (o0 : Nat) (p1 : Int32) (p2 : Int32) (x5 : Int32) : Option (Int32 × ww_M) :=
  (if (ww_rem p2 2) = 0 then f_X7_best_j228 σ o0 p1 p2 (ww_rem x5 9) else f_X7_best_j228 σ o0 p1 p2 (x5 / 9))
def f_X7_best_j66 (σ : ww_M) (o0 : Nat) (p1 : Int32) (p2 : Int32) (x4 : Int32) (x5 : Int32) (x6 : Int32) : Option (Int32 × ww_M) :=
  (ww_it (f_X7_best_b66 σ o0 p1 p2) ww_F (x4, x5, x6)).bind (fun b66 => f_X7_best_j209 σ o0 p1 p2 b66)
def f_X7_best_j36 (σ : ww_M) (o0 : Nat) (p1 : Int32) (p2 : Int32) : Option (Int32 × ww_M) :=
  (f_X7_rotNow σ o0).bind (fun v39 => (f_X7_layBest σ o0 p1 v39 (-4)).bind (fun v44 => (if p2 = 0 then some (v44.1, v44.2) else (f_X7_leftNow v44.2 o0).bind (fun v55 => f_X7_best_j66 v44.2 o0 p1 p2 v55 0 0))))
def f_X7_best (σ : ww_M) (o0 : Nat) (p1 : Int32) (p2 : Int32) : Option (Int32 × ww_M) :=
  (f_X7_in p1.toInt64 0 6).bind (fun v6 => (if v6 = 0 then some ((-1), σ) else (if p2 = 0 then f_X7_best_j36 σ o0 p1 p2 else (f_X7_in p2.toInt64 10 ((9 + (2 * p1)).toInt64)).bind (fun v28 => (if v28 = 0 then some ((-1), σ) else f_X7_best_j36 σ o0 p1 p2)))))
def f_X7_worth (σ : ww_M) (o0 : Nat) (p1 : Int32) (p2 : Int32) : Option (Int32 × ww_M) :=
  (f_X7_isBeast σ o0 p1).bind (fun v2 => (if v2 = 0 then some ((-1), σ) else (f_X7_in p2.toInt64 0 6).bind (fun v14 => (if v14 = 0 then some ((-1), σ) else (f_X7_rotNow σ o0).bind (fun v25 => (f_X7_layBest σ o0 p2 v25 (-4)).bind (fun v30 => (f_X7_rotNow v30.2 o0).bind (fun v38 => (f_X7_layBest v30.2 o0 p2 v38 p1).bind (fun v42 => some (v30.1 - v42.1, v42.2)))))))))
def f_X7_salted_b26 (o0 : Nat) (p1 : Int32) (x2 : Int32) (a26 : Int32 × ww_M) : Option ((Int32 × ww_M) ⊕ (Int32 × ww_M)) :=
  (f_X7_layBest a26.2 o0 p1 a26.1 (-4)).bind (fun v31 => (if v31.1 = x2 then some (.inr (a26.1, v31.2)) else some (.inl (a26.1 + 1, v31.2))))
def f_X7_salted_j44 (σ : ww_M) (o0 : Nat) (p1 : Int32) (x3 : Int32) : Option (Int32 × ww_M) :=
  some (x3, σ)
def f_X7_salted_j26 (σ : ww_M) (o0 : Nat) (p1 : Int32) (x2 : Int32) (x3 : Int32) : Option (Int32 × ww_M) :=
  (ww_it (f_X7_salted_b26 o0 p1 x2) ww_F (x3, σ)).bind (fun b26 => f_X7_salted_j44 b26.2 o0 p1 b26.1)
def f_X7_salted (σ : ww_M) (o0 : Nat) (p1 : Int32) : Option (Int32 × ww_M) :=
  (f_X7_in p1.toInt64 0 6).bind (fun v6 => (if v6 = 0 then some ((-1), σ) else (f_X7_layBest σ o0 p1 9 (-4)).bind (fun v20 => f_X7_salted_j26 v20.2 o0 p1 v20.1 1)))
def f_X7_shareBy_b5 (σ : ww_M) (o0 : Nat) (p1 : Int32) (p2 : Int32) (a5 : Int32 × Int32) : Option ((Int32 × Int32) ⊕ (Int32)) :=
  (if 30 ≤ a5.2 then some (.inr a5.1) else (f_X7_isPart σ o0 a5.2).bind (fun v15 => (if v15 = 0 then some (.inl (a5.1, a5.2 + 1)) else (f_X7_whoseBy σ o0 a5.2 p2).bind (fun v26 => (if v26 = p1 then (f_X7_partAt a5.2).bind (fun v39 => ww_ck (ww_in v39 200) (some (.inl (a5.1 + (σ (o0 + 1) (ww_ix v39)), a5.2 + 1)))) else some (.inl (a5.1 + 0, a5.2 + 1)))))))
def f_X7_shareBy_j55 (σ : ww_M) (o0 : Nat) (p1 : Int32) (p2 : Int32) (x3 : Int32) : Option (Int32) :=
  some x3
def f_X7_shareBy_j5 (σ : ww_M) (o0 : Nat) (p1 : Int32) (p2 : Int32) (x3 : Int32) (x4 : Int32) : Option (Int32) :=
  (ww_it (f_X7_shareBy_b5 σ o0 p1 p2) ww_F (x3, x4)).bind (fun b5 => f_X7_shareBy_j55 σ o0 p1 p2 b5)
def f_X7_shareBy (σ : ww_M) (o0 : Nat) (p1 : Int32) (p2 : Int32) : Option (Int32) :=
  f_X7_shareBy_j5 σ o0 p1 p2 0 0
def f_X7_share (σ : ww_M) (o0 : Nat) (p1 : Int32) (p2 : Int32) : Option (Int32) :=
  (f_X7_in p1.toInt64 0 3).bind (fun v6 => (if v6 = 0 then some (-1) else (f_X7_in p2.toInt64 0 3).bind (fun v18 => (if v18 = 0 then some (-1) else (f_X7_shareBy σ o0 p1 p2).bind (fun v27 => some v27)))))
def f_X7_tell (σ : ww_M) (o0 : Nat) (p1 : Int32) (p2 : Int32) : Option (Int32 × ww_M) :=
  (f_X7_in p1.toInt64 0 3).bind (fun v6 => (if v6 = 0 then some ((-1), σ) else (f_X7_in p2.toInt64 0 99).bind (fun v18 => (if v18 = 0 then some ((-1), σ) else (if (σ o0 30) = 6 then some ((-3), σ) else ww_ck (ww_in (2 * (σ o0 30)) 12) (ww_ck (ww_in ((2 * ((ww_up σ (o0 + 13) (ww_ix (2 * (σ o0 30))) p1) o0 30)) + 1) 12) (some ((ww_up (ww_up (ww_up σ (o0 + 13) (ww_ix (2 * (σ o0 30))) p1) (o0 + 13) (ww_ix ((2 * ((ww_up σ (o0 + 13) (ww_ix (2 * (σ o0 30))) p1) o0 30)) + 1)) p2) o0 30 (((ww_up (ww_up σ (o0 + 13) (ww_ix (2 * (σ o0 30))) p1) (o0 + 13) (ww_ix ((2 * ((ww_up σ (o0 + 13) (ww_ix (2 * (σ o0 30))) p1) o0 30)) + 1)) p2) o0 30) + 1)) o0 30, ww_up (ww_up (ww_up σ (o0 + 13) (ww_ix (2 * (σ o0 30))) p1) (o0 + 13) (ww_ix ((2 * ((ww_up σ (o0 + 13) (ww_ix (2 * (σ o0 30))) p1) o0 30)) + 1)) p2) o0 30 (((ww_up (ww_up σ (o0 + 13) (ww_ix (2 * (σ o0 30))) p1) (o0 + 13) (ww_ix ((2 * ((ww_up σ (o0 + 13) (ww_ix (2 * (σ o0 30))) p1) o0 30)) + 1)) p2) o0 30) + 1)))))))))
def f_X7_forget (σ : ww_M) (o0 : Nat) (p1 : Int32) : Option (Int32 × ww_M) :=
  (f_X7_in p1.toInt64 0 ((σ o0 30).toInt64)).bind (fun v8 => (if v8 = 0 then some ((-1), σ) else some (σ o0 30, ww_up σ o0 30 p1)))
def f_X7_explains_b4 (σ : ww_M) (o0 : Nat) (p1 : Int32) (a4 : Int32 × Int32) : Option ((Int32 × Int32) ⊕ (Int32)) :=
  (if (σ o0 30) ≤ a4.2 then some (.inr a4.1) else (if a4.1 = 0 then some (.inl (0, a4.2 + 1)) else ww_ck (ww_in (2 * a4.2) 12) ((f_X7_shareBy σ o0 (σ (o0 + 13) (ww_ix (2 * a4.2))) p1).bind (fun v26 => ww_ck (ww_in ((2 * a4.2) + 1) 12) ((if v26 = (σ (o0 + 13) (ww_ix ((2 * a4.2) + 1))) then some (.inl (1, a4.2 + 1)) else some (.inl (0, a4.2 + 1))))))))
def f_X7_explains_j54 (σ : ww_M) (o0 : Nat) (p1 : Int32) (x2 : Int32) : Option (Int32) :=
  ww_ck (ww_isb x2) (some x2)
def f_X7_explains_j4 (σ : ww_M) (o0 : Nat) (p1 : Int32) (x2 : Int32) (x3 : Int32) : Option (Int32) :=
  (ww_it (f_X7_explains_b4 σ o0 p1) ww_F (x2, x3)).bind (fun b4 => f_X7_explains_j54 σ o0 p1 b4)
def f_X7_explains (σ : ww_M) (o0 : Nat) (p1 : Int32) : Option (Int32) :=
  f_X7_explains_j4 σ o0 p1 1 0
def f_X7_laws_b4 (σ : ww_M) (o0 : Nat) (a4 : Int32 × Int32) : Option ((Int32 × Int32) ⊕ (Int32)) :=
  (if 4 ≤ a4.2 then some (.inr a4.1) else (f_X7_explains σ o0 a4.2).bind (fun v12 => (if v12 = 0 then some (.inl (a4.1 ||| 0, a4.2 + 1)) else some (.inl (a4.1 ||| (ww_shl 1 a4.2), a4.2 + 1)))))
def f_X7_laws_j33 (σ : ww_M) (o0 : Nat) (x1 : Int32) : Option (Int32) :=
  some x1
def f_X7_laws_j4 (σ : ww_M) (o0 : Nat) (x1 : Int32) (x2 : Int32) : Option (Int32) :=
  (ww_it (f_X7_laws_b4 σ o0) ww_F (x1, x2)).bind (fun b4 => f_X7_laws_j33 σ o0 b4)
def f_X7_laws (σ : ww_M) (o0 : Nat) : Option (Int32) :=
  f_X7_laws_j4 σ o0 0 0
def f_X7_whose_b24 (o0 : Nat) (p1 : Int32) (x2 : Int32) (a24 : Int32 × Int32 × ww_M) : Option ((Int32 × Int32 × ww_M) ⊕ (Int32 × ww_M)) :=
  (if 4 ≤ a24.2.1 then some (.inr (a24.1, a24.2.2)) else ww_ck (ww_in (2 * p1) 200) ((f_X7_explains (ww_up a24.2.2 (o0 + 1) (ww_ix (2 * p1)) a24.2.1) o0 ((ww_up a24.2.2 (o0 + 1) (ww_ix (2 * p1)) a24.2.1) (o0 + 1) 12)).bind (fun v49 => (if v49 = 0 then some (.inl (a24.1 ||| 0, a24.2.1 + 1, ww_up a24.2.2 (o0 + 1) (ww_ix (2 * p1)) a24.2.1)) else some (.inl (a24.1 ||| (ww_shl 1 a24.2.1), a24.2.1 + 1, ww_up a24.2.2 (o0 + 1) (ww_ix (2 * p1)) a24.2.1))))))
def f_X7_whose_j71 (σ : ww_M) (o0 : Nat) (p1 : Int32) (x2 : Int32) (x3 : Int32) : Option (Int32 × ww_M) :=
  ww_ck (ww_in (2 * p1) 200) (some (x3, ww_up σ (o0 + 1) (ww_ix (2 * p1)) x2))
def f_X7_whose_j24 (σ : ww_M) (o0 : Nat) (p1 : Int32) (x2 : Int32) (x3 : Int32) (x4 : Int32) : Option (Int32 × ww_M) :=
  (ww_it (f_X7_whose_b24 o0 p1 x2) ww_F (x3, x4, σ)).bind (fun b24 => f_X7_whose_j71 b24.2 o0 p1 x2 b24.1)
def f_X7_whose (σ : ww_M) (o0 : Nat) (p1 : Int32) : Option (Int32 × ww_M) :=
  (f_X7_isPlace σ o0 p1).bind (fun v2 => (if v2 = 0 then some ((-1), σ) else ww_ck (ww_in (2 * p1) 200) (f_X7_whose_j24 σ o0 p1 (σ (o0 + 1) (ww_ix (2 * p1))) 0 0)))
def f_X7_strand_b31 (σ : ww_M) (o0 : Nat) (p1 : Int32) (p2 : Int32) (a31 : Int32 × Int32) : Option ((Int32 × Int32) ⊕ (Int32)) :=
  (if (σ o0 5) ≤ a31.2 then some (.inr a31.1) else ww_ck (ww_in (15 + a31.2) 200) ((if (σ (o0 + 1) (ww_ix (15 + a31.2))) = 1 then some (.inl (a31.1 ||| 0, a31.2 + 1)) else ww_ck (ww_in ((2 * a31.2) + 1) 6) (ww_ck (ww_in (2 * a31.2) 6) (some (.inl (a31.1 ||| (ww_shl ((ww_shl 1 (σ (o0 + 3) (ww_ix ((2 * a31.2) + 1)))) - 1) (σ (o0 + 3) (ww_ix (2 * a31.2)))), a31.2 + 1)))))))
def f_X7_strand_j151 (σ : ww_M) (o0 : Nat) (p1 : Int32) (p2 : Int32) (x3 : Int32) (x4 : Int32) (x5 : Int32) (s0 : Int32) : Option ((Int32 × Int32) ⊕ (Int32)) :=
  (if s0 = 0 then some (.inl (x4 ||| 0, x5 + 1)) else some (.inl (x4 ||| (ww_shl 1 x5), x5 + 1)))
def f_X7_strand_j150 (σ : ww_M) (o0 : Nat) (p1 : Int32) (p2 : Int32) (x3 : Int32) (x4 : Int32) (x5 : Int32) : Option ((Int32 × Int32) ⊕ (Int32)) :=
  f_X7_strand_j151 σ o0 p1 p2 x3 x4 x5 0
def f_X7_strand_b98 (σ : ww_M) (o0 : Nat) (p1 : Int32) (p2 : Int32) (x3 : Int32) (a98 : Int32 × Int32) : Option ((Int32 × Int32) ⊕ (Int32)) :=
  (if (σ o0 3) < (a98.2 + p1) then some (.inr a98.1) else (f_X7_floatsIn σ o0 a98.2 p1 p2).bind (fun v114 => (if v114 = 0 then f_X7_strand_j150 σ o0 p1 p2 x3 a98.1 a98.2 else (f_X7_floatsIn σ o0 a98.2 p1 (p2 + 1)).bind (fun v127 => (if v127 = 0 then (if (x3 &&& (ww_shl ((ww_shl 1 p1) - 1) a98.2)) = 0 then f_X7_strand_j151 σ o0 p1 p2 x3 a98.1 a98.2 1 else f_X7_strand_j150 σ o0 p1 p2 x3 a98.1 a98.2) else f_X7_strand_j150 σ o0 p1 p2 x3 a98.1 a98.2)))))
def f_X7_strand_j177 (σ : ww_M) (o0 : Nat) (p1 : Int32) (p2 : Int32) (x4 : Int32) : Option (Int32) :=
  some x4
def f_X7_strand_j98 (σ : ww_M) (o0 : Nat) (p1 : Int32) (p2 : Int32) (x3 : Int32) (x4 : Int32) (x5 : Int32) : Option (Int32) :=
  (ww_it (f_X7_strand_b98 σ o0 p1 p2 x3) ww_F (x4, x5)).bind (fun b98 => f_X7_strand_j177 σ o0 p1 p2 b98)
def f_X7_strand_j92 (σ : ww_M) (o0 : Nat) (p1 : Int32) (p2 : Int32) (x3 : Int32) : Option (Int32) :=
  f_X7_strand_j98 σ o0 p1 p2 x3 0 0
def f_X7_strand_j31 (σ : ww_M) (o0 : Nat) (p1 : Int32) (p2 : Int32) (x3 : Int32) (x4 : Int32) : Option (Int32) :=
  (ww_it (f_X7_strand_b31 σ o0 p1 p2) ww_F (x3, x4)).bind (fun b31 => f_X7_strand_j92 σ o0 p1 p2 b31)
def f_X7_strand (σ : ww_M) (o0 : Nat) (p1 : Int32) (p2 : Int32) : Option (Int32) :=
  (f_X7_in p1.toInt64 1 3).bind (fun v6 => (if v6 = 0 then some (-1) else (f_X7_in p2.toInt64 0 998).bind (fun v18 => (if v18 = 0 then some (-1) else f_X7_strand_j31 σ o0 p1 p2 0 0))))
def f_X7_lowest_b6 (u0 : Int64) (u2 : Int64) (p4 : Int32) (a6 : Int64 × Int64) : Option ((Int64 × Int64) ⊕ (Int64)) :=
  (if (lg_cmp a6.2 0) = 0 then some (.inr a6.1) else ww_ck (ww_lnz a6.2) (some (.inl (a6.2, ww_remL a6.1 a6.2))))
def f_X7_lowest_j31 (u0 : Int64) (u2 : Int64) (p4 : Int32) (y5 : Int64) : Option (Int64) :=
  (if p4 = 0 then ww_ck (ww_lnz y5) (some (u0 / y5)) else ww_ck (ww_lnz y5) (some (u2 / y5)))
def f_X7_lowest_j6 (u0 : Int64) (u2 : Int64) (p4 : Int32) (y5 : Int64) (y7 : Int64) : Option (Int64) :=
  (ww_it (f_X7_lowest_b6 u0 u2 p4) ww_F (y5, y7)).bind (fun b6 => f_X7_lowest_j31 u0 u2 p4 b6)
def f_X7_lowest (u0 : Int64) (u2 : Int64) (p4 : Int32) : Option (Int64) :=
  f_X7_lowest_j6 u0 u2 p4 u0 u2
def f_X7_luck_b30 (σ : ww_M) (o0 : Nat) (p1 : Int32) (p2 : Int32) (a30 : Int64 × Int64 × Int32) : Option ((Int64 × Int64 × Int32) ⊕ (Int64 × Int64)) :=
  ww_ck (ww_in ((2 * p1) + 1) 6) ((if (σ (o0 + 3) (ww_ix ((2 * p1) + 1))) ≤ a30.2.2 then some (.inr (a30.1, a30.2.1)) else ww_ck (ww_in (15 + p1) 200) ((if (σ (o0 + 1) (ww_ix (15 + p1))) = 0 then (f_X7_partAt ((10 * p1) + a30.2.2)).bind (fun v64 => ww_ck (ww_in (v64 + 1) 200) ((if (σ (o0 + 1) (ww_ix (v64 + 1))) ≤ 0 then some (.inl (a30.1, a30.2.1, a30.2.2 + 1)) else ww_ck (ww_in (v64 + 2) 200) (some (.inl (a30.1 * ((8 - (σ (o0 + 1) (ww_ix (v64 + 2)))).toInt64), a30.2.1 * 8, a30.2.2 + 1)))))) else some (.inr (a30.1, a30.2.1))))))
def f_X7_luck_j111 (σ : ww_M) (o0 : Nat) (p1 : Int32) (p2 : Int32) (y3 : Int64) (y5 : Int64) : Option (Int64) :=
  (f_X7_lowest (y5 - y3) y5 p2).bind (fun v118 => some v118)
def f_X7_luck_j30 (σ : ww_M) (o0 : Nat) (p1 : Int32) (p2 : Int32) (y3 : Int64) (y5 : Int64) (x7 : Int32) : Option (Int64) :=
  (ww_it (f_X7_luck_b30 σ o0 p1 p2) ww_F (y3, y5, x7)).bind (fun b30 => f_X7_luck_j111 σ o0 p1 p2 b30.1 b30.2)
def f_X7_luck (σ : ww_M) (o0 : Nat) (p1 : Int32) (p2 : Int32) : Option (Int64) :=
  (f_X7_isBeast σ o0 p1).bind (fun v2 => (if v2 = 0 then some (-1) else (f_X7_in p2.toInt64 0 1).bind (fun v12 => (if v12 = 0 then some (-1) else f_X7_luck_j30 σ o0 p1 p2 1 1 0))))
def f_X7_open_j87 (σ : ww_M) (o0 : Nat) (x1 : Int32) (x2 : Int32) (s0 : Int32) : Option ((Int32 × Int32) ⊕ (Int32)) :=
  (if s0 = 0 then some (.inl (x1, x2 + 1)) else some (.inl (x2, x2 + 1)))
def f_X7_open_j82 (σ : ww_M) (o0 : Nat) (x1 : Int32) (x2 : Int32) : Option ((Int32 × Int32) ⊕ (Int32)) :=
  f_X7_open_j87 σ o0 x1 x2 1
def f_X7_open_b5 (σ : ww_M) (o0 : Nat) (a5 : Int32 × Int32) : Option ((Int32 × Int32) ⊕ (Int32)) :=
  (if 30 ≤ a5.2 then some (.inr a5.1) else (f_X7_isPart σ o0 a5.2).bind (fun v13 => (if v13 = 0 then some (.inl (a5.1, a5.2 + 1)) else (f_X7_canBeWorked σ o0 a5.2).bind (fun v21 => (if v21 = 0 then some (.inl (a5.1, a5.2 + 1)) else (if a5.1 = (-4) then f_X7_open_j82 σ o0 a5.1 a5.2 else (f_X7_partAt a5.2).bind (fun v38 => ww_ck (ww_in (v38 + 2) 200) ((f_X7_partAt a5.1).bind (fun v49 => ww_ck (ww_in (v49 + 1) 200) ((f_X7_partAt a5.1).bind (fun v61 => ww_ck (ww_in (v61 + 2) 200) ((f_X7_partAt a5.2).bind (fun v72 => ww_ck (ww_in (v72 + 1) 200) ((if ((σ (o0 + 1) (ww_ix (v38 + 2))) * (σ (o0 + 1) (ww_ix (v49 + 1)))) ≤ ((σ (o0 + 1) (ww_ix (v61 + 2))) * (σ (o0 + 1) (ww_ix (v72 + 1)))) then f_X7_open_j87 σ o0 a5.1 a5.2 0 else f_X7_open_j82 σ o0 a5.1 a5.2)))))))))))))))
def f_X7_open_j104 (σ : ww_M) (o0 : Nat) (x1 : Int32) : Option (Int32) :=
  some x1
def f_X7_open_j5 (σ : ww_M) (o0 : Nat) (x1 : Int32) (x2 : Int32) : Option (Int32) :=
  (ww_it (f_X7_open_b5 σ o0) ww_F (x1, x2)).bind (fun b5 => f_X7_open_j104 σ o0 b5)
def f_X7_open (σ : ww_M) (o0 : Nat) : Option (Int32) :=
  f_X7_open_j5 σ o0 (-4) 0
def f_X7_copies_b2 (o0 : Nat) (p1 : Int32) (p2 : Int32) (a2 : Int32 × ww_M) : Option ((Int32 × ww_M) ⊕ (ww_M)) :=
  (if 50 ≤ a2.1 then some (.inr a2.2) else ww_ck (ww_in (p1 + a2.1) 200) (ww_ck (ww_in (p2 + a2.1) 200) (some (.inl (a2.1 + 1, ww_up a2.2 (o0 + 1) (ww_ix (p2 + a2.1)) (a2.2 (o0 + 1) (ww_ix (p1 + a2.1))))))))
def f_X7_copies_j30 (σ : ww_M) (o0 : Nat) (p1 : Int32) (p2 : Int32) : Option (ww_M) :=
  some σ
def f_X7_copies_j2 (σ : ww_M) (o0 : Nat) (p1 : Int32) (p2 : Int32) (x3 : Int32) : Option (ww_M) :=
  (ww_it (f_X7_copies_b2 o0 p1 p2) ww_F (x3, σ)).bind (fun b2 => f_X7_copies_j30 b2 o0 p1 p2)
def f_X7_copies (σ : ww_M) (o0 : Nat) (p1 : Int32) (p2 : Int32) : Option (ww_M) :=
  f_X7_copies_j2 σ o0 p1 p2 0
def f_X7_partBy_b4 (σ : ww_M) (o0 : Nat) (p1 : Int32) (a4 : Int32 × Int32) : Option ((Int32 × Int32) ⊕ ((Int32) ⊕ (Int32))) :=
  (if 30 ≤ a4.2 then some (.inr (.inl a4.1)) else (f_X7_isPart σ o0 a4.2).bind (fun v12 => (if v12 = 0 then some (.inl (a4.1, a4.2 + 1)) else (f_X7_canBeWorked σ o0 a4.2).bind (fun v20 => (if v20 = 0 then some (.inl (a4.1, a4.2 + 1)) else (if a4.1 = p1 then some (.inr (.inr a4.2)) else some (.inl (a4.1 + 1, a4.2 + 1))))))))
def f_X7_partBy_j42 (σ : ww_M) (o0 : Nat) (p1 : Int32) (x2 : Int32) : Option (Int32) :=
  (if 0 ≤ p1 then some (-4) else some x2)
def f_X7_partBy_j4 (σ : ww_M) (o0 : Nat) (p1 : Int32) (x2 : Int32) (x3 : Int32) : Option (Int32) :=
  (ww_it (f_X7_partBy_b4 σ o0 p1) ww_F (x2, x3)).bind (fun b4 => match b4 with
    | .inl b4 => f_X7_partBy_j42 σ o0 p1 b4
    | .inr g4 => some g4)
def f_X7_partBy (σ : ww_M) (o0 : Nat) (p1 : Int32) : Option (Int32) :=
  f_X7_partBy_j4 σ o0 p1 0 0
def f_X7_lostMany_b4 (σ : ww_M) (o0 : Nat) (a4 : Int32 × Int32) : Option ((Int32 × Int32) ⊕ (Int32)) :=
  (if (σ o0 5) ≤ a4.2 then some (.inr a4.1) else ww_ck (ww_in (15 + a4.2) 200) (some (.inl (a4.1 + (σ (o0 + 1) (ww_ix (15 + a4.2))), a4.2 + 1))))
def f_X7_lostMany_j30 (σ : ww_M) (o0 : Nat) (x1 : Int32) : Option (Int32) :=
  some x1
def f_X7_lostMany_j4 (σ : ww_M) (o0 : Nat) (x1 : Int32) (x2 : Int32) : Option (Int32) :=
  (ww_it (f_X7_lostMany_b4 σ o0) ww_F (x1, x2)).bind (fun b4 => f_X7_lostMany_j30 σ o0 b4)
def f_X7_lostMany (σ : ww_M) (o0 : Nat) : Option (Int32) :=
  f_X7_lostMany_j4 σ o0 0 0
def f_X7_drift_b41 (o0 : Nat) (p1 : Int32) (p2 : Int32) (p3 : Int32) (a41 : Int32 × Int32 × Int32 × ww_M) : Option ((Int32 × Int32 × Int32 × ww_M) ⊕ (Int32 × ww_M)) :=
  (if p2 ≤ a41.2.2.1 then some (.inr (a41.2.1, a41.2.2.2)) else (f_X7_partBy a41.2.2.2 o0 (-1)).bind (fun v74 => ww_ck (ww_nz (v74 + 1)) ((f_X7_partBy a41.2.2.2 o0 (ww_rem ((ww_shr ((a41.1 * 1103515245) + 12345) 16) &&& 32767) (v74 + 1))).bind (fun v80 => (f_X7_hourGoes a41.2.2.2 o0 v80 (-4)).bind (fun v85 => some (.inl ((a41.1 * 1103515245) + 12345, a41.2.1 + v85.1, a41.2.2.1 + 1, v85.2)))))))
def f_X7_drift_j97 (σ : ww_M) (o0 : Nat) (p1 : Int32) (p2 : Int32) (p3 : Int32) (x5 : Int32) : Option (Int32 × ww_M) :=
  (f_X7_lostMany σ o0).bind (fun v98 => (f_X7_copies σ o0 150 0).bind (fun v108 => (if p3 = 0 then some (x5, v108) else some (v98, v108))))
def f_X7_drift_j41 (σ : ww_M) (o0 : Nat) (p1 : Int32) (p2 : Int32) (p3 : Int32) (x4 : Int32) (x5 : Int32) (x6 : Int32) : Option (Int32 × ww_M) :=
  (ww_it (f_X7_drift_b41 o0 p1 p2 p3) ww_F (x4, x5, x6, σ)).bind (fun b41 => f_X7_drift_j97 b41.2 o0 p1 p2 p3 b41.1)
def f_X7_drift (σ : ww_M) (o0 : Nat) (p1 : Int32) (p2 : Int32) (p3 : Int32) : Option (Int32 × ww_M) :=
  (f_X7_in p2.toInt64 1 60).bind (fun v6 => (if v6 = 0 then some ((-1), σ) else (f_X7_in p3.toInt64 0 1).bind (fun v16 => (if v16 = 0 then some ((-1), σ) else (f_X7_copies σ o0 0 150).bind (fun v29 => f_X7_drift_j41 v29 o0 p1 p2 p3 p1 0 0)))))
def f_X7_keep (σ : ww_M) (o0 : Nat) (p1 : Int32) : Option (Int32 × ww_M) :=
  (f_X7_in p1.toInt64 0 1).bind (fun v4 => (if v4 = 0 then some ((-1), σ) else (f_X7_copies σ o0 0 (50 * (p1 + 1))).bind (fun v20 => ww_ck (ww_in p1 2) ((if (v20 (o0 + 14) (ww_ix p1)) = 0 then ww_ck (ww_in p1 2) (some (0, ww_up v20 (o0 + 14) (ww_ix p1) (vp_nar .boolean 1))) else ww_ck (ww_in p1 2) (some (1, ww_up v20 (o0 + 14) (ww_ix p1) (vp_nar .boolean 1))))))))
def f_X7_back (σ : ww_M) (o0 : Nat) (p1 : Int32) : Option (Int32 × ww_M) :=
  (f_X7_in p1.toInt64 0 1).bind (fun v4 => (if v4 = 0 then some ((-1), σ) else ww_ck (ww_in p1 2) ((if (σ (o0 + 14) (ww_ix p1)) = 0 then some ((-2), σ) else (f_X7_copies σ o0 (50 * (p1 + 1)) 0).bind (fun v32 => some (v32 (o0 + 1) 45, v32))))))
def f_X7_sheet_b56 (o0 : Nat) (p1 : Int32) (p2 : Int32) (p3 : Int32) (a56 : Int32 × ww_M) : Option ((Int32 × ww_M) ⊕ (ww_M)) :=
  (if 40 ≤ a56.1 then some (.inr a56.2) else ww_ck (ww_in ((40 * p1) + a56.1) 160) (some (.inl (a56.1 + 1, ww_up a56.2 (o0 + 17) (ww_ix ((40 * p1) + a56.1)) 0))))
def f_X7_sheet_j82 (σ : ww_M) (o0 : Nat) (p1 : Int32) (p2 : Int32) (p3 : Int32) : Option (Int32 × ww_M) :=
  some (1, σ)
def f_X7_sheet_j56 (σ : ww_M) (o0 : Nat) (p1 : Int32) (p2 : Int32) (p3 : Int32) (x4 : Int32) : Option (Int32 × ww_M) :=
  (ww_it (f_X7_sheet_b56 o0 p1 p2 p3) ww_F (x4, σ)).bind (fun b56 => f_X7_sheet_j82 b56 o0 p1 p2 p3)
def f_X7_sheet (σ : ww_M) (o0 : Nat) (p1 : Int32) (p2 : Int32) (p3 : Int32) : Option (Int32 × ww_M) :=
  (f_X7_in p1.toInt64 0 3).bind (fun v6 => (if v6 = 0 then some ((-1), σ) else (f_X7_in p2.toInt64 0 2).bind (fun v18 => (if v18 = 0 then some ((-1), σ) else (if p3 ≤ 40 then (if 0 ≤ p3 then ww_ck (ww_in p1 4) (ww_ck (ww_in p1 4) (f_X7_sheet_j56 (ww_up (ww_up σ (o0 + 15) (ww_ix p1) p2) (o0 + 16) (ww_ix p1) p3) o0 p1 p2 p3 0)) else some ((-14), σ)) else some ((-1), σ))))))
def f_X7_lay (σ : ww_M) (o0 : Nat) (p1 : Int32) (p2 : Int32) (p3 : Int32) : Option (Int32 × ww_M) :=
  (f_X7_in p1.toInt64 0 3).bind (fun v6 => (if v6 = 0 then some ((-1), σ) else ww_ck (ww_in p1 4) ((if (σ (o0 + 15) (ww_ix p1)) = (-4) then some ((-11), σ) else ww_ck (ww_in p1 4) ((f_X7_in p2.toInt64 0 (((σ (o0 + 16) (ww_ix p1)) - 1).toInt64)).bind (fun v40 => (if v40 = 0 then some ((-12), σ) else ww_ck (ww_in p1 4) ((if (σ (o0 + 15) (ww_ix p1)) = 0 then ww_ck (ww_in ((40 * p1) + p2) 160) (some (1, ww_up σ (o0 + 17) (ww_ix ((40 * p1) + p2)) (ww_shr (ww_shl p3 24) 24))) else ww_ck (ww_in p1 4) ((if (σ (o0 + 15) (ww_ix p1)) = 1 then ww_ck (ww_in ((40 * p1) + p2) 160) (some (1, ww_up σ (o0 + 17) (ww_ix ((40 * p1) + p2)) (ww_shr (ww_shl p3 16) 16))) else ww_ck (ww_in ((40 * p1) + p2) 160) (some (1, ww_up σ (o0 + 17) (ww_ix ((40 * p1) + p2)) p3)))))))))))))
def f_X7_read_j121 (σ : ww_M) (o0 : Nat) (p1 : Int32) (p2 : Int32) (p3 : Int32) (p4 : Int32) (x6 : Int32) (s0 : Int32) : Option ((Int32 × Int32 × ww_M) ⊕ ((Int32 × Int32 × ww_M) ⊕ (Int32 × ww_M))) :=
  (if s0 = 0 then ww_ck (ww_in (((40 * p1) + p3) + x6) 160) ((f_X7_goes σ o0 (σ (o0 + 17) (ww_ix (((40 * p1) + p3) + x6))) (-4)).bind (fun v145 => (if 0 ≤ v145.1 then some (.inl (s0, x6 + 1, v145.2)) else (f_X7_copies v145.2 o0 150 0).bind (fun v156 => some (.inr (.inr ((-20) - x6, v156))))))) else some (.inl (s0, x6, σ)))
def f_X7_read_b53 (o0 : Nat) (p1 : Int32) (p2 : Int32) (p3 : Int32) (p4 : Int32) (a53 : Int32 × Int32 × ww_M) : Option ((Int32 × Int32 × ww_M) ⊕ ((Int32 × Int32 × ww_M) ⊕ (Int32 × ww_M))) :=
  (if p4 ≤ a53.2.1 then some (.inr (.inl (a53.1, a53.2.1, a53.2.2))) else (if a53.1 = 0 then ww_ck (ww_in p1 4) ((if (a53.2.2 (o0 + 15) (ww_ix p1)) = (-4) then f_X7_read_j121 a53.2.2 o0 p1 p2 p3 p4 a53.2.1 1 else ww_ck (ww_in p1 4) ((if (a53.2.2 (o0 + 15) (ww_ix p1)) = p2 then ww_ck (ww_in p1 4) ((f_X7_in (p3.toInt64 + a53.2.1.toInt64) 0 (((a53.2.2 (o0 + 16) (ww_ix p1)) - 1).toInt64)).bind (fun v110 => (if v110 = 0 then f_X7_read_j121 a53.2.2 o0 p1 p2 p3 p4 a53.2.1 2 else f_X7_read_j121 a53.2.2 o0 p1 p2 p3 p4 a53.2.1 0))) else f_X7_read_j121 a53.2.2 o0 p1 p2 p3 p4 a53.2.1 3)))) else some (.inr (.inl (a53.1, a53.2.1, a53.2.2)))))
def f_X7_read_j171 (σ : ww_M) (o0 : Nat) (p1 : Int32) (p2 : Int32) (p3 : Int32) (p4 : Int32) (x5 : Int32) (x6 : Int32) : Option (Int32 × ww_M) :=
  some (x6, ww_up σ o0 35 x5)
def f_X7_read_j53 (σ : ww_M) (o0 : Nat) (p1 : Int32) (p2 : Int32) (p3 : Int32) (p4 : Int32) (x5 : Int32) (x6 : Int32) : Option (Int32 × ww_M) :=
  (ww_it (f_X7_read_b53 o0 p1 p2 p3 p4) ww_F (x5, x6, σ)).bind (fun b53 => match b53 with
    | .inl b53 => f_X7_read_j171 b53.2.2 o0 p1 p2 p3 p4 b53.1 b53.2.1
    | .inr g53 => some g53)
def f_X7_read (σ : ww_M) (o0 : Nat) (p1 : Int32) (p2 : Int32) (p3 : Int32) (p4 : Int32) : Option (Int32 × ww_M) :=
  (f_X7_in p1.toInt64 0 3).bind (fun v6 => (if v6 = 0 then some ((-1), σ) else (f_X7_in p2.toInt64 0 2).bind (fun v18 => (if v18 = 0 then some ((-1), σ) else (f_X7_in p4.toInt64 0 20).bind (fun v31 => (if v31 = 0 then some ((-1), σ) else (f_X7_copies σ o0 0 150).bind (fun v44 => f_X7_read_j53 v44 o0 p1 p2 p3 p4 0 0)))))))
def f_X7_torn (σ : ww_M) (o0 : Nat) : Option (Int32) :=
  some (σ o0 35)
def f_X7_cutMany_b4 (σ : ww_M) (o0 : Nat) (a4 : Int32 × Int32) : Option ((Int32 × Int32) ⊕ (Int32)) :=
  (if 30 ≤ a4.2 then some (.inr a4.1) else (f_X7_isPart σ o0 a4.2).bind (fun v13 => (if v13 = 0 then some (.inl (a4.1 + 0, a4.2 + 1)) else (f_X7_partAt a4.2).bind (fun v24 => ww_ck (ww_in (v24 + 1) 200) ((if (σ (o0 + 1) (ww_ix (v24 + 1))) = 0 then some (.inl (a4.1 + 1, a4.2 + 1)) else some (.inl (a4.1 + 0, a4.2 + 1))))))))
def f_X7_cutMany_j46 (σ : ww_M) (o0 : Nat) (x1 : Int32) : Option (Int32) :=
  some x1
def f_X7_cutMany_j4 (σ : ww_M) (o0 : Nat) (x1 : Int32) (x2 : Int32) : Option (Int32) :=
  (ww_it (f_X7_cutMany_b4 σ o0) ww_F (x1, x2)).bind (fun b4 => f_X7_cutMany_j46 σ o0 b4)
def f_X7_cutMany (σ : ww_M) (o0 : Nat) : Option (Int32) :=
  f_X7_cutMany_j4 σ o0 0 0
def f_X7_count_j59 (σ : ww_M) (o0 : Nat) (p1 : Int32) (s0 : Int32) : Option (Int32) :=
  (if (σ (o0 + 14) 1) = 0 then some (s0 + 0) else some (s0 + 1))
def f_X7_count (σ : ww_M) (o0 : Nat) (p1 : Int32) : Option (Int32) :=
  (if p1 = 0 then some (σ o0 30) else (if p1 = 1 then (if (σ (o0 + 14) 0) = 0 then f_X7_count_j59 σ o0 p1 0 else f_X7_count_j59 σ o0 p1 1) else (if p1 = 2 then some (σ o0 14) else (if p1 = 3 then (if (σ (o0 + 15) 0) = (-4) then some (-4) else some (σ (o0 + 16) 0)) else (if p1 = 4 then (f_X7_cutMany σ o0).bind (fun v104 => some v104) else (if p1 = 5 then (f_X7_lostMany σ o0).bind (fun v109 => some v109) else some (-1)))))))
end
section
/-! ===== layouts and words ===== -/
def ww_LPlanner (o : Nat) : List ww_L := [.inl (0, [some (o + 1), some (o + 2), some (o + 3), some (o + 4), none, none, none, none, none]), .inr (.inl (0, 24576)), .inr (.inl (0, 6)), .inr (.inl (0, 6)), .inr (.inl (0, 36))]
def ww_LSheet (o : Nat) : List ww_L := [.inl (1, [some (o + 1), none, none]), .inr (.inl (0, 40))]
def ww_LShore (o : Nat) : List ww_L := [.inl (2, [some (o + 1), some (o + 2), some (o + 3), some (o + 4), some (o + 5), some (o + 6), some (o + 7), some (o + 8), some (o + 9), none, none, none, none, none, none, none, none]), .inr (.inl (0, 6)), .inr (.inl (0, 6)), .inr (.inl (0, 6)), .inr (.inl (0, 3)), .inr (.inl (0, 3)), .inr (.inl (0, 9)), .inr (.inl (0, 9)), .inr (.inl (0, 9)), .inr (.inl (0, 4))]
def ww_LTales (o : Nat) : List ww_L := [.inl (3, [some (o + 1), some (o + 2), none]), .inr (.inl (0, 6)), .inr (.inl (0, 6))]
def ww_LTape (o : Nat) : List ww_L := [.inl (4, [some (o + 1), none, none, none, none, none]), .inr (.inl (1, 160))]
def ww_LTeller (o : Nat) : List ww_L := [.inl (5, [none, none, none])]
def ww_LModel (o : Nat) : List ww_L := [.inl (7, [some (o + 1), some (o + 2), none, none, some (o + 3), none, some (o + 4), some (o + 5), some (o + 6), none, none, none, none, some (o + 7), none, none, none, none, none, none, none, none, some (o + 8), some (o + 9), some (o + 10), none, some (o + 11), some (o + 12), none, some (o + 13), none, some (o + 14), some (o + 15), some (o + 16), some (o + 17), none]), .inr (.inl (0, 200)), .inr (.inl (0, 6)), .inr (.inl (0, 6)), .inr (.inl (0, 50)), .inr (.inl (0, 6)), .inr (.inl (0, 6)), .inr (.inl (0, 160)), .inr (.inl (0, 7)), .inr (.inl (0, 24)), .inr (.inl (0, 9)), .inr (.inl (0, 28672)), .inr (.inl (0, 7)), .inr (.inl (0, 12)), .inr (.inl (2, 2)), .inr (.inl (0, 4)), .inr (.inl (0, 4)), .inr (.inl (0, 160))]
def ww_LTop : List ww_L := [.inl (6, [some 1, some 3, some 4, some 14, some 24, none, some 45, some 48, some 53, none])] ++ (ww_LTape 1 ++ (ww_LTeller 3 ++ (ww_LShore 4 ++ (ww_LShore 14 ++ ([.inr (.inr (4, 2, 25, 10))] ++ (ww_LShore 25 ++ (ww_LShore 35 ++ (ww_LTales 45 ++ (ww_LPlanner 48 ++ ([.inr (.inr (3, 4, 54, 2))] ++ (ww_LSheet 54 ++ (ww_LSheet 56 ++ (ww_LSheet 58 ++ (ww_LSheet 60))))))))))))))
theorem ww_at_sub {G : List ww_L} {o q : Nat} {L M : List ww_L} (h : ww_at G o L) (n : Nat) (hq : q = o + n) (hs : (L.drop n).take M.length = M) : ww_at G q M := by
  intro i x hx
  have hl := (List.getElem?_eq_some_iff.mp hx).1
  rw [hq, Nat.add_assoc]
  refine h (n + i) x ?_
  rw [← hs, List.getElem?_take, if_pos hl, List.getElem?_drop] at hx
  exact hx
theorem ww_top_now {G : List ww_L} (h : ww_at G 0 ww_LTop) : ww_at G 4 (ww_LShore 4) := ww_at_sub h 4 rfl rfl
theorem ww_top_planner {G : List ww_L} (h : ww_at G 0 ww_LTop) : ww_at G 48 (ww_LPlanner 48) := ww_at_sub h 48 rfl rfl
theorem ww_top_spare {G : List ww_L} (h : ww_at G 0 ww_LTop) : ww_at G 14 (ww_LShore 14) := ww_at_sub h 14 rfl rfl
theorem ww_top_tales {G : List ww_L} (h : ww_at G 0 ww_LTop) : ww_at G 45 (ww_LTales 45) := ww_at_sub h 45 rfl rfl
theorem ww_top_tape {G : List ww_L} (h : ww_at G 0 ww_LTop) : ww_at G 1 (ww_LTape 1) := ww_at_sub h 1 rfl rfl
theorem ww_top_teller {G : List ww_L} (h : ww_at G 0 ww_LTop) : ww_at G 3 (ww_LTeller 3) := ww_at_sub h 3 rfl rfl
theorem ww_top_img {G : List ww_L} {i : Int32} (h : ww_at G 0 ww_LTop) (hi : ww_in i 2 = true) : ww_at G (25 + 10 * ww_ix i) (ww_LShore (25 + 10 * ww_ix i)) := by
  have h2 : ww_ix i < 2 := Nat.not_le.mp fun q => (of_decide_eq_true hi) (Or.inr q)
  generalize ww_ix i = j at h2 ⊢
  rcases (show j = 0 ∨ j = 1 by omega) with rfl | rfl
  · exact ww_at_sub h 25 rfl rfl
  · exact ww_at_sub h 35 rfl rfl
theorem ww_top_sheet {G : List ww_L} {i : Int32} (h : ww_at G 0 ww_LTop) (hi : ww_in i 4 = true) : ww_at G (54 + 2 * ww_ix i) (ww_LSheet (54 + 2 * ww_ix i)) := by
  have h2 : ww_ix i < 4 := Nat.not_le.mp fun q => (of_decide_eq_true hi) (Or.inr q)
  generalize ww_ix i = j at h2 ⊢
  rcases (show j = 0 ∨ j = 1 ∨ j = 2 ∨ j = 3 by omega) with rfl | rfl | rfl | rfl
  · exact ww_at_sub h 54 rfl rfl
  · exact ww_at_sub h 56 rfl rfl
  · exact ww_at_sub h 58 rfl rfl
  · exact ww_at_sub h 60 rfl rfl

theorem inT_X0 : ∀ w ∈ u_ws RX0 TX0 9, w ∈ ww_T := by decide +kernel
theorem inT_X1 : ∀ w ∈ u_ws RX1 TX1 3, w ∈ ww_T := by decide +kernel
theorem inT_X2 : ∀ w ∈ u_ws RX2 TX2 17, w ∈ ww_T := by decide +kernel
theorem inT_X3 : ∀ w ∈ u_ws RX3 TX3 3, w ∈ ww_T := by decide +kernel
theorem inT_X4 : ∀ w ∈ u_ws RX4 TX4 6, w ∈ ww_T := by decide +kernel
theorem inT_X5 : ∀ w ∈ u_ws RX5 TX5 3, w ∈ ww_T := by decide +kernel
theorem inT_X6 : ∀ w ∈ u_ws RX6 TX6 10, w ∈ ww_T := by decide +kernel
theorem inT_X7 : ∀ w ∈ u_ws RX7 TX7 36, w ∈ ww_T := by decide +kernel
theorem ww_Tt1 {w : Cond} (i : Nat) (h : tables_1_1[i]? = some w) (hg : goodWord w = true) : w ∈ ww_T := List.mem_filter.mpr ⟨List.mem_append_right _ (show w ∈ tables_1 from (List.mem_append_left _ (List.mem_of_getElem? h))), hg⟩
theorem ww_Nt1 {w : Cond} (i : Nat) (h : tables_1_1[i]? = some w) (hg : ww_nest w = true) : w ∈ ww_N := List.mem_filter.mpr ⟨List.mem_append_right _ (show w ∈ tables_1 from (List.mem_append_left _ (List.mem_of_getElem? h))), hg⟩
theorem ww_Tt2 {w : Cond} (i : Nat) (h : tables_1_2[i]? = some w) (hg : goodWord w = true) : w ∈ ww_T := List.mem_filter.mpr ⟨List.mem_append_right _ (show w ∈ tables_1 from (List.mem_append_right _ (List.mem_append_left _ (List.mem_of_getElem? h)))), hg⟩
theorem ww_Nt2 {w : Cond} (i : Nat) (h : tables_1_2[i]? = some w) (hg : ww_nest w = true) : w ∈ ww_N := List.mem_filter.mpr ⟨List.mem_append_right _ (show w ∈ tables_1 from (List.mem_append_right _ (List.mem_append_left _ (List.mem_of_getElem? h)))), hg⟩
theorem ww_Tt3 {w : Cond} (i : Nat) (h : tables_1_3[i]? = some w) (hg : goodWord w = true) : w ∈ ww_T := List.mem_filter.mpr ⟨List.mem_append_right _ (show w ∈ tables_1 from (List.mem_append_right _ (List.mem_append_right _ (List.mem_append_left _ (List.mem_of_getElem? h))))), hg⟩
theorem ww_Nt3 {w : Cond} (i : Nat) (h : tables_1_3[i]? = some w) (hg : ww_nest w = true) : w ∈ ww_N := List.mem_filter.mpr ⟨List.mem_append_right _ (show w ∈ tables_1 from (List.mem_append_right _ (List.mem_append_right _ (List.mem_append_left _ (List.mem_of_getElem? h))))), hg⟩
theorem ww_Tt4 {w : Cond} (i : Nat) (h : tables_1_4[i]? = some w) (hg : goodWord w = true) : w ∈ ww_T := List.mem_filter.mpr ⟨List.mem_append_right _ (show w ∈ tables_1 from (List.mem_append_right _ (List.mem_append_right _ (List.mem_append_right _ (List.mem_append_left _ (List.mem_of_getElem? h)))))), hg⟩
theorem ww_Nt4 {w : Cond} (i : Nat) (h : tables_1_4[i]? = some w) (hg : ww_nest w = true) : w ∈ ww_N := List.mem_filter.mpr ⟨List.mem_append_right _ (show w ∈ tables_1 from (List.mem_append_right _ (List.mem_append_right _ (List.mem_append_right _ (List.mem_append_left _ (List.mem_of_getElem? h)))))), hg⟩
theorem ww_Tt5 {w : Cond} (i : Nat) (h : tables_1_5[i]? = some w) (hg : goodWord w = true) : w ∈ ww_T := List.mem_filter.mpr ⟨List.mem_append_right _ (show w ∈ tables_1 from (List.mem_append_right _ (List.mem_append_right _ (List.mem_append_right _ (List.mem_append_right _ (List.mem_append_left _ (List.mem_of_getElem? h))))))), hg⟩
theorem ww_Nt5 {w : Cond} (i : Nat) (h : tables_1_5[i]? = some w) (hg : ww_nest w = true) : w ∈ ww_N := List.mem_filter.mpr ⟨List.mem_append_right _ (show w ∈ tables_1 from (List.mem_append_right _ (List.mem_append_right _ (List.mem_append_right _ (List.mem_append_right _ (List.mem_append_left _ (List.mem_of_getElem? h))))))), hg⟩
theorem ww_Tt6 {w : Cond} (i : Nat) (h : tables_1_6[i]? = some w) (hg : goodWord w = true) : w ∈ ww_T := List.mem_filter.mpr ⟨List.mem_append_right _ (show w ∈ tables_1 from (List.mem_append_right _ (List.mem_append_right _ (List.mem_append_right _ (List.mem_append_right _ (List.mem_append_right _ (List.mem_of_getElem? h))))))), hg⟩
theorem ww_Nt6 {w : Cond} (i : Nat) (h : tables_1_6[i]? = some w) (hg : ww_nest w = true) : w ∈ ww_N := List.mem_filter.mpr ⟨List.mem_append_right _ (show w ∈ tables_1 from (List.mem_append_right _ (List.mem_append_right _ (List.mem_append_right _ (List.mem_append_right _ (List.mem_append_right _ (List.mem_of_getElem? h))))))), hg⟩
theorem mw_0 : Cond.selects RX4 yX4_stepName yX4_stepName ∈ ww_T := ww_Ti 0 (by decide +kernel) rfl
theorem mw_1 : Cond.selects RX4 yX4_stepNumber yX4_stepNumber ∈ ww_T := ww_Ti 1 (by decide +kernel) rfl
theorem mw_2 : Cond.selects RX5 yX5_readLine yX5_readLine ∈ ww_T := ww_Ti 2 (by decide +kernel) rfl
theorem mw_3 : Cond.selects RX5 yX5_failAtToken yX5_failAtToken ∈ ww_T := ww_Ti 3 (by decide +kernel) rfl
theorem mw_4 : Cond.selects RX5 yX5_fail yX5_fail ∈ ww_T := ww_Ti 4 (by decide +kernel) rfl
theorem mw_5 : Cond.selects RX5 yX5_refusedName yX5_refusedName ∈ ww_T := ww_Ti 5 (by decide +kernel) rfl
theorem mw_6 : Cond.selects RX5 yX5_checkBeasts yX5_checkBeasts ∈ ww_T := ww_Ti 6 (by decide +kernel) rfl
theorem mw_7 : Cond.selects RX2 yX2_ownerOfMost yX2_ownerOfMost ∈ ww_T := ww_Ti 7 (by decide +kernel) rfl
theorem mw_8 : Cond.selects RX2 yX2_isUnknown yX2_isUnknown ∈ ww_T := ww_Ti 8 (by decide +kernel) rfl
theorem mw_9 : Cond.selects RX2 yX2_isBarred yX2_isBarred ∈ ww_T := ww_Ti 9 (by decide +kernel) rfl
theorem mw_10 : Cond.selects RX2 yX2_workAt yX2_workAt ∈ ww_T := ww_Ti 10 (by decide +kernel) rfl
theorem mw_11 : Cond.selects RX0 yX0_load yX0_load ∈ ww_T := ww_Ti 11 (by decide +kernel) rfl
theorem mw_12 : Cond.selects RX0 yX0_loadParts yX0_loadParts ∈ ww_T := ww_Ti 12 (by decide +kernel) rfl
theorem mw_13 : Cond.selects RX0 yX0_loadHour yX0_loadHour ∈ ww_T := ww_Ti 13 (by decide +kernel) rfl
theorem mw_14 : Cond.selects RX0 yX0_mostFrom yX0_mostFrom ∈ ww_T := ww_Ti 14 (by decide +kernel) rfl
theorem mw_15 : Cond.selects RX0 yX0_triedFrom yX0_triedFrom ∈ ww_T := ww_Ti 15 (by decide +kernel) rfl
theorem mw_16 : Cond.selects RX0 yX0_usefulIn yX0_usefulIn ∈ ww_T := ww_Ti 16 (by decide +kernel) rfl
theorem mw_17 : Cond.selects RX0 yX0_wonBy yX0_wonBy ∈ ww_T := ww_Ti 17 (by decide +kernel) rfl
theorem mw_18 : Cond.selects RX0 yX0_gainOf yX0_gainOf ∈ ww_T := ww_Ti 18 (by decide +kernel) rfl
theorem mw_19 : Cond.selects RX0 yX0_after yX0_after ∈ ww_T := ww_Ti 19 (by decide +kernel) rfl
theorem mw_20 : Cond.selects RX0 yX0_firstBest yX0_firstBest ∈ ww_T := ww_Ti 20 (by decide +kernel) rfl
theorem mw_21 : Cond.selects RX0 yX0_canChoose yX0_canChoose ∈ ww_T := ww_Ti 21 (by decide +kernel) rfl
theorem mw_22 : Cond.selects RX0 yX0_partAt yX0_partAt ∈ ww_T := ww_Ti 22 (by decide +kernel) rfl
theorem mw_23 : Cond.selects RX7 yX7_step yX7_step ∈ ww_T := ww_Ti 23 (by decide +kernel) rfl
theorem mw_24 : Cond.selects RX7 yX7_byteAt yX7_byteAt ∈ ww_T := ww_Ti 24 (by decide +kernel) rfl
theorem mw_25 : Cond.selects RX7 yX7_fails yX7_fails ∈ ww_T := ww_Ti 25 (by decide +kernel) rfl
theorem mw_26 : Cond.selects RX7 yX7_readLine yX7_readLine ∈ ww_T := ww_Ti 26 (by decide +kernel) rfl
theorem mw_27 : Cond.selects RX7 yX7_nameHere yX7_nameHere ∈ ww_T := ww_Ti 27 (by decide +kernel) rfl
theorem mw_28 : Cond.selects RX7 yX7_number yX7_number ∈ ww_T := ww_Ti 28 (by decide +kernel) rfl
theorem mw_29 : Cond.selects RX7 yX7_readTide yX7_readTide ∈ ww_T := ww_Ti 29 (by decide +kernel) rfl
theorem mw_30 : Cond.selects RX7 yX7_readWhale yX7_readWhale ∈ ww_T := ww_Ti 30 (by decide +kernel) rfl
theorem mw_31 : Cond.selects RX7 yX7_readOnce yX7_readOnce ∈ ww_T := ww_Ti 31 (by decide +kernel) rfl
theorem mw_32 : Cond.selects RX7 yX7_looksWhere yX7_looksWhere ∈ ww_T := ww_Ti 32 (by decide +kernel) rfl
theorem mw_33 : Cond.selects RX7 yX7_floatsNow yX7_floatsNow ∈ ww_T := ww_Ti 33 (by decide +kernel) rfl
theorem mw_34 : Cond.selects RX7 yX7_floatsIn yX7_floatsIn ∈ ww_T := ww_Ti 34 (by decide +kernel) rfl
theorem mw_35 : Cond.selects RX7 yX7_isWet yX7_isWet ∈ ww_T := ww_Ti 35 (by decide +kernel) rfl
theorem mw_36 : Cond.selects RX7 yX7_rotNow yX7_rotNow ∈ ww_T := ww_Ti 36 (by decide +kernel) rfl
theorem mw_37 : Cond.selects RX7 yX7_isPlace yX7_isPlace ∈ ww_T := ww_Ti 37 (by decide +kernel) rfl
theorem mw_38 : Cond.selects RX7 yX7_isBeast yX7_isBeast ∈ ww_T := ww_Ti 38 (by decide +kernel) rfl
theorem mw_39 : Cond.selects RX7 yX7_isPart yX7_isPart ∈ ww_T := ww_Ti 39 (by decide +kernel) rfl
theorem mw_40 : Cond.selects RX7 yX7_worthIn yX7_worthIn ∈ ww_T := ww_Ti 40 (by decide +kernel) rfl
theorem mw_41 : Cond.selects RX7 yX7_canBeWorked yX7_canBeWorked ∈ ww_T := ww_Ti 41 (by decide +kernel) rfl
theorem mw_42 : Cond.selects RX7 yX7_whoseBy yX7_whoseBy ∈ ww_T := ww_Ti 42 (by decide +kernel) rfl
theorem mw_43 : Cond.selects RX7 yX7_sets yX7_sets ∈ ww_T := ww_Ti 43 (by decide +kernel) rfl
theorem mw_44 : Cond.selects RX7 yX7_goes yX7_goes ∈ ww_T := ww_Ti 44 (by decide +kernel) rfl
theorem mw_45 : Cond.selects RX7 yX7_hourGoes yX7_hourGoes ∈ ww_T := ww_Ti 45 (by decide +kernel) rfl
theorem mw_46 : Cond.selects RX7 yX7_works yX7_works ∈ ww_T := ww_Ti 46 (by decide +kernel) rfl
theorem mw_47 : Cond.selects RX7 yX7_layBest yX7_layBest ∈ ww_T := ww_Ti 47 (by decide +kernel) rfl
theorem mw_48 : Cond.selects RX7 yX7_layParts yX7_layParts ∈ ww_T := ww_Ti 48 (by decide +kernel) rfl
theorem mw_49 : Cond.selects RX7 yX7_choice yX7_choice ∈ ww_T := ww_Ti 49 (by decide +kernel) rfl
theorem mw_50 : Cond.selects RX7 yX7_byWork yX7_byWork ∈ ww_T := ww_Ti 50 (by decide +kernel) rfl
theorem mw_51 : Cond.selects RX7 yX7_leftNow yX7_leftNow ∈ ww_T := ww_Ti 51 (by decide +kernel) rfl
theorem mw_52 : Cond.selects RX7 yX7_shareBy yX7_shareBy ∈ ww_T := ww_Ti 52 (by decide +kernel) rfl
theorem mw_53 : Cond.selects RX7 yX7_explains yX7_explains ∈ ww_T := ww_Ti 53 (by decide +kernel) rfl
theorem mw_54 : Cond.selects RX7 yX7_copies yX7_copies ∈ ww_T := ww_Ti 54 (by decide +kernel) rfl
theorem mw_55 : Cond.selects RX7 yX7_partBy yX7_partBy ∈ ww_T := ww_Ti 55 (by decide +kernel) rfl
theorem mw_56 : Cond.selects RX7 yX7_lostMany yX7_lostMany ∈ ww_T := ww_Ti 56 (by decide +kernel) rfl
theorem mw_57 : Cond.selects RX7 yX7_cutMany yX7_cutMany ∈ ww_T := ww_Ti 57 (by decide +kernel) rfl
theorem mw_59 : Cond.initialized RX6 ∈ ww_T := ww_Tt1 1 (by decide +kernel) rfl
theorem mw_60 : Cond.initialized RX4 ∈ ww_T := ww_Tt1 2 (by decide +kernel) rfl
theorem mw_61 : Cond.initialized RX5 ∈ ww_T := ww_Tt1 3 (by decide +kernel) rfl
theorem mw_62 : Cond.initialized RX2 ∈ ww_T := ww_Tt1 4 (by decide +kernel) rfl
theorem mw_63 : Cond.initialized RX3 ∈ ww_T := ww_Tt1 5 (by decide +kernel) rfl
theorem mw_64 : Cond.initialized RX0 ∈ ww_T := ww_Tt1 6 (by decide +kernel) rfl
theorem mw_65 : Cond.initialized RX1 ∈ ww_T := ww_Tt1 7 (by decide +kernel) rfl
theorem mw_66 : Cond.initialized RJ7 ∈ ww_T := ww_Tt1 8 (by decide +kernel) rfl
theorem mw_67 : Cond.initialized RX7 ∈ ww_T := ww_Tt1 9 (by decide +kernel) rfl
theorem mw_72 : Cond.initialized RJ9 ∈ ww_T := ww_Tt1 14 (by decide +kernel) rfl
theorem mw_74 : Cond.initialized RJ6 ∈ ww_T := ww_Tt1 16 (by decide +kernel) rfl
theorem mw_89 : Cond.fieldLink RX4 9 "WeighedWhales$Tape" "bytes" "[B" ∈ ww_T := ww_Tt1 31 (by decide +kernel) rfl
theorem mw_90 : Cond.fieldLink RX4 15 "WeighedWhales$Tape" "size" "I" ∈ ww_T := ww_Tt1 32 (by decide +kernel) rfl
theorem mw_91 : Cond.fieldLink RX6 69 "WeighedWhales$Tape" "size" "I" ∈ ww_T := ww_Tt1 33 (by decide +kernel) rfl
theorem mw_92 : Cond.fieldLink RX5 144 "WeighedWhales$Tape" "size" "I" ∈ ww_T := ww_Tt1 34 (by decide +kernel) rfl
theorem mw_93 : Cond.fieldLink RX5 26 "WeighedWhales$Tape" "next" "I" ∈ ww_T := ww_Tt1 35 (by decide +kernel) rfl
theorem mw_94 : Cond.fieldLink RX4 19 "WeighedWhales$Tape" "next" "I" ∈ ww_T := ww_Tt1 36 (by decide +kernel) rfl
theorem mw_95 : Cond.fieldLink RX5 34 "WeighedWhales$Tape" "kind" "I" ∈ ww_T := ww_Tt1 37 (by decide +kernel) rfl
theorem mw_96 : Cond.fieldLink RX4 25 "WeighedWhales$Tape" "kind" "I" ∈ ww_T := ww_Tt1 38 (by decide +kernel) rfl
theorem mw_97 : Cond.fieldLink RX5 57 "WeighedWhales$Tape" "start" "I" ∈ ww_T := ww_Tt1 39 (by decide +kernel) rfl
theorem mw_98 : Cond.fieldLink RX4 22 "WeighedWhales$Tape" "start" "I" ∈ ww_T := ww_Tt1 40 (by decide +kernel) rfl
theorem mw_99 : Cond.fieldLink RX5 74 "WeighedWhales$Tape" "value" "I" ∈ ww_T := ww_Tt1 41 (by decide +kernel) rfl
theorem mw_100 : Cond.fieldLink RX4 41 "WeighedWhales$Tape" "value" "I" ∈ ww_T := ww_Tt1 42 (by decide +kernel) rfl
theorem mw_121 : Cond.fieldLink RX5 9 "WeighedWhales$Teller" "found" "I" ∈ ww_T := ww_Tt1 63 (by decide +kernel) rfl
theorem mw_122 : Cond.fieldLink RX6 77 "WeighedWhales$Teller" "found" "I" ∈ ww_T := ww_Tt1 64 (by decide +kernel) rfl
theorem mw_123 : Cond.fieldLink RX5 88 "WeighedWhales$Teller" "foundAt" "I" ∈ ww_T := ww_Tt1 65 (by decide +kernel) rfl
theorem mw_124 : Cond.fieldLink RX6 80 "WeighedWhales$Teller" "foundAt" "I" ∈ ww_T := ww_Tt1 66 (by decide +kernel) rfl
theorem mw_125 : Cond.fieldLink RX5 15 "WeighedWhales$Teller" "toldOnce" "I" ∈ ww_T := ww_Tt1 67 (by decide +kernel) rfl
theorem mw_139 : Cond.fieldLink RX2 9 "WeighedWhales$Shore" "ownerOf" "[I" ∈ ww_T := ww_Tt1 81 (by decide +kernel) rfl
theorem mw_140 : Cond.fieldLink RX6 118 "WeighedWhales$Shore" "ownerOf" "[I" ∈ ww_T := ww_Tt1 82 (by decide +kernel) rfl
theorem mw_141 : Cond.fieldLink RX2 15 "WeighedWhales$Shore" "markOf" "[I" ∈ ww_T := ww_Tt1 83 (by decide +kernel) rfl
theorem mw_142 : Cond.fieldLink RX6 122 "WeighedWhales$Shore" "markOf" "[I" ∈ ww_T := ww_Tt1 84 (by decide +kernel) rfl
theorem mw_143 : Cond.fieldLink RX2 18 "WeighedWhales$Shore" "levelOf" "[I" ∈ ww_T := ww_Tt1 85 (by decide +kernel) rfl
theorem mw_144 : Cond.fieldLink RX2 21 "WeighedWhales$Shore" "headOf" "[I" ∈ ww_T := ww_Tt1 86 (by decide +kernel) rfl
theorem mw_145 : Cond.fieldLink RX6 132 "WeighedWhales$Shore" "headOf" "[I" ∈ ww_T := ww_Tt1 87 (by decide +kernel) rfl
theorem mw_146 : Cond.fieldLink RX5 137 "WeighedWhales$Shore" "headOf" "[I" ∈ ww_T := ww_Tt1 88 (by decide +kernel) rfl
theorem mw_147 : Cond.fieldLink RX2 24 "WeighedWhales$Shore" "partsOf" "[I" ∈ ww_T := ww_Tt1 89 (by decide +kernel) rfl
theorem mw_148 : Cond.fieldLink RX6 135 "WeighedWhales$Shore" "partsOf" "[I" ∈ ww_T := ww_Tt1 90 (by decide +kernel) rfl
theorem mw_149 : Cond.fieldLink RX5 141 "WeighedWhales$Shore" "partsOf" "[I" ∈ ww_T := ww_Tt1 91 (by decide +kernel) rfl
theorem mw_150 : Cond.fieldLink RX2 27 "WeighedWhales$Shore" "worthOf" "[I" ∈ ww_T := ww_Tt1 92 (by decide +kernel) rfl
theorem mw_151 : Cond.fieldLink RX6 144 "WeighedWhales$Shore" "worthOf" "[I" ∈ ww_T := ww_Tt1 93 (by decide +kernel) rfl
theorem mw_152 : Cond.fieldLink RX2 30 "WeighedWhales$Shore" "workOf" "[I" ∈ ww_T := ww_Tt1 94 (by decide +kernel) rfl
theorem mw_153 : Cond.fieldLink RX0 86 "WeighedWhales$Shore" "workOf" "[I" ∈ ww_T := ww_Tt1 95 (by decide +kernel) rfl
theorem mw_154 : Cond.fieldLink RX6 147 "WeighedWhales$Shore" "workOf" "[I" ∈ ww_T := ww_Tt1 96 (by decide +kernel) rfl
theorem mw_155 : Cond.fieldLink RX2 33 "WeighedWhales$Shore" "lumpOf" "[I" ∈ ww_T := ww_Tt1 97 (by decide +kernel) rfl
theorem mw_156 : Cond.fieldLink RX6 150 "WeighedWhales$Shore" "lumpOf" "[I" ∈ ww_T := ww_Tt1 98 (by decide +kernel) rfl
theorem mw_157 : Cond.fieldLink RX2 36 "WeighedWhales$Shore" "wonBy" "[I" ∈ ww_T := ww_Tt1 99 (by decide +kernel) rfl
theorem mw_158 : Cond.fieldLink RX6 176 "WeighedWhales$Shore" "wonBy" "[I" ∈ ww_T := ww_Tt1 100 (by decide +kernel) rfl
theorem mw_159 : Cond.fieldLink RX2 39 "WeighedWhales$Shore" "places" "I" ∈ ww_T := ww_Tt1 101 (by decide +kernel) rfl
theorem mw_160 : Cond.fieldLink RX6 94 "WeighedWhales$Shore" "places" "I" ∈ ww_T := ww_Tt1 102 (by decide +kernel) rfl
theorem mw_161 : Cond.fieldLink RX5 107 "WeighedWhales$Shore" "places" "I" ∈ ww_T := ww_Tt1 103 (by decide +kernel) rfl
theorem mw_162 : Cond.fieldLink RX2 43 "WeighedWhales$Shore" "levels" "I" ∈ ww_T := ww_Tt1 104 (by decide +kernel) rfl
theorem mw_163 : Cond.fieldLink RX5 23 "WeighedWhales$Shore" "levels" "I" ∈ ww_T := ww_Tt1 105 (by decide +kernel) rfl
theorem mw_164 : Cond.fieldLink RX6 97 "WeighedWhales$Shore" "levels" "I" ∈ ww_T := ww_Tt1 106 (by decide +kernel) rfl
theorem mw_165 : Cond.fieldLink RX2 46 "WeighedWhales$Shore" "beasts" "I" ∈ ww_T := ww_Tt1 107 (by decide +kernel) rfl
theorem mw_166 : Cond.fieldLink RX6 100 "WeighedWhales$Shore" "beasts" "I" ∈ ww_T := ww_Tt1 108 (by decide +kernel) rfl
theorem mw_167 : Cond.fieldLink RX5 110 "WeighedWhales$Shore" "beasts" "I" ∈ ww_T := ww_Tt1 109 (by decide +kernel) rfl
theorem mw_168 : Cond.fieldLink RX2 49 "WeighedWhales$Shore" "lawNow" "I" ∈ ww_T := ww_Tt1 110 (by decide +kernel) rfl
theorem mw_169 : Cond.fieldLink RX6 103 "WeighedWhales$Shore" "lawNow" "I" ∈ ww_T := ww_Tt1 111 (by decide +kernel) rfl
theorem mw_170 : Cond.fieldLink RX5 125 "WeighedWhales$Shore" "lawNow" "I" ∈ ww_T := ww_Tt1 112 (by decide +kernel) rfl
theorem mw_171 : Cond.fieldLink RX2 52 "WeighedWhales$Shore" "rotNow" "I" ∈ ww_T := ww_Tt1 113 (by decide +kernel) rfl
theorem mw_172 : Cond.fieldLink RX6 106 "WeighedWhales$Shore" "rotNow" "I" ∈ ww_T := ww_Tt1 114 (by decide +kernel) rfl
theorem mw_173 : Cond.fieldLink RX5 128 "WeighedWhales$Shore" "rotNow" "I" ∈ ww_T := ww_Tt1 115 (by decide +kernel) rfl
theorem mw_174 : Cond.fieldLink RX2 55 "WeighedWhales$Shore" "gangsNow" "I" ∈ ww_T := ww_Tt1 116 (by decide +kernel) rfl
theorem mw_175 : Cond.fieldLink RX0 47 "WeighedWhales$Shore" "gangsNow" "I" ∈ ww_T := ww_Tt1 117 (by decide +kernel) rfl
theorem mw_176 : Cond.fieldLink RX6 109 "WeighedWhales$Shore" "gangsNow" "I" ∈ ww_T := ww_Tt1 118 (by decide +kernel) rfl
theorem mw_177 : Cond.fieldLink RX5 131 "WeighedWhales$Shore" "gangsNow" "I" ∈ ww_T := ww_Tt1 119 (by decide +kernel) rfl
theorem mw_178 : Cond.fieldLink RX2 58 "WeighedWhales$Shore" "hour" "I" ∈ ww_T := ww_Tt1 120 (by decide +kernel) rfl
theorem mw_179 : Cond.fieldLink RX0 59 "WeighedWhales$Shore" "hour" "I" ∈ ww_T := ww_Tt1 121 (by decide +kernel) rfl
theorem mw_180 : Cond.fieldLink RX6 112 "WeighedWhales$Shore" "hour" "I" ∈ ww_T := ww_Tt1 122 (by decide +kernel) rfl
theorem mw_181 : Cond.fieldLink RX2 61 "WeighedWhales$Shore" "lostBeasts" "I" ∈ ww_T := ww_Tt1 123 (by decide +kernel) rfl
theorem mw_182 : Cond.fieldLink RX6 222 "WeighedWhales$Shore" "lostBeasts" "I" ∈ ww_T := ww_Tt1 124 (by decide +kernel) rfl
theorem mw_226 : Cond.fieldLink RX3 9 "WeighedWhales$Tales" "owners" "[I" ∈ ww_T := ww_Tt1 168 (by decide +kernel) rfl
theorem mw_227 : Cond.fieldLink RX3 15 "WeighedWhales$Tales" "sums" "[I" ∈ ww_T := ww_Tt1 169 (by decide +kernel) rfl
theorem mw_228 : Cond.fieldLink RX3 18 "WeighedWhales$Tales" "size" "I" ∈ ww_T := ww_Tt1 170 (by decide +kernel) rfl
theorem mw_229 : Cond.fieldLink RX6 90 "WeighedWhales$Tales" "size" "I" ∈ ww_T := ww_Tt1 171 (by decide +kernel) rfl
theorem mw_243 : Cond.fieldLink RX0 11 "WeighedWhales$Planner" "memo" "[I" ∈ ww_T := ww_Tt1 185 (by decide +kernel) rfl
theorem mw_244 : Cond.fieldLink RX0 15 "WeighedWhales$Planner" "slots" "[I" ∈ ww_T := ww_Tt1 186 (by decide +kernel) rfl
theorem mw_245 : Cond.fieldLink RX0 18 "WeighedWhales$Planner" "ableIn" "[I" ∈ ww_T := ww_Tt1 187 (by decide +kernel) rfl
theorem mw_246 : Cond.fieldLink RX0 21 "WeighedWhales$Planner" "gains" "[I" ∈ ww_T := ww_Tt1 188 (by decide +kernel) rfl
theorem mw_247 : Cond.fieldLink RX0 72 "WeighedWhales$Planner" "left" "I" ∈ ww_T := ww_Tt1 189 (by decide +kernel) rfl
theorem mw_248 : Cond.fieldLink RX0 44 "WeighedWhales$Planner" "hours" "I" ∈ ww_T := ww_Tt1 190 (by decide +kernel) rfl
theorem mw_249 : Cond.fieldLink RX0 52 "WeighedWhales$Planner" "gangsAtWork" "I" ∈ ww_T := ww_Tt1 191 (by decide +kernel) rfl
theorem mw_250 : Cond.fieldLink RX0 28 "WeighedWhales$Planner" "startCode" "I" ∈ ww_T := ww_Tt1 192 (by decide +kernel) rfl
theorem mw_251 : Cond.fieldLink RX0 36 "WeighedWhales$Planner" "stamp" "I" ∈ ww_T := ww_Tt1 193 (by decide +kernel) rfl
theorem mw_278 : Cond.fieldLink RX1 9 "WeighedWhales$Sheet" "cells" "[I" ∈ ww_T := ww_Tt1 220 (by decide +kernel) rfl
theorem mw_279 : Cond.fieldLink RX6 243 "WeighedWhales$Sheet" "cells" "[I" ∈ ww_T := ww_Tt1 221 (by decide +kernel) rfl
theorem mw_280 : Cond.fieldLink RX1 19 "WeighedWhales$Sheet" "laneOf" "I" ∈ ww_T := ww_Tt1 222 (by decide +kernel) rfl
theorem mw_281 : Cond.fieldLink RX6 234 "WeighedWhales$Sheet" "laneOf" "I" ∈ ww_T := ww_Tt1 223 (by decide +kernel) rfl
theorem mw_282 : Cond.fieldLink RX1 15 "WeighedWhales$Sheet" "size" "I" ∈ ww_T := ww_Tt1 224 (by decide +kernel) rfl
theorem mw_283 : Cond.fieldLink RX6 249 "WeighedWhales$Sheet" "size" "I" ∈ ww_T := ww_Tt1 225 (by decide +kernel) rfl
theorem mw_292 : Cond.instanceMethod yX2_clear ∈ ww_T := ww_Tt1 234 (by decide +kernel) rfl
theorem mw_293 : Cond.selects RX2 yX2_clear yX2_clear ∈ ww_T := ww_Tt1 235 (by decide +kernel) rfl
theorem mw_294 : Cond.code yX2_clear cX2_clear 1 none ∈ ww_T := ww_Tt1 236 (by decide +kernel) rfl
theorem mw_295 : Cond.methodLink RX2 64 yJ7_fill_53178 ∈ ww_T := ww_Tt1 237 (by decide +kernel) rfl
theorem mw_296 : Cond.static yJ7_fill_53178 ∈ ww_T := ww_Tt1 238 (by decide +kernel) rfl
theorem mw_297 : Cond.code yJ7_fill_53178 cJ7_fill_53178 4 none ∈ ww_T := ww_Tt1 239 (by decide +kernel) rfl
theorem mw_298 : Cond.fieldLink RX6 12 "WeighedWhales" "tape" "LWeighedWhales$Tape;" ∈ ww_T := ww_Tt2 0 (by decide +kernel) rfl
theorem mw_299 : Cond.fieldLink RX6 19 "WeighedWhales" "teller" "LWeighedWhales$Teller;" ∈ ww_T := ww_Tt2 1 (by decide +kernel) rfl
theorem mw_300 : Cond.fieldLink RX6 26 "WeighedWhales" "now" "LWeighedWhales$Shore;" ∈ ww_T := ww_Tt2 2 (by decide +kernel) rfl
theorem mw_301 : Cond.fieldLink RX6 30 "WeighedWhales" "spare" "LWeighedWhales$Shore;" ∈ ww_T := ww_Tt2 3 (by decide +kernel) rfl
theorem mw_302 : Cond.fieldLink RX6 33 "WeighedWhales" "images" "[LWeighedWhales$Shore;" ∈ ww_T := ww_Tt2 4 (by decide +kernel) rfl
theorem mw_303 : Cond.fieldLink RX6 91 "WeighedWhales" "keptImages" "I" ∈ ww_T := ww_Tt2 5 (by decide +kernel) rfl
theorem mw_304 : Cond.fieldLink RX6 40 "WeighedWhales" "tales" "LWeighedWhales$Tales;" ∈ ww_T := ww_Tt2 6 (by decide +kernel) rfl
theorem mw_305 : Cond.fieldLink RX6 47 "WeighedWhales" "planner" "LWeighedWhales$Planner;" ∈ ww_T := ww_Tt2 7 (by decide +kernel) rfl
theorem mw_306 : Cond.fieldLink RX6 53 "WeighedWhales" "sheets" "[LWeighedWhales$Sheet;" ∈ ww_T := ww_Tt2 8 (by decide +kernel) rfl
theorem mw_307 : Cond.fieldLink RX6 246 "WeighedWhales" "tornFault" "I" ∈ ww_T := ww_Tt2 9 (by decide +kernel) rfl
theorem mw_333 : Cond.methodLink RX6 61 yX6_within ∈ ww_T := ww_Tt2 35 (by decide +kernel) rfl
theorem mw_334 : Cond.static yX6_within ∈ ww_T := ww_Tt2 36 (by decide +kernel) rfl
theorem mw_335 : Cond.code yX6_within cX6_within 3 (some .boolean) ∈ ww_T := ww_Tt2 37 (by decide +kernel) rfl
theorem mw_336 : Cond.methodLink RX6 65 yX4_add ∈ ww_T := ww_Tt2 38 (by decide +kernel) rfl
theorem mw_337 : Cond.instanceMethod yX4_add ∈ ww_T := ww_Tt2 39 (by decide +kernel) rfl
theorem mw_338 : Cond.selects RX4 yX4_add yX4_add ∈ ww_T := ww_Tt2 40 (by decide +kernel) rfl
theorem mw_339 : Cond.code yX4_add cX4_add 2 (some .boolean) ∈ ww_T := ww_Tt2 41 (by decide +kernel) rfl
theorem mw_348 : Cond.methodLink RX6 73 yX5_tellAll ∈ ww_T := ww_Tt2 50 (by decide +kernel) rfl
theorem mw_349 : Cond.instanceMethod yX5_tellAll ∈ ww_T := ww_Tt2 51 (by decide +kernel) rfl
theorem mw_350 : Cond.selects RX5 yX5_tellAll yX5_tellAll ∈ ww_T := ww_Tt2 52 (by decide +kernel) rfl
theorem mw_351 : Cond.code yX5_tellAll cX5_tellAll 4 (some .int) ∈ ww_T := ww_Tt2 53 (by decide +kernel) rfl
theorem mw_352 : Cond.methodLink RX5 18 yX2_clear ∈ ww_T := ww_Tt2 54 (by decide +kernel) rfl
theorem mw_353 : Cond.methodLink RX5 31 yX4_step ∈ ww_T := ww_Tt2 55 (by decide +kernel) rfl
theorem mw_354 : Cond.instanceMethod yX4_step ∈ ww_T := ww_Tt2 56 (by decide +kernel) rfl
theorem mw_355 : Cond.selects RX4 yX4_step yX4_step ∈ ww_T := ww_Tt2 57 (by decide +kernel) rfl
theorem mw_356 : Cond.code yX4_step cX4_step 1 none ∈ ww_T := ww_Tt2 58 (by decide +kernel) rfl
theorem mw_357 : Cond.methodLink RX4 28 yX4_isLetter ∈ ww_T := ww_Tt2 59 (by decide +kernel) rfl
theorem mw_358 : Cond.static yX4_isLetter ∈ ww_T := ww_Tt2 60 (by decide +kernel) rfl
theorem mw_359 : Cond.code yX4_isLetter cX4_isLetter 1 (some .boolean) ∈ ww_T := ww_Tt2 61 (by decide +kernel) rfl
theorem mw_360 : Cond.methodLinkNest RX4 54 yX6_within RX6 ∈ ww_N := ww_Nt2 62 (by decide +kernel) rfl
theorem mw_361 : Cond.methodLink RX4 32 yX4_stepName ∈ ww_T := ww_Tt2 63 (by decide +kernel) rfl
theorem mw_363 : Cond.instanceMethod yX4_stepName ∈ ww_T := ww_Tt2 65 (by decide +kernel) rfl
theorem mw_364 : Cond.code yX4_stepName cX4_stepName 1 none ∈ ww_T := ww_Tt2 66 (by decide +kernel) rfl
theorem mw_365 : Cond.methodLink RX4 35 yX4_isFigure ∈ ww_T := ww_Tt2 67 (by decide +kernel) rfl
theorem mw_366 : Cond.static yX4_isFigure ∈ ww_T := ww_Tt2 68 (by decide +kernel) rfl
theorem mw_367 : Cond.code yX4_isFigure cX4_isFigure 1 (some .boolean) ∈ ww_T := ww_Tt2 69 (by decide +kernel) rfl
theorem mw_368 : Cond.methodLink RX4 38 yX4_stepNumber ∈ ww_T := ww_Tt2 70 (by decide +kernel) rfl
theorem mw_370 : Cond.instanceMethod yX4_stepNumber ∈ ww_T := ww_Tt2 72 (by decide +kernel) rfl
theorem mw_371 : Cond.code yX4_stepNumber cX4_stepNumber 1 none ∈ ww_T := ww_Tt2 73 (by decide +kernel) rfl
theorem mw_372 : Cond.methodLink RX5 37 yX5_readLine ∈ ww_T := ww_Tt2 74 (by decide +kernel) rfl
theorem mw_374 : Cond.instanceMethod yX5_readLine ∈ ww_T := ww_Tt2 76 (by decide +kernel) rfl
theorem mw_375 : Cond.code yX5_readLine cX5_readLine 6 (some .boolean) ∈ ww_T := ww_Tt2 77 (by decide +kernel) rfl
theorem mw_376 : Cond.methodLink RX5 45 yX5_lineOf ∈ ww_T := ww_Tt2 78 (by decide +kernel) rfl
theorem mw_377 : Cond.static yX5_lineOf ∈ ww_T := ww_Tt2 79 (by decide +kernel) rfl
theorem mw_378 : Cond.code yX5_lineOf cX5_lineOf 1 (some .int) ∈ ww_T := ww_Tt2 80 (by decide +kernel) rfl
theorem mw_380 : Cond.methodLink RX5 93 yX4_isName ∈ ww_T := ww_Tt2 82 (by decide +kernel) rfl
theorem mw_381 : Cond.instanceMethod yX4_isName ∈ ww_T := ww_Tt2 83 (by decide +kernel) rfl
theorem mw_382 : Cond.selects RX4 yX4_isName yX4_isName ∈ ww_T := ww_Tt2 84 (by decide +kernel) rfl
theorem mw_383 : Cond.code yX4_isName cX4_isName 3 (some .boolean) ∈ ww_T := ww_Tt2 85 (by decide +kernel) rfl
theorem mw_384 : Cond.methodLink RX4 44 yJ0_length_8abf5 ∈ ww_T := ww_Tt2 86 (by decide +kernel) rfl
theorem mw_394 : Cond.methodLink RX4 50 yJ0_charAt_5068e ∈ ww_T := ww_Tt2 96 (by decide +kernel) rfl
theorem mw_437 : Cond.methodLink RX5 49 yX5_failAtToken ∈ ww_T := ww_Tt2 139 (by decide +kernel) rfl
theorem mw_439 : Cond.instanceMethod yX5_failAtToken ∈ ww_T := ww_Tt2 141 (by decide +kernel) rfl
theorem mw_440 : Cond.code yX5_failAtToken cX5_failAtToken 2 (some .boolean) ∈ ww_T := ww_Tt2 142 (by decide +kernel) rfl
theorem mw_441 : Cond.methodLink RX5 60 yX5_fail ∈ ww_T := ww_Tt2 143 (by decide +kernel) rfl
theorem mw_443 : Cond.instanceMethod yX5_fail ∈ ww_T := ww_Tt2 145 (by decide +kernel) rfl
theorem mw_444 : Cond.code yX5_fail cX5_fail 3 (some .boolean) ∈ ww_T := ww_Tt2 146 (by decide +kernel) rfl
theorem mw_445 : Cond.methodLink RX5 53 yX5_refusedName ∈ ww_T := ww_Tt2 147 (by decide +kernel) rfl
theorem mw_447 : Cond.instanceMethod yX5_refusedName ∈ ww_T := ww_Tt2 149 (by decide +kernel) rfl
theorem mw_448 : Cond.code yX5_refusedName cX5_refusedName 4 (some .int) ∈ ww_T := ww_Tt2 150 (by decide +kernel) rfl
theorem mw_449 : Cond.methodLink RX5 64 yX5_mayStop ∈ ww_T := ww_Tt2 151 (by decide +kernel) rfl
theorem mw_450 : Cond.static yX5_mayStop ∈ ww_T := ww_Tt2 152 (by decide +kernel) rfl
theorem mw_451 : Cond.code yX5_mayStop cX5_mayStop 2 (some .boolean) ∈ ww_T := ww_Tt2 153 (by decide +kernel) rfl
theorem mw_452 : Cond.methodLink RX5 67 yX5_mayGoOn ∈ ww_T := ww_Tt2 154 (by decide +kernel) rfl
theorem mw_453 : Cond.static yX5_mayGoOn ∈ ww_T := ww_Tt2 155 (by decide +kernel) rfl
theorem mw_454 : Cond.code yX5_mayGoOn cX5_mayGoOn 2 (some .boolean) ∈ ww_T := ww_Tt2 156 (by decide +kernel) rfl
theorem mw_455 : Cond.methodLink RX5 70 yX5_isTooMany ∈ ww_T := ww_Tt2 157 (by decide +kernel) rfl
theorem mw_456 : Cond.static yX5_isTooMany ∈ ww_T := ww_Tt2 158 (by decide +kernel) rfl
theorem mw_457 : Cond.code yX5_isTooMany cX5_isTooMany 3 (some .boolean) ∈ ww_T := ww_Tt2 159 (by decide +kernel) rfl
theorem mw_458 : Cond.methodLink RX5 77 yX5_lowest ∈ ww_T := ww_Tt2 160 (by decide +kernel) rfl
theorem mw_459 : Cond.static yX5_lowest ∈ ww_T := ww_Tt2 161 (by decide +kernel) rfl
theorem mw_460 : Cond.code yX5_lowest cX5_lowest 3 (some .int) ∈ ww_T := ww_Tt2 162 (by decide +kernel) rfl
theorem mw_461 : Cond.methodLink RX5 81 yX5_highest ∈ ww_T := ww_Tt2 163 (by decide +kernel) rfl
theorem mw_462 : Cond.static yX5_highest ∈ ww_T := ww_Tt2 164 (by decide +kernel) rfl
theorem mw_463 : Cond.code yX5_highest cX5_highest 2 (some .int) ∈ ww_T := ww_Tt2 165 (by decide +kernel) rfl
theorem mw_464 : Cond.methodLink RX5 113 yX5_highestOfWhale ∈ ww_T := ww_Tt2 166 (by decide +kernel) rfl
theorem mw_465 : Cond.static yX5_highestOfWhale ∈ ww_T := ww_Tt2 167 (by decide +kernel) rfl
theorem mw_466 : Cond.code yX5_highestOfWhale cX5_highestOfWhale 1 (some .int) ∈ ww_T := ww_Tt2 168 (by decide +kernel) rfl
theorem mw_467 : Cond.methodLink RX5 84 yX5_put ∈ ww_T := ww_Tt2 169 (by decide +kernel) rfl
theorem mw_468 : Cond.static yX5_put ∈ ww_T := ww_Tt2 170 (by decide +kernel) rfl
theorem mw_469 : Cond.code yX5_put cX5_put 4 none ∈ ww_T := ww_Tt2 171 (by decide +kernel) rfl
theorem mw_470 : Cond.methodLink RX5 117 yX2_putSand ∈ ww_T := ww_Tt2 172 (by decide +kernel) rfl
theorem mw_471 : Cond.instanceMethod yX2_putSand ∈ ww_T := ww_Tt2 173 (by decide +kernel) rfl
theorem mw_472 : Cond.selects RX2 yX2_putSand yX2_putSand ∈ ww_T := ww_Tt2 174 (by decide +kernel) rfl
theorem mw_473 : Cond.code yX2_putSand cX2_putSand 3 none ∈ ww_T := ww_Tt2 175 (by decide +kernel) rfl
theorem mw_474 : Cond.methodLinkNest RX2 86 yX6_within RX6 ∈ ww_N := ww_Nt2 176 (by decide +kernel) rfl
theorem mw_475 : Cond.methodLink RX5 121 yX2_putLevel ∈ ww_T := ww_Tt2 177 (by decide +kernel) rfl
theorem mw_476 : Cond.instanceMethod yX2_putLevel ∈ ww_T := ww_Tt2 178 (by decide +kernel) rfl
theorem mw_477 : Cond.selects RX2 yX2_putLevel yX2_putLevel ∈ ww_T := ww_Tt2 179 (by decide +kernel) rfl
theorem mw_478 : Cond.code yX2_putLevel cX2_putLevel 2 none ∈ ww_T := ww_Tt2 180 (by decide +kernel) rfl
theorem mw_479 : Cond.methodLink RX5 134 yX2_putWhale ∈ ww_T := ww_Tt2 181 (by decide +kernel) rfl
theorem mw_480 : Cond.instanceMethod yX2_putWhale ∈ ww_T := ww_Tt2 182 (by decide +kernel) rfl
theorem mw_481 : Cond.selects RX2 yX2_putWhale yX2_putWhale ∈ ww_T := ww_Tt2 183 (by decide +kernel) rfl
theorem mw_482 : Cond.code yX2_putWhale cX2_putWhale 5 none ∈ ww_T := ww_Tt2 184 (by decide +kernel) rfl
theorem mw_483 : Cond.methodLink RX5 41 yX5_checkBeasts ∈ ww_T := ww_Tt2 185 (by decide +kernel) rfl
theorem mw_485 : Cond.instanceMethod yX5_checkBeasts ∈ ww_T := ww_Tt2 187 (by decide +kernel) rfl
theorem mw_486 : Cond.code yX5_checkBeasts cX5_checkBeasts 6 none ∈ ww_T := ww_Tt2 188 (by decide +kernel) rfl
theorem mw_487 : Cond.methodLink RX5 147 yX2_bodyOf ∈ ww_T := ww_Tt2 189 (by decide +kernel) rfl
theorem mw_488 : Cond.instanceMethod yX2_bodyOf ∈ ww_T := ww_Tt2 190 (by decide +kernel) rfl
theorem mw_489 : Cond.selects RX2 yX2_bodyOf yX2_bodyOf ∈ ww_T := ww_Tt2 191 (by decide +kernel) rfl
theorem mw_490 : Cond.code yX2_bodyOf cX2_bodyOf 2 (some .int) ∈ ww_T := ww_Tt2 192 (by decide +kernel) rfl
theorem mw_491 : Cond.methodLinkNest RX2 94 yX6_bodyAt RX6 ∈ ww_N := ww_Nt2 193 (by decide +kernel) rfl
theorem mw_492 : Cond.static yX6_bodyAt ∈ ww_T := ww_Tt2 194 (by decide +kernel) rfl
theorem mw_493 : Cond.code yX6_bodyAt cX6_bodyAt 2 (some .int) ∈ ww_T := ww_Tt2 195 (by decide +kernel) rfl
theorem mw_494 : Cond.methodLink RX6 83 yX2_copyFrom ∈ ww_T := ww_Tt2 196 (by decide +kernel) rfl
theorem mw_495 : Cond.instanceMethod yX2_copyFrom ∈ ww_T := ww_Tt2 197 (by decide +kernel) rfl
theorem mw_496 : Cond.selects RX2 yX2_copyFrom yX2_copyFrom ∈ ww_T := ww_Tt2 198 (by decide +kernel) rfl
theorem mw_497 : Cond.code yX2_copyFrom cX2_copyFrom 2 none ∈ ww_T := ww_Tt2 199 (by decide +kernel) rfl
theorem mw_498 : Cond.methodLink RX2 70 yX2_copyAll ∈ ww_T := ww_Tt2 200 (by decide +kernel) rfl
theorem mw_499 : Cond.static yX2_copyAll ∈ ww_T := ww_Tt2 201 (by decide +kernel) rfl
theorem mw_500 : Cond.code yX2_copyAll cX2_copyAll 2 none ∈ ww_T := ww_Tt2 202 (by decide +kernel) rfl
theorem mw_502 : Cond.static yJ9_min_7cf53 ∈ ww_T := ww_Tt2 204 (by decide +kernel) rfl
theorem mw_503 : Cond.code yJ9_min_7cf53 cJ9_min_7cf53 2 (some .int) ∈ ww_T := ww_Tt2 205 (by decide +kernel) rfl
theorem mw_507 : Cond.methodLink RX6 87 yX2_loseFloating ∈ ww_T := ww_Tt2 209 (by decide +kernel) rfl
theorem mw_508 : Cond.instanceMethod yX2_loseFloating ∈ ww_T := ww_Tt2 210 (by decide +kernel) rfl
theorem mw_509 : Cond.selects RX2 yX2_loseFloating yX2_loseFloating ∈ ww_T := ww_Tt2 211 (by decide +kernel) rfl
theorem mw_510 : Cond.code yX2_loseFloating cX2_loseFloating 1 none ∈ ww_T := ww_Tt2 212 (by decide +kernel) rfl
theorem mw_511 : Cond.methodLink RX2 113 yX2_floatingBeasts ∈ ww_T := ww_Tt2 213 (by decide +kernel) rfl
theorem mw_512 : Cond.instanceMethod yX2_floatingBeasts ∈ ww_T := ww_Tt2 214 (by decide +kernel) rfl
theorem mw_513 : Cond.selects RX2 yX2_floatingBeasts yX2_floatingBeasts ∈ ww_T := ww_Tt2 215 (by decide +kernel) rfl
theorem mw_514 : Cond.code yX2_floatingBeasts cX2_floatingBeasts 6 (some .int) ∈ ww_T := ww_Tt2 216 (by decide +kernel) rfl
theorem mw_515 : Cond.methodLink RX2 110 yX2_wetPlaces ∈ ww_T := ww_Tt2 217 (by decide +kernel) rfl
theorem mw_516 : Cond.instanceMethod yX2_wetPlaces ∈ ww_T := ww_Tt2 218 (by decide +kernel) rfl
theorem mw_517 : Cond.selects RX2 yX2_wetPlaces yX2_wetPlaces ∈ ww_T := ww_Tt2 219 (by decide +kernel) rfl
theorem mw_518 : Cond.code yX2_wetPlaces cX2_wetPlaces 5 (some .int) ∈ ww_T := ww_Tt2 220 (by decide +kernel) rfl
theorem mw_519 : Cond.methodLink RX2 107 yX2_levelIn ∈ ww_T := ww_Tt2 221 (by decide +kernel) rfl
theorem mw_520 : Cond.instanceMethod yX2_levelIn ∈ ww_T := ww_Tt2 222 (by decide +kernel) rfl
theorem mw_521 : Cond.selects RX2 yX2_levelIn yX2_levelIn ∈ ww_T := ww_Tt2 223 (by decide +kernel) rfl
theorem mw_522 : Cond.code yX2_levelIn cX2_levelIn 2 (some .int) ∈ ww_T := ww_Tt2 224 (by decide +kernel) rfl
theorem mw_523 : Cond.methodLink RX2 104 yJ9_floorMod_7cf53 ∈ ww_T := ww_Tt2 225 (by decide +kernel) rfl
theorem mw_524 : Cond.static yJ9_floorMod_7cf53 ∈ ww_T := ww_Tt2 226 (by decide +kernel) rfl
theorem mw_525 : Cond.code yJ9_floorMod_7cf53 cJ9_floorMod_7cf53 3 (some .int) ∈ ww_T := ww_Tt2 227 (by decide +kernel) rfl
theorem mw_526 : Cond.methodLink RX2 100 yX2_bodyOf ∈ ww_T := ww_Tt2 228 (by decide +kernel) rfl
theorem mw_539 : Cond.methodLink RX6 115 yX2_hasPlace ∈ ww_T := ww_Tt3 1 (by decide +kernel) rfl
theorem mw_540 : Cond.instanceMethod yX2_hasPlace ∈ ww_T := ww_Tt3 2 (by decide +kernel) rfl
theorem mw_541 : Cond.selects RX2 yX2_hasPlace yX2_hasPlace ∈ ww_T := ww_Tt3 3 (by decide +kernel) rfl
theorem mw_542 : Cond.code yX2_hasPlace cX2_hasPlace 2 (some .boolean) ∈ ww_T := ww_Tt3 4 (by decide +kernel) rfl
theorem mw_547 : Cond.methodLink RX6 125 yX2_levelIn ∈ ww_T := ww_Tt3 9 (by decide +kernel) rfl
theorem mw_552 : Cond.methodLink RX6 129 yX2_hasBeast ∈ ww_T := ww_Tt3 14 (by decide +kernel) rfl
theorem mw_553 : Cond.instanceMethod yX2_hasBeast ∈ ww_T := ww_Tt3 15 (by decide +kernel) rfl
theorem mw_554 : Cond.selects RX2 yX2_hasBeast yX2_hasBeast ∈ ww_T := ww_Tt3 16 (by decide +kernel) rfl
theorem mw_555 : Cond.code yX2_hasBeast cX2_hasBeast 2 (some .boolean) ∈ ww_T := ww_Tt3 17 (by decide +kernel) rfl
theorem mw_556 : Cond.methodLink RX6 138 yX2_isLost ∈ ww_T := ww_Tt3 18 (by decide +kernel) rfl
theorem mw_557 : Cond.instanceMethod yX2_isLost ∈ ww_T := ww_Tt3 19 (by decide +kernel) rfl
theorem mw_558 : Cond.selects RX2 yX2_isLost yX2_isLost ∈ ww_T := ww_Tt3 20 (by decide +kernel) rfl
theorem mw_559 : Cond.code yX2_isLost cX2_isLost 2 (some .boolean) ∈ ww_T := ww_Tt3 21 (by decide +kernel) rfl
theorem mw_564 : Cond.methodLink RX6 141 yX2_slotOf ∈ ww_T := ww_Tt3 26 (by decide +kernel) rfl
theorem mw_565 : Cond.instanceMethod yX2_slotOf ∈ ww_T := ww_Tt3 27 (by decide +kernel) rfl
theorem mw_566 : Cond.selects RX2 yX2_slotOf yX2_slotOf ∈ ww_T := ww_Tt3 28 (by decide +kernel) rfl
theorem mw_567 : Cond.code yX2_slotOf cX2_slotOf 4 (some .int) ∈ ww_T := ww_Tt3 29 (by decide +kernel) rfl
theorem mw_568 : Cond.methodLink RX2 90 yX2_hasBeast ∈ ww_T := ww_Tt3 30 (by decide +kernel) rfl
theorem mw_569 : Cond.methodLink RX6 153 yX2_worthIn ∈ ww_T := ww_Tt3 31 (by decide +kernel) rfl
theorem mw_570 : Cond.instanceMethod yX2_worthIn ∈ ww_T := ww_Tt3 32 (by decide +kernel) rfl
theorem mw_571 : Cond.selects RX2 yX2_worthIn yX2_worthIn ∈ ww_T := ww_Tt3 33 (by decide +kernel) rfl
theorem mw_572 : Cond.code yX2_worthIn cX2_worthIn 4 (some .int) ∈ ww_T := ww_Tt3 34 (by decide +kernel) rfl
theorem mw_573 : Cond.methodLink RX2 116 yJ9_max_7cf53 ∈ ww_T := ww_Tt3 35 (by decide +kernel) rfl
theorem mw_574 : Cond.static yJ9_max_7cf53 ∈ ww_T := ww_Tt3 36 (by decide +kernel) rfl
theorem mw_575 : Cond.code yJ9_max_7cf53 cJ9_max_7cf53 2 (some .int) ∈ ww_T := ww_Tt3 37 (by decide +kernel) rfl
theorem mw_576 : Cond.methodLink RX6 157 yX2_canWork ∈ ww_T := ww_Tt3 38 (by decide +kernel) rfl
theorem mw_577 : Cond.instanceMethod yX2_canWork ∈ ww_T := ww_Tt3 39 (by decide +kernel) rfl
theorem mw_578 : Cond.selects RX2 yX2_canWork yX2_canWork ∈ ww_T := ww_Tt3 40 (by decide +kernel) rfl
theorem mw_579 : Cond.code yX2_canWork cX2_canWork 2 (some .boolean) ∈ ww_T := ww_Tt3 41 (by decide +kernel) rfl
theorem mw_580 : Cond.methodLink RX2 119 yX2_hasSlot ∈ ww_T := ww_Tt3 42 (by decide +kernel) rfl
theorem mw_581 : Cond.instanceMethod yX2_hasSlot ∈ ww_T := ww_Tt3 43 (by decide +kernel) rfl
theorem mw_582 : Cond.selects RX2 yX2_hasSlot yX2_hasSlot ∈ ww_T := ww_Tt3 44 (by decide +kernel) rfl
theorem mw_583 : Cond.code yX2_hasSlot cX2_hasSlot 2 (some .boolean) ∈ ww_T := ww_Tt3 45 (by decide +kernel) rfl
theorem mw_584 : Cond.methodLink RX2 97 yX2_isLost ∈ ww_T := ww_Tt3 46 (by decide +kernel) rfl
theorem mw_585 : Cond.methodLink RX2 122 yX2_placeOf ∈ ww_T := ww_Tt3 47 (by decide +kernel) rfl
theorem mw_586 : Cond.instanceMethod yX2_placeOf ∈ ww_T := ww_Tt3 48 (by decide +kernel) rfl
theorem mw_587 : Cond.selects RX2 yX2_placeOf yX2_placeOf ∈ ww_T := ww_Tt3 49 (by decide +kernel) rfl
theorem mw_588 : Cond.code yX2_placeOf cX2_placeOf 2 (some .int) ∈ ww_T := ww_Tt3 50 (by decide +kernel) rfl
theorem mw_589 : Cond.methodLink RX6 160 yX2_ownerBy ∈ ww_T := ww_Tt3 51 (by decide +kernel) rfl
theorem mw_590 : Cond.instanceMethod yX2_ownerBy ∈ ww_T := ww_Tt3 52 (by decide +kernel) rfl
theorem mw_591 : Cond.selects RX2 yX2_ownerBy yX2_ownerBy ∈ ww_T := ww_Tt3 53 (by decide +kernel) rfl
theorem mw_592 : Cond.code yX2_ownerBy cX2_ownerBy 6 (some .int) ∈ ww_T := ww_Tt3 54 (by decide +kernel) rfl
theorem mw_593 : Cond.methodLink RX2 128 yX2_ownerOfMost ∈ ww_T := ww_Tt3 55 (by decide +kernel) rfl
theorem mw_595 : Cond.instanceMethod yX2_ownerOfMost ∈ ww_T := ww_Tt3 57 (by decide +kernel) rfl
theorem mw_596 : Cond.code yX2_ownerOfMost cX2_ownerOfMost 8 (some .int) ∈ ww_T := ww_Tt3 58 (by decide +kernel) rfl
theorem mw_625 : Cond.methodLink RX6 164 yX2_refusal ∈ ww_T := ww_Tt3 87 (by decide +kernel) rfl
theorem mw_626 : Cond.instanceMethod yX2_refusal ∈ ww_T := ww_Tt3 88 (by decide +kernel) rfl
theorem mw_627 : Cond.selects RX2 yX2_refusal yX2_refusal ∈ ww_T := ww_Tt3 89 (by decide +kernel) rfl
theorem mw_628 : Cond.code yX2_refusal cX2_refusal 3 (some .int) ∈ ww_T := ww_Tt3 90 (by decide +kernel) rfl
theorem mw_629 : Cond.methodLink RX2 134 yX2_isUnknown ∈ ww_T := ww_Tt3 91 (by decide +kernel) rfl
theorem mw_631 : Cond.instanceMethod yX2_isUnknown ∈ ww_T := ww_Tt3 93 (by decide +kernel) rfl
theorem mw_632 : Cond.code yX2_isUnknown cX2_isUnknown 2 (some .boolean) ∈ ww_T := ww_Tt3 94 (by decide +kernel) rfl
theorem mw_633 : Cond.methodLink RX2 140 yX2_slotOf ∈ ww_T := ww_Tt3 95 (by decide +kernel) rfl
theorem mw_634 : Cond.methodLink RX2 137 yX2_isBarred ∈ ww_T := ww_Tt3 96 (by decide +kernel) rfl
theorem mw_636 : Cond.instanceMethod yX2_isBarred ∈ ww_T := ww_Tt3 98 (by decide +kernel) rfl
theorem mw_637 : Cond.code yX2_isBarred cX2_isBarred 2 (some .boolean) ∈ ww_T := ww_Tt3 99 (by decide +kernel) rfl
theorem mw_638 : Cond.methodLink RX2 125 yX2_canWork ∈ ww_T := ww_Tt3 100 (by decide +kernel) rfl
theorem mw_639 : Cond.methodLink RX6 167 yX2_hourGoes ∈ ww_T := ww_Tt3 101 (by decide +kernel) rfl
theorem mw_640 : Cond.instanceMethod yX2_hourGoes ∈ ww_T := ww_Tt3 102 (by decide +kernel) rfl
theorem mw_641 : Cond.selects RX2 yX2_hourGoes yX2_hourGoes ∈ ww_T := ww_Tt3 103 (by decide +kernel) rfl
theorem mw_642 : Cond.code yX2_hourGoes cX2_hourGoes 4 (some .int) ∈ ww_T := ww_Tt3 104 (by decide +kernel) rfl
theorem mw_643 : Cond.methodLink RX2 143 yX2_workAt ∈ ww_T := ww_Tt3 105 (by decide +kernel) rfl
theorem mw_645 : Cond.instanceMethod yX2_workAt ∈ ww_T := ww_Tt3 107 (by decide +kernel) rfl
theorem mw_646 : Cond.code yX2_workAt cX2_workAt 3 (some .int) ∈ ww_T := ww_Tt3 108 (by decide +kernel) rfl
theorem mw_647 : Cond.methodLink RX2 149 yX2_worthIn ∈ ww_T := ww_Tt3 109 (by decide +kernel) rfl
theorem mw_648 : Cond.methodLink RX2 131 yX2_ownerBy ∈ ww_T := ww_Tt3 110 (by decide +kernel) rfl
theorem mw_649 : Cond.methodLink RX2 146 yX2_loseFloating ∈ ww_T := ww_Tt3 111 (by decide +kernel) rfl
theorem mw_654 : Cond.methodLink RX6 170 yX2_wetPlaces ∈ ww_T := ww_Tt3 116 (by decide +kernel) rfl
theorem mw_659 : Cond.methodLink RX6 173 yX2_floatingBeasts ∈ ww_T := ww_Tt3 121 (by decide +kernel) rfl
theorem mw_668 : Cond.methodLink RX6 179 yX0_mostBy ∈ ww_T := ww_Tt3 130 (by decide +kernel) rfl
theorem mw_669 : Cond.instanceMethod yX0_mostBy ∈ ww_T := ww_Tt3 131 (by decide +kernel) rfl
theorem mw_670 : Cond.selects RX0 yX0_mostBy yX0_mostBy ∈ ww_T := ww_Tt3 132 (by decide +kernel) rfl
theorem mw_671 : Cond.code yX0_mostBy cX0_mostBy 5 (some .int) ∈ ww_T := ww_Tt3 133 (by decide +kernel) rfl
theorem mw_672 : Cond.methodLink RX0 24 yX0_load ∈ ww_T := ww_Tt3 134 (by decide +kernel) rfl
theorem mw_674 : Cond.instanceMethod yX0_load ∈ ww_T := ww_Tt3 136 (by decide +kernel) rfl
theorem mw_675 : Cond.code yX0_load cX0_load 9 none ∈ ww_T := ww_Tt3 137 (by decide +kernel) rfl
theorem mw_676 : Cond.methodLink RX0 39 yJ9_min_7cf53 ∈ ww_T := ww_Tt3 138 (by decide +kernel) rfl
theorem mw_677 : Cond.methodLink RX0 55 yX0_loadParts ∈ ww_T := ww_Tt3 139 (by decide +kernel) rfl
theorem mw_679 : Cond.instanceMethod yX0_loadParts ∈ ww_T := ww_Tt3 141 (by decide +kernel) rfl
theorem mw_680 : Cond.code yX0_loadParts cX0_loadParts 6 none ∈ ww_T := ww_Tt3 142 (by decide +kernel) rfl
theorem mw_681 : Cond.methodLink RX0 79 yX2_hasSlot ∈ ww_T := ww_Tt3 143 (by decide +kernel) rfl
theorem mw_682 : Cond.methodLink RX0 83 yX2_isLost ∈ ww_T := ww_Tt3 144 (by decide +kernel) rfl
theorem mw_683 : Cond.methodLink RX0 62 yX2_floatingBeasts ∈ ww_T := ww_Tt3 145 (by decide +kernel) rfl
theorem mw_684 : Cond.methodLink RX0 66 yX2_wetPlaces ∈ ww_T := ww_Tt3 146 (by decide +kernel) rfl
theorem mw_685 : Cond.methodLink RX0 69 yX0_loadHour ∈ ww_T := ww_Tt3 147 (by decide +kernel) rfl
theorem mw_687 : Cond.instanceMethod yX0_loadHour ∈ ww_T := ww_Tt3 149 (by decide +kernel) rfl
theorem mw_688 : Cond.code yX0_loadHour cX0_loadHour 8 none ∈ ww_T := ww_Tt3 150 (by decide +kernel) rfl
theorem mw_689 : Cond.methodLink RX0 89 yX2_placeOf ∈ ww_T := ww_Tt3 151 (by decide +kernel) rfl
theorem mw_690 : Cond.methodLink RX0 75 yX2_worthIn ∈ ww_T := ww_Tt3 152 (by decide +kernel) rfl
theorem mw_691 : Cond.methodLink RX0 32 yX0_mostFrom ∈ ww_T := ww_Tt3 153 (by decide +kernel) rfl
theorem mw_693 : Cond.instanceMethod yX0_mostFrom ∈ ww_T := ww_Tt3 155 (by decide +kernel) rfl
theorem mw_694 : Cond.code yX0_mostFrom cX0_mostFrom 4 (some .int) ∈ ww_T := ww_Tt3 156 (by decide +kernel) rfl
theorem mw_695 : Cond.methodLink RX0 118 yX0_triedFrom ∈ ww_T := ww_Tt3 157 (by decide +kernel) rfl
theorem mw_697 : Cond.instanceMethod yX0_triedFrom ∈ ww_T := ww_Tt3 159 (by decide +kernel) rfl
theorem mw_698 : Cond.code yX0_triedFrom cX0_triedFrom 8 (some .int) ∈ ww_T := ww_Tt3 160 (by decide +kernel) rfl
theorem mw_699 : Cond.methodLink RX0 121 yX0_usefulIn ∈ ww_T := ww_Tt3 161 (by decide +kernel) rfl
theorem mw_701 : Cond.instanceMethod yX0_usefulIn ∈ ww_T := ww_Tt3 163 (by decide +kernel) rfl
theorem mw_702 : Cond.code yX0_usefulIn cX0_usefulIn 7 (some .int) ∈ ww_T := ww_Tt3 164 (by decide +kernel) rfl
theorem mw_703 : Cond.methodLink RX0 112 yX0_workIn ∈ ww_T := ww_Tt3 165 (by decide +kernel) rfl
theorem mw_704 : Cond.static yX0_workIn ∈ ww_T := ww_Tt3 166 (by decide +kernel) rfl
theorem mw_705 : Cond.code yX0_workIn cX0_workIn 2 (some .int) ∈ ww_T := ww_Tt3 167 (by decide +kernel) rfl
theorem mw_706 : Cond.methodLink RX0 124 yJ6_bitCount_0f7a4 ∈ ww_T := ww_Tt3 168 (by decide +kernel) rfl
theorem mw_707 : Cond.static yJ6_bitCount_0f7a4 ∈ ww_T := ww_Tt3 169 (by decide +kernel) rfl
theorem mw_708 : Cond.code yJ6_bitCount_0f7a4 cJ6_bitCount_0f7a4 1 (some .int) ∈ ww_T := ww_Tt3 170 (by decide +kernel) rfl
theorem mw_709 : Cond.constant RJ6 265 1431655765 ∈ ww_T := ww_Tt3 171 (by decide +kernel) rfl
theorem mw_710 : Cond.constant RJ6 266 858993459 ∈ ww_T := ww_Tt3 172 (by decide +kernel) rfl
theorem mw_711 : Cond.constant RJ6 267 252645135 ∈ ww_T := ww_Tt3 173 (by decide +kernel) rfl
theorem mw_712 : Cond.methodLink RX0 108 yX0_wonBy ∈ ww_T := ww_Tt3 174 (by decide +kernel) rfl
theorem mw_714 : Cond.instanceMethod yX0_wonBy ∈ ww_T := ww_Tt3 176 (by decide +kernel) rfl
theorem mw_715 : Cond.code yX0_wonBy cX0_wonBy 5 (some .int) ∈ ww_T := ww_Tt3 177 (by decide +kernel) rfl
theorem mw_716 : Cond.methodLink RX0 115 yX0_gainOf ∈ ww_T := ww_Tt3 178 (by decide +kernel) rfl
theorem mw_718 : Cond.instanceMethod yX0_gainOf ∈ ww_T := ww_Tt3 180 (by decide +kernel) rfl
theorem mw_719 : Cond.code yX0_gainOf cX0_gainOf 4 (some .int) ∈ ww_T := ww_Tt3 181 (by decide +kernel) rfl
theorem mw_720 : Cond.methodLink RX0 98 yX0_after ∈ ww_T := ww_Tt3 182 (by decide +kernel) rfl
theorem mw_722 : Cond.instanceMethod yX0_after ∈ ww_T := ww_Tt3 184 (by decide +kernel) rfl
theorem mw_723 : Cond.code yX0_after cX0_after 3 (some .int) ∈ ww_T := ww_Tt3 185 (by decide +kernel) rfl
theorem mw_724 : Cond.methodLink RX0 129 yJ9_max_7cf53 ∈ ww_T := ww_Tt3 186 (by decide +kernel) rfl
theorem mw_725 : Cond.methodLink RX6 183 yX0_bestAt ∈ ww_T := ww_Tt3 187 (by decide +kernel) rfl
theorem mw_726 : Cond.instanceMethod yX0_bestAt ∈ ww_T := ww_Tt3 188 (by decide +kernel) rfl
theorem mw_727 : Cond.selects RX0 yX0_bestAt yX0_bestAt ∈ ww_T := ww_Tt3 189 (by decide +kernel) rfl
theorem mw_728 : Cond.code yX0_bestAt cX0_bestAt 7 (some .int) ∈ ww_T := ww_Tt3 190 (by decide +kernel) rfl
theorem mw_729 : Cond.methodLink RX0 92 yX0_firstBest ∈ ww_T := ww_Tt3 191 (by decide +kernel) rfl
theorem mw_731 : Cond.instanceMethod yX0_firstBest ∈ ww_T := ww_Tt3 193 (by decide +kernel) rfl
theorem mw_732 : Cond.code yX0_firstBest cX0_firstBest 6 (some .int) ∈ ww_T := ww_Tt3 194 (by decide +kernel) rfl
theorem mw_733 : Cond.methodLink RX0 104 yX0_canChoose ∈ ww_T := ww_Tt3 195 (by decide +kernel) rfl
theorem mw_735 : Cond.instanceMethod yX0_canChoose ∈ ww_T := ww_Tt3 197 (by decide +kernel) rfl
theorem mw_736 : Cond.code yX0_canChoose cX0_canChoose 4 (some .boolean) ∈ ww_T := ww_Tt3 198 (by decide +kernel) rfl
theorem mw_737 : Cond.methodLink RX0 95 yX0_partAt ∈ ww_T := ww_Tt3 199 (by decide +kernel) rfl
theorem mw_739 : Cond.instanceMethod yX0_partAt ∈ ww_T := ww_Tt3 201 (by decide +kernel) rfl
theorem mw_740 : Cond.code yX0_partAt cX0_partAt 2 (some .int) ∈ ww_T := ww_Tt3 202 (by decide +kernel) rfl
theorem mw_741 : Cond.methodLinkNest RX0 101 yX6_numberOf RX6 ∈ ww_N := ww_Nt3 203 (by decide +kernel) rfl
theorem mw_742 : Cond.static yX6_numberOf ∈ ww_T := ww_Tt3 204 (by decide +kernel) rfl
theorem mw_743 : Cond.code yX6_numberOf cX6_numberOf 1 (some .int) ∈ ww_T := ww_Tt3 205 (by decide +kernel) rfl
theorem mw_756 : Cond.methodLink RX6 186 yX2_shareBy ∈ ww_T := ww_Tt3 218 (by decide +kernel) rfl
theorem mw_757 : Cond.instanceMethod yX2_shareBy ∈ ww_T := ww_Tt3 219 (by decide +kernel) rfl
theorem mw_758 : Cond.selects RX2 yX2_shareBy yX2_shareBy ∈ ww_T := ww_Tt3 220 (by decide +kernel) rfl
theorem mw_759 : Cond.code yX2_shareBy cX2_shareBy 5 (some .int) ∈ ww_T := ww_Tt3 221 (by decide +kernel) rfl
theorem mw_764 : Cond.methodLink RX6 189 yX3_add ∈ ww_T := ww_Tt3 226 (by decide +kernel) rfl
theorem mw_765 : Cond.instanceMethod yX3_add ∈ ww_T := ww_Tt3 227 (by decide +kernel) rfl
theorem mw_766 : Cond.selects RX3 yX3_add yX3_add ∈ ww_T := ww_Tt3 228 (by decide +kernel) rfl
theorem mw_767 : Cond.code yX3_add cX3_add 3 (some .boolean) ∈ ww_T := ww_Tt3 229 (by decide +kernel) rfl
theorem mw_776 : Cond.methodLink RX6 192 yX3_areExplained ∈ ww_T := ww_Tt3 238 (by decide +kernel) rfl
theorem mw_777 : Cond.instanceMethod yX3_areExplained ∈ ww_T := ww_Tt3 239 (by decide +kernel) rfl
theorem mw_778 : Cond.selects RX3 yX3_areExplained yX3_areExplained ∈ ww_T := ww_Tt4 0 (by decide +kernel) rfl
theorem mw_779 : Cond.code yX3_areExplained cX3_areExplained 4 (some .boolean) ∈ ww_T := ww_Tt4 1 (by decide +kernel) rfl
theorem mw_780 : Cond.methodLink RX3 22 yX2_shareBy ∈ ww_T := ww_Tt4 2 (by decide +kernel) rfl
theorem mw_789 : Cond.methodLink RX6 196 yX2_takenPlaces ∈ ww_T := ww_Tt4 11 (by decide +kernel) rfl
theorem mw_790 : Cond.instanceMethod yX2_takenPlaces ∈ ww_T := ww_Tt4 12 (by decide +kernel) rfl
theorem mw_791 : Cond.selects RX2 yX2_takenPlaces yX2_takenPlaces ∈ ww_T := ww_Tt4 13 (by decide +kernel) rfl
theorem mw_792 : Cond.code yX2_takenPlaces cX2_takenPlaces 3 (some .int) ∈ ww_T := ww_Tt4 14 (by decide +kernel) rfl
theorem mw_793 : Cond.methodLink RX6 200 yX6_bodyAt ∈ ww_T := ww_Tt4 15 (by decide +kernel) rfl
theorem mw_798 : Cond.constantLong RX6 203 (-1) ∈ ww_T := ww_Tt4 20 (by decide +kernel) rfl
theorem mw_799 : Cond.constantLong RX6 205 8 ∈ ww_T := ww_Tt4 21 (by decide +kernel) rfl
theorem mw_800 : Cond.constantLong RX6 207 2 ∈ ww_T := ww_Tt4 22 (by decide +kernel) rfl
theorem mw_805 : Cond.methodLink RX6 209 yX2_isRicher ∈ ww_T := ww_Tt4 27 (by decide +kernel) rfl
theorem mw_806 : Cond.instanceMethod yX2_isRicher ∈ ww_T := ww_Tt4 28 (by decide +kernel) rfl
theorem mw_807 : Cond.selects RX2 yX2_isRicher yX2_isRicher ∈ ww_T := ww_Tt4 29 (by decide +kernel) rfl
theorem mw_808 : Cond.code yX2_isRicher cX2_isRicher 3 (some .boolean) ∈ ww_T := ww_Tt4 30 (by decide +kernel) rfl
theorem mw_809 : Cond.methodLink RX6 212 yX6_numberOf ∈ ww_T := ww_Tt4 31 (by decide +kernel) rfl
theorem mw_814 : Cond.constant RX6 215 1103515245 ∈ ww_T := ww_Tt4 36 (by decide +kernel) rfl
theorem mw_815 : Cond.methodLink RX6 216 yX2_workableParts ∈ ww_T := ww_Tt4 37 (by decide +kernel) rfl
theorem mw_816 : Cond.instanceMethod yX2_workableParts ∈ ww_T := ww_Tt4 38 (by decide +kernel) rfl
theorem mw_817 : Cond.selects RX2 yX2_workableParts yX2_workableParts ∈ ww_T := ww_Tt4 39 (by decide +kernel) rfl
theorem mw_818 : Cond.code yX2_workableParts cX2_workableParts 3 (some .int) ∈ ww_T := ww_Tt4 40 (by decide +kernel) rfl
theorem mw_819 : Cond.methodLink RX6 219 yX2_workableSlot ∈ ww_T := ww_Tt4 41 (by decide +kernel) rfl
theorem mw_820 : Cond.instanceMethod yX2_workableSlot ∈ ww_T := ww_Tt4 42 (by decide +kernel) rfl
theorem mw_821 : Cond.selects RX2 yX2_workableSlot yX2_workableSlot ∈ ww_T := ww_Tt4 43 (by decide +kernel) rfl
theorem mw_822 : Cond.code yX2_workableSlot cX2_workableSlot 4 (some .int) ∈ ww_T := ww_Tt4 44 (by decide +kernel) rfl
theorem mw_823 : Cond.methodLink RX6 225 yJ6_bitCount_0f7a4 ∈ ww_T := ww_Tt4 45 (by decide +kernel) rfl
theorem mw_836 : Cond.methodLink RX6 230 yX1_renew ∈ ww_T := ww_Tt4 58 (by decide +kernel) rfl
theorem mw_837 : Cond.instanceMethod yX1_renew ∈ ww_T := ww_Tt4 59 (by decide +kernel) rfl
theorem mw_838 : Cond.selects RX1 yX1_renew yX1_renew ∈ ww_T := ww_Tt4 60 (by decide +kernel) rfl
theorem mw_839 : Cond.code yX1_renew cX1_renew 3 none ∈ ww_T := ww_Tt4 61 (by decide +kernel) rfl
theorem mw_840 : Cond.methodLink RX1 22 yJ7_fill_53178 ∈ ww_T := ww_Tt4 62 (by decide +kernel) rfl
theorem mw_845 : Cond.methodLink RX6 237 yX1_faultAt ∈ ww_T := ww_Tt4 67 (by decide +kernel) rfl
theorem mw_846 : Cond.instanceMethod yX1_faultAt ∈ ww_T := ww_Tt4 68 (by decide +kernel) rfl
theorem mw_847 : Cond.selects RX1 yX1_faultAt yX1_faultAt ∈ ww_T := ww_Tt4 69 (by decide +kernel) rfl
theorem mw_848 : Cond.code yX1_faultAt cX1_faultAt 3 (some .int) ∈ ww_T := ww_Tt4 70 (by decide +kernel) rfl
theorem mw_849 : Cond.methodLinkNest RX1 28 yX6_within RX6 ∈ ww_N := ww_Nt4 71 (by decide +kernel) rfl
theorem mw_850 : Cond.methodLink RX6 240 yX1_put ∈ ww_T := ww_Tt4 72 (by decide +kernel) rfl
theorem mw_851 : Cond.instanceMethod yX1_put ∈ ww_T := ww_Tt4 73 (by decide +kernel) rfl
theorem mw_852 : Cond.selects RX1 yX1_put yX1_put ∈ ww_T := ww_Tt4 74 (by decide +kernel) rfl
theorem mw_853 : Cond.code yX1_put cX1_put 3 none ∈ ww_T := ww_Tt4 75 (by decide +kernel) rfl
theorem mw_866 : Cond.methodLink RX6 250 yX2_cutParts ∈ ww_T := ww_Tt4 88 (by decide +kernel) rfl
theorem mw_867 : Cond.instanceMethod yX2_cutParts ∈ ww_T := ww_Tt4 89 (by decide +kernel) rfl
theorem mw_868 : Cond.selects RX2 yX2_cutParts yX2_cutParts ∈ ww_T := ww_Tt4 90 (by decide +kernel) rfl
theorem mw_869 : Cond.code yX2_cutParts cX2_cutParts 3 (some .int) ∈ ww_T := ww_Tt4 91 (by decide +kernel) rfl
theorem mw_876 : Cond.fieldLink RX7 7 "WeighedWhalesModel" "state" "[I" ∈ ww_T := ww_Tt4 98 (by decide +kernel) rfl
theorem mw_877 : Cond.fieldLink RX7 13 "WeighedWhalesModel" "levels" "[I" ∈ ww_T := ww_Tt4 99 (by decide +kernel) rfl
theorem mw_878 : Cond.fieldLink RX7 16 "WeighedWhalesModel" "levelMany" "I" ∈ ww_T := ww_Tt4 100 (by decide +kernel) rfl
theorem mw_879 : Cond.fieldLink RX7 156 "WeighedWhalesModel" "placeMany" "I" ∈ ww_T := ww_Tt4 101 (by decide +kernel) rfl
theorem mw_880 : Cond.fieldLink RX7 20 "WeighedWhalesModel" "beasts" "[I" ∈ ww_T := ww_Tt4 102 (by decide +kernel) rfl
theorem mw_881 : Cond.fieldLink RX7 159 "WeighedWhalesModel" "beastMany" "I" ∈ ww_T := ww_Tt4 103 (by decide +kernel) rfl
theorem mw_882 : Cond.fieldLink RX7 23 "WeighedWhalesModel" "readPage" "[I" ∈ ww_T := ww_Tt4 104 (by decide +kernel) rfl
theorem mw_883 : Cond.fieldLink RX7 26 "WeighedWhalesModel" "readLevels" "[I" ∈ ww_T := ww_Tt4 105 (by decide +kernel) rfl
theorem mw_884 : Cond.fieldLink RX7 29 "WeighedWhalesModel" "readBeasts" "[I" ∈ ww_T := ww_Tt4 106 (by decide +kernel) rfl
theorem mw_885 : Cond.fieldLink RX7 132 "WeighedWhalesModel" "readPlaces" "I" ∈ ww_T := ww_Tt4 107 (by decide +kernel) rfl
theorem mw_886 : Cond.fieldLink RX7 112 "WeighedWhalesModel" "readLevelMany" "I" ∈ ww_T := ww_Tt4 108 (by decide +kernel) rfl
theorem mw_887 : Cond.fieldLink RX7 119 "WeighedWhalesModel" "readBeastMany" "I" ∈ ww_T := ww_Tt4 109 (by decide +kernel) rfl
theorem mw_888 : Cond.fieldLink RX7 135 "WeighedWhalesModel" "toldOnce" "I" ∈ ww_T := ww_Tt4 110 (by decide +kernel) rfl
theorem mw_889 : Cond.fieldLink RX7 32 "WeighedWhalesModel" "tape" "[I" ∈ ww_T := ww_Tt4 111 (by decide +kernel) rfl
theorem mw_890 : Cond.fieldLink RX7 72 "WeighedWhalesModel" "taped" "I" ∈ ww_T := ww_Tt4 112 (by decide +kernel) rfl
theorem mw_891 : Cond.fieldLink RX7 153 "WeighedWhalesModel" "fault" "I" ∈ ww_T := ww_Tt4 113 (by decide +kernel) rfl
theorem mw_892 : Cond.fieldLink RX7 75 "WeighedWhalesModel" "broken" "I" ∈ ww_T := ww_Tt4 114 (by decide +kernel) rfl
theorem mw_893 : Cond.fieldLink RX7 81 "WeighedWhalesModel" "brokenAt" "I" ∈ ww_T := ww_Tt4 115 (by decide +kernel) rfl
theorem mw_894 : Cond.fieldLink RX7 87 "WeighedWhalesModel" "spot" "I" ∈ ww_T := ww_Tt4 116 (by decide +kernel) rfl
theorem mw_895 : Cond.fieldLink RX7 78 "WeighedWhalesModel" "here" "I" ∈ ww_T := ww_Tt4 117 (by decide +kernel) rfl
theorem mw_896 : Cond.fieldLink RX7 84 "WeighedWhalesModel" "token" "I" ∈ ww_T := ww_Tt4 118 (by decide +kernel) rfl
theorem mw_897 : Cond.fieldLink RX7 94 "WeighedWhalesModel" "value" "I" ∈ ww_T := ww_Tt4 119 (by decide +kernel) rfl
theorem mw_898 : Cond.fieldLink RX7 35 "WeighedWhalesModel" "cuts" "[I" ∈ ww_T := ww_Tt4 120 (by decide +kernel) rfl
theorem mw_899 : Cond.fieldLink RX7 38 "WeighedWhalesModel" "letters" "[I" ∈ ww_T := ww_Tt4 121 (by decide +kernel) rfl
theorem mw_900 : Cond.fieldLink RX7 41 "WeighedWhalesModel" "names" "[I" ∈ ww_T := ww_Tt4 122 (by decide +kernel) rfl
theorem mw_901 : Cond.fieldLink RX7 223 "WeighedWhalesModel" "nameMany" "I" ∈ ww_T := ww_Tt4 123 (by decide +kernel) rfl
theorem mw_902 : Cond.fieldLink RX7 44 "WeighedWhalesModel" "mosts" "[I" ∈ ww_T := ww_Tt4 124 (by decide +kernel) rfl
theorem mw_903 : Cond.fieldLink RX7 47 "WeighedWhalesModel" "workable" "[I" ∈ ww_T := ww_Tt4 125 (by decide +kernel) rfl
theorem mw_904 : Cond.fieldLink RX7 229 "WeighedWhalesModel" "bestRot" "I" ∈ ww_T := ww_Tt4 126 (by decide +kernel) rfl
theorem mw_905 : Cond.fieldLink RX7 50 "WeighedWhalesModel" "told" "[I" ∈ ww_T := ww_Tt4 127 (by decide +kernel) rfl
theorem mw_906 : Cond.fieldLink RX7 162 "WeighedWhalesModel" "toldMany" "I" ∈ ww_T := ww_Tt4 128 (by decide +kernel) rfl
theorem mw_907 : Cond.fieldLink RX7 53 "WeighedWhalesModel" "isKept" "[Z" ∈ ww_T := ww_Tt4 129 (by decide +kernel) rfl
theorem mw_908 : Cond.fieldLink RX7 57 "WeighedWhalesModel" "lanes" "[I" ∈ ww_T := ww_Tt4 130 (by decide +kernel) rfl
theorem mw_909 : Cond.fieldLink RX7 60 "WeighedWhalesModel" "lengths" "[I" ∈ ww_T := ww_Tt4 131 (by decide +kernel) rfl
theorem mw_910 : Cond.fieldLink RX7 63 "WeighedWhalesModel" "cells" "[I" ∈ ww_T := ww_Tt4 132 (by decide +kernel) rfl
theorem mw_911 : Cond.fieldLink RX7 283 "WeighedWhalesModel" "torn" "I" ∈ ww_T := ww_Tt4 133 (by decide +kernel) rfl
theorem mw_990 : Cond.constantLong RX7 66 127 ∈ ww_T := ww_Tt4 212 (by decide +kernel) rfl
theorem mw_991 : Cond.methodLink RX7 68 yX7_in ∈ ww_T := ww_Tt4 213 (by decide +kernel) rfl
theorem mw_992 : Cond.static yX7_in ∈ ww_T := ww_Tt4 214 (by decide +kernel) rfl
theorem mw_993 : Cond.code yX7_in cX7_in 6 (some .boolean) ∈ ww_T := ww_Tt4 215 (by decide +kernel) rfl
theorem mw_1002 : Cond.methodLink RX7 109 yX7_step ∈ ww_T := ww_Tt4 224 (by decide +kernel) rfl
theorem mw_1004 : Cond.instanceMethod yX7_step ∈ ww_T := ww_Tt4 226 (by decide +kernel) rfl
theorem mw_1005 : Cond.code yX7_step cX7_step 2 none ∈ ww_T := ww_Tt4 227 (by decide +kernel) rfl
theorem mw_1006 : Cond.methodLink RX7 90 yX7_byteAt ∈ ww_T := ww_Tt4 228 (by decide +kernel) rfl
theorem mw_1008 : Cond.instanceMethod yX7_byteAt ∈ ww_T := ww_Tt4 230 (by decide +kernel) rfl
theorem mw_1009 : Cond.code yX7_byteAt cX7_byteAt 2 (some .int) ∈ ww_T := ww_Tt4 231 (by decide +kernel) rfl
theorem mw_1010 : Cond.constantLong RX7 97 97 ∈ ww_T := ww_Tt4 232 (by decide +kernel) rfl
theorem mw_1011 : Cond.constantLong RX7 99 122 ∈ ww_T := ww_Tt4 233 (by decide +kernel) rfl
theorem mw_1012 : Cond.constantLong RX7 101 48 ∈ ww_T := ww_Tt4 234 (by decide +kernel) rfl
theorem mw_1013 : Cond.constantLong RX7 103 57 ∈ ww_T := ww_Tt4 235 (by decide +kernel) rfl
theorem mw_1014 : Cond.methodLink RX7 105 yX7_fails ∈ ww_T := ww_Tt4 236 (by decide +kernel) rfl
theorem mw_1016 : Cond.instanceMethod yX7_fails ∈ ww_T := ww_Tt4 238 (by decide +kernel) rfl
theorem mw_1017 : Cond.code yX7_fails cX7_fails 2 none ∈ ww_T := ww_Tt4 239 (by decide +kernel) rfl
theorem mw_1018 : Cond.methodLink RX7 147 yX7_readLine ∈ ww_T := ww_Tt5 0 (by decide +kernel) rfl
theorem mw_1020 : Cond.instanceMethod yX7_readLine ∈ ww_T := ww_Tt5 2 (by decide +kernel) rfl
theorem mw_1021 : Cond.code yX7_readLine cX7_readLine 3 none ∈ ww_T := ww_Tt5 3 (by decide +kernel) rfl
theorem mw_1022 : Cond.methodLink RX7 122 yX7_nameHere ∈ ww_T := ww_Tt5 4 (by decide +kernel) rfl
theorem mw_1024 : Cond.instanceMethod yX7_nameHere ∈ ww_T := ww_Tt5 6 (by decide +kernel) rfl
theorem mw_1025 : Cond.code yX7_nameHere cX7_nameHere 4 (some .int) ∈ ww_T := ww_Tt5 7 (by decide +kernel) rfl
theorem mw_1026 : Cond.constantLong RX7 126 5 ∈ ww_T := ww_Tt5 8 (by decide +kernel) rfl
theorem mw_1027 : Cond.constantLong RX7 128 2 ∈ ww_T := ww_Tt5 9 (by decide +kernel) rfl
theorem mw_1028 : Cond.constantLong RX7 130 4 ∈ ww_T := ww_Tt5 10 (by decide +kernel) rfl
theorem mw_1029 : Cond.methodLink RX7 115 yX7_number ∈ ww_T := ww_Tt5 11 (by decide +kernel) rfl
theorem mw_1031 : Cond.instanceMethod yX7_number ∈ ww_T := ww_Tt5 13 (by decide +kernel) rfl
theorem mw_1032 : Cond.code yX7_number cX7_number 4 (some .int) ∈ ww_T := ww_Tt5 14 (by decide +kernel) rfl
theorem mw_1033 : Cond.methodLink RX7 138 yX7_readTide ∈ ww_T := ww_Tt5 15 (by decide +kernel) rfl
theorem mw_1035 : Cond.instanceMethod yX7_readTide ∈ ww_T := ww_Tt5 17 (by decide +kernel) rfl
theorem mw_1036 : Cond.code yX7_readTide cX7_readTide 3 none ∈ ww_T := ww_Tt5 18 (by decide +kernel) rfl
theorem mw_1037 : Cond.methodLink RX7 141 yX7_readWhale ∈ ww_T := ww_Tt5 19 (by decide +kernel) rfl
theorem mw_1039 : Cond.instanceMethod yX7_readWhale ∈ ww_T := ww_Tt5 21 (by decide +kernel) rfl
theorem mw_1040 : Cond.code yX7_readWhale cX7_readWhale 4 none ∈ ww_T := ww_Tt5 22 (by decide +kernel) rfl
theorem mw_1041 : Cond.methodLink RX7 144 yX7_readOnce ∈ ww_T := ww_Tt5 23 (by decide +kernel) rfl
theorem mw_1043 : Cond.instanceMethod yX7_readOnce ∈ ww_T := ww_Tt5 25 (by decide +kernel) rfl
theorem mw_1044 : Cond.code yX7_readOnce cX7_readOnce 2 none ∈ ww_T := ww_Tt5 26 (by decide +kernel) rfl
theorem mw_1045 : Cond.methodLink RX7 150 yX7_looksWhere ∈ ww_T := ww_Tt5 27 (by decide +kernel) rfl
theorem mw_1047 : Cond.instanceMethod yX7_looksWhere ∈ ww_T := ww_Tt5 29 (by decide +kernel) rfl
theorem mw_1048 : Cond.code yX7_looksWhere cX7_looksWhere 5 none ∈ ww_T := ww_Tt5 30 (by decide +kernel) rfl
theorem mw_1049 : Cond.methodLink RX7 165 yX7_floatsNow ∈ ww_T := ww_Tt5 31 (by decide +kernel) rfl
theorem mw_1051 : Cond.instanceMethod yX7_floatsNow ∈ ww_T := ww_Tt5 33 (by decide +kernel) rfl
theorem mw_1052 : Cond.code yX7_floatsNow cX7_floatsNow 2 none ∈ ww_T := ww_Tt5 34 (by decide +kernel) rfl
theorem mw_1053 : Cond.methodLink RX7 184 yX7_floatsIn ∈ ww_T := ww_Tt5 35 (by decide +kernel) rfl
theorem mw_1055 : Cond.instanceMethod yX7_floatsIn ∈ ww_T := ww_Tt5 37 (by decide +kernel) rfl
theorem mw_1056 : Cond.code yX7_floatsIn cX7_floatsIn 6 (some .boolean) ∈ ww_T := ww_Tt5 38 (by decide +kernel) rfl
theorem mw_1057 : Cond.methodLink RX7 180 yX7_isWet ∈ ww_T := ww_Tt5 39 (by decide +kernel) rfl
theorem mw_1059 : Cond.instanceMethod yX7_isWet ∈ ww_T := ww_Tt5 41 (by decide +kernel) rfl
theorem mw_1060 : Cond.code yX7_isWet cX7_isWet 3 (some .boolean) ∈ ww_T := ww_Tt5 42 (by decide +kernel) rfl
theorem mw_1069 : Cond.methodLink RX7 172 yX7_rotNow ∈ ww_T := ww_Tt5 51 (by decide +kernel) rfl
theorem mw_1071 : Cond.instanceMethod yX7_rotNow ∈ ww_T := ww_Tt5 53 (by decide +kernel) rfl
theorem mw_1072 : Cond.code yX7_rotNow cX7_rotNow 1 (some .int) ∈ ww_T := ww_Tt5 54 (by decide +kernel) rfl
theorem mw_1077 : Cond.methodLink RX7 175 yX7_isPlace ∈ ww_T := ww_Tt5 59 (by decide +kernel) rfl
theorem mw_1079 : Cond.instanceMethod yX7_isPlace ∈ ww_T := ww_Tt5 61 (by decide +kernel) rfl
theorem mw_1080 : Cond.code yX7_isPlace cX7_isPlace 2 (some .boolean) ∈ ww_T := ww_Tt5 62 (by decide +kernel) rfl
theorem mw_1085 : Cond.constantLong RX7 178 999 ∈ ww_T := ww_Tt5 67 (by decide +kernel) rfl
theorem mw_1090 : Cond.methodLink RX7 168 yX7_isBeast ∈ ww_T := ww_Tt5 72 (by decide +kernel) rfl
theorem mw_1092 : Cond.instanceMethod yX7_isBeast ∈ ww_T := ww_Tt5 74 (by decide +kernel) rfl
theorem mw_1093 : Cond.code yX7_isBeast cX7_isBeast 2 (some .boolean) ∈ ww_T := ww_Tt5 75 (by decide +kernel) rfl
theorem mw_1098 : Cond.methodLink RX7 191 yX7_isPart ∈ ww_T := ww_Tt5 80 (by decide +kernel) rfl
theorem mw_1100 : Cond.instanceMethod yX7_isPart ∈ ww_T := ww_Tt5 82 (by decide +kernel) rfl
theorem mw_1101 : Cond.code yX7_isPart cX7_isPart 2 (some .boolean) ∈ ww_T := ww_Tt5 83 (by decide +kernel) rfl
theorem mw_1102 : Cond.methodLink RX7 188 yX7_partAt ∈ ww_T := ww_Tt5 84 (by decide +kernel) rfl
theorem mw_1103 : Cond.static yX7_partAt ∈ ww_T := ww_Tt5 85 (by decide +kernel) rfl
theorem mw_1104 : Cond.code yX7_partAt cX7_partAt 1 (some .int) ∈ ww_T := ww_Tt5 86 (by decide +kernel) rfl
theorem mw_1105 : Cond.methodLink RX7 194 yX7_worthIn ∈ ww_T := ww_Tt5 87 (by decide +kernel) rfl
theorem mw_1107 : Cond.instanceMethod yX7_worthIn ∈ ww_T := ww_Tt5 89 (by decide +kernel) rfl
theorem mw_1108 : Cond.code yX7_worthIn cX7_worthIn 5 (some .int) ∈ ww_T := ww_Tt5 90 (by decide +kernel) rfl
theorem mw_1109 : Cond.methodLink RX7 198 yX7_canBeWorked ∈ ww_T := ww_Tt5 91 (by decide +kernel) rfl
theorem mw_1111 : Cond.instanceMethod yX7_canBeWorked ∈ ww_T := ww_Tt5 93 (by decide +kernel) rfl
theorem mw_1112 : Cond.code yX7_canBeWorked cX7_canBeWorked 3 (some .boolean) ∈ ww_T := ww_Tt5 94 (by decide +kernel) rfl
theorem mw_1113 : Cond.methodLink RX7 201 yX7_whoseBy ∈ ww_T := ww_Tt5 95 (by decide +kernel) rfl
theorem mw_1115 : Cond.instanceMethod yX7_whoseBy ∈ ww_T := ww_Tt5 97 (by decide +kernel) rfl
theorem mw_1116 : Cond.code yX7_whoseBy cX7_whoseBy 10 (some .int) ∈ ww_T := ww_Tt5 98 (by decide +kernel) rfl
theorem mw_1121 : Cond.constantLong RX7 204 9 ∈ ww_T := ww_Tt5 103 (by decide +kernel) rfl
theorem mw_1122 : Cond.methodLink RX7 206 yX7_sets ∈ ww_T := ww_Tt5 104 (by decide +kernel) rfl
theorem mw_1124 : Cond.instanceMethod yX7_sets ∈ ww_T := ww_Tt5 106 (by decide +kernel) rfl
theorem mw_1125 : Cond.code yX7_sets cX7_sets 5 (some .int) ∈ ww_T := ww_Tt5 107 (by decide +kernel) rfl
theorem mw_1130 : Cond.constantLong RX7 210 3 ∈ ww_T := ww_Tt5 112 (by decide +kernel) rfl
theorem mw_1147 : Cond.constantLong RX7 212 8 ∈ ww_T := ww_Tt5 129 (by decide +kernel) rfl
theorem mw_1152 : Cond.methodLink RX7 220 yX7_goes ∈ ww_T := ww_Tt5 134 (by decide +kernel) rfl
theorem mw_1154 : Cond.instanceMethod yX7_goes ∈ ww_T := ww_Tt5 136 (by decide +kernel) rfl
theorem mw_1155 : Cond.code yX7_goes cX7_goes 3 (some .int) ∈ ww_T := ww_Tt5 137 (by decide +kernel) rfl
theorem mw_1156 : Cond.methodLink RX7 217 yX7_hourGoes ∈ ww_T := ww_Tt5 138 (by decide +kernel) rfl
theorem mw_1158 : Cond.instanceMethod yX7_hourGoes ∈ ww_T := ww_Tt5 140 (by decide +kernel) rfl
theorem mw_1159 : Cond.code yX7_hourGoes cX7_hourGoes 4 (some .int) ∈ ww_T := ww_Tt5 141 (by decide +kernel) rfl
theorem mw_1160 : Cond.methodLink RX7 214 yX7_works ∈ ww_T := ww_Tt5 142 (by decide +kernel) rfl
theorem mw_1162 : Cond.instanceMethod yX7_works ∈ ww_T := ww_Tt5 144 (by decide +kernel) rfl
theorem mw_1163 : Cond.code yX7_works cX7_works 3 (some .int) ∈ ww_T := ww_Tt5 145 (by decide +kernel) rfl
theorem mw_1180 : Cond.constantLong RX7 246 6 ∈ ww_T := ww_Tt5 162 (by decide +kernel) rfl
theorem mw_1181 : Cond.constantLong RX7 248 10 ∈ ww_T := ww_Tt5 163 (by decide +kernel) rfl
theorem mw_1182 : Cond.methodLink RX7 250 yX7_layBest ∈ ww_T := ww_Tt5 164 (by decide +kernel) rfl
theorem mw_1184 : Cond.instanceMethod yX7_layBest ∈ ww_T := ww_Tt5 166 (by decide +kernel) rfl
theorem mw_1185 : Cond.code yX7_layBest cX7_layBest 11 (some .int) ∈ ww_T := ww_Tt5 167 (by decide +kernel) rfl
theorem mw_1186 : Cond.methodLink RX7 232 yX7_layParts ∈ ww_T := ww_Tt5 168 (by decide +kernel) rfl
theorem mw_1188 : Cond.instanceMethod yX7_layParts ∈ ww_T := ww_Tt5 170 (by decide +kernel) rfl
theorem mw_1189 : Cond.code yX7_layParts cX7_layParts 9 none ∈ ww_T := ww_Tt5 171 (by decide +kernel) rfl
theorem mw_1190 : Cond.methodLink RX7 236 yX7_choice ∈ ww_T := ww_Tt5 172 (by decide +kernel) rfl
theorem mw_1192 : Cond.instanceMethod yX7_choice ∈ ww_T := ww_Tt5 174 (by decide +kernel) rfl
theorem mw_1193 : Cond.code yX7_choice cX7_choice 6 (some .int) ∈ ww_T := ww_Tt5 175 (by decide +kernel) rfl
theorem mw_1194 : Cond.methodLink RX7 239 yX7_byWork ∈ ww_T := ww_Tt5 176 (by decide +kernel) rfl
theorem mw_1196 : Cond.instanceMethod yX7_byWork ∈ ww_T := ww_Tt5 178 (by decide +kernel) rfl
theorem mw_1197 : Cond.code yX7_byWork cX7_byWork 10 (some .int) ∈ ww_T := ww_Tt5 179 (by decide +kernel) rfl
theorem mw_1198 : Cond.methodLink RX7 226 yX7_digit ∈ ww_T := ww_Tt5 180 (by decide +kernel) rfl
theorem mw_1199 : Cond.static yX7_digit ∈ ww_T := ww_Tt5 181 (by decide +kernel) rfl
theorem mw_1200 : Cond.code yX7_digit cX7_digit 2 (some .int) ∈ ww_T := ww_Tt5 182 (by decide +kernel) rfl
theorem mw_1201 : Cond.methodLink RX7 243 yX7_leftNow ∈ ww_T := ww_Tt5 183 (by decide +kernel) rfl
theorem mw_1203 : Cond.instanceMethod yX7_leftNow ∈ ww_T := ww_Tt5 185 (by decide +kernel) rfl
theorem mw_1204 : Cond.code yX7_leftNow cX7_leftNow 3 (some .int) ∈ ww_T := ww_Tt5 186 (by decide +kernel) rfl
theorem mw_1217 : Cond.methodLink RX7 253 yX7_shareBy ∈ ww_T := ww_Tt5 199 (by decide +kernel) rfl
theorem mw_1219 : Cond.instanceMethod yX7_shareBy ∈ ww_T := ww_Tt5 201 (by decide +kernel) rfl
theorem mw_1220 : Cond.code yX7_shareBy cX7_shareBy 5 (some .int) ∈ ww_T := ww_Tt5 202 (by decide +kernel) rfl
theorem mw_1225 : Cond.constantLong RX7 256 99 ∈ ww_T := ww_Tt5 207 (by decide +kernel) rfl
theorem mw_1234 : Cond.methodLink RX7 258 yX7_explains ∈ ww_T := ww_Tt5 216 (by decide +kernel) rfl
theorem mw_1236 : Cond.instanceMethod yX7_explains ∈ ww_T := ww_Tt5 218 (by decide +kernel) rfl
theorem mw_1237 : Cond.code yX7_explains cX7_explains 4 (some .boolean) ∈ ww_T := ww_Tt5 219 (by decide +kernel) rfl
theorem mw_1246 : Cond.constantLong RX7 261 998 ∈ ww_T := ww_Tt5 228 (by decide +kernel) rfl
theorem mw_1251 : Cond.constantLong RX7 263 (-1) ∈ ww_T := ww_Tt5 233 (by decide +kernel) rfl
theorem mw_1252 : Cond.methodLink RX7 265 yX7_lowest ∈ ww_T := ww_Tt5 234 (by decide +kernel) rfl
theorem mw_1253 : Cond.static yX7_lowest ∈ ww_T := ww_Tt5 235 (by decide +kernel) rfl
theorem mw_1254 : Cond.code yX7_lowest cX7_lowest 11 (some .long) ∈ ww_T := ww_Tt5 236 (by decide +kernel) rfl
theorem mw_1263 : Cond.constantLong RX7 269 60 ∈ ww_T := ww_Tt6 5 (by decide +kernel) rfl
theorem mw_1264 : Cond.methodLink RX7 271 yX7_copies ∈ ww_T := ww_Tt6 6 (by decide +kernel) rfl
theorem mw_1266 : Cond.instanceMethod yX7_copies ∈ ww_T := ww_Tt6 8 (by decide +kernel) rfl
theorem mw_1267 : Cond.code yX7_copies cX7_copies 4 none ∈ ww_T := ww_Tt6 9 (by decide +kernel) rfl
theorem mw_1268 : Cond.constant RX7 274 1103515245 ∈ ww_T := ww_Tt6 10 (by decide +kernel) rfl
theorem mw_1269 : Cond.methodLink RX7 275 yX7_partBy ∈ ww_T := ww_Tt6 11 (by decide +kernel) rfl
theorem mw_1271 : Cond.instanceMethod yX7_partBy ∈ ww_T := ww_Tt6 13 (by decide +kernel) rfl
theorem mw_1272 : Cond.code yX7_partBy cX7_partBy 4 (some .int) ∈ ww_T := ww_Tt6 14 (by decide +kernel) rfl
theorem mw_1273 : Cond.methodLink RX7 278 yX7_lostMany ∈ ww_T := ww_Tt6 15 (by decide +kernel) rfl
theorem mw_1275 : Cond.instanceMethod yX7_lostMany ∈ ww_T := ww_Tt6 17 (by decide +kernel) rfl
theorem mw_1276 : Cond.code yX7_lostMany cX7_lostMany 3 (some .int) ∈ ww_T := ww_Tt6 18 (by decide +kernel) rfl
theorem mw_1297 : Cond.constantLong RX7 281 20 ∈ ww_T := ww_Tt6 39 (by decide +kernel) rfl
theorem mw_1306 : Cond.methodLink RX7 286 yX7_cutMany ∈ ww_T := ww_Tt6 48 (by decide +kernel) rfl
theorem mw_1308 : Cond.instanceMethod yX7_cutMany ∈ ww_T := ww_Tt6 50 (by decide +kernel) rfl
theorem mw_1309 : Cond.code yX7_cutMany cX7_cutMany 3 (some .int) ∈ ww_T := ww_Tt6 51 (by decide +kernel) rfl
theorem mm_X6_bodyAt : ww_mS yX6_bodyAt cX6_bodyAt 2 (some .int) 2 := ⟨mw_493, mw_59, mw_492, by decide +kernel⟩
theorem mm_X6_numberOf : ww_mS yX6_numberOf cX6_numberOf 1 (some .int) 1 := ⟨mw_743, mw_59, mw_742, by decide +kernel⟩
theorem mm_X6_within : ww_mS yX6_within cX6_within 3 (some .boolean) 3 := ⟨mw_335, mw_59, mw_334, by decide +kernel⟩
theorem mm_X0_after : ww_mV yX0_after cX0_after 3 (some .int) 2 := ⟨mw_723, mw_64, mw_722, mw_19, by decide +kernel⟩
theorem mm_X0_bestAt : ww_mV yX0_bestAt cX0_bestAt 7 (some .int) 1 := ⟨mw_728, mw_64, mw_726, mw_727, by decide +kernel⟩
theorem mm_X0_canChoose : ww_mV yX0_canChoose cX0_canChoose 4 (some .boolean) 3 := ⟨mw_736, mw_64, mw_735, mw_21, by decide +kernel⟩
theorem mm_X0_firstBest : ww_mV yX0_firstBest cX0_firstBest 6 (some .int) 2 := ⟨mw_732, mw_64, mw_731, mw_20, by decide +kernel⟩
theorem mm_X0_gainOf : ww_mV yX0_gainOf cX0_gainOf 4 (some .int) 3 := ⟨mw_719, mw_64, mw_718, mw_18, by decide +kernel⟩
theorem mm_X0_load : ww_mV yX0_load cX0_load 9 none 4 := ⟨mw_675, mw_64, mw_674, mw_11, by decide +kernel⟩
theorem mm_X0_loadHour : ww_mV yX0_loadHour cX0_loadHour 8 none 4 := ⟨mw_688, mw_64, mw_687, mw_13, by decide +kernel⟩
theorem mm_X0_loadParts : ww_mV yX0_loadParts cX0_loadParts 6 none 2 := ⟨mw_680, mw_64, mw_679, mw_12, by decide +kernel⟩
theorem mm_X0_mostBy : ww_mV yX0_mostBy cX0_mostBy 5 (some .int) 4 := ⟨mw_671, mw_64, mw_669, mw_670, by decide +kernel⟩
theorem mm_X0_mostFrom : ww_mV yX0_mostFrom cX0_mostFrom 4 (some .int) 2 := ⟨mw_694, mw_64, mw_693, mw_14, by decide +kernel⟩
theorem mm_X0_partAt : ww_mV yX0_partAt cX0_partAt 2 (some .int) 1 := ⟨mw_740, mw_64, mw_739, mw_22, by decide +kernel⟩
theorem mm_X0_triedFrom : ww_mV yX0_triedFrom cX0_triedFrom 8 (some .int) 2 := ⟨mw_698, mw_64, mw_697, mw_15, by decide +kernel⟩
theorem mm_X0_usefulIn : ww_mV yX0_usefulIn cX0_usefulIn 7 (some .int) 2 := ⟨mw_702, mw_64, mw_701, mw_16, by decide +kernel⟩
theorem mm_X0_wonBy : ww_mV yX0_wonBy cX0_wonBy 5 (some .int) 4 := ⟨mw_715, mw_64, mw_714, mw_17, by decide +kernel⟩
theorem mm_X0_workIn : ww_mS yX0_workIn cX0_workIn 2 (some .int) 2 := ⟨mw_705, mw_64, mw_704, by decide +kernel⟩
theorem mm_X1_faultAt : ww_mV yX1_faultAt cX1_faultAt 3 (some .int) 2 := ⟨mw_848, mw_65, mw_846, mw_847, by decide +kernel⟩
theorem mm_X1_put : ww_mV yX1_put cX1_put 3 none 2 := ⟨mw_853, mw_65, mw_851, mw_852, by decide +kernel⟩
theorem mm_X1_renew : ww_mV yX1_renew cX1_renew 3 none 2 := ⟨mw_839, mw_65, mw_837, mw_838, by decide +kernel⟩
theorem mm_X2_bodyOf : ww_mV yX2_bodyOf cX2_bodyOf 2 (some .int) 1 := ⟨mw_490, mw_62, mw_488, mw_489, by decide +kernel⟩
theorem mm_X2_canWork : ww_mV yX2_canWork cX2_canWork 2 (some .boolean) 1 := ⟨mw_579, mw_62, mw_577, mw_578, by decide +kernel⟩
theorem mm_X2_clear : ww_mV yX2_clear cX2_clear 1 none 0 := ⟨mw_294, mw_62, mw_292, mw_293, by decide +kernel⟩
theorem mm_X2_copyFrom : ww_mV yX2_copyFrom cX2_copyFrom 2 none 1 := ⟨mw_497, mw_62, mw_495, mw_496, by decide +kernel⟩
theorem mm_X2_cutParts : ww_mV yX2_cutParts cX2_cutParts 3 (some .int) 0 := ⟨mw_869, mw_62, mw_867, mw_868, by decide +kernel⟩
theorem mm_X2_floatingBeasts : ww_mV yX2_floatingBeasts cX2_floatingBeasts 6 (some .int) 1 := ⟨mw_514, mw_62, mw_512, mw_513, by decide +kernel⟩
theorem mm_X2_hasBeast : ww_mV yX2_hasBeast cX2_hasBeast 2 (some .boolean) 1 := ⟨mw_555, mw_62, mw_553, mw_554, by decide +kernel⟩
theorem mm_X2_hasPlace : ww_mV yX2_hasPlace cX2_hasPlace 2 (some .boolean) 1 := ⟨mw_542, mw_62, mw_540, mw_541, by decide +kernel⟩
theorem mm_X2_hasSlot : ww_mV yX2_hasSlot cX2_hasSlot 2 (some .boolean) 1 := ⟨mw_583, mw_62, mw_581, mw_582, by decide +kernel⟩
theorem mm_X2_hourGoes : ww_mV yX2_hourGoes cX2_hourGoes 4 (some .int) 2 := ⟨mw_642, mw_62, mw_640, mw_641, by decide +kernel⟩
theorem mm_X2_isBarred : ww_mV yX2_isBarred cX2_isBarred 2 (some .boolean) 1 := ⟨mw_637, mw_62, mw_636, mw_9, by decide +kernel⟩
theorem mm_X2_isLost : ww_mV yX2_isLost cX2_isLost 2 (some .boolean) 1 := ⟨mw_559, mw_62, mw_557, mw_558, by decide +kernel⟩
theorem mm_X2_isRicher : ww_mV yX2_isRicher cX2_isRicher 3 (some .boolean) 2 := ⟨mw_808, mw_62, mw_806, mw_807, by decide +kernel⟩
theorem mm_X2_isUnknown : ww_mV yX2_isUnknown cX2_isUnknown 2 (some .boolean) 1 := ⟨mw_632, mw_62, mw_631, mw_8, by decide +kernel⟩
theorem mm_X2_levelIn : ww_mV yX2_levelIn cX2_levelIn 2 (some .int) 1 := ⟨mw_522, mw_62, mw_520, mw_521, by decide +kernel⟩
theorem mm_X2_loseFloating : ww_mV yX2_loseFloating cX2_loseFloating 1 none 0 := ⟨mw_510, mw_62, mw_508, mw_509, by decide +kernel⟩
theorem mm_X2_ownerBy : ww_mV yX2_ownerBy cX2_ownerBy 6 (some .int) 2 := ⟨mw_592, mw_62, mw_590, mw_591, by decide +kernel⟩
theorem mm_X2_ownerOfMost : ww_mV yX2_ownerOfMost cX2_ownerOfMost 8 (some .int) 2 := ⟨mw_596, mw_62, mw_595, mw_7, by decide +kernel⟩
theorem mm_X2_placeOf : ww_mV yX2_placeOf cX2_placeOf 2 (some .int) 1 := ⟨mw_588, mw_62, mw_586, mw_587, by decide +kernel⟩
theorem mm_X2_putLevel : ww_mV yX2_putLevel cX2_putLevel 2 none 1 := ⟨mw_478, mw_62, mw_476, mw_477, by decide +kernel⟩
theorem mm_X2_putSand : ww_mV yX2_putSand cX2_putSand 3 none 2 := ⟨mw_473, mw_62, mw_471, mw_472, by decide +kernel⟩
theorem mm_X2_putWhale : ww_mV yX2_putWhale cX2_putWhale 5 none 2 := ⟨mw_482, mw_62, mw_480, mw_481, by decide +kernel⟩
theorem mm_X2_refusal : ww_mV yX2_refusal cX2_refusal 3 (some .int) 2 := ⟨mw_628, mw_62, mw_626, mw_627, by decide +kernel⟩
theorem mm_X2_shareBy : ww_mV yX2_shareBy cX2_shareBy 5 (some .int) 2 := ⟨mw_759, mw_62, mw_757, mw_758, by decide +kernel⟩
theorem mm_X2_slotOf : ww_mV yX2_slotOf cX2_slotOf 4 (some .int) 1 := ⟨mw_567, mw_62, mw_565, mw_566, by decide +kernel⟩
theorem mm_X2_takenPlaces : ww_mV yX2_takenPlaces cX2_takenPlaces 3 (some .int) 0 := ⟨mw_792, mw_62, mw_790, mw_791, by decide +kernel⟩
theorem mm_X2_wetPlaces : ww_mV yX2_wetPlaces cX2_wetPlaces 5 (some .int) 1 := ⟨mw_518, mw_62, mw_516, mw_517, by decide +kernel⟩
theorem mm_X2_workAt : ww_mV yX2_workAt cX2_workAt 3 (some .int) 1 := ⟨mw_646, mw_62, mw_645, mw_10, by decide +kernel⟩
theorem mm_X2_workableParts : ww_mV yX2_workableParts cX2_workableParts 3 (some .int) 0 := ⟨mw_818, mw_62, mw_816, mw_817, by decide +kernel⟩
theorem mm_X2_workableSlot : ww_mV yX2_workableSlot cX2_workableSlot 4 (some .int) 1 := ⟨mw_822, mw_62, mw_820, mw_821, by decide +kernel⟩
theorem mm_X2_worthIn : ww_mV yX2_worthIn cX2_worthIn 4 (some .int) 3 := ⟨mw_572, mw_62, mw_570, mw_571, by decide +kernel⟩
theorem mm_X3_add : ww_mV yX3_add cX3_add 3 (some .boolean) 2 := ⟨mw_767, mw_63, mw_765, mw_766, by decide +kernel⟩
theorem mm_X3_areExplained : ww_mV yX3_areExplained cX3_areExplained 4 (some .boolean) 2 := ⟨mw_779, mw_63, mw_777, mw_778, by decide +kernel⟩
theorem mm_X4_add : ww_mV yX4_add cX4_add 2 (some .boolean) 1 := ⟨mw_339, mw_60, mw_337, mw_338, by decide +kernel⟩
theorem mm_X4_isFigure : ww_mS yX4_isFigure cX4_isFigure 1 (some .boolean) 1 := ⟨mw_367, mw_60, mw_366, by decide +kernel⟩
theorem mm_X4_isLetter : ww_mS yX4_isLetter cX4_isLetter 1 (some .boolean) 1 := ⟨mw_359, mw_60, mw_358, by decide +kernel⟩
theorem mm_X4_isName : ww_mV yX4_isName cX4_isName 3 (some .boolean) 1 := ⟨mw_383, mw_60, mw_381, mw_382, by decide +kernel⟩
theorem mm_X4_step : ww_mV yX4_step cX4_step 1 none 0 := ⟨mw_356, mw_60, mw_354, mw_355, by decide +kernel⟩
theorem mm_X4_stepName : ww_mV yX4_stepName cX4_stepName 1 none 0 := ⟨mw_364, mw_60, mw_363, mw_0, by decide +kernel⟩
theorem mm_X4_stepNumber : ww_mV yX4_stepNumber cX4_stepNumber 1 none 0 := ⟨mw_371, mw_60, mw_370, mw_1, by decide +kernel⟩
theorem mm_X5_checkBeasts : ww_mV yX5_checkBeasts cX5_checkBeasts 6 none 2 := ⟨mw_486, mw_61, mw_485, mw_6, by decide +kernel⟩
theorem mm_X5_fail : ww_mV yX5_fail cX5_fail 3 (some .boolean) 2 := ⟨mw_444, mw_61, mw_443, mw_4, by decide +kernel⟩
theorem mm_X5_failAtToken : ww_mV yX5_failAtToken cX5_failAtToken 2 (some .boolean) 1 := ⟨mw_440, mw_61, mw_439, mw_3, by decide +kernel⟩
theorem mm_X5_highest : ww_mS yX5_highest cX5_highest 2 (some .int) 2 := ⟨mw_463, mw_61, mw_462, by decide +kernel⟩
theorem mm_X5_highestOfWhale : ww_mS yX5_highestOfWhale cX5_highestOfWhale 1 (some .int) 1 := ⟨mw_466, mw_61, mw_465, by decide +kernel⟩
theorem mm_X5_isTooMany : ww_mS yX5_isTooMany cX5_isTooMany 3 (some .boolean) 3 := ⟨mw_457, mw_61, mw_456, by decide +kernel⟩
theorem mm_X5_lineOf : ww_mS yX5_lineOf cX5_lineOf 1 (some .int) 1 := ⟨mw_378, mw_61, mw_377, by decide +kernel⟩
theorem mm_X5_lowest : ww_mS yX5_lowest cX5_lowest 3 (some .int) 2 := ⟨mw_460, mw_61, mw_459, by decide +kernel⟩
theorem mm_X5_mayGoOn : ww_mS yX5_mayGoOn cX5_mayGoOn 2 (some .boolean) 2 := ⟨mw_454, mw_61, mw_453, by decide +kernel⟩
theorem mm_X5_mayStop : ww_mS yX5_mayStop cX5_mayStop 2 (some .boolean) 2 := ⟨mw_451, mw_61, mw_450, by decide +kernel⟩
theorem mm_X5_put : ww_mS yX5_put cX5_put 4 none 4 := ⟨mw_469, mw_61, mw_468, by decide +kernel⟩
theorem mm_X5_readLine : ww_mV yX5_readLine cX5_readLine 6 (some .boolean) 2 := ⟨mw_375, mw_61, mw_374, mw_2, by decide +kernel⟩
theorem mm_X5_refusedName : ww_mV yX5_refusedName cX5_refusedName 4 (some .int) 2 := ⟨mw_448, mw_61, mw_447, mw_5, by decide +kernel⟩
theorem mm_X5_tellAll : ww_mV yX5_tellAll cX5_tellAll 4 (some .int) 2 := ⟨mw_351, mw_61, mw_349, mw_350, by decide +kernel⟩
theorem mm_X7_byWork : ww_mV yX7_byWork cX7_byWork 10 (some .int) 4 := ⟨mw_1197, mw_67, mw_1196, mw_50, by decide +kernel⟩
theorem mm_X7_byteAt : ww_mV yX7_byteAt cX7_byteAt 2 (some .int) 1 := ⟨mw_1009, mw_67, mw_1008, mw_24, by decide +kernel⟩
theorem mm_X7_canBeWorked : ww_mV yX7_canBeWorked cX7_canBeWorked 3 (some .boolean) 1 := ⟨mw_1112, mw_67, mw_1111, mw_41, by decide +kernel⟩
theorem mm_X7_choice : ww_mV yX7_choice cX7_choice 6 (some .int) 1 := ⟨mw_1193, mw_67, mw_1192, mw_49, by decide +kernel⟩
theorem mm_X7_copies : ww_mV yX7_copies cX7_copies 4 none 2 := ⟨mw_1267, mw_67, mw_1266, mw_54, by decide +kernel⟩
theorem mm_X7_cutMany : ww_mV yX7_cutMany cX7_cutMany 3 (some .int) 0 := ⟨mw_1309, mw_67, mw_1308, mw_57, by decide +kernel⟩
theorem mm_X7_digit : ww_mS yX7_digit cX7_digit 2 (some .int) 2 := ⟨mw_1200, mw_67, mw_1199, by decide +kernel⟩
theorem mm_X7_explains : ww_mV yX7_explains cX7_explains 4 (some .boolean) 1 := ⟨mw_1237, mw_67, mw_1236, mw_53, by decide +kernel⟩
theorem mm_X7_fails : ww_mV yX7_fails cX7_fails 2 none 1 := ⟨mw_1017, mw_67, mw_1016, mw_25, by decide +kernel⟩
theorem mm_X7_floatsIn : ww_mV yX7_floatsIn cX7_floatsIn 6 (some .boolean) 3 := ⟨mw_1056, mw_67, mw_1055, mw_34, by decide +kernel⟩
theorem mm_X7_floatsNow : ww_mV yX7_floatsNow cX7_floatsNow 2 none 0 := ⟨mw_1052, mw_67, mw_1051, mw_33, by decide +kernel⟩
theorem mm_X7_goes : ww_mV yX7_goes cX7_goes 3 (some .int) 2 := ⟨mw_1155, mw_67, mw_1154, mw_44, by decide +kernel⟩
theorem mm_X7_hourGoes : ww_mV yX7_hourGoes cX7_hourGoes 4 (some .int) 2 := ⟨mw_1159, mw_67, mw_1158, mw_45, by decide +kernel⟩
theorem mm_X7_in : ww_mS yX7_in cX7_in 6 (some .boolean) 3 := ⟨mw_993, mw_67, mw_992, by decide +kernel⟩
theorem mm_X7_isBeast : ww_mV yX7_isBeast cX7_isBeast 2 (some .boolean) 1 := ⟨mw_1093, mw_67, mw_1092, mw_38, by decide +kernel⟩
theorem mm_X7_isPart : ww_mV yX7_isPart cX7_isPart 2 (some .boolean) 1 := ⟨mw_1101, mw_67, mw_1100, mw_39, by decide +kernel⟩
theorem mm_X7_isPlace : ww_mV yX7_isPlace cX7_isPlace 2 (some .boolean) 1 := ⟨mw_1080, mw_67, mw_1079, mw_37, by decide +kernel⟩
theorem mm_X7_isWet : ww_mV yX7_isWet cX7_isWet 3 (some .boolean) 2 := ⟨mw_1060, mw_67, mw_1059, mw_35, by decide +kernel⟩
theorem mm_X7_layBest : ww_mV yX7_layBest cX7_layBest 11 (some .int) 3 := ⟨mw_1185, mw_67, mw_1184, mw_47, by decide +kernel⟩
theorem mm_X7_layParts : ww_mV yX7_layParts cX7_layParts 9 none 2 := ⟨mw_1189, mw_67, mw_1188, mw_48, by decide +kernel⟩
theorem mm_X7_leftNow : ww_mV yX7_leftNow cX7_leftNow 3 (some .int) 0 := ⟨mw_1204, mw_67, mw_1203, mw_51, by decide +kernel⟩
theorem mm_X7_looksWhere : ww_mV yX7_looksWhere cX7_looksWhere 5 none 0 := ⟨mw_1048, mw_67, mw_1047, mw_32, by decide +kernel⟩
theorem mm_X7_lostMany : ww_mV yX7_lostMany cX7_lostMany 3 (some .int) 0 := ⟨mw_1276, mw_67, mw_1275, mw_56, by decide +kernel⟩
theorem mm_X7_lowest : ww_mS yX7_lowest cX7_lowest 11 (some .long) 3 := ⟨mw_1254, mw_67, mw_1253, by decide +kernel⟩
theorem mm_X7_nameHere : ww_mV yX7_nameHere cX7_nameHere 4 (some .int) 0 := ⟨mw_1025, mw_67, mw_1024, mw_27, by decide +kernel⟩
theorem mm_X7_number : ww_mV yX7_number cX7_number 4 (some .int) 2 := ⟨mw_1032, mw_67, mw_1031, mw_28, by decide +kernel⟩
theorem mm_X7_partAt : ww_mS yX7_partAt cX7_partAt 1 (some .int) 1 := ⟨mw_1104, mw_67, mw_1103, by decide +kernel⟩
theorem mm_X7_partBy : ww_mV yX7_partBy cX7_partBy 4 (some .int) 1 := ⟨mw_1272, mw_67, mw_1271, mw_55, by decide +kernel⟩
theorem mm_X7_readLine : ww_mV yX7_readLine cX7_readLine 3 none 0 := ⟨mw_1021, mw_67, mw_1020, mw_26, by decide +kernel⟩
theorem mm_X7_readOnce : ww_mV yX7_readOnce cX7_readOnce 2 none 1 := ⟨mw_1044, mw_67, mw_1043, mw_31, by decide +kernel⟩
theorem mm_X7_readTide : ww_mV yX7_readTide cX7_readTide 3 none 0 := ⟨mw_1036, mw_67, mw_1035, mw_29, by decide +kernel⟩
theorem mm_X7_readWhale : ww_mV yX7_readWhale cX7_readWhale 4 none 0 := ⟨mw_1040, mw_67, mw_1039, mw_30, by decide +kernel⟩
theorem mm_X7_rotNow : ww_mV yX7_rotNow cX7_rotNow 1 (some .int) 0 := ⟨mw_1072, mw_67, mw_1071, mw_36, by decide +kernel⟩
theorem mm_X7_sets : ww_mV yX7_sets cX7_sets 5 (some .int) 3 := ⟨mw_1125, mw_67, mw_1124, mw_43, by decide +kernel⟩
theorem mm_X7_shareBy : ww_mV yX7_shareBy cX7_shareBy 5 (some .int) 2 := ⟨mw_1220, mw_67, mw_1219, mw_52, by decide +kernel⟩
theorem mm_X7_step : ww_mV yX7_step cX7_step 2 none 0 := ⟨mw_1005, mw_67, mw_1004, mw_23, by decide +kernel⟩
theorem mm_X7_whoseBy : ww_mV yX7_whoseBy cX7_whoseBy 10 (some .int) 2 := ⟨mw_1116, mw_67, mw_1115, mw_42, by decide +kernel⟩
theorem mm_X7_works : ww_mV yX7_works cX7_works 3 (some .int) 1 := ⟨mw_1163, mw_67, mw_1162, mw_46, by decide +kernel⟩
theorem mm_X7_worthIn : ww_mV yX7_worthIn cX7_worthIn 5 (some .int) 3 := ⟨mw_1108, mw_67, mw_1107, mw_40, by decide +kernel⟩
theorem mm_J6_bitCount_0f7a4 : ww_mS yJ6_bitCount_0f7a4 cJ6_bitCount_0f7a4 1 (some .int) 1 := ⟨mw_708, mw_74, mw_707, by decide +kernel⟩
theorem mm_J9_floorMod_7cf53 : ww_mS yJ9_floorMod_7cf53 cJ9_floorMod_7cf53 3 (some .int) 2 := ⟨mw_525, mw_72, mw_524, by decide +kernel⟩
end
section
theorem sc_len : Cond.code yJ0_length_8abf5 cJ0_length_8abf5 1 (some .int) ∈ ww_T := ww_Tt2 89 (by decide +kernel) rfl
theorem si_len : Cond.initialized RJ0 ∈ ww_T := ww_Tt1 10 (by decide +kernel) rfl
theorem ss_len : Cond.instanceMethod yJ0_length_8abf5 ∈ ww_T := ww_Tt2 87 (by decide +kernel) rfl
theorem sl_len : Cond.selects RJ0 yJ0_length_8abf5 yJ0_length_8abf5 ∈ ww_T := ww_Tt2 88 (by decide +kernel) rfl
theorem sm_len : ww_mV yJ0_length_8abf5 cJ0_length_8abf5 1 (some .int) 0 := ⟨sc_len, si_len, ss_len, sl_len, by decide +kernel⟩
theorem dJ0_length_8abf5_0 : decode cJ0_length_8abf5 0 = .ok (.aload_n 0, 1) := by decide +kernel
theorem dJ0_length_8abf5_1 : decode cJ0_length_8abf5 1 = .ok (.getfield 9, 3) := by decide +kernel
theorem dJ0_length_8abf5_4 : decode cJ0_length_8abf5 4 = .ok (.arraylength, 1) := by decide +kernel
theorem dJ0_length_8abf5_5 : decode cJ0_length_8abf5 5 = .ok (.aload_n 0, 1) := by decide +kernel
theorem dJ0_length_8abf5_6 : decode cJ0_length_8abf5 6 = .ok (.invokevirtual 335, 3) := by decide +kernel
theorem dJ0_length_8abf5_9 : decode cJ0_length_8abf5 9 = .ok (.ishr, 1) := by decide +kernel
theorem dJ0_length_8abf5_10 : decode cJ0_length_8abf5 10 = .ok (.ireturn, 1) := by decide +kernel
theorem sc_chr : Cond.code yJ0_charAt_5068e cJ0_charAt_5068e 2 (some .char) ∈ ww_T := ww_Tt2 99 (by decide +kernel) rfl
theorem si_chr : Cond.initialized RJ0 ∈ ww_T := ww_Tt1 10 (by decide +kernel) rfl
theorem ss_chr : Cond.instanceMethod yJ0_charAt_5068e ∈ ww_T := ww_Tt2 97 (by decide +kernel) rfl
theorem sl_chr : Cond.selects RJ0 yJ0_charAt_5068e yJ0_charAt_5068e ∈ ww_T := ww_Tt2 98 (by decide +kernel) rfl
theorem sm_chr : ww_mV yJ0_charAt_5068e cJ0_charAt_5068e 2 (some .char) 1 := ⟨sc_chr, si_chr, ss_chr, sl_chr, by decide +kernel⟩
theorem dJ0_charAt_5068e_0 : decode cJ0_charAt_5068e 0 = .ok (.aload_n 0, 1) := by decide +kernel
theorem dJ0_charAt_5068e_1 : decode cJ0_charAt_5068e 1 = .ok (.invokevirtual 492, 3) := by decide +kernel
theorem dJ0_charAt_5068e_4 : decode cJ0_charAt_5068e 4 = .ok (.ifCond .eq 12, 3) := by decide +kernel
theorem dJ0_charAt_5068e_7 : decode cJ0_charAt_5068e 7 = .ok (.aload_n 0, 1) := by decide +kernel
theorem dJ0_charAt_5068e_8 : decode cJ0_charAt_5068e 8 = .ok (.getfield 9, 3) := by decide +kernel
theorem dJ0_charAt_5068e_11 : decode cJ0_charAt_5068e 11 = .ok (.iload_n 1, 1) := by decide +kernel
theorem dJ0_charAt_5068e_12 : decode cJ0_charAt_5068e 12 = .ok (.invokestatic 495, 3) := by decide +kernel
theorem dJ0_charAt_5068e_15 : decode cJ0_charAt_5068e 15 = .ok (.ireturn, 1) := by decide +kernel
theorem dJ0_charAt_5068e_16 : decode cJ0_charAt_5068e 16 = .ok (.aload_n 0, 1) := by decide +kernel
theorem dJ0_charAt_5068e_17 : decode cJ0_charAt_5068e 17 = .ok (.getfield 9, 3) := by decide +kernel
theorem dJ0_charAt_5068e_20 : decode cJ0_charAt_5068e 20 = .ok (.iload_n 1, 1) := by decide +kernel
theorem dJ0_charAt_5068e_21 : decode cJ0_charAt_5068e 21 = .ok (.invokestatic 498, 3) := by decide +kernel
theorem dJ0_charAt_5068e_24 : decode cJ0_charAt_5068e 24 = .ok (.ireturn, 1) := by decide +kernel
theorem sc_cod : Cond.code yJ0_coder_7d493 cJ0_coder_7d493 1 (some .byte) ∈ ww_T := ww_Tt2 93 (by decide +kernel) rfl
theorem si_cod : Cond.initialized RJ0 ∈ ww_T := ww_Tt1 10 (by decide +kernel) rfl
theorem ss_cod : Cond.instanceMethod yJ0_coder_7d493 ∈ ww_T := ww_Tt2 91 (by decide +kernel) rfl
theorem sl_cod : Cond.selects RJ0 yJ0_coder_7d493 yJ0_coder_7d493 ∈ ww_T := ww_Tt2 92 (by decide +kernel) rfl
theorem sm_cod : ww_mV yJ0_coder_7d493 cJ0_coder_7d493 1 (some .byte) 0 := ⟨sc_cod, si_cod, ss_cod, sl_cod, by decide +kernel⟩
theorem dJ0_coder_7d493_0 : decode cJ0_coder_7d493 0 = .ok (.getstatic 38, 3) := by decide +kernel
theorem dJ0_coder_7d493_3 : decode cJ0_coder_7d493 3 = .ok (.ifCond .eq 10, 3) := by decide +kernel
theorem dJ0_coder_7d493_6 : decode cJ0_coder_7d493 6 = .ok (.aload_n 0, 1) := by decide +kernel
theorem dJ0_coder_7d493_7 : decode cJ0_coder_7d493 7 = .ok (.getfield 15, 3) := by decide +kernel
theorem dJ0_coder_7d493_10 : decode cJ0_coder_7d493 10 = .ok (.goto 4, 3) := by decide +kernel
theorem dJ0_coder_7d493_13 : decode cJ0_coder_7d493 13 = .ok (.iconst 1, 1) := by decide +kernel
theorem dJ0_coder_7d493_14 : decode cJ0_coder_7d493 14 = .ok (.ireturn, 1) := by decide +kernel
theorem sc_lat : Cond.code yJ0_isLatin1_aae02 cJ0_isLatin1_aae02 1 (some .boolean) ∈ ww_T := ww_Tt2 103 (by decide +kernel) rfl
theorem si_lat : Cond.initialized RJ0 ∈ ww_T := ww_Tt1 10 (by decide +kernel) rfl
theorem ss_lat : Cond.instanceMethod yJ0_isLatin1_aae02 ∈ ww_T := ww_Tt2 101 (by decide +kernel) rfl
theorem sl_lat : Cond.selects RJ0 yJ0_isLatin1_aae02 yJ0_isLatin1_aae02 ∈ ww_T := ww_Tt2 102 (by decide +kernel) rfl
theorem sm_lat : ww_mV yJ0_isLatin1_aae02 cJ0_isLatin1_aae02 1 (some .boolean) 0 := ⟨sc_lat, si_lat, ss_lat, sl_lat, by decide +kernel⟩
theorem dJ0_isLatin1_aae02_0 : decode cJ0_isLatin1_aae02 0 = .ok (.getstatic 38, 3) := by decide +kernel
theorem dJ0_isLatin1_aae02_3 : decode cJ0_isLatin1_aae02 3 = .ok (.ifCond .eq 14, 3) := by decide +kernel
theorem dJ0_isLatin1_aae02_6 : decode cJ0_isLatin1_aae02 6 = .ok (.aload_n 0, 1) := by decide +kernel
theorem dJ0_isLatin1_aae02_7 : decode cJ0_isLatin1_aae02 7 = .ok (.getfield 15, 3) := by decide +kernel
theorem dJ0_isLatin1_aae02_10 : decode cJ0_isLatin1_aae02 10 = .ok (.ifCond .ne 7, 3) := by decide +kernel
theorem dJ0_isLatin1_aae02_13 : decode cJ0_isLatin1_aae02 13 = .ok (.iconst 1, 1) := by decide +kernel
theorem dJ0_isLatin1_aae02_14 : decode cJ0_isLatin1_aae02 14 = .ok (.goto 4, 3) := by decide +kernel
theorem dJ0_isLatin1_aae02_17 : decode cJ0_isLatin1_aae02 17 = .ok (.iconst 0, 1) := by decide +kernel
theorem dJ0_isLatin1_aae02_18 : decode cJ0_isLatin1_aae02 18 = .ok (.ireturn, 1) := by decide +kernel
theorem sc_l1c : Cond.code yJ1_charAt_3b067 cJ1_charAt_3b067 2 (some .char) ∈ ww_T := ww_Tt2 106 (by decide +kernel) rfl
theorem si_l1c : Cond.initialized RJ1 ∈ ww_T := ww_Tt1 11 (by decide +kernel) rfl
theorem ss_l1c : Cond.static yJ1_charAt_3b067 ∈ ww_T := ww_Tt2 105 (by decide +kernel) rfl
theorem sm_l1c : ww_mS yJ1_charAt_3b067 cJ1_charAt_3b067 2 (some .char) 2 := ⟨sc_l1c, si_l1c, ss_l1c, by decide +kernel⟩
theorem dJ1_charAt_3b067_0 : decode cJ1_charAt_3b067 0 = .ok (.iload_n 1, 1) := by decide +kernel
theorem dJ1_charAt_3b067_1 : decode cJ1_charAt_3b067 1 = .ok (.aload_n 0, 1) := by decide +kernel
theorem dJ1_charAt_3b067_2 : decode cJ1_charAt_3b067 2 = .ok (.arraylength, 1) := by decide +kernel
theorem dJ1_charAt_3b067_3 : decode cJ1_charAt_3b067 3 = .ok (.invokestatic 9, 3) := by decide +kernel
theorem dJ1_charAt_3b067_6 : decode cJ1_charAt_3b067 6 = .ok (.aload_n 0, 1) := by decide +kernel
theorem dJ1_charAt_3b067_7 : decode cJ1_charAt_3b067 7 = .ok (.iload_n 1, 1) := by decide +kernel
theorem dJ1_charAt_3b067_8 : decode cJ1_charAt_3b067 8 = .ok (.baload, 1) := by decide +kernel
theorem dJ1_charAt_3b067_9 : decode cJ1_charAt_3b067 9 = .ok (.sipush 255, 3) := by decide +kernel
theorem dJ1_charAt_3b067_12 : decode cJ1_charAt_3b067 12 = .ok (.iand, 1) := by decide +kernel
theorem dJ1_charAt_3b067_13 : decode cJ1_charAt_3b067 13 = .ok (.i2c, 1) := by decide +kernel
theorem dJ1_charAt_3b067_14 : decode cJ1_charAt_3b067 14 = .ok (.ireturn, 1) := by decide +kernel
theorem sc_chk : Cond.code yJ0_checkIndex_df160 cJ0_checkIndex_df160 2 none ∈ ww_T := ww_Tt2 109 (by decide +kernel) rfl
theorem si_chk : Cond.initialized RJ0 ∈ ww_T := ww_Tt1 10 (by decide +kernel) rfl
theorem ss_chk : Cond.static yJ0_checkIndex_df160 ∈ ww_T := ww_Tt2 108 (by decide +kernel) rfl
theorem sm_chk : ww_mS yJ0_checkIndex_df160 cJ0_checkIndex_df160 2 none 2 := ⟨sc_chk, si_chk, ss_chk, by decide +kernel⟩
theorem dJ0_checkIndex_df160_0 : decode cJ0_checkIndex_df160 0 = .ok (.iload_n 0, 1) := by decide +kernel
theorem dJ0_checkIndex_df160_1 : decode cJ0_checkIndex_df160 1 = .ok (.iload_n 1, 1) := by decide +kernel
theorem dJ0_checkIndex_df160_2 : decode cJ0_checkIndex_df160 2 = .ok (.getstatic 1053, 3) := by decide +kernel
theorem dJ0_checkIndex_df160_5 : decode cJ0_checkIndex_df160 5 = .ok (.invokestatic 1059, 3) := by decide +kernel
theorem dJ0_checkIndex_df160_8 : decode cJ0_checkIndex_df160 8 = .ok (.pop, 1) := by decide +kernel
theorem dJ0_checkIndex_df160_9 : decode cJ0_checkIndex_df160 9 = .ok (.return_, 1) := by decide +kernel
theorem sc_pre : Cond.code yJ3_checkIndex_8e157 cJ3_checkIndex_8e157 3 (some .int) ∈ ww_T := ww_Tt2 114 (by decide +kernel) rfl
theorem si_pre : Cond.initialized RJ3 ∈ ww_T := ww_Tt1 12 (by decide +kernel) rfl
theorem ss_pre : Cond.static yJ3_checkIndex_8e157 ∈ ww_T := ww_Tt2 113 (by decide +kernel) rfl
theorem sm_pre : ww_mS yJ3_checkIndex_8e157 cJ3_checkIndex_8e157 3 (some .int) 3 := ⟨sc_pre, si_pre, ss_pre, by decide +kernel⟩
theorem dJ3_checkIndex_8e157_0 : decode cJ3_checkIndex_8e157 0 = .ok (.iload_n 0, 1) := by decide +kernel
theorem dJ3_checkIndex_8e157_1 : decode cJ3_checkIndex_8e157 1 = .ok (.ifCond .lt 8, 3) := by decide +kernel
theorem dJ3_checkIndex_8e157_4 : decode cJ3_checkIndex_8e157 4 = .ok (.iload_n 0, 1) := by decide +kernel
theorem dJ3_checkIndex_8e157_5 : decode cJ3_checkIndex_8e157 5 = .ok (.iload_n 1, 1) := by decide +kernel
theorem dJ3_checkIndex_8e157_6 : decode cJ3_checkIndex_8e157 6 = .ok (.if_icmp .lt 10, 3) := by decide +kernel
theorem dJ3_checkIndex_8e157_9 : decode cJ3_checkIndex_8e157 9 = .ok (.aload_n 2, 1) := by decide +kernel
theorem dJ3_checkIndex_8e157_10 : decode cJ3_checkIndex_8e157 10 = .ok (.iload_n 0, 1) := by decide +kernel
theorem dJ3_checkIndex_8e157_11 : decode cJ3_checkIndex_8e157 11 = .ok (.iload_n 1, 1) := by decide +kernel
theorem dJ3_checkIndex_8e157_12 : decode cJ3_checkIndex_8e157 12 = .ok (.invokestatic 95, 3) := by decide +kernel
theorem dJ3_checkIndex_8e157_15 : decode cJ3_checkIndex_8e157 15 = .ok (.athrow, 1) := by decide +kernel
theorem dJ3_checkIndex_8e157_16 : decode cJ3_checkIndex_8e157 16 = .ok (.iload_n 0, 1) := by decide +kernel
theorem dJ3_checkIndex_8e157_17 : decode cJ3_checkIndex_8e157 17 = .ok (.ireturn, 1) := by decide +kernel
theorem sc_fill : Cond.code yJ7_fill_53178 cJ7_fill_53178 4 none ∈ ww_T := ww_Tt1 239 (by decide +kernel) rfl
theorem si_fill : Cond.initialized RJ7 ∈ ww_T := ww_Tt1 8 (by decide +kernel) rfl
theorem ss_fill : Cond.static yJ7_fill_53178 ∈ ww_T := ww_Tt1 238 (by decide +kernel) rfl
theorem sm_fill : ww_mS yJ7_fill_53178 cJ7_fill_53178 4 none 2 := ⟨sc_fill, si_fill, ss_fill, by decide +kernel⟩
theorem dJ7_fill_53178_0 : decode cJ7_fill_53178 0 = .ok (.iconst 0, 1) := by decide +kernel
theorem dJ7_fill_53178_1 : decode cJ7_fill_53178 1 = .ok (.istore_n 2, 1) := by decide +kernel
theorem dJ7_fill_53178_2 : decode cJ7_fill_53178 2 = .ok (.aload_n 0, 1) := by decide +kernel
theorem dJ7_fill_53178_3 : decode cJ7_fill_53178 3 = .ok (.arraylength, 1) := by decide +kernel
theorem dJ7_fill_53178_4 : decode cJ7_fill_53178 4 = .ok (.istore_n 3, 1) := by decide +kernel
theorem dJ7_fill_53178_5 : decode cJ7_fill_53178 5 = .ok (.iload_n 2, 1) := by decide +kernel
theorem dJ7_fill_53178_6 : decode cJ7_fill_53178 6 = .ok (.iload_n 3, 1) := by decide +kernel
theorem dJ7_fill_53178_7 : decode cJ7_fill_53178 7 = .ok (.if_icmp .ge 13, 3) := by decide +kernel
theorem dJ7_fill_53178_10 : decode cJ7_fill_53178 10 = .ok (.aload_n 0, 1) := by decide +kernel
theorem dJ7_fill_53178_11 : decode cJ7_fill_53178 11 = .ok (.iload_n 2, 1) := by decide +kernel
theorem dJ7_fill_53178_12 : decode cJ7_fill_53178 12 = .ok (.iload_n 1, 1) := by decide +kernel
theorem dJ7_fill_53178_13 : decode cJ7_fill_53178 13 = .ok (.iastore, 1) := by decide +kernel
theorem dJ7_fill_53178_14 : decode cJ7_fill_53178 14 = .ok (.iinc 2 1, 3) := by decide +kernel
theorem dJ7_fill_53178_17 : decode cJ7_fill_53178 17 = .ok (.goto (-12), 3) := by decide +kernel
theorem dJ7_fill_53178_20 : decode cJ7_fill_53178 20 = .ok (.return_, 1) := by decide +kernel
theorem sc_cpy : Cond.code yX2_copyAll cX2_copyAll 2 none ∈ ww_T := ww_Tt2 202 (by decide +kernel) rfl
theorem si_cpy : Cond.initialized RX2 ∈ ww_T := ww_Tt1 4 (by decide +kernel) rfl
theorem ss_cpy : Cond.static yX2_copyAll ∈ ww_T := ww_Tt2 201 (by decide +kernel) rfl
theorem sm_cpy : ww_mS yX2_copyAll cX2_copyAll 2 none 2 := ⟨sc_cpy, si_cpy, ss_cpy, by decide +kernel⟩
theorem dX2_copyAll_0 : decode cX2_copyAll 0 = .ok (.aload_n 0, 1) := by decide +kernel
theorem dX2_copyAll_1 : decode cX2_copyAll 1 = .ok (.iconst 0, 1) := by decide +kernel
theorem dX2_copyAll_2 : decode cX2_copyAll 2 = .ok (.aload_n 1, 1) := by decide +kernel
theorem dX2_copyAll_3 : decode cX2_copyAll 3 = .ok (.iconst 0, 1) := by decide +kernel
theorem dX2_copyAll_4 : decode cX2_copyAll 4 = .ok (.aload_n 0, 1) := by decide +kernel
theorem dX2_copyAll_5 : decode cX2_copyAll 5 = .ok (.arraylength, 1) := by decide +kernel
theorem dX2_copyAll_6 : decode cX2_copyAll 6 = .ok (.aload_n 1, 1) := by decide +kernel
theorem dX2_copyAll_7 : decode cX2_copyAll 7 = .ok (.arraylength, 1) := by decide +kernel
theorem dX2_copyAll_8 : decode cX2_copyAll 8 = .ok (.invokestatic 74, 3) := by decide +kernel
theorem dX2_copyAll_11 : decode cX2_copyAll 11 = .ok (.invokestatic 80, 3) := by decide +kernel
theorem dX2_copyAll_14 : decode cX2_copyAll 14 = .ok (.return_, 1) := by decide +kernel
theorem sk_cod : Cond.methodLink RJ0 335 yJ0_coder_7d493 ∈ ww_T := ww_Tt2 90 (by decide +kernel) rfl
theorem sk_lat : Cond.methodLink RJ0 492 yJ0_isLatin1_aae02 ∈ ww_T := ww_Tt2 100 (by decide +kernel) rfl
theorem sk_l1c : Cond.methodLink RJ0 495 yJ1_charAt_3b067 ∈ ww_T := ww_Tt2 104 (by decide +kernel) rfl
theorem sk_chk : Cond.methodLink RJ1 9 yJ0_checkIndex_df160 ∈ ww_T := ww_Tt2 107 (by decide +kernel) rfl
theorem sk_pre : Cond.methodLink RJ0 1059 yJ3_checkIndex_8e157 ∈ ww_T := ww_Tt2 112 (by decide +kernel) rfl
theorem sf_val : Cond.fieldLink RJ0 9 "java/lang/String" "value" "[B" ∈ ww_T := ww_Tt6 52 (by decide +kernel) rfl
theorem sf_cod : Cond.fieldLink RJ0 15 "java/lang/String" "coder" "B" ∈ ww_T := ww_Tt6 53 (by decide +kernel) rfl
theorem sf_cmp : Cond.fieldLink RJ0 38 "java/lang/String" "COMPACT_STRINGS" "Z" ∈ ww_T := ww_Tt2 94 (by decide +kernel) rfl
theorem sf_for : Cond.fieldLink RJ0 1053 "jdk/internal/util/Preconditions" "SIOOBE_FORMATTER" "Ljava/util/function/BiFunction;" ∈ ww_T := ww_Tt2 110 (by decide +kernel) rfl
theorem sa_lk : Cond.methodLink RX2 80 arraycopyName ∈ ww_T := ww_Tt2 206 (by decide +kernel) rfl
theorem sa_st : Cond.static arraycopyName ∈ ww_T := ww_Tt2 207 (by decide +kernel) rfl
theorem sa_na : Cond.native arraycopyName ∈ ww_T := ww_Tt2 208 (by decide +kernel) rfl
theorem sa_in : Cond.initialized "java/lang/System" ∈ ww_T := ww_Tt1 15 (by decide +kernel) rfl
theorem sn_lk : Cond.methodLink RX2 74 Lib.Math.min.name ∈ ww_T := ww_Tt2 203 (by decide +kernel) rfl
theorem sn_st : Cond.static Lib.Math.min.name ∈ ww_T := ww_Tt2 204 (by decide +kernel) rfl
theorem sn_in : Cond.initialized "java/lang/Math" ∈ ww_T := ww_Tt1 14 (by decide +kernel) rfl
theorem sn_co : Cond.code Lib.Math.min.name Lib.Math.min.code 2 (some .int) ∈ ww_T := ww_Tt2 205 (by decide +kernel) rfl
section WSPEC
variable {X : ww_X} {l0 : Launch} {Y : ww_Y} {ad : Nat → Nat} {G : List ww_L} {h nL pc : Nat} {cc : ByteArray} {own : String} {σ : ww_M} {lv : List (Nat × Value)} {st st0 : List Value} {o : Option ww_R} {α : Type} {K : α → Option ww_R}
theorem ww_icmp_geR (hC : ww_C X l0 Y ad G h cc nL own) {x y : Int32} {off : Int} {tgt : Nat} (hd : decode cc pc = .ok (.if_icmp .ge off, 3)) (ht : (pc : Int) + off = (tgt : Int)) (kt : y ≤ x → ww_V X Y ad G nL σ tgt lv st o) (kf : ¬ y ≤ x → ww_V X Y ad G nL σ (pc + 3) lv st o) : ww_V X Y ad G nL σ pc lv (.int y :: .int x :: st) o := by
  obtain ⟨p, l, e, R, s, m, args, below, meth, c, cells, slots, Qf, A⟩ := X
  obtain ⟨rfl, ⟨hRf, hRl, hRc, hRs⟩, hx, hb, hml, hown, hts, hEv, hI, hAk, hA⟩ := hC
  intro H locs ls r hr hP hS hl
  exact lv_icmp_ge hx hb hd ht (fun q => kt q H locs ls r hr hP hS hl) (fun q => kf q H locs ls r hr hP hS hl)
theorem ww_icmp_ltR (hC : ww_C X l0 Y ad G h cc nL own) {x y : Int32} {off : Int} {tgt : Nat} (hd : decode cc pc = .ok (.if_icmp .lt off, 3)) (ht : (pc : Int) + off = (tgt : Int)) (kt : x < y → ww_V X Y ad G nL σ tgt lv st o) (kf : ¬ x < y → ww_V X Y ad G nL σ (pc + 3) lv st o) : ww_V X Y ad G nL σ pc lv (.int y :: .int x :: st) o := by
  obtain ⟨p, l, e, R, s, m, args, below, meth, c, cells, slots, Qf, A⟩ := X
  obtain ⟨rfl, ⟨hRf, hRl, hRc, hRs⟩, hx, hb, hml, hown, hts, hEv, hI, hAk, hA⟩ := hC
  intro H locs ls r hr hP hS hl
  exact lv_icmp_lt hx hb hd ht (fun q => kt q H locs ls r hr hP hS hl) (fun q => kf q H locs ls r hr hP hS hl)
theorem ww_if_ltR (hC : ww_C X l0 Y ad G h cc nL own) {x : Int32} {off : Int} {tgt : Nat} (hd : decode cc pc = .ok (.ifCond .lt off, 3)) (ht : (pc : Int) + off = (tgt : Int)) (kt : x < 0 → ww_V X Y ad G nL σ tgt lv st o) (kf : ¬ x < 0 → ww_V X Y ad G nL σ (pc + 3) lv st o) : ww_V X Y ad G nL σ pc lv (.int x :: st) o := by
  obtain ⟨p, l, e, R, s, m, args, below, meth, c, cells, slots, Qf, A⟩ := X
  obtain ⟨rfl, ⟨hRf, hRl, hRc, hRs⟩, hx, hb, hml, hown, hts, hEv, hI, hAk, hA⟩ := hC
  intro H locs ls r hr hP hS hl
  exact lv_if_lt hx hb hd ht (fun q => kt q H locs ls r hr hP hS hl) (fun q => kf q H locs ls r hr hP hS hl)
theorem ww_if_eqR (hC : ww_C X l0 Y ad G h cc nL own) {x : Int32} {off : Int} {tgt : Nat} (hd : decode cc pc = .ok (.ifCond .eq off, 3)) (ht : (pc : Int) + off = (tgt : Int)) (kt : x = 0 → ww_V X Y ad G nL σ tgt lv st o) (kf : ¬ x = 0 → ww_V X Y ad G nL σ (pc + 3) lv st o) : ww_V X Y ad G nL σ pc lv (.int x :: st) o := by
  obtain ⟨p, l, e, R, s, m, args, below, meth, c, cells, slots, Qf, A⟩ := X
  obtain ⟨rfl, ⟨hRf, hRl, hRc, hRs⟩, hx, hb, hml, hown, hts, hEv, hI, hAk, hA⟩ := hC
  intro H locs ls r hr hP hS hl
  exact lv_if_eq hx hb hd ht (fun q => kt q H locs ls r hr hP hS hl) (fun q => kf q H locs ls r hr hP hS hl)
theorem ww_if_neR (hC : ww_C X l0 Y ad G h cc nL own) {x : Int32} {off : Int} {tgt : Nat} (hd : decode cc pc = .ok (.ifCond .ne off, 3)) (ht : (pc : Int) + off = (tgt : Int)) (kt : ¬ x = 0 → ww_V X Y ad G nL σ tgt lv st o) (kf : x = 0 → ww_V X Y ad G nL σ (pc + 3) lv st o) : ww_V X Y ad G nL σ pc lv (.int x :: st) o := by
  obtain ⟨p, l, e, R, s, m, args, below, meth, c, cells, slots, Qf, A⟩ := X
  obtain ⟨rfl, ⟨hRf, hRl, hRc, hRs⟩, hx, hb, hml, hown, hts, hEv, hI, hAk, hA⟩ := hC
  intro H locs ls r hr hP hS hl
  exact lv_if_ne hx hb hd ht (fun q => kt q H locs ls r hr hP hS hl) (fun q => kf q H locs ls r hr hP hS hl)
theorem ww_callS0 (hC : ww_C X l0 Y ad G h cc nL own) {r : ww_R} {y : MethodName} {bytes : ByteArray} {maxL h' index : Nat} {ret : Option FieldType} {As : List Value} (hM : ww_Cn l0 Y ad G y bytes maxL ret h' As σ (some r)) (hm : ww_mS y bytes maxL ret As.length) (hlk : Cond.methodLink own index y ∈ ww_T) (hh : h' + 1 ≤ h) (hL : maxL ≤ 21) (hs8 : (st.map fun v => v.category).sum ≤ 8) (hst : st0 = As.reverse ++ st) (hd : decode cc pc = .ok (.invokestatic index, 3)) (kk : ww_V X Y ad G nL r.2 (pc + 3) lv (r.1.toList ++ st) o) : ww_V X Y ad G nL σ pc lv st0 o := by
  refine ww_eq (o' := ((some ()).bind (fun _ : Unit => o)).bind some) (by cases o <;> rfl) ?_
  refine ww_callS (f := some ()) (kc := fun _ => r) (E := fun _ => o) (K := some) hC hM hm hlk hh hL hs8 hst hd (fun a => ?_)
  exact ww_eq (by cases o <;> rfl) kk
theorem ww_callVS (hC : ww_C X l0 Y ad G h cc nL own) {r0 : ww_R} {y : MethodName} {bytes : ByteArray} {maxL h' index i : Nat} {ret : Option FieldType} {As : List Value} (hi : i < 6) (hM : ww_Cn l0 Y ad G y bytes maxL ret h' (.ref (Y.2.2.2 i) :: As) σ (some r0)) (hm : ww_mV y bytes maxL ret As.length) (hy : y.cls = "java/lang/String") (hlk : Cond.methodLink own index y ∈ ww_T) (hh : h' + 1 ≤ h) (hL : maxL ≤ 21) (hs8 : (st.map fun v => v.category).sum ≤ 8) (hst : st0 = As.reverse ++ .ref (Y.2.2.2 i) :: st) (hd : decode cc pc = .ok (.invokevirtual index, 3)) (kk : ww_V X Y ad G nL r0.2 (pc + 3) lv (r0.1.toList ++ st) o) : ww_V X Y ad G nL σ pc lv st0 o := by
  obtain ⟨p, l, e, R, s, m, args, below, meth, c, cells, slots, Qf, A⟩ := X
  obtain ⟨rfl, ⟨hRf, hRl, hRc, hRs⟩, hx, hb, hml, hown, hts, hEv, hI, hAk, hA⟩ := hC
  intro H locs ls r hr hP hS hl
  have hM' := hM H.size r0 rfl
  have hf := ww_AAin (G := G) (ad := ad) hS hAk hA
  obtain ⟨m1, m2, m3, m4, m5⟩ := hm
  have hgood : GoodIn ww_T (wsV own index y.cls y (Cond.code y bytes maxL ret :: ww_T)) := by
    intro w hw
    rcases List.mem_append.mp hw with q | q
    · have q2 : w = .methodLink own index y ∨ w = .instanceMethod y ∨ w = .selects y.cls y y ∨ w = .initialized y.cls := by simpa using q
      rcases q2 with rfl | rfl | rfl | rfl
      · exact ww_Tg _ hlk
      · exact ww_Tg _ m3
      · exact ww_Tg _ m4
      · exact ww_Tg _ m2
    · exact ww_good m1 w q
  refine ww_after (a := (Value.ref (Y.2.2.2 i) :: As).toArray) (r := r0) hS hf (va_runV (As := As) (rest := st) ⟨hx, hb, hml, hown, hts⟩ hM' (cwV As.length hts hgood rfl rfl rfl ⟨rfl, m5⟩ ⟨by show h' + 1 ≤ _; omega, by show 8 + (maxL + 11) + 40 * h' ≤ _; omega⟩) ⟨ww_blind _ _ _ _ _ _, by rw [hy]; exact vk_recv hEv.2.2.1 hi hS, fun U hU hW => ⟨rfl, by rw [hU], by rw [hU]; exact hP, by rw [hU]; exact hEv.warm hW hS.2.1 (fun q _ z => hf q z) hf, hI⟩⟩ rfl rfl hl.1 hst (lv_room hs8) hd ⟨hRc, hRs⟩) ?_
  intro H1 locs1 hP1 hS1
  exact kk H1 locs1 ls r hr hP1 hS1 hl
theorem ww_sval (hC : ww_C X l0 Y ad G h cc nL RJ0) {i : Nat} (hi : i < 6) (hd : decode cc pc = .ok (.getfield 9, 3)) (kk : ww_V X Y ad G nL σ (pc + 3) lv (.ref (Y.2.2.1 i) :: st) o) : ww_V X Y ad G nL σ pc lv (.ref (Y.2.2.2 i) :: st) o := by
  obtain ⟨p, l, e, R, s, m, args, below, meth, c, cells, slots, Qf, A⟩ := X
  obtain ⟨rfl, ⟨hRf, hRl, hRc, hRs⟩, hx, hb, hml, hown, hts, hEv, hI, hAk, hA⟩ := hC
  intro H locs ls r hr hP hS hl
  exact vk_getf (ref := "java/lang/String") hx hb (hEv.2.2.1.1 i hi).2.2.1 hS hown (hts _ sf_val) (fun _ h9 => h9) hd (kk H locs ls r hr hP hS hl)
theorem ww_scod (hC : ww_C X l0 Y ad G h cc nL RJ0) {i : Nat} (hi : i < 6) (hd : decode cc pc = .ok (.getfield 15, 3)) (kk : ww_V X Y ad G nL σ (pc + 3) lv (.int 0 :: st) o) : ww_V X Y ad G nL σ pc lv (.ref (Y.2.2.2 i) :: st) o := by
  obtain ⟨p, l, e, R, s, m, args, below, meth, c, cells, slots, Qf, A⟩ := X
  obtain ⟨rfl, ⟨hRf, hRl, hRc, hRs⟩, hx, hb, hml, hown, hts, hEv, hI, hAk, hA⟩ := hC
  intro H locs ls r hr hP hS hl
  exact vk_getf (ref := "java/lang/String") hx hb (hEv.2.2.1.1 i hi).2.1 hS hown (hts _ sf_cod) (fun _ h9 => h9) hd (kk H locs ls r hr hP hS hl)
theorem ww_scmp (hC : ww_C X l0 Y ad G h cc nL RJ0) (hd : decode cc pc = .ok (.getstatic 38, 3)) (kk : ww_V X Y ad G nL σ (pc + 3) lv (.int 1 :: st) o) : ww_V X Y ad G nL σ pc lv st o := by
  obtain ⟨p, l, e, R, s, m, args, below, meth, c, cells, slots, Qf, A⟩ := X
  obtain ⟨rfl, ⟨hRf, hRl, hRc, hRs⟩, hx, hb, hml, hown, hts, hEv, hI, hAk, hA⟩ := hC
  intro H locs ls r hr hP hS hl
  exact va_gets (ref := "java/lang/String") hx hb hEv.2.2.2.1.1 hS hown (hts _ sf_cmp) (fun _ h9 => h9) hd (kk H locs ls r hr hP hS hl)
theorem ww_sfor (hC : ww_C X l0 Y ad G h cc nL RJ0) (hd : decode cc pc = .ok (.getstatic 1053, 3)) (kn : ww_V X Y ad G nL σ (pc + 3) lv (.null :: st) o) (kr : ∀ t : Nat, ww_V X Y ad G nL σ (pc + 3) lv (.ref t :: st) o) : ww_V X Y ad G nL σ pc lv st o := by
  obtain ⟨p, l, e, R, s, m, args, below, meth, c, cells, slots, Qf, A⟩ := X
  obtain ⟨rfl, ⟨hRf, hRl, hRc, hRs⟩, hx, hb, hml, hown, hts, hEv, hI, hAk, hA⟩ := hC
  intro H locs ls r hr hP hS hl
  rcases hEv.2.2.2.1.2 with hz | ⟨t, hz⟩
  · exact va_gets (ref := "jdk/internal/util/Preconditions") hx hb hz hS hown (hts _ sf_for) (fun _ h9 => h9) hd (kn H locs ls r hr hP hS hl)
  · exact va_gets (ref := "jdk/internal/util/Preconditions") hx hb hz hS hown (hts _ sf_for) (fun _ h9 => h9) hd (kr t H locs ls r hr hP hS hl)
theorem ww_stlen (hC : ww_C X l0 Y ad G h cc nL own) {i : Nat} (hi : i < 6) (hd : decode cc pc = .ok (.arraylength, 1)) (kk : ww_V X Y ad G nL σ (pc + 1) lv (.int (nI (ww_sl.getD i 0)) :: st) o) : ww_V X Y ad G nL σ pc lv (.ref (Y.2.2.1 i) :: st) o := by
  obtain ⟨p, l, e, R, s, m, args, below, meth, c, cells, slots, Qf, A⟩ := X
  obtain ⟨rfl, ⟨hRf, hRl, hRc, hRs⟩, hx, hb, hml, hown, hts, hEv, hI, hAk, hA⟩ := hC
  intro H locs ls r hr hP hS hl
  exact va_tlen hx hb (hEv.2.2.1.1 i hi).2.2.2 hS rfl hd (kk H locs ls r hr hP hS hl)
theorem ww_stb (hC : ww_C X l0 Y ad G h cc nL own) {i : Nat} {k : Int32} (hi : i < 6) (hk : vp_in k (ww_sl.getD i 0)) (hd : decode cc pc = .ok (.baload, 1)) (kk : ww_V X Y ad G nL σ (pc + 1) lv (.int ((ww_sb.getD i []).getD (ww_ix k) 0) :: st) o) : ww_V X Y ad G nL σ pc lv (.int k :: .ref (Y.2.2.1 i) :: st) o := by
  obtain ⟨p, l, e, R, s, m, args, below, meth, c, cells, slots, Qf, A⟩ := X
  obtain ⟨rfl, ⟨hRf, hRl, hRc, hRs⟩, hx, hb, hml, hown, hts, hEv, hI, hAk, hA⟩ := hC
  intro H locs ls r hr hP hS hl
  exact va_tb hx hb (hEv.2.2.1.1 i hi).2.2.2 hS hk rfl hd (kk H locs ls r hr hP hS hl)
theorem ww_i2c (hC : ww_C X l0 Y ad G h cc nL own) {x v : Int32} (hd : decode cc pc = .ok (.i2c, 1)) (hv : (x.toUInt32 % 65536).toInt32 = v) (kk : ww_V X Y ad G nL σ (pc + 1) lv (.int v :: st) o) : ww_V X Y ad G nL σ pc lv (.int x :: st) o := by
  obtain ⟨p, l, e, R, s, m, args, below, meth, c, cells, slots, Qf, A⟩ := X
  obtain ⟨rfl, ⟨hRf, hRl, hRc, hRs⟩, hx, hb, hml, hown, hts, hEv, hI, hAk, hA⟩ := hC
  intro H locs ls r hr hP hS hl
  exact lv_i2c hx hb hd hv (kk H locs ls r hr hP hS hl)
end WSPEC
set_option maxHeartbeats 4000000 in
set_option maxRecDepth 100000 in
theorem c_scoder {l : Launch} {Y : ww_Y} {ad : Nat → Nat} {G : List ww_L} {i : Nat} (hi : i < 6) (σ : ww_M) : ww_Cn l Y ad G yJ0_coder_7d493 cJ0_coder_7d493 1 (some .byte) 1 [.ref (Y.2.2.2 i)] σ (some (some (.int 0), σ)) := by
  refine ww_met (by decide +kernel) (Nat.le_of_ble_eq_true rfl) ?_
  intro X hC hR
  have hC : ww_C X l Y ad G 1 cJ0_coder_7d493 1 RJ0 := hC
  show ww_V X Y ad G 1 σ 0 [(0, .ref (Y.2.2.2 i))] [] (some (some (.int 0), σ))
  refine ww_scmp (pc := 0) hC dJ0_coder_7d493_0 ?_
  refine ww_if_eqR (pc := 3) (tgt := 13) hC dJ0_coder_7d493_3 (by decide) (fun q => absurd q (by decide)) (fun _ => ?_)
  refine ww_aload_n (pc := 6) hC 0 rfl dJ0_coder_7d493_6 rfl ?_
  refine ww_scod (pc := 7) hC hi dJ0_coder_7d493_7 ?_
  refine ww_goto (pc := 10) (tgt := 14) hC dJ0_coder_7d493_10 (by decide) ?_
  exact ww_zreturn (pc := 14) hC hR dJ0_coder_7d493_14 rfl rfl
set_option maxHeartbeats 4000000 in
set_option maxRecDepth 100000 in
theorem c_slat {l : Launch} {Y : ww_Y} {ad : Nat → Nat} {G : List ww_L} {i : Nat} (hi : i < 6) (σ : ww_M) : ww_Cn l Y ad G yJ0_isLatin1_aae02 cJ0_isLatin1_aae02 1 (some .boolean) 1 [.ref (Y.2.2.2 i)] σ (some (some (.int 1), σ)) := by
  refine ww_met (by decide +kernel) (Nat.le_of_ble_eq_true rfl) ?_
  intro X hC hR
  have hC : ww_C X l Y ad G 1 cJ0_isLatin1_aae02 1 RJ0 := hC
  show ww_V X Y ad G 1 σ 0 [(0, .ref (Y.2.2.2 i))] [] (some (some (.int 1), σ))
  refine ww_scmp (pc := 0) hC dJ0_isLatin1_aae02_0 ?_
  refine ww_if_eqR (pc := 3) (tgt := 17) hC dJ0_isLatin1_aae02_3 (by decide) (fun q => absurd q (by decide)) (fun _ => ?_)
  refine ww_aload_n (pc := 6) hC 0 rfl dJ0_isLatin1_aae02_6 rfl ?_
  refine ww_scod (pc := 7) hC hi dJ0_isLatin1_aae02_7 ?_
  refine ww_if_neR (pc := 10) (tgt := 17) hC dJ0_isLatin1_aae02_10 (by decide) (fun q => absurd rfl q) (fun _ => ?_)
  refine ww_iconst (pc := 13) (v := 1) hC dJ0_isLatin1_aae02_13 rfl ?_
  refine ww_goto (pc := 14) (tgt := 18) hC dJ0_isLatin1_aae02_14 (by decide) ?_
  exact ww_zreturn (pc := 18) hC hR dJ0_isLatin1_aae02_18 rfl rfl
set_option maxHeartbeats 4000000 in
set_option maxRecDepth 100000 in
theorem c_slen {l : Launch} {Y : ww_Y} {ad : Nat → Nat} {G : List ww_L} {i : Nat} (hi : i < 6) (σ : ww_M) : ww_Cn l Y ad G yJ0_length_8abf5 cJ0_length_8abf5 1 (some .int) 2 [.ref (Y.2.2.2 i)] σ (some (some (.int (ww_slen i)), σ)) := by
  refine ww_met (by decide +kernel) (Nat.le_of_ble_eq_true rfl) ?_
  intro X hC hR
  have hC : ww_C X l Y ad G 2 cJ0_length_8abf5 1 RJ0 := hC
  show ww_V X Y ad G 1 σ 0 [(0, .ref (Y.2.2.2 i))] [] (some (some (.int (ww_slen i)), σ))
  refine ww_aload_n (pc := 0) hC 0 rfl dJ0_length_8abf5_0 rfl ?_
  refine ww_sval (pc := 1) hC hi dJ0_length_8abf5_1 ?_
  refine ww_stlen (pc := 4) hC hi dJ0_length_8abf5_4 ?_
  refine ww_aload_n (pc := 5) hC 0 rfl dJ0_length_8abf5_5 rfl ?_
  refine ww_callVS (pc := 6) (st := [.int (nI (ww_sl.getD i 0))]) (As := []) hC hi (c_scoder hi σ) sm_cod rfl sk_cod (by omega) (by decide) (Nat.le_of_ble_eq_true rfl) rfl dJ0_length_8abf5_6 ?_
  show ww_V X Y ad G 1 σ 9 _ [.int 0, .int (nI (ww_sl.getD i 0))] _
  refine ww_ishr (pc := 9) hC dJ0_length_8abf5_9 ?_
  have e : ww_shr (nI (ww_sl.getD i 0)) 0 = ww_slen i := sb_shr0 _
  rw [e]
  exact ww_ireturn (pc := 10) hC hR dJ0_length_8abf5_10 rfl
set_option maxHeartbeats 4000000 in
set_option maxRecDepth 100000 in
theorem c_spreN {l : Launch} {Y : ww_Y} {ad : Nat → Nat} {G : List ww_L} {x y : Int32} (h1 : ¬ x < 0) (h2 : x < y) (σ : ww_M) : ww_Cn l Y ad G yJ3_checkIndex_8e157 cJ3_checkIndex_8e157 3 (some .int) 1 [.int x, .int y, .null] σ (some (some (.int x), σ)) := by
  refine ww_met (by decide +kernel) (Nat.le_of_ble_eq_true rfl) ?_
  intro X hC hR
  have hC : ww_C X l Y ad G 1 cJ3_checkIndex_8e157 3 RJ3 := hC
  show ww_V X Y ad G 3 σ 0 [(0, .int x), (1, .int y), (2, .null)] [] (some (some (.int x), σ))
  refine ww_iload_n (pc := 0) hC 0 rfl dJ3_checkIndex_8e157_0 rfl ?_
  refine ww_if_ltR (pc := 1) (tgt := 9) hC dJ3_checkIndex_8e157_1 (by decide) (fun q => absurd q h1) (fun _ => ?_)
  refine ww_iload_n (pc := 4) hC 0 rfl dJ3_checkIndex_8e157_4 rfl ?_
  refine ww_iload_n (pc := 5) hC 1 rfl dJ3_checkIndex_8e157_5 rfl ?_
  refine ww_icmp_ltR (pc := 6) (tgt := 16) hC dJ3_checkIndex_8e157_6 (by decide) (fun _ => ?_) (fun q => absurd h2 q)
  refine ww_iload_n (pc := 16) hC 0 rfl dJ3_checkIndex_8e157_16 rfl ?_
  exact ww_ireturn (pc := 17) hC hR dJ3_checkIndex_8e157_17 rfl
set_option maxHeartbeats 4000000 in
set_option maxRecDepth 100000 in
theorem c_spreR {l : Launch} {Y : ww_Y} {ad : Nat → Nat} {G : List ww_L} {t : Nat} {x y : Int32} (h1 : ¬ x < 0) (h2 : x < y) (σ : ww_M) : ww_Cn l Y ad G yJ3_checkIndex_8e157 cJ3_checkIndex_8e157 3 (some .int) 1 [.int x, .int y, .ref t] σ (some (some (.int x), σ)) := by
  refine ww_met (by decide +kernel) (Nat.le_of_ble_eq_true rfl) ?_
  intro X hC hR
  have hC : ww_C X l Y ad G 1 cJ3_checkIndex_8e157 3 RJ3 := hC
  show ww_V X Y ad G 3 σ 0 [(0, .int x), (1, .int y), (2, .ref t)] [] (some (some (.int x), σ))
  refine ww_iload_n (pc := 0) hC 0 rfl dJ3_checkIndex_8e157_0 rfl ?_
  refine ww_if_ltR (pc := 1) (tgt := 9) hC dJ3_checkIndex_8e157_1 (by decide) (fun q => absurd q h1) (fun _ => ?_)
  refine ww_iload_n (pc := 4) hC 0 rfl dJ3_checkIndex_8e157_4 rfl ?_
  refine ww_iload_n (pc := 5) hC 1 rfl dJ3_checkIndex_8e157_5 rfl ?_
  refine ww_icmp_ltR (pc := 6) (tgt := 16) hC dJ3_checkIndex_8e157_6 (by decide) (fun _ => ?_) (fun q => absurd h2 q)
  refine ww_iload_n (pc := 16) hC 0 rfl dJ3_checkIndex_8e157_16 rfl ?_
  exact ww_ireturn (pc := 17) hC hR dJ3_checkIndex_8e157_17 rfl
set_option maxHeartbeats 4000000 in
set_option maxRecDepth 100000 in
theorem c_schk {l : Launch} {Y : ww_Y} {ad : Nat → Nat} {G : List ww_L} {x y : Int32} (h1 : ¬ x < 0) (h2 : x < y) (σ : ww_M) : ww_Cn l Y ad G yJ0_checkIndex_df160 cJ0_checkIndex_df160 2 none 2 [.int x, .int y] σ (some (none, σ)) := by
  refine ww_met (by decide +kernel) (Nat.le_of_ble_eq_true rfl) ?_
  intro X hC hR
  have hC : ww_C X l Y ad G 2 cJ0_checkIndex_df160 2 RJ0 := hC
  show ww_V X Y ad G 2 σ 0 [(0, .int x), (1, .int y)] [] (some (none, σ))
  refine ww_iload_n (pc := 0) hC 0 rfl dJ0_checkIndex_df160_0 rfl ?_
  refine ww_iload_n (pc := 1) hC 1 rfl dJ0_checkIndex_df160_1 rfl ?_
  refine ww_sfor (pc := 2) hC dJ0_checkIndex_df160_2 ?_ (fun t => ?_)
  · refine ww_callS0 (pc := 5) (st := []) (As := [.int x, .int y, .null]) hC (c_spreN h1 h2 σ) sm_pre sk_pre (by omega) (by decide) (Nat.le_of_ble_eq_true rfl) rfl dJ0_checkIndex_df160_5 ?_
    show ww_V X Y ad G 2 σ 8 _ [.int x] _
    refine ww_pop (pc := 8) hC dJ0_checkIndex_df160_8 rfl ?_
    exact ww_return (pc := 9) hC hR dJ0_checkIndex_df160_9 rfl
  · refine ww_callS0 (pc := 5) (st := []) (As := [.int x, .int y, .ref t]) hC (c_spreR h1 h2 σ) sm_pre sk_pre (by omega) (by decide) (Nat.le_of_ble_eq_true rfl) rfl dJ0_checkIndex_df160_5 ?_
    show ww_V X Y ad G 2 σ 8 _ [.int x] _
    refine ww_pop (pc := 8) hC dJ0_checkIndex_df160_8 rfl ?_
    exact ww_return (pc := 9) hC hR dJ0_checkIndex_df160_9 rfl
set_option maxHeartbeats 4000000 in
set_option maxRecDepth 100000 in
theorem c_sl1c {l : Launch} {Y : ww_Y} {ad : Nat → Nat} {G : List ww_L} {i : Nat} {k : Int32} (hi : i < 6) (hk : vp_in k (ww_sl.getD i 0)) (h1 : ¬ k < 0) (h2 : k < nI (ww_sl.getD i 0)) (σ : ww_M) : ww_Cn l Y ad G yJ1_charAt_3b067 cJ1_charAt_3b067 2 (some .char) 3 [.ref (Y.2.2.1 i), .int k] σ (some (some (.int (ww_schr i (ww_ix k))), σ)) := by
  refine ww_met (by decide +kernel) (Nat.le_of_ble_eq_true rfl) ?_
  intro X hC hR
  have hC : ww_C X l Y ad G 3 cJ1_charAt_3b067 2 RJ1 := hC
  show ww_V X Y ad G 2 σ 0 [(0, .ref (Y.2.2.1 i)), (1, .int k)] [] (some (some (.int (ww_schr i (ww_ix k))), σ))
  refine ww_iload_n (pc := 0) hC 1 rfl dJ1_charAt_3b067_0 rfl ?_
  refine ww_aload_n (pc := 1) hC 0 rfl dJ1_charAt_3b067_1 rfl ?_
  refine ww_stlen (pc := 2) hC hi dJ1_charAt_3b067_2 ?_
  refine ww_callS0 (pc := 3) (st := []) (As := [.int k, .int (nI (ww_sl.getD i 0))]) hC (c_schk h1 h2 σ) sm_chk sk_chk (by omega) (by decide) (Nat.le_of_ble_eq_true rfl) rfl dJ1_charAt_3b067_3 ?_
  show ww_V X Y ad G 2 σ 6 _ [] _
  refine ww_aload_n (pc := 6) hC 0 rfl dJ1_charAt_3b067_6 rfl ?_
  refine ww_iload_n (pc := 7) hC 1 rfl dJ1_charAt_3b067_7 rfl ?_
  refine ww_stb (pc := 8) hC hi hk dJ1_charAt_3b067_8 ?_
  refine ww_sipush (pc := 9) (v := 255) hC dJ1_charAt_3b067_9 rfl ?_
  refine ww_iand (pc := 12) hC dJ1_charAt_3b067_12 ?_
  refine ww_i2c (pc := 13) (v := ww_schr i (ww_ix k)) hC dJ1_charAt_3b067_13 (sc_c2 _) ?_
  exact ww_zreturn (pc := 14) hC hR dJ1_charAt_3b067_14 (sc_nar _) rfl
set_option maxHeartbeats 4000000 in
set_option maxRecDepth 100000 in
theorem c_schr {l : Launch} {Y : ww_Y} {ad : Nat → Nat} {G : List ww_L} {i : Nat} {k : Int32} (hi : i < 6) (hk : vp_in k (ww_sl.getD i 0)) (h1 : ¬ k < 0) (h2 : k < nI (ww_sl.getD i 0)) (σ : ww_M) : ww_Cn l Y ad G yJ0_charAt_5068e cJ0_charAt_5068e 2 (some .char) 4 [.ref (Y.2.2.2 i), .int k] σ (some (some (.int (ww_schr i (ww_ix k))), σ)) := by
  refine ww_met (by decide +kernel) (Nat.le_of_ble_eq_true rfl) ?_
  intro X hC hR
  have hC : ww_C X l Y ad G 4 cJ0_charAt_5068e 2 RJ0 := hC
  show ww_V X Y ad G 2 σ 0 [(0, .ref (Y.2.2.2 i)), (1, .int k)] [] (some (some (.int (ww_schr i (ww_ix k))), σ))
  refine ww_aload_n (pc := 0) hC 0 rfl dJ0_charAt_5068e_0 rfl ?_
  refine ww_callVS (pc := 1) (st := []) (As := []) hC hi (c_slat hi σ) sm_lat rfl sk_lat (by omega) (by decide) (Nat.le_of_ble_eq_true rfl) rfl dJ0_charAt_5068e_1 ?_
  show ww_V X Y ad G 2 σ 4 _ [.int 1] _
  refine ww_if_eqR (pc := 4) (tgt := 16) hC dJ0_charAt_5068e_4 (by decide) (fun q => absurd q (by decide)) (fun _ => ?_)
  refine ww_aload_n (pc := 7) hC 0 rfl dJ0_charAt_5068e_7 rfl ?_
  refine ww_sval (pc := 8) hC hi dJ0_charAt_5068e_8 ?_
  refine ww_iload_n (pc := 11) hC 1 rfl dJ0_charAt_5068e_11 rfl ?_
  refine ww_callS0 (pc := 12) (st := []) (As := [.ref (Y.2.2.1 i), .int k]) hC (c_sl1c hi hk h1 h2 σ) sm_l1c sk_l1c (by omega) (by decide) (Nat.le_of_ble_eq_true rfl) rfl dJ0_charAt_5068e_12 ?_
  show ww_V X Y ad G 2 σ 15 _ [.int (ww_schr i (ww_ix k))] _
  exact ww_zreturn (pc := 15) hC hR dJ0_charAt_5068e_15 (sc_nar _) rfl
theorem ww_fill_0 (σ : ww_M) (k : Nat) (x : Int32) : ww_fill σ k 0 x = σ := by
  funext a b
  by_cases h : a = k
  · subst h; simp [ww_fill, ww_upr]
  · simp [ww_fill, ww_upr, h]
theorem ww_fill_s (σ : ww_M) (k n : Nat) (x : Int32) : ww_up (ww_fill σ k n x) k n x = ww_fill σ k (n + 1) x := by
  funext a b
  by_cases h : a = k
  · subst h
    by_cases h2 : b = n
    · subst h2; simp [ww_up, ww_fill, ww_upr]
    · simp only [ww_up, ww_fill, ww_upr, if_true, if_neg h2]
      by_cases h3 : b < n
      · rw [if_pos h3, if_pos (by omega)]
      · rw [if_neg h3, if_neg (by omega)]
  · simp [ww_up, ww_fill, ww_upr, h]
theorem ww_in_nI {j n : Nat} (h : j < n) (hn : n < 2147483648) : ww_in (nI j) n = true ∧ ww_ix (nI j) = j := by
  refine ⟨decide_eq_true (vp_in_nI h hn), nI_clamp (by omega)⟩
set_option maxHeartbeats 4000000 in
set_option maxRecDepth 100000 in
theorem c_fill {l : Launch} {Y : ww_Y} {ad : Nat → Nat} {G : List ww_L} {k n : Nat} {x : Int32} (hG : G[k]? = some (.inr (.inl (0, n)))) (hn : n < 2147483648) (σ : ww_M) : ww_Cn l Y ad G yJ7_fill_53178 cJ7_fill_53178 4 none 1 [.ref (ad k), .int x] σ (some (none, ww_fill σ k n x)) := by
  refine ww_met (by decide +kernel) (Nat.le_of_ble_eq_true rfl) ?_
  intro X hC hR
  have hC : ww_C X l Y ad G 1 cJ7_fill_53178 4 RJ7 := hC
  show ww_V X Y ad G 4 σ 0 [(0, .ref (ad k)), (1, .int x)] [] (some (none, ww_fill σ k n x))
  have key : ∀ j, j ≤ n → ww_V X Y ad G 4 (ww_fill σ k (n - j) x) 5 [(0, .ref (ad k)), (1, .int x), (2, .int (nI (n - j))), (3, .int (nI n))] [] (some (none, ww_fill σ k n x)) := by
    intro j
    induction j with
    | zero =>
      intro _
      refine ww_iload_n (pc := 5) hC 2 rfl dJ7_fill_53178_5 rfl ?_
      refine ww_iload_n (pc := 6) hC 3 rfl dJ7_fill_53178_6 rfl ?_
      refine ww_icmp_geR (pc := 7) (tgt := 20) hC dJ7_fill_53178_7 (by decide) (fun _ => ?_) (fun q => absurd (nI_le (Nat.le_refl _) hn) q)
      exact ww_return (pc := 20) hC hR dJ7_fill_53178_20 rfl
    | succ j ih =>
      intro hj
      refine ww_iload_n (pc := 5) hC 2 rfl dJ7_fill_53178_5 rfl ?_
      refine ww_iload_n (pc := 6) hC 3 rfl dJ7_fill_53178_6 rfl ?_
      refine ww_icmp_geR (pc := 7) (tgt := 20) hC dJ7_fill_53178_7 (by decide) (fun q => absurd q (nI_ge (by omega) hn)) (fun _ => ?_)
      refine ww_aload_n (pc := 10) hC 0 rfl dJ7_fill_53178_10 rfl ?_
      refine ww_iload_n (pc := 11) hC 2 rfl dJ7_fill_53178_11 rfl ?_
      refine ww_iload_n (pc := 12) hC 1 rfl dJ7_fill_53178_12 rfl ?_
      have hz := ww_in_nI (j := n - (j + 1)) (n := n) (by omega) hn
      refine ww_iast_c (pc := 13) hC hG hz.1 hz.2 dJ7_fill_53178_13 ?_
      refine ww_iinc (pc := 14) (v := nI (n - j)) (lv' := [(2, .int (nI (n - j))), (0, .ref (ad k)), (1, .int x), (3, .int (nI n))]) hC 2 rfl dJ7_fill_53178_14 (by rw [show n - j = (n - (j + 1)) + 1 by omega]; exact nI_1 _) (by decide) rfl ?_
      refine ww_goto (pc := 17) (tgt := 5) hC dJ7_fill_53178_17 (by decide) ?_
      refine ww_lv [1, 2, 0, 3] rfl ?_
      rw [ww_fill_s, show (n - (j + 1)) + 1 = n - j by omega]
      exact ih (by omega)
  refine ww_iconst (pc := 0) (v := 0) hC dJ7_fill_53178_0 rfl ?_
  refine ww_istore_n (pc := 1) (lv' := [(2, .int 0), (0, .ref (ad k)), (1, .int x)]) hC dJ7_fill_53178_1 rfl (by decide) rfl ?_
  refine ww_aload_n (pc := 2) hC 1 rfl dJ7_fill_53178_2 rfl ?_
  refine ww_alen (pc := 3) (v := nI n) hC hG (fun _ => rfl) rfl dJ7_fill_53178_3 ?_
  refine ww_istore_n (pc := 4) (lv' := [(3, .int (nI n)), (2, .int 0), (0, .ref (ad k)), (1, .int x)]) hC dJ7_fill_53178_4 rfl (by decide) rfl ?_
  refine ww_lv [2, 3, 1, 0] rfl ?_
  have k0 := key n (Nat.le_refl _)
  rw [Nat.sub_self, ww_fill_0] at k0
  exact k0
theorem ww_cpy_va (σ : ww_M) (a b n : Nat) : ww_upr σ b (va_cpy (σ a) (σ b) 0 0 n) = ww_cpy σ a b n := by
  funext x y
  by_cases h : x = b
  · subst h; simp [ww_upr, ww_cpy, va_cpy]
  · simp [ww_upr, ww_cpy, h]
section WCPY
variable {X : ww_X} {l0 : Launch} {Y : ww_Y} {ad : Nat → Nat} {G : List ww_L} {h nL pc : Nat} {cc : ByteArray} {own : String} {σ : ww_M} {lv : List (Nat × Value)} {st : List Value} {o : Option ww_R}
theorem ww_acopy (hC : ww_C X l0 Y ad G h cc nL RX2) {k q n : Nat} (hG : G[k]? = some (.inr (.inl (0, n)))) (hG2 : G[q]? = some (.inr (.inl (0, n)))) (hn : n < 2147483648) (hh : 1 ≤ h) (hs : (st.map fun v => v.category).sum ≤ 8) (hd : decode cc pc = .ok (.invokestatic 80, 3)) (kk : ww_V X Y ad G nL (ww_cpy σ k q n) (pc + 3) lv st o) : ww_V X Y ad G nL σ pc lv (.int (nI n) :: .int 0 :: .ref (ad q) :: .int 0 :: .ref (ad k) :: st) o := by
  obtain ⟨p, l, e, R, s, m, args, below, meth, c, cells, slots, Qf, A⟩ := X
  obtain ⟨rfl, ⟨hRf, hRl, hRc, hRs⟩, hx, hb, hml, hown, hts, hEv, hI, hAk, hA⟩ := hC
  intro H locs ls r hr hP hS hl
  have hc0 : (nI n).toNatClampNeg = n := nI_clamp hn
  have hnw : nativeFrameWords "java/lang/System" "arraycopy" 5 + 11 ≤ 32 := by decide
  refine va_copyi hx hb (by rw [hml]; exact hl.1.symm) hown (hts _ sa_lk) (hts _ sa_na) (hts _ sa_st) (hts _ sa_in) hEv.1 hP (ww_D hI hAk) hS k q 0 0 (ww_W_get hG) (ww_W_get hG2) rfl rfl rfl (sp := 0) (dp := 0) (n := nI n) (by decide) (by decide) (nI_pos hn) (by rw [hc0]; show 0 + n ≤ n; omega) (by rw [hc0]; show 0 + n ≤ n; omega) (fun _ _ => rfl) (by omega) (by omega) hd (fun H1 locs1 hP1 _ hS1 => ?_)
  rw [hc0] at hP1
  rw [ww_W_row hG2, show (0 : Int32).toNatClampNeg = 0 from rfl, ww_cpy_va] at hP1
  exact kk H1 locs1 ls r hr hP1 hS1 hl
end WCPY
set_option maxHeartbeats 4000000 in
set_option maxRecDepth 100000 in
theorem c_copyAll {l : Launch} {Y : ww_Y} {ad : Nat → Nat} {G : List ww_L} {k q n : Nat} (hG : G[k]? = some (.inr (.inl (0, n)))) (hG2 : G[q]? = some (.inr (.inl (0, n)))) (hn : n < 2147483648) (σ : ww_M) : ww_Cn l Y ad G yX2_copyAll cX2_copyAll 2 none 1 [.ref (ad k), .ref (ad q)] σ (some (none, ww_cpy σ k q n)) := by
  refine ww_met (by decide +kernel) (Nat.le_of_ble_eq_true rfl) ?_
  intro X hC hR
  have hC : ww_C X l Y ad G 1 cX2_copyAll 2 RX2 := hC
  show ww_V X Y ad G 2 σ 0 [(0, .ref (ad k)), (1, .ref (ad q))] [] (some (none, ww_cpy σ k q n))
  refine ww_aload_n (pc := 0) hC 0 rfl dX2_copyAll_0 rfl ?_
  refine ww_iconst (pc := 1) (v := 0) hC dX2_copyAll_1 rfl ?_
  refine ww_aload_n (pc := 2) hC 1 rfl dX2_copyAll_2 rfl ?_
  refine ww_iconst (pc := 3) (v := 0) hC dX2_copyAll_3 rfl ?_
  refine ww_aload_n (pc := 4) hC 0 rfl dX2_copyAll_4 rfl ?_
  refine ww_alen (pc := 5) (v := nI n) hC hG (fun _ => rfl) rfl dX2_copyAll_5 ?_
  refine ww_aload_n (pc := 6) hC 1 rfl dX2_copyAll_6 rfl ?_
  refine ww_alen (pc := 7) (v := nI n) hC hG2 (fun _ => rfl) rfl dX2_copyAll_7 ?_
  refine ww_mmin (pc := 8) hC dX2_copyAll_8 sn_lk sn_st sn_in sn_co (by omega) (Nat.le_of_ble_eq_true rfl) ?_
  have e : ww_min (nI n) (nI n) = nI n := by simp [ww_min]
  rw [e]
  refine ww_acopy (pc := 11) hC hG hG2 hn (by omega) (Nat.le_of_ble_eq_true rfl) dX2_copyAll_11 ?_
  exact ww_return (pc := 14) hC hR dX2_copyAll_14 rfl
section WSPEC2
variable {X : ww_X} {l0 : Launch} {Y : ww_Y} {ad : Nat → Nat} {G : List ww_L} {h nL pc : Nat} {cc : ByteArray} {own : String} {σ : ww_M} {lv : List (Nat × Value)} {st : List Value} {o : Option ww_R} {α : Type} {K : α → Option ww_R}
theorem ww_fillR (hC : ww_C X l0 Y ad G h cc nL own) {k n index : Nat} {x : Int32} (hG : G[k]? = some (.inr (.inl (0, n)))) (hn : n < 2147483648) (hlk : Cond.methodLink own index yJ7_fill_53178 ∈ ww_T) (hh : 2 ≤ h) (hs8 : (st.map fun v => v.category).sum ≤ 8) (hd : decode cc pc = .ok (.invokestatic index, 3)) (kk : ww_V X Y ad G nL (ww_fill σ k n x) (pc + 3) lv st o) : ww_V X Y ad G nL σ pc lv (.int x :: .ref (ad k) :: st) o :=
  ww_callS0 (st := st) (As := [.ref (ad k), .int x]) hC (c_fill hG hn σ) sm_fill hlk hh (by decide) hs8 rfl hd kk
theorem ww_copyR (hC : ww_C X l0 Y ad G h cc nL own) {k q n index : Nat} (hG : G[k]? = some (.inr (.inl (0, n)))) (hG2 : G[q]? = some (.inr (.inl (0, n)))) (hn : n < 2147483648) (hlk : Cond.methodLink own index yX2_copyAll ∈ ww_T) (hh : 2 ≤ h) (hs8 : (st.map fun v => v.category).sum ≤ 8) (hd : decode cc pc = .ok (.invokestatic index, 3)) (kk : ww_V X Y ad G nL (ww_cpy σ k q n) (pc + 3) lv st o) : ww_V X Y ad G nL σ pc lv (.ref (ad q) :: .ref (ad k) :: st) o :=
  ww_callS0 (st := st) (As := [.ref (ad k), .ref (ad q)]) hC (c_copyAll hG hG2 hn σ) sm_cpy hlk hh (by decide) hs8 rfl hd kk
theorem ww_strlen (hC : ww_C X l0 Y ad G h cc nL own) {i index : Nat} (hi : i < 6) (hlk : Cond.methodLink own index yJ0_length_8abf5 ∈ ww_T) (hh : 3 ≤ h) (hs8 : (st.map fun v => v.category).sum ≤ 8) (hd : decode cc pc = .ok (.invokevirtual index, 3)) (kk : ww_V X Y ad G nL σ (pc + 3) lv (.int (ww_slen i) :: st) o) : ww_V X Y ad G nL σ pc lv (.ref (Y.2.2.2 i) :: st) o :=
  ww_callVS (st := st) (As := []) hC hi (c_slen hi σ) sm_len rfl hlk hh (by decide) hs8 rfl hd kk
theorem ww_strchr (hC : ww_C X l0 Y ad G h cc nL own) {E : Option α} {i index : Nat} {k : Int32} (hi : i < 6) (hlk : Cond.methodLink own index yJ0_charAt_5068e ∈ ww_T) (hh : 5 ≤ h) (hs8 : (st.map fun v => v.category).sum ≤ 8) (hd : decode cc pc = .ok (.invokevirtual index, 3)) (kk : ww_V X Y ad G nL σ (pc + 3) lv (.int (ww_schr i (ww_ix k)) :: st) (E.bind K)) : ww_V X Y ad G nL σ pc lv (.int k :: .ref (Y.2.2.2 i) :: st) ((ww_ck (ww_sin i k) E).bind K) := by
  cases hq : ww_sin i k with
  | false => exact ww_none rfl
  | true =>
    have hv : vp_in k (ww_sl.getD i 0) := ww_in_p hq
    have hl6 : ∀ j, j < 6 → ww_sl.getD j 0 < 2147483648 := by decide
    obtain ⟨j, hj, rfl⟩ := vp_in_of hv (hl6 i hi)
    exact ww_callVS (st := st) (As := [.int (nI j)]) hC hi (c_schr hi hv (nI_pos (by have := hl6 i hi; omega)) (nI_lt hj (hl6 i hi)) σ) sm_chr rfl hlk hh (by decide) hs8 rfl hd kk
end WSPEC2
end
