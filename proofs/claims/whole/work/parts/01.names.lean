-- ===== PART A: goes FIRST, ahead of the names: the tables' words, and 'selects' of the private methods out of them =====
/-- a private method of a class that the tables say can be made, by its rows of tables_1 -/
def lw_okq (q : MethodName × Nat) : Prop := (q.1.cls ≠ "java/lang/invoke/MethodHandle" ∧ q.1.cls ≠ "java/lang/invoke/VarHandle") ∧ Cond.instantiable q.1.cls q.2 ∈ tables_1 ∧ Cond.privateMethod q.1 ∈ tables_1 ∧ Cond.instanceMethod q.1 ∈ tables_1
theorem lw_p0 : lw_okq (⟨"CanBits", "begin", "(I)V"⟩, 14) := ⟨⟨by decide +kernel, by decide +kernel⟩, List.mem_of_getElem? (i := 22) (by decide +kernel), List.mem_of_getElem? (i := 276) (by decide +kernel), List.mem_of_getElem? (i := 277) (by decide +kernel)⟩
theorem lw_p1 : lw_okq (⟨"CanBits$Node", "enter", "(I)V"⟩, 10) := ⟨⟨by decide +kernel, by decide +kernel⟩, List.mem_of_getElem? (i := 31) (by decide +kernel), List.mem_of_getElem? (i := 288) (by decide +kernel), List.mem_of_getElem? (i := 289) (by decide +kernel)⟩
theorem lw_p2 : lw_okq (⟨"java/lang/Throwable", "fillInStackTrace", "(I)Ljava/lang/Throwable;"⟩, 6) := ⟨⟨by decide +kernel, by decide +kernel⟩, List.mem_of_getElem? (i := 372) (by decide +kernel), List.mem_of_getElem? (i := 370) (by decide +kernel), List.mem_of_getElem? (i := 371) (by decide +kernel)⟩
theorem lw_p3 : lw_okq (⟨"CanBits", "needNode", "(I)V"⟩, 14) := ⟨⟨by decide +kernel, by decide +kernel⟩, List.mem_of_getElem? (i := 22) (by decide +kernel), List.mem_of_getElem? (i := 465) (by decide +kernel), List.mem_of_getElem? (i := 466) (by decide +kernel)⟩
theorem lw_p4 : lw_okq (⟨"CanBits$Writer", "begin", "()V"⟩, 4) := ⟨⟨by decide +kernel, by decide +kernel⟩, List.mem_of_getElem? (i := 253) (by decide +kernel), List.mem_of_getElem? (i := 533) (by decide +kernel), List.mem_of_getElem? (i := 534) (by decide +kernel)⟩
theorem lw_p5 : lw_okq (⟨"CanBits$Writer", "writePlain", "(LCanBits$Frame;IZ)V"⟩, 4) := ⟨⟨by decide +kernel, by decide +kernel⟩, List.mem_of_getElem? (i := 253) (by decide +kernel), List.mem_of_getElem? (i := 548) (by decide +kernel), List.mem_of_getElem? (i := 549) (by decide +kernel)⟩
theorem lw_p6 : lw_okq (⟨"CanBits$Writer", "writeStuffBit", "(LCanBits$Frame;)V"⟩, 4) := ⟨⟨by decide +kernel, by decide +kernel⟩, List.mem_of_getElem? (i := 253) (by decide +kernel), List.mem_of_getElem? (i := 552) (by decide +kernel), List.mem_of_getElem? (i := 553) (by decide +kernel)⟩
theorem lw_p7 : lw_okq (⟨"CanBits$Writer", "writeNumber", "(LCanBits$Frame;II)V"⟩, 4) := ⟨⟨by decide +kernel, by decide +kernel⟩, List.mem_of_getElem? (i := 253) (by decide +kernel), List.mem_of_getElem? (i := 572) (by decide +kernel), List.mem_of_getElem? (i := 573) (by decide +kernel)⟩
theorem lw_p8 : lw_okq (⟨"CanBits$Writer", "writeFixed", "(LCanBits$Frame;)V"⟩, 4) := ⟨⟨by decide +kernel, by decide +kernel⟩, List.mem_of_getElem? (i := 253) (by decide +kernel), List.mem_of_getElem? (i := 576) (by decide +kernel), List.mem_of_getElem? (i := 577) (by decide +kernel)⟩
theorem lw_p9 : lw_okq (⟨"CanBits", "firstOf", "(I)LCanBits$Frame;"⟩, 14) := ⟨⟨by decide +kernel, by decide +kernel⟩, List.mem_of_getElem? (i := 22) (by decide +kernel), List.mem_of_getElem? (i := 596) (by decide +kernel), List.mem_of_getElem? (i := 597) (by decide +kernel)⟩
theorem lw_p10 : lw_okq (⟨"CanBits", "needFrame", "(I)V"⟩, 14) := ⟨⟨by decide +kernel, by decide +kernel⟩, List.mem_of_getElem? (i := 22) (by decide +kernel), List.mem_of_getElem? (i := 611) (by decide +kernel), List.mem_of_getElem? (i := 612) (by decide +kernel)⟩
theorem lw_p11 : lw_okq (⟨"CanBits", "putByAll", "()I"⟩, 14) := ⟨⟨by decide +kernel, by decide +kernel⟩, List.mem_of_getElem? (i := 22) (by decide +kernel), List.mem_of_getElem? (i := 657) (by decide +kernel), List.mem_of_getElem? (i := 658) (by decide +kernel)⟩
theorem lw_p12 : lw_okq (⟨"CanBits$Node", "startSending", "(I)V"⟩, 10) := ⟨⟨by decide +kernel, by decide +kernel⟩, List.mem_of_getElem? (i := 31) (by decide +kernel), List.mem_of_getElem? (i := 665) (by decide +kernel), List.mem_of_getElem? (i := 666) (by decide +kernel)⟩
theorem lw_p13 : lw_okq (⟨"CanBits$Node", "turnToListening", "()V"⟩, 10) := ⟨⟨by decide +kernel, by decide +kernel⟩, List.mem_of_getElem? (i := 31) (by decide +kernel), List.mem_of_getElem? (i := 681) (by decide +kernel), List.mem_of_getElem? (i := 682) (by decide +kernel)⟩
theorem lw_p14 : lw_okq (⟨"CanBits$Listener", "hearTail", "(I)I"⟩, 17) := ⟨⟨by decide +kernel, by decide +kernel⟩, List.mem_of_getElem? (i := 37) (by decide +kernel), List.mem_of_getElem? (i := 699) (by decide +kernel), List.mem_of_getElem? (i := 700) (by decide +kernel)⟩
theorem lw_p15 : lw_okq (⟨"CanBits$Listener", "hearFixed", "(I)I"⟩, 17) := ⟨⟨by decide +kernel, by decide +kernel⟩, List.mem_of_getElem? (i := 37) (by decide +kernel), List.mem_of_getElem? (i := 703) (by decide +kernel), List.mem_of_getElem? (i := 704) (by decide +kernel)⟩
def lw_privs_1 : List (MethodName × Nat) := [(⟨"CanBits", "begin", "(I)V"⟩, 14), (⟨"CanBits$Node", "enter", "(I)V"⟩, 10), (⟨"java/lang/Throwable", "fillInStackTrace", "(I)Ljava/lang/Throwable;"⟩, 6), (⟨"CanBits", "needNode", "(I)V"⟩, 14), (⟨"CanBits$Writer", "begin", "()V"⟩, 4), (⟨"CanBits$Writer", "writePlain", "(LCanBits$Frame;IZ)V"⟩, 4), (⟨"CanBits$Writer", "writeStuffBit", "(LCanBits$Frame;)V"⟩, 4), (⟨"CanBits$Writer", "writeNumber", "(LCanBits$Frame;II)V"⟩, 4), (⟨"CanBits$Writer", "writeFixed", "(LCanBits$Frame;)V"⟩, 4), (⟨"CanBits", "firstOf", "(I)LCanBits$Frame;"⟩, 14), (⟨"CanBits", "needFrame", "(I)V"⟩, 14), (⟨"CanBits", "putByAll", "()I"⟩, 14), (⟨"CanBits$Node", "startSending", "(I)V"⟩, 10), (⟨"CanBits$Node", "turnToListening", "()V"⟩, 10), (⟨"CanBits$Listener", "hearTail", "(I)I"⟩, 17), (⟨"CanBits$Listener", "hearFixed", "(I)I"⟩, 17)]
theorem lw_r1 : ∀ q ∈ lw_privs_1, lw_okq q := List.forall_mem_cons.mpr ⟨lw_p0, List.forall_mem_cons.mpr ⟨lw_p1, List.forall_mem_cons.mpr ⟨lw_p2, List.forall_mem_cons.mpr ⟨lw_p3, List.forall_mem_cons.mpr ⟨lw_p4, List.forall_mem_cons.mpr ⟨lw_p5, List.forall_mem_cons.mpr ⟨lw_p6, List.forall_mem_cons.mpr ⟨lw_p7, List.forall_mem_cons.mpr ⟨lw_p8, List.forall_mem_cons.mpr ⟨lw_p9, List.forall_mem_cons.mpr ⟨lw_p10, List.forall_mem_cons.mpr ⟨lw_p11, List.forall_mem_cons.mpr ⟨lw_p12, List.forall_mem_cons.mpr ⟨lw_p13, List.forall_mem_cons.mpr ⟨lw_p14, List.forall_mem_cons.mpr ⟨lw_p15, fun _ h => absurd h List.not_mem_nil⟩⟩⟩⟩⟩⟩⟩⟩⟩⟩⟩⟩⟩⟩⟩⟩
theorem lw_p16 : lw_okq (⟨"CanBits$Listener", "endCount", "()I"⟩, 17) := ⟨⟨by decide +kernel, by decide +kernel⟩, List.mem_of_getElem? (i := 37) (by decide +kernel), List.mem_of_getElem? (i := 708) (by decide +kernel), List.mem_of_getElem? (i := 709) (by decide +kernel)⟩
theorem lw_p17 : lw_okq (⟨"CanBits$Listener", "hearStuffBit", "(I)I"⟩, 17) := ⟨⟨by decide +kernel, by decide +kernel⟩, List.mem_of_getElem? (i := 37) (by decide +kernel), List.mem_of_getElem? (i := 715) (by decide +kernel), List.mem_of_getElem? (i := 716) (by decide +kernel)⟩
theorem lw_p18 : lw_okq (⟨"CanBits$Listener", "hearPlain", "(I)I"⟩, 17) := ⟨⟨by decide +kernel, by decide +kernel⟩, List.mem_of_getElem? (i := 37) (by decide +kernel), List.mem_of_getElem? (i := 719) (by decide +kernel), List.mem_of_getElem? (i := 720) (by decide +kernel)⟩
theorem lw_p19 : lw_okq (⟨"CanBits$Listener", "hearHead", "(II)V"⟩, 17) := ⟨⟨by decide +kernel, by decide +kernel⟩, List.mem_of_getElem? (i := 37) (by decide +kernel), List.mem_of_getElem? (i := 724) (by decide +kernel), List.mem_of_getElem? (i := 725) (by decide +kernel)⟩
theorem lw_p20 : lw_okq (⟨"CanBits$Listener", "hearOctet", "(II)V"⟩, 17) := ⟨⟨by decide +kernel, by decide +kernel⟩, List.mem_of_getElem? (i := 37) (by decide +kernel), List.mem_of_getElem? (i := 738) (by decide +kernel), List.mem_of_getElem? (i := 739) (by decide +kernel)⟩
theorem lw_p21 : lw_okq (⟨"CanBits$Listener", "endPlain", "()V"⟩, 17) := ⟨⟨by decide +kernel, by decide +kernel⟩, List.mem_of_getElem? (i := 37) (by decide +kernel), List.mem_of_getElem? (i := 742) (by decide +kernel), List.mem_of_getElem? (i := 743) (by decide +kernel)⟩
theorem lw_p22 : lw_okq (⟨"CanBits$Node", "seeSending", "(I)I"⟩, 10) := ⟨⟨by decide +kernel, by decide +kernel⟩, List.mem_of_getElem? (i := 31) (by decide +kernel), List.mem_of_getElem? (i := 746) (by decide +kernel), List.mem_of_getElem? (i := 747) (by decide +kernel)⟩
theorem lw_p23 : lw_okq (⟨"CanBits$Node", "seeFlagging", "()V"⟩, 10) := ⟨⟨by decide +kernel, by decide +kernel⟩, List.mem_of_getElem? (i := 31) (by decide +kernel), List.mem_of_getElem? (i := 754) (by decide +kernel), List.mem_of_getElem? (i := 755) (by decide +kernel)⟩
theorem lw_p24 : lw_okq (⟨"CanBits$Node", "seeClearing", "(I)I"⟩, 10) := ⟨⟨by decide +kernel, by decide +kernel⟩, List.mem_of_getElem? (i := 31) (by decide +kernel), List.mem_of_getElem? (i := 758) (by decide +kernel), List.mem_of_getElem? (i := 759) (by decide +kernel)⟩
theorem lw_p25 : lw_okq (⟨"CanBits$Node", "seePausing", "(I)I"⟩, 10) := ⟨⟨by decide +kernel, by decide +kernel⟩, List.mem_of_getElem? (i := 31) (by decide +kernel), List.mem_of_getElem? (i := 762) (by decide +kernel), List.mem_of_getElem? (i := 763) (by decide +kernel)⟩
theorem lw_p26 : lw_okq (⟨"CanBits$Node", "settle", "(II)I"⟩, 10) := ⟨⟨by decide +kernel, by decide +kernel⟩, List.mem_of_getElem? (i := 31) (by decide +kernel), List.mem_of_getElem? (i := 766) (by decide +kernel), List.mem_of_getElem? (i := 767) (by decide +kernel)⟩
theorem lw_p27 : lw_okq (⟨"CanBits", "keep", "(II)V"⟩, 14) := ⟨⟨by decide +kernel, by decide +kernel⟩, List.mem_of_getElem? (i := 22) (by decide +kernel), List.mem_of_getElem? (i := 782) (by decide +kernel), List.mem_of_getElem? (i := 783) (by decide +kernel)⟩
theorem lw_p28 : lw_okq (⟨"CanBits", "finish", "(I)V"⟩, 14) := ⟨⟨by decide +kernel, by decide +kernel⟩, List.mem_of_getElem? (i := 22) (by decide +kernel), List.mem_of_getElem? (i := 786) (by decide +kernel), List.mem_of_getElem? (i := 787) (by decide +kernel)⟩
theorem lw_p29 : lw_okq (⟨"CanBitsModel", "noNode", "(I)Z"⟩, 47) := ⟨⟨by decide +kernel, by decide +kernel⟩, List.mem_of_getElem? (i := 871) (by decide +kernel), List.mem_of_getElem? (i := 1037) (by decide +kernel), List.mem_of_getElem? (i := 1038) (by decide +kernel)⟩
theorem lw_p30 : lw_okq (⟨"CanBitsModel", "noFrame", "(I)Z"⟩, 47) := ⟨⟨by decide +kernel, by decide +kernel⟩, List.mem_of_getElem? (i := 871) (by decide +kernel), List.mem_of_getElem? (i := 1045) (by decide +kernel), List.mem_of_getElem? (i := 1046) (by decide +kernel)⟩
theorem lw_p31 : lw_okq (⟨"CanBitsModel", "write", "(I)V"⟩, 47) := ⟨⟨by decide +kernel, by decide +kernel⟩, List.mem_of_getElem? (i := 871) (by decide +kernel), List.mem_of_getElem? (i := 1056) (by decide +kernel), List.mem_of_getElem? (i := 1057) (by decide +kernel)⟩
def lw_privs_2 : List (MethodName × Nat) := [(⟨"CanBits$Listener", "endCount", "()I"⟩, 17), (⟨"CanBits$Listener", "hearStuffBit", "(I)I"⟩, 17), (⟨"CanBits$Listener", "hearPlain", "(I)I"⟩, 17), (⟨"CanBits$Listener", "hearHead", "(II)V"⟩, 17), (⟨"CanBits$Listener", "hearOctet", "(II)V"⟩, 17), (⟨"CanBits$Listener", "endPlain", "()V"⟩, 17), (⟨"CanBits$Node", "seeSending", "(I)I"⟩, 10), (⟨"CanBits$Node", "seeFlagging", "()V"⟩, 10), (⟨"CanBits$Node", "seeClearing", "(I)I"⟩, 10), (⟨"CanBits$Node", "seePausing", "(I)I"⟩, 10), (⟨"CanBits$Node", "settle", "(II)I"⟩, 10), (⟨"CanBits", "keep", "(II)V"⟩, 14), (⟨"CanBits", "finish", "(I)V"⟩, 14), (⟨"CanBitsModel", "noNode", "(I)Z"⟩, 47), (⟨"CanBitsModel", "noFrame", "(I)Z"⟩, 47), (⟨"CanBitsModel", "write", "(I)V"⟩, 47)]
theorem lw_r2 : ∀ q ∈ lw_privs_2, lw_okq q := List.forall_mem_cons.mpr ⟨lw_p16, List.forall_mem_cons.mpr ⟨lw_p17, List.forall_mem_cons.mpr ⟨lw_p18, List.forall_mem_cons.mpr ⟨lw_p19, List.forall_mem_cons.mpr ⟨lw_p20, List.forall_mem_cons.mpr ⟨lw_p21, List.forall_mem_cons.mpr ⟨lw_p22, List.forall_mem_cons.mpr ⟨lw_p23, List.forall_mem_cons.mpr ⟨lw_p24, List.forall_mem_cons.mpr ⟨lw_p25, List.forall_mem_cons.mpr ⟨lw_p26, List.forall_mem_cons.mpr ⟨lw_p27, List.forall_mem_cons.mpr ⟨lw_p28, List.forall_mem_cons.mpr ⟨lw_p29, List.forall_mem_cons.mpr ⟨lw_p30, List.forall_mem_cons.mpr ⟨lw_p31, fun _ h => absurd h List.not_mem_nil⟩⟩⟩⟩⟩⟩⟩⟩⟩⟩⟩⟩⟩⟩⟩⟩
theorem lw_p32 : lw_okq (⟨"CanBitsModel", "writePlain", "(I)V"⟩, 47) := ⟨⟨by decide +kernel, by decide +kernel⟩, List.mem_of_getElem? (i := 871) (by decide +kernel), List.mem_of_getElem? (i := 1060) (by decide +kernel), List.mem_of_getElem? (i := 1061) (by decide +kernel)⟩
theorem lw_p33 : lw_okq (⟨"CanBitsModel", "bits", "(II)V"⟩, 47) := ⟨⟨by decide +kernel, by decide +kernel⟩, List.mem_of_getElem? (i := 871) (by decide +kernel), List.mem_of_getElem? (i := 1064) (by decide +kernel), List.mem_of_getElem? (i := 1065) (by decide +kernel)⟩
theorem lw_p34 : lw_okq (⟨"CanBitsModel", "check", "(I)V"⟩, 47) := ⟨⟨by decide +kernel, by decide +kernel⟩, List.mem_of_getElem? (i := 871) (by decide +kernel), List.mem_of_getElem? (i := 1069) (by decide +kernel), List.mem_of_getElem? (i := 1070) (by decide +kernel)⟩
theorem lw_p35 : lw_okq (⟨"CanBitsModel", "checkOf", "(I)I"⟩, 47) := ⟨⟨by decide +kernel, by decide +kernel⟩, List.mem_of_getElem? (i := 871) (by decide +kernel), List.mem_of_getElem? (i := 1073) (by decide +kernel), List.mem_of_getElem? (i := 1074) (by decide +kernel)⟩
theorem lw_p36 : lw_okq (⟨"CanBitsModel", "put", "(IZ)V"⟩, 47) := ⟨⟨by decide +kernel, by decide +kernel⟩, List.mem_of_getElem? (i := 871) (by decide +kernel), List.mem_of_getElem? (i := 1079) (by decide +kernel), List.mem_of_getElem? (i := 1080) (by decide +kernel)⟩
theorem lw_p37 : lw_okq (⟨"CanBitsModel", "five", "()Z"⟩, 47) := ⟨⟨by decide +kernel, by decide +kernel⟩, List.mem_of_getElem? (i := 871) (by decide +kernel), List.mem_of_getElem? (i := 1083) (by decide +kernel), List.mem_of_getElem? (i := 1084) (by decide +kernel)⟩
theorem lw_p38 : lw_okq (⟨"CanBitsModel", "writeTail", "(II)V"⟩, 47) := ⟨⟨by decide +kernel, by decide +kernel⟩, List.mem_of_getElem? (i := 871) (by decide +kernel), List.mem_of_getElem? (i := 1093) (by decide +kernel), List.mem_of_getElem? (i := 1094) (by decide +kernel)⟩
theorem lw_p39 : lw_okq (⟨"CanBitsModel", "puts", "(I)I"⟩, 47) := ⟨⟨by decide +kernel, by decide +kernel⟩, List.mem_of_getElem? (i := 871) (by decide +kernel), List.mem_of_getElem? (i := 1113) (by decide +kernel), List.mem_of_getElem? (i := 1114) (by decide +kernel)⟩
theorem lw_p40 : lw_okq (⟨"CanBitsModel", "first", "(I)I"⟩, 47) := ⟨⟨by decide +kernel, by decide +kernel⟩, List.mem_of_getElem? (i := 871) (by decide +kernel), List.mem_of_getElem? (i := 1117) (by decide +kernel), List.mem_of_getElem? (i := 1118) (by decide +kernel)⟩
theorem lw_p41 : lw_okq (⟨"CanBitsModel", "answers", "(I)Z"⟩, 47) := ⟨⟨by decide +kernel, by decide +kernel⟩, List.mem_of_getElem? (i := 871) (by decide +kernel), List.mem_of_getElem? (i := 1121) (by decide +kernel), List.mem_of_getElem? (i := 1122) (by decide +kernel)⟩
theorem lw_p42 : lw_okq (⟨"CanBitsModel", "body", "(I)I"⟩, 47) := ⟨⟨by decide +kernel, by decide +kernel⟩, List.mem_of_getElem? (i := 871) (by decide +kernel), List.mem_of_getElem? (i := 1125) (by decide +kernel), List.mem_of_getElem? (i := 1126) (by decide +kernel)⟩
theorem lw_p43 : lw_okq (⟨"CanBitsModel", "bitAt", "(II)I"⟩, 47) := ⟨⟨by decide +kernel, by decide +kernel⟩, List.mem_of_getElem? (i := 871) (by decide +kernel), List.mem_of_getElem? (i := 1129) (by decide +kernel), List.mem_of_getElem? (i := 1130) (by decide +kernel)⟩
theorem lw_p44 : lw_okq (⟨"CanBitsModel", "find", "(ZZI)V"⟩, 47) := ⟨⟨by decide +kernel, by decide +kernel⟩, List.mem_of_getElem? (i := 871) (by decide +kernel), List.mem_of_getElem? (i := 1133) (by decide +kernel), List.mem_of_getElem? (i := 1134) (by decide +kernel)⟩
theorem lw_p45 : lw_okq (⟨"CanBitsModel", "number", "(II)I"⟩, 47) := ⟨⟨by decide +kernel, by decide +kernel⟩, List.mem_of_getElem? (i := 871) (by decide +kernel), List.mem_of_getElem? (i := 1137) (by decide +kernel), List.mem_of_getElem? (i := 1138) (by decide +kernel)⟩
theorem lw_p46 : lw_okq (⟨"CanBitsModel", "tail", "()I"⟩, 47) := ⟨⟨by decide +kernel, by decide +kernel⟩, List.mem_of_getElem? (i := 871) (by decide +kernel), List.mem_of_getElem? (i := 1142) (by decide +kernel), List.mem_of_getElem? (i := 1143) (by decide +kernel)⟩
theorem lw_p47 : lw_okq (⟨"CanBitsModel", "width", "()I"⟩, 47) := ⟨⟨by decide +kernel, by decide +kernel⟩, List.mem_of_getElem? (i := 871) (by decide +kernel), List.mem_of_getElem? (i := 1146) (by decide +kernel), List.mem_of_getElem? (i := 1147) (by decide +kernel)⟩
def lw_privs_3 : List (MethodName × Nat) := [(⟨"CanBitsModel", "writePlain", "(I)V"⟩, 47), (⟨"CanBitsModel", "bits", "(II)V"⟩, 47), (⟨"CanBitsModel", "check", "(I)V"⟩, 47), (⟨"CanBitsModel", "checkOf", "(I)I"⟩, 47), (⟨"CanBitsModel", "put", "(IZ)V"⟩, 47), (⟨"CanBitsModel", "five", "()Z"⟩, 47), (⟨"CanBitsModel", "writeTail", "(II)V"⟩, 47), (⟨"CanBitsModel", "puts", "(I)I"⟩, 47), (⟨"CanBitsModel", "first", "(I)I"⟩, 47), (⟨"CanBitsModel", "answers", "(I)Z"⟩, 47), (⟨"CanBitsModel", "body", "(I)I"⟩, 47), (⟨"CanBitsModel", "bitAt", "(II)I"⟩, 47), (⟨"CanBitsModel", "find", "(ZZI)V"⟩, 47), (⟨"CanBitsModel", "number", "(II)I"⟩, 47), (⟨"CanBitsModel", "tail", "()I"⟩, 47), (⟨"CanBitsModel", "width", "()I"⟩, 47)]
theorem lw_r3 : ∀ q ∈ lw_privs_3, lw_okq q := List.forall_mem_cons.mpr ⟨lw_p32, List.forall_mem_cons.mpr ⟨lw_p33, List.forall_mem_cons.mpr ⟨lw_p34, List.forall_mem_cons.mpr ⟨lw_p35, List.forall_mem_cons.mpr ⟨lw_p36, List.forall_mem_cons.mpr ⟨lw_p37, List.forall_mem_cons.mpr ⟨lw_p38, List.forall_mem_cons.mpr ⟨lw_p39, List.forall_mem_cons.mpr ⟨lw_p40, List.forall_mem_cons.mpr ⟨lw_p41, List.forall_mem_cons.mpr ⟨lw_p42, List.forall_mem_cons.mpr ⟨lw_p43, List.forall_mem_cons.mpr ⟨lw_p44, List.forall_mem_cons.mpr ⟨lw_p45, List.forall_mem_cons.mpr ⟨lw_p46, List.forall_mem_cons.mpr ⟨lw_p47, fun _ h => absurd h List.not_mem_nil⟩⟩⟩⟩⟩⟩⟩⟩⟩⟩⟩⟩⟩⟩⟩⟩
theorem lw_p48 : lw_okq (⟨"CanBitsModel", "right", "(I)Z"⟩, 47) := ⟨⟨by decide +kernel, by decide +kernel⟩, List.mem_of_getElem? (i := 871) (by decide +kernel), List.mem_of_getElem? (i := 1150) (by decide +kernel), List.mem_of_getElem? (i := 1151) (by decide +kernel)⟩
theorem lw_p49 : lw_okq (⟨"CanBitsModel", "sees", "(II)V"⟩, 47) := ⟨⟨by decide +kernel, by decide +kernel⟩, List.mem_of_getElem? (i := 871) (by decide +kernel), List.mem_of_getElem? (i := 1154) (by decide +kernel), List.mem_of_getElem? (i := 1155) (by decide +kernel)⟩
theorem lw_p50 : lw_okq (⟨"CanBitsModel", "sent", "(II)V"⟩, 47) := ⟨⟨by decide +kernel, by decide +kernel⟩, List.mem_of_getElem? (i := 871) (by decide +kernel), List.mem_of_getElem? (i := 1158) (by decide +kernel), List.mem_of_getElem? (i := 1159) (by decide +kernel)⟩
theorem lw_p51 : lw_okq (⟨"CanBitsModel", "see", "(II)V"⟩, 47) := ⟨⟨by decide +kernel, by decide +kernel⟩, List.mem_of_getElem? (i := 871) (by decide +kernel), List.mem_of_getElem? (i := 1162) (by decide +kernel), List.mem_of_getElem? (i := 1163) (by decide +kernel)⟩
theorem lw_p52 : lw_okq (⟨"CanBitsModel", "wrong", "(II)V"⟩, 47) := ⟨⟨by decide +kernel, by decide +kernel⟩, List.mem_of_getElem? (i := 871) (by decide +kernel), List.mem_of_getElem? (i := 1166) (by decide +kernel), List.mem_of_getElem? (i := 1167) (by decide +kernel)⟩
theorem lw_p53 : lw_okq (⟨"CanBitsModel", "go", "(III)V"⟩, 47) := ⟨⟨by decide +kernel, by decide +kernel⟩, List.mem_of_getElem? (i := 871) (by decide +kernel), List.mem_of_getElem? (i := 1170) (by decide +kernel), List.mem_of_getElem? (i := 1171) (by decide +kernel)⟩
theorem lw_p54 : lw_okq (⟨"CanBitsModel", "read", "(I)I"⟩, 47) := ⟨⟨by decide +kernel, by decide +kernel⟩, List.mem_of_getElem? (i := 871) (by decide +kernel), List.mem_of_getElem? (i := 1174) (by decide +kernel), List.mem_of_getElem? (i := 1175) (by decide +kernel)⟩
theorem lw_p55 : lw_okq (⟨"CanBitsModel", "take", "(I)V"⟩, 47) := ⟨⟨by decide +kernel, by decide +kernel⟩, List.mem_of_getElem? (i := 871) (by decide +kernel), List.mem_of_getElem? (i := 1178) (by decide +kernel), List.mem_of_getElem? (i := 1179) (by decide +kernel)⟩
theorem lw_p56 : lw_okq (⟨"CanBitsModel", "pauses", "(II)V"⟩, 47) := ⟨⟨by decide +kernel, by decide +kernel⟩, List.mem_of_getElem? (i := 871) (by decide +kernel), List.mem_of_getElem? (i := 1182) (by decide +kernel), List.mem_of_getElem? (i := 1183) (by decide +kernel)⟩
theorem lw_p57 : lw_okq (⟨"CanBitsModel", "took", "(II)I"⟩, 47) := ⟨⟨by decide +kernel, by decide +kernel⟩, List.mem_of_getElem? (i := 871) (by decide +kernel), List.mem_of_getElem? (i := 1210) (by decide +kernel), List.mem_of_getElem? (i := 1211) (by decide +kernel)⟩
def lw_privs_4 : List (MethodName × Nat) := [(⟨"CanBitsModel", "right", "(I)Z"⟩, 47), (⟨"CanBitsModel", "sees", "(II)V"⟩, 47), (⟨"CanBitsModel", "sent", "(II)V"⟩, 47), (⟨"CanBitsModel", "see", "(II)V"⟩, 47), (⟨"CanBitsModel", "wrong", "(II)V"⟩, 47), (⟨"CanBitsModel", "go", "(III)V"⟩, 47), (⟨"CanBitsModel", "read", "(I)I"⟩, 47), (⟨"CanBitsModel", "take", "(I)V"⟩, 47), (⟨"CanBitsModel", "pauses", "(II)V"⟩, 47), (⟨"CanBitsModel", "took", "(II)I"⟩, 47)]
theorem lw_r4 : ∀ q ∈ lw_privs_4, lw_okq q := List.forall_mem_cons.mpr ⟨lw_p48, List.forall_mem_cons.mpr ⟨lw_p49, List.forall_mem_cons.mpr ⟨lw_p50, List.forall_mem_cons.mpr ⟨lw_p51, List.forall_mem_cons.mpr ⟨lw_p52, List.forall_mem_cons.mpr ⟨lw_p53, List.forall_mem_cons.mpr ⟨lw_p54, List.forall_mem_cons.mpr ⟨lw_p55, List.forall_mem_cons.mpr ⟨lw_p56, List.forall_mem_cons.mpr ⟨lw_p57, fun _ h => absurd h List.not_mem_nil⟩⟩⟩⟩⟩⟩⟩⟩⟩⟩
def lw_privs : List (MethodName × Nat) := lw_privs_1 ++ (lw_privs_2 ++ (lw_privs_3 ++ (lw_privs_4)))
def lw_tbl : List Cond := k2_sels lw_privs ++ tables_1
theorem lw_privs_ok : ∀ q ∈ lw_privs, lw_okq q := by
  show ∀ q ∈ lw_privs_1 ++ (lw_privs_2 ++ (lw_privs_3 ++ (lw_privs_4))), lw_okq q
  exact List.forall_mem_append.mpr ⟨lw_r1, List.forall_mem_append.mpr ⟨lw_r2, List.forall_mem_append.mpr ⟨lw_r3, lw_r4⟩⟩⟩
def RX0 : String := "CanBits$Frame"
def TX0 : u_T := fun k => match k with
  | 0 => ("CanBits$Frame", "octets", "[I", true)
  | 1 => ("CanBits$Frame", "row", "[B", true)
  | 2 => ("CanBits$Frame", "rowLength", "I", false)
  | 3 => ("CanBits$Frame", "number", "I", false)
  | 4 => ("CanBits$Frame", "node", "I", false)
  | 5 => ("CanBits$Frame", "kind", "I", false)
  | 6 => ("CanBits$Frame", "head", "J", false)
  | 7 => ("CanBits$Frame", "octetCount", "I", false)
  | _ => ("CanBits$Frame", "isDone", "Z", false)
def tyX0 : Nat → FieldType := fun k => match k with
  | 0 => .array .int
  | 1 => .array .byte
  | 2 => .int
  | 3 => .int
  | 4 => .int
  | 5 => .int
  | 6 => .long
  | 7 => .int
  | _ => .boolean
abbrev wsX00 : List Cond := u_ws RX0 TX0 9
theorem nmX0 : ∀ a, a < 9 → ∀ b, b < 9 → a ≠ b → (TX0 a).2.1 ≠ (TX0 b).2.1 := by decide +kernel
theorem tyX0_ok : ∀ k, k < 9 → parseFieldDescriptor (TX0 k).2.2.1 = some (tyX0 k) := by decide +kernel
abbrev cX0_init : ByteArray := prog_2_method_1_code
def yX0_init : MethodName := ⟨RX0, "<init>", "()V"⟩
abbrev cX0_begin : ByteArray := prog_2_method_2_code
def yX0_begin : MethodName := ⟨RX0, "begin", "(IIII)V"⟩
abbrev cX0_goesBefore : ByteArray := prog_2_method_3_code
def yX0_goesBefore : MethodName := ⟨RX0, "goesBefore", "(LCanBits$Frame;)Z"⟩
abbrev cX0_append : ByteArray := prog_2_method_4_code
def yX0_append : MethodName := ⟨RX0, "append", "(IZ)V"⟩
abbrev cX0_rowBit : ByteArray := prog_2_method_5_code
def yX0_rowBit : MethodName := ⟨RX0, "rowBit", "(I)I"⟩
abbrev cX0_canLoseAt : ByteArray := prog_2_method_6_code
def yX0_canLoseAt : MethodName := ⟨RX0, "canLoseAt", "(I)Z"⟩
abbrev cX0_acknowledgedAt : ByteArray := prog_2_method_7_code
def yX0_acknowledgedAt : MethodName := ⟨RX0, "acknowledgedAt", "(I)Z"⟩
def RX1 : String := "CanBits$Listener"
def TX1 : u_T := fun k => match k with
  | 0 => ("CanBits$Listener", "sums", "LCanBits$Sums;", true)
  | 1 => ("CanBits$Listener", "octets", "[I", true)
  | 2 => ("CanBits$Listener", "part", "I", false)
  | 3 => ("CanBits$Listener", "place", "I", false)
  | 4 => ("CanBits$Listener", "last", "I", false)
  | 5 => ("CanBits$Listener", "run", "I", false)
  | 6 => ("CanBits$Listener", "stuffBits", "I", false)
  | 7 => ("CanBits$Listener", "plainBits", "I", false)
  | 8 => ("CanBits$Listener", "head", "J", false)
  | 9 => ("CanBits$Listener", "isLong", "Z", false)
  | 10 => ("CanBits$Listener", "isFlexible", "Z", false)
  | 11 => ("CanBits$Listener", "headEnd", "I", false)
  | 12 => ("CanBits$Listener", "bodyEnd", "I", false)
  | 13 => ("CanBits$Listener", "plainEnd", "I", false)
  | 14 => ("CanBits$Listener", "octetCount", "I", false)
  | 15 => ("CanBits$Listener", "seen", "I", false)
  | _ => ("CanBits$Listener", "isRight", "Z", false)
def tyX1 : Nat → FieldType := fun k => match k with
  | 0 => .object "CanBits$Sums"
  | 1 => .array .int
  | 2 => .int
  | 3 => .int
  | 4 => .int
  | 5 => .int
  | 6 => .int
  | 7 => .int
  | 8 => .long
  | 9 => .boolean
  | 10 => .boolean
  | 11 => .int
  | 12 => .int
  | 13 => .int
  | 14 => .int
  | 15 => .int
  | _ => .boolean
abbrev wsX10 : List Cond := u_ws RX1 TX1 17
theorem nmX1 : ∀ a, a < 17 → ∀ b, b < 17 → a ≠ b → (TX1 a).2.1 ≠ (TX1 b).2.1 := by decide +kernel
theorem tyX1_ok : ∀ k, k < 17 → parseFieldDescriptor (TX1 k).2.2.1 = some (tyX1 k) := by decide +kernel
abbrev cX1_init : ByteArray := prog_3_method_1_code
def yX1_init : MethodName := ⟨RX1, "<init>", "()V"⟩
abbrev cX1_begin : ByteArray := prog_3_method_2_code
def yX1_begin : MethodName := ⟨RX1, "begin", "()V"⟩
abbrev cX1_acknowledges : ByteArray := prog_3_method_3_code
def yX1_acknowledges : MethodName := ⟨RX1, "acknowledges", "()Z"⟩
abbrev cX1_identifier : ByteArray := prog_3_method_4_code
def yX1_identifier : MethodName := ⟨RX1, "identifier", "()I"⟩
abbrev cX1_kind : ByteArray := prog_3_method_5_code
def yX1_kind : MethodName := ⟨RX1, "kind", "()I"⟩
abbrev cX1_code : ByteArray := prog_3_method_6_code
def yX1_code : MethodName := ⟨RX1, "code", "()I"⟩
abbrev cX1_hear : ByteArray := prog_3_method_7_code
def yX1_hear : MethodName := ⟨RX1, "hear", "(I)I"⟩
abbrev cX1_hearStuffBit : ByteArray := prog_3_method_8_code
def yX1_hearStuffBit : MethodName := ⟨RX1, "hearStuffBit", "(I)I"⟩
abbrev cX1_hearPlain : ByteArray := prog_3_method_9_code
def yX1_hearPlain : MethodName := ⟨RX1, "hearPlain", "(I)I"⟩
abbrev cX1_hearHead : ByteArray := prog_3_method_10_code
def yX1_hearHead : MethodName := ⟨RX1, "hearHead", "(II)V"⟩
abbrev cX1_hearOctet : ByteArray := prog_3_method_11_code
def yX1_hearOctet : MethodName := ⟨RX1, "hearOctet", "(II)V"⟩
abbrev cX1_endPlain : ByteArray := prog_3_method_12_code
def yX1_endPlain : MethodName := ⟨RX1, "endPlain", "()V"⟩
abbrev cX1_hearFixed : ByteArray := prog_3_method_13_code
def yX1_hearFixed : MethodName := ⟨RX1, "hearFixed", "(I)I"⟩
abbrev cX1_endCount : ByteArray := prog_3_method_14_code
def yX1_endCount : MethodName := ⟨RX1, "endCount", "()I"⟩
abbrev cX1_hearTail : ByteArray := prog_3_method_15_code
def yX1_hearTail : MethodName := ⟨RX1, "hearTail", "(I)I"⟩
def RX2 : String := "CanBits$Node"
def TX2 : u_T := fun k => match k with
  | 0 => ("CanBits$Node", "listener", "LCanBits$Listener;", true)
  | 1 => ("CanBits$Node", "takings", "LCanBits$Takings;", true)
  | 2 => ("CanBits$Node", "state", "I", false)
  | 3 => ("CanBits$Node", "count", "I", false)
  | 4 => ("CanBits$Node", "mask", "I", false)
  | 5 => ("CanBits$Node", "match", "I", false)
  | 6 => ("CanBits$Node", "waiting", "I", false)
  | 7 => ("CanBits$Node", "first", "LCanBits$Frame;", false)
  | 8 => ("CanBits$Node", "sending", "LCanBits$Frame;", false)
  | _ => ("CanBits$Node", "place", "I", false)
def tyX2 : Nat → FieldType := fun k => match k with
  | 0 => .object "CanBits$Listener"
  | 1 => .object "CanBits$Takings"
  | 2 => .int
  | 3 => .int
  | 4 => .int
  | 5 => .int
  | 6 => .int
  | 7 => .object "CanBits$Frame"
  | 8 => .object "CanBits$Frame"
  | _ => .int
abbrev wsX20 : List Cond := u_ws RX2 TX2 10
theorem nmX2 : ∀ a, a < 10 → ∀ b, b < 10 → a ≠ b → (TX2 a).2.1 ≠ (TX2 b).2.1 := by decide +kernel
theorem tyX2_ok : ∀ k, k < 10 → parseFieldDescriptor (TX2 k).2.2.1 = some (tyX2 k) := by decide +kernel
abbrev cX2_init : ByteArray := prog_4_method_1_code
def yX2_init : MethodName := ⟨RX2, "<init>", "()V"⟩
abbrev cX2_begin : ByteArray := prog_4_method_2_code
def yX2_begin : MethodName := ⟨RX2, "begin", "()V"⟩
abbrev cX2_isSending : ByteArray := prog_4_method_3_code
def yX2_isSending : MethodName := ⟨RX2, "isSending", "(LCanBits$Frame;)Z"⟩
abbrev cX2_put : ByteArray := prog_4_method_4_code
def yX2_put : MethodName := ⟨RX2, "put", "()I"⟩
abbrev cX2_see : ByteArray := prog_4_method_5_code
def yX2_see : MethodName := ⟨RX2, "see", "(II)I"⟩
abbrev cX2_enter : ByteArray := prog_4_method_6_code
def yX2_enter : MethodName := ⟨RX2, "enter", "(I)V"⟩
abbrev cX2_startSending : ByteArray := prog_4_method_7_code
def yX2_startSending : MethodName := ⟨RX2, "startSending", "(I)V"⟩
abbrev cX2_turnToListening : ByteArray := prog_4_method_8_code
def yX2_turnToListening : MethodName := ⟨RX2, "turnToListening", "()V"⟩
abbrev cX2_seeSending : ByteArray := prog_4_method_9_code
def yX2_seeSending : MethodName := ⟨RX2, "seeSending", "(I)I"⟩
abbrev cX2_seeFlagging : ByteArray := prog_4_method_10_code
def yX2_seeFlagging : MethodName := ⟨RX2, "seeFlagging", "()V"⟩
abbrev cX2_seeClearing : ByteArray := prog_4_method_11_code
def yX2_seeClearing : MethodName := ⟨RX2, "seeClearing", "(I)I"⟩
abbrev cX2_seePausing : ByteArray := prog_4_method_12_code
def yX2_seePausing : MethodName := ⟨RX2, "seePausing", "(I)I"⟩
abbrev cX2_settle : ByteArray := prog_4_method_13_code
def yX2_settle : MethodName := ⟨RX2, "settle", "(II)I"⟩
def RX3 : String := "CanBits$Register"
def TX3 : u_T := fun k => match k with
  | 0 => ("CanBits$Register", "top", "I", true)
  | 1 => ("CanBits$Register", "turn", "I", true)
  | 2 => ("CanBits$Register", "start", "I", true)
  | _ => ("CanBits$Register", "value", "I", false)
def tyX3 : Nat → FieldType := fun k => match k with
  | 0 => .int
  | 1 => .int
  | 2 => .int
  | _ => .int
abbrev wsX30 : List Cond := u_ws RX3 TX3 4
theorem nmX3 : ∀ a, a < 4 → ∀ b, b < 4 → a ≠ b → (TX3 a).2.1 ≠ (TX3 b).2.1 := by decide +kernel
theorem tyX3_ok : ∀ k, k < 4 → parseFieldDescriptor (TX3 k).2.2.1 = some (tyX3 k) := by decide +kernel
abbrev cX3_init : ByteArray := prog_5_method_1_code
def yX3_init : MethodName := ⟨RX3, "<init>", "(III)V"⟩
abbrev cX3_begin : ByteArray := prog_5_method_2_code
def yX3_begin : MethodName := ⟨RX3, "begin", "()V"⟩
abbrev cX3_move : ByteArray := prog_5_method_3_code
def yX3_move : MethodName := ⟨RX3, "move", "(I)V"⟩
def RX4 : String := "CanBits$Sums"
def TX4 : u_T := fun k => match k with
  | 0 => ("CanBits$Sums", "of15", "LCanBits$Register;", true)
  | 1 => ("CanBits$Sums", "of17", "LCanBits$Register;", true)
  | _ => ("CanBits$Sums", "of21", "LCanBits$Register;", true)
def tyX4 : Nat → FieldType := fun k => match k with
  | 0 => .object "CanBits$Register"
  | 1 => .object "CanBits$Register"
  | _ => .object "CanBits$Register"
abbrev wsX40 : List Cond := u_ws RX4 TX4 3
theorem nmX4 : ∀ a, a < 3 → ∀ b, b < 3 → a ≠ b → (TX4 a).2.1 ≠ (TX4 b).2.1 := by decide +kernel
theorem tyX4_ok : ∀ k, k < 3 → parseFieldDescriptor (TX4 k).2.2.1 = some (tyX4 k) := by decide +kernel
abbrev cX4_init : ByteArray := prog_6_method_1_code
def yX4_init : MethodName := ⟨RX4, "<init>", "()V"⟩
abbrev cX4_begin : ByteArray := prog_6_method_2_code
def yX4_begin : MethodName := ⟨RX4, "begin", "()V"⟩
abbrev cX4_addPlain : ByteArray := prog_6_method_3_code
def yX4_addPlain : MethodName := ⟨RX4, "addPlain", "(I)V"⟩
abbrev cX4_addOther : ByteArray := prog_6_method_4_code
def yX4_addOther : MethodName := ⟨RX4, "addOther", "(I)V"⟩
abbrev cX4_ofFlexible : ByteArray := prog_6_method_5_code
def yX4_ofFlexible : MethodName := ⟨RX4, "ofFlexible", "(I)I"⟩
abbrev cX4_flexibleWidth : ByteArray := prog_6_method_6_code
def yX4_flexibleWidth : MethodName := ⟨RX4, "flexibleWidth", "(I)I"⟩
def RX5 : String := "CanBits$Takings"
def TX5 : u_T := fun k => match k with
  | 0 => ("CanBits$Takings", "table", "[I", true)
  | 1 => ("CanBits$Takings", "octets", "[I", true)
  | 2 => ("CanBits$Takings", "count", "I", false)
  | _ => ("CanBits$Takings", "octetsHeld", "I", false)
def tyX5 : Nat → FieldType := fun k => match k with
  | 0 => .array .int
  | 1 => .array .int
  | 2 => .int
  | _ => .int
abbrev wsX50 : List Cond := u_ws RX5 TX5 4
theorem nmX5 : ∀ a, a < 4 → ∀ b, b < 4 → a ≠ b → (TX5 a).2.1 ≠ (TX5 b).2.1 := by decide +kernel
theorem tyX5_ok : ∀ k, k < 4 → parseFieldDescriptor (TX5 k).2.2.1 = some (tyX5 k) := by decide +kernel
abbrev cX5_init : ByteArray := prog_7_method_1_code
def yX5_init : MethodName := ⟨RX5, "<init>", "()V"⟩
abbrev cX5_begin : ByteArray := prog_7_method_2_code
def yX5_begin : MethodName := ⟨RX5, "begin", "()V"⟩
abbrev cX5_add : ByteArray := prog_7_method_3_code
def yX5_add : MethodName := ⟨RX5, "add", "(LCanBits$Listener;I)V"⟩
abbrev cX5_told : ByteArray := prog_7_method_4_code
def yX5_told : MethodName := ⟨RX5, "told", "(II)I"⟩
abbrev cX5_octetOf : ByteArray := prog_7_method_5_code
def yX5_octetOf : MethodName := ⟨RX5, "octetOf", "(II)I"⟩
def RX6 : String := "CanBits$Writer"
def TX6 : u_T := fun k => match k with
  | 0 => ("CanBits$Writer", "sums", "LCanBits$Sums;", true)
  | 1 => ("CanBits$Writer", "last", "I", false)
  | 2 => ("CanBits$Writer", "run", "I", false)
  | _ => ("CanBits$Writer", "stuffBits", "I", false)
def tyX6 : Nat → FieldType := fun k => match k with
  | 0 => .object "CanBits$Sums"
  | 1 => .int
  | 2 => .int
  | _ => .int
abbrev wsX60 : List Cond := u_ws RX6 TX6 4
theorem nmX6 : ∀ a, a < 4 → ∀ b, b < 4 → a ≠ b → (TX6 a).2.1 ≠ (TX6 b).2.1 := by decide +kernel
theorem tyX6_ok : ∀ k, k < 4 → parseFieldDescriptor (TX6 k).2.2.1 = some (tyX6 k) := by decide +kernel
abbrev cX6_init : ByteArray := prog_8_method_1_code
def yX6_init : MethodName := ⟨RX6, "<init>", "()V"⟩
abbrev cX6_write : ByteArray := prog_8_method_2_code
def yX6_write : MethodName := ⟨RX6, "write", "(LCanBits$Frame;)V"⟩
abbrev cX6_begin : ByteArray := prog_8_method_3_code
def yX6_begin : MethodName := ⟨RX6, "begin", "()V"⟩
abbrev cX6_writeNumber : ByteArray := prog_8_method_4_code
def yX6_writeNumber : MethodName := ⟨RX6, "writeNumber", "(LCanBits$Frame;II)V"⟩
abbrev cX6_writePlain : ByteArray := prog_8_method_5_code
def yX6_writePlain : MethodName := ⟨RX6, "writePlain", "(LCanBits$Frame;IZ)V"⟩
abbrev cX6_writeStuffBit : ByteArray := prog_8_method_6_code
def yX6_writeStuffBit : MethodName := ⟨RX6, "writeStuffBit", "(LCanBits$Frame;)V"⟩
abbrev cX6_writeFixed : ByteArray := prog_8_method_7_code
def yX6_writeFixed : MethodName := ⟨RX6, "writeFixed", "(LCanBits$Frame;)V"⟩
def RX7 : String := "CanBits"
def TX7 : u_T := fun k => match k with
  | 0 => ("CanBits", "members", "[LCanBits$Node;", true)
  | 1 => ("CanBits", "frames", "[LCanBits$Frame;", true)
  | 2 => ("CanBits", "writer", "LCanBits$Writer;", true)
  | 3 => ("CanBits", "bus", "[B", true)
  | 4 => ("CanBits", "flips", "[I", true)
  | 5 => ("CanBits", "doneFrames", "[I", true)
  | 6 => ("CanBits", "doneTimes", "[I", true)
  | 7 => ("CanBits", "errors", "[I", true)
  | 8 => ("CanBits", "memberCount", "I", false)
  | 9 => ("CanBits", "frameCount", "I", false)
  | 10 => ("CanBits", "doneCount", "I", false)
  | 11 => ("CanBits", "errorCount", "I", false)
  | 12 => ("CanBits", "flipsEnd", "I", false)
  | _ => ("CanBits", "now", "I", false)
def tyX7 : Nat → FieldType := fun k => match k with
  | 0 => .array (.object "CanBits$Node")
  | 1 => .array (.object "CanBits$Frame")
  | 2 => .object "CanBits$Writer"
  | 3 => .array .byte
  | 4 => .array .int
  | 5 => .array .int
  | 6 => .array .int
  | 7 => .array .int
  | 8 => .int
  | 9 => .int
  | 10 => .int
  | 11 => .int
  | 12 => .int
  | _ => .int
abbrev wsX70 : List Cond := u_ws RX7 TX7 14
theorem nmX7 : ∀ a, a < 14 → ∀ b, b < 14 → a ≠ b → (TX7 a).2.1 ≠ (TX7 b).2.1 := by decide +kernel
theorem tyX7_ok : ∀ k, k < 14 → parseFieldDescriptor (TX7 k).2.2.1 = some (tyX7 k) := by decide +kernel
abbrev cX7_init : ByteArray := prog_1_method_1_code
def yX7_init : MethodName := ⟨RX7, "<init>", "()V"⟩
abbrev cX7_nodes : ByteArray := prog_1_method_2_code
def yX7_nodes : MethodName := ⟨RX7, "nodes", "(I)V"⟩
abbrev cX7_send : ByteArray := prog_1_method_3_code
def yX7_send : MethodName := ⟨RX7, "send", "(IIII)I"⟩
abbrev cX7_octet : ByteArray := prog_1_method_4_code
def yX7_octet : MethodName := ⟨RX7, "octet", "(III)V"⟩
abbrev cX7_stuffed : ByteArray := prog_1_method_5_code
def yX7_stuffed : MethodName := ⟨RX7, "stuffed", "(I)I"⟩
abbrev cX7_filter : ByteArray := prog_1_method_6_code
def yX7_filter : MethodName := ⟨RX7, "filter", "(III)V"⟩
abbrev cX7_flip : ByteArray := prog_1_method_7_code
def yX7_flip : MethodName := ⟨RX7, "flip", "(II)V"⟩
abbrev cX7_run : ByteArray := prog_1_method_8_code
def yX7_run : MethodName := ⟨RX7, "run", "(I)I"⟩
abbrev cX7_time : ByteArray := prog_1_method_9_code
def yX7_time : MethodName := ⟨RX7, "time", "()I"⟩
abbrev cX7_bit : ByteArray := prog_1_method_10_code
def yX7_bit : MethodName := ⟨RX7, "bit", "(I)I"⟩
abbrev cX7_check : ByteArray := prog_1_method_11_code
def yX7_check : MethodName := ⟨RX7, "check", "(III)I"⟩
abbrev cX7_state : ByteArray := prog_1_method_12_code
def yX7_state : MethodName := ⟨RX7, "state", "(I)I"⟩
abbrev cX7_waiting : ByteArray := prog_1_method_13_code
def yX7_waiting : MethodName := ⟨RX7, "waiting", "(I)I"⟩
abbrev cX7_done : ByteArray := prog_1_method_14_code
def yX7_done : MethodName := ⟨RX7, "done", "(II)I"⟩
abbrev cX7_taken : ByteArray := prog_1_method_15_code
def yX7_taken : MethodName := ⟨RX7, "taken", "(III)I"⟩
abbrev cX7_takenOctet : ByteArray := prog_1_method_16_code
def yX7_takenOctet : MethodName := ⟨RX7, "takenOctet", "(III)I"⟩
abbrev cX7_error : ByteArray := prog_1_method_17_code
def yX7_error : MethodName := ⟨RX7, "error", "(II)I"⟩
abbrev cX7_needNode : ByteArray := prog_1_method_18_code
def yX7_needNode : MethodName := ⟨RX7, "needNode", "(I)V"⟩
abbrev cX7_needFrame : ByteArray := prog_1_method_19_code
def yX7_needFrame : MethodName := ⟨RX7, "needFrame", "(I)V"⟩
abbrev cX7_needThing : ByteArray := prog_1_method_20_code
def yX7_needThing : MethodName := ⟨RX7, "needThing", "(II)V"⟩
abbrev cX7_needWhat : ByteArray := prog_1_method_21_code
def yX7_needWhat : MethodName := ⟨RX7, "needWhat", "(II)V"⟩
abbrev cX7_begin : ByteArray := prog_1_method_22_code
def yX7_begin : MethodName := ⟨RX7, "begin", "(I)V"⟩
abbrev cX7_putByAll : ByteArray := prog_1_method_23_code
def yX7_putByAll : MethodName := ⟨RX7, "putByAll", "()I"⟩
abbrev cX7_keep : ByteArray := prog_1_method_24_code
def yX7_keep : MethodName := ⟨RX7, "keep", "(II)V"⟩
abbrev cX7_finish : ByteArray := prog_1_method_25_code
def yX7_finish : MethodName := ⟨RX7, "finish", "(I)V"⟩
abbrev cX7_firstOf : ByteArray := prog_1_method_26_code
def yX7_firstOf : MethodName := ⟨RX7, "firstOf", "(I)LCanBits$Frame;"⟩
abbrev cX7_isLong : ByteArray := prog_1_method_27_code
def yX7_isLong : MethodName := ⟨RX7, "isLong", "(I)Z"⟩
abbrev cX7_isFlexible : ByteArray := prog_1_method_28_code
def yX7_isFlexible : MethodName := ⟨RX7, "isFlexible", "(I)Z"⟩
abbrev cX7_isRemote : ByteArray := prog_1_method_29_code
def yX7_isRemote : MethodName := ⟨RX7, "isRemote", "(I)Z"⟩
abbrev cX7_octetsOf : ByteArray := prog_1_method_30_code
def yX7_octetsOf : MethodName := ⟨RX7, "octetsOf", "(II)I"⟩
abbrev cX7_headLength : ByteArray := prog_1_method_31_code
def yX7_headLength : MethodName := ⟨RX7, "headLength", "(ZZ)I"⟩
abbrev cX7_headOf : ByteArray := prog_1_method_32_code
def yX7_headOf : MethodName := ⟨RX7, "headOf", "(III)J"⟩
abbrev cX7_countOf : ByteArray := prog_1_method_33_code
def yX7_countOf : MethodName := ⟨RX7, "countOf", "(I)I"⟩
def RX8 : String := "CanBitsModel"
def TX8 : u_T := fun k => match k with
  | 0 => ("CanBitsModel", "code", "I", false)
  | 1 => ("CanBitsModel", "nodes", "I", false)
  | 2 => ("CanBitsModel", "time", "I", false)
  | 3 => ("CanBitsModel", "bus", "[B", true)
  | 4 => ("CanBitsModel", "frames", "I", false)
  | 5 => ("CanBitsModel", "owner", "[I", true)
  | 6 => ("CanBitsModel", "identifier", "[I", true)
  | 7 => ("CanBitsModel", "kind", "[I", true)
  | 8 => ("CanBitsModel", "length", "[I", true)
  | 9 => ("CanBitsModel", "octets", "[I", true)
  | 10 => ("CanBitsModel", "isDone", "[Z", true)
  | 11 => ("CanBitsModel", "dones", "I", false)
  | 12 => ("CanBitsModel", "doneFrame", "[I", true)
  | 13 => ("CanBitsModel", "doneTime", "[I", true)
  | 14 => ("CanBitsModel", "state", "[I", true)
  | 15 => ("CanBitsModel", "left", "[I", true)
  | 16 => ("CanBitsModel", "sends", "[I", true)
  | 17 => ("CanBitsModel", "mask", "[I", true)
  | 18 => ("CanBitsModel", "match", "[I", true)
  | 19 => ("CanBitsModel", "seenCount", "[I", true)
  | 20 => ("CanBitsModel", "seen", "[B", true)
  | 21 => ("CanBitsModel", "flip", "[Z", true)
  | 22 => ("CanBitsModel", "takens", "I", false)
  | 23 => ("CanBitsModel", "takenNode", "[I", true)
  | 24 => ("CanBitsModel", "takenIdentifier", "[I", true)
  | 25 => ("CanBitsModel", "takenKind", "[B", true)
  | 26 => ("CanBitsModel", "takenLength", "[B", true)
  | 27 => ("CanBitsModel", "takenTime", "[I", true)
  | 28 => ("CanBitsModel", "takenOctets", "[B", true)
  | 29 => ("CanBitsModel", "errors", "I", false)
  | 30 => ("CanBitsModel", "errorKind", "[B", true)
  | 31 => ("CanBitsModel", "errorNode", "[B", true)
  | 32 => ("CanBitsModel", "errorTime", "[I", true)
  | 33 => ("CanBitsModel", "plain", "[B", true)
  | 34 => ("CanBitsModel", "plainCount", "I", false)
  | 35 => ("CanBitsModel", "row", "[B", true)
  | 36 => ("CanBitsModel", "stuff", "[Z", true)
  | 37 => ("CanBitsModel", "rowCount", "I", false)
  | 38 => ("CanBitsModel", "arbitration", "I", false)
  | 39 => ("CanBitsModel", "other", "[B", true)
  | 40 => ("CanBitsModel", "checked", "[B", true)
  | 41 => ("CanBitsModel", "checkedCount", "I", false)
  | 42 => ("CanBitsModel", "foundKind", "I", false)
  | 43 => ("CanBitsModel", "foundLength", "I", false)
  | 44 => ("CanBitsModel", "foundIdentifier", "I", false)
  | 45 => ("CanBitsModel", "bodyEnd", "I", false)
  | _ => ("CanBitsModel", "stuffs", "I", false)
def tyX8 : Nat → FieldType := fun k => match k with
  | 0 => .int
  | 1 => .int
  | 2 => .int
  | 3 => .array .byte
  | 4 => .int
  | 5 => .array .int
  | 6 => .array .int
  | 7 => .array .int
  | 8 => .array .int
  | 9 => .array .int
  | 10 => .array .boolean
  | 11 => .int
  | 12 => .array .int
  | 13 => .array .int
  | 14 => .array .int
  | 15 => .array .int
  | 16 => .array .int
  | 17 => .array .int
  | 18 => .array .int
  | 19 => .array .int
  | 20 => .array .byte
  | 21 => .array .boolean
  | 22 => .int
  | 23 => .array .int
  | 24 => .array .int
  | 25 => .array .byte
  | 26 => .array .byte
  | 27 => .array .int
  | 28 => .array .byte
  | 29 => .int
  | 30 => .array .byte
  | 31 => .array .byte
  | 32 => .array .int
  | 33 => .array .byte
  | 34 => .int
  | 35 => .array .byte
  | 36 => .array .boolean
  | 37 => .int
  | 38 => .int
  | 39 => .array .byte
  | 40 => .array .byte
  | 41 => .int
  | 42 => .int
  | 43 => .int
  | 44 => .int
  | 45 => .int
  | _ => .int
abbrev wsX80 : List Cond := u_ws RX8 TX8 47
theorem nmX8 : ∀ a, a < 47 → ∀ b, b < 47 → a ≠ b → (TX8 a).2.1 ≠ (TX8 b).2.1 := by decide +kernel
theorem tyX8_ok : ∀ k, k < 47 → parseFieldDescriptor (TX8 k).2.2.1 = some (tyX8 k) := by decide +kernel
abbrev cX8_init : ByteArray := prog_10_method_1_code
def yX8_init : MethodName := ⟨RX8, "<init>", "()V"⟩
abbrev cX8_thrown : ByteArray := prog_10_method_2_code
def yX8_thrown : MethodName := ⟨RX8, "thrown", "()I"⟩
abbrev cX8_nodes : ByteArray := prog_10_method_3_code
def yX8_nodes : MethodName := ⟨RX8, "nodes", "(I)V"⟩
abbrev cX8_octetsOf : ByteArray := prog_10_method_4_code
def yX8_octetsOf : MethodName := ⟨RX8, "octetsOf", "(II)I"⟩
abbrev cX8_noNode : ByteArray := prog_10_method_5_code
def yX8_noNode : MethodName := ⟨RX8, "noNode", "(I)Z"⟩
abbrev cX8_send : ByteArray := prog_10_method_6_code
def yX8_send : MethodName := ⟨RX8, "send", "(IIII)I"⟩
abbrev cX8_noFrame : ByteArray := prog_10_method_7_code
def yX8_noFrame : MethodName := ⟨RX8, "noFrame", "(I)Z"⟩
abbrev cX8_octet : ByteArray := prog_10_method_8_code
def yX8_octet : MethodName := ⟨RX8, "octet", "(III)V"⟩
abbrev cX8_bits : ByteArray := prog_10_method_9_code
def yX8_bits : MethodName := ⟨RX8, "bits", "(II)V"⟩
abbrev cX8_writePlain : ByteArray := prog_10_method_10_code
def yX8_writePlain : MethodName := ⟨RX8, "writePlain", "(I)V"⟩
abbrev cX8_checkOf : ByteArray := prog_10_method_11_code
def yX8_checkOf : MethodName := ⟨RX8, "checkOf", "(I)I"⟩
abbrev cX8_check : ByteArray := prog_10_method_12_code
def yX8_check : MethodName := ⟨RX8, "check", "(I)V"⟩
abbrev cX8_put : ByteArray := prog_10_method_13_code
def yX8_put : MethodName := ⟨RX8, "put", "(IZ)V"⟩
abbrev cX8_five : ByteArray := prog_10_method_14_code
def yX8_five : MethodName := ⟨RX8, "five", "()Z"⟩
abbrev cX8_parity : ByteArray := prog_10_method_15_code
def yX8_parity : MethodName := ⟨RX8, "parity", "(I)I"⟩
abbrev cX8_countOf : ByteArray := prog_10_method_16_code
def yX8_countOf : MethodName := ⟨RX8, "countOf", "(I)I"⟩
abbrev cX8_write : ByteArray := prog_10_method_17_code
def yX8_write : MethodName := ⟨RX8, "write", "(I)V"⟩
abbrev cX8_writeTail : ByteArray := prog_10_method_18_code
def yX8_writeTail : MethodName := ⟨RX8, "writeTail", "(II)V"⟩
abbrev cX8_stuffed : ByteArray := prog_10_method_19_code
def yX8_stuffed : MethodName := ⟨RX8, "stuffed", "(I)I"⟩
abbrev cX8_first : ByteArray := prog_10_method_20_code
def yX8_first : MethodName := ⟨RX8, "first", "(I)I"⟩
abbrev cX8_waiting : ByteArray := prog_10_method_21_code
def yX8_waiting : MethodName := ⟨RX8, "waiting", "(I)I"⟩
abbrev cX8_filter : ByteArray := prog_10_method_22_code
def yX8_filter : MethodName := ⟨RX8, "filter", "(III)V"⟩
abbrev cX8_flip : ByteArray := prog_10_method_23_code
def yX8_flip : MethodName := ⟨RX8, "flip", "(II)V"⟩
abbrev cX8_bitAt : ByteArray := prog_10_method_24_code
def yX8_bitAt : MethodName := ⟨RX8, "bitAt", "(II)I"⟩
abbrev cX8_body : ByteArray := prog_10_method_25_code
def yX8_body : MethodName := ⟨RX8, "body", "(I)I"⟩
abbrev cX8_number : ByteArray := prog_10_method_26_code
def yX8_number : MethodName := ⟨RX8, "number", "(II)I"⟩
abbrev cX8_find : ByteArray := prog_10_method_27_code
def yX8_find : MethodName := ⟨RX8, "find", "(ZZI)V"⟩
abbrev cX8_tail : ByteArray := prog_10_method_28_code
def yX8_tail : MethodName := ⟨RX8, "tail", "()I"⟩
abbrev cX8_width : ByteArray := prog_10_method_29_code
def yX8_width : MethodName := ⟨RX8, "width", "()I"⟩
abbrev cX8_right : ByteArray := prog_10_method_30_code
def yX8_right : MethodName := ⟨RX8, "right", "(I)Z"⟩
abbrev cX8_read : ByteArray := prog_10_method_31_code
def yX8_read : MethodName := ⟨RX8, "read", "(I)I"⟩
abbrev cX8_answers : ByteArray := prog_10_method_32_code
def yX8_answers : MethodName := ⟨RX8, "answers", "(I)Z"⟩
abbrev cX8_take : ByteArray := prog_10_method_33_code
def yX8_take : MethodName := ⟨RX8, "take", "(I)V"⟩
abbrev cX8_puts : ByteArray := prog_10_method_34_code
def yX8_puts : MethodName := ⟨RX8, "puts", "(I)I"⟩
abbrev cX8_see : ByteArray := prog_10_method_35_code
def yX8_see : MethodName := ⟨RX8, "see", "(II)V"⟩
abbrev cX8_wrong : ByteArray := prog_10_method_36_code
def yX8_wrong : MethodName := ⟨RX8, "wrong", "(II)V"⟩
abbrev cX8_go : ByteArray := prog_10_method_37_code
def yX8_go : MethodName := ⟨RX8, "go", "(III)V"⟩
abbrev cX8_sees : ByteArray := prog_10_method_38_code
def yX8_sees : MethodName := ⟨RX8, "sees", "(II)V"⟩
abbrev cX8_pauses : ByteArray := prog_10_method_39_code
def yX8_pauses : MethodName := ⟨RX8, "pauses", "(II)V"⟩
abbrev cX8_sent : ByteArray := prog_10_method_40_code
def yX8_sent : MethodName := ⟨RX8, "sent", "(II)V"⟩
abbrev cX8_run : ByteArray := prog_10_method_41_code
def yX8_run : MethodName := ⟨RX8, "run", "(I)I"⟩
abbrev cX8_time : ByteArray := prog_10_method_42_code
def yX8_time : MethodName := ⟨RX8, "time", "()I"⟩
abbrev cX8_bit : ByteArray := prog_10_method_43_code
def yX8_bit : MethodName := ⟨RX8, "bit", "(I)I"⟩
abbrev cX8_check_ : ByteArray := prog_10_method_44_code
def yX8_check_ : MethodName := ⟨RX8, "check", "(III)I"⟩
abbrev cX8_state : ByteArray := prog_10_method_45_code
def yX8_state : MethodName := ⟨RX8, "state", "(I)I"⟩
abbrev cX8_done : ByteArray := prog_10_method_46_code
def yX8_done : MethodName := ⟨RX8, "done", "(II)I"⟩
abbrev cX8_took : ByteArray := prog_10_method_47_code
def yX8_took : MethodName := ⟨RX8, "took", "(II)I"⟩
abbrev cX8_taken : ByteArray := prog_10_method_48_code
def yX8_taken : MethodName := ⟨RX8, "taken", "(III)I"⟩
abbrev cX8_takenOctet : ByteArray := prog_10_method_49_code
def yX8_takenOctet : MethodName := ⟨RX8, "takenOctet", "(III)I"⟩
abbrev cX8_error : ByteArray := prog_10_method_50_code
def yX8_error : MethodName := ⟨RX8, "error", "(II)I"⟩
def RJx00060 : String := "java/lang/ArrayIndexOutOfBoundsException"
def TJx00060 : u_T := fun k => match k with
  | 0 => ("java/lang/Throwable", "backtrace", "Ljava/lang/Object;", false)
  | 1 => ("java/lang/Throwable", "detailMessage", "Ljava/lang/String;", false)
  | 2 => ("java/lang/Throwable", "cause", "Ljava/lang/Throwable;", false)
  | 3 => ("java/lang/Throwable", "stackTrace", "[Ljava/lang/StackTraceElement;", false)
  | 4 => ("java/lang/Throwable", "depth", "I", false)
  | _ => ("java/lang/Throwable", "suppressedExceptions", "Ljava/util/List;", false)
def tyJx00060 : Nat → FieldType := fun k => match k with
  | 0 => .object "java/lang/Object"
  | 1 => .object "java/lang/String"
  | 2 => .object "java/lang/Throwable"
  | 3 => .array (.object "java/lang/StackTraceElement")
  | 4 => .int
  | _ => .object "java/util/List"
abbrev wsJx000600 : List Cond := u_ws RJx00060 TJx00060 6
theorem nmJx00060 : ∀ a, a < 6 → ∀ b, b < 6 → a ≠ b → (TJx00060 a).2.1 ≠ (TJx00060 b).2.1 := by decide +kernel
theorem tyJx00060_ok : ∀ k, k < 6 → parseFieldDescriptor (TJx00060 k).2.2.1 = some (tyJx00060 k) := by decide +kernel
abbrev cJx00060_init_a7421 : ByteArray := prog_11_method_2_code
def yJx00060_init_a7421 : MethodName := ⟨RJx00060, "<init>", "(Ljava/lang/String;)V"⟩
def RJ6 : String := "java/lang/Integer"
def TJ6 : u_T := fun k => match k with
  | _ => ("", "", "", false)
def tyJ6 : Nat → FieldType := fun k => match k with
  | _ => .int
abbrev wsJ60 : List Cond := u_ws RJ6 TJ6 0
theorem nmJ6 : ∀ a, a < 0 → ∀ b, b < 0 → a ≠ b → (TJ6 a).2.1 ≠ (TJ6 b).2.1 := by decide +kernel
theorem tyJ6_ok : ∀ k, k < 0 → parseFieldDescriptor (TJ6 k).2.2.1 = some (tyJ6 k) := by decide +kernel
abbrev cJ6_bitCount_0f7a4 : ByteArray := prog_16_method_49_code
def yJ6_bitCount_0f7a4 : MethodName := ⟨RJ6, "bitCount", "(I)I"⟩
def RJ9 : String := "java/lang/Math"
def TJ9 : u_T := fun k => match k with
  | _ => ("", "", "", false)
def tyJ9 : Nat → FieldType := fun k => match k with
  | _ => .int
abbrev wsJ90 : List Cond := u_ws RJ9 TJ9 0
theorem nmJ9 : ∀ a, a < 0 → ∀ b, b < 0 → a ≠ b → (TJ9 a).2.1 ≠ (TJ9 b).2.1 := by decide +kernel
theorem tyJ9_ok : ∀ k, k < 0 → parseFieldDescriptor (TJ9 k).2.2.1 = some (tyJ9 k) := by decide +kernel
abbrev cJ9_max_7cf53 : ByteArray := prog_17_method_65_code
def yJ9_max_7cf53 : MethodName := ⟨RJ9, "max", "(II)I"⟩
def RJxde1cd : String := "java/lang/NegativeArraySizeException"
def TJxde1cd : u_T := fun k => match k with
  | 0 => ("java/lang/Throwable", "backtrace", "Ljava/lang/Object;", false)
  | 1 => ("java/lang/Throwable", "detailMessage", "Ljava/lang/String;", false)
  | 2 => ("java/lang/Throwable", "cause", "Ljava/lang/Throwable;", false)
  | 3 => ("java/lang/Throwable", "stackTrace", "[Ljava/lang/StackTraceElement;", false)
  | 4 => ("java/lang/Throwable", "depth", "I", false)
  | _ => ("java/lang/Throwable", "suppressedExceptions", "Ljava/util/List;", false)
def tyJxde1cd : Nat → FieldType := fun k => match k with
  | 0 => .object "java/lang/Object"
  | 1 => .object "java/lang/String"
  | 2 => .object "java/lang/Throwable"
  | 3 => .array (.object "java/lang/StackTraceElement")
  | 4 => .int
  | _ => .object "java/util/List"
abbrev wsJxde1cd0 : List Cond := u_ws RJxde1cd TJxde1cd 6
theorem nmJxde1cd : ∀ a, a < 6 → ∀ b, b < 6 → a ≠ b → (TJxde1cd a).2.1 ≠ (TJxde1cd b).2.1 := by decide +kernel
theorem tyJxde1cd_ok : ∀ k, k < 6 → parseFieldDescriptor (TJxde1cd k).2.2.1 = some (tyJxde1cd k) := by decide +kernel
abbrev cJxde1cd_init_a7421 : ByteArray := prog_18_method_2_code
def yJxde1cd_init_a7421 : MethodName := ⟨RJxde1cd, "<init>", "(Ljava/lang/String;)V"⟩
def RJ0 : String := "java/lang/String"
def TJ0 : u_T := fun k => match k with
  | 0 => ("java/lang/String", "value", "[B", true)
  | _ => ("java/lang/String", "coder", "B", true)
def tyJ0 : Nat → FieldType := fun k => match k with
  | 0 => .array .byte
  | _ => .byte
abbrev wsJ00 : List Cond := u_ws RJ0 TJ0 2
theorem nmJ0 : ∀ a, a < 2 → ∀ b, b < 2 → a ≠ b → (TJ0 a).2.1 ≠ (TJ0 b).2.1 := by decide +kernel
theorem tyJ0_ok : ∀ k, k < 2 → parseFieldDescriptor (TJ0 k).2.2.1 = some (tyJ0 k) := by decide +kernel
def RL : String := "CanBitsLaw"
abbrev cL_nodes : ByteArray := method_3_code
def yL_nodes : MethodName := ⟨RL, "nodes", "(LCanBits;I)I"⟩
abbrev cL_send : ByteArray := method_4_code
def yL_send : MethodName := ⟨RL, "send", "(LCanBits;IIII[J)I"⟩
abbrev cL_octet : ByteArray := method_5_code
def yL_octet : MethodName := ⟨RL, "octet", "(LCanBits;III)I"⟩
abbrev cL_stuffed : ByteArray := method_6_code
def yL_stuffed : MethodName := ⟨RL, "stuffed", "(LCanBits;I[J)I"⟩
abbrev cL_filter : ByteArray := method_7_code
def yL_filter : MethodName := ⟨RL, "filter", "(LCanBits;III)I"⟩
abbrev cL_flip : ByteArray := method_8_code
def yL_flip : MethodName := ⟨RL, "flip", "(LCanBits;II)I"⟩
abbrev cL_run : ByteArray := method_9_code
def yL_run : MethodName := ⟨RL, "run", "(LCanBits;I[J)I"⟩
abbrev cL_bit : ByteArray := method_10_code
def yL_bit : MethodName := ⟨RL, "bit", "(LCanBits;I[J)I"⟩
abbrev cL_check : ByteArray := method_11_code
def yL_check : MethodName := ⟨RL, "check", "(LCanBits;III[J)I"⟩
abbrev cL_state : ByteArray := method_12_code
def yL_state : MethodName := ⟨RL, "state", "(LCanBits;I[J)I"⟩
abbrev cL_waiting : ByteArray := method_13_code
def yL_waiting : MethodName := ⟨RL, "waiting", "(LCanBits;I[J)I"⟩
abbrev cL_done : ByteArray := method_14_code
def yL_done : MethodName := ⟨RL, "done", "(LCanBits;II[J)I"⟩
abbrev cL_taken : ByteArray := method_15_code
def yL_taken : MethodName := ⟨RL, "taken", "(LCanBits;III[J)I"⟩
abbrev cL_takenOctet : ByteArray := method_16_code
def yL_takenOctet : MethodName := ⟨RL, "takenOctet", "(LCanBits;III[J)I"⟩
abbrev cL_error : ByteArray := method_17_code
def yL_error : MethodName := ⟨RL, "error", "(LCanBits;II[J)I"⟩
abbrev cL_law : ByteArray := code
def yL_law : MethodName := ⟨RL, "law", "([I)Z"⟩
abbrev vwCl : List vw_C := [(RJ0, TJ0, 2), (RJx00060, TJx00060, 6), (RJxde1cd, TJxde1cd, 6), (RX0, TX0, 9), (RX1, TX1, 17), (RX2, TX2, 10), (RX3, TX3, 4), (RX4, TX4, 3), (RX5, TX5, 4), (RX6, TX6, 4), (RX7, TX7, 14), (RX8, TX8, 47)]
