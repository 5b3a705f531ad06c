section
-- ===== PART A: goes FIRST, ahead of the names: the tables' words, and 'selects' of the private methods out of them =====
/-- a private method of a class that the tables say can be made, by its rows of tables_1 -/
def lw_okq (q : MethodName × Nat) : Prop := (q.1.cls ≠ "java/lang/invoke/MethodHandle" ∧ q.1.cls ≠ "java/lang/invoke/VarHandle") ∧ Cond.instantiable q.1.cls q.2 ∈ tables_1 ∧ Cond.privateMethod q.1 ∈ tables_1 ∧ Cond.instanceMethod q.1 ∈ tables_1
theorem lw_p0 : lw_okq (⟨"FourthFace", "refuse", "(I)I"⟩, 8) := ⟨⟨by decide +kernel, by decide +kernel⟩, List.mem_of_getElem? (i := 16) (by decide +kernel), List.mem_of_getElem? (i := 283) (by decide +kernel), List.mem_of_getElem? (i := 284) (by decide +kernel)⟩
theorem lw_p1 : lw_okq (⟨"FourthFace$World", "placeOf", "(II)I"⟩, 13) := ⟨⟨by decide +kernel, by decide +kernel⟩, List.mem_of_getElem? (i := 67) (by decide +kernel), List.mem_of_getElem? (i := 308) (by decide +kernel), List.mem_of_getElem? (i := 309) (by decide +kernel)⟩
theorem lw_p2 : lw_okq (⟨"FourthFace$World", "bitsOfFaces", "(I)I"⟩, 13) := ⟨⟨by decide +kernel, by decide +kernel⟩, List.mem_of_getElem? (i := 67) (by decide +kernel), List.mem_of_getElem? (i := 326) (by decide +kernel), List.mem_of_getElem? (i := 327) (by decide +kernel)⟩
theorem lw_p3 : lw_okq (⟨"FourthFace$Reader", "readJoined", "(II)V"⟩, 7) := ⟨⟨by decide +kernel, by decide +kernel⟩, List.mem_of_getElem? (i := 416) (by decide +kernel), List.mem_of_getElem? (i := 448) (by decide +kernel), List.mem_of_getElem? (i := 449) (by decide +kernel)⟩
theorem lw_p4 : lw_okq (⟨"FourthFace$Reader", "readOne", "(I)V"⟩, 7) := ⟨⟨by decide +kernel, by decide +kernel⟩, List.mem_of_getElem? (i := 416) (by decide +kernel), List.mem_of_getElem? (i := 452) (by decide +kernel), List.mem_of_getElem? (i := 453) (by decide +kernel)⟩
theorem lw_p5 : lw_okq (⟨"FourthFace$Reader", "seesDigit", "()Z"⟩, 7) := ⟨⟨by decide +kernel, by decide +kernel⟩, List.mem_of_getElem? (i := 416) (by decide +kernel), List.mem_of_getElem? (i := 456) (by decide +kernel), List.mem_of_getElem? (i := 457) (by decide +kernel)⟩
theorem lw_p6 : lw_okq (⟨"FourthFace$Reader", "readNumber", "()V"⟩, 7) := ⟨⟨by decide +kernel, by decide +kernel⟩, List.mem_of_getElem? (i := 416) (by decide +kernel), List.mem_of_getElem? (i := 460) (by decide +kernel), List.mem_of_getElem? (i := 461) (by decide +kernel)⟩
theorem lw_p7 : lw_okq (⟨"FourthFace$Reader", "write", "(I)V"⟩, 7) := ⟨⟨by decide +kernel, by decide +kernel⟩, List.mem_of_getElem? (i := 416) (by decide +kernel), List.mem_of_getElem? (i := 464) (by decide +kernel), List.mem_of_getElem? (i := 465) (by decide +kernel)⟩
theorem lw_p8 : lw_okq (⟨"FourthFace$Reader", "nameOf", "(I)I"⟩, 7) := ⟨⟨by decide +kernel, by decide +kernel⟩, List.mem_of_getElem? (i := 416) (by decide +kernel), List.mem_of_getElem? (i := 468) (by decide +kernel), List.mem_of_getElem? (i := 469) (by decide +kernel)⟩
theorem lw_p9 : lw_okq (⟨"FourthFace$Reader", "sees", "(I)Z"⟩, 7) := ⟨⟨by decide +kernel, by decide +kernel⟩, List.mem_of_getElem? (i := 416) (by decide +kernel), List.mem_of_getElem? (i := 472) (by decide +kernel), List.mem_of_getElem? (i := 473) (by decide +kernel)⟩
theorem lw_p10 : lw_okq (⟨"FourthFace$Reader", "close", "()V"⟩, 7) := ⟨⟨by decide +kernel, by decide +kernel⟩, List.mem_of_getElem? (i := 416) (by decide +kernel), List.mem_of_getElem? (i := 476) (by decide +kernel), List.mem_of_getElem? (i := 477) (by decide +kernel)⟩
theorem lw_p11 : lw_okq (⟨"FourthFace$Reader", "joinsAt", "(I)Z"⟩, 7) := ⟨⟨by decide +kernel, by decide +kernel⟩, List.mem_of_getElem? (i := 416) (by decide +kernel), List.mem_of_getElem? (i := 480) (by decide +kernel), List.mem_of_getElem? (i := 481) (by decide +kernel)⟩
theorem lw_p12 : lw_okq (⟨"FourthFace", "refusalOfCrossing", "(II)I"⟩, 8) := ⟨⟨by decide +kernel, by decide +kernel⟩, List.mem_of_getElem? (i := 16) (by decide +kernel), List.mem_of_getElem? (i := 528) (by decide +kernel), List.mem_of_getElem? (i := 529) (by decide +kernel)⟩
theorem lw_p13 : lw_okq (⟨"FourthFace", "refusalOfMeeting", "(II)I"⟩, 8) := ⟨⟨by decide +kernel, by decide +kernel⟩, List.mem_of_getElem? (i := 16) (by decide +kernel), List.mem_of_getElem? (i := 532) (by decide +kernel), List.mem_of_getElem? (i := 533) (by decide +kernel)⟩
theorem lw_p14 : lw_okq (⟨"FourthFace$World", "loseFace", "(II)V"⟩, 13) := ⟨⟨by decide +kernel, by decide +kernel⟩, List.mem_of_getElem? (i := 67) (by decide +kernel), List.mem_of_getElem? (i := 553) (by decide +kernel), List.mem_of_getElem? (i := 554) (by decide +kernel)⟩
theorem lw_p15 : lw_okq (⟨"FourthFace$World", "faceComes", "(II)V"⟩, 13) := ⟨⟨by decide +kernel, by decide +kernel⟩, List.mem_of_getElem? (i := 67) (by decide +kernel), List.mem_of_getElem? (i := 558) (by decide +kernel), List.mem_of_getElem? (i := 559) (by decide +kernel)⟩
def lw_privs_1 : List (MethodName × Nat) := [(⟨"FourthFace", "refuse", "(I)I"⟩, 8), (⟨"FourthFace$World", "placeOf", "(II)I"⟩, 13), (⟨"FourthFace$World", "bitsOfFaces", "(I)I"⟩, 13), (⟨"FourthFace$Reader", "readJoined", "(II)V"⟩, 7), (⟨"FourthFace$Reader", "readOne", "(I)V"⟩, 7), (⟨"FourthFace$Reader", "seesDigit", "()Z"⟩, 7), (⟨"FourthFace$Reader", "readNumber", "()V"⟩, 7), (⟨"FourthFace$Reader", "write", "(I)V"⟩, 7), (⟨"FourthFace$Reader", "nameOf", "(I)I"⟩, 7), (⟨"FourthFace$Reader", "sees", "(I)Z"⟩, 7), (⟨"FourthFace$Reader", "close", "()V"⟩, 7), (⟨"FourthFace$Reader", "joinsAt", "(I)Z"⟩, 7), (⟨"FourthFace", "refusalOfCrossing", "(II)I"⟩, 8), (⟨"FourthFace", "refusalOfMeeting", "(II)I"⟩, 8), (⟨"FourthFace$World", "loseFace", "(II)V"⟩, 13), (⟨"FourthFace$World", "faceComes", "(II)V"⟩, 13)]
theorem lw_r1 : ∀ q ∈ lw_privs_1, lw_okq q := List.forall_mem_cons.mpr ⟨lw_p0, List.forall_mem_cons.mpr ⟨lw_p1, List.forall_mem_cons.mpr ⟨lw_p2, List.forall_mem_cons.mpr ⟨lw_p3, List.forall_mem_cons.mpr ⟨lw_p4, List.forall_mem_cons.mpr ⟨lw_p5, List.forall_mem_cons.mpr ⟨lw_p6, List.forall_mem_cons.mpr ⟨lw_p7, List.forall_mem_cons.mpr ⟨lw_p8, List.forall_mem_cons.mpr ⟨lw_p9, List.forall_mem_cons.mpr ⟨lw_p10, List.forall_mem_cons.mpr ⟨lw_p11, List.forall_mem_cons.mpr ⟨lw_p12, List.forall_mem_cons.mpr ⟨lw_p13, List.forall_mem_cons.mpr ⟨lw_p14, List.forall_mem_cons.mpr ⟨lw_p15, fun _ h => absurd h List.not_mem_nil⟩⟩⟩⟩⟩⟩⟩⟩⟩⟩⟩⟩⟩⟩⟩⟩
theorem lw_p16 : lw_okq (⟨"FourthFace$Ferry", "draw", "()I"⟩, 9) := ⟨⟨by decide +kernel, by decide +kernel⟩, List.mem_of_getElem? (i := 38) (by decide +kernel), List.mem_of_getElem? (i := 580) (by decide +kernel), List.mem_of_getElem? (i := 581) (by decide +kernel)⟩
theorem lw_p17 : lw_okq (⟨"FourthFace$World", "isMindLike", "(ILFourthFace$World;)Z"⟩, 13) := ⟨⟨by decide +kernel, by decide +kernel⟩, List.mem_of_getElem? (i := 67) (by decide +kernel), List.mem_of_getElem? (i := 706) (by decide +kernel), List.mem_of_getElem? (i := 707) (by decide +kernel)⟩
theorem lw_p18 : lw_okq (⟨"FourthFace$Voices", "begin", "(I)V"⟩, 6) := ⟨⟨by decide +kernel, by decide +kernel⟩, List.mem_of_getElem? (i := 223) (by decide +kernel), List.mem_of_getElem? (i := 729) (by decide +kernel), List.mem_of_getElem? (i := 730) (by decide +kernel)⟩
theorem lw_p19 : lw_okq (⟨"FourthFace$Voices", "part", "(I)I"⟩, 6) := ⟨⟨by decide +kernel, by decide +kernel⟩, List.mem_of_getElem? (i := 223) (by decide +kernel), List.mem_of_getElem? (i := 733) (by decide +kernel), List.mem_of_getElem? (i := 734) (by decide +kernel)⟩
theorem lw_p20 : lw_okq (⟨"FourthFaceModel", "error", "(I)I"⟩, 27) := ⟨⟨by decide +kernel, by decide +kernel⟩, List.mem_of_getElem? (i := 827) (by decide +kernel), List.mem_of_getElem? (i := 922) (by decide +kernel), List.mem_of_getElem? (i := 923) (by decide +kernel)⟩
theorem lw_p21 : lw_okq (⟨"FourthFaceModel", "whole", "()Z"⟩, 27) := ⟨⟨by decide +kernel, by decide +kernel⟩, List.mem_of_getElem? (i := 827) (by decide +kernel), List.mem_of_getElem? (i := 932) (by decide +kernel), List.mem_of_getElem? (i := 933) (by decide +kernel)⟩
theorem lw_p22 : lw_okq (⟨"FourthFaceModel", "both", "()Z"⟩, 27) := ⟨⟨by decide +kernel, by decide +kernel⟩, List.mem_of_getElem? (i := 827) (by decide +kernel), List.mem_of_getElem? (i := 936) (by decide +kernel), List.mem_of_getElem? (i := 937) (by decide +kernel)⟩
theorem lw_p23 : lw_okq (⟨"FourthFaceModel", "compared", "()Z"⟩, 27) := ⟨⟨by decide +kernel, by decide +kernel⟩, List.mem_of_getElem? (i := 827) (by decide +kernel), List.mem_of_getElem? (i := 940) (by decide +kernel), List.mem_of_getElem? (i := 941) (by decide +kernel)⟩
theorem lw_p24 : lw_okq (⟨"FourthFaceModel", "sum", "()Z"⟩, 27) := ⟨⟨by decide +kernel, by decide +kernel⟩, List.mem_of_getElem? (i := 827) (by decide +kernel), List.mem_of_getElem? (i := 944) (by decide +kernel), List.mem_of_getElem? (i := 945) (by decide +kernel)⟩
theorem lw_p25 : lw_okq (⟨"FourthFaceModel", "product", "()Z"⟩, 27) := ⟨⟨by decide +kernel, by decide +kernel⟩, List.mem_of_getElem? (i := 827) (by decide +kernel), List.mem_of_getElem? (i := 948) (by decide +kernel), List.mem_of_getElem? (i := 949) (by decide +kernel)⟩
theorem lw_p26 : lw_okq (⟨"FourthFaceModel", "one", "()Z"⟩, 27) := ⟨⟨by decide +kernel, by decide +kernel⟩, List.mem_of_getElem? (i := 827) (by decide +kernel), List.mem_of_getElem? (i := 952) (by decide +kernel), List.mem_of_getElem? (i := 953) (by decide +kernel)⟩
theorem lw_p27 : lw_okq (⟨"FourthFaceModel", "look", "()I"⟩, 27) := ⟨⟨by decide +kernel, by decide +kernel⟩, List.mem_of_getElem? (i := 827) (by decide +kernel), List.mem_of_getElem? (i := 956) (by decide +kernel), List.mem_of_getElem? (i := 957) (by decide +kernel)⟩
theorem lw_p28 : lw_okq (⟨"FourthFaceModel", "isName", "(I)Z"⟩, 27) := ⟨⟨by decide +kernel, by decide +kernel⟩, List.mem_of_getElem? (i := 827) (by decide +kernel), List.mem_of_getElem? (i := 960) (by decide +kernel), List.mem_of_getElem? (i := 961) (by decide +kernel)⟩
theorem lw_p29 : lw_okq (⟨"FourthFaceModel", "lays", "(II)V"⟩, 27) := ⟨⟨by decide +kernel, by decide +kernel⟩, List.mem_of_getElem? (i := 827) (by decide +kernel), List.mem_of_getElem? (i := 964) (by decide +kernel), List.mem_of_getElem? (i := 965) (by decide +kernel)⟩
theorem lw_p30 : lw_okq (⟨"FourthFaceModel", "opens", "()Z"⟩, 27) := ⟨⟨by decide +kernel, by decide +kernel⟩, List.mem_of_getElem? (i := 827) (by decide +kernel), List.mem_of_getElem? (i := 968) (by decide +kernel), List.mem_of_getElem? (i := 969) (by decide +kernel)⟩
theorem lw_p31 : lw_okq (⟨"FourthFaceModel", "hasText", "(I)Z"⟩, 27) := ⟨⟨by decide +kernel, by decide +kernel⟩, List.mem_of_getElem? (i := 827) (by decide +kernel), List.mem_of_getElem? (i := 976) (by decide +kernel), List.mem_of_getElem? (i := 977) (by decide +kernel)⟩
def lw_privs_2 : List (MethodName × Nat) := [(⟨"FourthFace$Ferry", "draw", "()I"⟩, 9), (⟨"FourthFace$World", "isMindLike", "(ILFourthFace$World;)Z"⟩, 13), (⟨"FourthFace$Voices", "begin", "(I)V"⟩, 6), (⟨"FourthFace$Voices", "part", "(I)I"⟩, 6), (⟨"FourthFaceModel", "error", "(I)I"⟩, 27), (⟨"FourthFaceModel", "whole", "()Z"⟩, 27), (⟨"FourthFaceModel", "both", "()Z"⟩, 27), (⟨"FourthFaceModel", "compared", "()Z"⟩, 27), (⟨"FourthFaceModel", "sum", "()Z"⟩, 27), (⟨"FourthFaceModel", "product", "()Z"⟩, 27), (⟨"FourthFaceModel", "one", "()Z"⟩, 27), (⟨"FourthFaceModel", "look", "()I"⟩, 27), (⟨"FourthFaceModel", "isName", "(I)Z"⟩, 27), (⟨"FourthFaceModel", "lays", "(II)V"⟩, 27), (⟨"FourthFaceModel", "opens", "()Z"⟩, 27), (⟨"FourthFaceModel", "hasText", "(I)Z"⟩, 27)]
theorem lw_r2 : ∀ q ∈ lw_privs_2, lw_okq q := List.forall_mem_cons.mpr ⟨lw_p16, List.forall_mem_cons.mpr ⟨lw_p17, List.forall_mem_cons.mpr ⟨lw_p18, List.forall_mem_cons.mpr ⟨lw_p19, List.forall_mem_cons.mpr ⟨lw_p20, List.forall_mem_cons.mpr ⟨lw_p21, List.forall_mem_cons.mpr ⟨lw_p22, List.forall_mem_cons.mpr ⟨lw_p23, List.forall_mem_cons.mpr ⟨lw_p24, List.forall_mem_cons.mpr ⟨lw_p25, List.forall_mem_cons.mpr ⟨lw_p26, List.forall_mem_cons.mpr ⟨lw_p27, List.forall_mem_cons.mpr ⟨lw_p28, List.forall_mem_cons.mpr ⟨lw_p29, List.forall_mem_cons.mpr ⟨lw_p30, List.forall_mem_cons.mpr ⟨lw_p31, fun _ h => absurd h List.not_mem_nil⟩⟩⟩⟩⟩⟩⟩⟩⟩⟩⟩⟩⟩⟩⟩⟩
theorem lw_p32 : lw_okq (⟨"FourthFaceModel", "isPerson", "(I)Z"⟩, 27) := ⟨⟨by decide +kernel, by decide +kernel⟩, List.mem_of_getElem? (i := 827) (by decide +kernel), List.mem_of_getElem? (i := 988) (by decide +kernel), List.mem_of_getElem? (i := 989) (by decide +kernel)⟩
theorem lw_p33 : lw_okq (⟨"FourthFaceModel", "findHeaps", "()V"⟩, 27) := ⟨⟨by decide +kernel, by decide +kernel⟩, List.mem_of_getElem? (i := 827) (by decide +kernel), List.mem_of_getElem? (i := 992) (by decide +kernel), List.mem_of_getElem? (i := 993) (by decide +kernel)⟩
theorem lw_p34 : lw_okq (⟨"FourthFaceModel", "its", "(II)I"⟩, 27) := ⟨⟨by decide +kernel, by decide +kernel⟩, List.mem_of_getElem? (i := 827) (by decide +kernel), List.mem_of_getElem? (i := 996) (by decide +kernel), List.mem_of_getElem? (i := 997) (by decide +kernel)⟩
theorem lw_p35 : lw_okq (⟨"FourthFaceModel", "of", "(II)I"⟩, 27) := ⟨⟨by decide +kernel, by decide +kernel⟩, List.mem_of_getElem? (i := 827) (by decide +kernel), List.mem_of_getElem? (i := 1000) (by decide +kernel), List.mem_of_getElem? (i := 1001) (by decide +kernel)⟩
theorem lw_p36 : lw_okq (⟨"FourthFaceModel", "knownBy", "(I)I"⟩, 27) := ⟨⟨by decide +kernel, by decide +kernel⟩, List.mem_of_getElem? (i := 827) (by decide +kernel), List.mem_of_getElem? (i := 1004) (by decide +kernel), List.mem_of_getElem? (i := 1005) (by decide +kernel)⟩
theorem lw_p37 : lw_okq (⟨"FourthFaceModel", "knows", "(II)Z"⟩, 27) := ⟨⟨by decide +kernel, by decide +kernel⟩, List.mem_of_getElem? (i := 827) (by decide +kernel), List.mem_of_getElem? (i := 1008) (by decide +kernel), List.mem_of_getElem? (i := 1009) (by decide +kernel)⟩
theorem lw_p38 : lw_okq (⟨"FourthFaceModel", "placeOf", "(II)I"⟩, 27) := ⟨⟨by decide +kernel, by decide +kernel⟩, List.mem_of_getElem? (i := 827) (by decide +kernel), List.mem_of_getElem? (i := 1012) (by decide +kernel), List.mem_of_getElem? (i := 1013) (by decide +kernel)⟩
theorem lw_p39 : lw_okq (⟨"FourthFaceModel", "lays1", "(III)V"⟩, 27) := ⟨⟨by decide +kernel, by decide +kernel⟩, List.mem_of_getElem? (i := 827) (by decide +kernel), List.mem_of_getElem? (i := 1020) (by decide +kernel), List.mem_of_getElem? (i := 1021) (by decide +kernel)⟩
theorem lw_p40 : lw_okq (⟨"FourthFaceModel", "isMan", "(I)Z"⟩, 27) := ⟨⟨by decide +kernel, by decide +kernel⟩, List.mem_of_getElem? (i := 827) (by decide +kernel), List.mem_of_getElem? (i := 1028) (by decide +kernel), List.mem_of_getElem? (i := 1029) (by decide +kernel)⟩
theorem lw_p41 : lw_okq (⟨"FourthFaceModel", "keeps", "(I)I"⟩, 27) := ⟨⟨by decide +kernel, by decide +kernel⟩, List.mem_of_getElem? (i := 827) (by decide +kernel), List.mem_of_getElem? (i := 1032) (by decide +kernel), List.mem_of_getElem? (i := 1033) (by decide +kernel)⟩
theorem lw_p42 : lw_okq (⟨"FourthFaceModel", "keepsTold", "(I)I"⟩, 27) := ⟨⟨by decide +kernel, by decide +kernel⟩, List.mem_of_getElem? (i := 827) (by decide +kernel), List.mem_of_getElem? (i := 1036) (by decide +kernel), List.mem_of_getElem? (i := 1037) (by decide +kernel)⟩
theorem lw_p43 : lw_okq (⟨"FourthFaceModel", "worked", "(I)I"⟩, 27) := ⟨⟨by decide +kernel, by decide +kernel⟩, List.mem_of_getElem? (i := 827) (by decide +kernel), List.mem_of_getElem? (i := 1040) (by decide +kernel), List.mem_of_getElem? (i := 1041) (by decide +kernel)⟩
theorem lw_p44 : lw_okq (⟨"FourthFaceModel", "fare", "(I)I"⟩, 27) := ⟨⟨by decide +kernel, by decide +kernel⟩, List.mem_of_getElem? (i := 827) (by decide +kernel), List.mem_of_getElem? (i := 1050) (by decide +kernel), List.mem_of_getElem? (i := 1051) (by decide +kernel)⟩
theorem lw_p45 : lw_okq (⟨"FourthFaceModel", "fareTold", "(I)I"⟩, 27) := ⟨⟨by decide +kernel, by decide +kernel⟩, List.mem_of_getElem? (i := 827) (by decide +kernel), List.mem_of_getElem? (i := 1054) (by decide +kernel), List.mem_of_getElem? (i := 1055) (by decide +kernel)⟩
theorem lw_p46 : lw_okq (⟨"FourthFaceModel", "whyNotCross", "(II)I"⟩, 27) := ⟨⟨by decide +kernel, by decide +kernel⟩, List.mem_of_getElem? (i := 827) (by decide +kernel), List.mem_of_getElem? (i := 1081) (by decide +kernel), List.mem_of_getElem? (i := 1082) (by decide +kernel)⟩
theorem lw_p47 : lw_okq (⟨"FourthFaceModel", "areTogether", "(II)Z"⟩, 27) := ⟨⟨by decide +kernel, by decide +kernel⟩, List.mem_of_getElem? (i := 827) (by decide +kernel), List.mem_of_getElem? (i := 1085) (by decide +kernel), List.mem_of_getElem? (i := 1086) (by decide +kernel)⟩
def lw_privs_3 : List (MethodName × Nat) := [(⟨"FourthFaceModel", "isPerson", "(I)Z"⟩, 27), (⟨"FourthFaceModel", "findHeaps", "()V"⟩, 27), (⟨"FourthFaceModel", "its", "(II)I"⟩, 27), (⟨"FourthFaceModel", "of", "(II)I"⟩, 27), (⟨"FourthFaceModel", "knownBy", "(I)I"⟩, 27), (⟨"FourthFaceModel", "knows", "(II)Z"⟩, 27), (⟨"FourthFaceModel", "placeOf", "(II)I"⟩, 27), (⟨"FourthFaceModel", "lays1", "(III)V"⟩, 27), (⟨"FourthFaceModel", "isMan", "(I)Z"⟩, 27), (⟨"FourthFaceModel", "keeps", "(I)I"⟩, 27), (⟨"FourthFaceModel", "keepsTold", "(I)I"⟩, 27), (⟨"FourthFaceModel", "worked", "(I)I"⟩, 27), (⟨"FourthFaceModel", "fare", "(I)I"⟩, 27), (⟨"FourthFaceModel", "fareTold", "(I)I"⟩, 27), (⟨"FourthFaceModel", "whyNotCross", "(II)I"⟩, 27), (⟨"FourthFaceModel", "areTogether", "(II)Z"⟩, 27)]
theorem lw_r3 : ∀ q ∈ lw_privs_3, lw_okq q := List.forall_mem_cons.mpr ⟨lw_p32, List.forall_mem_cons.mpr ⟨lw_p33, List.forall_mem_cons.mpr ⟨lw_p34, List.forall_mem_cons.mpr ⟨lw_p35, List.forall_mem_cons.mpr ⟨lw_p36, List.forall_mem_cons.mpr ⟨lw_p37, List.forall_mem_cons.mpr ⟨lw_p38, List.forall_mem_cons.mpr ⟨lw_p39, List.forall_mem_cons.mpr ⟨lw_p40, List.forall_mem_cons.mpr ⟨lw_p41, List.forall_mem_cons.mpr ⟨lw_p42, List.forall_mem_cons.mpr ⟨lw_p43, List.forall_mem_cons.mpr ⟨lw_p44, List.forall_mem_cons.mpr ⟨lw_p45, List.forall_mem_cons.mpr ⟨lw_p46, List.forall_mem_cons.mpr ⟨lw_p47, fun _ h => absurd h List.not_mem_nil⟩⟩⟩⟩⟩⟩⟩⟩⟩⟩⟩⟩⟩⟩⟩⟩
theorem lw_p48 : lw_okq (⟨"FourthFaceModel", "crosses", "(II)I"⟩, 27) := ⟨⟨by decide +kernel, by decide +kernel⟩, List.mem_of_getElem? (i := 827) (by decide +kernel), List.mem_of_getElem? (i := 1089) (by decide +kernel), List.mem_of_getElem? (i := 1090) (by decide +kernel)⟩
theorem lw_p49 : lw_okq (⟨"FourthFaceModel", "forgets", "(II)V"⟩, 27) := ⟨⟨by decide +kernel, by decide +kernel⟩, List.mem_of_getElem? (i := 827) (by decide +kernel), List.mem_of_getElem? (i := 1094) (by decide +kernel), List.mem_of_getElem? (i := 1095) (by decide +kernel)⟩
theorem lw_p50 : lw_okq (⟨"FourthFaceModel", "comes", "(II)V"⟩, 27) := ⟨⟨by decide +kernel, by decide +kernel⟩, List.mem_of_getElem? (i := 827) (by decide +kernel), List.mem_of_getElem? (i := 1098) (by decide +kernel), List.mem_of_getElem? (i := 1099) (by decide +kernel)⟩
theorem lw_p51 : lw_okq (⟨"FourthFaceModel", "goesAlone", "(I)V"⟩, 27) := ⟨⟨by decide +kernel, by decide +kernel⟩, List.mem_of_getElem? (i := 827) (by decide +kernel), List.mem_of_getElem? (i := 1106) (by decide +kernel), List.mem_of_getElem? (i := 1107) (by decide +kernel)⟩
theorem lw_p52 : lw_okq (⟨"FourthFaceModel", "crossByDraws", "()V"⟩, 27) := ⟨⟨by decide +kernel, by decide +kernel⟩, List.mem_of_getElem? (i := 827) (by decide +kernel), List.mem_of_getElem? (i := 1114) (by decide +kernel), List.mem_of_getElem? (i := 1115) (by decide +kernel)⟩
theorem lw_p53 : lw_okq (⟨"FourthFaceModel", "draw", "()I"⟩, 27) := ⟨⟨by decide +kernel, by decide +kernel⟩, List.mem_of_getElem? (i := 827) (by decide +kernel), List.mem_of_getElem? (i := 1118) (by decide +kernel), List.mem_of_getElem? (i := 1119) (by decide +kernel)⟩
theorem lw_p54 : lw_okq (⟨"FourthFaceModel", "holds", "(I)Z"⟩, 27) := ⟨⟨by decide +kernel, by decide +kernel⟩, List.mem_of_getElem? (i := 827) (by decide +kernel), List.mem_of_getElem? (i := 1139) (by decide +kernel), List.mem_of_getElem? (i := 1140) (by decide +kernel)⟩
theorem lw_p55 : lw_okq (⟨"FourthFaceModel", "owed", "(II)I"⟩, 27) := ⟨⟨by decide +kernel, by decide +kernel⟩, List.mem_of_getElem? (i := 827) (by decide +kernel), List.mem_of_getElem? (i := 1143) (by decide +kernel), List.mem_of_getElem? (i := 1144) (by decide +kernel)⟩
theorem lw_p56 : lw_okq (⟨"FourthFaceModel", "holding", "()I"⟩, 27) := ⟨⟨by decide +kernel, by decide +kernel⟩, List.mem_of_getElem? (i := 827) (by decide +kernel), List.mem_of_getElem? (i := 1155) (by decide +kernel), List.mem_of_getElem? (i := 1156) (by decide +kernel)⟩
theorem lw_p57 : lw_okq (⟨"FourthFaceModel", "layDown", "(I)V"⟩, 27) := ⟨⟨by decide +kernel, by decide +kernel⟩, List.mem_of_getElem? (i := 827) (by decide +kernel), List.mem_of_getElem? (i := 1159) (by decide +kernel), List.mem_of_getElem? (i := 1160) (by decide +kernel)⟩
theorem lw_p58 : lw_okq (⟨"FourthFaceModel", "layBack", "(I)V"⟩, 27) := ⟨⟨by decide +kernel, by decide +kernel⟩, List.mem_of_getElem? (i := 827) (by decide +kernel), List.mem_of_getElem? (i := 1163) (by decide +kernel), List.mem_of_getElem? (i := 1164) (by decide +kernel)⟩
theorem lw_p59 : lw_okq (⟨"FourthFaceModel", "estranges", "(IIII)I"⟩, 27) := ⟨⟨by decide +kernel, by decide +kernel⟩, List.mem_of_getElem? (i := 827) (by decide +kernel), List.mem_of_getElem? (i := 1171) (by decide +kernel), List.mem_of_getElem? (i := 1172) (by decide +kernel)⟩
theorem lw_p60 : lw_okq (⟨"FourthFaceModel", "ferries", "(IIII)V"⟩, 27) := ⟨⟨by decide +kernel, by decide +kernel⟩, List.mem_of_getElem? (i := 827) (by decide +kernel), List.mem_of_getElem? (i := 1179) (by decide +kernel), List.mem_of_getElem? (i := 1180) (by decide +kernel)⟩
theorem lw_p61 : lw_okq (⟨"FourthFaceModel", "fits", "(III)V"⟩, 27) := ⟨⟨by decide +kernel, by decide +kernel⟩, List.mem_of_getElem? (i := 827) (by decide +kernel), List.mem_of_getElem? (i := 1198) (by decide +kernel), List.mem_of_getElem? (i := 1199) (by decide +kernel)⟩
theorem lw_p62 : lw_okq (⟨"FourthFaceModel", "areAsPut", "()Z"⟩, 27) := ⟨⟨by decide +kernel, by decide +kernel⟩, List.mem_of_getElem? (i := 827) (by decide +kernel), List.mem_of_getElem? (i := 1202) (by decide +kernel), List.mem_of_getElem? (i := 1203) (by decide +kernel)⟩
theorem lw_p63 : lw_okq (⟨"FourthFaceModel", "kindNow", "()I"⟩, 27) := ⟨⟨by decide +kernel, by decide +kernel⟩, List.mem_of_getElem? (i := 827) (by decide +kernel), List.mem_of_getElem? (i := 1210) (by decide +kernel), List.mem_of_getElem? (i := 1211) (by decide +kernel)⟩
def lw_privs_4 : List (MethodName × Nat) := [(⟨"FourthFaceModel", "crosses", "(II)I"⟩, 27), (⟨"FourthFaceModel", "forgets", "(II)V"⟩, 27), (⟨"FourthFaceModel", "comes", "(II)V"⟩, 27), (⟨"FourthFaceModel", "goesAlone", "(I)V"⟩, 27), (⟨"FourthFaceModel", "crossByDraws", "()V"⟩, 27), (⟨"FourthFaceModel", "draw", "()I"⟩, 27), (⟨"FourthFaceModel", "holds", "(I)Z"⟩, 27), (⟨"FourthFaceModel", "owed", "(II)I"⟩, 27), (⟨"FourthFaceModel", "holding", "()I"⟩, 27), (⟨"FourthFaceModel", "layDown", "(I)V"⟩, 27), (⟨"FourthFaceModel", "layBack", "(I)V"⟩, 27), (⟨"FourthFaceModel", "estranges", "(IIII)I"⟩, 27), (⟨"FourthFaceModel", "ferries", "(IIII)V"⟩, 27), (⟨"FourthFaceModel", "fits", "(III)V"⟩, 27), (⟨"FourthFaceModel", "areAsPut", "()Z"⟩, 27), (⟨"FourthFaceModel", "kindNow", "()I"⟩, 27)]
theorem lw_r4 : ∀ q ∈ lw_privs_4, lw_okq q := List.forall_mem_cons.mpr ⟨lw_p48, List.forall_mem_cons.mpr ⟨lw_p49, List.forall_mem_cons.mpr ⟨lw_p50, List.forall_mem_cons.mpr ⟨lw_p51, List.forall_mem_cons.mpr ⟨lw_p52, List.forall_mem_cons.mpr ⟨lw_p53, List.forall_mem_cons.mpr ⟨lw_p54, List.forall_mem_cons.mpr ⟨lw_p55, List.forall_mem_cons.mpr ⟨lw_p56, List.forall_mem_cons.mpr ⟨lw_p57, List.forall_mem_cons.mpr ⟨lw_p58, List.forall_mem_cons.mpr ⟨lw_p59, List.forall_mem_cons.mpr ⟨lw_p60, List.forall_mem_cons.mpr ⟨lw_p61, List.forall_mem_cons.mpr ⟨lw_p62, List.forall_mem_cons.mpr ⟨lw_p63, fun _ h => absurd h List.not_mem_nil⟩⟩⟩⟩⟩⟩⟩⟩⟩⟩⟩⟩⟩⟩⟩⟩
theorem lw_p64 : lw_okq (⟨"FourthFaceModel", "rowsAs", "(II)I"⟩, 27) := ⟨⟨by decide +kernel, by decide +kernel⟩, List.mem_of_getElem? (i := 827) (by decide +kernel), List.mem_of_getElem? (i := 1214) (by decide +kernel), List.mem_of_getElem? (i := 1215) (by decide +kernel)⟩
theorem lw_p65 : lw_okq (⟨"FourthFaceModel", "begins", "(I)V"⟩, 27) := ⟨⟨by decide +kernel, by decide +kernel⟩, List.mem_of_getElem? (i := 827) (by decide +kernel), List.mem_of_getElem? (i := 1218) (by decide +kernel), List.mem_of_getElem? (i := 1219) (by decide +kernel)⟩
theorem lw_p66 : lw_okq (⟨"FourthFaceModel", "keepsAs", "(II)I"⟩, 27) := ⟨⟨by decide +kernel, by decide +kernel⟩, List.mem_of_getElem? (i := 827) (by decide +kernel), List.mem_of_getElem? (i := 1225) (by decide +kernel), List.mem_of_getElem? (i := 1226) (by decide +kernel)⟩
theorem lw_p67 : lw_okq (⟨"FourthFaceModel", "mNow", "()I"⟩, 27) := ⟨⟨by decide +kernel, by decide +kernel⟩, List.mem_of_getElem? (i := 827) (by decide +kernel), List.mem_of_getElem? (i := 1229) (by decide +kernel), List.mem_of_getElem? (i := 1230) (by decide +kernel)⟩
theorem lw_p68 : lw_okq (⟨"FourthFaceModel", "asksAs", "(II)I"⟩, 27) := ⟨⟨by decide +kernel, by decide +kernel⟩, List.mem_of_getElem? (i := 827) (by decide +kernel), List.mem_of_getElem? (i := 1233) (by decide +kernel), List.mem_of_getElem? (i := 1234) (by decide +kernel)⟩
theorem lw_p69 : lw_okq (⟨"FourthFaceModel", "partsAs", "(II)I"⟩, 27) := ⟨⟨by decide +kernel, by decide +kernel⟩, List.mem_of_getElem? (i := 827) (by decide +kernel), List.mem_of_getElem? (i := 1237) (by decide +kernel), List.mem_of_getElem? (i := 1238) (by decide +kernel)⟩
theorem lw_p70 : lw_okq (⟨"FourthFaceModel", "lacks", "(I)I"⟩, 27) := ⟨⟨by decide +kernel, by decide +kernel⟩, List.mem_of_getElem? (i := 827) (by decide +kernel), List.mem_of_getElem? (i := 1264) (by decide +kernel), List.mem_of_getElem? (i := 1265) (by decide +kernel)⟩
theorem lw_p71 : lw_okq (⟨"FourthFaceModel", "allCoins", "()I"⟩, 27) := ⟨⟨by decide +kernel, by decide +kernel⟩, List.mem_of_getElem? (i := 827) (by decide +kernel), List.mem_of_getElem? (i := 1292) (by decide +kernel), List.mem_of_getElem? (i := 1293) (by decide +kernel)⟩
def lw_privs_5 : List (MethodName × Nat) := [(⟨"FourthFaceModel", "rowsAs", "(II)I"⟩, 27), (⟨"FourthFaceModel", "begins", "(I)V"⟩, 27), (⟨"FourthFaceModel", "keepsAs", "(II)I"⟩, 27), (⟨"FourthFaceModel", "mNow", "()I"⟩, 27), (⟨"FourthFaceModel", "asksAs", "(II)I"⟩, 27), (⟨"FourthFaceModel", "partsAs", "(II)I"⟩, 27), (⟨"FourthFaceModel", "lacks", "(I)I"⟩, 27), (⟨"FourthFaceModel", "allCoins", "()I"⟩, 27)]
theorem lw_r5 : ∀ q ∈ lw_privs_5, lw_okq q := List.forall_mem_cons.mpr ⟨lw_p64, List.forall_mem_cons.mpr ⟨lw_p65, List.forall_mem_cons.mpr ⟨lw_p66, List.forall_mem_cons.mpr ⟨lw_p67, List.forall_mem_cons.mpr ⟨lw_p68, List.forall_mem_cons.mpr ⟨lw_p69, List.forall_mem_cons.mpr ⟨lw_p70, List.forall_mem_cons.mpr ⟨lw_p71, fun _ h => absurd h List.not_mem_nil⟩⟩⟩⟩⟩⟩⟩⟩
def lw_privs : List (MethodName × Nat) := lw_privs_1 ++ (lw_privs_2 ++ (lw_privs_3 ++ (lw_privs_4 ++ (lw_privs_5))))
def lw_tbl : List Cond := k2_sels lw_privs ++ tables_1
theorem lw_privs_ok : ∀ q ∈ lw_privs, lw_okq q := by
  show ∀ q ∈ lw_privs_1 ++ (lw_privs_2 ++ (lw_privs_3 ++ (lw_privs_4 ++ (lw_privs_5)))), lw_okq q
  exact List.forall_mem_append.mpr ⟨lw_r1, List.forall_mem_append.mpr ⟨lw_r2, List.forall_mem_append.mpr ⟨lw_r3, List.forall_mem_append.mpr ⟨lw_r4, lw_r5⟩⟩⟩⟩
end
section
def RX0 : String := "FourthFace$Debts"
def TX0 : u_T := fun k => match k with
  | 0 => ("FourthFace$Debts", "size", "I", false)
  | 1 => ("FourthFace$Debts", "ower", "[I", true)
  | 2 => ("FourthFace$Debts", "owed", "[I", true)
  | _ => ("FourthFace$Debts", "coins", "[I", true)
def tyX0 : Nat → FieldType := fun k => match k with
  | 0 => .int
  | 1 => .array .int
  | 2 => .array .int
  | _ => .array .int
theorem nmX0 : ∀ a, a < 4 → ∀ b, b < 4 → a ≠ b → (TX0 a).2.1 ≠ (TX0 b).2.1 := by decide +kernel
theorem tyX0_ok : ∀ k, k < 4 → parseFieldDescriptor (TX0 k).2.2.1 = some (tyX0 k) := by decide +kernel
abbrev cX0_init : ByteArray := prog_2_method_1_code
def yX0_init : MethodName := ⟨RX0, "<init>", "()V"⟩
abbrev cX0_copyFrom : ByteArray := prog_2_method_2_code
def yX0_copyFrom : MethodName := ⟨RX0, "copyFrom", "(LFourthFace$Debts;)V"⟩
abbrev cX0_add : ByteArray := prog_2_method_3_code
def yX0_add : MethodName := ⟨RX0, "add", "(III)I"⟩
abbrev cX0_holds : ByteArray := prog_2_method_4_code
def yX0_holds : MethodName := ⟨RX0, "holds", "(ILFourthFace$World;)Z"⟩
abbrev cX0_holding : ByteArray := prog_2_method_5_code
def yX0_holding : MethodName := ⟨RX0, "holding", "(LFourthFace$World;)I"⟩
abbrev cX0_lessen : ByteArray := prog_2_method_6_code
def yX0_lessen : MethodName := ⟨RX0, "lessen", "(II)V"⟩
def RX1 : String := "FourthFace$Ferry"
def TX1 : u_T := fun k => match k with
  | 0 => ("FourthFace$Ferry", "world", "LFourthFace$World;", true)
  | 1 => ("FourthFace$Ferry", "debts", "LFourthFace$Debts;", true)
  | 2 => ("FourthFace$Ferry", "tape", "[I", true)
  | 3 => ("FourthFace$Ferry", "fed", "I", false)
  | 4 => ("FourthFace$Ferry", "waits", "[I", true)
  | 5 => ("FourthFace$Ferry", "waiting", "I", false)
  | 6 => ("FourthFace$Ferry", "tollBook", "[I", true)
  | 7 => ("FourthFace$Ferry", "booked", "I", false)
  | _ => ("FourthFace$Ferry", "z", "I", false)
def tyX1 : Nat → FieldType := fun k => match k with
  | 0 => .object "FourthFace$World"
  | 1 => .object "FourthFace$Debts"
  | 2 => .array .int
  | 3 => .int
  | 4 => .array .int
  | 5 => .int
  | 6 => .array .int
  | 7 => .int
  | _ => .int
theorem nmX1 : ∀ a, a < 9 → ∀ b, b < 9 → a ≠ b → (TX1 a).2.1 ≠ (TX1 b).2.1 := by decide +kernel
theorem tyX1_ok : ∀ k, k < 9 → parseFieldDescriptor (TX1 k).2.2.1 = some (tyX1 k) := by decide +kernel
abbrev cX1_init : ByteArray := prog_3_method_1_code
def yX1_init : MethodName := ⟨RX1, "<init>", "(LFourthFace$Law;)V"⟩
abbrev cX1_copyFrom : ByteArray := prog_3_method_2_code
def yX1_copyFrom : MethodName := ⟨RX1, "copyFrom", "(LFourthFace$Ferry;)V"⟩
abbrev cX1_carryAndBook : ByteArray := prog_3_method_3_code
def yX1_carryAndBook : MethodName := ⟨RX1, "carryAndBook", "(II)I"⟩
abbrev cX1_crossByDraw : ByteArray := prog_3_method_4_code
def yX1_crossByDraw : MethodName := ⟨RX1, "crossByDraw", "()V"⟩
abbrev cX1_draw : ByteArray := prog_3_method_5_code
def yX1_draw : MethodName := ⟨RX1, "draw", "()I"⟩
abbrev cX1_facesBackTo : ByteArray := prog_3_method_6_code
def yX1_facesBackTo : MethodName := ⟨RX1, "facesBackTo", "(II)I"⟩
def RX2 : String := "FourthFace$Law"
def TX2 : u_T := fun k => match k with
  | 0 => ("FourthFace$Law", "code", "[I", true)
  | _ => ("FourthFace$Law", "stack", "[I", true)
def tyX2 : Nat → FieldType := fun k => match k with
  | 0 => .array .int
  | _ => .array .int
theorem nmX2 : ∀ a, a < 2 → ∀ b, b < 2 → a ≠ b → (TX2 a).2.1 ≠ (TX2 b).2.1 := by decide +kernel
theorem tyX2_ok : ∀ k, k < 2 → parseFieldDescriptor (TX2 k).2.2.1 = some (tyX2 k) := by decide +kernel
abbrev cX2_init : ByteArray := prog_4_method_1_code
def yX2_init : MethodName := ⟨RX2, "<init>", "([I)V"⟩
abbrev cX2_isTold : ByteArray := prog_4_method_2_code
def yX2_isTold : MethodName := ⟨RX2, "isTold", "()Z"⟩
abbrev cX2_value : ByteArray := prog_4_method_3_code
def yX2_value : MethodName := ⟨RX2, "value", "(III)I"⟩
abbrev cX2_join : ByteArray := prog_4_method_4_code
def yX2_join : MethodName := ⟨RX2, "join", "(III)I"⟩
def RX3 : String := "FourthFace$Reader"
def TX3 : u_T := fun k => match k with
  | 0 => ("FourthFace$Reader", "tape", "[I", true)
  | 1 => ("FourthFace$Reader", "length", "I", true)
  | 2 => ("FourthFace$Reader", "use", "I", true)
  | 3 => ("FourthFace$Reader", "code", "[I", true)
  | 4 => ("FourthFace$Reader", "size", "I", false)
  | 5 => ("FourthFace$Reader", "at", "I", false)
  | _ => ("FourthFace$Reader", "lost", "Z", false)
def tyX3 : Nat → FieldType := fun k => match k with
  | 0 => .array .int
  | 1 => .int
  | 2 => .int
  | 3 => .array .int
  | 4 => .int
  | 5 => .int
  | _ => .boolean
theorem nmX3 : ∀ a, a < 7 → ∀ b, b < 7 → a ≠ b → (TX3 a).2.1 ≠ (TX3 b).2.1 := by decide +kernel
theorem tyX3_ok : ∀ k, k < 7 → parseFieldDescriptor (TX3 k).2.2.1 = some (tyX3 k) := by decide +kernel
abbrev cX3_init : ByteArray := prog_5_method_1_code
def yX3_init : MethodName := ⟨RX3, "<init>", "([III)V"⟩
abbrev cX3_readsAll : ByteArray := prog_5_method_2_code
def yX3_readsAll : MethodName := ⟨RX3, "readsAll", "()Z"⟩
abbrev cX3_place : ByteArray := prog_5_method_3_code
def yX3_place : MethodName := ⟨RX3, "place", "()I"⟩
abbrev cX3_law : ByteArray := prog_5_method_4_code
def yX3_law : MethodName := ⟨RX3, "law", "()LFourthFace$Law;"⟩
abbrev cX3_readJoined : ByteArray := prog_5_method_5_code
def yX3_readJoined : MethodName := ⟨RX3, "readJoined", "(II)V"⟩
abbrev cX3_joinsAt : ByteArray := prog_5_method_6_code
def yX3_joinsAt : MethodName := ⟨RX3, "joinsAt", "(I)Z"⟩
abbrev cX3_levelOf : ByteArray := prog_5_method_7_code
def yX3_levelOf : MethodName := ⟨RX3, "levelOf", "(I)I"⟩
abbrev cX3_readOne : ByteArray := prog_5_method_8_code
def yX3_readOne : MethodName := ⟨RX3, "readOne", "(I)V"⟩
abbrev cX3_close : ByteArray := prog_5_method_9_code
def yX3_close : MethodName := ⟨RX3, "close", "()V"⟩
abbrev cX3_readNumber : ByteArray := prog_5_method_10_code
def yX3_readNumber : MethodName := ⟨RX3, "readNumber", "()V"⟩
abbrev cX3_nameOf : ByteArray := prog_5_method_11_code
def yX3_nameOf : MethodName := ⟨RX3, "nameOf", "(I)I"⟩
abbrev cX3_seesDigit : ByteArray := prog_5_method_12_code
def yX3_seesDigit : MethodName := ⟨RX3, "seesDigit", "()Z"⟩
abbrev cX3_sees : ByteArray := prog_5_method_13_code
def yX3_sees : MethodName := ⟨RX3, "sees", "(I)Z"⟩
abbrev cX3_write : ByteArray := prog_5_method_14_code
def yX3_write : MethodName := ⟨RX3, "write", "(I)V"⟩
def RX4 : String := "FourthFace$Sheets"
def TX4 : u_T := fun k => match k with
  | 0 => ("FourthFace$Sheets", "width", "[I", true)
  | 1 => ("FourthFace$Sheets", "size", "[I", true)
  | _ => ("FourthFace$Sheets", "numbers", "[[I", true)
def tyX4 : Nat → FieldType := fun k => match k with
  | 0 => .array .int
  | 1 => .array .int
  | _ => .array (.array .int)
theorem nmX4 : ∀ a, a < 3 → ∀ b, b < 3 → a ≠ b → (TX4 a).2.1 ≠ (TX4 b).2.1 := by decide +kernel
theorem tyX4_ok : ∀ k, k < 3 → parseFieldDescriptor (TX4 k).2.2.1 = some (tyX4 k) := by decide +kernel
abbrev cX4_init : ByteArray := prog_6_method_1_code
def yX4_init : MethodName := ⟨RX4, "<init>", "()V"⟩
abbrev cX4_isOne : ByteArray := prog_6_method_2_code
def yX4_isOne : MethodName := ⟨RX4, "isOne", "(I)Z"⟩
abbrev cX4_isWidth : ByteArray := prog_6_method_3_code
def yX4_isWidth : MethodName := ⟨RX4, "isWidth", "(I)Z"⟩
abbrev cX4_isMissing : ByteArray := prog_6_method_4_code
def yX4_isMissing : MethodName := ⟨RX4, "isMissing", "(I)Z"⟩
abbrev cX4_layOut : ByteArray := prog_6_method_5_code
def yX4_layOut : MethodName := ⟨RX4, "layOut", "(III)V"⟩
abbrev cX4_write : ByteArray := prog_6_method_6_code
def yX4_write : MethodName := ⟨RX4, "write", "(III)V"⟩
abbrev cX4_stand : ByteArray := prog_6_method_7_code
def yX4_stand : MethodName := ⟨RX4, "stand", "(III)Z"⟩
def RX5 : String := "FourthFace$Voices"
def TX5 : u_T := fun k => match k with
  | 0 => ("FourthFace$Voices", "trace", "[I", true)
  | 1 => ("FourthFace$Voices", "traced", "I", false)
  | 2 => ("FourthFace$Voices", "parted", "Z", false)
  | 3 => ("FourthFace$Voices", "kind", "I", false)
  | 4 => ("FourthFace$Voices", "m", "I", false)
  | _ => ("FourthFace$Voices", "k", "I", false)
def tyX5 : Nat → FieldType := fun k => match k with
  | 0 => .array .int
  | 1 => .int
  | 2 => .boolean
  | 3 => .int
  | 4 => .int
  | _ => .int
theorem nmX5 : ∀ a, a < 6 → ∀ b, b < 6 → a ≠ b → (TX5 a).2.1 ≠ (TX5 b).2.1 := by decide +kernel
theorem tyX5_ok : ∀ k, k < 6 → parseFieldDescriptor (TX5 k).2.2.1 = some (tyX5 k) := by decide +kernel
abbrev cX5_init : ByteArray := prog_7_method_1_code
def yX5_init : MethodName := ⟨RX5, "<init>", "()V"⟩
abbrev cX5_speak : ByteArray := prog_7_method_2_code
def yX5_speak : MethodName := ⟨RX5, "speak", "(IIIII)I"⟩
abbrev cX5_say : ByteArray := prog_7_method_3_code
def yX5_say : MethodName := ⟨RX5, "say", "(LFourthFace$Voices;IIII)I"⟩
abbrev cX5_bodyFrom : ByteArray := prog_7_method_4_code
def yX5_bodyFrom : MethodName := ⟨RX5, "bodyFrom", "(II)I"⟩
abbrev cX5_begin : ByteArray := prog_7_method_5_code
def yX5_begin : MethodName := ⟨RX5, "begin", "(I)V"⟩
abbrev cX5_part : ByteArray := prog_7_method_6_code
def yX5_part : MethodName := ⟨RX5, "part", "(I)I"⟩
def RX6 : String := "FourthFace$WhatIf"
def TX6 : u_T := fun k => match k with
  | 0 => ("FourthFace$WhatIf", "behind", "[LFourthFace$World;", true)
  | 1 => ("FourthFace$WhatIf", "fewest", "I", false)
  | 2 => ("FourthFace$WhatIf", "cheapest", "I", false)
  | 3 => ("FourthFace$WhatIf", "cheapestRow", "[I", true)
  | 4 => ("FourthFace$WhatIf", "triedRow", "[I", true)
  | 5 => ("FourthFace$WhatIf", "gossips", "Z", false)
  | 6 => ("FourthFace$WhatIf", "rowsFound", "I", false)
  | _ => ("FourthFace$WhatIf", "crossedInThem", "I", false)
def tyX6 : Nat → FieldType := fun k => match k with
  | 0 => .array (.object "FourthFace$World")
  | 1 => .int
  | 2 => .int
  | 3 => .array .int
  | 4 => .array .int
  | 5 => .boolean
  | 6 => .int
  | _ => .int
theorem nmX6 : ∀ a, a < 8 → ∀ b, b < 8 → a ≠ b → (TX6 a).2.1 ≠ (TX6 b).2.1 := by decide +kernel
theorem tyX6_ok : ∀ k, k < 8 → parseFieldDescriptor (TX6 k).2.2.1 = some (tyX6 k) := by decide +kernel
abbrev cX6_init : ByteArray := prog_8_method_1_code
def yX6_init : MethodName := ⟨RX6, "<init>", "(LFourthFace$Law;)V"⟩
abbrev cX6_behindOne : ByteArray := prog_8_method_2_code
def yX6_behindOne : MethodName := ⟨RX6, "behindOne", "(LFourthFace$World;II)LFourthFace$World;"⟩
abbrev cX6_fewestHired : ByteArray := prog_8_method_3_code
def yX6_fewestHired : MethodName := ⟨RX6, "fewestHired", "(LFourthFace$World;III)I"⟩
abbrev cX6_hire : ByteArray := prog_8_method_4_code
def yX6_hire : MethodName := ⟨RX6, "hire", "(LFourthFace$WhatIf;III)V"⟩
abbrev cX6_findsWay : ByteArray := prog_8_method_5_code
def yX6_findsWay : MethodName := ⟨RX6, "findsWay", "(LFourthFace$World;II)Z"⟩
abbrev cX6_ride : ByteArray := prog_8_method_6_code
def yX6_ride : MethodName := ⟨RX6, "ride", "(LFourthFace$WhatIf;IIII)V"⟩
abbrev cX6_findRows : ByteArray := prog_8_method_7_code
def yX6_findRows : MethodName := ⟨RX6, "findRows", "(LFourthFace$World;LFourthFace$World;I)V"⟩
abbrev cX6_follow : ByteArray := prog_8_method_8_code
def yX6_follow : MethodName := ⟨RX6, "follow", "(LFourthFace$WhatIf;LFourthFace$World;III)V"⟩
def RX7 : String := "FourthFace$World"
def TX7 : u_T := fun k => match k with
  | 0 => ("FourthFace$World", "turn", "I", false)
  | 1 => ("FourthFace$World", "people", "I", false)
  | 2 => ("FourthFace$World", "men", "I", false)
  | 3 => ("FourthFace$World", "personBank", "[I", true)
  | 4 => ("FourthFace$World", "personCoins", "[I", true)
  | 5 => ("FourthFace$World", "kind", "[I", true)
  | 6 => ("FourthFace$World", "digit", "[I", true)
  | 7 => ("FourthFace$World", "manBank", "[I", true)
  | 8 => ("FourthFace$World", "manCoins", "[I", true)
  | 9 => ("FourthFace$World", "known", "[I", true)
  | 10 => ("FourthFace$World", "minds", "[I", true)
  | 11 => ("FourthFace$World", "keepsLaw", "LFourthFace$Law;", false)
  | _ => ("FourthFace$World", "fareLaw", "LFourthFace$Law;", false)
def tyX7 : Nat → FieldType := fun k => match k with
  | 0 => .int
  | 1 => .int
  | 2 => .int
  | 3 => .array .int
  | 4 => .array .int
  | 5 => .array .int
  | 6 => .array .int
  | 7 => .array .int
  | 8 => .array .int
  | 9 => .array .int
  | 10 => .array .int
  | 11 => .object "FourthFace$Law"
  | _ => .object "FourthFace$Law"
theorem nmX7 : ∀ a, a < 13 → ∀ b, b < 13 → a ≠ b → (TX7 a).2.1 ≠ (TX7 b).2.1 := by decide +kernel
theorem tyX7_ok : ∀ k, k < 13 → parseFieldDescriptor (TX7 k).2.2.1 = some (tyX7 k) := by decide +kernel
abbrev cX7_init : ByteArray := prog_9_method_1_code
def yX7_init : MethodName := ⟨RX7, "<init>", "(LFourthFace$Law;)V"⟩
abbrev cX7_copyFrom : ByteArray := prog_9_method_2_code
def yX7_copyFrom : MethodName := ⟨RX7, "copyFrom", "(LFourthFace$World;)V"⟩
abbrev cX7_hasPerson : ByteArray := prog_9_method_3_code
def yX7_hasPerson : MethodName := ⟨RX7, "hasPerson", "(I)Z"⟩
abbrev cX7_hasMan : ByteArray := prog_9_method_4_code
def yX7_hasMan : MethodName := ⟨RX7, "hasMan", "(I)Z"⟩
abbrev cX7_addPerson : ByteArray := prog_9_method_5_code
def yX7_addPerson : MethodName := ⟨RX7, "addPerson", "(I)I"⟩
abbrev cX7_addMan : ByteArray := prog_9_method_6_code
def yX7_addMan : MethodName := ⟨RX7, "addMan", "(III)I"⟩
abbrev cX7_law : ByteArray := prog_9_method_7_code
def yX7_law : MethodName := ⟨RX7, "law", "(I)LFourthFace$Law;"⟩
abbrev cX7_setLaw : ByteArray := prog_9_method_8_code
def yX7_setLaw : MethodName := ⟨RX7, "setLaw", "(ILFourthFace$Law;)V"⟩
abbrev cX7_keeps : ByteArray := prog_9_method_9_code
def yX7_keeps : MethodName := ⟨RX7, "keeps", "(I)I"⟩
abbrev cX7_fare : ByteArray := prog_9_method_10_code
def yX7_fare : MethodName := ⟨RX7, "fare", "(I)I"⟩
abbrev cX7_face : ByteArray := prog_9_method_11_code
def yX7_face : MethodName := ⟨RX7, "face", "(II)I"⟩
abbrev cX7_placeOf : ByteArray := prog_9_method_12_code
def yX7_placeOf : MethodName := ⟨RX7, "placeOf", "(II)I"⟩
abbrev cX7_knows : ByteArray := prog_9_method_13_code
def yX7_knows : MethodName := ⟨RX7, "knows", "(II)Z"⟩
abbrev cX7_bitsOfFaces : ByteArray := prog_9_method_14_code
def yX7_bitsOfFaces : MethodName := ⟨RX7, "bitsOfFaces", "(I)I"⟩
abbrev cX7_bitsOfKnowers : ByteArray := prog_9_method_15_code
def yX7_bitsOfKnowers : MethodName := ⟨RX7, "bitsOfKnowers", "(I)I"⟩
abbrev cX7_bitsOfHeap : ByteArray := prog_9_method_16_code
def yX7_bitsOfHeap : MethodName := ⟨RX7, "bitsOfHeap", "(I)I"⟩
abbrev cX7_leastOfHeap : ByteArray := prog_9_method_17_code
def yX7_leastOfHeap : MethodName := ⟨RX7, "leastOfHeap", "(I)I"⟩
abbrev cX7_allCoins : ByteArray := prog_9_method_18_code
def yX7_allCoins : MethodName := ⟨RX7, "allCoins", "()I"⟩
abbrev cX7_meet : ByteArray := prog_9_method_19_code
def yX7_meet : MethodName := ⟨RX7, "meet", "(II)Z"⟩
abbrev cX7_howManyWith : ByteArray := prog_9_method_20_code
def yX7_howManyWith : MethodName := ⟨RX7, "howManyWith", "(I)I"⟩
abbrev cX7_oneWith : ByteArray := prog_9_method_21_code
def yX7_oneWith : MethodName := ⟨RX7, "oneWith", "(II)I"⟩
abbrev cX7_rowOver : ByteArray := prog_9_method_22_code
def yX7_rowOver : MethodName := ⟨RX7, "rowOver", "(I)V"⟩
abbrev cX7_carry : ByteArray := prog_9_method_23_code
def yX7_carry : MethodName := ⟨RX7, "carry", "(II)I"⟩
abbrev cX7_faceComes : ByteArray := prog_9_method_24_code
def yX7_faceComes : MethodName := ⟨RX7, "faceComes", "(II)V"⟩
abbrev cX7_loseFace : ByteArray := prog_9_method_25_code
def yX7_loseFace : MethodName := ⟨RX7, "loseFace", "(II)V"⟩
abbrev cX7_bitsOfUnlikeMinds : ByteArray := prog_9_method_26_code
def yX7_bitsOfUnlikeMinds : MethodName := ⟨RX7, "bitsOfUnlikeMinds", "(LFourthFace$World;)I"⟩
abbrev cX7_isMindLike : ByteArray := prog_9_method_27_code
def yX7_isMindLike : MethodName := ⟨RX7, "isMindLike", "(ILFourthFace$World;)Z"⟩
abbrev cX7_hasGossip : ByteArray := prog_9_method_28_code
def yX7_hasGossip : MethodName := ⟨RX7, "hasGossip", "()Z"⟩
def RX8 : String := "FourthFace"
def TX8 : u_T := fun k => match k with
  | 0 => ("FourthFace", "untold", "LFourthFace$Law;", true)
  | 1 => ("FourthFace", "now", "LFourthFace$Ferry;", true)
  | 2 => ("FourthFace", "kept", "LFourthFace$Ferry;", true)
  | 3 => ("FourthFace", "whatIf", "LFourthFace$WhatIf;", true)
  | 4 => ("FourthFace", "sheets", "LFourthFace$Sheets;", true)
  | 5 => ("FourthFace", "voices", "LFourthFace$Voices;", true)
  | 6 => ("FourthFace", "refused", "[I", true)
  | _ => ("FourthFace", "images", "I", false)
def tyX8 : Nat → FieldType := fun k => match k with
  | 0 => .object "FourthFace$Law"
  | 1 => .object "FourthFace$Ferry"
  | 2 => .object "FourthFace$Ferry"
  | 3 => .object "FourthFace$WhatIf"
  | 4 => .object "FourthFace$Sheets"
  | 5 => .object "FourthFace$Voices"
  | 6 => .array .int
  | _ => .int
theorem nmX8 : ∀ a, a < 8 → ∀ b, b < 8 → a ≠ b → (TX8 a).2.1 ≠ (TX8 b).2.1 := by decide +kernel
theorem tyX8_ok : ∀ k, k < 8 → parseFieldDescriptor (TX8 k).2.2.1 = some (tyX8 k) := by decide +kernel
abbrev cX8_init : ByteArray := prog_1_method_1_code
def yX8_init : MethodName := ⟨RX8, "<init>", "()V"⟩
abbrev cX8_person : ByteArray := prog_1_method_2_code
def yX8_person : MethodName := ⟨RX8, "person", "(I)I"⟩
abbrev cX8_personIs : ByteArray := prog_1_method_3_code
def yX8_personIs : MethodName := ⟨RX8, "personIs", "(II)I"⟩
abbrev cX8_man : ByteArray := prog_1_method_4_code
def yX8_man : MethodName := ⟨RX8, "man", "(II)I"⟩
abbrev cX8_manIs : ByteArray := prog_1_method_5_code
def yX8_manIs : MethodName := ⟨RX8, "manIs", "(II)I"⟩
abbrev cX8_as : ByteArray := prog_1_method_6_code
def yX8_as : MethodName := ⟨RX8, "as", "(II)I"⟩
abbrev cX8_setMan : ByteArray := prog_1_method_7_code
def yX8_setMan : MethodName := ⟨RX8, "setMan", "(III)I"⟩
abbrev cX8_setPerson : ByteArray := prog_1_method_8_code
def yX8_setPerson : MethodName := ⟨RX8, "setPerson", "(III)I"⟩
abbrev cX8_forget : ByteArray := prog_1_method_9_code
def yX8_forget : MethodName := ⟨RX8, "forget", "(I)I"⟩
abbrev cX8_feed : ByteArray := prog_1_method_10_code
def yX8_feed : MethodName := ⟨RX8, "feed", "(JI)I"⟩
abbrev cX8_text : ByteArray := prog_1_method_11_code
def yX8_text : MethodName := ⟨RX8, "text", "(I)I"⟩
abbrev cX8_untell : ByteArray := prog_1_method_12_code
def yX8_untell : MethodName := ⟨RX8, "untell", "(I)I"⟩
abbrev cX8_cross : ByteArray := prog_1_method_13_code
def yX8_cross : MethodName := ⟨RX8, "cross", "(II)I"⟩
abbrev cX8_alone : ByteArray := prog_1_method_14_code
def yX8_alone : MethodName := ⟨RX8, "alone", "(I)I"⟩
abbrev cX8_draws : ByteArray := prog_1_method_15_code
def yX8_draws : MethodName := ⟨RX8, "draws", "(I)I"⟩
abbrev cX8_seed : ByteArray := prog_1_method_16_code
def yX8_seed : MethodName := ⟨RX8, "seed", "(I)I"⟩
abbrev cX8_book : ByteArray := prog_1_method_17_code
def yX8_book : MethodName := ⟨RX8, "book", "(I)I"⟩
abbrev cX8_debt : ByteArray := prog_1_method_18_code
def yX8_debt : MethodName := ⟨RX8, "debt", "(III)I"⟩
abbrev cX8_debtIs : ByteArray := prog_1_method_19_code
def yX8_debtIs : MethodName := ⟨RX8, "debtIs", "(II)I"⟩
abbrev cX8_pay : ByteArray := prog_1_method_20_code
def yX8_pay : MethodName := ⟨RX8, "pay", "(I)I"⟩
abbrev cX8_loses : ByteArray := prog_1_method_21_code
def yX8_loses : MethodName := ⟨RX8, "loses", "(II)I"⟩
abbrev cX8_stranger : ByteArray := prog_1_method_22_code
def yX8_stranger : MethodName := ⟨RX8, "stranger", "(III)I"⟩
abbrev cX8_way : ByteArray := prog_1_method_23_code
def yX8_way : MethodName := ⟨RX8, "way", "(III)I"⟩
abbrev cX8_memory : ByteArray := prog_1_method_24_code
def yX8_memory : MethodName := ⟨RX8, "memory", "(II)I"⟩
abbrev cX8_hearsay : ByteArray := prog_1_method_25_code
def yX8_hearsay : MethodName := ⟨RX8, "hearsay", "(II)I"⟩
abbrev cX8_rows : ByteArray := prog_1_method_26_code
def yX8_rows : MethodName := ⟨RX8, "rows", "(II)I"⟩
abbrev cX8_voice : ByteArray := prog_1_method_27_code
def yX8_voice : MethodName := ⟨RX8, "voice", "(III)I"⟩
abbrev cX8_body : ByteArray := prog_1_method_28_code
def yX8_body : MethodName := ⟨RX8, "body", "(I)I"⟩
abbrev cX8_sheet : ByteArray := prog_1_method_29_code
def yX8_sheet : MethodName := ⟨RX8, "sheet", "(III)I"⟩
abbrev cX8_put : ByteArray := prog_1_method_30_code
def yX8_put : MethodName := ⟨RX8, "put", "(III)I"⟩
abbrev cX8_move : ByteArray := prog_1_method_31_code
def yX8_move : MethodName := ⟨RX8, "move", "(IIIII)I"⟩
abbrev cX8_crossings : ByteArray := prog_1_method_32_code
def yX8_crossings : MethodName := ⟨RX8, "crossings", "(I)I"⟩
abbrev cX8_judge : ByteArray := prog_1_method_33_code
def yX8_judge : MethodName := ⟨RX8, "judge", "(II)I"⟩
abbrev cX8_image : ByteArray := prog_1_method_34_code
def yX8_image : MethodName := ⟨RX8, "image", "()I"⟩
abbrev cX8_restore : ByteArray := prog_1_method_35_code
def yX8_restore : MethodName := ⟨RX8, "restore", "()I"⟩
abbrev cX8_tell : ByteArray := prog_1_method_36_code
def yX8_tell : MethodName := ⟨RX8, "tell", "(I)I"⟩
abbrev cX8_check : ByteArray := prog_1_method_37_code
def yX8_check : MethodName := ⟨RX8, "check", "(I)I"⟩
abbrev cX8_count : ByteArray := prog_1_method_38_code
def yX8_count : MethodName := ⟨RX8, "count", "(I)I"⟩
abbrev cX8_told : ByteArray := prog_1_method_39_code
def yX8_told : MethodName := ⟨RX8, "told", "(I)I"⟩
abbrev cX8_refuse : ByteArray := prog_1_method_40_code
def yX8_refuse : MethodName := ⟨RX8, "refuse", "(I)I"⟩
abbrev cX8_refusalOfMeeting : ByteArray := prog_1_method_41_code
def yX8_refusalOfMeeting : MethodName := ⟨RX8, "refusalOfMeeting", "(II)I"⟩
abbrev cX8_refusalOfCrossing : ByteArray := prog_1_method_42_code
def yX8_refusalOfCrossing : MethodName := ⟨RX8, "refusalOfCrossing", "(II)I"⟩
abbrev cX8_exchange : ByteArray := prog_1_method_43_code
def yX8_exchange : MethodName := ⟨RX8, "exchange", "([III)I"⟩
abbrev cX8_isBank : ByteArray := prog_1_method_44_code
def yX8_isBank : MethodName := ⟨RX8, "isBank", "(I)Z"⟩
abbrev cX8_isKind : ByteArray := prog_1_method_45_code
def yX8_isKind : MethodName := ⟨RX8, "isKind", "(I)Z"⟩
abbrev cX8_isUse : ByteArray := prog_1_method_46_code
def yX8_isUse : MethodName := ⟨RX8, "isUse", "(I)Z"⟩
abbrev cX8_isUnder : ByteArray := prog_1_method_47_code
def yX8_isUnder : MethodName := ⟨RX8, "isUnder", "(II)Z"⟩
abbrev cX8_held : ByteArray := prog_1_method_48_code
def yX8_held : MethodName := ⟨RX8, "held", "(II)I"⟩
def RX9 : String := "FourthFaceModel"
def TX9 : u_T := fun k => match k with
  | 0 => ("FourthFaceModel", "s", "[I", true)
  | 1 => ("FourthFaceModel", "kept", "[I", true)
  | 2 => ("FourthFaceModel", "put", "[I", true)
  | 3 => ("FourthFaceModel", "layers", "[I", true)
  | 4 => ("FourthFaceModel", "images", "I", false)
  | 5 => ("FourthFaceModel", "errors", "[I", true)
  | 6 => ("FourthFaceModel", "at", "I", false)
  | 7 => ("FourthFaceModel", "open", "I", false)
  | 8 => ("FourthFaceModel", "steps", "I", false)
  | 9 => ("FourthFaceModel", "use", "I", false)
  | 10 => ("FourthFaceModel", "step", "[I", true)
  | 11 => ("FourthFaceModel", "named", "[I", true)
  | 12 => ("FourthFaceModel", "pile", "[I", true)
  | 13 => ("FourthFaceModel", "heap", "[I", true)
  | 14 => ("FourthFaceModel", "row", "[I", true)
  | 15 => ("FourthFaceModel", "best", "[I", true)
  | 16 => ("FourthFaceModel", "least", "I", false)
  | 17 => ("FourthFaceModel", "manyRows", "I", false)
  | 18 => ("FourthFaceModel", "whoCrossed", "I", false)
  | 19 => ("FourthFaceModel", "trace", "[I", true)
  | 20 => ("FourthFaceModel", "traced", "I", false)
  | 21 => ("FourthFaceModel", "speaks", "I", false)
  | 22 => ("FourthFaceModel", "isParted", "Z", false)
  | 23 => ("FourthFaceModel", "bits", "[I", true)
  | 24 => ("FourthFaceModel", "sizes", "[I", true)
  | 25 => ("FourthFaceModel", "number", "[I", true)
  | _ => ("FourthFaceModel", "aside", "[I", true)
def tyX9 : Nat → FieldType := fun k => match k with
  | 0 => .array .int
  | 1 => .array .int
  | 2 => .array .int
  | 3 => .array .int
  | 4 => .int
  | 5 => .array .int
  | 6 => .int
  | 7 => .int
  | 8 => .int
  | 9 => .int
  | 10 => .array .int
  | 11 => .array .int
  | 12 => .array .int
  | 13 => .array .int
  | 14 => .array .int
  | 15 => .array .int
  | 16 => .int
  | 17 => .int
  | 18 => .int
  | 19 => .array .int
  | 20 => .int
  | 21 => .int
  | 22 => .boolean
  | 23 => .array .int
  | 24 => .array .int
  | 25 => .array .int
  | _ => .array .int
theorem nmX9 : ∀ a, a < 27 → ∀ b, b < 27 → a ≠ b → (TX9 a).2.1 ≠ (TX9 b).2.1 := by decide +kernel
theorem tyX9_ok : ∀ k, k < 27 → parseFieldDescriptor (TX9 k).2.2.1 = some (tyX9 k) := by decide +kernel
abbrev cX9_init : ByteArray := prog_11_method_1_code
def yX9_init : MethodName := ⟨RX9, "<init>", "()V"⟩
abbrev cX9_error : ByteArray := prog_11_method_2_code
def yX9_error : MethodName := ⟨RX9, "error", "(I)I"⟩
abbrev cX9_in : ByteArray := prog_11_method_3_code
def yX9_in : MethodName := ⟨RX9, "in", "(III)Z"⟩
abbrev cX9_held : ByteArray := prog_11_method_4_code
def yX9_held : MethodName := ⟨RX9, "held", "(III)I"⟩
abbrev cX9_carry : ByteArray := prog_11_method_5_code
def yX9_carry : MethodName := ⟨RX9, "carry", "([I[I)V"⟩
abbrev cX9_layDown : ByteArray := prog_11_method_6_code
def yX9_layDown : MethodName := ⟨RX9, "layDown", "(I)V"⟩
abbrev cX9_layBack : ByteArray := prog_11_method_7_code
def yX9_layBack : MethodName := ⟨RX9, "layBack", "(I)V"⟩
abbrev cX9_isPerson : ByteArray := prog_11_method_8_code
def yX9_isPerson : MethodName := ⟨RX9, "isPerson", "(I)Z"⟩
abbrev cX9_isMan : ByteArray := prog_11_method_9_code
def yX9_isMan : MethodName := ⟨RX9, "isMan", "(I)Z"⟩
abbrev cX9_of : ByteArray := prog_11_method_10_code
def yX9_of : MethodName := ⟨RX9, "of", "(II)I"⟩
abbrev cX9_its : ByteArray := prog_11_method_11_code
def yX9_its : MethodName := ⟨RX9, "its", "(II)I"⟩
abbrev cX9_lays1 : ByteArray := prog_11_method_12_code
def yX9_lays1 : MethodName := ⟨RX9, "lays1", "(III)V"⟩
abbrev cX9_feed : ByteArray := prog_11_method_13_code
def yX9_feed : MethodName := ⟨RX9, "feed", "(JI)I"⟩
abbrev cX9_look : ByteArray := prog_11_method_14_code
def yX9_look : MethodName := ⟨RX9, "look", "()I"⟩
abbrev cX9_isName : ByteArray := prog_11_method_15_code
def yX9_isName : MethodName := ⟨RX9, "isName", "(I)Z"⟩
abbrev cX9_lays : ByteArray := prog_11_method_16_code
def yX9_lays : MethodName := ⟨RX9, "lays", "(II)V"⟩
abbrev cX9_whole : ByteArray := prog_11_method_17_code
def yX9_whole : MethodName := ⟨RX9, "whole", "()Z"⟩
abbrev cX9_both : ByteArray := prog_11_method_18_code
def yX9_both : MethodName := ⟨RX9, "both", "()Z"⟩
abbrev cX9_compared : ByteArray := prog_11_method_19_code
def yX9_compared : MethodName := ⟨RX9, "compared", "()Z"⟩
abbrev cX9_sum : ByteArray := prog_11_method_20_code
def yX9_sum : MethodName := ⟨RX9, "sum", "()Z"⟩
abbrev cX9_product : ByteArray := prog_11_method_21_code
def yX9_product : MethodName := ⟨RX9, "product", "()Z"⟩
abbrev cX9_opens : ByteArray := prog_11_method_22_code
def yX9_opens : MethodName := ⟨RX9, "opens", "()Z"⟩
abbrev cX9_one : ByteArray := prog_11_method_23_code
def yX9_one : MethodName := ⟨RX9, "one", "()Z"⟩
abbrev cX9_hasText : ByteArray := prog_11_method_24_code
def yX9_hasText : MethodName := ⟨RX9, "hasText", "(I)Z"⟩
abbrev cX9_text : ByteArray := prog_11_method_25_code
def yX9_text : MethodName := ⟨RX9, "text", "(I)I"⟩
abbrev cX9_untell : ByteArray := prog_11_method_26_code
def yX9_untell : MethodName := ⟨RX9, "untell", "(I)I"⟩
abbrev cX9_joined : ByteArray := prog_11_method_27_code
def yX9_joined : MethodName := ⟨RX9, "joined", "(III)I"⟩
abbrev cX9_worked : ByteArray := prog_11_method_28_code
def yX9_worked : MethodName := ⟨RX9, "worked", "(I)I"⟩
abbrev cX9_keepsTold : ByteArray := prog_11_method_29_code
def yX9_keepsTold : MethodName := ⟨RX9, "keepsTold", "(I)I"⟩
abbrev cX9_keeps : ByteArray := prog_11_method_30_code
def yX9_keeps : MethodName := ⟨RX9, "keeps", "(I)I"⟩
abbrev cX9_fareTold : ByteArray := prog_11_method_31_code
def yX9_fareTold : MethodName := ⟨RX9, "fareTold", "(I)I"⟩
abbrev cX9_fare : ByteArray := prog_11_method_32_code
def yX9_fare : MethodName := ⟨RX9, "fare", "(I)I"⟩
abbrev cX9_placeOf : ByteArray := prog_11_method_33_code
def yX9_placeOf : MethodName := ⟨RX9, "placeOf", "(II)I"⟩
abbrev cX9_knows : ByteArray := prog_11_method_34_code
def yX9_knows : MethodName := ⟨RX9, "knows", "(II)Z"⟩
abbrev cX9_forgets : ByteArray := prog_11_method_35_code
def yX9_forgets : MethodName := ⟨RX9, "forgets", "(II)V"⟩
abbrev cX9_comes : ByteArray := prog_11_method_36_code
def yX9_comes : MethodName := ⟨RX9, "comes", "(II)V"⟩
abbrev cX9_person : ByteArray := prog_11_method_37_code
def yX9_person : MethodName := ⟨RX9, "person", "(I)I"⟩
abbrev cX9_findHeaps : ByteArray := prog_11_method_38_code
def yX9_findHeaps : MethodName := ⟨RX9, "findHeaps", "()V"⟩
abbrev cX9_knownBy : ByteArray := prog_11_method_39_code
def yX9_knownBy : MethodName := ⟨RX9, "knownBy", "(I)I"⟩
abbrev cX9_personIs : ByteArray := prog_11_method_40_code
def yX9_personIs : MethodName := ⟨RX9, "personIs", "(II)I"⟩
abbrev cX9_man : ByteArray := prog_11_method_41_code
def yX9_man : MethodName := ⟨RX9, "man", "(II)I"⟩
abbrev cX9_manIs : ByteArray := prog_11_method_42_code
def yX9_manIs : MethodName := ⟨RX9, "manIs", "(II)I"⟩
abbrev cX9_isUnder : ByteArray := prog_11_method_43_code
def yX9_isUnder : MethodName := ⟨RX9, "isUnder", "(II)Z"⟩
abbrev cX9_as : ByteArray := prog_11_method_44_code
def yX9_as : MethodName := ⟨RX9, "as", "(II)I"⟩
abbrev cX9_setMan : ByteArray := prog_11_method_45_code
def yX9_setMan : MethodName := ⟨RX9, "setMan", "(III)I"⟩
abbrev cX9_setPerson : ByteArray := prog_11_method_46_code
def yX9_setPerson : MethodName := ⟨RX9, "setPerson", "(III)I"⟩
abbrev cX9_forget : ByteArray := prog_11_method_47_code
def yX9_forget : MethodName := ⟨RX9, "forget", "(I)I"⟩
abbrev cX9_areTogether : ByteArray := prog_11_method_48_code
def yX9_areTogether : MethodName := ⟨RX9, "areTogether", "(II)Z"⟩
abbrev cX9_crosses : ByteArray := prog_11_method_49_code
def yX9_crosses : MethodName := ⟨RX9, "crosses", "(II)I"⟩
abbrev cX9_whyNotCross : ByteArray := prog_11_method_50_code
def yX9_whyNotCross : MethodName := ⟨RX9, "whyNotCross", "(II)I"⟩
abbrev cX9_cross : ByteArray := prog_11_method_51_code
def yX9_cross : MethodName := ⟨RX9, "cross", "(II)I"⟩
abbrev cX9_goesAlone : ByteArray := prog_11_method_52_code
def yX9_goesAlone : MethodName := ⟨RX9, "goesAlone", "(I)V"⟩
abbrev cX9_alone : ByteArray := prog_11_method_53_code
def yX9_alone : MethodName := ⟨RX9, "alone", "(I)I"⟩
abbrev cX9_draw : ByteArray := prog_11_method_54_code
def yX9_draw : MethodName := ⟨RX9, "draw", "()I"⟩
abbrev cX9_crossByDraws : ByteArray := prog_11_method_55_code
def yX9_crossByDraws : MethodName := ⟨RX9, "crossByDraws", "()V"⟩
abbrev cX9_draws : ByteArray := prog_11_method_56_code
def yX9_draws : MethodName := ⟨RX9, "draws", "(I)I"⟩
abbrev cX9_seed : ByteArray := prog_11_method_57_code
def yX9_seed : MethodName := ⟨RX9, "seed", "(I)I"⟩
abbrev cX9_book : ByteArray := prog_11_method_58_code
def yX9_book : MethodName := ⟨RX9, "book", "(I)I"⟩
abbrev cX9_owed : ByteArray := prog_11_method_59_code
def yX9_owed : MethodName := ⟨RX9, "owed", "(II)I"⟩
abbrev cX9_holds : ByteArray := prog_11_method_60_code
def yX9_holds : MethodName := ⟨RX9, "holds", "(I)Z"⟩
abbrev cX9_holding : ByteArray := prog_11_method_61_code
def yX9_holding : MethodName := ⟨RX9, "holding", "()I"⟩
abbrev cX9_debt : ByteArray := prog_11_method_62_code
def yX9_debt : MethodName := ⟨RX9, "debt", "(III)I"⟩
abbrev cX9_debtIs : ByteArray := prog_11_method_63_code
def yX9_debtIs : MethodName := ⟨RX9, "debtIs", "(II)I"⟩
abbrev cX9_pay : ByteArray := prog_11_method_64_code
def yX9_pay : MethodName := ⟨RX9, "pay", "(I)I"⟩
abbrev cX9_loses : ByteArray := prog_11_method_65_code
def yX9_loses : MethodName := ⟨RX9, "loses", "(II)I"⟩
abbrev cX9_estranges : ByteArray := prog_11_method_66_code
def yX9_estranges : MethodName := ⟨RX9, "estranges", "(IIII)I"⟩
abbrev cX9_stranger : ByteArray := prog_11_method_67_code
def yX9_stranger : MethodName := ⟨RX9, "stranger", "(III)I"⟩
abbrev cX9_ferries : ByteArray := prog_11_method_68_code
def yX9_ferries : MethodName := ⟨RX9, "ferries", "(IIII)V"⟩
abbrev cX9_way : ByteArray := prog_11_method_69_code
def yX9_way : MethodName := ⟨RX9, "way", "(III)I"⟩
abbrev cX9_memory : ByteArray := prog_11_method_70_code
def yX9_memory : MethodName := ⟨RX9, "memory", "(II)I"⟩
abbrev cX9_hearsay : ByteArray := prog_11_method_71_code
def yX9_hearsay : MethodName := ⟨RX9, "hearsay", "(II)I"⟩
abbrev cX9_areAsPut : ByteArray := prog_11_method_72_code
def yX9_areAsPut : MethodName := ⟨RX9, "areAsPut", "()Z"⟩
abbrev cX9_fits : ByteArray := prog_11_method_73_code
def yX9_fits : MethodName := ⟨RX9, "fits", "(III)V"⟩
abbrev cX9_rows : ByteArray := prog_11_method_74_code
def yX9_rows : MethodName := ⟨RX9, "rows", "(II)I"⟩
abbrev cX9_begins : ByteArray := prog_11_method_75_code
def yX9_begins : MethodName := ⟨RX9, "begins", "(I)V"⟩
abbrev cX9_above : ByteArray := prog_11_method_76_code
def yX9_above : MethodName := ⟨RX9, "above", "(I)I"⟩
abbrev cX9_kindNow : ByteArray := prog_11_method_77_code
def yX9_kindNow : MethodName := ⟨RX9, "kindNow", "()I"⟩
abbrev cX9_mNow : ByteArray := prog_11_method_78_code
def yX9_mNow : MethodName := ⟨RX9, "mNow", "()I"⟩
abbrev cX9_rowsAs : ByteArray := prog_11_method_79_code
def yX9_rowsAs : MethodName := ⟨RX9, "rowsAs", "(II)I"⟩
abbrev cX9_keepsAs : ByteArray := prog_11_method_80_code
def yX9_keepsAs : MethodName := ⟨RX9, "keepsAs", "(II)I"⟩
abbrev cX9_asksAs : ByteArray := prog_11_method_81_code
def yX9_asksAs : MethodName := ⟨RX9, "asksAs", "(II)I"⟩
abbrev cX9_partsAs : ByteArray := prog_11_method_82_code
def yX9_partsAs : MethodName := ⟨RX9, "partsAs", "(II)I"⟩
abbrev cX9_voice : ByteArray := prog_11_method_83_code
def yX9_voice : MethodName := ⟨RX9, "voice", "(III)I"⟩
abbrev cX9_body : ByteArray := prog_11_method_84_code
def yX9_body : MethodName := ⟨RX9, "body", "(I)I"⟩
abbrev cX9_isSheet : ByteArray := prog_11_method_85_code
def yX9_isSheet : MethodName := ⟨RX9, "isSheet", "(I)Z"⟩
abbrev cX9_sheet : ByteArray := prog_11_method_86_code
def yX9_sheet : MethodName := ⟨RX9, "sheet", "(III)I"⟩
abbrev cX9_put : ByteArray := prog_11_method_87_code
def yX9_put : MethodName := ⟨RX9, "put", "(III)I"⟩
abbrev cX9_move : ByteArray := prog_11_method_88_code
def yX9_move : MethodName := ⟨RX9, "move", "(IIIII)I"⟩
abbrev cX9_lacks : ByteArray := prog_11_method_89_code
def yX9_lacks : MethodName := ⟨RX9, "lacks", "(I)I"⟩
abbrev cX9_crossings : ByteArray := prog_11_method_90_code
def yX9_crossings : MethodName := ⟨RX9, "crossings", "(I)I"⟩
abbrev cX9_judge : ByteArray := prog_11_method_91_code
def yX9_judge : MethodName := ⟨RX9, "judge", "(II)I"⟩
abbrev cX9_image : ByteArray := prog_11_method_92_code
def yX9_image : MethodName := ⟨RX9, "image", "()I"⟩
abbrev cX9_restore : ByteArray := prog_11_method_93_code
def yX9_restore : MethodName := ⟨RX9, "restore", "()I"⟩
abbrev cX9_tell : ByteArray := prog_11_method_94_code
def yX9_tell : MethodName := ⟨RX9, "tell", "(I)I"⟩
abbrev cX9_check : ByteArray := prog_11_method_95_code
def yX9_check : MethodName := ⟨RX9, "check", "(I)I"⟩
abbrev cX9_allCoins : ByteArray := prog_11_method_96_code
def yX9_allCoins : MethodName := ⟨RX9, "allCoins", "()I"⟩
abbrev cX9_count : ByteArray := prog_11_method_97_code
def yX9_count : MethodName := ⟨RX9, "count", "(I)I"⟩
abbrev cX9_told : ByteArray := prog_11_method_98_code
def yX9_told : MethodName := ⟨RX9, "told", "(I)I"⟩
def RJx8e188 : String := "java/lang/Cloneable"
def TJx8e188 : u_T := fun k => match k with
  | _ => ("", "", "", false)
def tyJx8e188 : Nat → FieldType := fun k => match k with
  | _ => .int
theorem nmJx8e188 : ∀ a, a < 0 → ∀ b, b < 0 → a ≠ b → (TJx8e188 a).2.1 ≠ (TJx8e188 b).2.1 := by decide +kernel
theorem tyJx8e188_ok : ∀ k, k < 0 → parseFieldDescriptor (TJx8e188 k).2.2.1 = some (tyJx8e188 k) := by decide +kernel
def RJ6 : String := "java/lang/Integer"
def TJ6 : u_T := fun k => match k with
  | _ => ("", "", "", false)
def tyJ6 : Nat → FieldType := fun k => match k with
  | _ => .int
theorem nmJ6 : ∀ a, a < 0 → ∀ b, b < 0 → a ≠ b → (TJ6 a).2.1 ≠ (TJ6 b).2.1 := by decide +kernel
theorem tyJ6_ok : ∀ k, k < 0 → parseFieldDescriptor (TJ6 k).2.2.1 = some (tyJ6 k) := by decide +kernel
abbrev cJ6_bitCount_0f7a4 : ByteArray := prog_13_method_49_code
def yJ6_bitCount_0f7a4 : MethodName := ⟨RJ6, "bitCount", "(I)I"⟩
def RJ9 : String := "java/lang/Math"
def TJ9 : u_T := fun k => match k with
  | _ => ("", "", "", false)
def tyJ9 : Nat → FieldType := fun k => match k with
  | _ => .int
theorem nmJ9 : ∀ a, a < 0 → ∀ b, b < 0 → a ≠ b → (TJ9 a).2.1 ≠ (TJ9 b).2.1 := by decide +kernel
theorem tyJ9_ok : ∀ k, k < 0 → parseFieldDescriptor (TJ9 k).2.2.1 = some (tyJ9 k) := by decide +kernel
abbrev cJ9_max_7cf53 : ByteArray := prog_14_method_65_code
def yJ9_max_7cf53 : MethodName := ⟨RJ9, "max", "(II)I"⟩
abbrev cJ9_min_7cf53 : ByteArray := prog_14_method_69_code
def yJ9_min_7cf53 : MethodName := ⟨RJ9, "min", "(II)I"⟩
def RJ10 : String := "java/lang/System"
def TJ10 : u_T := fun k => match k with
  | _ => ("", "", "", false)
def tyJ10 : Nat → FieldType := fun k => match k with
  | _ => .int
theorem nmJ10 : ∀ a, a < 0 → ∀ b, b < 0 → a ≠ b → (TJ10 a).2.1 ≠ (TJ10 b).2.1 := by decide +kernel
theorem tyJ10_ok : ∀ k, k < 0 → parseFieldDescriptor (TJ10 k).2.2.1 = some (tyJ10 k) := by decide +kernel
def RJ7 : String := "java/util/Arrays"
def TJ7 : u_T := fun k => match k with
  | _ => ("", "", "", false)
def tyJ7 : Nat → FieldType := fun k => match k with
  | _ => .int
theorem nmJ7 : ∀ a, a < 0 → ∀ b, b < 0 → a ≠ b → (TJ7 a).2.1 ≠ (TJ7 b).2.1 := by decide +kernel
theorem tyJ7_ok : ∀ k, k < 0 → parseFieldDescriptor (TJ7 k).2.2.1 = some (tyJ7 k) := by decide +kernel
abbrev cJ7_fill_53178 : ByteArray := prog_16_method_103_code
def yJ7_fill_53178 : MethodName := ⟨RJ7, "fill", "([II)V"⟩
abbrev cJ7_copyOf_59c91 : ByteArray := prog_16_method_123_code
def yJ7_copyOf_59c91 : MethodName := ⟨RJ7, "copyOf", "([II)[I"⟩
end
section
theorem dX0_init_0 : decode cX0_init 0 = .ok (.aload_n 0, 1) := by decide +kernel
theorem dX0_init_1 : decode cX0_init 1 = .ok (.invokespecial 1, 3) := by decide +kernel
theorem dX0_init_4 : decode cX0_init 4 = .ok (.aload_n 0, 1) := by decide +kernel
theorem dX0_init_5 : decode cX0_init 5 = .ok (.bipush 8, 2) := by decide +kernel
theorem dX0_init_7 : decode cX0_init 7 = .ok (.newarray .int, 2) := by decide +kernel
theorem dX0_init_9 : decode cX0_init 9 = .ok (.putfield 9, 3) := by decide +kernel
theorem dX0_init_12 : decode cX0_init 12 = .ok (.aload_n 0, 1) := by decide +kernel
theorem dX0_init_13 : decode cX0_init 13 = .ok (.bipush 8, 2) := by decide +kernel
theorem dX0_init_15 : decode cX0_init 15 = .ok (.newarray .int, 2) := by decide +kernel
theorem dX0_init_17 : decode cX0_init 17 = .ok (.putfield 13, 3) := by decide +kernel
theorem dX0_init_20 : decode cX0_init 20 = .ok (.aload_n 0, 1) := by decide +kernel
theorem dX0_init_21 : decode cX0_init 21 = .ok (.bipush 8, 2) := by decide +kernel
theorem dX0_init_23 : decode cX0_init 23 = .ok (.newarray .int, 2) := by decide +kernel
theorem dX0_init_25 : decode cX0_init 25 = .ok (.putfield 16, 3) := by decide +kernel
theorem dX0_init_28 : decode cX0_init 28 = .ok (.return_, 1) := by decide +kernel
theorem dX0_copyFrom_0 : decode cX0_copyFrom 0 = .ok (.aload_n 0, 1) := by decide +kernel
theorem dX0_copyFrom_1 : decode cX0_copyFrom 1 = .ok (.aload_n 1, 1) := by decide +kernel
theorem dX0_copyFrom_2 : decode cX0_copyFrom 2 = .ok (.getfield 19, 3) := by decide +kernel
theorem dX0_copyFrom_5 : decode cX0_copyFrom 5 = .ok (.putfield 19, 3) := by decide +kernel
theorem dX0_copyFrom_8 : decode cX0_copyFrom 8 = .ok (.aload_n 1, 1) := by decide +kernel
theorem dX0_copyFrom_9 : decode cX0_copyFrom 9 = .ok (.getfield 9, 3) := by decide +kernel
theorem dX0_copyFrom_12 : decode cX0_copyFrom 12 = .ok (.iconst 0, 1) := by decide +kernel
theorem dX0_copyFrom_13 : decode cX0_copyFrom 13 = .ok (.aload_n 0, 1) := by decide +kernel
theorem dX0_copyFrom_14 : decode cX0_copyFrom 14 = .ok (.getfield 9, 3) := by decide +kernel
theorem dX0_copyFrom_17 : decode cX0_copyFrom 17 = .ok (.iconst 0, 1) := by decide +kernel
theorem dX0_copyFrom_18 : decode cX0_copyFrom 18 = .ok (.bipush 8, 2) := by decide +kernel
theorem dX0_copyFrom_20 : decode cX0_copyFrom 20 = .ok (.invokestatic 23, 3) := by decide +kernel
theorem dX0_copyFrom_23 : decode cX0_copyFrom 23 = .ok (.aload_n 1, 1) := by decide +kernel
theorem dX0_copyFrom_24 : decode cX0_copyFrom 24 = .ok (.getfield 13, 3) := by decide +kernel
theorem dX0_copyFrom_27 : decode cX0_copyFrom 27 = .ok (.iconst 0, 1) := by decide +kernel
theorem dX0_copyFrom_28 : decode cX0_copyFrom 28 = .ok (.aload_n 0, 1) := by decide +kernel
theorem dX0_copyFrom_29 : decode cX0_copyFrom 29 = .ok (.getfield 13, 3) := by decide +kernel
theorem dX0_copyFrom_32 : decode cX0_copyFrom 32 = .ok (.iconst 0, 1) := by decide +kernel
theorem dX0_copyFrom_33 : decode cX0_copyFrom 33 = .ok (.bipush 8, 2) := by decide +kernel
theorem dX0_copyFrom_35 : decode cX0_copyFrom 35 = .ok (.invokestatic 23, 3) := by decide +kernel
theorem dX0_copyFrom_38 : decode cX0_copyFrom 38 = .ok (.aload_n 1, 1) := by decide +kernel
theorem dX0_copyFrom_39 : decode cX0_copyFrom 39 = .ok (.getfield 16, 3) := by decide +kernel
theorem dX0_copyFrom_42 : decode cX0_copyFrom 42 = .ok (.iconst 0, 1) := by decide +kernel
theorem dX0_copyFrom_43 : decode cX0_copyFrom 43 = .ok (.aload_n 0, 1) := by decide +kernel
theorem dX0_copyFrom_44 : decode cX0_copyFrom 44 = .ok (.getfield 16, 3) := by decide +kernel
theorem dX0_copyFrom_47 : decode cX0_copyFrom 47 = .ok (.iconst 0, 1) := by decide +kernel
theorem dX0_copyFrom_48 : decode cX0_copyFrom 48 = .ok (.bipush 8, 2) := by decide +kernel
theorem dX0_copyFrom_50 : decode cX0_copyFrom 50 = .ok (.invokestatic 23, 3) := by decide +kernel
theorem dX0_copyFrom_53 : decode cX0_copyFrom 53 = .ok (.return_, 1) := by decide +kernel
theorem dX0_add_0 : decode cX0_add 0 = .ok (.aload_n 0, 1) := by decide +kernel
theorem dX0_add_1 : decode cX0_add 1 = .ok (.getfield 19, 3) := by decide +kernel
theorem dX0_add_4 : decode cX0_add 4 = .ok (.istore 4, 2) := by decide +kernel
theorem dX0_add_6 : decode cX0_add 6 = .ok (.aload_n 0, 1) := by decide +kernel
theorem dX0_add_7 : decode cX0_add 7 = .ok (.getfield 9, 3) := by decide +kernel
theorem dX0_add_10 : decode cX0_add 10 = .ok (.iload 4, 2) := by decide +kernel
theorem dX0_add_12 : decode cX0_add 12 = .ok (.iload_n 1, 1) := by decide +kernel
theorem dX0_add_13 : decode cX0_add 13 = .ok (.iastore, 1) := by decide +kernel
theorem dX0_add_14 : decode cX0_add 14 = .ok (.aload_n 0, 1) := by decide +kernel
theorem dX0_add_15 : decode cX0_add 15 = .ok (.getfield 13, 3) := by decide +kernel
theorem dX0_add_18 : decode cX0_add 18 = .ok (.iload 4, 2) := by decide +kernel
theorem dX0_add_20 : decode cX0_add 20 = .ok (.iload_n 2, 1) := by decide +kernel
theorem dX0_add_21 : decode cX0_add 21 = .ok (.iastore, 1) := by decide +kernel
theorem dX0_add_22 : decode cX0_add 22 = .ok (.aload_n 0, 1) := by decide +kernel
theorem dX0_add_23 : decode cX0_add 23 = .ok (.getfield 16, 3) := by decide +kernel
theorem dX0_add_26 : decode cX0_add 26 = .ok (.iload 4, 2) := by decide +kernel
theorem dX0_add_28 : decode cX0_add 28 = .ok (.iload_n 3, 1) := by decide +kernel
theorem dX0_add_29 : decode cX0_add 29 = .ok (.iastore, 1) := by decide +kernel
theorem dX0_add_30 : decode cX0_add 30 = .ok (.aload_n 0, 1) := by decide +kernel
theorem dX0_add_31 : decode cX0_add 31 = .ok (.dup, 1) := by decide +kernel
theorem dX0_add_32 : decode cX0_add 32 = .ok (.getfield 19, 3) := by decide +kernel
theorem dX0_add_35 : decode cX0_add 35 = .ok (.iconst 1, 1) := by decide +kernel
theorem dX0_add_36 : decode cX0_add 36 = .ok (.iadd, 1) := by decide +kernel
theorem dX0_add_37 : decode cX0_add 37 = .ok (.putfield 19, 3) := by decide +kernel
theorem dX0_add_40 : decode cX0_add 40 = .ok (.iload 4, 2) := by decide +kernel
theorem dX0_add_42 : decode cX0_add 42 = .ok (.ireturn, 1) := by decide +kernel
theorem dX0_holds_0 : decode cX0_holds 0 = .ok (.aload_n 2, 1) := by decide +kernel
theorem dX0_holds_1 : decode cX0_holds 1 = .ok (.aload_n 0, 1) := by decide +kernel
theorem dX0_holds_2 : decode cX0_holds 2 = .ok (.getfield 9, 3) := by decide +kernel
theorem dX0_holds_5 : decode cX0_holds 5 = .ok (.iload_n 1, 1) := by decide +kernel
theorem dX0_holds_6 : decode cX0_holds 6 = .ok (.iaload, 1) := by decide +kernel
theorem dX0_holds_7 : decode cX0_holds 7 = .ok (.invokevirtual 29, 3) := by decide +kernel
theorem dX0_holds_10 : decode cX0_holds 10 = .ok (.aload_n 0, 1) := by decide +kernel
theorem dX0_holds_11 : decode cX0_holds 11 = .ok (.getfield 13, 3) := by decide +kernel
theorem dX0_holds_14 : decode cX0_holds 14 = .ok (.iload_n 1, 1) := by decide +kernel
theorem dX0_holds_15 : decode cX0_holds 15 = .ok (.iaload, 1) := by decide +kernel
theorem dX0_holds_16 : decode cX0_holds 16 = .ok (.ishr, 1) := by decide +kernel
theorem dX0_holds_17 : decode cX0_holds 17 = .ok (.iconst 1, 1) := by decide +kernel
theorem dX0_holds_18 : decode cX0_holds 18 = .ok (.iand, 1) := by decide +kernel
theorem dX0_holds_19 : decode cX0_holds 19 = .ok (.iconst 1, 1) := by decide +kernel
theorem dX0_holds_20 : decode cX0_holds 20 = .ok (.if_icmp .ne 7, 3) := by decide +kernel
theorem dX0_holds_23 : decode cX0_holds 23 = .ok (.iconst 1, 1) := by decide +kernel
theorem dX0_holds_24 : decode cX0_holds 24 = .ok (.goto 4, 3) := by decide +kernel
theorem dX0_holds_27 : decode cX0_holds 27 = .ok (.iconst 0, 1) := by decide +kernel
theorem dX0_holds_28 : decode cX0_holds 28 = .ok (.ireturn, 1) := by decide +kernel
theorem dX0_holding_0 : decode cX0_holding 0 = .ok (.iconst 0, 1) := by decide +kernel
theorem dX0_holding_1 : decode cX0_holding 1 = .ok (.istore_n 2, 1) := by decide +kernel
theorem dX0_holding_2 : decode cX0_holding 2 = .ok (.iconst 0, 1) := by decide +kernel
theorem dX0_holding_3 : decode cX0_holding 3 = .ok (.istore_n 3, 1) := by decide +kernel
theorem dX0_holding_4 : decode cX0_holding 4 = .ok (.iload_n 3, 1) := by decide +kernel
theorem dX0_holding_5 : decode cX0_holding 5 = .ok (.aload_n 0, 1) := by decide +kernel
theorem dX0_holding_6 : decode cX0_holding 6 = .ok (.getfield 19, 3) := by decide +kernel
theorem dX0_holding_9 : decode cX0_holding 9 = .ok (.if_icmp .ge 21, 3) := by decide +kernel
theorem dX0_holding_12 : decode cX0_holding 12 = .ok (.aload_n 0, 1) := by decide +kernel
theorem dX0_holding_13 : decode cX0_holding 13 = .ok (.iload_n 3, 1) := by decide +kernel
theorem dX0_holding_14 : decode cX0_holding 14 = .ok (.aload_n 1, 1) := by decide +kernel
theorem dX0_holding_15 : decode cX0_holding 15 = .ok (.invokevirtual 35, 3) := by decide +kernel
theorem dX0_holding_18 : decode cX0_holding 18 = .ok (.ifCond .eq 6, 3) := by decide +kernel
theorem dX0_holding_21 : decode cX0_holding 21 = .ok (.iinc 2 1, 3) := by decide +kernel
theorem dX0_holding_24 : decode cX0_holding 24 = .ok (.iinc 3 1, 3) := by decide +kernel
theorem dX0_holding_27 : decode cX0_holding 27 = .ok (.goto (-23), 3) := by decide +kernel
theorem dX0_holding_30 : decode cX0_holding 30 = .ok (.iload_n 2, 1) := by decide +kernel
theorem dX0_holding_31 : decode cX0_holding 31 = .ok (.ireturn, 1) := by decide +kernel
theorem dX0_lessen_0 : decode cX0_lessen 0 = .ok (.aload_n 0, 1) := by decide +kernel
theorem dX0_lessen_1 : decode cX0_lessen 1 = .ok (.getfield 16, 3) := by decide +kernel
theorem dX0_lessen_4 : decode cX0_lessen 4 = .ok (.iload_n 1, 1) := by decide +kernel
theorem dX0_lessen_5 : decode cX0_lessen 5 = .ok (.dup2, 1) := by decide +kernel
theorem dX0_lessen_6 : decode cX0_lessen 6 = .ok (.iaload, 1) := by decide +kernel
theorem dX0_lessen_7 : decode cX0_lessen 7 = .ok (.iload_n 2, 1) := by decide +kernel
theorem dX0_lessen_8 : decode cX0_lessen 8 = .ok (.isub, 1) := by decide +kernel
theorem dX0_lessen_9 : decode cX0_lessen 9 = .ok (.iastore, 1) := by decide +kernel
theorem dX0_lessen_10 : decode cX0_lessen 10 = .ok (.aload_n 0, 1) := by decide +kernel
theorem dX0_lessen_11 : decode cX0_lessen 11 = .ok (.getfield 16, 3) := by decide +kernel
theorem dX0_lessen_14 : decode cX0_lessen 14 = .ok (.iload_n 1, 1) := by decide +kernel
theorem dX0_lessen_15 : decode cX0_lessen 15 = .ok (.iaload, 1) := by decide +kernel
theorem dX0_lessen_16 : decode cX0_lessen 16 = .ok (.ifCond .ne 70, 3) := by decide +kernel
theorem dX0_lessen_19 : decode cX0_lessen 19 = .ok (.aload_n 0, 1) := by decide +kernel
theorem dX0_lessen_20 : decode cX0_lessen 20 = .ok (.getfield 19, 3) := by decide +kernel
theorem dX0_lessen_23 : decode cX0_lessen 23 = .ok (.iload_n 1, 1) := by decide +kernel
theorem dX0_lessen_24 : decode cX0_lessen 24 = .ok (.isub, 1) := by decide +kernel
theorem dX0_lessen_25 : decode cX0_lessen 25 = .ok (.iconst 1, 1) := by decide +kernel
theorem dX0_lessen_26 : decode cX0_lessen 26 = .ok (.isub, 1) := by decide +kernel
theorem dX0_lessen_27 : decode cX0_lessen 27 = .ok (.istore_n 3, 1) := by decide +kernel
theorem dX0_lessen_28 : decode cX0_lessen 28 = .ok (.aload_n 0, 1) := by decide +kernel
theorem dX0_lessen_29 : decode cX0_lessen 29 = .ok (.getfield 9, 3) := by decide +kernel
theorem dX0_lessen_32 : decode cX0_lessen 32 = .ok (.iload_n 1, 1) := by decide +kernel
theorem dX0_lessen_33 : decode cX0_lessen 33 = .ok (.iconst 1, 1) := by decide +kernel
theorem dX0_lessen_34 : decode cX0_lessen 34 = .ok (.iadd, 1) := by decide +kernel
theorem dX0_lessen_35 : decode cX0_lessen 35 = .ok (.aload_n 0, 1) := by decide +kernel
theorem dX0_lessen_36 : decode cX0_lessen 36 = .ok (.getfield 9, 3) := by decide +kernel
theorem dX0_lessen_39 : decode cX0_lessen 39 = .ok (.iload_n 1, 1) := by decide +kernel
theorem dX0_lessen_40 : decode cX0_lessen 40 = .ok (.iload_n 3, 1) := by decide +kernel
theorem dX0_lessen_41 : decode cX0_lessen 41 = .ok (.invokestatic 23, 3) := by decide +kernel
theorem dX0_lessen_44 : decode cX0_lessen 44 = .ok (.aload_n 0, 1) := by decide +kernel
theorem dX0_lessen_45 : decode cX0_lessen 45 = .ok (.getfield 13, 3) := by decide +kernel
theorem dX0_lessen_48 : decode cX0_lessen 48 = .ok (.iload_n 1, 1) := by decide +kernel
theorem dX0_lessen_49 : decode cX0_lessen 49 = .ok (.iconst 1, 1) := by decide +kernel
theorem dX0_lessen_50 : decode cX0_lessen 50 = .ok (.iadd, 1) := by decide +kernel
theorem dX0_lessen_51 : decode cX0_lessen 51 = .ok (.aload_n 0, 1) := by decide +kernel
theorem dX0_lessen_52 : decode cX0_lessen 52 = .ok (.getfield 13, 3) := by decide +kernel
theorem dX0_lessen_55 : decode cX0_lessen 55 = .ok (.iload_n 1, 1) := by decide +kernel
theorem dX0_lessen_56 : decode cX0_lessen 56 = .ok (.iload_n 3, 1) := by decide +kernel
theorem dX0_lessen_57 : decode cX0_lessen 57 = .ok (.invokestatic 23, 3) := by decide +kernel
theorem dX0_lessen_60 : decode cX0_lessen 60 = .ok (.aload_n 0, 1) := by decide +kernel
theorem dX0_lessen_61 : decode cX0_lessen 61 = .ok (.getfield 16, 3) := by decide +kernel
theorem dX0_lessen_64 : decode cX0_lessen 64 = .ok (.iload_n 1, 1) := by decide +kernel
theorem dX0_lessen_65 : decode cX0_lessen 65 = .ok (.iconst 1, 1) := by decide +kernel
theorem dX0_lessen_66 : decode cX0_lessen 66 = .ok (.iadd, 1) := by decide +kernel
theorem dX0_lessen_67 : decode cX0_lessen 67 = .ok (.aload_n 0, 1) := by decide +kernel
theorem dX0_lessen_68 : decode cX0_lessen 68 = .ok (.getfield 16, 3) := by decide +kernel
theorem dX0_lessen_71 : decode cX0_lessen 71 = .ok (.iload_n 1, 1) := by decide +kernel
theorem dX0_lessen_72 : decode cX0_lessen 72 = .ok (.iload_n 3, 1) := by decide +kernel
theorem dX0_lessen_73 : decode cX0_lessen 73 = .ok (.invokestatic 23, 3) := by decide +kernel
theorem dX0_lessen_76 : decode cX0_lessen 76 = .ok (.aload_n 0, 1) := by decide +kernel
theorem dX0_lessen_77 : decode cX0_lessen 77 = .ok (.dup, 1) := by decide +kernel
theorem dX0_lessen_78 : decode cX0_lessen 78 = .ok (.getfield 19, 3) := by decide +kernel
theorem dX0_lessen_81 : decode cX0_lessen 81 = .ok (.iconst 1, 1) := by decide +kernel
theorem dX0_lessen_82 : decode cX0_lessen 82 = .ok (.isub, 1) := by decide +kernel
theorem dX0_lessen_83 : decode cX0_lessen 83 = .ok (.putfield 19, 3) := by decide +kernel
theorem dX0_lessen_86 : decode cX0_lessen 86 = .ok (.return_, 1) := by decide +kernel
theorem dX1_init_0 : decode cX1_init 0 = .ok (.aload_n 0, 1) := by decide +kernel
theorem dX1_init_1 : decode cX1_init 1 = .ok (.invokespecial 3, 3) := by decide +kernel
theorem dX1_init_4 : decode cX1_init 4 = .ok (.aload_n 0, 1) := by decide +kernel
theorem dX1_init_5 : decode cX1_init 5 = .ok (.new 9, 3) := by decide +kernel
theorem dX1_init_8 : decode cX1_init 8 = .ok (.dup, 1) := by decide +kernel
theorem dX1_init_9 : decode cX1_init 9 = .ok (.invokespecial 11, 3) := by decide +kernel
theorem dX1_init_12 : decode cX1_init 12 = .ok (.putfield 12, 3) := by decide +kernel
theorem dX1_init_15 : decode cX1_init 15 = .ok (.aload_n 0, 1) := by decide +kernel
theorem dX1_init_16 : decode cX1_init 16 = .ok (.bipush 60, 2) := by decide +kernel
theorem dX1_init_18 : decode cX1_init 18 = .ok (.newarray .int, 2) := by decide +kernel
theorem dX1_init_20 : decode cX1_init 20 = .ok (.putfield 18, 3) := by decide +kernel
theorem dX1_init_23 : decode cX1_init 23 = .ok (.aload_n 0, 1) := by decide +kernel
theorem dX1_init_24 : decode cX1_init 24 = .ok (.bipush 24, 2) := by decide +kernel
theorem dX1_init_26 : decode cX1_init 26 = .ok (.newarray .int, 2) := by decide +kernel
theorem dX1_init_28 : decode cX1_init 28 = .ok (.putfield 22, 3) := by decide +kernel
theorem dX1_init_31 : decode cX1_init 31 = .ok (.aload_n 0, 1) := by decide +kernel
theorem dX1_init_32 : decode cX1_init 32 = .ok (.bipush 24, 2) := by decide +kernel
theorem dX1_init_34 : decode cX1_init 34 = .ok (.newarray .int, 2) := by decide +kernel
theorem dX1_init_36 : decode cX1_init 36 = .ok (.putfield 25, 3) := by decide +kernel
theorem dX1_init_39 : decode cX1_init 39 = .ok (.aload_n 0, 1) := by decide +kernel
theorem dX1_init_40 : decode cX1_init 40 = .ok (.iconst 1, 1) := by decide +kernel
theorem dX1_init_41 : decode cX1_init 41 = .ok (.putfield 28, 3) := by decide +kernel
theorem dX1_init_44 : decode cX1_init 44 = .ok (.aload_n 0, 1) := by decide +kernel
theorem dX1_init_45 : decode cX1_init 45 = .ok (.new 32, 3) := by decide +kernel
theorem dX1_init_48 : decode cX1_init 48 = .ok (.dup, 1) := by decide +kernel
theorem dX1_init_49 : decode cX1_init 49 = .ok (.aload_n 1, 1) := by decide +kernel
theorem dX1_init_50 : decode cX1_init 50 = .ok (.invokespecial 34, 3) := by decide +kernel
theorem dX1_init_53 : decode cX1_init 53 = .ok (.putfield 37, 3) := by decide +kernel
theorem dX1_init_56 : decode cX1_init 56 = .ok (.return_, 1) := by decide +kernel
theorem dX1_copyFrom_0 : decode cX1_copyFrom 0 = .ok (.aload_n 0, 1) := by decide +kernel
theorem dX1_copyFrom_1 : decode cX1_copyFrom 1 = .ok (.getfield 37, 3) := by decide +kernel
theorem dX1_copyFrom_4 : decode cX1_copyFrom 4 = .ok (.aload_n 1, 1) := by decide +kernel
theorem dX1_copyFrom_5 : decode cX1_copyFrom 5 = .ok (.getfield 37, 3) := by decide +kernel
theorem dX1_copyFrom_8 : decode cX1_copyFrom 8 = .ok (.invokevirtual 41, 3) := by decide +kernel
theorem dX1_copyFrom_11 : decode cX1_copyFrom 11 = .ok (.aload_n 0, 1) := by decide +kernel
theorem dX1_copyFrom_12 : decode cX1_copyFrom 12 = .ok (.getfield 12, 3) := by decide +kernel
theorem dX1_copyFrom_15 : decode cX1_copyFrom 15 = .ok (.aload_n 1, 1) := by decide +kernel
theorem dX1_copyFrom_16 : decode cX1_copyFrom 16 = .ok (.getfield 12, 3) := by decide +kernel
theorem dX1_copyFrom_19 : decode cX1_copyFrom 19 = .ok (.invokevirtual 45, 3) := by decide +kernel
theorem dX1_copyFrom_22 : decode cX1_copyFrom 22 = .ok (.aload_n 1, 1) := by decide +kernel
theorem dX1_copyFrom_23 : decode cX1_copyFrom 23 = .ok (.getfield 18, 3) := by decide +kernel
theorem dX1_copyFrom_26 : decode cX1_copyFrom 26 = .ok (.iconst 0, 1) := by decide +kernel
theorem dX1_copyFrom_27 : decode cX1_copyFrom 27 = .ok (.aload_n 0, 1) := by decide +kernel
theorem dX1_copyFrom_28 : decode cX1_copyFrom 28 = .ok (.getfield 18, 3) := by decide +kernel
theorem dX1_copyFrom_31 : decode cX1_copyFrom 31 = .ok (.iconst 0, 1) := by decide +kernel
theorem dX1_copyFrom_32 : decode cX1_copyFrom 32 = .ok (.bipush 60, 2) := by decide +kernel
theorem dX1_copyFrom_34 : decode cX1_copyFrom 34 = .ok (.invokestatic 48, 3) := by decide +kernel
theorem dX1_copyFrom_37 : decode cX1_copyFrom 37 = .ok (.aload_n 0, 1) := by decide +kernel
theorem dX1_copyFrom_38 : decode cX1_copyFrom 38 = .ok (.aload_n 1, 1) := by decide +kernel
theorem dX1_copyFrom_39 : decode cX1_copyFrom 39 = .ok (.getfield 54, 3) := by decide +kernel
theorem dX1_copyFrom_42 : decode cX1_copyFrom 42 = .ok (.putfield 54, 3) := by decide +kernel
theorem dX1_copyFrom_45 : decode cX1_copyFrom 45 = .ok (.aload_n 1, 1) := by decide +kernel
theorem dX1_copyFrom_46 : decode cX1_copyFrom 46 = .ok (.getfield 22, 3) := by decide +kernel
theorem dX1_copyFrom_49 : decode cX1_copyFrom 49 = .ok (.iconst 0, 1) := by decide +kernel
theorem dX1_copyFrom_50 : decode cX1_copyFrom 50 = .ok (.aload_n 0, 1) := by decide +kernel
theorem dX1_copyFrom_51 : decode cX1_copyFrom 51 = .ok (.getfield 22, 3) := by decide +kernel
theorem dX1_copyFrom_54 : decode cX1_copyFrom 54 = .ok (.iconst 0, 1) := by decide +kernel
theorem dX1_copyFrom_55 : decode cX1_copyFrom 55 = .ok (.bipush 24, 2) := by decide +kernel
theorem dX1_copyFrom_57 : decode cX1_copyFrom 57 = .ok (.invokestatic 48, 3) := by decide +kernel
theorem dX1_copyFrom_60 : decode cX1_copyFrom 60 = .ok (.aload_n 0, 1) := by decide +kernel
theorem dX1_copyFrom_61 : decode cX1_copyFrom 61 = .ok (.aload_n 1, 1) := by decide +kernel
theorem dX1_copyFrom_62 : decode cX1_copyFrom 62 = .ok (.getfield 57, 3) := by decide +kernel
theorem dX1_copyFrom_65 : decode cX1_copyFrom 65 = .ok (.putfield 57, 3) := by decide +kernel
theorem dX1_copyFrom_68 : decode cX1_copyFrom 68 = .ok (.aload_n 1, 1) := by decide +kernel
theorem dX1_copyFrom_69 : decode cX1_copyFrom 69 = .ok (.getfield 25, 3) := by decide +kernel
theorem dX1_copyFrom_72 : decode cX1_copyFrom 72 = .ok (.iconst 0, 1) := by decide +kernel
theorem dX1_copyFrom_73 : decode cX1_copyFrom 73 = .ok (.aload_n 0, 1) := by decide +kernel
theorem dX1_copyFrom_74 : decode cX1_copyFrom 74 = .ok (.getfield 25, 3) := by decide +kernel
theorem dX1_copyFrom_77 : decode cX1_copyFrom 77 = .ok (.iconst 0, 1) := by decide +kernel
theorem dX1_copyFrom_78 : decode cX1_copyFrom 78 = .ok (.bipush 24, 2) := by decide +kernel
theorem dX1_copyFrom_80 : decode cX1_copyFrom 80 = .ok (.invokestatic 48, 3) := by decide +kernel
theorem dX1_copyFrom_83 : decode cX1_copyFrom 83 = .ok (.aload_n 0, 1) := by decide +kernel
theorem dX1_copyFrom_84 : decode cX1_copyFrom 84 = .ok (.aload_n 1, 1) := by decide +kernel
theorem dX1_copyFrom_85 : decode cX1_copyFrom 85 = .ok (.getfield 60, 3) := by decide +kernel
theorem dX1_copyFrom_88 : decode cX1_copyFrom 88 = .ok (.putfield 60, 3) := by decide +kernel
theorem dX1_copyFrom_91 : decode cX1_copyFrom 91 = .ok (.aload_n 0, 1) := by decide +kernel
theorem dX1_copyFrom_92 : decode cX1_copyFrom 92 = .ok (.aload_n 1, 1) := by decide +kernel
theorem dX1_copyFrom_93 : decode cX1_copyFrom 93 = .ok (.getfield 28, 3) := by decide +kernel
theorem dX1_copyFrom_96 : decode cX1_copyFrom 96 = .ok (.putfield 28, 3) := by decide +kernel
theorem dX1_copyFrom_99 : decode cX1_copyFrom 99 = .ok (.return_, 1) := by decide +kernel
theorem dX1_carryAndBook_0 : decode cX1_carryAndBook 0 = .ok (.aload_n 0, 1) := by decide +kernel
theorem dX1_carryAndBook_1 : decode cX1_carryAndBook 1 = .ok (.getfield 25, 3) := by decide +kernel
theorem dX1_carryAndBook_4 : decode cX1_carryAndBook 4 = .ok (.iconst 0, 1) := by decide +kernel
theorem dX1_carryAndBook_5 : decode cX1_carryAndBook 5 = .ok (.aload_n 0, 1) := by decide +kernel
theorem dX1_carryAndBook_6 : decode cX1_carryAndBook 6 = .ok (.getfield 25, 3) := by decide +kernel
theorem dX1_carryAndBook_9 : decode cX1_carryAndBook 9 = .ok (.iconst 1, 1) := by decide +kernel
theorem dX1_carryAndBook_10 : decode cX1_carryAndBook 10 = .ok (.bipush 23, 2) := by decide +kernel
theorem dX1_carryAndBook_12 : decode cX1_carryAndBook 12 = .ok (.invokestatic 48, 3) := by decide +kernel
theorem dX1_carryAndBook_15 : decode cX1_carryAndBook 15 = .ok (.aload_n 0, 1) := by decide +kernel
theorem dX1_carryAndBook_16 : decode cX1_carryAndBook 16 = .ok (.getfield 25, 3) := by decide +kernel
theorem dX1_carryAndBook_19 : decode cX1_carryAndBook 19 = .ok (.iconst 0, 1) := by decide +kernel
theorem dX1_carryAndBook_20 : decode cX1_carryAndBook 20 = .ok (.bipush 10, 2) := by decide +kernel
theorem dX1_carryAndBook_22 : decode cX1_carryAndBook 22 = .ok (.iload_n 1, 1) := by decide +kernel
theorem dX1_carryAndBook_23 : decode cX1_carryAndBook 23 = .ok (.imul, 1) := by decide +kernel
theorem dX1_carryAndBook_24 : decode cX1_carryAndBook 24 = .ok (.iload_n 2, 1) := by decide +kernel
theorem dX1_carryAndBook_25 : decode cX1_carryAndBook 25 = .ok (.iadd, 1) := by decide +kernel
theorem dX1_carryAndBook_26 : decode cX1_carryAndBook 26 = .ok (.iastore, 1) := by decide +kernel
theorem dX1_carryAndBook_27 : decode cX1_carryAndBook 27 = .ok (.aload_n 0, 1) := by decide +kernel
theorem dX1_carryAndBook_28 : decode cX1_carryAndBook 28 = .ok (.aload_n 0, 1) := by decide +kernel
theorem dX1_carryAndBook_29 : decode cX1_carryAndBook 29 = .ok (.getfield 60, 3) := by decide +kernel
theorem dX1_carryAndBook_32 : decode cX1_carryAndBook 32 = .ok (.iconst 1, 1) := by decide +kernel
theorem dX1_carryAndBook_33 : decode cX1_carryAndBook 33 = .ok (.iadd, 1) := by decide +kernel
theorem dX1_carryAndBook_34 : decode cX1_carryAndBook 34 = .ok (.bipush 24, 2) := by decide +kernel
theorem dX1_carryAndBook_36 : decode cX1_carryAndBook 36 = .ok (.invokestatic 63, 3) := by decide +kernel
theorem dX1_carryAndBook_39 : decode cX1_carryAndBook 39 = .ok (.putfield 60, 3) := by decide +kernel
theorem dX1_carryAndBook_42 : decode cX1_carryAndBook 42 = .ok (.aload_n 0, 1) := by decide +kernel
theorem dX1_carryAndBook_43 : decode cX1_carryAndBook 43 = .ok (.getfield 37, 3) := by decide +kernel
theorem dX1_carryAndBook_46 : decode cX1_carryAndBook 46 = .ok (.iload_n 1, 1) := by decide +kernel
theorem dX1_carryAndBook_47 : decode cX1_carryAndBook 47 = .ok (.iload_n 2, 1) := by decide +kernel
theorem dX1_carryAndBook_48 : decode cX1_carryAndBook 48 = .ok (.invokevirtual 69, 3) := by decide +kernel
theorem dX1_carryAndBook_51 : decode cX1_carryAndBook 51 = .ok (.ireturn, 1) := by decide +kernel
theorem dX1_crossByDraw_0 : decode cX1_crossByDraw 0 = .ok (.aload_n 0, 1) := by decide +kernel
theorem dX1_crossByDraw_1 : decode cX1_crossByDraw 1 = .ok (.getfield 37, 3) := by decide +kernel
theorem dX1_crossByDraw_4 : decode cX1_crossByDraw 4 = .ok (.getfield 72, 3) := by decide +kernel
theorem dX1_crossByDraw_7 : decode cX1_crossByDraw 7 = .ok (.ifCond .ne 4, 3) := by decide +kernel
theorem dX1_crossByDraw_10 : decode cX1_crossByDraw 10 = .ok (.return_, 1) := by decide +kernel
theorem dX1_crossByDraw_11 : decode cX1_crossByDraw 11 = .ok (.aload_n 0, 1) := by decide +kernel
theorem dX1_crossByDraw_12 : decode cX1_crossByDraw 12 = .ok (.invokevirtual 75, 3) := by decide +kernel
theorem dX1_crossByDraw_15 : decode cX1_crossByDraw 15 = .ok (.aload_n 0, 1) := by decide +kernel
theorem dX1_crossByDraw_16 : decode cX1_crossByDraw 16 = .ok (.getfield 37, 3) := by decide +kernel
theorem dX1_crossByDraw_19 : decode cX1_crossByDraw 19 = .ok (.getfield 72, 3) := by decide +kernel
theorem dX1_crossByDraw_22 : decode cX1_crossByDraw 22 = .ok (.irem, 1) := by decide +kernel
theorem dX1_crossByDraw_23 : decode cX1_crossByDraw 23 = .ok (.istore_n 1, 1) := by decide +kernel
theorem dX1_crossByDraw_24 : decode cX1_crossByDraw 24 = .ok (.aload_n 0, 1) := by decide +kernel
theorem dX1_crossByDraw_25 : decode cX1_crossByDraw 25 = .ok (.getfield 37, 3) := by decide +kernel
theorem dX1_crossByDraw_28 : decode cX1_crossByDraw 28 = .ok (.iload_n 1, 1) := by decide +kernel
theorem dX1_crossByDraw_29 : decode cX1_crossByDraw 29 = .ok (.invokevirtual 79, 3) := by decide +kernel
theorem dX1_crossByDraw_32 : decode cX1_crossByDraw 32 = .ok (.istore_n 2, 1) := by decide +kernel
theorem dX1_crossByDraw_33 : decode cX1_crossByDraw 33 = .ok (.iload_n 2, 1) := by decide +kernel
theorem dX1_crossByDraw_34 : decode cX1_crossByDraw 34 = .ok (.ifCond .ne 14, 3) := by decide +kernel
theorem dX1_crossByDraw_37 : decode cX1_crossByDraw 37 = .ok (.aload_n 0, 1) := by decide +kernel
theorem dX1_crossByDraw_38 : decode cX1_crossByDraw 38 = .ok (.getfield 37, 3) := by decide +kernel
theorem dX1_crossByDraw_41 : decode cX1_crossByDraw 41 = .ok (.iload_n 1, 1) := by decide +kernel
theorem dX1_crossByDraw_42 : decode cX1_crossByDraw 42 = .ok (.invokevirtual 83, 3) := by decide +kernel
theorem dX1_crossByDraw_45 : decode cX1_crossByDraw 45 = .ok (.goto 23, 3) := by decide +kernel
theorem dX1_crossByDraw_48 : decode cX1_crossByDraw 48 = .ok (.aload_n 0, 1) := by decide +kernel
theorem dX1_crossByDraw_49 : decode cX1_crossByDraw 49 = .ok (.iload_n 1, 1) := by decide +kernel
theorem dX1_crossByDraw_50 : decode cX1_crossByDraw 50 = .ok (.aload_n 0, 1) := by decide +kernel
theorem dX1_crossByDraw_51 : decode cX1_crossByDraw 51 = .ok (.getfield 37, 3) := by decide +kernel
theorem dX1_crossByDraw_54 : decode cX1_crossByDraw 54 = .ok (.iload_n 1, 1) := by decide +kernel
theorem dX1_crossByDraw_55 : decode cX1_crossByDraw 55 = .ok (.aload_n 0, 1) := by decide +kernel
theorem dX1_crossByDraw_56 : decode cX1_crossByDraw 56 = .ok (.invokevirtual 75, 3) := by decide +kernel
theorem dX1_crossByDraw_59 : decode cX1_crossByDraw 59 = .ok (.iload_n 2, 1) := by decide +kernel
theorem dX1_crossByDraw_60 : decode cX1_crossByDraw 60 = .ok (.irem, 1) := by decide +kernel
theorem dX1_crossByDraw_61 : decode cX1_crossByDraw 61 = .ok (.invokevirtual 87, 3) := by decide +kernel
theorem dX1_crossByDraw_64 : decode cX1_crossByDraw 64 = .ok (.invokevirtual 90, 3) := by decide +kernel
theorem dX1_crossByDraw_67 : decode cX1_crossByDraw 67 = .ok (.pop, 1) := by decide +kernel
theorem dX1_crossByDraw_68 : decode cX1_crossByDraw 68 = .ok (.return_, 1) := by decide +kernel
theorem dX1_draw_0 : decode cX1_draw 0 = .ok (.aload_n 0, 1) := by decide +kernel
theorem dX1_draw_1 : decode cX1_draw 1 = .ok (.aload_n 0, 1) := by decide +kernel
theorem dX1_draw_2 : decode cX1_draw 2 = .ok (.getfield 28, 3) := by decide +kernel
theorem dX1_draw_5 : decode cX1_draw 5 = .ok (.ldc 93, 2) := by decide +kernel
theorem dX1_draw_7 : decode cX1_draw 7 = .ok (.imul, 1) := by decide +kernel
theorem dX1_draw_8 : decode cX1_draw 8 = .ok (.sipush 12345, 3) := by decide +kernel
theorem dX1_draw_11 : decode cX1_draw 11 = .ok (.iadd, 1) := by decide +kernel
theorem dX1_draw_12 : decode cX1_draw 12 = .ok (.putfield 28, 3) := by decide +kernel
theorem dX1_draw_15 : decode cX1_draw 15 = .ok (.aload_n 0, 1) := by decide +kernel
theorem dX1_draw_16 : decode cX1_draw 16 = .ok (.getfield 28, 3) := by decide +kernel
theorem dX1_draw_19 : decode cX1_draw 19 = .ok (.bipush 8, 2) := by decide +kernel
theorem dX1_draw_21 : decode cX1_draw 21 = .ok (.iushr, 1) := by decide +kernel
theorem dX1_draw_22 : decode cX1_draw 22 = .ok (.ireturn, 1) := by decide +kernel
theorem dX1_facesBackTo_0 : decode cX1_facesBackTo 0 = .ok (.iconst 0, 1) := by decide +kernel
theorem dX1_facesBackTo_1 : decode cX1_facesBackTo 1 = .ok (.istore_n 3, 1) := by decide +kernel
theorem dX1_facesBackTo_2 : decode cX1_facesBackTo 2 = .ok (.iconst 0, 1) := by decide +kernel
theorem dX1_facesBackTo_3 : decode cX1_facesBackTo 3 = .ok (.istore 4, 2) := by decide +kernel
theorem dX1_facesBackTo_5 : decode cX1_facesBackTo 5 = .ok (.iload 4, 2) := by decide +kernel
theorem dX1_facesBackTo_7 : decode cX1_facesBackTo 7 = .ok (.aload_n 0, 1) := by decide +kernel
theorem dX1_facesBackTo_8 : decode cX1_facesBackTo 8 = .ok (.getfield 60, 3) := by decide +kernel
theorem dX1_facesBackTo_11 : decode cX1_facesBackTo 11 = .ok (.if_icmp .ge 53, 3) := by decide +kernel
theorem dX1_facesBackTo_14 : decode cX1_facesBackTo 14 = .ok (.aload_n 0, 1) := by decide +kernel
theorem dX1_facesBackTo_15 : decode cX1_facesBackTo 15 = .ok (.getfield 25, 3) := by decide +kernel
theorem dX1_facesBackTo_18 : decode cX1_facesBackTo 18 = .ok (.iload 4, 2) := by decide +kernel
theorem dX1_facesBackTo_20 : decode cX1_facesBackTo 20 = .ok (.iaload, 1) := by decide +kernel
theorem dX1_facesBackTo_21 : decode cX1_facesBackTo 21 = .ok (.bipush 10, 2) := by decide +kernel
theorem dX1_facesBackTo_23 : decode cX1_facesBackTo 23 = .ok (.idiv, 1) := by decide +kernel
theorem dX1_facesBackTo_24 : decode cX1_facesBackTo 24 = .ok (.iload_n 1, 1) := by decide +kernel
theorem dX1_facesBackTo_25 : decode cX1_facesBackTo 25 = .ok (.if_icmp .ne 33, 3) := by decide +kernel
theorem dX1_facesBackTo_28 : decode cX1_facesBackTo 28 = .ok (.aload_n 0, 1) := by decide +kernel
theorem dX1_facesBackTo_29 : decode cX1_facesBackTo 29 = .ok (.getfield 25, 3) := by decide +kernel
theorem dX1_facesBackTo_32 : decode cX1_facesBackTo 32 = .ok (.iload 4, 2) := by decide +kernel
theorem dX1_facesBackTo_34 : decode cX1_facesBackTo 34 = .ok (.iaload, 1) := by decide +kernel
theorem dX1_facesBackTo_35 : decode cX1_facesBackTo 35 = .ok (.bipush 10, 2) := by decide +kernel
theorem dX1_facesBackTo_37 : decode cX1_facesBackTo 37 = .ok (.irem, 1) := by decide +kernel
theorem dX1_facesBackTo_38 : decode cX1_facesBackTo 38 = .ok (.istore 5, 2) := by decide +kernel
theorem dX1_facesBackTo_40 : decode cX1_facesBackTo 40 = .ok (.iload_n 3, 1) := by decide +kernel
theorem dX1_facesBackTo_41 : decode cX1_facesBackTo 41 = .ok (.iconst 1, 1) := by decide +kernel
theorem dX1_facesBackTo_42 : decode cX1_facesBackTo 42 = .ok (.iload 5, 2) := by decide +kernel
theorem dX1_facesBackTo_44 : decode cX1_facesBackTo 44 = .ok (.ishl, 1) := by decide +kernel
theorem dX1_facesBackTo_45 : decode cX1_facesBackTo 45 = .ok (.ior, 1) := by decide +kernel
theorem dX1_facesBackTo_46 : decode cX1_facesBackTo 46 = .ok (.istore_n 3, 1) := by decide +kernel
theorem dX1_facesBackTo_47 : decode cX1_facesBackTo 47 = .ok (.iload 5, 2) := by decide +kernel
theorem dX1_facesBackTo_49 : decode cX1_facesBackTo 49 = .ok (.iload_n 2, 1) := by decide +kernel
theorem dX1_facesBackTo_50 : decode cX1_facesBackTo 50 = .ok (.if_icmp .ne 8, 3) := by decide +kernel
theorem dX1_facesBackTo_53 : decode cX1_facesBackTo 53 = .ok (.iload_n 3, 1) := by decide +kernel
theorem dX1_facesBackTo_54 : decode cX1_facesBackTo 54 = .ok (.invokestatic 94, 3) := by decide +kernel
theorem dX1_facesBackTo_57 : decode cX1_facesBackTo 57 = .ok (.ireturn, 1) := by decide +kernel
theorem dX1_facesBackTo_58 : decode cX1_facesBackTo 58 = .ok (.iinc 4 1, 3) := by decide +kernel
theorem dX1_facesBackTo_61 : decode cX1_facesBackTo 61 = .ok (.goto (-56), 3) := by decide +kernel
theorem dX1_facesBackTo_64 : decode cX1_facesBackTo 64 = .ok (.bipush 9, 2) := by decide +kernel
theorem dX1_facesBackTo_66 : decode cX1_facesBackTo 66 = .ok (.ireturn, 1) := by decide +kernel
theorem dX2_init_0 : decode cX2_init 0 = .ok (.aload_n 0, 1) := by decide +kernel
theorem dX2_init_1 : decode cX2_init 1 = .ok (.invokespecial 1, 3) := by decide +kernel
theorem dX2_init_4 : decode cX2_init 4 = .ok (.aload_n 0, 1) := by decide +kernel
theorem dX2_init_5 : decode cX2_init 5 = .ok (.aload_n 1, 1) := by decide +kernel
theorem dX2_init_6 : decode cX2_init 6 = .ok (.putfield 7, 3) := by decide +kernel
theorem dX2_init_9 : decode cX2_init 9 = .ok (.aload_n 0, 1) := by decide +kernel
theorem dX2_init_10 : decode cX2_init 10 = .ok (.aload_n 1, 1) := by decide +kernel
theorem dX2_init_11 : decode cX2_init 11 = .ok (.arraylength, 1) := by decide +kernel
theorem dX2_init_12 : decode cX2_init 12 = .ok (.newarray .int, 2) := by decide +kernel
theorem dX2_init_14 : decode cX2_init 14 = .ok (.putfield 13, 3) := by decide +kernel
theorem dX2_init_17 : decode cX2_init 17 = .ok (.return_, 1) := by decide +kernel
theorem dX2_isTold_0 : decode cX2_isTold 0 = .ok (.aload_n 0, 1) := by decide +kernel
theorem dX2_isTold_1 : decode cX2_isTold 1 = .ok (.getfield 7, 3) := by decide +kernel
theorem dX2_isTold_4 : decode cX2_isTold 4 = .ok (.arraylength, 1) := by decide +kernel
theorem dX2_isTold_5 : decode cX2_isTold 5 = .ok (.ifCond .le 7, 3) := by decide +kernel
theorem dX2_isTold_8 : decode cX2_isTold 8 = .ok (.iconst 1, 1) := by decide +kernel
theorem dX2_isTold_9 : decode cX2_isTold 9 = .ok (.goto 4, 3) := by decide +kernel
theorem dX2_isTold_12 : decode cX2_isTold 12 = .ok (.iconst 0, 1) := by decide +kernel
theorem dX2_isTold_13 : decode cX2_isTold 13 = .ok (.ireturn, 1) := by decide +kernel
theorem dX2_value_0 : decode cX2_value 0 = .ok (.iconst 0, 1) := by decide +kernel
theorem dX2_value_1 : decode cX2_value 1 = .ok (.istore 4, 2) := by decide +kernel
theorem dX2_value_3 : decode cX2_value 3 = .ok (.iconst 0, 1) := by decide +kernel
theorem dX2_value_4 : decode cX2_value 4 = .ok (.istore 5, 2) := by decide +kernel
theorem dX2_value_6 : decode cX2_value 6 = .ok (.iload 5, 2) := by decide +kernel
theorem dX2_value_8 : decode cX2_value 8 = .ok (.aload_n 0, 1) := by decide +kernel
theorem dX2_value_9 : decode cX2_value 9 = .ok (.getfield 7, 3) := by decide +kernel
theorem dX2_value_12 : decode cX2_value 12 = .ok (.arraylength, 1) := by decide +kernel
theorem dX2_value_13 : decode cX2_value 13 = .ok (.if_icmp .ge 165, 3) := by decide +kernel
theorem dX2_value_16 : decode cX2_value 16 = .ok (.aload_n 0, 1) := by decide +kernel
theorem dX2_value_17 : decode cX2_value 17 = .ok (.getfield 7, 3) := by decide +kernel
theorem dX2_value_20 : decode cX2_value 20 = .ok (.iload 5, 2) := by decide +kernel
theorem dX2_value_22 : decode cX2_value 22 = .ok (.iaload, 1) := by decide +kernel
theorem dX2_value_23 : decode cX2_value 23 = .ok (.istore 6, 2) := by decide +kernel
theorem dX2_value_25 : decode cX2_value 25 = .ok (.iload 6, 2) := by decide +kernel
theorem dX2_value_27 : decode cX2_value 27 = .ok (.sipush 256, 3) := by decide +kernel
theorem dX2_value_30 : decode cX2_value 30 = .ok (.if_icmp .lt 22, 3) := by decide +kernel
theorem dX2_value_33 : decode cX2_value 33 = .ok (.aload_n 0, 1) := by decide +kernel
theorem dX2_value_34 : decode cX2_value 34 = .ok (.getfield 13, 3) := by decide +kernel
theorem dX2_value_37 : decode cX2_value 37 = .ok (.iload 4, 2) := by decide +kernel
theorem dX2_value_39 : decode cX2_value 39 = .ok (.iload 6, 2) := by decide +kernel
theorem dX2_value_41 : decode cX2_value 41 = .ok (.sipush 256, 3) := by decide +kernel
theorem dX2_value_44 : decode cX2_value 44 = .ok (.isub, 1) := by decide +kernel
theorem dX2_value_45 : decode cX2_value 45 = .ok (.iastore, 1) := by decide +kernel
theorem dX2_value_46 : decode cX2_value 46 = .ok (.iinc 4 1, 3) := by decide +kernel
theorem dX2_value_49 : decode cX2_value 49 = .ok (.goto 123, 3) := by decide +kernel
theorem dX2_value_52 : decode cX2_value 52 = .ok (.iload 6, 2) := by decide +kernel
theorem dX2_value_54 : decode cX2_value 54 = .ok (.iconst 3, 1) := by decide +kernel
theorem dX2_value_55 : decode cX2_value 55 = .ok (.if_icmp .ge 36, 3) := by decide +kernel
theorem dX2_value_58 : decode cX2_value 58 = .ok (.aload_n 0, 1) := by decide +kernel
theorem dX2_value_59 : decode cX2_value 59 = .ok (.getfield 13, 3) := by decide +kernel
theorem dX2_value_62 : decode cX2_value 62 = .ok (.iload 4, 2) := by decide +kernel
theorem dX2_value_64 : decode cX2_value 64 = .ok (.iload 6, 2) := by decide +kernel
theorem dX2_value_66 : decode cX2_value 66 = .ok (.ifCond .ne 7, 3) := by decide +kernel
theorem dX2_value_69 : decode cX2_value 69 = .ok (.iload_n 1, 1) := by decide +kernel
theorem dX2_value_70 : decode cX2_value 70 = .ok (.goto 14, 3) := by decide +kernel
theorem dX2_value_73 : decode cX2_value 73 = .ok (.iload 6, 2) := by decide +kernel
theorem dX2_value_75 : decode cX2_value 75 = .ok (.iconst 1, 1) := by decide +kernel
theorem dX2_value_76 : decode cX2_value 76 = .ok (.if_icmp .ne 7, 3) := by decide +kernel
theorem dX2_value_79 : decode cX2_value 79 = .ok (.iload_n 2, 1) := by decide +kernel
theorem dX2_value_80 : decode cX2_value 80 = .ok (.goto 4, 3) := by decide +kernel
theorem dX2_value_83 : decode cX2_value 83 = .ok (.iload_n 3, 1) := by decide +kernel
theorem dX2_value_84 : decode cX2_value 84 = .ok (.iastore, 1) := by decide +kernel
theorem dX2_value_85 : decode cX2_value 85 = .ok (.iinc 4 1, 3) := by decide +kernel
theorem dX2_value_88 : decode cX2_value 88 = .ok (.goto 84, 3) := by decide +kernel
theorem dX2_value_91 : decode cX2_value 91 = .ok (.iload 6, 2) := by decide +kernel
theorem dX2_value_93 : decode cX2_value 93 = .ok (.bipush 33, 2) := by decide +kernel
theorem dX2_value_95 : decode cX2_value 95 = .ok (.if_icmp .ne 38, 3) := by decide +kernel
theorem dX2_value_98 : decode cX2_value 98 = .ok (.iload 4, 2) := by decide +kernel
theorem dX2_value_100 : decode cX2_value 100 = .ok (.iconst 1, 1) := by decide +kernel
theorem dX2_value_101 : decode cX2_value 101 = .ok (.if_icmp .lt 32, 3) := by decide +kernel
theorem dX2_value_104 : decode cX2_value 104 = .ok (.aload_n 0, 1) := by decide +kernel
theorem dX2_value_105 : decode cX2_value 105 = .ok (.getfield 13, 3) := by decide +kernel
theorem dX2_value_108 : decode cX2_value 108 = .ok (.iload 4, 2) := by decide +kernel
theorem dX2_value_110 : decode cX2_value 110 = .ok (.iconst 1, 1) := by decide +kernel
theorem dX2_value_111 : decode cX2_value 111 = .ok (.isub, 1) := by decide +kernel
theorem dX2_value_112 : decode cX2_value 112 = .ok (.aload_n 0, 1) := by decide +kernel
theorem dX2_value_113 : decode cX2_value 113 = .ok (.getfield 13, 3) := by decide +kernel
theorem dX2_value_116 : decode cX2_value 116 = .ok (.iload 4, 2) := by decide +kernel
theorem dX2_value_118 : decode cX2_value 118 = .ok (.iconst 1, 1) := by decide +kernel
theorem dX2_value_119 : decode cX2_value 119 = .ok (.isub, 1) := by decide +kernel
theorem dX2_value_120 : decode cX2_value 120 = .ok (.iaload, 1) := by decide +kernel
theorem dX2_value_121 : decode cX2_value 121 = .ok (.ifCond .ne 7, 3) := by decide +kernel
theorem dX2_value_124 : decode cX2_value 124 = .ok (.iconst 1, 1) := by decide +kernel
theorem dX2_value_125 : decode cX2_value 125 = .ok (.goto 4, 3) := by decide +kernel
theorem dX2_value_128 : decode cX2_value 128 = .ok (.iconst 0, 1) := by decide +kernel
theorem dX2_value_129 : decode cX2_value 129 = .ok (.iastore, 1) := by decide +kernel
theorem dX2_value_130 : decode cX2_value 130 = .ok (.goto 42, 3) := by decide +kernel
theorem dX2_value_133 : decode cX2_value 133 = .ok (.iload 4, 2) := by decide +kernel
theorem dX2_value_135 : decode cX2_value 135 = .ok (.iconst 2, 1) := by decide +kernel
theorem dX2_value_136 : decode cX2_value 136 = .ok (.if_icmp .lt 36, 3) := by decide +kernel
theorem dX2_value_139 : decode cX2_value 139 = .ok (.iinc 4 (-1), 3) := by decide +kernel
theorem dX2_value_142 : decode cX2_value 142 = .ok (.aload_n 0, 1) := by decide +kernel
theorem dX2_value_143 : decode cX2_value 143 = .ok (.getfield 13, 3) := by decide +kernel
theorem dX2_value_146 : decode cX2_value 146 = .ok (.iload 4, 2) := by decide +kernel
theorem dX2_value_148 : decode cX2_value 148 = .ok (.iconst 1, 1) := by decide +kernel
theorem dX2_value_149 : decode cX2_value 149 = .ok (.isub, 1) := by decide +kernel
theorem dX2_value_150 : decode cX2_value 150 = .ok (.iload 6, 2) := by decide +kernel
theorem dX2_value_152 : decode cX2_value 152 = .ok (.aload_n 0, 1) := by decide +kernel
theorem dX2_value_153 : decode cX2_value 153 = .ok (.getfield 13, 3) := by decide +kernel
theorem dX2_value_156 : decode cX2_value 156 = .ok (.iload 4, 2) := by decide +kernel
theorem dX2_value_158 : decode cX2_value 158 = .ok (.iconst 1, 1) := by decide +kernel
theorem dX2_value_159 : decode cX2_value 159 = .ok (.isub, 1) := by decide +kernel
theorem dX2_value_160 : decode cX2_value 160 = .ok (.iaload, 1) := by decide +kernel
theorem dX2_value_161 : decode cX2_value 161 = .ok (.aload_n 0, 1) := by decide +kernel
theorem dX2_value_162 : decode cX2_value 162 = .ok (.getfield 13, 3) := by decide +kernel
theorem dX2_value_165 : decode cX2_value 165 = .ok (.iload 4, 2) := by decide +kernel
theorem dX2_value_167 : decode cX2_value 167 = .ok (.iaload, 1) := by decide +kernel
theorem dX2_value_168 : decode cX2_value 168 = .ok (.invokestatic 16, 3) := by decide +kernel
theorem dX2_value_171 : decode cX2_value 171 = .ok (.iastore, 1) := by decide +kernel
theorem dX2_value_172 : decode cX2_value 172 = .ok (.iinc 5 1, 3) := by decide +kernel
theorem dX2_value_175 : decode cX2_value 175 = .ok (.goto (-169), 3) := by decide +kernel
theorem dX2_value_178 : decode cX2_value 178 = .ok (.iload 4, 2) := by decide +kernel
theorem dX2_value_180 : decode cX2_value 180 = .ok (.ifCond .le 12, 3) := by decide +kernel
theorem dX2_value_183 : decode cX2_value 183 = .ok (.aload_n 0, 1) := by decide +kernel
theorem dX2_value_184 : decode cX2_value 184 = .ok (.getfield 13, 3) := by decide +kernel
theorem dX2_value_187 : decode cX2_value 187 = .ok (.iconst 0, 1) := by decide +kernel
theorem dX2_value_188 : decode cX2_value 188 = .ok (.iaload, 1) := by decide +kernel
theorem dX2_value_189 : decode cX2_value 189 = .ok (.goto 4, 3) := by decide +kernel
theorem dX2_value_192 : decode cX2_value 192 = .ok (.iconst 0, 1) := by decide +kernel
theorem dX2_value_193 : decode cX2_value 193 = .ok (.ireturn, 1) := by decide +kernel
theorem dX2_join_0 : decode cX2_join 0 = .ok (.iload_n 0, 1) := by decide +kernel
theorem dX2_join_1 : decode cX2_join 1 = .ok (.lookupswitch 168 #[(38, 97), (42, 152), (43, 144), (45, 148), (47, 156), (60, 111), (61, 122), (62, 133), (124, 83)], 83) := by decide +kernel
theorem dX2_join_84 : decode cX2_join 84 = .ok (.iload_n 1, 1) := by decide +kernel
theorem dX2_join_85 : decode cX2_join 85 = .ok (.ifCond .ne 7, 3) := by decide +kernel
theorem dX2_join_88 : decode cX2_join 88 = .ok (.iload_n 2, 1) := by decide +kernel
theorem dX2_join_89 : decode cX2_join 89 = .ok (.ifCond .eq 7, 3) := by decide +kernel
theorem dX2_join_92 : decode cX2_join 92 = .ok (.iconst 1, 1) := by decide +kernel
theorem dX2_join_93 : decode cX2_join 93 = .ok (.goto 4, 3) := by decide +kernel
theorem dX2_join_96 : decode cX2_join 96 = .ok (.iconst 0, 1) := by decide +kernel
theorem dX2_join_97 : decode cX2_join 97 = .ok (.ireturn, 1) := by decide +kernel
theorem dX2_join_98 : decode cX2_join 98 = .ok (.iload_n 1, 1) := by decide +kernel
theorem dX2_join_99 : decode cX2_join 99 = .ok (.ifCond .eq 11, 3) := by decide +kernel
theorem dX2_join_102 : decode cX2_join 102 = .ok (.iload_n 2, 1) := by decide +kernel
theorem dX2_join_103 : decode cX2_join 103 = .ok (.ifCond .eq 7, 3) := by decide +kernel
theorem dX2_join_106 : decode cX2_join 106 = .ok (.iconst 1, 1) := by decide +kernel
theorem dX2_join_107 : decode cX2_join 107 = .ok (.goto 4, 3) := by decide +kernel
theorem dX2_join_110 : decode cX2_join 110 = .ok (.iconst 0, 1) := by decide +kernel
theorem dX2_join_111 : decode cX2_join 111 = .ok (.ireturn, 1) := by decide +kernel
theorem dX2_join_112 : decode cX2_join 112 = .ok (.iload_n 1, 1) := by decide +kernel
theorem dX2_join_113 : decode cX2_join 113 = .ok (.iload_n 2, 1) := by decide +kernel
theorem dX2_join_114 : decode cX2_join 114 = .ok (.if_icmp .ge 7, 3) := by decide +kernel
theorem dX2_join_117 : decode cX2_join 117 = .ok (.iconst 1, 1) := by decide +kernel
theorem dX2_join_118 : decode cX2_join 118 = .ok (.goto 4, 3) := by decide +kernel
theorem dX2_join_121 : decode cX2_join 121 = .ok (.iconst 0, 1) := by decide +kernel
theorem dX2_join_122 : decode cX2_join 122 = .ok (.ireturn, 1) := by decide +kernel
theorem dX2_join_123 : decode cX2_join 123 = .ok (.iload_n 1, 1) := by decide +kernel
theorem dX2_join_124 : decode cX2_join 124 = .ok (.iload_n 2, 1) := by decide +kernel
theorem dX2_join_125 : decode cX2_join 125 = .ok (.if_icmp .ne 7, 3) := by decide +kernel
theorem dX2_join_128 : decode cX2_join 128 = .ok (.iconst 1, 1) := by decide +kernel
theorem dX2_join_129 : decode cX2_join 129 = .ok (.goto 4, 3) := by decide +kernel
theorem dX2_join_132 : decode cX2_join 132 = .ok (.iconst 0, 1) := by decide +kernel
theorem dX2_join_133 : decode cX2_join 133 = .ok (.ireturn, 1) := by decide +kernel
theorem dX2_join_134 : decode cX2_join 134 = .ok (.iload_n 1, 1) := by decide +kernel
theorem dX2_join_135 : decode cX2_join 135 = .ok (.iload_n 2, 1) := by decide +kernel
theorem dX2_join_136 : decode cX2_join 136 = .ok (.if_icmp .le 7, 3) := by decide +kernel
theorem dX2_join_139 : decode cX2_join 139 = .ok (.iconst 1, 1) := by decide +kernel
theorem dX2_join_140 : decode cX2_join 140 = .ok (.goto 4, 3) := by decide +kernel
theorem dX2_join_143 : decode cX2_join 143 = .ok (.iconst 0, 1) := by decide +kernel
theorem dX2_join_144 : decode cX2_join 144 = .ok (.ireturn, 1) := by decide +kernel
theorem dX2_join_145 : decode cX2_join 145 = .ok (.iload_n 1, 1) := by decide +kernel
theorem dX2_join_146 : decode cX2_join 146 = .ok (.iload_n 2, 1) := by decide +kernel
theorem dX2_join_147 : decode cX2_join 147 = .ok (.iadd, 1) := by decide +kernel
theorem dX2_join_148 : decode cX2_join 148 = .ok (.ireturn, 1) := by decide +kernel
theorem dX2_join_149 : decode cX2_join 149 = .ok (.iload_n 1, 1) := by decide +kernel
theorem dX2_join_150 : decode cX2_join 150 = .ok (.iload_n 2, 1) := by decide +kernel
theorem dX2_join_151 : decode cX2_join 151 = .ok (.isub, 1) := by decide +kernel
theorem dX2_join_152 : decode cX2_join 152 = .ok (.ireturn, 1) := by decide +kernel
theorem dX2_join_153 : decode cX2_join 153 = .ok (.iload_n 1, 1) := by decide +kernel
theorem dX2_join_154 : decode cX2_join 154 = .ok (.iload_n 2, 1) := by decide +kernel
theorem dX2_join_155 : decode cX2_join 155 = .ok (.imul, 1) := by decide +kernel
theorem dX2_join_156 : decode cX2_join 156 = .ok (.ireturn, 1) := by decide +kernel
theorem dX2_join_157 : decode cX2_join 157 = .ok (.iload_n 2, 1) := by decide +kernel
theorem dX2_join_158 : decode cX2_join 158 = .ok (.ifCond .ne 7, 3) := by decide +kernel
theorem dX2_join_161 : decode cX2_join 161 = .ok (.iconst 0, 1) := by decide +kernel
theorem dX2_join_162 : decode cX2_join 162 = .ok (.goto 6, 3) := by decide +kernel
theorem dX2_join_165 : decode cX2_join 165 = .ok (.iload_n 1, 1) := by decide +kernel
theorem dX2_join_166 : decode cX2_join 166 = .ok (.iload_n 2, 1) := by decide +kernel
theorem dX2_join_167 : decode cX2_join 167 = .ok (.idiv, 1) := by decide +kernel
theorem dX2_join_168 : decode cX2_join 168 = .ok (.ireturn, 1) := by decide +kernel
theorem dX2_join_169 : decode cX2_join 169 = .ok (.iload_n 2, 1) := by decide +kernel
theorem dX2_join_170 : decode cX2_join 170 = .ok (.ifCond .ne 7, 3) := by decide +kernel
theorem dX2_join_173 : decode cX2_join 173 = .ok (.iconst 0, 1) := by decide +kernel
theorem dX2_join_174 : decode cX2_join 174 = .ok (.goto 6, 3) := by decide +kernel
theorem dX2_join_177 : decode cX2_join 177 = .ok (.iload_n 1, 1) := by decide +kernel
theorem dX2_join_178 : decode cX2_join 178 = .ok (.iload_n 2, 1) := by decide +kernel
theorem dX2_join_179 : decode cX2_join 179 = .ok (.irem, 1) := by decide +kernel
theorem dX2_join_180 : decode cX2_join 180 = .ok (.ireturn, 1) := by decide +kernel
theorem dX3_init_0 : decode cX3_init 0 = .ok (.aload_n 0, 1) := by decide +kernel
theorem dX3_init_1 : decode cX3_init 1 = .ok (.invokespecial 3, 3) := by decide +kernel
theorem dX3_init_4 : decode cX3_init 4 = .ok (.aload_n 0, 1) := by decide +kernel
theorem dX3_init_5 : decode cX3_init 5 = .ok (.aload_n 1, 1) := by decide +kernel
theorem dX3_init_6 : decode cX3_init 6 = .ok (.putfield 9, 3) := by decide +kernel
theorem dX3_init_9 : decode cX3_init 9 = .ok (.aload_n 0, 1) := by decide +kernel
theorem dX3_init_10 : decode cX3_init 10 = .ok (.iload_n 2, 1) := by decide +kernel
theorem dX3_init_11 : decode cX3_init 11 = .ok (.putfield 15, 3) := by decide +kernel
theorem dX3_init_14 : decode cX3_init 14 = .ok (.aload_n 0, 1) := by decide +kernel
theorem dX3_init_15 : decode cX3_init 15 = .ok (.iload_n 3, 1) := by decide +kernel
theorem dX3_init_16 : decode cX3_init 16 = .ok (.putfield 19, 3) := by decide +kernel
theorem dX3_init_19 : decode cX3_init 19 = .ok (.aload_n 0, 1) := by decide +kernel
theorem dX3_init_20 : decode cX3_init 20 = .ok (.iload_n 2, 1) := by decide +kernel
theorem dX3_init_21 : decode cX3_init 21 = .ok (.newarray .int, 2) := by decide +kernel
theorem dX3_init_23 : decode cX3_init 23 = .ok (.putfield 22, 3) := by decide +kernel
theorem dX3_init_26 : decode cX3_init 26 = .ok (.return_, 1) := by decide +kernel
theorem dX3_readsAll_0 : decode cX3_readsAll 0 = .ok (.aload_n 0, 1) := by decide +kernel
theorem dX3_readsAll_1 : decode cX3_readsAll 1 = .ok (.iconst 0, 1) := by decide +kernel
theorem dX3_readsAll_2 : decode cX3_readsAll 2 = .ok (.iconst 0, 1) := by decide +kernel
theorem dX3_readsAll_3 : decode cX3_readsAll 3 = .ok (.invokevirtual 25, 3) := by decide +kernel
theorem dX3_readsAll_6 : decode cX3_readsAll 6 = .ok (.aload_n 0, 1) := by decide +kernel
theorem dX3_readsAll_7 : decode cX3_readsAll 7 = .ok (.getfield 29, 3) := by decide +kernel
theorem dX3_readsAll_10 : decode cX3_readsAll 10 = .ok (.ifCond .ne 18, 3) := by decide +kernel
theorem dX3_readsAll_13 : decode cX3_readsAll 13 = .ok (.aload_n 0, 1) := by decide +kernel
theorem dX3_readsAll_14 : decode cX3_readsAll 14 = .ok (.getfield 33, 3) := by decide +kernel
theorem dX3_readsAll_17 : decode cX3_readsAll 17 = .ok (.aload_n 0, 1) := by decide +kernel
theorem dX3_readsAll_18 : decode cX3_readsAll 18 = .ok (.getfield 15, 3) := by decide +kernel
theorem dX3_readsAll_21 : decode cX3_readsAll 21 = .ok (.if_icmp .ne 7, 3) := by decide +kernel
theorem dX3_readsAll_24 : decode cX3_readsAll 24 = .ok (.iconst 1, 1) := by decide +kernel
theorem dX3_readsAll_25 : decode cX3_readsAll 25 = .ok (.goto 4, 3) := by decide +kernel
theorem dX3_readsAll_28 : decode cX3_readsAll 28 = .ok (.iconst 0, 1) := by decide +kernel
theorem dX3_readsAll_29 : decode cX3_readsAll 29 = .ok (.ireturn, 1) := by decide +kernel
theorem dX3_place_0 : decode cX3_place 0 = .ok (.aload_n 0, 1) := by decide +kernel
theorem dX3_place_1 : decode cX3_place 1 = .ok (.getfield 33, 3) := by decide +kernel
theorem dX3_place_4 : decode cX3_place 4 = .ok (.ireturn, 1) := by decide +kernel
theorem dX3_law_0 : decode cX3_law 0 = .ok (.new 36, 3) := by decide +kernel
theorem dX3_law_3 : decode cX3_law 3 = .ok (.dup, 1) := by decide +kernel
theorem dX3_law_4 : decode cX3_law 4 = .ok (.aload_n 0, 1) := by decide +kernel
theorem dX3_law_5 : decode cX3_law 5 = .ok (.getfield 22, 3) := by decide +kernel
theorem dX3_law_8 : decode cX3_law 8 = .ok (.aload_n 0, 1) := by decide +kernel
theorem dX3_law_9 : decode cX3_law 9 = .ok (.getfield 38, 3) := by decide +kernel
theorem dX3_law_12 : decode cX3_law 12 = .ok (.invokestatic 41, 3) := by decide +kernel
theorem dX3_law_15 : decode cX3_law 15 = .ok (.invokespecial 47, 3) := by decide +kernel
theorem dX3_law_18 : decode cX3_law 18 = .ok (.areturn, 1) := by decide +kernel
theorem dX3_readJoined_0 : decode cX3_readJoined 0 = .ok (.iload_n 1, 1) := by decide +kernel
theorem dX3_readJoined_1 : decode cX3_readJoined 1 = .ok (.iconst 5, 1) := by decide +kernel
theorem dX3_readJoined_2 : decode cX3_readJoined 2 = .ok (.if_icmp .lt 9, 3) := by decide +kernel
theorem dX3_readJoined_5 : decode cX3_readJoined 5 = .ok (.aload_n 0, 1) := by decide +kernel
theorem dX3_readJoined_6 : decode cX3_readJoined 6 = .ok (.iload_n 2, 1) := by decide +kernel
theorem dX3_readJoined_7 : decode cX3_readJoined 7 = .ok (.invokevirtual 50, 3) := by decide +kernel
theorem dX3_readJoined_10 : decode cX3_readJoined 10 = .ok (.return_, 1) := by decide +kernel
theorem dX3_readJoined_11 : decode cX3_readJoined 11 = .ok (.aload_n 0, 1) := by decide +kernel
theorem dX3_readJoined_12 : decode cX3_readJoined 12 = .ok (.iload_n 1, 1) := by decide +kernel
theorem dX3_readJoined_13 : decode cX3_readJoined 13 = .ok (.iconst 1, 1) := by decide +kernel
theorem dX3_readJoined_14 : decode cX3_readJoined 14 = .ok (.iadd, 1) := by decide +kernel
theorem dX3_readJoined_15 : decode cX3_readJoined 15 = .ok (.iload_n 2, 1) := by decide +kernel
theorem dX3_readJoined_16 : decode cX3_readJoined 16 = .ok (.invokevirtual 25, 3) := by decide +kernel
theorem dX3_readJoined_19 : decode cX3_readJoined 19 = .ok (.iload_n 1, 1) := by decide +kernel
theorem dX3_readJoined_20 : decode cX3_readJoined 20 = .ok (.iconst 2, 1) := by decide +kernel
theorem dX3_readJoined_21 : decode cX3_readJoined 21 = .ok (.if_icmp .ne 7, 3) := by decide +kernel
theorem dX3_readJoined_24 : decode cX3_readJoined 24 = .ok (.iconst 1, 1) := by decide +kernel
theorem dX3_readJoined_25 : decode cX3_readJoined 25 = .ok (.goto 7, 3) := by decide +kernel
theorem dX3_readJoined_28 : decode cX3_readJoined 28 = .ok (.aload_n 0, 1) := by decide +kernel
theorem dX3_readJoined_29 : decode cX3_readJoined 29 = .ok (.getfield 15, 3) := by decide +kernel
theorem dX3_readJoined_32 : decode cX3_readJoined 32 = .ok (.istore_n 3, 1) := by decide +kernel
theorem dX3_readJoined_33 : decode cX3_readJoined 33 = .ok (.iload_n 3, 1) := by decide +kernel
theorem dX3_readJoined_34 : decode cX3_readJoined 34 = .ok (.istore 4, 2) := by decide +kernel
theorem dX3_readJoined_36 : decode cX3_readJoined 36 = .ok (.iload 4, 2) := by decide +kernel
theorem dX3_readJoined_38 : decode cX3_readJoined 38 = .ok (.ifCond .le 52, 3) := by decide +kernel
theorem dX3_readJoined_41 : decode cX3_readJoined 41 = .ok (.aload_n 0, 1) := by decide +kernel
theorem dX3_readJoined_42 : decode cX3_readJoined 42 = .ok (.iload_n 1, 1) := by decide +kernel
theorem dX3_readJoined_43 : decode cX3_readJoined 43 = .ok (.invokevirtual 54, 3) := by decide +kernel
theorem dX3_readJoined_46 : decode cX3_readJoined 46 = .ok (.ifCond .eq 44, 3) := by decide +kernel
theorem dX3_readJoined_49 : decode cX3_readJoined 49 = .ok (.aload_n 0, 1) := by decide +kernel
theorem dX3_readJoined_50 : decode cX3_readJoined 50 = .ok (.getfield 9, 3) := by decide +kernel
theorem dX3_readJoined_53 : decode cX3_readJoined 53 = .ok (.aload_n 0, 1) := by decide +kernel
theorem dX3_readJoined_54 : decode cX3_readJoined 54 = .ok (.getfield 33, 3) := by decide +kernel
theorem dX3_readJoined_57 : decode cX3_readJoined 57 = .ok (.iaload, 1) := by decide +kernel
theorem dX3_readJoined_58 : decode cX3_readJoined 58 = .ok (.istore 5, 2) := by decide +kernel
theorem dX3_readJoined_60 : decode cX3_readJoined 60 = .ok (.aload_n 0, 1) := by decide +kernel
theorem dX3_readJoined_61 : decode cX3_readJoined 61 = .ok (.dup, 1) := by decide +kernel
theorem dX3_readJoined_62 : decode cX3_readJoined 62 = .ok (.getfield 33, 3) := by decide +kernel
theorem dX3_readJoined_65 : decode cX3_readJoined 65 = .ok (.iconst 1, 1) := by decide +kernel
theorem dX3_readJoined_66 : decode cX3_readJoined 66 = .ok (.iadd, 1) := by decide +kernel
theorem dX3_readJoined_67 : decode cX3_readJoined 67 = .ok (.putfield 33, 3) := by decide +kernel
theorem dX3_readJoined_70 : decode cX3_readJoined 70 = .ok (.aload_n 0, 1) := by decide +kernel
theorem dX3_readJoined_71 : decode cX3_readJoined 71 = .ok (.iload_n 1, 1) := by decide +kernel
theorem dX3_readJoined_72 : decode cX3_readJoined 72 = .ok (.iconst 1, 1) := by decide +kernel
theorem dX3_readJoined_73 : decode cX3_readJoined 73 = .ok (.iadd, 1) := by decide +kernel
theorem dX3_readJoined_74 : decode cX3_readJoined 74 = .ok (.iload_n 2, 1) := by decide +kernel
theorem dX3_readJoined_75 : decode cX3_readJoined 75 = .ok (.invokevirtual 25, 3) := by decide +kernel
theorem dX3_readJoined_78 : decode cX3_readJoined 78 = .ok (.aload_n 0, 1) := by decide +kernel
theorem dX3_readJoined_79 : decode cX3_readJoined 79 = .ok (.iload 5, 2) := by decide +kernel
theorem dX3_readJoined_81 : decode cX3_readJoined 81 = .ok (.invokevirtual 58, 3) := by decide +kernel
theorem dX3_readJoined_84 : decode cX3_readJoined 84 = .ok (.iinc 4 (-1), 3) := by decide +kernel
theorem dX3_readJoined_87 : decode cX3_readJoined 87 = .ok (.goto (-51), 3) := by decide +kernel
theorem dX3_readJoined_90 : decode cX3_readJoined 90 = .ok (.return_, 1) := by decide +kernel
theorem dX3_joinsAt_0 : decode cX3_joinsAt 0 = .ok (.aload_n 0, 1) := by decide +kernel
theorem dX3_joinsAt_1 : decode cX3_joinsAt 1 = .ok (.getfield 29, 3) := by decide +kernel
theorem dX3_joinsAt_4 : decode cX3_joinsAt 4 = .ok (.ifCond .ne 34, 3) := by decide +kernel
theorem dX3_joinsAt_7 : decode cX3_joinsAt 7 = .ok (.aload_n 0, 1) := by decide +kernel
theorem dX3_joinsAt_8 : decode cX3_joinsAt 8 = .ok (.getfield 33, 3) := by decide +kernel
theorem dX3_joinsAt_11 : decode cX3_joinsAt 11 = .ok (.aload_n 0, 1) := by decide +kernel
theorem dX3_joinsAt_12 : decode cX3_joinsAt 12 = .ok (.getfield 15, 3) := by decide +kernel
theorem dX3_joinsAt_15 : decode cX3_joinsAt 15 = .ok (.if_icmp .ge 23, 3) := by decide +kernel
theorem dX3_joinsAt_18 : decode cX3_joinsAt 18 = .ok (.aload_n 0, 1) := by decide +kernel
theorem dX3_joinsAt_19 : decode cX3_joinsAt 19 = .ok (.getfield 9, 3) := by decide +kernel
theorem dX3_joinsAt_22 : decode cX3_joinsAt 22 = .ok (.aload_n 0, 1) := by decide +kernel
theorem dX3_joinsAt_23 : decode cX3_joinsAt 23 = .ok (.getfield 33, 3) := by decide +kernel
theorem dX3_joinsAt_26 : decode cX3_joinsAt 26 = .ok (.iaload, 1) := by decide +kernel
theorem dX3_joinsAt_27 : decode cX3_joinsAt 27 = .ok (.invokestatic 61, 3) := by decide +kernel
theorem dX3_joinsAt_30 : decode cX3_joinsAt 30 = .ok (.iload_n 1, 1) := by decide +kernel
theorem dX3_joinsAt_31 : decode cX3_joinsAt 31 = .ok (.if_icmp .ne 7, 3) := by decide +kernel
theorem dX3_joinsAt_34 : decode cX3_joinsAt 34 = .ok (.iconst 1, 1) := by decide +kernel
theorem dX3_joinsAt_35 : decode cX3_joinsAt 35 = .ok (.goto 4, 3) := by decide +kernel
theorem dX3_joinsAt_38 : decode cX3_joinsAt 38 = .ok (.iconst 0, 1) := by decide +kernel
theorem dX3_joinsAt_39 : decode cX3_joinsAt 39 = .ok (.ireturn, 1) := by decide +kernel
theorem dX3_levelOf_0 : decode cX3_levelOf 0 = .ok (.iload_n 0, 1) := by decide +kernel
theorem dX3_levelOf_1 : decode cX3_levelOf 1 = .ok (.lookupswitch 101 #[(37, 99), (38, 93), (42, 99), (43, 97), (45, 97), (47, 99), (60, 95), (61, 95), (62, 95), (124, 91)], 91) := by decide +kernel
theorem dX3_levelOf_92 : decode cX3_levelOf 92 = .ok (.iconst 0, 1) := by decide +kernel
theorem dX3_levelOf_93 : decode cX3_levelOf 93 = .ok (.ireturn, 1) := by decide +kernel
theorem dX3_levelOf_94 : decode cX3_levelOf 94 = .ok (.iconst 1, 1) := by decide +kernel
theorem dX3_levelOf_95 : decode cX3_levelOf 95 = .ok (.ireturn, 1) := by decide +kernel
theorem dX3_levelOf_96 : decode cX3_levelOf 96 = .ok (.iconst 2, 1) := by decide +kernel
theorem dX3_levelOf_97 : decode cX3_levelOf 97 = .ok (.ireturn, 1) := by decide +kernel
theorem dX3_levelOf_98 : decode cX3_levelOf 98 = .ok (.iconst 3, 1) := by decide +kernel
theorem dX3_levelOf_99 : decode cX3_levelOf 99 = .ok (.ireturn, 1) := by decide +kernel
theorem dX3_levelOf_100 : decode cX3_levelOf 100 = .ok (.iconst 4, 1) := by decide +kernel
theorem dX3_levelOf_101 : decode cX3_levelOf 101 = .ok (.ireturn, 1) := by decide +kernel
theorem dX3_levelOf_102 : decode cX3_levelOf 102 = .ok (.iconst (-1), 1) := by decide +kernel
theorem dX3_levelOf_103 : decode cX3_levelOf 103 = .ok (.ireturn, 1) := by decide +kernel
theorem dX3_readOne_0 : decode cX3_readOne 0 = .ok (.aload_n 0, 1) := by decide +kernel
theorem dX3_readOne_1 : decode cX3_readOne 1 = .ok (.invokevirtual 65, 3) := by decide +kernel
theorem dX3_readOne_4 : decode cX3_readOne 4 = .ok (.ifCond .eq 10, 3) := by decide +kernel
theorem dX3_readOne_7 : decode cX3_readOne 7 = .ok (.aload_n 0, 1) := by decide +kernel
theorem dX3_readOne_8 : decode cX3_readOne 8 = .ok (.invokevirtual 69, 3) := by decide +kernel
theorem dX3_readOne_11 : decode cX3_readOne 11 = .ok (.goto 144, 3) := by decide +kernel
theorem dX3_readOne_14 : decode cX3_readOne 14 = .ok (.aload_n 0, 1) := by decide +kernel
theorem dX3_readOne_15 : decode cX3_readOne 15 = .ok (.getfield 33, 3) := by decide +kernel
theorem dX3_readOne_18 : decode cX3_readOne 18 = .ok (.aload_n 0, 1) := by decide +kernel
theorem dX3_readOne_19 : decode cX3_readOne 19 = .ok (.getfield 15, 3) := by decide +kernel
theorem dX3_readOne_22 : decode cX3_readOne 22 = .ok (.if_icmp .ge 49, 3) := by decide +kernel
theorem dX3_readOne_25 : decode cX3_readOne 25 = .ok (.aload_n 0, 1) := by decide +kernel
theorem dX3_readOne_26 : decode cX3_readOne 26 = .ok (.aload_n 0, 1) := by decide +kernel
theorem dX3_readOne_27 : decode cX3_readOne 27 = .ok (.getfield 9, 3) := by decide +kernel
theorem dX3_readOne_30 : decode cX3_readOne 30 = .ok (.aload_n 0, 1) := by decide +kernel
theorem dX3_readOne_31 : decode cX3_readOne 31 = .ok (.getfield 33, 3) := by decide +kernel
theorem dX3_readOne_34 : decode cX3_readOne 34 = .ok (.iaload, 1) := by decide +kernel
theorem dX3_readOne_35 : decode cX3_readOne 35 = .ok (.invokevirtual 72, 3) := by decide +kernel
theorem dX3_readOne_38 : decode cX3_readOne 38 = .ok (.ifCond .lt 33, 3) := by decide +kernel
theorem dX3_readOne_41 : decode cX3_readOne 41 = .ok (.aload_n 0, 1) := by decide +kernel
theorem dX3_readOne_42 : decode cX3_readOne 42 = .ok (.aload_n 0, 1) := by decide +kernel
theorem dX3_readOne_43 : decode cX3_readOne 43 = .ok (.aload_n 0, 1) := by decide +kernel
theorem dX3_readOne_44 : decode cX3_readOne 44 = .ok (.getfield 9, 3) := by decide +kernel
theorem dX3_readOne_47 : decode cX3_readOne 47 = .ok (.aload_n 0, 1) := by decide +kernel
theorem dX3_readOne_48 : decode cX3_readOne 48 = .ok (.getfield 33, 3) := by decide +kernel
theorem dX3_readOne_51 : decode cX3_readOne 51 = .ok (.iaload, 1) := by decide +kernel
theorem dX3_readOne_52 : decode cX3_readOne 52 = .ok (.invokevirtual 72, 3) := by decide +kernel
theorem dX3_readOne_55 : decode cX3_readOne 55 = .ok (.invokevirtual 58, 3) := by decide +kernel
theorem dX3_readOne_58 : decode cX3_readOne 58 = .ok (.aload_n 0, 1) := by decide +kernel
theorem dX3_readOne_59 : decode cX3_readOne 59 = .ok (.dup, 1) := by decide +kernel
theorem dX3_readOne_60 : decode cX3_readOne 60 = .ok (.getfield 33, 3) := by decide +kernel
theorem dX3_readOne_63 : decode cX3_readOne 63 = .ok (.iconst 1, 1) := by decide +kernel
theorem dX3_readOne_64 : decode cX3_readOne 64 = .ok (.iadd, 1) := by decide +kernel
theorem dX3_readOne_65 : decode cX3_readOne 65 = .ok (.putfield 33, 3) := by decide +kernel
theorem dX3_readOne_68 : decode cX3_readOne 68 = .ok (.goto 87, 3) := by decide +kernel
theorem dX3_readOne_71 : decode cX3_readOne 71 = .ok (.aload_n 0, 1) := by decide +kernel
theorem dX3_readOne_72 : decode cX3_readOne 72 = .ok (.bipush 33, 2) := by decide +kernel
theorem dX3_readOne_74 : decode cX3_readOne 74 = .ok (.invokevirtual 75, 3) := by decide +kernel
theorem dX3_readOne_77 : decode cX3_readOne 77 = .ok (.ifCond .eq 34, 3) := by decide +kernel
theorem dX3_readOne_80 : decode cX3_readOne 80 = .ok (.iload_n 1, 1) := by decide +kernel
theorem dX3_readOne_81 : decode cX3_readOne 81 = .ok (.iconst 5, 1) := by decide +kernel
theorem dX3_readOne_82 : decode cX3_readOne 82 = .ok (.if_icmp .ge 29, 3) := by decide +kernel
theorem dX3_readOne_85 : decode cX3_readOne 85 = .ok (.aload_n 0, 1) := by decide +kernel
theorem dX3_readOne_86 : decode cX3_readOne 86 = .ok (.dup, 1) := by decide +kernel
theorem dX3_readOne_87 : decode cX3_readOne 87 = .ok (.getfield 33, 3) := by decide +kernel
theorem dX3_readOne_90 : decode cX3_readOne 90 = .ok (.iconst 1, 1) := by decide +kernel
theorem dX3_readOne_91 : decode cX3_readOne 91 = .ok (.iadd, 1) := by decide +kernel
theorem dX3_readOne_92 : decode cX3_readOne 92 = .ok (.putfield 33, 3) := by decide +kernel
theorem dX3_readOne_95 : decode cX3_readOne 95 = .ok (.aload_n 0, 1) := by decide +kernel
theorem dX3_readOne_96 : decode cX3_readOne 96 = .ok (.iload_n 1, 1) := by decide +kernel
theorem dX3_readOne_97 : decode cX3_readOne 97 = .ok (.iconst 1, 1) := by decide +kernel
theorem dX3_readOne_98 : decode cX3_readOne 98 = .ok (.iadd, 1) := by decide +kernel
theorem dX3_readOne_99 : decode cX3_readOne 99 = .ok (.invokevirtual 50, 3) := by decide +kernel
theorem dX3_readOne_102 : decode cX3_readOne 102 = .ok (.aload_n 0, 1) := by decide +kernel
theorem dX3_readOne_103 : decode cX3_readOne 103 = .ok (.bipush 33, 2) := by decide +kernel
theorem dX3_readOne_105 : decode cX3_readOne 105 = .ok (.invokevirtual 58, 3) := by decide +kernel
theorem dX3_readOne_108 : decode cX3_readOne 108 = .ok (.goto 47, 3) := by decide +kernel
theorem dX3_readOne_111 : decode cX3_readOne 111 = .ok (.aload_n 0, 1) := by decide +kernel
theorem dX3_readOne_112 : decode cX3_readOne 112 = .ok (.bipush 40, 2) := by decide +kernel
theorem dX3_readOne_114 : decode cX3_readOne 114 = .ok (.invokevirtual 75, 3) := by decide +kernel
theorem dX3_readOne_117 : decode cX3_readOne 117 = .ok (.ifCond .eq 33, 3) := by decide +kernel
theorem dX3_readOne_120 : decode cX3_readOne 120 = .ok (.iload_n 1, 1) := by decide +kernel
theorem dX3_readOne_121 : decode cX3_readOne 121 = .ok (.iconst 5, 1) := by decide +kernel
theorem dX3_readOne_122 : decode cX3_readOne 122 = .ok (.if_icmp .ge 28, 3) := by decide +kernel
theorem dX3_readOne_125 : decode cX3_readOne 125 = .ok (.aload_n 0, 1) := by decide +kernel
theorem dX3_readOne_126 : decode cX3_readOne 126 = .ok (.dup, 1) := by decide +kernel
theorem dX3_readOne_127 : decode cX3_readOne 127 = .ok (.getfield 33, 3) := by decide +kernel
theorem dX3_readOne_130 : decode cX3_readOne 130 = .ok (.iconst 1, 1) := by decide +kernel
theorem dX3_readOne_131 : decode cX3_readOne 131 = .ok (.iadd, 1) := by decide +kernel
theorem dX3_readOne_132 : decode cX3_readOne 132 = .ok (.putfield 33, 3) := by decide +kernel
theorem dX3_readOne_135 : decode cX3_readOne 135 = .ok (.aload_n 0, 1) := by decide +kernel
theorem dX3_readOne_136 : decode cX3_readOne 136 = .ok (.iconst 0, 1) := by decide +kernel
theorem dX3_readOne_137 : decode cX3_readOne 137 = .ok (.iload_n 1, 1) := by decide +kernel
theorem dX3_readOne_138 : decode cX3_readOne 138 = .ok (.iconst 1, 1) := by decide +kernel
theorem dX3_readOne_139 : decode cX3_readOne 139 = .ok (.iadd, 1) := by decide +kernel
theorem dX3_readOne_140 : decode cX3_readOne 140 = .ok (.invokevirtual 25, 3) := by decide +kernel
theorem dX3_readOne_143 : decode cX3_readOne 143 = .ok (.aload_n 0, 1) := by decide +kernel
theorem dX3_readOne_144 : decode cX3_readOne 144 = .ok (.invokevirtual 78, 3) := by decide +kernel
theorem dX3_readOne_147 : decode cX3_readOne 147 = .ok (.goto 8, 3) := by decide +kernel
theorem dX3_readOne_150 : decode cX3_readOne 150 = .ok (.aload_n 0, 1) := by decide +kernel
theorem dX3_readOne_151 : decode cX3_readOne 151 = .ok (.iconst 1, 1) := by decide +kernel
theorem dX3_readOne_152 : decode cX3_readOne 152 = .ok (.putfield 29, 3) := by decide +kernel
theorem dX3_readOne_155 : decode cX3_readOne 155 = .ok (.return_, 1) := by decide +kernel
theorem dX3_close_0 : decode cX3_close 0 = .ok (.aload_n 0, 1) := by decide +kernel
theorem dX3_close_1 : decode cX3_close 1 = .ok (.bipush 41, 2) := by decide +kernel
theorem dX3_close_3 : decode cX3_close 3 = .ok (.invokevirtual 75, 3) := by decide +kernel
theorem dX3_close_6 : decode cX3_close 6 = .ok (.ifCond .eq 16, 3) := by decide +kernel
theorem dX3_close_9 : decode cX3_close 9 = .ok (.aload_n 0, 1) := by decide +kernel
theorem dX3_close_10 : decode cX3_close 10 = .ok (.dup, 1) := by decide +kernel
theorem dX3_close_11 : decode cX3_close 11 = .ok (.getfield 33, 3) := by decide +kernel
theorem dX3_close_14 : decode cX3_close 14 = .ok (.iconst 1, 1) := by decide +kernel
theorem dX3_close_15 : decode cX3_close 15 = .ok (.iadd, 1) := by decide +kernel
theorem dX3_close_16 : decode cX3_close 16 = .ok (.putfield 33, 3) := by decide +kernel
theorem dX3_close_19 : decode cX3_close 19 = .ok (.goto 8, 3) := by decide +kernel
theorem dX3_close_22 : decode cX3_close 22 = .ok (.aload_n 0, 1) := by decide +kernel
theorem dX3_close_23 : decode cX3_close 23 = .ok (.iconst 1, 1) := by decide +kernel
theorem dX3_close_24 : decode cX3_close 24 = .ok (.putfield 29, 3) := by decide +kernel
theorem dX3_close_27 : decode cX3_close 27 = .ok (.return_, 1) := by decide +kernel
theorem dX3_readNumber_0 : decode cX3_readNumber 0 = .ok (.iconst 0, 1) := by decide +kernel
theorem dX3_readNumber_1 : decode cX3_readNumber 1 = .ok (.istore_n 1, 1) := by decide +kernel
theorem dX3_readNumber_2 : decode cX3_readNumber 2 = .ok (.iconst 0, 1) := by decide +kernel
theorem dX3_readNumber_3 : decode cX3_readNumber 3 = .ok (.istore_n 2, 1) := by decide +kernel
theorem dX3_readNumber_4 : decode cX3_readNumber 4 = .ok (.iload_n 2, 1) := by decide +kernel
theorem dX3_readNumber_5 : decode cX3_readNumber 5 = .ok (.iconst 4, 1) := by decide +kernel
theorem dX3_readNumber_6 : decode cX3_readNumber 6 = .ok (.if_icmp .ge 44, 3) := by decide +kernel
theorem dX3_readNumber_9 : decode cX3_readNumber 9 = .ok (.aload_n 0, 1) := by decide +kernel
theorem dX3_readNumber_10 : decode cX3_readNumber 10 = .ok (.invokevirtual 65, 3) := by decide +kernel
theorem dX3_readNumber_13 : decode cX3_readNumber 13 = .ok (.ifCond .eq 37, 3) := by decide +kernel
theorem dX3_readNumber_16 : decode cX3_readNumber 16 = .ok (.iload_n 1, 1) := by decide +kernel
theorem dX3_readNumber_17 : decode cX3_readNumber 17 = .ok (.bipush 10, 2) := by decide +kernel
theorem dX3_readNumber_19 : decode cX3_readNumber 19 = .ok (.imul, 1) := by decide +kernel
theorem dX3_readNumber_20 : decode cX3_readNumber 20 = .ok (.aload_n 0, 1) := by decide +kernel
theorem dX3_readNumber_21 : decode cX3_readNumber 21 = .ok (.getfield 9, 3) := by decide +kernel
theorem dX3_readNumber_24 : decode cX3_readNumber 24 = .ok (.aload_n 0, 1) := by decide +kernel
theorem dX3_readNumber_25 : decode cX3_readNumber 25 = .ok (.getfield 33, 3) := by decide +kernel
theorem dX3_readNumber_28 : decode cX3_readNumber 28 = .ok (.iaload, 1) := by decide +kernel
theorem dX3_readNumber_29 : decode cX3_readNumber 29 = .ok (.iadd, 1) := by decide +kernel
theorem dX3_readNumber_30 : decode cX3_readNumber 30 = .ok (.bipush 48, 2) := by decide +kernel
theorem dX3_readNumber_32 : decode cX3_readNumber 32 = .ok (.isub, 1) := by decide +kernel
theorem dX3_readNumber_33 : decode cX3_readNumber 33 = .ok (.istore_n 1, 1) := by decide +kernel
theorem dX3_readNumber_34 : decode cX3_readNumber 34 = .ok (.aload_n 0, 1) := by decide +kernel
theorem dX3_readNumber_35 : decode cX3_readNumber 35 = .ok (.dup, 1) := by decide +kernel
theorem dX3_readNumber_36 : decode cX3_readNumber 36 = .ok (.getfield 33, 3) := by decide +kernel
theorem dX3_readNumber_39 : decode cX3_readNumber 39 = .ok (.iconst 1, 1) := by decide +kernel
theorem dX3_readNumber_40 : decode cX3_readNumber 40 = .ok (.iadd, 1) := by decide +kernel
theorem dX3_readNumber_41 : decode cX3_readNumber 41 = .ok (.putfield 33, 3) := by decide +kernel
theorem dX3_readNumber_44 : decode cX3_readNumber 44 = .ok (.iinc 2 1, 3) := by decide +kernel
theorem dX3_readNumber_47 : decode cX3_readNumber 47 = .ok (.goto (-43), 3) := by decide +kernel
theorem dX3_readNumber_50 : decode cX3_readNumber 50 = .ok (.aload_n 0, 1) := by decide +kernel
theorem dX3_readNumber_51 : decode cX3_readNumber 51 = .ok (.sipush 256, 3) := by decide +kernel
theorem dX3_readNumber_54 : decode cX3_readNumber 54 = .ok (.iload_n 1, 1) := by decide +kernel
theorem dX3_readNumber_55 : decode cX3_readNumber 55 = .ok (.iadd, 1) := by decide +kernel
theorem dX3_readNumber_56 : decode cX3_readNumber 56 = .ok (.invokevirtual 58, 3) := by decide +kernel
theorem dX3_readNumber_59 : decode cX3_readNumber 59 = .ok (.return_, 1) := by decide +kernel
theorem dX3_nameOf_0 : decode cX3_nameOf 0 = .ok (.iload_n 1, 1) := by decide +kernel
theorem dX3_nameOf_1 : decode cX3_nameOf 1 = .ok (.bipush 109, 2) := by decide +kernel
theorem dX3_nameOf_3 : decode cX3_nameOf 3 = .ok (.if_icmp .ne 5, 3) := by decide +kernel
theorem dX3_nameOf_6 : decode cX3_nameOf 6 = .ok (.iconst 0, 1) := by decide +kernel
theorem dX3_nameOf_7 : decode cX3_nameOf 7 = .ok (.ireturn, 1) := by decide +kernel
theorem dX3_nameOf_8 : decode cX3_nameOf 8 = .ok (.iload_n 1, 1) := by decide +kernel
theorem dX3_nameOf_9 : decode cX3_nameOf 9 = .ok (.aload_n 0, 1) := by decide +kernel
theorem dX3_nameOf_10 : decode cX3_nameOf 10 = .ok (.getfield 19, 3) := by decide +kernel
theorem dX3_nameOf_13 : decode cX3_nameOf 13 = .ok (.iconst 1, 1) := by decide +kernel
theorem dX3_nameOf_14 : decode cX3_nameOf 14 = .ok (.if_icmp .ne 8, 3) := by decide +kernel
theorem dX3_nameOf_17 : decode cX3_nameOf 17 = .ok (.bipush 107, 2) := by decide +kernel
theorem dX3_nameOf_19 : decode cX3_nameOf 19 = .ok (.goto 5, 3) := by decide +kernel
theorem dX3_nameOf_22 : decode cX3_nameOf 22 = .ok (.bipush 116, 2) := by decide +kernel
theorem dX3_nameOf_24 : decode cX3_nameOf 24 = .ok (.if_icmp .ne 5, 3) := by decide +kernel
theorem dX3_nameOf_27 : decode cX3_nameOf 27 = .ok (.iconst 1, 1) := by decide +kernel
theorem dX3_nameOf_28 : decode cX3_nameOf 28 = .ok (.ireturn, 1) := by decide +kernel
theorem dX3_nameOf_29 : decode cX3_nameOf 29 = .ok (.iload_n 1, 1) := by decide +kernel
theorem dX3_nameOf_30 : decode cX3_nameOf 30 = .ok (.aload_n 0, 1) := by decide +kernel
theorem dX3_nameOf_31 : decode cX3_nameOf 31 = .ok (.getfield 19, 3) := by decide +kernel
theorem dX3_nameOf_34 : decode cX3_nameOf 34 = .ok (.iconst 1, 1) := by decide +kernel
theorem dX3_nameOf_35 : decode cX3_nameOf 35 = .ok (.if_icmp .ne 8, 3) := by decide +kernel
theorem dX3_nameOf_38 : decode cX3_nameOf 38 = .ok (.bipush 98, 2) := by decide +kernel
theorem dX3_nameOf_40 : decode cX3_nameOf 40 = .ok (.goto 5, 3) := by decide +kernel
theorem dX3_nameOf_43 : decode cX3_nameOf 43 = .ok (.bipush 112, 2) := by decide +kernel
theorem dX3_nameOf_45 : decode cX3_nameOf 45 = .ok (.if_icmp .ne 7, 3) := by decide +kernel
theorem dX3_nameOf_48 : decode cX3_nameOf 48 = .ok (.iconst 2, 1) := by decide +kernel
theorem dX3_nameOf_49 : decode cX3_nameOf 49 = .ok (.goto 4, 3) := by decide +kernel
theorem dX3_nameOf_52 : decode cX3_nameOf 52 = .ok (.iconst (-1), 1) := by decide +kernel
theorem dX3_nameOf_53 : decode cX3_nameOf 53 = .ok (.ireturn, 1) := by decide +kernel
theorem dX3_seesDigit_0 : decode cX3_seesDigit 0 = .ok (.aload_n 0, 1) := by decide +kernel
theorem dX3_seesDigit_1 : decode cX3_seesDigit 1 = .ok (.getfield 29, 3) := by decide +kernel
theorem dX3_seesDigit_4 : decode cX3_seesDigit 4 = .ok (.ifCond .ne 46, 3) := by decide +kernel
theorem dX3_seesDigit_7 : decode cX3_seesDigit 7 = .ok (.aload_n 0, 1) := by decide +kernel
theorem dX3_seesDigit_8 : decode cX3_seesDigit 8 = .ok (.getfield 33, 3) := by decide +kernel
theorem dX3_seesDigit_11 : decode cX3_seesDigit 11 = .ok (.aload_n 0, 1) := by decide +kernel
theorem dX3_seesDigit_12 : decode cX3_seesDigit 12 = .ok (.getfield 15, 3) := by decide +kernel
theorem dX3_seesDigit_15 : decode cX3_seesDigit 15 = .ok (.if_icmp .ge 35, 3) := by decide +kernel
theorem dX3_seesDigit_18 : decode cX3_seesDigit 18 = .ok (.aload_n 0, 1) := by decide +kernel
theorem dX3_seesDigit_19 : decode cX3_seesDigit 19 = .ok (.getfield 9, 3) := by decide +kernel
theorem dX3_seesDigit_22 : decode cX3_seesDigit 22 = .ok (.aload_n 0, 1) := by decide +kernel
theorem dX3_seesDigit_23 : decode cX3_seesDigit 23 = .ok (.getfield 33, 3) := by decide +kernel
theorem dX3_seesDigit_26 : decode cX3_seesDigit 26 = .ok (.iaload, 1) := by decide +kernel
theorem dX3_seesDigit_27 : decode cX3_seesDigit 27 = .ok (.bipush 48, 2) := by decide +kernel
theorem dX3_seesDigit_29 : decode cX3_seesDigit 29 = .ok (.if_icmp .lt 21, 3) := by decide +kernel
theorem dX3_seesDigit_32 : decode cX3_seesDigit 32 = .ok (.aload_n 0, 1) := by decide +kernel
theorem dX3_seesDigit_33 : decode cX3_seesDigit 33 = .ok (.getfield 9, 3) := by decide +kernel
theorem dX3_seesDigit_36 : decode cX3_seesDigit 36 = .ok (.aload_n 0, 1) := by decide +kernel
theorem dX3_seesDigit_37 : decode cX3_seesDigit 37 = .ok (.getfield 33, 3) := by decide +kernel
theorem dX3_seesDigit_40 : decode cX3_seesDigit 40 = .ok (.iaload, 1) := by decide +kernel
theorem dX3_seesDigit_41 : decode cX3_seesDigit 41 = .ok (.bipush 57, 2) := by decide +kernel
theorem dX3_seesDigit_43 : decode cX3_seesDigit 43 = .ok (.if_icmp .gt 7, 3) := by decide +kernel
theorem dX3_seesDigit_46 : decode cX3_seesDigit 46 = .ok (.iconst 1, 1) := by decide +kernel
theorem dX3_seesDigit_47 : decode cX3_seesDigit 47 = .ok (.goto 4, 3) := by decide +kernel
theorem dX3_seesDigit_50 : decode cX3_seesDigit 50 = .ok (.iconst 0, 1) := by decide +kernel
theorem dX3_seesDigit_51 : decode cX3_seesDigit 51 = .ok (.ireturn, 1) := by decide +kernel
theorem dX3_sees_0 : decode cX3_sees 0 = .ok (.aload_n 0, 1) := by decide +kernel
theorem dX3_sees_1 : decode cX3_sees 1 = .ok (.getfield 29, 3) := by decide +kernel
theorem dX3_sees_4 : decode cX3_sees 4 = .ok (.ifCond .ne 31, 3) := by decide +kernel
theorem dX3_sees_7 : decode cX3_sees 7 = .ok (.aload_n 0, 1) := by decide +kernel
theorem dX3_sees_8 : decode cX3_sees 8 = .ok (.getfield 33, 3) := by decide +kernel
theorem dX3_sees_11 : decode cX3_sees 11 = .ok (.aload_n 0, 1) := by decide +kernel
theorem dX3_sees_12 : decode cX3_sees 12 = .ok (.getfield 15, 3) := by decide +kernel
theorem dX3_sees_15 : decode cX3_sees 15 = .ok (.if_icmp .ge 20, 3) := by decide +kernel
theorem dX3_sees_18 : decode cX3_sees 18 = .ok (.aload_n 0, 1) := by decide +kernel
theorem dX3_sees_19 : decode cX3_sees 19 = .ok (.getfield 9, 3) := by decide +kernel
theorem dX3_sees_22 : decode cX3_sees 22 = .ok (.aload_n 0, 1) := by decide +kernel
theorem dX3_sees_23 : decode cX3_sees 23 = .ok (.getfield 33, 3) := by decide +kernel
theorem dX3_sees_26 : decode cX3_sees 26 = .ok (.iaload, 1) := by decide +kernel
theorem dX3_sees_27 : decode cX3_sees 27 = .ok (.iload_n 1, 1) := by decide +kernel
theorem dX3_sees_28 : decode cX3_sees 28 = .ok (.if_icmp .ne 7, 3) := by decide +kernel
theorem dX3_sees_31 : decode cX3_sees 31 = .ok (.iconst 1, 1) := by decide +kernel
theorem dX3_sees_32 : decode cX3_sees 32 = .ok (.goto 4, 3) := by decide +kernel
theorem dX3_sees_35 : decode cX3_sees 35 = .ok (.iconst 0, 1) := by decide +kernel
theorem dX3_sees_36 : decode cX3_sees 36 = .ok (.ireturn, 1) := by decide +kernel
theorem dX3_write_0 : decode cX3_write 0 = .ok (.aload_n 0, 1) := by decide +kernel
theorem dX3_write_1 : decode cX3_write 1 = .ok (.getfield 38, 3) := by decide +kernel
theorem dX3_write_4 : decode cX3_write 4 = .ok (.aload_n 0, 1) := by decide +kernel
theorem dX3_write_5 : decode cX3_write 5 = .ok (.getfield 22, 3) := by decide +kernel
theorem dX3_write_8 : decode cX3_write 8 = .ok (.arraylength, 1) := by decide +kernel
theorem dX3_write_9 : decode cX3_write 9 = .ok (.if_icmp .ge 23, 3) := by decide +kernel
theorem dX3_write_12 : decode cX3_write 12 = .ok (.aload_n 0, 1) := by decide +kernel
theorem dX3_write_13 : decode cX3_write 13 = .ok (.getfield 22, 3) := by decide +kernel
theorem dX3_write_16 : decode cX3_write 16 = .ok (.aload_n 0, 1) := by decide +kernel
theorem dX3_write_17 : decode cX3_write 17 = .ok (.getfield 38, 3) := by decide +kernel
theorem dX3_write_20 : decode cX3_write 20 = .ok (.iload_n 1, 1) := by decide +kernel
theorem dX3_write_21 : decode cX3_write 21 = .ok (.iastore, 1) := by decide +kernel
theorem dX3_write_22 : decode cX3_write 22 = .ok (.aload_n 0, 1) := by decide +kernel
theorem dX3_write_23 : decode cX3_write 23 = .ok (.dup, 1) := by decide +kernel
theorem dX3_write_24 : decode cX3_write 24 = .ok (.getfield 38, 3) := by decide +kernel
theorem dX3_write_27 : decode cX3_write 27 = .ok (.iconst 1, 1) := by decide +kernel
theorem dX3_write_28 : decode cX3_write 28 = .ok (.iadd, 1) := by decide +kernel
theorem dX3_write_29 : decode cX3_write 29 = .ok (.putfield 38, 3) := by decide +kernel
theorem dX3_write_32 : decode cX3_write 32 = .ok (.return_, 1) := by decide +kernel
theorem dX4_init_0 : decode cX4_init 0 = .ok (.aload_n 0, 1) := by decide +kernel
theorem dX4_init_1 : decode cX4_init 1 = .ok (.invokespecial 1, 3) := by decide +kernel
theorem dX4_init_4 : decode cX4_init 4 = .ok (.aload_n 0, 1) := by decide +kernel
theorem dX4_init_5 : decode cX4_init 5 = .ok (.iconst 4, 1) := by decide +kernel
theorem dX4_init_6 : decode cX4_init 6 = .ok (.newarray .int, 2) := by decide +kernel
theorem dX4_init_8 : decode cX4_init 8 = .ok (.putfield 9, 3) := by decide +kernel
theorem dX4_init_11 : decode cX4_init 11 = .ok (.aload_n 0, 1) := by decide +kernel
theorem dX4_init_12 : decode cX4_init 12 = .ok (.iconst 4, 1) := by decide +kernel
theorem dX4_init_13 : decode cX4_init 13 = .ok (.newarray .int, 2) := by decide +kernel
theorem dX4_init_15 : decode cX4_init 15 = .ok (.putfield 13, 3) := by decide +kernel
theorem dX4_init_18 : decode cX4_init 18 = .ok (.aload_n 0, 1) := by decide +kernel
theorem dX4_init_19 : decode cX4_init 19 = .ok (.iconst 4, 1) := by decide +kernel
theorem dX4_init_20 : decode cX4_init 20 = .ok (.bipush 24, 2) := by decide +kernel
theorem dX4_init_22 : decode cX4_init 22 = .ok (.multianewarray 16 2, 4) := by decide +kernel
theorem dX4_init_26 : decode cX4_init 26 = .ok (.putfield 18, 3) := by decide +kernel
theorem dX4_init_29 : decode cX4_init 29 = .ok (.return_, 1) := by decide +kernel
theorem dX4_isOne_0 : decode cX4_isOne 0 = .ok (.iload_n 1, 1) := by decide +kernel
theorem dX4_isOne_1 : decode cX4_isOne 1 = .ok (.ifCond .lt 12, 3) := by decide +kernel
theorem dX4_isOne_4 : decode cX4_isOne 4 = .ok (.iload_n 1, 1) := by decide +kernel
theorem dX4_isOne_5 : decode cX4_isOne 5 = .ok (.iconst 4, 1) := by decide +kernel
theorem dX4_isOne_6 : decode cX4_isOne 6 = .ok (.if_icmp .ge 7, 3) := by decide +kernel
theorem dX4_isOne_9 : decode cX4_isOne 9 = .ok (.iconst 1, 1) := by decide +kernel
theorem dX4_isOne_10 : decode cX4_isOne 10 = .ok (.goto 4, 3) := by decide +kernel
theorem dX4_isOne_13 : decode cX4_isOne 13 = .ok (.iconst 0, 1) := by decide +kernel
theorem dX4_isOne_14 : decode cX4_isOne 14 = .ok (.ireturn, 1) := by decide +kernel
theorem dX4_isWidth_0 : decode cX4_isWidth 0 = .ok (.iload_n 1, 1) := by decide +kernel
theorem dX4_isWidth_1 : decode cX4_isWidth 1 = .ok (.ifCond .eq 21, 3) := by decide +kernel
theorem dX4_isWidth_4 : decode cX4_isWidth 4 = .ok (.iload_n 1, 1) := by decide +kernel
theorem dX4_isWidth_5 : decode cX4_isWidth 5 = .ok (.bipush 8, 2) := by decide +kernel
theorem dX4_isWidth_7 : decode cX4_isWidth 7 = .ok (.if_icmp .eq 15, 3) := by decide +kernel
theorem dX4_isWidth_10 : decode cX4_isWidth 10 = .ok (.iload_n 1, 1) := by decide +kernel
theorem dX4_isWidth_11 : decode cX4_isWidth 11 = .ok (.bipush 16, 2) := by decide +kernel
theorem dX4_isWidth_13 : decode cX4_isWidth 13 = .ok (.if_icmp .eq 9, 3) := by decide +kernel
theorem dX4_isWidth_16 : decode cX4_isWidth 16 = .ok (.iload_n 1, 1) := by decide +kernel
theorem dX4_isWidth_17 : decode cX4_isWidth 17 = .ok (.bipush 32, 2) := by decide +kernel
theorem dX4_isWidth_19 : decode cX4_isWidth 19 = .ok (.if_icmp .ne 7, 3) := by decide +kernel
theorem dX4_isWidth_22 : decode cX4_isWidth 22 = .ok (.iconst 1, 1) := by decide +kernel
theorem dX4_isWidth_23 : decode cX4_isWidth 23 = .ok (.goto 4, 3) := by decide +kernel
theorem dX4_isWidth_26 : decode cX4_isWidth 26 = .ok (.iconst 0, 1) := by decide +kernel
theorem dX4_isWidth_27 : decode cX4_isWidth 27 = .ok (.ireturn, 1) := by decide +kernel
theorem dX4_isMissing_0 : decode cX4_isMissing 0 = .ok (.aload_n 0, 1) := by decide +kernel
theorem dX4_isMissing_1 : decode cX4_isMissing 1 = .ok (.getfield 9, 3) := by decide +kernel
theorem dX4_isMissing_4 : decode cX4_isMissing 4 = .ok (.iload_n 1, 1) := by decide +kernel
theorem dX4_isMissing_5 : decode cX4_isMissing 5 = .ok (.iaload, 1) := by decide +kernel
theorem dX4_isMissing_6 : decode cX4_isMissing 6 = .ok (.ifCond .ne 7, 3) := by decide +kernel
theorem dX4_isMissing_9 : decode cX4_isMissing 9 = .ok (.iconst 1, 1) := by decide +kernel
theorem dX4_isMissing_10 : decode cX4_isMissing 10 = .ok (.goto 4, 3) := by decide +kernel
theorem dX4_isMissing_13 : decode cX4_isMissing 13 = .ok (.iconst 0, 1) := by decide +kernel
theorem dX4_isMissing_14 : decode cX4_isMissing 14 = .ok (.ireturn, 1) := by decide +kernel
theorem dX4_layOut_0 : decode cX4_layOut 0 = .ok (.aload_n 0, 1) := by decide +kernel
theorem dX4_layOut_1 : decode cX4_layOut 1 = .ok (.getfield 9, 3) := by decide +kernel
theorem dX4_layOut_4 : decode cX4_layOut 4 = .ok (.iload_n 1, 1) := by decide +kernel
theorem dX4_layOut_5 : decode cX4_layOut 5 = .ok (.iload_n 2, 1) := by decide +kernel
theorem dX4_layOut_6 : decode cX4_layOut 6 = .ok (.iastore, 1) := by decide +kernel
theorem dX4_layOut_7 : decode cX4_layOut 7 = .ok (.aload_n 0, 1) := by decide +kernel
theorem dX4_layOut_8 : decode cX4_layOut 8 = .ok (.getfield 13, 3) := by decide +kernel
theorem dX4_layOut_11 : decode cX4_layOut 11 = .ok (.iload_n 1, 1) := by decide +kernel
theorem dX4_layOut_12 : decode cX4_layOut 12 = .ok (.iload_n 3, 1) := by decide +kernel
theorem dX4_layOut_13 : decode cX4_layOut 13 = .ok (.iastore, 1) := by decide +kernel
theorem dX4_layOut_14 : decode cX4_layOut 14 = .ok (.aload_n 0, 1) := by decide +kernel
theorem dX4_layOut_15 : decode cX4_layOut 15 = .ok (.getfield 18, 3) := by decide +kernel
theorem dX4_layOut_18 : decode cX4_layOut 18 = .ok (.iload_n 1, 1) := by decide +kernel
theorem dX4_layOut_19 : decode cX4_layOut 19 = .ok (.aaload, 1) := by decide +kernel
theorem dX4_layOut_20 : decode cX4_layOut 20 = .ok (.iconst 0, 1) := by decide +kernel
theorem dX4_layOut_21 : decode cX4_layOut 21 = .ok (.invokestatic 21, 3) := by decide +kernel
theorem dX4_layOut_24 : decode cX4_layOut 24 = .ok (.return_, 1) := by decide +kernel
theorem dX4_write_0 : decode cX4_write 0 = .ok (.aload_n 0, 1) := by decide +kernel
theorem dX4_write_1 : decode cX4_write 1 = .ok (.getfield 9, 3) := by decide +kernel
theorem dX4_write_4 : decode cX4_write 4 = .ok (.iload_n 1, 1) := by decide +kernel
theorem dX4_write_5 : decode cX4_write 5 = .ok (.iaload, 1) := by decide +kernel
theorem dX4_write_6 : decode cX4_write 6 = .ok (.lookupswitch 52 #[(8, 26), (16, 39)], 26) := by decide +kernel
theorem dX4_write_32 : decode cX4_write 32 = .ok (.aload_n 0, 1) := by decide +kernel
theorem dX4_write_33 : decode cX4_write 33 = .ok (.getfield 18, 3) := by decide +kernel
theorem dX4_write_36 : decode cX4_write 36 = .ok (.iload_n 1, 1) := by decide +kernel
theorem dX4_write_37 : decode cX4_write 37 = .ok (.aaload, 1) := by decide +kernel
theorem dX4_write_38 : decode cX4_write 38 = .ok (.iload_n 2, 1) := by decide +kernel
theorem dX4_write_39 : decode cX4_write 39 = .ok (.iload_n 3, 1) := by decide +kernel
theorem dX4_write_40 : decode cX4_write 40 = .ok (.i2b, 1) := by decide +kernel
theorem dX4_write_41 : decode cX4_write 41 = .ok (.iastore, 1) := by decide +kernel
theorem dX4_write_42 : decode cX4_write 42 = .ok (.goto 25, 3) := by decide +kernel
theorem dX4_write_45 : decode cX4_write 45 = .ok (.aload_n 0, 1) := by decide +kernel
theorem dX4_write_46 : decode cX4_write 46 = .ok (.getfield 18, 3) := by decide +kernel
theorem dX4_write_49 : decode cX4_write 49 = .ok (.iload_n 1, 1) := by decide +kernel
theorem dX4_write_50 : decode cX4_write 50 = .ok (.aaload, 1) := by decide +kernel
theorem dX4_write_51 : decode cX4_write 51 = .ok (.iload_n 2, 1) := by decide +kernel
theorem dX4_write_52 : decode cX4_write 52 = .ok (.iload_n 3, 1) := by decide +kernel
theorem dX4_write_53 : decode cX4_write 53 = .ok (.i2s, 1) := by decide +kernel
theorem dX4_write_54 : decode cX4_write 54 = .ok (.iastore, 1) := by decide +kernel
theorem dX4_write_55 : decode cX4_write 55 = .ok (.goto 12, 3) := by decide +kernel
theorem dX4_write_58 : decode cX4_write 58 = .ok (.aload_n 0, 1) := by decide +kernel
theorem dX4_write_59 : decode cX4_write 59 = .ok (.getfield 18, 3) := by decide +kernel
theorem dX4_write_62 : decode cX4_write 62 = .ok (.iload_n 1, 1) := by decide +kernel
theorem dX4_write_63 : decode cX4_write 63 = .ok (.aaload, 1) := by decide +kernel
theorem dX4_write_64 : decode cX4_write 64 = .ok (.iload_n 2, 1) := by decide +kernel
theorem dX4_write_65 : decode cX4_write 65 = .ok (.iload_n 3, 1) := by decide +kernel
theorem dX4_write_66 : decode cX4_write 66 = .ok (.iastore, 1) := by decide +kernel
theorem dX4_write_67 : decode cX4_write 67 = .ok (.return_, 1) := by decide +kernel
theorem dX4_stand_0 : decode cX4_stand 0 = .ok (.iload_n 3, 1) := by decide +kernel
theorem dX4_stand_1 : decode cX4_stand 1 = .ok (.ifCond .lt 33, 3) := by decide +kernel
theorem dX4_stand_4 : decode cX4_stand 4 = .ok (.iload_n 2, 1) := by decide +kernel
theorem dX4_stand_5 : decode cX4_stand 5 = .ok (.ifCond .lt 29, 3) := by decide +kernel
theorem dX4_stand_8 : decode cX4_stand 8 = .ok (.iload_n 3, 1) := by decide +kernel
theorem dX4_stand_9 : decode cX4_stand 9 = .ok (.aload_n 0, 1) := by decide +kernel
theorem dX4_stand_10 : decode cX4_stand 10 = .ok (.getfield 13, 3) := by decide +kernel
theorem dX4_stand_13 : decode cX4_stand 13 = .ok (.iload_n 1, 1) := by decide +kernel
theorem dX4_stand_14 : decode cX4_stand 14 = .ok (.iaload, 1) := by decide +kernel
theorem dX4_stand_15 : decode cX4_stand 15 = .ok (.if_icmp .gt 19, 3) := by decide +kernel
theorem dX4_stand_18 : decode cX4_stand 18 = .ok (.iload_n 2, 1) := by decide +kernel
theorem dX4_stand_19 : decode cX4_stand 19 = .ok (.aload_n 0, 1) := by decide +kernel
theorem dX4_stand_20 : decode cX4_stand 20 = .ok (.getfield 13, 3) := by decide +kernel
theorem dX4_stand_23 : decode cX4_stand 23 = .ok (.iload_n 1, 1) := by decide +kernel
theorem dX4_stand_24 : decode cX4_stand 24 = .ok (.iaload, 1) := by decide +kernel
theorem dX4_stand_25 : decode cX4_stand 25 = .ok (.iload_n 3, 1) := by decide +kernel
theorem dX4_stand_26 : decode cX4_stand 26 = .ok (.isub, 1) := by decide +kernel
theorem dX4_stand_27 : decode cX4_stand 27 = .ok (.if_icmp .gt 7, 3) := by decide +kernel
theorem dX4_stand_30 : decode cX4_stand 30 = .ok (.iconst 1, 1) := by decide +kernel
theorem dX4_stand_31 : decode cX4_stand 31 = .ok (.goto 4, 3) := by decide +kernel
theorem dX4_stand_34 : decode cX4_stand 34 = .ok (.iconst 0, 1) := by decide +kernel
theorem dX4_stand_35 : decode cX4_stand 35 = .ok (.ireturn, 1) := by decide +kernel
theorem dX5_init_0 : decode cX5_init 0 = .ok (.aload_n 0, 1) := by decide +kernel
theorem dX5_init_1 : decode cX5_init 1 = .ok (.invokespecial 3, 3) := by decide +kernel
theorem dX5_init_4 : decode cX5_init 4 = .ok (.aload_n 0, 1) := by decide +kernel
theorem dX5_init_5 : decode cX5_init 5 = .ok (.bipush 30, 2) := by decide +kernel
theorem dX5_init_7 : decode cX5_init 7 = .ok (.newarray .int, 2) := by decide +kernel
theorem dX5_init_9 : decode cX5_init 9 = .ok (.putfield 11, 3) := by decide +kernel
theorem dX5_init_12 : decode cX5_init 12 = .ok (.return_, 1) := by decide +kernel
theorem dX5_speak_0 : decode cX5_speak 0 = .ok (.aload_n 0, 1) := by decide +kernel
theorem dX5_speak_1 : decode cX5_speak 1 = .ok (.iload_n 1, 1) := by decide +kernel
theorem dX5_speak_2 : decode cX5_speak 2 = .ok (.putfield 15, 3) := by decide +kernel
theorem dX5_speak_5 : decode cX5_speak 5 = .ok (.aload_n 0, 1) := by decide +kernel
theorem dX5_speak_6 : decode cX5_speak 6 = .ok (.iload_n 2, 1) := by decide +kernel
theorem dX5_speak_7 : decode cX5_speak 7 = .ok (.putfield 19, 3) := by decide +kernel
theorem dX5_speak_10 : decode cX5_speak 10 = .ok (.aload_n 0, 1) := by decide +kernel
theorem dX5_speak_11 : decode cX5_speak 11 = .ok (.iload_n 3, 1) := by decide +kernel
theorem dX5_speak_12 : decode cX5_speak 12 = .ok (.putfield 22, 3) := by decide +kernel
theorem dX5_speak_15 : decode cX5_speak 15 = .ok (.aload_n 0, 1) := by decide +kernel
theorem dX5_speak_16 : decode cX5_speak 16 = .ok (.iconst 0, 1) := by decide +kernel
theorem dX5_speak_17 : decode cX5_speak 17 = .ok (.putfield 25, 3) := by decide +kernel
theorem dX5_speak_20 : decode cX5_speak 20 = .ok (.aload_n 0, 1) := by decide +kernel
theorem dX5_speak_21 : decode cX5_speak 21 = .ok (.iconst 0, 1) := by decide +kernel
theorem dX5_speak_22 : decode cX5_speak 22 = .ok (.putfield 28, 3) := by decide +kernel
theorem dX5_speak_25 : decode cX5_speak 25 = .ok (.aload_n 0, 1) := by decide +kernel
theorem dX5_speak_26 : decode cX5_speak 26 = .ok (.aload_n 0, 1) := by decide +kernel
theorem dX5_speak_27 : decode cX5_speak 27 = .ok (.getfield 15, 3) := by decide +kernel
theorem dX5_speak_30 : decode cX5_speak 30 = .ok (.iload 4, 2) := by decide +kernel
theorem dX5_speak_32 : decode cX5_speak 32 = .ok (.iload 5, 2) := by decide +kernel
theorem dX5_speak_34 : decode cX5_speak 34 = .ok (.iconst 0, 1) := by decide +kernel
theorem dX5_speak_35 : decode cX5_speak 35 = .ok (.invokestatic 32, 3) := by decide +kernel
theorem dX5_speak_38 : decode cX5_speak 38 = .ok (.ireturn, 1) := by decide +kernel
theorem dX5_say_0 : decode cX5_say 0 = .ok (.iload_n 1, 1) := by decide +kernel
theorem dX5_say_1 : decode cX5_say 1 = .ok (.iload_n 2, 1) := by decide +kernel
theorem dX5_say_2 : decode cX5_say 2 = .ok (.invokestatic 36, 3) := by decide +kernel
theorem dX5_say_5 : decode cX5_say 5 = .ok (.istore 5, 2) := by decide +kernel
theorem dX5_say_7 : decode cX5_say 7 = .ok (.iload 5, 2) := by decide +kernel
theorem dX5_say_9 : decode cX5_say 9 = .ok (.ifCond .eq 10, 3) := by decide +kernel
theorem dX5_say_12 : decode cX5_say 12 = .ok (.iload 4, 2) := by decide +kernel
theorem dX5_say_14 : decode cX5_say 14 = .ok (.bipush 30, 2) := by decide +kernel
theorem dX5_say_16 : decode cX5_say 16 = .ok (.if_icmp .lt 5, 3) := by decide +kernel
theorem dX5_say_19 : decode cX5_say 19 = .ok (.iconst 0, 1) := by decide +kernel
theorem dX5_say_20 : decode cX5_say 20 = .ok (.ireturn, 1) := by decide +kernel
theorem dX5_say_21 : decode cX5_say 21 = .ok (.aload_n 0, 1) := by decide +kernel
theorem dX5_say_22 : decode cX5_say 22 = .ok (.iload 5, 2) := by decide +kernel
theorem dX5_say_24 : decode cX5_say 24 = .ok (.invokevirtual 40, 3) := by decide +kernel
theorem dX5_say_27 : decode cX5_say 27 = .ok (.getstatic 44, 3) := by decide +kernel
theorem dX5_say_30 : decode cX5_say 30 = .ok (.iload 5, 2) := by decide +kernel
theorem dX5_say_32 : decode cX5_say 32 = .ok (.bipush 10, 2) := by decide +kernel
theorem dX5_say_34 : decode cX5_say 34 = .ok (.idiv, 1) := by decide +kernel
theorem dX5_say_35 : decode cX5_say 35 = .ok (.iconst 1, 1) := by decide +kernel
theorem dX5_say_36 : decode cX5_say 36 = .ok (.isub, 1) := by decide +kernel
theorem dX5_say_37 : decode cX5_say 37 = .ok (.iaload, 1) := by decide +kernel
theorem dX5_say_38 : decode cX5_say 38 = .ok (.istore 6, 2) := by decide +kernel
theorem dX5_say_40 : decode cX5_say 40 = .ok (.iload 4, 2) := by decide +kernel
theorem dX5_say_42 : decode cX5_say 42 = .ok (.iconst 1, 1) := by decide +kernel
theorem dX5_say_43 : decode cX5_say 43 = .ok (.iadd, 1) := by decide +kernel
theorem dX5_say_44 : decode cX5_say 44 = .ok (.istore 7, 2) := by decide +kernel
theorem dX5_say_46 : decode cX5_say 46 = .ok (.iload 5, 2) := by decide +kernel
theorem dX5_say_48 : decode cX5_say 48 = .ok (.lookupswitch 299 #[(10, 116), (11, 123), (12, 138), (13, 156), (20, 162), (21, 175), (30, 214), (40, 226), (50, 239), (51, 252), (60, 268), (70, 281), (71, 283)], 116) := by decide +kernel
theorem dX5_say_164 : decode cX5_say 164 = .ok (.iload_n 3, 1) := by decide +kernel
theorem dX5_say_165 : decode cX5_say 165 = .ok (.aload_n 0, 1) := by decide +kernel
theorem dX5_say_166 : decode cX5_say 166 = .ok (.getfield 22, 3) := by decide +kernel
theorem dX5_say_169 : decode cX5_say 169 = .ok (.iadd, 1) := by decide +kernel
theorem dX5_say_170 : decode cX5_say 170 = .ok (.ireturn, 1) := by decide +kernel
theorem dX5_say_171 : decode cX5_say 171 = .ok (.aload_n 0, 1) := by decide +kernel
theorem dX5_say_172 : decode cX5_say 172 = .ok (.aload_n 0, 1) := by decide +kernel
theorem dX5_say_173 : decode cX5_say 173 = .ok (.getfield 15, 3) := by decide +kernel
theorem dX5_say_176 : decode cX5_say 176 = .ok (.iconst 0, 1) := by decide +kernel
theorem dX5_say_177 : decode cX5_say 177 = .ok (.iload_n 3, 1) := by decide +kernel
theorem dX5_say_178 : decode cX5_say 178 = .ok (.iload 7, 2) := by decide +kernel
theorem dX5_say_180 : decode cX5_say 180 = .ok (.invokestatic 32, 3) := by decide +kernel
theorem dX5_say_183 : decode cX5_say 183 = .ok (.iconst 2, 1) := by decide +kernel
theorem dX5_say_184 : decode cX5_say 184 = .ok (.imul, 1) := by decide +kernel
theorem dX5_say_185 : decode cX5_say 185 = .ok (.ireturn, 1) := by decide +kernel
theorem dX5_say_186 : decode cX5_say 186 = .ok (.aload_n 0, 1) := by decide +kernel
theorem dX5_say_187 : decode cX5_say 187 = .ok (.aload_n 0, 1) := by decide +kernel
theorem dX5_say_188 : decode cX5_say 188 = .ok (.getfield 15, 3) := by decide +kernel
theorem dX5_say_191 : decode cX5_say 191 = .ok (.iconst 1, 1) := by decide +kernel
theorem dX5_say_192 : decode cX5_say 192 = .ok (.iload_n 3, 1) := by decide +kernel
theorem dX5_say_193 : decode cX5_say 193 = .ok (.iload 7, 2) := by decide +kernel
theorem dX5_say_195 : decode cX5_say 195 = .ok (.invokestatic 32, 3) := by decide +kernel
theorem dX5_say_198 : decode cX5_say 198 = .ok (.aload_n 0, 1) := by decide +kernel
theorem dX5_say_199 : decode cX5_say 199 = .ok (.getfield 19, 3) := by decide +kernel
theorem dX5_say_202 : decode cX5_say 202 = .ok (.isub, 1) := by decide +kernel
theorem dX5_say_203 : decode cX5_say 203 = .ok (.ireturn, 1) := by decide +kernel
theorem dX5_say_204 : decode cX5_say 204 = .ok (.aload_n 0, 1) := by decide +kernel
theorem dX5_say_205 : decode cX5_say 205 = .ok (.iload_n 3, 1) := by decide +kernel
theorem dX5_say_206 : decode cX5_say 206 = .ok (.invokevirtual 47, 3) := by decide +kernel
theorem dX5_say_209 : decode cX5_say 209 = .ok (.ireturn, 1) := by decide +kernel
theorem dX5_say_210 : decode cX5_say 210 = .ok (.aload_n 0, 1) := by decide +kernel
theorem dX5_say_211 : decode cX5_say 211 = .ok (.iload 6, 2) := by decide +kernel
theorem dX5_say_213 : decode cX5_say 213 = .ok (.iconst 0, 1) := by decide +kernel
theorem dX5_say_214 : decode cX5_say 214 = .ok (.iload_n 3, 1) := by decide +kernel
theorem dX5_say_215 : decode cX5_say 215 = .ok (.iload 7, 2) := by decide +kernel
theorem dX5_say_217 : decode cX5_say 217 = .ok (.invokestatic 32, 3) := by decide +kernel
theorem dX5_say_220 : decode cX5_say 220 = .ok (.iconst 5, 1) := by decide +kernel
theorem dX5_say_221 : decode cX5_say 221 = .ok (.isub, 1) := by decide +kernel
theorem dX5_say_222 : decode cX5_say 222 = .ok (.ireturn, 1) := by decide +kernel
theorem dX5_say_223 : decode cX5_say 223 = .ok (.aload_n 0, 1) := by decide +kernel
theorem dX5_say_224 : decode cX5_say 224 = .ok (.iload 6, 2) := by decide +kernel
theorem dX5_say_226 : decode cX5_say 226 = .ok (.iconst 3, 1) := by decide +kernel
theorem dX5_say_227 : decode cX5_say 227 = .ok (.iload_n 3, 1) := by decide +kernel
theorem dX5_say_228 : decode cX5_say 228 = .ok (.iload 7, 2) := by decide +kernel
theorem dX5_say_230 : decode cX5_say 230 = .ok (.invokestatic 32, 3) := by decide +kernel
theorem dX5_say_233 : decode cX5_say 233 = .ok (.istore 8, 2) := by decide +kernel
theorem dX5_say_235 : decode cX5_say 235 = .ok (.aload_n 0, 1) := by decide +kernel
theorem dX5_say_236 : decode cX5_say 236 = .ok (.getfield 28, 3) := by decide +kernel
theorem dX5_say_239 : decode cX5_say 239 = .ok (.ifCond .eq 7, 3) := by decide +kernel
theorem dX5_say_242 : decode cX5_say 242 = .ok (.iconst 0, 1) := by decide +kernel
theorem dX5_say_243 : decode cX5_say 243 = .ok (.goto 18, 3) := by decide +kernel
theorem dX5_say_246 : decode cX5_say 246 = .ok (.iload 8, 2) := by decide +kernel
theorem dX5_say_248 : decode cX5_say 248 = .ok (.aload_n 0, 1) := by decide +kernel
theorem dX5_say_249 : decode cX5_say 249 = .ok (.aload_n 0, 1) := by decide +kernel
theorem dX5_say_250 : decode cX5_say 250 = .ok (.getfield 15, 3) := by decide +kernel
theorem dX5_say_253 : decode cX5_say 253 = .ok (.iconst 1, 1) := by decide +kernel
theorem dX5_say_254 : decode cX5_say 254 = .ok (.iconst 1, 1) := by decide +kernel
theorem dX5_say_255 : decode cX5_say 255 = .ok (.iload 7, 2) := by decide +kernel
theorem dX5_say_257 : decode cX5_say 257 = .ok (.invokestatic 32, 3) := by decide +kernel
theorem dX5_say_260 : decode cX5_say 260 = .ok (.iadd, 1) := by decide +kernel
theorem dX5_say_261 : decode cX5_say 261 = .ok (.ireturn, 1) := by decide +kernel
theorem dX5_say_262 : decode cX5_say 262 = .ok (.aload_n 0, 1) := by decide +kernel
theorem dX5_say_263 : decode cX5_say 263 = .ok (.iload 6, 2) := by decide +kernel
theorem dX5_say_265 : decode cX5_say 265 = .ok (.iconst 1, 1) := by decide +kernel
theorem dX5_say_266 : decode cX5_say 266 = .ok (.iload_n 3, 1) := by decide +kernel
theorem dX5_say_267 : decode cX5_say 267 = .ok (.iload 7, 2) := by decide +kernel
theorem dX5_say_269 : decode cX5_say 269 = .ok (.invokestatic 32, 3) := by decide +kernel
theorem dX5_say_272 : decode cX5_say 272 = .ok (.ineg, 1) := by decide +kernel
theorem dX5_say_273 : decode cX5_say 273 = .ok (.ireturn, 1) := by decide +kernel
theorem dX5_say_274 : decode cX5_say 274 = .ok (.aload_n 0, 1) := by decide +kernel
theorem dX5_say_275 : decode cX5_say 275 = .ok (.iload 6, 2) := by decide +kernel
theorem dX5_say_277 : decode cX5_say 277 = .ok (.iconst 2, 1) := by decide +kernel
theorem dX5_say_278 : decode cX5_say 278 = .ok (.iload_n 3, 1) := by decide +kernel
theorem dX5_say_279 : decode cX5_say 279 = .ok (.iconst 2, 1) := by decide +kernel
theorem dX5_say_280 : decode cX5_say 280 = .ok (.idiv, 1) := by decide +kernel
theorem dX5_say_281 : decode cX5_say 281 = .ok (.iload 7, 2) := by decide +kernel
theorem dX5_say_283 : decode cX5_say 283 = .ok (.invokestatic 32, 3) := by decide +kernel
theorem dX5_say_286 : decode cX5_say 286 = .ok (.ireturn, 1) := by decide +kernel
theorem dX5_say_287 : decode cX5_say 287 = .ok (.aload_n 0, 1) := by decide +kernel
theorem dX5_say_288 : decode cX5_say 288 = .ok (.iload 6, 2) := by decide +kernel
theorem dX5_say_290 : decode cX5_say 290 = .ok (.iconst 0, 1) := by decide +kernel
theorem dX5_say_291 : decode cX5_say 291 = .ok (.iload_n 3, 1) := by decide +kernel
theorem dX5_say_292 : decode cX5_say 292 = .ok (.iload 7, 2) := by decide +kernel
theorem dX5_say_294 : decode cX5_say 294 = .ok (.invokestatic 32, 3) := by decide +kernel
theorem dX5_say_297 : decode cX5_say 297 = .ok (.iconst 3, 1) := by decide +kernel
theorem dX5_say_298 : decode cX5_say 298 = .ok (.imul, 1) := by decide +kernel
theorem dX5_say_299 : decode cX5_say 299 = .ok (.ireturn, 1) := by decide +kernel
theorem dX5_say_300 : decode cX5_say 300 = .ok (.aload_n 0, 1) := by decide +kernel
theorem dX5_say_301 : decode cX5_say 301 = .ok (.iload 6, 2) := by decide +kernel
theorem dX5_say_303 : decode cX5_say 303 = .ok (.iconst 2, 1) := by decide +kernel
theorem dX5_say_304 : decode cX5_say 304 = .ok (.iload_n 3, 1) := by decide +kernel
theorem dX5_say_305 : decode cX5_say 305 = .ok (.iload 7, 2) := by decide +kernel
theorem dX5_say_307 : decode cX5_say 307 = .ok (.invokestatic 32, 3) := by decide +kernel
theorem dX5_say_310 : decode cX5_say 310 = .ok (.aload_n 0, 1) := by decide +kernel
theorem dX5_say_311 : decode cX5_say 311 = .ok (.getfield 22, 3) := by decide +kernel
theorem dX5_say_314 : decode cX5_say 314 = .ok (.ixor, 1) := by decide +kernel
theorem dX5_say_315 : decode cX5_say 315 = .ok (.ireturn, 1) := by decide +kernel
theorem dX5_say_316 : decode cX5_say 316 = .ok (.aload_n 0, 1) := by decide +kernel
theorem dX5_say_317 : decode cX5_say 317 = .ok (.iload 6, 2) := by decide +kernel
theorem dX5_say_319 : decode cX5_say 319 = .ok (.iconst 1, 1) := by decide +kernel
theorem dX5_say_320 : decode cX5_say 320 = .ok (.iload_n 3, 1) := by decide +kernel
theorem dX5_say_321 : decode cX5_say 321 = .ok (.iconst 1, 1) := by decide +kernel
theorem dX5_say_322 : decode cX5_say 322 = .ok (.iadd, 1) := by decide +kernel
theorem dX5_say_323 : decode cX5_say 323 = .ok (.iload 7, 2) := by decide +kernel
theorem dX5_say_325 : decode cX5_say 325 = .ok (.invokestatic 32, 3) := by decide +kernel
theorem dX5_say_328 : decode cX5_say 328 = .ok (.ireturn, 1) := by decide +kernel
theorem dX5_say_329 : decode cX5_say 329 = .ok (.iconst 3, 1) := by decide +kernel
theorem dX5_say_330 : decode cX5_say 330 = .ok (.ireturn, 1) := by decide +kernel
theorem dX5_say_331 : decode cX5_say 331 = .ok (.aload_n 0, 1) := by decide +kernel
theorem dX5_say_332 : decode cX5_say 332 = .ok (.iload 6, 2) := by decide +kernel
theorem dX5_say_334 : decode cX5_say 334 = .ok (.iconst 1, 1) := by decide +kernel
theorem dX5_say_335 : decode cX5_say 335 = .ok (.iload_n 3, 1) := by decide +kernel
theorem dX5_say_336 : decode cX5_say 336 = .ok (.iload 7, 2) := by decide +kernel
theorem dX5_say_338 : decode cX5_say 338 = .ok (.invokestatic 32, 3) := by decide +kernel
theorem dX5_say_341 : decode cX5_say 341 = .ok (.aload_n 0, 1) := by decide +kernel
theorem dX5_say_342 : decode cX5_say 342 = .ok (.getfield 19, 3) := by decide +kernel
theorem dX5_say_345 : decode cX5_say 345 = .ok (.iadd, 1) := by decide +kernel
theorem dX5_say_346 : decode cX5_say 346 = .ok (.ireturn, 1) := by decide +kernel
theorem dX5_say_347 : decode cX5_say 347 = .ok (.iconst 0, 1) := by decide +kernel
theorem dX5_say_348 : decode cX5_say 348 = .ok (.ireturn, 1) := by decide +kernel
theorem dX5_bodyFrom_0 : decode cX5_bodyFrom 0 = .ok (.iload_n 0, 1) := by decide +kernel
theorem dX5_bodyFrom_1 : decode cX5_bodyFrom 1 = .ok (.istore_n 2, 1) := by decide +kernel
theorem dX5_bodyFrom_2 : decode cX5_bodyFrom 2 = .ok (.iconst 0, 1) := by decide +kernel
theorem dX5_bodyFrom_3 : decode cX5_bodyFrom 3 = .ok (.istore_n 3, 1) := by decide +kernel
theorem dX5_bodyFrom_4 : decode cX5_bodyFrom 4 = .ok (.iload_n 3, 1) := by decide +kernel
theorem dX5_bodyFrom_5 : decode cX5_bodyFrom 5 = .ok (.bipush 7, 2) := by decide +kernel
theorem dX5_bodyFrom_7 : decode cX5_bodyFrom 7 = .ok (.if_icmp .ge 38, 3) := by decide +kernel
theorem dX5_bodyFrom_10 : decode cX5_bodyFrom 10 = .ok (.iload_n 2, 1) := by decide +kernel
theorem dX5_bodyFrom_11 : decode cX5_bodyFrom 11 = .ok (.ifCond .lt 34, 3) := by decide +kernel
theorem dX5_bodyFrom_14 : decode cX5_bodyFrom 14 = .ok (.getstatic 51, 3) := by decide +kernel
theorem dX5_bodyFrom_17 : decode cX5_bodyFrom 17 = .ok (.iload_n 2, 1) := by decide +kernel
theorem dX5_bodyFrom_18 : decode cX5_bodyFrom 18 = .ok (.iconst 4, 1) := by decide +kernel
theorem dX5_bodyFrom_19 : decode cX5_bodyFrom 19 = .ok (.imul, 1) := by decide +kernel
theorem dX5_bodyFrom_20 : decode cX5_bodyFrom 20 = .ok (.iload_n 1, 1) := by decide +kernel
theorem dX5_bodyFrom_21 : decode cX5_bodyFrom 21 = .ok (.iadd, 1) := by decide +kernel
theorem dX5_bodyFrom_22 : decode cX5_bodyFrom 22 = .ok (.iaload, 1) := by decide +kernel
theorem dX5_bodyFrom_23 : decode cX5_bodyFrom 23 = .ok (.istore 4, 2) := by decide +kernel
theorem dX5_bodyFrom_25 : decode cX5_bodyFrom 25 = .ok (.iload 4, 2) := by decide +kernel
theorem dX5_bodyFrom_27 : decode cX5_bodyFrom 27 = .ok (.ifCond .eq 6, 3) := by decide +kernel
theorem dX5_bodyFrom_30 : decode cX5_bodyFrom 30 = .ok (.iload 4, 2) := by decide +kernel
theorem dX5_bodyFrom_32 : decode cX5_bodyFrom 32 = .ok (.ireturn, 1) := by decide +kernel
theorem dX5_bodyFrom_33 : decode cX5_bodyFrom 33 = .ok (.getstatic 44, 3) := by decide +kernel
theorem dX5_bodyFrom_36 : decode cX5_bodyFrom 36 = .ok (.iload_n 2, 1) := by decide +kernel
theorem dX5_bodyFrom_37 : decode cX5_bodyFrom 37 = .ok (.iaload, 1) := by decide +kernel
theorem dX5_bodyFrom_38 : decode cX5_bodyFrom 38 = .ok (.istore_n 2, 1) := by decide +kernel
theorem dX5_bodyFrom_39 : decode cX5_bodyFrom 39 = .ok (.iinc 3 1, 3) := by decide +kernel
theorem dX5_bodyFrom_42 : decode cX5_bodyFrom 42 = .ok (.goto (-38), 3) := by decide +kernel
theorem dX5_bodyFrom_45 : decode cX5_bodyFrom 45 = .ok (.iconst 0, 1) := by decide +kernel
theorem dX5_bodyFrom_46 : decode cX5_bodyFrom 46 = .ok (.ireturn, 1) := by decide +kernel
theorem dX5_begin_0 : decode cX5_begin 0 = .ok (.aload_n 0, 1) := by decide +kernel
theorem dX5_begin_1 : decode cX5_begin 1 = .ok (.getfield 25, 3) := by decide +kernel
theorem dX5_begin_4 : decode cX5_begin 4 = .ok (.bipush 30, 2) := by decide +kernel
theorem dX5_begin_6 : decode cX5_begin 6 = .ok (.if_icmp .ge 23, 3) := by decide +kernel
theorem dX5_begin_9 : decode cX5_begin 9 = .ok (.aload_n 0, 1) := by decide +kernel
theorem dX5_begin_10 : decode cX5_begin 10 = .ok (.getfield 11, 3) := by decide +kernel
theorem dX5_begin_13 : decode cX5_begin 13 = .ok (.aload_n 0, 1) := by decide +kernel
theorem dX5_begin_14 : decode cX5_begin 14 = .ok (.getfield 25, 3) := by decide +kernel
theorem dX5_begin_17 : decode cX5_begin 17 = .ok (.iload_n 1, 1) := by decide +kernel
theorem dX5_begin_18 : decode cX5_begin 18 = .ok (.iastore, 1) := by decide +kernel
theorem dX5_begin_19 : decode cX5_begin 19 = .ok (.aload_n 0, 1) := by decide +kernel
theorem dX5_begin_20 : decode cX5_begin 20 = .ok (.dup, 1) := by decide +kernel
theorem dX5_begin_21 : decode cX5_begin 21 = .ok (.getfield 25, 3) := by decide +kernel
theorem dX5_begin_24 : decode cX5_begin 24 = .ok (.iconst 1, 1) := by decide +kernel
theorem dX5_begin_25 : decode cX5_begin 25 = .ok (.iadd, 1) := by decide +kernel
theorem dX5_begin_26 : decode cX5_begin 26 = .ok (.putfield 25, 3) := by decide +kernel
theorem dX5_begin_29 : decode cX5_begin 29 = .ok (.return_, 1) := by decide +kernel
theorem dX5_part_0 : decode cX5_part 0 = .ok (.aload_n 0, 1) := by decide +kernel
theorem dX5_part_1 : decode cX5_part 1 = .ok (.getfield 19, 3) := by decide +kernel
theorem dX5_part_4 : decode cX5_part 4 = .ok (.aload_n 0, 1) := by decide +kernel
theorem dX5_part_5 : decode cX5_part 5 = .ok (.getfield 22, 3) := by decide +kernel
theorem dX5_part_8 : decode cX5_part 8 = .ok (.isub, 1) := by decide +kernel
theorem dX5_part_9 : decode cX5_part 9 = .ok (.istore_n 2, 1) := by decide +kernel
theorem dX5_part_10 : decode cX5_part 10 = .ok (.iload_n 2, 1) := by decide +kernel
theorem dX5_part_11 : decode cX5_part 11 = .ok (.ifCond .ne 10, 3) := by decide +kernel
theorem dX5_part_14 : decode cX5_part 14 = .ok (.aload_n 0, 1) := by decide +kernel
theorem dX5_part_15 : decode cX5_part 15 = .ok (.iconst 1, 1) := by decide +kernel
theorem dX5_part_16 : decode cX5_part 16 = .ok (.putfield 28, 3) := by decide +kernel
theorem dX5_part_19 : decode cX5_part 19 = .ok (.iconst 0, 1) := by decide +kernel
theorem dX5_part_20 : decode cX5_part 20 = .ok (.ireturn, 1) := by decide +kernel
theorem dX5_part_21 : decode cX5_part 21 = .ok (.iload_n 1, 1) := by decide +kernel
theorem dX5_part_22 : decode cX5_part 22 = .ok (.iload_n 2, 1) := by decide +kernel
theorem dX5_part_23 : decode cX5_part 23 = .ok (.idiv, 1) := by decide +kernel
theorem dX5_part_24 : decode cX5_part 24 = .ok (.ireturn, 1) := by decide +kernel
theorem dX6_init_0 : decode cX6_init 0 = .ok (.aload_n 0, 1) := by decide +kernel
theorem dX6_init_1 : decode cX6_init 1 = .ok (.invokespecial 3, 3) := by decide +kernel
theorem dX6_init_4 : decode cX6_init 4 = .ok (.aload_n 0, 1) := by decide +kernel
theorem dX6_init_5 : decode cX6_init 5 = .ok (.bipush 7, 2) := by decide +kernel
theorem dX6_init_7 : decode cX6_init 7 = .ok (.anewarray 11, 3) := by decide +kernel
theorem dX6_init_10 : decode cX6_init 10 = .ok (.putfield 13, 3) := by decide +kernel
theorem dX6_init_13 : decode cX6_init 13 = .ok (.aload_n 0, 1) := by decide +kernel
theorem dX6_init_14 : decode cX6_init 14 = .ok (.bipush 6, 2) := by decide +kernel
theorem dX6_init_16 : decode cX6_init 16 = .ok (.newarray .int, 2) := by decide +kernel
theorem dX6_init_18 : decode cX6_init 18 = .ok (.putfield 17, 3) := by decide +kernel
theorem dX6_init_21 : decode cX6_init 21 = .ok (.aload_n 0, 1) := by decide +kernel
theorem dX6_init_22 : decode cX6_init 22 = .ok (.bipush 6, 2) := by decide +kernel
theorem dX6_init_24 : decode cX6_init 24 = .ok (.newarray .int, 2) := by decide +kernel
theorem dX6_init_26 : decode cX6_init 26 = .ok (.putfield 21, 3) := by decide +kernel
theorem dX6_init_29 : decode cX6_init 29 = .ok (.iconst 0, 1) := by decide +kernel
theorem dX6_init_30 : decode cX6_init 30 = .ok (.istore_n 2, 1) := by decide +kernel
theorem dX6_init_31 : decode cX6_init 31 = .ok (.iload_n 2, 1) := by decide +kernel
theorem dX6_init_32 : decode cX6_init 32 = .ok (.bipush 6, 2) := by decide +kernel
theorem dX6_init_34 : decode cX6_init 34 = .ok (.if_icmp .gt 23, 3) := by decide +kernel
theorem dX6_init_37 : decode cX6_init 37 = .ok (.aload_n 0, 1) := by decide +kernel
theorem dX6_init_38 : decode cX6_init 38 = .ok (.getfield 13, 3) := by decide +kernel
theorem dX6_init_41 : decode cX6_init 41 = .ok (.iload_n 2, 1) := by decide +kernel
theorem dX6_init_42 : decode cX6_init 42 = .ok (.new 11, 3) := by decide +kernel
theorem dX6_init_45 : decode cX6_init 45 = .ok (.dup, 1) := by decide +kernel
theorem dX6_init_46 : decode cX6_init 46 = .ok (.aload_n 1, 1) := by decide +kernel
theorem dX6_init_47 : decode cX6_init 47 = .ok (.invokespecial 24, 3) := by decide +kernel
theorem dX6_init_50 : decode cX6_init 50 = .ok (.aastore, 1) := by decide +kernel
theorem dX6_init_51 : decode cX6_init 51 = .ok (.iinc 2 1, 3) := by decide +kernel
theorem dX6_init_54 : decode cX6_init 54 = .ok (.goto (-23), 3) := by decide +kernel
theorem dX6_init_57 : decode cX6_init 57 = .ok (.return_, 1) := by decide +kernel
theorem dX6_behindOne_0 : decode cX6_behindOne 0 = .ok (.aload_n 0, 1) := by decide +kernel
theorem dX6_behindOne_1 : decode cX6_behindOne 1 = .ok (.getfield 13, 3) := by decide +kernel
theorem dX6_behindOne_4 : decode cX6_behindOne 4 = .ok (.iconst 0, 1) := by decide +kernel
theorem dX6_behindOne_5 : decode cX6_behindOne 5 = .ok (.aaload, 1) := by decide +kernel
theorem dX6_behindOne_6 : decode cX6_behindOne 6 = .ok (.aload_n 1, 1) := by decide +kernel
theorem dX6_behindOne_7 : decode cX6_behindOne 7 = .ok (.invokevirtual 27, 3) := by decide +kernel
theorem dX6_behindOne_10 : decode cX6_behindOne 10 = .ok (.aload_n 0, 1) := by decide +kernel
theorem dX6_behindOne_11 : decode cX6_behindOne 11 = .ok (.getfield 13, 3) := by decide +kernel
theorem dX6_behindOne_14 : decode cX6_behindOne 14 = .ok (.iconst 0, 1) := by decide +kernel
theorem dX6_behindOne_15 : decode cX6_behindOne 15 = .ok (.aaload, 1) := by decide +kernel
theorem dX6_behindOne_16 : decode cX6_behindOne 16 = .ok (.iload_n 2, 1) := by decide +kernel
theorem dX6_behindOne_17 : decode cX6_behindOne 17 = .ok (.iload_n 3, 1) := by decide +kernel
theorem dX6_behindOne_18 : decode cX6_behindOne 18 = .ok (.invokevirtual 31, 3) := by decide +kernel
theorem dX6_behindOne_21 : decode cX6_behindOne 21 = .ok (.pop, 1) := by decide +kernel
theorem dX6_behindOne_22 : decode cX6_behindOne 22 = .ok (.aload_n 0, 1) := by decide +kernel
theorem dX6_behindOne_23 : decode cX6_behindOne 23 = .ok (.getfield 13, 3) := by decide +kernel
theorem dX6_behindOne_26 : decode cX6_behindOne 26 = .ok (.iconst 0, 1) := by decide +kernel
theorem dX6_behindOne_27 : decode cX6_behindOne 27 = .ok (.aaload, 1) := by decide +kernel
theorem dX6_behindOne_28 : decode cX6_behindOne 28 = .ok (.areturn, 1) := by decide +kernel
theorem dX6_fewestHired_0 : decode cX6_fewestHired 0 = .ok (.aload_n 0, 1) := by decide +kernel
theorem dX6_fewestHired_1 : decode cX6_fewestHired 1 = .ok (.getfield 13, 3) := by decide +kernel
theorem dX6_fewestHired_4 : decode cX6_fewestHired 4 = .ok (.iconst 0, 1) := by decide +kernel
theorem dX6_fewestHired_5 : decode cX6_fewestHired 5 = .ok (.aaload, 1) := by decide +kernel
theorem dX6_fewestHired_6 : decode cX6_fewestHired 6 = .ok (.aload_n 1, 1) := by decide +kernel
theorem dX6_fewestHired_7 : decode cX6_fewestHired 7 = .ok (.invokevirtual 27, 3) := by decide +kernel
theorem dX6_fewestHired_10 : decode cX6_fewestHired 10 = .ok (.aload_n 0, 1) := by decide +kernel
theorem dX6_fewestHired_11 : decode cX6_fewestHired 11 = .ok (.iload 4, 2) := by decide +kernel
theorem dX6_fewestHired_13 : decode cX6_fewestHired 13 = .ok (.iconst 1, 1) := by decide +kernel
theorem dX6_fewestHired_14 : decode cX6_fewestHired 14 = .ok (.iadd, 1) := by decide +kernel
theorem dX6_fewestHired_15 : decode cX6_fewestHired 15 = .ok (.putfield 35, 3) := by decide +kernel
theorem dX6_fewestHired_18 : decode cX6_fewestHired 18 = .ok (.aload_n 0, 1) := by decide +kernel
theorem dX6_fewestHired_19 : decode cX6_fewestHired 19 = .ok (.iload_n 2, 1) := by decide +kernel
theorem dX6_fewestHired_20 : decode cX6_fewestHired 20 = .ok (.iload_n 3, 1) := by decide +kernel
theorem dX6_fewestHired_21 : decode cX6_fewestHired 21 = .ok (.iconst 0, 1) := by decide +kernel
theorem dX6_fewestHired_22 : decode cX6_fewestHired 22 = .ok (.invokestatic 39, 3) := by decide +kernel
theorem dX6_fewestHired_25 : decode cX6_fewestHired 25 = .ok (.aload_n 0, 1) := by decide +kernel
theorem dX6_fewestHired_26 : decode cX6_fewestHired 26 = .ok (.getfield 35, 3) := by decide +kernel
theorem dX6_fewestHired_29 : decode cX6_fewestHired 29 = .ok (.ireturn, 1) := by decide +kernel
theorem dX6_hire_0 : decode cX6_hire 0 = .ok (.aload_n 0, 1) := by decide +kernel
theorem dX6_hire_1 : decode cX6_hire 1 = .ok (.getfield 13, 3) := by decide +kernel
theorem dX6_hire_4 : decode cX6_hire 4 = .ok (.iload_n 3, 1) := by decide +kernel
theorem dX6_hire_5 : decode cX6_hire 5 = .ok (.aaload, 1) := by decide +kernel
theorem dX6_hire_6 : decode cX6_hire 6 = .ok (.astore 4, 2) := by decide +kernel
theorem dX6_hire_8 : decode cX6_hire 8 = .ok (.aload 4, 2) := by decide +kernel
theorem dX6_hire_10 : decode cX6_hire 10 = .ok (.iload_n 2, 1) := by decide +kernel
theorem dX6_hire_11 : decode cX6_hire 11 = .ok (.iload_n 1, 1) := by decide +kernel
theorem dX6_hire_12 : decode cX6_hire 12 = .ok (.invokevirtual 43, 3) := by decide +kernel
theorem dX6_hire_15 : decode cX6_hire 15 = .ok (.ifCond .eq 19, 3) := by decide +kernel
theorem dX6_hire_18 : decode cX6_hire 18 = .ok (.aload 4, 2) := by decide +kernel
theorem dX6_hire_20 : decode cX6_hire 20 = .ok (.iload_n 2, 1) := by decide +kernel
theorem dX6_hire_21 : decode cX6_hire 21 = .ok (.iload_n 1, 1) := by decide +kernel
theorem dX6_hire_22 : decode cX6_hire 22 = .ok (.invokevirtual 47, 3) := by decide +kernel
theorem dX6_hire_25 : decode cX6_hire 25 = .ok (.ifCond .ne 9, 3) := by decide +kernel
theorem dX6_hire_28 : decode cX6_hire 28 = .ok (.aload_n 0, 1) := by decide +kernel
theorem dX6_hire_29 : decode cX6_hire 29 = .ok (.iload_n 3, 1) := by decide +kernel
theorem dX6_hire_30 : decode cX6_hire 30 = .ok (.putfield 35, 3) := by decide +kernel
theorem dX6_hire_33 : decode cX6_hire 33 = .ok (.return_, 1) := by decide +kernel
theorem dX6_hire_34 : decode cX6_hire 34 = .ok (.iload_n 3, 1) := by decide +kernel
theorem dX6_hire_35 : decode cX6_hire 35 = .ok (.iconst 1, 1) := by decide +kernel
theorem dX6_hire_36 : decode cX6_hire 36 = .ok (.iadd, 1) := by decide +kernel
theorem dX6_hire_37 : decode cX6_hire 37 = .ok (.aload_n 0, 1) := by decide +kernel
theorem dX6_hire_38 : decode cX6_hire 38 = .ok (.getfield 35, 3) := by decide +kernel
theorem dX6_hire_41 : decode cX6_hire 41 = .ok (.if_icmp .ge 8, 3) := by decide +kernel
theorem dX6_hire_44 : decode cX6_hire 44 = .ok (.iload_n 3, 1) := by decide +kernel
theorem dX6_hire_45 : decode cX6_hire 45 = .ok (.iconst 4, 1) := by decide +kernel
theorem dX6_hire_46 : decode cX6_hire 46 = .ok (.if_icmp .lt 4, 3) := by decide +kernel
theorem dX6_hire_49 : decode cX6_hire 49 = .ok (.return_, 1) := by decide +kernel
theorem dX6_hire_50 : decode cX6_hire 50 = .ok (.aload_n 0, 1) := by decide +kernel
theorem dX6_hire_51 : decode cX6_hire 51 = .ok (.getfield 13, 3) := by decide +kernel
theorem dX6_hire_54 : decode cX6_hire 54 = .ok (.iload_n 3, 1) := by decide +kernel
theorem dX6_hire_55 : decode cX6_hire 55 = .ok (.iconst 1, 1) := by decide +kernel
theorem dX6_hire_56 : decode cX6_hire 56 = .ok (.iadd, 1) := by decide +kernel
theorem dX6_hire_57 : decode cX6_hire 57 = .ok (.aaload, 1) := by decide +kernel
theorem dX6_hire_58 : decode cX6_hire 58 = .ok (.astore 5, 2) := by decide +kernel
theorem dX6_hire_60 : decode cX6_hire 60 = .ok (.iconst 0, 1) := by decide +kernel
theorem dX6_hire_61 : decode cX6_hire 61 = .ok (.istore 6, 2) := by decide +kernel
theorem dX6_hire_63 : decode cX6_hire 63 = .ok (.iload 6, 2) := by decide +kernel
theorem dX6_hire_65 : decode cX6_hire 65 = .ok (.aload 4, 2) := by decide +kernel
theorem dX6_hire_67 : decode cX6_hire 67 = .ok (.getfield 50, 3) := by decide +kernel
theorem dX6_hire_70 : decode cX6_hire 70 = .ok (.if_icmp .ge 51, 3) := by decide +kernel
theorem dX6_hire_73 : decode cX6_hire 73 = .ok (.iload 6, 2) := by decide +kernel
theorem dX6_hire_75 : decode cX6_hire 75 = .ok (.iload_n 1, 1) := by decide +kernel
theorem dX6_hire_76 : decode cX6_hire 76 = .ok (.if_icmp .eq 39, 3) := by decide +kernel
theorem dX6_hire_79 : decode cX6_hire 79 = .ok (.aload 4, 2) := by decide +kernel
theorem dX6_hire_81 : decode cX6_hire 81 = .ok (.iload_n 2, 1) := by decide +kernel
theorem dX6_hire_82 : decode cX6_hire 82 = .ok (.iload 6, 2) := by decide +kernel
theorem dX6_hire_84 : decode cX6_hire 84 = .ok (.invokevirtual 43, 3) := by decide +kernel
theorem dX6_hire_87 : decode cX6_hire 87 = .ok (.ifCond .eq 28, 3) := by decide +kernel
theorem dX6_hire_90 : decode cX6_hire 90 = .ok (.aload 5, 2) := by decide +kernel
theorem dX6_hire_92 : decode cX6_hire 92 = .ok (.aload 4, 2) := by decide +kernel
theorem dX6_hire_94 : decode cX6_hire 94 = .ok (.invokevirtual 27, 3) := by decide +kernel
theorem dX6_hire_97 : decode cX6_hire 97 = .ok (.aload 5, 2) := by decide +kernel
theorem dX6_hire_99 : decode cX6_hire 99 = .ok (.iload_n 2, 1) := by decide +kernel
theorem dX6_hire_100 : decode cX6_hire 100 = .ok (.iload 6, 2) := by decide +kernel
theorem dX6_hire_102 : decode cX6_hire 102 = .ok (.invokevirtual 31, 3) := by decide +kernel
theorem dX6_hire_105 : decode cX6_hire 105 = .ok (.pop, 1) := by decide +kernel
theorem dX6_hire_106 : decode cX6_hire 106 = .ok (.aload_n 0, 1) := by decide +kernel
theorem dX6_hire_107 : decode cX6_hire 107 = .ok (.iload_n 1, 1) := by decide +kernel
theorem dX6_hire_108 : decode cX6_hire 108 = .ok (.iload_n 2, 1) := by decide +kernel
theorem dX6_hire_109 : decode cX6_hire 109 = .ok (.iload_n 3, 1) := by decide +kernel
theorem dX6_hire_110 : decode cX6_hire 110 = .ok (.iconst 1, 1) := by decide +kernel
theorem dX6_hire_111 : decode cX6_hire 111 = .ok (.iadd, 1) := by decide +kernel
theorem dX6_hire_112 : decode cX6_hire 112 = .ok (.invokestatic 39, 3) := by decide +kernel
theorem dX6_hire_115 : decode cX6_hire 115 = .ok (.iinc 6 1, 3) := by decide +kernel
theorem dX6_hire_118 : decode cX6_hire 118 = .ok (.goto (-55), 3) := by decide +kernel
theorem dX6_hire_121 : decode cX6_hire 121 = .ok (.return_, 1) := by decide +kernel
theorem dX6_findsWay_0 : decode cX6_findsWay 0 = .ok (.aload_n 0, 1) := by decide +kernel
theorem dX6_findsWay_1 : decode cX6_findsWay 1 = .ok (.getfield 13, 3) := by decide +kernel
theorem dX6_findsWay_4 : decode cX6_findsWay 4 = .ok (.iconst 0, 1) := by decide +kernel
theorem dX6_findsWay_5 : decode cX6_findsWay 5 = .ok (.aaload, 1) := by decide +kernel
theorem dX6_findsWay_6 : decode cX6_findsWay 6 = .ok (.aload_n 1, 1) := by decide +kernel
theorem dX6_findsWay_7 : decode cX6_findsWay 7 = .ok (.invokevirtual 27, 3) := by decide +kernel
theorem dX6_findsWay_10 : decode cX6_findsWay 10 = .ok (.aload_n 0, 1) := by decide +kernel
theorem dX6_findsWay_11 : decode cX6_findsWay 11 = .ok (.getfield 13, 3) := by decide +kernel
theorem dX6_findsWay_14 : decode cX6_findsWay 14 = .ok (.iconst 0, 1) := by decide +kernel
theorem dX6_findsWay_15 : decode cX6_findsWay 15 = .ok (.aaload, 1) := by decide +kernel
theorem dX6_findsWay_16 : decode cX6_findsWay 16 = .ok (.getfield 53, 3) := by decide +kernel
theorem dX6_findsWay_19 : decode cX6_findsWay 19 = .ok (.iload_n 2, 1) := by decide +kernel
theorem dX6_findsWay_20 : decode cX6_findsWay 20 = .ok (.sipush 9999, 3) := by decide +kernel
theorem dX6_findsWay_23 : decode cX6_findsWay 23 = .ok (.iastore, 1) := by decide +kernel
theorem dX6_findsWay_24 : decode cX6_findsWay 24 = .ok (.aload_n 0, 1) := by decide +kernel
theorem dX6_findsWay_25 : decode cX6_findsWay 25 = .ok (.ldc 56, 2) := by decide +kernel
theorem dX6_findsWay_27 : decode cX6_findsWay 27 = .ok (.putfield 57, 3) := by decide +kernel
theorem dX6_findsWay_30 : decode cX6_findsWay 30 = .ok (.aload_n 0, 1) := by decide +kernel
theorem dX6_findsWay_31 : decode cX6_findsWay 31 = .ok (.iload_n 2, 1) := by decide +kernel
theorem dX6_findsWay_32 : decode cX6_findsWay 32 = .ok (.iload_n 3, 1) := by decide +kernel
theorem dX6_findsWay_33 : decode cX6_findsWay 33 = .ok (.iconst 0, 1) := by decide +kernel
theorem dX6_findsWay_34 : decode cX6_findsWay 34 = .ok (.iconst 0, 1) := by decide +kernel
theorem dX6_findsWay_35 : decode cX6_findsWay 35 = .ok (.invokestatic 60, 3) := by decide +kernel
theorem dX6_findsWay_38 : decode cX6_findsWay 38 = .ok (.aload_n 0, 1) := by decide +kernel
theorem dX6_findsWay_39 : decode cX6_findsWay 39 = .ok (.getfield 57, 3) := by decide +kernel
theorem dX6_findsWay_42 : decode cX6_findsWay 42 = .ok (.ldc 56, 2) := by decide +kernel
theorem dX6_findsWay_44 : decode cX6_findsWay 44 = .ok (.if_icmp .ge 7, 3) := by decide +kernel
theorem dX6_findsWay_47 : decode cX6_findsWay 47 = .ok (.iconst 1, 1) := by decide +kernel
theorem dX6_findsWay_48 : decode cX6_findsWay 48 = .ok (.goto 4, 3) := by decide +kernel
theorem dX6_findsWay_51 : decode cX6_findsWay 51 = .ok (.iconst 0, 1) := by decide +kernel
theorem dX6_findsWay_52 : decode cX6_findsWay 52 = .ok (.ireturn, 1) := by decide +kernel
theorem dX6_ride_0 : decode cX6_ride 0 = .ok (.iload 4, 2) := by decide +kernel
theorem dX6_ride_2 : decode cX6_ride 2 = .ok (.aload_n 0, 1) := by decide +kernel
theorem dX6_ride_3 : decode cX6_ride 3 = .ok (.getfield 57, 3) := by decide +kernel
theorem dX6_ride_6 : decode cX6_ride 6 = .ok (.if_icmp .lt 4, 3) := by decide +kernel
theorem dX6_ride_9 : decode cX6_ride 9 = .ok (.return_, 1) := by decide +kernel
theorem dX6_ride_10 : decode cX6_ride 10 = .ok (.iload_n 3, 1) := by decide +kernel
theorem dX6_ride_11 : decode cX6_ride 11 = .ok (.iload_n 2, 1) := by decide +kernel
theorem dX6_ride_12 : decode cX6_ride 12 = .ok (.if_icmp .ge 9, 3) := by decide +kernel
theorem dX6_ride_15 : decode cX6_ride 15 = .ok (.iload_n 3, 1) := by decide +kernel
theorem dX6_ride_16 : decode cX6_ride 16 = .ok (.bipush 6, 2) := by decide +kernel
theorem dX6_ride_18 : decode cX6_ride 18 = .ok (.if_icmp .lt 25, 3) := by decide +kernel
theorem dX6_ride_21 : decode cX6_ride 21 = .ok (.aload_n 0, 1) := by decide +kernel
theorem dX6_ride_22 : decode cX6_ride 22 = .ok (.iload 4, 2) := by decide +kernel
theorem dX6_ride_24 : decode cX6_ride 24 = .ok (.putfield 57, 3) := by decide +kernel
theorem dX6_ride_27 : decode cX6_ride 27 = .ok (.aload_n 0, 1) := by decide +kernel
theorem dX6_ride_28 : decode cX6_ride 28 = .ok (.getfield 21, 3) := by decide +kernel
theorem dX6_ride_31 : decode cX6_ride 31 = .ok (.iconst 0, 1) := by decide +kernel
theorem dX6_ride_32 : decode cX6_ride 32 = .ok (.aload_n 0, 1) := by decide +kernel
theorem dX6_ride_33 : decode cX6_ride 33 = .ok (.getfield 17, 3) := by decide +kernel
theorem dX6_ride_36 : decode cX6_ride 36 = .ok (.iconst 0, 1) := by decide +kernel
theorem dX6_ride_37 : decode cX6_ride 37 = .ok (.bipush 6, 2) := by decide +kernel
theorem dX6_ride_39 : decode cX6_ride 39 = .ok (.invokestatic 64, 3) := by decide +kernel
theorem dX6_ride_42 : decode cX6_ride 42 = .ok (.return_, 1) := by decide +kernel
theorem dX6_ride_43 : decode cX6_ride 43 = .ok (.aload_n 0, 1) := by decide +kernel
theorem dX6_ride_44 : decode cX6_ride 44 = .ok (.getfield 13, 3) := by decide +kernel
theorem dX6_ride_47 : decode cX6_ride 47 = .ok (.iload_n 3, 1) := by decide +kernel
theorem dX6_ride_48 : decode cX6_ride 48 = .ok (.aaload, 1) := by decide +kernel
theorem dX6_ride_49 : decode cX6_ride 49 = .ok (.astore 5, 2) := by decide +kernel
theorem dX6_ride_51 : decode cX6_ride 51 = .ok (.aload_n 0, 1) := by decide +kernel
theorem dX6_ride_52 : decode cX6_ride 52 = .ok (.getfield 13, 3) := by decide +kernel
theorem dX6_ride_55 : decode cX6_ride 55 = .ok (.iload_n 3, 1) := by decide +kernel
theorem dX6_ride_56 : decode cX6_ride 56 = .ok (.iconst 1, 1) := by decide +kernel
theorem dX6_ride_57 : decode cX6_ride 57 = .ok (.iadd, 1) := by decide +kernel
theorem dX6_ride_58 : decode cX6_ride 58 = .ok (.aaload, 1) := by decide +kernel
theorem dX6_ride_59 : decode cX6_ride 59 = .ok (.astore 6, 2) := by decide +kernel
theorem dX6_ride_61 : decode cX6_ride 61 = .ok (.iconst 0, 1) := by decide +kernel
theorem dX6_ride_62 : decode cX6_ride 62 = .ok (.istore 7, 2) := by decide +kernel
theorem dX6_ride_64 : decode cX6_ride 64 = .ok (.iload 7, 2) := by decide +kernel
theorem dX6_ride_66 : decode cX6_ride 66 = .ok (.aload 5, 2) := by decide +kernel
theorem dX6_ride_68 : decode cX6_ride 68 = .ok (.getfield 70, 3) := by decide +kernel
theorem dX6_ride_71 : decode cX6_ride 71 = .ok (.if_icmp .ge 59, 3) := by decide +kernel
theorem dX6_ride_74 : decode cX6_ride 74 = .ok (.aload 5, 2) := by decide +kernel
theorem dX6_ride_76 : decode cX6_ride 76 = .ok (.iload 7, 2) := by decide +kernel
theorem dX6_ride_78 : decode cX6_ride 78 = .ok (.iload_n 1, 1) := by decide +kernel
theorem dX6_ride_79 : decode cX6_ride 79 = .ok (.invokevirtual 43, 3) := by decide +kernel
theorem dX6_ride_82 : decode cX6_ride 82 = .ok (.ifCond .eq 42, 3) := by decide +kernel
theorem dX6_ride_85 : decode cX6_ride 85 = .ok (.aload 6, 2) := by decide +kernel
theorem dX6_ride_87 : decode cX6_ride 87 = .ok (.aload 5, 2) := by decide +kernel
theorem dX6_ride_89 : decode cX6_ride 89 = .ok (.invokevirtual 27, 3) := by decide +kernel
theorem dX6_ride_92 : decode cX6_ride 92 = .ok (.aload 6, 2) := by decide +kernel
theorem dX6_ride_94 : decode cX6_ride 94 = .ok (.iload 7, 2) := by decide +kernel
theorem dX6_ride_96 : decode cX6_ride 96 = .ok (.iload_n 1, 1) := by decide +kernel
theorem dX6_ride_97 : decode cX6_ride 97 = .ok (.invokevirtual 31, 3) := by decide +kernel
theorem dX6_ride_100 : decode cX6_ride 100 = .ok (.istore 8, 2) := by decide +kernel
theorem dX6_ride_102 : decode cX6_ride 102 = .ok (.aload_n 0, 1) := by decide +kernel
theorem dX6_ride_103 : decode cX6_ride 103 = .ok (.getfield 21, 3) := by decide +kernel
theorem dX6_ride_106 : decode cX6_ride 106 = .ok (.iload_n 3, 1) := by decide +kernel
theorem dX6_ride_107 : decode cX6_ride 107 = .ok (.iload 7, 2) := by decide +kernel
theorem dX6_ride_109 : decode cX6_ride 109 = .ok (.iastore, 1) := by decide +kernel
theorem dX6_ride_110 : decode cX6_ride 110 = .ok (.aload_n 0, 1) := by decide +kernel
theorem dX6_ride_111 : decode cX6_ride 111 = .ok (.iload_n 1, 1) := by decide +kernel
theorem dX6_ride_112 : decode cX6_ride 112 = .ok (.iload_n 2, 1) := by decide +kernel
theorem dX6_ride_113 : decode cX6_ride 113 = .ok (.iload_n 3, 1) := by decide +kernel
theorem dX6_ride_114 : decode cX6_ride 114 = .ok (.iconst 1, 1) := by decide +kernel
theorem dX6_ride_115 : decode cX6_ride 115 = .ok (.iadd, 1) := by decide +kernel
theorem dX6_ride_116 : decode cX6_ride 116 = .ok (.iload 4, 2) := by decide +kernel
theorem dX6_ride_118 : decode cX6_ride 118 = .ok (.iload 8, 2) := by decide +kernel
theorem dX6_ride_120 : decode cX6_ride 120 = .ok (.iadd, 1) := by decide +kernel
theorem dX6_ride_121 : decode cX6_ride 121 = .ok (.invokestatic 60, 3) := by decide +kernel
theorem dX6_ride_124 : decode cX6_ride 124 = .ok (.iinc 7 1, 3) := by decide +kernel
theorem dX6_ride_127 : decode cX6_ride 127 = .ok (.goto (-63), 3) := by decide +kernel
theorem dX6_ride_130 : decode cX6_ride 130 = .ok (.return_, 1) := by decide +kernel
theorem dX6_findRows_0 : decode cX6_findRows 0 = .ok (.aload_n 0, 1) := by decide +kernel
theorem dX6_findRows_1 : decode cX6_findRows 1 = .ok (.iconst 0, 1) := by decide +kernel
theorem dX6_findRows_2 : decode cX6_findRows 2 = .ok (.putfield 73, 3) := by decide +kernel
theorem dX6_findRows_5 : decode cX6_findRows 5 = .ok (.aload_n 0, 1) := by decide +kernel
theorem dX6_findRows_6 : decode cX6_findRows 6 = .ok (.iconst 0, 1) := by decide +kernel
theorem dX6_findRows_7 : decode cX6_findRows 7 = .ok (.putfield 76, 3) := by decide +kernel
theorem dX6_findRows_10 : decode cX6_findRows 10 = .ok (.aload_n 1, 1) := by decide +kernel
theorem dX6_findRows_11 : decode cX6_findRows 11 = .ok (.getfield 70, 3) := by decide +kernel
theorem dX6_findRows_14 : decode cX6_findRows 14 = .ok (.aload_n 2, 1) := by decide +kernel
theorem dX6_findRows_15 : decode cX6_findRows 15 = .ok (.getfield 70, 3) := by decide +kernel
theorem dX6_findRows_18 : decode cX6_findRows 18 = .ok (.if_icmp .eq 4, 3) := by decide +kernel
theorem dX6_findRows_21 : decode cX6_findRows 21 = .ok (.return_, 1) := by decide +kernel
theorem dX6_findRows_22 : decode cX6_findRows 22 = .ok (.aload_n 0, 1) := by decide +kernel
theorem dX6_findRows_23 : decode cX6_findRows 23 = .ok (.getfield 13, 3) := by decide +kernel
theorem dX6_findRows_26 : decode cX6_findRows 26 = .ok (.iconst 0, 1) := by decide +kernel
theorem dX6_findRows_27 : decode cX6_findRows 27 = .ok (.aaload, 1) := by decide +kernel
theorem dX6_findRows_28 : decode cX6_findRows 28 = .ok (.aload_n 1, 1) := by decide +kernel
theorem dX6_findRows_29 : decode cX6_findRows 29 = .ok (.invokevirtual 27, 3) := by decide +kernel
theorem dX6_findRows_32 : decode cX6_findRows 32 = .ok (.aload_n 0, 1) := by decide +kernel
theorem dX6_findRows_33 : decode cX6_findRows 33 = .ok (.aload_n 1, 1) := by decide +kernel
theorem dX6_findRows_34 : decode cX6_findRows 34 = .ok (.invokevirtual 79, 3) := by decide +kernel
theorem dX6_findRows_37 : decode cX6_findRows 37 = .ok (.putfield 83, 3) := by decide +kernel
theorem dX6_findRows_40 : decode cX6_findRows 40 = .ok (.aload_n 0, 1) := by decide +kernel
theorem dX6_findRows_41 : decode cX6_findRows 41 = .ok (.aload_n 2, 1) := by decide +kernel
theorem dX6_findRows_42 : decode cX6_findRows 42 = .ok (.iload_n 3, 1) := by decide +kernel
theorem dX6_findRows_43 : decode cX6_findRows 43 = .ok (.iconst 0, 1) := by decide +kernel
theorem dX6_findRows_44 : decode cX6_findRows 44 = .ok (.iconst 0, 1) := by decide +kernel
theorem dX6_findRows_45 : decode cX6_findRows 45 = .ok (.invokestatic 87, 3) := by decide +kernel
theorem dX6_findRows_48 : decode cX6_findRows 48 = .ok (.return_, 1) := by decide +kernel
theorem dX6_follow_0 : decode cX6_follow 0 = .ok (.aload_n 0, 1) := by decide +kernel
theorem dX6_follow_1 : decode cX6_follow 1 = .ok (.getfield 13, 3) := by decide +kernel
theorem dX6_follow_4 : decode cX6_follow 4 = .ok (.iload_n 3, 1) := by decide +kernel
theorem dX6_follow_5 : decode cX6_follow 5 = .ok (.aaload, 1) := by decide +kernel
theorem dX6_follow_6 : decode cX6_follow 6 = .ok (.astore 5, 2) := by decide +kernel
theorem dX6_follow_8 : decode cX6_follow 8 = .ok (.aload 5, 2) := by decide +kernel
theorem dX6_follow_10 : decode cX6_follow 10 = .ok (.aload_n 1, 1) := by decide +kernel
theorem dX6_follow_11 : decode cX6_follow 11 = .ok (.invokevirtual 91, 3) := by decide +kernel
theorem dX6_follow_14 : decode cX6_follow 14 = .ok (.istore 6, 2) := by decide +kernel
theorem dX6_follow_16 : decode cX6_follow 16 = .ok (.iload_n 3, 1) := by decide +kernel
theorem dX6_follow_17 : decode cX6_follow 17 = .ok (.iload_n 2, 1) := by decide +kernel
theorem dX6_follow_18 : decode cX6_follow 18 = .ok (.if_icmp .ge 8, 3) := by decide +kernel
theorem dX6_follow_21 : decode cX6_follow 21 = .ok (.iload_n 3, 1) := by decide +kernel
theorem dX6_follow_22 : decode cX6_follow 22 = .ok (.iconst 3, 1) := by decide +kernel
theorem dX6_follow_23 : decode cX6_follow 23 = .ok (.if_icmp .lt 30, 3) := by decide +kernel
theorem dX6_follow_26 : decode cX6_follow 26 = .ok (.iload 6, 2) := by decide +kernel
theorem dX6_follow_28 : decode cX6_follow 28 = .ok (.ifCond .ne 24, 3) := by decide +kernel
theorem dX6_follow_31 : decode cX6_follow 31 = .ok (.aload_n 0, 1) := by decide +kernel
theorem dX6_follow_32 : decode cX6_follow 32 = .ok (.dup, 1) := by decide +kernel
theorem dX6_follow_33 : decode cX6_follow 33 = .ok (.getfield 73, 3) := by decide +kernel
theorem dX6_follow_36 : decode cX6_follow 36 = .ok (.iconst 1, 1) := by decide +kernel
theorem dX6_follow_37 : decode cX6_follow 37 = .ok (.iadd, 1) := by decide +kernel
theorem dX6_follow_38 : decode cX6_follow 38 = .ok (.putfield 73, 3) := by decide +kernel
theorem dX6_follow_41 : decode cX6_follow 41 = .ok (.aload_n 0, 1) := by decide +kernel
theorem dX6_follow_42 : decode cX6_follow 42 = .ok (.dup, 1) := by decide +kernel
theorem dX6_follow_43 : decode cX6_follow 43 = .ok (.getfield 76, 3) := by decide +kernel
theorem dX6_follow_46 : decode cX6_follow 46 = .ok (.iload 4, 2) := by decide +kernel
theorem dX6_follow_48 : decode cX6_follow 48 = .ok (.ior, 1) := by decide +kernel
theorem dX6_follow_49 : decode cX6_follow 49 = .ok (.putfield 76, 3) := by decide +kernel
theorem dX6_follow_52 : decode cX6_follow 52 = .ok (.return_, 1) := by decide +kernel
theorem dX6_follow_53 : decode cX6_follow 53 = .ok (.aload_n 0, 1) := by decide +kernel
theorem dX6_follow_54 : decode cX6_follow 54 = .ok (.getfield 13, 3) := by decide +kernel
theorem dX6_follow_57 : decode cX6_follow 57 = .ok (.iload_n 3, 1) := by decide +kernel
theorem dX6_follow_58 : decode cX6_follow 58 = .ok (.iconst 1, 1) := by decide +kernel
theorem dX6_follow_59 : decode cX6_follow 59 = .ok (.iadd, 1) := by decide +kernel
theorem dX6_follow_60 : decode cX6_follow 60 = .ok (.aaload, 1) := by decide +kernel
theorem dX6_follow_61 : decode cX6_follow 61 = .ok (.astore 7, 2) := by decide +kernel
theorem dX6_follow_63 : decode cX6_follow 63 = .ok (.iconst 0, 1) := by decide +kernel
theorem dX6_follow_64 : decode cX6_follow 64 = .ok (.istore 8, 2) := by decide +kernel
theorem dX6_follow_66 : decode cX6_follow 66 = .ok (.iload 8, 2) := by decide +kernel
theorem dX6_follow_68 : decode cX6_follow 68 = .ok (.aload 5, 2) := by decide +kernel
theorem dX6_follow_70 : decode cX6_follow 70 = .ok (.getfield 70, 3) := by decide +kernel
theorem dX6_follow_73 : decode cX6_follow 73 = .ok (.if_icmp .ge 107, 3) := by decide +kernel
theorem dX6_follow_76 : decode cX6_follow 76 = .ok (.iload 6, 2) := by decide +kernel
theorem dX6_follow_78 : decode cX6_follow 78 = .ok (.iconst 1, 1) := by decide +kernel
theorem dX6_follow_79 : decode cX6_follow 79 = .ok (.iload 8, 2) := by decide +kernel
theorem dX6_follow_81 : decode cX6_follow 81 = .ok (.ishl, 1) := by decide +kernel
theorem dX6_follow_82 : decode cX6_follow 82 = .ok (.iconst (-1), 1) := by decide +kernel
theorem dX6_follow_83 : decode cX6_follow 83 = .ok (.ixor, 1) := by decide +kernel
theorem dX6_follow_84 : decode cX6_follow 84 = .ok (.iand, 1) := by decide +kernel
theorem dX6_follow_85 : decode cX6_follow 85 = .ok (.invokestatic 95, 3) := by decide +kernel
theorem dX6_follow_88 : decode cX6_follow 88 = .ok (.istore 9, 2) := by decide +kernel
theorem dX6_follow_90 : decode cX6_follow 90 = .ok (.aload_n 0, 1) := by decide +kernel
theorem dX6_follow_91 : decode cX6_follow 91 = .ok (.getfield 83, 3) := by decide +kernel
theorem dX6_follow_94 : decode cX6_follow 94 = .ok (.ifCond .ne 16, 3) := by decide +kernel
theorem dX6_follow_97 : decode cX6_follow 97 = .ok (.iload 9, 2) := by decide +kernel
theorem dX6_follow_99 : decode cX6_follow 99 = .ok (.iload_n 2, 1) := by decide +kernel
theorem dX6_follow_100 : decode cX6_follow 100 = .ok (.iload_n 3, 1) := by decide +kernel
theorem dX6_follow_101 : decode cX6_follow 101 = .ok (.isub, 1) := by decide +kernel
theorem dX6_follow_102 : decode cX6_follow 102 = .ok (.iconst 1, 1) := by decide +kernel
theorem dX6_follow_103 : decode cX6_follow 103 = .ok (.isub, 1) := by decide +kernel
theorem dX6_follow_104 : decode cX6_follow 104 = .ok (.if_icmp .le 6, 3) := by decide +kernel
theorem dX6_follow_107 : decode cX6_follow 107 = .ok (.goto 67, 3) := by decide +kernel
theorem dX6_follow_110 : decode cX6_follow 110 = .ok (.iconst 0, 1) := by decide +kernel
theorem dX6_follow_111 : decode cX6_follow 111 = .ok (.istore 10, 2) := by decide +kernel
theorem dX6_follow_113 : decode cX6_follow 113 = .ok (.iload 10, 2) := by decide +kernel
theorem dX6_follow_115 : decode cX6_follow 115 = .ok (.aload 5, 2) := by decide +kernel
theorem dX6_follow_117 : decode cX6_follow 117 = .ok (.getfield 50, 3) := by decide +kernel
theorem dX6_follow_120 : decode cX6_follow 120 = .ok (.if_icmp .ge 54, 3) := by decide +kernel
theorem dX6_follow_123 : decode cX6_follow 123 = .ok (.aload 5, 2) := by decide +kernel
theorem dX6_follow_125 : decode cX6_follow 125 = .ok (.iload 8, 2) := by decide +kernel
theorem dX6_follow_127 : decode cX6_follow 127 = .ok (.iload 10, 2) := by decide +kernel
theorem dX6_follow_129 : decode cX6_follow 129 = .ok (.invokevirtual 43, 3) := by decide +kernel
theorem dX6_follow_132 : decode cX6_follow 132 = .ok (.ifCond .eq 36, 3) := by decide +kernel
theorem dX6_follow_135 : decode cX6_follow 135 = .ok (.aload 7, 2) := by decide +kernel
theorem dX6_follow_137 : decode cX6_follow 137 = .ok (.aload 5, 2) := by decide +kernel
theorem dX6_follow_139 : decode cX6_follow 139 = .ok (.invokevirtual 27, 3) := by decide +kernel
theorem dX6_follow_142 : decode cX6_follow 142 = .ok (.aload 7, 2) := by decide +kernel
theorem dX6_follow_144 : decode cX6_follow 144 = .ok (.iload 8, 2) := by decide +kernel
theorem dX6_follow_146 : decode cX6_follow 146 = .ok (.iload 10, 2) := by decide +kernel
theorem dX6_follow_148 : decode cX6_follow 148 = .ok (.invokevirtual 31, 3) := by decide +kernel
theorem dX6_follow_151 : decode cX6_follow 151 = .ok (.pop, 1) := by decide +kernel
theorem dX6_follow_152 : decode cX6_follow 152 = .ok (.aload_n 0, 1) := by decide +kernel
theorem dX6_follow_153 : decode cX6_follow 153 = .ok (.aload_n 1, 1) := by decide +kernel
theorem dX6_follow_154 : decode cX6_follow 154 = .ok (.iload_n 2, 1) := by decide +kernel
theorem dX6_follow_155 : decode cX6_follow 155 = .ok (.iload_n 3, 1) := by decide +kernel
theorem dX6_follow_156 : decode cX6_follow 156 = .ok (.iconst 1, 1) := by decide +kernel
theorem dX6_follow_157 : decode cX6_follow 157 = .ok (.iadd, 1) := by decide +kernel
theorem dX6_follow_158 : decode cX6_follow 158 = .ok (.iload 4, 2) := by decide +kernel
theorem dX6_follow_160 : decode cX6_follow 160 = .ok (.iconst 1, 1) := by decide +kernel
theorem dX6_follow_161 : decode cX6_follow 161 = .ok (.iload 10, 2) := by decide +kernel
theorem dX6_follow_163 : decode cX6_follow 163 = .ok (.ishl, 1) := by decide +kernel
theorem dX6_follow_164 : decode cX6_follow 164 = .ok (.ior, 1) := by decide +kernel
theorem dX6_follow_165 : decode cX6_follow 165 = .ok (.invokestatic 87, 3) := by decide +kernel
theorem dX6_follow_168 : decode cX6_follow 168 = .ok (.iinc 10 1, 3) := by decide +kernel
theorem dX6_follow_171 : decode cX6_follow 171 = .ok (.goto (-58), 3) := by decide +kernel
theorem dX6_follow_174 : decode cX6_follow 174 = .ok (.iinc 8 1, 3) := by decide +kernel
theorem dX6_follow_177 : decode cX6_follow 177 = .ok (.goto (-111), 3) := by decide +kernel
theorem dX6_follow_180 : decode cX6_follow 180 = .ok (.return_, 1) := by decide +kernel
theorem dX7_init_0 : decode cX7_init 0 = .ok (.aload_n 0, 1) := by decide +kernel
theorem dX7_init_1 : decode cX7_init 1 = .ok (.invokespecial 3, 3) := by decide +kernel
theorem dX7_init_4 : decode cX7_init 4 = .ok (.aload_n 0, 1) := by decide +kernel
theorem dX7_init_5 : decode cX7_init 5 = .ok (.bipush 8, 2) := by decide +kernel
theorem dX7_init_7 : decode cX7_init 7 = .ok (.newarray .int, 2) := by decide +kernel
theorem dX7_init_9 : decode cX7_init 9 = .ok (.putfield 9, 3) := by decide +kernel
theorem dX7_init_12 : decode cX7_init 12 = .ok (.aload_n 0, 1) := by decide +kernel
theorem dX7_init_13 : decode cX7_init 13 = .ok (.bipush 8, 2) := by decide +kernel
theorem dX7_init_15 : decode cX7_init 15 = .ok (.newarray .int, 2) := by decide +kernel
theorem dX7_init_17 : decode cX7_init 17 = .ok (.putfield 15, 3) := by decide +kernel
theorem dX7_init_20 : decode cX7_init 20 = .ok (.aload_n 0, 1) := by decide +kernel
theorem dX7_init_21 : decode cX7_init 21 = .ok (.iconst 4, 1) := by decide +kernel
theorem dX7_init_22 : decode cX7_init 22 = .ok (.newarray .int, 2) := by decide +kernel
theorem dX7_init_24 : decode cX7_init 24 = .ok (.putfield 18, 3) := by decide +kernel
theorem dX7_init_27 : decode cX7_init 27 = .ok (.aload_n 0, 1) := by decide +kernel
theorem dX7_init_28 : decode cX7_init 28 = .ok (.iconst 4, 1) := by decide +kernel
theorem dX7_init_29 : decode cX7_init 29 = .ok (.newarray .int, 2) := by decide +kernel
theorem dX7_init_31 : decode cX7_init 31 = .ok (.putfield 21, 3) := by decide +kernel
theorem dX7_init_34 : decode cX7_init 34 = .ok (.aload_n 0, 1) := by decide +kernel
theorem dX7_init_35 : decode cX7_init 35 = .ok (.iconst 4, 1) := by decide +kernel
theorem dX7_init_36 : decode cX7_init 36 = .ok (.newarray .int, 2) := by decide +kernel
theorem dX7_init_38 : decode cX7_init 38 = .ok (.putfield 24, 3) := by decide +kernel
theorem dX7_init_41 : decode cX7_init 41 = .ok (.aload_n 0, 1) := by decide +kernel
theorem dX7_init_42 : decode cX7_init 42 = .ok (.iconst 4, 1) := by decide +kernel
theorem dX7_init_43 : decode cX7_init 43 = .ok (.newarray .int, 2) := by decide +kernel
theorem dX7_init_45 : decode cX7_init 45 = .ok (.putfield 27, 3) := by decide +kernel
theorem dX7_init_48 : decode cX7_init 48 = .ok (.aload_n 0, 1) := by decide +kernel
theorem dX7_init_49 : decode cX7_init 49 = .ok (.iconst 4, 1) := by decide +kernel
theorem dX7_init_50 : decode cX7_init 50 = .ok (.newarray .int, 2) := by decide +kernel
theorem dX7_init_52 : decode cX7_init 52 = .ok (.putfield 30, 3) := by decide +kernel
theorem dX7_init_55 : decode cX7_init 55 = .ok (.aload_n 0, 1) := by decide +kernel
theorem dX7_init_56 : decode cX7_init 56 = .ok (.bipush 32, 2) := by decide +kernel
theorem dX7_init_58 : decode cX7_init 58 = .ok (.newarray .int, 2) := by decide +kernel
theorem dX7_init_60 : decode cX7_init 60 = .ok (.putfield 33, 3) := by decide +kernel
theorem dX7_init_63 : decode cX7_init 63 = .ok (.aload_n 0, 1) := by decide +kernel
theorem dX7_init_64 : decode cX7_init 64 = .ok (.aload_n 1, 1) := by decide +kernel
theorem dX7_init_65 : decode cX7_init 65 = .ok (.putfield 36, 3) := by decide +kernel
theorem dX7_init_68 : decode cX7_init 68 = .ok (.aload_n 0, 1) := by decide +kernel
theorem dX7_init_69 : decode cX7_init 69 = .ok (.aload_n 1, 1) := by decide +kernel
theorem dX7_init_70 : decode cX7_init 70 = .ok (.putfield 40, 3) := by decide +kernel
theorem dX7_init_73 : decode cX7_init 73 = .ok (.return_, 1) := by decide +kernel
theorem dX7_copyFrom_0 : decode cX7_copyFrom 0 = .ok (.aload_n 0, 1) := by decide +kernel
theorem dX7_copyFrom_1 : decode cX7_copyFrom 1 = .ok (.aload_n 1, 1) := by decide +kernel
theorem dX7_copyFrom_2 : decode cX7_copyFrom 2 = .ok (.getfield 43, 3) := by decide +kernel
theorem dX7_copyFrom_5 : decode cX7_copyFrom 5 = .ok (.putfield 43, 3) := by decide +kernel
theorem dX7_copyFrom_8 : decode cX7_copyFrom 8 = .ok (.aload_n 0, 1) := by decide +kernel
theorem dX7_copyFrom_9 : decode cX7_copyFrom 9 = .ok (.aload_n 1, 1) := by decide +kernel
theorem dX7_copyFrom_10 : decode cX7_copyFrom 10 = .ok (.getfield 47, 3) := by decide +kernel
theorem dX7_copyFrom_13 : decode cX7_copyFrom 13 = .ok (.putfield 47, 3) := by decide +kernel
theorem dX7_copyFrom_16 : decode cX7_copyFrom 16 = .ok (.aload_n 0, 1) := by decide +kernel
theorem dX7_copyFrom_17 : decode cX7_copyFrom 17 = .ok (.aload_n 1, 1) := by decide +kernel
theorem dX7_copyFrom_18 : decode cX7_copyFrom 18 = .ok (.getfield 50, 3) := by decide +kernel
theorem dX7_copyFrom_21 : decode cX7_copyFrom 21 = .ok (.putfield 50, 3) := by decide +kernel
theorem dX7_copyFrom_24 : decode cX7_copyFrom 24 = .ok (.aload_n 1, 1) := by decide +kernel
theorem dX7_copyFrom_25 : decode cX7_copyFrom 25 = .ok (.getfield 9, 3) := by decide +kernel
theorem dX7_copyFrom_28 : decode cX7_copyFrom 28 = .ok (.iconst 0, 1) := by decide +kernel
theorem dX7_copyFrom_29 : decode cX7_copyFrom 29 = .ok (.aload_n 0, 1) := by decide +kernel
theorem dX7_copyFrom_30 : decode cX7_copyFrom 30 = .ok (.getfield 9, 3) := by decide +kernel
theorem dX7_copyFrom_33 : decode cX7_copyFrom 33 = .ok (.iconst 0, 1) := by decide +kernel
theorem dX7_copyFrom_34 : decode cX7_copyFrom 34 = .ok (.bipush 8, 2) := by decide +kernel
theorem dX7_copyFrom_36 : decode cX7_copyFrom 36 = .ok (.invokestatic 53, 3) := by decide +kernel
theorem dX7_copyFrom_39 : decode cX7_copyFrom 39 = .ok (.aload_n 1, 1) := by decide +kernel
theorem dX7_copyFrom_40 : decode cX7_copyFrom 40 = .ok (.getfield 15, 3) := by decide +kernel
theorem dX7_copyFrom_43 : decode cX7_copyFrom 43 = .ok (.iconst 0, 1) := by decide +kernel
theorem dX7_copyFrom_44 : decode cX7_copyFrom 44 = .ok (.aload_n 0, 1) := by decide +kernel
theorem dX7_copyFrom_45 : decode cX7_copyFrom 45 = .ok (.getfield 15, 3) := by decide +kernel
theorem dX7_copyFrom_48 : decode cX7_copyFrom 48 = .ok (.iconst 0, 1) := by decide +kernel
theorem dX7_copyFrom_49 : decode cX7_copyFrom 49 = .ok (.bipush 8, 2) := by decide +kernel
theorem dX7_copyFrom_51 : decode cX7_copyFrom 51 = .ok (.invokestatic 53, 3) := by decide +kernel
theorem dX7_copyFrom_54 : decode cX7_copyFrom 54 = .ok (.aload_n 1, 1) := by decide +kernel
theorem dX7_copyFrom_55 : decode cX7_copyFrom 55 = .ok (.getfield 18, 3) := by decide +kernel
theorem dX7_copyFrom_58 : decode cX7_copyFrom 58 = .ok (.iconst 0, 1) := by decide +kernel
theorem dX7_copyFrom_59 : decode cX7_copyFrom 59 = .ok (.aload_n 0, 1) := by decide +kernel
theorem dX7_copyFrom_60 : decode cX7_copyFrom 60 = .ok (.getfield 18, 3) := by decide +kernel
theorem dX7_copyFrom_63 : decode cX7_copyFrom 63 = .ok (.iconst 0, 1) := by decide +kernel
theorem dX7_copyFrom_64 : decode cX7_copyFrom 64 = .ok (.iconst 4, 1) := by decide +kernel
theorem dX7_copyFrom_65 : decode cX7_copyFrom 65 = .ok (.invokestatic 53, 3) := by decide +kernel
theorem dX7_copyFrom_68 : decode cX7_copyFrom 68 = .ok (.aload_n 1, 1) := by decide +kernel
theorem dX7_copyFrom_69 : decode cX7_copyFrom 69 = .ok (.getfield 21, 3) := by decide +kernel
theorem dX7_copyFrom_72 : decode cX7_copyFrom 72 = .ok (.iconst 0, 1) := by decide +kernel
theorem dX7_copyFrom_73 : decode cX7_copyFrom 73 = .ok (.aload_n 0, 1) := by decide +kernel
theorem dX7_copyFrom_74 : decode cX7_copyFrom 74 = .ok (.getfield 21, 3) := by decide +kernel
theorem dX7_copyFrom_77 : decode cX7_copyFrom 77 = .ok (.iconst 0, 1) := by decide +kernel
theorem dX7_copyFrom_78 : decode cX7_copyFrom 78 = .ok (.iconst 4, 1) := by decide +kernel
theorem dX7_copyFrom_79 : decode cX7_copyFrom 79 = .ok (.invokestatic 53, 3) := by decide +kernel
theorem dX7_copyFrom_82 : decode cX7_copyFrom 82 = .ok (.aload_n 1, 1) := by decide +kernel
theorem dX7_copyFrom_83 : decode cX7_copyFrom 83 = .ok (.getfield 24, 3) := by decide +kernel
theorem dX7_copyFrom_86 : decode cX7_copyFrom 86 = .ok (.iconst 0, 1) := by decide +kernel
theorem dX7_copyFrom_87 : decode cX7_copyFrom 87 = .ok (.aload_n 0, 1) := by decide +kernel
theorem dX7_copyFrom_88 : decode cX7_copyFrom 88 = .ok (.getfield 24, 3) := by decide +kernel
theorem dX7_copyFrom_91 : decode cX7_copyFrom 91 = .ok (.iconst 0, 1) := by decide +kernel
theorem dX7_copyFrom_92 : decode cX7_copyFrom 92 = .ok (.iconst 4, 1) := by decide +kernel
theorem dX7_copyFrom_93 : decode cX7_copyFrom 93 = .ok (.invokestatic 53, 3) := by decide +kernel
theorem dX7_copyFrom_96 : decode cX7_copyFrom 96 = .ok (.aload_n 1, 1) := by decide +kernel
theorem dX7_copyFrom_97 : decode cX7_copyFrom 97 = .ok (.getfield 27, 3) := by decide +kernel
theorem dX7_copyFrom_100 : decode cX7_copyFrom 100 = .ok (.iconst 0, 1) := by decide +kernel
theorem dX7_copyFrom_101 : decode cX7_copyFrom 101 = .ok (.aload_n 0, 1) := by decide +kernel
theorem dX7_copyFrom_102 : decode cX7_copyFrom 102 = .ok (.getfield 27, 3) := by decide +kernel
theorem dX7_copyFrom_105 : decode cX7_copyFrom 105 = .ok (.iconst 0, 1) := by decide +kernel
theorem dX7_copyFrom_106 : decode cX7_copyFrom 106 = .ok (.iconst 4, 1) := by decide +kernel
theorem dX7_copyFrom_107 : decode cX7_copyFrom 107 = .ok (.invokestatic 53, 3) := by decide +kernel
theorem dX7_copyFrom_110 : decode cX7_copyFrom 110 = .ok (.aload_n 1, 1) := by decide +kernel
theorem dX7_copyFrom_111 : decode cX7_copyFrom 111 = .ok (.getfield 30, 3) := by decide +kernel
theorem dX7_copyFrom_114 : decode cX7_copyFrom 114 = .ok (.iconst 0, 1) := by decide +kernel
theorem dX7_copyFrom_115 : decode cX7_copyFrom 115 = .ok (.aload_n 0, 1) := by decide +kernel
theorem dX7_copyFrom_116 : decode cX7_copyFrom 116 = .ok (.getfield 30, 3) := by decide +kernel
theorem dX7_copyFrom_119 : decode cX7_copyFrom 119 = .ok (.iconst 0, 1) := by decide +kernel
theorem dX7_copyFrom_120 : decode cX7_copyFrom 120 = .ok (.iconst 4, 1) := by decide +kernel
theorem dX7_copyFrom_121 : decode cX7_copyFrom 121 = .ok (.invokestatic 53, 3) := by decide +kernel
theorem dX7_copyFrom_124 : decode cX7_copyFrom 124 = .ok (.aload_n 1, 1) := by decide +kernel
theorem dX7_copyFrom_125 : decode cX7_copyFrom 125 = .ok (.getfield 33, 3) := by decide +kernel
theorem dX7_copyFrom_128 : decode cX7_copyFrom 128 = .ok (.iconst 0, 1) := by decide +kernel
theorem dX7_copyFrom_129 : decode cX7_copyFrom 129 = .ok (.aload_n 0, 1) := by decide +kernel
theorem dX7_copyFrom_130 : decode cX7_copyFrom 130 = .ok (.getfield 33, 3) := by decide +kernel
theorem dX7_copyFrom_133 : decode cX7_copyFrom 133 = .ok (.iconst 0, 1) := by decide +kernel
theorem dX7_copyFrom_134 : decode cX7_copyFrom 134 = .ok (.bipush 32, 2) := by decide +kernel
theorem dX7_copyFrom_136 : decode cX7_copyFrom 136 = .ok (.invokestatic 53, 3) := by decide +kernel
theorem dX7_copyFrom_139 : decode cX7_copyFrom 139 = .ok (.aload_n 0, 1) := by decide +kernel
theorem dX7_copyFrom_140 : decode cX7_copyFrom 140 = .ok (.aload_n 1, 1) := by decide +kernel
theorem dX7_copyFrom_141 : decode cX7_copyFrom 141 = .ok (.getfield 36, 3) := by decide +kernel
theorem dX7_copyFrom_144 : decode cX7_copyFrom 144 = .ok (.putfield 36, 3) := by decide +kernel
theorem dX7_copyFrom_147 : decode cX7_copyFrom 147 = .ok (.aload_n 0, 1) := by decide +kernel
theorem dX7_copyFrom_148 : decode cX7_copyFrom 148 = .ok (.aload_n 1, 1) := by decide +kernel
theorem dX7_copyFrom_149 : decode cX7_copyFrom 149 = .ok (.getfield 40, 3) := by decide +kernel
theorem dX7_copyFrom_152 : decode cX7_copyFrom 152 = .ok (.putfield 40, 3) := by decide +kernel
theorem dX7_copyFrom_155 : decode cX7_copyFrom 155 = .ok (.return_, 1) := by decide +kernel
theorem dX7_hasPerson_0 : decode cX7_hasPerson 0 = .ok (.iload_n 1, 1) := by decide +kernel
theorem dX7_hasPerson_1 : decode cX7_hasPerson 1 = .ok (.ifCond .lt 15, 3) := by decide +kernel
theorem dX7_hasPerson_4 : decode cX7_hasPerson 4 = .ok (.iload_n 1, 1) := by decide +kernel
theorem dX7_hasPerson_5 : decode cX7_hasPerson 5 = .ok (.aload_n 0, 1) := by decide +kernel
theorem dX7_hasPerson_6 : decode cX7_hasPerson 6 = .ok (.getfield 47, 3) := by decide +kernel
theorem dX7_hasPerson_9 : decode cX7_hasPerson 9 = .ok (.if_icmp .ge 7, 3) := by decide +kernel
theorem dX7_hasPerson_12 : decode cX7_hasPerson 12 = .ok (.iconst 1, 1) := by decide +kernel
theorem dX7_hasPerson_13 : decode cX7_hasPerson 13 = .ok (.goto 4, 3) := by decide +kernel
theorem dX7_hasPerson_16 : decode cX7_hasPerson 16 = .ok (.iconst 0, 1) := by decide +kernel
theorem dX7_hasPerson_17 : decode cX7_hasPerson 17 = .ok (.ireturn, 1) := by decide +kernel
theorem dX7_hasMan_0 : decode cX7_hasMan 0 = .ok (.iload_n 1, 1) := by decide +kernel
theorem dX7_hasMan_1 : decode cX7_hasMan 1 = .ok (.ifCond .lt 15, 3) := by decide +kernel
theorem dX7_hasMan_4 : decode cX7_hasMan 4 = .ok (.iload_n 1, 1) := by decide +kernel
theorem dX7_hasMan_5 : decode cX7_hasMan 5 = .ok (.aload_n 0, 1) := by decide +kernel
theorem dX7_hasMan_6 : decode cX7_hasMan 6 = .ok (.getfield 50, 3) := by decide +kernel
theorem dX7_hasMan_9 : decode cX7_hasMan 9 = .ok (.if_icmp .ge 7, 3) := by decide +kernel
theorem dX7_hasMan_12 : decode cX7_hasMan 12 = .ok (.iconst 1, 1) := by decide +kernel
theorem dX7_hasMan_13 : decode cX7_hasMan 13 = .ok (.goto 4, 3) := by decide +kernel
theorem dX7_hasMan_16 : decode cX7_hasMan 16 = .ok (.iconst 0, 1) := by decide +kernel
theorem dX7_hasMan_17 : decode cX7_hasMan 17 = .ok (.ireturn, 1) := by decide +kernel
theorem dX7_addPerson_0 : decode cX7_addPerson 0 = .ok (.aload_n 0, 1) := by decide +kernel
theorem dX7_addPerson_1 : decode cX7_addPerson 1 = .ok (.getfield 47, 3) := by decide +kernel
theorem dX7_addPerson_4 : decode cX7_addPerson 4 = .ok (.istore_n 2, 1) := by decide +kernel
theorem dX7_addPerson_5 : decode cX7_addPerson 5 = .ok (.aload_n 0, 1) := by decide +kernel
theorem dX7_addPerson_6 : decode cX7_addPerson 6 = .ok (.getfield 9, 3) := by decide +kernel
theorem dX7_addPerson_9 : decode cX7_addPerson 9 = .ok (.iload_n 2, 1) := by decide +kernel
theorem dX7_addPerson_10 : decode cX7_addPerson 10 = .ok (.iload_n 1, 1) := by decide +kernel
theorem dX7_addPerson_11 : decode cX7_addPerson 11 = .ok (.iastore, 1) := by decide +kernel
theorem dX7_addPerson_12 : decode cX7_addPerson 12 = .ok (.aload_n 0, 1) := by decide +kernel
theorem dX7_addPerson_13 : decode cX7_addPerson 13 = .ok (.getfield 15, 3) := by decide +kernel
theorem dX7_addPerson_16 : decode cX7_addPerson 16 = .ok (.iload_n 2, 1) := by decide +kernel
theorem dX7_addPerson_17 : decode cX7_addPerson 17 = .ok (.bipush 20, 2) := by decide +kernel
theorem dX7_addPerson_19 : decode cX7_addPerson 19 = .ok (.iastore, 1) := by decide +kernel
theorem dX7_addPerson_20 : decode cX7_addPerson 20 = .ok (.aload_n 0, 1) := by decide +kernel
theorem dX7_addPerson_21 : decode cX7_addPerson 21 = .ok (.dup, 1) := by decide +kernel
theorem dX7_addPerson_22 : decode cX7_addPerson 22 = .ok (.getfield 47, 3) := by decide +kernel
theorem dX7_addPerson_25 : decode cX7_addPerson 25 = .ok (.iconst 1, 1) := by decide +kernel
theorem dX7_addPerson_26 : decode cX7_addPerson 26 = .ok (.iadd, 1) := by decide +kernel
theorem dX7_addPerson_27 : decode cX7_addPerson 27 = .ok (.putfield 47, 3) := by decide +kernel
theorem dX7_addPerson_30 : decode cX7_addPerson 30 = .ok (.iload_n 2, 1) := by decide +kernel
theorem dX7_addPerson_31 : decode cX7_addPerson 31 = .ok (.ireturn, 1) := by decide +kernel
theorem dX7_addMan_0 : decode cX7_addMan 0 = .ok (.aload_n 0, 1) := by decide +kernel
theorem dX7_addMan_1 : decode cX7_addMan 1 = .ok (.getfield 50, 3) := by decide +kernel
theorem dX7_addMan_4 : decode cX7_addMan 4 = .ok (.istore 4, 2) := by decide +kernel
theorem dX7_addMan_6 : decode cX7_addMan 6 = .ok (.aload_n 0, 1) := by decide +kernel
theorem dX7_addMan_7 : decode cX7_addMan 7 = .ok (.getfield 18, 3) := by decide +kernel
theorem dX7_addMan_10 : decode cX7_addMan 10 = .ok (.iload 4, 2) := by decide +kernel
theorem dX7_addMan_12 : decode cX7_addMan 12 = .ok (.iload_n 1, 1) := by decide +kernel
theorem dX7_addMan_13 : decode cX7_addMan 13 = .ok (.iastore, 1) := by decide +kernel
theorem dX7_addMan_14 : decode cX7_addMan 14 = .ok (.aload_n 0, 1) := by decide +kernel
theorem dX7_addMan_15 : decode cX7_addMan 15 = .ok (.getfield 21, 3) := by decide +kernel
theorem dX7_addMan_18 : decode cX7_addMan 18 = .ok (.iload 4, 2) := by decide +kernel
theorem dX7_addMan_20 : decode cX7_addMan 20 = .ok (.iload_n 2, 1) := by decide +kernel
theorem dX7_addMan_21 : decode cX7_addMan 21 = .ok (.iastore, 1) := by decide +kernel
theorem dX7_addMan_22 : decode cX7_addMan 22 = .ok (.aload_n 0, 1) := by decide +kernel
theorem dX7_addMan_23 : decode cX7_addMan 23 = .ok (.getfield 24, 3) := by decide +kernel
theorem dX7_addMan_26 : decode cX7_addMan 26 = .ok (.iload 4, 2) := by decide +kernel
theorem dX7_addMan_28 : decode cX7_addMan 28 = .ok (.iload_n 3, 1) := by decide +kernel
theorem dX7_addMan_29 : decode cX7_addMan 29 = .ok (.iastore, 1) := by decide +kernel
theorem dX7_addMan_30 : decode cX7_addMan 30 = .ok (.aload_n 0, 1) := by decide +kernel
theorem dX7_addMan_31 : decode cX7_addMan 31 = .ok (.getfield 27, 3) := by decide +kernel
theorem dX7_addMan_34 : decode cX7_addMan 34 = .ok (.iload 4, 2) := by decide +kernel
theorem dX7_addMan_36 : decode cX7_addMan 36 = .ok (.iconst 0, 1) := by decide +kernel
theorem dX7_addMan_37 : decode cX7_addMan 37 = .ok (.iastore, 1) := by decide +kernel
theorem dX7_addMan_38 : decode cX7_addMan 38 = .ok (.aload_n 0, 1) := by decide +kernel
theorem dX7_addMan_39 : decode cX7_addMan 39 = .ok (.getfield 30, 3) := by decide +kernel
theorem dX7_addMan_42 : decode cX7_addMan 42 = .ok (.iload 4, 2) := by decide +kernel
theorem dX7_addMan_44 : decode cX7_addMan 44 = .ok (.iconst 0, 1) := by decide +kernel
theorem dX7_addMan_45 : decode cX7_addMan 45 = .ok (.iastore, 1) := by decide +kernel
theorem dX7_addMan_46 : decode cX7_addMan 46 = .ok (.aload_n 0, 1) := by decide +kernel
theorem dX7_addMan_47 : decode cX7_addMan 47 = .ok (.dup, 1) := by decide +kernel
theorem dX7_addMan_48 : decode cX7_addMan 48 = .ok (.getfield 50, 3) := by decide +kernel
theorem dX7_addMan_51 : decode cX7_addMan 51 = .ok (.iconst 1, 1) := by decide +kernel
theorem dX7_addMan_52 : decode cX7_addMan 52 = .ok (.iadd, 1) := by decide +kernel
theorem dX7_addMan_53 : decode cX7_addMan 53 = .ok (.putfield 50, 3) := by decide +kernel
theorem dX7_addMan_56 : decode cX7_addMan 56 = .ok (.iload 4, 2) := by decide +kernel
theorem dX7_addMan_58 : decode cX7_addMan 58 = .ok (.ireturn, 1) := by decide +kernel
theorem dX7_law_0 : decode cX7_law 0 = .ok (.iload_n 1, 1) := by decide +kernel
theorem dX7_law_1 : decode cX7_law 1 = .ok (.ifCond .ne 10, 3) := by decide +kernel
theorem dX7_law_4 : decode cX7_law 4 = .ok (.aload_n 0, 1) := by decide +kernel
theorem dX7_law_5 : decode cX7_law 5 = .ok (.getfield 36, 3) := by decide +kernel
theorem dX7_law_8 : decode cX7_law 8 = .ok (.goto 7, 3) := by decide +kernel
theorem dX7_law_11 : decode cX7_law 11 = .ok (.aload_n 0, 1) := by decide +kernel
theorem dX7_law_12 : decode cX7_law 12 = .ok (.getfield 40, 3) := by decide +kernel
theorem dX7_law_15 : decode cX7_law 15 = .ok (.areturn, 1) := by decide +kernel
theorem dX7_setLaw_0 : decode cX7_setLaw 0 = .ok (.iload_n 1, 1) := by decide +kernel
theorem dX7_setLaw_1 : decode cX7_setLaw 1 = .ok (.ifCond .ne 11, 3) := by decide +kernel
theorem dX7_setLaw_4 : decode cX7_setLaw 4 = .ok (.aload_n 0, 1) := by decide +kernel
theorem dX7_setLaw_5 : decode cX7_setLaw 5 = .ok (.aload_n 2, 1) := by decide +kernel
theorem dX7_setLaw_6 : decode cX7_setLaw 6 = .ok (.putfield 36, 3) := by decide +kernel
theorem dX7_setLaw_9 : decode cX7_setLaw 9 = .ok (.goto 8, 3) := by decide +kernel
theorem dX7_setLaw_12 : decode cX7_setLaw 12 = .ok (.aload_n 0, 1) := by decide +kernel
theorem dX7_setLaw_13 : decode cX7_setLaw 13 = .ok (.aload_n 2, 1) := by decide +kernel
theorem dX7_setLaw_14 : decode cX7_setLaw 14 = .ok (.putfield 40, 3) := by decide +kernel
theorem dX7_setLaw_17 : decode cX7_setLaw 17 = .ok (.return_, 1) := by decide +kernel
theorem dX7_keeps_0 : decode cX7_keeps 0 = .ok (.aload_n 0, 1) := by decide +kernel
theorem dX7_keeps_1 : decode cX7_keeps 1 = .ok (.getfield 21, 3) := by decide +kernel
theorem dX7_keeps_4 : decode cX7_keeps 4 = .ok (.iload_n 1, 1) := by decide +kernel
theorem dX7_keeps_5 : decode cX7_keeps 5 = .ok (.iaload, 1) := by decide +kernel
theorem dX7_keeps_6 : decode cX7_keeps 6 = .ok (.istore_n 2, 1) := by decide +kernel
theorem dX7_keeps_7 : decode cX7_keeps 7 = .ok (.aload_n 0, 1) := by decide +kernel
theorem dX7_keeps_8 : decode cX7_keeps 8 = .ok (.getfield 18, 3) := by decide +kernel
theorem dX7_keeps_11 : decode cX7_keeps 11 = .ok (.iload_n 1, 1) := by decide +kernel
theorem dX7_keeps_12 : decode cX7_keeps 12 = .ok (.iaload, 1) := by decide +kernel
theorem dX7_keeps_13 : decode cX7_keeps 13 = .ok (.tableswitch 94 1 6 #[39, 94, 46, 51, 94, 60], 39) := by decide +kernel
theorem dX7_keeps_52 : decode cX7_keeps 52 = .ok (.iconst 3, 1) := by decide +kernel
theorem dX7_keeps_53 : decode cX7_keeps 53 = .ok (.iload_n 2, 1) := by decide +kernel
theorem dX7_keeps_54 : decode cX7_keeps 54 = .ok (.iadd, 1) := by decide +kernel
theorem dX7_keeps_55 : decode cX7_keeps 55 = .ok (.istore_n 3, 1) := by decide +kernel
theorem dX7_keeps_56 : decode cX7_keeps 56 = .ok (.goto 53, 3) := by decide +kernel
theorem dX7_keeps_59 : decode cX7_keeps 59 = .ok (.iconst 0, 1) := by decide +kernel
theorem dX7_keeps_60 : decode cX7_keeps 60 = .ok (.istore_n 3, 1) := by decide +kernel
theorem dX7_keeps_61 : decode cX7_keeps 61 = .ok (.goto 48, 3) := by decide +kernel
theorem dX7_keeps_64 : decode cX7_keeps 64 = .ok (.iconst 3, 1) := by decide +kernel
theorem dX7_keeps_65 : decode cX7_keeps 65 = .ok (.iload_n 2, 1) := by decide +kernel
theorem dX7_keeps_66 : decode cX7_keeps 66 = .ok (.iadd, 1) := by decide +kernel
theorem dX7_keeps_67 : decode cX7_keeps 67 = .ok (.iconst 1, 1) := by decide +kernel
theorem dX7_keeps_68 : decode cX7_keeps 68 = .ok (.isub, 1) := by decide +kernel
theorem dX7_keeps_69 : decode cX7_keeps 69 = .ok (.istore_n 3, 1) := by decide +kernel
theorem dX7_keeps_70 : decode cX7_keeps 70 = .ok (.goto 39, 3) := by decide +kernel
theorem dX7_keeps_73 : decode cX7_keeps 73 = .ok (.aload_n 0, 1) := by decide +kernel
theorem dX7_keeps_74 : decode cX7_keeps 74 = .ok (.getfield 36, 3) := by decide +kernel
theorem dX7_keeps_77 : decode cX7_keeps 77 = .ok (.invokevirtual 59, 3) := by decide +kernel
theorem dX7_keeps_80 : decode cX7_keeps 80 = .ok (.ifCond .eq 22, 3) := by decide +kernel
theorem dX7_keeps_83 : decode cX7_keeps 83 = .ok (.aload_n 0, 1) := by decide +kernel
theorem dX7_keeps_84 : decode cX7_keeps 84 = .ok (.getfield 36, 3) := by decide +kernel
theorem dX7_keeps_87 : decode cX7_keeps 87 = .ok (.iload_n 2, 1) := by decide +kernel
theorem dX7_keeps_88 : decode cX7_keeps 88 = .ok (.aload_n 0, 1) := by decide +kernel
theorem dX7_keeps_89 : decode cX7_keeps 89 = .ok (.getfield 43, 3) := by decide +kernel
theorem dX7_keeps_92 : decode cX7_keeps 92 = .ok (.aload_n 0, 1) := by decide +kernel
theorem dX7_keeps_93 : decode cX7_keeps 93 = .ok (.getfield 47, 3) := by decide +kernel
theorem dX7_keeps_96 : decode cX7_keeps 96 = .ok (.invokevirtual 65, 3) := by decide +kernel
theorem dX7_keeps_99 : decode cX7_keeps 99 = .ok (.goto 4, 3) := by decide +kernel
theorem dX7_keeps_102 : decode cX7_keeps 102 = .ok (.iload_n 2, 1) := by decide +kernel
theorem dX7_keeps_103 : decode cX7_keeps 103 = .ok (.istore_n 3, 1) := by decide +kernel
theorem dX7_keeps_104 : decode cX7_keeps 104 = .ok (.goto 5, 3) := by decide +kernel
theorem dX7_keeps_107 : decode cX7_keeps 107 = .ok (.iconst 3, 1) := by decide +kernel
theorem dX7_keeps_108 : decode cX7_keeps 108 = .ok (.istore_n 3, 1) := by decide +kernel
theorem dX7_keeps_109 : decode cX7_keeps 109 = .ok (.iload_n 3, 1) := by decide +kernel
theorem dX7_keeps_110 : decode cX7_keeps 110 = .ok (.bipush 8, 2) := by decide +kernel
theorem dX7_keeps_112 : decode cX7_keeps 112 = .ok (.invokestatic 69, 3) := by decide +kernel
theorem dX7_keeps_115 : decode cX7_keeps 115 = .ok (.ireturn, 1) := by decide +kernel
theorem dX7_fare_0 : decode cX7_fare 0 = .ok (.aload_n 0, 1) := by decide +kernel
theorem dX7_fare_1 : decode cX7_fare 1 = .ok (.getfield 21, 3) := by decide +kernel
theorem dX7_fare_4 : decode cX7_fare 4 = .ok (.iload_n 1, 1) := by decide +kernel
theorem dX7_fare_5 : decode cX7_fare 5 = .ok (.iaload, 1) := by decide +kernel
theorem dX7_fare_6 : decode cX7_fare 6 = .ok (.istore_n 2, 1) := by decide +kernel
theorem dX7_fare_7 : decode cX7_fare 7 = .ok (.aload_n 0, 1) := by decide +kernel
theorem dX7_fare_8 : decode cX7_fare 8 = .ok (.getfield 30, 3) := by decide +kernel
theorem dX7_fare_11 : decode cX7_fare 11 = .ok (.iload_n 1, 1) := by decide +kernel
theorem dX7_fare_12 : decode cX7_fare 12 = .ok (.iaload, 1) := by decide +kernel
theorem dX7_fare_13 : decode cX7_fare 13 = .ok (.istore_n 3, 1) := by decide +kernel
theorem dX7_fare_14 : decode cX7_fare 14 = .ok (.aload_n 0, 1) := by decide +kernel
theorem dX7_fare_15 : decode cX7_fare 15 = .ok (.getfield 18, 3) := by decide +kernel
theorem dX7_fare_18 : decode cX7_fare 18 = .ok (.iload_n 1, 1) := by decide +kernel
theorem dX7_fare_19 : decode cX7_fare 19 = .ok (.iaload, 1) := by decide +kernel
theorem dX7_fare_20 : decode cX7_fare 20 = .ok (.tableswitch 98 2 6 #[36, 46, 52, 36, 62], 36) := by decide +kernel
theorem dX7_fare_56 : decode cX7_fare 56 = .ok (.iconst 2, 1) := by decide +kernel
theorem dX7_fare_57 : decode cX7_fare 57 = .ok (.iload_n 2, 1) := by decide +kernel
theorem dX7_fare_58 : decode cX7_fare 58 = .ok (.iadd, 1) := by decide +kernel
theorem dX7_fare_59 : decode cX7_fare 59 = .ok (.iconst 2, 1) := by decide +kernel
theorem dX7_fare_60 : decode cX7_fare 60 = .ok (.idiv, 1) := by decide +kernel
theorem dX7_fare_61 : decode cX7_fare 61 = .ok (.istore 4, 2) := by decide +kernel
theorem dX7_fare_63 : decode cX7_fare 63 = .ok (.goto 60, 3) := by decide +kernel
theorem dX7_fare_66 : decode cX7_fare 66 = .ok (.iconst 1, 1) := by decide +kernel
theorem dX7_fare_67 : decode cX7_fare 67 = .ok (.istore 4, 2) := by decide +kernel
theorem dX7_fare_69 : decode cX7_fare 69 = .ok (.goto 54, 3) := by decide +kernel
theorem dX7_fare_72 : decode cX7_fare 72 = .ok (.iconst 2, 1) := by decide +kernel
theorem dX7_fare_73 : decode cX7_fare 73 = .ok (.iload_n 2, 1) := by decide +kernel
theorem dX7_fare_74 : decode cX7_fare 74 = .ok (.iadd, 1) := by decide +kernel
theorem dX7_fare_75 : decode cX7_fare 75 = .ok (.iconst 1, 1) := by decide +kernel
theorem dX7_fare_76 : decode cX7_fare 76 = .ok (.iadd, 1) := by decide +kernel
theorem dX7_fare_77 : decode cX7_fare 77 = .ok (.istore 4, 2) := by decide +kernel
theorem dX7_fare_79 : decode cX7_fare 79 = .ok (.goto 44, 3) := by decide +kernel
theorem dX7_fare_82 : decode cX7_fare 82 = .ok (.aload_n 0, 1) := by decide +kernel
theorem dX7_fare_83 : decode cX7_fare 83 = .ok (.getfield 40, 3) := by decide +kernel
theorem dX7_fare_86 : decode cX7_fare 86 = .ok (.invokevirtual 59, 3) := by decide +kernel
theorem dX7_fare_89 : decode cX7_fare 89 = .ok (.ifCond .eq 21, 3) := by decide +kernel
theorem dX7_fare_92 : decode cX7_fare 92 = .ok (.aload_n 0, 1) := by decide +kernel
theorem dX7_fare_93 : decode cX7_fare 93 = .ok (.getfield 40, 3) := by decide +kernel
theorem dX7_fare_96 : decode cX7_fare 96 = .ok (.iload_n 2, 1) := by decide +kernel
theorem dX7_fare_97 : decode cX7_fare 97 = .ok (.iload_n 3, 1) := by decide +kernel
theorem dX7_fare_98 : decode cX7_fare 98 = .ok (.aload_n 0, 1) := by decide +kernel
theorem dX7_fare_99 : decode cX7_fare 99 = .ok (.getfield 24, 3) := by decide +kernel
theorem dX7_fare_102 : decode cX7_fare 102 = .ok (.iload_n 1, 1) := by decide +kernel
theorem dX7_fare_103 : decode cX7_fare 103 = .ok (.iaload, 1) := by decide +kernel
theorem dX7_fare_104 : decode cX7_fare 104 = .ok (.invokevirtual 65, 3) := by decide +kernel
theorem dX7_fare_107 : decode cX7_fare 107 = .ok (.goto 6, 3) := by decide +kernel
theorem dX7_fare_110 : decode cX7_fare 110 = .ok (.iload_n 2, 1) := by decide +kernel
theorem dX7_fare_111 : decode cX7_fare 111 = .ok (.iload_n 3, 1) := by decide +kernel
theorem dX7_fare_112 : decode cX7_fare 112 = .ok (.iadd, 1) := by decide +kernel
theorem dX7_fare_113 : decode cX7_fare 113 = .ok (.istore 4, 2) := by decide +kernel
theorem dX7_fare_115 : decode cX7_fare 115 = .ok (.goto 8, 3) := by decide +kernel
theorem dX7_fare_118 : decode cX7_fare 118 = .ok (.iconst 2, 1) := by decide +kernel
theorem dX7_fare_119 : decode cX7_fare 119 = .ok (.iload_n 2, 1) := by decide +kernel
theorem dX7_fare_120 : decode cX7_fare 120 = .ok (.iadd, 1) := by decide +kernel
theorem dX7_fare_121 : decode cX7_fare 121 = .ok (.istore 4, 2) := by decide +kernel
theorem dX7_fare_123 : decode cX7_fare 123 = .ok (.iload 4, 2) := by decide +kernel
theorem dX7_fare_125 : decode cX7_fare 125 = .ok (.bipush 99, 2) := by decide +kernel
theorem dX7_fare_127 : decode cX7_fare 127 = .ok (.invokestatic 69, 3) := by decide +kernel
theorem dX7_fare_130 : decode cX7_fare 130 = .ok (.ireturn, 1) := by decide +kernel
theorem dX7_face_0 : decode cX7_face 0 = .ok (.iload_n 2, 1) := by decide +kernel
theorem dX7_face_1 : decode cX7_face 1 = .ok (.aload_n 0, 1) := by decide +kernel
theorem dX7_face_2 : decode cX7_face 2 = .ok (.getfield 30, 3) := by decide +kernel
theorem dX7_face_5 : decode cX7_face 5 = .ok (.iload_n 1, 1) := by decide +kernel
theorem dX7_face_6 : decode cX7_face 6 = .ok (.iaload, 1) := by decide +kernel
theorem dX7_face_7 : decode cX7_face 7 = .ok (.if_icmp .ge 17, 3) := by decide +kernel
theorem dX7_face_10 : decode cX7_face 10 = .ok (.aload_n 0, 1) := by decide +kernel
theorem dX7_face_11 : decode cX7_face 11 = .ok (.getfield 33, 3) := by decide +kernel
theorem dX7_face_14 : decode cX7_face 14 = .ok (.iload_n 1, 1) := by decide +kernel
theorem dX7_face_15 : decode cX7_face 15 = .ok (.bipush 8, 2) := by decide +kernel
theorem dX7_face_17 : decode cX7_face 17 = .ok (.imul, 1) := by decide +kernel
theorem dX7_face_18 : decode cX7_face 18 = .ok (.iload_n 2, 1) := by decide +kernel
theorem dX7_face_19 : decode cX7_face 19 = .ok (.iadd, 1) := by decide +kernel
theorem dX7_face_20 : decode cX7_face 20 = .ok (.iaload, 1) := by decide +kernel
theorem dX7_face_21 : decode cX7_face 21 = .ok (.goto 4, 3) := by decide +kernel
theorem dX7_face_24 : decode cX7_face 24 = .ok (.iconst (-1), 1) := by decide +kernel
theorem dX7_face_25 : decode cX7_face 25 = .ok (.ireturn, 1) := by decide +kernel
theorem dX7_placeOf_0 : decode cX7_placeOf 0 = .ok (.iconst 0, 1) := by decide +kernel
theorem dX7_placeOf_1 : decode cX7_placeOf 1 = .ok (.istore_n 3, 1) := by decide +kernel
theorem dX7_placeOf_2 : decode cX7_placeOf 2 = .ok (.iload_n 3, 1) := by decide +kernel
theorem dX7_placeOf_3 : decode cX7_placeOf 3 = .ok (.aload_n 0, 1) := by decide +kernel
theorem dX7_placeOf_4 : decode cX7_placeOf 4 = .ok (.getfield 30, 3) := by decide +kernel
theorem dX7_placeOf_7 : decode cX7_placeOf 7 = .ok (.iload_n 1, 1) := by decide +kernel
theorem dX7_placeOf_8 : decode cX7_placeOf 8 = .ok (.iaload, 1) := by decide +kernel
theorem dX7_placeOf_9 : decode cX7_placeOf 9 = .ok (.if_icmp .ge 26, 3) := by decide +kernel
theorem dX7_placeOf_12 : decode cX7_placeOf 12 = .ok (.aload_n 0, 1) := by decide +kernel
theorem dX7_placeOf_13 : decode cX7_placeOf 13 = .ok (.getfield 33, 3) := by decide +kernel
theorem dX7_placeOf_16 : decode cX7_placeOf 16 = .ok (.iload_n 1, 1) := by decide +kernel
theorem dX7_placeOf_17 : decode cX7_placeOf 17 = .ok (.bipush 8, 2) := by decide +kernel
theorem dX7_placeOf_19 : decode cX7_placeOf 19 = .ok (.imul, 1) := by decide +kernel
theorem dX7_placeOf_20 : decode cX7_placeOf 20 = .ok (.iload_n 3, 1) := by decide +kernel
theorem dX7_placeOf_21 : decode cX7_placeOf 21 = .ok (.iadd, 1) := by decide +kernel
theorem dX7_placeOf_22 : decode cX7_placeOf 22 = .ok (.iaload, 1) := by decide +kernel
theorem dX7_placeOf_23 : decode cX7_placeOf 23 = .ok (.iload_n 2, 1) := by decide +kernel
theorem dX7_placeOf_24 : decode cX7_placeOf 24 = .ok (.if_icmp .ne 5, 3) := by decide +kernel
theorem dX7_placeOf_27 : decode cX7_placeOf 27 = .ok (.iload_n 3, 1) := by decide +kernel
theorem dX7_placeOf_28 : decode cX7_placeOf 28 = .ok (.ireturn, 1) := by decide +kernel
theorem dX7_placeOf_29 : decode cX7_placeOf 29 = .ok (.iinc 3 1, 3) := by decide +kernel
theorem dX7_placeOf_32 : decode cX7_placeOf 32 = .ok (.goto (-30), 3) := by decide +kernel
theorem dX7_placeOf_35 : decode cX7_placeOf 35 = .ok (.iconst (-1), 1) := by decide +kernel
theorem dX7_placeOf_36 : decode cX7_placeOf 36 = .ok (.ireturn, 1) := by decide +kernel
theorem dX7_knows_0 : decode cX7_knows 0 = .ok (.aload_n 0, 1) := by decide +kernel
theorem dX7_knows_1 : decode cX7_knows 1 = .ok (.iload_n 1, 1) := by decide +kernel
theorem dX7_knows_2 : decode cX7_knows 2 = .ok (.iload_n 2, 1) := by decide +kernel
theorem dX7_knows_3 : decode cX7_knows 3 = .ok (.invokevirtual 73, 3) := by decide +kernel
theorem dX7_knows_6 : decode cX7_knows 6 = .ok (.ifCond .lt 7, 3) := by decide +kernel
theorem dX7_knows_9 : decode cX7_knows 9 = .ok (.iconst 1, 1) := by decide +kernel
theorem dX7_knows_10 : decode cX7_knows 10 = .ok (.goto 4, 3) := by decide +kernel
theorem dX7_knows_13 : decode cX7_knows 13 = .ok (.iconst 0, 1) := by decide +kernel
theorem dX7_knows_14 : decode cX7_knows 14 = .ok (.ireturn, 1) := by decide +kernel
theorem dX7_bitsOfFaces_0 : decode cX7_bitsOfFaces 0 = .ok (.iconst 0, 1) := by decide +kernel
theorem dX7_bitsOfFaces_1 : decode cX7_bitsOfFaces 1 = .ok (.istore_n 2, 1) := by decide +kernel
theorem dX7_bitsOfFaces_2 : decode cX7_bitsOfFaces 2 = .ok (.iconst 0, 1) := by decide +kernel
theorem dX7_bitsOfFaces_3 : decode cX7_bitsOfFaces 3 = .ok (.istore_n 3, 1) := by decide +kernel
theorem dX7_bitsOfFaces_4 : decode cX7_bitsOfFaces 4 = .ok (.iload_n 3, 1) := by decide +kernel
theorem dX7_bitsOfFaces_5 : decode cX7_bitsOfFaces 5 = .ok (.aload_n 0, 1) := by decide +kernel
theorem dX7_bitsOfFaces_6 : decode cX7_bitsOfFaces 6 = .ok (.getfield 30, 3) := by decide +kernel
theorem dX7_bitsOfFaces_9 : decode cX7_bitsOfFaces 9 = .ok (.iload_n 1, 1) := by decide +kernel
theorem dX7_bitsOfFaces_10 : decode cX7_bitsOfFaces 10 = .ok (.iaload, 1) := by decide +kernel
theorem dX7_bitsOfFaces_11 : decode cX7_bitsOfFaces 11 = .ok (.if_icmp .ge 25, 3) := by decide +kernel
theorem dX7_bitsOfFaces_14 : decode cX7_bitsOfFaces 14 = .ok (.iload_n 2, 1) := by decide +kernel
theorem dX7_bitsOfFaces_15 : decode cX7_bitsOfFaces 15 = .ok (.iconst 1, 1) := by decide +kernel
theorem dX7_bitsOfFaces_16 : decode cX7_bitsOfFaces 16 = .ok (.aload_n 0, 1) := by decide +kernel
theorem dX7_bitsOfFaces_17 : decode cX7_bitsOfFaces 17 = .ok (.getfield 33, 3) := by decide +kernel
theorem dX7_bitsOfFaces_20 : decode cX7_bitsOfFaces 20 = .ok (.iload_n 1, 1) := by decide +kernel
theorem dX7_bitsOfFaces_21 : decode cX7_bitsOfFaces 21 = .ok (.bipush 8, 2) := by decide +kernel
theorem dX7_bitsOfFaces_23 : decode cX7_bitsOfFaces 23 = .ok (.imul, 1) := by decide +kernel
theorem dX7_bitsOfFaces_24 : decode cX7_bitsOfFaces 24 = .ok (.iload_n 3, 1) := by decide +kernel
theorem dX7_bitsOfFaces_25 : decode cX7_bitsOfFaces 25 = .ok (.iadd, 1) := by decide +kernel
theorem dX7_bitsOfFaces_26 : decode cX7_bitsOfFaces 26 = .ok (.iaload, 1) := by decide +kernel
theorem dX7_bitsOfFaces_27 : decode cX7_bitsOfFaces 27 = .ok (.ishl, 1) := by decide +kernel
theorem dX7_bitsOfFaces_28 : decode cX7_bitsOfFaces 28 = .ok (.ior, 1) := by decide +kernel
theorem dX7_bitsOfFaces_29 : decode cX7_bitsOfFaces 29 = .ok (.istore_n 2, 1) := by decide +kernel
theorem dX7_bitsOfFaces_30 : decode cX7_bitsOfFaces 30 = .ok (.iinc 3 1, 3) := by decide +kernel
theorem dX7_bitsOfFaces_33 : decode cX7_bitsOfFaces 33 = .ok (.goto (-29), 3) := by decide +kernel
theorem dX7_bitsOfFaces_36 : decode cX7_bitsOfFaces 36 = .ok (.iload_n 2, 1) := by decide +kernel
theorem dX7_bitsOfFaces_37 : decode cX7_bitsOfFaces 37 = .ok (.ireturn, 1) := by decide +kernel
theorem dX7_bitsOfKnowers_0 : decode cX7_bitsOfKnowers 0 = .ok (.iconst 0, 1) := by decide +kernel
theorem dX7_bitsOfKnowers_1 : decode cX7_bitsOfKnowers 1 = .ok (.istore_n 2, 1) := by decide +kernel
theorem dX7_bitsOfKnowers_2 : decode cX7_bitsOfKnowers 2 = .ok (.iconst 0, 1) := by decide +kernel
theorem dX7_bitsOfKnowers_3 : decode cX7_bitsOfKnowers 3 = .ok (.istore_n 3, 1) := by decide +kernel
theorem dX7_bitsOfKnowers_4 : decode cX7_bitsOfKnowers 4 = .ok (.iload_n 3, 1) := by decide +kernel
theorem dX7_bitsOfKnowers_5 : decode cX7_bitsOfKnowers 5 = .ok (.aload_n 0, 1) := by decide +kernel
theorem dX7_bitsOfKnowers_6 : decode cX7_bitsOfKnowers 6 = .ok (.getfield 50, 3) := by decide +kernel
theorem dX7_bitsOfKnowers_9 : decode cX7_bitsOfKnowers 9 = .ok (.if_icmp .ge 24, 3) := by decide +kernel
theorem dX7_bitsOfKnowers_12 : decode cX7_bitsOfKnowers 12 = .ok (.aload_n 0, 1) := by decide +kernel
theorem dX7_bitsOfKnowers_13 : decode cX7_bitsOfKnowers 13 = .ok (.iload_n 3, 1) := by decide +kernel
theorem dX7_bitsOfKnowers_14 : decode cX7_bitsOfKnowers 14 = .ok (.iload_n 1, 1) := by decide +kernel
theorem dX7_bitsOfKnowers_15 : decode cX7_bitsOfKnowers 15 = .ok (.invokevirtual 76, 3) := by decide +kernel
theorem dX7_bitsOfKnowers_18 : decode cX7_bitsOfKnowers 18 = .ok (.ifCond .eq 9, 3) := by decide +kernel
theorem dX7_bitsOfKnowers_21 : decode cX7_bitsOfKnowers 21 = .ok (.iload_n 2, 1) := by decide +kernel
theorem dX7_bitsOfKnowers_22 : decode cX7_bitsOfKnowers 22 = .ok (.iconst 1, 1) := by decide +kernel
theorem dX7_bitsOfKnowers_23 : decode cX7_bitsOfKnowers 23 = .ok (.iload_n 3, 1) := by decide +kernel
theorem dX7_bitsOfKnowers_24 : decode cX7_bitsOfKnowers 24 = .ok (.ishl, 1) := by decide +kernel
theorem dX7_bitsOfKnowers_25 : decode cX7_bitsOfKnowers 25 = .ok (.ior, 1) := by decide +kernel
theorem dX7_bitsOfKnowers_26 : decode cX7_bitsOfKnowers 26 = .ok (.istore_n 2, 1) := by decide +kernel
theorem dX7_bitsOfKnowers_27 : decode cX7_bitsOfKnowers 27 = .ok (.iinc 3 1, 3) := by decide +kernel
theorem dX7_bitsOfKnowers_30 : decode cX7_bitsOfKnowers 30 = .ok (.goto (-26), 3) := by decide +kernel
theorem dX7_bitsOfKnowers_33 : decode cX7_bitsOfKnowers 33 = .ok (.iload_n 2, 1) := by decide +kernel
theorem dX7_bitsOfKnowers_34 : decode cX7_bitsOfKnowers 34 = .ok (.ireturn, 1) := by decide +kernel
theorem dX7_bitsOfHeap_0 : decode cX7_bitsOfHeap 0 = .ok (.iconst 1, 1) := by decide +kernel
theorem dX7_bitsOfHeap_1 : decode cX7_bitsOfHeap 1 = .ok (.iload_n 1, 1) := by decide +kernel
theorem dX7_bitsOfHeap_2 : decode cX7_bitsOfHeap 2 = .ok (.ishl, 1) := by decide +kernel
theorem dX7_bitsOfHeap_3 : decode cX7_bitsOfHeap 3 = .ok (.istore_n 2, 1) := by decide +kernel
theorem dX7_bitsOfHeap_4 : decode cX7_bitsOfHeap 4 = .ok (.iconst 0, 1) := by decide +kernel
theorem dX7_bitsOfHeap_5 : decode cX7_bitsOfHeap 5 = .ok (.istore_n 3, 1) := by decide +kernel
theorem dX7_bitsOfHeap_6 : decode cX7_bitsOfHeap 6 = .ok (.iload_n 3, 1) := by decide +kernel
theorem dX7_bitsOfHeap_7 : decode cX7_bitsOfHeap 7 = .ok (.aload_n 0, 1) := by decide +kernel
theorem dX7_bitsOfHeap_8 : decode cX7_bitsOfHeap 8 = .ok (.getfield 50, 3) := by decide +kernel
theorem dX7_bitsOfHeap_11 : decode cX7_bitsOfHeap 11 = .ok (.if_icmp .ge 47, 3) := by decide +kernel
theorem dX7_bitsOfHeap_14 : decode cX7_bitsOfHeap 14 = .ok (.iconst 0, 1) := by decide +kernel
theorem dX7_bitsOfHeap_15 : decode cX7_bitsOfHeap 15 = .ok (.istore 4, 2) := by decide +kernel
theorem dX7_bitsOfHeap_17 : decode cX7_bitsOfHeap 17 = .ok (.iload 4, 2) := by decide +kernel
theorem dX7_bitsOfHeap_19 : decode cX7_bitsOfHeap 19 = .ok (.aload_n 0, 1) := by decide +kernel
theorem dX7_bitsOfHeap_20 : decode cX7_bitsOfHeap 20 = .ok (.getfield 50, 3) := by decide +kernel
theorem dX7_bitsOfHeap_23 : decode cX7_bitsOfHeap 23 = .ok (.if_icmp .ge 29, 3) := by decide +kernel
theorem dX7_bitsOfHeap_26 : decode cX7_bitsOfHeap 26 = .ok (.aload_n 0, 1) := by decide +kernel
theorem dX7_bitsOfHeap_27 : decode cX7_bitsOfHeap 27 = .ok (.iload 4, 2) := by decide +kernel
theorem dX7_bitsOfHeap_29 : decode cX7_bitsOfHeap 29 = .ok (.invokevirtual 80, 3) := by decide +kernel
theorem dX7_bitsOfHeap_32 : decode cX7_bitsOfHeap 32 = .ok (.istore 5, 2) := by decide +kernel
theorem dX7_bitsOfHeap_34 : decode cX7_bitsOfHeap 34 = .ok (.iload 5, 2) := by decide +kernel
theorem dX7_bitsOfHeap_36 : decode cX7_bitsOfHeap 36 = .ok (.iload_n 2, 1) := by decide +kernel
theorem dX7_bitsOfHeap_37 : decode cX7_bitsOfHeap 37 = .ok (.iand, 1) := by decide +kernel
theorem dX7_bitsOfHeap_38 : decode cX7_bitsOfHeap 38 = .ok (.ifCond .eq 8, 3) := by decide +kernel
theorem dX7_bitsOfHeap_41 : decode cX7_bitsOfHeap 41 = .ok (.iload_n 2, 1) := by decide +kernel
theorem dX7_bitsOfHeap_42 : decode cX7_bitsOfHeap 42 = .ok (.iload 5, 2) := by decide +kernel
theorem dX7_bitsOfHeap_44 : decode cX7_bitsOfHeap 44 = .ok (.ior, 1) := by decide +kernel
theorem dX7_bitsOfHeap_45 : decode cX7_bitsOfHeap 45 = .ok (.istore_n 2, 1) := by decide +kernel
theorem dX7_bitsOfHeap_46 : decode cX7_bitsOfHeap 46 = .ok (.iinc 4 1, 3) := by decide +kernel
theorem dX7_bitsOfHeap_49 : decode cX7_bitsOfHeap 49 = .ok (.goto (-32), 3) := by decide +kernel
theorem dX7_bitsOfHeap_52 : decode cX7_bitsOfHeap 52 = .ok (.iinc 3 1, 3) := by decide +kernel
theorem dX7_bitsOfHeap_55 : decode cX7_bitsOfHeap 55 = .ok (.goto (-49), 3) := by decide +kernel
theorem dX7_bitsOfHeap_58 : decode cX7_bitsOfHeap 58 = .ok (.iload_n 2, 1) := by decide +kernel
theorem dX7_bitsOfHeap_59 : decode cX7_bitsOfHeap 59 = .ok (.ireturn, 1) := by decide +kernel
theorem dX7_leastOfHeap_0 : decode cX7_leastOfHeap 0 = .ok (.aload_n 0, 1) := by decide +kernel
theorem dX7_leastOfHeap_1 : decode cX7_leastOfHeap 1 = .ok (.iload_n 1, 1) := by decide +kernel
theorem dX7_leastOfHeap_2 : decode cX7_leastOfHeap 2 = .ok (.invokevirtual 84, 3) := by decide +kernel
theorem dX7_leastOfHeap_5 : decode cX7_leastOfHeap 5 = .ok (.istore_n 2, 1) := by decide +kernel
theorem dX7_leastOfHeap_6 : decode cX7_leastOfHeap 6 = .ok (.iconst 0, 1) := by decide +kernel
theorem dX7_leastOfHeap_7 : decode cX7_leastOfHeap 7 = .ok (.istore_n 3, 1) := by decide +kernel
theorem dX7_leastOfHeap_8 : decode cX7_leastOfHeap 8 = .ok (.iload_n 3, 1) := by decide +kernel
theorem dX7_leastOfHeap_9 : decode cX7_leastOfHeap 9 = .ok (.iload_n 1, 1) := by decide +kernel
theorem dX7_leastOfHeap_10 : decode cX7_leastOfHeap 10 = .ok (.if_icmp .ge 20, 3) := by decide +kernel
theorem dX7_leastOfHeap_13 : decode cX7_leastOfHeap 13 = .ok (.iload_n 2, 1) := by decide +kernel
theorem dX7_leastOfHeap_14 : decode cX7_leastOfHeap 14 = .ok (.iload_n 3, 1) := by decide +kernel
theorem dX7_leastOfHeap_15 : decode cX7_leastOfHeap 15 = .ok (.ishr, 1) := by decide +kernel
theorem dX7_leastOfHeap_16 : decode cX7_leastOfHeap 16 = .ok (.iconst 1, 1) := by decide +kernel
theorem dX7_leastOfHeap_17 : decode cX7_leastOfHeap 17 = .ok (.iand, 1) := by decide +kernel
theorem dX7_leastOfHeap_18 : decode cX7_leastOfHeap 18 = .ok (.iconst 1, 1) := by decide +kernel
theorem dX7_leastOfHeap_19 : decode cX7_leastOfHeap 19 = .ok (.if_icmp .ne 5, 3) := by decide +kernel
theorem dX7_leastOfHeap_22 : decode cX7_leastOfHeap 22 = .ok (.iload_n 3, 1) := by decide +kernel
theorem dX7_leastOfHeap_23 : decode cX7_leastOfHeap 23 = .ok (.ireturn, 1) := by decide +kernel
theorem dX7_leastOfHeap_24 : decode cX7_leastOfHeap 24 = .ok (.iinc 3 1, 3) := by decide +kernel
theorem dX7_leastOfHeap_27 : decode cX7_leastOfHeap 27 = .ok (.goto (-19), 3) := by decide +kernel
theorem dX7_leastOfHeap_30 : decode cX7_leastOfHeap 30 = .ok (.iload_n 1, 1) := by decide +kernel
theorem dX7_leastOfHeap_31 : decode cX7_leastOfHeap 31 = .ok (.ireturn, 1) := by decide +kernel
theorem dX7_allCoins_0 : decode cX7_allCoins 0 = .ok (.iconst 0, 1) := by decide +kernel
theorem dX7_allCoins_1 : decode cX7_allCoins 1 = .ok (.istore_n 1, 1) := by decide +kernel
theorem dX7_allCoins_2 : decode cX7_allCoins 2 = .ok (.iconst 0, 1) := by decide +kernel
theorem dX7_allCoins_3 : decode cX7_allCoins 3 = .ok (.istore_n 2, 1) := by decide +kernel
theorem dX7_allCoins_4 : decode cX7_allCoins 4 = .ok (.iload_n 2, 1) := by decide +kernel
theorem dX7_allCoins_5 : decode cX7_allCoins 5 = .ok (.aload_n 0, 1) := by decide +kernel
theorem dX7_allCoins_6 : decode cX7_allCoins 6 = .ok (.getfield 47, 3) := by decide +kernel
theorem dX7_allCoins_9 : decode cX7_allCoins 9 = .ok (.if_icmp .ge 18, 3) := by decide +kernel
theorem dX7_allCoins_12 : decode cX7_allCoins 12 = .ok (.iload_n 1, 1) := by decide +kernel
theorem dX7_allCoins_13 : decode cX7_allCoins 13 = .ok (.aload_n 0, 1) := by decide +kernel
theorem dX7_allCoins_14 : decode cX7_allCoins 14 = .ok (.getfield 15, 3) := by decide +kernel
theorem dX7_allCoins_17 : decode cX7_allCoins 17 = .ok (.iload_n 2, 1) := by decide +kernel
theorem dX7_allCoins_18 : decode cX7_allCoins 18 = .ok (.iaload, 1) := by decide +kernel
theorem dX7_allCoins_19 : decode cX7_allCoins 19 = .ok (.iadd, 1) := by decide +kernel
theorem dX7_allCoins_20 : decode cX7_allCoins 20 = .ok (.istore_n 1, 1) := by decide +kernel
theorem dX7_allCoins_21 : decode cX7_allCoins 21 = .ok (.iinc 2 1, 3) := by decide +kernel
theorem dX7_allCoins_24 : decode cX7_allCoins 24 = .ok (.goto (-20), 3) := by decide +kernel
theorem dX7_allCoins_27 : decode cX7_allCoins 27 = .ok (.iconst 0, 1) := by decide +kernel
theorem dX7_allCoins_28 : decode cX7_allCoins 28 = .ok (.istore_n 2, 1) := by decide +kernel
theorem dX7_allCoins_29 : decode cX7_allCoins 29 = .ok (.iload_n 2, 1) := by decide +kernel
theorem dX7_allCoins_30 : decode cX7_allCoins 30 = .ok (.aload_n 0, 1) := by decide +kernel
theorem dX7_allCoins_31 : decode cX7_allCoins 31 = .ok (.getfield 50, 3) := by decide +kernel
theorem dX7_allCoins_34 : decode cX7_allCoins 34 = .ok (.if_icmp .ge 18, 3) := by decide +kernel
theorem dX7_allCoins_37 : decode cX7_allCoins 37 = .ok (.iload_n 1, 1) := by decide +kernel
theorem dX7_allCoins_38 : decode cX7_allCoins 38 = .ok (.aload_n 0, 1) := by decide +kernel
theorem dX7_allCoins_39 : decode cX7_allCoins 39 = .ok (.getfield 27, 3) := by decide +kernel
theorem dX7_allCoins_42 : decode cX7_allCoins 42 = .ok (.iload_n 2, 1) := by decide +kernel
theorem dX7_allCoins_43 : decode cX7_allCoins 43 = .ok (.iaload, 1) := by decide +kernel
theorem dX7_allCoins_44 : decode cX7_allCoins 44 = .ok (.iadd, 1) := by decide +kernel
theorem dX7_allCoins_45 : decode cX7_allCoins 45 = .ok (.istore_n 1, 1) := by decide +kernel
theorem dX7_allCoins_46 : decode cX7_allCoins 46 = .ok (.iinc 2 1, 3) := by decide +kernel
theorem dX7_allCoins_49 : decode cX7_allCoins 49 = .ok (.goto (-20), 3) := by decide +kernel
theorem dX7_allCoins_52 : decode cX7_allCoins 52 = .ok (.iload_n 1, 1) := by decide +kernel
theorem dX7_allCoins_53 : decode cX7_allCoins 53 = .ok (.ireturn, 1) := by decide +kernel
theorem dX7_meet_0 : decode cX7_meet 0 = .ok (.aload_n 0, 1) := by decide +kernel
theorem dX7_meet_1 : decode cX7_meet 1 = .ok (.getfield 24, 3) := by decide +kernel
theorem dX7_meet_4 : decode cX7_meet 4 = .ok (.iload_n 1, 1) := by decide +kernel
theorem dX7_meet_5 : decode cX7_meet 5 = .ok (.iaload, 1) := by decide +kernel
theorem dX7_meet_6 : decode cX7_meet 6 = .ok (.aload_n 0, 1) := by decide +kernel
theorem dX7_meet_7 : decode cX7_meet 7 = .ok (.getfield 9, 3) := by decide +kernel
theorem dX7_meet_10 : decode cX7_meet 10 = .ok (.iload_n 2, 1) := by decide +kernel
theorem dX7_meet_11 : decode cX7_meet 11 = .ok (.iaload, 1) := by decide +kernel
theorem dX7_meet_12 : decode cX7_meet 12 = .ok (.if_icmp .ne 7, 3) := by decide +kernel
theorem dX7_meet_15 : decode cX7_meet 15 = .ok (.iconst 1, 1) := by decide +kernel
theorem dX7_meet_16 : decode cX7_meet 16 = .ok (.goto 4, 3) := by decide +kernel
theorem dX7_meet_19 : decode cX7_meet 19 = .ok (.iconst 0, 1) := by decide +kernel
theorem dX7_meet_20 : decode cX7_meet 20 = .ok (.ireturn, 1) := by decide +kernel
theorem dX7_howManyWith_0 : decode cX7_howManyWith 0 = .ok (.iconst 0, 1) := by decide +kernel
theorem dX7_howManyWith_1 : decode cX7_howManyWith 1 = .ok (.istore_n 2, 1) := by decide +kernel
theorem dX7_howManyWith_2 : decode cX7_howManyWith 2 = .ok (.iconst 0, 1) := by decide +kernel
theorem dX7_howManyWith_3 : decode cX7_howManyWith 3 = .ok (.istore_n 3, 1) := by decide +kernel
theorem dX7_howManyWith_4 : decode cX7_howManyWith 4 = .ok (.iload_n 3, 1) := by decide +kernel
theorem dX7_howManyWith_5 : decode cX7_howManyWith 5 = .ok (.aload_n 0, 1) := by decide +kernel
theorem dX7_howManyWith_6 : decode cX7_howManyWith 6 = .ok (.getfield 47, 3) := by decide +kernel
theorem dX7_howManyWith_9 : decode cX7_howManyWith 9 = .ok (.if_icmp .ge 21, 3) := by decide +kernel
theorem dX7_howManyWith_12 : decode cX7_howManyWith 12 = .ok (.aload_n 0, 1) := by decide +kernel
theorem dX7_howManyWith_13 : decode cX7_howManyWith 13 = .ok (.iload_n 1, 1) := by decide +kernel
theorem dX7_howManyWith_14 : decode cX7_howManyWith 14 = .ok (.iload_n 3, 1) := by decide +kernel
theorem dX7_howManyWith_15 : decode cX7_howManyWith 15 = .ok (.invokevirtual 87, 3) := by decide +kernel
theorem dX7_howManyWith_18 : decode cX7_howManyWith 18 = .ok (.ifCond .eq 6, 3) := by decide +kernel
theorem dX7_howManyWith_21 : decode cX7_howManyWith 21 = .ok (.iinc 2 1, 3) := by decide +kernel
theorem dX7_howManyWith_24 : decode cX7_howManyWith 24 = .ok (.iinc 3 1, 3) := by decide +kernel
theorem dX7_howManyWith_27 : decode cX7_howManyWith 27 = .ok (.goto (-23), 3) := by decide +kernel
theorem dX7_howManyWith_30 : decode cX7_howManyWith 30 = .ok (.iload_n 2, 1) := by decide +kernel
theorem dX7_howManyWith_31 : decode cX7_howManyWith 31 = .ok (.ireturn, 1) := by decide +kernel
theorem dX7_oneWith_0 : decode cX7_oneWith 0 = .ok (.iload_n 2, 1) := by decide +kernel
theorem dX7_oneWith_1 : decode cX7_oneWith 1 = .ok (.istore_n 3, 1) := by decide +kernel
theorem dX7_oneWith_2 : decode cX7_oneWith 2 = .ok (.iconst 0, 1) := by decide +kernel
theorem dX7_oneWith_3 : decode cX7_oneWith 3 = .ok (.istore 4, 2) := by decide +kernel
theorem dX7_oneWith_5 : decode cX7_oneWith 5 = .ok (.iload 4, 2) := by decide +kernel
theorem dX7_oneWith_7 : decode cX7_oneWith 7 = .ok (.aload_n 0, 1) := by decide +kernel
theorem dX7_oneWith_8 : decode cX7_oneWith 8 = .ok (.getfield 47, 3) := by decide +kernel
theorem dX7_oneWith_11 : decode cX7_oneWith 11 = .ok (.if_icmp .ge 29, 3) := by decide +kernel
theorem dX7_oneWith_14 : decode cX7_oneWith 14 = .ok (.aload_n 0, 1) := by decide +kernel
theorem dX7_oneWith_15 : decode cX7_oneWith 15 = .ok (.iload_n 1, 1) := by decide +kernel
theorem dX7_oneWith_16 : decode cX7_oneWith 16 = .ok (.iload 4, 2) := by decide +kernel
theorem dX7_oneWith_18 : decode cX7_oneWith 18 = .ok (.invokevirtual 87, 3) := by decide +kernel
theorem dX7_oneWith_21 : decode cX7_oneWith 21 = .ok (.ifCond .eq 13, 3) := by decide +kernel
theorem dX7_oneWith_24 : decode cX7_oneWith 24 = .ok (.iload_n 3, 1) := by decide +kernel
theorem dX7_oneWith_25 : decode cX7_oneWith 25 = .ok (.ifCond .ne 6, 3) := by decide +kernel
theorem dX7_oneWith_28 : decode cX7_oneWith 28 = .ok (.iload 4, 2) := by decide +kernel
theorem dX7_oneWith_30 : decode cX7_oneWith 30 = .ok (.ireturn, 1) := by decide +kernel
theorem dX7_oneWith_31 : decode cX7_oneWith 31 = .ok (.iinc 3 (-1), 3) := by decide +kernel
theorem dX7_oneWith_34 : decode cX7_oneWith 34 = .ok (.iinc 4 1, 3) := by decide +kernel
theorem dX7_oneWith_37 : decode cX7_oneWith 37 = .ok (.goto (-32), 3) := by decide +kernel
theorem dX7_oneWith_40 : decode cX7_oneWith 40 = .ok (.iconst 0, 1) := by decide +kernel
theorem dX7_oneWith_41 : decode cX7_oneWith 41 = .ok (.ireturn, 1) := by decide +kernel
theorem dX7_rowOver_0 : decode cX7_rowOver 0 = .ok (.aload_n 0, 1) := by decide +kernel
theorem dX7_rowOver_1 : decode cX7_rowOver 1 = .ok (.getfield 24, 3) := by decide +kernel
theorem dX7_rowOver_4 : decode cX7_rowOver 4 = .ok (.iload_n 1, 1) := by decide +kernel
theorem dX7_rowOver_5 : decode cX7_rowOver 5 = .ok (.iconst 1, 1) := by decide +kernel
theorem dX7_rowOver_6 : decode cX7_rowOver 6 = .ok (.aload_n 0, 1) := by decide +kernel
theorem dX7_rowOver_7 : decode cX7_rowOver 7 = .ok (.getfield 24, 3) := by decide +kernel
theorem dX7_rowOver_10 : decode cX7_rowOver 10 = .ok (.iload_n 1, 1) := by decide +kernel
theorem dX7_rowOver_11 : decode cX7_rowOver 11 = .ok (.iaload, 1) := by decide +kernel
theorem dX7_rowOver_12 : decode cX7_rowOver 12 = .ok (.isub, 1) := by decide +kernel
theorem dX7_rowOver_13 : decode cX7_rowOver 13 = .ok (.iastore, 1) := by decide +kernel
theorem dX7_rowOver_14 : decode cX7_rowOver 14 = .ok (.aload_n 0, 1) := by decide +kernel
theorem dX7_rowOver_15 : decode cX7_rowOver 15 = .ok (.dup, 1) := by decide +kernel
theorem dX7_rowOver_16 : decode cX7_rowOver 16 = .ok (.getfield 43, 3) := by decide +kernel
theorem dX7_rowOver_19 : decode cX7_rowOver 19 = .ok (.iconst 1, 1) := by decide +kernel
theorem dX7_rowOver_20 : decode cX7_rowOver 20 = .ok (.iadd, 1) := by decide +kernel
theorem dX7_rowOver_21 : decode cX7_rowOver 21 = .ok (.putfield 43, 3) := by decide +kernel
theorem dX7_rowOver_24 : decode cX7_rowOver 24 = .ok (.return_, 1) := by decide +kernel
theorem dX7_carry_0 : decode cX7_carry 0 = .ok (.iconst 0, 1) := by decide +kernel
theorem dX7_carry_1 : decode cX7_carry 1 = .ok (.istore_n 3, 1) := by decide +kernel
theorem dX7_carry_2 : decode cX7_carry 2 = .ok (.iconst 0, 1) := by decide +kernel
theorem dX7_carry_3 : decode cX7_carry 3 = .ok (.istore 4, 2) := by decide +kernel
theorem dX7_carry_5 : decode cX7_carry 5 = .ok (.aload_n 0, 1) := by decide +kernel
theorem dX7_carry_6 : decode cX7_carry 6 = .ok (.iload_n 1, 1) := by decide +kernel
theorem dX7_carry_7 : decode cX7_carry 7 = .ok (.iload_n 2, 1) := by decide +kernel
theorem dX7_carry_8 : decode cX7_carry 8 = .ok (.invokevirtual 76, 3) := by decide +kernel
theorem dX7_carry_11 : decode cX7_carry 11 = .ok (.ifCond .eq 69, 3) := by decide +kernel
theorem dX7_carry_14 : decode cX7_carry 14 = .ok (.aload_n 0, 1) := by decide +kernel
theorem dX7_carry_15 : decode cX7_carry 15 = .ok (.iload_n 1, 1) := by decide +kernel
theorem dX7_carry_16 : decode cX7_carry 16 = .ok (.invokevirtual 90, 3) := by decide +kernel
theorem dX7_carry_19 : decode cX7_carry 19 = .ok (.istore 5, 2) := by decide +kernel
theorem dX7_carry_21 : decode cX7_carry 21 = .ok (.iload 5, 2) := by decide +kernel
theorem dX7_carry_23 : decode cX7_carry 23 = .ok (.aload_n 0, 1) := by decide +kernel
theorem dX7_carry_24 : decode cX7_carry 24 = .ok (.getfield 15, 3) := by decide +kernel
theorem dX7_carry_27 : decode cX7_carry 27 = .ok (.iload_n 2, 1) := by decide +kernel
theorem dX7_carry_28 : decode cX7_carry 28 = .ok (.iaload, 1) := by decide +kernel
theorem dX7_carry_29 : decode cX7_carry 29 = .ok (.invokestatic 93, 3) := by decide +kernel
theorem dX7_carry_32 : decode cX7_carry 32 = .ok (.istore_n 3, 1) := by decide +kernel
theorem dX7_carry_33 : decode cX7_carry 33 = .ok (.iload 5, 2) := by decide +kernel
theorem dX7_carry_35 : decode cX7_carry 35 = .ok (.ifCond .le 13, 3) := by decide +kernel
theorem dX7_carry_38 : decode cX7_carry 38 = .ok (.iload_n 3, 1) := by decide +kernel
theorem dX7_carry_39 : decode cX7_carry 39 = .ok (.iload 5, 2) := by decide +kernel
theorem dX7_carry_41 : decode cX7_carry 41 = .ok (.if_icmp .ne 7, 3) := by decide +kernel
theorem dX7_carry_44 : decode cX7_carry 44 = .ok (.iconst 1, 1) := by decide +kernel
theorem dX7_carry_45 : decode cX7_carry 45 = .ok (.goto 4, 3) := by decide +kernel
theorem dX7_carry_48 : decode cX7_carry 48 = .ok (.iconst 0, 1) := by decide +kernel
theorem dX7_carry_49 : decode cX7_carry 49 = .ok (.istore 4, 2) := by decide +kernel
theorem dX7_carry_51 : decode cX7_carry 51 = .ok (.aload_n 0, 1) := by decide +kernel
theorem dX7_carry_52 : decode cX7_carry 52 = .ok (.getfield 15, 3) := by decide +kernel
theorem dX7_carry_55 : decode cX7_carry 55 = .ok (.iload_n 2, 1) := by decide +kernel
theorem dX7_carry_56 : decode cX7_carry 56 = .ok (.dup2, 1) := by decide +kernel
theorem dX7_carry_57 : decode cX7_carry 57 = .ok (.iaload, 1) := by decide +kernel
theorem dX7_carry_58 : decode cX7_carry 58 = .ok (.iload_n 3, 1) := by decide +kernel
theorem dX7_carry_59 : decode cX7_carry 59 = .ok (.isub, 1) := by decide +kernel
theorem dX7_carry_60 : decode cX7_carry 60 = .ok (.iastore, 1) := by decide +kernel
theorem dX7_carry_61 : decode cX7_carry 61 = .ok (.aload_n 0, 1) := by decide +kernel
theorem dX7_carry_62 : decode cX7_carry 62 = .ok (.getfield 27, 3) := by decide +kernel
theorem dX7_carry_65 : decode cX7_carry 65 = .ok (.iload_n 1, 1) := by decide +kernel
theorem dX7_carry_66 : decode cX7_carry 66 = .ok (.aload_n 0, 1) := by decide +kernel
theorem dX7_carry_67 : decode cX7_carry 67 = .ok (.getfield 27, 3) := by decide +kernel
theorem dX7_carry_70 : decode cX7_carry 70 = .ok (.iload_n 1, 1) := by decide +kernel
theorem dX7_carry_71 : decode cX7_carry 71 = .ok (.iaload, 1) := by decide +kernel
theorem dX7_carry_72 : decode cX7_carry 72 = .ok (.iload_n 3, 1) := by decide +kernel
theorem dX7_carry_73 : decode cX7_carry 73 = .ok (.iadd, 1) := by decide +kernel
theorem dX7_carry_74 : decode cX7_carry 74 = .ok (.ldc 98, 2) := by decide +kernel
theorem dX7_carry_76 : decode cX7_carry 76 = .ok (.invokestatic 93, 3) := by decide +kernel
theorem dX7_carry_79 : decode cX7_carry 79 = .ok (.iastore, 1) := by decide +kernel
theorem dX7_carry_80 : decode cX7_carry 80 = .ok (.aload_n 0, 1) := by decide +kernel
theorem dX7_carry_81 : decode cX7_carry 81 = .ok (.getfield 9, 3) := by decide +kernel
theorem dX7_carry_84 : decode cX7_carry 84 = .ok (.iload_n 2, 1) := by decide +kernel
theorem dX7_carry_85 : decode cX7_carry 85 = .ok (.iconst 1, 1) := by decide +kernel
theorem dX7_carry_86 : decode cX7_carry 86 = .ok (.aload_n 0, 1) := by decide +kernel
theorem dX7_carry_87 : decode cX7_carry 87 = .ok (.getfield 9, 3) := by decide +kernel
theorem dX7_carry_90 : decode cX7_carry 90 = .ok (.iload_n 2, 1) := by decide +kernel
theorem dX7_carry_91 : decode cX7_carry 91 = .ok (.iaload, 1) := by decide +kernel
theorem dX7_carry_92 : decode cX7_carry 92 = .ok (.isub, 1) := by decide +kernel
theorem dX7_carry_93 : decode cX7_carry 93 = .ok (.iastore, 1) := by decide +kernel
theorem dX7_carry_94 : decode cX7_carry 94 = .ok (.aload_n 0, 1) := by decide +kernel
theorem dX7_carry_95 : decode cX7_carry 95 = .ok (.getfield 24, 3) := by decide +kernel
theorem dX7_carry_98 : decode cX7_carry 98 = .ok (.iload_n 1, 1) := by decide +kernel
theorem dX7_carry_99 : decode cX7_carry 99 = .ok (.iconst 1, 1) := by decide +kernel
theorem dX7_carry_100 : decode cX7_carry 100 = .ok (.aload_n 0, 1) := by decide +kernel
theorem dX7_carry_101 : decode cX7_carry 101 = .ok (.getfield 24, 3) := by decide +kernel
theorem dX7_carry_104 : decode cX7_carry 104 = .ok (.iload_n 1, 1) := by decide +kernel
theorem dX7_carry_105 : decode cX7_carry 105 = .ok (.iaload, 1) := by decide +kernel
theorem dX7_carry_106 : decode cX7_carry 106 = .ok (.isub, 1) := by decide +kernel
theorem dX7_carry_107 : decode cX7_carry 107 = .ok (.iastore, 1) := by decide +kernel
theorem dX7_carry_108 : decode cX7_carry 108 = .ok (.iload 4, 2) := by decide +kernel
theorem dX7_carry_110 : decode cX7_carry 110 = .ok (.ifCond .eq 22, 3) := by decide +kernel
theorem dX7_carry_113 : decode cX7_carry 113 = .ok (.aload_n 0, 1) := by decide +kernel
theorem dX7_carry_114 : decode cX7_carry 114 = .ok (.getfield 18, 3) := by decide +kernel
theorem dX7_carry_117 : decode cX7_carry 117 = .ok (.iload_n 1, 1) := by decide +kernel
theorem dX7_carry_118 : decode cX7_carry 118 = .ok (.iaload, 1) := by decide +kernel
theorem dX7_carry_119 : decode cX7_carry 119 = .ok (.iconst 5, 1) := by decide +kernel
theorem dX7_carry_120 : decode cX7_carry 120 = .ok (.if_icmp .ne 12, 3) := by decide +kernel
theorem dX7_carry_123 : decode cX7_carry 123 = .ok (.aload_n 0, 1) := by decide +kernel
theorem dX7_carry_124 : decode cX7_carry 124 = .ok (.iload_n 1, 1) := by decide +kernel
theorem dX7_carry_125 : decode cX7_carry 125 = .ok (.iload_n 2, 1) := by decide +kernel
theorem dX7_carry_126 : decode cX7_carry 126 = .ok (.invokevirtual 99, 3) := by decide +kernel
theorem dX7_carry_129 : decode cX7_carry 129 = .ok (.goto 9, 3) := by decide +kernel
theorem dX7_carry_132 : decode cX7_carry 132 = .ok (.aload_n 0, 1) := by decide +kernel
theorem dX7_carry_133 : decode cX7_carry 133 = .ok (.iload_n 1, 1) := by decide +kernel
theorem dX7_carry_134 : decode cX7_carry 134 = .ok (.iload_n 2, 1) := by decide +kernel
theorem dX7_carry_135 : decode cX7_carry 135 = .ok (.invokevirtual 103, 3) := by decide +kernel
theorem dX7_carry_138 : decode cX7_carry 138 = .ok (.aload_n 0, 1) := by decide +kernel
theorem dX7_carry_139 : decode cX7_carry 139 = .ok (.getfield 18, 3) := by decide +kernel
theorem dX7_carry_142 : decode cX7_carry 142 = .ok (.iload_n 1, 1) := by decide +kernel
theorem dX7_carry_143 : decode cX7_carry 143 = .ok (.iaload, 1) := by decide +kernel
theorem dX7_carry_144 : decode cX7_carry 144 = .ok (.iconst 4, 1) := by decide +kernel
theorem dX7_carry_145 : decode cX7_carry 145 = .ok (.invokestatic 106, 3) := by decide +kernel
theorem dX7_carry_148 : decode cX7_carry 148 = .ok (.istore 5, 2) := by decide +kernel
theorem dX7_carry_150 : decode cX7_carry 150 = .ok (.iconst 0, 1) := by decide +kernel
theorem dX7_carry_151 : decode cX7_carry 151 = .ok (.istore 6, 2) := by decide +kernel
theorem dX7_carry_153 : decode cX7_carry 153 = .ok (.iload 5, 2) := by decide +kernel
theorem dX7_carry_155 : decode cX7_carry 155 = .ok (.ifCond .eq 47, 3) := by decide +kernel
theorem dX7_carry_158 : decode cX7_carry 158 = .ok (.iload 6, 2) := by decide +kernel
theorem dX7_carry_160 : decode cX7_carry 160 = .ok (.aload_n 0, 1) := by decide +kernel
theorem dX7_carry_161 : decode cX7_carry 161 = .ok (.getfield 50, 3) := by decide +kernel
theorem dX7_carry_164 : decode cX7_carry 164 = .ok (.if_icmp .ge 38, 3) := by decide +kernel
theorem dX7_carry_167 : decode cX7_carry 167 = .ok (.iload 6, 2) := by decide +kernel
theorem dX7_carry_169 : decode cX7_carry 169 = .ok (.iload_n 1, 1) := by decide +kernel
theorem dX7_carry_170 : decode cX7_carry 170 = .ok (.if_icmp .eq 26, 3) := by decide +kernel
theorem dX7_carry_173 : decode cX7_carry 173 = .ok (.aload_n 0, 1) := by decide +kernel
theorem dX7_carry_174 : decode cX7_carry 174 = .ok (.getfield 24, 3) := by decide +kernel
theorem dX7_carry_177 : decode cX7_carry 177 = .ok (.iload 6, 2) := by decide +kernel
theorem dX7_carry_179 : decode cX7_carry 179 = .ok (.iaload, 1) := by decide +kernel
theorem dX7_carry_180 : decode cX7_carry 180 = .ok (.aload_n 0, 1) := by decide +kernel
theorem dX7_carry_181 : decode cX7_carry 181 = .ok (.getfield 24, 3) := by decide +kernel
theorem dX7_carry_184 : decode cX7_carry 184 = .ok (.iload_n 1, 1) := by decide +kernel
theorem dX7_carry_185 : decode cX7_carry 185 = .ok (.iaload, 1) := by decide +kernel
theorem dX7_carry_186 : decode cX7_carry 186 = .ok (.if_icmp .ne 10, 3) := by decide +kernel
theorem dX7_carry_189 : decode cX7_carry 189 = .ok (.aload_n 0, 1) := by decide +kernel
theorem dX7_carry_190 : decode cX7_carry 190 = .ok (.iload 6, 2) := by decide +kernel
theorem dX7_carry_192 : decode cX7_carry 192 = .ok (.iload_n 2, 1) := by decide +kernel
theorem dX7_carry_193 : decode cX7_carry 193 = .ok (.invokevirtual 103, 3) := by decide +kernel
theorem dX7_carry_196 : decode cX7_carry 196 = .ok (.iinc 6 1, 3) := by decide +kernel
theorem dX7_carry_199 : decode cX7_carry 199 = .ok (.goto (-46), 3) := by decide +kernel
theorem dX7_carry_202 : decode cX7_carry 202 = .ok (.aload_n 0, 1) := by decide +kernel
theorem dX7_carry_203 : decode cX7_carry 203 = .ok (.dup, 1) := by decide +kernel
theorem dX7_carry_204 : decode cX7_carry 204 = .ok (.getfield 43, 3) := by decide +kernel
theorem dX7_carry_207 : decode cX7_carry 207 = .ok (.iconst 1, 1) := by decide +kernel
theorem dX7_carry_208 : decode cX7_carry 208 = .ok (.iadd, 1) := by decide +kernel
theorem dX7_carry_209 : decode cX7_carry 209 = .ok (.putfield 43, 3) := by decide +kernel
theorem dX7_carry_212 : decode cX7_carry 212 = .ok (.iload_n 3, 1) := by decide +kernel
theorem dX7_carry_213 : decode cX7_carry 213 = .ok (.ireturn, 1) := by decide +kernel
theorem dX7_faceComes_0 : decode cX7_faceComes 0 = .ok (.iload_n 1, 1) := by decide +kernel
theorem dX7_faceComes_1 : decode cX7_faceComes 1 = .ok (.bipush 8, 2) := by decide +kernel
theorem dX7_faceComes_3 : decode cX7_faceComes 3 = .ok (.imul, 1) := by decide +kernel
theorem dX7_faceComes_4 : decode cX7_faceComes 4 = .ok (.istore_n 3, 1) := by decide +kernel
theorem dX7_faceComes_5 : decode cX7_faceComes 5 = .ok (.aload_n 0, 1) := by decide +kernel
theorem dX7_faceComes_6 : decode cX7_faceComes 6 = .ok (.iload_n 1, 1) := by decide +kernel
theorem dX7_faceComes_7 : decode cX7_faceComes 7 = .ok (.iload_n 2, 1) := by decide +kernel
theorem dX7_faceComes_8 : decode cX7_faceComes 8 = .ok (.invokevirtual 73, 3) := by decide +kernel
theorem dX7_faceComes_11 : decode cX7_faceComes 11 = .ok (.istore 4, 2) := by decide +kernel
theorem dX7_faceComes_13 : decode cX7_faceComes 13 = .ok (.iload 4, 2) := by decide +kernel
theorem dX7_faceComes_15 : decode cX7_faceComes 15 = .ok (.ifCond .lt 8, 3) := by decide +kernel
theorem dX7_faceComes_18 : decode cX7_faceComes 18 = .ok (.iload 4, 2) := by decide +kernel
theorem dX7_faceComes_20 : decode cX7_faceComes 20 = .ok (.goto 14, 3) := by decide +kernel
theorem dX7_faceComes_23 : decode cX7_faceComes 23 = .ok (.aload_n 0, 1) := by decide +kernel
theorem dX7_faceComes_24 : decode cX7_faceComes 24 = .ok (.getfield 30, 3) := by decide +kernel
theorem dX7_faceComes_27 : decode cX7_faceComes 27 = .ok (.iload_n 1, 1) := by decide +kernel
theorem dX7_faceComes_28 : decode cX7_faceComes 28 = .ok (.iaload, 1) := by decide +kernel
theorem dX7_faceComes_29 : decode cX7_faceComes 29 = .ok (.bipush 7, 2) := by decide +kernel
theorem dX7_faceComes_31 : decode cX7_faceComes 31 = .ok (.invokestatic 93, 3) := by decide +kernel
theorem dX7_faceComes_34 : decode cX7_faceComes 34 = .ok (.istore 5, 2) := by decide +kernel
theorem dX7_faceComes_36 : decode cX7_faceComes 36 = .ok (.aload_n 0, 1) := by decide +kernel
theorem dX7_faceComes_37 : decode cX7_faceComes 37 = .ok (.getfield 33, 3) := by decide +kernel
theorem dX7_faceComes_40 : decode cX7_faceComes 40 = .ok (.iload_n 3, 1) := by decide +kernel
theorem dX7_faceComes_41 : decode cX7_faceComes 41 = .ok (.aload_n 0, 1) := by decide +kernel
theorem dX7_faceComes_42 : decode cX7_faceComes 42 = .ok (.getfield 33, 3) := by decide +kernel
theorem dX7_faceComes_45 : decode cX7_faceComes 45 = .ok (.iload_n 3, 1) := by decide +kernel
theorem dX7_faceComes_46 : decode cX7_faceComes 46 = .ok (.iconst 1, 1) := by decide +kernel
theorem dX7_faceComes_47 : decode cX7_faceComes 47 = .ok (.iadd, 1) := by decide +kernel
theorem dX7_faceComes_48 : decode cX7_faceComes 48 = .ok (.iload 5, 2) := by decide +kernel
theorem dX7_faceComes_50 : decode cX7_faceComes 50 = .ok (.invokestatic 53, 3) := by decide +kernel
theorem dX7_faceComes_53 : decode cX7_faceComes 53 = .ok (.aload_n 0, 1) := by decide +kernel
theorem dX7_faceComes_54 : decode cX7_faceComes 54 = .ok (.getfield 33, 3) := by decide +kernel
theorem dX7_faceComes_57 : decode cX7_faceComes 57 = .ok (.iload_n 3, 1) := by decide +kernel
theorem dX7_faceComes_58 : decode cX7_faceComes 58 = .ok (.iload_n 2, 1) := by decide +kernel
theorem dX7_faceComes_59 : decode cX7_faceComes 59 = .ok (.iastore, 1) := by decide +kernel
theorem dX7_faceComes_60 : decode cX7_faceComes 60 = .ok (.iload 4, 2) := by decide +kernel
theorem dX7_faceComes_62 : decode cX7_faceComes 62 = .ok (.ifCond .lt 12, 3) := by decide +kernel
theorem dX7_faceComes_65 : decode cX7_faceComes 65 = .ok (.aload_n 0, 1) := by decide +kernel
theorem dX7_faceComes_66 : decode cX7_faceComes 66 = .ok (.getfield 30, 3) := by decide +kernel
theorem dX7_faceComes_69 : decode cX7_faceComes 69 = .ok (.iload_n 1, 1) := by decide +kernel
theorem dX7_faceComes_70 : decode cX7_faceComes 70 = .ok (.iaload, 1) := by decide +kernel
theorem dX7_faceComes_71 : decode cX7_faceComes 71 = .ok (.goto 7, 3) := by decide +kernel
theorem dX7_faceComes_74 : decode cX7_faceComes 74 = .ok (.iload 5, 2) := by decide +kernel
theorem dX7_faceComes_76 : decode cX7_faceComes 76 = .ok (.iconst 1, 1) := by decide +kernel
theorem dX7_faceComes_77 : decode cX7_faceComes 77 = .ok (.iadd, 1) := by decide +kernel
theorem dX7_faceComes_78 : decode cX7_faceComes 78 = .ok (.istore 6, 2) := by decide +kernel
theorem dX7_faceComes_80 : decode cX7_faceComes 80 = .ok (.aload_n 0, 1) := by decide +kernel
theorem dX7_faceComes_81 : decode cX7_faceComes 81 = .ok (.getfield 30, 3) := by decide +kernel
theorem dX7_faceComes_84 : decode cX7_faceComes 84 = .ok (.iload_n 1, 1) := by decide +kernel
theorem dX7_faceComes_85 : decode cX7_faceComes 85 = .ok (.iload 6, 2) := by decide +kernel
theorem dX7_faceComes_87 : decode cX7_faceComes 87 = .ok (.aload_n 0, 1) := by decide +kernel
theorem dX7_faceComes_88 : decode cX7_faceComes 88 = .ok (.iload_n 1, 1) := by decide +kernel
theorem dX7_faceComes_89 : decode cX7_faceComes 89 = .ok (.invokevirtual 109, 3) := by decide +kernel
theorem dX7_faceComes_92 : decode cX7_faceComes 92 = .ok (.invokestatic 93, 3) := by decide +kernel
theorem dX7_faceComes_95 : decode cX7_faceComes 95 = .ok (.iastore, 1) := by decide +kernel
theorem dX7_faceComes_96 : decode cX7_faceComes 96 = .ok (.return_, 1) := by decide +kernel
theorem dX7_loseFace_0 : decode cX7_loseFace 0 = .ok (.iload_n 1, 1) := by decide +kernel
theorem dX7_loseFace_1 : decode cX7_loseFace 1 = .ok (.bipush 8, 2) := by decide +kernel
theorem dX7_loseFace_3 : decode cX7_loseFace 3 = .ok (.imul, 1) := by decide +kernel
theorem dX7_loseFace_4 : decode cX7_loseFace 4 = .ok (.istore_n 3, 1) := by decide +kernel
theorem dX7_loseFace_5 : decode cX7_loseFace 5 = .ok (.aload_n 0, 1) := by decide +kernel
theorem dX7_loseFace_6 : decode cX7_loseFace 6 = .ok (.iload_n 1, 1) := by decide +kernel
theorem dX7_loseFace_7 : decode cX7_loseFace 7 = .ok (.iload_n 2, 1) := by decide +kernel
theorem dX7_loseFace_8 : decode cX7_loseFace 8 = .ok (.invokevirtual 73, 3) := by decide +kernel
theorem dX7_loseFace_11 : decode cX7_loseFace 11 = .ok (.istore 4, 2) := by decide +kernel
theorem dX7_loseFace_13 : decode cX7_loseFace 13 = .ok (.iload 4, 2) := by decide +kernel
theorem dX7_loseFace_15 : decode cX7_loseFace 15 = .ok (.ifCond .lt 49, 3) := by decide +kernel
theorem dX7_loseFace_18 : decode cX7_loseFace 18 = .ok (.aload_n 0, 1) := by decide +kernel
theorem dX7_loseFace_19 : decode cX7_loseFace 19 = .ok (.getfield 30, 3) := by decide +kernel
theorem dX7_loseFace_22 : decode cX7_loseFace 22 = .ok (.iload_n 1, 1) := by decide +kernel
theorem dX7_loseFace_23 : decode cX7_loseFace 23 = .ok (.iaload, 1) := by decide +kernel
theorem dX7_loseFace_24 : decode cX7_loseFace 24 = .ok (.iload 4, 2) := by decide +kernel
theorem dX7_loseFace_26 : decode cX7_loseFace 26 = .ok (.isub, 1) := by decide +kernel
theorem dX7_loseFace_27 : decode cX7_loseFace 27 = .ok (.iconst 1, 1) := by decide +kernel
theorem dX7_loseFace_28 : decode cX7_loseFace 28 = .ok (.isub, 1) := by decide +kernel
theorem dX7_loseFace_29 : decode cX7_loseFace 29 = .ok (.istore 5, 2) := by decide +kernel
theorem dX7_loseFace_31 : decode cX7_loseFace 31 = .ok (.aload_n 0, 1) := by decide +kernel
theorem dX7_loseFace_32 : decode cX7_loseFace 32 = .ok (.getfield 33, 3) := by decide +kernel
theorem dX7_loseFace_35 : decode cX7_loseFace 35 = .ok (.iload_n 3, 1) := by decide +kernel
theorem dX7_loseFace_36 : decode cX7_loseFace 36 = .ok (.iload 4, 2) := by decide +kernel
theorem dX7_loseFace_38 : decode cX7_loseFace 38 = .ok (.iadd, 1) := by decide +kernel
theorem dX7_loseFace_39 : decode cX7_loseFace 39 = .ok (.iconst 1, 1) := by decide +kernel
theorem dX7_loseFace_40 : decode cX7_loseFace 40 = .ok (.iadd, 1) := by decide +kernel
theorem dX7_loseFace_41 : decode cX7_loseFace 41 = .ok (.aload_n 0, 1) := by decide +kernel
theorem dX7_loseFace_42 : decode cX7_loseFace 42 = .ok (.getfield 33, 3) := by decide +kernel
theorem dX7_loseFace_45 : decode cX7_loseFace 45 = .ok (.iload_n 3, 1) := by decide +kernel
theorem dX7_loseFace_46 : decode cX7_loseFace 46 = .ok (.iload 4, 2) := by decide +kernel
theorem dX7_loseFace_48 : decode cX7_loseFace 48 = .ok (.iadd, 1) := by decide +kernel
theorem dX7_loseFace_49 : decode cX7_loseFace 49 = .ok (.iload 5, 2) := by decide +kernel
theorem dX7_loseFace_51 : decode cX7_loseFace 51 = .ok (.invokestatic 53, 3) := by decide +kernel
theorem dX7_loseFace_54 : decode cX7_loseFace 54 = .ok (.aload_n 0, 1) := by decide +kernel
theorem dX7_loseFace_55 : decode cX7_loseFace 55 = .ok (.getfield 30, 3) := by decide +kernel
theorem dX7_loseFace_58 : decode cX7_loseFace 58 = .ok (.iload_n 1, 1) := by decide +kernel
theorem dX7_loseFace_59 : decode cX7_loseFace 59 = .ok (.dup2, 1) := by decide +kernel
theorem dX7_loseFace_60 : decode cX7_loseFace 60 = .ok (.iaload, 1) := by decide +kernel
theorem dX7_loseFace_61 : decode cX7_loseFace 61 = .ok (.iconst 1, 1) := by decide +kernel
theorem dX7_loseFace_62 : decode cX7_loseFace 62 = .ok (.isub, 1) := by decide +kernel
theorem dX7_loseFace_63 : decode cX7_loseFace 63 = .ok (.iastore, 1) := by decide +kernel
theorem dX7_loseFace_64 : decode cX7_loseFace 64 = .ok (.return_, 1) := by decide +kernel
theorem dX7_bitsOfUnlikeMinds_0 : decode cX7_bitsOfUnlikeMinds 0 = .ok (.iconst 0, 1) := by decide +kernel
theorem dX7_bitsOfUnlikeMinds_1 : decode cX7_bitsOfUnlikeMinds 1 = .ok (.istore_n 2, 1) := by decide +kernel
theorem dX7_bitsOfUnlikeMinds_2 : decode cX7_bitsOfUnlikeMinds 2 = .ok (.iconst 0, 1) := by decide +kernel
theorem dX7_bitsOfUnlikeMinds_3 : decode cX7_bitsOfUnlikeMinds 3 = .ok (.istore_n 3, 1) := by decide +kernel
theorem dX7_bitsOfUnlikeMinds_4 : decode cX7_bitsOfUnlikeMinds 4 = .ok (.iload_n 3, 1) := by decide +kernel
theorem dX7_bitsOfUnlikeMinds_5 : decode cX7_bitsOfUnlikeMinds 5 = .ok (.aload_n 0, 1) := by decide +kernel
theorem dX7_bitsOfUnlikeMinds_6 : decode cX7_bitsOfUnlikeMinds 6 = .ok (.getfield 50, 3) := by decide +kernel
theorem dX7_bitsOfUnlikeMinds_9 : decode cX7_bitsOfUnlikeMinds 9 = .ok (.if_icmp .ge 24, 3) := by decide +kernel
theorem dX7_bitsOfUnlikeMinds_12 : decode cX7_bitsOfUnlikeMinds 12 = .ok (.aload_n 0, 1) := by decide +kernel
theorem dX7_bitsOfUnlikeMinds_13 : decode cX7_bitsOfUnlikeMinds 13 = .ok (.iload_n 3, 1) := by decide +kernel
theorem dX7_bitsOfUnlikeMinds_14 : decode cX7_bitsOfUnlikeMinds 14 = .ok (.aload_n 1, 1) := by decide +kernel
theorem dX7_bitsOfUnlikeMinds_15 : decode cX7_bitsOfUnlikeMinds 15 = .ok (.invokevirtual 112, 3) := by decide +kernel
theorem dX7_bitsOfUnlikeMinds_18 : decode cX7_bitsOfUnlikeMinds 18 = .ok (.ifCond .ne 9, 3) := by decide +kernel
theorem dX7_bitsOfUnlikeMinds_21 : decode cX7_bitsOfUnlikeMinds 21 = .ok (.iload_n 2, 1) := by decide +kernel
theorem dX7_bitsOfUnlikeMinds_22 : decode cX7_bitsOfUnlikeMinds 22 = .ok (.iconst 1, 1) := by decide +kernel
theorem dX7_bitsOfUnlikeMinds_23 : decode cX7_bitsOfUnlikeMinds 23 = .ok (.iload_n 3, 1) := by decide +kernel
theorem dX7_bitsOfUnlikeMinds_24 : decode cX7_bitsOfUnlikeMinds 24 = .ok (.ishl, 1) := by decide +kernel
theorem dX7_bitsOfUnlikeMinds_25 : decode cX7_bitsOfUnlikeMinds 25 = .ok (.ior, 1) := by decide +kernel
theorem dX7_bitsOfUnlikeMinds_26 : decode cX7_bitsOfUnlikeMinds 26 = .ok (.istore_n 2, 1) := by decide +kernel
theorem dX7_bitsOfUnlikeMinds_27 : decode cX7_bitsOfUnlikeMinds 27 = .ok (.iinc 3 1, 3) := by decide +kernel
theorem dX7_bitsOfUnlikeMinds_30 : decode cX7_bitsOfUnlikeMinds 30 = .ok (.goto (-26), 3) := by decide +kernel
theorem dX7_bitsOfUnlikeMinds_33 : decode cX7_bitsOfUnlikeMinds 33 = .ok (.iload_n 2, 1) := by decide +kernel
theorem dX7_bitsOfUnlikeMinds_34 : decode cX7_bitsOfUnlikeMinds 34 = .ok (.ireturn, 1) := by decide +kernel
theorem dX7_isMindLike_0 : decode cX7_isMindLike 0 = .ok (.aload_n 0, 1) := by decide +kernel
theorem dX7_isMindLike_1 : decode cX7_isMindLike 1 = .ok (.getfield 30, 3) := by decide +kernel
theorem dX7_isMindLike_4 : decode cX7_isMindLike 4 = .ok (.iload_n 1, 1) := by decide +kernel
theorem dX7_isMindLike_5 : decode cX7_isMindLike 5 = .ok (.iaload, 1) := by decide +kernel
theorem dX7_isMindLike_6 : decode cX7_isMindLike 6 = .ok (.aload_n 2, 1) := by decide +kernel
theorem dX7_isMindLike_7 : decode cX7_isMindLike 7 = .ok (.getfield 30, 3) := by decide +kernel
theorem dX7_isMindLike_10 : decode cX7_isMindLike 10 = .ok (.iload_n 1, 1) := by decide +kernel
theorem dX7_isMindLike_11 : decode cX7_isMindLike 11 = .ok (.iaload, 1) := by decide +kernel
theorem dX7_isMindLike_12 : decode cX7_isMindLike 12 = .ok (.if_icmp .eq 5, 3) := by decide +kernel
theorem dX7_isMindLike_15 : decode cX7_isMindLike 15 = .ok (.iconst 0, 1) := by decide +kernel
theorem dX7_isMindLike_16 : decode cX7_isMindLike 16 = .ok (.ireturn, 1) := by decide +kernel
theorem dX7_isMindLike_17 : decode cX7_isMindLike 17 = .ok (.iconst 0, 1) := by decide +kernel
theorem dX7_isMindLike_18 : decode cX7_isMindLike 18 = .ok (.istore_n 3, 1) := by decide +kernel
theorem dX7_isMindLike_19 : decode cX7_isMindLike 19 = .ok (.iload_n 3, 1) := by decide +kernel
theorem dX7_isMindLike_20 : decode cX7_isMindLike 20 = .ok (.aload_n 0, 1) := by decide +kernel
theorem dX7_isMindLike_21 : decode cX7_isMindLike 21 = .ok (.getfield 30, 3) := by decide +kernel
theorem dX7_isMindLike_24 : decode cX7_isMindLike 24 = .ok (.iload_n 1, 1) := by decide +kernel
theorem dX7_isMindLike_25 : decode cX7_isMindLike 25 = .ok (.iaload, 1) := by decide +kernel
theorem dX7_isMindLike_26 : decode cX7_isMindLike 26 = .ok (.if_icmp .ge 26, 3) := by decide +kernel
theorem dX7_isMindLike_29 : decode cX7_isMindLike 29 = .ok (.aload_n 0, 1) := by decide +kernel
theorem dX7_isMindLike_30 : decode cX7_isMindLike 30 = .ok (.iload_n 1, 1) := by decide +kernel
theorem dX7_isMindLike_31 : decode cX7_isMindLike 31 = .ok (.iload_n 3, 1) := by decide +kernel
theorem dX7_isMindLike_32 : decode cX7_isMindLike 32 = .ok (.invokevirtual 116, 3) := by decide +kernel
theorem dX7_isMindLike_35 : decode cX7_isMindLike 35 = .ok (.aload_n 2, 1) := by decide +kernel
theorem dX7_isMindLike_36 : decode cX7_isMindLike 36 = .ok (.iload_n 1, 1) := by decide +kernel
theorem dX7_isMindLike_37 : decode cX7_isMindLike 37 = .ok (.iload_n 3, 1) := by decide +kernel
theorem dX7_isMindLike_38 : decode cX7_isMindLike 38 = .ok (.invokevirtual 116, 3) := by decide +kernel
theorem dX7_isMindLike_41 : decode cX7_isMindLike 41 = .ok (.if_icmp .eq 5, 3) := by decide +kernel
theorem dX7_isMindLike_44 : decode cX7_isMindLike 44 = .ok (.iconst 0, 1) := by decide +kernel
theorem dX7_isMindLike_45 : decode cX7_isMindLike 45 = .ok (.ireturn, 1) := by decide +kernel
theorem dX7_isMindLike_46 : decode cX7_isMindLike 46 = .ok (.iinc 3 1, 3) := by decide +kernel
theorem dX7_isMindLike_49 : decode cX7_isMindLike 49 = .ok (.goto (-30), 3) := by decide +kernel
theorem dX7_isMindLike_52 : decode cX7_isMindLike 52 = .ok (.iconst 1, 1) := by decide +kernel
theorem dX7_isMindLike_53 : decode cX7_isMindLike 53 = .ok (.ireturn, 1) := by decide +kernel
theorem dX7_hasGossip_0 : decode cX7_hasGossip 0 = .ok (.iconst 0, 1) := by decide +kernel
theorem dX7_hasGossip_1 : decode cX7_hasGossip 1 = .ok (.istore_n 1, 1) := by decide +kernel
theorem dX7_hasGossip_2 : decode cX7_hasGossip 2 = .ok (.iload_n 1, 1) := by decide +kernel
theorem dX7_hasGossip_3 : decode cX7_hasGossip 3 = .ok (.aload_n 0, 1) := by decide +kernel
theorem dX7_hasGossip_4 : decode cX7_hasGossip 4 = .ok (.getfield 50, 3) := by decide +kernel
theorem dX7_hasGossip_7 : decode cX7_hasGossip 7 = .ok (.if_icmp .ge 24, 3) := by decide +kernel
theorem dX7_hasGossip_10 : decode cX7_hasGossip 10 = .ok (.aload_n 0, 1) := by decide +kernel
theorem dX7_hasGossip_11 : decode cX7_hasGossip 11 = .ok (.getfield 18, 3) := by decide +kernel
theorem dX7_hasGossip_14 : decode cX7_hasGossip 14 = .ok (.iload_n 1, 1) := by decide +kernel
theorem dX7_hasGossip_15 : decode cX7_hasGossip 15 = .ok (.iaload, 1) := by decide +kernel
theorem dX7_hasGossip_16 : decode cX7_hasGossip 16 = .ok (.iconst 4, 1) := by decide +kernel
theorem dX7_hasGossip_17 : decode cX7_hasGossip 17 = .ok (.invokestatic 106, 3) := by decide +kernel
theorem dX7_hasGossip_20 : decode cX7_hasGossip 20 = .ok (.ifCond .eq 5, 3) := by decide +kernel
theorem dX7_hasGossip_23 : decode cX7_hasGossip 23 = .ok (.iconst 1, 1) := by decide +kernel
theorem dX7_hasGossip_24 : decode cX7_hasGossip 24 = .ok (.ireturn, 1) := by decide +kernel
theorem dX7_hasGossip_25 : decode cX7_hasGossip 25 = .ok (.iinc 1 1, 3) := by decide +kernel
theorem dX7_hasGossip_28 : decode cX7_hasGossip 28 = .ok (.goto (-26), 3) := by decide +kernel
theorem dX7_hasGossip_31 : decode cX7_hasGossip 31 = .ok (.iconst 0, 1) := by decide +kernel
theorem dX7_hasGossip_32 : decode cX7_hasGossip 32 = .ok (.ireturn, 1) := by decide +kernel
theorem dX8_init_0 : decode cX8_init 0 = .ok (.aload_n 0, 1) := by decide +kernel
theorem dX8_init_1 : decode cX8_init 1 = .ok (.invokespecial 1, 3) := by decide +kernel
theorem dX8_init_4 : decode cX8_init 4 = .ok (.aload_n 0, 1) := by decide +kernel
theorem dX8_init_5 : decode cX8_init 5 = .ok (.new 7, 3) := by decide +kernel
theorem dX8_init_8 : decode cX8_init 8 = .ok (.dup, 1) := by decide +kernel
theorem dX8_init_9 : decode cX8_init 9 = .ok (.iconst 0, 1) := by decide +kernel
theorem dX8_init_10 : decode cX8_init 10 = .ok (.newarray .int, 2) := by decide +kernel
theorem dX8_init_12 : decode cX8_init 12 = .ok (.invokespecial 9, 3) := by decide +kernel
theorem dX8_init_15 : decode cX8_init 15 = .ok (.putfield 12, 3) := by decide +kernel
theorem dX8_init_18 : decode cX8_init 18 = .ok (.aload_n 0, 1) := by decide +kernel
theorem dX8_init_19 : decode cX8_init 19 = .ok (.new 18, 3) := by decide +kernel
theorem dX8_init_22 : decode cX8_init 22 = .ok (.dup, 1) := by decide +kernel
theorem dX8_init_23 : decode cX8_init 23 = .ok (.aload_n 0, 1) := by decide +kernel
theorem dX8_init_24 : decode cX8_init 24 = .ok (.getfield 12, 3) := by decide +kernel
theorem dX8_init_27 : decode cX8_init 27 = .ok (.invokespecial 20, 3) := by decide +kernel
theorem dX8_init_30 : decode cX8_init 30 = .ok (.putfield 23, 3) := by decide +kernel
theorem dX8_init_33 : decode cX8_init 33 = .ok (.aload_n 0, 1) := by decide +kernel
theorem dX8_init_34 : decode cX8_init 34 = .ok (.new 18, 3) := by decide +kernel
theorem dX8_init_37 : decode cX8_init 37 = .ok (.dup, 1) := by decide +kernel
theorem dX8_init_38 : decode cX8_init 38 = .ok (.aload_n 0, 1) := by decide +kernel
theorem dX8_init_39 : decode cX8_init 39 = .ok (.getfield 12, 3) := by decide +kernel
theorem dX8_init_42 : decode cX8_init 42 = .ok (.invokespecial 20, 3) := by decide +kernel
theorem dX8_init_45 : decode cX8_init 45 = .ok (.putfield 27, 3) := by decide +kernel
theorem dX8_init_48 : decode cX8_init 48 = .ok (.aload_n 0, 1) := by decide +kernel
theorem dX8_init_49 : decode cX8_init 49 = .ok (.new 30, 3) := by decide +kernel
theorem dX8_init_52 : decode cX8_init 52 = .ok (.dup, 1) := by decide +kernel
theorem dX8_init_53 : decode cX8_init 53 = .ok (.aload_n 0, 1) := by decide +kernel
theorem dX8_init_54 : decode cX8_init 54 = .ok (.getfield 12, 3) := by decide +kernel
theorem dX8_init_57 : decode cX8_init 57 = .ok (.invokespecial 32, 3) := by decide +kernel
theorem dX8_init_60 : decode cX8_init 60 = .ok (.putfield 33, 3) := by decide +kernel
theorem dX8_init_63 : decode cX8_init 63 = .ok (.aload_n 0, 1) := by decide +kernel
theorem dX8_init_64 : decode cX8_init 64 = .ok (.new 37, 3) := by decide +kernel
theorem dX8_init_67 : decode cX8_init 67 = .ok (.dup, 1) := by decide +kernel
theorem dX8_init_68 : decode cX8_init 68 = .ok (.invokespecial 39, 3) := by decide +kernel
theorem dX8_init_71 : decode cX8_init 71 = .ok (.putfield 40, 3) := by decide +kernel
theorem dX8_init_74 : decode cX8_init 74 = .ok (.aload_n 0, 1) := by decide +kernel
theorem dX8_init_75 : decode cX8_init 75 = .ok (.new 44, 3) := by decide +kernel
theorem dX8_init_78 : decode cX8_init 78 = .ok (.dup, 1) := by decide +kernel
theorem dX8_init_79 : decode cX8_init 79 = .ok (.invokespecial 46, 3) := by decide +kernel
theorem dX8_init_82 : decode cX8_init 82 = .ok (.putfield 47, 3) := by decide +kernel
theorem dX8_init_85 : decode cX8_init 85 = .ok (.aload_n 0, 1) := by decide +kernel
theorem dX8_init_86 : decode cX8_init 86 = .ok (.bipush 7, 2) := by decide +kernel
theorem dX8_init_88 : decode cX8_init 88 = .ok (.newarray .int, 2) := by decide +kernel
theorem dX8_init_90 : decode cX8_init 90 = .ok (.putfield 51, 3) := by decide +kernel
theorem dX8_init_93 : decode cX8_init 93 = .ok (.return_, 1) := by decide +kernel
theorem dX8_person_0 : decode cX8_person 0 = .ok (.iload_n 1, 1) := by decide +kernel
theorem dX8_person_1 : decode cX8_person 1 = .ok (.invokestatic 55, 3) := by decide +kernel
theorem dX8_person_4 : decode cX8_person 4 = .ok (.ifCond .ne 9, 3) := by decide +kernel
theorem dX8_person_7 : decode cX8_person 7 = .ok (.aload_n 0, 1) := by decide +kernel
theorem dX8_person_8 : decode cX8_person 8 = .ok (.iconst 1, 1) := by decide +kernel
theorem dX8_person_9 : decode cX8_person 9 = .ok (.invokevirtual 59, 3) := by decide +kernel
theorem dX8_person_12 : decode cX8_person 12 = .ok (.ireturn, 1) := by decide +kernel
theorem dX8_person_13 : decode cX8_person 13 = .ok (.aload_n 0, 1) := by decide +kernel
theorem dX8_person_14 : decode cX8_person 14 = .ok (.getfield 23, 3) := by decide +kernel
theorem dX8_person_17 : decode cX8_person 17 = .ok (.getfield 63, 3) := by decide +kernel
theorem dX8_person_20 : decode cX8_person 20 = .ok (.getfield 67, 3) := by decide +kernel
theorem dX8_person_23 : decode cX8_person 23 = .ok (.bipush 8, 2) := by decide +kernel
theorem dX8_person_25 : decode cX8_person 25 = .ok (.if_icmp .lt 9, 3) := by decide +kernel
theorem dX8_person_28 : decode cX8_person 28 = .ok (.aload_n 0, 1) := by decide +kernel
theorem dX8_person_29 : decode cX8_person 29 = .ok (.iconst 4, 1) := by decide +kernel
theorem dX8_person_30 : decode cX8_person 30 = .ok (.invokevirtual 59, 3) := by decide +kernel
theorem dX8_person_33 : decode cX8_person 33 = .ok (.ireturn, 1) := by decide +kernel
theorem dX8_person_34 : decode cX8_person 34 = .ok (.aload_n 0, 1) := by decide +kernel
theorem dX8_person_35 : decode cX8_person 35 = .ok (.getfield 23, 3) := by decide +kernel
theorem dX8_person_38 : decode cX8_person 38 = .ok (.getfield 63, 3) := by decide +kernel
theorem dX8_person_41 : decode cX8_person 41 = .ok (.iload_n 1, 1) := by decide +kernel
theorem dX8_person_42 : decode cX8_person 42 = .ok (.invokevirtual 73, 3) := by decide +kernel
theorem dX8_person_45 : decode cX8_person 45 = .ok (.ireturn, 1) := by decide +kernel
theorem dX8_personIs_0 : decode cX8_personIs 0 = .ok (.aload_n 0, 1) := by decide +kernel
theorem dX8_personIs_1 : decode cX8_personIs 1 = .ok (.getfield 23, 3) := by decide +kernel
theorem dX8_personIs_4 : decode cX8_personIs 4 = .ok (.getfield 63, 3) := by decide +kernel
theorem dX8_personIs_7 : decode cX8_personIs 7 = .ok (.astore_n 3, 1) := by decide +kernel
theorem dX8_personIs_8 : decode cX8_personIs 8 = .ok (.aload_n 3, 1) := by decide +kernel
theorem dX8_personIs_9 : decode cX8_personIs 9 = .ok (.iload_n 1, 1) := by decide +kernel
theorem dX8_personIs_10 : decode cX8_personIs 10 = .ok (.invokevirtual 76, 3) := by decide +kernel
theorem dX8_personIs_13 : decode cX8_personIs 13 = .ok (.ifCond .ne 9, 3) := by decide +kernel
theorem dX8_personIs_16 : decode cX8_personIs 16 = .ok (.aload_n 0, 1) := by decide +kernel
theorem dX8_personIs_17 : decode cX8_personIs 17 = .ok (.iconst 1, 1) := by decide +kernel
theorem dX8_personIs_18 : decode cX8_personIs 18 = .ok (.invokevirtual 59, 3) := by decide +kernel
theorem dX8_personIs_21 : decode cX8_personIs 21 = .ok (.ireturn, 1) := by decide +kernel
theorem dX8_personIs_22 : decode cX8_personIs 22 = .ok (.iload_n 2, 1) := by decide +kernel
theorem dX8_personIs_23 : decode cX8_personIs 23 = .ok (.tableswitch 58 0 3 #[29, 36, 43, 52], 29) := by decide +kernel
theorem dX8_personIs_52 : decode cX8_personIs 52 = .ok (.aload_n 3, 1) := by decide +kernel
theorem dX8_personIs_53 : decode cX8_personIs 53 = .ok (.getfield 79, 3) := by decide +kernel
theorem dX8_personIs_56 : decode cX8_personIs 56 = .ok (.iload_n 1, 1) := by decide +kernel
theorem dX8_personIs_57 : decode cX8_personIs 57 = .ok (.iaload, 1) := by decide +kernel
theorem dX8_personIs_58 : decode cX8_personIs 58 = .ok (.ireturn, 1) := by decide +kernel
theorem dX8_personIs_59 : decode cX8_personIs 59 = .ok (.aload_n 3, 1) := by decide +kernel
theorem dX8_personIs_60 : decode cX8_personIs 60 = .ok (.getfield 82, 3) := by decide +kernel
theorem dX8_personIs_63 : decode cX8_personIs 63 = .ok (.iload_n 1, 1) := by decide +kernel
theorem dX8_personIs_64 : decode cX8_personIs 64 = .ok (.iaload, 1) := by decide +kernel
theorem dX8_personIs_65 : decode cX8_personIs 65 = .ok (.ireturn, 1) := by decide +kernel
theorem dX8_personIs_66 : decode cX8_personIs 66 = .ok (.aload_n 3, 1) := by decide +kernel
theorem dX8_personIs_67 : decode cX8_personIs 67 = .ok (.iload_n 1, 1) := by decide +kernel
theorem dX8_personIs_68 : decode cX8_personIs 68 = .ok (.invokevirtual 85, 3) := by decide +kernel
theorem dX8_personIs_71 : decode cX8_personIs 71 = .ok (.invokestatic 88, 3) := by decide +kernel
theorem dX8_personIs_74 : decode cX8_personIs 74 = .ok (.ireturn, 1) := by decide +kernel
theorem dX8_personIs_75 : decode cX8_personIs 75 = .ok (.aload_n 3, 1) := by decide +kernel
theorem dX8_personIs_76 : decode cX8_personIs 76 = .ok (.iload_n 1, 1) := by decide +kernel
theorem dX8_personIs_77 : decode cX8_personIs 77 = .ok (.invokevirtual 93, 3) := by decide +kernel
theorem dX8_personIs_80 : decode cX8_personIs 80 = .ok (.ireturn, 1) := by decide +kernel
theorem dX8_personIs_81 : decode cX8_personIs 81 = .ok (.aload_n 0, 1) := by decide +kernel
theorem dX8_personIs_82 : decode cX8_personIs 82 = .ok (.iconst 1, 1) := by decide +kernel
theorem dX8_personIs_83 : decode cX8_personIs 83 = .ok (.invokevirtual 59, 3) := by decide +kernel
theorem dX8_personIs_86 : decode cX8_personIs 86 = .ok (.ireturn, 1) := by decide +kernel
theorem dX8_man_0 : decode cX8_man 0 = .ok (.iload_n 1, 1) := by decide +kernel
theorem dX8_man_1 : decode cX8_man 1 = .ok (.ifCond .lt 16, 3) := by decide +kernel
theorem dX8_man_4 : decode cX8_man 4 = .ok (.iload_n 1, 1) := by decide +kernel
theorem dX8_man_5 : decode cX8_man 5 = .ok (.bipush 70, 2) := by decide +kernel
theorem dX8_man_7 : decode cX8_man 7 = .ok (.if_icmp .ge 10, 3) := by decide +kernel
theorem dX8_man_10 : decode cX8_man 10 = .ok (.iload_n 2, 1) := by decide +kernel
theorem dX8_man_11 : decode cX8_man 11 = .ok (.invokestatic 55, 3) := by decide +kernel
theorem dX8_man_14 : decode cX8_man 14 = .ok (.ifCond .ne 9, 3) := by decide +kernel
theorem dX8_man_17 : decode cX8_man 17 = .ok (.aload_n 0, 1) := by decide +kernel
theorem dX8_man_18 : decode cX8_man 18 = .ok (.iconst 1, 1) := by decide +kernel
theorem dX8_man_19 : decode cX8_man 19 = .ok (.invokevirtual 59, 3) := by decide +kernel
theorem dX8_man_22 : decode cX8_man 22 = .ok (.ireturn, 1) := by decide +kernel
theorem dX8_man_23 : decode cX8_man 23 = .ok (.aload_n 0, 1) := by decide +kernel
theorem dX8_man_24 : decode cX8_man 24 = .ok (.getfield 23, 3) := by decide +kernel
theorem dX8_man_27 : decode cX8_man 27 = .ok (.getfield 63, 3) := by decide +kernel
theorem dX8_man_30 : decode cX8_man 30 = .ok (.getfield 96, 3) := by decide +kernel
theorem dX8_man_33 : decode cX8_man 33 = .ok (.iconst 4, 1) := by decide +kernel
theorem dX8_man_34 : decode cX8_man 34 = .ok (.if_icmp .lt 9, 3) := by decide +kernel
theorem dX8_man_37 : decode cX8_man 37 = .ok (.aload_n 0, 1) := by decide +kernel
theorem dX8_man_38 : decode cX8_man 38 = .ok (.iconst 4, 1) := by decide +kernel
theorem dX8_man_39 : decode cX8_man 39 = .ok (.invokevirtual 59, 3) := by decide +kernel
theorem dX8_man_42 : decode cX8_man 42 = .ok (.ireturn, 1) := by decide +kernel
theorem dX8_man_43 : decode cX8_man 43 = .ok (.aload_n 0, 1) := by decide +kernel
theorem dX8_man_44 : decode cX8_man 44 = .ok (.getfield 23, 3) := by decide +kernel
theorem dX8_man_47 : decode cX8_man 47 = .ok (.getfield 63, 3) := by decide +kernel
theorem dX8_man_50 : decode cX8_man 50 = .ok (.iload_n 1, 1) := by decide +kernel
theorem dX8_man_51 : decode cX8_man 51 = .ok (.bipush 10, 2) := by decide +kernel
theorem dX8_man_53 : decode cX8_man 53 = .ok (.idiv, 1) := by decide +kernel
theorem dX8_man_54 : decode cX8_man 54 = .ok (.iload_n 1, 1) := by decide +kernel
theorem dX8_man_55 : decode cX8_man 55 = .ok (.bipush 10, 2) := by decide +kernel
theorem dX8_man_57 : decode cX8_man 57 = .ok (.irem, 1) := by decide +kernel
theorem dX8_man_58 : decode cX8_man 58 = .ok (.iload_n 2, 1) := by decide +kernel
theorem dX8_man_59 : decode cX8_man 59 = .ok (.invokevirtual 99, 3) := by decide +kernel
theorem dX8_man_62 : decode cX8_man 62 = .ok (.ireturn, 1) := by decide +kernel
theorem dX8_manIs_0 : decode cX8_manIs 0 = .ok (.aload_n 0, 1) := by decide +kernel
theorem dX8_manIs_1 : decode cX8_manIs 1 = .ok (.getfield 23, 3) := by decide +kernel
theorem dX8_manIs_4 : decode cX8_manIs 4 = .ok (.getfield 63, 3) := by decide +kernel
theorem dX8_manIs_7 : decode cX8_manIs 7 = .ok (.astore_n 3, 1) := by decide +kernel
theorem dX8_manIs_8 : decode cX8_manIs 8 = .ok (.aload_n 3, 1) := by decide +kernel
theorem dX8_manIs_9 : decode cX8_manIs 9 = .ok (.iload_n 1, 1) := by decide +kernel
theorem dX8_manIs_10 : decode cX8_manIs 10 = .ok (.invokevirtual 103, 3) := by decide +kernel
theorem dX8_manIs_13 : decode cX8_manIs 13 = .ok (.ifCond .ne 9, 3) := by decide +kernel
theorem dX8_manIs_16 : decode cX8_manIs 16 = .ok (.aload_n 0, 1) := by decide +kernel
theorem dX8_manIs_17 : decode cX8_manIs 17 = .ok (.iconst 1, 1) := by decide +kernel
theorem dX8_manIs_18 : decode cX8_manIs 18 = .ok (.invokevirtual 59, 3) := by decide +kernel
theorem dX8_manIs_21 : decode cX8_manIs 21 = .ok (.ireturn, 1) := by decide +kernel
theorem dX8_manIs_22 : decode cX8_manIs 22 = .ok (.iload_n 2, 1) := by decide +kernel
theorem dX8_manIs_23 : decode cX8_manIs 23 = .ok (.tableswitch 88 0 6 #[41, 48, 55, 62, 69, 75, 81], 41) := by decide +kernel
theorem dX8_manIs_64 : decode cX8_manIs 64 = .ok (.aload_n 3, 1) := by decide +kernel
theorem dX8_manIs_65 : decode cX8_manIs 65 = .ok (.getfield 106, 3) := by decide +kernel
theorem dX8_manIs_68 : decode cX8_manIs 68 = .ok (.iload_n 1, 1) := by decide +kernel
theorem dX8_manIs_69 : decode cX8_manIs 69 = .ok (.iaload, 1) := by decide +kernel
theorem dX8_manIs_70 : decode cX8_manIs 70 = .ok (.ireturn, 1) := by decide +kernel
theorem dX8_manIs_71 : decode cX8_manIs 71 = .ok (.aload_n 3, 1) := by decide +kernel
theorem dX8_manIs_72 : decode cX8_manIs 72 = .ok (.getfield 109, 3) := by decide +kernel
theorem dX8_manIs_75 : decode cX8_manIs 75 = .ok (.iload_n 1, 1) := by decide +kernel
theorem dX8_manIs_76 : decode cX8_manIs 76 = .ok (.iaload, 1) := by decide +kernel
theorem dX8_manIs_77 : decode cX8_manIs 77 = .ok (.ireturn, 1) := by decide +kernel
theorem dX8_manIs_78 : decode cX8_manIs 78 = .ok (.aload_n 3, 1) := by decide +kernel
theorem dX8_manIs_79 : decode cX8_manIs 79 = .ok (.getfield 112, 3) := by decide +kernel
theorem dX8_manIs_82 : decode cX8_manIs 82 = .ok (.iload_n 1, 1) := by decide +kernel
theorem dX8_manIs_83 : decode cX8_manIs 83 = .ok (.iaload, 1) := by decide +kernel
theorem dX8_manIs_84 : decode cX8_manIs 84 = .ok (.ireturn, 1) := by decide +kernel
theorem dX8_manIs_85 : decode cX8_manIs 85 = .ok (.aload_n 3, 1) := by decide +kernel
theorem dX8_manIs_86 : decode cX8_manIs 86 = .ok (.getfield 115, 3) := by decide +kernel
theorem dX8_manIs_89 : decode cX8_manIs 89 = .ok (.iload_n 1, 1) := by decide +kernel
theorem dX8_manIs_90 : decode cX8_manIs 90 = .ok (.iaload, 1) := by decide +kernel
theorem dX8_manIs_91 : decode cX8_manIs 91 = .ok (.ireturn, 1) := by decide +kernel
theorem dX8_manIs_92 : decode cX8_manIs 92 = .ok (.aload_n 3, 1) := by decide +kernel
theorem dX8_manIs_93 : decode cX8_manIs 93 = .ok (.iload_n 1, 1) := by decide +kernel
theorem dX8_manIs_94 : decode cX8_manIs 94 = .ok (.invokevirtual 118, 3) := by decide +kernel
theorem dX8_manIs_97 : decode cX8_manIs 97 = .ok (.ireturn, 1) := by decide +kernel
theorem dX8_manIs_98 : decode cX8_manIs 98 = .ok (.aload_n 3, 1) := by decide +kernel
theorem dX8_manIs_99 : decode cX8_manIs 99 = .ok (.iload_n 1, 1) := by decide +kernel
theorem dX8_manIs_100 : decode cX8_manIs 100 = .ok (.invokevirtual 121, 3) := by decide +kernel
theorem dX8_manIs_103 : decode cX8_manIs 103 = .ok (.ireturn, 1) := by decide +kernel
theorem dX8_manIs_104 : decode cX8_manIs 104 = .ok (.aload_n 3, 1) := by decide +kernel
theorem dX8_manIs_105 : decode cX8_manIs 105 = .ok (.getfield 124, 3) := by decide +kernel
theorem dX8_manIs_108 : decode cX8_manIs 108 = .ok (.iload_n 1, 1) := by decide +kernel
theorem dX8_manIs_109 : decode cX8_manIs 109 = .ok (.iaload, 1) := by decide +kernel
theorem dX8_manIs_110 : decode cX8_manIs 110 = .ok (.ireturn, 1) := by decide +kernel
theorem dX8_manIs_111 : decode cX8_manIs 111 = .ok (.iload_n 2, 1) := by decide +kernel
theorem dX8_manIs_112 : decode cX8_manIs 112 = .ok (.bipush 7, 2) := by decide +kernel
theorem dX8_manIs_114 : decode cX8_manIs 114 = .ok (.if_icmp .lt 9, 3) := by decide +kernel
theorem dX8_manIs_117 : decode cX8_manIs 117 = .ok (.iload_n 2, 1) := by decide +kernel
theorem dX8_manIs_118 : decode cX8_manIs 118 = .ok (.bipush 15, 2) := by decide +kernel
theorem dX8_manIs_120 : decode cX8_manIs 120 = .ok (.if_icmp .lt 9, 3) := by decide +kernel
theorem dX8_manIs_123 : decode cX8_manIs 123 = .ok (.aload_n 0, 1) := by decide +kernel
theorem dX8_manIs_124 : decode cX8_manIs 124 = .ok (.iconst 1, 1) := by decide +kernel
theorem dX8_manIs_125 : decode cX8_manIs 125 = .ok (.invokevirtual 59, 3) := by decide +kernel
theorem dX8_manIs_128 : decode cX8_manIs 128 = .ok (.ireturn, 1) := by decide +kernel
theorem dX8_manIs_129 : decode cX8_manIs 129 = .ok (.aload_n 3, 1) := by decide +kernel
theorem dX8_manIs_130 : decode cX8_manIs 130 = .ok (.iload_n 1, 1) := by decide +kernel
theorem dX8_manIs_131 : decode cX8_manIs 131 = .ok (.iload_n 2, 1) := by decide +kernel
theorem dX8_manIs_132 : decode cX8_manIs 132 = .ok (.bipush 7, 2) := by decide +kernel
theorem dX8_manIs_134 : decode cX8_manIs 134 = .ok (.isub, 1) := by decide +kernel
theorem dX8_manIs_135 : decode cX8_manIs 135 = .ok (.invokevirtual 127, 3) := by decide +kernel
theorem dX8_manIs_138 : decode cX8_manIs 138 = .ok (.ireturn, 1) := by decide +kernel
theorem dX8_as_0 : decode cX8_as 0 = .ok (.aload_n 0, 1) := by decide +kernel
theorem dX8_as_1 : decode cX8_as 1 = .ok (.getfield 23, 3) := by decide +kernel
theorem dX8_as_4 : decode cX8_as 4 = .ok (.getfield 63, 3) := by decide +kernel
theorem dX8_as_7 : decode cX8_as 7 = .ok (.iload_n 1, 1) := by decide +kernel
theorem dX8_as_8 : decode cX8_as 8 = .ok (.invokevirtual 103, 3) := by decide +kernel
theorem dX8_as_11 : decode cX8_as 11 = .ok (.ifCond .eq 10, 3) := by decide +kernel
theorem dX8_as_14 : decode cX8_as 14 = .ok (.iload_n 2, 1) := by decide +kernel
theorem dX8_as_15 : decode cX8_as 15 = .ok (.invokestatic 131, 3) := by decide +kernel
theorem dX8_as_18 : decode cX8_as 18 = .ok (.ifCond .ne 9, 3) := by decide +kernel
theorem dX8_as_21 : decode cX8_as 21 = .ok (.aload_n 0, 1) := by decide +kernel
theorem dX8_as_22 : decode cX8_as 22 = .ok (.iconst 1, 1) := by decide +kernel
theorem dX8_as_23 : decode cX8_as 23 = .ok (.invokevirtual 59, 3) := by decide +kernel
theorem dX8_as_26 : decode cX8_as 26 = .ok (.ireturn, 1) := by decide +kernel
theorem dX8_as_27 : decode cX8_as 27 = .ok (.aload_n 0, 1) := by decide +kernel
theorem dX8_as_28 : decode cX8_as 28 = .ok (.getfield 23, 3) := by decide +kernel
theorem dX8_as_31 : decode cX8_as 31 = .ok (.getfield 63, 3) := by decide +kernel
theorem dX8_as_34 : decode cX8_as 34 = .ok (.getfield 106, 3) := by decide +kernel
theorem dX8_as_37 : decode cX8_as 37 = .ok (.iload_n 1, 1) := by decide +kernel
theorem dX8_as_38 : decode cX8_as 38 = .ok (.iaload, 1) := by decide +kernel
theorem dX8_as_39 : decode cX8_as 39 = .ok (.iload_n 2, 1) := by decide +kernel
theorem dX8_as_40 : decode cX8_as 40 = .ok (.invokestatic 134, 3) := by decide +kernel
theorem dX8_as_43 : decode cX8_as 43 = .ok (.ifCond .ne 9, 3) := by decide +kernel
theorem dX8_as_46 : decode cX8_as 46 = .ok (.aload_n 0, 1) := by decide +kernel
theorem dX8_as_47 : decode cX8_as 47 = .ok (.iconst 5, 1) := by decide +kernel
theorem dX8_as_48 : decode cX8_as 48 = .ok (.invokevirtual 59, 3) := by decide +kernel
theorem dX8_as_51 : decode cX8_as 51 = .ok (.ireturn, 1) := by decide +kernel
theorem dX8_as_52 : decode cX8_as 52 = .ok (.aload_n 0, 1) := by decide +kernel
theorem dX8_as_53 : decode cX8_as 53 = .ok (.getfield 23, 3) := by decide +kernel
theorem dX8_as_56 : decode cX8_as 56 = .ok (.getfield 63, 3) := by decide +kernel
theorem dX8_as_59 : decode cX8_as 59 = .ok (.getfield 115, 3) := by decide +kernel
theorem dX8_as_62 : decode cX8_as 62 = .ok (.iload_n 1, 1) := by decide +kernel
theorem dX8_as_63 : decode cX8_as 63 = .ok (.iaload, 1) := by decide +kernel
theorem dX8_as_64 : decode cX8_as 64 = .ok (.ireturn, 1) := by decide +kernel
theorem dX8_setMan_0 : decode cX8_setMan 0 = .ok (.aload_n 0, 1) := by decide +kernel
theorem dX8_setMan_1 : decode cX8_setMan 1 = .ok (.getfield 23, 3) := by decide +kernel
theorem dX8_setMan_4 : decode cX8_setMan 4 = .ok (.getfield 63, 3) := by decide +kernel
theorem dX8_setMan_7 : decode cX8_setMan 7 = .ok (.astore 4, 2) := by decide +kernel
theorem dX8_setMan_9 : decode cX8_setMan 9 = .ok (.aload 4, 2) := by decide +kernel
theorem dX8_setMan_11 : decode cX8_setMan 11 = .ok (.iload_n 1, 1) := by decide +kernel
theorem dX8_setMan_12 : decode cX8_setMan 12 = .ok (.invokevirtual 103, 3) := by decide +kernel
theorem dX8_setMan_15 : decode cX8_setMan 15 = .ok (.ifCond .ne 9, 3) := by decide +kernel
theorem dX8_setMan_18 : decode cX8_setMan 18 = .ok (.aload_n 0, 1) := by decide +kernel
theorem dX8_setMan_19 : decode cX8_setMan 19 = .ok (.iconst 1, 1) := by decide +kernel
theorem dX8_setMan_20 : decode cX8_setMan 20 = .ok (.invokevirtual 59, 3) := by decide +kernel
theorem dX8_setMan_23 : decode cX8_setMan 23 = .ok (.ireturn, 1) := by decide +kernel
theorem dX8_setMan_24 : decode cX8_setMan 24 = .ok (.iload_n 2, 1) := by decide +kernel
theorem dX8_setMan_25 : decode cX8_setMan 25 = .ok (.ifCond .ne 21, 3) := by decide +kernel
theorem dX8_setMan_28 : decode cX8_setMan 28 = .ok (.iload_n 3, 1) := by decide +kernel
theorem dX8_setMan_29 : decode cX8_setMan 29 = .ok (.invokestatic 131, 3) := by decide +kernel
theorem dX8_setMan_32 : decode cX8_setMan 32 = .ok (.ifCond .eq 14, 3) := by decide +kernel
theorem dX8_setMan_35 : decode cX8_setMan 35 = .ok (.aload 4, 2) := by decide +kernel
theorem dX8_setMan_37 : decode cX8_setMan 37 = .ok (.getfield 106, 3) := by decide +kernel
theorem dX8_setMan_40 : decode cX8_setMan 40 = .ok (.iload_n 1, 1) := by decide +kernel
theorem dX8_setMan_41 : decode cX8_setMan 41 = .ok (.iload_n 3, 1) := by decide +kernel
theorem dX8_setMan_42 : decode cX8_setMan 42 = .ok (.invokestatic 138, 3) := by decide +kernel
theorem dX8_setMan_45 : decode cX8_setMan 45 = .ok (.ireturn, 1) := by decide +kernel
theorem dX8_setMan_46 : decode cX8_setMan 46 = .ok (.iload_n 2, 1) := by decide +kernel
theorem dX8_setMan_47 : decode cX8_setMan 47 = .ok (.iconst 1, 1) := by decide +kernel
theorem dX8_setMan_48 : decode cX8_setMan 48 = .ok (.if_icmp .ne 24, 3) := by decide +kernel
theorem dX8_setMan_51 : decode cX8_setMan 51 = .ok (.iload_n 3, 1) := by decide +kernel
theorem dX8_setMan_52 : decode cX8_setMan 52 = .ok (.ifCond .lt 20, 3) := by decide +kernel
theorem dX8_setMan_55 : decode cX8_setMan 55 = .ok (.iload_n 3, 1) := by decide +kernel
theorem dX8_setMan_56 : decode cX8_setMan 56 = .ok (.bipush 9, 2) := by decide +kernel
theorem dX8_setMan_58 : decode cX8_setMan 58 = .ok (.if_icmp .gt 14, 3) := by decide +kernel
theorem dX8_setMan_61 : decode cX8_setMan 61 = .ok (.aload 4, 2) := by decide +kernel
theorem dX8_setMan_63 : decode cX8_setMan 63 = .ok (.getfield 109, 3) := by decide +kernel
theorem dX8_setMan_66 : decode cX8_setMan 66 = .ok (.iload_n 1, 1) := by decide +kernel
theorem dX8_setMan_67 : decode cX8_setMan 67 = .ok (.iload_n 3, 1) := by decide +kernel
theorem dX8_setMan_68 : decode cX8_setMan 68 = .ok (.invokestatic 138, 3) := by decide +kernel
theorem dX8_setMan_71 : decode cX8_setMan 71 = .ok (.ireturn, 1) := by decide +kernel
theorem dX8_setMan_72 : decode cX8_setMan 72 = .ok (.iload_n 2, 1) := by decide +kernel
theorem dX8_setMan_73 : decode cX8_setMan 73 = .ok (.iconst 2, 1) := by decide +kernel
theorem dX8_setMan_74 : decode cX8_setMan 74 = .ok (.if_icmp .ne 21, 3) := by decide +kernel
theorem dX8_setMan_77 : decode cX8_setMan 77 = .ok (.iload_n 3, 1) := by decide +kernel
theorem dX8_setMan_78 : decode cX8_setMan 78 = .ok (.invokestatic 55, 3) := by decide +kernel
theorem dX8_setMan_81 : decode cX8_setMan 81 = .ok (.ifCond .eq 14, 3) := by decide +kernel
theorem dX8_setMan_84 : decode cX8_setMan 84 = .ok (.aload 4, 2) := by decide +kernel
theorem dX8_setMan_86 : decode cX8_setMan 86 = .ok (.getfield 112, 3) := by decide +kernel
theorem dX8_setMan_89 : decode cX8_setMan 89 = .ok (.iload_n 1, 1) := by decide +kernel
theorem dX8_setMan_90 : decode cX8_setMan 90 = .ok (.iload_n 3, 1) := by decide +kernel
theorem dX8_setMan_91 : decode cX8_setMan 91 = .ok (.invokestatic 138, 3) := by decide +kernel
theorem dX8_setMan_94 : decode cX8_setMan 94 = .ok (.ireturn, 1) := by decide +kernel
theorem dX8_setMan_95 : decode cX8_setMan 95 = .ok (.aload_n 0, 1) := by decide +kernel
theorem dX8_setMan_96 : decode cX8_setMan 96 = .ok (.iconst 1, 1) := by decide +kernel
theorem dX8_setMan_97 : decode cX8_setMan 97 = .ok (.invokevirtual 59, 3) := by decide +kernel
theorem dX8_setMan_100 : decode cX8_setMan 100 = .ok (.ireturn, 1) := by decide +kernel
theorem dX8_setPerson_0 : decode cX8_setPerson 0 = .ok (.aload_n 0, 1) := by decide +kernel
theorem dX8_setPerson_1 : decode cX8_setPerson 1 = .ok (.getfield 23, 3) := by decide +kernel
theorem dX8_setPerson_4 : decode cX8_setPerson 4 = .ok (.getfield 63, 3) := by decide +kernel
theorem dX8_setPerson_7 : decode cX8_setPerson 7 = .ok (.astore 4, 2) := by decide +kernel
theorem dX8_setPerson_9 : decode cX8_setPerson 9 = .ok (.aload 4, 2) := by decide +kernel
theorem dX8_setPerson_11 : decode cX8_setPerson 11 = .ok (.iload_n 1, 1) := by decide +kernel
theorem dX8_setPerson_12 : decode cX8_setPerson 12 = .ok (.invokevirtual 76, 3) := by decide +kernel
theorem dX8_setPerson_15 : decode cX8_setPerson 15 = .ok (.ifCond .ne 9, 3) := by decide +kernel
theorem dX8_setPerson_18 : decode cX8_setPerson 18 = .ok (.aload_n 0, 1) := by decide +kernel
theorem dX8_setPerson_19 : decode cX8_setPerson 19 = .ok (.iconst 1, 1) := by decide +kernel
theorem dX8_setPerson_20 : decode cX8_setPerson 20 = .ok (.invokevirtual 59, 3) := by decide +kernel
theorem dX8_setPerson_23 : decode cX8_setPerson 23 = .ok (.ireturn, 1) := by decide +kernel
theorem dX8_setPerson_24 : decode cX8_setPerson 24 = .ok (.iload_n 2, 1) := by decide +kernel
theorem dX8_setPerson_25 : decode cX8_setPerson 25 = .ok (.ifCond .ne 21, 3) := by decide +kernel
theorem dX8_setPerson_28 : decode cX8_setPerson 28 = .ok (.iload_n 3, 1) := by decide +kernel
theorem dX8_setPerson_29 : decode cX8_setPerson 29 = .ok (.invokestatic 55, 3) := by decide +kernel
theorem dX8_setPerson_32 : decode cX8_setPerson 32 = .ok (.ifCond .eq 14, 3) := by decide +kernel
theorem dX8_setPerson_35 : decode cX8_setPerson 35 = .ok (.aload 4, 2) := by decide +kernel
theorem dX8_setPerson_37 : decode cX8_setPerson 37 = .ok (.getfield 79, 3) := by decide +kernel
theorem dX8_setPerson_40 : decode cX8_setPerson 40 = .ok (.iload_n 1, 1) := by decide +kernel
theorem dX8_setPerson_41 : decode cX8_setPerson 41 = .ok (.iload_n 3, 1) := by decide +kernel
theorem dX8_setPerson_42 : decode cX8_setPerson 42 = .ok (.invokestatic 138, 3) := by decide +kernel
theorem dX8_setPerson_45 : decode cX8_setPerson 45 = .ok (.ireturn, 1) := by decide +kernel
theorem dX8_setPerson_46 : decode cX8_setPerson 46 = .ok (.iload_n 2, 1) := by decide +kernel
theorem dX8_setPerson_47 : decode cX8_setPerson 47 = .ok (.iconst 1, 1) := by decide +kernel
theorem dX8_setPerson_48 : decode cX8_setPerson 48 = .ok (.if_icmp .ne 25, 3) := by decide +kernel
theorem dX8_setPerson_51 : decode cX8_setPerson 51 = .ok (.iload_n 3, 1) := by decide +kernel
theorem dX8_setPerson_52 : decode cX8_setPerson 52 = .ok (.ifCond .lt 21, 3) := by decide +kernel
theorem dX8_setPerson_55 : decode cX8_setPerson 55 = .ok (.iload_n 3, 1) := by decide +kernel
theorem dX8_setPerson_56 : decode cX8_setPerson 56 = .ok (.sipush 9999, 3) := by decide +kernel
theorem dX8_setPerson_59 : decode cX8_setPerson 59 = .ok (.if_icmp .gt 14, 3) := by decide +kernel
theorem dX8_setPerson_62 : decode cX8_setPerson 62 = .ok (.aload 4, 2) := by decide +kernel
theorem dX8_setPerson_64 : decode cX8_setPerson 64 = .ok (.getfield 82, 3) := by decide +kernel
theorem dX8_setPerson_67 : decode cX8_setPerson 67 = .ok (.iload_n 1, 1) := by decide +kernel
theorem dX8_setPerson_68 : decode cX8_setPerson 68 = .ok (.iload_n 3, 1) := by decide +kernel
theorem dX8_setPerson_69 : decode cX8_setPerson 69 = .ok (.invokestatic 138, 3) := by decide +kernel
theorem dX8_setPerson_72 : decode cX8_setPerson 72 = .ok (.ireturn, 1) := by decide +kernel
theorem dX8_setPerson_73 : decode cX8_setPerson 73 = .ok (.aload_n 0, 1) := by decide +kernel
theorem dX8_setPerson_74 : decode cX8_setPerson 74 = .ok (.iconst 1, 1) := by decide +kernel
theorem dX8_setPerson_75 : decode cX8_setPerson 75 = .ok (.invokevirtual 59, 3) := by decide +kernel
theorem dX8_setPerson_78 : decode cX8_setPerson 78 = .ok (.ireturn, 1) := by decide +kernel
theorem dX8_forget_0 : decode cX8_forget 0 = .ok (.aload_n 0, 1) := by decide +kernel
theorem dX8_forget_1 : decode cX8_forget 1 = .ok (.getfield 23, 3) := by decide +kernel
theorem dX8_forget_4 : decode cX8_forget 4 = .ok (.getfield 63, 3) := by decide +kernel
theorem dX8_forget_7 : decode cX8_forget 7 = .ok (.iload_n 1, 1) := by decide +kernel
theorem dX8_forget_8 : decode cX8_forget 8 = .ok (.invokevirtual 103, 3) := by decide +kernel
theorem dX8_forget_11 : decode cX8_forget 11 = .ok (.ifCond .ne 9, 3) := by decide +kernel
theorem dX8_forget_14 : decode cX8_forget 14 = .ok (.aload_n 0, 1) := by decide +kernel
theorem dX8_forget_15 : decode cX8_forget 15 = .ok (.iconst 1, 1) := by decide +kernel
theorem dX8_forget_16 : decode cX8_forget 16 = .ok (.invokevirtual 59, 3) := by decide +kernel
theorem dX8_forget_19 : decode cX8_forget 19 = .ok (.ireturn, 1) := by decide +kernel
theorem dX8_forget_20 : decode cX8_forget 20 = .ok (.aload_n 0, 1) := by decide +kernel
theorem dX8_forget_21 : decode cX8_forget 21 = .ok (.getfield 23, 3) := by decide +kernel
theorem dX8_forget_24 : decode cX8_forget 24 = .ok (.getfield 63, 3) := by decide +kernel
theorem dX8_forget_27 : decode cX8_forget 27 = .ok (.getfield 124, 3) := by decide +kernel
theorem dX8_forget_30 : decode cX8_forget 30 = .ok (.iload_n 1, 1) := by decide +kernel
theorem dX8_forget_31 : decode cX8_forget 31 = .ok (.iconst 0, 1) := by decide +kernel
theorem dX8_forget_32 : decode cX8_forget 32 = .ok (.invokestatic 138, 3) := by decide +kernel
theorem dX8_forget_35 : decode cX8_forget 35 = .ok (.ireturn, 1) := by decide +kernel
theorem dX8_feed_0 : decode cX8_feed 0 = .ok (.iload_n 3, 1) := by decide +kernel
theorem dX8_feed_1 : decode cX8_feed 1 = .ok (.iconst 1, 1) := by decide +kernel
theorem dX8_feed_2 : decode cX8_feed 2 = .ok (.if_icmp .lt 9, 3) := by decide +kernel
theorem dX8_feed_5 : decode cX8_feed 5 = .ok (.iload_n 3, 1) := by decide +kernel
theorem dX8_feed_6 : decode cX8_feed 6 = .ok (.bipush 8, 2) := by decide +kernel
theorem dX8_feed_8 : decode cX8_feed 8 = .ok (.if_icmp .le 9, 3) := by decide +kernel
theorem dX8_feed_11 : decode cX8_feed 11 = .ok (.aload_n 0, 1) := by decide +kernel
theorem dX8_feed_12 : decode cX8_feed 12 = .ok (.iconst 1, 1) := by decide +kernel
theorem dX8_feed_13 : decode cX8_feed 13 = .ok (.invokevirtual 59, 3) := by decide +kernel
theorem dX8_feed_16 : decode cX8_feed 16 = .ok (.ireturn, 1) := by decide +kernel
theorem dX8_feed_17 : decode cX8_feed 17 = .ok (.aload_n 0, 1) := by decide +kernel
theorem dX8_feed_18 : decode cX8_feed 18 = .ok (.getfield 23, 3) := by decide +kernel
theorem dX8_feed_21 : decode cX8_feed 21 = .ok (.getfield 142, 3) := by decide +kernel
theorem dX8_feed_24 : decode cX8_feed 24 = .ok (.iload_n 3, 1) := by decide +kernel
theorem dX8_feed_25 : decode cX8_feed 25 = .ok (.iadd, 1) := by decide +kernel
theorem dX8_feed_26 : decode cX8_feed 26 = .ok (.bipush 60, 2) := by decide +kernel
theorem dX8_feed_28 : decode cX8_feed 28 = .ok (.if_icmp .le 9, 3) := by decide +kernel
theorem dX8_feed_31 : decode cX8_feed 31 = .ok (.aload_n 0, 1) := by decide +kernel
theorem dX8_feed_32 : decode cX8_feed 32 = .ok (.iconst 4, 1) := by decide +kernel
theorem dX8_feed_33 : decode cX8_feed 33 = .ok (.invokevirtual 59, 3) := by decide +kernel
theorem dX8_feed_36 : decode cX8_feed 36 = .ok (.ireturn, 1) := by decide +kernel
theorem dX8_feed_37 : decode cX8_feed 37 = .ok (.iconst 0, 1) := by decide +kernel
theorem dX8_feed_38 : decode cX8_feed 38 = .ok (.istore 4, 2) := by decide +kernel
theorem dX8_feed_40 : decode cX8_feed 40 = .ok (.iload 4, 2) := by decide +kernel
theorem dX8_feed_42 : decode cX8_feed 42 = .ok (.iload_n 3, 1) := by decide +kernel
theorem dX8_feed_43 : decode cX8_feed 43 = .ok (.if_icmp .ge 49, 3) := by decide +kernel
theorem dX8_feed_46 : decode cX8_feed 46 = .ok (.aload_n 0, 1) := by decide +kernel
theorem dX8_feed_47 : decode cX8_feed 47 = .ok (.getfield 23, 3) := by decide +kernel
theorem dX8_feed_50 : decode cX8_feed 50 = .ok (.getfield 145, 3) := by decide +kernel
theorem dX8_feed_53 : decode cX8_feed 53 = .ok (.aload_n 0, 1) := by decide +kernel
theorem dX8_feed_54 : decode cX8_feed 54 = .ok (.getfield 23, 3) := by decide +kernel
theorem dX8_feed_57 : decode cX8_feed 57 = .ok (.getfield 142, 3) := by decide +kernel
theorem dX8_feed_60 : decode cX8_feed 60 = .ok (.lload_n 1, 1) := by decide +kernel
theorem dX8_feed_61 : decode cX8_feed 61 = .ok (.bipush 8, 2) := by decide +kernel
theorem dX8_feed_63 : decode cX8_feed 63 = .ok (.iload 4, 2) := by decide +kernel
theorem dX8_feed_65 : decode cX8_feed 65 = .ok (.imul, 1) := by decide +kernel
theorem dX8_feed_66 : decode cX8_feed 66 = .ok (.lushr, 1) := by decide +kernel
theorem dX8_feed_67 : decode cX8_feed 67 = .ok (.l2i, 1) := by decide +kernel
theorem dX8_feed_68 : decode cX8_feed 68 = .ok (.sipush 255, 3) := by decide +kernel
theorem dX8_feed_71 : decode cX8_feed 71 = .ok (.iand, 1) := by decide +kernel
theorem dX8_feed_72 : decode cX8_feed 72 = .ok (.iastore, 1) := by decide +kernel
theorem dX8_feed_73 : decode cX8_feed 73 = .ok (.aload_n 0, 1) := by decide +kernel
theorem dX8_feed_74 : decode cX8_feed 74 = .ok (.getfield 23, 3) := by decide +kernel
theorem dX8_feed_77 : decode cX8_feed 77 = .ok (.dup, 1) := by decide +kernel
theorem dX8_feed_78 : decode cX8_feed 78 = .ok (.getfield 142, 3) := by decide +kernel
theorem dX8_feed_81 : decode cX8_feed 81 = .ok (.iconst 1, 1) := by decide +kernel
theorem dX8_feed_82 : decode cX8_feed 82 = .ok (.iadd, 1) := by decide +kernel
theorem dX8_feed_83 : decode cX8_feed 83 = .ok (.putfield 142, 3) := by decide +kernel
theorem dX8_feed_86 : decode cX8_feed 86 = .ok (.iinc 4 1, 3) := by decide +kernel
theorem dX8_feed_89 : decode cX8_feed 89 = .ok (.goto (-49), 3) := by decide +kernel
theorem dX8_feed_92 : decode cX8_feed 92 = .ok (.aload_n 0, 1) := by decide +kernel
theorem dX8_feed_93 : decode cX8_feed 93 = .ok (.getfield 23, 3) := by decide +kernel
theorem dX8_feed_96 : decode cX8_feed 96 = .ok (.getfield 142, 3) := by decide +kernel
theorem dX8_feed_99 : decode cX8_feed 99 = .ok (.ireturn, 1) := by decide +kernel
theorem dX8_text_0 : decode cX8_text 0 = .ok (.iload_n 1, 1) := by decide +kernel
theorem dX8_text_1 : decode cX8_text 1 = .ok (.invokestatic 148, 3) := by decide +kernel
theorem dX8_text_4 : decode cX8_text 4 = .ok (.ifCond .ne 9, 3) := by decide +kernel
theorem dX8_text_7 : decode cX8_text 7 = .ok (.aload_n 0, 1) := by decide +kernel
theorem dX8_text_8 : decode cX8_text 8 = .ok (.iconst 1, 1) := by decide +kernel
theorem dX8_text_9 : decode cX8_text 9 = .ok (.invokevirtual 59, 3) := by decide +kernel
theorem dX8_text_12 : decode cX8_text 12 = .ok (.ireturn, 1) := by decide +kernel
theorem dX8_text_13 : decode cX8_text 13 = .ok (.new 151, 3) := by decide +kernel
theorem dX8_text_16 : decode cX8_text 16 = .ok (.dup, 1) := by decide +kernel
theorem dX8_text_17 : decode cX8_text 17 = .ok (.aload_n 0, 1) := by decide +kernel
theorem dX8_text_18 : decode cX8_text 18 = .ok (.getfield 23, 3) := by decide +kernel
theorem dX8_text_21 : decode cX8_text 21 = .ok (.getfield 145, 3) := by decide +kernel
theorem dX8_text_24 : decode cX8_text 24 = .ok (.aload_n 0, 1) := by decide +kernel
theorem dX8_text_25 : decode cX8_text 25 = .ok (.getfield 23, 3) := by decide +kernel
theorem dX8_text_28 : decode cX8_text 28 = .ok (.getfield 142, 3) := by decide +kernel
theorem dX8_text_31 : decode cX8_text 31 = .ok (.iload_n 1, 1) := by decide +kernel
theorem dX8_text_32 : decode cX8_text 32 = .ok (.invokespecial 153, 3) := by decide +kernel
theorem dX8_text_35 : decode cX8_text 35 = .ok (.astore_n 2, 1) := by decide +kernel
theorem dX8_text_36 : decode cX8_text 36 = .ok (.aload_n 2, 1) := by decide +kernel
theorem dX8_text_37 : decode cX8_text 37 = .ok (.invokevirtual 156, 3) := by decide +kernel
theorem dX8_text_40 : decode cX8_text 40 = .ok (.istore_n 3, 1) := by decide +kernel
theorem dX8_text_41 : decode cX8_text 41 = .ok (.aload_n 0, 1) := by decide +kernel
theorem dX8_text_42 : decode cX8_text 42 = .ok (.getfield 23, 3) := by decide +kernel
theorem dX8_text_45 : decode cX8_text 45 = .ok (.iconst 0, 1) := by decide +kernel
theorem dX8_text_46 : decode cX8_text 46 = .ok (.putfield 142, 3) := by decide +kernel
theorem dX8_text_49 : decode cX8_text 49 = .ok (.iload_n 3, 1) := by decide +kernel
theorem dX8_text_50 : decode cX8_text 50 = .ok (.ifCond .ne 11, 3) := by decide +kernel
theorem dX8_text_53 : decode cX8_text 53 = .ok (.bipush (-10), 2) := by decide +kernel
theorem dX8_text_55 : decode cX8_text 55 = .ok (.aload_n 2, 1) := by decide +kernel
theorem dX8_text_56 : decode cX8_text 56 = .ok (.invokevirtual 160, 3) := by decide +kernel
theorem dX8_text_59 : decode cX8_text 59 = .ok (.isub, 1) := by decide +kernel
theorem dX8_text_60 : decode cX8_text 60 = .ok (.ireturn, 1) := by decide +kernel
theorem dX8_text_61 : decode cX8_text 61 = .ok (.aload_n 0, 1) := by decide +kernel
theorem dX8_text_62 : decode cX8_text 62 = .ok (.getfield 23, 3) := by decide +kernel
theorem dX8_text_65 : decode cX8_text 65 = .ok (.getfield 63, 3) := by decide +kernel
theorem dX8_text_68 : decode cX8_text 68 = .ok (.iload_n 1, 1) := by decide +kernel
theorem dX8_text_69 : decode cX8_text 69 = .ok (.aload_n 2, 1) := by decide +kernel
theorem dX8_text_70 : decode cX8_text 70 = .ok (.invokevirtual 164, 3) := by decide +kernel
theorem dX8_text_73 : decode cX8_text 73 = .ok (.invokevirtual 168, 3) := by decide +kernel
theorem dX8_text_76 : decode cX8_text 76 = .ok (.iconst 1, 1) := by decide +kernel
theorem dX8_text_77 : decode cX8_text 77 = .ok (.ireturn, 1) := by decide +kernel
theorem dX8_untell_0 : decode cX8_untell 0 = .ok (.iload_n 1, 1) := by decide +kernel
theorem dX8_untell_1 : decode cX8_untell 1 = .ok (.invokestatic 148, 3) := by decide +kernel
theorem dX8_untell_4 : decode cX8_untell 4 = .ok (.ifCond .ne 9, 3) := by decide +kernel
theorem dX8_untell_7 : decode cX8_untell 7 = .ok (.aload_n 0, 1) := by decide +kernel
theorem dX8_untell_8 : decode cX8_untell 8 = .ok (.iconst 1, 1) := by decide +kernel
theorem dX8_untell_9 : decode cX8_untell 9 = .ok (.invokevirtual 59, 3) := by decide +kernel
theorem dX8_untell_12 : decode cX8_untell 12 = .ok (.ireturn, 1) := by decide +kernel
theorem dX8_untell_13 : decode cX8_untell 13 = .ok (.aload_n 0, 1) := by decide +kernel
theorem dX8_untell_14 : decode cX8_untell 14 = .ok (.getfield 23, 3) := by decide +kernel
theorem dX8_untell_17 : decode cX8_untell 17 = .ok (.getfield 63, 3) := by decide +kernel
theorem dX8_untell_20 : decode cX8_untell 20 = .ok (.iload_n 1, 1) := by decide +kernel
theorem dX8_untell_21 : decode cX8_untell 21 = .ok (.invokevirtual 172, 3) := by decide +kernel
theorem dX8_untell_24 : decode cX8_untell 24 = .ok (.invokevirtual 175, 3) := by decide +kernel
theorem dX8_untell_27 : decode cX8_untell 27 = .ok (.istore_n 2, 1) := by decide +kernel
theorem dX8_untell_28 : decode cX8_untell 28 = .ok (.aload_n 0, 1) := by decide +kernel
theorem dX8_untell_29 : decode cX8_untell 29 = .ok (.getfield 23, 3) := by decide +kernel
theorem dX8_untell_32 : decode cX8_untell 32 = .ok (.getfield 63, 3) := by decide +kernel
theorem dX8_untell_35 : decode cX8_untell 35 = .ok (.iload_n 1, 1) := by decide +kernel
theorem dX8_untell_36 : decode cX8_untell 36 = .ok (.aload_n 0, 1) := by decide +kernel
theorem dX8_untell_37 : decode cX8_untell 37 = .ok (.getfield 12, 3) := by decide +kernel
theorem dX8_untell_40 : decode cX8_untell 40 = .ok (.invokevirtual 168, 3) := by decide +kernel
theorem dX8_untell_43 : decode cX8_untell 43 = .ok (.iload_n 2, 1) := by decide +kernel
theorem dX8_untell_44 : decode cX8_untell 44 = .ok (.ifCond .eq 7, 3) := by decide +kernel
theorem dX8_untell_47 : decode cX8_untell 47 = .ok (.iconst 1, 1) := by decide +kernel
theorem dX8_untell_48 : decode cX8_untell 48 = .ok (.goto 4, 3) := by decide +kernel
theorem dX8_untell_51 : decode cX8_untell 51 = .ok (.iconst 0, 1) := by decide +kernel
theorem dX8_untell_52 : decode cX8_untell 52 = .ok (.ireturn, 1) := by decide +kernel
theorem dX8_cross_0 : decode cX8_cross 0 = .ok (.aload_n 0, 1) := by decide +kernel
theorem dX8_cross_1 : decode cX8_cross 1 = .ok (.iload_n 1, 1) := by decide +kernel
theorem dX8_cross_2 : decode cX8_cross 2 = .ok (.iload_n 2, 1) := by decide +kernel
theorem dX8_cross_3 : decode cX8_cross 3 = .ok (.invokevirtual 178, 3) := by decide +kernel
theorem dX8_cross_6 : decode cX8_cross 6 = .ok (.istore_n 3, 1) := by decide +kernel
theorem dX8_cross_7 : decode cX8_cross 7 = .ok (.iload_n 3, 1) := by decide +kernel
theorem dX8_cross_8 : decode cX8_cross 8 = .ok (.ifCond .eq 9, 3) := by decide +kernel
theorem dX8_cross_11 : decode cX8_cross 11 = .ok (.aload_n 0, 1) := by decide +kernel
theorem dX8_cross_12 : decode cX8_cross 12 = .ok (.iload_n 3, 1) := by decide +kernel
theorem dX8_cross_13 : decode cX8_cross 13 = .ok (.invokevirtual 59, 3) := by decide +kernel
theorem dX8_cross_16 : decode cX8_cross 16 = .ok (.ireturn, 1) := by decide +kernel
theorem dX8_cross_17 : decode cX8_cross 17 = .ok (.aload_n 0, 1) := by decide +kernel
theorem dX8_cross_18 : decode cX8_cross 18 = .ok (.getfield 23, 3) := by decide +kernel
theorem dX8_cross_21 : decode cX8_cross 21 = .ok (.iload_n 1, 1) := by decide +kernel
theorem dX8_cross_22 : decode cX8_cross 22 = .ok (.iload_n 2, 1) := by decide +kernel
theorem dX8_cross_23 : decode cX8_cross 23 = .ok (.invokevirtual 181, 3) := by decide +kernel
theorem dX8_cross_26 : decode cX8_cross 26 = .ok (.ireturn, 1) := by decide +kernel
theorem dX8_alone_0 : decode cX8_alone 0 = .ok (.aload_n 0, 1) := by decide +kernel
theorem dX8_alone_1 : decode cX8_alone 1 = .ok (.getfield 23, 3) := by decide +kernel
theorem dX8_alone_4 : decode cX8_alone 4 = .ok (.getfield 63, 3) := by decide +kernel
theorem dX8_alone_7 : decode cX8_alone 7 = .ok (.iload_n 1, 1) := by decide +kernel
theorem dX8_alone_8 : decode cX8_alone 8 = .ok (.invokevirtual 103, 3) := by decide +kernel
theorem dX8_alone_11 : decode cX8_alone 11 = .ok (.ifCond .ne 9, 3) := by decide +kernel
theorem dX8_alone_14 : decode cX8_alone 14 = .ok (.aload_n 0, 1) := by decide +kernel
theorem dX8_alone_15 : decode cX8_alone 15 = .ok (.iconst 1, 1) := by decide +kernel
theorem dX8_alone_16 : decode cX8_alone 16 = .ok (.invokevirtual 59, 3) := by decide +kernel
theorem dX8_alone_19 : decode cX8_alone 19 = .ok (.ireturn, 1) := by decide +kernel
theorem dX8_alone_20 : decode cX8_alone 20 = .ok (.aload_n 0, 1) := by decide +kernel
theorem dX8_alone_21 : decode cX8_alone 21 = .ok (.getfield 23, 3) := by decide +kernel
theorem dX8_alone_24 : decode cX8_alone 24 = .ok (.getfield 63, 3) := by decide +kernel
theorem dX8_alone_27 : decode cX8_alone 27 = .ok (.getfield 184, 3) := by decide +kernel
theorem dX8_alone_30 : decode cX8_alone 30 = .ok (.sipush 9999, 3) := by decide +kernel
theorem dX8_alone_33 : decode cX8_alone 33 = .ok (.if_icmp .lt 9, 3) := by decide +kernel
theorem dX8_alone_36 : decode cX8_alone 36 = .ok (.aload_n 0, 1) := by decide +kernel
theorem dX8_alone_37 : decode cX8_alone 37 = .ok (.iconst 3, 1) := by decide +kernel
theorem dX8_alone_38 : decode cX8_alone 38 = .ok (.invokevirtual 59, 3) := by decide +kernel
theorem dX8_alone_41 : decode cX8_alone 41 = .ok (.ireturn, 1) := by decide +kernel
theorem dX8_alone_42 : decode cX8_alone 42 = .ok (.aload_n 0, 1) := by decide +kernel
theorem dX8_alone_43 : decode cX8_alone 43 = .ok (.getfield 23, 3) := by decide +kernel
theorem dX8_alone_46 : decode cX8_alone 46 = .ok (.getfield 63, 3) := by decide +kernel
theorem dX8_alone_49 : decode cX8_alone 49 = .ok (.iload_n 1, 1) := by decide +kernel
theorem dX8_alone_50 : decode cX8_alone 50 = .ok (.invokevirtual 187, 3) := by decide +kernel
theorem dX8_alone_53 : decode cX8_alone 53 = .ok (.aload_n 0, 1) := by decide +kernel
theorem dX8_alone_54 : decode cX8_alone 54 = .ok (.getfield 23, 3) := by decide +kernel
theorem dX8_alone_57 : decode cX8_alone 57 = .ok (.getfield 63, 3) := by decide +kernel
theorem dX8_alone_60 : decode cX8_alone 60 = .ok (.getfield 112, 3) := by decide +kernel
theorem dX8_alone_63 : decode cX8_alone 63 = .ok (.iload_n 1, 1) := by decide +kernel
theorem dX8_alone_64 : decode cX8_alone 64 = .ok (.iaload, 1) := by decide +kernel
theorem dX8_alone_65 : decode cX8_alone 65 = .ok (.ireturn, 1) := by decide +kernel
theorem dX8_draws_0 : decode cX8_draws 0 = .ok (.iload_n 1, 1) := by decide +kernel
theorem dX8_draws_1 : decode cX8_draws 1 = .ok (.iconst 1, 1) := by decide +kernel
theorem dX8_draws_2 : decode cX8_draws 2 = .ok (.if_icmp .lt 9, 3) := by decide +kernel
theorem dX8_draws_5 : decode cX8_draws 5 = .ok (.iload_n 1, 1) := by decide +kernel
theorem dX8_draws_6 : decode cX8_draws 6 = .ok (.bipush 60, 2) := by decide +kernel
theorem dX8_draws_8 : decode cX8_draws 8 = .ok (.if_icmp .le 9, 3) := by decide +kernel
theorem dX8_draws_11 : decode cX8_draws 11 = .ok (.aload_n 0, 1) := by decide +kernel
theorem dX8_draws_12 : decode cX8_draws 12 = .ok (.iconst 1, 1) := by decide +kernel
theorem dX8_draws_13 : decode cX8_draws 13 = .ok (.invokevirtual 59, 3) := by decide +kernel
theorem dX8_draws_16 : decode cX8_draws 16 = .ok (.ireturn, 1) := by decide +kernel
theorem dX8_draws_17 : decode cX8_draws 17 = .ok (.aload_n 0, 1) := by decide +kernel
theorem dX8_draws_18 : decode cX8_draws 18 = .ok (.getfield 23, 3) := by decide +kernel
theorem dX8_draws_21 : decode cX8_draws 21 = .ok (.getfield 63, 3) := by decide +kernel
theorem dX8_draws_24 : decode cX8_draws 24 = .ok (.getfield 96, 3) := by decide +kernel
theorem dX8_draws_27 : decode cX8_draws 27 = .ok (.ifCond .eq 21, 3) := by decide +kernel
theorem dX8_draws_30 : decode cX8_draws 30 = .ok (.aload_n 0, 1) := by decide +kernel
theorem dX8_draws_31 : decode cX8_draws 31 = .ok (.getfield 23, 3) := by decide +kernel
theorem dX8_draws_34 : decode cX8_draws 34 = .ok (.getfield 63, 3) := by decide +kernel
theorem dX8_draws_37 : decode cX8_draws 37 = .ok (.getfield 184, 3) := by decide +kernel
theorem dX8_draws_40 : decode cX8_draws 40 = .ok (.iload_n 1, 1) := by decide +kernel
theorem dX8_draws_41 : decode cX8_draws 41 = .ok (.iadd, 1) := by decide +kernel
theorem dX8_draws_42 : decode cX8_draws 42 = .ok (.sipush 9999, 3) := by decide +kernel
theorem dX8_draws_45 : decode cX8_draws 45 = .ok (.if_icmp .le 9, 3) := by decide +kernel
theorem dX8_draws_48 : decode cX8_draws 48 = .ok (.aload_n 0, 1) := by decide +kernel
theorem dX8_draws_49 : decode cX8_draws 49 = .ok (.iconst 3, 1) := by decide +kernel
theorem dX8_draws_50 : decode cX8_draws 50 = .ok (.invokevirtual 59, 3) := by decide +kernel
theorem dX8_draws_53 : decode cX8_draws 53 = .ok (.ireturn, 1) := by decide +kernel
theorem dX8_draws_54 : decode cX8_draws 54 = .ok (.iconst 0, 1) := by decide +kernel
theorem dX8_draws_55 : decode cX8_draws 55 = .ok (.istore_n 2, 1) := by decide +kernel
theorem dX8_draws_56 : decode cX8_draws 56 = .ok (.iload_n 2, 1) := by decide +kernel
theorem dX8_draws_57 : decode cX8_draws 57 = .ok (.iload_n 1, 1) := by decide +kernel
theorem dX8_draws_58 : decode cX8_draws 58 = .ok (.if_icmp .ge 16, 3) := by decide +kernel
theorem dX8_draws_61 : decode cX8_draws 61 = .ok (.aload_n 0, 1) := by decide +kernel
theorem dX8_draws_62 : decode cX8_draws 62 = .ok (.getfield 23, 3) := by decide +kernel
theorem dX8_draws_65 : decode cX8_draws 65 = .ok (.invokevirtual 191, 3) := by decide +kernel
theorem dX8_draws_68 : decode cX8_draws 68 = .ok (.iinc 2 1, 3) := by decide +kernel
theorem dX8_draws_71 : decode cX8_draws 71 = .ok (.goto (-15), 3) := by decide +kernel
theorem dX8_draws_74 : decode cX8_draws 74 = .ok (.aload_n 0, 1) := by decide +kernel
theorem dX8_draws_75 : decode cX8_draws 75 = .ok (.getfield 23, 3) := by decide +kernel
theorem dX8_draws_78 : decode cX8_draws 78 = .ok (.getfield 63, 3) := by decide +kernel
theorem dX8_draws_81 : decode cX8_draws 81 = .ok (.getfield 184, 3) := by decide +kernel
theorem dX8_draws_84 : decode cX8_draws 84 = .ok (.ireturn, 1) := by decide +kernel
theorem dX8_seed_0 : decode cX8_seed 0 = .ok (.aload_n 0, 1) := by decide +kernel
theorem dX8_seed_1 : decode cX8_seed 1 = .ok (.getfield 23, 3) := by decide +kernel
theorem dX8_seed_4 : decode cX8_seed 4 = .ok (.getfield 194, 3) := by decide +kernel
theorem dX8_seed_7 : decode cX8_seed 7 = .ok (.istore_n 2, 1) := by decide +kernel
theorem dX8_seed_8 : decode cX8_seed 8 = .ok (.aload_n 0, 1) := by decide +kernel
theorem dX8_seed_9 : decode cX8_seed 9 = .ok (.getfield 23, 3) := by decide +kernel
theorem dX8_seed_12 : decode cX8_seed 12 = .ok (.iload_n 1, 1) := by decide +kernel
theorem dX8_seed_13 : decode cX8_seed 13 = .ok (.putfield 194, 3) := by decide +kernel
theorem dX8_seed_16 : decode cX8_seed 16 = .ok (.iload_n 2, 1) := by decide +kernel
theorem dX8_seed_17 : decode cX8_seed 17 = .ok (.ireturn, 1) := by decide +kernel
theorem dX8_book_0 : decode cX8_book 0 = .ok (.iload_n 1, 1) := by decide +kernel
theorem dX8_book_1 : decode cX8_book 1 = .ok (.ifCond .lt 14, 3) := by decide +kernel
theorem dX8_book_4 : decode cX8_book 4 = .ok (.iload_n 1, 1) := by decide +kernel
theorem dX8_book_5 : decode cX8_book 5 = .ok (.aload_n 0, 1) := by decide +kernel
theorem dX8_book_6 : decode cX8_book 6 = .ok (.getfield 23, 3) := by decide +kernel
theorem dX8_book_9 : decode cX8_book 9 = .ok (.getfield 197, 3) := by decide +kernel
theorem dX8_book_12 : decode cX8_book 12 = .ok (.if_icmp .lt 9, 3) := by decide +kernel
theorem dX8_book_15 : decode cX8_book 15 = .ok (.aload_n 0, 1) := by decide +kernel
theorem dX8_book_16 : decode cX8_book 16 = .ok (.iconst 2, 1) := by decide +kernel
theorem dX8_book_17 : decode cX8_book 17 = .ok (.invokevirtual 59, 3) := by decide +kernel
theorem dX8_book_20 : decode cX8_book 20 = .ok (.ireturn, 1) := by decide +kernel
theorem dX8_book_21 : decode cX8_book 21 = .ok (.aload_n 0, 1) := by decide +kernel
theorem dX8_book_22 : decode cX8_book 22 = .ok (.getfield 23, 3) := by decide +kernel
theorem dX8_book_25 : decode cX8_book 25 = .ok (.getfield 200, 3) := by decide +kernel
theorem dX8_book_28 : decode cX8_book 28 = .ok (.iload_n 1, 1) := by decide +kernel
theorem dX8_book_29 : decode cX8_book 29 = .ok (.iaload, 1) := by decide +kernel
theorem dX8_book_30 : decode cX8_book 30 = .ok (.ireturn, 1) := by decide +kernel
theorem dX8_debt_0 : decode cX8_debt 0 = .ok (.aload_n 0, 1) := by decide +kernel
theorem dX8_debt_1 : decode cX8_debt 1 = .ok (.getfield 23, 3) := by decide +kernel
theorem dX8_debt_4 : decode cX8_debt 4 = .ok (.getfield 63, 3) := by decide +kernel
theorem dX8_debt_7 : decode cX8_debt 7 = .ok (.astore 4, 2) := by decide +kernel
theorem dX8_debt_9 : decode cX8_debt 9 = .ok (.aload 4, 2) := by decide +kernel
theorem dX8_debt_11 : decode cX8_debt 11 = .ok (.iload_n 1, 1) := by decide +kernel
theorem dX8_debt_12 : decode cX8_debt 12 = .ok (.invokevirtual 76, 3) := by decide +kernel
theorem dX8_debt_15 : decode cX8_debt 15 = .ok (.ifCond .eq 17, 3) := by decide +kernel
theorem dX8_debt_18 : decode cX8_debt 18 = .ok (.aload 4, 2) := by decide +kernel
theorem dX8_debt_20 : decode cX8_debt 20 = .ok (.iload_n 2, 1) := by decide +kernel
theorem dX8_debt_21 : decode cX8_debt 21 = .ok (.invokevirtual 76, 3) := by decide +kernel
theorem dX8_debt_24 : decode cX8_debt 24 = .ok (.ifCond .eq 8, 3) := by decide +kernel
theorem dX8_debt_27 : decode cX8_debt 27 = .ok (.iload_n 1, 1) := by decide +kernel
theorem dX8_debt_28 : decode cX8_debt 28 = .ok (.iload_n 2, 1) := by decide +kernel
theorem dX8_debt_29 : decode cX8_debt 29 = .ok (.if_icmp .ne 9, 3) := by decide +kernel
theorem dX8_debt_32 : decode cX8_debt 32 = .ok (.aload_n 0, 1) := by decide +kernel
theorem dX8_debt_33 : decode cX8_debt 33 = .ok (.iconst 1, 1) := by decide +kernel
theorem dX8_debt_34 : decode cX8_debt 34 = .ok (.invokevirtual 59, 3) := by decide +kernel
theorem dX8_debt_37 : decode cX8_debt 37 = .ok (.ireturn, 1) := by decide +kernel
theorem dX8_debt_38 : decode cX8_debt 38 = .ok (.iload_n 3, 1) := by decide +kernel
theorem dX8_debt_39 : decode cX8_debt 39 = .ok (.iconst 1, 1) := by decide +kernel
theorem dX8_debt_40 : decode cX8_debt 40 = .ok (.if_icmp .lt 10, 3) := by decide +kernel
theorem dX8_debt_43 : decode cX8_debt 43 = .ok (.iload_n 3, 1) := by decide +kernel
theorem dX8_debt_44 : decode cX8_debt 44 = .ok (.sipush 999, 3) := by decide +kernel
theorem dX8_debt_47 : decode cX8_debt 47 = .ok (.if_icmp .le 9, 3) := by decide +kernel
theorem dX8_debt_50 : decode cX8_debt 50 = .ok (.aload_n 0, 1) := by decide +kernel
theorem dX8_debt_51 : decode cX8_debt 51 = .ok (.iconst 1, 1) := by decide +kernel
theorem dX8_debt_52 : decode cX8_debt 52 = .ok (.invokevirtual 59, 3) := by decide +kernel
theorem dX8_debt_55 : decode cX8_debt 55 = .ok (.ireturn, 1) := by decide +kernel
theorem dX8_debt_56 : decode cX8_debt 56 = .ok (.aload_n 0, 1) := by decide +kernel
theorem dX8_debt_57 : decode cX8_debt 57 = .ok (.getfield 23, 3) := by decide +kernel
theorem dX8_debt_60 : decode cX8_debt 60 = .ok (.getfield 205, 3) := by decide +kernel
theorem dX8_debt_63 : decode cX8_debt 63 = .ok (.getfield 209, 3) := by decide +kernel
theorem dX8_debt_66 : decode cX8_debt 66 = .ok (.bipush 8, 2) := by decide +kernel
theorem dX8_debt_68 : decode cX8_debt 68 = .ok (.if_icmp .lt 9, 3) := by decide +kernel
theorem dX8_debt_71 : decode cX8_debt 71 = .ok (.aload_n 0, 1) := by decide +kernel
theorem dX8_debt_72 : decode cX8_debt 72 = .ok (.iconst 4, 1) := by decide +kernel
theorem dX8_debt_73 : decode cX8_debt 73 = .ok (.invokevirtual 59, 3) := by decide +kernel
theorem dX8_debt_76 : decode cX8_debt 76 = .ok (.ireturn, 1) := by decide +kernel
theorem dX8_debt_77 : decode cX8_debt 77 = .ok (.aload_n 0, 1) := by decide +kernel
theorem dX8_debt_78 : decode cX8_debt 78 = .ok (.getfield 23, 3) := by decide +kernel
theorem dX8_debt_81 : decode cX8_debt 81 = .ok (.getfield 205, 3) := by decide +kernel
theorem dX8_debt_84 : decode cX8_debt 84 = .ok (.iload_n 1, 1) := by decide +kernel
theorem dX8_debt_85 : decode cX8_debt 85 = .ok (.iload_n 2, 1) := by decide +kernel
theorem dX8_debt_86 : decode cX8_debt 86 = .ok (.iload_n 3, 1) := by decide +kernel
theorem dX8_debt_87 : decode cX8_debt 87 = .ok (.invokevirtual 212, 3) := by decide +kernel
theorem dX8_debt_90 : decode cX8_debt 90 = .ok (.ireturn, 1) := by decide +kernel
theorem dX8_debtIs_0 : decode cX8_debtIs 0 = .ok (.aload_n 0, 1) := by decide +kernel
theorem dX8_debtIs_1 : decode cX8_debtIs 1 = .ok (.getfield 23, 3) := by decide +kernel
theorem dX8_debtIs_4 : decode cX8_debtIs 4 = .ok (.getfield 205, 3) := by decide +kernel
theorem dX8_debtIs_7 : decode cX8_debtIs 7 = .ok (.astore_n 3, 1) := by decide +kernel
theorem dX8_debtIs_8 : decode cX8_debtIs 8 = .ok (.iload_n 1, 1) := by decide +kernel
theorem dX8_debtIs_9 : decode cX8_debtIs 9 = .ok (.ifCond .lt 11, 3) := by decide +kernel
theorem dX8_debtIs_12 : decode cX8_debtIs 12 = .ok (.iload_n 1, 1) := by decide +kernel
theorem dX8_debtIs_13 : decode cX8_debtIs 13 = .ok (.aload_n 3, 1) := by decide +kernel
theorem dX8_debtIs_14 : decode cX8_debtIs 14 = .ok (.getfield 209, 3) := by decide +kernel
theorem dX8_debtIs_17 : decode cX8_debtIs 17 = .ok (.if_icmp .lt 9, 3) := by decide +kernel
theorem dX8_debtIs_20 : decode cX8_debtIs 20 = .ok (.aload_n 0, 1) := by decide +kernel
theorem dX8_debtIs_21 : decode cX8_debtIs 21 = .ok (.iconst 1, 1) := by decide +kernel
theorem dX8_debtIs_22 : decode cX8_debtIs 22 = .ok (.invokevirtual 59, 3) := by decide +kernel
theorem dX8_debtIs_25 : decode cX8_debtIs 25 = .ok (.ireturn, 1) := by decide +kernel
theorem dX8_debtIs_26 : decode cX8_debtIs 26 = .ok (.iload_n 2, 1) := by decide +kernel
theorem dX8_debtIs_27 : decode cX8_debtIs 27 = .ok (.tableswitch 71 0 3 #[29, 36, 43, 50], 29) := by decide +kernel
theorem dX8_debtIs_56 : decode cX8_debtIs 56 = .ok (.aload_n 3, 1) := by decide +kernel
theorem dX8_debtIs_57 : decode cX8_debtIs 57 = .ok (.getfield 215, 3) := by decide +kernel
theorem dX8_debtIs_60 : decode cX8_debtIs 60 = .ok (.iload_n 1, 1) := by decide +kernel
theorem dX8_debtIs_61 : decode cX8_debtIs 61 = .ok (.iaload, 1) := by decide +kernel
theorem dX8_debtIs_62 : decode cX8_debtIs 62 = .ok (.ireturn, 1) := by decide +kernel
theorem dX8_debtIs_63 : decode cX8_debtIs 63 = .ok (.aload_n 3, 1) := by decide +kernel
theorem dX8_debtIs_64 : decode cX8_debtIs 64 = .ok (.getfield 218, 3) := by decide +kernel
theorem dX8_debtIs_67 : decode cX8_debtIs 67 = .ok (.iload_n 1, 1) := by decide +kernel
theorem dX8_debtIs_68 : decode cX8_debtIs 68 = .ok (.iaload, 1) := by decide +kernel
theorem dX8_debtIs_69 : decode cX8_debtIs 69 = .ok (.ireturn, 1) := by decide +kernel
theorem dX8_debtIs_70 : decode cX8_debtIs 70 = .ok (.aload_n 3, 1) := by decide +kernel
theorem dX8_debtIs_71 : decode cX8_debtIs 71 = .ok (.getfield 221, 3) := by decide +kernel
theorem dX8_debtIs_74 : decode cX8_debtIs 74 = .ok (.iload_n 1, 1) := by decide +kernel
theorem dX8_debtIs_75 : decode cX8_debtIs 75 = .ok (.iaload, 1) := by decide +kernel
theorem dX8_debtIs_76 : decode cX8_debtIs 76 = .ok (.ireturn, 1) := by decide +kernel
theorem dX8_debtIs_77 : decode cX8_debtIs 77 = .ok (.aload_n 3, 1) := by decide +kernel
theorem dX8_debtIs_78 : decode cX8_debtIs 78 = .ok (.iload_n 1, 1) := by decide +kernel
theorem dX8_debtIs_79 : decode cX8_debtIs 79 = .ok (.aload_n 0, 1) := by decide +kernel
theorem dX8_debtIs_80 : decode cX8_debtIs 80 = .ok (.getfield 23, 3) := by decide +kernel
theorem dX8_debtIs_83 : decode cX8_debtIs 83 = .ok (.getfield 63, 3) := by decide +kernel
theorem dX8_debtIs_86 : decode cX8_debtIs 86 = .ok (.invokevirtual 224, 3) := by decide +kernel
theorem dX8_debtIs_89 : decode cX8_debtIs 89 = .ok (.ifCond .eq 7, 3) := by decide +kernel
theorem dX8_debtIs_92 : decode cX8_debtIs 92 = .ok (.iconst 1, 1) := by decide +kernel
theorem dX8_debtIs_93 : decode cX8_debtIs 93 = .ok (.goto 4, 3) := by decide +kernel
theorem dX8_debtIs_96 : decode cX8_debtIs 96 = .ok (.iconst 0, 1) := by decide +kernel
theorem dX8_debtIs_97 : decode cX8_debtIs 97 = .ok (.ireturn, 1) := by decide +kernel
theorem dX8_debtIs_98 : decode cX8_debtIs 98 = .ok (.aload_n 0, 1) := by decide +kernel
theorem dX8_debtIs_99 : decode cX8_debtIs 99 = .ok (.iconst 1, 1) := by decide +kernel
theorem dX8_debtIs_100 : decode cX8_debtIs 100 = .ok (.invokevirtual 59, 3) := by decide +kernel
theorem dX8_debtIs_103 : decode cX8_debtIs 103 = .ok (.ireturn, 1) := by decide +kernel
theorem dX8_pay_0 : decode cX8_pay 0 = .ok (.aload_n 0, 1) := by decide +kernel
theorem dX8_pay_1 : decode cX8_pay 1 = .ok (.getfield 23, 3) := by decide +kernel
theorem dX8_pay_4 : decode cX8_pay 4 = .ok (.getfield 205, 3) := by decide +kernel
theorem dX8_pay_7 : decode cX8_pay 7 = .ok (.astore_n 2, 1) := by decide +kernel
theorem dX8_pay_8 : decode cX8_pay 8 = .ok (.aload_n 0, 1) := by decide +kernel
theorem dX8_pay_9 : decode cX8_pay 9 = .ok (.getfield 23, 3) := by decide +kernel
theorem dX8_pay_12 : decode cX8_pay 12 = .ok (.getfield 63, 3) := by decide +kernel
theorem dX8_pay_15 : decode cX8_pay 15 = .ok (.astore_n 3, 1) := by decide +kernel
theorem dX8_pay_16 : decode cX8_pay 16 = .ok (.iload_n 1, 1) := by decide +kernel
theorem dX8_pay_17 : decode cX8_pay 17 = .ok (.ifCond .lt 11, 3) := by decide +kernel
theorem dX8_pay_20 : decode cX8_pay 20 = .ok (.iload_n 1, 1) := by decide +kernel
theorem dX8_pay_21 : decode cX8_pay 21 = .ok (.aload_n 2, 1) := by decide +kernel
theorem dX8_pay_22 : decode cX8_pay 22 = .ok (.getfield 209, 3) := by decide +kernel
theorem dX8_pay_25 : decode cX8_pay 25 = .ok (.if_icmp .lt 9, 3) := by decide +kernel
theorem dX8_pay_28 : decode cX8_pay 28 = .ok (.aload_n 0, 1) := by decide +kernel
theorem dX8_pay_29 : decode cX8_pay 29 = .ok (.iconst 1, 1) := by decide +kernel
theorem dX8_pay_30 : decode cX8_pay 30 = .ok (.invokevirtual 59, 3) := by decide +kernel
theorem dX8_pay_33 : decode cX8_pay 33 = .ok (.ireturn, 1) := by decide +kernel
theorem dX8_pay_34 : decode cX8_pay 34 = .ok (.aload_n 2, 1) := by decide +kernel
theorem dX8_pay_35 : decode cX8_pay 35 = .ok (.getfield 215, 3) := by decide +kernel
theorem dX8_pay_38 : decode cX8_pay 38 = .ok (.iload_n 1, 1) := by decide +kernel
theorem dX8_pay_39 : decode cX8_pay 39 = .ok (.iaload, 1) := by decide +kernel
theorem dX8_pay_40 : decode cX8_pay 40 = .ok (.istore 4, 2) := by decide +kernel
theorem dX8_pay_42 : decode cX8_pay 42 = .ok (.aload_n 2, 1) := by decide +kernel
theorem dX8_pay_43 : decode cX8_pay 43 = .ok (.getfield 218, 3) := by decide +kernel
theorem dX8_pay_46 : decode cX8_pay 46 = .ok (.iload_n 1, 1) := by decide +kernel
theorem dX8_pay_47 : decode cX8_pay 47 = .ok (.iaload, 1) := by decide +kernel
theorem dX8_pay_48 : decode cX8_pay 48 = .ok (.istore 5, 2) := by decide +kernel
theorem dX8_pay_50 : decode cX8_pay 50 = .ok (.aload_n 2, 1) := by decide +kernel
theorem dX8_pay_51 : decode cX8_pay 51 = .ok (.iload_n 1, 1) := by decide +kernel
theorem dX8_pay_52 : decode cX8_pay 52 = .ok (.aload_n 3, 1) := by decide +kernel
theorem dX8_pay_53 : decode cX8_pay 53 = .ok (.invokevirtual 224, 3) := by decide +kernel
theorem dX8_pay_56 : decode cX8_pay 56 = .ok (.ifCond .eq 13, 3) := by decide +kernel
theorem dX8_pay_59 : decode cX8_pay 59 = .ok (.aload_n 3, 1) := by decide +kernel
theorem dX8_pay_60 : decode cX8_pay 60 = .ok (.getfield 82, 3) := by decide +kernel
theorem dX8_pay_63 : decode cX8_pay 63 = .ok (.iload 4, 2) := by decide +kernel
theorem dX8_pay_65 : decode cX8_pay 65 = .ok (.iaload, 1) := by decide +kernel
theorem dX8_pay_66 : decode cX8_pay 66 = .ok (.ifCond .ne 9, 3) := by decide +kernel
theorem dX8_pay_69 : decode cX8_pay 69 = .ok (.aload_n 0, 1) := by decide +kernel
theorem dX8_pay_70 : decode cX8_pay 70 = .ok (.iconst 3, 1) := by decide +kernel
theorem dX8_pay_71 : decode cX8_pay 71 = .ok (.invokevirtual 59, 3) := by decide +kernel
theorem dX8_pay_74 : decode cX8_pay 74 = .ok (.ireturn, 1) := by decide +kernel
theorem dX8_pay_75 : decode cX8_pay 75 = .ok (.aload_n 2, 1) := by decide +kernel
theorem dX8_pay_76 : decode cX8_pay 76 = .ok (.getfield 221, 3) := by decide +kernel
theorem dX8_pay_79 : decode cX8_pay 79 = .ok (.iload_n 1, 1) := by decide +kernel
theorem dX8_pay_80 : decode cX8_pay 80 = .ok (.iaload, 1) := by decide +kernel
theorem dX8_pay_81 : decode cX8_pay 81 = .ok (.aload_n 3, 1) := by decide +kernel
theorem dX8_pay_82 : decode cX8_pay 82 = .ok (.getfield 82, 3) := by decide +kernel
theorem dX8_pay_85 : decode cX8_pay 85 = .ok (.iload 4, 2) := by decide +kernel
theorem dX8_pay_87 : decode cX8_pay 87 = .ok (.iaload, 1) := by decide +kernel
theorem dX8_pay_88 : decode cX8_pay 88 = .ok (.invokestatic 228, 3) := by decide +kernel
theorem dX8_pay_91 : decode cX8_pay 91 = .ok (.istore 6, 2) := by decide +kernel
theorem dX8_pay_93 : decode cX8_pay 93 = .ok (.aload_n 3, 1) := by decide +kernel
theorem dX8_pay_94 : decode cX8_pay 94 = .ok (.getfield 82, 3) := by decide +kernel
theorem dX8_pay_97 : decode cX8_pay 97 = .ok (.iload 4, 2) := by decide +kernel
theorem dX8_pay_99 : decode cX8_pay 99 = .ok (.dup2, 1) := by decide +kernel
theorem dX8_pay_100 : decode cX8_pay 100 = .ok (.iaload, 1) := by decide +kernel
theorem dX8_pay_101 : decode cX8_pay 101 = .ok (.iload 6, 2) := by decide +kernel
theorem dX8_pay_103 : decode cX8_pay 103 = .ok (.isub, 1) := by decide +kernel
theorem dX8_pay_104 : decode cX8_pay 104 = .ok (.iastore, 1) := by decide +kernel
theorem dX8_pay_105 : decode cX8_pay 105 = .ok (.aload_n 3, 1) := by decide +kernel
theorem dX8_pay_106 : decode cX8_pay 106 = .ok (.getfield 82, 3) := by decide +kernel
theorem dX8_pay_109 : decode cX8_pay 109 = .ok (.iload 5, 2) := by decide +kernel
theorem dX8_pay_111 : decode cX8_pay 111 = .ok (.aload_n 3, 1) := by decide +kernel
theorem dX8_pay_112 : decode cX8_pay 112 = .ok (.getfield 82, 3) := by decide +kernel
theorem dX8_pay_115 : decode cX8_pay 115 = .ok (.iload 5, 2) := by decide +kernel
theorem dX8_pay_117 : decode cX8_pay 117 = .ok (.iaload, 1) := by decide +kernel
theorem dX8_pay_118 : decode cX8_pay 118 = .ok (.iload 6, 2) := by decide +kernel
theorem dX8_pay_120 : decode cX8_pay 120 = .ok (.iadd, 1) := by decide +kernel
theorem dX8_pay_121 : decode cX8_pay 121 = .ok (.sipush 9999, 3) := by decide +kernel
theorem dX8_pay_124 : decode cX8_pay 124 = .ok (.invokestatic 228, 3) := by decide +kernel
theorem dX8_pay_127 : decode cX8_pay 127 = .ok (.iastore, 1) := by decide +kernel
theorem dX8_pay_128 : decode cX8_pay 128 = .ok (.aload_n 2, 1) := by decide +kernel
theorem dX8_pay_129 : decode cX8_pay 129 = .ok (.iload_n 1, 1) := by decide +kernel
theorem dX8_pay_130 : decode cX8_pay 130 = .ok (.iload 6, 2) := by decide +kernel
theorem dX8_pay_132 : decode cX8_pay 132 = .ok (.invokevirtual 233, 3) := by decide +kernel
theorem dX8_pay_135 : decode cX8_pay 135 = .ok (.iload 6, 2) := by decide +kernel
theorem dX8_pay_137 : decode cX8_pay 137 = .ok (.ireturn, 1) := by decide +kernel
theorem dX8_loses_0 : decode cX8_loses 0 = .ok (.aload_n 0, 1) := by decide +kernel
theorem dX8_loses_1 : decode cX8_loses 1 = .ok (.iload_n 1, 1) := by decide +kernel
theorem dX8_loses_2 : decode cX8_loses 2 = .ok (.iload_n 2, 1) := by decide +kernel
theorem dX8_loses_3 : decode cX8_loses 3 = .ok (.invokevirtual 237, 3) := by decide +kernel
theorem dX8_loses_6 : decode cX8_loses 6 = .ok (.istore_n 3, 1) := by decide +kernel
theorem dX8_loses_7 : decode cX8_loses 7 = .ok (.iload_n 3, 1) := by decide +kernel
theorem dX8_loses_8 : decode cX8_loses 8 = .ok (.ifCond .eq 9, 3) := by decide +kernel
theorem dX8_loses_11 : decode cX8_loses 11 = .ok (.aload_n 0, 1) := by decide +kernel
theorem dX8_loses_12 : decode cX8_loses 12 = .ok (.iload_n 3, 1) := by decide +kernel
theorem dX8_loses_13 : decode cX8_loses 13 = .ok (.invokevirtual 59, 3) := by decide +kernel
theorem dX8_loses_16 : decode cX8_loses 16 = .ok (.ireturn, 1) := by decide +kernel
theorem dX8_loses_17 : decode cX8_loses 17 = .ok (.aload_n 0, 1) := by decide +kernel
theorem dX8_loses_18 : decode cX8_loses 18 = .ok (.getfield 33, 3) := by decide +kernel
theorem dX8_loses_21 : decode cX8_loses 21 = .ok (.aload_n 0, 1) := by decide +kernel
theorem dX8_loses_22 : decode cX8_loses 22 = .ok (.getfield 23, 3) := by decide +kernel
theorem dX8_loses_25 : decode cX8_loses 25 = .ok (.getfield 63, 3) := by decide +kernel
theorem dX8_loses_28 : decode cX8_loses 28 = .ok (.iload_n 1, 1) := by decide +kernel
theorem dX8_loses_29 : decode cX8_loses 29 = .ok (.iload_n 2, 1) := by decide +kernel
theorem dX8_loses_30 : decode cX8_loses 30 = .ok (.invokevirtual 240, 3) := by decide +kernel
theorem dX8_loses_33 : decode cX8_loses 33 = .ok (.astore 4, 2) := by decide +kernel
theorem dX8_loses_35 : decode cX8_loses 35 = .ok (.aload_n 0, 1) := by decide +kernel
theorem dX8_loses_36 : decode cX8_loses 36 = .ok (.getfield 23, 3) := by decide +kernel
theorem dX8_loses_39 : decode cX8_loses 39 = .ok (.getfield 205, 3) := by decide +kernel
theorem dX8_loses_42 : decode cX8_loses 42 = .ok (.aload_n 0, 1) := by decide +kernel
theorem dX8_loses_43 : decode cX8_loses 43 = .ok (.getfield 23, 3) := by decide +kernel
theorem dX8_loses_46 : decode cX8_loses 46 = .ok (.getfield 63, 3) := by decide +kernel
theorem dX8_loses_49 : decode cX8_loses 49 = .ok (.invokevirtual 244, 3) := by decide +kernel
theorem dX8_loses_52 : decode cX8_loses 52 = .ok (.aload_n 0, 1) := by decide +kernel
theorem dX8_loses_53 : decode cX8_loses 53 = .ok (.getfield 23, 3) := by decide +kernel
theorem dX8_loses_56 : decode cX8_loses 56 = .ok (.getfield 205, 3) := by decide +kernel
theorem dX8_loses_59 : decode cX8_loses 59 = .ok (.aload 4, 2) := by decide +kernel
theorem dX8_loses_61 : decode cX8_loses 61 = .ok (.invokevirtual 244, 3) := by decide +kernel
theorem dX8_loses_64 : decode cX8_loses 64 = .ok (.isub, 1) := by decide +kernel
theorem dX8_loses_65 : decode cX8_loses 65 = .ok (.ireturn, 1) := by decide +kernel
theorem dX8_stranger_0 : decode cX8_stranger 0 = .ok (.aload_n 0, 1) := by decide +kernel
theorem dX8_stranger_1 : decode cX8_stranger 1 = .ok (.getfield 23, 3) := by decide +kernel
theorem dX8_stranger_4 : decode cX8_stranger 4 = .ok (.getfield 63, 3) := by decide +kernel
theorem dX8_stranger_7 : decode cX8_stranger 7 = .ok (.iload_n 1, 1) := by decide +kernel
theorem dX8_stranger_8 : decode cX8_stranger 8 = .ok (.invokevirtual 76, 3) := by decide +kernel
theorem dX8_stranger_11 : decode cX8_stranger 11 = .ok (.ifCond .eq 17, 3) := by decide +kernel
theorem dX8_stranger_14 : decode cX8_stranger 14 = .ok (.aload_n 0, 1) := by decide +kernel
theorem dX8_stranger_15 : decode cX8_stranger 15 = .ok (.getfield 23, 3) := by decide +kernel
theorem dX8_stranger_18 : decode cX8_stranger 18 = .ok (.getfield 63, 3) := by decide +kernel
theorem dX8_stranger_21 : decode cX8_stranger 21 = .ok (.iload_n 2, 1) := by decide +kernel
theorem dX8_stranger_22 : decode cX8_stranger 22 = .ok (.invokevirtual 103, 3) := by decide +kernel
theorem dX8_stranger_25 : decode cX8_stranger 25 = .ok (.ifCond .ne 9, 3) := by decide +kernel
theorem dX8_stranger_28 : decode cX8_stranger 28 = .ok (.aload_n 0, 1) := by decide +kernel
theorem dX8_stranger_29 : decode cX8_stranger 29 = .ok (.iconst 1, 1) := by decide +kernel
theorem dX8_stranger_30 : decode cX8_stranger 30 = .ok (.invokevirtual 59, 3) := by decide +kernel
theorem dX8_stranger_33 : decode cX8_stranger 33 = .ok (.ireturn, 1) := by decide +kernel
theorem dX8_stranger_34 : decode cX8_stranger 34 = .ok (.iload_n 3, 1) := by decide +kernel
theorem dX8_stranger_35 : decode cX8_stranger 35 = .ok (.ifCond .lt 8, 3) := by decide +kernel
theorem dX8_stranger_38 : decode cX8_stranger 38 = .ok (.iload_n 3, 1) := by decide +kernel
theorem dX8_stranger_39 : decode cX8_stranger 39 = .ok (.iconst 4, 1) := by decide +kernel
theorem dX8_stranger_40 : decode cX8_stranger 40 = .ok (.if_icmp .le 9, 3) := by decide +kernel
theorem dX8_stranger_43 : decode cX8_stranger 43 = .ok (.aload_n 0, 1) := by decide +kernel
theorem dX8_stranger_44 : decode cX8_stranger 44 = .ok (.iconst 1, 1) := by decide +kernel
theorem dX8_stranger_45 : decode cX8_stranger 45 = .ok (.invokevirtual 59, 3) := by decide +kernel
theorem dX8_stranger_48 : decode cX8_stranger 48 = .ok (.ireturn, 1) := by decide +kernel
theorem dX8_stranger_49 : decode cX8_stranger 49 = .ok (.aload_n 0, 1) := by decide +kernel
theorem dX8_stranger_50 : decode cX8_stranger 50 = .ok (.getfield 33, 3) := by decide +kernel
theorem dX8_stranger_53 : decode cX8_stranger 53 = .ok (.aload_n 0, 1) := by decide +kernel
theorem dX8_stranger_54 : decode cX8_stranger 54 = .ok (.getfield 23, 3) := by decide +kernel
theorem dX8_stranger_57 : decode cX8_stranger 57 = .ok (.getfield 63, 3) := by decide +kernel
theorem dX8_stranger_60 : decode cX8_stranger 60 = .ok (.iload_n 1, 1) := by decide +kernel
theorem dX8_stranger_61 : decode cX8_stranger 61 = .ok (.iload_n 2, 1) := by decide +kernel
theorem dX8_stranger_62 : decode cX8_stranger 62 = .ok (.iload_n 3, 1) := by decide +kernel
theorem dX8_stranger_63 : decode cX8_stranger 63 = .ok (.invokevirtual 248, 3) := by decide +kernel
theorem dX8_stranger_66 : decode cX8_stranger 66 = .ok (.istore 4, 2) := by decide +kernel
theorem dX8_stranger_68 : decode cX8_stranger 68 = .ok (.iload 4, 2) := by decide +kernel
theorem dX8_stranger_70 : decode cX8_stranger 70 = .ok (.iload_n 3, 1) := by decide +kernel
theorem dX8_stranger_71 : decode cX8_stranger 71 = .ok (.if_icmp .le 11, 3) := by decide +kernel
theorem dX8_stranger_74 : decode cX8_stranger 74 = .ok (.aload_n 0, 1) := by decide +kernel
theorem dX8_stranger_75 : decode cX8_stranger 75 = .ok (.iconst 2, 1) := by decide +kernel
theorem dX8_stranger_76 : decode cX8_stranger 76 = .ok (.invokevirtual 59, 3) := by decide +kernel
theorem dX8_stranger_79 : decode cX8_stranger 79 = .ok (.goto 5, 3) := by decide +kernel
theorem dX8_stranger_82 : decode cX8_stranger 82 = .ok (.iload 4, 2) := by decide +kernel
theorem dX8_stranger_84 : decode cX8_stranger 84 = .ok (.ireturn, 1) := by decide +kernel
theorem dX8_way_0 : decode cX8_way 0 = .ok (.aload_n 0, 1) := by decide +kernel
theorem dX8_way_1 : decode cX8_way 1 = .ok (.getfield 23, 3) := by decide +kernel
theorem dX8_way_4 : decode cX8_way 4 = .ok (.getfield 63, 3) := by decide +kernel
theorem dX8_way_7 : decode cX8_way 7 = .ok (.iload_n 1, 1) := by decide +kernel
theorem dX8_way_8 : decode cX8_way 8 = .ok (.invokevirtual 76, 3) := by decide +kernel
theorem dX8_way_11 : decode cX8_way 11 = .ok (.ifCond .eq 13, 3) := by decide +kernel
theorem dX8_way_14 : decode cX8_way 14 = .ok (.iload_n 2, 1) := by decide +kernel
theorem dX8_way_15 : decode cX8_way 15 = .ok (.ifCond .lt 9, 3) := by decide +kernel
theorem dX8_way_18 : decode cX8_way 18 = .ok (.iload_n 2, 1) := by decide +kernel
theorem dX8_way_19 : decode cX8_way 19 = .ok (.bipush 6, 2) := by decide +kernel
theorem dX8_way_21 : decode cX8_way 21 = .ok (.if_icmp .le 9, 3) := by decide +kernel
theorem dX8_way_24 : decode cX8_way 24 = .ok (.aload_n 0, 1) := by decide +kernel
theorem dX8_way_25 : decode cX8_way 25 = .ok (.iconst 1, 1) := by decide +kernel
theorem dX8_way_26 : decode cX8_way 26 = .ok (.invokevirtual 59, 3) := by decide +kernel
theorem dX8_way_29 : decode cX8_way 29 = .ok (.ireturn, 1) := by decide +kernel
theorem dX8_way_30 : decode cX8_way 30 = .ok (.iload_n 3, 1) := by decide +kernel
theorem dX8_way_31 : decode cX8_way 31 = .ok (.iconst (-1), 1) := by decide +kernel
theorem dX8_way_32 : decode cX8_way 32 = .ok (.if_icmp .lt 8, 3) := by decide +kernel
theorem dX8_way_35 : decode cX8_way 35 = .ok (.iload_n 3, 1) := by decide +kernel
theorem dX8_way_36 : decode cX8_way 36 = .ok (.iload_n 2, 1) := by decide +kernel
theorem dX8_way_37 : decode cX8_way 37 = .ok (.if_icmp .lt 9, 3) := by decide +kernel
theorem dX8_way_40 : decode cX8_way 40 = .ok (.aload_n 0, 1) := by decide +kernel
theorem dX8_way_41 : decode cX8_way 41 = .ok (.iconst 1, 1) := by decide +kernel
theorem dX8_way_42 : decode cX8_way 42 = .ok (.invokevirtual 59, 3) := by decide +kernel
theorem dX8_way_45 : decode cX8_way 45 = .ok (.ireturn, 1) := by decide +kernel
theorem dX8_way_46 : decode cX8_way 46 = .ok (.aload_n 0, 1) := by decide +kernel
theorem dX8_way_47 : decode cX8_way 47 = .ok (.getfield 33, 3) := by decide +kernel
theorem dX8_way_50 : decode cX8_way 50 = .ok (.aload_n 0, 1) := by decide +kernel
theorem dX8_way_51 : decode cX8_way 51 = .ok (.getfield 23, 3) := by decide +kernel
theorem dX8_way_54 : decode cX8_way 54 = .ok (.getfield 63, 3) := by decide +kernel
theorem dX8_way_57 : decode cX8_way 57 = .ok (.iload_n 1, 1) := by decide +kernel
theorem dX8_way_58 : decode cX8_way 58 = .ok (.iload_n 2, 1) := by decide +kernel
theorem dX8_way_59 : decode cX8_way 59 = .ok (.invokevirtual 252, 3) := by decide +kernel
theorem dX8_way_62 : decode cX8_way 62 = .ok (.ifCond .ne 9, 3) := by decide +kernel
theorem dX8_way_65 : decode cX8_way 65 = .ok (.aload_n 0, 1) := by decide +kernel
theorem dX8_way_66 : decode cX8_way 66 = .ok (.iconst 2, 1) := by decide +kernel
theorem dX8_way_67 : decode cX8_way 67 = .ok (.invokevirtual 59, 3) := by decide +kernel
theorem dX8_way_70 : decode cX8_way 70 = .ok (.ireturn, 1) := by decide +kernel
theorem dX8_way_71 : decode cX8_way 71 = .ok (.iload_n 3, 1) := by decide +kernel
theorem dX8_way_72 : decode cX8_way 72 = .ok (.ifCond .ge 13, 3) := by decide +kernel
theorem dX8_way_75 : decode cX8_way 75 = .ok (.aload_n 0, 1) := by decide +kernel
theorem dX8_way_76 : decode cX8_way 76 = .ok (.getfield 33, 3) := by decide +kernel
theorem dX8_way_79 : decode cX8_way 79 = .ok (.getfield 256, 3) := by decide +kernel
theorem dX8_way_82 : decode cX8_way 82 = .ok (.goto 12, 3) := by decide +kernel
theorem dX8_way_85 : decode cX8_way 85 = .ok (.aload_n 0, 1) := by decide +kernel
theorem dX8_way_86 : decode cX8_way 86 = .ok (.getfield 33, 3) := by decide +kernel
theorem dX8_way_89 : decode cX8_way 89 = .ok (.getfield 259, 3) := by decide +kernel
theorem dX8_way_92 : decode cX8_way 92 = .ok (.iload_n 3, 1) := by decide +kernel
theorem dX8_way_93 : decode cX8_way 93 = .ok (.iaload, 1) := by decide +kernel
theorem dX8_way_94 : decode cX8_way 94 = .ok (.ireturn, 1) := by decide +kernel
theorem dX8_memory_0 : decode cX8_memory 0 = .ok (.aload_n 0, 1) := by decide +kernel
theorem dX8_memory_1 : decode cX8_memory 1 = .ok (.getfield 23, 3) := by decide +kernel
theorem dX8_memory_4 : decode cX8_memory 4 = .ok (.getfield 63, 3) := by decide +kernel
theorem dX8_memory_7 : decode cX8_memory 7 = .ok (.iload_n 1, 1) := by decide +kernel
theorem dX8_memory_8 : decode cX8_memory 8 = .ok (.invokevirtual 103, 3) := by decide +kernel
theorem dX8_memory_11 : decode cX8_memory 11 = .ok (.ifCond .eq 17, 3) := by decide +kernel
theorem dX8_memory_14 : decode cX8_memory 14 = .ok (.aload_n 0, 1) := by decide +kernel
theorem dX8_memory_15 : decode cX8_memory 15 = .ok (.getfield 23, 3) := by decide +kernel
theorem dX8_memory_18 : decode cX8_memory 18 = .ok (.getfield 63, 3) := by decide +kernel
theorem dX8_memory_21 : decode cX8_memory 21 = .ok (.iload_n 2, 1) := by decide +kernel
theorem dX8_memory_22 : decode cX8_memory 22 = .ok (.invokevirtual 76, 3) := by decide +kernel
theorem dX8_memory_25 : decode cX8_memory 25 = .ok (.ifCond .ne 9, 3) := by decide +kernel
theorem dX8_memory_28 : decode cX8_memory 28 = .ok (.aload_n 0, 1) := by decide +kernel
theorem dX8_memory_29 : decode cX8_memory 29 = .ok (.iconst 1, 1) := by decide +kernel
theorem dX8_memory_30 : decode cX8_memory 30 = .ok (.invokevirtual 59, 3) := by decide +kernel
theorem dX8_memory_33 : decode cX8_memory 33 = .ok (.ireturn, 1) := by decide +kernel
theorem dX8_memory_34 : decode cX8_memory 34 = .ok (.aload_n 0, 1) := by decide +kernel
theorem dX8_memory_35 : decode cX8_memory 35 = .ok (.getfield 23, 3) := by decide +kernel
theorem dX8_memory_38 : decode cX8_memory 38 = .ok (.iload_n 1, 1) := by decide +kernel
theorem dX8_memory_39 : decode cX8_memory 39 = .ok (.iload_n 2, 1) := by decide +kernel
theorem dX8_memory_40 : decode cX8_memory 40 = .ok (.invokevirtual 262, 3) := by decide +kernel
theorem dX8_memory_43 : decode cX8_memory 43 = .ok (.istore_n 3, 1) := by decide +kernel
theorem dX8_memory_44 : decode cX8_memory 44 = .ok (.iload_n 3, 1) := by decide +kernel
theorem dX8_memory_45 : decode cX8_memory 45 = .ok (.bipush 8, 2) := by decide +kernel
theorem dX8_memory_47 : decode cX8_memory 47 = .ok (.if_icmp .le 11, 3) := by decide +kernel
theorem dX8_memory_50 : decode cX8_memory 50 = .ok (.aload_n 0, 1) := by decide +kernel
theorem dX8_memory_51 : decode cX8_memory 51 = .ok (.iconst 2, 1) := by decide +kernel
theorem dX8_memory_52 : decode cX8_memory 52 = .ok (.invokevirtual 59, 3) := by decide +kernel
theorem dX8_memory_55 : decode cX8_memory 55 = .ok (.goto 4, 3) := by decide +kernel
theorem dX8_memory_58 : decode cX8_memory 58 = .ok (.iload_n 3, 1) := by decide +kernel
theorem dX8_memory_59 : decode cX8_memory 59 = .ok (.ireturn, 1) := by decide +kernel
theorem dX8_hearsay_0 : decode cX8_hearsay 0 = .ok (.aload_n 0, 1) := by decide +kernel
theorem dX8_hearsay_1 : decode cX8_hearsay 1 = .ok (.iload_n 1, 1) := by decide +kernel
theorem dX8_hearsay_2 : decode cX8_hearsay 2 = .ok (.iload_n 2, 1) := by decide +kernel
theorem dX8_hearsay_3 : decode cX8_hearsay 3 = .ok (.invokevirtual 237, 3) := by decide +kernel
theorem dX8_hearsay_6 : decode cX8_hearsay 6 = .ok (.istore_n 3, 1) := by decide +kernel
theorem dX8_hearsay_7 : decode cX8_hearsay 7 = .ok (.iload_n 3, 1) := by decide +kernel
theorem dX8_hearsay_8 : decode cX8_hearsay 8 = .ok (.ifCond .eq 9, 3) := by decide +kernel
theorem dX8_hearsay_11 : decode cX8_hearsay 11 = .ok (.aload_n 0, 1) := by decide +kernel
theorem dX8_hearsay_12 : decode cX8_hearsay 12 = .ok (.iload_n 3, 1) := by decide +kernel
theorem dX8_hearsay_13 : decode cX8_hearsay 13 = .ok (.invokevirtual 59, 3) := by decide +kernel
theorem dX8_hearsay_16 : decode cX8_hearsay 16 = .ok (.ireturn, 1) := by decide +kernel
theorem dX8_hearsay_17 : decode cX8_hearsay 17 = .ok (.aload_n 0, 1) := by decide +kernel
theorem dX8_hearsay_18 : decode cX8_hearsay 18 = .ok (.getfield 33, 3) := by decide +kernel
theorem dX8_hearsay_21 : decode cX8_hearsay 21 = .ok (.aload_n 0, 1) := by decide +kernel
theorem dX8_hearsay_22 : decode cX8_hearsay 22 = .ok (.getfield 23, 3) := by decide +kernel
theorem dX8_hearsay_25 : decode cX8_hearsay 25 = .ok (.getfield 63, 3) := by decide +kernel
theorem dX8_hearsay_28 : decode cX8_hearsay 28 = .ok (.iload_n 1, 1) := by decide +kernel
theorem dX8_hearsay_29 : decode cX8_hearsay 29 = .ok (.iload_n 2, 1) := by decide +kernel
theorem dX8_hearsay_30 : decode cX8_hearsay 30 = .ok (.invokevirtual 240, 3) := by decide +kernel
theorem dX8_hearsay_33 : decode cX8_hearsay 33 = .ok (.iload_n 2, 1) := by decide +kernel
theorem dX8_hearsay_34 : decode cX8_hearsay 34 = .ok (.invokevirtual 85, 3) := by decide +kernel
theorem dX8_hearsay_37 : decode cX8_hearsay 37 = .ok (.ireturn, 1) := by decide +kernel
theorem dX8_rows_0 : decode cX8_rows 0 = .ok (.iload_n 1, 1) := by decide +kernel
theorem dX8_rows_1 : decode cX8_rows 1 = .ok (.ifCond .lt 17, 3) := by decide +kernel
theorem dX8_rows_4 : decode cX8_rows 4 = .ok (.iload_n 1, 1) := by decide +kernel
theorem dX8_rows_5 : decode cX8_rows 5 = .ok (.iconst 3, 1) := by decide +kernel
theorem dX8_rows_6 : decode cX8_rows 6 = .ok (.if_icmp .gt 12, 3) := by decide +kernel
theorem dX8_rows_9 : decode cX8_rows 9 = .ok (.iload_n 2, 1) := by decide +kernel
theorem dX8_rows_10 : decode cX8_rows 10 = .ok (.ifCond .lt 8, 3) := by decide +kernel
theorem dX8_rows_13 : decode cX8_rows 13 = .ok (.iload_n 2, 1) := by decide +kernel
theorem dX8_rows_14 : decode cX8_rows 14 = .ok (.iconst 1, 1) := by decide +kernel
theorem dX8_rows_15 : decode cX8_rows 15 = .ok (.if_icmp .le 9, 3) := by decide +kernel
theorem dX8_rows_18 : decode cX8_rows 18 = .ok (.aload_n 0, 1) := by decide +kernel
theorem dX8_rows_19 : decode cX8_rows 19 = .ok (.iconst 1, 1) := by decide +kernel
theorem dX8_rows_20 : decode cX8_rows 20 = .ok (.invokevirtual 59, 3) := by decide +kernel
theorem dX8_rows_23 : decode cX8_rows 23 = .ok (.ireturn, 1) := by decide +kernel
theorem dX8_rows_24 : decode cX8_rows 24 = .ok (.aload_n 0, 1) := by decide +kernel
theorem dX8_rows_25 : decode cX8_rows 25 = .ok (.getfield 265, 3) := by decide +kernel
theorem dX8_rows_28 : decode cX8_rows 28 = .ok (.ifCond .ne 9, 3) := by decide +kernel
theorem dX8_rows_31 : decode cX8_rows 31 = .ok (.aload_n 0, 1) := by decide +kernel
theorem dX8_rows_32 : decode cX8_rows 32 = .ok (.iconst 2, 1) := by decide +kernel
theorem dX8_rows_33 : decode cX8_rows 33 = .ok (.invokevirtual 59, 3) := by decide +kernel
theorem dX8_rows_36 : decode cX8_rows 36 = .ok (.ireturn, 1) := by decide +kernel
theorem dX8_rows_37 : decode cX8_rows 37 = .ok (.aload_n 0, 1) := by decide +kernel
theorem dX8_rows_38 : decode cX8_rows 38 = .ok (.getfield 33, 3) := by decide +kernel
theorem dX8_rows_41 : decode cX8_rows 41 = .ok (.aload_n 0, 1) := by decide +kernel
theorem dX8_rows_42 : decode cX8_rows 42 = .ok (.getfield 27, 3) := by decide +kernel
theorem dX8_rows_45 : decode cX8_rows 45 = .ok (.getfield 63, 3) := by decide +kernel
theorem dX8_rows_48 : decode cX8_rows 48 = .ok (.aload_n 0, 1) := by decide +kernel
theorem dX8_rows_49 : decode cX8_rows 49 = .ok (.getfield 23, 3) := by decide +kernel
theorem dX8_rows_52 : decode cX8_rows 52 = .ok (.getfield 63, 3) := by decide +kernel
theorem dX8_rows_55 : decode cX8_rows 55 = .ok (.iload_n 1, 1) := by decide +kernel
theorem dX8_rows_56 : decode cX8_rows 56 = .ok (.invokevirtual 268, 3) := by decide +kernel
theorem dX8_rows_59 : decode cX8_rows 59 = .ok (.iload_n 2, 1) := by decide +kernel
theorem dX8_rows_60 : decode cX8_rows 60 = .ok (.ifCond .ne 13, 3) := by decide +kernel
theorem dX8_rows_63 : decode cX8_rows 63 = .ok (.aload_n 0, 1) := by decide +kernel
theorem dX8_rows_64 : decode cX8_rows 64 = .ok (.getfield 33, 3) := by decide +kernel
theorem dX8_rows_67 : decode cX8_rows 67 = .ok (.getfield 272, 3) := by decide +kernel
theorem dX8_rows_70 : decode cX8_rows 70 = .ok (.goto 10, 3) := by decide +kernel
theorem dX8_rows_73 : decode cX8_rows 73 = .ok (.aload_n 0, 1) := by decide +kernel
theorem dX8_rows_74 : decode cX8_rows 74 = .ok (.getfield 33, 3) := by decide +kernel
theorem dX8_rows_77 : decode cX8_rows 77 = .ok (.getfield 275, 3) := by decide +kernel
theorem dX8_rows_80 : decode cX8_rows 80 = .ok (.ireturn, 1) := by decide +kernel
theorem dX8_voice_0 : decode cX8_voice 0 = .ok (.aload_n 0, 1) := by decide +kernel
theorem dX8_voice_1 : decode cX8_voice 1 = .ok (.getfield 23, 3) := by decide +kernel
theorem dX8_voice_4 : decode cX8_voice 4 = .ok (.getfield 63, 3) := by decide +kernel
theorem dX8_voice_7 : decode cX8_voice 7 = .ok (.astore 4, 2) := by decide +kernel
theorem dX8_voice_9 : decode cX8_voice 9 = .ok (.aload 4, 2) := by decide +kernel
theorem dX8_voice_11 : decode cX8_voice 11 = .ok (.iload_n 1, 1) := by decide +kernel
theorem dX8_voice_12 : decode cX8_voice 12 = .ok (.invokevirtual 103, 3) := by decide +kernel
theorem dX8_voice_15 : decode cX8_voice 15 = .ok (.ifCond .eq 12, 3) := by decide +kernel
theorem dX8_voice_18 : decode cX8_voice 18 = .ok (.iload_n 2, 1) := by decide +kernel
theorem dX8_voice_19 : decode cX8_voice 19 = .ok (.ifCond .lt 8, 3) := by decide +kernel
theorem dX8_voice_22 : decode cX8_voice 22 = .ok (.iload_n 2, 1) := by decide +kernel
theorem dX8_voice_23 : decode cX8_voice 23 = .ok (.iconst 4, 1) := by decide +kernel
theorem dX8_voice_24 : decode cX8_voice 24 = .ok (.if_icmp .lt 9, 3) := by decide +kernel
theorem dX8_voice_27 : decode cX8_voice 27 = .ok (.aload_n 0, 1) := by decide +kernel
theorem dX8_voice_28 : decode cX8_voice 28 = .ok (.iconst 1, 1) := by decide +kernel
theorem dX8_voice_29 : decode cX8_voice 29 = .ok (.invokevirtual 59, 3) := by decide +kernel
theorem dX8_voice_32 : decode cX8_voice 32 = .ok (.ireturn, 1) := by decide +kernel
theorem dX8_voice_33 : decode cX8_voice 33 = .ok (.aload_n 0, 1) := by decide +kernel
theorem dX8_voice_34 : decode cX8_voice 34 = .ok (.getfield 47, 3) := by decide +kernel
theorem dX8_voice_37 : decode cX8_voice 37 = .ok (.aload 4, 2) := by decide +kernel
theorem dX8_voice_39 : decode cX8_voice 39 = .ok (.getfield 106, 3) := by decide +kernel
theorem dX8_voice_42 : decode cX8_voice 42 = .ok (.iload_n 1, 1) := by decide +kernel
theorem dX8_voice_43 : decode cX8_voice 43 = .ok (.iaload, 1) := by decide +kernel
theorem dX8_voice_44 : decode cX8_voice 44 = .ok (.aload 4, 2) := by decide +kernel
theorem dX8_voice_46 : decode cX8_voice 46 = .ok (.getfield 109, 3) := by decide +kernel
theorem dX8_voice_49 : decode cX8_voice 49 = .ok (.iload_n 1, 1) := by decide +kernel
theorem dX8_voice_50 : decode cX8_voice 50 = .ok (.iaload, 1) := by decide +kernel
theorem dX8_voice_51 : decode cX8_voice 51 = .ok (.iload_n 1, 1) := by decide +kernel
theorem dX8_voice_52 : decode cX8_voice 52 = .ok (.iload_n 2, 1) := by decide +kernel
theorem dX8_voice_53 : decode cX8_voice 53 = .ok (.iload_n 3, 1) := by decide +kernel
theorem dX8_voice_54 : decode cX8_voice 54 = .ok (.invokevirtual 278, 3) := by decide +kernel
theorem dX8_voice_57 : decode cX8_voice 57 = .ok (.istore 5, 2) := by decide +kernel
theorem dX8_voice_59 : decode cX8_voice 59 = .ok (.aload_n 0, 1) := by decide +kernel
theorem dX8_voice_60 : decode cX8_voice 60 = .ok (.getfield 47, 3) := by decide +kernel
theorem dX8_voice_63 : decode cX8_voice 63 = .ok (.getfield 282, 3) := by decide +kernel
theorem dX8_voice_66 : decode cX8_voice 66 = .ok (.ifCond .eq 12, 3) := by decide +kernel
theorem dX8_voice_69 : decode cX8_voice 69 = .ok (.aload_n 0, 1) := by decide +kernel
theorem dX8_voice_70 : decode cX8_voice 70 = .ok (.bipush 6, 2) := by decide +kernel
theorem dX8_voice_72 : decode cX8_voice 72 = .ok (.invokevirtual 59, 3) := by decide +kernel
theorem dX8_voice_75 : decode cX8_voice 75 = .ok (.goto 5, 3) := by decide +kernel
theorem dX8_voice_78 : decode cX8_voice 78 = .ok (.iload 5, 2) := by decide +kernel
theorem dX8_voice_80 : decode cX8_voice 80 = .ok (.ireturn, 1) := by decide +kernel
theorem dX8_body_0 : decode cX8_body 0 = .ok (.iload_n 1, 1) := by decide +kernel
theorem dX8_body_1 : decode cX8_body 1 = .ok (.ifCond .lt 14, 3) := by decide +kernel
theorem dX8_body_4 : decode cX8_body 4 = .ok (.iload_n 1, 1) := by decide +kernel
theorem dX8_body_5 : decode cX8_body 5 = .ok (.aload_n 0, 1) := by decide +kernel
theorem dX8_body_6 : decode cX8_body 6 = .ok (.getfield 47, 3) := by decide +kernel
theorem dX8_body_9 : decode cX8_body 9 = .ok (.getfield 286, 3) := by decide +kernel
theorem dX8_body_12 : decode cX8_body 12 = .ok (.if_icmp .lt 9, 3) := by decide +kernel
theorem dX8_body_15 : decode cX8_body 15 = .ok (.aload_n 0, 1) := by decide +kernel
theorem dX8_body_16 : decode cX8_body 16 = .ok (.iconst 2, 1) := by decide +kernel
theorem dX8_body_17 : decode cX8_body 17 = .ok (.invokevirtual 59, 3) := by decide +kernel
theorem dX8_body_20 : decode cX8_body 20 = .ok (.ireturn, 1) := by decide +kernel
theorem dX8_body_21 : decode cX8_body 21 = .ok (.aload_n 0, 1) := by decide +kernel
theorem dX8_body_22 : decode cX8_body 22 = .ok (.getfield 47, 3) := by decide +kernel
theorem dX8_body_25 : decode cX8_body 25 = .ok (.getfield 289, 3) := by decide +kernel
theorem dX8_body_28 : decode cX8_body 28 = .ok (.iload_n 1, 1) := by decide +kernel
theorem dX8_body_29 : decode cX8_body 29 = .ok (.iaload, 1) := by decide +kernel
theorem dX8_body_30 : decode cX8_body 30 = .ok (.ireturn, 1) := by decide +kernel
theorem dX8_sheet_0 : decode cX8_sheet 0 = .ok (.aload_n 0, 1) := by decide +kernel
theorem dX8_sheet_1 : decode cX8_sheet 1 = .ok (.getfield 40, 3) := by decide +kernel
theorem dX8_sheet_4 : decode cX8_sheet 4 = .ok (.iload_n 1, 1) := by decide +kernel
theorem dX8_sheet_5 : decode cX8_sheet 5 = .ok (.invokevirtual 292, 3) := by decide +kernel
theorem dX8_sheet_8 : decode cX8_sheet 8 = .ok (.ifCond .eq 14, 3) := by decide +kernel
theorem dX8_sheet_11 : decode cX8_sheet 11 = .ok (.aload_n 0, 1) := by decide +kernel
theorem dX8_sheet_12 : decode cX8_sheet 12 = .ok (.getfield 40, 3) := by decide +kernel
theorem dX8_sheet_15 : decode cX8_sheet 15 = .ok (.iload_n 2, 1) := by decide +kernel
theorem dX8_sheet_16 : decode cX8_sheet 16 = .ok (.invokevirtual 295, 3) := by decide +kernel
theorem dX8_sheet_19 : decode cX8_sheet 19 = .ok (.ifCond .ne 9, 3) := by decide +kernel
theorem dX8_sheet_22 : decode cX8_sheet 22 = .ok (.aload_n 0, 1) := by decide +kernel
theorem dX8_sheet_23 : decode cX8_sheet 23 = .ok (.iconst 1, 1) := by decide +kernel
theorem dX8_sheet_24 : decode cX8_sheet 24 = .ok (.invokevirtual 59, 3) := by decide +kernel
theorem dX8_sheet_27 : decode cX8_sheet 27 = .ok (.ireturn, 1) := by decide +kernel
theorem dX8_sheet_28 : decode cX8_sheet 28 = .ok (.iload_n 2, 1) := by decide +kernel
theorem dX8_sheet_29 : decode cX8_sheet 29 = .ok (.ifCond .eq 13, 3) := by decide +kernel
theorem dX8_sheet_32 : decode cX8_sheet 32 = .ok (.iload_n 3, 1) := by decide +kernel
theorem dX8_sheet_33 : decode cX8_sheet 33 = .ok (.ifCond .ge 9, 3) := by decide +kernel
theorem dX8_sheet_36 : decode cX8_sheet 36 = .ok (.aload_n 0, 1) := by decide +kernel
theorem dX8_sheet_37 : decode cX8_sheet 37 = .ok (.iconst 3, 1) := by decide +kernel
theorem dX8_sheet_38 : decode cX8_sheet 38 = .ok (.invokevirtual 59, 3) := by decide +kernel
theorem dX8_sheet_41 : decode cX8_sheet 41 = .ok (.ireturn, 1) := by decide +kernel
theorem dX8_sheet_42 : decode cX8_sheet 42 = .ok (.iload_n 2, 1) := by decide +kernel
theorem dX8_sheet_43 : decode cX8_sheet 43 = .ok (.ifCond .eq 15, 3) := by decide +kernel
theorem dX8_sheet_46 : decode cX8_sheet 46 = .ok (.iload_n 3, 1) := by decide +kernel
theorem dX8_sheet_47 : decode cX8_sheet 47 = .ok (.bipush 24, 2) := by decide +kernel
theorem dX8_sheet_49 : decode cX8_sheet 49 = .ok (.if_icmp .le 9, 3) := by decide +kernel
theorem dX8_sheet_52 : decode cX8_sheet 52 = .ok (.aload_n 0, 1) := by decide +kernel
theorem dX8_sheet_53 : decode cX8_sheet 53 = .ok (.iconst 1, 1) := by decide +kernel
theorem dX8_sheet_54 : decode cX8_sheet 54 = .ok (.invokevirtual 59, 3) := by decide +kernel
theorem dX8_sheet_57 : decode cX8_sheet 57 = .ok (.ireturn, 1) := by decide +kernel
theorem dX8_sheet_58 : decode cX8_sheet 58 = .ok (.aload_n 0, 1) := by decide +kernel
theorem dX8_sheet_59 : decode cX8_sheet 59 = .ok (.getfield 40, 3) := by decide +kernel
theorem dX8_sheet_62 : decode cX8_sheet 62 = .ok (.iload_n 1, 1) := by decide +kernel
theorem dX8_sheet_63 : decode cX8_sheet 63 = .ok (.iload_n 2, 1) := by decide +kernel
theorem dX8_sheet_64 : decode cX8_sheet 64 = .ok (.iload_n 2, 1) := by decide +kernel
theorem dX8_sheet_65 : decode cX8_sheet 65 = .ok (.ifCond .ne 7, 3) := by decide +kernel
theorem dX8_sheet_68 : decode cX8_sheet 68 = .ok (.iconst 0, 1) := by decide +kernel
theorem dX8_sheet_69 : decode cX8_sheet 69 = .ok (.goto 4, 3) := by decide +kernel
theorem dX8_sheet_72 : decode cX8_sheet 72 = .ok (.iload_n 3, 1) := by decide +kernel
theorem dX8_sheet_73 : decode cX8_sheet 73 = .ok (.invokevirtual 298, 3) := by decide +kernel
theorem dX8_sheet_76 : decode cX8_sheet 76 = .ok (.iconst 1, 1) := by decide +kernel
theorem dX8_sheet_77 : decode cX8_sheet 77 = .ok (.ireturn, 1) := by decide +kernel
theorem dX8_put_0 : decode cX8_put 0 = .ok (.aload_n 0, 1) := by decide +kernel
theorem dX8_put_1 : decode cX8_put 1 = .ok (.getfield 40, 3) := by decide +kernel
theorem dX8_put_4 : decode cX8_put 4 = .ok (.iload_n 1, 1) := by decide +kernel
theorem dX8_put_5 : decode cX8_put 5 = .ok (.invokevirtual 292, 3) := by decide +kernel
theorem dX8_put_8 : decode cX8_put 8 = .ok (.ifCond .ne 9, 3) := by decide +kernel
theorem dX8_put_11 : decode cX8_put 11 = .ok (.aload_n 0, 1) := by decide +kernel
theorem dX8_put_12 : decode cX8_put 12 = .ok (.iconst 1, 1) := by decide +kernel
theorem dX8_put_13 : decode cX8_put 13 = .ok (.invokevirtual 59, 3) := by decide +kernel
theorem dX8_put_16 : decode cX8_put 16 = .ok (.ireturn, 1) := by decide +kernel
theorem dX8_put_17 : decode cX8_put 17 = .ok (.aload_n 0, 1) := by decide +kernel
theorem dX8_put_18 : decode cX8_put 18 = .ok (.getfield 40, 3) := by decide +kernel
theorem dX8_put_21 : decode cX8_put 21 = .ok (.iload_n 1, 1) := by decide +kernel
theorem dX8_put_22 : decode cX8_put 22 = .ok (.invokevirtual 302, 3) := by decide +kernel
theorem dX8_put_25 : decode cX8_put 25 = .ok (.ifCond .eq 9, 3) := by decide +kernel
theorem dX8_put_28 : decode cX8_put 28 = .ok (.aload_n 0, 1) := by decide +kernel
theorem dX8_put_29 : decode cX8_put 29 = .ok (.iconst 2, 1) := by decide +kernel
theorem dX8_put_30 : decode cX8_put 30 = .ok (.invokevirtual 59, 3) := by decide +kernel
theorem dX8_put_33 : decode cX8_put 33 = .ok (.ireturn, 1) := by decide +kernel
theorem dX8_put_34 : decode cX8_put 34 = .ok (.iload_n 2, 1) := by decide +kernel
theorem dX8_put_35 : decode cX8_put 35 = .ok (.ifCond .lt 16, 3) := by decide +kernel
theorem dX8_put_38 : decode cX8_put 38 = .ok (.iload_n 2, 1) := by decide +kernel
theorem dX8_put_39 : decode cX8_put 39 = .ok (.aload_n 0, 1) := by decide +kernel
theorem dX8_put_40 : decode cX8_put 40 = .ok (.getfield 40, 3) := by decide +kernel
theorem dX8_put_43 : decode cX8_put 43 = .ok (.getfield 305, 3) := by decide +kernel
theorem dX8_put_46 : decode cX8_put 46 = .ok (.iload_n 1, 1) := by decide +kernel
theorem dX8_put_47 : decode cX8_put 47 = .ok (.iaload, 1) := by decide +kernel
theorem dX8_put_48 : decode cX8_put 48 = .ok (.if_icmp .lt 9, 3) := by decide +kernel
theorem dX8_put_51 : decode cX8_put 51 = .ok (.aload_n 0, 1) := by decide +kernel
theorem dX8_put_52 : decode cX8_put 52 = .ok (.iconst 1, 1) := by decide +kernel
theorem dX8_put_53 : decode cX8_put 53 = .ok (.invokevirtual 59, 3) := by decide +kernel
theorem dX8_put_56 : decode cX8_put 56 = .ok (.ireturn, 1) := by decide +kernel
theorem dX8_put_57 : decode cX8_put 57 = .ok (.aload_n 0, 1) := by decide +kernel
theorem dX8_put_58 : decode cX8_put 58 = .ok (.getfield 40, 3) := by decide +kernel
theorem dX8_put_61 : decode cX8_put 61 = .ok (.iload_n 1, 1) := by decide +kernel
theorem dX8_put_62 : decode cX8_put 62 = .ok (.iload_n 2, 1) := by decide +kernel
theorem dX8_put_63 : decode cX8_put 63 = .ok (.iload_n 3, 1) := by decide +kernel
theorem dX8_put_64 : decode cX8_put 64 = .ok (.invokevirtual 307, 3) := by decide +kernel
theorem dX8_put_67 : decode cX8_put 67 = .ok (.iconst 1, 1) := by decide +kernel
theorem dX8_put_68 : decode cX8_put 68 = .ok (.ireturn, 1) := by decide +kernel
theorem dX8_move_0 : decode cX8_move 0 = .ok (.aload_n 0, 1) := by decide +kernel
theorem dX8_move_1 : decode cX8_move 1 = .ok (.getfield 40, 3) := by decide +kernel
theorem dX8_move_4 : decode cX8_move 4 = .ok (.iload_n 1, 1) := by decide +kernel
theorem dX8_move_5 : decode cX8_move 5 = .ok (.invokevirtual 292, 3) := by decide +kernel
theorem dX8_move_8 : decode cX8_move 8 = .ok (.ifCond .eq 14, 3) := by decide +kernel
theorem dX8_move_11 : decode cX8_move 11 = .ok (.aload_n 0, 1) := by decide +kernel
theorem dX8_move_12 : decode cX8_move 12 = .ok (.getfield 40, 3) := by decide +kernel
theorem dX8_move_15 : decode cX8_move 15 = .ok (.iload_n 3, 1) := by decide +kernel
theorem dX8_move_16 : decode cX8_move 16 = .ok (.invokevirtual 292, 3) := by decide +kernel
theorem dX8_move_19 : decode cX8_move 19 = .ok (.ifCond .ne 9, 3) := by decide +kernel
theorem dX8_move_22 : decode cX8_move 22 = .ok (.aload_n 0, 1) := by decide +kernel
theorem dX8_move_23 : decode cX8_move 23 = .ok (.iconst 1, 1) := by decide +kernel
theorem dX8_move_24 : decode cX8_move 24 = .ok (.invokevirtual 59, 3) := by decide +kernel
theorem dX8_move_27 : decode cX8_move 27 = .ok (.ireturn, 1) := by decide +kernel
theorem dX8_move_28 : decode cX8_move 28 = .ok (.aload_n 0, 1) := by decide +kernel
theorem dX8_move_29 : decode cX8_move 29 = .ok (.getfield 40, 3) := by decide +kernel
theorem dX8_move_32 : decode cX8_move 32 = .ok (.iload_n 1, 1) := by decide +kernel
theorem dX8_move_33 : decode cX8_move 33 = .ok (.invokevirtual 302, 3) := by decide +kernel
theorem dX8_move_36 : decode cX8_move 36 = .ok (.ifCond .ne 14, 3) := by decide +kernel
theorem dX8_move_39 : decode cX8_move 39 = .ok (.aload_n 0, 1) := by decide +kernel
theorem dX8_move_40 : decode cX8_move 40 = .ok (.getfield 40, 3) := by decide +kernel
theorem dX8_move_43 : decode cX8_move 43 = .ok (.iload_n 3, 1) := by decide +kernel
theorem dX8_move_44 : decode cX8_move 44 = .ok (.invokevirtual 302, 3) := by decide +kernel
theorem dX8_move_47 : decode cX8_move 47 = .ok (.ifCond .eq 9, 3) := by decide +kernel
theorem dX8_move_50 : decode cX8_move 50 = .ok (.aload_n 0, 1) := by decide +kernel
theorem dX8_move_51 : decode cX8_move 51 = .ok (.iconst 2, 1) := by decide +kernel
theorem dX8_move_52 : decode cX8_move 52 = .ok (.invokevirtual 59, 3) := by decide +kernel
theorem dX8_move_55 : decode cX8_move 55 = .ok (.ireturn, 1) := by decide +kernel
theorem dX8_move_56 : decode cX8_move 56 = .ok (.aload_n 0, 1) := by decide +kernel
theorem dX8_move_57 : decode cX8_move 57 = .ok (.getfield 40, 3) := by decide +kernel
theorem dX8_move_60 : decode cX8_move 60 = .ok (.getfield 310, 3) := by decide +kernel
theorem dX8_move_63 : decode cX8_move 63 = .ok (.iload_n 1, 1) := by decide +kernel
theorem dX8_move_64 : decode cX8_move 64 = .ok (.iaload, 1) := by decide +kernel
theorem dX8_move_65 : decode cX8_move 65 = .ok (.aload_n 0, 1) := by decide +kernel
theorem dX8_move_66 : decode cX8_move 66 = .ok (.getfield 40, 3) := by decide +kernel
theorem dX8_move_69 : decode cX8_move 69 = .ok (.getfield 310, 3) := by decide +kernel
theorem dX8_move_72 : decode cX8_move 72 = .ok (.iload_n 3, 1) := by decide +kernel
theorem dX8_move_73 : decode cX8_move 73 = .ok (.iaload, 1) := by decide +kernel
theorem dX8_move_74 : decode cX8_move 74 = .ok (.if_icmp .eq 9, 3) := by decide +kernel
theorem dX8_move_77 : decode cX8_move 77 = .ok (.aload_n 0, 1) := by decide +kernel
theorem dX8_move_78 : decode cX8_move 78 = .ok (.iconst 5, 1) := by decide +kernel
theorem dX8_move_79 : decode cX8_move 79 = .ok (.invokevirtual 59, 3) := by decide +kernel
theorem dX8_move_82 : decode cX8_move 82 = .ok (.ireturn, 1) := by decide +kernel
theorem dX8_move_83 : decode cX8_move 83 = .ok (.aload_n 0, 1) := by decide +kernel
theorem dX8_move_84 : decode cX8_move 84 = .ok (.getfield 40, 3) := by decide +kernel
theorem dX8_move_87 : decode cX8_move 87 = .ok (.iload_n 1, 1) := by decide +kernel
theorem dX8_move_88 : decode cX8_move 88 = .ok (.iload_n 2, 1) := by decide +kernel
theorem dX8_move_89 : decode cX8_move 89 = .ok (.iload 5, 2) := by decide +kernel
theorem dX8_move_91 : decode cX8_move 91 = .ok (.invokevirtual 313, 3) := by decide +kernel
theorem dX8_move_94 : decode cX8_move 94 = .ok (.ifCond .eq 18, 3) := by decide +kernel
theorem dX8_move_97 : decode cX8_move 97 = .ok (.aload_n 0, 1) := by decide +kernel
theorem dX8_move_98 : decode cX8_move 98 = .ok (.getfield 40, 3) := by decide +kernel
theorem dX8_move_101 : decode cX8_move 101 = .ok (.iload_n 3, 1) := by decide +kernel
theorem dX8_move_102 : decode cX8_move 102 = .ok (.iload 4, 2) := by decide +kernel
theorem dX8_move_104 : decode cX8_move 104 = .ok (.iload 5, 2) := by decide +kernel
theorem dX8_move_106 : decode cX8_move 106 = .ok (.invokevirtual 313, 3) := by decide +kernel
theorem dX8_move_109 : decode cX8_move 109 = .ok (.ifCond .ne 9, 3) := by decide +kernel
theorem dX8_move_112 : decode cX8_move 112 = .ok (.aload_n 0, 1) := by decide +kernel
theorem dX8_move_113 : decode cX8_move 113 = .ok (.iconst 1, 1) := by decide +kernel
theorem dX8_move_114 : decode cX8_move 114 = .ok (.invokevirtual 59, 3) := by decide +kernel
theorem dX8_move_117 : decode cX8_move 117 = .ok (.ireturn, 1) := by decide +kernel
theorem dX8_move_118 : decode cX8_move 118 = .ok (.aload_n 0, 1) := by decide +kernel
theorem dX8_move_119 : decode cX8_move 119 = .ok (.getfield 40, 3) := by decide +kernel
theorem dX8_move_122 : decode cX8_move 122 = .ok (.getfield 317, 3) := by decide +kernel
theorem dX8_move_125 : decode cX8_move 125 = .ok (.iload_n 1, 1) := by decide +kernel
theorem dX8_move_126 : decode cX8_move 126 = .ok (.aaload, 1) := by decide +kernel
theorem dX8_move_127 : decode cX8_move 127 = .ok (.iload_n 2, 1) := by decide +kernel
theorem dX8_move_128 : decode cX8_move 128 = .ok (.aload_n 0, 1) := by decide +kernel
theorem dX8_move_129 : decode cX8_move 129 = .ok (.getfield 40, 3) := by decide +kernel
theorem dX8_move_132 : decode cX8_move 132 = .ok (.getfield 317, 3) := by decide +kernel
theorem dX8_move_135 : decode cX8_move 135 = .ok (.iload_n 3, 1) := by decide +kernel
theorem dX8_move_136 : decode cX8_move 136 = .ok (.aaload, 1) := by decide +kernel
theorem dX8_move_137 : decode cX8_move 137 = .ok (.iload 4, 2) := by decide +kernel
theorem dX8_move_139 : decode cX8_move 139 = .ok (.iload 5, 2) := by decide +kernel
theorem dX8_move_141 : decode cX8_move 141 = .ok (.invokestatic 321, 3) := by decide +kernel
theorem dX8_move_144 : decode cX8_move 144 = .ok (.iload 5, 2) := by decide +kernel
theorem dX8_move_146 : decode cX8_move 146 = .ok (.ireturn, 1) := by decide +kernel
theorem dX8_crossings_0 : decode cX8_crossings 0 = .ok (.aload_n 0, 1) := by decide +kernel
theorem dX8_crossings_1 : decode cX8_crossings 1 = .ok (.getfield 40, 3) := by decide +kernel
theorem dX8_crossings_4 : decode cX8_crossings 4 = .ok (.iload_n 1, 1) := by decide +kernel
theorem dX8_crossings_5 : decode cX8_crossings 5 = .ok (.invokevirtual 292, 3) := by decide +kernel
theorem dX8_crossings_8 : decode cX8_crossings 8 = .ok (.ifCond .ne 9, 3) := by decide +kernel
theorem dX8_crossings_11 : decode cX8_crossings 11 = .ok (.aload_n 0, 1) := by decide +kernel
theorem dX8_crossings_12 : decode cX8_crossings 12 = .ok (.iconst 1, 1) := by decide +kernel
theorem dX8_crossings_13 : decode cX8_crossings 13 = .ok (.invokevirtual 59, 3) := by decide +kernel
theorem dX8_crossings_16 : decode cX8_crossings 16 = .ok (.ireturn, 1) := by decide +kernel
theorem dX8_crossings_17 : decode cX8_crossings 17 = .ok (.aload_n 0, 1) := by decide +kernel
theorem dX8_crossings_18 : decode cX8_crossings 18 = .ok (.getfield 40, 3) := by decide +kernel
theorem dX8_crossings_21 : decode cX8_crossings 21 = .ok (.iload_n 1, 1) := by decide +kernel
theorem dX8_crossings_22 : decode cX8_crossings 22 = .ok (.invokevirtual 302, 3) := by decide +kernel
theorem dX8_crossings_25 : decode cX8_crossings 25 = .ok (.ifCond .eq 9, 3) := by decide +kernel
theorem dX8_crossings_28 : decode cX8_crossings 28 = .ok (.aload_n 0, 1) := by decide +kernel
theorem dX8_crossings_29 : decode cX8_crossings 29 = .ok (.iconst 2, 1) := by decide +kernel
theorem dX8_crossings_30 : decode cX8_crossings 30 = .ok (.invokevirtual 59, 3) := by decide +kernel
theorem dX8_crossings_33 : decode cX8_crossings 33 = .ok (.ireturn, 1) := by decide +kernel
theorem dX8_crossings_34 : decode cX8_crossings 34 = .ok (.aload_n 0, 1) := by decide +kernel
theorem dX8_crossings_35 : decode cX8_crossings 35 = .ok (.getfield 40, 3) := by decide +kernel
theorem dX8_crossings_38 : decode cX8_crossings 38 = .ok (.getfield 317, 3) := by decide +kernel
theorem dX8_crossings_41 : decode cX8_crossings 41 = .ok (.iload_n 1, 1) := by decide +kernel
theorem dX8_crossings_42 : decode cX8_crossings 42 = .ok (.aaload, 1) := by decide +kernel
theorem dX8_crossings_43 : decode cX8_crossings 43 = .ok (.astore_n 2, 1) := by decide +kernel
theorem dX8_crossings_44 : decode cX8_crossings 44 = .ok (.iconst 0, 1) := by decide +kernel
theorem dX8_crossings_45 : decode cX8_crossings 45 = .ok (.istore_n 3, 1) := by decide +kernel
theorem dX8_crossings_46 : decode cX8_crossings 46 = .ok (.iconst 0, 1) := by decide +kernel
theorem dX8_crossings_47 : decode cX8_crossings 47 = .ok (.istore 4, 2) := by decide +kernel
theorem dX8_crossings_49 : decode cX8_crossings 49 = .ok (.iload 4, 2) := by decide +kernel
theorem dX8_crossings_51 : decode cX8_crossings 51 = .ok (.iconst 1, 1) := by decide +kernel
theorem dX8_crossings_52 : decode cX8_crossings 52 = .ok (.iadd, 1) := by decide +kernel
theorem dX8_crossings_53 : decode cX8_crossings 53 = .ok (.aload_n 0, 1) := by decide +kernel
theorem dX8_crossings_54 : decode cX8_crossings 54 = .ok (.getfield 40, 3) := by decide +kernel
theorem dX8_crossings_57 : decode cX8_crossings 57 = .ok (.getfield 305, 3) := by decide +kernel
theorem dX8_crossings_60 : decode cX8_crossings 60 = .ok (.iload_n 1, 1) := by decide +kernel
theorem dX8_crossings_61 : decode cX8_crossings 61 = .ok (.iaload, 1) := by decide +kernel
theorem dX8_crossings_62 : decode cX8_crossings 62 = .ok (.if_icmp .ge 49, 3) := by decide +kernel
theorem dX8_crossings_65 : decode cX8_crossings 65 = .ok (.aload_n 0, 1) := by decide +kernel
theorem dX8_crossings_66 : decode cX8_crossings 66 = .ok (.aload_n 2, 1) := by decide +kernel
theorem dX8_crossings_67 : decode cX8_crossings 67 = .ok (.iload 4, 2) := by decide +kernel
theorem dX8_crossings_69 : decode cX8_crossings 69 = .ok (.iaload, 1) := by decide +kernel
theorem dX8_crossings_70 : decode cX8_crossings 70 = .ok (.aload_n 2, 1) := by decide +kernel
theorem dX8_crossings_71 : decode cX8_crossings 71 = .ok (.iload 4, 2) := by decide +kernel
theorem dX8_crossings_73 : decode cX8_crossings 73 = .ok (.iconst 1, 1) := by decide +kernel
theorem dX8_crossings_74 : decode cX8_crossings 74 = .ok (.iadd, 1) := by decide +kernel
theorem dX8_crossings_75 : decode cX8_crossings 75 = .ok (.iaload, 1) := by decide +kernel
theorem dX8_crossings_76 : decode cX8_crossings 76 = .ok (.invokevirtual 178, 3) := by decide +kernel
theorem dX8_crossings_79 : decode cX8_crossings 79 = .ok (.ifCond .eq 5, 3) := by decide +kernel
theorem dX8_crossings_82 : decode cX8_crossings 82 = .ok (.iload_n 3, 1) := by decide +kernel
theorem dX8_crossings_83 : decode cX8_crossings 83 = .ok (.ireturn, 1) := by decide +kernel
theorem dX8_crossings_84 : decode cX8_crossings 84 = .ok (.aload_n 0, 1) := by decide +kernel
theorem dX8_crossings_85 : decode cX8_crossings 85 = .ok (.getfield 23, 3) := by decide +kernel
theorem dX8_crossings_88 : decode cX8_crossings 88 = .ok (.aload_n 2, 1) := by decide +kernel
theorem dX8_crossings_89 : decode cX8_crossings 89 = .ok (.iload 4, 2) := by decide +kernel
theorem dX8_crossings_91 : decode cX8_crossings 91 = .ok (.iaload, 1) := by decide +kernel
theorem dX8_crossings_92 : decode cX8_crossings 92 = .ok (.aload_n 2, 1) := by decide +kernel
theorem dX8_crossings_93 : decode cX8_crossings 93 = .ok (.iload 4, 2) := by decide +kernel
theorem dX8_crossings_95 : decode cX8_crossings 95 = .ok (.iconst 1, 1) := by decide +kernel
theorem dX8_crossings_96 : decode cX8_crossings 96 = .ok (.iadd, 1) := by decide +kernel
theorem dX8_crossings_97 : decode cX8_crossings 97 = .ok (.iaload, 1) := by decide +kernel
theorem dX8_crossings_98 : decode cX8_crossings 98 = .ok (.invokevirtual 181, 3) := by decide +kernel
theorem dX8_crossings_101 : decode cX8_crossings 101 = .ok (.pop, 1) := by decide +kernel
theorem dX8_crossings_102 : decode cX8_crossings 102 = .ok (.iinc 3 1, 3) := by decide +kernel
theorem dX8_crossings_105 : decode cX8_crossings 105 = .ok (.iinc 4 2, 3) := by decide +kernel
theorem dX8_crossings_108 : decode cX8_crossings 108 = .ok (.goto (-59), 3) := by decide +kernel
theorem dX8_crossings_111 : decode cX8_crossings 111 = .ok (.iload_n 3, 1) := by decide +kernel
theorem dX8_crossings_112 : decode cX8_crossings 112 = .ok (.ireturn, 1) := by decide +kernel
theorem dX8_judge_0 : decode cX8_judge 0 = .ok (.aload_n 0, 1) := by decide +kernel
theorem dX8_judge_1 : decode cX8_judge 1 = .ok (.getfield 40, 3) := by decide +kernel
theorem dX8_judge_4 : decode cX8_judge 4 = .ok (.iload_n 1, 1) := by decide +kernel
theorem dX8_judge_5 : decode cX8_judge 5 = .ok (.invokevirtual 292, 3) := by decide +kernel
theorem dX8_judge_8 : decode cX8_judge 8 = .ok (.ifCond .eq 17, 3) := by decide +kernel
theorem dX8_judge_11 : decode cX8_judge 11 = .ok (.aload_n 0, 1) := by decide +kernel
theorem dX8_judge_12 : decode cX8_judge 12 = .ok (.getfield 23, 3) := by decide +kernel
theorem dX8_judge_15 : decode cX8_judge 15 = .ok (.getfield 63, 3) := by decide +kernel
theorem dX8_judge_18 : decode cX8_judge 18 = .ok (.iload_n 2, 1) := by decide +kernel
theorem dX8_judge_19 : decode cX8_judge 19 = .ok (.invokevirtual 103, 3) := by decide +kernel
theorem dX8_judge_22 : decode cX8_judge 22 = .ok (.ifCond .ne 9, 3) := by decide +kernel
theorem dX8_judge_25 : decode cX8_judge 25 = .ok (.aload_n 0, 1) := by decide +kernel
theorem dX8_judge_26 : decode cX8_judge 26 = .ok (.iconst 1, 1) := by decide +kernel
theorem dX8_judge_27 : decode cX8_judge 27 = .ok (.invokevirtual 59, 3) := by decide +kernel
theorem dX8_judge_30 : decode cX8_judge 30 = .ok (.ireturn, 1) := by decide +kernel
theorem dX8_judge_31 : decode cX8_judge 31 = .ok (.aload_n 0, 1) := by decide +kernel
theorem dX8_judge_32 : decode cX8_judge 32 = .ok (.getfield 40, 3) := by decide +kernel
theorem dX8_judge_35 : decode cX8_judge 35 = .ok (.iload_n 1, 1) := by decide +kernel
theorem dX8_judge_36 : decode cX8_judge 36 = .ok (.invokevirtual 302, 3) := by decide +kernel
theorem dX8_judge_39 : decode cX8_judge 39 = .ok (.ifCond .eq 9, 3) := by decide +kernel
theorem dX8_judge_42 : decode cX8_judge 42 = .ok (.aload_n 0, 1) := by decide +kernel
theorem dX8_judge_43 : decode cX8_judge 43 = .ok (.iconst 2, 1) := by decide +kernel
theorem dX8_judge_44 : decode cX8_judge 44 = .ok (.invokevirtual 59, 3) := by decide +kernel
theorem dX8_judge_47 : decode cX8_judge 47 = .ok (.ireturn, 1) := by decide +kernel
theorem dX8_judge_48 : decode cX8_judge 48 = .ok (.aload_n 0, 1) := by decide +kernel
theorem dX8_judge_49 : decode cX8_judge 49 = .ok (.getfield 40, 3) := by decide +kernel
theorem dX8_judge_52 : decode cX8_judge 52 = .ok (.getfield 305, 3) := by decide +kernel
theorem dX8_judge_55 : decode cX8_judge 55 = .ok (.iload_n 1, 1) := by decide +kernel
theorem dX8_judge_56 : decode cX8_judge 56 = .ok (.iaload, 1) := by decide +kernel
theorem dX8_judge_57 : decode cX8_judge 57 = .ok (.istore_n 3, 1) := by decide +kernel
theorem dX8_judge_58 : decode cX8_judge 58 = .ok (.aload_n 0, 1) := by decide +kernel
theorem dX8_judge_59 : decode cX8_judge 59 = .ok (.getfield 23, 3) := by decide +kernel
theorem dX8_judge_62 : decode cX8_judge 62 = .ok (.getfield 63, 3) := by decide +kernel
theorem dX8_judge_65 : decode cX8_judge 65 = .ok (.getfield 124, 3) := by decide +kernel
theorem dX8_judge_68 : decode cX8_judge 68 = .ok (.iload_n 2, 1) := by decide +kernel
theorem dX8_judge_69 : decode cX8_judge 69 = .ok (.iaload, 1) := by decide +kernel
theorem dX8_judge_70 : decode cX8_judge 70 = .ok (.istore 4, 2) := by decide +kernel
theorem dX8_judge_72 : decode cX8_judge 72 = .ok (.iload_n 3, 1) := by decide +kernel
theorem dX8_judge_73 : decode cX8_judge 73 = .ok (.iload 4, 2) := by decide +kernel
theorem dX8_judge_75 : decode cX8_judge 75 = .ok (.invokestatic 228, 3) := by decide +kernel
theorem dX8_judge_78 : decode cX8_judge 78 = .ok (.istore 5, 2) := by decide +kernel
theorem dX8_judge_80 : decode cX8_judge 80 = .ok (.iconst 0, 1) := by decide +kernel
theorem dX8_judge_81 : decode cX8_judge 81 = .ok (.istore 6, 2) := by decide +kernel
theorem dX8_judge_83 : decode cX8_judge 83 = .ok (.iload 6, 2) := by decide +kernel
theorem dX8_judge_85 : decode cX8_judge 85 = .ok (.iload 5, 2) := by decide +kernel
theorem dX8_judge_87 : decode cX8_judge 87 = .ok (.if_icmp .ge 40, 3) := by decide +kernel
theorem dX8_judge_90 : decode cX8_judge 90 = .ok (.aload_n 0, 1) := by decide +kernel
theorem dX8_judge_91 : decode cX8_judge 91 = .ok (.getfield 40, 3) := by decide +kernel
theorem dX8_judge_94 : decode cX8_judge 94 = .ok (.getfield 317, 3) := by decide +kernel
theorem dX8_judge_97 : decode cX8_judge 97 = .ok (.iload_n 1, 1) := by decide +kernel
theorem dX8_judge_98 : decode cX8_judge 98 = .ok (.aaload, 1) := by decide +kernel
theorem dX8_judge_99 : decode cX8_judge 99 = .ok (.iload 6, 2) := by decide +kernel
theorem dX8_judge_101 : decode cX8_judge 101 = .ok (.iaload, 1) := by decide +kernel
theorem dX8_judge_102 : decode cX8_judge 102 = .ok (.aload_n 0, 1) := by decide +kernel
theorem dX8_judge_103 : decode cX8_judge 103 = .ok (.getfield 23, 3) := by decide +kernel
theorem dX8_judge_106 : decode cX8_judge 106 = .ok (.getfield 63, 3) := by decide +kernel
theorem dX8_judge_109 : decode cX8_judge 109 = .ok (.iload_n 2, 1) := by decide +kernel
theorem dX8_judge_110 : decode cX8_judge 110 = .ok (.iload 6, 2) := by decide +kernel
theorem dX8_judge_112 : decode cX8_judge 112 = .ok (.invokevirtual 127, 3) := by decide +kernel
theorem dX8_judge_115 : decode cX8_judge 115 = .ok (.if_icmp .eq 6, 3) := by decide +kernel
theorem dX8_judge_118 : decode cX8_judge 118 = .ok (.iload 6, 2) := by decide +kernel
theorem dX8_judge_120 : decode cX8_judge 120 = .ok (.ireturn, 1) := by decide +kernel
theorem dX8_judge_121 : decode cX8_judge 121 = .ok (.iinc 6 1, 3) := by decide +kernel
theorem dX8_judge_124 : decode cX8_judge 124 = .ok (.goto (-41), 3) := by decide +kernel
theorem dX8_judge_127 : decode cX8_judge 127 = .ok (.iload_n 3, 1) := by decide +kernel
theorem dX8_judge_128 : decode cX8_judge 128 = .ok (.iload 4, 2) := by decide +kernel
theorem dX8_judge_130 : decode cX8_judge 130 = .ok (.if_icmp .ne 7, 3) := by decide +kernel
theorem dX8_judge_133 : decode cX8_judge 133 = .ok (.iconst (-1), 1) := by decide +kernel
theorem dX8_judge_134 : decode cX8_judge 134 = .ok (.goto 5, 3) := by decide +kernel
theorem dX8_judge_137 : decode cX8_judge 137 = .ok (.iload 5, 2) := by decide +kernel
theorem dX8_judge_139 : decode cX8_judge 139 = .ok (.ireturn, 1) := by decide +kernel
theorem dX8_image_0 : decode cX8_image 0 = .ok (.aload_n 0, 1) := by decide +kernel
theorem dX8_image_1 : decode cX8_image 1 = .ok (.getfield 27, 3) := by decide +kernel
theorem dX8_image_4 : decode cX8_image 4 = .ok (.aload_n 0, 1) := by decide +kernel
theorem dX8_image_5 : decode cX8_image 5 = .ok (.getfield 23, 3) := by decide +kernel
theorem dX8_image_8 : decode cX8_image 8 = .ok (.invokevirtual 327, 3) := by decide +kernel
theorem dX8_image_11 : decode cX8_image 11 = .ok (.aload_n 0, 1) := by decide +kernel
theorem dX8_image_12 : decode cX8_image 12 = .ok (.dup, 1) := by decide +kernel
theorem dX8_image_13 : decode cX8_image 13 = .ok (.getfield 265, 3) := by decide +kernel
theorem dX8_image_16 : decode cX8_image 16 = .ok (.iconst 1, 1) := by decide +kernel
theorem dX8_image_17 : decode cX8_image 17 = .ok (.iadd, 1) := by decide +kernel
theorem dX8_image_18 : decode cX8_image 18 = .ok (.putfield 265, 3) := by decide +kernel
theorem dX8_image_21 : decode cX8_image 21 = .ok (.aload_n 0, 1) := by decide +kernel
theorem dX8_image_22 : decode cX8_image 22 = .ok (.getfield 265, 3) := by decide +kernel
theorem dX8_image_25 : decode cX8_image 25 = .ok (.ireturn, 1) := by decide +kernel
theorem dX8_restore_0 : decode cX8_restore 0 = .ok (.aload_n 0, 1) := by decide +kernel
theorem dX8_restore_1 : decode cX8_restore 1 = .ok (.getfield 265, 3) := by decide +kernel
theorem dX8_restore_4 : decode cX8_restore 4 = .ok (.ifCond .ne 9, 3) := by decide +kernel
theorem dX8_restore_7 : decode cX8_restore 7 = .ok (.aload_n 0, 1) := by decide +kernel
theorem dX8_restore_8 : decode cX8_restore 8 = .ok (.iconst 2, 1) := by decide +kernel
theorem dX8_restore_9 : decode cX8_restore 9 = .ok (.invokevirtual 59, 3) := by decide +kernel
theorem dX8_restore_12 : decode cX8_restore 12 = .ok (.ireturn, 1) := by decide +kernel
theorem dX8_restore_13 : decode cX8_restore 13 = .ok (.aload_n 0, 1) := by decide +kernel
theorem dX8_restore_14 : decode cX8_restore 14 = .ok (.getfield 23, 3) := by decide +kernel
theorem dX8_restore_17 : decode cX8_restore 17 = .ok (.aload_n 0, 1) := by decide +kernel
theorem dX8_restore_18 : decode cX8_restore 18 = .ok (.getfield 27, 3) := by decide +kernel
theorem dX8_restore_21 : decode cX8_restore 21 = .ok (.invokevirtual 327, 3) := by decide +kernel
theorem dX8_restore_24 : decode cX8_restore 24 = .ok (.aload_n 0, 1) := by decide +kernel
theorem dX8_restore_25 : decode cX8_restore 25 = .ok (.getfield 23, 3) := by decide +kernel
theorem dX8_restore_28 : decode cX8_restore 28 = .ok (.getfield 63, 3) := by decide +kernel
theorem dX8_restore_31 : decode cX8_restore 31 = .ok (.getfield 184, 3) := by decide +kernel
theorem dX8_restore_34 : decode cX8_restore 34 = .ok (.ireturn, 1) := by decide +kernel
theorem dX8_tell_0 : decode cX8_tell 0 = .ok (.aload_n 0, 1) := by decide +kernel
theorem dX8_tell_1 : decode cX8_tell 1 = .ok (.getfield 23, 3) := by decide +kernel
theorem dX8_tell_4 : decode cX8_tell 4 = .ok (.getfield 331, 3) := by decide +kernel
theorem dX8_tell_7 : decode cX8_tell 7 = .ok (.bipush 24, 2) := by decide +kernel
theorem dX8_tell_9 : decode cX8_tell 9 = .ok (.if_icmp .lt 9, 3) := by decide +kernel
theorem dX8_tell_12 : decode cX8_tell 12 = .ok (.aload_n 0, 1) := by decide +kernel
theorem dX8_tell_13 : decode cX8_tell 13 = .ok (.iconst 4, 1) := by decide +kernel
theorem dX8_tell_14 : decode cX8_tell 14 = .ok (.invokevirtual 59, 3) := by decide +kernel
theorem dX8_tell_17 : decode cX8_tell 17 = .ok (.ireturn, 1) := by decide +kernel
theorem dX8_tell_18 : decode cX8_tell 18 = .ok (.aload_n 0, 1) := by decide +kernel
theorem dX8_tell_19 : decode cX8_tell 19 = .ok (.getfield 23, 3) := by decide +kernel
theorem dX8_tell_22 : decode cX8_tell 22 = .ok (.getfield 334, 3) := by decide +kernel
theorem dX8_tell_25 : decode cX8_tell 25 = .ok (.aload_n 0, 1) := by decide +kernel
theorem dX8_tell_26 : decode cX8_tell 26 = .ok (.getfield 23, 3) := by decide +kernel
theorem dX8_tell_29 : decode cX8_tell 29 = .ok (.getfield 331, 3) := by decide +kernel
theorem dX8_tell_32 : decode cX8_tell 32 = .ok (.iload_n 1, 1) := by decide +kernel
theorem dX8_tell_33 : decode cX8_tell 33 = .ok (.iastore, 1) := by decide +kernel
theorem dX8_tell_34 : decode cX8_tell 34 = .ok (.aload_n 0, 1) := by decide +kernel
theorem dX8_tell_35 : decode cX8_tell 35 = .ok (.getfield 23, 3) := by decide +kernel
theorem dX8_tell_38 : decode cX8_tell 38 = .ok (.dup, 1) := by decide +kernel
theorem dX8_tell_39 : decode cX8_tell 39 = .ok (.getfield 331, 3) := by decide +kernel
theorem dX8_tell_42 : decode cX8_tell 42 = .ok (.iconst 1, 1) := by decide +kernel
theorem dX8_tell_43 : decode cX8_tell 43 = .ok (.iadd, 1) := by decide +kernel
theorem dX8_tell_44 : decode cX8_tell 44 = .ok (.putfield 331, 3) := by decide +kernel
theorem dX8_tell_47 : decode cX8_tell 47 = .ok (.aload_n 0, 1) := by decide +kernel
theorem dX8_tell_48 : decode cX8_tell 48 = .ok (.getfield 23, 3) := by decide +kernel
theorem dX8_tell_51 : decode cX8_tell 51 = .ok (.getfield 331, 3) := by decide +kernel
theorem dX8_tell_54 : decode cX8_tell 54 = .ok (.ireturn, 1) := by decide +kernel
theorem dX8_check_0 : decode cX8_check 0 = .ok (.aload_n 0, 1) := by decide +kernel
theorem dX8_check_1 : decode cX8_check 1 = .ok (.getfield 23, 3) := by decide +kernel
theorem dX8_check_4 : decode cX8_check 4 = .ok (.getfield 331, 3) := by decide +kernel
theorem dX8_check_7 : decode cX8_check 7 = .ok (.istore_n 2, 1) := by decide +kernel
theorem dX8_check_8 : decode cX8_check 8 = .ok (.aload_n 0, 1) := by decide +kernel
theorem dX8_check_9 : decode cX8_check 9 = .ok (.getfield 23, 3) := by decide +kernel
theorem dX8_check_12 : decode cX8_check 12 = .ok (.iconst 0, 1) := by decide +kernel
theorem dX8_check_13 : decode cX8_check 13 = .ok (.putfield 331, 3) := by decide +kernel
theorem dX8_check_16 : decode cX8_check 16 = .ok (.aload_n 0, 1) := by decide +kernel
theorem dX8_check_17 : decode cX8_check 17 = .ok (.getfield 23, 3) := by decide +kernel
theorem dX8_check_20 : decode cX8_check 20 = .ok (.getfield 63, 3) := by decide +kernel
theorem dX8_check_23 : decode cX8_check 23 = .ok (.iload_n 1, 1) := by decide +kernel
theorem dX8_check_24 : decode cX8_check 24 = .ok (.invokevirtual 103, 3) := by decide +kernel
theorem dX8_check_27 : decode cX8_check 27 = .ok (.ifCond .ne 9, 3) := by decide +kernel
theorem dX8_check_30 : decode cX8_check 30 = .ok (.aload_n 0, 1) := by decide +kernel
theorem dX8_check_31 : decode cX8_check 31 = .ok (.iconst 1, 1) := by decide +kernel
theorem dX8_check_32 : decode cX8_check 32 = .ok (.invokevirtual 59, 3) := by decide +kernel
theorem dX8_check_35 : decode cX8_check 35 = .ok (.ireturn, 1) := by decide +kernel
theorem dX8_check_36 : decode cX8_check 36 = .ok (.iconst 0, 1) := by decide +kernel
theorem dX8_check_37 : decode cX8_check 37 = .ok (.istore_n 3, 1) := by decide +kernel
theorem dX8_check_38 : decode cX8_check 38 = .ok (.iconst 0, 1) := by decide +kernel
theorem dX8_check_39 : decode cX8_check 39 = .ok (.istore 4, 2) := by decide +kernel
theorem dX8_check_41 : decode cX8_check 41 = .ok (.iload 4, 2) := by decide +kernel
theorem dX8_check_43 : decode cX8_check 43 = .ok (.iload_n 2, 1) := by decide +kernel
theorem dX8_check_44 : decode cX8_check 44 = .ok (.if_icmp .ge 59, 3) := by decide +kernel
theorem dX8_check_47 : decode cX8_check 47 = .ok (.aload_n 0, 1) := by decide +kernel
theorem dX8_check_48 : decode cX8_check 48 = .ok (.getfield 23, 3) := by decide +kernel
theorem dX8_check_51 : decode cX8_check 51 = .ok (.getfield 334, 3) := by decide +kernel
theorem dX8_check_54 : decode cX8_check 54 = .ok (.iload 4, 2) := by decide +kernel
theorem dX8_check_56 : decode cX8_check 56 = .ok (.iaload, 1) := by decide +kernel
theorem dX8_check_57 : decode cX8_check 57 = .ok (.istore 5, 2) := by decide +kernel
theorem dX8_check_59 : decode cX8_check 59 = .ok (.aload_n 0, 1) := by decide +kernel
theorem dX8_check_60 : decode cX8_check 60 = .ok (.getfield 23, 3) := by decide +kernel
theorem dX8_check_63 : decode cX8_check 63 = .ok (.getfield 63, 3) := by decide +kernel
theorem dX8_check_66 : decode cX8_check 66 = .ok (.iload_n 1, 1) := by decide +kernel
theorem dX8_check_67 : decode cX8_check 67 = .ok (.iload 5, 2) := by decide +kernel
theorem dX8_check_69 : decode cX8_check 69 = .ok (.invokevirtual 337, 3) := by decide +kernel
theorem dX8_check_72 : decode cX8_check 72 = .ok (.ifCond .eq 13, 3) := by decide +kernel
theorem dX8_check_75 : decode cX8_check 75 = .ok (.iload_n 3, 1) := by decide +kernel
theorem dX8_check_76 : decode cX8_check 76 = .ok (.iload 5, 2) := by decide +kernel
theorem dX8_check_78 : decode cX8_check 78 = .ok (.ishr, 1) := by decide +kernel
theorem dX8_check_79 : decode cX8_check 79 = .ok (.iconst 1, 1) := by decide +kernel
theorem dX8_check_80 : decode cX8_check 80 = .ok (.iand, 1) := by decide +kernel
theorem dX8_check_81 : decode cX8_check 81 = .ok (.iconst 1, 1) := by decide +kernel
theorem dX8_check_82 : decode cX8_check 82 = .ok (.if_icmp .ne 8, 3) := by decide +kernel
theorem dX8_check_85 : decode cX8_check 85 = .ok (.iconst 1, 1) := by decide +kernel
theorem dX8_check_86 : decode cX8_check 86 = .ok (.iload 4, 2) := by decide +kernel
theorem dX8_check_88 : decode cX8_check 88 = .ok (.iadd, 1) := by decide +kernel
theorem dX8_check_89 : decode cX8_check 89 = .ok (.ireturn, 1) := by decide +kernel
theorem dX8_check_90 : decode cX8_check 90 = .ok (.iload_n 3, 1) := by decide +kernel
theorem dX8_check_91 : decode cX8_check 91 = .ok (.iconst 1, 1) := by decide +kernel
theorem dX8_check_92 : decode cX8_check 92 = .ok (.iload 5, 2) := by decide +kernel
theorem dX8_check_94 : decode cX8_check 94 = .ok (.ishl, 1) := by decide +kernel
theorem dX8_check_95 : decode cX8_check 95 = .ok (.ior, 1) := by decide +kernel
theorem dX8_check_96 : decode cX8_check 96 = .ok (.istore_n 3, 1) := by decide +kernel
theorem dX8_check_97 : decode cX8_check 97 = .ok (.iinc 4 1, 3) := by decide +kernel
theorem dX8_check_100 : decode cX8_check 100 = .ok (.goto (-59), 3) := by decide +kernel
theorem dX8_check_103 : decode cX8_check 103 = .ok (.iload_n 2, 1) := by decide +kernel
theorem dX8_check_104 : decode cX8_check 104 = .ok (.aload_n 0, 1) := by decide +kernel
theorem dX8_check_105 : decode cX8_check 105 = .ok (.getfield 23, 3) := by decide +kernel
theorem dX8_check_108 : decode cX8_check 108 = .ok (.getfield 63, 3) := by decide +kernel
theorem dX8_check_111 : decode cX8_check 111 = .ok (.getfield 124, 3) := by decide +kernel
theorem dX8_check_114 : decode cX8_check 114 = .ok (.iload_n 1, 1) := by decide +kernel
theorem dX8_check_115 : decode cX8_check 115 = .ok (.iaload, 1) := by decide +kernel
theorem dX8_check_116 : decode cX8_check 116 = .ok (.if_icmp .ge 9, 3) := by decide +kernel
theorem dX8_check_119 : decode cX8_check 119 = .ok (.iload_n 2, 1) := by decide +kernel
theorem dX8_check_120 : decode cX8_check 120 = .ok (.iconst 1, 1) := by decide +kernel
theorem dX8_check_121 : decode cX8_check 121 = .ok (.iadd, 1) := by decide +kernel
theorem dX8_check_122 : decode cX8_check 122 = .ok (.goto 4, 3) := by decide +kernel
theorem dX8_check_125 : decode cX8_check 125 = .ok (.iconst 0, 1) := by decide +kernel
theorem dX8_check_126 : decode cX8_check 126 = .ok (.ireturn, 1) := by decide +kernel
theorem dX8_count_0 : decode cX8_count 0 = .ok (.iload_n 1, 1) := by decide +kernel
theorem dX8_count_1 : decode cX8_count 1 = .ok (.tableswitch 172 0 10 #[59, 70, 81, 92, 103, 121, 132, 140, 148, 156, 164], 59) := by decide +kernel
theorem dX8_count_60 : decode cX8_count 60 = .ok (.aload_n 0, 1) := by decide +kernel
theorem dX8_count_61 : decode cX8_count 61 = .ok (.getfield 23, 3) := by decide +kernel
theorem dX8_count_64 : decode cX8_count 64 = .ok (.getfield 63, 3) := by decide +kernel
theorem dX8_count_67 : decode cX8_count 67 = .ok (.getfield 67, 3) := by decide +kernel
theorem dX8_count_70 : decode cX8_count 70 = .ok (.ireturn, 1) := by decide +kernel
theorem dX8_count_71 : decode cX8_count 71 = .ok (.aload_n 0, 1) := by decide +kernel
theorem dX8_count_72 : decode cX8_count 72 = .ok (.getfield 23, 3) := by decide +kernel
theorem dX8_count_75 : decode cX8_count 75 = .ok (.getfield 63, 3) := by decide +kernel
theorem dX8_count_78 : decode cX8_count 78 = .ok (.getfield 96, 3) := by decide +kernel
theorem dX8_count_81 : decode cX8_count 81 = .ok (.ireturn, 1) := by decide +kernel
theorem dX8_count_82 : decode cX8_count 82 = .ok (.aload_n 0, 1) := by decide +kernel
theorem dX8_count_83 : decode cX8_count 83 = .ok (.getfield 23, 3) := by decide +kernel
theorem dX8_count_86 : decode cX8_count 86 = .ok (.getfield 63, 3) := by decide +kernel
theorem dX8_count_89 : decode cX8_count 89 = .ok (.getfield 184, 3) := by decide +kernel
theorem dX8_count_92 : decode cX8_count 92 = .ok (.ireturn, 1) := by decide +kernel
theorem dX8_count_93 : decode cX8_count 93 = .ok (.aload_n 0, 1) := by decide +kernel
theorem dX8_count_94 : decode cX8_count 94 = .ok (.getfield 23, 3) := by decide +kernel
theorem dX8_count_97 : decode cX8_count 97 = .ok (.getfield 205, 3) := by decide +kernel
theorem dX8_count_100 : decode cX8_count 100 = .ok (.getfield 209, 3) := by decide +kernel
theorem dX8_count_103 : decode cX8_count 103 = .ok (.ireturn, 1) := by decide +kernel
theorem dX8_count_104 : decode cX8_count 104 = .ok (.aload_n 0, 1) := by decide +kernel
theorem dX8_count_105 : decode cX8_count 105 = .ok (.getfield 23, 3) := by decide +kernel
theorem dX8_count_108 : decode cX8_count 108 = .ok (.getfield 205, 3) := by decide +kernel
theorem dX8_count_111 : decode cX8_count 111 = .ok (.aload_n 0, 1) := by decide +kernel
theorem dX8_count_112 : decode cX8_count 112 = .ok (.getfield 23, 3) := by decide +kernel
theorem dX8_count_115 : decode cX8_count 115 = .ok (.getfield 63, 3) := by decide +kernel
theorem dX8_count_118 : decode cX8_count 118 = .ok (.invokevirtual 244, 3) := by decide +kernel
theorem dX8_count_121 : decode cX8_count 121 = .ok (.ireturn, 1) := by decide +kernel
theorem dX8_count_122 : decode cX8_count 122 = .ok (.aload_n 0, 1) := by decide +kernel
theorem dX8_count_123 : decode cX8_count 123 = .ok (.getfield 23, 3) := by decide +kernel
theorem dX8_count_126 : decode cX8_count 126 = .ok (.getfield 63, 3) := by decide +kernel
theorem dX8_count_129 : decode cX8_count 129 = .ok (.invokevirtual 340, 3) := by decide +kernel
theorem dX8_count_132 : decode cX8_count 132 = .ok (.ireturn, 1) := by decide +kernel
theorem dX8_count_133 : decode cX8_count 133 = .ok (.aload_n 0, 1) := by decide +kernel
theorem dX8_count_134 : decode cX8_count 134 = .ok (.getfield 23, 3) := by decide +kernel
theorem dX8_count_137 : decode cX8_count 137 = .ok (.getfield 142, 3) := by decide +kernel
theorem dX8_count_140 : decode cX8_count 140 = .ok (.ireturn, 1) := by decide +kernel
theorem dX8_count_141 : decode cX8_count 141 = .ok (.aload_n 0, 1) := by decide +kernel
theorem dX8_count_142 : decode cX8_count 142 = .ok (.getfield 23, 3) := by decide +kernel
theorem dX8_count_145 : decode cX8_count 145 = .ok (.getfield 331, 3) := by decide +kernel
theorem dX8_count_148 : decode cX8_count 148 = .ok (.ireturn, 1) := by decide +kernel
theorem dX8_count_149 : decode cX8_count 149 = .ok (.aload_n 0, 1) := by decide +kernel
theorem dX8_count_150 : decode cX8_count 150 = .ok (.getfield 47, 3) := by decide +kernel
theorem dX8_count_153 : decode cX8_count 153 = .ok (.getfield 286, 3) := by decide +kernel
theorem dX8_count_156 : decode cX8_count 156 = .ok (.ireturn, 1) := by decide +kernel
theorem dX8_count_157 : decode cX8_count 157 = .ok (.aload_n 0, 1) := by decide +kernel
theorem dX8_count_158 : decode cX8_count 158 = .ok (.getfield 23, 3) := by decide +kernel
theorem dX8_count_161 : decode cX8_count 161 = .ok (.getfield 194, 3) := by decide +kernel
theorem dX8_count_164 : decode cX8_count 164 = .ok (.ireturn, 1) := by decide +kernel
theorem dX8_count_165 : decode cX8_count 165 = .ok (.aload_n 0, 1) := by decide +kernel
theorem dX8_count_166 : decode cX8_count 166 = .ok (.getfield 23, 3) := by decide +kernel
theorem dX8_count_169 : decode cX8_count 169 = .ok (.getfield 197, 3) := by decide +kernel
theorem dX8_count_172 : decode cX8_count 172 = .ok (.ireturn, 1) := by decide +kernel
theorem dX8_count_173 : decode cX8_count 173 = .ok (.aload_n 0, 1) := by decide +kernel
theorem dX8_count_174 : decode cX8_count 174 = .ok (.iconst 1, 1) := by decide +kernel
theorem dX8_count_175 : decode cX8_count 175 = .ok (.invokevirtual 59, 3) := by decide +kernel
theorem dX8_count_178 : decode cX8_count 178 = .ok (.ireturn, 1) := by decide +kernel
theorem dX8_told_0 : decode cX8_told 0 = .ok (.iload_n 1, 1) := by decide +kernel
theorem dX8_told_1 : decode cX8_told 1 = .ok (.iconst 1, 1) := by decide +kernel
theorem dX8_told_2 : decode cX8_told 2 = .ok (.if_icmp .lt 9, 3) := by decide +kernel
theorem dX8_told_5 : decode cX8_told 5 = .ok (.iload_n 1, 1) := by decide +kernel
theorem dX8_told_6 : decode cX8_told 6 = .ok (.bipush 6, 2) := by decide +kernel
theorem dX8_told_8 : decode cX8_told 8 = .ok (.if_icmp .le 9, 3) := by decide +kernel
theorem dX8_told_11 : decode cX8_told 11 = .ok (.aload_n 0, 1) := by decide +kernel
theorem dX8_told_12 : decode cX8_told 12 = .ok (.iconst 1, 1) := by decide +kernel
theorem dX8_told_13 : decode cX8_told 13 = .ok (.invokevirtual 59, 3) := by decide +kernel
theorem dX8_told_16 : decode cX8_told 16 = .ok (.ireturn, 1) := by decide +kernel
theorem dX8_told_17 : decode cX8_told 17 = .ok (.aload_n 0, 1) := by decide +kernel
theorem dX8_told_18 : decode cX8_told 18 = .ok (.getfield 51, 3) := by decide +kernel
theorem dX8_told_21 : decode cX8_told 21 = .ok (.iload_n 1, 1) := by decide +kernel
theorem dX8_told_22 : decode cX8_told 22 = .ok (.iaload, 1) := by decide +kernel
theorem dX8_told_23 : decode cX8_told 23 = .ok (.ireturn, 1) := by decide +kernel
theorem dX8_refuse_0 : decode cX8_refuse 0 = .ok (.aload_n 0, 1) := by decide +kernel
theorem dX8_refuse_1 : decode cX8_refuse 1 = .ok (.getfield 51, 3) := by decide +kernel
theorem dX8_refuse_4 : decode cX8_refuse 4 = .ok (.iload_n 1, 1) := by decide +kernel
theorem dX8_refuse_5 : decode cX8_refuse 5 = .ok (.dup2, 1) := by decide +kernel
theorem dX8_refuse_6 : decode cX8_refuse 6 = .ok (.iaload, 1) := by decide +kernel
theorem dX8_refuse_7 : decode cX8_refuse 7 = .ok (.iconst 1, 1) := by decide +kernel
theorem dX8_refuse_8 : decode cX8_refuse 8 = .ok (.iadd, 1) := by decide +kernel
theorem dX8_refuse_9 : decode cX8_refuse 9 = .ok (.iastore, 1) := by decide +kernel
theorem dX8_refuse_10 : decode cX8_refuse 10 = .ok (.ldc_w 343, 3) := by decide +kernel
theorem dX8_refuse_13 : decode cX8_refuse 13 = .ok (.iload_n 1, 1) := by decide +kernel
theorem dX8_refuse_14 : decode cX8_refuse 14 = .ok (.isub, 1) := by decide +kernel
theorem dX8_refuse_15 : decode cX8_refuse 15 = .ok (.ireturn, 1) := by decide +kernel
theorem dX8_refusalOfMeeting_0 : decode cX8_refusalOfMeeting 0 = .ok (.aload_n 0, 1) := by decide +kernel
theorem dX8_refusalOfMeeting_1 : decode cX8_refusalOfMeeting 1 = .ok (.getfield 23, 3) := by decide +kernel
theorem dX8_refusalOfMeeting_4 : decode cX8_refusalOfMeeting 4 = .ok (.getfield 63, 3) := by decide +kernel
theorem dX8_refusalOfMeeting_7 : decode cX8_refusalOfMeeting 7 = .ok (.astore_n 3, 1) := by decide +kernel
theorem dX8_refusalOfMeeting_8 : decode cX8_refusalOfMeeting 8 = .ok (.aload_n 3, 1) := by decide +kernel
theorem dX8_refusalOfMeeting_9 : decode cX8_refusalOfMeeting 9 = .ok (.iload_n 1, 1) := by decide +kernel
theorem dX8_refusalOfMeeting_10 : decode cX8_refusalOfMeeting 10 = .ok (.invokevirtual 103, 3) := by decide +kernel
theorem dX8_refusalOfMeeting_13 : decode cX8_refusalOfMeeting 13 = .ok (.ifCond .eq 11, 3) := by decide +kernel
theorem dX8_refusalOfMeeting_16 : decode cX8_refusalOfMeeting 16 = .ok (.aload_n 3, 1) := by decide +kernel
theorem dX8_refusalOfMeeting_17 : decode cX8_refusalOfMeeting 17 = .ok (.iload_n 2, 1) := by decide +kernel
theorem dX8_refusalOfMeeting_18 : decode cX8_refusalOfMeeting 18 = .ok (.invokevirtual 76, 3) := by decide +kernel
theorem dX8_refusalOfMeeting_21 : decode cX8_refusalOfMeeting 21 = .ok (.ifCond .ne 5, 3) := by decide +kernel
theorem dX8_refusalOfMeeting_24 : decode cX8_refusalOfMeeting 24 = .ok (.iconst 1, 1) := by decide +kernel
theorem dX8_refusalOfMeeting_25 : decode cX8_refusalOfMeeting 25 = .ok (.ireturn, 1) := by decide +kernel
theorem dX8_refusalOfMeeting_26 : decode cX8_refusalOfMeeting 26 = .ok (.aload_n 3, 1) := by decide +kernel
theorem dX8_refusalOfMeeting_27 : decode cX8_refusalOfMeeting 27 = .ok (.iload_n 1, 1) := by decide +kernel
theorem dX8_refusalOfMeeting_28 : decode cX8_refusalOfMeeting 28 = .ok (.iload_n 2, 1) := by decide +kernel
theorem dX8_refusalOfMeeting_29 : decode cX8_refusalOfMeeting 29 = .ok (.invokevirtual 344, 3) := by decide +kernel
theorem dX8_refusalOfMeeting_32 : decode cX8_refusalOfMeeting 32 = .ok (.ifCond .eq 7, 3) := by decide +kernel
theorem dX8_refusalOfMeeting_35 : decode cX8_refusalOfMeeting 35 = .ok (.iconst 0, 1) := by decide +kernel
theorem dX8_refusalOfMeeting_36 : decode cX8_refusalOfMeeting 36 = .ok (.goto 4, 3) := by decide +kernel
theorem dX8_refusalOfMeeting_39 : decode cX8_refusalOfMeeting 39 = .ok (.iconst 3, 1) := by decide +kernel
theorem dX8_refusalOfMeeting_40 : decode cX8_refusalOfMeeting 40 = .ok (.ireturn, 1) := by decide +kernel
theorem dX8_refusalOfCrossing_0 : decode cX8_refusalOfCrossing 0 = .ok (.aload_n 0, 1) := by decide +kernel
theorem dX8_refusalOfCrossing_1 : decode cX8_refusalOfCrossing 1 = .ok (.iload_n 1, 1) := by decide +kernel
theorem dX8_refusalOfCrossing_2 : decode cX8_refusalOfCrossing 2 = .ok (.iload_n 2, 1) := by decide +kernel
theorem dX8_refusalOfCrossing_3 : decode cX8_refusalOfCrossing 3 = .ok (.invokevirtual 237, 3) := by decide +kernel
theorem dX8_refusalOfCrossing_6 : decode cX8_refusalOfCrossing 6 = .ok (.istore_n 3, 1) := by decide +kernel
theorem dX8_refusalOfCrossing_7 : decode cX8_refusalOfCrossing 7 = .ok (.iload_n 3, 1) := by decide +kernel
theorem dX8_refusalOfCrossing_8 : decode cX8_refusalOfCrossing 8 = .ok (.ifCond .ne 21, 3) := by decide +kernel
theorem dX8_refusalOfCrossing_11 : decode cX8_refusalOfCrossing 11 = .ok (.aload_n 0, 1) := by decide +kernel
theorem dX8_refusalOfCrossing_12 : decode cX8_refusalOfCrossing 12 = .ok (.getfield 23, 3) := by decide +kernel
theorem dX8_refusalOfCrossing_15 : decode cX8_refusalOfCrossing 15 = .ok (.getfield 63, 3) := by decide +kernel
theorem dX8_refusalOfCrossing_18 : decode cX8_refusalOfCrossing 18 = .ok (.getfield 184, 3) := by decide +kernel
theorem dX8_refusalOfCrossing_21 : decode cX8_refusalOfCrossing 21 = .ok (.sipush 9999, 3) := by decide +kernel
theorem dX8_refusalOfCrossing_24 : decode cX8_refusalOfCrossing 24 = .ok (.if_icmp .lt 5, 3) := by decide +kernel
theorem dX8_refusalOfCrossing_27 : decode cX8_refusalOfCrossing 27 = .ok (.iconst 3, 1) := by decide +kernel
theorem dX8_refusalOfCrossing_28 : decode cX8_refusalOfCrossing 28 = .ok (.ireturn, 1) := by decide +kernel
theorem dX8_refusalOfCrossing_29 : decode cX8_refusalOfCrossing 29 = .ok (.iload_n 3, 1) := by decide +kernel
theorem dX8_refusalOfCrossing_30 : decode cX8_refusalOfCrossing 30 = .ok (.ireturn, 1) := by decide +kernel
theorem dX8_exchange_0 : decode cX8_exchange 0 = .ok (.aload_n 0, 1) := by decide +kernel
theorem dX8_exchange_1 : decode cX8_exchange 1 = .ok (.iload_n 1, 1) := by decide +kernel
theorem dX8_exchange_2 : decode cX8_exchange 2 = .ok (.iaload, 1) := by decide +kernel
theorem dX8_exchange_3 : decode cX8_exchange 3 = .ok (.istore_n 3, 1) := by decide +kernel
theorem dX8_exchange_4 : decode cX8_exchange 4 = .ok (.aload_n 0, 1) := by decide +kernel
theorem dX8_exchange_5 : decode cX8_exchange 5 = .ok (.iload_n 1, 1) := by decide +kernel
theorem dX8_exchange_6 : decode cX8_exchange 6 = .ok (.iload_n 2, 1) := by decide +kernel
theorem dX8_exchange_7 : decode cX8_exchange 7 = .ok (.iastore, 1) := by decide +kernel
theorem dX8_exchange_8 : decode cX8_exchange 8 = .ok (.iload_n 3, 1) := by decide +kernel
theorem dX8_exchange_9 : decode cX8_exchange 9 = .ok (.ireturn, 1) := by decide +kernel
theorem dX8_isBank_0 : decode cX8_isBank 0 = .ok (.iload_n 0, 1) := by decide +kernel
theorem dX8_isBank_1 : decode cX8_isBank 1 = .ok (.ifCond .lt 12, 3) := by decide +kernel
theorem dX8_isBank_4 : decode cX8_isBank 4 = .ok (.iload_n 0, 1) := by decide +kernel
theorem dX8_isBank_5 : decode cX8_isBank 5 = .ok (.iconst 2, 1) := by decide +kernel
theorem dX8_isBank_6 : decode cX8_isBank 6 = .ok (.if_icmp .ge 7, 3) := by decide +kernel
theorem dX8_isBank_9 : decode cX8_isBank 9 = .ok (.iconst 1, 1) := by decide +kernel
theorem dX8_isBank_10 : decode cX8_isBank 10 = .ok (.goto 4, 3) := by decide +kernel
theorem dX8_isBank_13 : decode cX8_isBank 13 = .ok (.iconst 0, 1) := by decide +kernel
theorem dX8_isBank_14 : decode cX8_isBank 14 = .ok (.ireturn, 1) := by decide +kernel
theorem dX8_isKind_0 : decode cX8_isKind 0 = .ok (.iload_n 0, 1) := by decide +kernel
theorem dX8_isKind_1 : decode cX8_isKind 1 = .ok (.ifCond .lt 13, 3) := by decide +kernel
theorem dX8_isKind_4 : decode cX8_isKind 4 = .ok (.iload_n 0, 1) := by decide +kernel
theorem dX8_isKind_5 : decode cX8_isKind 5 = .ok (.bipush 7, 2) := by decide +kernel
theorem dX8_isKind_7 : decode cX8_isKind 7 = .ok (.if_icmp .ge 7, 3) := by decide +kernel
theorem dX8_isKind_10 : decode cX8_isKind 10 = .ok (.iconst 1, 1) := by decide +kernel
theorem dX8_isKind_11 : decode cX8_isKind 11 = .ok (.goto 4, 3) := by decide +kernel
theorem dX8_isKind_14 : decode cX8_isKind 14 = .ok (.iconst 0, 1) := by decide +kernel
theorem dX8_isKind_15 : decode cX8_isKind 15 = .ok (.ireturn, 1) := by decide +kernel
theorem dX8_isUse_0 : decode cX8_isUse 0 = .ok (.iload_n 0, 1) := by decide +kernel
theorem dX8_isUse_1 : decode cX8_isUse 1 = .ok (.ifCond .lt 12, 3) := by decide +kernel
theorem dX8_isUse_4 : decode cX8_isUse 4 = .ok (.iload_n 0, 1) := by decide +kernel
theorem dX8_isUse_5 : decode cX8_isUse 5 = .ok (.iconst 2, 1) := by decide +kernel
theorem dX8_isUse_6 : decode cX8_isUse 6 = .ok (.if_icmp .ge 7, 3) := by decide +kernel
theorem dX8_isUse_9 : decode cX8_isUse 9 = .ok (.iconst 1, 1) := by decide +kernel
theorem dX8_isUse_10 : decode cX8_isUse 10 = .ok (.goto 4, 3) := by decide +kernel
theorem dX8_isUse_13 : decode cX8_isUse 13 = .ok (.iconst 0, 1) := by decide +kernel
theorem dX8_isUse_14 : decode cX8_isUse 14 = .ok (.ireturn, 1) := by decide +kernel
theorem dX8_isUnder_0 : decode cX8_isUnder 0 = .ok (.iload_n 0, 1) := by decide +kernel
theorem dX8_isUnder_1 : decode cX8_isUnder 1 = .ok (.istore_n 2, 1) := by decide +kernel
theorem dX8_isUnder_2 : decode cX8_isUnder 2 = .ok (.iconst 0, 1) := by decide +kernel
theorem dX8_isUnder_3 : decode cX8_isUnder 3 = .ok (.istore_n 3, 1) := by decide +kernel
theorem dX8_isUnder_4 : decode cX8_isUnder 4 = .ok (.iload_n 3, 1) := by decide +kernel
theorem dX8_isUnder_5 : decode cX8_isUnder 5 = .ok (.bipush 7, 2) := by decide +kernel
theorem dX8_isUnder_7 : decode cX8_isUnder 7 = .ok (.if_icmp .ge 26, 3) := by decide +kernel
theorem dX8_isUnder_10 : decode cX8_isUnder 10 = .ok (.iload_n 2, 1) := by decide +kernel
theorem dX8_isUnder_11 : decode cX8_isUnder 11 = .ok (.ifCond .lt 22, 3) := by decide +kernel
theorem dX8_isUnder_14 : decode cX8_isUnder 14 = .ok (.iload_n 2, 1) := by decide +kernel
theorem dX8_isUnder_15 : decode cX8_isUnder 15 = .ok (.iload_n 1, 1) := by decide +kernel
theorem dX8_isUnder_16 : decode cX8_isUnder 16 = .ok (.if_icmp .ne 5, 3) := by decide +kernel
theorem dX8_isUnder_19 : decode cX8_isUnder 19 = .ok (.iconst 1, 1) := by decide +kernel
theorem dX8_isUnder_20 : decode cX8_isUnder 20 = .ok (.ireturn, 1) := by decide +kernel
theorem dX8_isUnder_21 : decode cX8_isUnder 21 = .ok (.getstatic 347, 3) := by decide +kernel
theorem dX8_isUnder_24 : decode cX8_isUnder 24 = .ok (.iload_n 2, 1) := by decide +kernel
theorem dX8_isUnder_25 : decode cX8_isUnder 25 = .ok (.iaload, 1) := by decide +kernel
theorem dX8_isUnder_26 : decode cX8_isUnder 26 = .ok (.istore_n 2, 1) := by decide +kernel
theorem dX8_isUnder_27 : decode cX8_isUnder 27 = .ok (.iinc 3 1, 3) := by decide +kernel
theorem dX8_isUnder_30 : decode cX8_isUnder 30 = .ok (.goto (-26), 3) := by decide +kernel
theorem dX8_isUnder_33 : decode cX8_isUnder 33 = .ok (.iconst 0, 1) := by decide +kernel
theorem dX8_isUnder_34 : decode cX8_isUnder 34 = .ok (.ireturn, 1) := by decide +kernel
theorem dX8_held_0 : decode cX8_held 0 = .ok (.iconst 0, 1) := by decide +kernel
theorem dX8_held_1 : decode cX8_held 1 = .ok (.iload_n 0, 1) := by decide +kernel
theorem dX8_held_2 : decode cX8_held 2 = .ok (.iload_n 1, 1) := by decide +kernel
theorem dX8_held_3 : decode cX8_held 3 = .ok (.invokestatic 228, 3) := by decide +kernel
theorem dX8_held_6 : decode cX8_held 6 = .ok (.invokestatic 350, 3) := by decide +kernel
theorem dX8_held_9 : decode cX8_held 9 = .ok (.ireturn, 1) := by decide +kernel
theorem dJ6_bitCount_0f7a4_0 : decode cJ6_bitCount_0f7a4 0 = .ok (.iload_n 0, 1) := by decide +kernel
theorem dJ6_bitCount_0f7a4_1 : decode cJ6_bitCount_0f7a4 1 = .ok (.iload_n 0, 1) := by decide +kernel
theorem dJ6_bitCount_0f7a4_2 : decode cJ6_bitCount_0f7a4 2 = .ok (.iconst 1, 1) := by decide +kernel
theorem dJ6_bitCount_0f7a4_3 : decode cJ6_bitCount_0f7a4 3 = .ok (.iushr, 1) := by decide +kernel
theorem dJ6_bitCount_0f7a4_4 : decode cJ6_bitCount_0f7a4 4 = .ok (.ldc_w 265, 3) := by decide +kernel
theorem dJ6_bitCount_0f7a4_7 : decode cJ6_bitCount_0f7a4 7 = .ok (.iand, 1) := by decide +kernel
theorem dJ6_bitCount_0f7a4_8 : decode cJ6_bitCount_0f7a4 8 = .ok (.isub, 1) := by decide +kernel
theorem dJ6_bitCount_0f7a4_9 : decode cJ6_bitCount_0f7a4 9 = .ok (.istore_n 0, 1) := by decide +kernel
theorem dJ6_bitCount_0f7a4_10 : decode cJ6_bitCount_0f7a4 10 = .ok (.iload_n 0, 1) := by decide +kernel
theorem dJ6_bitCount_0f7a4_11 : decode cJ6_bitCount_0f7a4 11 = .ok (.ldc_w 266, 3) := by decide +kernel
theorem dJ6_bitCount_0f7a4_14 : decode cJ6_bitCount_0f7a4 14 = .ok (.iand, 1) := by decide +kernel
theorem dJ6_bitCount_0f7a4_15 : decode cJ6_bitCount_0f7a4 15 = .ok (.iload_n 0, 1) := by decide +kernel
theorem dJ6_bitCount_0f7a4_16 : decode cJ6_bitCount_0f7a4 16 = .ok (.iconst 2, 1) := by decide +kernel
theorem dJ6_bitCount_0f7a4_17 : decode cJ6_bitCount_0f7a4 17 = .ok (.iushr, 1) := by decide +kernel
theorem dJ6_bitCount_0f7a4_18 : decode cJ6_bitCount_0f7a4 18 = .ok (.ldc_w 266, 3) := by decide +kernel
theorem dJ6_bitCount_0f7a4_21 : decode cJ6_bitCount_0f7a4 21 = .ok (.iand, 1) := by decide +kernel
theorem dJ6_bitCount_0f7a4_22 : decode cJ6_bitCount_0f7a4 22 = .ok (.iadd, 1) := by decide +kernel
theorem dJ6_bitCount_0f7a4_23 : decode cJ6_bitCount_0f7a4 23 = .ok (.istore_n 0, 1) := by decide +kernel
theorem dJ6_bitCount_0f7a4_24 : decode cJ6_bitCount_0f7a4 24 = .ok (.iload_n 0, 1) := by decide +kernel
theorem dJ6_bitCount_0f7a4_25 : decode cJ6_bitCount_0f7a4 25 = .ok (.iload_n 0, 1) := by decide +kernel
theorem dJ6_bitCount_0f7a4_26 : decode cJ6_bitCount_0f7a4 26 = .ok (.iconst 4, 1) := by decide +kernel
theorem dJ6_bitCount_0f7a4_27 : decode cJ6_bitCount_0f7a4 27 = .ok (.iushr, 1) := by decide +kernel
theorem dJ6_bitCount_0f7a4_28 : decode cJ6_bitCount_0f7a4 28 = .ok (.iadd, 1) := by decide +kernel
theorem dJ6_bitCount_0f7a4_29 : decode cJ6_bitCount_0f7a4 29 = .ok (.ldc_w 267, 3) := by decide +kernel
theorem dJ6_bitCount_0f7a4_32 : decode cJ6_bitCount_0f7a4 32 = .ok (.iand, 1) := by decide +kernel
theorem dJ6_bitCount_0f7a4_33 : decode cJ6_bitCount_0f7a4 33 = .ok (.istore_n 0, 1) := by decide +kernel
theorem dJ6_bitCount_0f7a4_34 : decode cJ6_bitCount_0f7a4 34 = .ok (.iload_n 0, 1) := by decide +kernel
theorem dJ6_bitCount_0f7a4_35 : decode cJ6_bitCount_0f7a4 35 = .ok (.iload_n 0, 1) := by decide +kernel
theorem dJ6_bitCount_0f7a4_36 : decode cJ6_bitCount_0f7a4 36 = .ok (.bipush 8, 2) := by decide +kernel
theorem dJ6_bitCount_0f7a4_38 : decode cJ6_bitCount_0f7a4 38 = .ok (.iushr, 1) := by decide +kernel
theorem dJ6_bitCount_0f7a4_39 : decode cJ6_bitCount_0f7a4 39 = .ok (.iadd, 1) := by decide +kernel
theorem dJ6_bitCount_0f7a4_40 : decode cJ6_bitCount_0f7a4 40 = .ok (.istore_n 0, 1) := by decide +kernel
theorem dJ6_bitCount_0f7a4_41 : decode cJ6_bitCount_0f7a4 41 = .ok (.iload_n 0, 1) := by decide +kernel
theorem dJ6_bitCount_0f7a4_42 : decode cJ6_bitCount_0f7a4 42 = .ok (.iload_n 0, 1) := by decide +kernel
theorem dJ6_bitCount_0f7a4_43 : decode cJ6_bitCount_0f7a4 43 = .ok (.bipush 16, 2) := by decide +kernel
theorem dJ6_bitCount_0f7a4_45 : decode cJ6_bitCount_0f7a4 45 = .ok (.iushr, 1) := by decide +kernel
theorem dJ6_bitCount_0f7a4_46 : decode cJ6_bitCount_0f7a4 46 = .ok (.iadd, 1) := by decide +kernel
theorem dJ6_bitCount_0f7a4_47 : decode cJ6_bitCount_0f7a4 47 = .ok (.istore_n 0, 1) := by decide +kernel
theorem dJ6_bitCount_0f7a4_48 : decode cJ6_bitCount_0f7a4 48 = .ok (.iload_n 0, 1) := by decide +kernel
theorem dJ6_bitCount_0f7a4_49 : decode cJ6_bitCount_0f7a4 49 = .ok (.bipush 63, 2) := by decide +kernel
theorem dJ6_bitCount_0f7a4_51 : decode cJ6_bitCount_0f7a4 51 = .ok (.iand, 1) := by decide +kernel
theorem dJ6_bitCount_0f7a4_52 : decode cJ6_bitCount_0f7a4 52 = .ok (.ireturn, 1) := by decide +kernel
theorem dJ9_max_7cf53_0 : decode cJ9_max_7cf53 0 = .ok (.iload_n 0, 1) := by decide +kernel
theorem dJ9_max_7cf53_1 : decode cJ9_max_7cf53 1 = .ok (.iload_n 1, 1) := by decide +kernel
theorem dJ9_max_7cf53_2 : decode cJ9_max_7cf53 2 = .ok (.if_icmp .lt 7, 3) := by decide +kernel
theorem dJ9_max_7cf53_5 : decode cJ9_max_7cf53 5 = .ok (.iload_n 0, 1) := by decide +kernel
theorem dJ9_max_7cf53_6 : decode cJ9_max_7cf53 6 = .ok (.goto 4, 3) := by decide +kernel
theorem dJ9_max_7cf53_9 : decode cJ9_max_7cf53 9 = .ok (.iload_n 1, 1) := by decide +kernel
theorem dJ9_max_7cf53_10 : decode cJ9_max_7cf53 10 = .ok (.ireturn, 1) := by decide +kernel
theorem dJ9_min_7cf53_0 : decode cJ9_min_7cf53 0 = .ok (.iload_n 0, 1) := by decide +kernel
theorem dJ9_min_7cf53_1 : decode cJ9_min_7cf53 1 = .ok (.iload_n 1, 1) := by decide +kernel
theorem dJ9_min_7cf53_2 : decode cJ9_min_7cf53 2 = .ok (.if_icmp .gt 7, 3) := by decide +kernel
theorem dJ9_min_7cf53_5 : decode cJ9_min_7cf53 5 = .ok (.iload_n 0, 1) := by decide +kernel
theorem dJ9_min_7cf53_6 : decode cJ9_min_7cf53 6 = .ok (.goto 4, 3) := by decide +kernel
theorem dJ9_min_7cf53_9 : decode cJ9_min_7cf53 9 = .ok (.iload_n 1, 1) := by decide +kernel
theorem dJ9_min_7cf53_10 : decode cJ9_min_7cf53 10 = .ok (.ireturn, 1) := by decide +kernel
theorem dJ7_fill_53178_0 : decode cJ7_fill_53178 0 = .ok (.iconst 0, 1) := by decide +kernel
theorem dJ7_fill_53178_1 : decode cJ7_fill_53178 1 = .ok (.istore_n 2, 1) := by decide +kernel
theorem dJ7_fill_53178_2 : decode cJ7_fill_53178 2 = .ok (.aload_n 0, 1) := by decide +kernel
theorem dJ7_fill_53178_3 : decode cJ7_fill_53178 3 = .ok (.arraylength, 1) := by decide +kernel
theorem dJ7_fill_53178_4 : decode cJ7_fill_53178 4 = .ok (.istore_n 3, 1) := by decide +kernel
theorem dJ7_fill_53178_5 : decode cJ7_fill_53178 5 = .ok (.iload_n 2, 1) := by decide +kernel
theorem dJ7_fill_53178_6 : decode cJ7_fill_53178 6 = .ok (.iload_n 3, 1) := by decide +kernel
theorem dJ7_fill_53178_7 : decode cJ7_fill_53178 7 = .ok (.if_icmp .ge 13, 3) := by decide +kernel
theorem dJ7_fill_53178_10 : decode cJ7_fill_53178 10 = .ok (.aload_n 0, 1) := by decide +kernel
theorem dJ7_fill_53178_11 : decode cJ7_fill_53178 11 = .ok (.iload_n 2, 1) := by decide +kernel
theorem dJ7_fill_53178_12 : decode cJ7_fill_53178 12 = .ok (.iload_n 1, 1) := by decide +kernel
theorem dJ7_fill_53178_13 : decode cJ7_fill_53178 13 = .ok (.iastore, 1) := by decide +kernel
theorem dJ7_fill_53178_14 : decode cJ7_fill_53178 14 = .ok (.iinc 2 1, 3) := by decide +kernel
theorem dJ7_fill_53178_17 : decode cJ7_fill_53178 17 = .ok (.goto (-12), 3) := by decide +kernel
theorem dJ7_fill_53178_20 : decode cJ7_fill_53178 20 = .ok (.return_, 1) := by decide +kernel
theorem dJ7_copyOf_59c91_0 : decode cJ7_copyOf_59c91 0 = .ok (.iload_n 1, 1) := by decide +kernel
theorem dJ7_copyOf_59c91_1 : decode cJ7_copyOf_59c91 1 = .ok (.aload_n 0, 1) := by decide +kernel
theorem dJ7_copyOf_59c91_2 : decode cJ7_copyOf_59c91 2 = .ok (.arraylength, 1) := by decide +kernel
theorem dJ7_copyOf_59c91_3 : decode cJ7_copyOf_59c91 3 = .ok (.if_icmp .ne 11, 3) := by decide +kernel
theorem dJ7_copyOf_59c91_6 : decode cJ7_copyOf_59c91 6 = .ok (.aload_n 0, 1) := by decide +kernel
theorem dJ7_copyOf_59c91_7 : decode cJ7_copyOf_59c91 7 = .ok (.invokevirtual 316, 3) := by decide +kernel
theorem dJ7_copyOf_59c91_10 : decode cJ7_copyOf_59c91 10 = .ok (.checkcast 317, 3) := by decide +kernel
theorem dJ7_copyOf_59c91_13 : decode cJ7_copyOf_59c91 13 = .ok (.areturn, 1) := by decide +kernel
theorem dJ7_copyOf_59c91_14 : decode cJ7_copyOf_59c91 14 = .ok (.iload_n 1, 1) := by decide +kernel
theorem dJ7_copyOf_59c91_15 : decode cJ7_copyOf_59c91 15 = .ok (.newarray .int, 2) := by decide +kernel
theorem dJ7_copyOf_59c91_17 : decode cJ7_copyOf_59c91 17 = .ok (.astore_n 2, 1) := by decide +kernel
theorem dJ7_copyOf_59c91_18 : decode cJ7_copyOf_59c91 18 = .ok (.aload_n 0, 1) := by decide +kernel
theorem dJ7_copyOf_59c91_19 : decode cJ7_copyOf_59c91 19 = .ok (.iconst 0, 1) := by decide +kernel
theorem dJ7_copyOf_59c91_20 : decode cJ7_copyOf_59c91 20 = .ok (.aload_n 2, 1) := by decide +kernel
theorem dJ7_copyOf_59c91_21 : decode cJ7_copyOf_59c91 21 = .ok (.iconst 0, 1) := by decide +kernel
theorem dJ7_copyOf_59c91_22 : decode cJ7_copyOf_59c91 22 = .ok (.aload_n 0, 1) := by decide +kernel
theorem dJ7_copyOf_59c91_23 : decode cJ7_copyOf_59c91 23 = .ok (.arraylength, 1) := by decide +kernel
theorem dJ7_copyOf_59c91_24 : decode cJ7_copyOf_59c91 24 = .ok (.iload_n 1, 1) := by decide +kernel
theorem dJ7_copyOf_59c91_25 : decode cJ7_copyOf_59c91 25 = .ok (.invokestatic 304, 3) := by decide +kernel
theorem dJ7_copyOf_59c91_28 : decode cJ7_copyOf_59c91 28 = .ok (.invokestatic 150, 3) := by decide +kernel
theorem dJ7_copyOf_59c91_31 : decode cJ7_copyOf_59c91 31 = .ok (.aload_n 2, 1) := by decide +kernel
theorem dJ7_copyOf_59c91_32 : decode cJ7_copyOf_59c91 32 = .ok (.areturn, 1) := by decide +kernel
end
section
theorem dX9_init_0 : decode cX9_init 0 = .ok (.aload_n 0, 1) := by decide +kernel
theorem dX9_init_1 : decode cX9_init 1 = .ok (.invokespecial 1, 3) := by decide +kernel
theorem dX9_init_4 : decode cX9_init 4 = .ok (.aload_n 0, 1) := by decide +kernel
theorem dX9_init_5 : decode cX9_init 5 = .ok (.sipush 458, 3) := by decide +kernel
theorem dX9_init_8 : decode cX9_init 8 = .ok (.newarray .int, 2) := by decide +kernel
theorem dX9_init_10 : decode cX9_init 10 = .ok (.putfield 7, 3) := by decide +kernel
theorem dX9_init_13 : decode cX9_init 13 = .ok (.aload_n 0, 1) := by decide +kernel
theorem dX9_init_14 : decode cX9_init 14 = .ok (.sipush 458, 3) := by decide +kernel
theorem dX9_init_17 : decode cX9_init 17 = .ok (.newarray .int, 2) := by decide +kernel
theorem dX9_init_19 : decode cX9_init 19 = .ok (.putfield 13, 3) := by decide +kernel
theorem dX9_init_22 : decode cX9_init 22 = .ok (.aload_n 0, 1) := by decide +kernel
theorem dX9_init_23 : decode cX9_init 23 = .ok (.sipush 458, 3) := by decide +kernel
theorem dX9_init_26 : decode cX9_init 26 = .ok (.newarray .int, 2) := by decide +kernel
theorem dX9_init_28 : decode cX9_init 28 = .ok (.putfield 16, 3) := by decide +kernel
theorem dX9_init_31 : decode cX9_init 31 = .ok (.aload_n 0, 1) := by decide +kernel
theorem dX9_init_32 : decode cX9_init 32 = .ok (.sipush 992, 3) := by decide +kernel
theorem dX9_init_35 : decode cX9_init 35 = .ok (.newarray .int, 2) := by decide +kernel
theorem dX9_init_37 : decode cX9_init 37 = .ok (.putfield 19, 3) := by decide +kernel
theorem dX9_init_40 : decode cX9_init 40 = .ok (.aload_n 0, 1) := by decide +kernel
theorem dX9_init_41 : decode cX9_init 41 = .ok (.bipush 7, 2) := by decide +kernel
theorem dX9_init_43 : decode cX9_init 43 = .ok (.newarray .int, 2) := by decide +kernel
theorem dX9_init_45 : decode cX9_init 45 = .ok (.putfield 22, 3) := by decide +kernel
theorem dX9_init_48 : decode cX9_init 48 = .ok (.aload_n 0, 1) := by decide +kernel
theorem dX9_init_49 : decode cX9_init 49 = .ok (.bipush 124, 2) := by decide +kernel
theorem dX9_init_51 : decode cX9_init 51 = .ok (.newarray .int, 2) := by decide +kernel
theorem dX9_init_53 : decode cX9_init 53 = .ok (.putfield 25, 3) := by decide +kernel
theorem dX9_init_56 : decode cX9_init 56 = .ok (.aload_n 0, 1) := by decide +kernel
theorem dX9_init_57 : decode cX9_init 57 = .ok (.sipush 128, 3) := by decide +kernel
theorem dX9_init_60 : decode cX9_init 60 = .ok (.newarray .int, 2) := by decide +kernel
theorem dX9_init_62 : decode cX9_init 62 = .ok (.putfield 28, 3) := by decide +kernel
theorem dX9_init_65 : decode cX9_init 65 = .ok (.aload_n 0, 1) := by decide +kernel
theorem dX9_init_66 : decode cX9_init 66 = .ok (.bipush 64, 2) := by decide +kernel
theorem dX9_init_68 : decode cX9_init 68 = .ok (.newarray .int, 2) := by decide +kernel
theorem dX9_init_70 : decode cX9_init 70 = .ok (.putfield 31, 3) := by decide +kernel
theorem dX9_init_73 : decode cX9_init 73 = .ok (.aload_n 0, 1) := by decide +kernel
theorem dX9_init_74 : decode cX9_init 74 = .ok (.bipush 8, 2) := by decide +kernel
theorem dX9_init_76 : decode cX9_init 76 = .ok (.newarray .int, 2) := by decide +kernel
theorem dX9_init_78 : decode cX9_init 78 = .ok (.putfield 34, 3) := by decide +kernel
theorem dX9_init_81 : decode cX9_init 81 = .ok (.aload_n 0, 1) := by decide +kernel
theorem dX9_init_82 : decode cX9_init 82 = .ok (.bipush 6, 2) := by decide +kernel
theorem dX9_init_84 : decode cX9_init 84 = .ok (.newarray .int, 2) := by decide +kernel
theorem dX9_init_86 : decode cX9_init 86 = .ok (.putfield 37, 3) := by decide +kernel
theorem dX9_init_89 : decode cX9_init 89 = .ok (.aload_n 0, 1) := by decide +kernel
theorem dX9_init_90 : decode cX9_init 90 = .ok (.bipush 6, 2) := by decide +kernel
theorem dX9_init_92 : decode cX9_init 92 = .ok (.newarray .int, 2) := by decide +kernel
theorem dX9_init_94 : decode cX9_init 94 = .ok (.putfield 40, 3) := by decide +kernel
theorem dX9_init_97 : decode cX9_init 97 = .ok (.aload_n 0, 1) := by decide +kernel
theorem dX9_init_98 : decode cX9_init 98 = .ok (.bipush 30, 2) := by decide +kernel
theorem dX9_init_100 : decode cX9_init 100 = .ok (.newarray .int, 2) := by decide +kernel
theorem dX9_init_102 : decode cX9_init 102 = .ok (.putfield 43, 3) := by decide +kernel
theorem dX9_init_105 : decode cX9_init 105 = .ok (.aload_n 0, 1) := by decide +kernel
theorem dX9_init_106 : decode cX9_init 106 = .ok (.iconst 4, 1) := by decide +kernel
theorem dX9_init_107 : decode cX9_init 107 = .ok (.newarray .int, 2) := by decide +kernel
theorem dX9_init_109 : decode cX9_init 109 = .ok (.putfield 46, 3) := by decide +kernel
theorem dX9_init_112 : decode cX9_init 112 = .ok (.aload_n 0, 1) := by decide +kernel
theorem dX9_init_113 : decode cX9_init 113 = .ok (.iconst 4, 1) := by decide +kernel
theorem dX9_init_114 : decode cX9_init 114 = .ok (.newarray .int, 2) := by decide +kernel
theorem dX9_init_116 : decode cX9_init 116 = .ok (.putfield 49, 3) := by decide +kernel
theorem dX9_init_119 : decode cX9_init 119 = .ok (.aload_n 0, 1) := by decide +kernel
theorem dX9_init_120 : decode cX9_init 120 = .ok (.bipush 96, 2) := by decide +kernel
theorem dX9_init_122 : decode cX9_init 122 = .ok (.newarray .int, 2) := by decide +kernel
theorem dX9_init_124 : decode cX9_init 124 = .ok (.putfield 52, 3) := by decide +kernel
theorem dX9_init_127 : decode cX9_init 127 = .ok (.aload_n 0, 1) := by decide +kernel
theorem dX9_init_128 : decode cX9_init 128 = .ok (.bipush 24, 2) := by decide +kernel
theorem dX9_init_130 : decode cX9_init 130 = .ok (.newarray .int, 2) := by decide +kernel
theorem dX9_init_132 : decode cX9_init 132 = .ok (.putfield 55, 3) := by decide +kernel
theorem dX9_init_135 : decode cX9_init 135 = .ok (.aload_n 0, 1) := by decide +kernel
theorem dX9_init_136 : decode cX9_init 136 = .ok (.getfield 7, 3) := by decide +kernel
theorem dX9_init_139 : decode cX9_init 139 = .ok (.bipush 7, 2) := by decide +kernel
theorem dX9_init_141 : decode cX9_init 141 = .ok (.iconst 1, 1) := by decide +kernel
theorem dX9_init_142 : decode cX9_init 142 = .ok (.iastore, 1) := by decide +kernel
theorem dX9_init_143 : decode cX9_init 143 = .ok (.return_, 1) := by decide +kernel
theorem dX9_error_0 : decode cX9_error 0 = .ok (.aload_n 0, 1) := by decide +kernel
theorem dX9_error_1 : decode cX9_error 1 = .ok (.getfield 22, 3) := by decide +kernel
theorem dX9_error_4 : decode cX9_error 4 = .ok (.iload_n 1, 1) := by decide +kernel
theorem dX9_error_5 : decode cX9_error 5 = .ok (.dup2, 1) := by decide +kernel
theorem dX9_error_6 : decode cX9_error 6 = .ok (.iaload, 1) := by decide +kernel
theorem dX9_error_7 : decode cX9_error 7 = .ok (.iconst 1, 1) := by decide +kernel
theorem dX9_error_8 : decode cX9_error 8 = .ok (.iadd, 1) := by decide +kernel
theorem dX9_error_9 : decode cX9_error 9 = .ok (.iastore, 1) := by decide +kernel
theorem dX9_error_10 : decode cX9_error 10 = .ok (.ldc 58, 2) := by decide +kernel
theorem dX9_error_12 : decode cX9_error 12 = .ok (.iload_n 1, 1) := by decide +kernel
theorem dX9_error_13 : decode cX9_error 13 = .ok (.isub, 1) := by decide +kernel
theorem dX9_error_14 : decode cX9_error 14 = .ok (.ireturn, 1) := by decide +kernel
theorem dX9_in_0 : decode cX9_in 0 = .ok (.iload_n 0, 1) := by decide +kernel
theorem dX9_in_1 : decode cX9_in 1 = .ok (.iload_n 1, 1) := by decide +kernel
theorem dX9_in_2 : decode cX9_in 2 = .ok (.if_icmp .lt 12, 3) := by decide +kernel
theorem dX9_in_5 : decode cX9_in 5 = .ok (.iload_n 0, 1) := by decide +kernel
theorem dX9_in_6 : decode cX9_in 6 = .ok (.iload_n 2, 1) := by decide +kernel
theorem dX9_in_7 : decode cX9_in 7 = .ok (.if_icmp .gt 7, 3) := by decide +kernel
theorem dX9_in_10 : decode cX9_in 10 = .ok (.iconst 1, 1) := by decide +kernel
theorem dX9_in_11 : decode cX9_in 11 = .ok (.goto 4, 3) := by decide +kernel
theorem dX9_in_14 : decode cX9_in 14 = .ok (.iconst 0, 1) := by decide +kernel
theorem dX9_in_15 : decode cX9_in 15 = .ok (.ireturn, 1) := by decide +kernel
theorem dX9_held_0 : decode cX9_held 0 = .ok (.iload_n 0, 1) := by decide +kernel
theorem dX9_held_1 : decode cX9_held 1 = .ok (.iload_n 1, 1) := by decide +kernel
theorem dX9_held_2 : decode cX9_held 2 = .ok (.if_icmp .ge 7, 3) := by decide +kernel
theorem dX9_held_5 : decode cX9_held 5 = .ok (.iload_n 1, 1) := by decide +kernel
theorem dX9_held_6 : decode cX9_held 6 = .ok (.goto 13, 3) := by decide +kernel
theorem dX9_held_9 : decode cX9_held 9 = .ok (.iload_n 0, 1) := by decide +kernel
theorem dX9_held_10 : decode cX9_held 10 = .ok (.iload_n 2, 1) := by decide +kernel
theorem dX9_held_11 : decode cX9_held 11 = .ok (.if_icmp .le 7, 3) := by decide +kernel
theorem dX9_held_14 : decode cX9_held 14 = .ok (.iload_n 2, 1) := by decide +kernel
theorem dX9_held_15 : decode cX9_held 15 = .ok (.goto 4, 3) := by decide +kernel
theorem dX9_held_18 : decode cX9_held 18 = .ok (.iload_n 0, 1) := by decide +kernel
theorem dX9_held_19 : decode cX9_held 19 = .ok (.ireturn, 1) := by decide +kernel
theorem dX9_carry_0 : decode cX9_carry 0 = .ok (.iconst 0, 1) := by decide +kernel
theorem dX9_carry_1 : decode cX9_carry 1 = .ok (.istore_n 2, 1) := by decide +kernel
theorem dX9_carry_2 : decode cX9_carry 2 = .ok (.iload_n 2, 1) := by decide +kernel
theorem dX9_carry_3 : decode cX9_carry 3 = .ok (.sipush 458, 3) := by decide +kernel
theorem dX9_carry_6 : decode cX9_carry 6 = .ok (.if_icmp .ge 15, 3) := by decide +kernel
theorem dX9_carry_9 : decode cX9_carry 9 = .ok (.aload_n 1, 1) := by decide +kernel
theorem dX9_carry_10 : decode cX9_carry 10 = .ok (.iload_n 2, 1) := by decide +kernel
theorem dX9_carry_11 : decode cX9_carry 11 = .ok (.aload_n 0, 1) := by decide +kernel
theorem dX9_carry_12 : decode cX9_carry 12 = .ok (.iload_n 2, 1) := by decide +kernel
theorem dX9_carry_13 : decode cX9_carry 13 = .ok (.iaload, 1) := by decide +kernel
theorem dX9_carry_14 : decode cX9_carry 14 = .ok (.iastore, 1) := by decide +kernel
theorem dX9_carry_15 : decode cX9_carry 15 = .ok (.iinc 2 1, 3) := by decide +kernel
theorem dX9_carry_18 : decode cX9_carry 18 = .ok (.goto (-16), 3) := by decide +kernel
theorem dX9_carry_21 : decode cX9_carry 21 = .ok (.return_, 1) := by decide +kernel
theorem dX9_layDown_0 : decode cX9_layDown 0 = .ok (.iconst 0, 1) := by decide +kernel
theorem dX9_layDown_1 : decode cX9_layDown 1 = .ok (.istore_n 2, 1) := by decide +kernel
theorem dX9_layDown_2 : decode cX9_layDown 2 = .ok (.iload_n 2, 1) := by decide +kernel
theorem dX9_layDown_3 : decode cX9_layDown 3 = .ok (.bipush 124, 2) := by decide +kernel
theorem dX9_layDown_5 : decode cX9_layDown 5 = .ok (.if_icmp .ge 26, 3) := by decide +kernel
theorem dX9_layDown_8 : decode cX9_layDown 8 = .ok (.aload_n 0, 1) := by decide +kernel
theorem dX9_layDown_9 : decode cX9_layDown 9 = .ok (.getfield 19, 3) := by decide +kernel
theorem dX9_layDown_12 : decode cX9_layDown 12 = .ok (.bipush 124, 2) := by decide +kernel
theorem dX9_layDown_14 : decode cX9_layDown 14 = .ok (.iload_n 1, 1) := by decide +kernel
theorem dX9_layDown_15 : decode cX9_layDown 15 = .ok (.imul, 1) := by decide +kernel
theorem dX9_layDown_16 : decode cX9_layDown 16 = .ok (.iload_n 2, 1) := by decide +kernel
theorem dX9_layDown_17 : decode cX9_layDown 17 = .ok (.iadd, 1) := by decide +kernel
theorem dX9_layDown_18 : decode cX9_layDown 18 = .ok (.aload_n 0, 1) := by decide +kernel
theorem dX9_layDown_19 : decode cX9_layDown 19 = .ok (.getfield 7, 3) := by decide +kernel
theorem dX9_layDown_22 : decode cX9_layDown 22 = .ok (.iload_n 2, 1) := by decide +kernel
theorem dX9_layDown_23 : decode cX9_layDown 23 = .ok (.iaload, 1) := by decide +kernel
theorem dX9_layDown_24 : decode cX9_layDown 24 = .ok (.iastore, 1) := by decide +kernel
theorem dX9_layDown_25 : decode cX9_layDown 25 = .ok (.iinc 2 1, 3) := by decide +kernel
theorem dX9_layDown_28 : decode cX9_layDown 28 = .ok (.goto (-26), 3) := by decide +kernel
theorem dX9_layDown_31 : decode cX9_layDown 31 = .ok (.return_, 1) := by decide +kernel
theorem dX9_layBack_0 : decode cX9_layBack 0 = .ok (.iconst 0, 1) := by decide +kernel
theorem dX9_layBack_1 : decode cX9_layBack 1 = .ok (.istore_n 2, 1) := by decide +kernel
theorem dX9_layBack_2 : decode cX9_layBack 2 = .ok (.iload_n 2, 1) := by decide +kernel
theorem dX9_layBack_3 : decode cX9_layBack 3 = .ok (.bipush 124, 2) := by decide +kernel
theorem dX9_layBack_5 : decode cX9_layBack 5 = .ok (.if_icmp .ge 26, 3) := by decide +kernel
theorem dX9_layBack_8 : decode cX9_layBack 8 = .ok (.aload_n 0, 1) := by decide +kernel
theorem dX9_layBack_9 : decode cX9_layBack 9 = .ok (.getfield 7, 3) := by decide +kernel
theorem dX9_layBack_12 : decode cX9_layBack 12 = .ok (.iload_n 2, 1) := by decide +kernel
theorem dX9_layBack_13 : decode cX9_layBack 13 = .ok (.aload_n 0, 1) := by decide +kernel
theorem dX9_layBack_14 : decode cX9_layBack 14 = .ok (.getfield 19, 3) := by decide +kernel
theorem dX9_layBack_17 : decode cX9_layBack 17 = .ok (.bipush 124, 2) := by decide +kernel
theorem dX9_layBack_19 : decode cX9_layBack 19 = .ok (.iload_n 1, 1) := by decide +kernel
theorem dX9_layBack_20 : decode cX9_layBack 20 = .ok (.imul, 1) := by decide +kernel
theorem dX9_layBack_21 : decode cX9_layBack 21 = .ok (.iload_n 2, 1) := by decide +kernel
theorem dX9_layBack_22 : decode cX9_layBack 22 = .ok (.iadd, 1) := by decide +kernel
theorem dX9_layBack_23 : decode cX9_layBack 23 = .ok (.iaload, 1) := by decide +kernel
theorem dX9_layBack_24 : decode cX9_layBack 24 = .ok (.iastore, 1) := by decide +kernel
theorem dX9_layBack_25 : decode cX9_layBack 25 = .ok (.iinc 2 1, 3) := by decide +kernel
theorem dX9_layBack_28 : decode cX9_layBack 28 = .ok (.goto (-26), 3) := by decide +kernel
theorem dX9_layBack_31 : decode cX9_layBack 31 = .ok (.return_, 1) := by decide +kernel
theorem dX9_isPerson_0 : decode cX9_isPerson 0 = .ok (.iload_n 1, 1) := by decide +kernel
theorem dX9_isPerson_1 : decode cX9_isPerson 1 = .ok (.iconst 0, 1) := by decide +kernel
theorem dX9_isPerson_2 : decode cX9_isPerson 2 = .ok (.aload_n 0, 1) := by decide +kernel
theorem dX9_isPerson_3 : decode cX9_isPerson 3 = .ok (.getfield 7, 3) := by decide +kernel
theorem dX9_isPerson_6 : decode cX9_isPerson 6 = .ok (.iconst 0, 1) := by decide +kernel
theorem dX9_isPerson_7 : decode cX9_isPerson 7 = .ok (.iaload, 1) := by decide +kernel
theorem dX9_isPerson_8 : decode cX9_isPerson 8 = .ok (.iconst 1, 1) := by decide +kernel
theorem dX9_isPerson_9 : decode cX9_isPerson 9 = .ok (.isub, 1) := by decide +kernel
theorem dX9_isPerson_10 : decode cX9_isPerson 10 = .ok (.invokestatic 59, 3) := by decide +kernel
theorem dX9_isPerson_13 : decode cX9_isPerson 13 = .ok (.ireturn, 1) := by decide +kernel
theorem dX9_isMan_0 : decode cX9_isMan 0 = .ok (.iload_n 1, 1) := by decide +kernel
theorem dX9_isMan_1 : decode cX9_isMan 1 = .ok (.iconst 0, 1) := by decide +kernel
theorem dX9_isMan_2 : decode cX9_isMan 2 = .ok (.aload_n 0, 1) := by decide +kernel
theorem dX9_isMan_3 : decode cX9_isMan 3 = .ok (.getfield 7, 3) := by decide +kernel
theorem dX9_isMan_6 : decode cX9_isMan 6 = .ok (.iconst 1, 1) := by decide +kernel
theorem dX9_isMan_7 : decode cX9_isMan 7 = .ok (.iaload, 1) := by decide +kernel
theorem dX9_isMan_8 : decode cX9_isMan 8 = .ok (.iconst 1, 1) := by decide +kernel
theorem dX9_isMan_9 : decode cX9_isMan 9 = .ok (.isub, 1) := by decide +kernel
theorem dX9_isMan_10 : decode cX9_isMan 10 = .ok (.invokestatic 59, 3) := by decide +kernel
theorem dX9_isMan_13 : decode cX9_isMan 13 = .ok (.ireturn, 1) := by decide +kernel
theorem dX9_of_0 : decode cX9_of 0 = .ok (.aload_n 0, 1) := by decide +kernel
theorem dX9_of_1 : decode cX9_of 1 = .ok (.getfield 7, 3) := by decide +kernel
theorem dX9_of_4 : decode cX9_of 4 = .ok (.bipush 8, 2) := by decide +kernel
theorem dX9_of_6 : decode cX9_of 6 = .ok (.iconst 2, 1) := by decide +kernel
theorem dX9_of_7 : decode cX9_of 7 = .ok (.iload_n 1, 1) := by decide +kernel
theorem dX9_of_8 : decode cX9_of 8 = .ok (.imul, 1) := by decide +kernel
theorem dX9_of_9 : decode cX9_of 9 = .ok (.iadd, 1) := by decide +kernel
theorem dX9_of_10 : decode cX9_of 10 = .ok (.iload_n 2, 1) := by decide +kernel
theorem dX9_of_11 : decode cX9_of 11 = .ok (.iadd, 1) := by decide +kernel
theorem dX9_of_12 : decode cX9_of 12 = .ok (.iaload, 1) := by decide +kernel
theorem dX9_of_13 : decode cX9_of 13 = .ok (.ireturn, 1) := by decide +kernel
theorem dX9_its_0 : decode cX9_its 0 = .ok (.aload_n 0, 1) := by decide +kernel
theorem dX9_its_1 : decode cX9_its 1 = .ok (.getfield 7, 3) := by decide +kernel
theorem dX9_its_4 : decode cX9_its 4 = .ok (.bipush 24, 2) := by decide +kernel
theorem dX9_its_6 : decode cX9_its 6 = .ok (.bipush 13, 2) := by decide +kernel
theorem dX9_its_8 : decode cX9_its 8 = .ok (.iload_n 1, 1) := by decide +kernel
theorem dX9_its_9 : decode cX9_its 9 = .ok (.imul, 1) := by decide +kernel
theorem dX9_its_10 : decode cX9_its 10 = .ok (.iadd, 1) := by decide +kernel
theorem dX9_its_11 : decode cX9_its 11 = .ok (.iload_n 2, 1) := by decide +kernel
theorem dX9_its_12 : decode cX9_its 12 = .ok (.iadd, 1) := by decide +kernel
theorem dX9_its_13 : decode cX9_its 13 = .ok (.iaload, 1) := by decide +kernel
theorem dX9_its_14 : decode cX9_its 14 = .ok (.ireturn, 1) := by decide +kernel
theorem dX9_lays1_0 : decode cX9_lays1 0 = .ok (.aload_n 0, 1) := by decide +kernel
theorem dX9_lays1_1 : decode cX9_lays1 1 = .ok (.getfield 7, 3) := by decide +kernel
theorem dX9_lays1_4 : decode cX9_lays1 4 = .ok (.bipush 24, 2) := by decide +kernel
theorem dX9_lays1_6 : decode cX9_lays1 6 = .ok (.bipush 13, 2) := by decide +kernel
theorem dX9_lays1_8 : decode cX9_lays1 8 = .ok (.iload_n 1, 1) := by decide +kernel
theorem dX9_lays1_9 : decode cX9_lays1 9 = .ok (.imul, 1) := by decide +kernel
theorem dX9_lays1_10 : decode cX9_lays1 10 = .ok (.iadd, 1) := by decide +kernel
theorem dX9_lays1_11 : decode cX9_lays1 11 = .ok (.iload_n 2, 1) := by decide +kernel
theorem dX9_lays1_12 : decode cX9_lays1 12 = .ok (.iadd, 1) := by decide +kernel
theorem dX9_lays1_13 : decode cX9_lays1 13 = .ok (.iload_n 3, 1) := by decide +kernel
theorem dX9_lays1_14 : decode cX9_lays1 14 = .ok (.iastore, 1) := by decide +kernel
theorem dX9_lays1_15 : decode cX9_lays1 15 = .ok (.return_, 1) := by decide +kernel
theorem dX9_feed_0 : decode cX9_feed 0 = .ok (.iload_n 3, 1) := by decide +kernel
theorem dX9_feed_1 : decode cX9_feed 1 = .ok (.iconst 1, 1) := by decide +kernel
theorem dX9_feed_2 : decode cX9_feed 2 = .ok (.bipush 8, 2) := by decide +kernel
theorem dX9_feed_4 : decode cX9_feed 4 = .ok (.invokestatic 59, 3) := by decide +kernel
theorem dX9_feed_7 : decode cX9_feed 7 = .ok (.ifCond .ne 9, 3) := by decide +kernel
theorem dX9_feed_10 : decode cX9_feed 10 = .ok (.aload_n 0, 1) := by decide +kernel
theorem dX9_feed_11 : decode cX9_feed 11 = .ok (.iconst 1, 1) := by decide +kernel
theorem dX9_feed_12 : decode cX9_feed 12 = .ok (.invokevirtual 63, 3) := by decide +kernel
theorem dX9_feed_15 : decode cX9_feed 15 = .ok (.ireturn, 1) := by decide +kernel
theorem dX9_feed_16 : decode cX9_feed 16 = .ok (.aload_n 0, 1) := by decide +kernel
theorem dX9_feed_17 : decode cX9_feed 17 = .ok (.getfield 7, 3) := by decide +kernel
theorem dX9_feed_20 : decode cX9_feed 20 = .ok (.iconst 5, 1) := by decide +kernel
theorem dX9_feed_21 : decode cX9_feed 21 = .ok (.iaload, 1) := by decide +kernel
theorem dX9_feed_22 : decode cX9_feed 22 = .ok (.iload_n 3, 1) := by decide +kernel
theorem dX9_feed_23 : decode cX9_feed 23 = .ok (.iadd, 1) := by decide +kernel
theorem dX9_feed_24 : decode cX9_feed 24 = .ok (.bipush 60, 2) := by decide +kernel
theorem dX9_feed_26 : decode cX9_feed 26 = .ok (.if_icmp .le 9, 3) := by decide +kernel
theorem dX9_feed_29 : decode cX9_feed 29 = .ok (.aload_n 0, 1) := by decide +kernel
theorem dX9_feed_30 : decode cX9_feed 30 = .ok (.iconst 4, 1) := by decide +kernel
theorem dX9_feed_31 : decode cX9_feed 31 = .ok (.invokevirtual 63, 3) := by decide +kernel
theorem dX9_feed_34 : decode cX9_feed 34 = .ok (.ireturn, 1) := by decide +kernel
theorem dX9_feed_35 : decode cX9_feed 35 = .ok (.iconst 0, 1) := by decide +kernel
theorem dX9_feed_36 : decode cX9_feed 36 = .ok (.istore 4, 2) := by decide +kernel
theorem dX9_feed_38 : decode cX9_feed 38 = .ok (.iload 4, 2) := by decide +kernel
theorem dX9_feed_40 : decode cX9_feed 40 = .ok (.iload_n 3, 1) := by decide +kernel
theorem dX9_feed_41 : decode cX9_feed 41 = .ok (.if_icmp .ge 46, 3) := by decide +kernel
theorem dX9_feed_44 : decode cX9_feed 44 = .ok (.aload_n 0, 1) := by decide +kernel
theorem dX9_feed_45 : decode cX9_feed 45 = .ok (.getfield 7, 3) := by decide +kernel
theorem dX9_feed_48 : decode cX9_feed 48 = .ok (.sipush 374, 3) := by decide +kernel
theorem dX9_feed_51 : decode cX9_feed 51 = .ok (.aload_n 0, 1) := by decide +kernel
theorem dX9_feed_52 : decode cX9_feed 52 = .ok (.getfield 7, 3) := by decide +kernel
theorem dX9_feed_55 : decode cX9_feed 55 = .ok (.iconst 5, 1) := by decide +kernel
theorem dX9_feed_56 : decode cX9_feed 56 = .ok (.iaload, 1) := by decide +kernel
theorem dX9_feed_57 : decode cX9_feed 57 = .ok (.iadd, 1) := by decide +kernel
theorem dX9_feed_58 : decode cX9_feed 58 = .ok (.lload_n 1, 1) := by decide +kernel
theorem dX9_feed_59 : decode cX9_feed 59 = .ok (.bipush 8, 2) := by decide +kernel
theorem dX9_feed_61 : decode cX9_feed 61 = .ok (.iload 4, 2) := by decide +kernel
theorem dX9_feed_63 : decode cX9_feed 63 = .ok (.imul, 1) := by decide +kernel
theorem dX9_feed_64 : decode cX9_feed 64 = .ok (.lshr, 1) := by decide +kernel
theorem dX9_feed_65 : decode cX9_feed 65 = .ok (.ldc2_w 67, 3) := by decide +kernel
theorem dX9_feed_68 : decode cX9_feed 68 = .ok (.land, 1) := by decide +kernel
theorem dX9_feed_69 : decode cX9_feed 69 = .ok (.l2i, 1) := by decide +kernel
theorem dX9_feed_70 : decode cX9_feed 70 = .ok (.iastore, 1) := by decide +kernel
theorem dX9_feed_71 : decode cX9_feed 71 = .ok (.aload_n 0, 1) := by decide +kernel
theorem dX9_feed_72 : decode cX9_feed 72 = .ok (.getfield 7, 3) := by decide +kernel
theorem dX9_feed_75 : decode cX9_feed 75 = .ok (.iconst 5, 1) := by decide +kernel
theorem dX9_feed_76 : decode cX9_feed 76 = .ok (.dup2, 1) := by decide +kernel
theorem dX9_feed_77 : decode cX9_feed 77 = .ok (.iaload, 1) := by decide +kernel
theorem dX9_feed_78 : decode cX9_feed 78 = .ok (.iconst 1, 1) := by decide +kernel
theorem dX9_feed_79 : decode cX9_feed 79 = .ok (.iadd, 1) := by decide +kernel
theorem dX9_feed_80 : decode cX9_feed 80 = .ok (.iastore, 1) := by decide +kernel
theorem dX9_feed_81 : decode cX9_feed 81 = .ok (.iinc 4 1, 3) := by decide +kernel
theorem dX9_feed_84 : decode cX9_feed 84 = .ok (.goto (-46), 3) := by decide +kernel
theorem dX9_feed_87 : decode cX9_feed 87 = .ok (.aload_n 0, 1) := by decide +kernel
theorem dX9_feed_88 : decode cX9_feed 88 = .ok (.getfield 7, 3) := by decide +kernel
theorem dX9_feed_91 : decode cX9_feed 91 = .ok (.iconst 5, 1) := by decide +kernel
theorem dX9_feed_92 : decode cX9_feed 92 = .ok (.iaload, 1) := by decide +kernel
theorem dX9_feed_93 : decode cX9_feed 93 = .ok (.ireturn, 1) := by decide +kernel
theorem dX9_look_0 : decode cX9_look 0 = .ok (.aload_n 0, 1) := by decide +kernel
theorem dX9_look_1 : decode cX9_look 1 = .ok (.getfield 69, 3) := by decide +kernel
theorem dX9_look_4 : decode cX9_look 4 = .ok (.aload_n 0, 1) := by decide +kernel
theorem dX9_look_5 : decode cX9_look 5 = .ok (.getfield 7, 3) := by decide +kernel
theorem dX9_look_8 : decode cX9_look 8 = .ok (.iconst 5, 1) := by decide +kernel
theorem dX9_look_9 : decode cX9_look 9 = .ok (.iaload, 1) := by decide +kernel
theorem dX9_look_10 : decode cX9_look 10 = .ok (.if_icmp .ge 19, 3) := by decide +kernel
theorem dX9_look_13 : decode cX9_look 13 = .ok (.aload_n 0, 1) := by decide +kernel
theorem dX9_look_14 : decode cX9_look 14 = .ok (.getfield 7, 3) := by decide +kernel
theorem dX9_look_17 : decode cX9_look 17 = .ok (.sipush 374, 3) := by decide +kernel
theorem dX9_look_20 : decode cX9_look 20 = .ok (.aload_n 0, 1) := by decide +kernel
theorem dX9_look_21 : decode cX9_look 21 = .ok (.getfield 69, 3) := by decide +kernel
theorem dX9_look_24 : decode cX9_look 24 = .ok (.iadd, 1) := by decide +kernel
theorem dX9_look_25 : decode cX9_look 25 = .ok (.iaload, 1) := by decide +kernel
theorem dX9_look_26 : decode cX9_look 26 = .ok (.goto 4, 3) := by decide +kernel
theorem dX9_look_29 : decode cX9_look 29 = .ok (.iconst (-1), 1) := by decide +kernel
theorem dX9_look_30 : decode cX9_look 30 = .ok (.ireturn, 1) := by decide +kernel
theorem dX9_isName_0 : decode cX9_isName 0 = .ok (.iload_n 1, 1) := by decide +kernel
theorem dX9_isName_1 : decode cX9_isName 1 = .ok (.bipush 109, 2) := by decide +kernel
theorem dX9_isName_3 : decode cX9_isName 3 = .ok (.if_icmp .ne 5, 3) := by decide +kernel
theorem dX9_isName_6 : decode cX9_isName 6 = .ok (.iconst 1, 1) := by decide +kernel
theorem dX9_isName_7 : decode cX9_isName 7 = .ok (.ireturn, 1) := by decide +kernel
theorem dX9_isName_8 : decode cX9_isName 8 = .ok (.aload_n 0, 1) := by decide +kernel
theorem dX9_isName_9 : decode cX9_isName 9 = .ok (.getfield 73, 3) := by decide +kernel
theorem dX9_isName_12 : decode cX9_isName 12 = .ok (.ifCond .ne 23, 3) := by decide +kernel
theorem dX9_isName_15 : decode cX9_isName 15 = .ok (.iload_n 1, 1) := by decide +kernel
theorem dX9_isName_16 : decode cX9_isName 16 = .ok (.bipush 116, 2) := by decide +kernel
theorem dX9_isName_18 : decode cX9_isName 18 = .ok (.if_icmp .eq 9, 3) := by decide +kernel
theorem dX9_isName_21 : decode cX9_isName 21 = .ok (.iload_n 1, 1) := by decide +kernel
theorem dX9_isName_22 : decode cX9_isName 22 = .ok (.bipush 112, 2) := by decide +kernel
theorem dX9_isName_24 : decode cX9_isName 24 = .ok (.if_icmp .ne 7, 3) := by decide +kernel
theorem dX9_isName_27 : decode cX9_isName 27 = .ok (.iconst 1, 1) := by decide +kernel
theorem dX9_isName_28 : decode cX9_isName 28 = .ok (.goto 24, 3) := by decide +kernel
theorem dX9_isName_31 : decode cX9_isName 31 = .ok (.iconst 0, 1) := by decide +kernel
theorem dX9_isName_32 : decode cX9_isName 32 = .ok (.goto 20, 3) := by decide +kernel
theorem dX9_isName_35 : decode cX9_isName 35 = .ok (.iload_n 1, 1) := by decide +kernel
theorem dX9_isName_36 : decode cX9_isName 36 = .ok (.bipush 107, 2) := by decide +kernel
theorem dX9_isName_38 : decode cX9_isName 38 = .ok (.if_icmp .eq 9, 3) := by decide +kernel
theorem dX9_isName_41 : decode cX9_isName 41 = .ok (.iload_n 1, 1) := by decide +kernel
theorem dX9_isName_42 : decode cX9_isName 42 = .ok (.bipush 98, 2) := by decide +kernel
theorem dX9_isName_44 : decode cX9_isName 44 = .ok (.if_icmp .ne 7, 3) := by decide +kernel
theorem dX9_isName_47 : decode cX9_isName 47 = .ok (.iconst 1, 1) := by decide +kernel
theorem dX9_isName_48 : decode cX9_isName 48 = .ok (.goto 4, 3) := by decide +kernel
theorem dX9_isName_51 : decode cX9_isName 51 = .ok (.iconst 0, 1) := by decide +kernel
theorem dX9_isName_52 : decode cX9_isName 52 = .ok (.ireturn, 1) := by decide +kernel
theorem dX9_lays_0 : decode cX9_lays 0 = .ok (.aload_n 0, 1) := by decide +kernel
theorem dX9_lays_1 : decode cX9_lays 1 = .ok (.getfield 25, 3) := by decide +kernel
theorem dX9_lays_4 : decode cX9_lays 4 = .ok (.iconst 2, 1) := by decide +kernel
theorem dX9_lays_5 : decode cX9_lays 5 = .ok (.aload_n 0, 1) := by decide +kernel
theorem dX9_lays_6 : decode cX9_lays 6 = .ok (.getfield 76, 3) := by decide +kernel
theorem dX9_lays_9 : decode cX9_lays 9 = .ok (.imul, 1) := by decide +kernel
theorem dX9_lays_10 : decode cX9_lays 10 = .ok (.iload_n 1, 1) := by decide +kernel
theorem dX9_lays_11 : decode cX9_lays 11 = .ok (.iastore, 1) := by decide +kernel
theorem dX9_lays_12 : decode cX9_lays 12 = .ok (.aload_n 0, 1) := by decide +kernel
theorem dX9_lays_13 : decode cX9_lays 13 = .ok (.getfield 25, 3) := by decide +kernel
theorem dX9_lays_16 : decode cX9_lays 16 = .ok (.iconst 2, 1) := by decide +kernel
theorem dX9_lays_17 : decode cX9_lays 17 = .ok (.aload_n 0, 1) := by decide +kernel
theorem dX9_lays_18 : decode cX9_lays 18 = .ok (.getfield 76, 3) := by decide +kernel
theorem dX9_lays_21 : decode cX9_lays 21 = .ok (.imul, 1) := by decide +kernel
theorem dX9_lays_22 : decode cX9_lays 22 = .ok (.iconst 1, 1) := by decide +kernel
theorem dX9_lays_23 : decode cX9_lays 23 = .ok (.iadd, 1) := by decide +kernel
theorem dX9_lays_24 : decode cX9_lays 24 = .ok (.iload_n 2, 1) := by decide +kernel
theorem dX9_lays_25 : decode cX9_lays 25 = .ok (.iastore, 1) := by decide +kernel
theorem dX9_lays_26 : decode cX9_lays 26 = .ok (.aload_n 0, 1) := by decide +kernel
theorem dX9_lays_27 : decode cX9_lays 27 = .ok (.dup, 1) := by decide +kernel
theorem dX9_lays_28 : decode cX9_lays 28 = .ok (.getfield 76, 3) := by decide +kernel
theorem dX9_lays_31 : decode cX9_lays 31 = .ok (.iconst 1, 1) := by decide +kernel
theorem dX9_lays_32 : decode cX9_lays 32 = .ok (.iadd, 1) := by decide +kernel
theorem dX9_lays_33 : decode cX9_lays 33 = .ok (.putfield 76, 3) := by decide +kernel
theorem dX9_lays_36 : decode cX9_lays 36 = .ok (.return_, 1) := by decide +kernel
theorem dX9_whole_0 : decode cX9_whole 0 = .ok (.aload_n 0, 1) := by decide +kernel
theorem dX9_whole_1 : decode cX9_whole 1 = .ok (.invokevirtual 79, 3) := by decide +kernel
theorem dX9_whole_4 : decode cX9_whole 4 = .ok (.ifCond .ne 5, 3) := by decide +kernel
theorem dX9_whole_7 : decode cX9_whole 7 = .ok (.iconst 0, 1) := by decide +kernel
theorem dX9_whole_8 : decode cX9_whole 8 = .ok (.ireturn, 1) := by decide +kernel
theorem dX9_whole_9 : decode cX9_whole 9 = .ok (.aload_n 0, 1) := by decide +kernel
theorem dX9_whole_10 : decode cX9_whole 10 = .ok (.invokevirtual 83, 3) := by decide +kernel
theorem dX9_whole_13 : decode cX9_whole 13 = .ok (.bipush 124, 2) := by decide +kernel
theorem dX9_whole_15 : decode cX9_whole 15 = .ok (.if_icmp .ne 32, 3) := by decide +kernel
theorem dX9_whole_18 : decode cX9_whole 18 = .ok (.aload_n 0, 1) := by decide +kernel
theorem dX9_whole_19 : decode cX9_whole 19 = .ok (.dup, 1) := by decide +kernel
theorem dX9_whole_20 : decode cX9_whole 20 = .ok (.getfield 69, 3) := by decide +kernel
theorem dX9_whole_23 : decode cX9_whole 23 = .ok (.iconst 1, 1) := by decide +kernel
theorem dX9_whole_24 : decode cX9_whole 24 = .ok (.iadd, 1) := by decide +kernel
theorem dX9_whole_25 : decode cX9_whole 25 = .ok (.putfield 69, 3) := by decide +kernel
theorem dX9_whole_28 : decode cX9_whole 28 = .ok (.aload_n 0, 1) := by decide +kernel
theorem dX9_whole_29 : decode cX9_whole 29 = .ok (.invokevirtual 79, 3) := by decide +kernel
theorem dX9_whole_32 : decode cX9_whole 32 = .ok (.ifCond .ne 5, 3) := by decide +kernel
theorem dX9_whole_35 : decode cX9_whole 35 = .ok (.iconst 0, 1) := by decide +kernel
theorem dX9_whole_36 : decode cX9_whole 36 = .ok (.ireturn, 1) := by decide +kernel
theorem dX9_whole_37 : decode cX9_whole 37 = .ok (.aload_n 0, 1) := by decide +kernel
theorem dX9_whole_38 : decode cX9_whole 38 = .ok (.iconst 3, 1) := by decide +kernel
theorem dX9_whole_39 : decode cX9_whole 39 = .ok (.bipush 124, 2) := by decide +kernel
theorem dX9_whole_41 : decode cX9_whole 41 = .ok (.invokevirtual 87, 3) := by decide +kernel
theorem dX9_whole_44 : decode cX9_whole 44 = .ok (.goto (-35), 3) := by decide +kernel
theorem dX9_whole_47 : decode cX9_whole 47 = .ok (.iconst 1, 1) := by decide +kernel
theorem dX9_whole_48 : decode cX9_whole 48 = .ok (.ireturn, 1) := by decide +kernel
theorem dX9_both_0 : decode cX9_both 0 = .ok (.aload_n 0, 1) := by decide +kernel
theorem dX9_both_1 : decode cX9_both 1 = .ok (.invokevirtual 91, 3) := by decide +kernel
theorem dX9_both_4 : decode cX9_both 4 = .ok (.ifCond .ne 5, 3) := by decide +kernel
theorem dX9_both_7 : decode cX9_both 7 = .ok (.iconst 0, 1) := by decide +kernel
theorem dX9_both_8 : decode cX9_both 8 = .ok (.ireturn, 1) := by decide +kernel
theorem dX9_both_9 : decode cX9_both 9 = .ok (.aload_n 0, 1) := by decide +kernel
theorem dX9_both_10 : decode cX9_both 10 = .ok (.invokevirtual 83, 3) := by decide +kernel
theorem dX9_both_13 : decode cX9_both 13 = .ok (.bipush 38, 2) := by decide +kernel
theorem dX9_both_15 : decode cX9_both 15 = .ok (.if_icmp .ne 32, 3) := by decide +kernel
theorem dX9_both_18 : decode cX9_both 18 = .ok (.aload_n 0, 1) := by decide +kernel
theorem dX9_both_19 : decode cX9_both 19 = .ok (.dup, 1) := by decide +kernel
theorem dX9_both_20 : decode cX9_both 20 = .ok (.getfield 69, 3) := by decide +kernel
theorem dX9_both_23 : decode cX9_both 23 = .ok (.iconst 1, 1) := by decide +kernel
theorem dX9_both_24 : decode cX9_both 24 = .ok (.iadd, 1) := by decide +kernel
theorem dX9_both_25 : decode cX9_both 25 = .ok (.putfield 69, 3) := by decide +kernel
theorem dX9_both_28 : decode cX9_both 28 = .ok (.aload_n 0, 1) := by decide +kernel
theorem dX9_both_29 : decode cX9_both 29 = .ok (.invokevirtual 91, 3) := by decide +kernel
theorem dX9_both_32 : decode cX9_both 32 = .ok (.ifCond .ne 5, 3) := by decide +kernel
theorem dX9_both_35 : decode cX9_both 35 = .ok (.iconst 0, 1) := by decide +kernel
theorem dX9_both_36 : decode cX9_both 36 = .ok (.ireturn, 1) := by decide +kernel
theorem dX9_both_37 : decode cX9_both 37 = .ok (.aload_n 0, 1) := by decide +kernel
theorem dX9_both_38 : decode cX9_both 38 = .ok (.iconst 3, 1) := by decide +kernel
theorem dX9_both_39 : decode cX9_both 39 = .ok (.bipush 38, 2) := by decide +kernel
theorem dX9_both_41 : decode cX9_both 41 = .ok (.invokevirtual 87, 3) := by decide +kernel
theorem dX9_both_44 : decode cX9_both 44 = .ok (.goto (-35), 3) := by decide +kernel
theorem dX9_both_47 : decode cX9_both 47 = .ok (.iconst 1, 1) := by decide +kernel
theorem dX9_both_48 : decode cX9_both 48 = .ok (.ireturn, 1) := by decide +kernel
theorem dX9_compared_0 : decode cX9_compared 0 = .ok (.aload_n 0, 1) := by decide +kernel
theorem dX9_compared_1 : decode cX9_compared 1 = .ok (.invokevirtual 94, 3) := by decide +kernel
theorem dX9_compared_4 : decode cX9_compared 4 = .ok (.ifCond .ne 5, 3) := by decide +kernel
theorem dX9_compared_7 : decode cX9_compared 7 = .ok (.iconst 0, 1) := by decide +kernel
theorem dX9_compared_8 : decode cX9_compared 8 = .ok (.ireturn, 1) := by decide +kernel
theorem dX9_compared_9 : decode cX9_compared 9 = .ok (.aload_n 0, 1) := by decide +kernel
theorem dX9_compared_10 : decode cX9_compared 10 = .ok (.invokevirtual 83, 3) := by decide +kernel
theorem dX9_compared_13 : decode cX9_compared 13 = .ok (.istore_n 1, 1) := by decide +kernel
theorem dX9_compared_14 : decode cX9_compared 14 = .ok (.iload_n 1, 1) := by decide +kernel
theorem dX9_compared_15 : decode cX9_compared 15 = .ok (.bipush 60, 2) := by decide +kernel
theorem dX9_compared_17 : decode cX9_compared 17 = .ok (.if_icmp .eq 17, 3) := by decide +kernel
theorem dX9_compared_20 : decode cX9_compared 20 = .ok (.iload_n 1, 1) := by decide +kernel
theorem dX9_compared_21 : decode cX9_compared 21 = .ok (.bipush 61, 2) := by decide +kernel
theorem dX9_compared_23 : decode cX9_compared 23 = .ok (.if_icmp .eq 11, 3) := by decide +kernel
theorem dX9_compared_26 : decode cX9_compared 26 = .ok (.iload_n 1, 1) := by decide +kernel
theorem dX9_compared_27 : decode cX9_compared 27 = .ok (.bipush 62, 2) := by decide +kernel
theorem dX9_compared_29 : decode cX9_compared 29 = .ok (.if_icmp .eq 5, 3) := by decide +kernel
theorem dX9_compared_32 : decode cX9_compared 32 = .ok (.iconst 1, 1) := by decide +kernel
theorem dX9_compared_33 : decode cX9_compared 33 = .ok (.ireturn, 1) := by decide +kernel
theorem dX9_compared_34 : decode cX9_compared 34 = .ok (.aload_n 0, 1) := by decide +kernel
theorem dX9_compared_35 : decode cX9_compared 35 = .ok (.dup, 1) := by decide +kernel
theorem dX9_compared_36 : decode cX9_compared 36 = .ok (.getfield 69, 3) := by decide +kernel
theorem dX9_compared_39 : decode cX9_compared 39 = .ok (.iconst 1, 1) := by decide +kernel
theorem dX9_compared_40 : decode cX9_compared 40 = .ok (.iadd, 1) := by decide +kernel
theorem dX9_compared_41 : decode cX9_compared 41 = .ok (.putfield 69, 3) := by decide +kernel
theorem dX9_compared_44 : decode cX9_compared 44 = .ok (.aload_n 0, 1) := by decide +kernel
theorem dX9_compared_45 : decode cX9_compared 45 = .ok (.invokevirtual 94, 3) := by decide +kernel
theorem dX9_compared_48 : decode cX9_compared 48 = .ok (.ifCond .ne 5, 3) := by decide +kernel
theorem dX9_compared_51 : decode cX9_compared 51 = .ok (.iconst 0, 1) := by decide +kernel
theorem dX9_compared_52 : decode cX9_compared 52 = .ok (.ireturn, 1) := by decide +kernel
theorem dX9_compared_53 : decode cX9_compared 53 = .ok (.aload_n 0, 1) := by decide +kernel
theorem dX9_compared_54 : decode cX9_compared 54 = .ok (.iconst 3, 1) := by decide +kernel
theorem dX9_compared_55 : decode cX9_compared 55 = .ok (.iload_n 1, 1) := by decide +kernel
theorem dX9_compared_56 : decode cX9_compared 56 = .ok (.invokevirtual 87, 3) := by decide +kernel
theorem dX9_compared_59 : decode cX9_compared 59 = .ok (.iconst 1, 1) := by decide +kernel
theorem dX9_compared_60 : decode cX9_compared 60 = .ok (.ireturn, 1) := by decide +kernel
theorem dX9_sum_0 : decode cX9_sum 0 = .ok (.aload_n 0, 1) := by decide +kernel
theorem dX9_sum_1 : decode cX9_sum 1 = .ok (.invokevirtual 97, 3) := by decide +kernel
theorem dX9_sum_4 : decode cX9_sum 4 = .ok (.ifCond .ne 5, 3) := by decide +kernel
theorem dX9_sum_7 : decode cX9_sum 7 = .ok (.iconst 0, 1) := by decide +kernel
theorem dX9_sum_8 : decode cX9_sum 8 = .ok (.ireturn, 1) := by decide +kernel
theorem dX9_sum_9 : decode cX9_sum 9 = .ok (.aload_n 0, 1) := by decide +kernel
theorem dX9_sum_10 : decode cX9_sum 10 = .ok (.invokevirtual 83, 3) := by decide +kernel
theorem dX9_sum_13 : decode cX9_sum 13 = .ok (.bipush 43, 2) := by decide +kernel
theorem dX9_sum_15 : decode cX9_sum 15 = .ok (.if_icmp .eq 12, 3) := by decide +kernel
theorem dX9_sum_18 : decode cX9_sum 18 = .ok (.aload_n 0, 1) := by decide +kernel
theorem dX9_sum_19 : decode cX9_sum 19 = .ok (.invokevirtual 83, 3) := by decide +kernel
theorem dX9_sum_22 : decode cX9_sum 22 = .ok (.bipush 45, 2) := by decide +kernel
theorem dX9_sum_24 : decode cX9_sum 24 = .ok (.if_icmp .ne 36, 3) := by decide +kernel
theorem dX9_sum_27 : decode cX9_sum 27 = .ok (.aload_n 0, 1) := by decide +kernel
theorem dX9_sum_28 : decode cX9_sum 28 = .ok (.invokevirtual 83, 3) := by decide +kernel
theorem dX9_sum_31 : decode cX9_sum 31 = .ok (.istore_n 1, 1) := by decide +kernel
theorem dX9_sum_32 : decode cX9_sum 32 = .ok (.aload_n 0, 1) := by decide +kernel
theorem dX9_sum_33 : decode cX9_sum 33 = .ok (.dup, 1) := by decide +kernel
theorem dX9_sum_34 : decode cX9_sum 34 = .ok (.getfield 69, 3) := by decide +kernel
theorem dX9_sum_37 : decode cX9_sum 37 = .ok (.iconst 1, 1) := by decide +kernel
theorem dX9_sum_38 : decode cX9_sum 38 = .ok (.iadd, 1) := by decide +kernel
theorem dX9_sum_39 : decode cX9_sum 39 = .ok (.putfield 69, 3) := by decide +kernel
theorem dX9_sum_42 : decode cX9_sum 42 = .ok (.aload_n 0, 1) := by decide +kernel
theorem dX9_sum_43 : decode cX9_sum 43 = .ok (.invokevirtual 97, 3) := by decide +kernel
theorem dX9_sum_46 : decode cX9_sum 46 = .ok (.ifCond .ne 5, 3) := by decide +kernel
theorem dX9_sum_49 : decode cX9_sum 49 = .ok (.iconst 0, 1) := by decide +kernel
theorem dX9_sum_50 : decode cX9_sum 50 = .ok (.ireturn, 1) := by decide +kernel
theorem dX9_sum_51 : decode cX9_sum 51 = .ok (.aload_n 0, 1) := by decide +kernel
theorem dX9_sum_52 : decode cX9_sum 52 = .ok (.iconst 3, 1) := by decide +kernel
theorem dX9_sum_53 : decode cX9_sum 53 = .ok (.iload_n 1, 1) := by decide +kernel
theorem dX9_sum_54 : decode cX9_sum 54 = .ok (.invokevirtual 87, 3) := by decide +kernel
theorem dX9_sum_57 : decode cX9_sum 57 = .ok (.goto (-48), 3) := by decide +kernel
theorem dX9_sum_60 : decode cX9_sum 60 = .ok (.iconst 1, 1) := by decide +kernel
theorem dX9_sum_61 : decode cX9_sum 61 = .ok (.ireturn, 1) := by decide +kernel
theorem dX9_product_0 : decode cX9_product 0 = .ok (.aload_n 0, 1) := by decide +kernel
theorem dX9_product_1 : decode cX9_product 1 = .ok (.invokevirtual 100, 3) := by decide +kernel
theorem dX9_product_4 : decode cX9_product 4 = .ok (.ifCond .ne 5, 3) := by decide +kernel
theorem dX9_product_7 : decode cX9_product 7 = .ok (.iconst 0, 1) := by decide +kernel
theorem dX9_product_8 : decode cX9_product 8 = .ok (.ireturn, 1) := by decide +kernel
theorem dX9_product_9 : decode cX9_product 9 = .ok (.aload_n 0, 1) := by decide +kernel
theorem dX9_product_10 : decode cX9_product 10 = .ok (.invokevirtual 83, 3) := by decide +kernel
theorem dX9_product_13 : decode cX9_product 13 = .ok (.bipush 42, 2) := by decide +kernel
theorem dX9_product_15 : decode cX9_product 15 = .ok (.if_icmp .eq 21, 3) := by decide +kernel
theorem dX9_product_18 : decode cX9_product 18 = .ok (.aload_n 0, 1) := by decide +kernel
theorem dX9_product_19 : decode cX9_product 19 = .ok (.invokevirtual 83, 3) := by decide +kernel
theorem dX9_product_22 : decode cX9_product 22 = .ok (.bipush 47, 2) := by decide +kernel
theorem dX9_product_24 : decode cX9_product 24 = .ok (.if_icmp .eq 12, 3) := by decide +kernel
theorem dX9_product_27 : decode cX9_product 27 = .ok (.aload_n 0, 1) := by decide +kernel
theorem dX9_product_28 : decode cX9_product 28 = .ok (.invokevirtual 83, 3) := by decide +kernel
theorem dX9_product_31 : decode cX9_product 31 = .ok (.bipush 37, 2) := by decide +kernel
theorem dX9_product_33 : decode cX9_product 33 = .ok (.if_icmp .ne 36, 3) := by decide +kernel
theorem dX9_product_36 : decode cX9_product 36 = .ok (.aload_n 0, 1) := by decide +kernel
theorem dX9_product_37 : decode cX9_product 37 = .ok (.invokevirtual 83, 3) := by decide +kernel
theorem dX9_product_40 : decode cX9_product 40 = .ok (.istore_n 1, 1) := by decide +kernel
theorem dX9_product_41 : decode cX9_product 41 = .ok (.aload_n 0, 1) := by decide +kernel
theorem dX9_product_42 : decode cX9_product 42 = .ok (.dup, 1) := by decide +kernel
theorem dX9_product_43 : decode cX9_product 43 = .ok (.getfield 69, 3) := by decide +kernel
theorem dX9_product_46 : decode cX9_product 46 = .ok (.iconst 1, 1) := by decide +kernel
theorem dX9_product_47 : decode cX9_product 47 = .ok (.iadd, 1) := by decide +kernel
theorem dX9_product_48 : decode cX9_product 48 = .ok (.putfield 69, 3) := by decide +kernel
theorem dX9_product_51 : decode cX9_product 51 = .ok (.aload_n 0, 1) := by decide +kernel
theorem dX9_product_52 : decode cX9_product 52 = .ok (.invokevirtual 100, 3) := by decide +kernel
theorem dX9_product_55 : decode cX9_product 55 = .ok (.ifCond .ne 5, 3) := by decide +kernel
theorem dX9_product_58 : decode cX9_product 58 = .ok (.iconst 0, 1) := by decide +kernel
theorem dX9_product_59 : decode cX9_product 59 = .ok (.ireturn, 1) := by decide +kernel
theorem dX9_product_60 : decode cX9_product 60 = .ok (.aload_n 0, 1) := by decide +kernel
theorem dX9_product_61 : decode cX9_product 61 = .ok (.iconst 3, 1) := by decide +kernel
theorem dX9_product_62 : decode cX9_product 62 = .ok (.iload_n 1, 1) := by decide +kernel
theorem dX9_product_63 : decode cX9_product 63 = .ok (.invokevirtual 87, 3) := by decide +kernel
theorem dX9_product_66 : decode cX9_product 66 = .ok (.goto (-57), 3) := by decide +kernel
theorem dX9_product_69 : decode cX9_product 69 = .ok (.iconst 1, 1) := by decide +kernel
theorem dX9_product_70 : decode cX9_product 70 = .ok (.ireturn, 1) := by decide +kernel
theorem dX9_opens_0 : decode cX9_opens 0 = .ok (.aload_n 0, 1) := by decide +kernel
theorem dX9_opens_1 : decode cX9_opens 1 = .ok (.getfield 103, 3) := by decide +kernel
theorem dX9_opens_4 : decode cX9_opens 4 = .ok (.iconst 5, 1) := by decide +kernel
theorem dX9_opens_5 : decode cX9_opens 5 = .ok (.if_icmp .ne 5, 3) := by decide +kernel
theorem dX9_opens_8 : decode cX9_opens 8 = .ok (.iconst 0, 1) := by decide +kernel
theorem dX9_opens_9 : decode cX9_opens 9 = .ok (.ireturn, 1) := by decide +kernel
theorem dX9_opens_10 : decode cX9_opens 10 = .ok (.aload_n 0, 1) := by decide +kernel
theorem dX9_opens_11 : decode cX9_opens 11 = .ok (.dup, 1) := by decide +kernel
theorem dX9_opens_12 : decode cX9_opens 12 = .ok (.getfield 103, 3) := by decide +kernel
theorem dX9_opens_15 : decode cX9_opens 15 = .ok (.iconst 1, 1) := by decide +kernel
theorem dX9_opens_16 : decode cX9_opens 16 = .ok (.iadd, 1) := by decide +kernel
theorem dX9_opens_17 : decode cX9_opens 17 = .ok (.putfield 103, 3) := by decide +kernel
theorem dX9_opens_20 : decode cX9_opens 20 = .ok (.aload_n 0, 1) := by decide +kernel
theorem dX9_opens_21 : decode cX9_opens 21 = .ok (.dup, 1) := by decide +kernel
theorem dX9_opens_22 : decode cX9_opens 22 = .ok (.getfield 69, 3) := by decide +kernel
theorem dX9_opens_25 : decode cX9_opens 25 = .ok (.iconst 1, 1) := by decide +kernel
theorem dX9_opens_26 : decode cX9_opens 26 = .ok (.iadd, 1) := by decide +kernel
theorem dX9_opens_27 : decode cX9_opens 27 = .ok (.putfield 69, 3) := by decide +kernel
theorem dX9_opens_30 : decode cX9_opens 30 = .ok (.iconst 1, 1) := by decide +kernel
theorem dX9_opens_31 : decode cX9_opens 31 = .ok (.ireturn, 1) := by decide +kernel
theorem dX9_one_0 : decode cX9_one 0 = .ok (.aload_n 0, 1) := by decide +kernel
theorem dX9_one_1 : decode cX9_one 1 = .ok (.invokevirtual 83, 3) := by decide +kernel
theorem dX9_one_4 : decode cX9_one 4 = .ok (.istore_n 1, 1) := by decide +kernel
theorem dX9_one_5 : decode cX9_one 5 = .ok (.aload_n 0, 1) := by decide +kernel
theorem dX9_one_6 : decode cX9_one 6 = .ok (.iload_n 1, 1) := by decide +kernel
theorem dX9_one_7 : decode cX9_one 7 = .ok (.invokevirtual 106, 3) := by decide +kernel
theorem dX9_one_10 : decode cX9_one 10 = .ok (.ifCond .eq 21, 3) := by decide +kernel
theorem dX9_one_13 : decode cX9_one 13 = .ok (.aload_n 0, 1) := by decide +kernel
theorem dX9_one_14 : decode cX9_one 14 = .ok (.dup, 1) := by decide +kernel
theorem dX9_one_15 : decode cX9_one 15 = .ok (.getfield 69, 3) := by decide +kernel
theorem dX9_one_18 : decode cX9_one 18 = .ok (.iconst 1, 1) := by decide +kernel
theorem dX9_one_19 : decode cX9_one 19 = .ok (.iadd, 1) := by decide +kernel
theorem dX9_one_20 : decode cX9_one 20 = .ok (.putfield 69, 3) := by decide +kernel
theorem dX9_one_23 : decode cX9_one 23 = .ok (.aload_n 0, 1) := by decide +kernel
theorem dX9_one_24 : decode cX9_one 24 = .ok (.iconst 1, 1) := by decide +kernel
theorem dX9_one_25 : decode cX9_one 25 = .ok (.iload_n 1, 1) := by decide +kernel
theorem dX9_one_26 : decode cX9_one 26 = .ok (.invokevirtual 87, 3) := by decide +kernel
theorem dX9_one_29 : decode cX9_one 29 = .ok (.iconst 1, 1) := by decide +kernel
theorem dX9_one_30 : decode cX9_one 30 = .ok (.ireturn, 1) := by decide +kernel
theorem dX9_one_31 : decode cX9_one 31 = .ok (.iload_n 1, 1) := by decide +kernel
theorem dX9_one_32 : decode cX9_one 32 = .ok (.bipush 48, 2) := by decide +kernel
theorem dX9_one_34 : decode cX9_one 34 = .ok (.bipush 57, 2) := by decide +kernel
theorem dX9_one_36 : decode cX9_one 36 = .ok (.invokestatic 59, 3) := by decide +kernel
theorem dX9_one_39 : decode cX9_one 39 = .ok (.ifCond .eq 63, 3) := by decide +kernel
theorem dX9_one_42 : decode cX9_one 42 = .ok (.iconst 0, 1) := by decide +kernel
theorem dX9_one_43 : decode cX9_one 43 = .ok (.istore_n 2, 1) := by decide +kernel
theorem dX9_one_44 : decode cX9_one 44 = .ok (.iconst 0, 1) := by decide +kernel
theorem dX9_one_45 : decode cX9_one 45 = .ok (.istore_n 3, 1) := by decide +kernel
theorem dX9_one_46 : decode cX9_one 46 = .ok (.iload_n 3, 1) := by decide +kernel
theorem dX9_one_47 : decode cX9_one 47 = .ok (.iconst 4, 1) := by decide +kernel
theorem dX9_one_48 : decode cX9_one 48 = .ok (.if_icmp .ge 46, 3) := by decide +kernel
theorem dX9_one_51 : decode cX9_one 51 = .ok (.aload_n 0, 1) := by decide +kernel
theorem dX9_one_52 : decode cX9_one 52 = .ok (.invokevirtual 83, 3) := by decide +kernel
theorem dX9_one_55 : decode cX9_one 55 = .ok (.bipush 48, 2) := by decide +kernel
theorem dX9_one_57 : decode cX9_one 57 = .ok (.bipush 57, 2) := by decide +kernel
theorem dX9_one_59 : decode cX9_one 59 = .ok (.invokestatic 59, 3) := by decide +kernel
theorem dX9_one_62 : decode cX9_one 62 = .ok (.ifCond .eq 32, 3) := by decide +kernel
theorem dX9_one_65 : decode cX9_one 65 = .ok (.bipush 10, 2) := by decide +kernel
theorem dX9_one_67 : decode cX9_one 67 = .ok (.iload_n 2, 1) := by decide +kernel
theorem dX9_one_68 : decode cX9_one 68 = .ok (.imul, 1) := by decide +kernel
theorem dX9_one_69 : decode cX9_one 69 = .ok (.aload_n 0, 1) := by decide +kernel
theorem dX9_one_70 : decode cX9_one 70 = .ok (.invokevirtual 83, 3) := by decide +kernel
theorem dX9_one_73 : decode cX9_one 73 = .ok (.iadd, 1) := by decide +kernel
theorem dX9_one_74 : decode cX9_one 74 = .ok (.bipush 48, 2) := by decide +kernel
theorem dX9_one_76 : decode cX9_one 76 = .ok (.isub, 1) := by decide +kernel
theorem dX9_one_77 : decode cX9_one 77 = .ok (.istore_n 2, 1) := by decide +kernel
theorem dX9_one_78 : decode cX9_one 78 = .ok (.aload_n 0, 1) := by decide +kernel
theorem dX9_one_79 : decode cX9_one 79 = .ok (.dup, 1) := by decide +kernel
theorem dX9_one_80 : decode cX9_one 80 = .ok (.getfield 69, 3) := by decide +kernel
theorem dX9_one_83 : decode cX9_one 83 = .ok (.iconst 1, 1) := by decide +kernel
theorem dX9_one_84 : decode cX9_one 84 = .ok (.iadd, 1) := by decide +kernel
theorem dX9_one_85 : decode cX9_one 85 = .ok (.putfield 69, 3) := by decide +kernel
theorem dX9_one_88 : decode cX9_one 88 = .ok (.iinc 3 1, 3) := by decide +kernel
theorem dX9_one_91 : decode cX9_one 91 = .ok (.goto (-45), 3) := by decide +kernel
theorem dX9_one_94 : decode cX9_one 94 = .ok (.aload_n 0, 1) := by decide +kernel
theorem dX9_one_95 : decode cX9_one 95 = .ok (.iconst 0, 1) := by decide +kernel
theorem dX9_one_96 : decode cX9_one 96 = .ok (.iload_n 2, 1) := by decide +kernel
theorem dX9_one_97 : decode cX9_one 97 = .ok (.invokevirtual 87, 3) := by decide +kernel
theorem dX9_one_100 : decode cX9_one 100 = .ok (.iconst 1, 1) := by decide +kernel
theorem dX9_one_101 : decode cX9_one 101 = .ok (.ireturn, 1) := by decide +kernel
theorem dX9_one_102 : decode cX9_one 102 = .ok (.iload_n 1, 1) := by decide +kernel
theorem dX9_one_103 : decode cX9_one 103 = .ok (.bipush 33, 2) := by decide +kernel
theorem dX9_one_105 : decode cX9_one 105 = .ok (.if_icmp .ne 37, 3) := by decide +kernel
theorem dX9_one_108 : decode cX9_one 108 = .ok (.aload_n 0, 1) := by decide +kernel
theorem dX9_one_109 : decode cX9_one 109 = .ok (.invokevirtual 110, 3) := by decide +kernel
theorem dX9_one_112 : decode cX9_one 112 = .ok (.ifCond .eq 10, 3) := by decide +kernel
theorem dX9_one_115 : decode cX9_one 115 = .ok (.aload_n 0, 1) := by decide +kernel
theorem dX9_one_116 : decode cX9_one 116 = .ok (.invokevirtual 100, 3) := by decide +kernel
theorem dX9_one_119 : decode cX9_one 119 = .ok (.ifCond .ne 5, 3) := by decide +kernel
theorem dX9_one_122 : decode cX9_one 122 = .ok (.iconst 0, 1) := by decide +kernel
theorem dX9_one_123 : decode cX9_one 123 = .ok (.ireturn, 1) := by decide +kernel
theorem dX9_one_124 : decode cX9_one 124 = .ok (.aload_n 0, 1) := by decide +kernel
theorem dX9_one_125 : decode cX9_one 125 = .ok (.dup, 1) := by decide +kernel
theorem dX9_one_126 : decode cX9_one 126 = .ok (.getfield 103, 3) := by decide +kernel
theorem dX9_one_129 : decode cX9_one 129 = .ok (.iconst 1, 1) := by decide +kernel
theorem dX9_one_130 : decode cX9_one 130 = .ok (.isub, 1) := by decide +kernel
theorem dX9_one_131 : decode cX9_one 131 = .ok (.putfield 103, 3) := by decide +kernel
theorem dX9_one_134 : decode cX9_one 134 = .ok (.aload_n 0, 1) := by decide +kernel
theorem dX9_one_135 : decode cX9_one 135 = .ok (.iconst 2, 1) := by decide +kernel
theorem dX9_one_136 : decode cX9_one 136 = .ok (.iconst 0, 1) := by decide +kernel
theorem dX9_one_137 : decode cX9_one 137 = .ok (.invokevirtual 87, 3) := by decide +kernel
theorem dX9_one_140 : decode cX9_one 140 = .ok (.iconst 1, 1) := by decide +kernel
theorem dX9_one_141 : decode cX9_one 141 = .ok (.ireturn, 1) := by decide +kernel
theorem dX9_one_142 : decode cX9_one 142 = .ok (.iload_n 1, 1) := by decide +kernel
theorem dX9_one_143 : decode cX9_one 143 = .ok (.bipush 40, 2) := by decide +kernel
theorem dX9_one_145 : decode cX9_one 145 = .ok (.if_icmp .ne 26, 3) := by decide +kernel
theorem dX9_one_148 : decode cX9_one 148 = .ok (.aload_n 0, 1) := by decide +kernel
theorem dX9_one_149 : decode cX9_one 149 = .ok (.invokevirtual 110, 3) := by decide +kernel
theorem dX9_one_152 : decode cX9_one 152 = .ok (.ifCond .eq 19, 3) := by decide +kernel
theorem dX9_one_155 : decode cX9_one 155 = .ok (.aload_n 0, 1) := by decide +kernel
theorem dX9_one_156 : decode cX9_one 156 = .ok (.invokevirtual 113, 3) := by decide +kernel
theorem dX9_one_159 : decode cX9_one 159 = .ok (.ifCond .eq 12, 3) := by decide +kernel
theorem dX9_one_162 : decode cX9_one 162 = .ok (.aload_n 0, 1) := by decide +kernel
theorem dX9_one_163 : decode cX9_one 163 = .ok (.invokevirtual 83, 3) := by decide +kernel
theorem dX9_one_166 : decode cX9_one 166 = .ok (.bipush 41, 2) := by decide +kernel
theorem dX9_one_168 : decode cX9_one 168 = .ok (.if_icmp .eq 5, 3) := by decide +kernel
theorem dX9_one_171 : decode cX9_one 171 = .ok (.iconst 0, 1) := by decide +kernel
theorem dX9_one_172 : decode cX9_one 172 = .ok (.ireturn, 1) := by decide +kernel
theorem dX9_one_173 : decode cX9_one 173 = .ok (.aload_n 0, 1) := by decide +kernel
theorem dX9_one_174 : decode cX9_one 174 = .ok (.dup, 1) := by decide +kernel
theorem dX9_one_175 : decode cX9_one 175 = .ok (.getfield 69, 3) := by decide +kernel
theorem dX9_one_178 : decode cX9_one 178 = .ok (.iconst 1, 1) := by decide +kernel
theorem dX9_one_179 : decode cX9_one 179 = .ok (.iadd, 1) := by decide +kernel
theorem dX9_one_180 : decode cX9_one 180 = .ok (.putfield 69, 3) := by decide +kernel
theorem dX9_one_183 : decode cX9_one 183 = .ok (.aload_n 0, 1) := by decide +kernel
theorem dX9_one_184 : decode cX9_one 184 = .ok (.dup, 1) := by decide +kernel
theorem dX9_one_185 : decode cX9_one 185 = .ok (.getfield 103, 3) := by decide +kernel
theorem dX9_one_188 : decode cX9_one 188 = .ok (.iconst 1, 1) := by decide +kernel
theorem dX9_one_189 : decode cX9_one 189 = .ok (.isub, 1) := by decide +kernel
theorem dX9_one_190 : decode cX9_one 190 = .ok (.putfield 103, 3) := by decide +kernel
theorem dX9_one_193 : decode cX9_one 193 = .ok (.iconst 1, 1) := by decide +kernel
theorem dX9_one_194 : decode cX9_one 194 = .ok (.ireturn, 1) := by decide +kernel
theorem dX9_hasText_0 : decode cX9_hasText 0 = .ok (.aload_n 0, 1) := by decide +kernel
theorem dX9_hasText_1 : decode cX9_hasText 1 = .ok (.getfield 7, 3) := by decide +kernel
theorem dX9_hasText_4 : decode cX9_hasText 4 = .ok (.bipush 124, 2) := by decide +kernel
theorem dX9_hasText_6 : decode cX9_hasText 6 = .ok (.bipush 125, 2) := by decide +kernel
theorem dX9_hasText_8 : decode cX9_hasText 8 = .ok (.iload_n 1, 1) := by decide +kernel
theorem dX9_hasText_9 : decode cX9_hasText 9 = .ok (.imul, 1) := by decide +kernel
theorem dX9_hasText_10 : decode cX9_hasText 10 = .ok (.iadd, 1) := by decide +kernel
theorem dX9_hasText_11 : decode cX9_hasText 11 = .ok (.iaload, 1) := by decide +kernel
theorem dX9_hasText_12 : decode cX9_hasText 12 = .ok (.ifCond .le 7, 3) := by decide +kernel
theorem dX9_hasText_15 : decode cX9_hasText 15 = .ok (.iconst 1, 1) := by decide +kernel
theorem dX9_hasText_16 : decode cX9_hasText 16 = .ok (.goto 4, 3) := by decide +kernel
theorem dX9_hasText_19 : decode cX9_hasText 19 = .ok (.iconst 0, 1) := by decide +kernel
theorem dX9_hasText_20 : decode cX9_hasText 20 = .ok (.ireturn, 1) := by decide +kernel
theorem dX9_text_0 : decode cX9_text 0 = .ok (.iload_n 1, 1) := by decide +kernel
theorem dX9_text_1 : decode cX9_text 1 = .ok (.iconst 0, 1) := by decide +kernel
theorem dX9_text_2 : decode cX9_text 2 = .ok (.iconst 1, 1) := by decide +kernel
theorem dX9_text_3 : decode cX9_text 3 = .ok (.invokestatic 59, 3) := by decide +kernel
theorem dX9_text_6 : decode cX9_text 6 = .ok (.ifCond .ne 9, 3) := by decide +kernel
theorem dX9_text_9 : decode cX9_text 9 = .ok (.aload_n 0, 1) := by decide +kernel
theorem dX9_text_10 : decode cX9_text 10 = .ok (.iconst 1, 1) := by decide +kernel
theorem dX9_text_11 : decode cX9_text 11 = .ok (.invokevirtual 63, 3) := by decide +kernel
theorem dX9_text_14 : decode cX9_text 14 = .ok (.ireturn, 1) := by decide +kernel
theorem dX9_text_15 : decode cX9_text 15 = .ok (.aload_n 0, 1) := by decide +kernel
theorem dX9_text_16 : decode cX9_text 16 = .ok (.iload_n 1, 1) := by decide +kernel
theorem dX9_text_17 : decode cX9_text 17 = .ok (.putfield 73, 3) := by decide +kernel
theorem dX9_text_20 : decode cX9_text 20 = .ok (.aload_n 0, 1) := by decide +kernel
theorem dX9_text_21 : decode cX9_text 21 = .ok (.iconst 0, 1) := by decide +kernel
theorem dX9_text_22 : decode cX9_text 22 = .ok (.putfield 69, 3) := by decide +kernel
theorem dX9_text_25 : decode cX9_text 25 = .ok (.aload_n 0, 1) := by decide +kernel
theorem dX9_text_26 : decode cX9_text 26 = .ok (.iconst 0, 1) := by decide +kernel
theorem dX9_text_27 : decode cX9_text 27 = .ok (.putfield 103, 3) := by decide +kernel
theorem dX9_text_30 : decode cX9_text 30 = .ok (.aload_n 0, 1) := by decide +kernel
theorem dX9_text_31 : decode cX9_text 31 = .ok (.iconst 0, 1) := by decide +kernel
theorem dX9_text_32 : decode cX9_text 32 = .ok (.putfield 76, 3) := by decide +kernel
theorem dX9_text_35 : decode cX9_text 35 = .ok (.aload_n 0, 1) := by decide +kernel
theorem dX9_text_36 : decode cX9_text 36 = .ok (.invokevirtual 113, 3) := by decide +kernel
theorem dX9_text_39 : decode cX9_text 39 = .ok (.ifCond .eq 20, 3) := by decide +kernel
theorem dX9_text_42 : decode cX9_text 42 = .ok (.aload_n 0, 1) := by decide +kernel
theorem dX9_text_43 : decode cX9_text 43 = .ok (.getfield 69, 3) := by decide +kernel
theorem dX9_text_46 : decode cX9_text 46 = .ok (.aload_n 0, 1) := by decide +kernel
theorem dX9_text_47 : decode cX9_text 47 = .ok (.getfield 7, 3) := by decide +kernel
theorem dX9_text_50 : decode cX9_text 50 = .ok (.iconst 5, 1) := by decide +kernel
theorem dX9_text_51 : decode cX9_text 51 = .ok (.iaload, 1) := by decide +kernel
theorem dX9_text_52 : decode cX9_text 52 = .ok (.if_icmp .ne 7, 3) := by decide +kernel
theorem dX9_text_55 : decode cX9_text 55 = .ok (.iconst 1, 1) := by decide +kernel
theorem dX9_text_56 : decode cX9_text 56 = .ok (.goto 4, 3) := by decide +kernel
theorem dX9_text_59 : decode cX9_text 59 = .ok (.iconst 0, 1) := by decide +kernel
theorem dX9_text_60 : decode cX9_text 60 = .ok (.istore_n 2, 1) := by decide +kernel
theorem dX9_text_61 : decode cX9_text 61 = .ok (.aload_n 0, 1) := by decide +kernel
theorem dX9_text_62 : decode cX9_text 62 = .ok (.getfield 7, 3) := by decide +kernel
theorem dX9_text_65 : decode cX9_text 65 = .ok (.iconst 5, 1) := by decide +kernel
theorem dX9_text_66 : decode cX9_text 66 = .ok (.iconst 0, 1) := by decide +kernel
theorem dX9_text_67 : decode cX9_text 67 = .ok (.iastore, 1) := by decide +kernel
theorem dX9_text_68 : decode cX9_text 68 = .ok (.iload_n 2, 1) := by decide +kernel
theorem dX9_text_69 : decode cX9_text 69 = .ok (.ifCond .ne 11, 3) := by decide +kernel
theorem dX9_text_72 : decode cX9_text 72 = .ok (.bipush (-10), 2) := by decide +kernel
theorem dX9_text_74 : decode cX9_text 74 = .ok (.aload_n 0, 1) := by decide +kernel
theorem dX9_text_75 : decode cX9_text 75 = .ok (.getfield 69, 3) := by decide +kernel
theorem dX9_text_78 : decode cX9_text 78 = .ok (.isub, 1) := by decide +kernel
theorem dX9_text_79 : decode cX9_text 79 = .ok (.ireturn, 1) := by decide +kernel
theorem dX9_text_80 : decode cX9_text 80 = .ok (.bipush 124, 2) := by decide +kernel
theorem dX9_text_82 : decode cX9_text 82 = .ok (.bipush 125, 2) := by decide +kernel
theorem dX9_text_84 : decode cX9_text 84 = .ok (.iload_n 1, 1) := by decide +kernel
theorem dX9_text_85 : decode cX9_text 85 = .ok (.imul, 1) := by decide +kernel
theorem dX9_text_86 : decode cX9_text 86 = .ok (.iadd, 1) := by decide +kernel
theorem dX9_text_87 : decode cX9_text 87 = .ok (.istore_n 3, 1) := by decide +kernel
theorem dX9_text_88 : decode cX9_text 88 = .ok (.aload_n 0, 1) := by decide +kernel
theorem dX9_text_89 : decode cX9_text 89 = .ok (.getfield 7, 3) := by decide +kernel
theorem dX9_text_92 : decode cX9_text 92 = .ok (.iload_n 3, 1) := by decide +kernel
theorem dX9_text_93 : decode cX9_text 93 = .ok (.aload_n 0, 1) := by decide +kernel
theorem dX9_text_94 : decode cX9_text 94 = .ok (.getfield 76, 3) := by decide +kernel
theorem dX9_text_97 : decode cX9_text 97 = .ok (.iastore, 1) := by decide +kernel
theorem dX9_text_98 : decode cX9_text 98 = .ok (.iconst 0, 1) := by decide +kernel
theorem dX9_text_99 : decode cX9_text 99 = .ok (.istore 4, 2) := by decide +kernel
theorem dX9_text_101 : decode cX9_text 101 = .ok (.iload 4, 2) := by decide +kernel
theorem dX9_text_103 : decode cX9_text 103 = .ok (.iconst 2, 1) := by decide +kernel
theorem dX9_text_104 : decode cX9_text 104 = .ok (.aload_n 0, 1) := by decide +kernel
theorem dX9_text_105 : decode cX9_text 105 = .ok (.getfield 76, 3) := by decide +kernel
theorem dX9_text_108 : decode cX9_text 108 = .ok (.imul, 1) := by decide +kernel
theorem dX9_text_109 : decode cX9_text 109 = .ok (.if_icmp .ge 27, 3) := by decide +kernel
theorem dX9_text_112 : decode cX9_text 112 = .ok (.aload_n 0, 1) := by decide +kernel
theorem dX9_text_113 : decode cX9_text 113 = .ok (.getfield 7, 3) := by decide +kernel
theorem dX9_text_116 : decode cX9_text 116 = .ok (.iload_n 3, 1) := by decide +kernel
theorem dX9_text_117 : decode cX9_text 117 = .ok (.iconst 1, 1) := by decide +kernel
theorem dX9_text_118 : decode cX9_text 118 = .ok (.iadd, 1) := by decide +kernel
theorem dX9_text_119 : decode cX9_text 119 = .ok (.iload 4, 2) := by decide +kernel
theorem dX9_text_121 : decode cX9_text 121 = .ok (.iadd, 1) := by decide +kernel
theorem dX9_text_122 : decode cX9_text 122 = .ok (.aload_n 0, 1) := by decide +kernel
theorem dX9_text_123 : decode cX9_text 123 = .ok (.getfield 25, 3) := by decide +kernel
theorem dX9_text_126 : decode cX9_text 126 = .ok (.iload 4, 2) := by decide +kernel
theorem dX9_text_128 : decode cX9_text 128 = .ok (.iaload, 1) := by decide +kernel
theorem dX9_text_129 : decode cX9_text 129 = .ok (.iastore, 1) := by decide +kernel
theorem dX9_text_130 : decode cX9_text 130 = .ok (.iinc 4 1, 3) := by decide +kernel
theorem dX9_text_133 : decode cX9_text 133 = .ok (.goto (-32), 3) := by decide +kernel
theorem dX9_text_136 : decode cX9_text 136 = .ok (.iconst 1, 1) := by decide +kernel
theorem dX9_text_137 : decode cX9_text 137 = .ok (.ireturn, 1) := by decide +kernel
theorem dX9_untell_0 : decode cX9_untell 0 = .ok (.iload_n 1, 1) := by decide +kernel
theorem dX9_untell_1 : decode cX9_untell 1 = .ok (.iconst 0, 1) := by decide +kernel
theorem dX9_untell_2 : decode cX9_untell 2 = .ok (.iconst 1, 1) := by decide +kernel
theorem dX9_untell_3 : decode cX9_untell 3 = .ok (.invokestatic 59, 3) := by decide +kernel
theorem dX9_untell_6 : decode cX9_untell 6 = .ok (.ifCond .ne 9, 3) := by decide +kernel
theorem dX9_untell_9 : decode cX9_untell 9 = .ok (.aload_n 0, 1) := by decide +kernel
theorem dX9_untell_10 : decode cX9_untell 10 = .ok (.iconst 1, 1) := by decide +kernel
theorem dX9_untell_11 : decode cX9_untell 11 = .ok (.invokevirtual 63, 3) := by decide +kernel
theorem dX9_untell_14 : decode cX9_untell 14 = .ok (.ireturn, 1) := by decide +kernel
theorem dX9_untell_15 : decode cX9_untell 15 = .ok (.aload_n 0, 1) := by decide +kernel
theorem dX9_untell_16 : decode cX9_untell 16 = .ok (.iload_n 1, 1) := by decide +kernel
theorem dX9_untell_17 : decode cX9_untell 17 = .ok (.invokevirtual 116, 3) := by decide +kernel
theorem dX9_untell_20 : decode cX9_untell 20 = .ok (.ifCond .eq 7, 3) := by decide +kernel
theorem dX9_untell_23 : decode cX9_untell 23 = .ok (.iconst 1, 1) := by decide +kernel
theorem dX9_untell_24 : decode cX9_untell 24 = .ok (.goto 4, 3) := by decide +kernel
theorem dX9_untell_27 : decode cX9_untell 27 = .ok (.iconst 0, 1) := by decide +kernel
theorem dX9_untell_28 : decode cX9_untell 28 = .ok (.istore_n 2, 1) := by decide +kernel
theorem dX9_untell_29 : decode cX9_untell 29 = .ok (.aload_n 0, 1) := by decide +kernel
theorem dX9_untell_30 : decode cX9_untell 30 = .ok (.getfield 7, 3) := by decide +kernel
theorem dX9_untell_33 : decode cX9_untell 33 = .ok (.bipush 124, 2) := by decide +kernel
theorem dX9_untell_35 : decode cX9_untell 35 = .ok (.bipush 125, 2) := by decide +kernel
theorem dX9_untell_37 : decode cX9_untell 37 = .ok (.iload_n 1, 1) := by decide +kernel
theorem dX9_untell_38 : decode cX9_untell 38 = .ok (.imul, 1) := by decide +kernel
theorem dX9_untell_39 : decode cX9_untell 39 = .ok (.iadd, 1) := by decide +kernel
theorem dX9_untell_40 : decode cX9_untell 40 = .ok (.iconst 0, 1) := by decide +kernel
theorem dX9_untell_41 : decode cX9_untell 41 = .ok (.iastore, 1) := by decide +kernel
theorem dX9_untell_42 : decode cX9_untell 42 = .ok (.iload_n 2, 1) := by decide +kernel
theorem dX9_untell_43 : decode cX9_untell 43 = .ok (.ireturn, 1) := by decide +kernel
theorem dX9_joined_0 : decode cX9_joined 0 = .ok (.iload_n 0, 1) := by decide +kernel
theorem dX9_joined_1 : decode cX9_joined 1 = .ok (.tableswitch 217 37 62 #[153, 203, 217, 217, 217, 127, 119, 217, 123, 217, 131, 217, 217, 217, 217, 217, 217, 217, 217, 217, 217, 217, 217, 170, 192, 181], 119) := by decide +kernel
theorem dX9_joined_120 : decode cX9_joined 120 = .ok (.iload_n 1, 1) := by decide +kernel
theorem dX9_joined_121 : decode cX9_joined 121 = .ok (.iload_n 2, 1) := by decide +kernel
theorem dX9_joined_122 : decode cX9_joined 122 = .ok (.iadd, 1) := by decide +kernel
theorem dX9_joined_123 : decode cX9_joined 123 = .ok (.ireturn, 1) := by decide +kernel
theorem dX9_joined_124 : decode cX9_joined 124 = .ok (.iload_n 1, 1) := by decide +kernel
theorem dX9_joined_125 : decode cX9_joined 125 = .ok (.iload_n 2, 1) := by decide +kernel
theorem dX9_joined_126 : decode cX9_joined 126 = .ok (.isub, 1) := by decide +kernel
theorem dX9_joined_127 : decode cX9_joined 127 = .ok (.ireturn, 1) := by decide +kernel
theorem dX9_joined_128 : decode cX9_joined 128 = .ok (.iload_n 1, 1) := by decide +kernel
theorem dX9_joined_129 : decode cX9_joined 129 = .ok (.iload_n 2, 1) := by decide +kernel
theorem dX9_joined_130 : decode cX9_joined 130 = .ok (.imul, 1) := by decide +kernel
theorem dX9_joined_131 : decode cX9_joined 131 = .ok (.ireturn, 1) := by decide +kernel
theorem dX9_joined_132 : decode cX9_joined 132 = .ok (.iload_n 2, 1) := by decide +kernel
theorem dX9_joined_133 : decode cX9_joined 133 = .ok (.ifCond .ne 7, 3) := by decide +kernel
theorem dX9_joined_136 : decode cX9_joined 136 = .ok (.iconst 0, 1) := by decide +kernel
theorem dX9_joined_137 : decode cX9_joined 137 = .ok (.goto 16, 3) := by decide +kernel
theorem dX9_joined_140 : decode cX9_joined 140 = .ok (.iload_n 2, 1) := by decide +kernel
theorem dX9_joined_141 : decode cX9_joined 141 = .ok (.iconst (-1), 1) := by decide +kernel
theorem dX9_joined_142 : decode cX9_joined 142 = .ok (.if_icmp .ne 8, 3) := by decide +kernel
theorem dX9_joined_145 : decode cX9_joined 145 = .ok (.iload_n 1, 1) := by decide +kernel
theorem dX9_joined_146 : decode cX9_joined 146 = .ok (.ineg, 1) := by decide +kernel
theorem dX9_joined_147 : decode cX9_joined 147 = .ok (.goto 6, 3) := by decide +kernel
theorem dX9_joined_150 : decode cX9_joined 150 = .ok (.iload_n 1, 1) := by decide +kernel
theorem dX9_joined_151 : decode cX9_joined 151 = .ok (.iload_n 2, 1) := by decide +kernel
theorem dX9_joined_152 : decode cX9_joined 152 = .ok (.idiv, 1) := by decide +kernel
theorem dX9_joined_153 : decode cX9_joined 153 = .ok (.ireturn, 1) := by decide +kernel
theorem dX9_joined_154 : decode cX9_joined 154 = .ok (.iload_n 2, 1) := by decide +kernel
theorem dX9_joined_155 : decode cX9_joined 155 = .ok (.ifCond .eq 8, 3) := by decide +kernel
theorem dX9_joined_158 : decode cX9_joined 158 = .ok (.iload_n 2, 1) := by decide +kernel
theorem dX9_joined_159 : decode cX9_joined 159 = .ok (.iconst (-1), 1) := by decide +kernel
theorem dX9_joined_160 : decode cX9_joined 160 = .ok (.if_icmp .ne 7, 3) := by decide +kernel
theorem dX9_joined_163 : decode cX9_joined 163 = .ok (.iconst 0, 1) := by decide +kernel
theorem dX9_joined_164 : decode cX9_joined 164 = .ok (.goto 6, 3) := by decide +kernel
theorem dX9_joined_167 : decode cX9_joined 167 = .ok (.iload_n 1, 1) := by decide +kernel
theorem dX9_joined_168 : decode cX9_joined 168 = .ok (.iload_n 2, 1) := by decide +kernel
theorem dX9_joined_169 : decode cX9_joined 169 = .ok (.irem, 1) := by decide +kernel
theorem dX9_joined_170 : decode cX9_joined 170 = .ok (.ireturn, 1) := by decide +kernel
theorem dX9_joined_171 : decode cX9_joined 171 = .ok (.iload_n 1, 1) := by decide +kernel
theorem dX9_joined_172 : decode cX9_joined 172 = .ok (.iload_n 2, 1) := by decide +kernel
theorem dX9_joined_173 : decode cX9_joined 173 = .ok (.if_icmp .ge 7, 3) := by decide +kernel
theorem dX9_joined_176 : decode cX9_joined 176 = .ok (.iconst 1, 1) := by decide +kernel
theorem dX9_joined_177 : decode cX9_joined 177 = .ok (.goto 4, 3) := by decide +kernel
theorem dX9_joined_180 : decode cX9_joined 180 = .ok (.iconst 0, 1) := by decide +kernel
theorem dX9_joined_181 : decode cX9_joined 181 = .ok (.ireturn, 1) := by decide +kernel
theorem dX9_joined_182 : decode cX9_joined 182 = .ok (.iload_n 1, 1) := by decide +kernel
theorem dX9_joined_183 : decode cX9_joined 183 = .ok (.iload_n 2, 1) := by decide +kernel
theorem dX9_joined_184 : decode cX9_joined 184 = .ok (.if_icmp .le 7, 3) := by decide +kernel
theorem dX9_joined_187 : decode cX9_joined 187 = .ok (.iconst 1, 1) := by decide +kernel
theorem dX9_joined_188 : decode cX9_joined 188 = .ok (.goto 4, 3) := by decide +kernel
theorem dX9_joined_191 : decode cX9_joined 191 = .ok (.iconst 0, 1) := by decide +kernel
theorem dX9_joined_192 : decode cX9_joined 192 = .ok (.ireturn, 1) := by decide +kernel
theorem dX9_joined_193 : decode cX9_joined 193 = .ok (.iload_n 1, 1) := by decide +kernel
theorem dX9_joined_194 : decode cX9_joined 194 = .ok (.iload_n 2, 1) := by decide +kernel
theorem dX9_joined_195 : decode cX9_joined 195 = .ok (.if_icmp .ne 7, 3) := by decide +kernel
theorem dX9_joined_198 : decode cX9_joined 198 = .ok (.iconst 1, 1) := by decide +kernel
theorem dX9_joined_199 : decode cX9_joined 199 = .ok (.goto 4, 3) := by decide +kernel
theorem dX9_joined_202 : decode cX9_joined 202 = .ok (.iconst 0, 1) := by decide +kernel
theorem dX9_joined_203 : decode cX9_joined 203 = .ok (.ireturn, 1) := by decide +kernel
theorem dX9_joined_204 : decode cX9_joined 204 = .ok (.iload_n 1, 1) := by decide +kernel
theorem dX9_joined_205 : decode cX9_joined 205 = .ok (.ifCond .eq 11, 3) := by decide +kernel
theorem dX9_joined_208 : decode cX9_joined 208 = .ok (.iload_n 2, 1) := by decide +kernel
theorem dX9_joined_209 : decode cX9_joined 209 = .ok (.ifCond .eq 7, 3) := by decide +kernel
theorem dX9_joined_212 : decode cX9_joined 212 = .ok (.iconst 1, 1) := by decide +kernel
theorem dX9_joined_213 : decode cX9_joined 213 = .ok (.goto 4, 3) := by decide +kernel
theorem dX9_joined_216 : decode cX9_joined 216 = .ok (.iconst 0, 1) := by decide +kernel
theorem dX9_joined_217 : decode cX9_joined 217 = .ok (.ireturn, 1) := by decide +kernel
theorem dX9_joined_218 : decode cX9_joined 218 = .ok (.iload_n 1, 1) := by decide +kernel
theorem dX9_joined_219 : decode cX9_joined 219 = .ok (.ifCond .ne 7, 3) := by decide +kernel
theorem dX9_joined_222 : decode cX9_joined 222 = .ok (.iload_n 2, 1) := by decide +kernel
theorem dX9_joined_223 : decode cX9_joined 223 = .ok (.ifCond .eq 7, 3) := by decide +kernel
theorem dX9_joined_226 : decode cX9_joined 226 = .ok (.iconst 1, 1) := by decide +kernel
theorem dX9_joined_227 : decode cX9_joined 227 = .ok (.goto 4, 3) := by decide +kernel
theorem dX9_joined_230 : decode cX9_joined 230 = .ok (.iconst 0, 1) := by decide +kernel
theorem dX9_joined_231 : decode cX9_joined 231 = .ok (.ireturn, 1) := by decide +kernel
theorem dX9_worked_0 : decode cX9_worked 0 = .ok (.bipush 124, 2) := by decide +kernel
theorem dX9_worked_2 : decode cX9_worked 2 = .ok (.bipush 125, 2) := by decide +kernel
theorem dX9_worked_4 : decode cX9_worked 4 = .ok (.iload_n 1, 1) := by decide +kernel
theorem dX9_worked_5 : decode cX9_worked 5 = .ok (.imul, 1) := by decide +kernel
theorem dX9_worked_6 : decode cX9_worked 6 = .ok (.iadd, 1) := by decide +kernel
theorem dX9_worked_7 : decode cX9_worked 7 = .ok (.istore_n 2, 1) := by decide +kernel
theorem dX9_worked_8 : decode cX9_worked 8 = .ok (.iconst 0, 1) := by decide +kernel
theorem dX9_worked_9 : decode cX9_worked 9 = .ok (.istore_n 3, 1) := by decide +kernel
theorem dX9_worked_10 : decode cX9_worked 10 = .ok (.iconst 0, 1) := by decide +kernel
theorem dX9_worked_11 : decode cX9_worked 11 = .ok (.istore 4, 2) := by decide +kernel
theorem dX9_worked_13 : decode cX9_worked 13 = .ok (.iload 4, 2) := by decide +kernel
theorem dX9_worked_15 : decode cX9_worked 15 = .ok (.aload_n 0, 1) := by decide +kernel
theorem dX9_worked_16 : decode cX9_worked 16 = .ok (.getfield 7, 3) := by decide +kernel
theorem dX9_worked_19 : decode cX9_worked 19 = .ok (.iload_n 2, 1) := by decide +kernel
theorem dX9_worked_20 : decode cX9_worked 20 = .ok (.iaload, 1) := by decide +kernel
theorem dX9_worked_21 : decode cX9_worked 21 = .ok (.if_icmp .ge 142, 3) := by decide +kernel
theorem dX9_worked_24 : decode cX9_worked 24 = .ok (.aload_n 0, 1) := by decide +kernel
theorem dX9_worked_25 : decode cX9_worked 25 = .ok (.getfield 7, 3) := by decide +kernel
theorem dX9_worked_28 : decode cX9_worked 28 = .ok (.iload_n 2, 1) := by decide +kernel
theorem dX9_worked_29 : decode cX9_worked 29 = .ok (.iconst 1, 1) := by decide +kernel
theorem dX9_worked_30 : decode cX9_worked 30 = .ok (.iadd, 1) := by decide +kernel
theorem dX9_worked_31 : decode cX9_worked 31 = .ok (.iconst 2, 1) := by decide +kernel
theorem dX9_worked_32 : decode cX9_worked 32 = .ok (.iload 4, 2) := by decide +kernel
theorem dX9_worked_34 : decode cX9_worked 34 = .ok (.imul, 1) := by decide +kernel
theorem dX9_worked_35 : decode cX9_worked 35 = .ok (.iadd, 1) := by decide +kernel
theorem dX9_worked_36 : decode cX9_worked 36 = .ok (.iaload, 1) := by decide +kernel
theorem dX9_worked_37 : decode cX9_worked 37 = .ok (.istore 5, 2) := by decide +kernel
theorem dX9_worked_39 : decode cX9_worked 39 = .ok (.aload_n 0, 1) := by decide +kernel
theorem dX9_worked_40 : decode cX9_worked 40 = .ok (.getfield 7, 3) := by decide +kernel
theorem dX9_worked_43 : decode cX9_worked 43 = .ok (.iload_n 2, 1) := by decide +kernel
theorem dX9_worked_44 : decode cX9_worked 44 = .ok (.iconst 2, 1) := by decide +kernel
theorem dX9_worked_45 : decode cX9_worked 45 = .ok (.iadd, 1) := by decide +kernel
theorem dX9_worked_46 : decode cX9_worked 46 = .ok (.iconst 2, 1) := by decide +kernel
theorem dX9_worked_47 : decode cX9_worked 47 = .ok (.iload 4, 2) := by decide +kernel
theorem dX9_worked_49 : decode cX9_worked 49 = .ok (.imul, 1) := by decide +kernel
theorem dX9_worked_50 : decode cX9_worked 50 = .ok (.iadd, 1) := by decide +kernel
theorem dX9_worked_51 : decode cX9_worked 51 = .ok (.iaload, 1) := by decide +kernel
theorem dX9_worked_52 : decode cX9_worked 52 = .ok (.istore 6, 2) := by decide +kernel
theorem dX9_worked_54 : decode cX9_worked 54 = .ok (.iload 5, 2) := by decide +kernel
theorem dX9_worked_56 : decode cX9_worked 56 = .ok (.ifCond .eq 9, 3) := by decide +kernel
theorem dX9_worked_59 : decode cX9_worked 59 = .ok (.iload 5, 2) := by decide +kernel
theorem dX9_worked_61 : decode cX9_worked 61 = .ok (.iconst 1, 1) := by decide +kernel
theorem dX9_worked_62 : decode cX9_worked 62 = .ok (.if_icmp .ne 32, 3) := by decide +kernel
theorem dX9_worked_65 : decode cX9_worked 65 = .ok (.aload_n 0, 1) := by decide +kernel
theorem dX9_worked_66 : decode cX9_worked 66 = .ok (.getfield 31, 3) := by decide +kernel
theorem dX9_worked_69 : decode cX9_worked 69 = .ok (.iload_n 3, 1) := by decide +kernel
theorem dX9_worked_70 : decode cX9_worked 70 = .ok (.iload 5, 2) := by decide +kernel
theorem dX9_worked_72 : decode cX9_worked 72 = .ok (.ifCond .ne 8, 3) := by decide +kernel
theorem dX9_worked_75 : decode cX9_worked 75 = .ok (.iload 6, 2) := by decide +kernel
theorem dX9_worked_77 : decode cX9_worked 77 = .ok (.goto 10, 3) := by decide +kernel
theorem dX9_worked_80 : decode cX9_worked 80 = .ok (.aload_n 0, 1) := by decide +kernel
theorem dX9_worked_81 : decode cX9_worked 81 = .ok (.getfield 28, 3) := by decide +kernel
theorem dX9_worked_84 : decode cX9_worked 84 = .ok (.iload 6, 2) := by decide +kernel
theorem dX9_worked_86 : decode cX9_worked 86 = .ok (.iaload, 1) := by decide +kernel
theorem dX9_worked_87 : decode cX9_worked 87 = .ok (.iastore, 1) := by decide +kernel
theorem dX9_worked_88 : decode cX9_worked 88 = .ok (.iinc 3 1, 3) := by decide +kernel
theorem dX9_worked_91 : decode cX9_worked 91 = .ok (.goto 66, 3) := by decide +kernel
theorem dX9_worked_94 : decode cX9_worked 94 = .ok (.iload 5, 2) := by decide +kernel
theorem dX9_worked_96 : decode cX9_worked 96 = .ok (.iconst 2, 1) := by decide +kernel
theorem dX9_worked_97 : decode cX9_worked 97 = .ok (.if_icmp .ne 30, 3) := by decide +kernel
theorem dX9_worked_100 : decode cX9_worked 100 = .ok (.aload_n 0, 1) := by decide +kernel
theorem dX9_worked_101 : decode cX9_worked 101 = .ok (.getfield 31, 3) := by decide +kernel
theorem dX9_worked_104 : decode cX9_worked 104 = .ok (.iload_n 3, 1) := by decide +kernel
theorem dX9_worked_105 : decode cX9_worked 105 = .ok (.iconst 1, 1) := by decide +kernel
theorem dX9_worked_106 : decode cX9_worked 106 = .ok (.isub, 1) := by decide +kernel
theorem dX9_worked_107 : decode cX9_worked 107 = .ok (.aload_n 0, 1) := by decide +kernel
theorem dX9_worked_108 : decode cX9_worked 108 = .ok (.getfield 31, 3) := by decide +kernel
theorem dX9_worked_111 : decode cX9_worked 111 = .ok (.iload_n 3, 1) := by decide +kernel
theorem dX9_worked_112 : decode cX9_worked 112 = .ok (.iconst 1, 1) := by decide +kernel
theorem dX9_worked_113 : decode cX9_worked 113 = .ok (.isub, 1) := by decide +kernel
theorem dX9_worked_114 : decode cX9_worked 114 = .ok (.iaload, 1) := by decide +kernel
theorem dX9_worked_115 : decode cX9_worked 115 = .ok (.ifCond .ne 7, 3) := by decide +kernel
theorem dX9_worked_118 : decode cX9_worked 118 = .ok (.iconst 1, 1) := by decide +kernel
theorem dX9_worked_119 : decode cX9_worked 119 = .ok (.goto 4, 3) := by decide +kernel
theorem dX9_worked_122 : decode cX9_worked 122 = .ok (.iconst 0, 1) := by decide +kernel
theorem dX9_worked_123 : decode cX9_worked 123 = .ok (.iastore, 1) := by decide +kernel
theorem dX9_worked_124 : decode cX9_worked 124 = .ok (.goto 33, 3) := by decide +kernel
theorem dX9_worked_127 : decode cX9_worked 127 = .ok (.iinc 3 (-1), 3) := by decide +kernel
theorem dX9_worked_130 : decode cX9_worked 130 = .ok (.aload_n 0, 1) := by decide +kernel
theorem dX9_worked_131 : decode cX9_worked 131 = .ok (.getfield 31, 3) := by decide +kernel
theorem dX9_worked_134 : decode cX9_worked 134 = .ok (.iload_n 3, 1) := by decide +kernel
theorem dX9_worked_135 : decode cX9_worked 135 = .ok (.iconst 1, 1) := by decide +kernel
theorem dX9_worked_136 : decode cX9_worked 136 = .ok (.isub, 1) := by decide +kernel
theorem dX9_worked_137 : decode cX9_worked 137 = .ok (.iload 6, 2) := by decide +kernel
theorem dX9_worked_139 : decode cX9_worked 139 = .ok (.aload_n 0, 1) := by decide +kernel
theorem dX9_worked_140 : decode cX9_worked 140 = .ok (.getfield 31, 3) := by decide +kernel
theorem dX9_worked_143 : decode cX9_worked 143 = .ok (.iload_n 3, 1) := by decide +kernel
theorem dX9_worked_144 : decode cX9_worked 144 = .ok (.iconst 1, 1) := by decide +kernel
theorem dX9_worked_145 : decode cX9_worked 145 = .ok (.isub, 1) := by decide +kernel
theorem dX9_worked_146 : decode cX9_worked 146 = .ok (.iaload, 1) := by decide +kernel
theorem dX9_worked_147 : decode cX9_worked 147 = .ok (.aload_n 0, 1) := by decide +kernel
theorem dX9_worked_148 : decode cX9_worked 148 = .ok (.getfield 31, 3) := by decide +kernel
theorem dX9_worked_151 : decode cX9_worked 151 = .ok (.iload_n 3, 1) := by decide +kernel
theorem dX9_worked_152 : decode cX9_worked 152 = .ok (.iaload, 1) := by decide +kernel
theorem dX9_worked_153 : decode cX9_worked 153 = .ok (.invokestatic 119, 3) := by decide +kernel
theorem dX9_worked_156 : decode cX9_worked 156 = .ok (.iastore, 1) := by decide +kernel
theorem dX9_worked_157 : decode cX9_worked 157 = .ok (.iinc 4 1, 3) := by decide +kernel
theorem dX9_worked_160 : decode cX9_worked 160 = .ok (.goto (-147), 3) := by decide +kernel
theorem dX9_worked_163 : decode cX9_worked 163 = .ok (.aload_n 0, 1) := by decide +kernel
theorem dX9_worked_164 : decode cX9_worked 164 = .ok (.getfield 31, 3) := by decide +kernel
theorem dX9_worked_167 : decode cX9_worked 167 = .ok (.iconst 0, 1) := by decide +kernel
theorem dX9_worked_168 : decode cX9_worked 168 = .ok (.iaload, 1) := by decide +kernel
theorem dX9_worked_169 : decode cX9_worked 169 = .ok (.ireturn, 1) := by decide +kernel
theorem dX9_keepsTold_0 : decode cX9_keepsTold 0 = .ok (.aload_n 0, 1) := by decide +kernel
theorem dX9_keepsTold_1 : decode cX9_keepsTold 1 = .ok (.iconst 0, 1) := by decide +kernel
theorem dX9_keepsTold_2 : decode cX9_keepsTold 2 = .ok (.invokevirtual 116, 3) := by decide +kernel
theorem dX9_keepsTold_5 : decode cX9_keepsTold 5 = .ok (.ifCond .ne 10, 3) := by decide +kernel
theorem dX9_keepsTold_8 : decode cX9_keepsTold 8 = .ok (.aload_n 0, 1) := by decide +kernel
theorem dX9_keepsTold_9 : decode cX9_keepsTold 9 = .ok (.iload_n 1, 1) := by decide +kernel
theorem dX9_keepsTold_10 : decode cX9_keepsTold 10 = .ok (.iconst 1, 1) := by decide +kernel
theorem dX9_keepsTold_11 : decode cX9_keepsTold 11 = .ok (.invokevirtual 123, 3) := by decide +kernel
theorem dX9_keepsTold_14 : decode cX9_keepsTold 14 = .ok (.ireturn, 1) := by decide +kernel
theorem dX9_keepsTold_15 : decode cX9_keepsTold 15 = .ok (.aload_n 0, 1) := by decide +kernel
theorem dX9_keepsTold_16 : decode cX9_keepsTold 16 = .ok (.getfield 28, 3) := by decide +kernel
theorem dX9_keepsTold_19 : decode cX9_keepsTold 19 = .ok (.bipush 109, 2) := by decide +kernel
theorem dX9_keepsTold_21 : decode cX9_keepsTold 21 = .ok (.aload_n 0, 1) := by decide +kernel
theorem dX9_keepsTold_22 : decode cX9_keepsTold 22 = .ok (.iload_n 1, 1) := by decide +kernel
theorem dX9_keepsTold_23 : decode cX9_keepsTold 23 = .ok (.iconst 1, 1) := by decide +kernel
theorem dX9_keepsTold_24 : decode cX9_keepsTold 24 = .ok (.invokevirtual 123, 3) := by decide +kernel
theorem dX9_keepsTold_27 : decode cX9_keepsTold 27 = .ok (.iastore, 1) := by decide +kernel
theorem dX9_keepsTold_28 : decode cX9_keepsTold 28 = .ok (.aload_n 0, 1) := by decide +kernel
theorem dX9_keepsTold_29 : decode cX9_keepsTold 29 = .ok (.getfield 28, 3) := by decide +kernel
theorem dX9_keepsTold_32 : decode cX9_keepsTold 32 = .ok (.bipush 116, 2) := by decide +kernel
theorem dX9_keepsTold_34 : decode cX9_keepsTold 34 = .ok (.aload_n 0, 1) := by decide +kernel
theorem dX9_keepsTold_35 : decode cX9_keepsTold 35 = .ok (.getfield 7, 3) := by decide +kernel
theorem dX9_keepsTold_38 : decode cX9_keepsTold 38 = .ok (.iconst 2, 1) := by decide +kernel
theorem dX9_keepsTold_39 : decode cX9_keepsTold 39 = .ok (.iaload, 1) := by decide +kernel
theorem dX9_keepsTold_40 : decode cX9_keepsTold 40 = .ok (.iastore, 1) := by decide +kernel
theorem dX9_keepsTold_41 : decode cX9_keepsTold 41 = .ok (.aload_n 0, 1) := by decide +kernel
theorem dX9_keepsTold_42 : decode cX9_keepsTold 42 = .ok (.getfield 28, 3) := by decide +kernel
theorem dX9_keepsTold_45 : decode cX9_keepsTold 45 = .ok (.bipush 112, 2) := by decide +kernel
theorem dX9_keepsTold_47 : decode cX9_keepsTold 47 = .ok (.aload_n 0, 1) := by decide +kernel
theorem dX9_keepsTold_48 : decode cX9_keepsTold 48 = .ok (.getfield 7, 3) := by decide +kernel
theorem dX9_keepsTold_51 : decode cX9_keepsTold 51 = .ok (.iconst 0, 1) := by decide +kernel
theorem dX9_keepsTold_52 : decode cX9_keepsTold 52 = .ok (.iaload, 1) := by decide +kernel
theorem dX9_keepsTold_53 : decode cX9_keepsTold 53 = .ok (.iastore, 1) := by decide +kernel
theorem dX9_keepsTold_54 : decode cX9_keepsTold 54 = .ok (.aload_n 0, 1) := by decide +kernel
theorem dX9_keepsTold_55 : decode cX9_keepsTold 55 = .ok (.iconst 0, 1) := by decide +kernel
theorem dX9_keepsTold_56 : decode cX9_keepsTold 56 = .ok (.invokevirtual 127, 3) := by decide +kernel
theorem dX9_keepsTold_59 : decode cX9_keepsTold 59 = .ok (.ireturn, 1) := by decide +kernel
theorem dX9_keeps_0 : decode cX9_keeps 0 = .ok (.iconst 3, 1) := by decide +kernel
theorem dX9_keeps_1 : decode cX9_keeps 1 = .ok (.istore_n 2, 1) := by decide +kernel
theorem dX9_keeps_2 : decode cX9_keeps 2 = .ok (.aload_n 0, 1) := by decide +kernel
theorem dX9_keeps_3 : decode cX9_keeps 3 = .ok (.iload_n 1, 1) := by decide +kernel
theorem dX9_keeps_4 : decode cX9_keeps 4 = .ok (.iconst 0, 1) := by decide +kernel
theorem dX9_keeps_5 : decode cX9_keeps 5 = .ok (.invokevirtual 123, 3) := by decide +kernel
theorem dX9_keeps_8 : decode cX9_keeps 8 = .ok (.tableswitch 78 1 6 #[40, 78, 52, 57, 78, 69], 40) := by decide +kernel
theorem dX9_keeps_48 : decode cX9_keeps 48 = .ok (.iconst 3, 1) := by decide +kernel
theorem dX9_keeps_49 : decode cX9_keeps 49 = .ok (.aload_n 0, 1) := by decide +kernel
theorem dX9_keeps_50 : decode cX9_keeps 50 = .ok (.iload_n 1, 1) := by decide +kernel
theorem dX9_keeps_51 : decode cX9_keeps 51 = .ok (.iconst 1, 1) := by decide +kernel
theorem dX9_keeps_52 : decode cX9_keeps 52 = .ok (.invokevirtual 123, 3) := by decide +kernel
theorem dX9_keeps_55 : decode cX9_keeps 55 = .ok (.iadd, 1) := by decide +kernel
theorem dX9_keeps_56 : decode cX9_keeps 56 = .ok (.istore_n 2, 1) := by decide +kernel
theorem dX9_keeps_57 : decode cX9_keeps 57 = .ok (.goto 29, 3) := by decide +kernel
theorem dX9_keeps_60 : decode cX9_keeps 60 = .ok (.iconst 0, 1) := by decide +kernel
theorem dX9_keeps_61 : decode cX9_keeps 61 = .ok (.istore_n 2, 1) := by decide +kernel
theorem dX9_keeps_62 : decode cX9_keeps 62 = .ok (.goto 24, 3) := by decide +kernel
theorem dX9_keeps_65 : decode cX9_keeps 65 = .ok (.iconst 2, 1) := by decide +kernel
theorem dX9_keeps_66 : decode cX9_keeps 66 = .ok (.aload_n 0, 1) := by decide +kernel
theorem dX9_keeps_67 : decode cX9_keeps 67 = .ok (.iload_n 1, 1) := by decide +kernel
theorem dX9_keeps_68 : decode cX9_keeps 68 = .ok (.iconst 1, 1) := by decide +kernel
theorem dX9_keeps_69 : decode cX9_keeps 69 = .ok (.invokevirtual 123, 3) := by decide +kernel
theorem dX9_keeps_72 : decode cX9_keeps 72 = .ok (.iadd, 1) := by decide +kernel
theorem dX9_keeps_73 : decode cX9_keeps 73 = .ok (.istore_n 2, 1) := by decide +kernel
theorem dX9_keeps_74 : decode cX9_keeps 74 = .ok (.goto 12, 3) := by decide +kernel
theorem dX9_keeps_77 : decode cX9_keeps 77 = .ok (.aload_n 0, 1) := by decide +kernel
theorem dX9_keeps_78 : decode cX9_keeps 78 = .ok (.iload_n 1, 1) := by decide +kernel
theorem dX9_keeps_79 : decode cX9_keeps 79 = .ok (.invokevirtual 130, 3) := by decide +kernel
theorem dX9_keeps_82 : decode cX9_keeps 82 = .ok (.istore_n 2, 1) := by decide +kernel
theorem dX9_keeps_83 : decode cX9_keeps 83 = .ok (.goto 3, 3) := by decide +kernel
theorem dX9_keeps_86 : decode cX9_keeps 86 = .ok (.iload_n 2, 1) := by decide +kernel
theorem dX9_keeps_87 : decode cX9_keeps 87 = .ok (.iconst 0, 1) := by decide +kernel
theorem dX9_keeps_88 : decode cX9_keeps 88 = .ok (.bipush 8, 2) := by decide +kernel
theorem dX9_keeps_90 : decode cX9_keeps 90 = .ok (.invokestatic 133, 3) := by decide +kernel
theorem dX9_keeps_93 : decode cX9_keeps 93 = .ok (.ireturn, 1) := by decide +kernel
theorem dX9_fareTold_0 : decode cX9_fareTold 0 = .ok (.aload_n 0, 1) := by decide +kernel
theorem dX9_fareTold_1 : decode cX9_fareTold 1 = .ok (.iconst 1, 1) := by decide +kernel
theorem dX9_fareTold_2 : decode cX9_fareTold 2 = .ok (.invokevirtual 116, 3) := by decide +kernel
theorem dX9_fareTold_5 : decode cX9_fareTold 5 = .ok (.ifCond .ne 17, 3) := by decide +kernel
theorem dX9_fareTold_8 : decode cX9_fareTold 8 = .ok (.aload_n 0, 1) := by decide +kernel
theorem dX9_fareTold_9 : decode cX9_fareTold 9 = .ok (.iload_n 1, 1) := by decide +kernel
theorem dX9_fareTold_10 : decode cX9_fareTold 10 = .ok (.iconst 1, 1) := by decide +kernel
theorem dX9_fareTold_11 : decode cX9_fareTold 11 = .ok (.invokevirtual 123, 3) := by decide +kernel
theorem dX9_fareTold_14 : decode cX9_fareTold 14 = .ok (.aload_n 0, 1) := by decide +kernel
theorem dX9_fareTold_15 : decode cX9_fareTold 15 = .ok (.iload_n 1, 1) := by decide +kernel
theorem dX9_fareTold_16 : decode cX9_fareTold 16 = .ok (.iconst 4, 1) := by decide +kernel
theorem dX9_fareTold_17 : decode cX9_fareTold 17 = .ok (.invokevirtual 123, 3) := by decide +kernel
theorem dX9_fareTold_20 : decode cX9_fareTold 20 = .ok (.iadd, 1) := by decide +kernel
theorem dX9_fareTold_21 : decode cX9_fareTold 21 = .ok (.ireturn, 1) := by decide +kernel
theorem dX9_fareTold_22 : decode cX9_fareTold 22 = .ok (.aload_n 0, 1) := by decide +kernel
theorem dX9_fareTold_23 : decode cX9_fareTold 23 = .ok (.getfield 28, 3) := by decide +kernel
theorem dX9_fareTold_26 : decode cX9_fareTold 26 = .ok (.bipush 109, 2) := by decide +kernel
theorem dX9_fareTold_28 : decode cX9_fareTold 28 = .ok (.aload_n 0, 1) := by decide +kernel
theorem dX9_fareTold_29 : decode cX9_fareTold 29 = .ok (.iload_n 1, 1) := by decide +kernel
theorem dX9_fareTold_30 : decode cX9_fareTold 30 = .ok (.iconst 1, 1) := by decide +kernel
theorem dX9_fareTold_31 : decode cX9_fareTold 31 = .ok (.invokevirtual 123, 3) := by decide +kernel
theorem dX9_fareTold_34 : decode cX9_fareTold 34 = .ok (.iastore, 1) := by decide +kernel
theorem dX9_fareTold_35 : decode cX9_fareTold 35 = .ok (.aload_n 0, 1) := by decide +kernel
theorem dX9_fareTold_36 : decode cX9_fareTold 36 = .ok (.getfield 28, 3) := by decide +kernel
theorem dX9_fareTold_39 : decode cX9_fareTold 39 = .ok (.bipush 107, 2) := by decide +kernel
theorem dX9_fareTold_41 : decode cX9_fareTold 41 = .ok (.aload_n 0, 1) := by decide +kernel
theorem dX9_fareTold_42 : decode cX9_fareTold 42 = .ok (.iload_n 1, 1) := by decide +kernel
theorem dX9_fareTold_43 : decode cX9_fareTold 43 = .ok (.iconst 4, 1) := by decide +kernel
theorem dX9_fareTold_44 : decode cX9_fareTold 44 = .ok (.invokevirtual 123, 3) := by decide +kernel
theorem dX9_fareTold_47 : decode cX9_fareTold 47 = .ok (.iastore, 1) := by decide +kernel
theorem dX9_fareTold_48 : decode cX9_fareTold 48 = .ok (.aload_n 0, 1) := by decide +kernel
theorem dX9_fareTold_49 : decode cX9_fareTold 49 = .ok (.getfield 28, 3) := by decide +kernel
theorem dX9_fareTold_52 : decode cX9_fareTold 52 = .ok (.bipush 98, 2) := by decide +kernel
theorem dX9_fareTold_54 : decode cX9_fareTold 54 = .ok (.aload_n 0, 1) := by decide +kernel
theorem dX9_fareTold_55 : decode cX9_fareTold 55 = .ok (.iload_n 1, 1) := by decide +kernel
theorem dX9_fareTold_56 : decode cX9_fareTold 56 = .ok (.iconst 2, 1) := by decide +kernel
theorem dX9_fareTold_57 : decode cX9_fareTold 57 = .ok (.invokevirtual 123, 3) := by decide +kernel
theorem dX9_fareTold_60 : decode cX9_fareTold 60 = .ok (.iastore, 1) := by decide +kernel
theorem dX9_fareTold_61 : decode cX9_fareTold 61 = .ok (.aload_n 0, 1) := by decide +kernel
theorem dX9_fareTold_62 : decode cX9_fareTold 62 = .ok (.iconst 1, 1) := by decide +kernel
theorem dX9_fareTold_63 : decode cX9_fareTold 63 = .ok (.invokevirtual 127, 3) := by decide +kernel
theorem dX9_fareTold_66 : decode cX9_fareTold 66 = .ok (.ireturn, 1) := by decide +kernel
theorem dX9_fare_0 : decode cX9_fare 0 = .ok (.iconst 2, 1) := by decide +kernel
theorem dX9_fare_1 : decode cX9_fare 1 = .ok (.aload_n 0, 1) := by decide +kernel
theorem dX9_fare_2 : decode cX9_fare 2 = .ok (.iload_n 1, 1) := by decide +kernel
theorem dX9_fare_3 : decode cX9_fare 3 = .ok (.iconst 1, 1) := by decide +kernel
theorem dX9_fare_4 : decode cX9_fare 4 = .ok (.invokevirtual 123, 3) := by decide +kernel
theorem dX9_fare_7 : decode cX9_fare 7 = .ok (.iadd, 1) := by decide +kernel
theorem dX9_fare_8 : decode cX9_fare 8 = .ok (.istore_n 2, 1) := by decide +kernel
theorem dX9_fare_9 : decode cX9_fare 9 = .ok (.iload_n 2, 1) := by decide +kernel
theorem dX9_fare_10 : decode cX9_fare 10 = .ok (.istore_n 3, 1) := by decide +kernel
theorem dX9_fare_11 : decode cX9_fare 11 = .ok (.aload_n 0, 1) := by decide +kernel
theorem dX9_fare_12 : decode cX9_fare 12 = .ok (.iload_n 1, 1) := by decide +kernel
theorem dX9_fare_13 : decode cX9_fare 13 = .ok (.iconst 0, 1) := by decide +kernel
theorem dX9_fare_14 : decode cX9_fare 14 = .ok (.invokevirtual 123, 3) := by decide +kernel
theorem dX9_fare_17 : decode cX9_fare 17 = .ok (.tableswitch 63 2 6 #[35, 42, 47, 35, 54], 35) := by decide +kernel
theorem dX9_fare_52 : decode cX9_fare 52 = .ok (.iload_n 2, 1) := by decide +kernel
theorem dX9_fare_53 : decode cX9_fare 53 = .ok (.iconst 2, 1) := by decide +kernel
theorem dX9_fare_54 : decode cX9_fare 54 = .ok (.idiv, 1) := by decide +kernel
theorem dX9_fare_55 : decode cX9_fare 55 = .ok (.istore_n 3, 1) := by decide +kernel
theorem dX9_fare_56 : decode cX9_fare 56 = .ok (.goto 24, 3) := by decide +kernel
theorem dX9_fare_59 : decode cX9_fare 59 = .ok (.iconst 1, 1) := by decide +kernel
theorem dX9_fare_60 : decode cX9_fare 60 = .ok (.istore_n 3, 1) := by decide +kernel
theorem dX9_fare_61 : decode cX9_fare 61 = .ok (.goto 19, 3) := by decide +kernel
theorem dX9_fare_64 : decode cX9_fare 64 = .ok (.iload_n 2, 1) := by decide +kernel
theorem dX9_fare_65 : decode cX9_fare 65 = .ok (.iconst 1, 1) := by decide +kernel
theorem dX9_fare_66 : decode cX9_fare 66 = .ok (.iadd, 1) := by decide +kernel
theorem dX9_fare_67 : decode cX9_fare 67 = .ok (.istore_n 3, 1) := by decide +kernel
theorem dX9_fare_68 : decode cX9_fare 68 = .ok (.goto 12, 3) := by decide +kernel
theorem dX9_fare_71 : decode cX9_fare 71 = .ok (.aload_n 0, 1) := by decide +kernel
theorem dX9_fare_72 : decode cX9_fare 72 = .ok (.iload_n 1, 1) := by decide +kernel
theorem dX9_fare_73 : decode cX9_fare 73 = .ok (.invokevirtual 136, 3) := by decide +kernel
theorem dX9_fare_76 : decode cX9_fare 76 = .ok (.istore_n 3, 1) := by decide +kernel
theorem dX9_fare_77 : decode cX9_fare 77 = .ok (.goto 3, 3) := by decide +kernel
theorem dX9_fare_80 : decode cX9_fare 80 = .ok (.iload_n 3, 1) := by decide +kernel
theorem dX9_fare_81 : decode cX9_fare 81 = .ok (.iconst 0, 1) := by decide +kernel
theorem dX9_fare_82 : decode cX9_fare 82 = .ok (.bipush 99, 2) := by decide +kernel
theorem dX9_fare_84 : decode cX9_fare 84 = .ok (.invokestatic 133, 3) := by decide +kernel
theorem dX9_fare_87 : decode cX9_fare 87 = .ok (.ireturn, 1) := by decide +kernel
theorem dX9_placeOf_0 : decode cX9_placeOf 0 = .ok (.iconst (-1), 1) := by decide +kernel
theorem dX9_placeOf_1 : decode cX9_placeOf 1 = .ok (.istore_n 3, 1) := by decide +kernel
theorem dX9_placeOf_2 : decode cX9_placeOf 2 = .ok (.iconst 0, 1) := by decide +kernel
theorem dX9_placeOf_3 : decode cX9_placeOf 3 = .ok (.istore 4, 2) := by decide +kernel
theorem dX9_placeOf_5 : decode cX9_placeOf 5 = .ok (.iload 4, 2) := by decide +kernel
theorem dX9_placeOf_7 : decode cX9_placeOf 7 = .ok (.aload_n 0, 1) := by decide +kernel
theorem dX9_placeOf_8 : decode cX9_placeOf 8 = .ok (.iload_n 1, 1) := by decide +kernel
theorem dX9_placeOf_9 : decode cX9_placeOf 9 = .ok (.iconst 4, 1) := by decide +kernel
theorem dX9_placeOf_10 : decode cX9_placeOf 10 = .ok (.invokevirtual 123, 3) := by decide +kernel
theorem dX9_placeOf_13 : decode cX9_placeOf 13 = .ok (.if_icmp .ge 29, 3) := by decide +kernel
theorem dX9_placeOf_16 : decode cX9_placeOf 16 = .ok (.aload_n 0, 1) := by decide +kernel
theorem dX9_placeOf_17 : decode cX9_placeOf 17 = .ok (.iload_n 1, 1) := by decide +kernel
theorem dX9_placeOf_18 : decode cX9_placeOf 18 = .ok (.iconst 5, 1) := by decide +kernel
theorem dX9_placeOf_19 : decode cX9_placeOf 19 = .ok (.iload 4, 2) := by decide +kernel
theorem dX9_placeOf_21 : decode cX9_placeOf 21 = .ok (.iadd, 1) := by decide +kernel
theorem dX9_placeOf_22 : decode cX9_placeOf 22 = .ok (.invokevirtual 123, 3) := by decide +kernel
theorem dX9_placeOf_25 : decode cX9_placeOf 25 = .ok (.iload_n 2, 1) := by decide +kernel
theorem dX9_placeOf_26 : decode cX9_placeOf 26 = .ok (.if_icmp .ne 8, 3) := by decide +kernel
theorem dX9_placeOf_29 : decode cX9_placeOf 29 = .ok (.iload 4, 2) := by decide +kernel
theorem dX9_placeOf_31 : decode cX9_placeOf 31 = .ok (.goto 4, 3) := by decide +kernel
theorem dX9_placeOf_34 : decode cX9_placeOf 34 = .ok (.iload_n 3, 1) := by decide +kernel
theorem dX9_placeOf_35 : decode cX9_placeOf 35 = .ok (.istore_n 3, 1) := by decide +kernel
theorem dX9_placeOf_36 : decode cX9_placeOf 36 = .ok (.iinc 4 1, 3) := by decide +kernel
theorem dX9_placeOf_39 : decode cX9_placeOf 39 = .ok (.goto (-34), 3) := by decide +kernel
theorem dX9_placeOf_42 : decode cX9_placeOf 42 = .ok (.iload_n 3, 1) := by decide +kernel
theorem dX9_placeOf_43 : decode cX9_placeOf 43 = .ok (.ireturn, 1) := by decide +kernel
theorem dX9_knows_0 : decode cX9_knows 0 = .ok (.aload_n 0, 1) := by decide +kernel
theorem dX9_knows_1 : decode cX9_knows 1 = .ok (.iload_n 1, 1) := by decide +kernel
theorem dX9_knows_2 : decode cX9_knows 2 = .ok (.iload_n 2, 1) := by decide +kernel
theorem dX9_knows_3 : decode cX9_knows 3 = .ok (.invokevirtual 139, 3) := by decide +kernel
theorem dX9_knows_6 : decode cX9_knows 6 = .ok (.iconst (-1), 1) := by decide +kernel
theorem dX9_knows_7 : decode cX9_knows 7 = .ok (.if_icmp .eq 7, 3) := by decide +kernel
theorem dX9_knows_10 : decode cX9_knows 10 = .ok (.iconst 1, 1) := by decide +kernel
theorem dX9_knows_11 : decode cX9_knows 11 = .ok (.goto 4, 3) := by decide +kernel
theorem dX9_knows_14 : decode cX9_knows 14 = .ok (.iconst 0, 1) := by decide +kernel
theorem dX9_knows_15 : decode cX9_knows 15 = .ok (.ireturn, 1) := by decide +kernel
theorem dX9_forgets_0 : decode cX9_forgets 0 = .ok (.aload_n 0, 1) := by decide +kernel
theorem dX9_forgets_1 : decode cX9_forgets 1 = .ok (.iload_n 1, 1) := by decide +kernel
theorem dX9_forgets_2 : decode cX9_forgets 2 = .ok (.iload_n 2, 1) := by decide +kernel
theorem dX9_forgets_3 : decode cX9_forgets 3 = .ok (.invokevirtual 139, 3) := by decide +kernel
theorem dX9_forgets_6 : decode cX9_forgets 6 = .ok (.istore_n 3, 1) := by decide +kernel
theorem dX9_forgets_7 : decode cX9_forgets 7 = .ok (.iload_n 3, 1) := by decide +kernel
theorem dX9_forgets_8 : decode cX9_forgets 8 = .ok (.iconst (-1), 1) := by decide +kernel
theorem dX9_forgets_9 : decode cX9_forgets 9 = .ok (.if_icmp .eq 59, 3) := by decide +kernel
theorem dX9_forgets_12 : decode cX9_forgets 12 = .ok (.iload_n 3, 1) := by decide +kernel
theorem dX9_forgets_13 : decode cX9_forgets 13 = .ok (.istore 4, 2) := by decide +kernel
theorem dX9_forgets_15 : decode cX9_forgets 15 = .ok (.iload 4, 2) := by decide +kernel
theorem dX9_forgets_17 : decode cX9_forgets 17 = .ok (.iconst 1, 1) := by decide +kernel
theorem dX9_forgets_18 : decode cX9_forgets 18 = .ok (.iadd, 1) := by decide +kernel
theorem dX9_forgets_19 : decode cX9_forgets 19 = .ok (.aload_n 0, 1) := by decide +kernel
theorem dX9_forgets_20 : decode cX9_forgets 20 = .ok (.iload_n 1, 1) := by decide +kernel
theorem dX9_forgets_21 : decode cX9_forgets 21 = .ok (.iconst 4, 1) := by decide +kernel
theorem dX9_forgets_22 : decode cX9_forgets 22 = .ok (.invokevirtual 123, 3) := by decide +kernel
theorem dX9_forgets_25 : decode cX9_forgets 25 = .ok (.if_icmp .ge 29, 3) := by decide +kernel
theorem dX9_forgets_28 : decode cX9_forgets 28 = .ok (.aload_n 0, 1) := by decide +kernel
theorem dX9_forgets_29 : decode cX9_forgets 29 = .ok (.iload_n 1, 1) := by decide +kernel
theorem dX9_forgets_30 : decode cX9_forgets 30 = .ok (.iconst 5, 1) := by decide +kernel
theorem dX9_forgets_31 : decode cX9_forgets 31 = .ok (.iload 4, 2) := by decide +kernel
theorem dX9_forgets_33 : decode cX9_forgets 33 = .ok (.iadd, 1) := by decide +kernel
theorem dX9_forgets_34 : decode cX9_forgets 34 = .ok (.aload_n 0, 1) := by decide +kernel
theorem dX9_forgets_35 : decode cX9_forgets 35 = .ok (.iload_n 1, 1) := by decide +kernel
theorem dX9_forgets_36 : decode cX9_forgets 36 = .ok (.iconst 5, 1) := by decide +kernel
theorem dX9_forgets_37 : decode cX9_forgets 37 = .ok (.iload 4, 2) := by decide +kernel
theorem dX9_forgets_39 : decode cX9_forgets 39 = .ok (.iadd, 1) := by decide +kernel
theorem dX9_forgets_40 : decode cX9_forgets 40 = .ok (.iconst 1, 1) := by decide +kernel
theorem dX9_forgets_41 : decode cX9_forgets 41 = .ok (.iadd, 1) := by decide +kernel
theorem dX9_forgets_42 : decode cX9_forgets 42 = .ok (.invokevirtual 123, 3) := by decide +kernel
theorem dX9_forgets_45 : decode cX9_forgets 45 = .ok (.invokevirtual 142, 3) := by decide +kernel
theorem dX9_forgets_48 : decode cX9_forgets 48 = .ok (.iinc 4 1, 3) := by decide +kernel
theorem dX9_forgets_51 : decode cX9_forgets 51 = .ok (.goto (-36), 3) := by decide +kernel
theorem dX9_forgets_54 : decode cX9_forgets 54 = .ok (.aload_n 0, 1) := by decide +kernel
theorem dX9_forgets_55 : decode cX9_forgets 55 = .ok (.iload_n 1, 1) := by decide +kernel
theorem dX9_forgets_56 : decode cX9_forgets 56 = .ok (.iconst 4, 1) := by decide +kernel
theorem dX9_forgets_57 : decode cX9_forgets 57 = .ok (.aload_n 0, 1) := by decide +kernel
theorem dX9_forgets_58 : decode cX9_forgets 58 = .ok (.iload_n 1, 1) := by decide +kernel
theorem dX9_forgets_59 : decode cX9_forgets 59 = .ok (.iconst 4, 1) := by decide +kernel
theorem dX9_forgets_60 : decode cX9_forgets 60 = .ok (.invokevirtual 123, 3) := by decide +kernel
theorem dX9_forgets_63 : decode cX9_forgets 63 = .ok (.iconst 1, 1) := by decide +kernel
theorem dX9_forgets_64 : decode cX9_forgets 64 = .ok (.isub, 1) := by decide +kernel
theorem dX9_forgets_65 : decode cX9_forgets 65 = .ok (.invokevirtual 142, 3) := by decide +kernel
theorem dX9_forgets_68 : decode cX9_forgets 68 = .ok (.return_, 1) := by decide +kernel
theorem dX9_comes_0 : decode cX9_comes 0 = .ok (.aload_n 0, 1) := by decide +kernel
theorem dX9_comes_1 : decode cX9_comes 1 = .ok (.iload_n 1, 1) := by decide +kernel
theorem dX9_comes_2 : decode cX9_comes 2 = .ok (.invokevirtual 146, 3) := by decide +kernel
theorem dX9_comes_5 : decode cX9_comes 5 = .ok (.istore_n 3, 1) := by decide +kernel
theorem dX9_comes_6 : decode cX9_comes 6 = .ok (.aload_n 0, 1) := by decide +kernel
theorem dX9_comes_7 : decode cX9_comes 7 = .ok (.iload_n 1, 1) := by decide +kernel
theorem dX9_comes_8 : decode cX9_comes 8 = .ok (.iload_n 2, 1) := by decide +kernel
theorem dX9_comes_9 : decode cX9_comes 9 = .ok (.invokevirtual 149, 3) := by decide +kernel
theorem dX9_comes_12 : decode cX9_comes 12 = .ok (.aload_n 0, 1) := by decide +kernel
theorem dX9_comes_13 : decode cX9_comes 13 = .ok (.iload_n 1, 1) := by decide +kernel
theorem dX9_comes_14 : decode cX9_comes 14 = .ok (.iconst 4, 1) := by decide +kernel
theorem dX9_comes_15 : decode cX9_comes 15 = .ok (.invokevirtual 123, 3) := by decide +kernel
theorem dX9_comes_18 : decode cX9_comes 18 = .ok (.istore 4, 2) := by decide +kernel
theorem dX9_comes_20 : decode cX9_comes 20 = .ok (.iload 4, 2) := by decide +kernel
theorem dX9_comes_22 : decode cX9_comes 22 = .ok (.ifCond .le 29, 3) := by decide +kernel
theorem dX9_comes_25 : decode cX9_comes 25 = .ok (.aload_n 0, 1) := by decide +kernel
theorem dX9_comes_26 : decode cX9_comes 26 = .ok (.iload_n 1, 1) := by decide +kernel
theorem dX9_comes_27 : decode cX9_comes 27 = .ok (.iconst 5, 1) := by decide +kernel
theorem dX9_comes_28 : decode cX9_comes 28 = .ok (.iload 4, 2) := by decide +kernel
theorem dX9_comes_30 : decode cX9_comes 30 = .ok (.iadd, 1) := by decide +kernel
theorem dX9_comes_31 : decode cX9_comes 31 = .ok (.aload_n 0, 1) := by decide +kernel
theorem dX9_comes_32 : decode cX9_comes 32 = .ok (.iload_n 1, 1) := by decide +kernel
theorem dX9_comes_33 : decode cX9_comes 33 = .ok (.iconst 5, 1) := by decide +kernel
theorem dX9_comes_34 : decode cX9_comes 34 = .ok (.iload 4, 2) := by decide +kernel
theorem dX9_comes_36 : decode cX9_comes 36 = .ok (.iadd, 1) := by decide +kernel
theorem dX9_comes_37 : decode cX9_comes 37 = .ok (.iconst 1, 1) := by decide +kernel
theorem dX9_comes_38 : decode cX9_comes 38 = .ok (.isub, 1) := by decide +kernel
theorem dX9_comes_39 : decode cX9_comes 39 = .ok (.invokevirtual 123, 3) := by decide +kernel
theorem dX9_comes_42 : decode cX9_comes 42 = .ok (.invokevirtual 142, 3) := by decide +kernel
theorem dX9_comes_45 : decode cX9_comes 45 = .ok (.iinc 4 (-1), 3) := by decide +kernel
theorem dX9_comes_48 : decode cX9_comes 48 = .ok (.goto (-28), 3) := by decide +kernel
theorem dX9_comes_51 : decode cX9_comes 51 = .ok (.aload_n 0, 1) := by decide +kernel
theorem dX9_comes_52 : decode cX9_comes 52 = .ok (.iload_n 1, 1) := by decide +kernel
theorem dX9_comes_53 : decode cX9_comes 53 = .ok (.iconst 5, 1) := by decide +kernel
theorem dX9_comes_54 : decode cX9_comes 54 = .ok (.iload_n 2, 1) := by decide +kernel
theorem dX9_comes_55 : decode cX9_comes 55 = .ok (.invokevirtual 142, 3) := by decide +kernel
theorem dX9_comes_58 : decode cX9_comes 58 = .ok (.aload_n 0, 1) := by decide +kernel
theorem dX9_comes_59 : decode cX9_comes 59 = .ok (.iload_n 1, 1) := by decide +kernel
theorem dX9_comes_60 : decode cX9_comes 60 = .ok (.iconst 4, 1) := by decide +kernel
theorem dX9_comes_61 : decode cX9_comes 61 = .ok (.aload_n 0, 1) := by decide +kernel
theorem dX9_comes_62 : decode cX9_comes 62 = .ok (.iload_n 1, 1) := by decide +kernel
theorem dX9_comes_63 : decode cX9_comes 63 = .ok (.iconst 4, 1) := by decide +kernel
theorem dX9_comes_64 : decode cX9_comes 64 = .ok (.invokevirtual 123, 3) := by decide +kernel
theorem dX9_comes_67 : decode cX9_comes 67 = .ok (.iconst 1, 1) := by decide +kernel
theorem dX9_comes_68 : decode cX9_comes 68 = .ok (.iadd, 1) := by decide +kernel
theorem dX9_comes_69 : decode cX9_comes 69 = .ok (.iconst 0, 1) := by decide +kernel
theorem dX9_comes_70 : decode cX9_comes 70 = .ok (.iload_n 3, 1) := by decide +kernel
theorem dX9_comes_71 : decode cX9_comes 71 = .ok (.invokestatic 133, 3) := by decide +kernel
theorem dX9_comes_74 : decode cX9_comes 74 = .ok (.invokevirtual 142, 3) := by decide +kernel
theorem dX9_comes_77 : decode cX9_comes 77 = .ok (.return_, 1) := by decide +kernel
theorem dX9_person_0 : decode cX9_person 0 = .ok (.iload_n 1, 1) := by decide +kernel
theorem dX9_person_1 : decode cX9_person 1 = .ok (.iconst 0, 1) := by decide +kernel
theorem dX9_person_2 : decode cX9_person 2 = .ok (.iconst 1, 1) := by decide +kernel
theorem dX9_person_3 : decode cX9_person 3 = .ok (.invokestatic 59, 3) := by decide +kernel
theorem dX9_person_6 : decode cX9_person 6 = .ok (.ifCond .ne 9, 3) := by decide +kernel
theorem dX9_person_9 : decode cX9_person 9 = .ok (.aload_n 0, 1) := by decide +kernel
theorem dX9_person_10 : decode cX9_person 10 = .ok (.iconst 1, 1) := by decide +kernel
theorem dX9_person_11 : decode cX9_person 11 = .ok (.invokevirtual 63, 3) := by decide +kernel
theorem dX9_person_14 : decode cX9_person 14 = .ok (.ireturn, 1) := by decide +kernel
theorem dX9_person_15 : decode cX9_person 15 = .ok (.aload_n 0, 1) := by decide +kernel
theorem dX9_person_16 : decode cX9_person 16 = .ok (.getfield 7, 3) := by decide +kernel
theorem dX9_person_19 : decode cX9_person 19 = .ok (.iconst 0, 1) := by decide +kernel
theorem dX9_person_20 : decode cX9_person 20 = .ok (.iaload, 1) := by decide +kernel
theorem dX9_person_21 : decode cX9_person 21 = .ok (.bipush 8, 2) := by decide +kernel
theorem dX9_person_23 : decode cX9_person 23 = .ok (.if_icmp .ne 9, 3) := by decide +kernel
theorem dX9_person_26 : decode cX9_person 26 = .ok (.aload_n 0, 1) := by decide +kernel
theorem dX9_person_27 : decode cX9_person 27 = .ok (.iconst 4, 1) := by decide +kernel
theorem dX9_person_28 : decode cX9_person 28 = .ok (.invokevirtual 63, 3) := by decide +kernel
theorem dX9_person_31 : decode cX9_person 31 = .ok (.ireturn, 1) := by decide +kernel
theorem dX9_person_32 : decode cX9_person 32 = .ok (.aload_n 0, 1) := by decide +kernel
theorem dX9_person_33 : decode cX9_person 33 = .ok (.getfield 7, 3) := by decide +kernel
theorem dX9_person_36 : decode cX9_person 36 = .ok (.bipush 8, 2) := by decide +kernel
theorem dX9_person_38 : decode cX9_person 38 = .ok (.iconst 2, 1) := by decide +kernel
theorem dX9_person_39 : decode cX9_person 39 = .ok (.aload_n 0, 1) := by decide +kernel
theorem dX9_person_40 : decode cX9_person 40 = .ok (.getfield 7, 3) := by decide +kernel
theorem dX9_person_43 : decode cX9_person 43 = .ok (.iconst 0, 1) := by decide +kernel
theorem dX9_person_44 : decode cX9_person 44 = .ok (.iaload, 1) := by decide +kernel
theorem dX9_person_45 : decode cX9_person 45 = .ok (.imul, 1) := by decide +kernel
theorem dX9_person_46 : decode cX9_person 46 = .ok (.iadd, 1) := by decide +kernel
theorem dX9_person_47 : decode cX9_person 47 = .ok (.iload_n 1, 1) := by decide +kernel
theorem dX9_person_48 : decode cX9_person 48 = .ok (.iastore, 1) := by decide +kernel
theorem dX9_person_49 : decode cX9_person 49 = .ok (.aload_n 0, 1) := by decide +kernel
theorem dX9_person_50 : decode cX9_person 50 = .ok (.getfield 7, 3) := by decide +kernel
theorem dX9_person_53 : decode cX9_person 53 = .ok (.bipush 8, 2) := by decide +kernel
theorem dX9_person_55 : decode cX9_person 55 = .ok (.iconst 2, 1) := by decide +kernel
theorem dX9_person_56 : decode cX9_person 56 = .ok (.aload_n 0, 1) := by decide +kernel
theorem dX9_person_57 : decode cX9_person 57 = .ok (.getfield 7, 3) := by decide +kernel
theorem dX9_person_60 : decode cX9_person 60 = .ok (.iconst 0, 1) := by decide +kernel
theorem dX9_person_61 : decode cX9_person 61 = .ok (.iaload, 1) := by decide +kernel
theorem dX9_person_62 : decode cX9_person 62 = .ok (.imul, 1) := by decide +kernel
theorem dX9_person_63 : decode cX9_person 63 = .ok (.iadd, 1) := by decide +kernel
theorem dX9_person_64 : decode cX9_person 64 = .ok (.iconst 1, 1) := by decide +kernel
theorem dX9_person_65 : decode cX9_person 65 = .ok (.iadd, 1) := by decide +kernel
theorem dX9_person_66 : decode cX9_person 66 = .ok (.bipush 20, 2) := by decide +kernel
theorem dX9_person_68 : decode cX9_person 68 = .ok (.iastore, 1) := by decide +kernel
theorem dX9_person_69 : decode cX9_person 69 = .ok (.aload_n 0, 1) := by decide +kernel
theorem dX9_person_70 : decode cX9_person 70 = .ok (.getfield 7, 3) := by decide +kernel
theorem dX9_person_73 : decode cX9_person 73 = .ok (.iconst 0, 1) := by decide +kernel
theorem dX9_person_74 : decode cX9_person 74 = .ok (.dup2, 1) := by decide +kernel
theorem dX9_person_75 : decode cX9_person 75 = .ok (.iaload, 1) := by decide +kernel
theorem dX9_person_76 : decode cX9_person 76 = .ok (.iconst 1, 1) := by decide +kernel
theorem dX9_person_77 : decode cX9_person 77 = .ok (.iadd, 1) := by decide +kernel
theorem dX9_person_78 : decode cX9_person 78 = .ok (.iastore, 1) := by decide +kernel
theorem dX9_person_79 : decode cX9_person 79 = .ok (.aload_n 0, 1) := by decide +kernel
theorem dX9_person_80 : decode cX9_person 80 = .ok (.getfield 7, 3) := by decide +kernel
theorem dX9_person_83 : decode cX9_person 83 = .ok (.iconst 0, 1) := by decide +kernel
theorem dX9_person_84 : decode cX9_person 84 = .ok (.iaload, 1) := by decide +kernel
theorem dX9_person_85 : decode cX9_person 85 = .ok (.iconst 1, 1) := by decide +kernel
theorem dX9_person_86 : decode cX9_person 86 = .ok (.isub, 1) := by decide +kernel
theorem dX9_person_87 : decode cX9_person 87 = .ok (.ireturn, 1) := by decide +kernel
theorem dX9_findHeaps_0 : decode cX9_findHeaps 0 = .ok (.iconst 0, 1) := by decide +kernel
theorem dX9_findHeaps_1 : decode cX9_findHeaps 1 = .ok (.istore_n 1, 1) := by decide +kernel
theorem dX9_findHeaps_2 : decode cX9_findHeaps 2 = .ok (.iload_n 1, 1) := by decide +kernel
theorem dX9_findHeaps_3 : decode cX9_findHeaps 3 = .ok (.bipush 8, 2) := by decide +kernel
theorem dX9_findHeaps_5 : decode cX9_findHeaps 5 = .ok (.if_icmp .ge 16, 3) := by decide +kernel
theorem dX9_findHeaps_8 : decode cX9_findHeaps 8 = .ok (.aload_n 0, 1) := by decide +kernel
theorem dX9_findHeaps_9 : decode cX9_findHeaps 9 = .ok (.getfield 34, 3) := by decide +kernel
theorem dX9_findHeaps_12 : decode cX9_findHeaps 12 = .ok (.iload_n 1, 1) := by decide +kernel
theorem dX9_findHeaps_13 : decode cX9_findHeaps 13 = .ok (.iload_n 1, 1) := by decide +kernel
theorem dX9_findHeaps_14 : decode cX9_findHeaps 14 = .ok (.iastore, 1) := by decide +kernel
theorem dX9_findHeaps_15 : decode cX9_findHeaps 15 = .ok (.iinc 1 1, 3) := by decide +kernel
theorem dX9_findHeaps_18 : decode cX9_findHeaps 18 = .ok (.goto (-16), 3) := by decide +kernel
theorem dX9_findHeaps_21 : decode cX9_findHeaps 21 = .ok (.iconst 0, 1) := by decide +kernel
theorem dX9_findHeaps_22 : decode cX9_findHeaps 22 = .ok (.istore_n 1, 1) := by decide +kernel
theorem dX9_findHeaps_23 : decode cX9_findHeaps 23 = .ok (.iload_n 1, 1) := by decide +kernel
theorem dX9_findHeaps_24 : decode cX9_findHeaps 24 = .ok (.aload_n 0, 1) := by decide +kernel
theorem dX9_findHeaps_25 : decode cX9_findHeaps 25 = .ok (.getfield 7, 3) := by decide +kernel
theorem dX9_findHeaps_28 : decode cX9_findHeaps 28 = .ok (.iconst 1, 1) := by decide +kernel
theorem dX9_findHeaps_29 : decode cX9_findHeaps 29 = .ok (.iaload, 1) := by decide +kernel
theorem dX9_findHeaps_30 : decode cX9_findHeaps 30 = .ok (.if_icmp .ge 130, 3) := by decide +kernel
theorem dX9_findHeaps_33 : decode cX9_findHeaps 33 = .ok (.iconst 1, 1) := by decide +kernel
theorem dX9_findHeaps_34 : decode cX9_findHeaps 34 = .ok (.istore_n 2, 1) := by decide +kernel
theorem dX9_findHeaps_35 : decode cX9_findHeaps 35 = .ok (.iload_n 2, 1) := by decide +kernel
theorem dX9_findHeaps_36 : decode cX9_findHeaps 36 = .ok (.aload_n 0, 1) := by decide +kernel
theorem dX9_findHeaps_37 : decode cX9_findHeaps 37 = .ok (.iload_n 1, 1) := by decide +kernel
theorem dX9_findHeaps_38 : decode cX9_findHeaps 38 = .ok (.iconst 4, 1) := by decide +kernel
theorem dX9_findHeaps_39 : decode cX9_findHeaps 39 = .ok (.invokevirtual 123, 3) := by decide +kernel
theorem dX9_findHeaps_42 : decode cX9_findHeaps 42 = .ok (.if_icmp .ge 112, 3) := by decide +kernel
theorem dX9_findHeaps_45 : decode cX9_findHeaps 45 = .ok (.aload_n 0, 1) := by decide +kernel
theorem dX9_findHeaps_46 : decode cX9_findHeaps 46 = .ok (.getfield 34, 3) := by decide +kernel
theorem dX9_findHeaps_49 : decode cX9_findHeaps 49 = .ok (.aload_n 0, 1) := by decide +kernel
theorem dX9_findHeaps_50 : decode cX9_findHeaps 50 = .ok (.iload_n 1, 1) := by decide +kernel
theorem dX9_findHeaps_51 : decode cX9_findHeaps 51 = .ok (.iconst 5, 1) := by decide +kernel
theorem dX9_findHeaps_52 : decode cX9_findHeaps 52 = .ok (.iload_n 2, 1) := by decide +kernel
theorem dX9_findHeaps_53 : decode cX9_findHeaps 53 = .ok (.iadd, 1) := by decide +kernel
theorem dX9_findHeaps_54 : decode cX9_findHeaps 54 = .ok (.iconst 1, 1) := by decide +kernel
theorem dX9_findHeaps_55 : decode cX9_findHeaps 55 = .ok (.isub, 1) := by decide +kernel
theorem dX9_findHeaps_56 : decode cX9_findHeaps 56 = .ok (.invokevirtual 123, 3) := by decide +kernel
theorem dX9_findHeaps_59 : decode cX9_findHeaps 59 = .ok (.iaload, 1) := by decide +kernel
theorem dX9_findHeaps_60 : decode cX9_findHeaps 60 = .ok (.istore_n 3, 1) := by decide +kernel
theorem dX9_findHeaps_61 : decode cX9_findHeaps 61 = .ok (.aload_n 0, 1) := by decide +kernel
theorem dX9_findHeaps_62 : decode cX9_findHeaps 62 = .ok (.getfield 34, 3) := by decide +kernel
theorem dX9_findHeaps_65 : decode cX9_findHeaps 65 = .ok (.aload_n 0, 1) := by decide +kernel
theorem dX9_findHeaps_66 : decode cX9_findHeaps 66 = .ok (.iload_n 1, 1) := by decide +kernel
theorem dX9_findHeaps_67 : decode cX9_findHeaps 67 = .ok (.iconst 5, 1) := by decide +kernel
theorem dX9_findHeaps_68 : decode cX9_findHeaps 68 = .ok (.iload_n 2, 1) := by decide +kernel
theorem dX9_findHeaps_69 : decode cX9_findHeaps 69 = .ok (.iadd, 1) := by decide +kernel
theorem dX9_findHeaps_70 : decode cX9_findHeaps 70 = .ok (.invokevirtual 123, 3) := by decide +kernel
theorem dX9_findHeaps_73 : decode cX9_findHeaps 73 = .ok (.iaload, 1) := by decide +kernel
theorem dX9_findHeaps_74 : decode cX9_findHeaps 74 = .ok (.istore 4, 2) := by decide +kernel
theorem dX9_findHeaps_76 : decode cX9_findHeaps 76 = .ok (.iload_n 3, 1) := by decide +kernel
theorem dX9_findHeaps_77 : decode cX9_findHeaps 77 = .ok (.iload 4, 2) := by decide +kernel
theorem dX9_findHeaps_79 : decode cX9_findHeaps 79 = .ok (.if_icmp .ge 7, 3) := by decide +kernel
theorem dX9_findHeaps_82 : decode cX9_findHeaps 82 = .ok (.iload_n 3, 1) := by decide +kernel
theorem dX9_findHeaps_83 : decode cX9_findHeaps 83 = .ok (.goto 5, 3) := by decide +kernel
theorem dX9_findHeaps_86 : decode cX9_findHeaps 86 = .ok (.iload 4, 2) := by decide +kernel
theorem dX9_findHeaps_88 : decode cX9_findHeaps 88 = .ok (.istore 5, 2) := by decide +kernel
theorem dX9_findHeaps_90 : decode cX9_findHeaps 90 = .ok (.iconst 0, 1) := by decide +kernel
theorem dX9_findHeaps_91 : decode cX9_findHeaps 91 = .ok (.istore 6, 2) := by decide +kernel
theorem dX9_findHeaps_93 : decode cX9_findHeaps 93 = .ok (.iload 6, 2) := by decide +kernel
theorem dX9_findHeaps_95 : decode cX9_findHeaps 95 = .ok (.bipush 8, 2) := by decide +kernel
theorem dX9_findHeaps_97 : decode cX9_findHeaps 97 = .ok (.if_icmp .ge 51, 3) := by decide +kernel
theorem dX9_findHeaps_100 : decode cX9_findHeaps 100 = .ok (.aload_n 0, 1) := by decide +kernel
theorem dX9_findHeaps_101 : decode cX9_findHeaps 101 = .ok (.getfield 34, 3) := by decide +kernel
theorem dX9_findHeaps_104 : decode cX9_findHeaps 104 = .ok (.iload 6, 2) := by decide +kernel
theorem dX9_findHeaps_106 : decode cX9_findHeaps 106 = .ok (.aload_n 0, 1) := by decide +kernel
theorem dX9_findHeaps_107 : decode cX9_findHeaps 107 = .ok (.getfield 34, 3) := by decide +kernel
theorem dX9_findHeaps_110 : decode cX9_findHeaps 110 = .ok (.iload 6, 2) := by decide +kernel
theorem dX9_findHeaps_112 : decode cX9_findHeaps 112 = .ok (.iaload, 1) := by decide +kernel
theorem dX9_findHeaps_113 : decode cX9_findHeaps 113 = .ok (.iload_n 3, 1) := by decide +kernel
theorem dX9_findHeaps_114 : decode cX9_findHeaps 114 = .ok (.if_icmp .eq 15, 3) := by decide +kernel
theorem dX9_findHeaps_117 : decode cX9_findHeaps 117 = .ok (.aload_n 0, 1) := by decide +kernel
theorem dX9_findHeaps_118 : decode cX9_findHeaps 118 = .ok (.getfield 34, 3) := by decide +kernel
theorem dX9_findHeaps_121 : decode cX9_findHeaps 121 = .ok (.iload 6, 2) := by decide +kernel
theorem dX9_findHeaps_123 : decode cX9_findHeaps 123 = .ok (.iaload, 1) := by decide +kernel
theorem dX9_findHeaps_124 : decode cX9_findHeaps 124 = .ok (.iload 4, 2) := by decide +kernel
theorem dX9_findHeaps_126 : decode cX9_findHeaps 126 = .ok (.if_icmp .ne 8, 3) := by decide +kernel
theorem dX9_findHeaps_129 : decode cX9_findHeaps 129 = .ok (.iload 5, 2) := by decide +kernel
theorem dX9_findHeaps_131 : decode cX9_findHeaps 131 = .ok (.goto 10, 3) := by decide +kernel
theorem dX9_findHeaps_134 : decode cX9_findHeaps 134 = .ok (.aload_n 0, 1) := by decide +kernel
theorem dX9_findHeaps_135 : decode cX9_findHeaps 135 = .ok (.getfield 34, 3) := by decide +kernel
theorem dX9_findHeaps_138 : decode cX9_findHeaps 138 = .ok (.iload 6, 2) := by decide +kernel
theorem dX9_findHeaps_140 : decode cX9_findHeaps 140 = .ok (.iaload, 1) := by decide +kernel
theorem dX9_findHeaps_141 : decode cX9_findHeaps 141 = .ok (.iastore, 1) := by decide +kernel
theorem dX9_findHeaps_142 : decode cX9_findHeaps 142 = .ok (.iinc 6 1, 3) := by decide +kernel
theorem dX9_findHeaps_145 : decode cX9_findHeaps 145 = .ok (.goto (-52), 3) := by decide +kernel
theorem dX9_findHeaps_148 : decode cX9_findHeaps 148 = .ok (.iinc 2 1, 3) := by decide +kernel
theorem dX9_findHeaps_151 : decode cX9_findHeaps 151 = .ok (.goto (-116), 3) := by decide +kernel
theorem dX9_findHeaps_154 : decode cX9_findHeaps 154 = .ok (.iinc 1 1, 3) := by decide +kernel
theorem dX9_findHeaps_157 : decode cX9_findHeaps 157 = .ok (.goto (-134), 3) := by decide +kernel
theorem dX9_findHeaps_160 : decode cX9_findHeaps 160 = .ok (.return_, 1) := by decide +kernel
theorem dX9_knownBy_0 : decode cX9_knownBy 0 = .ok (.iconst 0, 1) := by decide +kernel
theorem dX9_knownBy_1 : decode cX9_knownBy 1 = .ok (.istore_n 2, 1) := by decide +kernel
theorem dX9_knownBy_2 : decode cX9_knownBy 2 = .ok (.iconst 0, 1) := by decide +kernel
theorem dX9_knownBy_3 : decode cX9_knownBy 3 = .ok (.istore_n 3, 1) := by decide +kernel
theorem dX9_knownBy_4 : decode cX9_knownBy 4 = .ok (.iload_n 3, 1) := by decide +kernel
theorem dX9_knownBy_5 : decode cX9_knownBy 5 = .ok (.aload_n 0, 1) := by decide +kernel
theorem dX9_knownBy_6 : decode cX9_knownBy 6 = .ok (.getfield 7, 3) := by decide +kernel
theorem dX9_knownBy_9 : decode cX9_knownBy 9 = .ok (.iconst 1, 1) := by decide +kernel
theorem dX9_knownBy_10 : decode cX9_knownBy 10 = .ok (.iaload, 1) := by decide +kernel
theorem dX9_knownBy_11 : decode cX9_knownBy 11 = .ok (.if_icmp .ge 26, 3) := by decide +kernel
theorem dX9_knownBy_14 : decode cX9_knownBy 14 = .ok (.iload_n 2, 1) := by decide +kernel
theorem dX9_knownBy_15 : decode cX9_knownBy 15 = .ok (.aload_n 0, 1) := by decide +kernel
theorem dX9_knownBy_16 : decode cX9_knownBy 16 = .ok (.iload_n 3, 1) := by decide +kernel
theorem dX9_knownBy_17 : decode cX9_knownBy 17 = .ok (.iload_n 1, 1) := by decide +kernel
theorem dX9_knownBy_18 : decode cX9_knownBy 18 = .ok (.invokevirtual 152, 3) := by decide +kernel
theorem dX9_knownBy_21 : decode cX9_knownBy 21 = .ok (.ifCond .eq 7, 3) := by decide +kernel
theorem dX9_knownBy_24 : decode cX9_knownBy 24 = .ok (.iconst 1, 1) := by decide +kernel
theorem dX9_knownBy_25 : decode cX9_knownBy 25 = .ok (.goto 4, 3) := by decide +kernel
theorem dX9_knownBy_28 : decode cX9_knownBy 28 = .ok (.iconst 0, 1) := by decide +kernel
theorem dX9_knownBy_29 : decode cX9_knownBy 29 = .ok (.iadd, 1) := by decide +kernel
theorem dX9_knownBy_30 : decode cX9_knownBy 30 = .ok (.istore_n 2, 1) := by decide +kernel
theorem dX9_knownBy_31 : decode cX9_knownBy 31 = .ok (.iinc 3 1, 3) := by decide +kernel
theorem dX9_knownBy_34 : decode cX9_knownBy 34 = .ok (.goto (-30), 3) := by decide +kernel
theorem dX9_knownBy_37 : decode cX9_knownBy 37 = .ok (.iload_n 2, 1) := by decide +kernel
theorem dX9_knownBy_38 : decode cX9_knownBy 38 = .ok (.ireturn, 1) := by decide +kernel
theorem dX9_personIs_0 : decode cX9_personIs 0 = .ok (.aload_n 0, 1) := by decide +kernel
theorem dX9_personIs_1 : decode cX9_personIs 1 = .ok (.iload_n 1, 1) := by decide +kernel
theorem dX9_personIs_2 : decode cX9_personIs 2 = .ok (.invokevirtual 156, 3) := by decide +kernel
theorem dX9_personIs_5 : decode cX9_personIs 5 = .ok (.ifCond .eq 12, 3) := by decide +kernel
theorem dX9_personIs_8 : decode cX9_personIs 8 = .ok (.iload_n 2, 1) := by decide +kernel
theorem dX9_personIs_9 : decode cX9_personIs 9 = .ok (.iconst 0, 1) := by decide +kernel
theorem dX9_personIs_10 : decode cX9_personIs 10 = .ok (.iconst 3, 1) := by decide +kernel
theorem dX9_personIs_11 : decode cX9_personIs 11 = .ok (.invokestatic 59, 3) := by decide +kernel
theorem dX9_personIs_14 : decode cX9_personIs 14 = .ok (.ifCond .ne 9, 3) := by decide +kernel
theorem dX9_personIs_17 : decode cX9_personIs 17 = .ok (.aload_n 0, 1) := by decide +kernel
theorem dX9_personIs_18 : decode cX9_personIs 18 = .ok (.iconst 1, 1) := by decide +kernel
theorem dX9_personIs_19 : decode cX9_personIs 19 = .ok (.invokevirtual 63, 3) := by decide +kernel
theorem dX9_personIs_22 : decode cX9_personIs 22 = .ok (.ireturn, 1) := by decide +kernel
theorem dX9_personIs_23 : decode cX9_personIs 23 = .ok (.aload_n 0, 1) := by decide +kernel
theorem dX9_personIs_24 : decode cX9_personIs 24 = .ok (.invokevirtual 159, 3) := by decide +kernel
theorem dX9_personIs_27 : decode cX9_personIs 27 = .ok (.iload_n 2, 1) := by decide +kernel
theorem dX9_personIs_28 : decode cX9_personIs 28 = .ok (.iconst 2, 1) := by decide +kernel
theorem dX9_personIs_29 : decode cX9_personIs 29 = .ok (.if_icmp .ge 12, 3) := by decide +kernel
theorem dX9_personIs_32 : decode cX9_personIs 32 = .ok (.aload_n 0, 1) := by decide +kernel
theorem dX9_personIs_33 : decode cX9_personIs 33 = .ok (.iload_n 1, 1) := by decide +kernel
theorem dX9_personIs_34 : decode cX9_personIs 34 = .ok (.iload_n 2, 1) := by decide +kernel
theorem dX9_personIs_35 : decode cX9_personIs 35 = .ok (.invokevirtual 162, 3) := by decide +kernel
theorem dX9_personIs_38 : decode cX9_personIs 38 = .ok (.goto 22, 3) := by decide +kernel
theorem dX9_personIs_41 : decode cX9_personIs 41 = .ok (.iload_n 2, 1) := by decide +kernel
theorem dX9_personIs_42 : decode cX9_personIs 42 = .ok (.iconst 2, 1) := by decide +kernel
theorem dX9_personIs_43 : decode cX9_personIs 43 = .ok (.if_icmp .ne 11, 3) := by decide +kernel
theorem dX9_personIs_46 : decode cX9_personIs 46 = .ok (.aload_n 0, 1) := by decide +kernel
theorem dX9_personIs_47 : decode cX9_personIs 47 = .ok (.iload_n 1, 1) := by decide +kernel
theorem dX9_personIs_48 : decode cX9_personIs 48 = .ok (.invokevirtual 165, 3) := by decide +kernel
theorem dX9_personIs_51 : decode cX9_personIs 51 = .ok (.goto 9, 3) := by decide +kernel
theorem dX9_personIs_54 : decode cX9_personIs 54 = .ok (.aload_n 0, 1) := by decide +kernel
theorem dX9_personIs_55 : decode cX9_personIs 55 = .ok (.getfield 34, 3) := by decide +kernel
theorem dX9_personIs_58 : decode cX9_personIs 58 = .ok (.iload_n 1, 1) := by decide +kernel
theorem dX9_personIs_59 : decode cX9_personIs 59 = .ok (.iaload, 1) := by decide +kernel
theorem dX9_personIs_60 : decode cX9_personIs 60 = .ok (.ireturn, 1) := by decide +kernel
theorem dX9_man_0 : decode cX9_man 0 = .ok (.iload_n 1, 1) := by decide +kernel
theorem dX9_man_1 : decode cX9_man 1 = .ok (.iconst 0, 1) := by decide +kernel
theorem dX9_man_2 : decode cX9_man 2 = .ok (.bipush 69, 2) := by decide +kernel
theorem dX9_man_4 : decode cX9_man 4 = .ok (.invokestatic 59, 3) := by decide +kernel
theorem dX9_man_7 : decode cX9_man 7 = .ok (.ifCond .eq 12, 3) := by decide +kernel
theorem dX9_man_10 : decode cX9_man 10 = .ok (.iload_n 2, 1) := by decide +kernel
theorem dX9_man_11 : decode cX9_man 11 = .ok (.iconst 0, 1) := by decide +kernel
theorem dX9_man_12 : decode cX9_man 12 = .ok (.iconst 1, 1) := by decide +kernel
theorem dX9_man_13 : decode cX9_man 13 = .ok (.invokestatic 59, 3) := by decide +kernel
theorem dX9_man_16 : decode cX9_man 16 = .ok (.ifCond .ne 9, 3) := by decide +kernel
theorem dX9_man_19 : decode cX9_man 19 = .ok (.aload_n 0, 1) := by decide +kernel
theorem dX9_man_20 : decode cX9_man 20 = .ok (.iconst 1, 1) := by decide +kernel
theorem dX9_man_21 : decode cX9_man 21 = .ok (.invokevirtual 63, 3) := by decide +kernel
theorem dX9_man_24 : decode cX9_man 24 = .ok (.ireturn, 1) := by decide +kernel
theorem dX9_man_25 : decode cX9_man 25 = .ok (.aload_n 0, 1) := by decide +kernel
theorem dX9_man_26 : decode cX9_man 26 = .ok (.getfield 7, 3) := by decide +kernel
theorem dX9_man_29 : decode cX9_man 29 = .ok (.iconst 1, 1) := by decide +kernel
theorem dX9_man_30 : decode cX9_man 30 = .ok (.iaload, 1) := by decide +kernel
theorem dX9_man_31 : decode cX9_man 31 = .ok (.iconst 4, 1) := by decide +kernel
theorem dX9_man_32 : decode cX9_man 32 = .ok (.if_icmp .ne 9, 3) := by decide +kernel
theorem dX9_man_35 : decode cX9_man 35 = .ok (.aload_n 0, 1) := by decide +kernel
theorem dX9_man_36 : decode cX9_man 36 = .ok (.iconst 4, 1) := by decide +kernel
theorem dX9_man_37 : decode cX9_man 37 = .ok (.invokevirtual 63, 3) := by decide +kernel
theorem dX9_man_40 : decode cX9_man 40 = .ok (.ireturn, 1) := by decide +kernel
theorem dX9_man_41 : decode cX9_man 41 = .ok (.aload_n 0, 1) := by decide +kernel
theorem dX9_man_42 : decode cX9_man 42 = .ok (.getfield 7, 3) := by decide +kernel
theorem dX9_man_45 : decode cX9_man 45 = .ok (.iconst 1, 1) := by decide +kernel
theorem dX9_man_46 : decode cX9_man 46 = .ok (.iaload, 1) := by decide +kernel
theorem dX9_man_47 : decode cX9_man 47 = .ok (.istore_n 3, 1) := by decide +kernel
theorem dX9_man_48 : decode cX9_man 48 = .ok (.aload_n 0, 1) := by decide +kernel
theorem dX9_man_49 : decode cX9_man 49 = .ok (.iload_n 3, 1) := by decide +kernel
theorem dX9_man_50 : decode cX9_man 50 = .ok (.iconst 0, 1) := by decide +kernel
theorem dX9_man_51 : decode cX9_man 51 = .ok (.iload_n 1, 1) := by decide +kernel
theorem dX9_man_52 : decode cX9_man 52 = .ok (.bipush 10, 2) := by decide +kernel
theorem dX9_man_54 : decode cX9_man 54 = .ok (.idiv, 1) := by decide +kernel
theorem dX9_man_55 : decode cX9_man 55 = .ok (.invokevirtual 142, 3) := by decide +kernel
theorem dX9_man_58 : decode cX9_man 58 = .ok (.aload_n 0, 1) := by decide +kernel
theorem dX9_man_59 : decode cX9_man 59 = .ok (.iload_n 3, 1) := by decide +kernel
theorem dX9_man_60 : decode cX9_man 60 = .ok (.iconst 1, 1) := by decide +kernel
theorem dX9_man_61 : decode cX9_man 61 = .ok (.iload_n 1, 1) := by decide +kernel
theorem dX9_man_62 : decode cX9_man 62 = .ok (.bipush 10, 2) := by decide +kernel
theorem dX9_man_64 : decode cX9_man 64 = .ok (.irem, 1) := by decide +kernel
theorem dX9_man_65 : decode cX9_man 65 = .ok (.invokevirtual 142, 3) := by decide +kernel
theorem dX9_man_68 : decode cX9_man 68 = .ok (.aload_n 0, 1) := by decide +kernel
theorem dX9_man_69 : decode cX9_man 69 = .ok (.iload_n 3, 1) := by decide +kernel
theorem dX9_man_70 : decode cX9_man 70 = .ok (.iconst 2, 1) := by decide +kernel
theorem dX9_man_71 : decode cX9_man 71 = .ok (.iload_n 2, 1) := by decide +kernel
theorem dX9_man_72 : decode cX9_man 72 = .ok (.invokevirtual 142, 3) := by decide +kernel
theorem dX9_man_75 : decode cX9_man 75 = .ok (.aload_n 0, 1) := by decide +kernel
theorem dX9_man_76 : decode cX9_man 76 = .ok (.iload_n 3, 1) := by decide +kernel
theorem dX9_man_77 : decode cX9_man 77 = .ok (.iconst 3, 1) := by decide +kernel
theorem dX9_man_78 : decode cX9_man 78 = .ok (.iconst 0, 1) := by decide +kernel
theorem dX9_man_79 : decode cX9_man 79 = .ok (.invokevirtual 142, 3) := by decide +kernel
theorem dX9_man_82 : decode cX9_man 82 = .ok (.aload_n 0, 1) := by decide +kernel
theorem dX9_man_83 : decode cX9_man 83 = .ok (.iload_n 3, 1) := by decide +kernel
theorem dX9_man_84 : decode cX9_man 84 = .ok (.iconst 4, 1) := by decide +kernel
theorem dX9_man_85 : decode cX9_man 85 = .ok (.iconst 0, 1) := by decide +kernel
theorem dX9_man_86 : decode cX9_man 86 = .ok (.invokevirtual 142, 3) := by decide +kernel
theorem dX9_man_89 : decode cX9_man 89 = .ok (.aload_n 0, 1) := by decide +kernel
theorem dX9_man_90 : decode cX9_man 90 = .ok (.getfield 7, 3) := by decide +kernel
theorem dX9_man_93 : decode cX9_man 93 = .ok (.iconst 1, 1) := by decide +kernel
theorem dX9_man_94 : decode cX9_man 94 = .ok (.dup2, 1) := by decide +kernel
theorem dX9_man_95 : decode cX9_man 95 = .ok (.iaload, 1) := by decide +kernel
theorem dX9_man_96 : decode cX9_man 96 = .ok (.iconst 1, 1) := by decide +kernel
theorem dX9_man_97 : decode cX9_man 97 = .ok (.iadd, 1) := by decide +kernel
theorem dX9_man_98 : decode cX9_man 98 = .ok (.iastore, 1) := by decide +kernel
theorem dX9_man_99 : decode cX9_man 99 = .ok (.iload_n 3, 1) := by decide +kernel
theorem dX9_man_100 : decode cX9_man 100 = .ok (.ireturn, 1) := by decide +kernel
theorem dX9_manIs_0 : decode cX9_manIs 0 = .ok (.aload_n 0, 1) := by decide +kernel
theorem dX9_manIs_1 : decode cX9_manIs 1 = .ok (.iload_n 1, 1) := by decide +kernel
theorem dX9_manIs_2 : decode cX9_manIs 2 = .ok (.invokevirtual 168, 3) := by decide +kernel
theorem dX9_manIs_5 : decode cX9_manIs 5 = .ok (.ifCond .eq 13, 3) := by decide +kernel
theorem dX9_manIs_8 : decode cX9_manIs 8 = .ok (.iload_n 2, 1) := by decide +kernel
theorem dX9_manIs_9 : decode cX9_manIs 9 = .ok (.iconst 0, 1) := by decide +kernel
theorem dX9_manIs_10 : decode cX9_manIs 10 = .ok (.bipush 14, 2) := by decide +kernel
theorem dX9_manIs_12 : decode cX9_manIs 12 = .ok (.invokestatic 59, 3) := by decide +kernel
theorem dX9_manIs_15 : decode cX9_manIs 15 = .ok (.ifCond .ne 9, 3) := by decide +kernel
theorem dX9_manIs_18 : decode cX9_manIs 18 = .ok (.aload_n 0, 1) := by decide +kernel
theorem dX9_manIs_19 : decode cX9_manIs 19 = .ok (.iconst 1, 1) := by decide +kernel
theorem dX9_manIs_20 : decode cX9_manIs 20 = .ok (.invokevirtual 63, 3) := by decide +kernel
theorem dX9_manIs_23 : decode cX9_manIs 23 = .ok (.ireturn, 1) := by decide +kernel
theorem dX9_manIs_24 : decode cX9_manIs 24 = .ok (.iload_n 2, 1) := by decide +kernel
theorem dX9_manIs_25 : decode cX9_manIs 25 = .ok (.bipush 6, 2) := by decide +kernel
theorem dX9_manIs_27 : decode cX9_manIs 27 = .ok (.if_icmp .le 32, 3) := by decide +kernel
theorem dX9_manIs_30 : decode cX9_manIs 30 = .ok (.iload_n 2, 1) := by decide +kernel
theorem dX9_manIs_31 : decode cX9_manIs 31 = .ok (.bipush 7, 2) := by decide +kernel
theorem dX9_manIs_33 : decode cX9_manIs 33 = .ok (.isub, 1) := by decide +kernel
theorem dX9_manIs_34 : decode cX9_manIs 34 = .ok (.aload_n 0, 1) := by decide +kernel
theorem dX9_manIs_35 : decode cX9_manIs 35 = .ok (.iload_n 1, 1) := by decide +kernel
theorem dX9_manIs_36 : decode cX9_manIs 36 = .ok (.iconst 4, 1) := by decide +kernel
theorem dX9_manIs_37 : decode cX9_manIs 37 = .ok (.invokevirtual 123, 3) := by decide +kernel
theorem dX9_manIs_40 : decode cX9_manIs 40 = .ok (.if_icmp .ge 17, 3) := by decide +kernel
theorem dX9_manIs_43 : decode cX9_manIs 43 = .ok (.aload_n 0, 1) := by decide +kernel
theorem dX9_manIs_44 : decode cX9_manIs 44 = .ok (.iload_n 1, 1) := by decide +kernel
theorem dX9_manIs_45 : decode cX9_manIs 45 = .ok (.iconst 5, 1) := by decide +kernel
theorem dX9_manIs_46 : decode cX9_manIs 46 = .ok (.iload_n 2, 1) := by decide +kernel
theorem dX9_manIs_47 : decode cX9_manIs 47 = .ok (.iadd, 1) := by decide +kernel
theorem dX9_manIs_48 : decode cX9_manIs 48 = .ok (.bipush 7, 2) := by decide +kernel
theorem dX9_manIs_50 : decode cX9_manIs 50 = .ok (.isub, 1) := by decide +kernel
theorem dX9_manIs_51 : decode cX9_manIs 51 = .ok (.invokevirtual 123, 3) := by decide +kernel
theorem dX9_manIs_54 : decode cX9_manIs 54 = .ok (.goto 4, 3) := by decide +kernel
theorem dX9_manIs_57 : decode cX9_manIs 57 = .ok (.iconst (-1), 1) := by decide +kernel
theorem dX9_manIs_58 : decode cX9_manIs 58 = .ok (.ireturn, 1) := by decide +kernel
theorem dX9_manIs_59 : decode cX9_manIs 59 = .ok (.iload_n 2, 1) := by decide +kernel
theorem dX9_manIs_60 : decode cX9_manIs 60 = .ok (.iconst 4, 1) := by decide +kernel
theorem dX9_manIs_61 : decode cX9_manIs 61 = .ok (.if_icmp .ne 11, 3) := by decide +kernel
theorem dX9_manIs_64 : decode cX9_manIs 64 = .ok (.aload_n 0, 1) := by decide +kernel
theorem dX9_manIs_65 : decode cX9_manIs 65 = .ok (.iload_n 1, 1) := by decide +kernel
theorem dX9_manIs_66 : decode cX9_manIs 66 = .ok (.invokevirtual 146, 3) := by decide +kernel
theorem dX9_manIs_69 : decode cX9_manIs 69 = .ok (.goto 37, 3) := by decide +kernel
theorem dX9_manIs_72 : decode cX9_manIs 72 = .ok (.iload_n 2, 1) := by decide +kernel
theorem dX9_manIs_73 : decode cX9_manIs 73 = .ok (.iconst 5, 1) := by decide +kernel
theorem dX9_manIs_74 : decode cX9_manIs 74 = .ok (.if_icmp .ne 11, 3) := by decide +kernel
theorem dX9_manIs_77 : decode cX9_manIs 77 = .ok (.aload_n 0, 1) := by decide +kernel
theorem dX9_manIs_78 : decode cX9_manIs 78 = .ok (.iload_n 1, 1) := by decide +kernel
theorem dX9_manIs_79 : decode cX9_manIs 79 = .ok (.invokevirtual 171, 3) := by decide +kernel
theorem dX9_manIs_82 : decode cX9_manIs 82 = .ok (.goto 24, 3) := by decide +kernel
theorem dX9_manIs_85 : decode cX9_manIs 85 = .ok (.iload_n 2, 1) := by decide +kernel
theorem dX9_manIs_86 : decode cX9_manIs 86 = .ok (.bipush 6, 2) := by decide +kernel
theorem dX9_manIs_88 : decode cX9_manIs 88 = .ok (.if_icmp .ne 12, 3) := by decide +kernel
theorem dX9_manIs_91 : decode cX9_manIs 91 = .ok (.aload_n 0, 1) := by decide +kernel
theorem dX9_manIs_92 : decode cX9_manIs 92 = .ok (.iload_n 1, 1) := by decide +kernel
theorem dX9_manIs_93 : decode cX9_manIs 93 = .ok (.iconst 4, 1) := by decide +kernel
theorem dX9_manIs_94 : decode cX9_manIs 94 = .ok (.invokevirtual 123, 3) := by decide +kernel
theorem dX9_manIs_97 : decode cX9_manIs 97 = .ok (.goto 9, 3) := by decide +kernel
theorem dX9_manIs_100 : decode cX9_manIs 100 = .ok (.aload_n 0, 1) := by decide +kernel
theorem dX9_manIs_101 : decode cX9_manIs 101 = .ok (.iload_n 1, 1) := by decide +kernel
theorem dX9_manIs_102 : decode cX9_manIs 102 = .ok (.iload_n 2, 1) := by decide +kernel
theorem dX9_manIs_103 : decode cX9_manIs 103 = .ok (.invokevirtual 123, 3) := by decide +kernel
theorem dX9_manIs_106 : decode cX9_manIs 106 = .ok (.ireturn, 1) := by decide +kernel
theorem dX9_isUnder_0 : decode cX9_isUnder 0 = .ok (.iload_n 1, 1) := by decide +kernel
theorem dX9_isUnder_1 : decode cX9_isUnder 1 = .ok (.ifCond .eq 28, 3) := by decide +kernel
theorem dX9_isUnder_4 : decode cX9_isUnder 4 = .ok (.iload_n 0, 1) := by decide +kernel
theorem dX9_isUnder_5 : decode cX9_isUnder 5 = .ok (.iload_n 1, 1) := by decide +kernel
theorem dX9_isUnder_6 : decode cX9_isUnder 6 = .ok (.if_icmp .eq 23, 3) := by decide +kernel
theorem dX9_isUnder_9 : decode cX9_isUnder 9 = .ok (.iload_n 1, 1) := by decide +kernel
theorem dX9_isUnder_10 : decode cX9_isUnder 10 = .ok (.iconst 1, 1) := by decide +kernel
theorem dX9_isUnder_11 : decode cX9_isUnder 11 = .ok (.if_icmp .ne 8, 3) := by decide +kernel
theorem dX9_isUnder_14 : decode cX9_isUnder 14 = .ok (.iload_n 0, 1) := by decide +kernel
theorem dX9_isUnder_15 : decode cX9_isUnder 15 = .ok (.iconst 4, 1) := by decide +kernel
theorem dX9_isUnder_16 : decode cX9_isUnder 16 = .ok (.if_icmp .eq 13, 3) := by decide +kernel
theorem dX9_isUnder_19 : decode cX9_isUnder 19 = .ok (.iload_n 1, 1) := by decide +kernel
theorem dX9_isUnder_20 : decode cX9_isUnder 20 = .ok (.iconst 2, 1) := by decide +kernel
theorem dX9_isUnder_21 : decode cX9_isUnder 21 = .ok (.if_icmp .ne 12, 3) := by decide +kernel
theorem dX9_isUnder_24 : decode cX9_isUnder 24 = .ok (.iload_n 0, 1) := by decide +kernel
theorem dX9_isUnder_25 : decode cX9_isUnder 25 = .ok (.iconst 5, 1) := by decide +kernel
theorem dX9_isUnder_26 : decode cX9_isUnder 26 = .ok (.if_icmp .ne 7, 3) := by decide +kernel
theorem dX9_isUnder_29 : decode cX9_isUnder 29 = .ok (.iconst 1, 1) := by decide +kernel
theorem dX9_isUnder_30 : decode cX9_isUnder 30 = .ok (.goto 4, 3) := by decide +kernel
theorem dX9_isUnder_33 : decode cX9_isUnder 33 = .ok (.iconst 0, 1) := by decide +kernel
theorem dX9_isUnder_34 : decode cX9_isUnder 34 = .ok (.ireturn, 1) := by decide +kernel
theorem dX9_as_0 : decode cX9_as 0 = .ok (.aload_n 0, 1) := by decide +kernel
theorem dX9_as_1 : decode cX9_as 1 = .ok (.iload_n 1, 1) := by decide +kernel
theorem dX9_as_2 : decode cX9_as 2 = .ok (.invokevirtual 168, 3) := by decide +kernel
theorem dX9_as_5 : decode cX9_as 5 = .ok (.ifCond .eq 13, 3) := by decide +kernel
theorem dX9_as_8 : decode cX9_as 8 = .ok (.iload_n 2, 1) := by decide +kernel
theorem dX9_as_9 : decode cX9_as 9 = .ok (.iconst 0, 1) := by decide +kernel
theorem dX9_as_10 : decode cX9_as 10 = .ok (.bipush 6, 2) := by decide +kernel
theorem dX9_as_12 : decode cX9_as 12 = .ok (.invokestatic 59, 3) := by decide +kernel
theorem dX9_as_15 : decode cX9_as 15 = .ok (.ifCond .ne 9, 3) := by decide +kernel
theorem dX9_as_18 : decode cX9_as 18 = .ok (.aload_n 0, 1) := by decide +kernel
theorem dX9_as_19 : decode cX9_as 19 = .ok (.iconst 1, 1) := by decide +kernel
theorem dX9_as_20 : decode cX9_as 20 = .ok (.invokevirtual 63, 3) := by decide +kernel
theorem dX9_as_23 : decode cX9_as 23 = .ok (.ireturn, 1) := by decide +kernel
theorem dX9_as_24 : decode cX9_as 24 = .ok (.aload_n 0, 1) := by decide +kernel
theorem dX9_as_25 : decode cX9_as 25 = .ok (.iload_n 1, 1) := by decide +kernel
theorem dX9_as_26 : decode cX9_as 26 = .ok (.iconst 0, 1) := by decide +kernel
theorem dX9_as_27 : decode cX9_as 27 = .ok (.invokevirtual 123, 3) := by decide +kernel
theorem dX9_as_30 : decode cX9_as 30 = .ok (.iload_n 2, 1) := by decide +kernel
theorem dX9_as_31 : decode cX9_as 31 = .ok (.invokestatic 174, 3) := by decide +kernel
theorem dX9_as_34 : decode cX9_as 34 = .ok (.ifCond .eq 12, 3) := by decide +kernel
theorem dX9_as_37 : decode cX9_as 37 = .ok (.aload_n 0, 1) := by decide +kernel
theorem dX9_as_38 : decode cX9_as 38 = .ok (.iload_n 1, 1) := by decide +kernel
theorem dX9_as_39 : decode cX9_as 39 = .ok (.iconst 3, 1) := by decide +kernel
theorem dX9_as_40 : decode cX9_as 40 = .ok (.invokevirtual 123, 3) := by decide +kernel
theorem dX9_as_43 : decode cX9_as 43 = .ok (.goto 8, 3) := by decide +kernel
theorem dX9_as_46 : decode cX9_as 46 = .ok (.aload_n 0, 1) := by decide +kernel
theorem dX9_as_47 : decode cX9_as 47 = .ok (.iconst 5, 1) := by decide +kernel
theorem dX9_as_48 : decode cX9_as 48 = .ok (.invokevirtual 63, 3) := by decide +kernel
theorem dX9_as_51 : decode cX9_as 51 = .ok (.ireturn, 1) := by decide +kernel
theorem dX9_setMan_0 : decode cX9_setMan 0 = .ok (.aload_n 0, 1) := by decide +kernel
theorem dX9_setMan_1 : decode cX9_setMan 1 = .ok (.iload_n 1, 1) := by decide +kernel
theorem dX9_setMan_2 : decode cX9_setMan 2 = .ok (.invokevirtual 168, 3) := by decide +kernel
theorem dX9_setMan_5 : decode cX9_setMan 5 = .ok (.ifCond .eq 40, 3) := by decide +kernel
theorem dX9_setMan_8 : decode cX9_setMan 8 = .ok (.iload_n 2, 1) := by decide +kernel
theorem dX9_setMan_9 : decode cX9_setMan 9 = .ok (.iconst 0, 1) := by decide +kernel
theorem dX9_setMan_10 : decode cX9_setMan 10 = .ok (.iconst 2, 1) := by decide +kernel
theorem dX9_setMan_11 : decode cX9_setMan 11 = .ok (.invokestatic 59, 3) := by decide +kernel
theorem dX9_setMan_14 : decode cX9_setMan 14 = .ok (.ifCond .eq 31, 3) := by decide +kernel
theorem dX9_setMan_17 : decode cX9_setMan 17 = .ok (.iload_n 3, 1) := by decide +kernel
theorem dX9_setMan_18 : decode cX9_setMan 18 = .ok (.iconst 0, 1) := by decide +kernel
theorem dX9_setMan_19 : decode cX9_setMan 19 = .ok (.iload_n 2, 1) := by decide +kernel
theorem dX9_setMan_20 : decode cX9_setMan 20 = .ok (.ifCond .ne 8, 3) := by decide +kernel
theorem dX9_setMan_23 : decode cX9_setMan 23 = .ok (.bipush 6, 2) := by decide +kernel
theorem dX9_setMan_25 : decode cX9_setMan 25 = .ok (.goto 14, 3) := by decide +kernel
theorem dX9_setMan_28 : decode cX9_setMan 28 = .ok (.iload_n 2, 1) := by decide +kernel
theorem dX9_setMan_29 : decode cX9_setMan 29 = .ok (.iconst 1, 1) := by decide +kernel
theorem dX9_setMan_30 : decode cX9_setMan 30 = .ok (.if_icmp .ne 8, 3) := by decide +kernel
theorem dX9_setMan_33 : decode cX9_setMan 33 = .ok (.bipush 9, 2) := by decide +kernel
theorem dX9_setMan_35 : decode cX9_setMan 35 = .ok (.goto 4, 3) := by decide +kernel
theorem dX9_setMan_38 : decode cX9_setMan 38 = .ok (.iconst 1, 1) := by decide +kernel
theorem dX9_setMan_39 : decode cX9_setMan 39 = .ok (.invokestatic 59, 3) := by decide +kernel
theorem dX9_setMan_42 : decode cX9_setMan 42 = .ok (.ifCond .ne 9, 3) := by decide +kernel
theorem dX9_setMan_45 : decode cX9_setMan 45 = .ok (.aload_n 0, 1) := by decide +kernel
theorem dX9_setMan_46 : decode cX9_setMan 46 = .ok (.iconst 1, 1) := by decide +kernel
theorem dX9_setMan_47 : decode cX9_setMan 47 = .ok (.invokevirtual 63, 3) := by decide +kernel
theorem dX9_setMan_50 : decode cX9_setMan 50 = .ok (.ireturn, 1) := by decide +kernel
theorem dX9_setMan_51 : decode cX9_setMan 51 = .ok (.aload_n 0, 1) := by decide +kernel
theorem dX9_setMan_52 : decode cX9_setMan 52 = .ok (.iload_n 1, 1) := by decide +kernel
theorem dX9_setMan_53 : decode cX9_setMan 53 = .ok (.iload_n 2, 1) := by decide +kernel
theorem dX9_setMan_54 : decode cX9_setMan 54 = .ok (.invokevirtual 123, 3) := by decide +kernel
theorem dX9_setMan_57 : decode cX9_setMan 57 = .ok (.istore 4, 2) := by decide +kernel
theorem dX9_setMan_59 : decode cX9_setMan 59 = .ok (.aload_n 0, 1) := by decide +kernel
theorem dX9_setMan_60 : decode cX9_setMan 60 = .ok (.iload_n 1, 1) := by decide +kernel
theorem dX9_setMan_61 : decode cX9_setMan 61 = .ok (.iload_n 2, 1) := by decide +kernel
theorem dX9_setMan_62 : decode cX9_setMan 62 = .ok (.iload_n 3, 1) := by decide +kernel
theorem dX9_setMan_63 : decode cX9_setMan 63 = .ok (.invokevirtual 142, 3) := by decide +kernel
theorem dX9_setMan_66 : decode cX9_setMan 66 = .ok (.iload 4, 2) := by decide +kernel
theorem dX9_setMan_68 : decode cX9_setMan 68 = .ok (.ireturn, 1) := by decide +kernel
theorem dX9_setPerson_0 : decode cX9_setPerson 0 = .ok (.aload_n 0, 1) := by decide +kernel
theorem dX9_setPerson_1 : decode cX9_setPerson 1 = .ok (.iload_n 1, 1) := by decide +kernel
theorem dX9_setPerson_2 : decode cX9_setPerson 2 = .ok (.invokevirtual 156, 3) := by decide +kernel
theorem dX9_setPerson_5 : decode cX9_setPerson 5 = .ok (.ifCond .eq 31, 3) := by decide +kernel
theorem dX9_setPerson_8 : decode cX9_setPerson 8 = .ok (.iload_n 2, 1) := by decide +kernel
theorem dX9_setPerson_9 : decode cX9_setPerson 9 = .ok (.iconst 0, 1) := by decide +kernel
theorem dX9_setPerson_10 : decode cX9_setPerson 10 = .ok (.iconst 1, 1) := by decide +kernel
theorem dX9_setPerson_11 : decode cX9_setPerson 11 = .ok (.invokestatic 59, 3) := by decide +kernel
theorem dX9_setPerson_14 : decode cX9_setPerson 14 = .ok (.ifCond .eq 22, 3) := by decide +kernel
theorem dX9_setPerson_17 : decode cX9_setPerson 17 = .ok (.iload_n 3, 1) := by decide +kernel
theorem dX9_setPerson_18 : decode cX9_setPerson 18 = .ok (.iconst 0, 1) := by decide +kernel
theorem dX9_setPerson_19 : decode cX9_setPerson 19 = .ok (.iload_n 2, 1) := by decide +kernel
theorem dX9_setPerson_20 : decode cX9_setPerson 20 = .ok (.ifCond .ne 7, 3) := by decide +kernel
theorem dX9_setPerson_23 : decode cX9_setPerson 23 = .ok (.iconst 1, 1) := by decide +kernel
theorem dX9_setPerson_24 : decode cX9_setPerson 24 = .ok (.goto 6, 3) := by decide +kernel
theorem dX9_setPerson_27 : decode cX9_setPerson 27 = .ok (.sipush 9999, 3) := by decide +kernel
theorem dX9_setPerson_30 : decode cX9_setPerson 30 = .ok (.invokestatic 59, 3) := by decide +kernel
theorem dX9_setPerson_33 : decode cX9_setPerson 33 = .ok (.ifCond .ne 9, 3) := by decide +kernel
theorem dX9_setPerson_36 : decode cX9_setPerson 36 = .ok (.aload_n 0, 1) := by decide +kernel
theorem dX9_setPerson_37 : decode cX9_setPerson 37 = .ok (.iconst 1, 1) := by decide +kernel
theorem dX9_setPerson_38 : decode cX9_setPerson 38 = .ok (.invokevirtual 63, 3) := by decide +kernel
theorem dX9_setPerson_41 : decode cX9_setPerson 41 = .ok (.ireturn, 1) := by decide +kernel
theorem dX9_setPerson_42 : decode cX9_setPerson 42 = .ok (.aload_n 0, 1) := by decide +kernel
theorem dX9_setPerson_43 : decode cX9_setPerson 43 = .ok (.iload_n 1, 1) := by decide +kernel
theorem dX9_setPerson_44 : decode cX9_setPerson 44 = .ok (.iload_n 2, 1) := by decide +kernel
theorem dX9_setPerson_45 : decode cX9_setPerson 45 = .ok (.invokevirtual 162, 3) := by decide +kernel
theorem dX9_setPerson_48 : decode cX9_setPerson 48 = .ok (.istore 4, 2) := by decide +kernel
theorem dX9_setPerson_50 : decode cX9_setPerson 50 = .ok (.aload_n 0, 1) := by decide +kernel
theorem dX9_setPerson_51 : decode cX9_setPerson 51 = .ok (.getfield 7, 3) := by decide +kernel
theorem dX9_setPerson_54 : decode cX9_setPerson 54 = .ok (.bipush 8, 2) := by decide +kernel
theorem dX9_setPerson_56 : decode cX9_setPerson 56 = .ok (.iconst 2, 1) := by decide +kernel
theorem dX9_setPerson_57 : decode cX9_setPerson 57 = .ok (.iload_n 1, 1) := by decide +kernel
theorem dX9_setPerson_58 : decode cX9_setPerson 58 = .ok (.imul, 1) := by decide +kernel
theorem dX9_setPerson_59 : decode cX9_setPerson 59 = .ok (.iadd, 1) := by decide +kernel
theorem dX9_setPerson_60 : decode cX9_setPerson 60 = .ok (.iload_n 2, 1) := by decide +kernel
theorem dX9_setPerson_61 : decode cX9_setPerson 61 = .ok (.iadd, 1) := by decide +kernel
theorem dX9_setPerson_62 : decode cX9_setPerson 62 = .ok (.iload_n 3, 1) := by decide +kernel
theorem dX9_setPerson_63 : decode cX9_setPerson 63 = .ok (.iastore, 1) := by decide +kernel
theorem dX9_setPerson_64 : decode cX9_setPerson 64 = .ok (.iload 4, 2) := by decide +kernel
theorem dX9_setPerson_66 : decode cX9_setPerson 66 = .ok (.ireturn, 1) := by decide +kernel
theorem dX9_forget_0 : decode cX9_forget 0 = .ok (.aload_n 0, 1) := by decide +kernel
theorem dX9_forget_1 : decode cX9_forget 1 = .ok (.iload_n 1, 1) := by decide +kernel
theorem dX9_forget_2 : decode cX9_forget 2 = .ok (.invokevirtual 168, 3) := by decide +kernel
theorem dX9_forget_5 : decode cX9_forget 5 = .ok (.ifCond .ne 9, 3) := by decide +kernel
theorem dX9_forget_8 : decode cX9_forget 8 = .ok (.aload_n 0, 1) := by decide +kernel
theorem dX9_forget_9 : decode cX9_forget 9 = .ok (.iconst 1, 1) := by decide +kernel
theorem dX9_forget_10 : decode cX9_forget 10 = .ok (.invokevirtual 63, 3) := by decide +kernel
theorem dX9_forget_13 : decode cX9_forget 13 = .ok (.ireturn, 1) := by decide +kernel
theorem dX9_forget_14 : decode cX9_forget 14 = .ok (.aload_n 0, 1) := by decide +kernel
theorem dX9_forget_15 : decode cX9_forget 15 = .ok (.iload_n 1, 1) := by decide +kernel
theorem dX9_forget_16 : decode cX9_forget 16 = .ok (.iconst 4, 1) := by decide +kernel
theorem dX9_forget_17 : decode cX9_forget 17 = .ok (.invokevirtual 123, 3) := by decide +kernel
theorem dX9_forget_20 : decode cX9_forget 20 = .ok (.istore_n 2, 1) := by decide +kernel
theorem dX9_forget_21 : decode cX9_forget 21 = .ok (.aload_n 0, 1) := by decide +kernel
theorem dX9_forget_22 : decode cX9_forget 22 = .ok (.iload_n 1, 1) := by decide +kernel
theorem dX9_forget_23 : decode cX9_forget 23 = .ok (.iconst 4, 1) := by decide +kernel
theorem dX9_forget_24 : decode cX9_forget 24 = .ok (.iconst 0, 1) := by decide +kernel
theorem dX9_forget_25 : decode cX9_forget 25 = .ok (.invokevirtual 142, 3) := by decide +kernel
theorem dX9_forget_28 : decode cX9_forget 28 = .ok (.iload_n 2, 1) := by decide +kernel
theorem dX9_forget_29 : decode cX9_forget 29 = .ok (.ireturn, 1) := by decide +kernel
theorem dX9_areTogether_0 : decode cX9_areTogether 0 = .ok (.aload_n 0, 1) := by decide +kernel
theorem dX9_areTogether_1 : decode cX9_areTogether 1 = .ok (.iload_n 1, 1) := by decide +kernel
theorem dX9_areTogether_2 : decode cX9_areTogether 2 = .ok (.iconst 2, 1) := by decide +kernel
theorem dX9_areTogether_3 : decode cX9_areTogether 3 = .ok (.invokevirtual 123, 3) := by decide +kernel
theorem dX9_areTogether_6 : decode cX9_areTogether 6 = .ok (.aload_n 0, 1) := by decide +kernel
theorem dX9_areTogether_7 : decode cX9_areTogether 7 = .ok (.iload_n 2, 1) := by decide +kernel
theorem dX9_areTogether_8 : decode cX9_areTogether 8 = .ok (.iconst 0, 1) := by decide +kernel
theorem dX9_areTogether_9 : decode cX9_areTogether 9 = .ok (.invokevirtual 162, 3) := by decide +kernel
theorem dX9_areTogether_12 : decode cX9_areTogether 12 = .ok (.if_icmp .ne 7, 3) := by decide +kernel
theorem dX9_areTogether_15 : decode cX9_areTogether 15 = .ok (.iconst 1, 1) := by decide +kernel
theorem dX9_areTogether_16 : decode cX9_areTogether 16 = .ok (.goto 4, 3) := by decide +kernel
theorem dX9_areTogether_19 : decode cX9_areTogether 19 = .ok (.iconst 0, 1) := by decide +kernel
theorem dX9_areTogether_20 : decode cX9_areTogether 20 = .ok (.ireturn, 1) := by decide +kernel
theorem dX9_crosses_0 : decode cX9_crosses 0 = .ok (.aload_n 0, 1) := by decide +kernel
theorem dX9_crosses_1 : decode cX9_crosses 1 = .ok (.iload_n 1, 1) := by decide +kernel
theorem dX9_crosses_2 : decode cX9_crosses 2 = .ok (.iload_n 2, 1) := by decide +kernel
theorem dX9_crosses_3 : decode cX9_crosses 3 = .ok (.invokevirtual 152, 3) := by decide +kernel
theorem dX9_crosses_6 : decode cX9_crosses 6 = .ok (.istore_n 3, 1) := by decide +kernel
theorem dX9_crosses_7 : decode cX9_crosses 7 = .ok (.iload_n 3, 1) := by decide +kernel
theorem dX9_crosses_8 : decode cX9_crosses 8 = .ok (.ifCond .eq 11, 3) := by decide +kernel
theorem dX9_crosses_11 : decode cX9_crosses 11 = .ok (.aload_n 0, 1) := by decide +kernel
theorem dX9_crosses_12 : decode cX9_crosses 12 = .ok (.iload_n 1, 1) := by decide +kernel
theorem dX9_crosses_13 : decode cX9_crosses 13 = .ok (.invokevirtual 171, 3) := by decide +kernel
theorem dX9_crosses_16 : decode cX9_crosses 16 = .ok (.goto 4, 3) := by decide +kernel
theorem dX9_crosses_19 : decode cX9_crosses 19 = .ok (.iconst 0, 1) := by decide +kernel
theorem dX9_crosses_20 : decode cX9_crosses 20 = .ok (.istore 4, 2) := by decide +kernel
theorem dX9_crosses_22 : decode cX9_crosses 22 = .ok (.aload_n 0, 1) := by decide +kernel
theorem dX9_crosses_23 : decode cX9_crosses 23 = .ok (.iload_n 2, 1) := by decide +kernel
theorem dX9_crosses_24 : decode cX9_crosses 24 = .ok (.iconst 1, 1) := by decide +kernel
theorem dX9_crosses_25 : decode cX9_crosses 25 = .ok (.invokevirtual 162, 3) := by decide +kernel
theorem dX9_crosses_28 : decode cX9_crosses 28 = .ok (.iload 4, 2) := by decide +kernel
theorem dX9_crosses_30 : decode cX9_crosses 30 = .ok (.if_icmp .ge 12, 3) := by decide +kernel
theorem dX9_crosses_33 : decode cX9_crosses 33 = .ok (.aload_n 0, 1) := by decide +kernel
theorem dX9_crosses_34 : decode cX9_crosses 34 = .ok (.iload_n 2, 1) := by decide +kernel
theorem dX9_crosses_35 : decode cX9_crosses 35 = .ok (.iconst 1, 1) := by decide +kernel
theorem dX9_crosses_36 : decode cX9_crosses 36 = .ok (.invokevirtual 162, 3) := by decide +kernel
theorem dX9_crosses_39 : decode cX9_crosses 39 = .ok (.goto 5, 3) := by decide +kernel
theorem dX9_crosses_42 : decode cX9_crosses 42 = .ok (.iload 4, 2) := by decide +kernel
theorem dX9_crosses_44 : decode cX9_crosses 44 = .ok (.istore 5, 2) := by decide +kernel
theorem dX9_crosses_46 : decode cX9_crosses 46 = .ok (.aload_n 0, 1) := by decide +kernel
theorem dX9_crosses_47 : decode cX9_crosses 47 = .ok (.getfield 7, 3) := by decide +kernel
theorem dX9_crosses_50 : decode cX9_crosses 50 = .ok (.bipush 8, 2) := by decide +kernel
theorem dX9_crosses_52 : decode cX9_crosses 52 = .ok (.iconst 2, 1) := by decide +kernel
theorem dX9_crosses_53 : decode cX9_crosses 53 = .ok (.iload_n 2, 1) := by decide +kernel
theorem dX9_crosses_54 : decode cX9_crosses 54 = .ok (.imul, 1) := by decide +kernel
theorem dX9_crosses_55 : decode cX9_crosses 55 = .ok (.iadd, 1) := by decide +kernel
theorem dX9_crosses_56 : decode cX9_crosses 56 = .ok (.iconst 1, 1) := by decide +kernel
theorem dX9_crosses_57 : decode cX9_crosses 57 = .ok (.iadd, 1) := by decide +kernel
theorem dX9_crosses_58 : decode cX9_crosses 58 = .ok (.dup2, 1) := by decide +kernel
theorem dX9_crosses_59 : decode cX9_crosses 59 = .ok (.iaload, 1) := by decide +kernel
theorem dX9_crosses_60 : decode cX9_crosses 60 = .ok (.iload 5, 2) := by decide +kernel
theorem dX9_crosses_62 : decode cX9_crosses 62 = .ok (.isub, 1) := by decide +kernel
theorem dX9_crosses_63 : decode cX9_crosses 63 = .ok (.iastore, 1) := by decide +kernel
theorem dX9_crosses_64 : decode cX9_crosses 64 = .ok (.aload_n 0, 1) := by decide +kernel
theorem dX9_crosses_65 : decode cX9_crosses 65 = .ok (.iload_n 1, 1) := by decide +kernel
theorem dX9_crosses_66 : decode cX9_crosses 66 = .ok (.iconst 3, 1) := by decide +kernel
theorem dX9_crosses_67 : decode cX9_crosses 67 = .ok (.aload_n 0, 1) := by decide +kernel
theorem dX9_crosses_68 : decode cX9_crosses 68 = .ok (.iload_n 1, 1) := by decide +kernel
theorem dX9_crosses_69 : decode cX9_crosses 69 = .ok (.iconst 3, 1) := by decide +kernel
theorem dX9_crosses_70 : decode cX9_crosses 70 = .ok (.invokevirtual 123, 3) := by decide +kernel
theorem dX9_crosses_73 : decode cX9_crosses 73 = .ok (.iload 5, 2) := by decide +kernel
theorem dX9_crosses_75 : decode cX9_crosses 75 = .ok (.iadd, 1) := by decide +kernel
theorem dX9_crosses_76 : decode cX9_crosses 76 = .ok (.iconst 0, 1) := by decide +kernel
theorem dX9_crosses_77 : decode cX9_crosses 77 = .ok (.ldc 177, 2) := by decide +kernel
theorem dX9_crosses_79 : decode cX9_crosses 79 = .ok (.invokestatic 133, 3) := by decide +kernel
theorem dX9_crosses_82 : decode cX9_crosses 82 = .ok (.invokevirtual 142, 3) := by decide +kernel
theorem dX9_crosses_85 : decode cX9_crosses 85 = .ok (.aload_n 0, 1) := by decide +kernel
theorem dX9_crosses_86 : decode cX9_crosses 86 = .ok (.getfield 7, 3) := by decide +kernel
theorem dX9_crosses_89 : decode cX9_crosses 89 = .ok (.bipush 8, 2) := by decide +kernel
theorem dX9_crosses_91 : decode cX9_crosses 91 = .ok (.iconst 2, 1) := by decide +kernel
theorem dX9_crosses_92 : decode cX9_crosses 92 = .ok (.iload_n 2, 1) := by decide +kernel
theorem dX9_crosses_93 : decode cX9_crosses 93 = .ok (.imul, 1) := by decide +kernel
theorem dX9_crosses_94 : decode cX9_crosses 94 = .ok (.iadd, 1) := by decide +kernel
theorem dX9_crosses_95 : decode cX9_crosses 95 = .ok (.iconst 1, 1) := by decide +kernel
theorem dX9_crosses_96 : decode cX9_crosses 96 = .ok (.aload_n 0, 1) := by decide +kernel
theorem dX9_crosses_97 : decode cX9_crosses 97 = .ok (.iload_n 2, 1) := by decide +kernel
theorem dX9_crosses_98 : decode cX9_crosses 98 = .ok (.iconst 0, 1) := by decide +kernel
theorem dX9_crosses_99 : decode cX9_crosses 99 = .ok (.invokevirtual 162, 3) := by decide +kernel
theorem dX9_crosses_102 : decode cX9_crosses 102 = .ok (.isub, 1) := by decide +kernel
theorem dX9_crosses_103 : decode cX9_crosses 103 = .ok (.iastore, 1) := by decide +kernel
theorem dX9_crosses_104 : decode cX9_crosses 104 = .ok (.aload_n 0, 1) := by decide +kernel
theorem dX9_crosses_105 : decode cX9_crosses 105 = .ok (.iload_n 1, 1) := by decide +kernel
theorem dX9_crosses_106 : decode cX9_crosses 106 = .ok (.iconst 2, 1) := by decide +kernel
theorem dX9_crosses_107 : decode cX9_crosses 107 = .ok (.aload_n 0, 1) := by decide +kernel
theorem dX9_crosses_108 : decode cX9_crosses 108 = .ok (.iload_n 2, 1) := by decide +kernel
theorem dX9_crosses_109 : decode cX9_crosses 109 = .ok (.iconst 0, 1) := by decide +kernel
theorem dX9_crosses_110 : decode cX9_crosses 110 = .ok (.invokevirtual 162, 3) := by decide +kernel
theorem dX9_crosses_113 : decode cX9_crosses 113 = .ok (.invokevirtual 142, 3) := by decide +kernel
theorem dX9_crosses_116 : decode cX9_crosses 116 = .ok (.aload_n 0, 1) := by decide +kernel
theorem dX9_crosses_117 : decode cX9_crosses 117 = .ok (.iload_n 1, 1) := by decide +kernel
theorem dX9_crosses_118 : decode cX9_crosses 118 = .ok (.iconst 0, 1) := by decide +kernel
theorem dX9_crosses_119 : decode cX9_crosses 119 = .ok (.invokevirtual 123, 3) := by decide +kernel
theorem dX9_crosses_122 : decode cX9_crosses 122 = .ok (.iconst 5, 1) := by decide +kernel
theorem dX9_crosses_123 : decode cX9_crosses 123 = .ok (.if_icmp .ne 24, 3) := by decide +kernel
theorem dX9_crosses_126 : decode cX9_crosses 126 = .ok (.iload 4, 2) := by decide +kernel
theorem dX9_crosses_128 : decode cX9_crosses 128 = .ok (.ifCond .le 19, 3) := by decide +kernel
theorem dX9_crosses_131 : decode cX9_crosses 131 = .ok (.iload 5, 2) := by decide +kernel
theorem dX9_crosses_133 : decode cX9_crosses 133 = .ok (.iload 4, 2) := by decide +kernel
theorem dX9_crosses_135 : decode cX9_crosses 135 = .ok (.if_icmp .ne 12, 3) := by decide +kernel
theorem dX9_crosses_138 : decode cX9_crosses 138 = .ok (.aload_n 0, 1) := by decide +kernel
theorem dX9_crosses_139 : decode cX9_crosses 139 = .ok (.iload_n 1, 1) := by decide +kernel
theorem dX9_crosses_140 : decode cX9_crosses 140 = .ok (.iload_n 2, 1) := by decide +kernel
theorem dX9_crosses_141 : decode cX9_crosses 141 = .ok (.invokevirtual 149, 3) := by decide +kernel
theorem dX9_crosses_144 : decode cX9_crosses 144 = .ok (.goto 9, 3) := by decide +kernel
theorem dX9_crosses_147 : decode cX9_crosses 147 = .ok (.aload_n 0, 1) := by decide +kernel
theorem dX9_crosses_148 : decode cX9_crosses 148 = .ok (.iload_n 1, 1) := by decide +kernel
theorem dX9_crosses_149 : decode cX9_crosses 149 = .ok (.iload_n 2, 1) := by decide +kernel
theorem dX9_crosses_150 : decode cX9_crosses 150 = .ok (.invokevirtual 178, 3) := by decide +kernel
theorem dX9_crosses_153 : decode cX9_crosses 153 = .ok (.iconst 0, 1) := by decide +kernel
theorem dX9_crosses_154 : decode cX9_crosses 154 = .ok (.istore 6, 2) := by decide +kernel
theorem dX9_crosses_156 : decode cX9_crosses 156 = .ok (.iload 6, 2) := by decide +kernel
theorem dX9_crosses_158 : decode cX9_crosses 158 = .ok (.aload_n 0, 1) := by decide +kernel
theorem dX9_crosses_159 : decode cX9_crosses 159 = .ok (.getfield 7, 3) := by decide +kernel
theorem dX9_crosses_162 : decode cX9_crosses 162 = .ok (.iconst 1, 1) := by decide +kernel
theorem dX9_crosses_163 : decode cX9_crosses 163 = .ok (.iaload, 1) := by decide +kernel
theorem dX9_crosses_164 : decode cX9_crosses 164 = .ok (.if_icmp .ge 48, 3) := by decide +kernel
theorem dX9_crosses_167 : decode cX9_crosses 167 = .ok (.aload_n 0, 1) := by decide +kernel
theorem dX9_crosses_168 : decode cX9_crosses 168 = .ok (.iload_n 1, 1) := by decide +kernel
theorem dX9_crosses_169 : decode cX9_crosses 169 = .ok (.iconst 0, 1) := by decide +kernel
theorem dX9_crosses_170 : decode cX9_crosses 170 = .ok (.invokevirtual 123, 3) := by decide +kernel
theorem dX9_crosses_173 : decode cX9_crosses 173 = .ok (.iconst 4, 1) := by decide +kernel
theorem dX9_crosses_174 : decode cX9_crosses 174 = .ok (.if_icmp .ne 38, 3) := by decide +kernel
theorem dX9_crosses_177 : decode cX9_crosses 177 = .ok (.iload 6, 2) := by decide +kernel
theorem dX9_crosses_179 : decode cX9_crosses 179 = .ok (.iload_n 1, 1) := by decide +kernel
theorem dX9_crosses_180 : decode cX9_crosses 180 = .ok (.if_icmp .eq 26, 3) := by decide +kernel
theorem dX9_crosses_183 : decode cX9_crosses 183 = .ok (.aload_n 0, 1) := by decide +kernel
theorem dX9_crosses_184 : decode cX9_crosses 184 = .ok (.iload 6, 2) := by decide +kernel
theorem dX9_crosses_186 : decode cX9_crosses 186 = .ok (.iconst 2, 1) := by decide +kernel
theorem dX9_crosses_187 : decode cX9_crosses 187 = .ok (.invokevirtual 123, 3) := by decide +kernel
theorem dX9_crosses_190 : decode cX9_crosses 190 = .ok (.aload_n 0, 1) := by decide +kernel
theorem dX9_crosses_191 : decode cX9_crosses 191 = .ok (.iload_n 1, 1) := by decide +kernel
theorem dX9_crosses_192 : decode cX9_crosses 192 = .ok (.iconst 2, 1) := by decide +kernel
theorem dX9_crosses_193 : decode cX9_crosses 193 = .ok (.invokevirtual 123, 3) := by decide +kernel
theorem dX9_crosses_196 : decode cX9_crosses 196 = .ok (.if_icmp .ne 10, 3) := by decide +kernel
theorem dX9_crosses_199 : decode cX9_crosses 199 = .ok (.aload_n 0, 1) := by decide +kernel
theorem dX9_crosses_200 : decode cX9_crosses 200 = .ok (.iload 6, 2) := by decide +kernel
theorem dX9_crosses_202 : decode cX9_crosses 202 = .ok (.iload_n 2, 1) := by decide +kernel
theorem dX9_crosses_203 : decode cX9_crosses 203 = .ok (.invokevirtual 178, 3) := by decide +kernel
theorem dX9_crosses_206 : decode cX9_crosses 206 = .ok (.iinc 6 1, 3) := by decide +kernel
theorem dX9_crosses_209 : decode cX9_crosses 209 = .ok (.goto (-53), 3) := by decide +kernel
theorem dX9_crosses_212 : decode cX9_crosses 212 = .ok (.bipush 23, 2) := by decide +kernel
theorem dX9_crosses_214 : decode cX9_crosses 214 = .ok (.istore 6, 2) := by decide +kernel
theorem dX9_crosses_216 : decode cX9_crosses 216 = .ok (.iload 6, 2) := by decide +kernel
theorem dX9_crosses_218 : decode cX9_crosses 218 = .ok (.ifCond .le 31, 3) := by decide +kernel
theorem dX9_crosses_221 : decode cX9_crosses 221 = .ok (.aload_n 0, 1) := by decide +kernel
theorem dX9_crosses_222 : decode cX9_crosses 222 = .ok (.getfield 7, 3) := by decide +kernel
theorem dX9_crosses_225 : decode cX9_crosses 225 = .ok (.bipush 100, 2) := by decide +kernel
theorem dX9_crosses_227 : decode cX9_crosses 227 = .ok (.iload 6, 2) := by decide +kernel
theorem dX9_crosses_229 : decode cX9_crosses 229 = .ok (.iadd, 1) := by decide +kernel
theorem dX9_crosses_230 : decode cX9_crosses 230 = .ok (.aload_n 0, 1) := by decide +kernel
theorem dX9_crosses_231 : decode cX9_crosses 231 = .ok (.getfield 7, 3) := by decide +kernel
theorem dX9_crosses_234 : decode cX9_crosses 234 = .ok (.bipush 100, 2) := by decide +kernel
theorem dX9_crosses_236 : decode cX9_crosses 236 = .ok (.iload 6, 2) := by decide +kernel
theorem dX9_crosses_238 : decode cX9_crosses 238 = .ok (.iadd, 1) := by decide +kernel
theorem dX9_crosses_239 : decode cX9_crosses 239 = .ok (.iconst 1, 1) := by decide +kernel
theorem dX9_crosses_240 : decode cX9_crosses 240 = .ok (.isub, 1) := by decide +kernel
theorem dX9_crosses_241 : decode cX9_crosses 241 = .ok (.iaload, 1) := by decide +kernel
theorem dX9_crosses_242 : decode cX9_crosses 242 = .ok (.iastore, 1) := by decide +kernel
theorem dX9_crosses_243 : decode cX9_crosses 243 = .ok (.iinc 6 (-1), 3) := by decide +kernel
theorem dX9_crosses_246 : decode cX9_crosses 246 = .ok (.goto (-30), 3) := by decide +kernel
theorem dX9_crosses_249 : decode cX9_crosses 249 = .ok (.aload_n 0, 1) := by decide +kernel
theorem dX9_crosses_250 : decode cX9_crosses 250 = .ok (.getfield 7, 3) := by decide +kernel
theorem dX9_crosses_253 : decode cX9_crosses 253 = .ok (.bipush 100, 2) := by decide +kernel
theorem dX9_crosses_255 : decode cX9_crosses 255 = .ok (.bipush 10, 2) := by decide +kernel
theorem dX9_crosses_257 : decode cX9_crosses 257 = .ok (.iload_n 1, 1) := by decide +kernel
theorem dX9_crosses_258 : decode cX9_crosses 258 = .ok (.imul, 1) := by decide +kernel
theorem dX9_crosses_259 : decode cX9_crosses 259 = .ok (.iload_n 2, 1) := by decide +kernel
theorem dX9_crosses_260 : decode cX9_crosses 260 = .ok (.iadd, 1) := by decide +kernel
theorem dX9_crosses_261 : decode cX9_crosses 261 = .ok (.iastore, 1) := by decide +kernel
theorem dX9_crosses_262 : decode cX9_crosses 262 = .ok (.aload_n 0, 1) := by decide +kernel
theorem dX9_crosses_263 : decode cX9_crosses 263 = .ok (.getfield 7, 3) := by decide +kernel
theorem dX9_crosses_266 : decode cX9_crosses 266 = .ok (.iconst 4, 1) := by decide +kernel
theorem dX9_crosses_267 : decode cX9_crosses 267 = .ok (.aload_n 0, 1) := by decide +kernel
theorem dX9_crosses_268 : decode cX9_crosses 268 = .ok (.getfield 7, 3) := by decide +kernel
theorem dX9_crosses_271 : decode cX9_crosses 271 = .ok (.iconst 4, 1) := by decide +kernel
theorem dX9_crosses_272 : decode cX9_crosses 272 = .ok (.iaload, 1) := by decide +kernel
theorem dX9_crosses_273 : decode cX9_crosses 273 = .ok (.iconst 1, 1) := by decide +kernel
theorem dX9_crosses_274 : decode cX9_crosses 274 = .ok (.iadd, 1) := by decide +kernel
theorem dX9_crosses_275 : decode cX9_crosses 275 = .ok (.iconst 0, 1) := by decide +kernel
theorem dX9_crosses_276 : decode cX9_crosses 276 = .ok (.bipush 24, 2) := by decide +kernel
theorem dX9_crosses_278 : decode cX9_crosses 278 = .ok (.invokestatic 133, 3) := by decide +kernel
theorem dX9_crosses_281 : decode cX9_crosses 281 = .ok (.iastore, 1) := by decide +kernel
theorem dX9_crosses_282 : decode cX9_crosses 282 = .ok (.aload_n 0, 1) := by decide +kernel
theorem dX9_crosses_283 : decode cX9_crosses 283 = .ok (.getfield 7, 3) := by decide +kernel
theorem dX9_crosses_286 : decode cX9_crosses 286 = .ok (.iconst 2, 1) := by decide +kernel
theorem dX9_crosses_287 : decode cX9_crosses 287 = .ok (.dup2, 1) := by decide +kernel
theorem dX9_crosses_288 : decode cX9_crosses 288 = .ok (.iaload, 1) := by decide +kernel
theorem dX9_crosses_289 : decode cX9_crosses 289 = .ok (.iconst 1, 1) := by decide +kernel
theorem dX9_crosses_290 : decode cX9_crosses 290 = .ok (.iadd, 1) := by decide +kernel
theorem dX9_crosses_291 : decode cX9_crosses 291 = .ok (.iastore, 1) := by decide +kernel
theorem dX9_crosses_292 : decode cX9_crosses 292 = .ok (.iload 5, 2) := by decide +kernel
theorem dX9_crosses_294 : decode cX9_crosses 294 = .ok (.ireturn, 1) := by decide +kernel
theorem dX9_whyNotCross_0 : decode cX9_whyNotCross 0 = .ok (.aload_n 0, 1) := by decide +kernel
theorem dX9_whyNotCross_1 : decode cX9_whyNotCross 1 = .ok (.iload_n 1, 1) := by decide +kernel
theorem dX9_whyNotCross_2 : decode cX9_whyNotCross 2 = .ok (.invokevirtual 168, 3) := by decide +kernel
theorem dX9_whyNotCross_5 : decode cX9_whyNotCross 5 = .ok (.ifCond .eq 11, 3) := by decide +kernel
theorem dX9_whyNotCross_8 : decode cX9_whyNotCross 8 = .ok (.aload_n 0, 1) := by decide +kernel
theorem dX9_whyNotCross_9 : decode cX9_whyNotCross 9 = .ok (.iload_n 2, 1) := by decide +kernel
theorem dX9_whyNotCross_10 : decode cX9_whyNotCross 10 = .ok (.invokevirtual 156, 3) := by decide +kernel
theorem dX9_whyNotCross_13 : decode cX9_whyNotCross 13 = .ok (.ifCond .ne 5, 3) := by decide +kernel
theorem dX9_whyNotCross_16 : decode cX9_whyNotCross 16 = .ok (.iconst 1, 1) := by decide +kernel
theorem dX9_whyNotCross_17 : decode cX9_whyNotCross 17 = .ok (.ireturn, 1) := by decide +kernel
theorem dX9_whyNotCross_18 : decode cX9_whyNotCross 18 = .ok (.aload_n 0, 1) := by decide +kernel
theorem dX9_whyNotCross_19 : decode cX9_whyNotCross 19 = .ok (.iload_n 1, 1) := by decide +kernel
theorem dX9_whyNotCross_20 : decode cX9_whyNotCross 20 = .ok (.iload_n 2, 1) := by decide +kernel
theorem dX9_whyNotCross_21 : decode cX9_whyNotCross 21 = .ok (.invokevirtual 181, 3) := by decide +kernel
theorem dX9_whyNotCross_24 : decode cX9_whyNotCross 24 = .ok (.ifCond .eq 15, 3) := by decide +kernel
theorem dX9_whyNotCross_27 : decode cX9_whyNotCross 27 = .ok (.aload_n 0, 1) := by decide +kernel
theorem dX9_whyNotCross_28 : decode cX9_whyNotCross 28 = .ok (.getfield 7, 3) := by decide +kernel
theorem dX9_whyNotCross_31 : decode cX9_whyNotCross 31 = .ok (.iconst 2, 1) := by decide +kernel
theorem dX9_whyNotCross_32 : decode cX9_whyNotCross 32 = .ok (.iaload, 1) := by decide +kernel
theorem dX9_whyNotCross_33 : decode cX9_whyNotCross 33 = .ok (.sipush 9999, 3) := by decide +kernel
theorem dX9_whyNotCross_36 : decode cX9_whyNotCross 36 = .ok (.if_icmp .ne 7, 3) := by decide +kernel
theorem dX9_whyNotCross_39 : decode cX9_whyNotCross 39 = .ok (.iconst 3, 1) := by decide +kernel
theorem dX9_whyNotCross_40 : decode cX9_whyNotCross 40 = .ok (.goto 4, 3) := by decide +kernel
theorem dX9_whyNotCross_43 : decode cX9_whyNotCross 43 = .ok (.iconst 0, 1) := by decide +kernel
theorem dX9_whyNotCross_44 : decode cX9_whyNotCross 44 = .ok (.ireturn, 1) := by decide +kernel
theorem dX9_cross_0 : decode cX9_cross 0 = .ok (.aload_n 0, 1) := by decide +kernel
theorem dX9_cross_1 : decode cX9_cross 1 = .ok (.iload_n 1, 1) := by decide +kernel
theorem dX9_cross_2 : decode cX9_cross 2 = .ok (.iload_n 2, 1) := by decide +kernel
theorem dX9_cross_3 : decode cX9_cross 3 = .ok (.invokevirtual 184, 3) := by decide +kernel
theorem dX9_cross_6 : decode cX9_cross 6 = .ok (.istore_n 3, 1) := by decide +kernel
theorem dX9_cross_7 : decode cX9_cross 7 = .ok (.iload_n 3, 1) := by decide +kernel
theorem dX9_cross_8 : decode cX9_cross 8 = .ok (.ifCond .le 11, 3) := by decide +kernel
theorem dX9_cross_11 : decode cX9_cross 11 = .ok (.aload_n 0, 1) := by decide +kernel
theorem dX9_cross_12 : decode cX9_cross 12 = .ok (.iload_n 3, 1) := by decide +kernel
theorem dX9_cross_13 : decode cX9_cross 13 = .ok (.invokevirtual 63, 3) := by decide +kernel
theorem dX9_cross_16 : decode cX9_cross 16 = .ok (.goto 9, 3) := by decide +kernel
theorem dX9_cross_19 : decode cX9_cross 19 = .ok (.aload_n 0, 1) := by decide +kernel
theorem dX9_cross_20 : decode cX9_cross 20 = .ok (.iload_n 1, 1) := by decide +kernel
theorem dX9_cross_21 : decode cX9_cross 21 = .ok (.iload_n 2, 1) := by decide +kernel
theorem dX9_cross_22 : decode cX9_cross 22 = .ok (.invokevirtual 187, 3) := by decide +kernel
theorem dX9_cross_25 : decode cX9_cross 25 = .ok (.ireturn, 1) := by decide +kernel
theorem dX9_goesAlone_0 : decode cX9_goesAlone 0 = .ok (.aload_n 0, 1) := by decide +kernel
theorem dX9_goesAlone_1 : decode cX9_goesAlone 1 = .ok (.iload_n 1, 1) := by decide +kernel
theorem dX9_goesAlone_2 : decode cX9_goesAlone 2 = .ok (.iconst 2, 1) := by decide +kernel
theorem dX9_goesAlone_3 : decode cX9_goesAlone 3 = .ok (.iconst 1, 1) := by decide +kernel
theorem dX9_goesAlone_4 : decode cX9_goesAlone 4 = .ok (.aload_n 0, 1) := by decide +kernel
theorem dX9_goesAlone_5 : decode cX9_goesAlone 5 = .ok (.iload_n 1, 1) := by decide +kernel
theorem dX9_goesAlone_6 : decode cX9_goesAlone 6 = .ok (.iconst 2, 1) := by decide +kernel
theorem dX9_goesAlone_7 : decode cX9_goesAlone 7 = .ok (.invokevirtual 123, 3) := by decide +kernel
theorem dX9_goesAlone_10 : decode cX9_goesAlone 10 = .ok (.isub, 1) := by decide +kernel
theorem dX9_goesAlone_11 : decode cX9_goesAlone 11 = .ok (.invokevirtual 142, 3) := by decide +kernel
theorem dX9_goesAlone_14 : decode cX9_goesAlone 14 = .ok (.aload_n 0, 1) := by decide +kernel
theorem dX9_goesAlone_15 : decode cX9_goesAlone 15 = .ok (.getfield 7, 3) := by decide +kernel
theorem dX9_goesAlone_18 : decode cX9_goesAlone 18 = .ok (.iconst 2, 1) := by decide +kernel
theorem dX9_goesAlone_19 : decode cX9_goesAlone 19 = .ok (.dup2, 1) := by decide +kernel
theorem dX9_goesAlone_20 : decode cX9_goesAlone 20 = .ok (.iaload, 1) := by decide +kernel
theorem dX9_goesAlone_21 : decode cX9_goesAlone 21 = .ok (.iconst 1, 1) := by decide +kernel
theorem dX9_goesAlone_22 : decode cX9_goesAlone 22 = .ok (.iadd, 1) := by decide +kernel
theorem dX9_goesAlone_23 : decode cX9_goesAlone 23 = .ok (.iastore, 1) := by decide +kernel
theorem dX9_goesAlone_24 : decode cX9_goesAlone 24 = .ok (.return_, 1) := by decide +kernel
theorem dX9_alone_0 : decode cX9_alone 0 = .ok (.aload_n 0, 1) := by decide +kernel
theorem dX9_alone_1 : decode cX9_alone 1 = .ok (.iload_n 1, 1) := by decide +kernel
theorem dX9_alone_2 : decode cX9_alone 2 = .ok (.invokevirtual 168, 3) := by decide +kernel
theorem dX9_alone_5 : decode cX9_alone 5 = .ok (.ifCond .ne 9, 3) := by decide +kernel
theorem dX9_alone_8 : decode cX9_alone 8 = .ok (.aload_n 0, 1) := by decide +kernel
theorem dX9_alone_9 : decode cX9_alone 9 = .ok (.iconst 1, 1) := by decide +kernel
theorem dX9_alone_10 : decode cX9_alone 10 = .ok (.invokevirtual 63, 3) := by decide +kernel
theorem dX9_alone_13 : decode cX9_alone 13 = .ok (.ireturn, 1) := by decide +kernel
theorem dX9_alone_14 : decode cX9_alone 14 = .ok (.aload_n 0, 1) := by decide +kernel
theorem dX9_alone_15 : decode cX9_alone 15 = .ok (.getfield 7, 3) := by decide +kernel
theorem dX9_alone_18 : decode cX9_alone 18 = .ok (.iconst 2, 1) := by decide +kernel
theorem dX9_alone_19 : decode cX9_alone 19 = .ok (.iaload, 1) := by decide +kernel
theorem dX9_alone_20 : decode cX9_alone 20 = .ok (.sipush 9999, 3) := by decide +kernel
theorem dX9_alone_23 : decode cX9_alone 23 = .ok (.if_icmp .ne 9, 3) := by decide +kernel
theorem dX9_alone_26 : decode cX9_alone 26 = .ok (.aload_n 0, 1) := by decide +kernel
theorem dX9_alone_27 : decode cX9_alone 27 = .ok (.iconst 3, 1) := by decide +kernel
theorem dX9_alone_28 : decode cX9_alone 28 = .ok (.invokevirtual 63, 3) := by decide +kernel
theorem dX9_alone_31 : decode cX9_alone 31 = .ok (.ireturn, 1) := by decide +kernel
theorem dX9_alone_32 : decode cX9_alone 32 = .ok (.aload_n 0, 1) := by decide +kernel
theorem dX9_alone_33 : decode cX9_alone 33 = .ok (.iload_n 1, 1) := by decide +kernel
theorem dX9_alone_34 : decode cX9_alone 34 = .ok (.invokevirtual 190, 3) := by decide +kernel
theorem dX9_alone_37 : decode cX9_alone 37 = .ok (.aload_n 0, 1) := by decide +kernel
theorem dX9_alone_38 : decode cX9_alone 38 = .ok (.iload_n 1, 1) := by decide +kernel
theorem dX9_alone_39 : decode cX9_alone 39 = .ok (.iconst 2, 1) := by decide +kernel
theorem dX9_alone_40 : decode cX9_alone 40 = .ok (.invokevirtual 123, 3) := by decide +kernel
theorem dX9_alone_43 : decode cX9_alone 43 = .ok (.ireturn, 1) := by decide +kernel
theorem dX9_draw_0 : decode cX9_draw 0 = .ok (.aload_n 0, 1) := by decide +kernel
theorem dX9_draw_1 : decode cX9_draw 1 = .ok (.getfield 7, 3) := by decide +kernel
theorem dX9_draw_4 : decode cX9_draw 4 = .ok (.bipush 7, 2) := by decide +kernel
theorem dX9_draw_6 : decode cX9_draw 6 = .ok (.aload_n 0, 1) := by decide +kernel
theorem dX9_draw_7 : decode cX9_draw 7 = .ok (.getfield 7, 3) := by decide +kernel
theorem dX9_draw_10 : decode cX9_draw 10 = .ok (.bipush 7, 2) := by decide +kernel
theorem dX9_draw_12 : decode cX9_draw 12 = .ok (.iaload, 1) := by decide +kernel
theorem dX9_draw_13 : decode cX9_draw 13 = .ok (.ldc 194, 2) := by decide +kernel
theorem dX9_draw_15 : decode cX9_draw 15 = .ok (.imul, 1) := by decide +kernel
theorem dX9_draw_16 : decode cX9_draw 16 = .ok (.sipush 12345, 3) := by decide +kernel
theorem dX9_draw_19 : decode cX9_draw 19 = .ok (.iadd, 1) := by decide +kernel
theorem dX9_draw_20 : decode cX9_draw 20 = .ok (.iastore, 1) := by decide +kernel
theorem dX9_draw_21 : decode cX9_draw 21 = .ok (.aload_n 0, 1) := by decide +kernel
theorem dX9_draw_22 : decode cX9_draw 22 = .ok (.getfield 7, 3) := by decide +kernel
theorem dX9_draw_25 : decode cX9_draw 25 = .ok (.bipush 7, 2) := by decide +kernel
theorem dX9_draw_27 : decode cX9_draw 27 = .ok (.iaload, 1) := by decide +kernel
theorem dX9_draw_28 : decode cX9_draw 28 = .ok (.bipush 8, 2) := by decide +kernel
theorem dX9_draw_30 : decode cX9_draw 30 = .ok (.iushr, 1) := by decide +kernel
theorem dX9_draw_31 : decode cX9_draw 31 = .ok (.ireturn, 1) := by decide +kernel
theorem dX9_crossByDraws_0 : decode cX9_crossByDraws 0 = .ok (.aload_n 0, 1) := by decide +kernel
theorem dX9_crossByDraws_1 : decode cX9_crossByDraws 1 = .ok (.invokevirtual 195, 3) := by decide +kernel
theorem dX9_crossByDraws_4 : decode cX9_crossByDraws 4 = .ok (.aload_n 0, 1) := by decide +kernel
theorem dX9_crossByDraws_5 : decode cX9_crossByDraws 5 = .ok (.getfield 7, 3) := by decide +kernel
theorem dX9_crossByDraws_8 : decode cX9_crossByDraws 8 = .ok (.iconst 1, 1) := by decide +kernel
theorem dX9_crossByDraws_9 : decode cX9_crossByDraws 9 = .ok (.iaload, 1) := by decide +kernel
theorem dX9_crossByDraws_10 : decode cX9_crossByDraws 10 = .ok (.irem, 1) := by decide +kernel
theorem dX9_crossByDraws_11 : decode cX9_crossByDraws 11 = .ok (.istore_n 1, 1) := by decide +kernel
theorem dX9_crossByDraws_12 : decode cX9_crossByDraws 12 = .ok (.iconst 0, 1) := by decide +kernel
theorem dX9_crossByDraws_13 : decode cX9_crossByDraws 13 = .ok (.istore_n 2, 1) := by decide +kernel
theorem dX9_crossByDraws_14 : decode cX9_crossByDraws 14 = .ok (.iconst 0, 1) := by decide +kernel
theorem dX9_crossByDraws_15 : decode cX9_crossByDraws 15 = .ok (.istore_n 3, 1) := by decide +kernel
theorem dX9_crossByDraws_16 : decode cX9_crossByDraws 16 = .ok (.iload_n 3, 1) := by decide +kernel
theorem dX9_crossByDraws_17 : decode cX9_crossByDraws 17 = .ok (.aload_n 0, 1) := by decide +kernel
theorem dX9_crossByDraws_18 : decode cX9_crossByDraws 18 = .ok (.getfield 7, 3) := by decide +kernel
theorem dX9_crossByDraws_21 : decode cX9_crossByDraws 21 = .ok (.iconst 0, 1) := by decide +kernel
theorem dX9_crossByDraws_22 : decode cX9_crossByDraws 22 = .ok (.iaload, 1) := by decide +kernel
theorem dX9_crossByDraws_23 : decode cX9_crossByDraws 23 = .ok (.if_icmp .ge 26, 3) := by decide +kernel
theorem dX9_crossByDraws_26 : decode cX9_crossByDraws 26 = .ok (.iload_n 2, 1) := by decide +kernel
theorem dX9_crossByDraws_27 : decode cX9_crossByDraws 27 = .ok (.aload_n 0, 1) := by decide +kernel
theorem dX9_crossByDraws_28 : decode cX9_crossByDraws 28 = .ok (.iload_n 1, 1) := by decide +kernel
theorem dX9_crossByDraws_29 : decode cX9_crossByDraws 29 = .ok (.iload_n 3, 1) := by decide +kernel
theorem dX9_crossByDraws_30 : decode cX9_crossByDraws 30 = .ok (.invokevirtual 181, 3) := by decide +kernel
theorem dX9_crossByDraws_33 : decode cX9_crossByDraws 33 = .ok (.ifCond .eq 7, 3) := by decide +kernel
theorem dX9_crossByDraws_36 : decode cX9_crossByDraws 36 = .ok (.iconst 1, 1) := by decide +kernel
theorem dX9_crossByDraws_37 : decode cX9_crossByDraws 37 = .ok (.goto 4, 3) := by decide +kernel
theorem dX9_crossByDraws_40 : decode cX9_crossByDraws 40 = .ok (.iconst 0, 1) := by decide +kernel
theorem dX9_crossByDraws_41 : decode cX9_crossByDraws 41 = .ok (.iadd, 1) := by decide +kernel
theorem dX9_crossByDraws_42 : decode cX9_crossByDraws 42 = .ok (.istore_n 2, 1) := by decide +kernel
theorem dX9_crossByDraws_43 : decode cX9_crossByDraws 43 = .ok (.iinc 3 1, 3) := by decide +kernel
theorem dX9_crossByDraws_46 : decode cX9_crossByDraws 46 = .ok (.goto (-30), 3) := by decide +kernel
theorem dX9_crossByDraws_49 : decode cX9_crossByDraws 49 = .ok (.iload_n 2, 1) := by decide +kernel
theorem dX9_crossByDraws_50 : decode cX9_crossByDraws 50 = .ok (.ifCond .ne 9, 3) := by decide +kernel
theorem dX9_crossByDraws_53 : decode cX9_crossByDraws 53 = .ok (.aload_n 0, 1) := by decide +kernel
theorem dX9_crossByDraws_54 : decode cX9_crossByDraws 54 = .ok (.iload_n 1, 1) := by decide +kernel
theorem dX9_crossByDraws_55 : decode cX9_crossByDraws 55 = .ok (.invokevirtual 190, 3) := by decide +kernel
theorem dX9_crossByDraws_58 : decode cX9_crossByDraws 58 = .ok (.return_, 1) := by decide +kernel
theorem dX9_crossByDraws_59 : decode cX9_crossByDraws 59 = .ok (.aload_n 0, 1) := by decide +kernel
theorem dX9_crossByDraws_60 : decode cX9_crossByDraws 60 = .ok (.invokevirtual 195, 3) := by decide +kernel
theorem dX9_crossByDraws_63 : decode cX9_crossByDraws 63 = .ok (.iload_n 2, 1) := by decide +kernel
theorem dX9_crossByDraws_64 : decode cX9_crossByDraws 64 = .ok (.irem, 1) := by decide +kernel
theorem dX9_crossByDraws_65 : decode cX9_crossByDraws 65 = .ok (.istore_n 3, 1) := by decide +kernel
theorem dX9_crossByDraws_66 : decode cX9_crossByDraws 66 = .ok (.iconst 0, 1) := by decide +kernel
theorem dX9_crossByDraws_67 : decode cX9_crossByDraws 67 = .ok (.istore 4, 2) := by decide +kernel
theorem dX9_crossByDraws_69 : decode cX9_crossByDraws 69 = .ok (.aload_n 0, 1) := by decide +kernel
theorem dX9_crossByDraws_70 : decode cX9_crossByDraws 70 = .ok (.iload_n 1, 1) := by decide +kernel
theorem dX9_crossByDraws_71 : decode cX9_crossByDraws 71 = .ok (.iload 4, 2) := by decide +kernel
theorem dX9_crossByDraws_73 : decode cX9_crossByDraws 73 = .ok (.invokevirtual 181, 3) := by decide +kernel
theorem dX9_crossByDraws_76 : decode cX9_crossByDraws 76 = .ok (.ifCond .eq 7, 3) := by decide +kernel
theorem dX9_crossByDraws_79 : decode cX9_crossByDraws 79 = .ok (.iload_n 3, 1) := by decide +kernel
theorem dX9_crossByDraws_80 : decode cX9_crossByDraws 80 = .ok (.ifCond .le 27, 3) := by decide +kernel
theorem dX9_crossByDraws_83 : decode cX9_crossByDraws 83 = .ok (.iload_n 3, 1) := by decide +kernel
theorem dX9_crossByDraws_84 : decode cX9_crossByDraws 84 = .ok (.aload_n 0, 1) := by decide +kernel
theorem dX9_crossByDraws_85 : decode cX9_crossByDraws 85 = .ok (.iload_n 1, 1) := by decide +kernel
theorem dX9_crossByDraws_86 : decode cX9_crossByDraws 86 = .ok (.iload 4, 2) := by decide +kernel
theorem dX9_crossByDraws_88 : decode cX9_crossByDraws 88 = .ok (.invokevirtual 181, 3) := by decide +kernel
theorem dX9_crossByDraws_91 : decode cX9_crossByDraws 91 = .ok (.ifCond .eq 7, 3) := by decide +kernel
theorem dX9_crossByDraws_94 : decode cX9_crossByDraws 94 = .ok (.iconst 1, 1) := by decide +kernel
theorem dX9_crossByDraws_95 : decode cX9_crossByDraws 95 = .ok (.goto 4, 3) := by decide +kernel
theorem dX9_crossByDraws_98 : decode cX9_crossByDraws 98 = .ok (.iconst 0, 1) := by decide +kernel
theorem dX9_crossByDraws_99 : decode cX9_crossByDraws 99 = .ok (.isub, 1) := by decide +kernel
theorem dX9_crossByDraws_100 : decode cX9_crossByDraws 100 = .ok (.istore_n 3, 1) := by decide +kernel
theorem dX9_crossByDraws_101 : decode cX9_crossByDraws 101 = .ok (.iinc 4 1, 3) := by decide +kernel
theorem dX9_crossByDraws_104 : decode cX9_crossByDraws 104 = .ok (.goto (-35), 3) := by decide +kernel
theorem dX9_crossByDraws_107 : decode cX9_crossByDraws 107 = .ok (.aload_n 0, 1) := by decide +kernel
theorem dX9_crossByDraws_108 : decode cX9_crossByDraws 108 = .ok (.iload_n 1, 1) := by decide +kernel
theorem dX9_crossByDraws_109 : decode cX9_crossByDraws 109 = .ok (.iload 4, 2) := by decide +kernel
theorem dX9_crossByDraws_111 : decode cX9_crossByDraws 111 = .ok (.invokevirtual 187, 3) := by decide +kernel
theorem dX9_crossByDraws_114 : decode cX9_crossByDraws 114 = .ok (.istore 5, 2) := by decide +kernel
theorem dX9_crossByDraws_116 : decode cX9_crossByDraws 116 = .ok (.return_, 1) := by decide +kernel
theorem dX9_draws_0 : decode cX9_draws 0 = .ok (.iload_n 1, 1) := by decide +kernel
theorem dX9_draws_1 : decode cX9_draws 1 = .ok (.iconst 1, 1) := by decide +kernel
theorem dX9_draws_2 : decode cX9_draws 2 = .ok (.bipush 60, 2) := by decide +kernel
theorem dX9_draws_4 : decode cX9_draws 4 = .ok (.invokestatic 59, 3) := by decide +kernel
theorem dX9_draws_7 : decode cX9_draws 7 = .ok (.ifCond .ne 9, 3) := by decide +kernel
theorem dX9_draws_10 : decode cX9_draws 10 = .ok (.aload_n 0, 1) := by decide +kernel
theorem dX9_draws_11 : decode cX9_draws 11 = .ok (.iconst 1, 1) := by decide +kernel
theorem dX9_draws_12 : decode cX9_draws 12 = .ok (.invokevirtual 63, 3) := by decide +kernel
theorem dX9_draws_15 : decode cX9_draws 15 = .ok (.ireturn, 1) := by decide +kernel
theorem dX9_draws_16 : decode cX9_draws 16 = .ok (.aload_n 0, 1) := by decide +kernel
theorem dX9_draws_17 : decode cX9_draws 17 = .ok (.getfield 7, 3) := by decide +kernel
theorem dX9_draws_20 : decode cX9_draws 20 = .ok (.iconst 1, 1) := by decide +kernel
theorem dX9_draws_21 : decode cX9_draws 21 = .ok (.iaload, 1) := by decide +kernel
theorem dX9_draws_22 : decode cX9_draws 22 = .ok (.ifCond .eq 17, 3) := by decide +kernel
theorem dX9_draws_25 : decode cX9_draws 25 = .ok (.aload_n 0, 1) := by decide +kernel
theorem dX9_draws_26 : decode cX9_draws 26 = .ok (.getfield 7, 3) := by decide +kernel
theorem dX9_draws_29 : decode cX9_draws 29 = .ok (.iconst 2, 1) := by decide +kernel
theorem dX9_draws_30 : decode cX9_draws 30 = .ok (.iaload, 1) := by decide +kernel
theorem dX9_draws_31 : decode cX9_draws 31 = .ok (.iload_n 1, 1) := by decide +kernel
theorem dX9_draws_32 : decode cX9_draws 32 = .ok (.iadd, 1) := by decide +kernel
theorem dX9_draws_33 : decode cX9_draws 33 = .ok (.sipush 9999, 3) := by decide +kernel
theorem dX9_draws_36 : decode cX9_draws 36 = .ok (.if_icmp .le 9, 3) := by decide +kernel
theorem dX9_draws_39 : decode cX9_draws 39 = .ok (.aload_n 0, 1) := by decide +kernel
theorem dX9_draws_40 : decode cX9_draws 40 = .ok (.iconst 3, 1) := by decide +kernel
theorem dX9_draws_41 : decode cX9_draws 41 = .ok (.invokevirtual 63, 3) := by decide +kernel
theorem dX9_draws_44 : decode cX9_draws 44 = .ok (.ireturn, 1) := by decide +kernel
theorem dX9_draws_45 : decode cX9_draws 45 = .ok (.iconst 0, 1) := by decide +kernel
theorem dX9_draws_46 : decode cX9_draws 46 = .ok (.istore_n 2, 1) := by decide +kernel
theorem dX9_draws_47 : decode cX9_draws 47 = .ok (.iload_n 2, 1) := by decide +kernel
theorem dX9_draws_48 : decode cX9_draws 48 = .ok (.iload_n 1, 1) := by decide +kernel
theorem dX9_draws_49 : decode cX9_draws 49 = .ok (.if_icmp .ge 13, 3) := by decide +kernel
theorem dX9_draws_52 : decode cX9_draws 52 = .ok (.aload_n 0, 1) := by decide +kernel
theorem dX9_draws_53 : decode cX9_draws 53 = .ok (.invokevirtual 198, 3) := by decide +kernel
theorem dX9_draws_56 : decode cX9_draws 56 = .ok (.iinc 2 1, 3) := by decide +kernel
theorem dX9_draws_59 : decode cX9_draws 59 = .ok (.goto (-12), 3) := by decide +kernel
theorem dX9_draws_62 : decode cX9_draws 62 = .ok (.aload_n 0, 1) := by decide +kernel
theorem dX9_draws_63 : decode cX9_draws 63 = .ok (.getfield 7, 3) := by decide +kernel
theorem dX9_draws_66 : decode cX9_draws 66 = .ok (.iconst 2, 1) := by decide +kernel
theorem dX9_draws_67 : decode cX9_draws 67 = .ok (.iaload, 1) := by decide +kernel
theorem dX9_draws_68 : decode cX9_draws 68 = .ok (.ireturn, 1) := by decide +kernel
theorem dX9_seed_0 : decode cX9_seed 0 = .ok (.aload_n 0, 1) := by decide +kernel
theorem dX9_seed_1 : decode cX9_seed 1 = .ok (.getfield 7, 3) := by decide +kernel
theorem dX9_seed_4 : decode cX9_seed 4 = .ok (.bipush 7, 2) := by decide +kernel
theorem dX9_seed_6 : decode cX9_seed 6 = .ok (.iaload, 1) := by decide +kernel
theorem dX9_seed_7 : decode cX9_seed 7 = .ok (.istore_n 2, 1) := by decide +kernel
theorem dX9_seed_8 : decode cX9_seed 8 = .ok (.aload_n 0, 1) := by decide +kernel
theorem dX9_seed_9 : decode cX9_seed 9 = .ok (.getfield 7, 3) := by decide +kernel
theorem dX9_seed_12 : decode cX9_seed 12 = .ok (.bipush 7, 2) := by decide +kernel
theorem dX9_seed_14 : decode cX9_seed 14 = .ok (.iload_n 1, 1) := by decide +kernel
theorem dX9_seed_15 : decode cX9_seed 15 = .ok (.iastore, 1) := by decide +kernel
theorem dX9_seed_16 : decode cX9_seed 16 = .ok (.iload_n 2, 1) := by decide +kernel
theorem dX9_seed_17 : decode cX9_seed 17 = .ok (.ireturn, 1) := by decide +kernel
theorem dX9_book_0 : decode cX9_book 0 = .ok (.iload_n 1, 1) := by decide +kernel
theorem dX9_book_1 : decode cX9_book 1 = .ok (.iconst 0, 1) := by decide +kernel
theorem dX9_book_2 : decode cX9_book 2 = .ok (.aload_n 0, 1) := by decide +kernel
theorem dX9_book_3 : decode cX9_book 3 = .ok (.getfield 7, 3) := by decide +kernel
theorem dX9_book_6 : decode cX9_book 6 = .ok (.iconst 4, 1) := by decide +kernel
theorem dX9_book_7 : decode cX9_book 7 = .ok (.iaload, 1) := by decide +kernel
theorem dX9_book_8 : decode cX9_book 8 = .ok (.iconst 1, 1) := by decide +kernel
theorem dX9_book_9 : decode cX9_book 9 = .ok (.isub, 1) := by decide +kernel
theorem dX9_book_10 : decode cX9_book 10 = .ok (.invokestatic 59, 3) := by decide +kernel
theorem dX9_book_13 : decode cX9_book 13 = .ok (.ifCond .eq 15, 3) := by decide +kernel
theorem dX9_book_16 : decode cX9_book 16 = .ok (.aload_n 0, 1) := by decide +kernel
theorem dX9_book_17 : decode cX9_book 17 = .ok (.getfield 7, 3) := by decide +kernel
theorem dX9_book_20 : decode cX9_book 20 = .ok (.bipush 100, 2) := by decide +kernel
theorem dX9_book_22 : decode cX9_book 22 = .ok (.iload_n 1, 1) := by decide +kernel
theorem dX9_book_23 : decode cX9_book 23 = .ok (.iadd, 1) := by decide +kernel
theorem dX9_book_24 : decode cX9_book 24 = .ok (.iaload, 1) := by decide +kernel
theorem dX9_book_25 : decode cX9_book 25 = .ok (.goto 8, 3) := by decide +kernel
theorem dX9_book_28 : decode cX9_book 28 = .ok (.aload_n 0, 1) := by decide +kernel
theorem dX9_book_29 : decode cX9_book 29 = .ok (.iconst 2, 1) := by decide +kernel
theorem dX9_book_30 : decode cX9_book 30 = .ok (.invokevirtual 63, 3) := by decide +kernel
theorem dX9_book_33 : decode cX9_book 33 = .ok (.ireturn, 1) := by decide +kernel
theorem dX9_owed_0 : decode cX9_owed 0 = .ok (.aload_n 0, 1) := by decide +kernel
theorem dX9_owed_1 : decode cX9_owed 1 = .ok (.getfield 7, 3) := by decide +kernel
theorem dX9_owed_4 : decode cX9_owed 4 = .ok (.bipush 76, 2) := by decide +kernel
theorem dX9_owed_6 : decode cX9_owed 6 = .ok (.iconst 3, 1) := by decide +kernel
theorem dX9_owed_7 : decode cX9_owed 7 = .ok (.iload_n 1, 1) := by decide +kernel
theorem dX9_owed_8 : decode cX9_owed 8 = .ok (.imul, 1) := by decide +kernel
theorem dX9_owed_9 : decode cX9_owed 9 = .ok (.iadd, 1) := by decide +kernel
theorem dX9_owed_10 : decode cX9_owed 10 = .ok (.iload_n 2, 1) := by decide +kernel
theorem dX9_owed_11 : decode cX9_owed 11 = .ok (.iadd, 1) := by decide +kernel
theorem dX9_owed_12 : decode cX9_owed 12 = .ok (.iaload, 1) := by decide +kernel
theorem dX9_owed_13 : decode cX9_owed 13 = .ok (.ireturn, 1) := by decide +kernel
theorem dX9_holds_0 : decode cX9_holds 0 = .ok (.aload_n 0, 1) := by decide +kernel
theorem dX9_holds_1 : decode cX9_holds 1 = .ok (.getfield 34, 3) := by decide +kernel
theorem dX9_holds_4 : decode cX9_holds 4 = .ok (.aload_n 0, 1) := by decide +kernel
theorem dX9_holds_5 : decode cX9_holds 5 = .ok (.iload_n 1, 1) := by decide +kernel
theorem dX9_holds_6 : decode cX9_holds 6 = .ok (.iconst 0, 1) := by decide +kernel
theorem dX9_holds_7 : decode cX9_holds 7 = .ok (.invokevirtual 201, 3) := by decide +kernel
theorem dX9_holds_10 : decode cX9_holds 10 = .ok (.iaload, 1) := by decide +kernel
theorem dX9_holds_11 : decode cX9_holds 11 = .ok (.aload_n 0, 1) := by decide +kernel
theorem dX9_holds_12 : decode cX9_holds 12 = .ok (.getfield 34, 3) := by decide +kernel
theorem dX9_holds_15 : decode cX9_holds 15 = .ok (.aload_n 0, 1) := by decide +kernel
theorem dX9_holds_16 : decode cX9_holds 16 = .ok (.iload_n 1, 1) := by decide +kernel
theorem dX9_holds_17 : decode cX9_holds 17 = .ok (.iconst 1, 1) := by decide +kernel
theorem dX9_holds_18 : decode cX9_holds 18 = .ok (.invokevirtual 201, 3) := by decide +kernel
theorem dX9_holds_21 : decode cX9_holds 21 = .ok (.iaload, 1) := by decide +kernel
theorem dX9_holds_22 : decode cX9_holds 22 = .ok (.if_icmp .ne 7, 3) := by decide +kernel
theorem dX9_holds_25 : decode cX9_holds 25 = .ok (.iconst 1, 1) := by decide +kernel
theorem dX9_holds_26 : decode cX9_holds 26 = .ok (.goto 4, 3) := by decide +kernel
theorem dX9_holds_29 : decode cX9_holds 29 = .ok (.iconst 0, 1) := by decide +kernel
theorem dX9_holds_30 : decode cX9_holds 30 = .ok (.ireturn, 1) := by decide +kernel
theorem dX9_holding_0 : decode cX9_holding 0 = .ok (.aload_n 0, 1) := by decide +kernel
theorem dX9_holding_1 : decode cX9_holding 1 = .ok (.invokevirtual 159, 3) := by decide +kernel
theorem dX9_holding_4 : decode cX9_holding 4 = .ok (.iconst 0, 1) := by decide +kernel
theorem dX9_holding_5 : decode cX9_holding 5 = .ok (.istore_n 1, 1) := by decide +kernel
theorem dX9_holding_6 : decode cX9_holding 6 = .ok (.iconst 0, 1) := by decide +kernel
theorem dX9_holding_7 : decode cX9_holding 7 = .ok (.istore_n 2, 1) := by decide +kernel
theorem dX9_holding_8 : decode cX9_holding 8 = .ok (.iload_n 2, 1) := by decide +kernel
theorem dX9_holding_9 : decode cX9_holding 9 = .ok (.aload_n 0, 1) := by decide +kernel
theorem dX9_holding_10 : decode cX9_holding 10 = .ok (.getfield 7, 3) := by decide +kernel
theorem dX9_holding_13 : decode cX9_holding 13 = .ok (.iconst 3, 1) := by decide +kernel
theorem dX9_holding_14 : decode cX9_holding 14 = .ok (.iaload, 1) := by decide +kernel
theorem dX9_holding_15 : decode cX9_holding 15 = .ok (.if_icmp .ge 25, 3) := by decide +kernel
theorem dX9_holding_18 : decode cX9_holding 18 = .ok (.iload_n 1, 1) := by decide +kernel
theorem dX9_holding_19 : decode cX9_holding 19 = .ok (.aload_n 0, 1) := by decide +kernel
theorem dX9_holding_20 : decode cX9_holding 20 = .ok (.iload_n 2, 1) := by decide +kernel
theorem dX9_holding_21 : decode cX9_holding 21 = .ok (.invokevirtual 204, 3) := by decide +kernel
theorem dX9_holding_24 : decode cX9_holding 24 = .ok (.ifCond .eq 7, 3) := by decide +kernel
theorem dX9_holding_27 : decode cX9_holding 27 = .ok (.iconst 1, 1) := by decide +kernel
theorem dX9_holding_28 : decode cX9_holding 28 = .ok (.goto 4, 3) := by decide +kernel
theorem dX9_holding_31 : decode cX9_holding 31 = .ok (.iconst 0, 1) := by decide +kernel
theorem dX9_holding_32 : decode cX9_holding 32 = .ok (.iadd, 1) := by decide +kernel
theorem dX9_holding_33 : decode cX9_holding 33 = .ok (.istore_n 1, 1) := by decide +kernel
theorem dX9_holding_34 : decode cX9_holding 34 = .ok (.iinc 2 1, 3) := by decide +kernel
theorem dX9_holding_37 : decode cX9_holding 37 = .ok (.goto (-29), 3) := by decide +kernel
theorem dX9_holding_40 : decode cX9_holding 40 = .ok (.iload_n 1, 1) := by decide +kernel
theorem dX9_holding_41 : decode cX9_holding 41 = .ok (.ireturn, 1) := by decide +kernel
theorem dX9_debt_0 : decode cX9_debt 0 = .ok (.aload_n 0, 1) := by decide +kernel
theorem dX9_debt_1 : decode cX9_debt 1 = .ok (.iload_n 1, 1) := by decide +kernel
theorem dX9_debt_2 : decode cX9_debt 2 = .ok (.invokevirtual 156, 3) := by decide +kernel
theorem dX9_debt_5 : decode cX9_debt 5 = .ok (.ifCond .eq 27, 3) := by decide +kernel
theorem dX9_debt_8 : decode cX9_debt 8 = .ok (.aload_n 0, 1) := by decide +kernel
theorem dX9_debt_9 : decode cX9_debt 9 = .ok (.iload_n 2, 1) := by decide +kernel
theorem dX9_debt_10 : decode cX9_debt 10 = .ok (.invokevirtual 156, 3) := by decide +kernel
theorem dX9_debt_13 : decode cX9_debt 13 = .ok (.ifCond .eq 19, 3) := by decide +kernel
theorem dX9_debt_16 : decode cX9_debt 16 = .ok (.iload_n 1, 1) := by decide +kernel
theorem dX9_debt_17 : decode cX9_debt 17 = .ok (.iload_n 2, 1) := by decide +kernel
theorem dX9_debt_18 : decode cX9_debt 18 = .ok (.if_icmp .eq 14, 3) := by decide +kernel
theorem dX9_debt_21 : decode cX9_debt 21 = .ok (.iload_n 3, 1) := by decide +kernel
theorem dX9_debt_22 : decode cX9_debt 22 = .ok (.iconst 1, 1) := by decide +kernel
theorem dX9_debt_23 : decode cX9_debt 23 = .ok (.sipush 999, 3) := by decide +kernel
theorem dX9_debt_26 : decode cX9_debt 26 = .ok (.invokestatic 59, 3) := by decide +kernel
theorem dX9_debt_29 : decode cX9_debt 29 = .ok (.ifCond .ne 9, 3) := by decide +kernel
theorem dX9_debt_32 : decode cX9_debt 32 = .ok (.aload_n 0, 1) := by decide +kernel
theorem dX9_debt_33 : decode cX9_debt 33 = .ok (.iconst 1, 1) := by decide +kernel
theorem dX9_debt_34 : decode cX9_debt 34 = .ok (.invokevirtual 63, 3) := by decide +kernel
theorem dX9_debt_37 : decode cX9_debt 37 = .ok (.ireturn, 1) := by decide +kernel
theorem dX9_debt_38 : decode cX9_debt 38 = .ok (.aload_n 0, 1) := by decide +kernel
theorem dX9_debt_39 : decode cX9_debt 39 = .ok (.getfield 7, 3) := by decide +kernel
theorem dX9_debt_42 : decode cX9_debt 42 = .ok (.iconst 3, 1) := by decide +kernel
theorem dX9_debt_43 : decode cX9_debt 43 = .ok (.iaload, 1) := by decide +kernel
theorem dX9_debt_44 : decode cX9_debt 44 = .ok (.bipush 8, 2) := by decide +kernel
theorem dX9_debt_46 : decode cX9_debt 46 = .ok (.if_icmp .ne 9, 3) := by decide +kernel
theorem dX9_debt_49 : decode cX9_debt 49 = .ok (.aload_n 0, 1) := by decide +kernel
theorem dX9_debt_50 : decode cX9_debt 50 = .ok (.iconst 4, 1) := by decide +kernel
theorem dX9_debt_51 : decode cX9_debt 51 = .ok (.invokevirtual 63, 3) := by decide +kernel
theorem dX9_debt_54 : decode cX9_debt 54 = .ok (.ireturn, 1) := by decide +kernel
theorem dX9_debt_55 : decode cX9_debt 55 = .ok (.bipush 76, 2) := by decide +kernel
theorem dX9_debt_57 : decode cX9_debt 57 = .ok (.iconst 3, 1) := by decide +kernel
theorem dX9_debt_58 : decode cX9_debt 58 = .ok (.aload_n 0, 1) := by decide +kernel
theorem dX9_debt_59 : decode cX9_debt 59 = .ok (.getfield 7, 3) := by decide +kernel
theorem dX9_debt_62 : decode cX9_debt 62 = .ok (.iconst 3, 1) := by decide +kernel
theorem dX9_debt_63 : decode cX9_debt 63 = .ok (.iaload, 1) := by decide +kernel
theorem dX9_debt_64 : decode cX9_debt 64 = .ok (.imul, 1) := by decide +kernel
theorem dX9_debt_65 : decode cX9_debt 65 = .ok (.iadd, 1) := by decide +kernel
theorem dX9_debt_66 : decode cX9_debt 66 = .ok (.istore 4, 2) := by decide +kernel
theorem dX9_debt_68 : decode cX9_debt 68 = .ok (.aload_n 0, 1) := by decide +kernel
theorem dX9_debt_69 : decode cX9_debt 69 = .ok (.getfield 7, 3) := by decide +kernel
theorem dX9_debt_72 : decode cX9_debt 72 = .ok (.iload 4, 2) := by decide +kernel
theorem dX9_debt_74 : decode cX9_debt 74 = .ok (.iload_n 1, 1) := by decide +kernel
theorem dX9_debt_75 : decode cX9_debt 75 = .ok (.iastore, 1) := by decide +kernel
theorem dX9_debt_76 : decode cX9_debt 76 = .ok (.aload_n 0, 1) := by decide +kernel
theorem dX9_debt_77 : decode cX9_debt 77 = .ok (.getfield 7, 3) := by decide +kernel
theorem dX9_debt_80 : decode cX9_debt 80 = .ok (.iload 4, 2) := by decide +kernel
theorem dX9_debt_82 : decode cX9_debt 82 = .ok (.iconst 1, 1) := by decide +kernel
theorem dX9_debt_83 : decode cX9_debt 83 = .ok (.iadd, 1) := by decide +kernel
theorem dX9_debt_84 : decode cX9_debt 84 = .ok (.iload_n 2, 1) := by decide +kernel
theorem dX9_debt_85 : decode cX9_debt 85 = .ok (.iastore, 1) := by decide +kernel
theorem dX9_debt_86 : decode cX9_debt 86 = .ok (.aload_n 0, 1) := by decide +kernel
theorem dX9_debt_87 : decode cX9_debt 87 = .ok (.getfield 7, 3) := by decide +kernel
theorem dX9_debt_90 : decode cX9_debt 90 = .ok (.iload 4, 2) := by decide +kernel
theorem dX9_debt_92 : decode cX9_debt 92 = .ok (.iconst 2, 1) := by decide +kernel
theorem dX9_debt_93 : decode cX9_debt 93 = .ok (.iadd, 1) := by decide +kernel
theorem dX9_debt_94 : decode cX9_debt 94 = .ok (.iload_n 3, 1) := by decide +kernel
theorem dX9_debt_95 : decode cX9_debt 95 = .ok (.iastore, 1) := by decide +kernel
theorem dX9_debt_96 : decode cX9_debt 96 = .ok (.aload_n 0, 1) := by decide +kernel
theorem dX9_debt_97 : decode cX9_debt 97 = .ok (.getfield 7, 3) := by decide +kernel
theorem dX9_debt_100 : decode cX9_debt 100 = .ok (.iconst 3, 1) := by decide +kernel
theorem dX9_debt_101 : decode cX9_debt 101 = .ok (.dup2, 1) := by decide +kernel
theorem dX9_debt_102 : decode cX9_debt 102 = .ok (.iaload, 1) := by decide +kernel
theorem dX9_debt_103 : decode cX9_debt 103 = .ok (.iconst 1, 1) := by decide +kernel
theorem dX9_debt_104 : decode cX9_debt 104 = .ok (.iadd, 1) := by decide +kernel
theorem dX9_debt_105 : decode cX9_debt 105 = .ok (.iastore, 1) := by decide +kernel
theorem dX9_debt_106 : decode cX9_debt 106 = .ok (.aload_n 0, 1) := by decide +kernel
theorem dX9_debt_107 : decode cX9_debt 107 = .ok (.getfield 7, 3) := by decide +kernel
theorem dX9_debt_110 : decode cX9_debt 110 = .ok (.iconst 3, 1) := by decide +kernel
theorem dX9_debt_111 : decode cX9_debt 111 = .ok (.iaload, 1) := by decide +kernel
theorem dX9_debt_112 : decode cX9_debt 112 = .ok (.iconst 1, 1) := by decide +kernel
theorem dX9_debt_113 : decode cX9_debt 113 = .ok (.isub, 1) := by decide +kernel
theorem dX9_debt_114 : decode cX9_debt 114 = .ok (.ireturn, 1) := by decide +kernel
theorem dX9_debtIs_0 : decode cX9_debtIs 0 = .ok (.iload_n 1, 1) := by decide +kernel
theorem dX9_debtIs_1 : decode cX9_debtIs 1 = .ok (.iconst 0, 1) := by decide +kernel
theorem dX9_debtIs_2 : decode cX9_debtIs 2 = .ok (.aload_n 0, 1) := by decide +kernel
theorem dX9_debtIs_3 : decode cX9_debtIs 3 = .ok (.getfield 7, 3) := by decide +kernel
theorem dX9_debtIs_6 : decode cX9_debtIs 6 = .ok (.iconst 3, 1) := by decide +kernel
theorem dX9_debtIs_7 : decode cX9_debtIs 7 = .ok (.iaload, 1) := by decide +kernel
theorem dX9_debtIs_8 : decode cX9_debtIs 8 = .ok (.iconst 1, 1) := by decide +kernel
theorem dX9_debtIs_9 : decode cX9_debtIs 9 = .ok (.isub, 1) := by decide +kernel
theorem dX9_debtIs_10 : decode cX9_debtIs 10 = .ok (.invokestatic 59, 3) := by decide +kernel
theorem dX9_debtIs_13 : decode cX9_debtIs 13 = .ok (.ifCond .eq 12, 3) := by decide +kernel
theorem dX9_debtIs_16 : decode cX9_debtIs 16 = .ok (.iload_n 2, 1) := by decide +kernel
theorem dX9_debtIs_17 : decode cX9_debtIs 17 = .ok (.iconst 0, 1) := by decide +kernel
theorem dX9_debtIs_18 : decode cX9_debtIs 18 = .ok (.iconst 3, 1) := by decide +kernel
theorem dX9_debtIs_19 : decode cX9_debtIs 19 = .ok (.invokestatic 59, 3) := by decide +kernel
theorem dX9_debtIs_22 : decode cX9_debtIs 22 = .ok (.ifCond .ne 9, 3) := by decide +kernel
theorem dX9_debtIs_25 : decode cX9_debtIs 25 = .ok (.aload_n 0, 1) := by decide +kernel
theorem dX9_debtIs_26 : decode cX9_debtIs 26 = .ok (.iconst 1, 1) := by decide +kernel
theorem dX9_debtIs_27 : decode cX9_debtIs 27 = .ok (.invokevirtual 63, 3) := by decide +kernel
theorem dX9_debtIs_30 : decode cX9_debtIs 30 = .ok (.ireturn, 1) := by decide +kernel
theorem dX9_debtIs_31 : decode cX9_debtIs 31 = .ok (.aload_n 0, 1) := by decide +kernel
theorem dX9_debtIs_32 : decode cX9_debtIs 32 = .ok (.invokevirtual 159, 3) := by decide +kernel
theorem dX9_debtIs_35 : decode cX9_debtIs 35 = .ok (.iload_n 2, 1) := by decide +kernel
theorem dX9_debtIs_36 : decode cX9_debtIs 36 = .ok (.iconst 3, 1) := by decide +kernel
theorem dX9_debtIs_37 : decode cX9_debtIs 37 = .ok (.if_icmp .ne 19, 3) := by decide +kernel
theorem dX9_debtIs_40 : decode cX9_debtIs 40 = .ok (.aload_n 0, 1) := by decide +kernel
theorem dX9_debtIs_41 : decode cX9_debtIs 41 = .ok (.iload_n 1, 1) := by decide +kernel
theorem dX9_debtIs_42 : decode cX9_debtIs 42 = .ok (.invokevirtual 204, 3) := by decide +kernel
theorem dX9_debtIs_45 : decode cX9_debtIs 45 = .ok (.ifCond .eq 7, 3) := by decide +kernel
theorem dX9_debtIs_48 : decode cX9_debtIs 48 = .ok (.iconst 1, 1) := by decide +kernel
theorem dX9_debtIs_49 : decode cX9_debtIs 49 = .ok (.goto 13, 3) := by decide +kernel
theorem dX9_debtIs_52 : decode cX9_debtIs 52 = .ok (.iconst 0, 1) := by decide +kernel
theorem dX9_debtIs_53 : decode cX9_debtIs 53 = .ok (.goto 9, 3) := by decide +kernel
theorem dX9_debtIs_56 : decode cX9_debtIs 56 = .ok (.aload_n 0, 1) := by decide +kernel
theorem dX9_debtIs_57 : decode cX9_debtIs 57 = .ok (.iload_n 1, 1) := by decide +kernel
theorem dX9_debtIs_58 : decode cX9_debtIs 58 = .ok (.iload_n 2, 1) := by decide +kernel
theorem dX9_debtIs_59 : decode cX9_debtIs 59 = .ok (.invokevirtual 201, 3) := by decide +kernel
theorem dX9_debtIs_62 : decode cX9_debtIs 62 = .ok (.ireturn, 1) := by decide +kernel
theorem dX9_pay_0 : decode cX9_pay 0 = .ok (.iload_n 1, 1) := by decide +kernel
theorem dX9_pay_1 : decode cX9_pay 1 = .ok (.iconst 0, 1) := by decide +kernel
theorem dX9_pay_2 : decode cX9_pay 2 = .ok (.aload_n 0, 1) := by decide +kernel
theorem dX9_pay_3 : decode cX9_pay 3 = .ok (.getfield 7, 3) := by decide +kernel
theorem dX9_pay_6 : decode cX9_pay 6 = .ok (.iconst 3, 1) := by decide +kernel
theorem dX9_pay_7 : decode cX9_pay 7 = .ok (.iaload, 1) := by decide +kernel
theorem dX9_pay_8 : decode cX9_pay 8 = .ok (.iconst 1, 1) := by decide +kernel
theorem dX9_pay_9 : decode cX9_pay 9 = .ok (.isub, 1) := by decide +kernel
theorem dX9_pay_10 : decode cX9_pay 10 = .ok (.invokestatic 59, 3) := by decide +kernel
theorem dX9_pay_13 : decode cX9_pay 13 = .ok (.ifCond .ne 9, 3) := by decide +kernel
theorem dX9_pay_16 : decode cX9_pay 16 = .ok (.aload_n 0, 1) := by decide +kernel
theorem dX9_pay_17 : decode cX9_pay 17 = .ok (.iconst 1, 1) := by decide +kernel
theorem dX9_pay_18 : decode cX9_pay 18 = .ok (.invokevirtual 63, 3) := by decide +kernel
theorem dX9_pay_21 : decode cX9_pay 21 = .ok (.ireturn, 1) := by decide +kernel
theorem dX9_pay_22 : decode cX9_pay 22 = .ok (.aload_n 0, 1) := by decide +kernel
theorem dX9_pay_23 : decode cX9_pay 23 = .ok (.invokevirtual 159, 3) := by decide +kernel
theorem dX9_pay_26 : decode cX9_pay 26 = .ok (.aload_n 0, 1) := by decide +kernel
theorem dX9_pay_27 : decode cX9_pay 27 = .ok (.iload_n 1, 1) := by decide +kernel
theorem dX9_pay_28 : decode cX9_pay 28 = .ok (.iconst 0, 1) := by decide +kernel
theorem dX9_pay_29 : decode cX9_pay 29 = .ok (.invokevirtual 201, 3) := by decide +kernel
theorem dX9_pay_32 : decode cX9_pay 32 = .ok (.istore_n 2, 1) := by decide +kernel
theorem dX9_pay_33 : decode cX9_pay 33 = .ok (.aload_n 0, 1) := by decide +kernel
theorem dX9_pay_34 : decode cX9_pay 34 = .ok (.iload_n 1, 1) := by decide +kernel
theorem dX9_pay_35 : decode cX9_pay 35 = .ok (.iconst 1, 1) := by decide +kernel
theorem dX9_pay_36 : decode cX9_pay 36 = .ok (.invokevirtual 201, 3) := by decide +kernel
theorem dX9_pay_39 : decode cX9_pay 39 = .ok (.istore_n 3, 1) := by decide +kernel
theorem dX9_pay_40 : decode cX9_pay 40 = .ok (.aload_n 0, 1) := by decide +kernel
theorem dX9_pay_41 : decode cX9_pay 41 = .ok (.iload_n 1, 1) := by decide +kernel
theorem dX9_pay_42 : decode cX9_pay 42 = .ok (.invokevirtual 204, 3) := by decide +kernel
theorem dX9_pay_45 : decode cX9_pay 45 = .ok (.ifCond .eq 12, 3) := by decide +kernel
theorem dX9_pay_48 : decode cX9_pay 48 = .ok (.aload_n 0, 1) := by decide +kernel
theorem dX9_pay_49 : decode cX9_pay 49 = .ok (.iload_n 2, 1) := by decide +kernel
theorem dX9_pay_50 : decode cX9_pay 50 = .ok (.iconst 1, 1) := by decide +kernel
theorem dX9_pay_51 : decode cX9_pay 51 = .ok (.invokevirtual 162, 3) := by decide +kernel
theorem dX9_pay_54 : decode cX9_pay 54 = .ok (.ifCond .ne 9, 3) := by decide +kernel
theorem dX9_pay_57 : decode cX9_pay 57 = .ok (.aload_n 0, 1) := by decide +kernel
theorem dX9_pay_58 : decode cX9_pay 58 = .ok (.iconst 3, 1) := by decide +kernel
theorem dX9_pay_59 : decode cX9_pay 59 = .ok (.invokevirtual 63, 3) := by decide +kernel
theorem dX9_pay_62 : decode cX9_pay 62 = .ok (.ireturn, 1) := by decide +kernel
theorem dX9_pay_63 : decode cX9_pay 63 = .ok (.aload_n 0, 1) := by decide +kernel
theorem dX9_pay_64 : decode cX9_pay 64 = .ok (.iload_n 1, 1) := by decide +kernel
theorem dX9_pay_65 : decode cX9_pay 65 = .ok (.iconst 2, 1) := by decide +kernel
theorem dX9_pay_66 : decode cX9_pay 66 = .ok (.invokevirtual 201, 3) := by decide +kernel
theorem dX9_pay_69 : decode cX9_pay 69 = .ok (.aload_n 0, 1) := by decide +kernel
theorem dX9_pay_70 : decode cX9_pay 70 = .ok (.iload_n 2, 1) := by decide +kernel
theorem dX9_pay_71 : decode cX9_pay 71 = .ok (.iconst 1, 1) := by decide +kernel
theorem dX9_pay_72 : decode cX9_pay 72 = .ok (.invokevirtual 162, 3) := by decide +kernel
theorem dX9_pay_75 : decode cX9_pay 75 = .ok (.if_icmp .ge 12, 3) := by decide +kernel
theorem dX9_pay_78 : decode cX9_pay 78 = .ok (.aload_n 0, 1) := by decide +kernel
theorem dX9_pay_79 : decode cX9_pay 79 = .ok (.iload_n 1, 1) := by decide +kernel
theorem dX9_pay_80 : decode cX9_pay 80 = .ok (.iconst 2, 1) := by decide +kernel
theorem dX9_pay_81 : decode cX9_pay 81 = .ok (.invokevirtual 201, 3) := by decide +kernel
theorem dX9_pay_84 : decode cX9_pay 84 = .ok (.goto 9, 3) := by decide +kernel
theorem dX9_pay_87 : decode cX9_pay 87 = .ok (.aload_n 0, 1) := by decide +kernel
theorem dX9_pay_88 : decode cX9_pay 88 = .ok (.iload_n 2, 1) := by decide +kernel
theorem dX9_pay_89 : decode cX9_pay 89 = .ok (.iconst 1, 1) := by decide +kernel
theorem dX9_pay_90 : decode cX9_pay 90 = .ok (.invokevirtual 162, 3) := by decide +kernel
theorem dX9_pay_93 : decode cX9_pay 93 = .ok (.istore 4, 2) := by decide +kernel
theorem dX9_pay_95 : decode cX9_pay 95 = .ok (.aload_n 0, 1) := by decide +kernel
theorem dX9_pay_96 : decode cX9_pay 96 = .ok (.getfield 7, 3) := by decide +kernel
theorem dX9_pay_99 : decode cX9_pay 99 = .ok (.bipush 8, 2) := by decide +kernel
theorem dX9_pay_101 : decode cX9_pay 101 = .ok (.iconst 2, 1) := by decide +kernel
theorem dX9_pay_102 : decode cX9_pay 102 = .ok (.iload_n 2, 1) := by decide +kernel
theorem dX9_pay_103 : decode cX9_pay 103 = .ok (.imul, 1) := by decide +kernel
theorem dX9_pay_104 : decode cX9_pay 104 = .ok (.iadd, 1) := by decide +kernel
theorem dX9_pay_105 : decode cX9_pay 105 = .ok (.iconst 1, 1) := by decide +kernel
theorem dX9_pay_106 : decode cX9_pay 106 = .ok (.iadd, 1) := by decide +kernel
theorem dX9_pay_107 : decode cX9_pay 107 = .ok (.dup2, 1) := by decide +kernel
theorem dX9_pay_108 : decode cX9_pay 108 = .ok (.iaload, 1) := by decide +kernel
theorem dX9_pay_109 : decode cX9_pay 109 = .ok (.iload 4, 2) := by decide +kernel
theorem dX9_pay_111 : decode cX9_pay 111 = .ok (.isub, 1) := by decide +kernel
theorem dX9_pay_112 : decode cX9_pay 112 = .ok (.iastore, 1) := by decide +kernel
theorem dX9_pay_113 : decode cX9_pay 113 = .ok (.aload_n 0, 1) := by decide +kernel
theorem dX9_pay_114 : decode cX9_pay 114 = .ok (.getfield 7, 3) := by decide +kernel
theorem dX9_pay_117 : decode cX9_pay 117 = .ok (.bipush 8, 2) := by decide +kernel
theorem dX9_pay_119 : decode cX9_pay 119 = .ok (.iconst 2, 1) := by decide +kernel
theorem dX9_pay_120 : decode cX9_pay 120 = .ok (.iload_n 3, 1) := by decide +kernel
theorem dX9_pay_121 : decode cX9_pay 121 = .ok (.imul, 1) := by decide +kernel
theorem dX9_pay_122 : decode cX9_pay 122 = .ok (.iadd, 1) := by decide +kernel
theorem dX9_pay_123 : decode cX9_pay 123 = .ok (.iconst 1, 1) := by decide +kernel
theorem dX9_pay_124 : decode cX9_pay 124 = .ok (.iadd, 1) := by decide +kernel
theorem dX9_pay_125 : decode cX9_pay 125 = .ok (.aload_n 0, 1) := by decide +kernel
theorem dX9_pay_126 : decode cX9_pay 126 = .ok (.iload_n 3, 1) := by decide +kernel
theorem dX9_pay_127 : decode cX9_pay 127 = .ok (.iconst 1, 1) := by decide +kernel
theorem dX9_pay_128 : decode cX9_pay 128 = .ok (.invokevirtual 162, 3) := by decide +kernel
theorem dX9_pay_131 : decode cX9_pay 131 = .ok (.iload 4, 2) := by decide +kernel
theorem dX9_pay_133 : decode cX9_pay 133 = .ok (.iadd, 1) := by decide +kernel
theorem dX9_pay_134 : decode cX9_pay 134 = .ok (.iconst 0, 1) := by decide +kernel
theorem dX9_pay_135 : decode cX9_pay 135 = .ok (.sipush 9999, 3) := by decide +kernel
theorem dX9_pay_138 : decode cX9_pay 138 = .ok (.invokestatic 133, 3) := by decide +kernel
theorem dX9_pay_141 : decode cX9_pay 141 = .ok (.iastore, 1) := by decide +kernel
theorem dX9_pay_142 : decode cX9_pay 142 = .ok (.aload_n 0, 1) := by decide +kernel
theorem dX9_pay_143 : decode cX9_pay 143 = .ok (.getfield 7, 3) := by decide +kernel
theorem dX9_pay_146 : decode cX9_pay 146 = .ok (.bipush 76, 2) := by decide +kernel
theorem dX9_pay_148 : decode cX9_pay 148 = .ok (.iconst 3, 1) := by decide +kernel
theorem dX9_pay_149 : decode cX9_pay 149 = .ok (.iload_n 1, 1) := by decide +kernel
theorem dX9_pay_150 : decode cX9_pay 150 = .ok (.imul, 1) := by decide +kernel
theorem dX9_pay_151 : decode cX9_pay 151 = .ok (.iadd, 1) := by decide +kernel
theorem dX9_pay_152 : decode cX9_pay 152 = .ok (.iconst 2, 1) := by decide +kernel
theorem dX9_pay_153 : decode cX9_pay 153 = .ok (.iadd, 1) := by decide +kernel
theorem dX9_pay_154 : decode cX9_pay 154 = .ok (.dup2, 1) := by decide +kernel
theorem dX9_pay_155 : decode cX9_pay 155 = .ok (.iaload, 1) := by decide +kernel
theorem dX9_pay_156 : decode cX9_pay 156 = .ok (.iload 4, 2) := by decide +kernel
theorem dX9_pay_158 : decode cX9_pay 158 = .ok (.isub, 1) := by decide +kernel
theorem dX9_pay_159 : decode cX9_pay 159 = .ok (.iastore, 1) := by decide +kernel
theorem dX9_pay_160 : decode cX9_pay 160 = .ok (.aload_n 0, 1) := by decide +kernel
theorem dX9_pay_161 : decode cX9_pay 161 = .ok (.iload_n 1, 1) := by decide +kernel
theorem dX9_pay_162 : decode cX9_pay 162 = .ok (.iconst 2, 1) := by decide +kernel
theorem dX9_pay_163 : decode cX9_pay 163 = .ok (.invokevirtual 201, 3) := by decide +kernel
theorem dX9_pay_166 : decode cX9_pay 166 = .ok (.ifCond .ne 59, 3) := by decide +kernel
theorem dX9_pay_169 : decode cX9_pay 169 = .ok (.aload_n 0, 1) := by decide +kernel
theorem dX9_pay_170 : decode cX9_pay 170 = .ok (.getfield 7, 3) := by decide +kernel
theorem dX9_pay_173 : decode cX9_pay 173 = .ok (.iconst 3, 1) := by decide +kernel
theorem dX9_pay_174 : decode cX9_pay 174 = .ok (.dup2, 1) := by decide +kernel
theorem dX9_pay_175 : decode cX9_pay 175 = .ok (.iaload, 1) := by decide +kernel
theorem dX9_pay_176 : decode cX9_pay 176 = .ok (.iconst 1, 1) := by decide +kernel
theorem dX9_pay_177 : decode cX9_pay 177 = .ok (.isub, 1) := by decide +kernel
theorem dX9_pay_178 : decode cX9_pay 178 = .ok (.iastore, 1) := by decide +kernel
theorem dX9_pay_179 : decode cX9_pay 179 = .ok (.iconst 3, 1) := by decide +kernel
theorem dX9_pay_180 : decode cX9_pay 180 = .ok (.iload_n 1, 1) := by decide +kernel
theorem dX9_pay_181 : decode cX9_pay 181 = .ok (.imul, 1) := by decide +kernel
theorem dX9_pay_182 : decode cX9_pay 182 = .ok (.istore 5, 2) := by decide +kernel
theorem dX9_pay_184 : decode cX9_pay 184 = .ok (.iload 5, 2) := by decide +kernel
theorem dX9_pay_186 : decode cX9_pay 186 = .ok (.iconst 3, 1) := by decide +kernel
theorem dX9_pay_187 : decode cX9_pay 187 = .ok (.aload_n 0, 1) := by decide +kernel
theorem dX9_pay_188 : decode cX9_pay 188 = .ok (.getfield 7, 3) := by decide +kernel
theorem dX9_pay_191 : decode cX9_pay 191 = .ok (.iconst 3, 1) := by decide +kernel
theorem dX9_pay_192 : decode cX9_pay 192 = .ok (.iaload, 1) := by decide +kernel
theorem dX9_pay_193 : decode cX9_pay 193 = .ok (.imul, 1) := by decide +kernel
theorem dX9_pay_194 : decode cX9_pay 194 = .ok (.if_icmp .ge 31, 3) := by decide +kernel
theorem dX9_pay_197 : decode cX9_pay 197 = .ok (.aload_n 0, 1) := by decide +kernel
theorem dX9_pay_198 : decode cX9_pay 198 = .ok (.getfield 7, 3) := by decide +kernel
theorem dX9_pay_201 : decode cX9_pay 201 = .ok (.bipush 76, 2) := by decide +kernel
theorem dX9_pay_203 : decode cX9_pay 203 = .ok (.iload 5, 2) := by decide +kernel
theorem dX9_pay_205 : decode cX9_pay 205 = .ok (.iadd, 1) := by decide +kernel
theorem dX9_pay_206 : decode cX9_pay 206 = .ok (.aload_n 0, 1) := by decide +kernel
theorem dX9_pay_207 : decode cX9_pay 207 = .ok (.getfield 7, 3) := by decide +kernel
theorem dX9_pay_210 : decode cX9_pay 210 = .ok (.bipush 76, 2) := by decide +kernel
theorem dX9_pay_212 : decode cX9_pay 212 = .ok (.iload 5, 2) := by decide +kernel
theorem dX9_pay_214 : decode cX9_pay 214 = .ok (.iadd, 1) := by decide +kernel
theorem dX9_pay_215 : decode cX9_pay 215 = .ok (.iconst 3, 1) := by decide +kernel
theorem dX9_pay_216 : decode cX9_pay 216 = .ok (.iadd, 1) := by decide +kernel
theorem dX9_pay_217 : decode cX9_pay 217 = .ok (.iaload, 1) := by decide +kernel
theorem dX9_pay_218 : decode cX9_pay 218 = .ok (.iastore, 1) := by decide +kernel
theorem dX9_pay_219 : decode cX9_pay 219 = .ok (.iinc 5 1, 3) := by decide +kernel
theorem dX9_pay_222 : decode cX9_pay 222 = .ok (.goto (-38), 3) := by decide +kernel
theorem dX9_pay_225 : decode cX9_pay 225 = .ok (.iload 4, 2) := by decide +kernel
theorem dX9_pay_227 : decode cX9_pay 227 = .ok (.ireturn, 1) := by decide +kernel
theorem dX9_loses_0 : decode cX9_loses 0 = .ok (.aload_n 0, 1) := by decide +kernel
theorem dX9_loses_1 : decode cX9_loses 1 = .ok (.iload_n 1, 1) := by decide +kernel
theorem dX9_loses_2 : decode cX9_loses 2 = .ok (.invokevirtual 168, 3) := by decide +kernel
theorem dX9_loses_5 : decode cX9_loses 5 = .ok (.ifCond .eq 11, 3) := by decide +kernel
theorem dX9_loses_8 : decode cX9_loses 8 = .ok (.aload_n 0, 1) := by decide +kernel
theorem dX9_loses_9 : decode cX9_loses 9 = .ok (.iload_n 2, 1) := by decide +kernel
theorem dX9_loses_10 : decode cX9_loses 10 = .ok (.invokevirtual 156, 3) := by decide +kernel
theorem dX9_loses_13 : decode cX9_loses 13 = .ok (.ifCond .ne 9, 3) := by decide +kernel
theorem dX9_loses_16 : decode cX9_loses 16 = .ok (.aload_n 0, 1) := by decide +kernel
theorem dX9_loses_17 : decode cX9_loses 17 = .ok (.iconst 1, 1) := by decide +kernel
theorem dX9_loses_18 : decode cX9_loses 18 = .ok (.invokevirtual 63, 3) := by decide +kernel
theorem dX9_loses_21 : decode cX9_loses 21 = .ok (.ireturn, 1) := by decide +kernel
theorem dX9_loses_22 : decode cX9_loses 22 = .ok (.aload_n 0, 1) := by decide +kernel
theorem dX9_loses_23 : decode cX9_loses 23 = .ok (.iload_n 1, 1) := by decide +kernel
theorem dX9_loses_24 : decode cX9_loses 24 = .ok (.iload_n 2, 1) := by decide +kernel
theorem dX9_loses_25 : decode cX9_loses 25 = .ok (.invokevirtual 181, 3) := by decide +kernel
theorem dX9_loses_28 : decode cX9_loses 28 = .ok (.ifCond .ne 9, 3) := by decide +kernel
theorem dX9_loses_31 : decode cX9_loses 31 = .ok (.aload_n 0, 1) := by decide +kernel
theorem dX9_loses_32 : decode cX9_loses 32 = .ok (.iconst 3, 1) := by decide +kernel
theorem dX9_loses_33 : decode cX9_loses 33 = .ok (.invokevirtual 63, 3) := by decide +kernel
theorem dX9_loses_36 : decode cX9_loses 36 = .ok (.ireturn, 1) := by decide +kernel
theorem dX9_loses_37 : decode cX9_loses 37 = .ok (.aload_n 0, 1) := by decide +kernel
theorem dX9_loses_38 : decode cX9_loses 38 = .ok (.invokevirtual 207, 3) := by decide +kernel
theorem dX9_loses_41 : decode cX9_loses 41 = .ok (.istore_n 3, 1) := by decide +kernel
theorem dX9_loses_42 : decode cX9_loses 42 = .ok (.aload_n 0, 1) := by decide +kernel
theorem dX9_loses_43 : decode cX9_loses 43 = .ok (.iconst 0, 1) := by decide +kernel
theorem dX9_loses_44 : decode cX9_loses 44 = .ok (.invokevirtual 210, 3) := by decide +kernel
theorem dX9_loses_47 : decode cX9_loses 47 = .ok (.aload_n 0, 1) := by decide +kernel
theorem dX9_loses_48 : decode cX9_loses 48 = .ok (.iload_n 1, 1) := by decide +kernel
theorem dX9_loses_49 : decode cX9_loses 49 = .ok (.iload_n 2, 1) := by decide +kernel
theorem dX9_loses_50 : decode cX9_loses 50 = .ok (.invokevirtual 187, 3) := by decide +kernel
theorem dX9_loses_53 : decode cX9_loses 53 = .ok (.istore 4, 2) := by decide +kernel
theorem dX9_loses_55 : decode cX9_loses 55 = .ok (.aload_n 0, 1) := by decide +kernel
theorem dX9_loses_56 : decode cX9_loses 56 = .ok (.invokevirtual 207, 3) := by decide +kernel
theorem dX9_loses_59 : decode cX9_loses 59 = .ok (.istore 5, 2) := by decide +kernel
theorem dX9_loses_61 : decode cX9_loses 61 = .ok (.aload_n 0, 1) := by decide +kernel
theorem dX9_loses_62 : decode cX9_loses 62 = .ok (.iconst 0, 1) := by decide +kernel
theorem dX9_loses_63 : decode cX9_loses 63 = .ok (.invokevirtual 213, 3) := by decide +kernel
theorem dX9_loses_66 : decode cX9_loses 66 = .ok (.iload_n 3, 1) := by decide +kernel
theorem dX9_loses_67 : decode cX9_loses 67 = .ok (.iload 5, 2) := by decide +kernel
theorem dX9_loses_69 : decode cX9_loses 69 = .ok (.isub, 1) := by decide +kernel
theorem dX9_loses_70 : decode cX9_loses 70 = .ok (.ireturn, 1) := by decide +kernel
theorem dX9_estranges_0 : decode cX9_estranges 0 = .ok (.aload_n 0, 1) := by decide +kernel
theorem dX9_estranges_1 : decode cX9_estranges 1 = .ok (.iload_n 2, 1) := by decide +kernel
theorem dX9_estranges_2 : decode cX9_estranges 2 = .ok (.iload_n 1, 1) := by decide +kernel
theorem dX9_estranges_3 : decode cX9_estranges 3 = .ok (.invokevirtual 152, 3) := by decide +kernel
theorem dX9_estranges_6 : decode cX9_estranges 6 = .ok (.ifCond .ne 14, 3) := by decide +kernel
theorem dX9_estranges_9 : decode cX9_estranges 9 = .ok (.aload_n 0, 1) := by decide +kernel
theorem dX9_estranges_10 : decode cX9_estranges 10 = .ok (.iload_n 2, 1) := by decide +kernel
theorem dX9_estranges_11 : decode cX9_estranges 11 = .ok (.iload_n 1, 1) := by decide +kernel
theorem dX9_estranges_12 : decode cX9_estranges 12 = .ok (.invokevirtual 181, 3) := by decide +kernel
theorem dX9_estranges_15 : decode cX9_estranges 15 = .ok (.ifCond .eq 5, 3) := by decide +kernel
theorem dX9_estranges_18 : decode cX9_estranges 18 = .ok (.iconst 0, 1) := by decide +kernel
theorem dX9_estranges_19 : decode cX9_estranges 19 = .ok (.ireturn, 1) := by decide +kernel
theorem dX9_estranges_20 : decode cX9_estranges 20 = .ok (.iconst (-1), 1) := by decide +kernel
theorem dX9_estranges_21 : decode cX9_estranges 21 = .ok (.istore 5, 2) := by decide +kernel
theorem dX9_estranges_23 : decode cX9_estranges 23 = .ok (.aload_n 0, 1) := by decide +kernel
theorem dX9_estranges_24 : decode cX9_estranges 24 = .ok (.iload 4, 2) := by decide +kernel
theorem dX9_estranges_26 : decode cX9_estranges 26 = .ok (.invokevirtual 210, 3) := by decide +kernel
theorem dX9_estranges_29 : decode cX9_estranges 29 = .ok (.iconst 0, 1) := by decide +kernel
theorem dX9_estranges_30 : decode cX9_estranges 30 = .ok (.istore 6, 2) := by decide +kernel
theorem dX9_estranges_32 : decode cX9_estranges 32 = .ok (.iload 6, 2) := by decide +kernel
theorem dX9_estranges_34 : decode cX9_estranges 34 = .ok (.aload_n 0, 1) := by decide +kernel
theorem dX9_estranges_35 : decode cX9_estranges 35 = .ok (.getfield 7, 3) := by decide +kernel
theorem dX9_estranges_38 : decode cX9_estranges 38 = .ok (.iconst 0, 1) := by decide +kernel
theorem dX9_estranges_39 : decode cX9_estranges 39 = .ok (.iaload, 1) := by decide +kernel
theorem dX9_estranges_40 : decode cX9_estranges 40 = .ok (.if_icmp .ge 91, 3) := by decide +kernel
theorem dX9_estranges_43 : decode cX9_estranges 43 = .ok (.iload_n 3, 1) := by decide +kernel
theorem dX9_estranges_44 : decode cX9_estranges 44 = .ok (.ifCond .le 87, 3) := by decide +kernel
theorem dX9_estranges_47 : decode cX9_estranges 47 = .ok (.iload 6, 2) := by decide +kernel
theorem dX9_estranges_49 : decode cX9_estranges 49 = .ok (.iload_n 1, 1) := by decide +kernel
theorem dX9_estranges_50 : decode cX9_estranges 50 = .ok (.if_icmp .eq 75, 3) := by decide +kernel
theorem dX9_estranges_53 : decode cX9_estranges 53 = .ok (.aload_n 0, 1) := by decide +kernel
theorem dX9_estranges_54 : decode cX9_estranges 54 = .ok (.iload_n 2, 1) := by decide +kernel
theorem dX9_estranges_55 : decode cX9_estranges 55 = .ok (.iload 6, 2) := by decide +kernel
theorem dX9_estranges_57 : decode cX9_estranges 57 = .ok (.invokevirtual 181, 3) := by decide +kernel
theorem dX9_estranges_60 : decode cX9_estranges 60 = .ok (.ifCond .eq 65, 3) := by decide +kernel
theorem dX9_estranges_63 : decode cX9_estranges 63 = .ok (.aload_n 0, 1) := by decide +kernel
theorem dX9_estranges_64 : decode cX9_estranges 64 = .ok (.iload_n 2, 1) := by decide +kernel
theorem dX9_estranges_65 : decode cX9_estranges 65 = .ok (.iload 6, 2) := by decide +kernel
theorem dX9_estranges_67 : decode cX9_estranges 67 = .ok (.invokevirtual 187, 3) := by decide +kernel
theorem dX9_estranges_70 : decode cX9_estranges 70 = .ok (.istore 7, 2) := by decide +kernel
theorem dX9_estranges_72 : decode cX9_estranges 72 = .ok (.aload_n 0, 1) := by decide +kernel
theorem dX9_estranges_73 : decode cX9_estranges 73 = .ok (.iload_n 1, 1) := by decide +kernel
theorem dX9_estranges_74 : decode cX9_estranges 74 = .ok (.iload_n 2, 1) := by decide +kernel
theorem dX9_estranges_75 : decode cX9_estranges 75 = .ok (.iload_n 3, 1) := by decide +kernel
theorem dX9_estranges_76 : decode cX9_estranges 76 = .ok (.iconst 1, 1) := by decide +kernel
theorem dX9_estranges_77 : decode cX9_estranges 77 = .ok (.isub, 1) := by decide +kernel
theorem dX9_estranges_78 : decode cX9_estranges 78 = .ok (.iload 4, 2) := by decide +kernel
theorem dX9_estranges_80 : decode cX9_estranges 80 = .ok (.iconst 1, 1) := by decide +kernel
theorem dX9_estranges_81 : decode cX9_estranges 81 = .ok (.iadd, 1) := by decide +kernel
theorem dX9_estranges_82 : decode cX9_estranges 82 = .ok (.invokevirtual 216, 3) := by decide +kernel
theorem dX9_estranges_85 : decode cX9_estranges 85 = .ok (.istore 8, 2) := by decide +kernel
theorem dX9_estranges_87 : decode cX9_estranges 87 = .ok (.aload_n 0, 1) := by decide +kernel
theorem dX9_estranges_88 : decode cX9_estranges 88 = .ok (.iload 4, 2) := by decide +kernel
theorem dX9_estranges_90 : decode cX9_estranges 90 = .ok (.invokevirtual 213, 3) := by decide +kernel
theorem dX9_estranges_93 : decode cX9_estranges 93 = .ok (.iload 8, 2) := by decide +kernel
theorem dX9_estranges_95 : decode cX9_estranges 95 = .ok (.iconst (-1), 1) := by decide +kernel
theorem dX9_estranges_96 : decode cX9_estranges 96 = .ok (.if_icmp .eq 25, 3) := by decide +kernel
theorem dX9_estranges_99 : decode cX9_estranges 99 = .ok (.iload 5, 2) := by decide +kernel
theorem dX9_estranges_101 : decode cX9_estranges 101 = .ok (.iconst (-1), 1) := by decide +kernel
theorem dX9_estranges_102 : decode cX9_estranges 102 = .ok (.if_icmp .eq 12, 3) := by decide +kernel
theorem dX9_estranges_105 : decode cX9_estranges 105 = .ok (.iload 8, 2) := by decide +kernel
theorem dX9_estranges_107 : decode cX9_estranges 107 = .ok (.iconst 1, 1) := by decide +kernel
theorem dX9_estranges_108 : decode cX9_estranges 108 = .ok (.iadd, 1) := by decide +kernel
theorem dX9_estranges_109 : decode cX9_estranges 109 = .ok (.iload 5, 2) := by decide +kernel
theorem dX9_estranges_111 : decode cX9_estranges 111 = .ok (.if_icmp .ge 10, 3) := by decide +kernel
theorem dX9_estranges_114 : decode cX9_estranges 114 = .ok (.iload 8, 2) := by decide +kernel
theorem dX9_estranges_116 : decode cX9_estranges 116 = .ok (.iconst 1, 1) := by decide +kernel
theorem dX9_estranges_117 : decode cX9_estranges 117 = .ok (.iadd, 1) := by decide +kernel
theorem dX9_estranges_118 : decode cX9_estranges 118 = .ok (.goto 5, 3) := by decide +kernel
theorem dX9_estranges_121 : decode cX9_estranges 121 = .ok (.iload 5, 2) := by decide +kernel
theorem dX9_estranges_123 : decode cX9_estranges 123 = .ok (.istore 5, 2) := by decide +kernel
theorem dX9_estranges_125 : decode cX9_estranges 125 = .ok (.iinc 6 1, 3) := by decide +kernel
theorem dX9_estranges_128 : decode cX9_estranges 128 = .ok (.goto (-96), 3) := by decide +kernel
theorem dX9_estranges_131 : decode cX9_estranges 131 = .ok (.iload 5, 2) := by decide +kernel
theorem dX9_estranges_133 : decode cX9_estranges 133 = .ok (.ireturn, 1) := by decide +kernel
theorem dX9_stranger_0 : decode cX9_stranger 0 = .ok (.aload_n 0, 1) := by decide +kernel
theorem dX9_stranger_1 : decode cX9_stranger 1 = .ok (.iload_n 1, 1) := by decide +kernel
theorem dX9_stranger_2 : decode cX9_stranger 2 = .ok (.invokevirtual 156, 3) := by decide +kernel
theorem dX9_stranger_5 : decode cX9_stranger 5 = .ok (.ifCond .eq 20, 3) := by decide +kernel
theorem dX9_stranger_8 : decode cX9_stranger 8 = .ok (.aload_n 0, 1) := by decide +kernel
theorem dX9_stranger_9 : decode cX9_stranger 9 = .ok (.iload_n 2, 1) := by decide +kernel
theorem dX9_stranger_10 : decode cX9_stranger 10 = .ok (.invokevirtual 168, 3) := by decide +kernel
theorem dX9_stranger_13 : decode cX9_stranger 13 = .ok (.ifCond .eq 12, 3) := by decide +kernel
theorem dX9_stranger_16 : decode cX9_stranger 16 = .ok (.iload_n 3, 1) := by decide +kernel
theorem dX9_stranger_17 : decode cX9_stranger 17 = .ok (.iconst 0, 1) := by decide +kernel
theorem dX9_stranger_18 : decode cX9_stranger 18 = .ok (.iconst 4, 1) := by decide +kernel
theorem dX9_stranger_19 : decode cX9_stranger 19 = .ok (.invokestatic 59, 3) := by decide +kernel
theorem dX9_stranger_22 : decode cX9_stranger 22 = .ok (.ifCond .ne 9, 3) := by decide +kernel
theorem dX9_stranger_25 : decode cX9_stranger 25 = .ok (.aload_n 0, 1) := by decide +kernel
theorem dX9_stranger_26 : decode cX9_stranger 26 = .ok (.iconst 1, 1) := by decide +kernel
theorem dX9_stranger_27 : decode cX9_stranger 27 = .ok (.invokevirtual 63, 3) := by decide +kernel
theorem dX9_stranger_30 : decode cX9_stranger 30 = .ok (.ireturn, 1) := by decide +kernel
theorem dX9_stranger_31 : decode cX9_stranger 31 = .ok (.aload_n 0, 1) := by decide +kernel
theorem dX9_stranger_32 : decode cX9_stranger 32 = .ok (.iload_n 1, 1) := by decide +kernel
theorem dX9_stranger_33 : decode cX9_stranger 33 = .ok (.iload_n 2, 1) := by decide +kernel
theorem dX9_stranger_34 : decode cX9_stranger 34 = .ok (.iload_n 3, 1) := by decide +kernel
theorem dX9_stranger_35 : decode cX9_stranger 35 = .ok (.iconst 0, 1) := by decide +kernel
theorem dX9_stranger_36 : decode cX9_stranger 36 = .ok (.invokevirtual 216, 3) := by decide +kernel
theorem dX9_stranger_39 : decode cX9_stranger 39 = .ok (.istore 4, 2) := by decide +kernel
theorem dX9_stranger_41 : decode cX9_stranger 41 = .ok (.iload 4, 2) := by decide +kernel
theorem dX9_stranger_43 : decode cX9_stranger 43 = .ok (.iconst (-1), 1) := by decide +kernel
theorem dX9_stranger_44 : decode cX9_stranger 44 = .ok (.if_icmp .ne 11, 3) := by decide +kernel
theorem dX9_stranger_47 : decode cX9_stranger 47 = .ok (.aload_n 0, 1) := by decide +kernel
theorem dX9_stranger_48 : decode cX9_stranger 48 = .ok (.iconst 2, 1) := by decide +kernel
theorem dX9_stranger_49 : decode cX9_stranger 49 = .ok (.invokevirtual 63, 3) := by decide +kernel
theorem dX9_stranger_52 : decode cX9_stranger 52 = .ok (.goto 5, 3) := by decide +kernel
theorem dX9_stranger_55 : decode cX9_stranger 55 = .ok (.iload 4, 2) := by decide +kernel
theorem dX9_stranger_57 : decode cX9_stranger 57 = .ok (.ireturn, 1) := by decide +kernel
theorem dX9_ferries_0 : decode cX9_ferries 0 = .ok (.iload_n 2, 1) := by decide +kernel
theorem dX9_ferries_1 : decode cX9_ferries 1 = .ok (.iload_n 3, 1) := by decide +kernel
theorem dX9_ferries_2 : decode cX9_ferries 2 = .ok (.if_icmp .ne 80, 3) := by decide +kernel
theorem dX9_ferries_5 : decode cX9_ferries 5 = .ok (.iconst 0, 1) := by decide +kernel
theorem dX9_ferries_6 : decode cX9_ferries 6 = .ok (.istore 5, 2) := by decide +kernel
theorem dX9_ferries_8 : decode cX9_ferries 8 = .ok (.iload 5, 2) := by decide +kernel
theorem dX9_ferries_10 : decode cX9_ferries 10 = .ok (.iload_n 3, 1) := by decide +kernel
theorem dX9_ferries_11 : decode cX9_ferries 11 = .ok (.if_icmp .ge 40, 3) := by decide +kernel
theorem dX9_ferries_14 : decode cX9_ferries 14 = .ok (.aload_n 0, 1) := by decide +kernel
theorem dX9_ferries_15 : decode cX9_ferries 15 = .ok (.getfield 220, 3) := by decide +kernel
theorem dX9_ferries_18 : decode cX9_ferries 18 = .ok (.iconst (-1), 1) := by decide +kernel
theorem dX9_ferries_19 : decode cX9_ferries 19 = .ok (.if_icmp .eq 12, 3) := by decide +kernel
theorem dX9_ferries_22 : decode cX9_ferries 22 = .ok (.iload 4, 2) := by decide +kernel
theorem dX9_ferries_24 : decode cX9_ferries 24 = .ok (.aload_n 0, 1) := by decide +kernel
theorem dX9_ferries_25 : decode cX9_ferries 25 = .ok (.getfield 220, 3) := by decide +kernel
theorem dX9_ferries_28 : decode cX9_ferries 28 = .ok (.if_icmp .ge 23, 3) := by decide +kernel
theorem dX9_ferries_31 : decode cX9_ferries 31 = .ok (.aload_n 0, 1) := by decide +kernel
theorem dX9_ferries_32 : decode cX9_ferries 32 = .ok (.getfield 40, 3) := by decide +kernel
theorem dX9_ferries_35 : decode cX9_ferries 35 = .ok (.iload 5, 2) := by decide +kernel
theorem dX9_ferries_37 : decode cX9_ferries 37 = .ok (.aload_n 0, 1) := by decide +kernel
theorem dX9_ferries_38 : decode cX9_ferries 38 = .ok (.getfield 37, 3) := by decide +kernel
theorem dX9_ferries_41 : decode cX9_ferries 41 = .ok (.iload 5, 2) := by decide +kernel
theorem dX9_ferries_43 : decode cX9_ferries 43 = .ok (.iaload, 1) := by decide +kernel
theorem dX9_ferries_44 : decode cX9_ferries 44 = .ok (.iastore, 1) := by decide +kernel
theorem dX9_ferries_45 : decode cX9_ferries 45 = .ok (.iinc 5 1, 3) := by decide +kernel
theorem dX9_ferries_48 : decode cX9_ferries 48 = .ok (.goto (-40), 3) := by decide +kernel
theorem dX9_ferries_51 : decode cX9_ferries 51 = .ok (.aload_n 0, 1) := by decide +kernel
theorem dX9_ferries_52 : decode cX9_ferries 52 = .ok (.aload_n 0, 1) := by decide +kernel
theorem dX9_ferries_53 : decode cX9_ferries 53 = .ok (.getfield 220, 3) := by decide +kernel
theorem dX9_ferries_56 : decode cX9_ferries 56 = .ok (.iconst (-1), 1) := by decide +kernel
theorem dX9_ferries_57 : decode cX9_ferries 57 = .ok (.if_icmp .eq 12, 3) := by decide +kernel
theorem dX9_ferries_60 : decode cX9_ferries 60 = .ok (.iload 4, 2) := by decide +kernel
theorem dX9_ferries_62 : decode cX9_ferries 62 = .ok (.aload_n 0, 1) := by decide +kernel
theorem dX9_ferries_63 : decode cX9_ferries 63 = .ok (.getfield 220, 3) := by decide +kernel
theorem dX9_ferries_66 : decode cX9_ferries 66 = .ok (.if_icmp .ge 8, 3) := by decide +kernel
theorem dX9_ferries_69 : decode cX9_ferries 69 = .ok (.iload 4, 2) := by decide +kernel
theorem dX9_ferries_71 : decode cX9_ferries 71 = .ok (.goto 7, 3) := by decide +kernel
theorem dX9_ferries_74 : decode cX9_ferries 74 = .ok (.aload_n 0, 1) := by decide +kernel
theorem dX9_ferries_75 : decode cX9_ferries 75 = .ok (.getfield 220, 3) := by decide +kernel
theorem dX9_ferries_78 : decode cX9_ferries 78 = .ok (.putfield 220, 3) := by decide +kernel
theorem dX9_ferries_81 : decode cX9_ferries 81 = .ok (.return_, 1) := by decide +kernel
theorem dX9_ferries_82 : decode cX9_ferries 82 = .ok (.aload_n 0, 1) := by decide +kernel
theorem dX9_ferries_83 : decode cX9_ferries 83 = .ok (.iload_n 2, 1) := by decide +kernel
theorem dX9_ferries_84 : decode cX9_ferries 84 = .ok (.invokevirtual 210, 3) := by decide +kernel
theorem dX9_ferries_87 : decode cX9_ferries 87 = .ok (.iconst 0, 1) := by decide +kernel
theorem dX9_ferries_88 : decode cX9_ferries 88 = .ok (.istore 5, 2) := by decide +kernel
theorem dX9_ferries_90 : decode cX9_ferries 90 = .ok (.iload 5, 2) := by decide +kernel
theorem dX9_ferries_92 : decode cX9_ferries 92 = .ok (.aload_n 0, 1) := by decide +kernel
theorem dX9_ferries_93 : decode cX9_ferries 93 = .ok (.getfield 7, 3) := by decide +kernel
theorem dX9_ferries_96 : decode cX9_ferries 96 = .ok (.iconst 1, 1) := by decide +kernel
theorem dX9_ferries_97 : decode cX9_ferries 97 = .ok (.iaload, 1) := by decide +kernel
theorem dX9_ferries_98 : decode cX9_ferries 98 = .ok (.if_icmp .ge 55, 3) := by decide +kernel
theorem dX9_ferries_101 : decode cX9_ferries 101 = .ok (.aload_n 0, 1) := by decide +kernel
theorem dX9_ferries_102 : decode cX9_ferries 102 = .ok (.iload 5, 2) := by decide +kernel
theorem dX9_ferries_104 : decode cX9_ferries 104 = .ok (.iload_n 1, 1) := by decide +kernel
theorem dX9_ferries_105 : decode cX9_ferries 105 = .ok (.invokevirtual 181, 3) := by decide +kernel
theorem dX9_ferries_108 : decode cX9_ferries 108 = .ok (.ifCond .eq 39, 3) := by decide +kernel
theorem dX9_ferries_111 : decode cX9_ferries 111 = .ok (.aload_n 0, 1) := by decide +kernel
theorem dX9_ferries_112 : decode cX9_ferries 112 = .ok (.getfield 37, 3) := by decide +kernel
theorem dX9_ferries_115 : decode cX9_ferries 115 = .ok (.iload_n 2, 1) := by decide +kernel
theorem dX9_ferries_116 : decode cX9_ferries 116 = .ok (.iload 5, 2) := by decide +kernel
theorem dX9_ferries_118 : decode cX9_ferries 118 = .ok (.iastore, 1) := by decide +kernel
theorem dX9_ferries_119 : decode cX9_ferries 119 = .ok (.aload_n 0, 1) := by decide +kernel
theorem dX9_ferries_120 : decode cX9_ferries 120 = .ok (.iload 5, 2) := by decide +kernel
theorem dX9_ferries_122 : decode cX9_ferries 122 = .ok (.iload_n 1, 1) := by decide +kernel
theorem dX9_ferries_123 : decode cX9_ferries 123 = .ok (.invokevirtual 187, 3) := by decide +kernel
theorem dX9_ferries_126 : decode cX9_ferries 126 = .ok (.istore 6, 2) := by decide +kernel
theorem dX9_ferries_128 : decode cX9_ferries 128 = .ok (.aload_n 0, 1) := by decide +kernel
theorem dX9_ferries_129 : decode cX9_ferries 129 = .ok (.iload_n 1, 1) := by decide +kernel
theorem dX9_ferries_130 : decode cX9_ferries 130 = .ok (.iload_n 2, 1) := by decide +kernel
theorem dX9_ferries_131 : decode cX9_ferries 131 = .ok (.iconst 1, 1) := by decide +kernel
theorem dX9_ferries_132 : decode cX9_ferries 132 = .ok (.iadd, 1) := by decide +kernel
theorem dX9_ferries_133 : decode cX9_ferries 133 = .ok (.iload_n 3, 1) := by decide +kernel
theorem dX9_ferries_134 : decode cX9_ferries 134 = .ok (.iload 4, 2) := by decide +kernel
theorem dX9_ferries_136 : decode cX9_ferries 136 = .ok (.iload 6, 2) := by decide +kernel
theorem dX9_ferries_138 : decode cX9_ferries 138 = .ok (.iadd, 1) := by decide +kernel
theorem dX9_ferries_139 : decode cX9_ferries 139 = .ok (.invokevirtual 223, 3) := by decide +kernel
theorem dX9_ferries_142 : decode cX9_ferries 142 = .ok (.aload_n 0, 1) := by decide +kernel
theorem dX9_ferries_143 : decode cX9_ferries 143 = .ok (.iload_n 2, 1) := by decide +kernel
theorem dX9_ferries_144 : decode cX9_ferries 144 = .ok (.invokevirtual 213, 3) := by decide +kernel
theorem dX9_ferries_147 : decode cX9_ferries 147 = .ok (.iinc 5 1, 3) := by decide +kernel
theorem dX9_ferries_150 : decode cX9_ferries 150 = .ok (.goto (-60), 3) := by decide +kernel
theorem dX9_ferries_153 : decode cX9_ferries 153 = .ok (.return_, 1) := by decide +kernel
theorem dX9_way_0 : decode cX9_way 0 = .ok (.aload_n 0, 1) := by decide +kernel
theorem dX9_way_1 : decode cX9_way 1 = .ok (.iload_n 1, 1) := by decide +kernel
theorem dX9_way_2 : decode cX9_way 2 = .ok (.invokevirtual 156, 3) := by decide +kernel
theorem dX9_way_5 : decode cX9_way 5 = .ok (.ifCond .eq 24, 3) := by decide +kernel
theorem dX9_way_8 : decode cX9_way 8 = .ok (.iload_n 2, 1) := by decide +kernel
theorem dX9_way_9 : decode cX9_way 9 = .ok (.iconst 0, 1) := by decide +kernel
theorem dX9_way_10 : decode cX9_way 10 = .ok (.bipush 6, 2) := by decide +kernel
theorem dX9_way_12 : decode cX9_way 12 = .ok (.invokestatic 59, 3) := by decide +kernel
theorem dX9_way_15 : decode cX9_way 15 = .ok (.ifCond .eq 14, 3) := by decide +kernel
theorem dX9_way_18 : decode cX9_way 18 = .ok (.iload_n 3, 1) := by decide +kernel
theorem dX9_way_19 : decode cX9_way 19 = .ok (.iconst (-1), 1) := by decide +kernel
theorem dX9_way_20 : decode cX9_way 20 = .ok (.iload_n 2, 1) := by decide +kernel
theorem dX9_way_21 : decode cX9_way 21 = .ok (.iconst 1, 1) := by decide +kernel
theorem dX9_way_22 : decode cX9_way 22 = .ok (.isub, 1) := by decide +kernel
theorem dX9_way_23 : decode cX9_way 23 = .ok (.invokestatic 59, 3) := by decide +kernel
theorem dX9_way_26 : decode cX9_way 26 = .ok (.ifCond .ne 9, 3) := by decide +kernel
theorem dX9_way_29 : decode cX9_way 29 = .ok (.aload_n 0, 1) := by decide +kernel
theorem dX9_way_30 : decode cX9_way 30 = .ok (.iconst 1, 1) := by decide +kernel
theorem dX9_way_31 : decode cX9_way 31 = .ok (.invokevirtual 63, 3) := by decide +kernel
theorem dX9_way_34 : decode cX9_way 34 = .ok (.ireturn, 1) := by decide +kernel
theorem dX9_way_35 : decode cX9_way 35 = .ok (.aload_n 0, 1) := by decide +kernel
theorem dX9_way_36 : decode cX9_way 36 = .ok (.iconst (-1), 1) := by decide +kernel
theorem dX9_way_37 : decode cX9_way 37 = .ok (.putfield 220, 3) := by decide +kernel
theorem dX9_way_40 : decode cX9_way 40 = .ok (.aload_n 0, 1) := by decide +kernel
theorem dX9_way_41 : decode cX9_way 41 = .ok (.iload_n 1, 1) := by decide +kernel
theorem dX9_way_42 : decode cX9_way 42 = .ok (.iconst 1, 1) := by decide +kernel
theorem dX9_way_43 : decode cX9_way 43 = .ok (.invokevirtual 162, 3) := by decide +kernel
theorem dX9_way_46 : decode cX9_way 46 = .ok (.istore 4, 2) := by decide +kernel
theorem dX9_way_48 : decode cX9_way 48 = .ok (.aload_n 0, 1) := by decide +kernel
theorem dX9_way_49 : decode cX9_way 49 = .ok (.getfield 7, 3) := by decide +kernel
theorem dX9_way_52 : decode cX9_way 52 = .ok (.bipush 8, 2) := by decide +kernel
theorem dX9_way_54 : decode cX9_way 54 = .ok (.iconst 2, 1) := by decide +kernel
theorem dX9_way_55 : decode cX9_way 55 = .ok (.iload_n 1, 1) := by decide +kernel
theorem dX9_way_56 : decode cX9_way 56 = .ok (.imul, 1) := by decide +kernel
theorem dX9_way_57 : decode cX9_way 57 = .ok (.iadd, 1) := by decide +kernel
theorem dX9_way_58 : decode cX9_way 58 = .ok (.iconst 1, 1) := by decide +kernel
theorem dX9_way_59 : decode cX9_way 59 = .ok (.iadd, 1) := by decide +kernel
theorem dX9_way_60 : decode cX9_way 60 = .ok (.sipush 9999, 3) := by decide +kernel
theorem dX9_way_63 : decode cX9_way 63 = .ok (.iastore, 1) := by decide +kernel
theorem dX9_way_64 : decode cX9_way 64 = .ok (.aload_n 0, 1) := by decide +kernel
theorem dX9_way_65 : decode cX9_way 65 = .ok (.iload_n 1, 1) := by decide +kernel
theorem dX9_way_66 : decode cX9_way 66 = .ok (.iconst 0, 1) := by decide +kernel
theorem dX9_way_67 : decode cX9_way 67 = .ok (.iload_n 2, 1) := by decide +kernel
theorem dX9_way_68 : decode cX9_way 68 = .ok (.iconst 0, 1) := by decide +kernel
theorem dX9_way_69 : decode cX9_way 69 = .ok (.invokevirtual 223, 3) := by decide +kernel
theorem dX9_way_72 : decode cX9_way 72 = .ok (.aload_n 0, 1) := by decide +kernel
theorem dX9_way_73 : decode cX9_way 73 = .ok (.getfield 7, 3) := by decide +kernel
theorem dX9_way_76 : decode cX9_way 76 = .ok (.bipush 8, 2) := by decide +kernel
theorem dX9_way_78 : decode cX9_way 78 = .ok (.iconst 2, 1) := by decide +kernel
theorem dX9_way_79 : decode cX9_way 79 = .ok (.iload_n 1, 1) := by decide +kernel
theorem dX9_way_80 : decode cX9_way 80 = .ok (.imul, 1) := by decide +kernel
theorem dX9_way_81 : decode cX9_way 81 = .ok (.iadd, 1) := by decide +kernel
theorem dX9_way_82 : decode cX9_way 82 = .ok (.iconst 1, 1) := by decide +kernel
theorem dX9_way_83 : decode cX9_way 83 = .ok (.iadd, 1) := by decide +kernel
theorem dX9_way_84 : decode cX9_way 84 = .ok (.iload 4, 2) := by decide +kernel
theorem dX9_way_86 : decode cX9_way 86 = .ok (.iastore, 1) := by decide +kernel
theorem dX9_way_87 : decode cX9_way 87 = .ok (.aload_n 0, 1) := by decide +kernel
theorem dX9_way_88 : decode cX9_way 88 = .ok (.getfield 220, 3) := by decide +kernel
theorem dX9_way_91 : decode cX9_way 91 = .ok (.iconst (-1), 1) := by decide +kernel
theorem dX9_way_92 : decode cX9_way 92 = .ok (.if_icmp .ne 11, 3) := by decide +kernel
theorem dX9_way_95 : decode cX9_way 95 = .ok (.aload_n 0, 1) := by decide +kernel
theorem dX9_way_96 : decode cX9_way 96 = .ok (.iconst 2, 1) := by decide +kernel
theorem dX9_way_97 : decode cX9_way 97 = .ok (.invokevirtual 63, 3) := by decide +kernel
theorem dX9_way_100 : decode cX9_way 100 = .ok (.goto 21, 3) := by decide +kernel
theorem dX9_way_103 : decode cX9_way 103 = .ok (.iload_n 3, 1) := by decide +kernel
theorem dX9_way_104 : decode cX9_way 104 = .ok (.iconst (-1), 1) := by decide +kernel
theorem dX9_way_105 : decode cX9_way 105 = .ok (.if_icmp .ne 10, 3) := by decide +kernel
theorem dX9_way_108 : decode cX9_way 108 = .ok (.aload_n 0, 1) := by decide +kernel
theorem dX9_way_109 : decode cX9_way 109 = .ok (.getfield 220, 3) := by decide +kernel
theorem dX9_way_112 : decode cX9_way 112 = .ok (.goto 9, 3) := by decide +kernel
theorem dX9_way_115 : decode cX9_way 115 = .ok (.aload_n 0, 1) := by decide +kernel
theorem dX9_way_116 : decode cX9_way 116 = .ok (.getfield 40, 3) := by decide +kernel
theorem dX9_way_119 : decode cX9_way 119 = .ok (.iload_n 3, 1) := by decide +kernel
theorem dX9_way_120 : decode cX9_way 120 = .ok (.iaload, 1) := by decide +kernel
theorem dX9_way_121 : decode cX9_way 121 = .ok (.ireturn, 1) := by decide +kernel
theorem dX9_memory_0 : decode cX9_memory 0 = .ok (.aload_n 0, 1) := by decide +kernel
theorem dX9_memory_1 : decode cX9_memory 1 = .ok (.iload_n 1, 1) := by decide +kernel
theorem dX9_memory_2 : decode cX9_memory 2 = .ok (.invokevirtual 168, 3) := by decide +kernel
theorem dX9_memory_5 : decode cX9_memory 5 = .ok (.ifCond .eq 11, 3) := by decide +kernel
theorem dX9_memory_8 : decode cX9_memory 8 = .ok (.aload_n 0, 1) := by decide +kernel
theorem dX9_memory_9 : decode cX9_memory 9 = .ok (.iload_n 2, 1) := by decide +kernel
theorem dX9_memory_10 : decode cX9_memory 10 = .ok (.invokevirtual 156, 3) := by decide +kernel
theorem dX9_memory_13 : decode cX9_memory 13 = .ok (.ifCond .ne 9, 3) := by decide +kernel
theorem dX9_memory_16 : decode cX9_memory 16 = .ok (.aload_n 0, 1) := by decide +kernel
theorem dX9_memory_17 : decode cX9_memory 17 = .ok (.iconst 1, 1) := by decide +kernel
theorem dX9_memory_18 : decode cX9_memory 18 = .ok (.invokevirtual 63, 3) := by decide +kernel
theorem dX9_memory_21 : decode cX9_memory 21 = .ok (.ireturn, 1) := by decide +kernel
theorem dX9_memory_22 : decode cX9_memory 22 = .ok (.iconst 0, 1) := by decide +kernel
theorem dX9_memory_23 : decode cX9_memory 23 = .ok (.istore_n 3, 1) := by decide +kernel
theorem dX9_memory_24 : decode cX9_memory 24 = .ok (.iconst 0, 1) := by decide +kernel
theorem dX9_memory_25 : decode cX9_memory 25 = .ok (.istore 4, 2) := by decide +kernel
theorem dX9_memory_27 : decode cX9_memory 27 = .ok (.iconst 0, 1) := by decide +kernel
theorem dX9_memory_28 : decode cX9_memory 28 = .ok (.istore 5, 2) := by decide +kernel
theorem dX9_memory_30 : decode cX9_memory 30 = .ok (.iload 5, 2) := by decide +kernel
theorem dX9_memory_32 : decode cX9_memory 32 = .ok (.aload_n 0, 1) := by decide +kernel
theorem dX9_memory_33 : decode cX9_memory 33 = .ok (.getfield 7, 3) := by decide +kernel
theorem dX9_memory_36 : decode cX9_memory 36 = .ok (.iconst 4, 1) := by decide +kernel
theorem dX9_memory_37 : decode cX9_memory 37 = .ok (.iaload, 1) := by decide +kernel
theorem dX9_memory_38 : decode cX9_memory 38 = .ok (.if_icmp .ge 69, 3) := by decide +kernel
theorem dX9_memory_41 : decode cX9_memory 41 = .ok (.aload_n 0, 1) := by decide +kernel
theorem dX9_memory_42 : decode cX9_memory 42 = .ok (.getfield 7, 3) := by decide +kernel
theorem dX9_memory_45 : decode cX9_memory 45 = .ok (.bipush 100, 2) := by decide +kernel
theorem dX9_memory_47 : decode cX9_memory 47 = .ok (.iload 5, 2) := by decide +kernel
theorem dX9_memory_49 : decode cX9_memory 49 = .ok (.iadd, 1) := by decide +kernel
theorem dX9_memory_50 : decode cX9_memory 50 = .ok (.iaload, 1) := by decide +kernel
theorem dX9_memory_51 : decode cX9_memory 51 = .ok (.bipush 10, 2) := by decide +kernel
theorem dX9_memory_53 : decode cX9_memory 53 = .ok (.irem, 1) := by decide +kernel
theorem dX9_memory_54 : decode cX9_memory 54 = .ok (.istore 6, 2) := by decide +kernel
theorem dX9_memory_56 : decode cX9_memory 56 = .ok (.aload_n 0, 1) := by decide +kernel
theorem dX9_memory_57 : decode cX9_memory 57 = .ok (.getfield 7, 3) := by decide +kernel
theorem dX9_memory_60 : decode cX9_memory 60 = .ok (.bipush 100, 2) := by decide +kernel
theorem dX9_memory_62 : decode cX9_memory 62 = .ok (.iload 5, 2) := by decide +kernel
theorem dX9_memory_64 : decode cX9_memory 64 = .ok (.iadd, 1) := by decide +kernel
theorem dX9_memory_65 : decode cX9_memory 65 = .ok (.iaload, 1) := by decide +kernel
theorem dX9_memory_66 : decode cX9_memory 66 = .ok (.bipush 10, 2) := by decide +kernel
theorem dX9_memory_68 : decode cX9_memory 68 = .ok (.idiv, 1) := by decide +kernel
theorem dX9_memory_69 : decode cX9_memory 69 = .ok (.iload_n 1, 1) := by decide +kernel
theorem dX9_memory_70 : decode cX9_memory 70 = .ok (.if_icmp .ne 31, 3) := by decide +kernel
theorem dX9_memory_73 : decode cX9_memory 73 = .ok (.iload_n 3, 1) := by decide +kernel
theorem dX9_memory_74 : decode cX9_memory 74 = .ok (.iload 6, 2) := by decide +kernel
theorem dX9_memory_76 : decode cX9_memory 76 = .ok (.ishr, 1) := by decide +kernel
theorem dX9_memory_77 : decode cX9_memory 77 = .ok (.iconst 1, 1) := by decide +kernel
theorem dX9_memory_78 : decode cX9_memory 78 = .ok (.iand, 1) := by decide +kernel
theorem dX9_memory_79 : decode cX9_memory 79 = .ok (.ifCond .ne 22, 3) := by decide +kernel
theorem dX9_memory_82 : decode cX9_memory 82 = .ok (.iload_n 3, 1) := by decide +kernel
theorem dX9_memory_83 : decode cX9_memory 83 = .ok (.iconst 1, 1) := by decide +kernel
theorem dX9_memory_84 : decode cX9_memory 84 = .ok (.iload 6, 2) := by decide +kernel
theorem dX9_memory_86 : decode cX9_memory 86 = .ok (.ishl, 1) := by decide +kernel
theorem dX9_memory_87 : decode cX9_memory 87 = .ok (.ior, 1) := by decide +kernel
theorem dX9_memory_88 : decode cX9_memory 88 = .ok (.istore_n 3, 1) := by decide +kernel
theorem dX9_memory_89 : decode cX9_memory 89 = .ok (.iinc 4 1, 3) := by decide +kernel
theorem dX9_memory_92 : decode cX9_memory 92 = .ok (.iload 6, 2) := by decide +kernel
theorem dX9_memory_94 : decode cX9_memory 94 = .ok (.iload_n 2, 1) := by decide +kernel
theorem dX9_memory_95 : decode cX9_memory 95 = .ok (.if_icmp .ne 6, 3) := by decide +kernel
theorem dX9_memory_98 : decode cX9_memory 98 = .ok (.iload 4, 2) := by decide +kernel
theorem dX9_memory_100 : decode cX9_memory 100 = .ok (.ireturn, 1) := by decide +kernel
theorem dX9_memory_101 : decode cX9_memory 101 = .ok (.iinc 5 1, 3) := by decide +kernel
theorem dX9_memory_104 : decode cX9_memory 104 = .ok (.goto (-74), 3) := by decide +kernel
theorem dX9_memory_107 : decode cX9_memory 107 = .ok (.aload_n 0, 1) := by decide +kernel
theorem dX9_memory_108 : decode cX9_memory 108 = .ok (.iconst 2, 1) := by decide +kernel
theorem dX9_memory_109 : decode cX9_memory 109 = .ok (.invokevirtual 63, 3) := by decide +kernel
theorem dX9_memory_112 : decode cX9_memory 112 = .ok (.ireturn, 1) := by decide +kernel
theorem dX9_hearsay_0 : decode cX9_hearsay 0 = .ok (.aload_n 0, 1) := by decide +kernel
theorem dX9_hearsay_1 : decode cX9_hearsay 1 = .ok (.iload_n 1, 1) := by decide +kernel
theorem dX9_hearsay_2 : decode cX9_hearsay 2 = .ok (.invokevirtual 168, 3) := by decide +kernel
theorem dX9_hearsay_5 : decode cX9_hearsay 5 = .ok (.ifCond .eq 11, 3) := by decide +kernel
theorem dX9_hearsay_8 : decode cX9_hearsay 8 = .ok (.aload_n 0, 1) := by decide +kernel
theorem dX9_hearsay_9 : decode cX9_hearsay 9 = .ok (.iload_n 2, 1) := by decide +kernel
theorem dX9_hearsay_10 : decode cX9_hearsay 10 = .ok (.invokevirtual 156, 3) := by decide +kernel
theorem dX9_hearsay_13 : decode cX9_hearsay 13 = .ok (.ifCond .ne 9, 3) := by decide +kernel
theorem dX9_hearsay_16 : decode cX9_hearsay 16 = .ok (.aload_n 0, 1) := by decide +kernel
theorem dX9_hearsay_17 : decode cX9_hearsay 17 = .ok (.iconst 1, 1) := by decide +kernel
theorem dX9_hearsay_18 : decode cX9_hearsay 18 = .ok (.invokevirtual 63, 3) := by decide +kernel
theorem dX9_hearsay_21 : decode cX9_hearsay 21 = .ok (.ireturn, 1) := by decide +kernel
theorem dX9_hearsay_22 : decode cX9_hearsay 22 = .ok (.aload_n 0, 1) := by decide +kernel
theorem dX9_hearsay_23 : decode cX9_hearsay 23 = .ok (.iload_n 1, 1) := by decide +kernel
theorem dX9_hearsay_24 : decode cX9_hearsay 24 = .ok (.iload_n 2, 1) := by decide +kernel
theorem dX9_hearsay_25 : decode cX9_hearsay 25 = .ok (.invokevirtual 181, 3) := by decide +kernel
theorem dX9_hearsay_28 : decode cX9_hearsay 28 = .ok (.ifCond .ne 9, 3) := by decide +kernel
theorem dX9_hearsay_31 : decode cX9_hearsay 31 = .ok (.aload_n 0, 1) := by decide +kernel
theorem dX9_hearsay_32 : decode cX9_hearsay 32 = .ok (.iconst 3, 1) := by decide +kernel
theorem dX9_hearsay_33 : decode cX9_hearsay 33 = .ok (.invokevirtual 63, 3) := by decide +kernel
theorem dX9_hearsay_36 : decode cX9_hearsay 36 = .ok (.ireturn, 1) := by decide +kernel
theorem dX9_hearsay_37 : decode cX9_hearsay 37 = .ok (.aload_n 0, 1) := by decide +kernel
theorem dX9_hearsay_38 : decode cX9_hearsay 38 = .ok (.iconst 0, 1) := by decide +kernel
theorem dX9_hearsay_39 : decode cX9_hearsay 39 = .ok (.invokevirtual 210, 3) := by decide +kernel
theorem dX9_hearsay_42 : decode cX9_hearsay 42 = .ok (.aload_n 0, 1) := by decide +kernel
theorem dX9_hearsay_43 : decode cX9_hearsay 43 = .ok (.iload_n 1, 1) := by decide +kernel
theorem dX9_hearsay_44 : decode cX9_hearsay 44 = .ok (.iload_n 2, 1) := by decide +kernel
theorem dX9_hearsay_45 : decode cX9_hearsay 45 = .ok (.invokevirtual 187, 3) := by decide +kernel
theorem dX9_hearsay_48 : decode cX9_hearsay 48 = .ok (.istore_n 3, 1) := by decide +kernel
theorem dX9_hearsay_49 : decode cX9_hearsay 49 = .ok (.iconst 0, 1) := by decide +kernel
theorem dX9_hearsay_50 : decode cX9_hearsay 50 = .ok (.istore 4, 2) := by decide +kernel
theorem dX9_hearsay_52 : decode cX9_hearsay 52 = .ok (.iconst 0, 1) := by decide +kernel
theorem dX9_hearsay_53 : decode cX9_hearsay 53 = .ok (.istore 5, 2) := by decide +kernel
theorem dX9_hearsay_55 : decode cX9_hearsay 55 = .ok (.iload 5, 2) := by decide +kernel
theorem dX9_hearsay_57 : decode cX9_hearsay 57 = .ok (.aload_n 0, 1) := by decide +kernel
theorem dX9_hearsay_58 : decode cX9_hearsay 58 = .ok (.getfield 7, 3) := by decide +kernel
theorem dX9_hearsay_61 : decode cX9_hearsay 61 = .ok (.iconst 1, 1) := by decide +kernel
theorem dX9_hearsay_62 : decode cX9_hearsay 62 = .ok (.iaload, 1) := by decide +kernel
theorem dX9_hearsay_63 : decode cX9_hearsay 63 = .ok (.if_icmp .ge 32, 3) := by decide +kernel
theorem dX9_hearsay_66 : decode cX9_hearsay 66 = .ok (.iload 4, 2) := by decide +kernel
theorem dX9_hearsay_68 : decode cX9_hearsay 68 = .ok (.aload_n 0, 1) := by decide +kernel
theorem dX9_hearsay_69 : decode cX9_hearsay 69 = .ok (.iload 5, 2) := by decide +kernel
theorem dX9_hearsay_71 : decode cX9_hearsay 71 = .ok (.iload_n 2, 1) := by decide +kernel
theorem dX9_hearsay_72 : decode cX9_hearsay 72 = .ok (.invokevirtual 152, 3) := by decide +kernel
theorem dX9_hearsay_75 : decode cX9_hearsay 75 = .ok (.ifCond .eq 10, 3) := by decide +kernel
theorem dX9_hearsay_78 : decode cX9_hearsay 78 = .ok (.iconst 1, 1) := by decide +kernel
theorem dX9_hearsay_79 : decode cX9_hearsay 79 = .ok (.iload 5, 2) := by decide +kernel
theorem dX9_hearsay_81 : decode cX9_hearsay 81 = .ok (.ishl, 1) := by decide +kernel
theorem dX9_hearsay_82 : decode cX9_hearsay 82 = .ok (.goto 4, 3) := by decide +kernel
theorem dX9_hearsay_85 : decode cX9_hearsay 85 = .ok (.iconst 0, 1) := by decide +kernel
theorem dX9_hearsay_86 : decode cX9_hearsay 86 = .ok (.ior, 1) := by decide +kernel
theorem dX9_hearsay_87 : decode cX9_hearsay 87 = .ok (.istore 4, 2) := by decide +kernel
theorem dX9_hearsay_89 : decode cX9_hearsay 89 = .ok (.iinc 5 1, 3) := by decide +kernel
theorem dX9_hearsay_92 : decode cX9_hearsay 92 = .ok (.goto (-37), 3) := by decide +kernel
theorem dX9_hearsay_95 : decode cX9_hearsay 95 = .ok (.aload_n 0, 1) := by decide +kernel
theorem dX9_hearsay_96 : decode cX9_hearsay 96 = .ok (.iconst 0, 1) := by decide +kernel
theorem dX9_hearsay_97 : decode cX9_hearsay 97 = .ok (.invokevirtual 213, 3) := by decide +kernel
theorem dX9_hearsay_100 : decode cX9_hearsay 100 = .ok (.iload 4, 2) := by decide +kernel
theorem dX9_hearsay_102 : decode cX9_hearsay 102 = .ok (.ireturn, 1) := by decide +kernel
theorem dX9_areAsPut_0 : decode cX9_areAsPut 0 = .ok (.aload_n 0, 1) := by decide +kernel
theorem dX9_areAsPut_1 : decode cX9_areAsPut 1 = .ok (.getfield 7, 3) := by decide +kernel
theorem dX9_areAsPut_4 : decode cX9_areAsPut 4 = .ok (.iconst 1, 1) := by decide +kernel
theorem dX9_areAsPut_5 : decode cX9_areAsPut 5 = .ok (.iaload, 1) := by decide +kernel
theorem dX9_areAsPut_6 : decode cX9_areAsPut 6 = .ok (.aload_n 0, 1) := by decide +kernel
theorem dX9_areAsPut_7 : decode cX9_areAsPut 7 = .ok (.getfield 16, 3) := by decide +kernel
theorem dX9_areAsPut_10 : decode cX9_areAsPut 10 = .ok (.iconst 1, 1) := by decide +kernel
theorem dX9_areAsPut_11 : decode cX9_areAsPut 11 = .ok (.iaload, 1) := by decide +kernel
theorem dX9_areAsPut_12 : decode cX9_areAsPut 12 = .ok (.if_icmp .ne 7, 3) := by decide +kernel
theorem dX9_areAsPut_15 : decode cX9_areAsPut 15 = .ok (.iconst 1, 1) := by decide +kernel
theorem dX9_areAsPut_16 : decode cX9_areAsPut 16 = .ok (.goto 4, 3) := by decide +kernel
theorem dX9_areAsPut_19 : decode cX9_areAsPut 19 = .ok (.iconst 0, 1) := by decide +kernel
theorem dX9_areAsPut_20 : decode cX9_areAsPut 20 = .ok (.istore_n 1, 1) := by decide +kernel
theorem dX9_areAsPut_21 : decode cX9_areAsPut 21 = .ok (.iconst 0, 1) := by decide +kernel
theorem dX9_areAsPut_22 : decode cX9_areAsPut 22 = .ok (.istore_n 2, 1) := by decide +kernel
theorem dX9_areAsPut_23 : decode cX9_areAsPut 23 = .ok (.iload_n 2, 1) := by decide +kernel
theorem dX9_areAsPut_24 : decode cX9_areAsPut 24 = .ok (.aload_n 0, 1) := by decide +kernel
theorem dX9_areAsPut_25 : decode cX9_areAsPut 25 = .ok (.getfield 7, 3) := by decide +kernel
theorem dX9_areAsPut_28 : decode cX9_areAsPut 28 = .ok (.iconst 1, 1) := by decide +kernel
theorem dX9_areAsPut_29 : decode cX9_areAsPut 29 = .ok (.iaload, 1) := by decide +kernel
theorem dX9_areAsPut_30 : decode cX9_areAsPut 30 = .ok (.if_icmp .ge 97, 3) := by decide +kernel
theorem dX9_areAsPut_33 : decode cX9_areAsPut 33 = .ok (.iload_n 1, 1) := by decide +kernel
theorem dX9_areAsPut_34 : decode cX9_areAsPut 34 = .ok (.ifCond .eq 93, 3) := by decide +kernel
theorem dX9_areAsPut_37 : decode cX9_areAsPut 37 = .ok (.aload_n 0, 1) := by decide +kernel
theorem dX9_areAsPut_38 : decode cX9_areAsPut 38 = .ok (.iload_n 2, 1) := by decide +kernel
theorem dX9_areAsPut_39 : decode cX9_areAsPut 39 = .ok (.iconst 4, 1) := by decide +kernel
theorem dX9_areAsPut_40 : decode cX9_areAsPut 40 = .ok (.invokevirtual 123, 3) := by decide +kernel
theorem dX9_areAsPut_43 : decode cX9_areAsPut 43 = .ok (.aload_n 0, 1) := by decide +kernel
theorem dX9_areAsPut_44 : decode cX9_areAsPut 44 = .ok (.getfield 16, 3) := by decide +kernel
theorem dX9_areAsPut_47 : decode cX9_areAsPut 47 = .ok (.bipush 24, 2) := by decide +kernel
theorem dX9_areAsPut_49 : decode cX9_areAsPut 49 = .ok (.bipush 13, 2) := by decide +kernel
theorem dX9_areAsPut_51 : decode cX9_areAsPut 51 = .ok (.iload_n 2, 1) := by decide +kernel
theorem dX9_areAsPut_52 : decode cX9_areAsPut 52 = .ok (.imul, 1) := by decide +kernel
theorem dX9_areAsPut_53 : decode cX9_areAsPut 53 = .ok (.iadd, 1) := by decide +kernel
theorem dX9_areAsPut_54 : decode cX9_areAsPut 54 = .ok (.iconst 4, 1) := by decide +kernel
theorem dX9_areAsPut_55 : decode cX9_areAsPut 55 = .ok (.iadd, 1) := by decide +kernel
theorem dX9_areAsPut_56 : decode cX9_areAsPut 56 = .ok (.iaload, 1) := by decide +kernel
theorem dX9_areAsPut_57 : decode cX9_areAsPut 57 = .ok (.if_icmp .ne 7, 3) := by decide +kernel
theorem dX9_areAsPut_60 : decode cX9_areAsPut 60 = .ok (.iconst 1, 1) := by decide +kernel
theorem dX9_areAsPut_61 : decode cX9_areAsPut 61 = .ok (.goto 4, 3) := by decide +kernel
theorem dX9_areAsPut_64 : decode cX9_areAsPut 64 = .ok (.iconst 0, 1) := by decide +kernel
theorem dX9_areAsPut_65 : decode cX9_areAsPut 65 = .ok (.istore_n 1, 1) := by decide +kernel
theorem dX9_areAsPut_66 : decode cX9_areAsPut 66 = .ok (.iconst 0, 1) := by decide +kernel
theorem dX9_areAsPut_67 : decode cX9_areAsPut 67 = .ok (.istore_n 3, 1) := by decide +kernel
theorem dX9_areAsPut_68 : decode cX9_areAsPut 68 = .ok (.iload_n 3, 1) := by decide +kernel
theorem dX9_areAsPut_69 : decode cX9_areAsPut 69 = .ok (.aload_n 0, 1) := by decide +kernel
theorem dX9_areAsPut_70 : decode cX9_areAsPut 70 = .ok (.iload_n 2, 1) := by decide +kernel
theorem dX9_areAsPut_71 : decode cX9_areAsPut 71 = .ok (.iconst 4, 1) := by decide +kernel
theorem dX9_areAsPut_72 : decode cX9_areAsPut 72 = .ok (.invokevirtual 123, 3) := by decide +kernel
theorem dX9_areAsPut_75 : decode cX9_areAsPut 75 = .ok (.if_icmp .ge 46, 3) := by decide +kernel
theorem dX9_areAsPut_78 : decode cX9_areAsPut 78 = .ok (.iload_n 1, 1) := by decide +kernel
theorem dX9_areAsPut_79 : decode cX9_areAsPut 79 = .ok (.ifCond .eq 42, 3) := by decide +kernel
theorem dX9_areAsPut_82 : decode cX9_areAsPut 82 = .ok (.aload_n 0, 1) := by decide +kernel
theorem dX9_areAsPut_83 : decode cX9_areAsPut 83 = .ok (.iload_n 2, 1) := by decide +kernel
theorem dX9_areAsPut_84 : decode cX9_areAsPut 84 = .ok (.iconst 5, 1) := by decide +kernel
theorem dX9_areAsPut_85 : decode cX9_areAsPut 85 = .ok (.iload_n 3, 1) := by decide +kernel
theorem dX9_areAsPut_86 : decode cX9_areAsPut 86 = .ok (.iadd, 1) := by decide +kernel
theorem dX9_areAsPut_87 : decode cX9_areAsPut 87 = .ok (.invokevirtual 123, 3) := by decide +kernel
theorem dX9_areAsPut_90 : decode cX9_areAsPut 90 = .ok (.aload_n 0, 1) := by decide +kernel
theorem dX9_areAsPut_91 : decode cX9_areAsPut 91 = .ok (.getfield 16, 3) := by decide +kernel
theorem dX9_areAsPut_94 : decode cX9_areAsPut 94 = .ok (.bipush 24, 2) := by decide +kernel
theorem dX9_areAsPut_96 : decode cX9_areAsPut 96 = .ok (.bipush 13, 2) := by decide +kernel
theorem dX9_areAsPut_98 : decode cX9_areAsPut 98 = .ok (.iload_n 2, 1) := by decide +kernel
theorem dX9_areAsPut_99 : decode cX9_areAsPut 99 = .ok (.imul, 1) := by decide +kernel
theorem dX9_areAsPut_100 : decode cX9_areAsPut 100 = .ok (.iadd, 1) := by decide +kernel
theorem dX9_areAsPut_101 : decode cX9_areAsPut 101 = .ok (.iconst 5, 1) := by decide +kernel
theorem dX9_areAsPut_102 : decode cX9_areAsPut 102 = .ok (.iadd, 1) := by decide +kernel
theorem dX9_areAsPut_103 : decode cX9_areAsPut 103 = .ok (.iload_n 3, 1) := by decide +kernel
theorem dX9_areAsPut_104 : decode cX9_areAsPut 104 = .ok (.iadd, 1) := by decide +kernel
theorem dX9_areAsPut_105 : decode cX9_areAsPut 105 = .ok (.iaload, 1) := by decide +kernel
theorem dX9_areAsPut_106 : decode cX9_areAsPut 106 = .ok (.if_icmp .ne 7, 3) := by decide +kernel
theorem dX9_areAsPut_109 : decode cX9_areAsPut 109 = .ok (.iconst 1, 1) := by decide +kernel
theorem dX9_areAsPut_110 : decode cX9_areAsPut 110 = .ok (.goto 4, 3) := by decide +kernel
theorem dX9_areAsPut_113 : decode cX9_areAsPut 113 = .ok (.iconst 0, 1) := by decide +kernel
theorem dX9_areAsPut_114 : decode cX9_areAsPut 114 = .ok (.istore_n 1, 1) := by decide +kernel
theorem dX9_areAsPut_115 : decode cX9_areAsPut 115 = .ok (.iinc 3 1, 3) := by decide +kernel
theorem dX9_areAsPut_118 : decode cX9_areAsPut 118 = .ok (.goto (-50), 3) := by decide +kernel
theorem dX9_areAsPut_121 : decode cX9_areAsPut 121 = .ok (.iinc 2 1, 3) := by decide +kernel
theorem dX9_areAsPut_124 : decode cX9_areAsPut 124 = .ok (.goto (-101), 3) := by decide +kernel
theorem dX9_areAsPut_127 : decode cX9_areAsPut 127 = .ok (.iload_n 1, 1) := by decide +kernel
theorem dX9_areAsPut_128 : decode cX9_areAsPut 128 = .ok (.ireturn, 1) := by decide +kernel
theorem dX9_fits_0 : decode cX9_fits 0 = .ok (.iload_n 1, 1) := by decide +kernel
theorem dX9_fits_1 : decode cX9_fits 1 = .ok (.ifCond .ne 48, 3) := by decide +kernel
theorem dX9_fits_4 : decode cX9_fits 4 = .ok (.aload_n 0, 1) := by decide +kernel
theorem dX9_fits_5 : decode cX9_fits 5 = .ok (.invokevirtual 227, 3) := by decide +kernel
theorem dX9_fits_8 : decode cX9_fits 8 = .ok (.istore 4, 2) := by decide +kernel
theorem dX9_fits_10 : decode cX9_fits 10 = .ok (.aload_n 0, 1) := by decide +kernel
theorem dX9_fits_11 : decode cX9_fits 11 = .ok (.dup, 1) := by decide +kernel
theorem dX9_fits_12 : decode cX9_fits 12 = .ok (.getfield 230, 3) := by decide +kernel
theorem dX9_fits_15 : decode cX9_fits 15 = .ok (.iload 4, 2) := by decide +kernel
theorem dX9_fits_17 : decode cX9_fits 17 = .ok (.ifCond .eq 7, 3) := by decide +kernel
theorem dX9_fits_20 : decode cX9_fits 20 = .ok (.iconst 1, 1) := by decide +kernel
theorem dX9_fits_21 : decode cX9_fits 21 = .ok (.goto 4, 3) := by decide +kernel
theorem dX9_fits_24 : decode cX9_fits 24 = .ok (.iconst 0, 1) := by decide +kernel
theorem dX9_fits_25 : decode cX9_fits 25 = .ok (.iadd, 1) := by decide +kernel
theorem dX9_fits_26 : decode cX9_fits 26 = .ok (.putfield 230, 3) := by decide +kernel
theorem dX9_fits_29 : decode cX9_fits 29 = .ok (.aload_n 0, 1) := by decide +kernel
theorem dX9_fits_30 : decode cX9_fits 30 = .ok (.dup, 1) := by decide +kernel
theorem dX9_fits_31 : decode cX9_fits 31 = .ok (.getfield 233, 3) := by decide +kernel
theorem dX9_fits_34 : decode cX9_fits 34 = .ok (.iload 4, 2) := by decide +kernel
theorem dX9_fits_36 : decode cX9_fits 36 = .ok (.ifCond .eq 7, 3) := by decide +kernel
theorem dX9_fits_39 : decode cX9_fits 39 = .ok (.iload_n 3, 1) := by decide +kernel
theorem dX9_fits_40 : decode cX9_fits 40 = .ok (.goto 4, 3) := by decide +kernel
theorem dX9_fits_43 : decode cX9_fits 43 = .ok (.iconst 0, 1) := by decide +kernel
theorem dX9_fits_44 : decode cX9_fits 44 = .ok (.ior, 1) := by decide +kernel
theorem dX9_fits_45 : decode cX9_fits 45 = .ok (.putfield 233, 3) := by decide +kernel
theorem dX9_fits_48 : decode cX9_fits 48 = .ok (.return_, 1) := by decide +kernel
theorem dX9_fits_49 : decode cX9_fits 49 = .ok (.aload_n 0, 1) := by decide +kernel
theorem dX9_fits_50 : decode cX9_fits 50 = .ok (.iload_n 2, 1) := by decide +kernel
theorem dX9_fits_51 : decode cX9_fits 51 = .ok (.invokevirtual 210, 3) := by decide +kernel
theorem dX9_fits_54 : decode cX9_fits 54 = .ok (.iconst 0, 1) := by decide +kernel
theorem dX9_fits_55 : decode cX9_fits 55 = .ok (.istore 4, 2) := by decide +kernel
theorem dX9_fits_57 : decode cX9_fits 57 = .ok (.iload 4, 2) := by decide +kernel
theorem dX9_fits_59 : decode cX9_fits 59 = .ok (.aload_n 0, 1) := by decide +kernel
theorem dX9_fits_60 : decode cX9_fits 60 = .ok (.getfield 7, 3) := by decide +kernel
theorem dX9_fits_63 : decode cX9_fits 63 = .ok (.iconst 1, 1) := by decide +kernel
theorem dX9_fits_64 : decode cX9_fits 64 = .ok (.iaload, 1) := by decide +kernel
theorem dX9_fits_65 : decode cX9_fits 65 = .ok (.if_icmp .ge 71, 3) := by decide +kernel
theorem dX9_fits_68 : decode cX9_fits 68 = .ok (.iconst 0, 1) := by decide +kernel
theorem dX9_fits_69 : decode cX9_fits 69 = .ok (.istore 5, 2) := by decide +kernel
theorem dX9_fits_71 : decode cX9_fits 71 = .ok (.iload 5, 2) := by decide +kernel
theorem dX9_fits_73 : decode cX9_fits 73 = .ok (.aload_n 0, 1) := by decide +kernel
theorem dX9_fits_74 : decode cX9_fits 74 = .ok (.getfield 7, 3) := by decide +kernel
theorem dX9_fits_77 : decode cX9_fits 77 = .ok (.iconst 0, 1) := by decide +kernel
theorem dX9_fits_78 : decode cX9_fits 78 = .ok (.iaload, 1) := by decide +kernel
theorem dX9_fits_79 : decode cX9_fits 79 = .ok (.if_icmp .ge 51, 3) := by decide +kernel
theorem dX9_fits_82 : decode cX9_fits 82 = .ok (.aload_n 0, 1) := by decide +kernel
theorem dX9_fits_83 : decode cX9_fits 83 = .ok (.iload 4, 2) := by decide +kernel
theorem dX9_fits_85 : decode cX9_fits 85 = .ok (.iload 5, 2) := by decide +kernel
theorem dX9_fits_87 : decode cX9_fits 87 = .ok (.invokevirtual 181, 3) := by decide +kernel
theorem dX9_fits_90 : decode cX9_fits 90 = .ok (.ifCond .eq 34, 3) := by decide +kernel
theorem dX9_fits_93 : decode cX9_fits 93 = .ok (.aload_n 0, 1) := by decide +kernel
theorem dX9_fits_94 : decode cX9_fits 94 = .ok (.iload 4, 2) := by decide +kernel
theorem dX9_fits_96 : decode cX9_fits 96 = .ok (.iload 5, 2) := by decide +kernel
theorem dX9_fits_98 : decode cX9_fits 98 = .ok (.invokevirtual 187, 3) := by decide +kernel
theorem dX9_fits_101 : decode cX9_fits 101 = .ok (.istore 6, 2) := by decide +kernel
theorem dX9_fits_103 : decode cX9_fits 103 = .ok (.aload_n 0, 1) := by decide +kernel
theorem dX9_fits_104 : decode cX9_fits 104 = .ok (.iload_n 1, 1) := by decide +kernel
theorem dX9_fits_105 : decode cX9_fits 105 = .ok (.iconst 1, 1) := by decide +kernel
theorem dX9_fits_106 : decode cX9_fits 106 = .ok (.isub, 1) := by decide +kernel
theorem dX9_fits_107 : decode cX9_fits 107 = .ok (.iload_n 2, 1) := by decide +kernel
theorem dX9_fits_108 : decode cX9_fits 108 = .ok (.iconst 1, 1) := by decide +kernel
theorem dX9_fits_109 : decode cX9_fits 109 = .ok (.iadd, 1) := by decide +kernel
theorem dX9_fits_110 : decode cX9_fits 110 = .ok (.iload_n 3, 1) := by decide +kernel
theorem dX9_fits_111 : decode cX9_fits 111 = .ok (.iconst 1, 1) := by decide +kernel
theorem dX9_fits_112 : decode cX9_fits 112 = .ok (.iload 5, 2) := by decide +kernel
theorem dX9_fits_114 : decode cX9_fits 114 = .ok (.ishl, 1) := by decide +kernel
theorem dX9_fits_115 : decode cX9_fits 115 = .ok (.ior, 1) := by decide +kernel
theorem dX9_fits_116 : decode cX9_fits 116 = .ok (.invokevirtual 236, 3) := by decide +kernel
theorem dX9_fits_119 : decode cX9_fits 119 = .ok (.aload_n 0, 1) := by decide +kernel
theorem dX9_fits_120 : decode cX9_fits 120 = .ok (.iload_n 2, 1) := by decide +kernel
theorem dX9_fits_121 : decode cX9_fits 121 = .ok (.invokevirtual 213, 3) := by decide +kernel
theorem dX9_fits_124 : decode cX9_fits 124 = .ok (.iinc 5 1, 3) := by decide +kernel
theorem dX9_fits_127 : decode cX9_fits 127 = .ok (.goto (-56), 3) := by decide +kernel
theorem dX9_fits_130 : decode cX9_fits 130 = .ok (.iinc 4 1, 3) := by decide +kernel
theorem dX9_fits_133 : decode cX9_fits 133 = .ok (.goto (-76), 3) := by decide +kernel
theorem dX9_fits_136 : decode cX9_fits 136 = .ok (.return_, 1) := by decide +kernel
theorem dX9_rows_0 : decode cX9_rows 0 = .ok (.iload_n 1, 1) := by decide +kernel
theorem dX9_rows_1 : decode cX9_rows 1 = .ok (.iconst 0, 1) := by decide +kernel
theorem dX9_rows_2 : decode cX9_rows 2 = .ok (.iconst 3, 1) := by decide +kernel
theorem dX9_rows_3 : decode cX9_rows 3 = .ok (.invokestatic 59, 3) := by decide +kernel
theorem dX9_rows_6 : decode cX9_rows 6 = .ok (.ifCond .eq 12, 3) := by decide +kernel
theorem dX9_rows_9 : decode cX9_rows 9 = .ok (.iload_n 2, 1) := by decide +kernel
theorem dX9_rows_10 : decode cX9_rows 10 = .ok (.iconst 0, 1) := by decide +kernel
theorem dX9_rows_11 : decode cX9_rows 11 = .ok (.iconst 1, 1) := by decide +kernel
theorem dX9_rows_12 : decode cX9_rows 12 = .ok (.invokestatic 59, 3) := by decide +kernel
theorem dX9_rows_15 : decode cX9_rows 15 = .ok (.ifCond .ne 9, 3) := by decide +kernel
theorem dX9_rows_18 : decode cX9_rows 18 = .ok (.aload_n 0, 1) := by decide +kernel
theorem dX9_rows_19 : decode cX9_rows 19 = .ok (.iconst 1, 1) := by decide +kernel
theorem dX9_rows_20 : decode cX9_rows 20 = .ok (.invokevirtual 63, 3) := by decide +kernel
theorem dX9_rows_23 : decode cX9_rows 23 = .ok (.ireturn, 1) := by decide +kernel
theorem dX9_rows_24 : decode cX9_rows 24 = .ok (.aload_n 0, 1) := by decide +kernel
theorem dX9_rows_25 : decode cX9_rows 25 = .ok (.getfield 239, 3) := by decide +kernel
theorem dX9_rows_28 : decode cX9_rows 28 = .ok (.ifCond .ne 9, 3) := by decide +kernel
theorem dX9_rows_31 : decode cX9_rows 31 = .ok (.aload_n 0, 1) := by decide +kernel
theorem dX9_rows_32 : decode cX9_rows 32 = .ok (.iconst 2, 1) := by decide +kernel
theorem dX9_rows_33 : decode cX9_rows 33 = .ok (.invokevirtual 63, 3) := by decide +kernel
theorem dX9_rows_36 : decode cX9_rows 36 = .ok (.ireturn, 1) := by decide +kernel
theorem dX9_rows_37 : decode cX9_rows 37 = .ok (.aload_n 0, 1) := by decide +kernel
theorem dX9_rows_38 : decode cX9_rows 38 = .ok (.iconst 0, 1) := by decide +kernel
theorem dX9_rows_39 : decode cX9_rows 39 = .ok (.putfield 230, 3) := by decide +kernel
theorem dX9_rows_42 : decode cX9_rows 42 = .ok (.aload_n 0, 1) := by decide +kernel
theorem dX9_rows_43 : decode cX9_rows 43 = .ok (.iconst 0, 1) := by decide +kernel
theorem dX9_rows_44 : decode cX9_rows 44 = .ok (.putfield 233, 3) := by decide +kernel
theorem dX9_rows_47 : decode cX9_rows 47 = .ok (.aload_n 0, 1) := by decide +kernel
theorem dX9_rows_48 : decode cX9_rows 48 = .ok (.getfield 7, 3) := by decide +kernel
theorem dX9_rows_51 : decode cX9_rows 51 = .ok (.aload_n 0, 1) := by decide +kernel
theorem dX9_rows_52 : decode cX9_rows 52 = .ok (.getfield 16, 3) := by decide +kernel
theorem dX9_rows_55 : decode cX9_rows 55 = .ok (.invokestatic 242, 3) := by decide +kernel
theorem dX9_rows_58 : decode cX9_rows 58 = .ok (.aload_n 0, 1) := by decide +kernel
theorem dX9_rows_59 : decode cX9_rows 59 = .ok (.getfield 13, 3) := by decide +kernel
theorem dX9_rows_62 : decode cX9_rows 62 = .ok (.aload_n 0, 1) := by decide +kernel
theorem dX9_rows_63 : decode cX9_rows 63 = .ok (.getfield 7, 3) := by decide +kernel
theorem dX9_rows_66 : decode cX9_rows 66 = .ok (.invokestatic 242, 3) := by decide +kernel
theorem dX9_rows_69 : decode cX9_rows 69 = .ok (.aload_n 0, 1) := by decide +kernel
theorem dX9_rows_70 : decode cX9_rows 70 = .ok (.iload_n 1, 1) := by decide +kernel
theorem dX9_rows_71 : decode cX9_rows 71 = .ok (.iconst 0, 1) := by decide +kernel
theorem dX9_rows_72 : decode cX9_rows 72 = .ok (.iconst 0, 1) := by decide +kernel
theorem dX9_rows_73 : decode cX9_rows 73 = .ok (.invokevirtual 236, 3) := by decide +kernel
theorem dX9_rows_76 : decode cX9_rows 76 = .ok (.aload_n 0, 1) := by decide +kernel
theorem dX9_rows_77 : decode cX9_rows 77 = .ok (.getfield 16, 3) := by decide +kernel
theorem dX9_rows_80 : decode cX9_rows 80 = .ok (.aload_n 0, 1) := by decide +kernel
theorem dX9_rows_81 : decode cX9_rows 81 = .ok (.getfield 7, 3) := by decide +kernel
theorem dX9_rows_84 : decode cX9_rows 84 = .ok (.invokestatic 242, 3) := by decide +kernel
theorem dX9_rows_87 : decode cX9_rows 87 = .ok (.iload_n 2, 1) := by decide +kernel
theorem dX9_rows_88 : decode cX9_rows 88 = .ok (.ifCond .ne 10, 3) := by decide +kernel
theorem dX9_rows_91 : decode cX9_rows 91 = .ok (.aload_n 0, 1) := by decide +kernel
theorem dX9_rows_92 : decode cX9_rows 92 = .ok (.getfield 230, 3) := by decide +kernel
theorem dX9_rows_95 : decode cX9_rows 95 = .ok (.goto 7, 3) := by decide +kernel
theorem dX9_rows_98 : decode cX9_rows 98 = .ok (.aload_n 0, 1) := by decide +kernel
theorem dX9_rows_99 : decode cX9_rows 99 = .ok (.getfield 233, 3) := by decide +kernel
theorem dX9_rows_102 : decode cX9_rows 102 = .ok (.ireturn, 1) := by decide +kernel
theorem dX9_begins_0 : decode cX9_begins 0 = .ok (.aload_n 0, 1) := by decide +kernel
theorem dX9_begins_1 : decode cX9_begins 1 = .ok (.getfield 246, 3) := by decide +kernel
theorem dX9_begins_4 : decode cX9_begins 4 = .ok (.bipush 30, 2) := by decide +kernel
theorem dX9_begins_6 : decode cX9_begins 6 = .ok (.if_icmp .ge 23, 3) := by decide +kernel
theorem dX9_begins_9 : decode cX9_begins 9 = .ok (.aload_n 0, 1) := by decide +kernel
theorem dX9_begins_10 : decode cX9_begins 10 = .ok (.getfield 43, 3) := by decide +kernel
theorem dX9_begins_13 : decode cX9_begins 13 = .ok (.aload_n 0, 1) := by decide +kernel
theorem dX9_begins_14 : decode cX9_begins 14 = .ok (.getfield 246, 3) := by decide +kernel
theorem dX9_begins_17 : decode cX9_begins 17 = .ok (.iload_n 1, 1) := by decide +kernel
theorem dX9_begins_18 : decode cX9_begins 18 = .ok (.iastore, 1) := by decide +kernel
theorem dX9_begins_19 : decode cX9_begins 19 = .ok (.aload_n 0, 1) := by decide +kernel
theorem dX9_begins_20 : decode cX9_begins 20 = .ok (.dup, 1) := by decide +kernel
theorem dX9_begins_21 : decode cX9_begins 21 = .ok (.getfield 246, 3) := by decide +kernel
theorem dX9_begins_24 : decode cX9_begins 24 = .ok (.iconst 1, 1) := by decide +kernel
theorem dX9_begins_25 : decode cX9_begins 25 = .ok (.iadd, 1) := by decide +kernel
theorem dX9_begins_26 : decode cX9_begins 26 = .ok (.putfield 246, 3) := by decide +kernel
theorem dX9_begins_29 : decode cX9_begins 29 = .ok (.return_, 1) := by decide +kernel
theorem dX9_above_0 : decode cX9_above 0 = .ok (.iload_n 0, 1) := by decide +kernel
theorem dX9_above_1 : decode cX9_above 1 = .ok (.iconst 4, 1) := by decide +kernel
theorem dX9_above_2 : decode cX9_above 2 = .ok (.if_icmp .ne 7, 3) := by decide +kernel
theorem dX9_above_5 : decode cX9_above 5 = .ok (.iconst 1, 1) := by decide +kernel
theorem dX9_above_6 : decode cX9_above 6 = .ok (.goto 13, 3) := by decide +kernel
theorem dX9_above_9 : decode cX9_above 9 = .ok (.iload_n 0, 1) := by decide +kernel
theorem dX9_above_10 : decode cX9_above 10 = .ok (.iconst 5, 1) := by decide +kernel
theorem dX9_above_11 : decode cX9_above 11 = .ok (.if_icmp .ne 7, 3) := by decide +kernel
theorem dX9_above_14 : decode cX9_above 14 = .ok (.iconst 2, 1) := by decide +kernel
theorem dX9_above_15 : decode cX9_above 15 = .ok (.goto 4, 3) := by decide +kernel
theorem dX9_above_18 : decode cX9_above 18 = .ok (.iconst 0, 1) := by decide +kernel
theorem dX9_above_19 : decode cX9_above 19 = .ok (.ireturn, 1) := by decide +kernel
theorem dX9_kindNow_0 : decode cX9_kindNow 0 = .ok (.aload_n 0, 1) := by decide +kernel
theorem dX9_kindNow_1 : decode cX9_kindNow 1 = .ok (.aload_n 0, 1) := by decide +kernel
theorem dX9_kindNow_2 : decode cX9_kindNow 2 = .ok (.getfield 249, 3) := by decide +kernel
theorem dX9_kindNow_5 : decode cX9_kindNow 5 = .ok (.iconst 0, 1) := by decide +kernel
theorem dX9_kindNow_6 : decode cX9_kindNow 6 = .ok (.invokevirtual 123, 3) := by decide +kernel
theorem dX9_kindNow_9 : decode cX9_kindNow 9 = .ok (.ireturn, 1) := by decide +kernel
theorem dX9_mNow_0 : decode cX9_mNow 0 = .ok (.aload_n 0, 1) := by decide +kernel
theorem dX9_mNow_1 : decode cX9_mNow 1 = .ok (.aload_n 0, 1) := by decide +kernel
theorem dX9_mNow_2 : decode cX9_mNow 2 = .ok (.getfield 249, 3) := by decide +kernel
theorem dX9_mNow_5 : decode cX9_mNow 5 = .ok (.iconst 1, 1) := by decide +kernel
theorem dX9_mNow_6 : decode cX9_mNow 6 = .ok (.invokevirtual 123, 3) := by decide +kernel
theorem dX9_mNow_9 : decode cX9_mNow 9 = .ok (.ireturn, 1) := by decide +kernel
theorem dX9_rowsAs_0 : decode cX9_rowsAs 0 = .ok (.iload_n 1, 1) := by decide +kernel
theorem dX9_rowsAs_1 : decode cX9_rowsAs 1 = .ok (.tableswitch 100 0 6 #[43, 56, 100, 100, 74, 100, 92], 43) := by decide +kernel
theorem dX9_rowsAs_44 : decode cX9_rowsAs 44 = .ok (.aload_n 0, 1) := by decide +kernel
theorem dX9_rowsAs_45 : decode cX9_rowsAs 45 = .ok (.bipush 10, 2) := by decide +kernel
theorem dX9_rowsAs_47 : decode cX9_rowsAs 47 = .ok (.invokevirtual 252, 3) := by decide +kernel
theorem dX9_rowsAs_50 : decode cX9_rowsAs 50 = .ok (.iload_n 2, 1) := by decide +kernel
theorem dX9_rowsAs_51 : decode cX9_rowsAs 51 = .ok (.aload_n 0, 1) := by decide +kernel
theorem dX9_rowsAs_52 : decode cX9_rowsAs 52 = .ok (.getfield 249, 3) := by decide +kernel
theorem dX9_rowsAs_55 : decode cX9_rowsAs 55 = .ok (.iadd, 1) := by decide +kernel
theorem dX9_rowsAs_56 : decode cX9_rowsAs 56 = .ok (.ireturn, 1) := by decide +kernel
theorem dX9_rowsAs_57 : decode cX9_rowsAs 57 = .ok (.aload_n 0, 1) := by decide +kernel
theorem dX9_rowsAs_58 : decode cX9_rowsAs 58 = .ok (.bipush 20, 2) := by decide +kernel
theorem dX9_rowsAs_60 : decode cX9_rowsAs 60 = .ok (.invokevirtual 252, 3) := by decide +kernel
theorem dX9_rowsAs_63 : decode cX9_rowsAs 63 = .ok (.aload_n 0, 1) := by decide +kernel
theorem dX9_rowsAs_64 : decode cX9_rowsAs 64 = .ok (.iconst 1, 1) := by decide +kernel
theorem dX9_rowsAs_65 : decode cX9_rowsAs 65 = .ok (.invokestatic 255, 3) := by decide +kernel
theorem dX9_rowsAs_68 : decode cX9_rowsAs 68 = .ok (.iload_n 2, 1) := by decide +kernel
theorem dX9_rowsAs_69 : decode cX9_rowsAs 69 = .ok (.invokevirtual 258, 3) := by decide +kernel
theorem dX9_rowsAs_72 : decode cX9_rowsAs 72 = .ok (.iconst 5, 1) := by decide +kernel
theorem dX9_rowsAs_73 : decode cX9_rowsAs 73 = .ok (.isub, 1) := by decide +kernel
theorem dX9_rowsAs_74 : decode cX9_rowsAs 74 = .ok (.ireturn, 1) := by decide +kernel
theorem dX9_rowsAs_75 : decode cX9_rowsAs 75 = .ok (.aload_n 0, 1) := by decide +kernel
theorem dX9_rowsAs_76 : decode cX9_rowsAs 76 = .ok (.bipush 50, 2) := by decide +kernel
theorem dX9_rowsAs_78 : decode cX9_rowsAs 78 = .ok (.invokevirtual 252, 3) := by decide +kernel
theorem dX9_rowsAs_81 : decode cX9_rowsAs 81 = .ok (.aload_n 0, 1) := by decide +kernel
theorem dX9_rowsAs_82 : decode cX9_rowsAs 82 = .ok (.iconst 4, 1) := by decide +kernel
theorem dX9_rowsAs_83 : decode cX9_rowsAs 83 = .ok (.invokestatic 255, 3) := by decide +kernel
theorem dX9_rowsAs_86 : decode cX9_rowsAs 86 = .ok (.iload_n 2, 1) := by decide +kernel
theorem dX9_rowsAs_87 : decode cX9_rowsAs 87 = .ok (.invokevirtual 258, 3) := by decide +kernel
theorem dX9_rowsAs_90 : decode cX9_rowsAs 90 = .ok (.iconst 3, 1) := by decide +kernel
theorem dX9_rowsAs_91 : decode cX9_rowsAs 91 = .ok (.imul, 1) := by decide +kernel
theorem dX9_rowsAs_92 : decode cX9_rowsAs 92 = .ok (.ireturn, 1) := by decide +kernel
theorem dX9_rowsAs_93 : decode cX9_rowsAs 93 = .ok (.aload_n 0, 1) := by decide +kernel
theorem dX9_rowsAs_94 : decode cX9_rowsAs 94 = .ok (.bipush 70, 2) := by decide +kernel
theorem dX9_rowsAs_96 : decode cX9_rowsAs 96 = .ok (.invokevirtual 252, 3) := by decide +kernel
theorem dX9_rowsAs_99 : decode cX9_rowsAs 99 = .ok (.iconst 3, 1) := by decide +kernel
theorem dX9_rowsAs_100 : decode cX9_rowsAs 100 = .ok (.ireturn, 1) := by decide +kernel
theorem dX9_rowsAs_101 : decode cX9_rowsAs 101 = .ok (.aload_n 0, 1) := by decide +kernel
theorem dX9_rowsAs_102 : decode cX9_rowsAs 102 = .ok (.iload_n 1, 1) := by decide +kernel
theorem dX9_rowsAs_103 : decode cX9_rowsAs 103 = .ok (.invokestatic 255, 3) := by decide +kernel
theorem dX9_rowsAs_106 : decode cX9_rowsAs 106 = .ok (.iload_n 2, 1) := by decide +kernel
theorem dX9_rowsAs_107 : decode cX9_rowsAs 107 = .ok (.invokevirtual 258, 3) := by decide +kernel
theorem dX9_rowsAs_110 : decode cX9_rowsAs 110 = .ok (.ireturn, 1) := by decide +kernel
theorem dX9_keepsAs_0 : decode cX9_keepsAs 0 = .ok (.iload_n 1, 1) := by decide +kernel
theorem dX9_keepsAs_1 : decode cX9_keepsAs 1 = .ok (.tableswitch 119 0 6 #[43, 119, 61, 119, 119, 79, 97], 43) := by decide +kernel
theorem dX9_keepsAs_44 : decode cX9_keepsAs 44 = .ok (.aload_n 0, 1) := by decide +kernel
theorem dX9_keepsAs_45 : decode cX9_keepsAs 45 = .ok (.bipush 11, 2) := by decide +kernel
theorem dX9_keepsAs_47 : decode cX9_keepsAs 47 = .ok (.invokevirtual 252, 3) := by decide +kernel
theorem dX9_keepsAs_50 : decode cX9_keepsAs 50 = .ok (.aload_n 0, 1) := by decide +kernel
theorem dX9_keepsAs_51 : decode cX9_keepsAs 51 = .ok (.aload_n 0, 1) := by decide +kernel
theorem dX9_keepsAs_52 : decode cX9_keepsAs 52 = .ok (.invokevirtual 261, 3) := by decide +kernel
theorem dX9_keepsAs_55 : decode cX9_keepsAs 55 = .ok (.iload_n 2, 1) := by decide +kernel
theorem dX9_keepsAs_56 : decode cX9_keepsAs 56 = .ok (.invokevirtual 258, 3) := by decide +kernel
theorem dX9_keepsAs_59 : decode cX9_keepsAs 59 = .ok (.iconst 2, 1) := by decide +kernel
theorem dX9_keepsAs_60 : decode cX9_keepsAs 60 = .ok (.imul, 1) := by decide +kernel
theorem dX9_keepsAs_61 : decode cX9_keepsAs 61 = .ok (.ireturn, 1) := by decide +kernel
theorem dX9_keepsAs_62 : decode cX9_keepsAs 62 = .ok (.aload_n 0, 1) := by decide +kernel
theorem dX9_keepsAs_63 : decode cX9_keepsAs 63 = .ok (.bipush 30, 2) := by decide +kernel
theorem dX9_keepsAs_65 : decode cX9_keepsAs 65 = .ok (.invokevirtual 252, 3) := by decide +kernel
theorem dX9_keepsAs_68 : decode cX9_keepsAs 68 = .ok (.iconst 0, 1) := by decide +kernel
theorem dX9_keepsAs_69 : decode cX9_keepsAs 69 = .ok (.aload_n 0, 1) := by decide +kernel
theorem dX9_keepsAs_70 : decode cX9_keepsAs 70 = .ok (.iconst 2, 1) := by decide +kernel
theorem dX9_keepsAs_71 : decode cX9_keepsAs 71 = .ok (.invokestatic 255, 3) := by decide +kernel
theorem dX9_keepsAs_74 : decode cX9_keepsAs 74 = .ok (.iload_n 2, 1) := by decide +kernel
theorem dX9_keepsAs_75 : decode cX9_keepsAs 75 = .ok (.invokevirtual 264, 3) := by decide +kernel
theorem dX9_keepsAs_78 : decode cX9_keepsAs 78 = .ok (.isub, 1) := by decide +kernel
theorem dX9_keepsAs_79 : decode cX9_keepsAs 79 = .ok (.ireturn, 1) := by decide +kernel
theorem dX9_keepsAs_80 : decode cX9_keepsAs 80 = .ok (.aload_n 0, 1) := by decide +kernel
theorem dX9_keepsAs_81 : decode cX9_keepsAs 81 = .ok (.bipush 60, 2) := by decide +kernel
theorem dX9_keepsAs_83 : decode cX9_keepsAs 83 = .ok (.invokevirtual 252, 3) := by decide +kernel
theorem dX9_keepsAs_86 : decode cX9_keepsAs 86 = .ok (.aload_n 0, 1) := by decide +kernel
theorem dX9_keepsAs_87 : decode cX9_keepsAs 87 = .ok (.iconst 5, 1) := by decide +kernel
theorem dX9_keepsAs_88 : decode cX9_keepsAs 88 = .ok (.invokestatic 255, 3) := by decide +kernel
theorem dX9_keepsAs_91 : decode cX9_keepsAs 91 = .ok (.iload_n 2, 1) := by decide +kernel
theorem dX9_keepsAs_92 : decode cX9_keepsAs 92 = .ok (.iconst 1, 1) := by decide +kernel
theorem dX9_keepsAs_93 : decode cX9_keepsAs 93 = .ok (.iadd, 1) := by decide +kernel
theorem dX9_keepsAs_94 : decode cX9_keepsAs 94 = .ok (.invokevirtual 264, 3) := by decide +kernel
theorem dX9_keepsAs_97 : decode cX9_keepsAs 97 = .ok (.ireturn, 1) := by decide +kernel
theorem dX9_keepsAs_98 : decode cX9_keepsAs 98 = .ok (.aload_n 0, 1) := by decide +kernel
theorem dX9_keepsAs_99 : decode cX9_keepsAs 99 = .ok (.bipush 71, 2) := by decide +kernel
theorem dX9_keepsAs_101 : decode cX9_keepsAs 101 = .ok (.invokevirtual 252, 3) := by decide +kernel
theorem dX9_keepsAs_104 : decode cX9_keepsAs 104 = .ok (.aload_n 0, 1) := by decide +kernel
theorem dX9_keepsAs_105 : decode cX9_keepsAs 105 = .ok (.bipush 6, 2) := by decide +kernel
theorem dX9_keepsAs_107 : decode cX9_keepsAs 107 = .ok (.invokestatic 255, 3) := by decide +kernel
theorem dX9_keepsAs_110 : decode cX9_keepsAs 110 = .ok (.iload_n 2, 1) := by decide +kernel
theorem dX9_keepsAs_111 : decode cX9_keepsAs 111 = .ok (.invokevirtual 264, 3) := by decide +kernel
theorem dX9_keepsAs_114 : decode cX9_keepsAs 114 = .ok (.aload_n 0, 1) := by decide +kernel
theorem dX9_keepsAs_115 : decode cX9_keepsAs 115 = .ok (.invokevirtual 267, 3) := by decide +kernel
theorem dX9_keepsAs_118 : decode cX9_keepsAs 118 = .ok (.iadd, 1) := by decide +kernel
theorem dX9_keepsAs_119 : decode cX9_keepsAs 119 = .ok (.ireturn, 1) := by decide +kernel
theorem dX9_keepsAs_120 : decode cX9_keepsAs 120 = .ok (.aload_n 0, 1) := by decide +kernel
theorem dX9_keepsAs_121 : decode cX9_keepsAs 121 = .ok (.iload_n 1, 1) := by decide +kernel
theorem dX9_keepsAs_122 : decode cX9_keepsAs 122 = .ok (.invokestatic 255, 3) := by decide +kernel
theorem dX9_keepsAs_125 : decode cX9_keepsAs 125 = .ok (.iload_n 2, 1) := by decide +kernel
theorem dX9_keepsAs_126 : decode cX9_keepsAs 126 = .ok (.invokevirtual 264, 3) := by decide +kernel
theorem dX9_keepsAs_129 : decode cX9_keepsAs 129 = .ok (.ireturn, 1) := by decide +kernel
theorem dX9_asksAs_0 : decode cX9_asksAs 0 = .ok (.iload_n 1, 1) := by decide +kernel
theorem dX9_asksAs_1 : decode cX9_asksAs 1 = .ok (.tableswitch 95 0 4 #[35, 95, 95, 56, 74], 35) := by decide +kernel
theorem dX9_asksAs_36 : decode cX9_asksAs 36 = .ok (.aload_n 0, 1) := by decide +kernel
theorem dX9_asksAs_37 : decode cX9_asksAs 37 = .ok (.bipush 12, 2) := by decide +kernel
theorem dX9_asksAs_39 : decode cX9_asksAs 39 = .ok (.invokevirtual 252, 3) := by decide +kernel
theorem dX9_asksAs_42 : decode cX9_asksAs 42 = .ok (.aload_n 0, 1) := by decide +kernel
theorem dX9_asksAs_43 : decode cX9_asksAs 43 = .ok (.aload_n 0, 1) := by decide +kernel
theorem dX9_asksAs_44 : decode cX9_asksAs 44 = .ok (.invokevirtual 261, 3) := by decide +kernel
theorem dX9_asksAs_47 : decode cX9_asksAs 47 = .ok (.iload_n 2, 1) := by decide +kernel
theorem dX9_asksAs_48 : decode cX9_asksAs 48 = .ok (.invokevirtual 264, 3) := by decide +kernel
theorem dX9_asksAs_51 : decode cX9_asksAs 51 = .ok (.aload_n 0, 1) := by decide +kernel
theorem dX9_asksAs_52 : decode cX9_asksAs 52 = .ok (.invokevirtual 267, 3) := by decide +kernel
theorem dX9_asksAs_55 : decode cX9_asksAs 55 = .ok (.isub, 1) := by decide +kernel
theorem dX9_asksAs_56 : decode cX9_asksAs 56 = .ok (.ireturn, 1) := by decide +kernel
theorem dX9_asksAs_57 : decode cX9_asksAs 57 = .ok (.aload_n 0, 1) := by decide +kernel
theorem dX9_asksAs_58 : decode cX9_asksAs 58 = .ok (.bipush 40, 2) := by decide +kernel
theorem dX9_asksAs_60 : decode cX9_asksAs 60 = .ok (.invokevirtual 252, 3) := by decide +kernel
theorem dX9_asksAs_63 : decode cX9_asksAs 63 = .ok (.aload_n 0, 1) := by decide +kernel
theorem dX9_asksAs_64 : decode cX9_asksAs 64 = .ok (.iconst 3, 1) := by decide +kernel
theorem dX9_asksAs_65 : decode cX9_asksAs 65 = .ok (.invokestatic 255, 3) := by decide +kernel
theorem dX9_asksAs_68 : decode cX9_asksAs 68 = .ok (.iload_n 2, 1) := by decide +kernel
theorem dX9_asksAs_69 : decode cX9_asksAs 69 = .ok (.iconst 2, 1) := by decide +kernel
theorem dX9_asksAs_70 : decode cX9_asksAs 70 = .ok (.idiv, 1) := by decide +kernel
theorem dX9_asksAs_71 : decode cX9_asksAs 71 = .ok (.invokevirtual 270, 3) := by decide +kernel
theorem dX9_asksAs_74 : decode cX9_asksAs 74 = .ok (.ireturn, 1) := by decide +kernel
theorem dX9_asksAs_75 : decode cX9_asksAs 75 = .ok (.aload_n 0, 1) := by decide +kernel
theorem dX9_asksAs_76 : decode cX9_asksAs 76 = .ok (.bipush 51, 2) := by decide +kernel
theorem dX9_asksAs_78 : decode cX9_asksAs 78 = .ok (.invokevirtual 252, 3) := by decide +kernel
theorem dX9_asksAs_81 : decode cX9_asksAs 81 = .ok (.aload_n 0, 1) := by decide +kernel
theorem dX9_asksAs_82 : decode cX9_asksAs 82 = .ok (.iconst 4, 1) := by decide +kernel
theorem dX9_asksAs_83 : decode cX9_asksAs 83 = .ok (.invokestatic 255, 3) := by decide +kernel
theorem dX9_asksAs_86 : decode cX9_asksAs 86 = .ok (.iload_n 2, 1) := by decide +kernel
theorem dX9_asksAs_87 : decode cX9_asksAs 87 = .ok (.invokevirtual 270, 3) := by decide +kernel
theorem dX9_asksAs_90 : decode cX9_asksAs 90 = .ok (.aload_n 0, 1) := by decide +kernel
theorem dX9_asksAs_91 : decode cX9_asksAs 91 = .ok (.getfield 249, 3) := by decide +kernel
theorem dX9_asksAs_94 : decode cX9_asksAs 94 = .ok (.ixor, 1) := by decide +kernel
theorem dX9_asksAs_95 : decode cX9_asksAs 95 = .ok (.ireturn, 1) := by decide +kernel
theorem dX9_asksAs_96 : decode cX9_asksAs 96 = .ok (.aload_n 0, 1) := by decide +kernel
theorem dX9_asksAs_97 : decode cX9_asksAs 97 = .ok (.iload_n 1, 1) := by decide +kernel
theorem dX9_asksAs_98 : decode cX9_asksAs 98 = .ok (.invokestatic 255, 3) := by decide +kernel
theorem dX9_asksAs_101 : decode cX9_asksAs 101 = .ok (.iload_n 2, 1) := by decide +kernel
theorem dX9_asksAs_102 : decode cX9_asksAs 102 = .ok (.invokevirtual 270, 3) := by decide +kernel
theorem dX9_asksAs_105 : decode cX9_asksAs 105 = .ok (.ireturn, 1) := by decide +kernel
theorem dX9_partsAs_0 : decode cX9_partsAs 0 = .ok (.iload_n 1, 1) := by decide +kernel
theorem dX9_partsAs_1 : decode cX9_partsAs 1 = .ok (.lookupswitch 119 #[(0, 27), (1, 78)], 27) := by decide +kernel
theorem dX9_partsAs_28 : decode cX9_partsAs 28 = .ok (.aload_n 0, 1) := by decide +kernel
theorem dX9_partsAs_29 : decode cX9_partsAs 29 = .ok (.bipush 13, 2) := by decide +kernel
theorem dX9_partsAs_31 : decode cX9_partsAs 31 = .ok (.invokevirtual 252, 3) := by decide +kernel
theorem dX9_partsAs_34 : decode cX9_partsAs 34 = .ok (.aload_n 0, 1) := by decide +kernel
theorem dX9_partsAs_35 : decode cX9_partsAs 35 = .ok (.invokevirtual 267, 3) := by decide +kernel
theorem dX9_partsAs_38 : decode cX9_partsAs 38 = .ok (.aload_n 0, 1) := by decide +kernel
theorem dX9_partsAs_39 : decode cX9_partsAs 39 = .ok (.getfield 249, 3) := by decide +kernel
theorem dX9_partsAs_42 : decode cX9_partsAs 42 = .ok (.isub, 1) := by decide +kernel
theorem dX9_partsAs_43 : decode cX9_partsAs 43 = .ok (.istore_n 3, 1) := by decide +kernel
theorem dX9_partsAs_44 : decode cX9_partsAs 44 = .ok (.aload_n 0, 1) := by decide +kernel
theorem dX9_partsAs_45 : decode cX9_partsAs 45 = .ok (.iload_n 3, 1) := by decide +kernel
theorem dX9_partsAs_46 : decode cX9_partsAs 46 = .ok (.ifCond .ne 7, 3) := by decide +kernel
theorem dX9_partsAs_49 : decode cX9_partsAs 49 = .ok (.iconst 1, 1) := by decide +kernel
theorem dX9_partsAs_50 : decode cX9_partsAs 50 = .ok (.goto 4, 3) := by decide +kernel
theorem dX9_partsAs_53 : decode cX9_partsAs 53 = .ok (.iconst 0, 1) := by decide +kernel
theorem dX9_partsAs_54 : decode cX9_partsAs 54 = .ok (.putfield 273, 3) := by decide +kernel
theorem dX9_partsAs_57 : decode cX9_partsAs 57 = .ok (.iload_n 3, 1) := by decide +kernel
theorem dX9_partsAs_58 : decode cX9_partsAs 58 = .ok (.ifCond .ne 7, 3) := by decide +kernel
theorem dX9_partsAs_61 : decode cX9_partsAs 61 = .ok (.iconst 0, 1) := by decide +kernel
theorem dX9_partsAs_62 : decode cX9_partsAs 62 = .ok (.goto 16, 3) := by decide +kernel
theorem dX9_partsAs_65 : decode cX9_partsAs 65 = .ok (.iload_n 3, 1) := by decide +kernel
theorem dX9_partsAs_66 : decode cX9_partsAs 66 = .ok (.iconst (-1), 1) := by decide +kernel
theorem dX9_partsAs_67 : decode cX9_partsAs 67 = .ok (.if_icmp .ne 8, 3) := by decide +kernel
theorem dX9_partsAs_70 : decode cX9_partsAs 70 = .ok (.iload_n 2, 1) := by decide +kernel
theorem dX9_partsAs_71 : decode cX9_partsAs 71 = .ok (.ineg, 1) := by decide +kernel
theorem dX9_partsAs_72 : decode cX9_partsAs 72 = .ok (.goto 6, 3) := by decide +kernel
theorem dX9_partsAs_75 : decode cX9_partsAs 75 = .ok (.iload_n 2, 1) := by decide +kernel
theorem dX9_partsAs_76 : decode cX9_partsAs 76 = .ok (.iload_n 3, 1) := by decide +kernel
theorem dX9_partsAs_77 : decode cX9_partsAs 77 = .ok (.idiv, 1) := by decide +kernel
theorem dX9_partsAs_78 : decode cX9_partsAs 78 = .ok (.ireturn, 1) := by decide +kernel
theorem dX9_partsAs_79 : decode cX9_partsAs 79 = .ok (.aload_n 0, 1) := by decide +kernel
theorem dX9_partsAs_80 : decode cX9_partsAs 80 = .ok (.bipush 21, 2) := by decide +kernel
theorem dX9_partsAs_82 : decode cX9_partsAs 82 = .ok (.invokevirtual 252, 3) := by decide +kernel
theorem dX9_partsAs_85 : decode cX9_partsAs 85 = .ok (.aload_n 0, 1) := by decide +kernel
theorem dX9_partsAs_86 : decode cX9_partsAs 86 = .ok (.iconst 1, 1) := by decide +kernel
theorem dX9_partsAs_87 : decode cX9_partsAs 87 = .ok (.invokestatic 255, 3) := by decide +kernel
theorem dX9_partsAs_90 : decode cX9_partsAs 90 = .ok (.iload_n 2, 1) := by decide +kernel
theorem dX9_partsAs_91 : decode cX9_partsAs 91 = .ok (.invokevirtual 277, 3) := by decide +kernel
theorem dX9_partsAs_94 : decode cX9_partsAs 94 = .ok (.istore 4, 2) := by decide +kernel
theorem dX9_partsAs_96 : decode cX9_partsAs 96 = .ok (.aload_n 0, 1) := by decide +kernel
theorem dX9_partsAs_97 : decode cX9_partsAs 97 = .ok (.getfield 273, 3) := by decide +kernel
theorem dX9_partsAs_100 : decode cX9_partsAs 100 = .ok (.ifCond .eq 7, 3) := by decide +kernel
theorem dX9_partsAs_103 : decode cX9_partsAs 103 = .ok (.iconst 0, 1) := by decide +kernel
theorem dX9_partsAs_104 : decode cX9_partsAs 104 = .ok (.goto 15, 3) := by decide +kernel
theorem dX9_partsAs_107 : decode cX9_partsAs 107 = .ok (.iload 4, 2) := by decide +kernel
theorem dX9_partsAs_109 : decode cX9_partsAs 109 = .ok (.aload_n 0, 1) := by decide +kernel
theorem dX9_partsAs_110 : decode cX9_partsAs 110 = .ok (.aload_n 0, 1) := by decide +kernel
theorem dX9_partsAs_111 : decode cX9_partsAs 111 = .ok (.invokevirtual 261, 3) := by decide +kernel
theorem dX9_partsAs_114 : decode cX9_partsAs 114 = .ok (.iconst 1, 1) := by decide +kernel
theorem dX9_partsAs_115 : decode cX9_partsAs 115 = .ok (.invokevirtual 264, 3) := by decide +kernel
theorem dX9_partsAs_118 : decode cX9_partsAs 118 = .ok (.iadd, 1) := by decide +kernel
theorem dX9_partsAs_119 : decode cX9_partsAs 119 = .ok (.ireturn, 1) := by decide +kernel
theorem dX9_partsAs_120 : decode cX9_partsAs 120 = .ok (.aload_n 0, 1) := by decide +kernel
theorem dX9_partsAs_121 : decode cX9_partsAs 121 = .ok (.iload_n 1, 1) := by decide +kernel
theorem dX9_partsAs_122 : decode cX9_partsAs 122 = .ok (.invokestatic 255, 3) := by decide +kernel
theorem dX9_partsAs_125 : decode cX9_partsAs 125 = .ok (.iload_n 2, 1) := by decide +kernel
theorem dX9_partsAs_126 : decode cX9_partsAs 126 = .ok (.invokevirtual 277, 3) := by decide +kernel
theorem dX9_partsAs_129 : decode cX9_partsAs 129 = .ok (.ireturn, 1) := by decide +kernel
theorem dX9_voice_0 : decode cX9_voice 0 = .ok (.aload_n 0, 1) := by decide +kernel
theorem dX9_voice_1 : decode cX9_voice 1 = .ok (.iload_n 1, 1) := by decide +kernel
theorem dX9_voice_2 : decode cX9_voice 2 = .ok (.invokevirtual 168, 3) := by decide +kernel
theorem dX9_voice_5 : decode cX9_voice 5 = .ok (.ifCond .eq 12, 3) := by decide +kernel
theorem dX9_voice_8 : decode cX9_voice 8 = .ok (.iload_n 2, 1) := by decide +kernel
theorem dX9_voice_9 : decode cX9_voice 9 = .ok (.iconst 0, 1) := by decide +kernel
theorem dX9_voice_10 : decode cX9_voice 10 = .ok (.iconst 3, 1) := by decide +kernel
theorem dX9_voice_11 : decode cX9_voice 11 = .ok (.invokestatic 59, 3) := by decide +kernel
theorem dX9_voice_14 : decode cX9_voice 14 = .ok (.ifCond .ne 9, 3) := by decide +kernel
theorem dX9_voice_17 : decode cX9_voice 17 = .ok (.aload_n 0, 1) := by decide +kernel
theorem dX9_voice_18 : decode cX9_voice 18 = .ok (.iconst 1, 1) := by decide +kernel
theorem dX9_voice_19 : decode cX9_voice 19 = .ok (.invokevirtual 63, 3) := by decide +kernel
theorem dX9_voice_22 : decode cX9_voice 22 = .ok (.ireturn, 1) := by decide +kernel
theorem dX9_voice_23 : decode cX9_voice 23 = .ok (.aload_n 0, 1) := by decide +kernel
theorem dX9_voice_24 : decode cX9_voice 24 = .ok (.iconst 0, 1) := by decide +kernel
theorem dX9_voice_25 : decode cX9_voice 25 = .ok (.putfield 246, 3) := by decide +kernel
theorem dX9_voice_28 : decode cX9_voice 28 = .ok (.aload_n 0, 1) := by decide +kernel
theorem dX9_voice_29 : decode cX9_voice 29 = .ok (.iload_n 1, 1) := by decide +kernel
theorem dX9_voice_30 : decode cX9_voice 30 = .ok (.putfield 249, 3) := by decide +kernel
theorem dX9_voice_33 : decode cX9_voice 33 = .ok (.aload_n 0, 1) := by decide +kernel
theorem dX9_voice_34 : decode cX9_voice 34 = .ok (.iconst 0, 1) := by decide +kernel
theorem dX9_voice_35 : decode cX9_voice 35 = .ok (.putfield 273, 3) := by decide +kernel
theorem dX9_voice_38 : decode cX9_voice 38 = .ok (.aload_n 0, 1) := by decide +kernel
theorem dX9_voice_39 : decode cX9_voice 39 = .ok (.invokevirtual 261, 3) := by decide +kernel
theorem dX9_voice_42 : decode cX9_voice 42 = .ok (.istore 4, 2) := by decide +kernel
theorem dX9_voice_44 : decode cX9_voice 44 = .ok (.iload_n 2, 1) := by decide +kernel
theorem dX9_voice_45 : decode cX9_voice 45 = .ok (.ifCond .ne 13, 3) := by decide +kernel
theorem dX9_voice_48 : decode cX9_voice 48 = .ok (.aload_n 0, 1) := by decide +kernel
theorem dX9_voice_49 : decode cX9_voice 49 = .ok (.iload 4, 2) := by decide +kernel
theorem dX9_voice_51 : decode cX9_voice 51 = .ok (.iload_n 3, 1) := by decide +kernel
theorem dX9_voice_52 : decode cX9_voice 52 = .ok (.invokevirtual 258, 3) := by decide +kernel
theorem dX9_voice_55 : decode cX9_voice 55 = .ok (.goto 40, 3) := by decide +kernel
theorem dX9_voice_58 : decode cX9_voice 58 = .ok (.iload_n 2, 1) := by decide +kernel
theorem dX9_voice_59 : decode cX9_voice 59 = .ok (.iconst 1, 1) := by decide +kernel
theorem dX9_voice_60 : decode cX9_voice 60 = .ok (.if_icmp .ne 13, 3) := by decide +kernel
theorem dX9_voice_63 : decode cX9_voice 63 = .ok (.aload_n 0, 1) := by decide +kernel
theorem dX9_voice_64 : decode cX9_voice 64 = .ok (.iload 4, 2) := by decide +kernel
theorem dX9_voice_66 : decode cX9_voice 66 = .ok (.iload_n 3, 1) := by decide +kernel
theorem dX9_voice_67 : decode cX9_voice 67 = .ok (.invokevirtual 264, 3) := by decide +kernel
theorem dX9_voice_70 : decode cX9_voice 70 = .ok (.goto 25, 3) := by decide +kernel
theorem dX9_voice_73 : decode cX9_voice 73 = .ok (.iload_n 2, 1) := by decide +kernel
theorem dX9_voice_74 : decode cX9_voice 74 = .ok (.iconst 2, 1) := by decide +kernel
theorem dX9_voice_75 : decode cX9_voice 75 = .ok (.if_icmp .ne 13, 3) := by decide +kernel
theorem dX9_voice_78 : decode cX9_voice 78 = .ok (.aload_n 0, 1) := by decide +kernel
theorem dX9_voice_79 : decode cX9_voice 79 = .ok (.iload 4, 2) := by decide +kernel
theorem dX9_voice_81 : decode cX9_voice 81 = .ok (.iload_n 3, 1) := by decide +kernel
theorem dX9_voice_82 : decode cX9_voice 82 = .ok (.invokevirtual 270, 3) := by decide +kernel
theorem dX9_voice_85 : decode cX9_voice 85 = .ok (.goto 10, 3) := by decide +kernel
theorem dX9_voice_88 : decode cX9_voice 88 = .ok (.aload_n 0, 1) := by decide +kernel
theorem dX9_voice_89 : decode cX9_voice 89 = .ok (.iload 4, 2) := by decide +kernel
theorem dX9_voice_91 : decode cX9_voice 91 = .ok (.iload_n 3, 1) := by decide +kernel
theorem dX9_voice_92 : decode cX9_voice 92 = .ok (.invokevirtual 277, 3) := by decide +kernel
theorem dX9_voice_95 : decode cX9_voice 95 = .ok (.istore 5, 2) := by decide +kernel
theorem dX9_voice_97 : decode cX9_voice 97 = .ok (.aload_n 0, 1) := by decide +kernel
theorem dX9_voice_98 : decode cX9_voice 98 = .ok (.getfield 273, 3) := by decide +kernel
theorem dX9_voice_101 : decode cX9_voice 101 = .ok (.ifCond .eq 12, 3) := by decide +kernel
theorem dX9_voice_104 : decode cX9_voice 104 = .ok (.aload_n 0, 1) := by decide +kernel
theorem dX9_voice_105 : decode cX9_voice 105 = .ok (.bipush 6, 2) := by decide +kernel
theorem dX9_voice_107 : decode cX9_voice 107 = .ok (.invokevirtual 63, 3) := by decide +kernel
theorem dX9_voice_110 : decode cX9_voice 110 = .ok (.goto 5, 3) := by decide +kernel
theorem dX9_voice_113 : decode cX9_voice 113 = .ok (.iload 5, 2) := by decide +kernel
theorem dX9_voice_115 : decode cX9_voice 115 = .ok (.ireturn, 1) := by decide +kernel
theorem dX9_body_0 : decode cX9_body 0 = .ok (.iload_n 1, 1) := by decide +kernel
theorem dX9_body_1 : decode cX9_body 1 = .ok (.iconst 0, 1) := by decide +kernel
theorem dX9_body_2 : decode cX9_body 2 = .ok (.aload_n 0, 1) := by decide +kernel
theorem dX9_body_3 : decode cX9_body 3 = .ok (.getfield 246, 3) := by decide +kernel
theorem dX9_body_6 : decode cX9_body 6 = .ok (.iconst 1, 1) := by decide +kernel
theorem dX9_body_7 : decode cX9_body 7 = .ok (.isub, 1) := by decide +kernel
theorem dX9_body_8 : decode cX9_body 8 = .ok (.invokestatic 59, 3) := by decide +kernel
theorem dX9_body_11 : decode cX9_body 11 = .ok (.ifCond .eq 12, 3) := by decide +kernel
theorem dX9_body_14 : decode cX9_body 14 = .ok (.aload_n 0, 1) := by decide +kernel
theorem dX9_body_15 : decode cX9_body 15 = .ok (.getfield 43, 3) := by decide +kernel
theorem dX9_body_18 : decode cX9_body 18 = .ok (.iload_n 1, 1) := by decide +kernel
theorem dX9_body_19 : decode cX9_body 19 = .ok (.iaload, 1) := by decide +kernel
theorem dX9_body_20 : decode cX9_body 20 = .ok (.goto 8, 3) := by decide +kernel
theorem dX9_body_23 : decode cX9_body 23 = .ok (.aload_n 0, 1) := by decide +kernel
theorem dX9_body_24 : decode cX9_body 24 = .ok (.iconst 2, 1) := by decide +kernel
theorem dX9_body_25 : decode cX9_body 25 = .ok (.invokevirtual 63, 3) := by decide +kernel
theorem dX9_body_28 : decode cX9_body 28 = .ok (.ireturn, 1) := by decide +kernel
theorem dX9_isSheet_0 : decode cX9_isSheet 0 = .ok (.iload_n 0, 1) := by decide +kernel
theorem dX9_isSheet_1 : decode cX9_isSheet 1 = .ok (.iconst 0, 1) := by decide +kernel
theorem dX9_isSheet_2 : decode cX9_isSheet 2 = .ok (.iconst 3, 1) := by decide +kernel
theorem dX9_isSheet_3 : decode cX9_isSheet 3 = .ok (.invokestatic 59, 3) := by decide +kernel
theorem dX9_isSheet_6 : decode cX9_isSheet 6 = .ok (.ireturn, 1) := by decide +kernel
theorem dX9_sheet_0 : decode cX9_sheet 0 = .ok (.iload_n 1, 1) := by decide +kernel
theorem dX9_sheet_1 : decode cX9_sheet 1 = .ok (.invokestatic 280, 3) := by decide +kernel
theorem dX9_sheet_4 : decode cX9_sheet 4 = .ok (.ifCond .eq 25, 3) := by decide +kernel
theorem dX9_sheet_7 : decode cX9_sheet 7 = .ok (.iload_n 2, 1) := by decide +kernel
theorem dX9_sheet_8 : decode cX9_sheet 8 = .ok (.ifCond .eq 27, 3) := by decide +kernel
theorem dX9_sheet_11 : decode cX9_sheet 11 = .ok (.iload_n 2, 1) := by decide +kernel
theorem dX9_sheet_12 : decode cX9_sheet 12 = .ok (.bipush 8, 2) := by decide +kernel
theorem dX9_sheet_14 : decode cX9_sheet 14 = .ok (.if_icmp .eq 21, 3) := by decide +kernel
theorem dX9_sheet_17 : decode cX9_sheet 17 = .ok (.iload_n 2, 1) := by decide +kernel
theorem dX9_sheet_18 : decode cX9_sheet 18 = .ok (.bipush 16, 2) := by decide +kernel
theorem dX9_sheet_20 : decode cX9_sheet 20 = .ok (.if_icmp .eq 15, 3) := by decide +kernel
theorem dX9_sheet_23 : decode cX9_sheet 23 = .ok (.iload_n 2, 1) := by decide +kernel
theorem dX9_sheet_24 : decode cX9_sheet 24 = .ok (.bipush 32, 2) := by decide +kernel
theorem dX9_sheet_26 : decode cX9_sheet 26 = .ok (.if_icmp .eq 9, 3) := by decide +kernel
theorem dX9_sheet_29 : decode cX9_sheet 29 = .ok (.aload_n 0, 1) := by decide +kernel
theorem dX9_sheet_30 : decode cX9_sheet 30 = .ok (.iconst 1, 1) := by decide +kernel
theorem dX9_sheet_31 : decode cX9_sheet 31 = .ok (.invokevirtual 63, 3) := by decide +kernel
theorem dX9_sheet_34 : decode cX9_sheet 34 = .ok (.ireturn, 1) := by decide +kernel
theorem dX9_sheet_35 : decode cX9_sheet 35 = .ok (.iload_n 2, 1) := by decide +kernel
theorem dX9_sheet_36 : decode cX9_sheet 36 = .ok (.ifCond .eq 13, 3) := by decide +kernel
theorem dX9_sheet_39 : decode cX9_sheet 39 = .ok (.iload_n 3, 1) := by decide +kernel
theorem dX9_sheet_40 : decode cX9_sheet 40 = .ok (.ifCond .ge 9, 3) := by decide +kernel
theorem dX9_sheet_43 : decode cX9_sheet 43 = .ok (.aload_n 0, 1) := by decide +kernel
theorem dX9_sheet_44 : decode cX9_sheet 44 = .ok (.iconst 3, 1) := by decide +kernel
theorem dX9_sheet_45 : decode cX9_sheet 45 = .ok (.invokevirtual 63, 3) := by decide +kernel
theorem dX9_sheet_48 : decode cX9_sheet 48 = .ok (.ireturn, 1) := by decide +kernel
theorem dX9_sheet_49 : decode cX9_sheet 49 = .ok (.iload_n 2, 1) := by decide +kernel
theorem dX9_sheet_50 : decode cX9_sheet 50 = .ok (.ifCond .eq 15, 3) := by decide +kernel
theorem dX9_sheet_53 : decode cX9_sheet 53 = .ok (.iload_n 3, 1) := by decide +kernel
theorem dX9_sheet_54 : decode cX9_sheet 54 = .ok (.bipush 24, 2) := by decide +kernel
theorem dX9_sheet_56 : decode cX9_sheet 56 = .ok (.if_icmp .le 9, 3) := by decide +kernel
theorem dX9_sheet_59 : decode cX9_sheet 59 = .ok (.aload_n 0, 1) := by decide +kernel
theorem dX9_sheet_60 : decode cX9_sheet 60 = .ok (.iconst 1, 1) := by decide +kernel
theorem dX9_sheet_61 : decode cX9_sheet 61 = .ok (.invokevirtual 63, 3) := by decide +kernel
theorem dX9_sheet_64 : decode cX9_sheet 64 = .ok (.ireturn, 1) := by decide +kernel
theorem dX9_sheet_65 : decode cX9_sheet 65 = .ok (.aload_n 0, 1) := by decide +kernel
theorem dX9_sheet_66 : decode cX9_sheet 66 = .ok (.getfield 46, 3) := by decide +kernel
theorem dX9_sheet_69 : decode cX9_sheet 69 = .ok (.iload_n 1, 1) := by decide +kernel
theorem dX9_sheet_70 : decode cX9_sheet 70 = .ok (.iload_n 2, 1) := by decide +kernel
theorem dX9_sheet_71 : decode cX9_sheet 71 = .ok (.iastore, 1) := by decide +kernel
theorem dX9_sheet_72 : decode cX9_sheet 72 = .ok (.aload_n 0, 1) := by decide +kernel
theorem dX9_sheet_73 : decode cX9_sheet 73 = .ok (.getfield 49, 3) := by decide +kernel
theorem dX9_sheet_76 : decode cX9_sheet 76 = .ok (.iload_n 1, 1) := by decide +kernel
theorem dX9_sheet_77 : decode cX9_sheet 77 = .ok (.iload_n 2, 1) := by decide +kernel
theorem dX9_sheet_78 : decode cX9_sheet 78 = .ok (.ifCond .ne 7, 3) := by decide +kernel
theorem dX9_sheet_81 : decode cX9_sheet 81 = .ok (.iconst 0, 1) := by decide +kernel
theorem dX9_sheet_82 : decode cX9_sheet 82 = .ok (.goto 4, 3) := by decide +kernel
theorem dX9_sheet_85 : decode cX9_sheet 85 = .ok (.iload_n 3, 1) := by decide +kernel
theorem dX9_sheet_86 : decode cX9_sheet 86 = .ok (.iastore, 1) := by decide +kernel
theorem dX9_sheet_87 : decode cX9_sheet 87 = .ok (.iconst 0, 1) := by decide +kernel
theorem dX9_sheet_88 : decode cX9_sheet 88 = .ok (.istore 4, 2) := by decide +kernel
theorem dX9_sheet_90 : decode cX9_sheet 90 = .ok (.iload 4, 2) := by decide +kernel
theorem dX9_sheet_92 : decode cX9_sheet 92 = .ok (.bipush 24, 2) := by decide +kernel
theorem dX9_sheet_94 : decode cX9_sheet 94 = .ok (.if_icmp .ge 22, 3) := by decide +kernel
theorem dX9_sheet_97 : decode cX9_sheet 97 = .ok (.aload_n 0, 1) := by decide +kernel
theorem dX9_sheet_98 : decode cX9_sheet 98 = .ok (.getfield 52, 3) := by decide +kernel
theorem dX9_sheet_101 : decode cX9_sheet 101 = .ok (.bipush 24, 2) := by decide +kernel
theorem dX9_sheet_103 : decode cX9_sheet 103 = .ok (.iload_n 1, 1) := by decide +kernel
theorem dX9_sheet_104 : decode cX9_sheet 104 = .ok (.imul, 1) := by decide +kernel
theorem dX9_sheet_105 : decode cX9_sheet 105 = .ok (.iload 4, 2) := by decide +kernel
theorem dX9_sheet_107 : decode cX9_sheet 107 = .ok (.iadd, 1) := by decide +kernel
theorem dX9_sheet_108 : decode cX9_sheet 108 = .ok (.iconst 0, 1) := by decide +kernel
theorem dX9_sheet_109 : decode cX9_sheet 109 = .ok (.iastore, 1) := by decide +kernel
theorem dX9_sheet_110 : decode cX9_sheet 110 = .ok (.iinc 4 1, 3) := by decide +kernel
theorem dX9_sheet_113 : decode cX9_sheet 113 = .ok (.goto (-23), 3) := by decide +kernel
theorem dX9_sheet_116 : decode cX9_sheet 116 = .ok (.iconst 1, 1) := by decide +kernel
theorem dX9_sheet_117 : decode cX9_sheet 117 = .ok (.ireturn, 1) := by decide +kernel
theorem dX9_put_0 : decode cX9_put 0 = .ok (.iload_n 1, 1) := by decide +kernel
theorem dX9_put_1 : decode cX9_put 1 = .ok (.invokestatic 280, 3) := by decide +kernel
theorem dX9_put_4 : decode cX9_put 4 = .ok (.ifCond .ne 9, 3) := by decide +kernel
theorem dX9_put_7 : decode cX9_put 7 = .ok (.aload_n 0, 1) := by decide +kernel
theorem dX9_put_8 : decode cX9_put 8 = .ok (.iconst 1, 1) := by decide +kernel
theorem dX9_put_9 : decode cX9_put 9 = .ok (.invokevirtual 63, 3) := by decide +kernel
theorem dX9_put_12 : decode cX9_put 12 = .ok (.ireturn, 1) := by decide +kernel
theorem dX9_put_13 : decode cX9_put 13 = .ok (.aload_n 0, 1) := by decide +kernel
theorem dX9_put_14 : decode cX9_put 14 = .ok (.getfield 46, 3) := by decide +kernel
theorem dX9_put_17 : decode cX9_put 17 = .ok (.iload_n 1, 1) := by decide +kernel
theorem dX9_put_18 : decode cX9_put 18 = .ok (.iaload, 1) := by decide +kernel
theorem dX9_put_19 : decode cX9_put 19 = .ok (.ifCond .ne 9, 3) := by decide +kernel
theorem dX9_put_22 : decode cX9_put 22 = .ok (.aload_n 0, 1) := by decide +kernel
theorem dX9_put_23 : decode cX9_put 23 = .ok (.iconst 2, 1) := by decide +kernel
theorem dX9_put_24 : decode cX9_put 24 = .ok (.invokevirtual 63, 3) := by decide +kernel
theorem dX9_put_27 : decode cX9_put 27 = .ok (.ireturn, 1) := by decide +kernel
theorem dX9_put_28 : decode cX9_put 28 = .ok (.iload_n 2, 1) := by decide +kernel
theorem dX9_put_29 : decode cX9_put 29 = .ok (.iconst 0, 1) := by decide +kernel
theorem dX9_put_30 : decode cX9_put 30 = .ok (.aload_n 0, 1) := by decide +kernel
theorem dX9_put_31 : decode cX9_put 31 = .ok (.getfield 49, 3) := by decide +kernel
theorem dX9_put_34 : decode cX9_put 34 = .ok (.iload_n 1, 1) := by decide +kernel
theorem dX9_put_35 : decode cX9_put 35 = .ok (.iaload, 1) := by decide +kernel
theorem dX9_put_36 : decode cX9_put 36 = .ok (.iconst 1, 1) := by decide +kernel
theorem dX9_put_37 : decode cX9_put 37 = .ok (.isub, 1) := by decide +kernel
theorem dX9_put_38 : decode cX9_put 38 = .ok (.invokestatic 59, 3) := by decide +kernel
theorem dX9_put_41 : decode cX9_put 41 = .ok (.ifCond .ne 9, 3) := by decide +kernel
theorem dX9_put_44 : decode cX9_put 44 = .ok (.aload_n 0, 1) := by decide +kernel
theorem dX9_put_45 : decode cX9_put 45 = .ok (.iconst 1, 1) := by decide +kernel
theorem dX9_put_46 : decode cX9_put 46 = .ok (.invokevirtual 63, 3) := by decide +kernel
theorem dX9_put_49 : decode cX9_put 49 = .ok (.ireturn, 1) := by decide +kernel
theorem dX9_put_50 : decode cX9_put 50 = .ok (.bipush 32, 2) := by decide +kernel
theorem dX9_put_52 : decode cX9_put 52 = .ok (.aload_n 0, 1) := by decide +kernel
theorem dX9_put_53 : decode cX9_put 53 = .ok (.getfield 46, 3) := by decide +kernel
theorem dX9_put_56 : decode cX9_put 56 = .ok (.iload_n 1, 1) := by decide +kernel
theorem dX9_put_57 : decode cX9_put 57 = .ok (.iaload, 1) := by decide +kernel
theorem dX9_put_58 : decode cX9_put 58 = .ok (.isub, 1) := by decide +kernel
theorem dX9_put_59 : decode cX9_put 59 = .ok (.istore 4, 2) := by decide +kernel
theorem dX9_put_61 : decode cX9_put 61 = .ok (.aload_n 0, 1) := by decide +kernel
theorem dX9_put_62 : decode cX9_put 62 = .ok (.getfield 52, 3) := by decide +kernel
theorem dX9_put_65 : decode cX9_put 65 = .ok (.bipush 24, 2) := by decide +kernel
theorem dX9_put_67 : decode cX9_put 67 = .ok (.iload_n 1, 1) := by decide +kernel
theorem dX9_put_68 : decode cX9_put 68 = .ok (.imul, 1) := by decide +kernel
theorem dX9_put_69 : decode cX9_put 69 = .ok (.iload_n 2, 1) := by decide +kernel
theorem dX9_put_70 : decode cX9_put 70 = .ok (.iadd, 1) := by decide +kernel
theorem dX9_put_71 : decode cX9_put 71 = .ok (.iload_n 3, 1) := by decide +kernel
theorem dX9_put_72 : decode cX9_put 72 = .ok (.iload 4, 2) := by decide +kernel
theorem dX9_put_74 : decode cX9_put 74 = .ok (.ishl, 1) := by decide +kernel
theorem dX9_put_75 : decode cX9_put 75 = .ok (.iload 4, 2) := by decide +kernel
theorem dX9_put_77 : decode cX9_put 77 = .ok (.ishr, 1) := by decide +kernel
theorem dX9_put_78 : decode cX9_put 78 = .ok (.iastore, 1) := by decide +kernel
theorem dX9_put_79 : decode cX9_put 79 = .ok (.iconst 1, 1) := by decide +kernel
theorem dX9_put_80 : decode cX9_put 80 = .ok (.ireturn, 1) := by decide +kernel
theorem dX9_move_0 : decode cX9_move 0 = .ok (.iload_n 1, 1) := by decide +kernel
theorem dX9_move_1 : decode cX9_move 1 = .ok (.invokestatic 280, 3) := by decide +kernel
theorem dX9_move_4 : decode cX9_move 4 = .ok (.ifCond .eq 10, 3) := by decide +kernel
theorem dX9_move_7 : decode cX9_move 7 = .ok (.iload_n 3, 1) := by decide +kernel
theorem dX9_move_8 : decode cX9_move 8 = .ok (.invokestatic 280, 3) := by decide +kernel
theorem dX9_move_11 : decode cX9_move 11 = .ok (.ifCond .ne 9, 3) := by decide +kernel
theorem dX9_move_14 : decode cX9_move 14 = .ok (.aload_n 0, 1) := by decide +kernel
theorem dX9_move_15 : decode cX9_move 15 = .ok (.iconst 1, 1) := by decide +kernel
theorem dX9_move_16 : decode cX9_move 16 = .ok (.invokevirtual 63, 3) := by decide +kernel
theorem dX9_move_19 : decode cX9_move 19 = .ok (.ireturn, 1) := by decide +kernel
theorem dX9_move_20 : decode cX9_move 20 = .ok (.aload_n 0, 1) := by decide +kernel
theorem dX9_move_21 : decode cX9_move 21 = .ok (.getfield 46, 3) := by decide +kernel
theorem dX9_move_24 : decode cX9_move 24 = .ok (.iload_n 1, 1) := by decide +kernel
theorem dX9_move_25 : decode cX9_move 25 = .ok (.iaload, 1) := by decide +kernel
theorem dX9_move_26 : decode cX9_move 26 = .ok (.ifCond .eq 12, 3) := by decide +kernel
theorem dX9_move_29 : decode cX9_move 29 = .ok (.aload_n 0, 1) := by decide +kernel
theorem dX9_move_30 : decode cX9_move 30 = .ok (.getfield 46, 3) := by decide +kernel
theorem dX9_move_33 : decode cX9_move 33 = .ok (.iload_n 3, 1) := by decide +kernel
theorem dX9_move_34 : decode cX9_move 34 = .ok (.iaload, 1) := by decide +kernel
theorem dX9_move_35 : decode cX9_move 35 = .ok (.ifCond .ne 9, 3) := by decide +kernel
theorem dX9_move_38 : decode cX9_move 38 = .ok (.aload_n 0, 1) := by decide +kernel
theorem dX9_move_39 : decode cX9_move 39 = .ok (.iconst 2, 1) := by decide +kernel
theorem dX9_move_40 : decode cX9_move 40 = .ok (.invokevirtual 63, 3) := by decide +kernel
theorem dX9_move_43 : decode cX9_move 43 = .ok (.ireturn, 1) := by decide +kernel
theorem dX9_move_44 : decode cX9_move 44 = .ok (.aload_n 0, 1) := by decide +kernel
theorem dX9_move_45 : decode cX9_move 45 = .ok (.getfield 46, 3) := by decide +kernel
theorem dX9_move_48 : decode cX9_move 48 = .ok (.iload_n 1, 1) := by decide +kernel
theorem dX9_move_49 : decode cX9_move 49 = .ok (.iaload, 1) := by decide +kernel
theorem dX9_move_50 : decode cX9_move 50 = .ok (.aload_n 0, 1) := by decide +kernel
theorem dX9_move_51 : decode cX9_move 51 = .ok (.getfield 46, 3) := by decide +kernel
theorem dX9_move_54 : decode cX9_move 54 = .ok (.iload_n 3, 1) := by decide +kernel
theorem dX9_move_55 : decode cX9_move 55 = .ok (.iaload, 1) := by decide +kernel
theorem dX9_move_56 : decode cX9_move 56 = .ok (.if_icmp .eq 9, 3) := by decide +kernel
theorem dX9_move_59 : decode cX9_move 59 = .ok (.aload_n 0, 1) := by decide +kernel
theorem dX9_move_60 : decode cX9_move 60 = .ok (.iconst 5, 1) := by decide +kernel
theorem dX9_move_61 : decode cX9_move 61 = .ok (.invokevirtual 63, 3) := by decide +kernel
theorem dX9_move_64 : decode cX9_move 64 = .ok (.ireturn, 1) := by decide +kernel
theorem dX9_move_65 : decode cX9_move 65 = .ok (.iload 5, 2) := by decide +kernel
theorem dX9_move_67 : decode cX9_move 67 = .ok (.ifCond .lt 39, 3) := by decide +kernel
theorem dX9_move_70 : decode cX9_move 70 = .ok (.iload_n 2, 1) := by decide +kernel
theorem dX9_move_71 : decode cX9_move 71 = .ok (.ifCond .lt 35, 3) := by decide +kernel
theorem dX9_move_74 : decode cX9_move 74 = .ok (.iload 4, 2) := by decide +kernel
theorem dX9_move_76 : decode cX9_move 76 = .ok (.ifCond .lt 30, 3) := by decide +kernel
theorem dX9_move_79 : decode cX9_move 79 = .ok (.iload_n 2, 1) := by decide +kernel
theorem dX9_move_80 : decode cX9_move 80 = .ok (.aload_n 0, 1) := by decide +kernel
theorem dX9_move_81 : decode cX9_move 81 = .ok (.getfield 49, 3) := by decide +kernel
theorem dX9_move_84 : decode cX9_move 84 = .ok (.iload_n 1, 1) := by decide +kernel
theorem dX9_move_85 : decode cX9_move 85 = .ok (.iaload, 1) := by decide +kernel
theorem dX9_move_86 : decode cX9_move 86 = .ok (.iload 5, 2) := by decide +kernel
theorem dX9_move_88 : decode cX9_move 88 = .ok (.isub, 1) := by decide +kernel
theorem dX9_move_89 : decode cX9_move 89 = .ok (.if_icmp .gt 17, 3) := by decide +kernel
theorem dX9_move_92 : decode cX9_move 92 = .ok (.iload 4, 2) := by decide +kernel
theorem dX9_move_94 : decode cX9_move 94 = .ok (.aload_n 0, 1) := by decide +kernel
theorem dX9_move_95 : decode cX9_move 95 = .ok (.getfield 49, 3) := by decide +kernel
theorem dX9_move_98 : decode cX9_move 98 = .ok (.iload_n 3, 1) := by decide +kernel
theorem dX9_move_99 : decode cX9_move 99 = .ok (.iaload, 1) := by decide +kernel
theorem dX9_move_100 : decode cX9_move 100 = .ok (.iload 5, 2) := by decide +kernel
theorem dX9_move_102 : decode cX9_move 102 = .ok (.isub, 1) := by decide +kernel
theorem dX9_move_103 : decode cX9_move 103 = .ok (.if_icmp .le 9, 3) := by decide +kernel
theorem dX9_move_106 : decode cX9_move 106 = .ok (.aload_n 0, 1) := by decide +kernel
theorem dX9_move_107 : decode cX9_move 107 = .ok (.iconst 1, 1) := by decide +kernel
theorem dX9_move_108 : decode cX9_move 108 = .ok (.invokevirtual 63, 3) := by decide +kernel
theorem dX9_move_111 : decode cX9_move 111 = .ok (.ireturn, 1) := by decide +kernel
theorem dX9_move_112 : decode cX9_move 112 = .ok (.iconst 0, 1) := by decide +kernel
theorem dX9_move_113 : decode cX9_move 113 = .ok (.istore 6, 2) := by decide +kernel
theorem dX9_move_115 : decode cX9_move 115 = .ok (.iload 6, 2) := by decide +kernel
theorem dX9_move_117 : decode cX9_move 117 = .ok (.iload 5, 2) := by decide +kernel
theorem dX9_move_119 : decode cX9_move 119 = .ok (.if_icmp .ge 30, 3) := by decide +kernel
theorem dX9_move_122 : decode cX9_move 122 = .ok (.aload_n 0, 1) := by decide +kernel
theorem dX9_move_123 : decode cX9_move 123 = .ok (.getfield 55, 3) := by decide +kernel
theorem dX9_move_126 : decode cX9_move 126 = .ok (.iload 6, 2) := by decide +kernel
theorem dX9_move_128 : decode cX9_move 128 = .ok (.aload_n 0, 1) := by decide +kernel
theorem dX9_move_129 : decode cX9_move 129 = .ok (.getfield 52, 3) := by decide +kernel
theorem dX9_move_132 : decode cX9_move 132 = .ok (.bipush 24, 2) := by decide +kernel
theorem dX9_move_134 : decode cX9_move 134 = .ok (.iload_n 1, 1) := by decide +kernel
theorem dX9_move_135 : decode cX9_move 135 = .ok (.imul, 1) := by decide +kernel
theorem dX9_move_136 : decode cX9_move 136 = .ok (.iload_n 2, 1) := by decide +kernel
theorem dX9_move_137 : decode cX9_move 137 = .ok (.iadd, 1) := by decide +kernel
theorem dX9_move_138 : decode cX9_move 138 = .ok (.iload 6, 2) := by decide +kernel
theorem dX9_move_140 : decode cX9_move 140 = .ok (.iadd, 1) := by decide +kernel
theorem dX9_move_141 : decode cX9_move 141 = .ok (.iaload, 1) := by decide +kernel
theorem dX9_move_142 : decode cX9_move 142 = .ok (.iastore, 1) := by decide +kernel
theorem dX9_move_143 : decode cX9_move 143 = .ok (.iinc 6 1, 3) := by decide +kernel
theorem dX9_move_146 : decode cX9_move 146 = .ok (.goto (-31), 3) := by decide +kernel
theorem dX9_move_149 : decode cX9_move 149 = .ok (.iconst 0, 1) := by decide +kernel
theorem dX9_move_150 : decode cX9_move 150 = .ok (.istore 6, 2) := by decide +kernel
theorem dX9_move_152 : decode cX9_move 152 = .ok (.iload 6, 2) := by decide +kernel
theorem dX9_move_154 : decode cX9_move 154 = .ok (.iload 5, 2) := by decide +kernel
theorem dX9_move_156 : decode cX9_move 156 = .ok (.if_icmp .ge 31, 3) := by decide +kernel
theorem dX9_move_159 : decode cX9_move 159 = .ok (.aload_n 0, 1) := by decide +kernel
theorem dX9_move_160 : decode cX9_move 160 = .ok (.getfield 52, 3) := by decide +kernel
theorem dX9_move_163 : decode cX9_move 163 = .ok (.bipush 24, 2) := by decide +kernel
theorem dX9_move_165 : decode cX9_move 165 = .ok (.iload_n 3, 1) := by decide +kernel
theorem dX9_move_166 : decode cX9_move 166 = .ok (.imul, 1) := by decide +kernel
theorem dX9_move_167 : decode cX9_move 167 = .ok (.iload 4, 2) := by decide +kernel
theorem dX9_move_169 : decode cX9_move 169 = .ok (.iadd, 1) := by decide +kernel
theorem dX9_move_170 : decode cX9_move 170 = .ok (.iload 6, 2) := by decide +kernel
theorem dX9_move_172 : decode cX9_move 172 = .ok (.iadd, 1) := by decide +kernel
theorem dX9_move_173 : decode cX9_move 173 = .ok (.aload_n 0, 1) := by decide +kernel
theorem dX9_move_174 : decode cX9_move 174 = .ok (.getfield 55, 3) := by decide +kernel
theorem dX9_move_177 : decode cX9_move 177 = .ok (.iload 6, 2) := by decide +kernel
theorem dX9_move_179 : decode cX9_move 179 = .ok (.iaload, 1) := by decide +kernel
theorem dX9_move_180 : decode cX9_move 180 = .ok (.iastore, 1) := by decide +kernel
theorem dX9_move_181 : decode cX9_move 181 = .ok (.iinc 6 1, 3) := by decide +kernel
theorem dX9_move_184 : decode cX9_move 184 = .ok (.goto (-32), 3) := by decide +kernel
theorem dX9_move_187 : decode cX9_move 187 = .ok (.iload 5, 2) := by decide +kernel
theorem dX9_move_189 : decode cX9_move 189 = .ok (.ireturn, 1) := by decide +kernel
theorem dX9_lacks_0 : decode cX9_lacks 0 = .ok (.iload_n 1, 1) := by decide +kernel
theorem dX9_lacks_1 : decode cX9_lacks 1 = .ok (.invokestatic 280, 3) := by decide +kernel
theorem dX9_lacks_4 : decode cX9_lacks 4 = .ok (.ifCond .ne 7, 3) := by decide +kernel
theorem dX9_lacks_7 : decode cX9_lacks 7 = .ok (.iconst 1, 1) := by decide +kernel
theorem dX9_lacks_8 : decode cX9_lacks 8 = .ok (.goto 17, 3) := by decide +kernel
theorem dX9_lacks_11 : decode cX9_lacks 11 = .ok (.aload_n 0, 1) := by decide +kernel
theorem dX9_lacks_12 : decode cX9_lacks 12 = .ok (.getfield 46, 3) := by decide +kernel
theorem dX9_lacks_15 : decode cX9_lacks 15 = .ok (.iload_n 1, 1) := by decide +kernel
theorem dX9_lacks_16 : decode cX9_lacks 16 = .ok (.iaload, 1) := by decide +kernel
theorem dX9_lacks_17 : decode cX9_lacks 17 = .ok (.ifCond .ne 7, 3) := by decide +kernel
theorem dX9_lacks_20 : decode cX9_lacks 20 = .ok (.iconst 2, 1) := by decide +kernel
theorem dX9_lacks_21 : decode cX9_lacks 21 = .ok (.goto 4, 3) := by decide +kernel
theorem dX9_lacks_24 : decode cX9_lacks 24 = .ok (.iconst 0, 1) := by decide +kernel
theorem dX9_lacks_25 : decode cX9_lacks 25 = .ok (.ireturn, 1) := by decide +kernel
theorem dX9_crossings_0 : decode cX9_crossings 0 = .ok (.aload_n 0, 1) := by decide +kernel
theorem dX9_crossings_1 : decode cX9_crossings 1 = .ok (.iload_n 1, 1) := by decide +kernel
theorem dX9_crossings_2 : decode cX9_crossings 2 = .ok (.invokevirtual 283, 3) := by decide +kernel
theorem dX9_crossings_5 : decode cX9_crossings 5 = .ok (.istore_n 2, 1) := by decide +kernel
theorem dX9_crossings_6 : decode cX9_crossings 6 = .ok (.iload_n 2, 1) := by decide +kernel
theorem dX9_crossings_7 : decode cX9_crossings 7 = .ok (.ifCond .le 9, 3) := by decide +kernel
theorem dX9_crossings_10 : decode cX9_crossings 10 = .ok (.aload_n 0, 1) := by decide +kernel
theorem dX9_crossings_11 : decode cX9_crossings 11 = .ok (.iload_n 2, 1) := by decide +kernel
theorem dX9_crossings_12 : decode cX9_crossings 12 = .ok (.invokevirtual 63, 3) := by decide +kernel
theorem dX9_crossings_15 : decode cX9_crossings 15 = .ok (.ireturn, 1) := by decide +kernel
theorem dX9_crossings_16 : decode cX9_crossings 16 = .ok (.iconst 0, 1) := by decide +kernel
theorem dX9_crossings_17 : decode cX9_crossings 17 = .ok (.istore_n 3, 1) := by decide +kernel
theorem dX9_crossings_18 : decode cX9_crossings 18 = .ok (.bipush 24, 2) := by decide +kernel
theorem dX9_crossings_20 : decode cX9_crossings 20 = .ok (.iload_n 1, 1) := by decide +kernel
theorem dX9_crossings_21 : decode cX9_crossings 21 = .ok (.imul, 1) := by decide +kernel
theorem dX9_crossings_22 : decode cX9_crossings 22 = .ok (.istore 4, 2) := by decide +kernel
theorem dX9_crossings_24 : decode cX9_crossings 24 = .ok (.iconst 2, 1) := by decide +kernel
theorem dX9_crossings_25 : decode cX9_crossings 25 = .ok (.iload_n 3, 1) := by decide +kernel
theorem dX9_crossings_26 : decode cX9_crossings 26 = .ok (.imul, 1) := by decide +kernel
theorem dX9_crossings_27 : decode cX9_crossings 27 = .ok (.iconst 1, 1) := by decide +kernel
theorem dX9_crossings_28 : decode cX9_crossings 28 = .ok (.iadd, 1) := by decide +kernel
theorem dX9_crossings_29 : decode cX9_crossings 29 = .ok (.aload_n 0, 1) := by decide +kernel
theorem dX9_crossings_30 : decode cX9_crossings 30 = .ok (.getfield 49, 3) := by decide +kernel
theorem dX9_crossings_33 : decode cX9_crossings 33 = .ok (.iload_n 1, 1) := by decide +kernel
theorem dX9_crossings_34 : decode cX9_crossings 34 = .ok (.iaload, 1) := by decide +kernel
theorem dX9_crossings_35 : decode cX9_crossings 35 = .ok (.if_icmp .ge 70, 3) := by decide +kernel
theorem dX9_crossings_38 : decode cX9_crossings 38 = .ok (.aload_n 0, 1) := by decide +kernel
theorem dX9_crossings_39 : decode cX9_crossings 39 = .ok (.aload_n 0, 1) := by decide +kernel
theorem dX9_crossings_40 : decode cX9_crossings 40 = .ok (.getfield 52, 3) := by decide +kernel
theorem dX9_crossings_43 : decode cX9_crossings 43 = .ok (.iload 4, 2) := by decide +kernel
theorem dX9_crossings_45 : decode cX9_crossings 45 = .ok (.iconst 2, 1) := by decide +kernel
theorem dX9_crossings_46 : decode cX9_crossings 46 = .ok (.iload_n 3, 1) := by decide +kernel
theorem dX9_crossings_47 : decode cX9_crossings 47 = .ok (.imul, 1) := by decide +kernel
theorem dX9_crossings_48 : decode cX9_crossings 48 = .ok (.iadd, 1) := by decide +kernel
theorem dX9_crossings_49 : decode cX9_crossings 49 = .ok (.iaload, 1) := by decide +kernel
theorem dX9_crossings_50 : decode cX9_crossings 50 = .ok (.aload_n 0, 1) := by decide +kernel
theorem dX9_crossings_51 : decode cX9_crossings 51 = .ok (.getfield 52, 3) := by decide +kernel
theorem dX9_crossings_54 : decode cX9_crossings 54 = .ok (.iload 4, 2) := by decide +kernel
theorem dX9_crossings_56 : decode cX9_crossings 56 = .ok (.iconst 2, 1) := by decide +kernel
theorem dX9_crossings_57 : decode cX9_crossings 57 = .ok (.iload_n 3, 1) := by decide +kernel
theorem dX9_crossings_58 : decode cX9_crossings 58 = .ok (.imul, 1) := by decide +kernel
theorem dX9_crossings_59 : decode cX9_crossings 59 = .ok (.iadd, 1) := by decide +kernel
theorem dX9_crossings_60 : decode cX9_crossings 60 = .ok (.iconst 1, 1) := by decide +kernel
theorem dX9_crossings_61 : decode cX9_crossings 61 = .ok (.iadd, 1) := by decide +kernel
theorem dX9_crossings_62 : decode cX9_crossings 62 = .ok (.iaload, 1) := by decide +kernel
theorem dX9_crossings_63 : decode cX9_crossings 63 = .ok (.invokevirtual 184, 3) := by decide +kernel
theorem dX9_crossings_66 : decode cX9_crossings 66 = .ok (.ifCond .ne 39, 3) := by decide +kernel
theorem dX9_crossings_69 : decode cX9_crossings 69 = .ok (.aload_n 0, 1) := by decide +kernel
theorem dX9_crossings_70 : decode cX9_crossings 70 = .ok (.aload_n 0, 1) := by decide +kernel
theorem dX9_crossings_71 : decode cX9_crossings 71 = .ok (.getfield 52, 3) := by decide +kernel
theorem dX9_crossings_74 : decode cX9_crossings 74 = .ok (.iload 4, 2) := by decide +kernel
theorem dX9_crossings_76 : decode cX9_crossings 76 = .ok (.iconst 2, 1) := by decide +kernel
theorem dX9_crossings_77 : decode cX9_crossings 77 = .ok (.iload_n 3, 1) := by decide +kernel
theorem dX9_crossings_78 : decode cX9_crossings 78 = .ok (.imul, 1) := by decide +kernel
theorem dX9_crossings_79 : decode cX9_crossings 79 = .ok (.iadd, 1) := by decide +kernel
theorem dX9_crossings_80 : decode cX9_crossings 80 = .ok (.iaload, 1) := by decide +kernel
theorem dX9_crossings_81 : decode cX9_crossings 81 = .ok (.aload_n 0, 1) := by decide +kernel
theorem dX9_crossings_82 : decode cX9_crossings 82 = .ok (.getfield 52, 3) := by decide +kernel
theorem dX9_crossings_85 : decode cX9_crossings 85 = .ok (.iload 4, 2) := by decide +kernel
theorem dX9_crossings_87 : decode cX9_crossings 87 = .ok (.iconst 2, 1) := by decide +kernel
theorem dX9_crossings_88 : decode cX9_crossings 88 = .ok (.iload_n 3, 1) := by decide +kernel
theorem dX9_crossings_89 : decode cX9_crossings 89 = .ok (.imul, 1) := by decide +kernel
theorem dX9_crossings_90 : decode cX9_crossings 90 = .ok (.iadd, 1) := by decide +kernel
theorem dX9_crossings_91 : decode cX9_crossings 91 = .ok (.iconst 1, 1) := by decide +kernel
theorem dX9_crossings_92 : decode cX9_crossings 92 = .ok (.iadd, 1) := by decide +kernel
theorem dX9_crossings_93 : decode cX9_crossings 93 = .ok (.iaload, 1) := by decide +kernel
theorem dX9_crossings_94 : decode cX9_crossings 94 = .ok (.invokevirtual 187, 3) := by decide +kernel
theorem dX9_crossings_97 : decode cX9_crossings 97 = .ok (.istore 5, 2) := by decide +kernel
theorem dX9_crossings_99 : decode cX9_crossings 99 = .ok (.iinc 3 1, 3) := by decide +kernel
theorem dX9_crossings_102 : decode cX9_crossings 102 = .ok (.goto (-78), 3) := by decide +kernel
theorem dX9_crossings_105 : decode cX9_crossings 105 = .ok (.iload_n 3, 1) := by decide +kernel
theorem dX9_crossings_106 : decode cX9_crossings 106 = .ok (.ireturn, 1) := by decide +kernel
theorem dX9_judge_0 : decode cX9_judge 0 = .ok (.aload_n 0, 1) := by decide +kernel
theorem dX9_judge_1 : decode cX9_judge 1 = .ok (.iload_n 2, 1) := by decide +kernel
theorem dX9_judge_2 : decode cX9_judge 2 = .ok (.invokevirtual 168, 3) := by decide +kernel
theorem dX9_judge_5 : decode cX9_judge 5 = .ok (.ifCond .eq 11, 3) := by decide +kernel
theorem dX9_judge_8 : decode cX9_judge 8 = .ok (.aload_n 0, 1) := by decide +kernel
theorem dX9_judge_9 : decode cX9_judge 9 = .ok (.iload_n 1, 1) := by decide +kernel
theorem dX9_judge_10 : decode cX9_judge 10 = .ok (.invokevirtual 283, 3) := by decide +kernel
theorem dX9_judge_13 : decode cX9_judge 13 = .ok (.goto 4, 3) := by decide +kernel
theorem dX9_judge_16 : decode cX9_judge 16 = .ok (.iconst 1, 1) := by decide +kernel
theorem dX9_judge_17 : decode cX9_judge 17 = .ok (.istore_n 3, 1) := by decide +kernel
theorem dX9_judge_18 : decode cX9_judge 18 = .ok (.iload_n 3, 1) := by decide +kernel
theorem dX9_judge_19 : decode cX9_judge 19 = .ok (.ifCond .le 9, 3) := by decide +kernel
theorem dX9_judge_22 : decode cX9_judge 22 = .ok (.aload_n 0, 1) := by decide +kernel
theorem dX9_judge_23 : decode cX9_judge 23 = .ok (.iload_n 3, 1) := by decide +kernel
theorem dX9_judge_24 : decode cX9_judge 24 = .ok (.invokevirtual 63, 3) := by decide +kernel
theorem dX9_judge_27 : decode cX9_judge 27 = .ok (.ireturn, 1) := by decide +kernel
theorem dX9_judge_28 : decode cX9_judge 28 = .ok (.iconst 0, 1) := by decide +kernel
theorem dX9_judge_29 : decode cX9_judge 29 = .ok (.istore 4, 2) := by decide +kernel
theorem dX9_judge_31 : decode cX9_judge 31 = .ok (.iload 4, 2) := by decide +kernel
theorem dX9_judge_33 : decode cX9_judge 33 = .ok (.aload_n 0, 1) := by decide +kernel
theorem dX9_judge_34 : decode cX9_judge 34 = .ok (.getfield 49, 3) := by decide +kernel
theorem dX9_judge_37 : decode cX9_judge 37 = .ok (.iload_n 1, 1) := by decide +kernel
theorem dX9_judge_38 : decode cX9_judge 38 = .ok (.iaload, 1) := by decide +kernel
theorem dX9_judge_39 : decode cX9_judge 39 = .ok (.if_icmp .ge 44, 3) := by decide +kernel
theorem dX9_judge_42 : decode cX9_judge 42 = .ok (.iload 4, 2) := by decide +kernel
theorem dX9_judge_44 : decode cX9_judge 44 = .ok (.aload_n 0, 1) := by decide +kernel
theorem dX9_judge_45 : decode cX9_judge 45 = .ok (.iload_n 2, 1) := by decide +kernel
theorem dX9_judge_46 : decode cX9_judge 46 = .ok (.iconst 4, 1) := by decide +kernel
theorem dX9_judge_47 : decode cX9_judge 47 = .ok (.invokevirtual 123, 3) := by decide +kernel
theorem dX9_judge_50 : decode cX9_judge 50 = .ok (.if_icmp .ge 33, 3) := by decide +kernel
theorem dX9_judge_53 : decode cX9_judge 53 = .ok (.aload_n 0, 1) := by decide +kernel
theorem dX9_judge_54 : decode cX9_judge 54 = .ok (.getfield 52, 3) := by decide +kernel
theorem dX9_judge_57 : decode cX9_judge 57 = .ok (.bipush 24, 2) := by decide +kernel
theorem dX9_judge_59 : decode cX9_judge 59 = .ok (.iload_n 1, 1) := by decide +kernel
theorem dX9_judge_60 : decode cX9_judge 60 = .ok (.imul, 1) := by decide +kernel
theorem dX9_judge_61 : decode cX9_judge 61 = .ok (.iload 4, 2) := by decide +kernel
theorem dX9_judge_63 : decode cX9_judge 63 = .ok (.iadd, 1) := by decide +kernel
theorem dX9_judge_64 : decode cX9_judge 64 = .ok (.iaload, 1) := by decide +kernel
theorem dX9_judge_65 : decode cX9_judge 65 = .ok (.aload_n 0, 1) := by decide +kernel
theorem dX9_judge_66 : decode cX9_judge 66 = .ok (.iload_n 2, 1) := by decide +kernel
theorem dX9_judge_67 : decode cX9_judge 67 = .ok (.iconst 5, 1) := by decide +kernel
theorem dX9_judge_68 : decode cX9_judge 68 = .ok (.iload 4, 2) := by decide +kernel
theorem dX9_judge_70 : decode cX9_judge 70 = .ok (.iadd, 1) := by decide +kernel
theorem dX9_judge_71 : decode cX9_judge 71 = .ok (.invokevirtual 123, 3) := by decide +kernel
theorem dX9_judge_74 : decode cX9_judge 74 = .ok (.if_icmp .ne 9, 3) := by decide +kernel
theorem dX9_judge_77 : decode cX9_judge 77 = .ok (.iinc 4 1, 3) := by decide +kernel
theorem dX9_judge_80 : decode cX9_judge 80 = .ok (.goto (-49), 3) := by decide +kernel
theorem dX9_judge_83 : decode cX9_judge 83 = .ok (.iload 4, 2) := by decide +kernel
theorem dX9_judge_85 : decode cX9_judge 85 = .ok (.aload_n 0, 1) := by decide +kernel
theorem dX9_judge_86 : decode cX9_judge 86 = .ok (.getfield 49, 3) := by decide +kernel
theorem dX9_judge_89 : decode cX9_judge 89 = .ok (.iload_n 1, 1) := by decide +kernel
theorem dX9_judge_90 : decode cX9_judge 90 = .ok (.iaload, 1) := by decide +kernel
theorem dX9_judge_91 : decode cX9_judge 91 = .ok (.if_icmp .ne 18, 3) := by decide +kernel
theorem dX9_judge_94 : decode cX9_judge 94 = .ok (.iload 4, 2) := by decide +kernel
theorem dX9_judge_96 : decode cX9_judge 96 = .ok (.aload_n 0, 1) := by decide +kernel
theorem dX9_judge_97 : decode cX9_judge 97 = .ok (.iload_n 2, 1) := by decide +kernel
theorem dX9_judge_98 : decode cX9_judge 98 = .ok (.iconst 4, 1) := by decide +kernel
theorem dX9_judge_99 : decode cX9_judge 99 = .ok (.invokevirtual 123, 3) := by decide +kernel
theorem dX9_judge_102 : decode cX9_judge 102 = .ok (.if_icmp .ne 7, 3) := by decide +kernel
theorem dX9_judge_105 : decode cX9_judge 105 = .ok (.iconst (-1), 1) := by decide +kernel
theorem dX9_judge_106 : decode cX9_judge 106 = .ok (.goto 5, 3) := by decide +kernel
theorem dX9_judge_109 : decode cX9_judge 109 = .ok (.iload 4, 2) := by decide +kernel
theorem dX9_judge_111 : decode cX9_judge 111 = .ok (.ireturn, 1) := by decide +kernel
theorem dX9_image_0 : decode cX9_image 0 = .ok (.aload_n 0, 1) := by decide +kernel
theorem dX9_image_1 : decode cX9_image 1 = .ok (.getfield 7, 3) := by decide +kernel
theorem dX9_image_4 : decode cX9_image 4 = .ok (.aload_n 0, 1) := by decide +kernel
theorem dX9_image_5 : decode cX9_image 5 = .ok (.getfield 13, 3) := by decide +kernel
theorem dX9_image_8 : decode cX9_image 8 = .ok (.invokestatic 242, 3) := by decide +kernel
theorem dX9_image_11 : decode cX9_image 11 = .ok (.aload_n 0, 1) := by decide +kernel
theorem dX9_image_12 : decode cX9_image 12 = .ok (.dup, 1) := by decide +kernel
theorem dX9_image_13 : decode cX9_image 13 = .ok (.getfield 239, 3) := by decide +kernel
theorem dX9_image_16 : decode cX9_image 16 = .ok (.iconst 1, 1) := by decide +kernel
theorem dX9_image_17 : decode cX9_image 17 = .ok (.iadd, 1) := by decide +kernel
theorem dX9_image_18 : decode cX9_image 18 = .ok (.putfield 239, 3) := by decide +kernel
theorem dX9_image_21 : decode cX9_image 21 = .ok (.aload_n 0, 1) := by decide +kernel
theorem dX9_image_22 : decode cX9_image 22 = .ok (.getfield 239, 3) := by decide +kernel
theorem dX9_image_25 : decode cX9_image 25 = .ok (.ireturn, 1) := by decide +kernel
theorem dX9_restore_0 : decode cX9_restore 0 = .ok (.aload_n 0, 1) := by decide +kernel
theorem dX9_restore_1 : decode cX9_restore 1 = .ok (.getfield 239, 3) := by decide +kernel
theorem dX9_restore_4 : decode cX9_restore 4 = .ok (.ifCond .ne 9, 3) := by decide +kernel
theorem dX9_restore_7 : decode cX9_restore 7 = .ok (.aload_n 0, 1) := by decide +kernel
theorem dX9_restore_8 : decode cX9_restore 8 = .ok (.iconst 2, 1) := by decide +kernel
theorem dX9_restore_9 : decode cX9_restore 9 = .ok (.invokevirtual 63, 3) := by decide +kernel
theorem dX9_restore_12 : decode cX9_restore 12 = .ok (.ireturn, 1) := by decide +kernel
theorem dX9_restore_13 : decode cX9_restore 13 = .ok (.aload_n 0, 1) := by decide +kernel
theorem dX9_restore_14 : decode cX9_restore 14 = .ok (.getfield 13, 3) := by decide +kernel
theorem dX9_restore_17 : decode cX9_restore 17 = .ok (.aload_n 0, 1) := by decide +kernel
theorem dX9_restore_18 : decode cX9_restore 18 = .ok (.getfield 7, 3) := by decide +kernel
theorem dX9_restore_21 : decode cX9_restore 21 = .ok (.invokestatic 242, 3) := by decide +kernel
theorem dX9_restore_24 : decode cX9_restore 24 = .ok (.aload_n 0, 1) := by decide +kernel
theorem dX9_restore_25 : decode cX9_restore 25 = .ok (.getfield 7, 3) := by decide +kernel
theorem dX9_restore_28 : decode cX9_restore 28 = .ok (.iconst 2, 1) := by decide +kernel
theorem dX9_restore_29 : decode cX9_restore 29 = .ok (.iaload, 1) := by decide +kernel
theorem dX9_restore_30 : decode cX9_restore 30 = .ok (.ireturn, 1) := by decide +kernel
theorem dX9_tell_0 : decode cX9_tell 0 = .ok (.aload_n 0, 1) := by decide +kernel
theorem dX9_tell_1 : decode cX9_tell 1 = .ok (.getfield 7, 3) := by decide +kernel
theorem dX9_tell_4 : decode cX9_tell 4 = .ok (.bipush 6, 2) := by decide +kernel
theorem dX9_tell_6 : decode cX9_tell 6 = .ok (.iaload, 1) := by decide +kernel
theorem dX9_tell_7 : decode cX9_tell 7 = .ok (.bipush 24, 2) := by decide +kernel
theorem dX9_tell_9 : decode cX9_tell 9 = .ok (.if_icmp .ne 9, 3) := by decide +kernel
theorem dX9_tell_12 : decode cX9_tell 12 = .ok (.aload_n 0, 1) := by decide +kernel
theorem dX9_tell_13 : decode cX9_tell 13 = .ok (.iconst 4, 1) := by decide +kernel
theorem dX9_tell_14 : decode cX9_tell 14 = .ok (.invokevirtual 63, 3) := by decide +kernel
theorem dX9_tell_17 : decode cX9_tell 17 = .ok (.ireturn, 1) := by decide +kernel
theorem dX9_tell_18 : decode cX9_tell 18 = .ok (.aload_n 0, 1) := by decide +kernel
theorem dX9_tell_19 : decode cX9_tell 19 = .ok (.getfield 7, 3) := by decide +kernel
theorem dX9_tell_22 : decode cX9_tell 22 = .ok (.sipush 434, 3) := by decide +kernel
theorem dX9_tell_25 : decode cX9_tell 25 = .ok (.aload_n 0, 1) := by decide +kernel
theorem dX9_tell_26 : decode cX9_tell 26 = .ok (.getfield 7, 3) := by decide +kernel
theorem dX9_tell_29 : decode cX9_tell 29 = .ok (.bipush 6, 2) := by decide +kernel
theorem dX9_tell_31 : decode cX9_tell 31 = .ok (.iaload, 1) := by decide +kernel
theorem dX9_tell_32 : decode cX9_tell 32 = .ok (.iadd, 1) := by decide +kernel
theorem dX9_tell_33 : decode cX9_tell 33 = .ok (.iload_n 1, 1) := by decide +kernel
theorem dX9_tell_34 : decode cX9_tell 34 = .ok (.iastore, 1) := by decide +kernel
theorem dX9_tell_35 : decode cX9_tell 35 = .ok (.aload_n 0, 1) := by decide +kernel
theorem dX9_tell_36 : decode cX9_tell 36 = .ok (.getfield 7, 3) := by decide +kernel
theorem dX9_tell_39 : decode cX9_tell 39 = .ok (.bipush 6, 2) := by decide +kernel
theorem dX9_tell_41 : decode cX9_tell 41 = .ok (.dup2, 1) := by decide +kernel
theorem dX9_tell_42 : decode cX9_tell 42 = .ok (.iaload, 1) := by decide +kernel
theorem dX9_tell_43 : decode cX9_tell 43 = .ok (.iconst 1, 1) := by decide +kernel
theorem dX9_tell_44 : decode cX9_tell 44 = .ok (.iadd, 1) := by decide +kernel
theorem dX9_tell_45 : decode cX9_tell 45 = .ok (.iastore, 1) := by decide +kernel
theorem dX9_tell_46 : decode cX9_tell 46 = .ok (.aload_n 0, 1) := by decide +kernel
theorem dX9_tell_47 : decode cX9_tell 47 = .ok (.getfield 7, 3) := by decide +kernel
theorem dX9_tell_50 : decode cX9_tell 50 = .ok (.bipush 6, 2) := by decide +kernel
theorem dX9_tell_52 : decode cX9_tell 52 = .ok (.iaload, 1) := by decide +kernel
theorem dX9_tell_53 : decode cX9_tell 53 = .ok (.ireturn, 1) := by decide +kernel
theorem dX9_check_0 : decode cX9_check 0 = .ok (.aload_n 0, 1) := by decide +kernel
theorem dX9_check_1 : decode cX9_check 1 = .ok (.getfield 7, 3) := by decide +kernel
theorem dX9_check_4 : decode cX9_check 4 = .ok (.bipush 6, 2) := by decide +kernel
theorem dX9_check_6 : decode cX9_check 6 = .ok (.iaload, 1) := by decide +kernel
theorem dX9_check_7 : decode cX9_check 7 = .ok (.istore_n 2, 1) := by decide +kernel
theorem dX9_check_8 : decode cX9_check 8 = .ok (.aload_n 0, 1) := by decide +kernel
theorem dX9_check_9 : decode cX9_check 9 = .ok (.getfield 7, 3) := by decide +kernel
theorem dX9_check_12 : decode cX9_check 12 = .ok (.bipush 6, 2) := by decide +kernel
theorem dX9_check_14 : decode cX9_check 14 = .ok (.iconst 0, 1) := by decide +kernel
theorem dX9_check_15 : decode cX9_check 15 = .ok (.iastore, 1) := by decide +kernel
theorem dX9_check_16 : decode cX9_check 16 = .ok (.aload_n 0, 1) := by decide +kernel
theorem dX9_check_17 : decode cX9_check 17 = .ok (.iload_n 1, 1) := by decide +kernel
theorem dX9_check_18 : decode cX9_check 18 = .ok (.invokevirtual 168, 3) := by decide +kernel
theorem dX9_check_21 : decode cX9_check 21 = .ok (.ifCond .ne 9, 3) := by decide +kernel
theorem dX9_check_24 : decode cX9_check 24 = .ok (.aload_n 0, 1) := by decide +kernel
theorem dX9_check_25 : decode cX9_check 25 = .ok (.iconst 1, 1) := by decide +kernel
theorem dX9_check_26 : decode cX9_check 26 = .ok (.invokevirtual 63, 3) := by decide +kernel
theorem dX9_check_29 : decode cX9_check 29 = .ok (.ireturn, 1) := by decide +kernel
theorem dX9_check_30 : decode cX9_check 30 = .ok (.iconst 0, 1) := by decide +kernel
theorem dX9_check_31 : decode cX9_check 31 = .ok (.istore_n 3, 1) := by decide +kernel
theorem dX9_check_32 : decode cX9_check 32 = .ok (.iconst 0, 1) := by decide +kernel
theorem dX9_check_33 : decode cX9_check 33 = .ok (.istore 4, 2) := by decide +kernel
theorem dX9_check_35 : decode cX9_check 35 = .ok (.iconst 1, 1) := by decide +kernel
theorem dX9_check_36 : decode cX9_check 36 = .ok (.istore 5, 2) := by decide +kernel
theorem dX9_check_38 : decode cX9_check 38 = .ok (.iload 4, 2) := by decide +kernel
theorem dX9_check_40 : decode cX9_check 40 = .ok (.iload_n 2, 1) := by decide +kernel
theorem dX9_check_41 : decode cX9_check 41 = .ok (.if_icmp .ge 90, 3) := by decide +kernel
theorem dX9_check_44 : decode cX9_check 44 = .ok (.iload 5, 2) := by decide +kernel
theorem dX9_check_46 : decode cX9_check 46 = .ok (.ifCond .eq 85, 3) := by decide +kernel
theorem dX9_check_49 : decode cX9_check 49 = .ok (.aload_n 0, 1) := by decide +kernel
theorem dX9_check_50 : decode cX9_check 50 = .ok (.getfield 7, 3) := by decide +kernel
theorem dX9_check_53 : decode cX9_check 53 = .ok (.sipush 434, 3) := by decide +kernel
theorem dX9_check_56 : decode cX9_check 56 = .ok (.iload 4, 2) := by decide +kernel
theorem dX9_check_58 : decode cX9_check 58 = .ok (.iadd, 1) := by decide +kernel
theorem dX9_check_59 : decode cX9_check 59 = .ok (.iaload, 1) := by decide +kernel
theorem dX9_check_60 : decode cX9_check 60 = .ok (.istore 6, 2) := by decide +kernel
theorem dX9_check_62 : decode cX9_check 62 = .ok (.aload_n 0, 1) := by decide +kernel
theorem dX9_check_63 : decode cX9_check 63 = .ok (.iload 6, 2) := by decide +kernel
theorem dX9_check_65 : decode cX9_check 65 = .ok (.invokevirtual 156, 3) := by decide +kernel
theorem dX9_check_68 : decode cX9_check 68 = .ok (.ifCond .eq 26, 3) := by decide +kernel
theorem dX9_check_71 : decode cX9_check 71 = .ok (.aload_n 0, 1) := by decide +kernel
theorem dX9_check_72 : decode cX9_check 72 = .ok (.iload_n 1, 1) := by decide +kernel
theorem dX9_check_73 : decode cX9_check 73 = .ok (.iload 6, 2) := by decide +kernel
theorem dX9_check_75 : decode cX9_check 75 = .ok (.invokevirtual 152, 3) := by decide +kernel
theorem dX9_check_78 : decode cX9_check 78 = .ok (.ifCond .eq 16, 3) := by decide +kernel
theorem dX9_check_81 : decode cX9_check 81 = .ok (.iload_n 3, 1) := by decide +kernel
theorem dX9_check_82 : decode cX9_check 82 = .ok (.iload 6, 2) := by decide +kernel
theorem dX9_check_84 : decode cX9_check 84 = .ok (.ishr, 1) := by decide +kernel
theorem dX9_check_85 : decode cX9_check 85 = .ok (.iconst 1, 1) := by decide +kernel
theorem dX9_check_86 : decode cX9_check 86 = .ok (.iand, 1) := by decide +kernel
theorem dX9_check_87 : decode cX9_check 87 = .ok (.ifCond .ne 7, 3) := by decide +kernel
theorem dX9_check_90 : decode cX9_check 90 = .ok (.iconst 1, 1) := by decide +kernel
theorem dX9_check_91 : decode cX9_check 91 = .ok (.goto 4, 3) := by decide +kernel
theorem dX9_check_94 : decode cX9_check 94 = .ok (.iconst 0, 1) := by decide +kernel
theorem dX9_check_95 : decode cX9_check 95 = .ok (.istore 5, 2) := by decide +kernel
theorem dX9_check_97 : decode cX9_check 97 = .ok (.iload_n 3, 1) := by decide +kernel
theorem dX9_check_98 : decode cX9_check 98 = .ok (.iload 5, 2) := by decide +kernel
theorem dX9_check_100 : decode cX9_check 100 = .ok (.ifCond .eq 10, 3) := by decide +kernel
theorem dX9_check_103 : decode cX9_check 103 = .ok (.iconst 1, 1) := by decide +kernel
theorem dX9_check_104 : decode cX9_check 104 = .ok (.iload 6, 2) := by decide +kernel
theorem dX9_check_106 : decode cX9_check 106 = .ok (.ishl, 1) := by decide +kernel
theorem dX9_check_107 : decode cX9_check 107 = .ok (.goto 4, 3) := by decide +kernel
theorem dX9_check_110 : decode cX9_check 110 = .ok (.iconst 0, 1) := by decide +kernel
theorem dX9_check_111 : decode cX9_check 111 = .ok (.ior, 1) := by decide +kernel
theorem dX9_check_112 : decode cX9_check 112 = .ok (.istore_n 3, 1) := by decide +kernel
theorem dX9_check_113 : decode cX9_check 113 = .ok (.iload 4, 2) := by decide +kernel
theorem dX9_check_115 : decode cX9_check 115 = .ok (.iload 5, 2) := by decide +kernel
theorem dX9_check_117 : decode cX9_check 117 = .ok (.ifCond .eq 7, 3) := by decide +kernel
theorem dX9_check_120 : decode cX9_check 120 = .ok (.iconst 1, 1) := by decide +kernel
theorem dX9_check_121 : decode cX9_check 121 = .ok (.goto 4, 3) := by decide +kernel
theorem dX9_check_124 : decode cX9_check 124 = .ok (.iconst 0, 1) := by decide +kernel
theorem dX9_check_125 : decode cX9_check 125 = .ok (.iadd, 1) := by decide +kernel
theorem dX9_check_126 : decode cX9_check 126 = .ok (.istore 4, 2) := by decide +kernel
theorem dX9_check_128 : decode cX9_check 128 = .ok (.goto (-90), 3) := by decide +kernel
theorem dX9_check_131 : decode cX9_check 131 = .ok (.iload 5, 2) := by decide +kernel
theorem dX9_check_133 : decode cX9_check 133 = .ok (.ifCond .eq 18, 3) := by decide +kernel
theorem dX9_check_136 : decode cX9_check 136 = .ok (.iload 4, 2) := by decide +kernel
theorem dX9_check_138 : decode cX9_check 138 = .ok (.aload_n 0, 1) := by decide +kernel
theorem dX9_check_139 : decode cX9_check 139 = .ok (.iload_n 1, 1) := by decide +kernel
theorem dX9_check_140 : decode cX9_check 140 = .ok (.iconst 4, 1) := by decide +kernel
theorem dX9_check_141 : decode cX9_check 141 = .ok (.invokevirtual 123, 3) := by decide +kernel
theorem dX9_check_144 : decode cX9_check 144 = .ok (.if_icmp .ne 7, 3) := by decide +kernel
theorem dX9_check_147 : decode cX9_check 147 = .ok (.iconst 0, 1) := by decide +kernel
theorem dX9_check_148 : decode cX9_check 148 = .ok (.goto 7, 3) := by decide +kernel
theorem dX9_check_151 : decode cX9_check 151 = .ok (.iconst 1, 1) := by decide +kernel
theorem dX9_check_152 : decode cX9_check 152 = .ok (.iload 4, 2) := by decide +kernel
theorem dX9_check_154 : decode cX9_check 154 = .ok (.iadd, 1) := by decide +kernel
theorem dX9_check_155 : decode cX9_check 155 = .ok (.ireturn, 1) := by decide +kernel
theorem dX9_allCoins_0 : decode cX9_allCoins 0 = .ok (.iconst 0, 1) := by decide +kernel
theorem dX9_allCoins_1 : decode cX9_allCoins 1 = .ok (.istore_n 1, 1) := by decide +kernel
theorem dX9_allCoins_2 : decode cX9_allCoins 2 = .ok (.iconst 0, 1) := by decide +kernel
theorem dX9_allCoins_3 : decode cX9_allCoins 3 = .ok (.istore_n 2, 1) := by decide +kernel
theorem dX9_allCoins_4 : decode cX9_allCoins 4 = .ok (.iload_n 2, 1) := by decide +kernel
theorem dX9_allCoins_5 : decode cX9_allCoins 5 = .ok (.aload_n 0, 1) := by decide +kernel
theorem dX9_allCoins_6 : decode cX9_allCoins 6 = .ok (.getfield 7, 3) := by decide +kernel
theorem dX9_allCoins_9 : decode cX9_allCoins 9 = .ok (.iconst 0, 1) := by decide +kernel
theorem dX9_allCoins_10 : decode cX9_allCoins 10 = .ok (.iaload, 1) := by decide +kernel
theorem dX9_allCoins_11 : decode cX9_allCoins 11 = .ok (.if_icmp .ge 18, 3) := by decide +kernel
theorem dX9_allCoins_14 : decode cX9_allCoins 14 = .ok (.iload_n 1, 1) := by decide +kernel
theorem dX9_allCoins_15 : decode cX9_allCoins 15 = .ok (.aload_n 0, 1) := by decide +kernel
theorem dX9_allCoins_16 : decode cX9_allCoins 16 = .ok (.iload_n 2, 1) := by decide +kernel
theorem dX9_allCoins_17 : decode cX9_allCoins 17 = .ok (.iconst 1, 1) := by decide +kernel
theorem dX9_allCoins_18 : decode cX9_allCoins 18 = .ok (.invokevirtual 162, 3) := by decide +kernel
theorem dX9_allCoins_21 : decode cX9_allCoins 21 = .ok (.iadd, 1) := by decide +kernel
theorem dX9_allCoins_22 : decode cX9_allCoins 22 = .ok (.istore_n 1, 1) := by decide +kernel
theorem dX9_allCoins_23 : decode cX9_allCoins 23 = .ok (.iinc 2 1, 3) := by decide +kernel
theorem dX9_allCoins_26 : decode cX9_allCoins 26 = .ok (.goto (-22), 3) := by decide +kernel
theorem dX9_allCoins_29 : decode cX9_allCoins 29 = .ok (.iconst 0, 1) := by decide +kernel
theorem dX9_allCoins_30 : decode cX9_allCoins 30 = .ok (.istore_n 2, 1) := by decide +kernel
theorem dX9_allCoins_31 : decode cX9_allCoins 31 = .ok (.iload_n 2, 1) := by decide +kernel
theorem dX9_allCoins_32 : decode cX9_allCoins 32 = .ok (.aload_n 0, 1) := by decide +kernel
theorem dX9_allCoins_33 : decode cX9_allCoins 33 = .ok (.getfield 7, 3) := by decide +kernel
theorem dX9_allCoins_36 : decode cX9_allCoins 36 = .ok (.iconst 1, 1) := by decide +kernel
theorem dX9_allCoins_37 : decode cX9_allCoins 37 = .ok (.iaload, 1) := by decide +kernel
theorem dX9_allCoins_38 : decode cX9_allCoins 38 = .ok (.if_icmp .ge 18, 3) := by decide +kernel
theorem dX9_allCoins_41 : decode cX9_allCoins 41 = .ok (.iload_n 1, 1) := by decide +kernel
theorem dX9_allCoins_42 : decode cX9_allCoins 42 = .ok (.aload_n 0, 1) := by decide +kernel
theorem dX9_allCoins_43 : decode cX9_allCoins 43 = .ok (.iload_n 2, 1) := by decide +kernel
theorem dX9_allCoins_44 : decode cX9_allCoins 44 = .ok (.iconst 3, 1) := by decide +kernel
theorem dX9_allCoins_45 : decode cX9_allCoins 45 = .ok (.invokevirtual 123, 3) := by decide +kernel
theorem dX9_allCoins_48 : decode cX9_allCoins 48 = .ok (.iadd, 1) := by decide +kernel
theorem dX9_allCoins_49 : decode cX9_allCoins 49 = .ok (.istore_n 1, 1) := by decide +kernel
theorem dX9_allCoins_50 : decode cX9_allCoins 50 = .ok (.iinc 2 1, 3) := by decide +kernel
theorem dX9_allCoins_53 : decode cX9_allCoins 53 = .ok (.goto (-22), 3) := by decide +kernel
theorem dX9_allCoins_56 : decode cX9_allCoins 56 = .ok (.iload_n 1, 1) := by decide +kernel
theorem dX9_allCoins_57 : decode cX9_allCoins 57 = .ok (.ireturn, 1) := by decide +kernel
theorem dX9_count_0 : decode cX9_count 0 = .ok (.iload_n 1, 1) := by decide +kernel
theorem dX9_count_1 : decode cX9_count 1 = .ok (.tableswitch 132 0 10 #[59, 66, 73, 80, 87, 92, 97, 104, 112, 117, 125], 59) := by decide +kernel
theorem dX9_count_60 : decode cX9_count 60 = .ok (.aload_n 0, 1) := by decide +kernel
theorem dX9_count_61 : decode cX9_count 61 = .ok (.getfield 7, 3) := by decide +kernel
theorem dX9_count_64 : decode cX9_count 64 = .ok (.iconst 0, 1) := by decide +kernel
theorem dX9_count_65 : decode cX9_count 65 = .ok (.iaload, 1) := by decide +kernel
theorem dX9_count_66 : decode cX9_count 66 = .ok (.ireturn, 1) := by decide +kernel
theorem dX9_count_67 : decode cX9_count 67 = .ok (.aload_n 0, 1) := by decide +kernel
theorem dX9_count_68 : decode cX9_count 68 = .ok (.getfield 7, 3) := by decide +kernel
theorem dX9_count_71 : decode cX9_count 71 = .ok (.iconst 1, 1) := by decide +kernel
theorem dX9_count_72 : decode cX9_count 72 = .ok (.iaload, 1) := by decide +kernel
theorem dX9_count_73 : decode cX9_count 73 = .ok (.ireturn, 1) := by decide +kernel
theorem dX9_count_74 : decode cX9_count 74 = .ok (.aload_n 0, 1) := by decide +kernel
theorem dX9_count_75 : decode cX9_count 75 = .ok (.getfield 7, 3) := by decide +kernel
theorem dX9_count_78 : decode cX9_count 78 = .ok (.iconst 2, 1) := by decide +kernel
theorem dX9_count_79 : decode cX9_count 79 = .ok (.iaload, 1) := by decide +kernel
theorem dX9_count_80 : decode cX9_count 80 = .ok (.ireturn, 1) := by decide +kernel
theorem dX9_count_81 : decode cX9_count 81 = .ok (.aload_n 0, 1) := by decide +kernel
theorem dX9_count_82 : decode cX9_count 82 = .ok (.getfield 7, 3) := by decide +kernel
theorem dX9_count_85 : decode cX9_count 85 = .ok (.iconst 3, 1) := by decide +kernel
theorem dX9_count_86 : decode cX9_count 86 = .ok (.iaload, 1) := by decide +kernel
theorem dX9_count_87 : decode cX9_count 87 = .ok (.ireturn, 1) := by decide +kernel
theorem dX9_count_88 : decode cX9_count 88 = .ok (.aload_n 0, 1) := by decide +kernel
theorem dX9_count_89 : decode cX9_count 89 = .ok (.invokevirtual 207, 3) := by decide +kernel
theorem dX9_count_92 : decode cX9_count 92 = .ok (.ireturn, 1) := by decide +kernel
theorem dX9_count_93 : decode cX9_count 93 = .ok (.aload_n 0, 1) := by decide +kernel
theorem dX9_count_94 : decode cX9_count 94 = .ok (.invokevirtual 286, 3) := by decide +kernel
theorem dX9_count_97 : decode cX9_count 97 = .ok (.ireturn, 1) := by decide +kernel
theorem dX9_count_98 : decode cX9_count 98 = .ok (.aload_n 0, 1) := by decide +kernel
theorem dX9_count_99 : decode cX9_count 99 = .ok (.getfield 7, 3) := by decide +kernel
theorem dX9_count_102 : decode cX9_count 102 = .ok (.iconst 5, 1) := by decide +kernel
theorem dX9_count_103 : decode cX9_count 103 = .ok (.iaload, 1) := by decide +kernel
theorem dX9_count_104 : decode cX9_count 104 = .ok (.ireturn, 1) := by decide +kernel
theorem dX9_count_105 : decode cX9_count 105 = .ok (.aload_n 0, 1) := by decide +kernel
theorem dX9_count_106 : decode cX9_count 106 = .ok (.getfield 7, 3) := by decide +kernel
theorem dX9_count_109 : decode cX9_count 109 = .ok (.bipush 6, 2) := by decide +kernel
theorem dX9_count_111 : decode cX9_count 111 = .ok (.iaload, 1) := by decide +kernel
theorem dX9_count_112 : decode cX9_count 112 = .ok (.ireturn, 1) := by decide +kernel
theorem dX9_count_113 : decode cX9_count 113 = .ok (.aload_n 0, 1) := by decide +kernel
theorem dX9_count_114 : decode cX9_count 114 = .ok (.getfield 246, 3) := by decide +kernel
theorem dX9_count_117 : decode cX9_count 117 = .ok (.ireturn, 1) := by decide +kernel
theorem dX9_count_118 : decode cX9_count 118 = .ok (.aload_n 0, 1) := by decide +kernel
theorem dX9_count_119 : decode cX9_count 119 = .ok (.getfield 7, 3) := by decide +kernel
theorem dX9_count_122 : decode cX9_count 122 = .ok (.bipush 7, 2) := by decide +kernel
theorem dX9_count_124 : decode cX9_count 124 = .ok (.iaload, 1) := by decide +kernel
theorem dX9_count_125 : decode cX9_count 125 = .ok (.ireturn, 1) := by decide +kernel
theorem dX9_count_126 : decode cX9_count 126 = .ok (.aload_n 0, 1) := by decide +kernel
theorem dX9_count_127 : decode cX9_count 127 = .ok (.getfield 7, 3) := by decide +kernel
theorem dX9_count_130 : decode cX9_count 130 = .ok (.iconst 4, 1) := by decide +kernel
theorem dX9_count_131 : decode cX9_count 131 = .ok (.iaload, 1) := by decide +kernel
theorem dX9_count_132 : decode cX9_count 132 = .ok (.ireturn, 1) := by decide +kernel
theorem dX9_count_133 : decode cX9_count 133 = .ok (.aload_n 0, 1) := by decide +kernel
theorem dX9_count_134 : decode cX9_count 134 = .ok (.iconst 1, 1) := by decide +kernel
theorem dX9_count_135 : decode cX9_count 135 = .ok (.invokevirtual 63, 3) := by decide +kernel
theorem dX9_count_138 : decode cX9_count 138 = .ok (.ireturn, 1) := by decide +kernel
theorem dX9_told_0 : decode cX9_told 0 = .ok (.iload_n 1, 1) := by decide +kernel
theorem dX9_told_1 : decode cX9_told 1 = .ok (.iconst 1, 1) := by decide +kernel
theorem dX9_told_2 : decode cX9_told 2 = .ok (.bipush 6, 2) := by decide +kernel
theorem dX9_told_4 : decode cX9_told 4 = .ok (.invokestatic 59, 3) := by decide +kernel
theorem dX9_told_7 : decode cX9_told 7 = .ok (.ifCond .eq 12, 3) := by decide +kernel
theorem dX9_told_10 : decode cX9_told 10 = .ok (.aload_n 0, 1) := by decide +kernel
theorem dX9_told_11 : decode cX9_told 11 = .ok (.getfield 22, 3) := by decide +kernel
theorem dX9_told_14 : decode cX9_told 14 = .ok (.iload_n 1, 1) := by decide +kernel
theorem dX9_told_15 : decode cX9_told 15 = .ok (.iaload, 1) := by decide +kernel
theorem dX9_told_16 : decode cX9_told 16 = .ok (.goto 8, 3) := by decide +kernel
theorem dX9_told_19 : decode cX9_told 19 = .ok (.aload_n 0, 1) := by decide +kernel
theorem dX9_told_20 : decode cX9_told 20 = .ok (.iconst 1, 1) := by decide +kernel
theorem dX9_told_21 : decode cX9_told 21 = .ok (.invokevirtual 63, 3) := by decide +kernel
theorem dX9_told_24 : decode cX9_told 24 = .ok (.ireturn, 1) := by decide +kernel
end
section

/-! ===== the small machine: heaps as functions, one judgement, a row an instruction ===== -/
def FT : List Cond := lw_tbl.filter goodWord
theorem FT_of {w : Cond} (i : Nat) (h : lw_tbl[i]? = some w) (g : goodWord w = true) : w ∈ FT := List.mem_filter.mpr ⟨List.mem_of_getElem? h, g⟩
abbrev Ce : Type := (Nat × List Value) ⊕ ((Nat × (Nat → Int32)) ⊕ (Nat × Nat × (Nat → Option Nat)))
abbrev Hp : Type := (Nat → Option Ce) × Nat
abbrev Dc : Type := va_G × (Nat → ClassId) × Nat × Nat × Nat
def cls : List vw_C := [(RX0, TX0, 4), (RX1, TX1, 9), (RX2, TX2, 2), (RX3, TX3, 7), (RX4, TX4, 3), (RX5, TX5, 6), (RX6, TX6, 8), (RX7, TX7, 13), (RX8, TX8, 8), (RX9, TX9, 27)]
def ceE (E : Nat → ClassId) : Ce → va_E
  | .inl x => .inr x
  | .inr (.inl (n, f)) => .inl (E 0, n, .inl f)
  | .inr (.inr (k, n, f)) => .inl (E (if k = 0 then 1 else 2), n, .inr (.inr (.inr (.inr f))))
def arT (D : Dc) : List (ClassId × FieldType) := [(D.2.1 0, .int), (D.2.1 1, .array .int), (D.2.1 2, .object RX7)]
def frA (D : Dc) : Nat → Prop := fun q => D.2.2.1 ≤ q
def Rl (D : Dc) (h : Hp) (H : Heap) : Prop := h.2 = H.size ∧ ∀ (a : Nat) (e : Ce), h.1 a = some e → D.2.2.1 ≤ a ∧ va_at D.1 cls (a, ceE D.2.1 e) H
def tabA : Nat → Int32 := fun j => if j = 0 then -1 else if j = 1 then 0 else if j = 2 then 0 else if j = 3 then 0 else if j = 4 then 1 else if j = 5 then 2 else 0
def tabB : Nat → Int32 := fun j => if j = 0 then 10 else if j = 1 then 11 else if j = 2 then 12 else if j = 3 then 13 else if j = 4 then 20 else if j = 7 then 21 else if j = 9 then 30 else if j = 14 then 40 else if j = 16 then 50 else if j = 18 then 51 else if j = 21 then 60 else if j = 24 then 70 else if j = 25 then 71 else 0
/-- the words of nest mates: own class, pool place, method, host -/
def nestM : List (String × Nat × MethodName) := [("FourthFace$Ferry", 11, ⟨"FourthFace$Debts", "<init>", "()V"⟩), ("FourthFace", 39, ⟨"FourthFace$Sheets", "<init>", "()V"⟩), ("FourthFace", 46, ⟨"FourthFace$Voices", "<init>", "()V"⟩), ("FourthFace$World", 69, ⟨"FourthFace", "held", "(II)I"⟩), ("FourthFace$World", 106, ⟨"FourthFace", "isUnder", "(II)Z"⟩)]
def Kk (D : Dc) (U : State) : Prop := va_K D.1 cls (arT D) U ∧ D.2.2.1 ≤ U.heap.size ∧
  (va_Z "FourthFace" "ABOVE" "[I" (.ref D.2.2.2.1) (frA D) U U.heap ∧ va_T .int D.2.2.2.1 7 (fun j => .int (tabA j)) (frA D) U U.heap) ∧
  (va_Z "FourthFace$Voices" "BODIES" "[I" (.ref D.2.2.2.2) (frA D) U U.heap ∧ va_T .int D.2.2.2.2 28 (fun j => .int (tabB j)) (frA D) U U.heap) ∧
  (∀ q ∈ nestM, va_Nw (.methodLinkNest q.1 q.2.1 q.2.2 "FourthFace") U) ∧ va_Nw (.fieldLinkNest "FourthFace$Voices" 44 "FourthFace" "ABOVE" "[I" "FourthFace") U ∧
  va_AO RX7 U ∧ (Cond.arrayOver (.array .int)).before #[] U = true
theorem aoI_moved {u U : State} (hvm : u.vm.Alike U.vm) (h : (Cond.arrayOver (.array .int)).before #[] u = true) : (Cond.arrayOver (.array .int)).before #[] U = true := by
  unfold Cond.before Cond.holds at h ⊢
  simp only [Cond.value] at h ⊢
  rw [hvm.findClass]
  cases hc : u.vm.findClass (FieldType.array FieldType.int).toString with
  | none => simp [hc] at h
  | some comp =>
    simp only [hc, Option.bind_some, beq_iff_eq, Option.bind_eq_some_iff, Option.map_eq_some_iff] at h ⊢
    obtain ⟨c, h2, k, h3, h4⟩ := h
    obtain ⟨k', hk', he⟩ := hvm.2.2 _ _ h3
    have e1 := va_idx_bare U.vm comp
    have e3 := va_idx_bare u.vm comp
    first | rw [hvm.bare_eq] at e3 | rw [← hvm.bare_eq] at e3
    refine ⟨c, e1.symm.trans (e3.trans h2), k', hk', ?_⟩
    have hkind : k'.kind = k.kind := by rw [he]
    rw [hkind, hvm.findClass]
    exact h4
theorem Kk.moved {D : Dc} {s U : State} {locs : List Loc} {H : Heap} (h : Kk D s) (hW : s.WarmedH U.vm) (hH : U.heap = H) (hS : va_S (frA D) s.heap H locs) : Kk D U := by
  obtain ⟨h1, h2, ⟨h3, h4⟩, ⟨h5, h6⟩, h7, h8, h9, h10⟩ := h
  have hk : ∀ a : Nat, a < s.heap.size → ¬ frA D a → U.heap[a]? = s.heap[a]? := fun a x y => by rw [hH]; exact hS.2.1 a x y
  refine ⟨h1.moved hW.alike, Nat.le_trans h2 (by rw [hH]; exact hS.1), ⟨(h3.kept hk).moved hW.alike, (h4.kept hk).moved hW.alike⟩, ⟨(h5.kept hk).moved hW.alike, (h6.kept hk).moved hW.alike⟩, fun q hq => va_Nw.warmM hW (h7 q hq), va_Nw.warmF hW h8, h9.moved hW.alike, aoI_moved hW.alike h10⟩
abbrev Cx : Type := Program × Launch × Env × Room × State × MethodId × Array Value × List Frame × Method × Code × Dc × (Option Value × Hp)
def Qm (D : Dc) (res : Option Value × Hp) : Array Value → State → Outcome → State → Prop := fun _ st oc t => (oc = .returned res.1 ∧ Rl D res.2 t.heap) ∧ va_F (frA D) st t
def Jc (X : Cx) (y : MethodName) (cc : ByteArray) (nL : Nat) (ret : Option FieldType) (d mc ms : Nat) (res : Option Value × Hp) : Prop :=
  match X with
  | (p, l, e, R, s, m, args, below, meth, c, D, rs) => p.tables.exec = Jvm.exec ∧ c.code = cc ∧ c.maxLocals = nL ∧ s.vm.findClass y.cls = some m.cls ∧ (∀ w ∈ FT, w.before args s = true) ∧ Kk D s ∧ meth.sig.returnType = ret ∧ meth.locks = false ∧ meth.name = y.name ∧ R = { frames := d, cells := mc, slots := ms, locals := 64 * d } ∧ rs = res
def ll : Nat → List (Option Value) → List (Nat × Value)
  | _, [] => []
  | i, none :: t => ll (i + 1) t
  | i, some v :: t => (i, v) :: ll (i + 1) t
def J (X : Cx) (mc ms k n pc : Nat) (lv : List (Option Value)) (st : List Value) (h : Hp) : Prop :=
  match X with
  | (p, l, e, R, s, m, args, below, meth, c, D, rs) => ∀ (H : Heap) (locs : List Loc) (ls : Array Slot), Rl D h H → va_S (frA D) s.heap H locs → lv_has ls c.maxLocals (ll 0 lv) → lv.length = c.maxLocals → W p l e R s m args below meth c H locs k n (MQ below (Qm D rs) args s mc ms (frA D)) (F0 m pc ls st)
/-- what a method owes: from every heap that holds h, it returns res -/
def Mc (y : MethodName) (cc : ByteArray) (nL : Nat) (ret : Option FieldType) (d mc ms : Nat) (av : List Value) (h : Hp) (res : Option Value × Hp) : Prop :=
  ∀ (l : Launch) (D : Dc), Met l y (.code y cc nL ret :: FT) { frames := d, cells := mc, slots := ms, locals := 64 * d } (va_Pc av (fun U => Rl D h U.heap ∧ Kk D U)) (Qm D res) mc ms (frA D)
theorem ll_mem : ∀ (lv : List (Option Value)) (b i : Nat) (v : Value), lv[i]? = some (some v) → (b + i, v) ∈ ll b lv
  | [], b, i, v, h => by simp at h
  | none :: t, b, 0, v, h => by simp at h
  | some w :: t, b, 0, v, h => by simp at h; subst h; exact List.mem_cons_self
  | none :: t, b, i + 1, v, h => by
    have := ll_mem t (b + 1) i v (by simpa using h)
    rw [show b + (i + 1) = b + 1 + i by omega]; exact this
  | some w :: t, b, i + 1, v, h => by
    have := ll_mem t (b + 1) i v (by simpa using h)
    rw [show b + (i + 1) = b + 1 + i by omega]; exact List.mem_cons_of_mem _ this
theorem ll_get : ∀ (lv : List (Option Value)) (b : Nat) (q : Nat × Value), q ∈ ll b lv → ∃ i, q.1 = b + i ∧ lv[i]? = some (some q.2)
  | [], b, q, h => by cases h
  | none :: t, b, q, h => by
    obtain ⟨i, h1, h2⟩ := ll_get t (b + 1) q h
    exact ⟨i + 1, by omega, by simpa using h2⟩
  | some w :: t, b, q, h => by
    rcases List.mem_cons.mp h with rfl | h
    · exact ⟨0, rfl, rfl⟩
    · obtain ⟨i, h1, h2⟩ := ll_get t (b + 1) q h
      exact ⟨i + 1, by omega, by simpa using h2⟩
def sto (lv : List (Option Value)) (i : Nat) (v : Value) : Option (List (Option Value)) :=
  bif Nat.blt i lv.length && (match lv[i - 1]? with | some (some w) => Nat.beq w.category 1 | _ => true) then some (lv.set i (some v)) else none
theorem sto_spec {lv lv' : List (Option Value)} {i : Nat} {v : Value} (h : sto lv i v = some lv') : i < lv.length ∧ lv'.length = lv.length ∧ ∀ q ∈ ll 0 lv', q = (i, v) ∨ q ∈ (ll 0 lv).filter (fun q => !(q.1 == i) && !(q.1 + 1 == i && q.2.category == 2)) := by
  unfold sto at h
  cases hb : (Nat.blt i lv.length && (match lv[i - 1]? with | some (some w) => Nat.beq w.category 1 | _ => true)) with
  | false => rw [hb] at h; cases h
  | true =>
    rw [hb] at h
    have h := Option.some.inj h
    rw [Bool.and_eq_true] at hb
    have h1 : i < lv.length := by have := hb.1; simp [Nat.blt] at this; omega
    subst h
    refine ⟨h1, List.length_set, fun q hq => ?_⟩
    obtain ⟨j, e1, e2⟩ := ll_get _ 0 q hq
    have e1 : q.1 = j := by omega
    by_cases hj : j = i
    · left
      subst hj
      rw [List.getElem?_set_self h1] at e2
      have := Option.some.inj (Option.some.inj e2)
      exact Prod.ext e1 this.symm
    · right
      rw [List.getElem?_set_ne (fun z => hj z.symm)] at e2
      refine List.mem_filter.mpr ⟨?_, ?_⟩
      · have := ll_mem lv 0 j q.2 e2
        rw [show ((0 + j, q.2) : Nat × Value) = q from Prod.ext (by show 0 + j = q.1; omega) rfl] at this
        exact this
      · by_cases hz : q.1 + 1 = i
        · have h2 := hb.2
          rw [show i - 1 = j by omega, e2] at h2
          have h3 : q.2.category = 1 := Nat.eq_of_beq_eq_true h2
          simp [h3, show ¬ q.1 = i by omega]
        · simp [hz, show ¬ q.1 = i by omega]
theorem sto_has {ls : Array Slot} {n i : Nat} {v : Value} {lv lv' : List (Option Value)} (hs : sto lv i v = some lv') (h : lv_has ls n ((i, v) :: (ll 0 lv).filter (fun q => !(q.1 == i) && !(q.1 + 1 == i && q.2.category == 2)))) : lv_has ls n (ll 0 lv') :=
  ⟨h.1, h.2.1, fun q hq => by
    rcases (sto_spec hs).2.2 q hq with h1 | h1
    · exact h.2.2 q (by rw [h1]; exact List.mem_cons_self)
    · exact h.2.2 q (List.mem_cons_of_mem _ h1)⟩
theorem ll_at {ls : Array Slot} {n i : Nat} {v : Value} {lv : List (Option Value)} (h : lv_has ls n (ll 0 lv)) (hi : lv[i]? = some (some v)) : ls[i]? = some (.val v) := by
  have := ll_mem lv 0 i v hi
  rw [Nat.zero_add] at this
  exact h.2.2 _ this
/-! the heap's own acts -/
def isO (h : Hp) (ci a : Nat) : Bool := match h.1 a with | some (.inl (c, _)) => c == ci | _ => false
def gO {α : Type} (h : Hp) (ci a : Nat) (B : Option α) : Option α := if isO h ci a = true then B else none
def getV (h : Hp) (ci a j : Nat) : Option Value := match h.1 a with | some (.inl (c, fs)) => if c = ci then fs[j]? else none | _ => none
def getI (h : Hp) (ci a j : Nat) : Option Int32 := match getV h ci a j with | some (.int v) => some v | _ => none
def getR (h : Hp) (ci a j : Nat) : Option Nat := match getV h ci a j with | some (.ref v) => some v | _ => none
def setC (h : Hp) (a : Nat) (e : Ce) : Hp := (fun q => if q = a then some e else h.1 q, h.2)
def putV (h : Hp) (ci a j : Nat) (v : Value) : Option Hp := match h.1 a with | some (.inl (c, fs)) => if c = ci ∧ j < fs.length then some (setC h a (.inl (ci, fs.set j v))) else none | _ => none
def rdI (h : Hp) (a : Nat) (i : Int32) : Option Int32 := match h.1 a with | some (.inr (.inl (n, f))) => if i < 0 ∨ n ≤ i.toNatClampNeg then none else some (f i.toNatClampNeg) | _ => none
def wrI (h : Hp) (a : Nat) (i v : Int32) : Option Hp := match h.1 a with | some (.inr (.inl (n, f))) => if i < 0 ∨ n ≤ i.toNatClampNeg then none else some (setC h a (.inr (.inl (n, upd f i.toNatClampNeg v)))) | _ => none
def lenA (h : Hp) (a : Nat) : Option Int32 := match h.1 a with | some (.inr (.inl (n, _))) => some (Int32.ofNat n) | _ => none
def rdR (h : Hp) (a : Nat) (i : Int32) : Option Nat := match h.1 a with | some (.inr (.inr (_, n, f))) => if i < 0 ∨ n ≤ i.toNatClampNeg then none else f i.toNatClampNeg | _ => none
def rdT (n : Nat) (f : Nat → Int32) (i : Int32) : Option Int32 := if i < 0 ∨ n ≤ i.toNatClampNeg then none else some (f i.toNatClampNeg)
def newC (h : Hp) (e : Ce) : Hp := (fun q => if q = h.2 then some e else h.1 q, h.2 + 1)
def newA (cap : Nat) (h : Hp) (n : Int32) : Option (Nat × Hp) := if n < 0 ∨ cap < n.toNatClampNeg then none else some (h.2, newC h (.inr (.inl (n.toNatClampNeg, fun _ => 0))))
def acopy (h : Hp) (a0 : Nat) (sp : Int32) (a1 : Nat) (dp n : Int32) : Option Hp :=
  match h.1 a0, h.1 a1 with
  | some (.inr (.inl (n0, f))), some (.inr (.inl (n1, g))) => if sp < 0 ∨ dp < 0 ∨ n < 0 ∨ n0 < sp.toNatClampNeg + n.toNatClampNeg ∨ n1 < dp.toNatClampNeg + n.toNatClampNeg then none else some (setC h a1 (.inr (.inl (n1, va_cpy f g sp.toNatClampNeg dp.toNatClampNeg n.toNatClampNeg))))
  | _, _ => none
def bz (v : Int32) : Option Int32 := if v = 0 ∨ v = 1 then some v else none
def dvz (x y : Int32) : Option Int32 := if y = 0 then none else some (x / y)
def rmz (x y : Int32) : Option Int32 := if y = 0 then none else some (x - x / y * y)
theorem gO_some {α : Type} {h : Hp} {ci a : Nat} {B : Option α} {z : α} (hF : gO h ci a B = some z) : (∃ fs, h.1 a = some (.inl (ci, fs))) ∧ B = some z := by
  unfold gO at hF
  split at hF
  next h1 =>
    refine ⟨?_, hF⟩
    unfold isO at h1
    split at h1
    next c fs he => exact ⟨fs, by rw [he]; simp at h1; rw [h1]⟩
    next => cases h1
  next => cases hF
theorem getV_some {h : Hp} {ci a j : Nat} {v : Value} (hv : getV h ci a j = some v) : ∃ fs, h.1 a = some (.inl (ci, fs)) ∧ fs[j]? = some v := by
  unfold getV at hv
  split at hv
  next c fs he =>
    split at hv
    next hc => exact ⟨fs, by rw [he, hc], hv⟩
    next => cases hv
  next => cases hv
theorem getI_some {h : Hp} {ci a j : Nat} {v : Int32} (hv : getI h ci a j = some v) : getV h ci a j = some (.int v) := by
  unfold getI at hv
  split at hv
  next w he => rw [he, Option.some.inj hv]
  next => cases hv
theorem getR_some {h : Hp} {ci a j v : Nat} (hv : getR h ci a j = some v) : getV h ci a j = some (.ref v) := by
  unfold getR at hv
  split at hv
  next w he => rw [he, Option.some.inj hv]
  next => cases hv
theorem putV_some {h h' : Hp} {ci a j : Nat} {v : Value} (hv : putV h ci a j v = some h') : ∃ fs, h.1 a = some (.inl (ci, fs)) ∧ j < fs.length ∧ h' = setC h a (.inl (ci, fs.set j v)) := by
  unfold putV at hv
  split at hv
  next c fs he =>
    split at hv
    next hc => exact ⟨fs, by rw [he, hc.1], hc.2, (Option.some.inj hv).symm⟩
    next => cases hv
  next => cases hv
theorem rdI_some {h : Hp} {a : Nat} {i v : Int32} (hv : rdI h a i = some v) : ∃ n f, h.1 a = some (.inr (.inl (n, f))) ∧ vp_in i n ∧ v = f i.toNatClampNeg := by
  unfold rdI at hv
  split at hv
  next n f he =>
    split at hv
    next => cases hv
    next hc => exact ⟨n, f, he, hc, (Option.some.inj hv).symm⟩
  next => cases hv
theorem wrI_some {h h' : Hp} {a : Nat} {i v : Int32} (hv : wrI h a i v = some h') : ∃ n f, h.1 a = some (.inr (.inl (n, f))) ∧ vp_in i n ∧ h' = setC h a (.inr (.inl (n, upd f i.toNatClampNeg v))) := by
  unfold wrI at hv
  split at hv
  next n f he =>
    split at hv
    next => cases hv
    next hc => exact ⟨n, f, he, hc, (Option.some.inj hv).symm⟩
  next => cases hv
theorem lenA_some {h : Hp} {a : Nat} {v : Int32} (hv : lenA h a = some v) : ∃ n f, h.1 a = some (.inr (.inl (n, f))) ∧ v = Int32.ofNat n := by
  unfold lenA at hv
  split at hv
  next n f he => exact ⟨n, f, he, (Option.some.inj hv).symm⟩
  next => cases hv
theorem rdR_some {h : Hp} {a v : Nat} {i : Int32} (hv : rdR h a i = some v) : ∃ k n f, h.1 a = some (.inr (.inr (k, n, f))) ∧ vp_in i n ∧ f i.toNatClampNeg = some v := by
  unfold rdR at hv
  split at hv
  next k n f he =>
    split at hv
    next => cases hv
    next hc => exact ⟨k, n, f, he, hc, hv⟩
  next => cases hv
theorem acopy_some {h h' : Hp} {a0 a1 : Nat} {sp dp n : Int32} (hv : acopy h a0 sp a1 dp n = some h') : ∃ n0 f n1 g, h.1 a0 = some (.inr (.inl (n0, f))) ∧ h.1 a1 = some (.inr (.inl (n1, g))) ∧ ¬ sp < 0 ∧ ¬ dp < 0 ∧ ¬ n < 0 ∧ sp.toNatClampNeg + n.toNatClampNeg ≤ n0 ∧ dp.toNatClampNeg + n.toNatClampNeg ≤ n1 ∧ h' = setC h a1 (.inr (.inl (n1, va_cpy f g sp.toNatClampNeg dp.toNatClampNeg n.toNatClampNeg))) := by
  unfold acopy at hv
  split at hv
  next n0 f n1 g e0 e1 =>
    split at hv
    next => cases hv
    next hc =>
      simp only [not_or] at hc
      exact ⟨n0, f, n1, g, e0, e1, hc.1, hc.2.1, hc.2.2.1, by omega, by omega, (Option.some.inj hv).symm⟩
  next => cases hv
theorem bind_some {α β : Type} {x : Option α} {K : α → Option β} {z : β} (h : x.bind K = some z) : ∃ v, x = some v ∧ K v = some z := by
  cases x with
  | none => cases h
  | some v => exact ⟨v, rfl, h⟩
theorem J_br {α : Type} {c : Prop} [Decidable c] {A B : Option α} {z : α} {P : Prop} (hF : (if c then A else B) = some z) (kt : c → A = some z → P) (kf : ¬ c → B = some z → P) : P := by
  by_cases hc : c
  · rw [if_pos hc] at hF; exact kt hc hF
  · rw [if_neg hc] at hF; exact kf hc hF

theorem J_iadd {X : Cx} {y : MethodName} {cc : ByteArray} {nL : Nat} {ret : Option FieldType} {d mc ms : Nat} {res : Option Value × Hp} {k n pc : Nat} {lv : List (Option Value)} {st : List Value} {h : Hp} (C : Jc X y cc nL ret d mc ms res) {x z : Int32} (hd : decode cc pc = .ok (.iadd, 1)) (kk : J X mc ms k n (pc + 1) lv (.int (x + z) :: st) h) : J X mc ms k n pc lv (.int z :: .int x :: st) h := by
  obtain ⟨p, l, e, R, s, m, args, below, meth, c, D, rs⟩ := X
  exact fun H locs ls hR hS hl hL => lv_iadd C.1 C.2.1 hd (kk H locs ls hR hS hl hL)
theorem J_isub {X : Cx} {y : MethodName} {cc : ByteArray} {nL : Nat} {ret : Option FieldType} {d mc ms : Nat} {res : Option Value × Hp} {k n pc : Nat} {lv : List (Option Value)} {st : List Value} {h : Hp} (C : Jc X y cc nL ret d mc ms res) {x z : Int32} (hd : decode cc pc = .ok (.isub, 1)) (kk : J X mc ms k n (pc + 1) lv (.int (x - z) :: st) h) : J X mc ms k n pc lv (.int z :: .int x :: st) h := by
  obtain ⟨p, l, e, R, s, m, args, below, meth, c, D, rs⟩ := X
  exact fun H locs ls hR hS hl hL => lv_isub C.1 C.2.1 hd (kk H locs ls hR hS hl hL)
theorem J_imul {X : Cx} {y : MethodName} {cc : ByteArray} {nL : Nat} {ret : Option FieldType} {d mc ms : Nat} {res : Option Value × Hp} {k n pc : Nat} {lv : List (Option Value)} {st : List Value} {h : Hp} (C : Jc X y cc nL ret d mc ms res) {x z : Int32} (hd : decode cc pc = .ok (.imul, 1)) (kk : J X mc ms k n (pc + 1) lv (.int (x * z) :: st) h) : J X mc ms k n pc lv (.int z :: .int x :: st) h := by
  obtain ⟨p, l, e, R, s, m, args, below, meth, c, D, rs⟩ := X
  exact fun H locs ls hR hS hl hL => lv_imul C.1 C.2.1 hd (kk H locs ls hR hS hl hL)
theorem J_iand {X : Cx} {y : MethodName} {cc : ByteArray} {nL : Nat} {ret : Option FieldType} {d mc ms : Nat} {res : Option Value × Hp} {k n pc : Nat} {lv : List (Option Value)} {st : List Value} {h : Hp} (C : Jc X y cc nL ret d mc ms res) {x z : Int32} (hd : decode cc pc = .ok (.iand, 1)) (kk : J X mc ms k n (pc + 1) lv (.int (x &&& z) :: st) h) : J X mc ms k n pc lv (.int z :: .int x :: st) h := by
  obtain ⟨p, l, e, R, s, m, args, below, meth, c, D, rs⟩ := X
  exact fun H locs ls hR hS hl hL => lv_iand C.1 C.2.1 hd (kk H locs ls hR hS hl hL)
theorem J_ior {X : Cx} {y : MethodName} {cc : ByteArray} {nL : Nat} {ret : Option FieldType} {d mc ms : Nat} {res : Option Value × Hp} {k n pc : Nat} {lv : List (Option Value)} {st : List Value} {h : Hp} (C : Jc X y cc nL ret d mc ms res) {x z : Int32} (hd : decode cc pc = .ok (.ior, 1)) (kk : J X mc ms k n (pc + 1) lv (.int (x ||| z) :: st) h) : J X mc ms k n pc lv (.int z :: .int x :: st) h := by
  obtain ⟨p, l, e, R, s, m, args, below, meth, c, D, rs⟩ := X
  exact fun H locs ls hR hS hl hL => lv_ior C.1 C.2.1 hd (kk H locs ls hR hS hl hL)
theorem J_ixor {X : Cx} {y : MethodName} {cc : ByteArray} {nL : Nat} {ret : Option FieldType} {d mc ms : Nat} {res : Option Value × Hp} {k n pc : Nat} {lv : List (Option Value)} {st : List Value} {h : Hp} (C : Jc X y cc nL ret d mc ms res) {x z : Int32} (hd : decode cc pc = .ok (.ixor, 1)) (kk : J X mc ms k n (pc + 1) lv (.int (x ^^^ z) :: st) h) : J X mc ms k n pc lv (.int z :: .int x :: st) h := by
  obtain ⟨p, l, e, R, s, m, args, below, meth, c, D, rs⟩ := X
  exact fun H locs ls hR hS hl hL => lv_ixor C.1 C.2.1 hd (kk H locs ls hR hS hl hL)
theorem J_ishl {X : Cx} {y : MethodName} {cc : ByteArray} {nL : Nat} {ret : Option FieldType} {d mc ms : Nat} {res : Option Value × Hp} {k n pc : Nat} {lv : List (Option Value)} {st : List Value} {h : Hp} (C : Jc X y cc nL ret d mc ms res) {x z : Int32} (hd : decode cc pc = .ok (.ishl, 1)) (kk : J X mc ms k n (pc + 1) lv (.int (x <<< (z &&& 31)) :: st) h) : J X mc ms k n pc lv (.int z :: .int x :: st) h := by
  obtain ⟨p, l, e, R, s, m, args, below, meth, c, D, rs⟩ := X
  exact fun H locs ls hR hS hl hL => lv_ishl C.1 C.2.1 hd (kk H locs ls hR hS hl hL)
theorem J_ishr {X : Cx} {y : MethodName} {cc : ByteArray} {nL : Nat} {ret : Option FieldType} {d mc ms : Nat} {res : Option Value × Hp} {k n pc : Nat} {lv : List (Option Value)} {st : List Value} {h : Hp} (C : Jc X y cc nL ret d mc ms res) {x z : Int32} (hd : decode cc pc = .ok (.ishr, 1)) (kk : J X mc ms k n (pc + 1) lv (.int (x >>> (z &&& 31)) :: st) h) : J X mc ms k n pc lv (.int z :: .int x :: st) h := by
  obtain ⟨p, l, e, R, s, m, args, below, meth, c, D, rs⟩ := X
  exact fun H locs ls hR hS hl hL => lv_ishr C.1 C.2.1 hd (kk H locs ls hR hS hl hL)
def ushr (x z : Int32) : Int32 := (x.toUInt32 >>> (z.toUInt32 &&& Int32.toUInt32 31)).toInt32
theorem J_iushr {X : Cx} {y : MethodName} {cc : ByteArray} {nL : Nat} {ret : Option FieldType} {d mc ms : Nat} {res : Option Value × Hp} {k n pc : Nat} {lv : List (Option Value)} {st : List Value} {h : Hp} (C : Jc X y cc nL ret d mc ms res) {x z : Int32} (hd : decode cc pc = .ok (.iushr, 1)) (kk : J X mc ms k n (pc + 1) lv (.int (ushr x z) :: st) h) : J X mc ms k n pc lv (.int z :: .int x :: st) h := by
  obtain ⟨p, l, e, R, s, m, args, below, meth, c, D, rs⟩ := X
  exact fun H locs ls hR hS hl hL => lv_iushr C.1 C.2.1 hd rfl (kk H locs ls hR hS hl hL)
theorem J_ineg {X : Cx} {y : MethodName} {cc : ByteArray} {nL : Nat} {ret : Option FieldType} {d mc ms : Nat} {res : Option Value × Hp} {k n pc : Nat} {lv : List (Option Value)} {st : List Value} {h : Hp} (C : Jc X y cc nL ret d mc ms res) {x : Int32} (hd : decode cc pc = .ok (.ineg, 1)) (kk : J X mc ms k n (pc + 1) lv (.int (-x) :: st) h) : J X mc ms k n pc lv (.int x :: st) h := by
  obtain ⟨p, l, e, R, s, m, args, below, meth, c, D, rs⟩ := X
  exact fun H locs ls hR hS hl hL => lv_ineg C.1 C.2.1 hd (kk H locs ls hR hS hl hL)
theorem J_i2b {X : Cx} {y : MethodName} {cc : ByteArray} {nL : Nat} {ret : Option FieldType} {d mc ms : Nat} {res : Option Value × Hp} {k n pc : Nat} {lv : List (Option Value)} {st : List Value} {h : Hp} (C : Jc X y cc nL ret d mc ms res) {x : Int32} (hd : decode cc pc = .ok (.i2b, 1)) (kk : J X mc ms k n (pc + 1) lv (.int (x.toInt8.toInt32) :: st) h) : J X mc ms k n pc lv (.int x :: st) h := by
  obtain ⟨p, l, e, R, s, m, args, below, meth, c, D, rs⟩ := X
  exact fun H locs ls hR hS hl hL => lv_i2b C.1 C.2.1 hd rfl (kk H locs ls hR hS hl hL)
theorem J_i2s {X : Cx} {y : MethodName} {cc : ByteArray} {nL : Nat} {ret : Option FieldType} {d mc ms : Nat} {res : Option Value × Hp} {k n pc : Nat} {lv : List (Option Value)} {st : List Value} {h : Hp} (C : Jc X y cc nL ret d mc ms res) {x : Int32} (hd : decode cc pc = .ok (.i2s, 1)) (kk : J X mc ms k n (pc + 1) lv (.int (x.toInt16.toInt32) :: st) h) : J X mc ms k n pc lv (.int x :: st) h := by
  obtain ⟨p, l, e, R, s, m, args, below, meth, c, D, rs⟩ := X
  exact fun H locs ls hR hS hl hL => lv_i2s C.1 C.2.1 hd rfl (kk H locs ls hR hS hl hL)
theorem J_i2l {X : Cx} {y : MethodName} {cc : ByteArray} {nL : Nat} {ret : Option FieldType} {d mc ms : Nat} {res : Option Value × Hp} {k n pc : Nat} {lv : List (Option Value)} {st : List Value} {h : Hp} (C : Jc X y cc nL ret d mc ms res) {x : Int32} (hd : decode cc pc = .ok (.i2l, 1)) (kk : J X mc ms k n (pc + 1) lv (.long x.toInt64 :: st) h) : J X mc ms k n pc lv (.int x :: st) h := by
  obtain ⟨p, l, e, R, s, m, args, below, meth, c, D, rs⟩ := X
  exact fun H locs ls hR hS hl hL => lv_i2l C.1 C.2.1 hd rfl (kk H locs ls hR hS hl hL)
theorem J_l2i {X : Cx} {y : MethodName} {cc : ByteArray} {nL : Nat} {ret : Option FieldType} {d mc ms : Nat} {res : Option Value × Hp} {k n pc : Nat} {lv : List (Option Value)} {st : List Value} {h : Hp} (C : Jc X y cc nL ret d mc ms res) {x : Int64} (hd : decode cc pc = .ok (.l2i, 1)) (kk : J X mc ms k n (pc + 1) lv (.int x.toInt32 :: st) h) : J X mc ms k n pc lv (.long x :: st) h := by
  obtain ⟨p, l, e, R, s, m, args, below, meth, c, D, rs⟩ := X
  exact fun H locs ls hR hS hl hL => lv_l2i C.1 C.2.1 hd rfl (kk H locs ls hR hS hl hL)
def lushr (x : Int64) (z : Int32) : Int64 := (x.toUInt64 >>> (z.toInt64.toUInt64 &&& Int64.toUInt64 63)).toInt64
def lshr (x : Int64) (z : Int32) : Int64 := x >>> (z.toInt64 &&& 63)
def lshl (x : Int64) (z : Int32) : Int64 := x <<< (z.toInt64 &&& 63)
theorem J_lushr {X : Cx} {y : MethodName} {cc : ByteArray} {nL : Nat} {ret : Option FieldType} {d mc ms : Nat} {res : Option Value × Hp} {k n pc : Nat} {lv : List (Option Value)} {st : List Value} {h : Hp} (C : Jc X y cc nL ret d mc ms res) {x : Int64} {z : Int32} (hd : decode cc pc = .ok (.lushr, 1)) (kk : J X mc ms k n (pc + 1) lv (.long (lushr x z) :: st) h) : J X mc ms k n pc lv (.int z :: .long x :: st) h := by
  obtain ⟨p, l, e, R, s, m, args, below, meth, c, D, rs⟩ := X
  exact fun H locs ls hR hS hl hL => lv_lushr C.1 C.2.1 hd rfl (kk H locs ls hR hS hl hL)
theorem J_lshr {X : Cx} {y : MethodName} {cc : ByteArray} {nL : Nat} {ret : Option FieldType} {d mc ms : Nat} {res : Option Value × Hp} {k n pc : Nat} {lv : List (Option Value)} {st : List Value} {h : Hp} (C : Jc X y cc nL ret d mc ms res) {x : Int64} {z : Int32} (hd : decode cc pc = .ok (.lshr, 1)) (kk : J X mc ms k n (pc + 1) lv (.long (lshr x z) :: st) h) : J X mc ms k n pc lv (.int z :: .long x :: st) h := by
  obtain ⟨p, l, e, R, s, m, args, below, meth, c, D, rs⟩ := X
  exact fun H locs ls hR hS hl hL => lv_lshr C.1 C.2.1 hd rfl (kk H locs ls hR hS hl hL)
theorem J_lshl {X : Cx} {y : MethodName} {cc : ByteArray} {nL : Nat} {ret : Option FieldType} {d mc ms : Nat} {res : Option Value × Hp} {k n pc : Nat} {lv : List (Option Value)} {st : List Value} {h : Hp} (C : Jc X y cc nL ret d mc ms res) {x : Int64} {z : Int32} (hd : decode cc pc = .ok (.lshl, 1)) (kk : J X mc ms k n (pc + 1) lv (.long (lshl x z) :: st) h) : J X mc ms k n pc lv (.int z :: .long x :: st) h := by
  obtain ⟨p, l, e, R, s, m, args, below, meth, c, D, rs⟩ := X
  exact fun H locs ls hR hS hl hL => lv_lshl C.1 C.2.1 hd rfl (kk H locs ls hR hS hl hL)
theorem J_land {X : Cx} {y : MethodName} {cc : ByteArray} {nL : Nat} {ret : Option FieldType} {d mc ms : Nat} {res : Option Value × Hp} {k n pc : Nat} {lv : List (Option Value)} {st : List Value} {h : Hp} (C : Jc X y cc nL ret d mc ms res) {x z : Int64} (hd : decode cc pc = .ok (.land, 1)) (kk : J X mc ms k n (pc + 1) lv (.long (x &&& z) :: st) h) : J X mc ms k n pc lv (.long z :: .long x :: st) h := by
  obtain ⟨p, l, e, R, s, m, args, below, meth, c, D, rs⟩ := X
  exact fun H locs ls hR hS hl hL => lv_land C.1 C.2.1 hd (kk H locs ls hR hS hl hL)
theorem J_lor {X : Cx} {y : MethodName} {cc : ByteArray} {nL : Nat} {ret : Option FieldType} {d mc ms : Nat} {res : Option Value × Hp} {k n pc : Nat} {lv : List (Option Value)} {st : List Value} {h : Hp} (C : Jc X y cc nL ret d mc ms res) {x z : Int64} (hd : decode cc pc = .ok (.lor, 1)) (kk : J X mc ms k n (pc + 1) lv (.long (x ||| z) :: st) h) : J X mc ms k n pc lv (.long z :: .long x :: st) h := by
  obtain ⟨p, l, e, R, s, m, args, below, meth, c, D, rs⟩ := X
  exact fun H locs ls hR hS hl hL => lv_lor C.1 C.2.1 hd (kk H locs ls hR hS hl hL)
theorem J_iconst {X : Cx} {y : MethodName} {cc : ByteArray} {nL : Nat} {ret : Option FieldType} {d mc ms : Nat} {res : Option Value × Hp} {k n pc : Nat} {lv : List (Option Value)} {st : List Value} {h : Hp} (C : Jc X y cc nL ret d mc ms res) {z : Int} {v : Int32} (hd : decode cc pc = .ok (.iconst z, 1)) (hv : Int32.ofInt z = v) (kk : J X mc ms k n (pc + 1) lv (.int v :: st) h) : J X mc ms k n pc lv (st) h := by
  obtain ⟨p, l, e, R, s, m, args, below, meth, c, D, rs⟩ := X
  exact fun H locs ls hR hS hl hL => lv_iconst C.1 C.2.1 hd hv (kk H locs ls hR hS hl hL)
theorem J_bipush {X : Cx} {y : MethodName} {cc : ByteArray} {nL : Nat} {ret : Option FieldType} {d mc ms : Nat} {res : Option Value × Hp} {k n pc : Nat} {lv : List (Option Value)} {st : List Value} {h : Hp} (C : Jc X y cc nL ret d mc ms res) {z : Int} {v : Int32} (hd : decode cc pc = .ok (.bipush z, 2)) (hv : (Int8.ofInt z).toInt32 = v) (kk : J X mc ms k n (pc + 2) lv (.int v :: st) h) : J X mc ms k n pc lv (st) h := by
  obtain ⟨p, l, e, R, s, m, args, below, meth, c, D, rs⟩ := X
  exact fun H locs ls hR hS hl hL => lv_bipush C.1 C.2.1 hd hv (kk H locs ls hR hS hl hL)
theorem J_sipush {X : Cx} {y : MethodName} {cc : ByteArray} {nL : Nat} {ret : Option FieldType} {d mc ms : Nat} {res : Option Value × Hp} {k n pc : Nat} {lv : List (Option Value)} {st : List Value} {h : Hp} (C : Jc X y cc nL ret d mc ms res) {z : Int} {v : Int32} (hd : decode cc pc = .ok (.sipush z, 3)) (hv : (Int16.ofInt z).toInt32 = v) (kk : J X mc ms k n (pc + 3) lv (.int v :: st) h) : J X mc ms k n pc lv (st) h := by
  obtain ⟨p, l, e, R, s, m, args, below, meth, c, D, rs⟩ := X
  exact fun H locs ls hR hS hl hL => lv_sipush C.1 C.2.1 hd hv (kk H locs ls hR hS hl hL)
theorem J_ldc {X : Cx} {y : MethodName} {cc : ByteArray} {nL : Nat} {ret : Option FieldType} {d mc ms : Nat} {res : Option Value × Hp} {k n pc : Nat} {lv : List (Option Value)} {st : List Value} {h : Hp} (C : Jc X y cc nL ret d mc ms res) {ix : Nat} {v : Int32} (hd : decode cc pc = .ok (.ldc ix, 2)) (hw : Cond.constant y.cls ix v ∈ FT) (kk : J X mc ms k n (pc + 2) lv (.int v :: st) h) : J X mc ms k n pc lv (st) h := by
  obtain ⟨p, l, e, R, s, m, args, below, meth, c, D, rs⟩ := X
  exact fun H locs ls hR hS hl hL => lv_ldc C.1 C.2.1 C.2.2.2.1 (C.2.2.2.2.1 _ hw) hd (kk H locs ls hR hS hl hL)
theorem J_ldcw {X : Cx} {y : MethodName} {cc : ByteArray} {nL : Nat} {ret : Option FieldType} {d mc ms : Nat} {res : Option Value × Hp} {k n pc : Nat} {lv : List (Option Value)} {st : List Value} {h : Hp} (C : Jc X y cc nL ret d mc ms res) {ix : Nat} {v : Int32} (hd : decode cc pc = .ok (.ldc_w ix, 3)) (hw : Cond.constant y.cls ix v ∈ FT) (kk : J X mc ms k n (pc + 3) lv (.int v :: st) h) : J X mc ms k n pc lv (st) h := by
  obtain ⟨p, l, e, R, s, m, args, below, meth, c, D, rs⟩ := X
  exact fun H locs ls hR hS hl hL => lv_ldcw C.1 C.2.1 C.2.2.2.1 (C.2.2.2.2.1 _ hw) hd (kk H locs ls hR hS hl hL)
theorem J_ldc2 {X : Cx} {y : MethodName} {cc : ByteArray} {nL : Nat} {ret : Option FieldType} {d mc ms : Nat} {res : Option Value × Hp} {k n pc : Nat} {lv : List (Option Value)} {st : List Value} {h : Hp} (C : Jc X y cc nL ret d mc ms res) {ix : Nat} {v : Int64} (hd : decode cc pc = .ok (.ldc2_w ix, 3)) (hw : Cond.constantLong y.cls ix v ∈ FT) (kk : J X mc ms k n (pc + 3) lv (.long v :: st) h) : J X mc ms k n pc lv (st) h := by
  obtain ⟨p, l, e, R, s, m, args, below, meth, c, D, rs⟩ := X
  exact fun H locs ls hR hS hl hL => lv_ldc2 C.1 C.2.1 C.2.2.2.1 (C.2.2.2.2.1 _ hw) hd (kk H locs ls hR hS hl hL)
theorem J_dup {X : Cx} {y : MethodName} {cc : ByteArray} {nL : Nat} {ret : Option FieldType} {d mc ms : Nat} {res : Option Value × Hp} {k n pc : Nat} {lv : List (Option Value)} {st : List Value} {h : Hp} (C : Jc X y cc nL ret d mc ms res) {v : Value} (hd : decode cc pc = .ok (.dup, 1)) (hc : v.category = 1) (kk : J X mc ms k n (pc + 1) lv (v :: v :: st) h) : J X mc ms k n pc lv (v :: st) h := by
  obtain ⟨p, l, e, R, s, m, args, below, meth, c, D, rs⟩ := X
  exact fun H locs ls hR hS hl hL => lv_dup C.1 C.2.1 hd hc (kk H locs ls hR hS hl hL)
theorem J_dup2 {X : Cx} {y : MethodName} {cc : ByteArray} {nL : Nat} {ret : Option FieldType} {d mc ms : Nat} {res : Option Value × Hp} {k n pc : Nat} {lv : List (Option Value)} {st : List Value} {h : Hp} (C : Jc X y cc nL ret d mc ms res) {v w : Value} (hd : decode cc pc = .ok (.dup2, 1)) (hc : v.category = 1) (hc2 : w.category = 1) (kk : J X mc ms k n (pc + 1) lv (v :: w :: v :: w :: st) h) : J X mc ms k n pc lv (v :: w :: st) h := by
  obtain ⟨p, l, e, R, s, m, args, below, meth, c, D, rs⟩ := X
  exact fun H locs ls hR hS hl hL => lv_dup2_11 C.1 C.2.1 hd hc hc2 (kk H locs ls hR hS hl hL)
theorem J_pop {X : Cx} {y : MethodName} {cc : ByteArray} {nL : Nat} {ret : Option FieldType} {d mc ms : Nat} {res : Option Value × Hp} {k n pc : Nat} {lv : List (Option Value)} {st : List Value} {h : Hp} (C : Jc X y cc nL ret d mc ms res) {v : Value} (hd : decode cc pc = .ok (.pop, 1)) (hc : v.category = 1) (kk : J X mc ms k n (pc + 1) lv (st) h) : J X mc ms k n pc lv (v :: st) h := by
  obtain ⟨p, l, e, R, s, m, args, below, meth, c, D, rs⟩ := X
  exact fun H locs ls hR hS hl hL => lv_pop C.1 C.2.1 hd hc (kk H locs ls hR hS hl hL)
theorem J_goto {X : Cx} {y : MethodName} {cc : ByteArray} {nL : Nat} {ret : Option FieldType} {d mc ms : Nat} {res : Option Value × Hp} {k n pc : Nat} {lv : List (Option Value)} {st : List Value} {h : Hp} (C : Jc X y cc nL ret d mc ms res) {off : Int} {tgt : Nat} (hd : decode cc pc = .ok (.goto off, 3)) (ht : (pc : Int) + off = (tgt : Int)) (kk : J X mc ms k n tgt lv (st) h) : J X mc ms k n pc lv (st) h := by
  obtain ⟨p, l, e, R, s, m, args, below, meth, c, D, rs⟩ := X
  exact fun H locs ls hR hS hl hL => lv_goto C.1 C.2.1 hd ht (kk H locs ls hR hS hl hL)
theorem J_iload_n {X : Cx} {y : MethodName} {cc : ByteArray} {nL : Nat} {ret : Option FieldType} {d mc ms : Nat} {res : Option Value × Hp} {k n pc : Nat} {lv : List (Option Value)} {st : List Value} {h : Hp} (C : Jc X y cc nL ret d mc ms res) {q : Fin 4} {x : Int32} (hd : decode cc pc = .ok (.iload_n q, 1)) (hx : lv[(q : Nat)]? = some (some (.int x))) (kk : J X mc ms k n (pc + 1) lv (.int x :: st) h) : J X mc ms k n pc lv (st) h := by
  obtain ⟨p, l, e, R, s, m, args, below, meth, c, D, rs⟩ := X
  exact fun H locs ls hR hS hl hL => lv_iload_n C.1 C.2.1 hd rfl (ll_at hl hx) (kk H locs ls hR hS hl hL)
theorem J_iload {X : Cx} {y : MethodName} {cc : ByteArray} {nL : Nat} {ret : Option FieldType} {d mc ms : Nat} {res : Option Value × Hp} {k n pc : Nat} {lv : List (Option Value)} {st : List Value} {h : Hp} (C : Jc X y cc nL ret d mc ms res) {i : Nat} {x : Int32} (hd : decode cc pc = .ok (.iload i, 2)) (hx : lv[i]? = some (some (.int x))) (kk : J X mc ms k n (pc + 2) lv (.int x :: st) h) : J X mc ms k n pc lv (st) h := by
  obtain ⟨p, l, e, R, s, m, args, below, meth, c, D, rs⟩ := X
  exact fun H locs ls hR hS hl hL => lv_iload C.1 C.2.1 hd (ll_at hl hx) (kk H locs ls hR hS hl hL)
theorem J_aload_n {X : Cx} {y : MethodName} {cc : ByteArray} {nL : Nat} {ret : Option FieldType} {d mc ms : Nat} {res : Option Value × Hp} {k n pc : Nat} {lv : List (Option Value)} {st : List Value} {h : Hp} (C : Jc X y cc nL ret d mc ms res) {q : Fin 4} {x : Nat} (hd : decode cc pc = .ok (.aload_n q, 1)) (hx : lv[(q : Nat)]? = some (some (.ref x))) (kk : J X mc ms k n (pc + 1) lv (.ref x :: st) h) : J X mc ms k n pc lv (st) h := by
  obtain ⟨p, l, e, R, s, m, args, below, meth, c, D, rs⟩ := X
  exact fun H locs ls hR hS hl hL => lv_aload_n C.1 C.2.1 hd rfl (ll_at hl hx) (kk H locs ls hR hS hl hL)
theorem J_aload {X : Cx} {y : MethodName} {cc : ByteArray} {nL : Nat} {ret : Option FieldType} {d mc ms : Nat} {res : Option Value × Hp} {k n pc : Nat} {lv : List (Option Value)} {st : List Value} {h : Hp} (C : Jc X y cc nL ret d mc ms res) {i : Nat} {x : Nat} (hd : decode cc pc = .ok (.aload i, 2)) (hx : lv[i]? = some (some (.ref x))) (kk : J X mc ms k n (pc + 2) lv (.ref x :: st) h) : J X mc ms k n pc lv (st) h := by
  obtain ⟨p, l, e, R, s, m, args, below, meth, c, D, rs⟩ := X
  exact fun H locs ls hR hS hl hL => lv_aload C.1 C.2.1 hd (ll_at hl hx) (kk H locs ls hR hS hl hL)
theorem J_lload_n {X : Cx} {y : MethodName} {cc : ByteArray} {nL : Nat} {ret : Option FieldType} {d mc ms : Nat} {res : Option Value × Hp} {k n pc : Nat} {lv : List (Option Value)} {st : List Value} {h : Hp} (C : Jc X y cc nL ret d mc ms res) {q : Fin 4} {x : Int64} (hd : decode cc pc = .ok (.lload_n q, 1)) (hx : lv[(q : Nat)]? = some (some (.long x))) (kk : J X mc ms k n (pc + 1) lv (.long x :: st) h) : J X mc ms k n pc lv (st) h := by
  obtain ⟨p, l, e, R, s, m, args, below, meth, c, D, rs⟩ := X
  exact fun H locs ls hR hS hl hL => lv_lload_n C.1 C.2.1 hd rfl (ll_at hl hx) (kk H locs ls hR hS hl hL)
theorem J_lload {X : Cx} {y : MethodName} {cc : ByteArray} {nL : Nat} {ret : Option FieldType} {d mc ms : Nat} {res : Option Value × Hp} {k n pc : Nat} {lv : List (Option Value)} {st : List Value} {h : Hp} (C : Jc X y cc nL ret d mc ms res) {i : Nat} {x : Int64} (hd : decode cc pc = .ok (.lload i, 2)) (hx : lv[i]? = some (some (.long x))) (kk : J X mc ms k n (pc + 2) lv (.long x :: st) h) : J X mc ms k n pc lv (st) h := by
  obtain ⟨p, l, e, R, s, m, args, below, meth, c, D, rs⟩ := X
  exact fun H locs ls hR hS hl hL => lv_lload C.1 C.2.1 hd (ll_at hl hx) (kk H locs ls hR hS hl hL)
theorem J_istore_n {X : Cx} {y : MethodName} {cc : ByteArray} {nL : Nat} {ret : Option FieldType} {d mc ms : Nat} {res : Option Value × Hp} {k n pc : Nat} {lv : List (Option Value)} {st : List Value} {h : Hp} (C : Jc X y cc nL ret d mc ms res) {lv' : List (Option Value)} {q : Fin 4} {x : Int32} (hd : decode cc pc = .ok (.istore_n q, 1)) (hs : sto lv (q : Nat) (.int x) = some lv') (kk : J X mc ms k n (pc + 1) lv' (st) h) : J X mc ms k n pc lv (.int x :: st) h := by
  obtain ⟨p, l, e, R, s, m, args, below, meth, c, D, rs⟩ := X
  exact fun H locs ls hR hS hl hL => lv_istore_n C.1 C.2.1 hd rfl hl (by rw [← hL]; exact (sto_spec hs).1) rfl (fun ls' hl' => kk H locs ls' hR hS (sto_has hs hl') (by rw [(sto_spec hs).2.1]; exact hL))
theorem J_istore {X : Cx} {y : MethodName} {cc : ByteArray} {nL : Nat} {ret : Option FieldType} {d mc ms : Nat} {res : Option Value × Hp} {k n pc : Nat} {lv : List (Option Value)} {st : List Value} {h : Hp} (C : Jc X y cc nL ret d mc ms res) {lv' : List (Option Value)} {i : Nat} {x : Int32} (hd : decode cc pc = .ok (.istore i, 2)) (hs : sto lv i (.int x) = some lv') (kk : J X mc ms k n (pc + 2) lv' (st) h) : J X mc ms k n pc lv (.int x :: st) h := by
  obtain ⟨p, l, e, R, s, m, args, below, meth, c, D, rs⟩ := X
  exact fun H locs ls hR hS hl hL => lv_istore C.1 C.2.1 hd hl (by rw [← hL]; exact (sto_spec hs).1) rfl (fun ls' hl' => kk H locs ls' hR hS (sto_has hs hl') (by rw [(sto_spec hs).2.1]; exact hL))
theorem J_astore_n {X : Cx} {y : MethodName} {cc : ByteArray} {nL : Nat} {ret : Option FieldType} {d mc ms : Nat} {res : Option Value × Hp} {k n pc : Nat} {lv : List (Option Value)} {st : List Value} {h : Hp} (C : Jc X y cc nL ret d mc ms res) {lv' : List (Option Value)} {q : Fin 4} {x : Nat} (hd : decode cc pc = .ok (.astore_n q, 1)) (hs : sto lv (q : Nat) (.ref x) = some lv') (kk : J X mc ms k n (pc + 1) lv' (st) h) : J X mc ms k n pc lv (.ref x :: st) h := by
  obtain ⟨p, l, e, R, s, m, args, below, meth, c, D, rs⟩ := X
  exact fun H locs ls hR hS hl hL => lv_astore_n C.1 C.2.1 hd rfl hl (by rw [← hL]; exact (sto_spec hs).1) rfl (fun ls' hl' => kk H locs ls' hR hS (sto_has hs hl') (by rw [(sto_spec hs).2.1]; exact hL))
theorem J_astore {X : Cx} {y : MethodName} {cc : ByteArray} {nL : Nat} {ret : Option FieldType} {d mc ms : Nat} {res : Option Value × Hp} {k n pc : Nat} {lv : List (Option Value)} {st : List Value} {h : Hp} (C : Jc X y cc nL ret d mc ms res) {lv' : List (Option Value)} {i : Nat} {x : Nat} (hd : decode cc pc = .ok (.astore i, 2)) (hs : sto lv i (.ref x) = some lv') (kk : J X mc ms k n (pc + 2) lv' (st) h) : J X mc ms k n pc lv (.ref x :: st) h := by
  obtain ⟨p, l, e, R, s, m, args, below, meth, c, D, rs⟩ := X
  exact fun H locs ls hR hS hl hL => lv_astore C.1 C.2.1 hd hl (by rw [← hL]; exact (sto_spec hs).1) rfl (fun ls' hl' => kk H locs ls' hR hS (sto_has hs hl') (by rw [(sto_spec hs).2.1]; exact hL))
theorem ll_idx {lv : List (Option Value)} {i : Nat} {v : Value} (h : lv[i]? = some (some v)) : ∃ k : Nat, (ll 0 lv)[k]? = some (i, v) := by
  have := ll_mem lv 0 i v h
  rw [Nat.zero_add] at this
  exact List.getElem?_of_mem this
theorem J_iinc {X : Cx} {y : MethodName} {cc : ByteArray} {nL : Nat} {ret : Option FieldType} {d mc ms : Nat} {res : Option Value × Hp} {k n pc : Nat} {lv : List (Option Value)} {st : List Value} {h : Hp} (C : Jc X y cc nL ret d mc ms res) {lv' : List (Option Value)} {i : Nat} {z : Int} {x v : Int32} (hd : decode cc pc = .ok (.iinc i z, 3)) (hx : lv[i]? = some (some (.int x))) (hv : Int32.ofInt z = v) (hs : sto lv i (.int (x + v)) = some lv') (kk : J X mc ms k n (pc + 3) lv' st h) : J X mc ms k n pc lv st h := by
  obtain ⟨p, l, e, R, s, m, args, below, meth, c, D, rs⟩ := X
  obtain ⟨kx, hkx⟩ := ll_idx hx
  subst hv
  exact fun H locs ls hR hS hl hL => lv_iinc C.1 C.2.1 hd hl hkx rfl (by rw [← hL]; exact (sto_spec hs).1) rfl (fun ls' hl' => kk H locs ls' hR hS (sto_has hs hl') (by rw [(sto_spec hs).2.1]; exact hL))
theorem J_icmp_eq {X : Cx} {y : MethodName} {cc : ByteArray} {nL : Nat} {ret : Option FieldType} {d mc ms : Nat} {res : Option Value × Hp} {k n pc : Nat} {lv : List (Option Value)} {st : List Value} {h : Hp} (C : Jc X y cc nL ret d mc ms res) {α : Type} {P B : Option α} {r : α} {off : Int} {tgt : Nat} {x z : Int32} (hd : decode cc pc = .ok (.if_icmp .eq off, 3)) (ht : (pc : Int) + off = (tgt : Int)) (hF : (if x = z then P else B) = some r) (kt : P = some r → J X mc ms k n tgt lv st h) (kf : B = some r → J X mc ms k n (pc + 3) lv st h) : J X mc ms k n pc lv (.int z :: .int x :: st) h := by
  obtain ⟨p, l, e, R, s, m, args, below, meth, c, D, rs⟩ := X
  exact fun H locs ls hR hS hl hL => lv_icmp_eq C.1 C.2.1 hd ht (fun hc => kt (by rw [if_pos hc] at hF; exact hF) H locs ls hR hS hl hL) (fun hc => kf (by rw [if_neg hc] at hF; exact hF) H locs ls hR hS hl hL)
theorem J_if_eq {X : Cx} {y : MethodName} {cc : ByteArray} {nL : Nat} {ret : Option FieldType} {d mc ms : Nat} {res : Option Value × Hp} {k n pc : Nat} {lv : List (Option Value)} {st : List Value} {h : Hp} (C : Jc X y cc nL ret d mc ms res) {α : Type} {P B : Option α} {r : α} {off : Int} {tgt : Nat} {x : Int32} (hd : decode cc pc = .ok (.ifCond .eq off, 3)) (ht : (pc : Int) + off = (tgt : Int)) (hF : (if x = 0 then P else B) = some r) (kt : P = some r → J X mc ms k n tgt lv st h) (kf : B = some r → J X mc ms k n (pc + 3) lv st h) : J X mc ms k n pc lv (.int x :: st) h := by
  obtain ⟨p, l, e, R, s, m, args, below, meth, c, D, rs⟩ := X
  exact fun H locs ls hR hS hl hL => lv_if_eq C.1 C.2.1 hd ht (fun hc => kt (by rw [if_pos hc] at hF; exact hF) H locs ls hR hS hl hL) (fun hc => kf (by rw [if_neg hc] at hF; exact hF) H locs ls hR hS hl hL)
theorem J_icmp_ne {X : Cx} {y : MethodName} {cc : ByteArray} {nL : Nat} {ret : Option FieldType} {d mc ms : Nat} {res : Option Value × Hp} {k n pc : Nat} {lv : List (Option Value)} {st : List Value} {h : Hp} (C : Jc X y cc nL ret d mc ms res) {α : Type} {P B : Option α} {r : α} {off : Int} {tgt : Nat} {x z : Int32} (hd : decode cc pc = .ok (.if_icmp .ne off, 3)) (ht : (pc : Int) + off = (tgt : Int)) (hF : (if x = z then P else B) = some r) (kf : P = some r → J X mc ms k n (pc + 3) lv st h) (kt : B = some r → J X mc ms k n tgt lv st h) : J X mc ms k n pc lv (.int z :: .int x :: st) h := by
  obtain ⟨p, l, e, R, s, m, args, below, meth, c, D, rs⟩ := X
  exact fun H locs ls hR hS hl hL => lv_icmp_ne C.1 C.2.1 hd ht (fun hc => kt (by rw [if_neg hc] at hF; exact hF) H locs ls hR hS hl hL) (fun hc => kf (by rw [if_pos hc] at hF; exact hF) H locs ls hR hS hl hL)
theorem J_if_ne {X : Cx} {y : MethodName} {cc : ByteArray} {nL : Nat} {ret : Option FieldType} {d mc ms : Nat} {res : Option Value × Hp} {k n pc : Nat} {lv : List (Option Value)} {st : List Value} {h : Hp} (C : Jc X y cc nL ret d mc ms res) {α : Type} {P B : Option α} {r : α} {off : Int} {tgt : Nat} {x : Int32} (hd : decode cc pc = .ok (.ifCond .ne off, 3)) (ht : (pc : Int) + off = (tgt : Int)) (hF : (if x = 0 then P else B) = some r) (kf : P = some r → J X mc ms k n (pc + 3) lv st h) (kt : B = some r → J X mc ms k n tgt lv st h) : J X mc ms k n pc lv (.int x :: st) h := by
  obtain ⟨p, l, e, R, s, m, args, below, meth, c, D, rs⟩ := X
  exact fun H locs ls hR hS hl hL => lv_if_ne C.1 C.2.1 hd ht (fun hc => kt (by rw [if_neg hc] at hF; exact hF) H locs ls hR hS hl hL) (fun hc => kf (by rw [if_pos hc] at hF; exact hF) H locs ls hR hS hl hL)
theorem J_icmp_lt {X : Cx} {y : MethodName} {cc : ByteArray} {nL : Nat} {ret : Option FieldType} {d mc ms : Nat} {res : Option Value × Hp} {k n pc : Nat} {lv : List (Option Value)} {st : List Value} {h : Hp} (C : Jc X y cc nL ret d mc ms res) {α : Type} {P B : Option α} {r : α} {off : Int} {tgt : Nat} {x z : Int32} (hd : decode cc pc = .ok (.if_icmp .lt off, 3)) (ht : (pc : Int) + off = (tgt : Int)) (hF : (if x < z then P else B) = some r) (kt : P = some r → J X mc ms k n tgt lv st h) (kf : B = some r → J X mc ms k n (pc + 3) lv st h) : J X mc ms k n pc lv (.int z :: .int x :: st) h := by
  obtain ⟨p, l, e, R, s, m, args, below, meth, c, D, rs⟩ := X
  exact fun H locs ls hR hS hl hL => lv_icmp_lt C.1 C.2.1 hd ht (fun hc => kt (by rw [if_pos hc] at hF; exact hF) H locs ls hR hS hl hL) (fun hc => kf (by rw [if_neg hc] at hF; exact hF) H locs ls hR hS hl hL)
theorem J_if_lt {X : Cx} {y : MethodName} {cc : ByteArray} {nL : Nat} {ret : Option FieldType} {d mc ms : Nat} {res : Option Value × Hp} {k n pc : Nat} {lv : List (Option Value)} {st : List Value} {h : Hp} (C : Jc X y cc nL ret d mc ms res) {α : Type} {P B : Option α} {r : α} {off : Int} {tgt : Nat} {x : Int32} (hd : decode cc pc = .ok (.ifCond .lt off, 3)) (ht : (pc : Int) + off = (tgt : Int)) (hF : (if x < 0 then P else B) = some r) (kt : P = some r → J X mc ms k n tgt lv st h) (kf : B = some r → J X mc ms k n (pc + 3) lv st h) : J X mc ms k n pc lv (.int x :: st) h := by
  obtain ⟨p, l, e, R, s, m, args, below, meth, c, D, rs⟩ := X
  exact fun H locs ls hR hS hl hL => lv_if_lt C.1 C.2.1 hd ht (fun hc => kt (by rw [if_pos hc] at hF; exact hF) H locs ls hR hS hl hL) (fun hc => kf (by rw [if_neg hc] at hF; exact hF) H locs ls hR hS hl hL)
theorem J_icmp_ge {X : Cx} {y : MethodName} {cc : ByteArray} {nL : Nat} {ret : Option FieldType} {d mc ms : Nat} {res : Option Value × Hp} {k n pc : Nat} {lv : List (Option Value)} {st : List Value} {h : Hp} (C : Jc X y cc nL ret d mc ms res) {α : Type} {P B : Option α} {r : α} {off : Int} {tgt : Nat} {x z : Int32} (hd : decode cc pc = .ok (.if_icmp .ge off, 3)) (ht : (pc : Int) + off = (tgt : Int)) (hF : (if z ≤ x then P else B) = some r) (kt : P = some r → J X mc ms k n tgt lv st h) (kf : B = some r → J X mc ms k n (pc + 3) lv st h) : J X mc ms k n pc lv (.int z :: .int x :: st) h := by
  obtain ⟨p, l, e, R, s, m, args, below, meth, c, D, rs⟩ := X
  exact fun H locs ls hR hS hl hL => lv_icmp_ge C.1 C.2.1 hd ht (fun hc => kt (by rw [if_pos hc] at hF; exact hF) H locs ls hR hS hl hL) (fun hc => kf (by rw [if_neg hc] at hF; exact hF) H locs ls hR hS hl hL)
theorem J_if_ge {X : Cx} {y : MethodName} {cc : ByteArray} {nL : Nat} {ret : Option FieldType} {d mc ms : Nat} {res : Option Value × Hp} {k n pc : Nat} {lv : List (Option Value)} {st : List Value} {h : Hp} (C : Jc X y cc nL ret d mc ms res) {α : Type} {P B : Option α} {r : α} {off : Int} {tgt : Nat} {x : Int32} (hd : decode cc pc = .ok (.ifCond .ge off, 3)) (ht : (pc : Int) + off = (tgt : Int)) (hF : (if 0 ≤ x then P else B) = some r) (kt : P = some r → J X mc ms k n tgt lv st h) (kf : B = some r → J X mc ms k n (pc + 3) lv st h) : J X mc ms k n pc lv (.int x :: st) h := by
  obtain ⟨p, l, e, R, s, m, args, below, meth, c, D, rs⟩ := X
  exact fun H locs ls hR hS hl hL => lv_if_ge C.1 C.2.1 hd ht (fun hc => kt (by rw [if_pos hc] at hF; exact hF) H locs ls hR hS hl hL) (fun hc => kf (by rw [if_neg hc] at hF; exact hF) H locs ls hR hS hl hL)
theorem J_icmp_gt {X : Cx} {y : MethodName} {cc : ByteArray} {nL : Nat} {ret : Option FieldType} {d mc ms : Nat} {res : Option Value × Hp} {k n pc : Nat} {lv : List (Option Value)} {st : List Value} {h : Hp} (C : Jc X y cc nL ret d mc ms res) {α : Type} {P B : Option α} {r : α} {off : Int} {tgt : Nat} {x z : Int32} (hd : decode cc pc = .ok (.if_icmp .gt off, 3)) (ht : (pc : Int) + off = (tgt : Int)) (hF : (if z < x then P else B) = some r) (kt : P = some r → J X mc ms k n tgt lv st h) (kf : B = some r → J X mc ms k n (pc + 3) lv st h) : J X mc ms k n pc lv (.int z :: .int x :: st) h := by
  obtain ⟨p, l, e, R, s, m, args, below, meth, c, D, rs⟩ := X
  exact fun H locs ls hR hS hl hL => lv_icmp_gt C.1 C.2.1 hd ht (fun hc => kt (by rw [if_pos hc] at hF; exact hF) H locs ls hR hS hl hL) (fun hc => kf (by rw [if_neg hc] at hF; exact hF) H locs ls hR hS hl hL)
theorem J_if_gt {X : Cx} {y : MethodName} {cc : ByteArray} {nL : Nat} {ret : Option FieldType} {d mc ms : Nat} {res : Option Value × Hp} {k n pc : Nat} {lv : List (Option Value)} {st : List Value} {h : Hp} (C : Jc X y cc nL ret d mc ms res) {α : Type} {P B : Option α} {r : α} {off : Int} {tgt : Nat} {x : Int32} (hd : decode cc pc = .ok (.ifCond .gt off, 3)) (ht : (pc : Int) + off = (tgt : Int)) (hF : (if 0 < x then P else B) = some r) (kt : P = some r → J X mc ms k n tgt lv st h) (kf : B = some r → J X mc ms k n (pc + 3) lv st h) : J X mc ms k n pc lv (.int x :: st) h := by
  obtain ⟨p, l, e, R, s, m, args, below, meth, c, D, rs⟩ := X
  exact fun H locs ls hR hS hl hL => lv_if_gt C.1 C.2.1 hd ht (fun hc => kt (by rw [if_pos hc] at hF; exact hF) H locs ls hR hS hl hL) (fun hc => kf (by rw [if_neg hc] at hF; exact hF) H locs ls hR hS hl hL)
theorem J_icmp_le {X : Cx} {y : MethodName} {cc : ByteArray} {nL : Nat} {ret : Option FieldType} {d mc ms : Nat} {res : Option Value × Hp} {k n pc : Nat} {lv : List (Option Value)} {st : List Value} {h : Hp} (C : Jc X y cc nL ret d mc ms res) {α : Type} {P B : Option α} {r : α} {off : Int} {tgt : Nat} {x z : Int32} (hd : decode cc pc = .ok (.if_icmp .le off, 3)) (ht : (pc : Int) + off = (tgt : Int)) (hF : (if x ≤ z then P else B) = some r) (kt : P = some r → J X mc ms k n tgt lv st h) (kf : B = some r → J X mc ms k n (pc + 3) lv st h) : J X mc ms k n pc lv (.int z :: .int x :: st) h := by
  obtain ⟨p, l, e, R, s, m, args, below, meth, c, D, rs⟩ := X
  exact fun H locs ls hR hS hl hL => lv_icmp_le C.1 C.2.1 hd ht (fun hc => kt (by rw [if_pos hc] at hF; exact hF) H locs ls hR hS hl hL) (fun hc => kf (by rw [if_neg hc] at hF; exact hF) H locs ls hR hS hl hL)
theorem J_if_le {X : Cx} {y : MethodName} {cc : ByteArray} {nL : Nat} {ret : Option FieldType} {d mc ms : Nat} {res : Option Value × Hp} {k n pc : Nat} {lv : List (Option Value)} {st : List Value} {h : Hp} (C : Jc X y cc nL ret d mc ms res) {α : Type} {P B : Option α} {r : α} {off : Int} {tgt : Nat} {x : Int32} (hd : decode cc pc = .ok (.ifCond .le off, 3)) (ht : (pc : Int) + off = (tgt : Int)) (hF : (if x ≤ 0 then P else B) = some r) (kt : P = some r → J X mc ms k n tgt lv st h) (kf : B = some r → J X mc ms k n (pc + 3) lv st h) : J X mc ms k n pc lv (.int x :: st) h := by
  obtain ⟨p, l, e, R, s, m, args, below, meth, c, D, rs⟩ := X
  exact fun H locs ls hR hS hl hL => lv_if_le C.1 C.2.1 hd ht (fun hc => kt (by rw [if_pos hc] at hF; exact hF) H locs ls hR hS hl hL) (fun hc => kf (by rw [if_neg hc] at hF; exact hF) H locs ls hR hS hl hL)
theorem J_tsIn {X : Cx} {y : MethodName} {cc : ByteArray} {nL : Nat} {ret : Option FieldType} {d mc ms : Nat} {res : Option Value × Hp} {k n pc : Nat} {lv : List (Option Value)} {st : List Value} {h : Hp} (C : Jc X y cc nL ret d mc ms res) {x : Int32} {dflt lo hi off : Int} {offs : Array Int} {len tgt : Nat} (c0 : Int32) (hx : x = c0) (hd : decode cc pc = .ok (.tableswitch dflt lo hi offs, len)) (h1 : ¬ c0.toInt < lo) (h2 : ¬ hi < c0.toInt) (ho : offs[(c0.toInt - lo).toNat]? = some off) (ht : (pc : Int) + off = (tgt : Int)) (kk : J X mc ms k n tgt lv st h) : J X mc ms k n pc lv (.int x :: st) h := by
  subst hx
  obtain ⟨p, l, e, R, s, m, args, below, meth, c, D, rs⟩ := X
  exact fun H locs ls hR hS hl hL => lv_tableIn C.1 C.2.1 hd h1 h2 ho ht (kk H locs ls hR hS hl hL)
theorem J_tsOut {X : Cx} {y : MethodName} {cc : ByteArray} {nL : Nat} {ret : Option FieldType} {d mc ms : Nat} {res : Option Value × Hp} {k n pc : Nat} {lv : List (Option Value)} {st : List Value} {h : Hp} (C : Jc X y cc nL ret d mc ms res) {x : Int32} {dflt lo hi : Int} {offs : Array Int} {len tgt : Nat} (hd : decode cc pc = .ok (.tableswitch dflt lo hi offs, len)) (hx : x.toInt < lo ∨ hi < x.toInt) (ht : (pc : Int) + dflt = (tgt : Int)) (kk : J X mc ms k n tgt lv st h) : J X mc ms k n pc lv (.int x :: st) h := by
  obtain ⟨p, l, e, R, s, m, args, below, meth, c, D, rs⟩ := X
  exact fun H locs ls hR hS hl hL => lv_tableOut C.1 C.2.1 hd hx ht (kk H locs ls hR hS hl hL)
theorem J_ls {X : Cx} {y : MethodName} {cc : ByteArray} {nL : Nat} {ret : Option FieldType} {d mc ms : Nat} {res : Option Value × Hp} {k n pc : Nat} {lv : List (Option Value)} {st : List Value} {h : Hp} (C : Jc X y cc nL ret d mc ms res) {x : Int32} {dflt off : Int} {ps : Array (Int × Int)} {len tgt : Nat} (hd : decode cc pc = .ok (.lookupswitch dflt ps, len)) (hp : (ps.toList.zip (ps.toList.drop 1)).all (fun (a, next) => a.1 < next.1) = true) (ho : Op.lookupswitch.offset ps.toList dflt x.toInt = off) (ht : (pc : Int) + off = (tgt : Int)) (kk : J X mc ms k n tgt lv st h) : J X mc ms k n pc lv (.int x :: st) h := by
  obtain ⟨p, l, e, R, s, m, args, below, meth, c, D, rs⟩ := X
  exact fun H locs ls hR hS hl hL => lv_lookup C.1 C.2.1 hd hp ho ht (kk H locs ls hR hS hl hL)
theorem J_lsC {X : Cx} {y : MethodName} {cc : ByteArray} {nL : Nat} {ret : Option FieldType} {d mc ms : Nat} {res : Option Value × Hp} {k n pc : Nat} {lv : List (Option Value)} {st : List Value} {h : Hp} (C : Jc X y cc nL ret d mc ms res) {x : Int32} {dflt off : Int} {ps : Array (Int × Int)} {len tgt : Nat} (c0 : Int32) (hx : x = c0) (hd : decode cc pc = .ok (.lookupswitch dflt ps, len)) (hp : (ps.toList.zip (ps.toList.drop 1)).all (fun (a, next) => a.1 < next.1) = true) (ho : Op.lookupswitch.offset ps.toList dflt c0.toInt = off) (ht : (pc : Int) + off = (tgt : Int)) (kk : J X mc ms k n tgt lv st h) : J X mc ms k n pc lv (.int x :: st) h := by
  subst hx
  exact J_ls C hd hp ho ht kk
theorem J_idiv {X : Cx} {y : MethodName} {cc : ByteArray} {nL : Nat} {ret : Option FieldType} {d mc ms : Nat} {res : Option Value × Hp} {k n pc : Nat} {lv : List (Option Value)} {st : List Value} {h : Hp} (C : Jc X y cc nL ret d mc ms res) {α : Type} {K : Int32 → Option α} {r : α} {x z : Int32} (hd : decode cc pc = .ok (.idiv, 1)) (hF : (dvz x z).bind K = some r) (kk : ∀ v, K v = some r → J X mc ms k n (pc + 1) lv (.int v :: st) h) : J X mc ms k n pc lv (.int z :: .int x :: st) h := by
  obtain ⟨v, hv, hF⟩ := bind_some hF
  have hz : ¬ z = 0 := fun hz => by rw [dvz, if_pos hz] at hv; cases hv
  have kk := kk v hF
  rw [dvz, if_neg hz] at hv
  obtain rfl := Option.some.inj hv
  obtain ⟨p, l, e, R, s, m, args, below, meth, c, D, rs⟩ := X
  exact fun H locs ls hR hS hl hL => lv_idiv C.1 C.2.1 hd hz (kk H locs ls hR hS hl hL)
theorem J_irem {X : Cx} {y : MethodName} {cc : ByteArray} {nL : Nat} {ret : Option FieldType} {d mc ms : Nat} {res : Option Value × Hp} {k n pc : Nat} {lv : List (Option Value)} {st : List Value} {h : Hp} (C : Jc X y cc nL ret d mc ms res) {α : Type} {K : Int32 → Option α} {r : α} {x z : Int32} (hd : decode cc pc = .ok (.irem, 1)) (hF : (rmz x z).bind K = some r) (kk : ∀ v, K v = some r → J X mc ms k n (pc + 1) lv (.int v :: st) h) : J X mc ms k n pc lv (.int z :: .int x :: st) h := by
  obtain ⟨v, hv, hF⟩ := bind_some hF
  have hz : ¬ z = 0 := fun hz => by rw [rmz, if_pos hz] at hv; cases hv
  have kk := kk v hF
  rw [rmz, if_neg hz] at hv
  obtain rfl := Option.some.inj hv
  obtain ⟨p, l, e, R, s, m, args, below, meth, c, D, rs⟩ := X
  exact fun H locs ls hR hS hl hL => lv_irem C.1 C.2.1 hd hz (kk H locs ls hR hS hl hL)

/-! fields and arrays -/
def Fg (own : String) (ix ci j : Nat) : Prop := ∃ r : vw_C, cls[ci]? = some r ∧ j < r.2.2 ∧ Cond.fieldLink own ix (r.2.1 j).1 (r.2.1 j).2.1 (r.2.1 j).2.2.1 ∈ FT ∧ ∀ w ∈ u_ws r.1 r.2.1 r.2.2, w ∈ FT
theorem Rl.cell {D : Dc} {h : Hp} {H : Heap} (hR : Rl D h H) {a : Nat} {e : Ce} (he : h.1 a = some e) : va_P D.1 cls [(a, ceE D.2.1 e)] H := by
  intro k q hq
  have hk : k < 1 := (List.getElem?_eq_some_iff.mp hq).1
  rw [show k = 0 by omega] at hq
  cases hq
  exact (hR.2 a e he).2
theorem J_getV {X : Cx} {y : MethodName} {cc : ByteArray} {nL : Nat} {ret : Option FieldType} {d mc ms : Nat} {res : Option Value × Hp} {k n pc : Nat} {lv : List (Option Value)} {st : List Value} {h : Hp} (C : Jc X y cc nL ret d mc ms res) {v : Value} {ix ci j a : Nat} (hd : decode cc pc = .ok (.getfield ix, 3)) (hg : Fg y.cls ix ci j) (hv : getV h ci a j = some v) (kk : J X mc ms k n (pc + 3) lv (v :: st) h) : J X mc ms k n pc lv (.ref a :: st) h := by
  obtain ⟨⟨C0, T0, N0⟩, hc, hj, hlink, hin⟩ := hg
  obtain ⟨fs, he, hfs⟩ := getV_some hv
  obtain ⟨p, l, e, R, s, m, args, below, meth, c, D, rs⟩ := X
  exact fun H locs ls hR hS hl hL => va_get C.1 C.2.1 C.2.2.2.2.1 hin C.2.2.2.1 C.2.2.2.2.2.1.1 (hR.cell he) 0 (fs := fs) (ci := ci) rfl hc j hj (C.2.2.2.2.1 _ hlink) (fun _ h9 => h9) hfs hd (kk H locs ls hR hS hl hL)
theorem J_getI {X : Cx} {y : MethodName} {cc : ByteArray} {nL : Nat} {ret : Option FieldType} {d mc ms : Nat} {res : Option Value × Hp} {k n pc : Nat} {lv : List (Option Value)} {st : List Value} {h : Hp} (C : Jc X y cc nL ret d mc ms res) {α : Type} {K : Int32 → Option α} {r : α} {ix ci j a : Nat} (hd : decode cc pc = .ok (.getfield ix, 3)) (hg : Fg y.cls ix ci j) (hF : (getI h ci a j).bind K = some r) (kk : ∀ v, K v = some r → J X mc ms k n (pc + 3) lv (.int v :: st) h) : J X mc ms k n pc lv (.ref a :: st) h := by
  obtain ⟨v, hv, hF⟩ := bind_some hF
  exact J_getV C hd hg (getI_some hv) (kk v hF)
theorem J_getR {X : Cx} {y : MethodName} {cc : ByteArray} {nL : Nat} {ret : Option FieldType} {d mc ms : Nat} {res : Option Value × Hp} {k n pc : Nat} {lv : List (Option Value)} {st : List Value} {h : Hp} (C : Jc X y cc nL ret d mc ms res) {α : Type} {K : Nat → Option α} {r : α} {ix ci j a : Nat} (hd : decode cc pc = .ok (.getfield ix, 3)) (hg : Fg y.cls ix ci j) (hF : (getR h ci a j).bind K = some r) (kk : ∀ v, K v = some r → J X mc ms k n (pc + 3) lv (.ref v :: st) h) : J X mc ms k n pc lv (.ref a :: st) h := by
  obtain ⟨v, hv, hF⟩ := bind_some hF
  exact J_getV C hd hg (getR_some hv) (kk v hF)
theorem J_iald {X : Cx} {y : MethodName} {cc : ByteArray} {nL : Nat} {ret : Option FieldType} {d mc ms : Nat} {res : Option Value × Hp} {k n pc : Nat} {lv : List (Option Value)} {st : List Value} {h : Hp} (C : Jc X y cc nL ret d mc ms res) {α : Type} {K : Int32 → Option α} {r : α} {a : Nat} {i : Int32} (hd : decode cc pc = .ok (.iaload, 1)) (hF : (rdI h a i).bind K = some r) (kk : ∀ v, K v = some r → J X mc ms k n (pc + 1) lv (.int v :: st) h) : J X mc ms k n pc lv (.int i :: .ref a :: st) h := by
  obtain ⟨v, hv, hF⟩ := bind_some hF
  have kk := kk v hF
  obtain ⟨N, f, he, hin, rfl⟩ := rdI_some hv
  obtain ⟨p, l, e, R, s, m, args, below, meth, c, D, rs⟩ := X
  exact fun H locs ls hR hS hl hL => va_iald C.1 C.2.1 C.2.2.2.2.2.1.1 (hR.cell he) 0 0 rfl rfl hin hd (kk H locs ls hR hS hl hL)
theorem J_alen {X : Cx} {y : MethodName} {cc : ByteArray} {nL : Nat} {ret : Option FieldType} {d mc ms : Nat} {res : Option Value × Hp} {k n pc : Nat} {lv : List (Option Value)} {st : List Value} {h : Hp} (C : Jc X y cc nL ret d mc ms res) {α : Type} {K : Int32 → Option α} {r : α} {a : Nat} (hd : decode cc pc = .ok (.arraylength, 1)) (hF : (lenA h a).bind K = some r) (kk : ∀ v, K v = some r → J X mc ms k n (pc + 1) lv (.int v :: st) h) : J X mc ms k n pc lv (.ref a :: st) h := by
  obtain ⟨v, hv, hF⟩ := bind_some hF
  have kk := kk v hF
  obtain ⟨N, f, he, rfl⟩ := lenA_some hv
  obtain ⟨p, l, e, R, s, m, args, below, meth, c, D, rs⟩ := X
  exact fun H locs ls hR hS hl hL => va_alen C.1 C.2.1 C.2.2.2.2.2.1.1 (hR.cell he) 0 0 rfl rfl rfl hd (kk H locs ls hR hS hl hL)
theorem J_aald {X : Cx} {y : MethodName} {cc : ByteArray} {nL : Nat} {ret : Option FieldType} {d mc ms : Nat} {res : Option Value × Hp} {k n pc : Nat} {lv : List (Option Value)} {st : List Value} {h : Hp} (C : Jc X y cc nL ret d mc ms res) {α : Type} {K : Nat → Option α} {r : α} {a : Nat} {i : Int32} (hd : decode cc pc = .ok (.aaload, 1)) (hF : (rdR h a i).bind K = some r) (kk : ∀ v, K v = some r → J X mc ms k n (pc + 1) lv (.ref v :: st) h) : J X mc ms k n pc lv (.int i :: .ref a :: st) h := by
  obtain ⟨v, hv, hF⟩ := bind_some hF
  have kk := kk v hF
  obtain ⟨kd, N, f, he, hin, hf⟩ := rdR_some hv
  have hlt : i.toNatClampNeg < N := Nat.not_le.mp fun q => hin (Or.inr q)
  obtain ⟨p, l, e, R, s, m, args, below, meth, c, D, rs⟩ := X
  intro H locs ls hR hS hl hL
  have kk := kk H locs ls hR hS hl hL
  have hK := C.2.2.2.2.2.1.1
  have hP := hR.cell he
  have go : ∀ ty : FieldType, ty.isReference = true → ArrOfT s (D.2.1 (if kd = 0 then 1 else 2)) ty → W p l e R s m args below meth c H locs k n (MQ below (Qm D rs) args s mc ms (frA D)) (F0 m pc ls (.int i :: .ref a :: st)) := fun ty hty hA =>
    W.aald (v := .ref v) (ty := ty) C.1 C.2.1 (hP 0 _ rfl) (hA N (fun j => va_rf (f j))) hty (fun q => by cases q) (by show ¬ (i < 0 ∨ (arrV _ _ _).slots.size ≤ _); rw [arrV_size]; exact hin) (by show (arrV _ _ _).slots[_]? = _; rw [arrV_read _ _ hlt, hf]; rfl) rfl rfl hd kk
  by_cases hk : kd = 0
  · exact go (.array .int) rfl (by rw [if_pos hk]; exact (hK.2 1 _ rfl).1)
  · exact go (.object RX7) rfl (by rw [if_neg hk]; exact (hK.2 2 _ rfl).1)
/-- a store into the cell a: what the small heap says afterwards -/
theorem Rl.set {D : Dc} {h : Hp} {H H1 : Heap} (hR : Rl D h H) {a : Nat} {e e' : Ce} (he : h.1 a = some e) (h1 : va_at D.1 cls (a, ceE D.2.1 e') H1) (z : H1.size = H.size) (o : ∀ q, q ≠ a → H1[q]? = H[q]?) : Rl D (setC h a e') H1 := by
  refine ⟨hR.1.trans z.symm, fun b eb hb => ?_⟩
  unfold setC at hb
  dsimp only at hb
  by_cases hq : b = a
  · subst hq
    rw [if_pos rfl] at hb
    obtain rfl := Option.some.inj hb
    exact ⟨(hR.2 b e he).1, h1⟩
  · rw [if_neg hq] at hb
    exact ⟨(hR.2 b eb hb).1, (hR.2 b eb hb).2.kept (o b hq)⟩
theorem J_iast {X : Cx} {y : MethodName} {cc : ByteArray} {nL : Nat} {ret : Option FieldType} {d mc ms : Nat} {res : Option Value × Hp} {k n pc : Nat} {lv : List (Option Value)} {st : List Value} {h : Hp} (C : Jc X y cc nL ret d mc ms res) {α : Type} {K : Hp → Option α} {r : α} {a : Nat} {i v : Int32} (hd : decode cc pc = .ok (.iastore, 1)) (hF : (wrI h a i v).bind K = some r) (kk : ∀ h', K h' = some r → J X mc ms k n (pc + 1) lv st h') : J X mc ms k n pc lv (.int v :: .int i :: .ref a :: st) h := by
  obtain ⟨h', hv, hF⟩ := bind_some hF
  have kk := kk h' hF
  obtain ⟨N, f, he, hin, rfl⟩ := wrI_some hv
  obtain ⟨p, l, e, R, s, m, args, below, meth, c, D, rs⟩ := X
  intro H locs ls hR hS hl hL
  refine W.iast C.1 C.2.1 ((hR.cell he) 0 _ rfl) ((C.2.2.2.2.2.1.1.2 0 _ rfl).1 N (fun j => .int (f j))) (fun q => by cases q) (by show ¬ (i < 0 ∨ (arrV _ _ _).slots.size ≤ _); rw [arrV_size]; exact hin) rfl rfl hd fun H1 e1 z oq => ?_
  refine kk H1 _ ls (hR.set he ?_ z oq) (hS.put z oq (hR.2 a _ he).1) hl hL
  show H1[a]? = some (vp_cell _ _)
  rw [e1]
  rw [vp_cell_i, vp_cell_i, arrV_store]
  congr 2
  funext q
  by_cases hq : q = i.toNatClampNeg
  · subst hq
    simp [updV, upd]
  · simp [updV, upd, hq]
/-- a field that may be written: not final, or in a constructor of its own class -/
def Fp (own : String) (nm : String) (ix ci j : Nat) (ty : FieldType) : Prop := Fg own ix ci j ∧ ∃ (r : vw_C) (ty0 : Nat → FieldType), cls[ci]? = some r ∧ (∀ k, k < r.2.2 → parseFieldDescriptor (r.2.1 k).2.2.1 = some (ty0 k)) ∧ (∀ a, a < r.2.2 → ∀ b, b < r.2.2 → a ≠ b → (r.2.1 a).2.1 ≠ (r.2.1 b).2.1) ∧ ty0 j = ty ∧ ((r.2.1 j).2.2.2 = false ∨ ((r.2.1 j).2.2.2 = true ∧ nm = "<init>" ∧ (r.2.1 j).1 = own))
theorem J_putV {X : Cx} {y : MethodName} {cc : ByteArray} {nL : Nat} {ret : Option FieldType} {d mc ms : Nat} {res : Option Value × Hp} {k n pc : Nat} {lv : List (Option Value)} {st : List Value} {h : Hp} (C : Jc X y cc nL ret d mc ms res) {ty : FieldType} {v : Value} {ix ci j a : Nat} {h' : Hp} (hd : decode cc pc = .ok (.putfield ix, 3)) (hg : Fp y.cls y.name ix ci j ty) (hv : putV h ci a j v = some h') (hn : narrow ty v = v) (hfit : fits ty v = true) (kk : J X mc ms k n (pc + 3) lv st h') : J X mc ms k n pc lv (v :: .ref a :: st) h := by
  obtain ⟨⟨⟨C0, T0, N0⟩, hc, hj, hlink, hin⟩, ⟨r, ty0, hcr, hty, hnm, htj, hfin⟩⟩ := hg
  have hr : r = (C0, T0, N0) := Option.some.inj (hcr.symm.trans hc)
  subst hr
  obtain ⟨fs, he, hlen, rfl⟩ := putV_some hv
  obtain ⟨p, l, e, R, s, m, args, below, meth, c, D, rs⟩ := X
  intro H locs ls hR hS hl hL
  have hts := C.2.2.2.2.1
  have hown := C.2.2.2.1
  have hK := C.2.2.2.2.2.1.1
  have hap := va_apart (own := y.cls) hts hin ty0 hty hnm hK hc
  obtain ⟨r, h1, cell, q1, q2, q3, q4⟩ := hR.cell he 0 _ rfl
  have hr : r = (C0, T0, N0) := Option.some.inj (h1.symm.trans hc)
  subst hr
  obtain ⟨hSl, hfc, kC, hkC, hkind⟩ := hK.1 ci _ hc
  obtain ⟨cf, kf, fi, f, hi, hsl⟩ := hSl j hj
  have hlay := hts _ (hin _ (u_in_lay hj))
  have hst := (u_facts hfc hkC (u_lays hts hin hj) hi).1
  have fin : ∀ (H' : Heap), H'[a]? = some (cell.setSlot f.slot v) → H'.size = H.size → (∀ q, q ≠ a → H'[q]? = H[q]?) → W p l e R s m args below meth c H' (locs ++ [⟨a, f.slot⟩]) k n (MQ below (Qm D rs) args s mc ms (frA D)) (F0 m (pc + 3) ls st) := by
    intro H' e1 e2 e3
    rw [hsl] at e1 ⊢
    exact kk H' _ ls (hR.set he ⟨_, hc, t_OB.to (V := updV (vp_V fs) j v) ⟨_, e1, q2, q3, t_set q4 hap hj v⟩ (fun i _ => vp_updV_set hlen v i)⟩ e2 e3) (hS.put e2 e3 (hR.2 a _ he).1) hl hL
  rcases hfin with hfin | ⟨hfin, hin2, hdecl⟩
  · unfold u_lay at hlay
    rw [if_neg (by rw [hfin]; decide)] at hlay
    have h6 := u_store hfc hkC hkind hlay hi (htj ▸ hty j hj) hn hfit
    exact W.putK C.1 C.2.1 (f := f) ⟨hown, hts _ hlink, ⟨_, _, _, hi⟩, hst⟩ (by rw [q2]; exact h6) q1 q3 (by rw [hsl]; exact k2_hasslot (q4 j hj)) rfl rfl hd fin
  · unfold u_lay at hlay
    rw [if_pos hfin] at hlay
    have hcf : m.cls = cf := by
      obtain ⟨_, _, c', _, _, _, -, -, hf', -, -, -, hown2, -⟩ := Cond.laysFinal_spec hlay
      have e1 : c' = cf := by have := hi.symm.trans hf'; simp at this; exact this.1.symm
      rw [hdecl] at hown2
      rw [← e1]; exact Option.some.inj (hown.symm.trans hown2)
    have h6 := u_fits hfc hkC hkind (Or.inr hlay) hi (htj ▸ hty j hj) hn hfit
    exact W.putFinK C.1 C.2.1 hown (hts _ hlink) hi hst hcf (C.2.2.2.2.2.2.2.2.1.trans hin2) (by rw [q2]; exact h6) q1 q3 (by rw [hsl]; exact k2_hasslot (q4 j hj)) rfl rfl hd fin
theorem J_put {X : Cx} {y : MethodName} {cc : ByteArray} {nL : Nat} {ret : Option FieldType} {d mc ms : Nat} {res : Option Value × Hp} {k n pc : Nat} {lv : List (Option Value)} {st : List Value} {h : Hp} (C : Jc X y cc nL ret d mc ms res) {α : Type} {K : Hp → Option α} {r : α} {ty : FieldType} {v : Value} {ix ci j a : Nat} (hd : decode cc pc = .ok (.putfield ix, 3)) (hg : Fp y.cls y.name ix ci j ty) (hF : (putV h ci a j v).bind K = some r) (hn : narrow ty v = v) (hfit : fits ty v = true) (kk : ∀ h', K h' = some r → J X mc ms k n (pc + 3) lv st h') : J X mc ms k n pc lv (v :: .ref a :: st) h := by
  obtain ⟨h', hv, hF⟩ := bind_some hF
  exact J_putV C hd hg hv hn hfit (kk h' hF)
theorem bz_some {v w : Int32} (h : bz v = some w) : w = v ∧ narrow .boolean (.int v) = .int v ∧ fits .boolean (.int v) = true := by
  unfold bz at h
  split at h
  next hc =>
    refine ⟨(Option.some.inj h).symm, ?_⟩
    rcases hc with rfl | rfl <;> exact ⟨rfl, rfl⟩
  next => cases h
theorem J_putB {X : Cx} {y : MethodName} {cc : ByteArray} {nL : Nat} {ret : Option FieldType} {d mc ms : Nat} {res : Option Value × Hp} {k n pc : Nat} {lv : List (Option Value)} {st : List Value} {h : Hp} (C : Jc X y cc nL ret d mc ms res) {α : Type} {K : Hp → Option α} {r : α} {v : Int32} {ix ci j a : Nat} (hd : decode cc pc = .ok (.putfield ix, 3)) (hg : Fp y.cls y.name ix ci j .boolean) (hF : (bz v).bind (fun v => (putV h ci a j (.int v)).bind K) = some r) (kk : ∀ h', K h' = some r → J X mc ms k n (pc + 3) lv st h') : J X mc ms k n pc lv (.int v :: .ref a :: st) h := by
  obtain ⟨w, hw, hF2⟩ := bind_some hF
  obtain ⟨rfl, h1, h2⟩ := bz_some hw
  obtain ⟨h', hv, hF3⟩ := bind_some hF2
  exact J_putV C hd hg hv h1 h2 (kk h' hF3)
/-! the statics: tables of numbers -/
def tAx (X : Cx) : Nat := X.2.2.2.2.2.2.2.2.2.2.1.2.2.2.1
def tBx (X : Cx) : Nat := X.2.2.2.2.2.2.2.2.2.2.1.2.2.2.2
theorem J_getsA {X : Cx} {y : MethodName} {cc : ByteArray} {nL : Nat} {ret : Option FieldType} {d mc ms : Nat} {res : Option Value × Hp} {k n pc : Nat} {lv : List (Option Value)} {st : List Value} {h : Hp} (C : Jc X y cc nL ret d mc ms res) {ix : Nat} (hd : decode cc pc = .ok (.getstatic ix, 3)) (hl : Cond.fieldLink y.cls ix "FourthFace" "ABOVE" "[I" ∈ FT) (kk : J X mc ms k n (pc + 3) lv (.ref (tAx X) :: st) h) : J X mc ms k n pc lv st h := by
  obtain ⟨p, l, e, R, s, m, args, below, meth, c, D, rs⟩ := X
  exact fun H locs ls hR hS hl' hL => va_gets C.1 C.2.1 C.2.2.2.2.2.1.2.2.1.1 hS C.2.2.2.1 (C.2.2.2.2.1 _ hl) (fun _ h9 => h9) hd (kk H locs ls hR hS hl' hL)
theorem J_getsB {X : Cx} {y : MethodName} {cc : ByteArray} {nL : Nat} {ret : Option FieldType} {d mc ms : Nat} {res : Option Value × Hp} {k n pc : Nat} {lv : List (Option Value)} {st : List Value} {h : Hp} (C : Jc X y cc nL ret d mc ms res) {ix : Nat} (hd : decode cc pc = .ok (.getstatic ix, 3)) (hl : Cond.fieldLink y.cls ix "FourthFace$Voices" "BODIES" "[I" ∈ FT) (kk : J X mc ms k n (pc + 3) lv (.ref (tBx X) :: st) h) : J X mc ms k n pc lv st h := by
  obtain ⟨p, l, e, R, s, m, args, below, meth, c, D, rs⟩ := X
  exact fun H locs ls hR hS hl' hL => va_gets C.1 C.2.1 C.2.2.2.2.2.1.2.2.2.1.1 hS C.2.2.2.1 (C.2.2.2.2.1 _ hl) (fun _ h9 => h9) hd (kk H locs ls hR hS hl' hL)
theorem J_getsAN {X : Cx} {y : MethodName} {cc : ByteArray} {nL : Nat} {ret : Option FieldType} {d mc ms : Nat} {res : Option Value × Hp} {k n pc : Nat} {lv : List (Option Value)} {st : List Value} {h : Hp} (C : Jc X y cc nL ret d mc ms res) (hd : decode cc pc = .ok (.getstatic 44, 3)) (hy : y.cls = "FourthFace$Voices") (kk : J X mc ms k n (pc + 3) lv (.ref (tAx X) :: st) h) : J X mc ms k n pc lv st h := by
  obtain ⟨p, l, e, R, s, m, args, below, meth, c, D, rs⟩ := X
  exact fun H locs ls hR hS hl' hL => va_getsN C.1 C.2.1 C.2.2.2.2.2.1.2.2.1.1 hS (own := "FourthFace$Voices") (by rw [← hy]; exact C.2.2.2.1) (va_Nw.use rfl C.2.2.2.2.2.1.2.2.2.2.2.1) (fun _ h9 => h9) hd (kk H locs ls hR hS hl' hL)
theorem rdT_some {N : Nat} {f : Nat → Int32} {i v : Int32} (hv : rdT N f i = some v) : vp_in i N ∧ v = f i.toNatClampNeg := by
  unfold rdT at hv
  split at hv
  next => cases hv
  next hc => exact ⟨hc, (Option.some.inj hv).symm⟩
theorem J_tiA {X : Cx} {y : MethodName} {cc : ByteArray} {nL : Nat} {ret : Option FieldType} {d mc ms : Nat} {res : Option Value × Hp} {k n pc : Nat} {lv : List (Option Value)} {st : List Value} {h : Hp} (C : Jc X y cc nL ret d mc ms res) {α : Type} {K : Int32 → Option α} {r : α} {i : Int32} (hd : decode cc pc = .ok (.iaload, 1)) (hF : (rdT 7 tabA i).bind K = some r) (kk : ∀ v, K v = some r → J X mc ms k n (pc + 1) lv (.int v :: st) h) : J X mc ms k n pc lv (.int i :: .ref (tAx X) :: st) h := by
  obtain ⟨v, hv, hF⟩ := bind_some hF
  obtain ⟨hin, hv⟩ := rdT_some hv
  have kk := kk v hF
  subst hv
  obtain ⟨p, l, e, R, s, m, args, below, meth, c, D, rs⟩ := X
  exact fun H locs ls hR hS hl hL => va_ti C.1 C.2.1 C.2.2.2.2.2.1.2.2.1.2 hS hin rfl hd (kk H locs ls hR hS hl hL)
theorem J_tiB {X : Cx} {y : MethodName} {cc : ByteArray} {nL : Nat} {ret : Option FieldType} {d mc ms : Nat} {res : Option Value × Hp} {k n pc : Nat} {lv : List (Option Value)} {st : List Value} {h : Hp} (C : Jc X y cc nL ret d mc ms res) {α : Type} {K : Int32 → Option α} {r : α} {i : Int32} (hd : decode cc pc = .ok (.iaload, 1)) (hF : (rdT 28 tabB i).bind K = some r) (kk : ∀ v, K v = some r → J X mc ms k n (pc + 1) lv (.int v :: st) h) : J X mc ms k n pc lv (.int i :: .ref (tBx X) :: st) h := by
  obtain ⟨v, hv, hF⟩ := bind_some hF
  obtain ⟨hin, hv⟩ := rdT_some hv
  have kk := kk v hF
  subst hv
  obtain ⟨p, l, e, R, s, m, args, below, meth, c, D, rs⟩ := X
  exact fun H locs ls hR hS hl hL => va_ti C.1 C.2.1 C.2.2.2.2.2.1.2.2.2.1.2 hS hin rfl hd (kk H locs ls hR hS hl hL)
/-! ends -/
theorem J_iret {X : Cx} {y : MethodName} {cc : ByteArray} {nL : Nat} {d mc ms : Nat} {k n pc : Nat} {lv : List (Option Value)} {h : Hp} {v : Int32} {z : Int32 × Hp} (C : Jc X y cc nL (some .int) d mc ms (some (.int z.1), z.2)) (hd : decode cc pc = .ok (.ireturn, 1)) (hF : some (v, h) = some z) (hk : k ≤ mc) (hn : n ≤ ms) : J X mc ms k n pc lv [.int v] h := by
  cases hF
  obtain ⟨p, l, e, R, s, m, args, below, meth, c, D, rs⟩ := X
  intro H locs ls hR hS hl hL
  obtain ⟨hx, hb, hml, ho, hts, hKk, hrt, hlk2, hnm, hRm, rfl⟩ := C
  refine W.widen (k := mc) (n := ms) hk hn ?_
  exact W.iret hx hb hrt (v := v) (fun t ht hW => ⟨⟨rfl, by rw [ht]; exact hR⟩, hS.F ht⟩) hS.2.2 hd hlk2
theorem J_iretP {X : Cx} {y : MethodName} {cc : ByteArray} {nL : Nat} {d mc ms : Nat} {k n pc : Nat} {lv : List (Option Value)} {h : Hp} {v : Int32} {z : Int32} (C : Jc X y cc nL (some .int) d mc ms (some (.int z), h)) (hd : decode cc pc = .ok (.ireturn, 1)) (hF : some v = some z) (hk : k ≤ mc) (hn : n ≤ ms) : J X mc ms k n pc lv [.int v] h := by
  cases hF
  obtain ⟨p, l, e, R, s, m, args, below, meth, c, D, rs⟩ := X
  intro H locs ls hR hS hl hL
  obtain ⟨hx, hb, hml, ho, hts, hKk, hrt, hlk2, hnm, hRm, rfl⟩ := C
  refine W.widen (k := mc) (n := ms) hk hn ?_
  exact W.iret hx hb hrt (v := v) (fun t ht hW => ⟨⟨rfl, by rw [ht]; exact hR⟩, hS.F ht⟩) hS.2.2 hd hlk2
theorem J_zret {X : Cx} {y : MethodName} {cc : ByteArray} {nL : Nat} {d mc ms : Nat} {k n pc : Nat} {lv : List (Option Value)} {h : Hp} {v : Int32} {z : Int32 × Hp} (C : Jc X y cc nL (some .boolean) d mc ms (some (.int z.1), z.2)) (hd : decode cc pc = .ok (.ireturn, 1)) (hnr : narrow .boolean (.int v) = .int v) (hF : some (v, h) = some z) (hk : k ≤ mc) (hn : n ≤ ms) : J X mc ms k n pc lv [.int v] h := by
  cases hF
  obtain ⟨p, l, e, R, s, m, args, below, meth, c, D, rs⟩ := X
  intro H locs ls hR hS hl hL
  obtain ⟨hx, hb, hml, ho, hts, hKk, hrt, hlk2, hnm, hRm, rfl⟩ := C
  refine W.widen (k := mc) (n := ms) hk hn ?_
  exact W.zret hx hb hrt hnr (v := v) (fun t ht hW => ⟨⟨rfl, by rw [ht]; exact hR⟩, hS.F ht⟩) hS.2.2 hd hlk2
theorem J_zretP {X : Cx} {y : MethodName} {cc : ByteArray} {nL : Nat} {d mc ms : Nat} {k n pc : Nat} {lv : List (Option Value)} {h : Hp} {v : Int32} {z : Int32} (C : Jc X y cc nL (some .boolean) d mc ms (some (.int z), h)) (hd : decode cc pc = .ok (.ireturn, 1)) (hnr : narrow .boolean (.int v) = .int v) (hF : some v = some z) (hk : k ≤ mc) (hn : n ≤ ms) : J X mc ms k n pc lv [.int v] h := by
  cases hF
  obtain ⟨p, l, e, R, s, m, args, below, meth, c, D, rs⟩ := X
  intro H locs ls hR hS hl hL
  obtain ⟨hx, hb, hml, ho, hts, hKk, hrt, hlk2, hnm, hRm, rfl⟩ := C
  refine W.widen (k := mc) (n := ms) hk hn ?_
  exact W.zret hx hb hrt hnr (v := v) (fun t ht hW => ⟨⟨rfl, by rw [ht]; exact hR⟩, hS.F ht⟩) hS.2.2 hd hlk2
theorem J_aret {X : Cx} {y : MethodName} {cc : ByteArray} {nL : Nat} {d mc ms : Nat} {k n pc : Nat} {lv : List (Option Value)} {h : Hp} {rt : FieldType} {v : Nat} {z : Nat × Hp} (C : Jc X y cc nL (some rt) d mc ms (some (.ref z.1), z.2)) (hd : decode cc pc = .ok (.areturn, 1)) (hrt0 : (∃ n, rt = .object n) ∨ ∃ t, rt = .array t) (hF : some (v, h) = some z) (hk : k ≤ mc) (hn : n ≤ ms) : J X mc ms k n pc lv [.ref v] h := by
  cases hF
  obtain ⟨p, l, e, R, s, m, args, below, meth, c, D, rs⟩ := X
  intro H locs ls hR hS hl hL
  obtain ⟨hx, hb, hml, ho, hts, hKk, hrt, hlk2, hnm, hRm, rfl⟩ := C
  refine W.widen (k := mc) (n := ms) hk hn ?_
  exact W.aret hx hb hrt hrt0 (Or.inr ⟨v, rfl⟩) (fun t ht hW => ⟨⟨rfl, by rw [ht]; exact hR⟩, hS.F ht⟩) hS.2.2 hd hlk2
theorem J_aretP {X : Cx} {y : MethodName} {cc : ByteArray} {nL : Nat} {d mc ms : Nat} {k n pc : Nat} {lv : List (Option Value)} {h : Hp} {rt : FieldType} {v : Nat} {z : Nat} (C : Jc X y cc nL (some rt) d mc ms (some (.ref z), h)) (hd : decode cc pc = .ok (.areturn, 1)) (hrt0 : (∃ n, rt = .object n) ∨ ∃ t, rt = .array t) (hF : some v = some z) (hk : k ≤ mc) (hn : n ≤ ms) : J X mc ms k n pc lv [.ref v] h := by
  cases hF
  obtain ⟨p, l, e, R, s, m, args, below, meth, c, D, rs⟩ := X
  intro H locs ls hR hS hl hL
  obtain ⟨hx, hb, hml, ho, hts, hKk, hrt, hlk2, hnm, hRm, rfl⟩ := C
  refine W.widen (k := mc) (n := ms) hk hn ?_
  exact W.aret hx hb hrt hrt0 (Or.inr ⟨v, rfl⟩) (fun t ht hW => ⟨⟨rfl, by rw [ht]; exact hR⟩, hS.F ht⟩) hS.2.2 hd hlk2
theorem J_vret {X : Cx} {y : MethodName} {cc : ByteArray} {nL : Nat} {d mc ms : Nat} {k n pc : Nat} {lv : List (Option Value)} {h : Hp} {z : Hp} (C : Jc X y cc nL none d mc ms (none, z)) (hd : decode cc pc = .ok (.return_, 1)) (hF : some h = some z) (hk : k ≤ mc) (hn : n ≤ ms) : J X mc ms k n pc lv [] h := by
  cases hF
  obtain ⟨p, l, e, R, s, m, args, below, meth, c, D, rs⟩ := X
  intro H locs ls hR hS hl hL
  obtain ⟨hx, hb, hml, ho, hts, hKk, hrt, hlk2, hnm, hRm, rfl⟩ := C
  refine W.widen (k := mc) (n := ms) hk hn ?_
  exact W.vret hx hb hrt (fun t ht hW => ⟨⟨rfl, by rw [ht]; exact hR⟩, hS.F ht⟩) hS.2.2 hd hlk2
theorem J_vretP {X : Cx} {y : MethodName} {cc : ByteArray} {nL : Nat} {d mc ms : Nat} {k n pc : Nat} {lv : List (Option Value)} {h : Hp} {z : Unit} (C : Jc X y cc nL none d mc ms (none, h)) (hd : decode cc pc = .ok (.return_, 1)) (hF : some () = some z) (hk : k ≤ mc) (hn : n ≤ ms) : J X mc ms k n pc lv [] h := by
  obtain ⟨p, l, e, R, s, m, args, below, meth, c, D, rs⟩ := X
  intro H locs ls hR hS hl hL
  obtain ⟨hx, hb, hml, ho, hts, hKk, hrt, hlk2, hnm, hRm, rfl⟩ := C
  refine W.widen (k := mc) (n := ms) hk hn ?_
  exact W.vret hx hb hrt (fun t ht hW => ⟨⟨rfl, by rw [ht]; exact hR⟩, hS.F ht⟩) hS.2.2 hd hlk2
/-! calls -/
theorem Kk.same {D : Dc} {s U : State} (hvm : s.vm = U.vm) (hh : s.heap = U.heap) (h : Kk D s) : Kk D U := by
  obtain ⟨h1, h2, ⟨h3, h4⟩, ⟨h5, h6⟩, h7, h8, h9, h10⟩ := h
  have ha : s.vm.Alike U.vm := by rw [hvm]; exact Vm.Alike.refl _
  refine ⟨h1.moved ha, by rw [← hh]; exact h2, ⟨by rw [← hh]; exact h3.moved ha, by rw [← hh]; exact h4.moved ha⟩, ⟨by rw [← hh]; exact h5.moved ha, by rw [← hh]; exact h6.moved ha⟩, fun q hq => (h7 q hq).same rfl hvm, h8.same rfl hvm, h9.moved ha, aoI_moved ha h10⟩
theorem FB {D : Dc} {av : List Value} {h : Hp} : FrameBlind (va_Pc av (fun U => Rl D h U.heap ∧ Kk D U)) := fun a U g mk q => ⟨q.1, q.2.1, q.2.2.same (U := U.calling g mk a) rfl rfl⟩
def Yw (y : MethodName) (cc : ByteArray) (nL : Nat) (ret : Option FieldType) (np : Nat) : Prop := Cond.code y cc nL ret ∈ FT ∧ Cond.initialized y.cls ∈ FT ∧ (y.cls ≠ "java/lang/invoke/MethodHandle" ∧ y.cls ≠ "java/lang/invoke/VarHandle") ∧ (parseMethodDescriptor y.desc).map (fun d => d.parameters.length) = some np ∧ nL ≤ 45
theorem Yw.len {y : MethodName} {cc : ByteArray} {nL np : Nat} {ret : Option FieldType} (h : Yw y cc nL ret np) : ∀ sig, parseMethodDescriptor y.desc = some sig → np = sig.parameters.length := fun sig hs => by
  have h2 := h.2.2.2.1
  rw [hs] at h2
  exact (Option.some.inj h2).symm
theorem FT_warm {s : State} {args : Array Value} (hts : ∀ w ∈ FT, w.before args s = true) {y : MethodName} {cc : ByteArray} {nL np : Nat} {ret : Option FieldType} (hy : Yw y cc nL ret np) : ∀ w ∈ (Cond.code y cc nL ret :: FT), ∀ (a' : Array Value) (U : State), s.WarmedH U.vm → w.before a' U = true := by
  intro w hw a' U hW
  have hw : w ∈ FT := by
    rcases List.mem_cons.mp hw with rfl | h
    · exact hy.1
    · exact h
  exact word_at hW (good_of_word (List.mem_filter.mp hw).2) (hts w hw)
/-- what every call comes to: the callee's end, the frame, and on -/
theorem J_run {p : Program} {l : Launch} {e : Env} {R : Room} {s : State} {m : MethodId} {args : Array Value} {below : List Frame} {meth : Method} {c : Code} {D : Dc} {rs rs' : Option Value × Hp} {H : Heap} {locs : List Loc} {ls : Array Slot} {k n mc ms mc' ms' pc : Nat} {lv : List (Option Value)} {st stk : List Value} {a : Array Value} {h : Hp}
    (run : va_Run p l e R s m args below meth c H locs k n mc' ms' (F0 m pc ls stk) st (Qm D rs' a) (frA D)) (hR : Rl D h H) (hS : va_S (frA D) s.heap H locs) (hl : lv_has ls c.maxLocals (ll 0 lv)) (hL : lv.length = c.maxLocals)
    (kk : J (p, l, e, R, s, m, args, below, meth, c, D, rs) mc ms (k + mc') (n + ms') (pc + 3) lv (rs'.1.toList ++ st) rs'.2) : W p l e R s m args below meth c H locs k n (MQ below (Qm D rs) args s mc ms (frA D)) (F0 m pc ls stk) := by
  intro T hT X
  obtain ⟨v, st₀, t, T', L, h0, X', hL', e1, e2, ⟨⟨hv, hr⟩, hz, hk⟩, st9⟩ := run T hT X
  cases hv
  rw [h0] at hz hk
  obtain ⟨t2, a1, b1⟩ := kk T'.heap (locs ++ L) ls (by rw [e1]; exact hr) ⟨Nat.le_trans hS.1 (by rw [e1]; exact hz), fun q h1 h2 => by rw [e1, hk q (Nat.lt_of_lt_of_le h1 hS.1) h2]; exact hS.2.1 q h1 h2, fun q hq => by
      rcases List.mem_append.mp hq with h | h
      · exact hS.2.2 q h
      · exact hL' q h⟩ hl hL T' rfl X'
  exact ⟨t2, st9 t2 a1, b1⟩
theorem J_callV {X : Cx} {y : MethodName} {cc : ByteArray} {nL : Nat} {ret : Option FieldType} {d mc ms : Nat} {res : Option Value × Hp} {k n pc : Nat} {lv : List (Option Value)} {st : List Value} {h : Hp} (C : Jc X y cc nL ret d mc ms res) {y' : MethodName} {cc' : ByteArray} {nL' np d' mc' ms' ix ci b : Nat} {ret' : Option FieldType} {As stk : List Value} {rs' : Option Value × Hp} (hd : decode cc pc = .ok (.invokevirtual ix, 3)) (hy : Yw y' cc' nL' ret' np) (hlk : Cond.methodLink y.cls ix y' ∈ FT) (hin : Cond.instanceMethod y' ∈ FT) (hsel : Cond.selects y'.cls y' y' ∈ FT) (hc : ∃ r, cls[ci]? = some r ∧ r.1 = y'.cls)
    (hM : Mc y' cc' nL' ret' d' mc' ms' (.ref b :: As) h rs') (hrecv : ∃ fs, h.1 b = some (.inl (ci, fs))) (hnp : As.length = np) (hdd : d' + 1 ≤ d) (hk : k + mc' ≤ mc) (hn : n + ms' ≤ ms) (hst : stk = As.reverse ++ .ref b :: st) (hcat : (st.map fun v => v.category).sum ≤ 8)
    (kk : J X mc ms (k + mc') (n + ms') (pc + 3) lv (rs'.1.toList ++ st) rs'.2) : J X mc ms k n pc lv stk h := by
  obtain ⟨p, l, e, R, s, m, args, below, meth, c, D, rs⟩ := X
  obtain ⟨fs, he⟩ := hrecv
  obtain ⟨r, hr, hrn⟩ := hc
  intro H locs ls hR hS hl hL
  obtain ⟨hx, hb, hml, ho, hts, hKk, hrt, hlk2, hnm, hRm, -⟩ := C
  subst hRm
  refine J_run (va_runV (Ts := FT) (cc := cc) ⟨hx, hb, hml, ho, hts⟩ (hM l D) (C := y'.cls) (bytes := cc') (maxL := nL') (ret := ret') ⟨⟨rfl, rfl, hdd, by have := hy.2.2.2.2; show 8 + (nL' + 11) + 64 * d' ≤ 64 * d; omega, FT_warm hts hy, List.mem_cons_self, hts _ hy.1, hts _ hy.2.1, hy.2.2.1, hy.len, hts _ hlk⟩, hts _ hin, hts _ hsel⟩
    ⟨FB, by rw [← hrn]; exact va_recv (q0 := 0) (ci := ci) (fs := fs) hKk.1 (hR.cell he) hr rfl, fun U hU hW => ⟨rfl, by rw [hU]; exact hR, hKk.moved hW hU hS⟩⟩ rfl hnp (hl.1.trans hml) hst (by show 2 * 0 + _ ≤ 8; omega) hd ⟨hk, hn⟩) hR hS hl hL kk
theorem J_callS {X : Cx} {y : MethodName} {cc : ByteArray} {nL : Nat} {ret : Option FieldType} {d mc ms : Nat} {res : Option Value × Hp} {k n pc : Nat} {lv : List (Option Value)} {st : List Value} {h : Hp} (C : Jc X y cc nL ret d mc ms res) {y' : MethodName} {cc' : ByteArray} {nL' np d' mc' ms' ix : Nat} {ret' : Option FieldType} {As stk : List Value} {rs' : Option Value × Hp} (hd : decode cc pc = .ok (.invokestatic ix, 3)) (hy : Yw y' cc' nL' ret' np) (hlk : Cond.methodLink y.cls ix y' ∈ FT) (hin : Cond.static y' ∈ FT)
    (hM : Mc y' cc' nL' ret' d' mc' ms' As h rs') (hnp : As.length = np) (hdd : d' + 1 ≤ d) (hk : k + mc' ≤ mc) (hn : n + ms' ≤ ms) (hst : stk = As.reverse ++ st) (hcat : (st.map fun v => v.category).sum ≤ 8)
    (kk : J X mc ms (k + mc') (n + ms') (pc + 3) lv (rs'.1.toList ++ st) rs'.2) : J X mc ms k n pc lv stk h := by
  obtain ⟨p, l, e, R, s, m, args, below, meth, c, D, rs⟩ := X
  intro H locs ls hR hS hl hL
  obtain ⟨hx, hb, hml, ho, hts, hKk, hrt, hlk2, hnm, hRm, -⟩ := C
  subst hRm
  refine J_run (va_runS (Ts := FT) (cc := cc) ⟨hx, hb, hml, ho, hts⟩ (hM l D) (bytes := cc') (maxL := nL') (ret := ret') ⟨⟨rfl, rfl, hdd, by have := hy.2.2.2.2; show 8 + (nL' + 11) + 64 * d' ≤ 64 * d; omega, FT_warm hts hy, List.mem_cons_self, hts _ hy.1, hts _ hy.2.1, hy.2.2.1, hy.len, hts _ hlk⟩, hts _ hin⟩
    ⟨FB, fun U hU hW => ⟨rfl, by rw [hU]; exact hR, hKk.moved hW hU hS⟩⟩ rfl hnp (hl.1.trans hml) hst (by show 2 * 0 + _ ≤ 8; omega) hd ⟨hk, hn⟩) hR hS hl hL kk
theorem J_callSN {X : Cx} {y : MethodName} {cc : ByteArray} {nL : Nat} {ret : Option FieldType} {d mc ms : Nat} {res : Option Value × Hp} {k n pc : Nat} {lv : List (Option Value)} {st : List Value} {h : Hp} (C : Jc X y cc nL ret d mc ms res) {y' : MethodName} {cc' : ByteArray} {nL' np d' mc' ms' ix : Nat} {ret' : Option FieldType} {As stk : List Value} {rs' : Option Value × Hp} (hd : decode cc pc = .ok (.invokestatic ix, 3)) (hy : Yw y' cc' nL' ret' np) (hlk : (y.cls, ix, y') ∈ nestM) (hin : Cond.static y' ∈ FT)
    (hM : Mc y' cc' nL' ret' d' mc' ms' As h rs') (hnp : As.length = np) (hdd : d' + 1 ≤ d) (hk : k + mc' ≤ mc) (hn : n + ms' ≤ ms) (hst : stk = As.reverse ++ st) (hcat : (st.map fun v => v.category).sum ≤ 8)
    (kk : J X mc ms (k + mc') (n + ms') (pc + 3) lv (rs'.1.toList ++ st) rs'.2) : J X mc ms k n pc lv stk h := by
  obtain ⟨p, l, e, R, s, m, args, below, meth, c, D, rs⟩ := X
  intro H locs ls hR hS hl hL
  obtain ⟨hx, hb, hml, ho, hts, hKk, hrt, hlk2, hnm, hRm, -⟩ := C
  subst hRm
  refine J_run (va_runSN (Ts := FT) (cc := cc) (host := "FourthFace") ⟨hx, hb, hml, ho, hts⟩ (hM l D) (bytes := cc') (maxL := nL') (ret := ret') ⟨⟨⟨rfl, rfl, hdd, by have := hy.2.2.2.2; show 8 + (nL' + 11) + 64 * d' ≤ 64 * d; omega, FT_warm hts hy, List.mem_cons_self⟩, hts _ hy.1, hts _ hy.2.1, hy.2.2.1, hy.len, va_Nw.use rfl (hKk.2.2.2.2.1 _ hlk)⟩, hts _ hin, trivial⟩
    ⟨FB, fun U hU hW => ⟨rfl, by rw [hU]; exact hR, hKk.moved hW hU hS⟩⟩ rfl hnp (hl.1.trans hml) hst (by show 2 * 0 + _ ≤ 8; omega) hd ⟨hk, hn⟩) hR hS hl hL kk
theorem J_callI {X : Cx} {y : MethodName} {cc : ByteArray} {nL : Nat} {ret : Option FieldType} {d mc ms : Nat} {res : Option Value × Hp} {k n pc : Nat} {lv : List (Option Value)} {st : List Value} {h : Hp} (C : Jc X y cc nL ret d mc ms res) {y' : MethodName} {cc' : ByteArray} {nL' np d' mc' ms' ix b : Nat} {As stk : List Value} {rs' : Option Value × Hp} (hd : decode cc pc = .ok (.invokespecial ix, 3)) (hy : Yw y' cc' nL' none np) (hlk : Cond.methodLink y.cls ix y' ∈ FT) (hnmi : y'.name = "<init>") (hin : Cond.instanceMethod y' ∈ FT)
    (hM : Mc y' cc' nL' none d' mc' ms' (.ref b :: As) h rs') (hnp : As.length = np) (hdd : d' + 1 ≤ d) (hk : k + mc' ≤ mc) (hn : n + ms' ≤ ms) (hst : stk = As.reverse ++ .ref b :: st) (hcat : (st.map fun v => v.category).sum ≤ 8)
    (kk : J X mc ms (k + mc') (n + ms') (pc + 3) lv (rs'.1.toList ++ st) rs'.2) : J X mc ms k n pc lv stk h := by
  obtain ⟨p, l, e, R, s, m, args, below, meth, c, D, rs⟩ := X
  intro H locs ls hR hS hl hL
  obtain ⟨hx, hb, hml, ho, hts, hKk, hrt, hlk2, hnm, hRm, -⟩ := C
  subst hRm
  refine J_run (va_runI (Ts := FT) (cc := cc) ⟨hx, hb, hml, ho, hts⟩ (hM l D) (bytes := cc') (maxL := nL') ⟨⟨rfl, rfl, hdd, by have := hy.2.2.2.2; show 8 + (nL' + 11) + 64 * d' ≤ 64 * d; omega, FT_warm hts hy, List.mem_cons_self, hts _ hy.1, hts _ hy.2.1, hy.2.2.1, hy.len, hts _ hlk⟩, hnmi, hts _ hin⟩
    ⟨FB, fun U hU hW => ⟨rfl, by rw [hU]; exact hR, hKk.moved hW hU hS⟩⟩ rfl hnp (hl.1.trans hml) hst (by show 2 * 0 + _ ≤ 8; omega) hd ⟨hk, hn⟩) hR hS hl hL kk
theorem J_callIN {X : Cx} {y : MethodName} {cc : ByteArray} {nL : Nat} {ret : Option FieldType} {d mc ms : Nat} {res : Option Value × Hp} {k n pc : Nat} {lv : List (Option Value)} {st : List Value} {h : Hp} (C : Jc X y cc nL ret d mc ms res) {y' : MethodName} {cc' : ByteArray} {nL' np d' mc' ms' ix b : Nat} {As stk : List Value} {rs' : Option Value × Hp} (hd : decode cc pc = .ok (.invokespecial ix, 3)) (hy : Yw y' cc' nL' none np) (hlk : (y.cls, ix, y') ∈ nestM) (hnmi : y'.name = "<init>") (hin : Cond.instanceMethod y' ∈ FT)
    (hM : Mc y' cc' nL' none d' mc' ms' (.ref b :: As) h rs') (hnp : As.length = np) (hdd : d' + 1 ≤ d) (hk : k + mc' ≤ mc) (hn : n + ms' ≤ ms) (hst : stk = As.reverse ++ .ref b :: st) (hcat : (st.map fun v => v.category).sum ≤ 8)
    (kk : J X mc ms (k + mc') (n + ms') (pc + 3) lv (rs'.1.toList ++ st) rs'.2) : J X mc ms k n pc lv stk h := by
  obtain ⟨p, l, e, R, s, m, args, below, meth, c, D, rs⟩ := X
  intro H locs ls hR hS hl hL
  obtain ⟨hx, hb, hml, ho, hts, hKk, hrt, hlk2, hnm, hRm, -⟩ := C
  subst hRm
  refine J_run (va_runIN (Ts := FT) (cc := cc) (host := "FourthFace") ⟨hx, hb, hml, ho, hts⟩ (hM l D) (bytes := cc') (maxL := nL') ⟨⟨⟨rfl, rfl, hdd, by have := hy.2.2.2.2; show 8 + (nL' + 11) + 64 * d' ≤ 64 * d; omega, FT_warm hts hy, List.mem_cons_self⟩, hts _ hy.1, hts _ hy.2.1, hy.2.2.1, hy.len, va_Nw.use rfl (hKk.2.2.2.2.1 _ hlk)⟩, hnmi, hts _ hin⟩
    ⟨FB, fun U hU hW => ⟨rfl, by rw [hU]; exact hR, hKk.moved hW hU hS⟩⟩ rfl hnp (hl.1.trans hml) hst (by show 2 * 0 + _ ≤ 8; omega) hd ⟨hk, hn⟩) hR hS hl hL kk
theorem oi_inst : Cond.instanceMethod objectInit ∈ FT := FT_of 93 (by decide +kernel) (by decide +kernel)
theorem oi_code : Cond.code objectInit ⟨#[0xb1]⟩ 1 none ∈ FT := FT_of 94 (by decide +kernel) (by decide +kernel)
theorem J_objInit {X : Cx} {y : MethodName} {cc : ByteArray} {nL : Nat} {ret : Option FieldType} {d mc ms : Nat} {res : Option Value × Hp} {k n pc : Nat} {lv : List (Option Value)} {st : List Value} {h : Hp} (C : Jc X y cc nL ret d mc ms res) {ix a : Nat} (hd : decode cc pc = .ok (.invokespecial ix, 3)) (hlk : Cond.methodLink y.cls ix objectInit ∈ FT) (hdd : 1 ≤ d) (hcat : (st.map fun v => v.category).sum ≤ 8) (kk : J X mc ms k n (pc + 3) lv st h) : J X mc ms k n pc lv (.ref a :: st) h := by
  obtain ⟨p, l, e, R, s, m, args, below, meth, c, D, rs⟩ := X
  intro H locs ls hR hS hl hL
  obtain ⟨hx, hb, hml, ho, hts, hKk, hrt, hlk2, hnm, hRm, -⟩ := C
  subst hRm
  exact W.objInit hx hb ho (hts _ hlk) (hts _ oi_inst) (hts _ oi_code) rfl hl.1 rfl hd hdd (by show 2 * 0 + _ + 12 ≤ 64 * d; omega) (kk H locs ls hR hS hl hL)
/-- a method's contract, out of its walk -/
theorem Mc_of {y : MethodName} {cc : ByteArray} {nL : Nat} {ret : Option FieldType} {d mc ms : Nat} {av : List Value} {h : Hp} {res : Option Value × Hp} (lv : List (Option Value)) (hy : plainName y.cls = true) (hll : lv_args 0 av = ll 0 lv) (hlen : lv.length = nL) (hsl : (lg_sl av).length ≤ nL) (hJ : ∀ X, Jc X y cc nL ret d mc ms res → J X mc ms 0 0 0 lv [] h) : Mc y cc nL ret d mc ms av h res := by
  intro l D
  refine Met.ofW (cc := cc) (maxL := nL) (ret := ret) hy rfl ?_
  intro p e s m args below meth c s₁ B hml hv
  obtain ⟨rfl, hR, hK⟩ := hv
  have hts := atoms_spec (ws := .code y cc nL ret :: FT) B.pre
  have hl := lv_entry av (n := nL) hsl
  rw [lg_entry_eq]
  generalize (lg_sl av ++ List.replicate (nL - (lg_sl av).length) Slot.unset).toArray = ls at hl ⊢
  rw [hll] at hl
  exact hJ (p, l, e, _, s, m, _, below, meth, c, D, res) ⟨B.exec, B.bytes, hml, findClass_of_methodNamed B.named, fun w hw => hts w (List.mem_cons_of_mem _ hw), hK, B.returns, B.notSynchronized, (name_of_methodNamed B.named B.method).1, rfl, rfl⟩ s.heap [] ls hR va_S.rf (by rw [hml]; exact hl) (by rw [hml]; exact hlen)
theorem Mc.widen {y : MethodName} {cc : ByteArray} {nL : Nat} {ret : Option FieldType} {d mc ms : Nat} {av : List Value} {h : Hp} {res res' : Option Value × Hp} (hM : Mc y cc nL ret d mc ms av h res) (hr : res = res') : Mc y cc nL ret d mc ms av h res' := hr ▸ hM
end
section

/-! cells that come: rows, objects, copies; stretches copied -/
theorem Rl.new {D : Dc} {h : Hp} {H H1 : Heap} {e : Ce} (hR : Rl D h H) (hb : D.2.2.1 ≤ H.size) (h1 : va_at D.1 cls (H.size, ceE D.2.1 e) H1) (z : H1.size = H.size + 1) (o : ∀ q, q < H.size → H1[q]? = H[q]?) : Rl D (newC h e) H1 := by
  refine ⟨by show h.2 + 1 = _; rw [hR.1, z], fun b eb hb' => ?_⟩
  unfold newC at hb'
  dsimp only at hb'
  by_cases hq : b = h.2
  · subst hq
    rw [if_pos rfl] at hb'
    obtain rfl := Option.some.inj hb'
    rw [hR.1]
    exact ⟨hb, h1⟩
  · rw [if_neg hq] at hb'
    have h2 := hR.2 b eb hb'
    exact ⟨h2.1, h2.2.kept (o b h2.2.lt)⟩
theorem va_S.new {A : Nat → Prop} {H0 H H1 : Heap} {locs : List Loc} (h : va_S A H0 H locs) (z : H1.size = H.size + 1) (o : ∀ q, q < H.size → H1[q]? = H[q]?) : va_S A H0 H1 locs :=
  ⟨Nat.le_trans h.1 (by omega), fun x h1 h2 => (o x (Nat.lt_of_lt_of_le h1 h.1)).trans (h.2.1 x h1 h2), h.2.2⟩
theorem arI {D : Dc} {s : State} (h : Kk D s) {cA : ClassId} (hc : s.vm.findClass ("[" ++ (newarray.typeOf .int).toString) = some cA) : cA = D.2.1 0 :=
  Option.some.inj (hc.symm.trans (h.1.2 0 _ rfl).2)
theorem J_newarr {X : Cx} {y : MethodName} {cc : ByteArray} {nL : Nat} {ret : Option FieldType} {d mc ms : Nat} {res : Option Value × Hp} {k n pc : Nat} {lv : List (Option Value)} {st : List Value} {h : Hp} (C : Jc X y cc nL ret d mc ms res) {α : Type} {K : Nat × Hp → Option α} {r : α} {cap : Nat} {z : Int32} (hd : decode cc pc = .ok (.newarray .int, 2)) (hw : Cond.arrayClass .int ∈ FT) (hcap : cap ≤ 1000) (hk : k + 1 ≤ mc) (hn : n + cap ≤ ms) (hF : (newA cap h z).bind K = some r) (kk : ∀ q, K q = some r → J X mc ms (k + 1) (n + cap) (pc + 2) lv (.ref q.1 :: st) q.2) : J X mc ms k n pc lv (.int z :: st) h := by
  obtain ⟨q, hq, hF⟩ := bind_some hF
  unfold newA at hq
  split at hq
  next => cases hq
  next hc =>
    have kk := kk q hF
    obtain rfl := Option.some.inj hq
    simp only [not_or, Nat.not_lt] at hc
    obtain ⟨p, l, e, R, s, m, args, below, meth, c, D, rs⟩ := X
    intro H locs ls hR hS hl hL
    obtain ⟨hx, hb, hml, ho, hts, hKk, hrt, hlk2, hnm, hRm, -⟩ := C
    subst hRm
    refine va_newaK (atype := .int) hx hb (hts _ hw) rfl hd rfl hc.1 rfl (by show _ * 4 ≤ _; omega) hk (by show n + _ ≤ ms; omega) hR.1.symm fun H1 cA e1 z1 o1 hAr hNm => ?_
    have hcA := arI hKk hNm
    subst hcA
    have z2 : H1.size = H.size + 1 := by rw [z1, hR.1]
    have o2 : ∀ q, q < H.size → H1[q]? = H[q]? := fun q hq => o1 q (by rw [hR.1]; exact hq)
    refine W.widen (k := k + 1) (n := n + cap) (Nat.le_refl _) (by omega) ?_
    exact kk H1 _ ls (hR.new (Nat.le_trans hKk.2.1 hS.1) (by rw [hR.1] at e1; exact e1) z2 o2) (hS.new z2 o2) hl hL
def newO (h : Hp) (ci : Nat) (fs : List Value) : Option (Nat × Hp) := some (h.2, newC h (.inl (ci, fs)))
def Fn (own : String) (ix ci N : Nat) (fs : List Value) : Prop := ∃ (r : vw_C) (ty : Nat → FieldType), cls[ci]? = some r ∧ r.2.2 = N ∧ (∀ w ∈ u_ws r.1 r.2.1 r.2.2, w ∈ FT) ∧ (∀ k, k < r.2.2 → parseFieldDescriptor (r.2.1 k).2.2.1 = some (ty k)) ∧ Cond.classLink own ix r.1 ∈ FT ∧ Cond.instantiable r.1 r.2.2 ∈ FT ∧ Cond.initialized r.1 ∈ FT ∧ ∀ j, j < r.2.2 → defaultValue (ty j) = vp_V fs j
theorem J_new {X : Cx} {y : MethodName} {cc : ByteArray} {nL : Nat} {ret : Option FieldType} {d mc ms : Nat} {res : Option Value × Hp} {k n pc : Nat} {lv : List (Option Value)} {st : List Value} {h : Hp} (C : Jc X y cc nL ret d mc ms res) {α : Type} {K : Nat × Hp → Option α} {r : α} {ix ci N : Nat} {fs : List Value} (hd : decode cc pc = .ok (.new ix, 3)) (hf : Fn y.cls ix ci N fs) (hk : k + 1 ≤ mc) (hn : n + N ≤ ms) (hF : (newO h ci fs).bind K = some r) (kk : ∀ q, K q = some r → J X mc ms (k + 1) (n + N) (pc + 3) lv (.ref q.1 :: st) q.2) : J X mc ms k n pc lv st h := by
  obtain ⟨q, hq, hF⟩ := bind_some hF
  have kk := kk q hF
  obtain rfl := Option.some.inj hq
  obtain ⟨⟨C0, T0, N0⟩, ty, hc, rfl, hin, hty, hcl, hinst, hini, hfs⟩ := hf
  obtain ⟨p, l, e, R, s, m, args, below, meth, c, D, rs⟩ := X
  intro H locs ls hR hS hl hL
  obtain ⟨hx, hb, hml, ho, hts, hKk, hrt, hlk2, hnm, hRm, -⟩ := C
  subst hRm
  have hKn := hKk.1.1 ci _ hc
  refine W.newcK hx hb ho (hts _ hcl) (hts _ hinst) (hts _ hini) rfl hd hk hn hKn.2.1 rfl fun H1 kC hkC e1 z1 o1 => ?_
  have := kk H1 locs ls (hR.new (Nat.le_trans hKk.2.1 hS.1) ⟨_, hc, (u_born ty hts hin hKn hkC e1 hty).to hfs⟩ z1 o1) (hS.new z1 o1) hl hL
  rw [← hR.1]
  exact this
theorem J_acopy {X : Cx} {y : MethodName} {cc : ByteArray} {nL : Nat} {ret : Option FieldType} {d mc ms : Nat} {res : Option Value × Hp} {k n pc : Nat} {lv : List (Option Value)} {st : List Value} {h : Hp} (C : Jc X y cc nL ret d mc ms res) {α : Type} {K : Hp → Option α} {r : α} {ix a0 a1 : Nat} {sp dp z : Int32} (hd : decode cc pc = .ok (.invokestatic ix, 3)) (hlk : Cond.methodLink y.cls ix arraycopyName ∈ FT) (h1w : Cond.native arraycopyName ∈ FT) (h2w : Cond.static arraycopyName ∈ FT) (h3w : Cond.initialized "java/lang/System" ∈ FT) (hdd : 1 ≤ d) (hcat : (st.map fun v => v.category).sum ≤ 8) (hF : (acopy h a0 sp a1 dp z).bind K = some r) (kk : ∀ h', K h' = some r → J X mc ms k n (pc + 3) lv st h') : J X mc ms k n pc lv (.int z :: .int dp :: .ref a1 :: .int sp :: .ref a0 :: st) h := by
  obtain ⟨h', hv, hF⟩ := bind_some hF
  have kk := kk h' hF
  obtain ⟨n0, f, n1, g, he0, he1, g1, g2, g3, g4, g5, rfl⟩ := acopy_some hv
  obtain ⟨p, l, e, R, s, m, args, below, meth, c, D, rs⟩ := X
  intro H locs ls hR hS hl hL
  obtain ⟨hx, hb, hml, ho, hts, hKk, hrt, hlk2, hnm, hRm, -⟩ := C
  subst hRm
  have nn : ∀ z : Int32, ¬ z < 0 → z.toInt = (z.toNatClampNeg : Int) := by
    intro z hz
    have hz0 : (0 : Int) ≤ z.toInt := by
      have := Int32.not_lt.mp hz
      simpa using Int32.le_iff_toInt_le.mp this
    show z.toInt = ((z.toInt.toNat : Nat) : Int)
    omega
  intro T hT XS
  have hc0 : H[a0]? = some (vp_cell (D.2.1 0) (n0, .inl f)) := hR.cell he0 0 _ rfl
  have hc1 : H[a1]? = some (vp_cell (D.2.1 0) (n1, .inl g)) := hR.cell he1 0 _ rfl
  obtain ⟨-, k0, hk0, cm0, hkk0⟩ := (hKk.1.2 0 _ rfl).1 n0 (fun j => .int (f j))
  obtain ⟨-, k1, hk1, cm1, hkk1⟩ := (hKk.1.2 0 _ rfl).1 n1 (fun j => .int (g j))
  obtain ⟨vm', X', step⟩ := XS.arraycopy hx ho (hts _ hlk) (hts _ h1w) (hts _ h2w) (hts _ h3w) (src := a0) (dst := a1) (cs := vp_cell (D.2.1 0) (n0, .inl f)) (cd := vp_cell (D.2.1 0) (n1, .inl g)) (srcPos := sp) (destPos := dp) (n := z) (by rw [hT]; exact hc0) (by rw [hT]; exact hc1)
    (fun _ h => by cases h) (fun _ h => by cases h) (fun h => by cases h) (fun h => by cases h) hk0 hk1 hkk0 hkk1 (by simp [refKind]) g1 g2 g3
    (by rw [nn sp g1, nn z g3]; show ¬ _ > ((arrV (D.2.1 0) n0 (fun j => .int (f j))).slots.size : Int); rw [arrV_size]; omega)
    (by rw [nn dp g2, nn z g3]; show ¬ _ > ((arrV (D.2.1 0) n1 (fun j => .int (g j))).slots.size : Int); rw [arrV_size]; omega)
    (fun vm₁ _ i hi => by
      have e : (vp_cell (D.2.1 0) (n0, .inl f)).slots.getD (sp.toNatClampNeg + i) .null = .int (f (sp.toNatClampNeg + i)) := by
        show (arrV (D.2.1 0) n0 (fun j => .int (f j))).slots.getD _ _ = _
        rw [Array.getD_eq_getD_getElem?, arrV_read _ _ (by omega)]
        rfl
      refine ⟨?_, ?_⟩
      · rw [e]
        rfl
      · rw [e]
        exact trivial)
    (g := F0 m pc ls (.int z :: .int dp :: .ref a1 :: .int sp :: .ref a0 :: st)) rfl hl.1 (rest := st) rfl (by rw [hb]; exact hd) hdd (by have h9 : nativeFrameWords "java/lang/System" "arraycopy" 5 + 11 ≤ 56 := (by decide +kernel); show 2 * 0 + (st.map fun v => v.category).sum + (nativeFrameWords "java/lang/System" "arraycopy" 5 + 11) ≤ 64 * d; omega)
  have e1 : copied (vp_cell (D.2.1 0) (n0, .inl f)) (vp_cell (D.2.1 0) (n1, .inl g)) sp dp z = vp_cell (D.2.1 0) (n1, .inl (va_cpy f g sp.toNatClampNeg dp.toNatClampNeg z.toNatClampNeg)) := va_copied (fun z => .int z) (D.2.1 0) (D.2.1 0) f g g4
  rw [e1] at X' step
  have hla : a1 < H.size := (Array.getElem?_eq_some_iff.mp hc1).1
  have hheap : ((T.setVm vm').setCell a1 (vp_cell (D.2.1 0) (n1, .inl (va_cpy f g sp.toNatClampNeg dp.toNatClampNeg z.toNatClampNeg)))).heap = H.setIfInBounds a1 (vp_cell (D.2.1 0) (n1, .inl (va_cpy f g sp.toNatClampNeg dp.toNatClampNeg z.toNatClampNeg))) := by rw [← hT]; rfl
  have oq : ∀ q : Nat, q ≠ a1 → (H.setIfInBounds a1 (vp_cell (D.2.1 0) (n1, .inl (va_cpy f g sp.toNatClampNeg dp.toNatClampNeg z.toNatClampNeg))))[q]? = H[q]? := fun q hq => by simp [Array.getElem?_setIfInBounds, Ne.symm hq]
  have hA1 : frA D a1 := (hR.2 a1 _ he1).1
  obtain ⟨t, b1, b2⟩ := kk _ _ ls (hR.set he1 (show (H.setIfInBounds a1 _)[a1]? = some _ by simp [Array.getElem?_setIfInBounds, hla]) (by simp) oq) ⟨by simp; exact hS.1, fun q y1 y2 => by
      rw [oq q (fun e => y2 (by rw [e]; exact hA1))]
      exact hS.2.1 q y1 y2, fun q hq => by
      rcases List.mem_append.mp hq with h | h
      · exact hS.2.2 q h
      · obtain ⟨z, -, hz⟩ := List.mem_map.mp h
        rw [← hz]
        exact hA1⟩ hl hL _ hheap X'
  exact ⟨t, step t b1, b2⟩
def cloneA (cap : Nat) (h : Hp) (a : Nat) : Option (Nat × Hp) := match h.1 a with | some (.inr (.inl (n, f))) => if cap < n then none else some (h.2, newC h (.inr (.inl (n, f)))) | _ => none
def castA (h : Hp) (a : Nat) : Option Unit := match h.1 a with | some (.inr (.inl _)) => some () | _ => none
theorem cloneA_some {cap a : Nat} {h : Hp} {q : Nat × Hp} (hv : cloneA cap h a = some q) : ∃ n f, h.1 a = some (.inr (.inl (n, f))) ∧ n ≤ cap ∧ q = (h.2, newC h (.inr (.inl (n, f)))) := by
  unfold cloneA at hv
  split at hv
  next n f he =>
    split at hv
    next => cases hv
    next hc => exact ⟨n, f, he, by omega, (Option.some.inj hv).symm⟩
  next => cases hv
theorem castA_some {a : Nat} {h : Hp} {q : Unit} (hv : castA h a = some q) : ∃ n f, h.1 a = some (.inr (.inl (n, f))) := by
  unfold castA at hv
  split at hv
  next z he => exact ⟨z.1, z.2, he⟩
  next => cases hv
theorem J_castA {X : Cx} {y : MethodName} {cc : ByteArray} {nL : Nat} {ret : Option FieldType} {d mc ms : Nat} {res : Option Value × Hp} {k n pc : Nat} {lv : List (Option Value)} {st : List Value} {h : Hp} (C : Jc X y cc nL ret d mc ms res) {α : Type} {K : Unit → Option α} {r : α} {ix a : Nat} (hd : decode cc pc = .ok (.checkcast ix, 3)) (hlk : Cond.classLink y.cls ix "[I" ∈ FT) (hF : (castA h a).bind K = some r) (kk : K () = some r → J X mc ms k n (pc + 3) lv (.ref a :: st) h) : J X mc ms k n pc lv (.ref a :: st) h := by
  obtain ⟨h', hv, hF⟩ := bind_some hF
  have kk := kk hF
  obtain ⟨N, f, he⟩ := castA_some hv
  obtain ⟨p, l, e, R, s, m, args, below, meth, c, D, rs⟩ := X
  intro H locs ls hR hS hl hL
  obtain ⟨hx, hb, hml, ho, hts, hKk, hrt, hlk2, hnm, hRm, -⟩ := C
  exact va_castA hx hb ho (hts _ hlk) (hR.cell he) 0 rfl (hKk.1.2 0 _ rfl).2 hd (kk H locs ls hR hS hl hL)
def cloneN : MethodName := ⟨"java/lang/Object", "clone", "()Ljava/lang/Object;"⟩
def cloneI : MethodName := ⟨"[I", "clone", "()Ljava/lang/Object;"⟩
theorem J_clone {X : Cx} {y : MethodName} {cc : ByteArray} {nL : Nat} {ret : Option FieldType} {d mc ms : Nat} {res : Option Value × Hp} {k n pc : Nat} {lv : List (Option Value)} {st : List Value} {h : Hp} (C : Jc X y cc nL ret d mc ms res) {α : Type} {K : Nat × Hp → Option α} {r : α} {ix a cap : Nat} (hd : decode cc pc = .ok (.invokevirtual ix, 3)) (hlk : Cond.methodLink y.cls ix cloneI ∈ FT) (h1w : Cond.sameMethod "[I" "java/lang/Object" "clone" "()Ljava/lang/Object;" ∈ FT) (h2w : Cond.native cloneN ∈ FT) (h3w : Cond.instanceMethod cloneN ∈ FT) (h4w : Cond.selects "[I" cloneI cloneN ∈ FT) (h5w : Cond.castable "[I" "java/lang/Cloneable" ∈ FT) (hdd : 1 ≤ d) (hcat : (st.map fun v => v.category).sum ≤ 8) (hk : k + 1 ≤ mc) (hn : n + cap ≤ ms) (hF : (cloneA cap h a).bind K = some r) (kk : ∀ q, K q = some r → J X mc ms (k + 1) (n + cap) (pc + 3) lv (.ref q.1 :: st) q.2) : J X mc ms k n pc lv (.ref a :: st) h := by
  obtain ⟨q, hv, hF⟩ := bind_some hF
  have kk := kk q hF
  obtain ⟨N, f, he, hNc, rfl⟩ := cloneA_some hv
  obtain ⟨p, l, e, R, s, m, args, below, meth, c, D, rs⟩ := X
  intro H locs ls hR hS hl hL
  obtain ⟨hx, hb, hml, ho, hts, hKk, hrt, hlk2, hnm, hRm, -⟩ := C
  subst hRm
  obtain ⟨c0, t0', f1, f2, f3⟩ := Cond.castable_spec (hts _ h5w)
  have hnmI : s.vm.findClass "[I" = some (D.2.1 0) := (hKk.1.2 0 _ rfl).2
  cases hnmI.symm.trans f1
  intro T hT XS
  have hcellT : T.heap[a]? = some (vp_cell (D.2.1 0) (N, .inl f)) := by rw [hT]; exact hR.cell he 0 _ rfl
  obtain ⟨-, kA, hkA, comp, hkind⟩ := State.isArrayOf_alike XS.warmed.alike ((hKk.1.2 0 _ rfl).1 0 (fun _ => .null))
  obtain ⟨-, kS, hkS, compS, hkindS⟩ := (hKk.1.2 0 _ rfl).1 0 (fun _ => .null)
  obtain ⟨vm', X', st9⟩ := XS.cloneArray hx ho (hts _ hlk) (hts _ h1w) (hts _ h2w) (hts _ h3w) (hts _ h4w) (a := a) (cell := vp_cell (D.2.1 0) (N, .inl f)) hcellT (fun k h => by cases h) (fun h => by cases h) hnmI f2 f3
    (fun i v hv => by
      have hk' : T.vm.classes[D.2.1 0]? = some kA := hkA
      have hv2 : (arrV (D.2.1 0) N (fun j => .int (f j))).slots[i]? = some v := hv
      have hlt : i < N := by have := (Array.getElem?_eq_some_iff.mp hv2).1; rwa [arrV_size] at this
      rw [arrV_read _ _ hlt] at hv2
      obtain rfl := Option.some.inj hv2
      show T.fitsSlot (D.2.1 0) .none i (.int (f i)) = true
      simp [State.fitsSlot, State.slotType?, hk', hkind, fits])
    (g := F0 m pc ls (.ref a :: st)) rfl hl.1 rfl (by rw [hb]; exact hd) hdd (by show 2 * 0 + _ + 14 ≤ 64 * d; omega) hk (by show n + (arrV (D.2.1 0) N (fun j => .int (f j))).slots.size ≤ ms; rw [arrV_size]; omega) (hloader := Vm.clonesLoader_of_array hkS hkindS)
  have hsz : (vp_cell (D.2.1 0) (N, .inl f)).slots.size = N := arrV_size _ _ _
  have hcellE : ({ cls := (vp_cell (D.2.1 0) (N, .inl f)).cls, slots := (vp_cell (D.2.1 0) (N, .inl f)).slots } : Cell) = vp_cell (D.2.1 0) (N, .inl f) := rfl
  rw [hcellE, hsz] at X'
  generalize hH1 : H.push (vp_cell (D.2.1 0) (N, .inl f)) = H1
  have z1 : H1.size = H.size + 1 := by rw [← hH1, Array.size_push]
  have e1 : H1[H.size]? = some (vp_cell (D.2.1 0) (N, .inl f)) := by rw [← hH1, Array.getElem?_push_size]
  have o1 : ∀ q : Nat, q < H.size → H1[q]? = H[q]? := fun q hq => by rw [← hH1, Array.getElem?_push, if_neg (Nat.ne_of_lt hq)]
  obtain ⟨t, b1, b2⟩ := kk H1 locs ls (hR.new (Nat.le_trans hKk.2.1 hS.1) e1 z1 o1) (hS.new z1 o1) hl hL _ (by rw [← hH1, ← hT]; rfl) (stand_widen X' (Nat.le_refl _) (by omega))
  refine ⟨t, st9 t ?_, b2⟩
  have e : T.heap.size = h.2 := by rw [hT, hR.1]
  rw [e]
  exact b1
end
