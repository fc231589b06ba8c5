section
-- ===== PART A: goes FIRST, ahead of the names: the tables' words, and 'selects' of the private methods out of them =====
/-- a private method of a class that the tables say can be made, by its rows of tables_1 -/
def lw_okq (q : MethodName × Nat) : Prop := (q.1.cls ≠ "java/lang/invoke/MethodHandle" ∧ q.1.cls ≠ "java/lang/invoke/VarHandle") ∧ Cond.instantiable q.1.cls q.2 ∈ tables_1 ∧ Cond.privateMethod q.1 ∈ tables_1 ∧ Cond.instanceMethod q.1 ∈ tables_1
theorem lw_p0 : lw_okq (⟨"HatFields$Tape", "step", "()V"⟩, 6) := ⟨⟨by decide +kernel, by decide +kernel⟩, List.mem_of_getElem? (i := 116) (by decide +kernel), List.mem_of_getElem? (i := 257) (by decide +kernel), List.mem_of_getElem? (i := 258) (by decide +kernel)⟩
theorem lw_p1 : lw_okq (⟨"HatFields$Tape", "sortAt", "(I)I"⟩, 6) := ⟨⟨by decide +kernel, by decide +kernel⟩, List.mem_of_getElem? (i := 116) (by decide +kernel), List.mem_of_getElem? (i := 261) (by decide +kernel), List.mem_of_getElem? (i := 262) (by decide +kernel)⟩
theorem lw_p2 : lw_okq (⟨"HatFields$Tape", "readOne", "(LHatFields$Plain;)V"⟩, 6) := ⟨⟨by decide +kernel, by decide +kernel⟩, List.mem_of_getElem? (i := 116) (by decide +kernel), List.mem_of_getElem? (i := 265) (by decide +kernel), List.mem_of_getElem? (i := 266) (by decide +kernel)⟩
theorem lw_p3 : lw_okq (⟨"HatFields$Tape", "kindNamed", "()I"⟩, 6) := ⟨⟨by decide +kernel, by decide +kernel⟩, List.mem_of_getElem? (i := 116) (by decide +kernel), List.mem_of_getElem? (i := 269) (by decide +kernel), List.mem_of_getElem? (i := 270) (by decide +kernel)⟩
theorem lw_p4 : lw_okq (⟨"HatFields$Tape", "spells", "(Ljava/lang/String;)Z"⟩, 6) := ⟨⟨by decide +kernel, by decide +kernel⟩, List.mem_of_getElem? (i := 116) (by decide +kernel), List.mem_of_getElem? (i := 274) (by decide +kernel), List.mem_of_getElem? (i := 275) (by decide +kernel)⟩
theorem lw_p5 : lw_okq (⟨"HatFields$Tape", "readHat", "(LHatFields$Plain;I)V"⟩, 6) := ⟨⟨by decide +kernel, by decide +kernel⟩, List.mem_of_getElem? (i := 116) (by decide +kernel), List.mem_of_getElem? (i := 331) (by decide +kernel), List.mem_of_getElem? (i := 332) (by decide +kernel)⟩
theorem lw_p6 : lw_okq (⟨"HatFields$Tape", "number", "(I)I"⟩, 6) := ⟨⟨by decide +kernel, by decide +kernel⟩, List.mem_of_getElem? (i := 116) (by decide +kernel), List.mem_of_getElem? (i := 335) (by decide +kernel), List.mem_of_getElem? (i := 336) (by decide +kernel)⟩
theorem lw_p7 : lw_okq (⟨"HatFields$Tape", "fail", "()V"⟩, 6) := ⟨⟨by decide +kernel, by decide +kernel⟩, List.mem_of_getElem? (i := 116) (by decide +kernel), List.mem_of_getElem? (i := 339) (by decide +kernel), List.mem_of_getElem? (i := 340) (by decide +kernel)⟩
theorem lw_p8 : lw_okq (⟨"HatFields$Tape", "word", "(Ljava/lang/String;)V"⟩, 6) := ⟨⟨by decide +kernel, by decide +kernel⟩, List.mem_of_getElem? (i := 116) (by decide +kernel), List.mem_of_getElem? (i := 344) (by decide +kernel), List.mem_of_getElem? (i := 345) (by decide +kernel)⟩
theorem lw_p9 : lw_okq (⟨"HatFields$Tape", "semicolon", "()V"⟩, 6) := ⟨⟨by decide +kernel, by decide +kernel⟩, List.mem_of_getElem? (i := 116) (by decide +kernel), List.mem_of_getElem? (i := 366) (by decide +kernel), List.mem_of_getElem? (i := 367) (by decide +kernel)⟩
theorem lw_p10 : lw_okq (⟨"HatFields$Tape", "readPerson", "(LHatFields$Plain;)V"⟩, 6) := ⟨⟨by decide +kernel, by decide +kernel⟩, List.mem_of_getElem? (i := 116) (by decide +kernel), List.mem_of_getElem? (i := 371) (by decide +kernel), List.mem_of_getElem? (i := 372) (by decide +kernel)⟩
theorem lw_p11 : lw_okq (⟨"HatFields$Tape", "readWind", "(LHatFields$Plain;)V"⟩, 6) := ⟨⟨by decide +kernel, by decide +kernel⟩, List.mem_of_getElem? (i := 116) (by decide +kernel), List.mem_of_getElem? (i := 381) (by decide +kernel), List.mem_of_getElem? (i := 382) (by decide +kernel)⟩
theorem lw_p12 : lw_okq (⟨"HatFields$Tape", "directionNamed", "()I"⟩, 6) := ⟨⟨by decide +kernel, by decide +kernel⟩, List.mem_of_getElem? (i := 116) (by decide +kernel), List.mem_of_getElem? (i := 385) (by decide +kernel), List.mem_of_getElem? (i := 386) (by decide +kernel)⟩
theorem lw_p13 : lw_okq (⟨"HatFields", "isPerson", "(I)Z"⟩, 12) := ⟨⟨by decide +kernel, by decide +kernel⟩, List.mem_of_getElem? (i := 18) (by decide +kernel), List.mem_of_getElem? (i := 435) (by decide +kernel), List.mem_of_getElem? (i := 436) (by decide +kernel)⟩
theorem lw_p14 : lw_okq (⟨"HatFields", "isHat", "(I)Z"⟩, 12) := ⟨⟨by decide +kernel, by decide +kernel⟩, List.mem_of_getElem? (i := 18) (by decide +kernel), List.mem_of_getElem? (i := 465) (by decide +kernel), List.mem_of_getElem? (i := 466) (by decide +kernel)⟩
theorem lw_p15 : lw_okq (⟨"HatFields$Plain", "blow", "(II)V"⟩, 7) := ⟨⟨by decide +kernel, by decide +kernel⟩, List.mem_of_getElem? (i := 26) (by decide +kernel), List.mem_of_getElem? (i := 544) (by decide +kernel), List.mem_of_getElem? (i := 545) (by decide +kernel)⟩
def lw_privs_1 : List (MethodName × Nat) := [(⟨"HatFields$Tape", "step", "()V"⟩, 6), (⟨"HatFields$Tape", "sortAt", "(I)I"⟩, 6), (⟨"HatFields$Tape", "readOne", "(LHatFields$Plain;)V"⟩, 6), (⟨"HatFields$Tape", "kindNamed", "()I"⟩, 6), (⟨"HatFields$Tape", "spells", "(Ljava/lang/String;)Z"⟩, 6), (⟨"HatFields$Tape", "readHat", "(LHatFields$Plain;I)V"⟩, 6), (⟨"HatFields$Tape", "number", "(I)I"⟩, 6), (⟨"HatFields$Tape", "fail", "()V"⟩, 6), (⟨"HatFields$Tape", "word", "(Ljava/lang/String;)V"⟩, 6), (⟨"HatFields$Tape", "semicolon", "()V"⟩, 6), (⟨"HatFields$Tape", "readPerson", "(LHatFields$Plain;)V"⟩, 6), (⟨"HatFields$Tape", "readWind", "(LHatFields$Plain;)V"⟩, 6), (⟨"HatFields$Tape", "directionNamed", "()I"⟩, 6), (⟨"HatFields", "isPerson", "(I)Z"⟩, 12), (⟨"HatFields", "isHat", "(I)Z"⟩, 12), (⟨"HatFields$Plain", "blow", "(II)V"⟩, 7)]
theorem lw_r1 : ∀ q ∈ lw_privs_1, lw_okq q := List.forall_mem_cons.mpr ⟨lw_p0, List.forall_mem_cons.mpr ⟨lw_p1, List.forall_mem_cons.mpr ⟨lw_p2, List.forall_mem_cons.mpr ⟨lw_p3, List.forall_mem_cons.mpr ⟨lw_p4, List.forall_mem_cons.mpr ⟨lw_p5, List.forall_mem_cons.mpr ⟨lw_p6, List.forall_mem_cons.mpr ⟨lw_p7, List.forall_mem_cons.mpr ⟨lw_p8, List.forall_mem_cons.mpr ⟨lw_p9, List.forall_mem_cons.mpr ⟨lw_p10, List.forall_mem_cons.mpr ⟨lw_p11, List.forall_mem_cons.mpr ⟨lw_p12, List.forall_mem_cons.mpr ⟨lw_p13, List.forall_mem_cons.mpr ⟨lw_p14, List.forall_mem_cons.mpr ⟨lw_p15, fun _ h => absurd h List.not_mem_nil⟩⟩⟩⟩⟩⟩⟩⟩⟩⟩⟩⟩⟩⟩⟩⟩
theorem lw_p16 : lw_okq (⟨"HatFields$Plain", "runForNearest", "(I)V"⟩, 7) := ⟨⟨by decide +kernel, by decide +kernel⟩, List.mem_of_getElem? (i := 26) (by decide +kernel), List.mem_of_getElem? (i := 558) (by decide +kernel), List.mem_of_getElem? (i := 559) (by decide +kernel)⟩
theorem lw_p17 : lw_okq (⟨"HatFields$Plain", "nearestTo", "(I)I"⟩, 7) := ⟨⟨by decide +kernel, by decide +kernel⟩, List.mem_of_getElem? (i := 26) (by decide +kernel), List.mem_of_getElem? (i := 562) (by decide +kernel), List.mem_of_getElem? (i := 563) (by decide +kernel)⟩
theorem lw_p18 : lw_okq (⟨"HatFields$Plain", "putOnAll", "(II)V"⟩, 7) := ⟨⟨by decide +kernel, by decide +kernel⟩, List.mem_of_getElem? (i := 26) (by decide +kernel), List.mem_of_getElem? (i := 581) (by decide +kernel), List.mem_of_getElem? (i := 582) (by decide +kernel)⟩
theorem lw_p19 : lw_okq (⟨"HatFields", "tryHours", "(I)V"⟩, 12) := ⟨⟨by decide +kernel, by decide +kernel⟩, List.mem_of_getElem? (i := 18) (by decide +kernel), List.mem_of_getElem? (i := 593) (by decide +kernel), List.mem_of_getElem? (i := 594) (by decide +kernel)⟩
theorem lw_p20 : lw_okq (⟨"HatFields", "bestFor", "(IIII)I"⟩, 12) := ⟨⟨by decide +kernel, by decide +kernel⟩, List.mem_of_getElem? (i := 18) (by decide +kernel), List.mem_of_getElem? (i := 620) (by decide +kernel), List.mem_of_getElem? (i := 621) (by decide +kernel)⟩
theorem lw_p21 : lw_okq (⟨"HatFields", "changeTrial", "(III)V"⟩, 12) := ⟨⟨by decide +kernel, by decide +kernel⟩, List.mem_of_getElem? (i := 18) (by decide +kernel), List.mem_of_getElem? (i := 624) (by decide +kernel), List.mem_of_getElem? (i := 625) (by decide +kernel)⟩
theorem lw_p22 : lw_okq (⟨"HatFields", "isRowPart", "(II)Z"⟩, 12) := ⟨⟨by decide +kernel, by decide +kernel⟩, List.mem_of_getElem? (i := 18) (by decide +kernel), List.mem_of_getElem? (i := 672) (by decide +kernel), List.mem_of_getElem? (i := 673) (by decide +kernel)⟩
theorem lw_p23 : lw_okq (⟨"HatFields", "isRowOfTrial", "(I)Z"⟩, 12) := ⟨⟨by decide +kernel, by decide +kernel⟩, List.mem_of_getElem? (i := 18) (by decide +kernel), List.mem_of_getElem? (i := 684) (by decide +kernel), List.mem_of_getElem? (i := 685) (by decide +kernel)⟩
theorem lw_p24 : lw_okq (⟨"HatFields$Actor", "run", "(IIII)I"⟩, 6) := ⟨⟨by decide +kernel, by decide +kernel⟩, List.mem_of_getElem? (i := 147) (by decide +kernel), List.mem_of_getElem? (i := 758) (by decide +kernel), List.mem_of_getElem? (i := 759) (by decide +kernel)⟩
theorem lw_p25 : lw_okq (⟨"HatFields$Actor", "begin", "(I)V"⟩, 6) := ⟨⟨by decide +kernel, by decide +kernel⟩, List.mem_of_getElem? (i := 147) (by decide +kernel), List.mem_of_getElem? (i := 764) (by decide +kernel), List.mem_of_getElem? (i := 765) (by decide +kernel)⟩
theorem lw_p26 : lw_okq (⟨"HatFields$Actor", "share", "(I)I"⟩, 6) := ⟨⟨by decide +kernel, by decide +kernel⟩, List.mem_of_getElem? (i := 147) (by decide +kernel), List.mem_of_getElem? (i := 768) (by decide +kernel), List.mem_of_getElem? (i := 769) (by decide +kernel)⟩
theorem lw_p27 : lw_okq (⟨"HatFieldsModel", "advance", "()V"⟩, 51) := ⟨⟨by decide +kernel, by decide +kernel⟩, List.mem_of_getElem? (i := 794) (by decide +kernel), List.mem_of_getElem? (i := 967) (by decide +kernel), List.mem_of_getElem? (i := 968) (by decide +kernel)⟩
theorem lw_p28 : lw_okq (⟨"HatFieldsModel", "byteAt", "(I)I"⟩, 51) := ⟨⟨by decide +kernel, by decide +kernel⟩, List.mem_of_getElem? (i := 794) (by decide +kernel), List.mem_of_getElem? (i := 971) (by decide +kernel), List.mem_of_getElem? (i := 972) (by decide +kernel)⟩
theorem lw_p29 : lw_okq (⟨"HatFieldsModel", "wantClause", "()V"⟩, 51) := ⟨⟨by decide +kernel, by decide +kernel⟩, List.mem_of_getElem? (i := 794) (by decide +kernel), List.mem_of_getElem? (i := 984) (by decide +kernel), List.mem_of_getElem? (i := 985) (by decide +kernel)⟩
theorem lw_p30 : lw_okq (⟨"HatFieldsModel", "isWord", "(J)Z"⟩, 51) := ⟨⟨by decide +kernel, by decide +kernel⟩, List.mem_of_getElem? (i := 794) (by decide +kernel), List.mem_of_getElem? (i := 989) (by decide +kernel), List.mem_of_getElem? (i := 990) (by decide +kernel)⟩
theorem lw_p31 : lw_okq (⟨"HatFieldsModel", "wantPerson", "()V"⟩, 51) := ⟨⟨by decide +kernel, by decide +kernel⟩, List.mem_of_getElem? (i := 794) (by decide +kernel), List.mem_of_getElem? (i := 993) (by decide +kernel), List.mem_of_getElem? (i := 994) (by decide +kernel)⟩
def lw_privs_2 : List (MethodName × Nat) := [(⟨"HatFields$Plain", "runForNearest", "(I)V"⟩, 7), (⟨"HatFields$Plain", "nearestTo", "(I)I"⟩, 7), (⟨"HatFields$Plain", "putOnAll", "(II)V"⟩, 7), (⟨"HatFields", "tryHours", "(I)V"⟩, 12), (⟨"HatFields", "bestFor", "(IIII)I"⟩, 12), (⟨"HatFields", "changeTrial", "(III)V"⟩, 12), (⟨"HatFields", "isRowPart", "(II)Z"⟩, 12), (⟨"HatFields", "isRowOfTrial", "(I)Z"⟩, 12), (⟨"HatFields$Actor", "run", "(IIII)I"⟩, 6), (⟨"HatFields$Actor", "begin", "(I)V"⟩, 6), (⟨"HatFields$Actor", "share", "(I)I"⟩, 6), (⟨"HatFieldsModel", "advance", "()V"⟩, 51), (⟨"HatFieldsModel", "byteAt", "(I)I"⟩, 51), (⟨"HatFieldsModel", "wantClause", "()V"⟩, 51), (⟨"HatFieldsModel", "isWord", "(J)Z"⟩, 51), (⟨"HatFieldsModel", "wantPerson", "()V"⟩, 51)]
theorem lw_r2 : ∀ q ∈ lw_privs_2, lw_okq q := List.forall_mem_cons.mpr ⟨lw_p16, List.forall_mem_cons.mpr ⟨lw_p17, List.forall_mem_cons.mpr ⟨lw_p18, List.forall_mem_cons.mpr ⟨lw_p19, List.forall_mem_cons.mpr ⟨lw_p20, List.forall_mem_cons.mpr ⟨lw_p21, List.forall_mem_cons.mpr ⟨lw_p22, List.forall_mem_cons.mpr ⟨lw_p23, List.forall_mem_cons.mpr ⟨lw_p24, List.forall_mem_cons.mpr ⟨lw_p25, List.forall_mem_cons.mpr ⟨lw_p26, List.forall_mem_cons.mpr ⟨lw_p27, List.forall_mem_cons.mpr ⟨lw_p28, List.forall_mem_cons.mpr ⟨lw_p29, List.forall_mem_cons.mpr ⟨lw_p30, List.forall_mem_cons.mpr ⟨lw_p31, fun _ h => absurd h List.not_mem_nil⟩⟩⟩⟩⟩⟩⟩⟩⟩⟩⟩⟩⟩⟩⟩⟩
theorem lw_p32 : lw_okq (⟨"HatFieldsModel", "wantNumber", "(II)I"⟩, 51) := ⟨⟨by decide +kernel, by decide +kernel⟩, List.mem_of_getElem? (i := 794) (by decide +kernel), List.mem_of_getElem? (i := 997) (by decide +kernel), List.mem_of_getElem? (i := 998) (by decide +kernel)⟩
theorem lw_p33 : lw_okq (⟨"HatFieldsModel", "takes", "(J)Z"⟩, 51) := ⟨⟨by decide +kernel, by decide +kernel⟩, List.mem_of_getElem? (i := 794) (by decide +kernel), List.mem_of_getElem? (i := 1002) (by decide +kernel), List.mem_of_getElem? (i := 1003) (by decide +kernel)⟩
theorem lw_p34 : lw_okq (⟨"HatFieldsModel", "wantEnd", "()V"⟩, 51) := ⟨⟨by decide +kernel, by decide +kernel⟩, List.mem_of_getElem? (i := 794) (by decide +kernel), List.mem_of_getElem? (i := 1006) (by decide +kernel), List.mem_of_getElem? (i := 1007) (by decide +kernel)⟩
theorem lw_p35 : lw_okq (⟨"HatFieldsModel", "isMark", "(I)Z"⟩, 51) := ⟨⟨by decide +kernel, by decide +kernel⟩, List.mem_of_getElem? (i := 794) (by decide +kernel), List.mem_of_getElem? (i := 1010) (by decide +kernel), List.mem_of_getElem? (i := 1011) (by decide +kernel)⟩
theorem lw_p36 : lw_okq (⟨"HatFieldsModel", "wantWind", "()V"⟩, 51) := ⟨⟨by decide +kernel, by decide +kernel⟩, List.mem_of_getElem? (i := 794) (by decide +kernel), List.mem_of_getElem? (i := 1015) (by decide +kernel), List.mem_of_getElem? (i := 1016) (by decide +kernel)⟩
theorem lw_p37 : lw_okq (⟨"HatFieldsModel", "directionHere", "()I"⟩, 51) := ⟨⟨by decide +kernel, by decide +kernel⟩, List.mem_of_getElem? (i := 794) (by decide +kernel), List.mem_of_getElem? (i := 1019) (by decide +kernel), List.mem_of_getElem? (i := 1020) (by decide +kernel)⟩
theorem lw_p38 : lw_okq (⟨"HatFieldsModel", "kindHere", "()I"⟩, 51) := ⟨⟨by decide +kernel, by decide +kernel⟩, List.mem_of_getElem? (i := 794) (by decide +kernel), List.mem_of_getElem? (i := 1028) (by decide +kernel), List.mem_of_getElem? (i := 1029) (by decide +kernel)⟩
theorem lw_p39 : lw_okq (⟨"HatFieldsModel", "wantHat", "(I)V"⟩, 51) := ⟨⟨by decide +kernel, by decide +kernel⟩, List.mem_of_getElem? (i := 794) (by decide +kernel), List.mem_of_getElem? (i := 1038) (by decide +kernel), List.mem_of_getElem? (i := 1039) (by decide +kernel)⟩
theorem lw_p40 : lw_okq (⟨"HatFieldsModel", "turnsInto", "()V"⟩, 51) := ⟨⟨by decide +kernel, by decide +kernel⟩, List.mem_of_getElem? (i := 794) (by decide +kernel), List.mem_of_getElem? (i := 1045) (by decide +kernel), List.mem_of_getElem? (i := 1046) (by decide +kernel)⟩
theorem lw_p41 : lw_okq (⟨"HatFieldsModel", "isPerson", "(I)Z"⟩, 51) := ⟨⟨by decide +kernel, by decide +kernel⟩, List.mem_of_getElem? (i := 794) (by decide +kernel), List.mem_of_getElem? (i := 1075) (by decide +kernel), List.mem_of_getElem? (i := 1076) (by decide +kernel)⟩
theorem lw_p42 : lw_okq (⟨"HatFieldsModel", "ownedBy", "(I)I"⟩, 51) := ⟨⟨by decide +kernel, by decide +kernel⟩, List.mem_of_getElem? (i := 794) (by decide +kernel), List.mem_of_getElem? (i := 1079) (by decide +kernel), List.mem_of_getElem? (i := 1080) (by decide +kernel)⟩
theorem lw_p43 : lw_okq (⟨"HatFieldsModel", "its", "(I)I"⟩, 51) := ⟨⟨by decide +kernel, by decide +kernel⟩, List.mem_of_getElem? (i := 794) (by decide +kernel), List.mem_of_getElem? (i := 1083) (by decide +kernel), List.mem_of_getElem? (i := 1084) (by decide +kernel)⟩
theorem lw_p44 : lw_okq (⟨"HatFieldsModel", "wornBy", "(I)I"⟩, 51) := ⟨⟨by decide +kernel, by decide +kernel⟩, List.mem_of_getElem? (i := 794) (by decide +kernel), List.mem_of_getElem? (i := 1087) (by decide +kernel), List.mem_of_getElem? (i := 1088) (by decide +kernel)⟩
theorem lw_p45 : lw_okq (⟨"HatFieldsModel", "isHat", "(I)Z"⟩, 51) := ⟨⟨by decide +kernel, by decide +kernel⟩, List.mem_of_getElem? (i := 794) (by decide +kernel), List.mem_of_getElem? (i := 1107) (by decide +kernel), List.mem_of_getElem? (i := 1108) (by decide +kernel)⟩
theorem lw_p46 : lw_okq (⟨"HatFieldsModel", "placeOf", "(I)I"⟩, 51) := ⟨⟨by decide +kernel, by decide +kernel⟩, List.mem_of_getElem? (i := 794) (by decide +kernel), List.mem_of_getElem? (i := 1114) (by decide +kernel), List.mem_of_getElem? (i := 1115) (by decide +kernel)⟩
theorem lw_p47 : lw_okq (⟨"HatFieldsModel", "holds", "(I)I"⟩, 51) := ⟨⟨by decide +kernel, by decide +kernel⟩, List.mem_of_getElem? (i := 794) (by decide +kernel), List.mem_of_getElem? (i := 1118) (by decide +kernel), List.mem_of_getElem? (i := 1119) (by decide +kernel)⟩
def lw_privs_3 : List (MethodName × Nat) := [(⟨"HatFieldsModel", "wantNumber", "(II)I"⟩, 51), (⟨"HatFieldsModel", "takes", "(J)Z"⟩, 51), (⟨"HatFieldsModel", "wantEnd", "()V"⟩, 51), (⟨"HatFieldsModel", "isMark", "(I)Z"⟩, 51), (⟨"HatFieldsModel", "wantWind", "()V"⟩, 51), (⟨"HatFieldsModel", "directionHere", "()I"⟩, 51), (⟨"HatFieldsModel", "kindHere", "()I"⟩, 51), (⟨"HatFieldsModel", "wantHat", "(I)V"⟩, 51), (⟨"HatFieldsModel", "turnsInto", "()V"⟩, 51), (⟨"HatFieldsModel", "isPerson", "(I)Z"⟩, 51), (⟨"HatFieldsModel", "ownedBy", "(I)I"⟩, 51), (⟨"HatFieldsModel", "its", "(I)I"⟩, 51), (⟨"HatFieldsModel", "wornBy", "(I)I"⟩, 51), (⟨"HatFieldsModel", "isHat", "(I)Z"⟩, 51), (⟨"HatFieldsModel", "placeOf", "(I)I"⟩, 51), (⟨"HatFieldsModel", "holds", "(I)I"⟩, 51)]
theorem lw_r3 : ∀ q ∈ lw_privs_3, lw_okq q := List.forall_mem_cons.mpr ⟨lw_p32, List.forall_mem_cons.mpr ⟨lw_p33, List.forall_mem_cons.mpr ⟨lw_p34, List.forall_mem_cons.mpr ⟨lw_p35, List.forall_mem_cons.mpr ⟨lw_p36, List.forall_mem_cons.mpr ⟨lw_p37, List.forall_mem_cons.mpr ⟨lw_p38, List.forall_mem_cons.mpr ⟨lw_p39, List.forall_mem_cons.mpr ⟨lw_p40, List.forall_mem_cons.mpr ⟨lw_p41, List.forall_mem_cons.mpr ⟨lw_p42, List.forall_mem_cons.mpr ⟨lw_p43, List.forall_mem_cons.mpr ⟨lw_p44, List.forall_mem_cons.mpr ⟨lw_p45, List.forall_mem_cons.mpr ⟨lw_p46, List.forall_mem_cons.mpr ⟨lw_p47, fun _ h => absurd h List.not_mem_nil⟩⟩⟩⟩⟩⟩⟩⟩⟩⟩⟩⟩⟩⟩⟩⟩
theorem lw_p48 : lw_okq (⟨"HatFieldsModel", "flies", "(II)I"⟩, 51) := ⟨⟨by decide +kernel, by decide +kernel⟩, List.mem_of_getElem? (i := 794) (by decide +kernel), List.mem_of_getElem? (i := 1122) (by decide +kernel), List.mem_of_getElem? (i := 1123) (by decide +kernel)⟩
theorem lw_p49 : lw_okq (⟨"HatFieldsModel", "isLying", "(I)Z"⟩, 51) := ⟨⟨by decide +kernel, by decide +kernel⟩, List.mem_of_getElem? (i := 794) (by decide +kernel), List.mem_of_getElem? (i := 1134) (by decide +kernel), List.mem_of_getElem? (i := 1135) (by decide +kernel)⟩
theorem lw_p50 : lw_okq (⟨"HatFieldsModel", "lays", "(I)V"⟩, 51) := ⟨⟨by decide +kernel, by decide +kernel⟩, List.mem_of_getElem? (i := 794) (by decide +kernel), List.mem_of_getElem? (i := 1142) (by decide +kernel), List.mem_of_getElem? (i := 1143) (by decide +kernel)⟩
theorem lw_p51 : lw_okq (⟨"HatFieldsModel", "becomes", "(II)V"⟩, 51) := ⟨⟨by decide +kernel, by decide +kernel⟩, List.mem_of_getElem? (i := 794) (by decide +kernel), List.mem_of_getElem? (i := 1146) (by decide +kernel), List.mem_of_getElem? (i := 1147) (by decide +kernel)⟩
theorem lw_p52 : lw_okq (⟨"HatFieldsModel", "isGone", "(I)Z"⟩, 51) := ⟨⟨by decide +kernel, by decide +kernel⟩, List.mem_of_getElem? (i := 794) (by decide +kernel), List.mem_of_getElem? (i := 1154) (by decide +kernel), List.mem_of_getElem? (i := 1155) (by decide +kernel)⟩
theorem lw_p53 : lw_okq (⟨"HatFieldsModel", "go", "(I)V"⟩, 51) := ⟨⟨by decide +kernel, by decide +kernel⟩, List.mem_of_getElem? (i := 794) (by decide +kernel), List.mem_of_getElem? (i := 1169) (by decide +kernel), List.mem_of_getElem? (i := 1170) (by decide +kernel)⟩
theorem lw_p54 : lw_okq (⟨"HatFieldsModel", "hourGoes", "(II)V"⟩, 51) := ⟨⟨by decide +kernel, by decide +kernel⟩, List.mem_of_getElem? (i := 794) (by decide +kernel), List.mem_of_getElem? (i := 1173) (by decide +kernel), List.mem_of_getElem? (i := 1174) (by decide +kernel)⟩
theorem lw_p55 : lw_okq (⟨"HatFieldsModel", "blows", "(II)V"⟩, 51) := ⟨⟨by decide +kernel, by decide +kernel⟩, List.mem_of_getElem? (i := 794) (by decide +kernel), List.mem_of_getElem? (i := 1177) (by decide +kernel), List.mem_of_getElem? (i := 1178) (by decide +kernel)⟩
theorem lw_p56 : lw_okq (⟨"HatFieldsModel", "runs", "(I)V"⟩, 51) := ⟨⟨by decide +kernel, by decide +kernel⟩, List.mem_of_getElem? (i := 794) (by decide +kernel), List.mem_of_getElem? (i := 1181) (by decide +kernel), List.mem_of_getElem? (i := 1182) (by decide +kernel)⟩
theorem lw_p57 : lw_okq (⟨"HatFieldsModel", "ownsThen", "(II)I"⟩, 51) := ⟨⟨by decide +kernel, by decide +kernel⟩, List.mem_of_getElem? (i := 794) (by decide +kernel), List.mem_of_getElem? (i := 1199) (by decide +kernel), List.mem_of_getElem? (i := 1200) (by decide +kernel)⟩
theorem lw_p58 : lw_okq (⟨"HatFieldsModel", "lends", "()V"⟩, 51) := ⟨⟨by decide +kernel, by decide +kernel⟩, List.mem_of_getElem? (i := 794) (by decide +kernel), List.mem_of_getElem? (i := 1203) (by decide +kernel), List.mem_of_getElem? (i := 1204) (by decide +kernel)⟩
theorem lw_p59 : lw_okq (⟨"HatFieldsModel", "isAllWorn", "()Z"⟩, 51) := ⟨⟨by decide +kernel, by decide +kernel⟩, List.mem_of_getElem? (i := 794) (by decide +kernel), List.mem_of_getElem? (i := 1242) (by decide +kernel), List.mem_of_getElem? (i := 1243) (by decide +kernel)⟩
theorem lw_p60 : lw_okq (⟨"HatFieldsModel", "findRows", "(I)V"⟩, 51) := ⟨⟨by decide +kernel, by decide +kernel⟩, List.mem_of_getElem? (i := 794) (by decide +kernel), List.mem_of_getElem? (i := 1259) (by decide +kernel), List.mem_of_getElem? (i := 1260) (by decide +kernel)⟩
theorem lw_p61 : lw_okq (⟨"HatFieldsModel", "goneSet", "()I"⟩, 51) := ⟨⟨by decide +kernel, by decide +kernel⟩, List.mem_of_getElem? (i := 794) (by decide +kernel), List.mem_of_getElem? (i := 1263) (by decide +kernel), List.mem_of_getElem? (i := 1264) (by decide +kernel)⟩
theorem lw_p62 : lw_okq (⟨"HatFieldsModel", "isRow", "(II)Z"⟩, 51) := ⟨⟨by decide +kernel, by decide +kernel⟩, List.mem_of_getElem? (i := 794) (by decide +kernel), List.mem_of_getElem? (i := 1271) (by decide +kernel), List.mem_of_getElem? (i := 1272) (by decide +kernel)⟩
theorem lw_p63 : lw_okq (⟨"HatFieldsModel", "lacksSort", "(II)I"⟩, 51) := ⟨⟨by decide +kernel, by decide +kernel⟩, List.mem_of_getElem? (i := 794) (by decide +kernel), List.mem_of_getElem? (i := 1290) (by decide +kernel), List.mem_of_getElem? (i := 1291) (by decide +kernel)⟩
def lw_privs_4 : List (MethodName × Nat) := [(⟨"HatFieldsModel", "flies", "(II)I"⟩, 51), (⟨"HatFieldsModel", "isLying", "(I)Z"⟩, 51), (⟨"HatFieldsModel", "lays", "(I)V"⟩, 51), (⟨"HatFieldsModel", "becomes", "(II)V"⟩, 51), (⟨"HatFieldsModel", "isGone", "(I)Z"⟩, 51), (⟨"HatFieldsModel", "go", "(I)V"⟩, 51), (⟨"HatFieldsModel", "hourGoes", "(II)V"⟩, 51), (⟨"HatFieldsModel", "blows", "(II)V"⟩, 51), (⟨"HatFieldsModel", "runs", "(I)V"⟩, 51), (⟨"HatFieldsModel", "ownsThen", "(II)I"⟩, 51), (⟨"HatFieldsModel", "lends", "()V"⟩, 51), (⟨"HatFieldsModel", "isAllWorn", "()Z"⟩, 51), (⟨"HatFieldsModel", "findRows", "(I)V"⟩, 51), (⟨"HatFieldsModel", "goneSet", "()I"⟩, 51), (⟨"HatFieldsModel", "isRow", "(II)Z"⟩, 51), (⟨"HatFieldsModel", "lacksSort", "(II)I"⟩, 51)]
theorem lw_r4 : ∀ q ∈ lw_privs_4, lw_okq q := List.forall_mem_cons.mpr ⟨lw_p48, List.forall_mem_cons.mpr ⟨lw_p49, List.forall_mem_cons.mpr ⟨lw_p50, List.forall_mem_cons.mpr ⟨lw_p51, List.forall_mem_cons.mpr ⟨lw_p52, List.forall_mem_cons.mpr ⟨lw_p53, List.forall_mem_cons.mpr ⟨lw_p54, List.forall_mem_cons.mpr ⟨lw_p55, List.forall_mem_cons.mpr ⟨lw_p56, List.forall_mem_cons.mpr ⟨lw_p57, List.forall_mem_cons.mpr ⟨lw_p58, List.forall_mem_cons.mpr ⟨lw_p59, List.forall_mem_cons.mpr ⟨lw_p60, List.forall_mem_cons.mpr ⟨lw_p61, List.forall_mem_cons.mpr ⟨lw_p62, List.forall_mem_cons.mpr ⟨lw_p63, fun _ h => absurd h List.not_mem_nil⟩⟩⟩⟩⟩⟩⟩⟩⟩⟩⟩⟩⟩⟩⟩⟩
theorem lw_p64 : lw_okq (⟨"HatFieldsModel", "isHeld", "(II)Z"⟩, 51) := ⟨⟨by decide +kernel, by decide +kernel⟩, List.mem_of_getElem? (i := 794) (by decide +kernel), List.mem_of_getElem? (i := 1311) (by decide +kernel), List.mem_of_getElem? (i := 1312) (by decide +kernel)⟩
theorem lw_p65 : lw_okq (⟨"HatFieldsModel", "kindOn", "(I)I"⟩, 51) := ⟨⟨by decide +kernel, by decide +kernel⟩, List.mem_of_getElem? (i := 794) (by decide +kernel), List.mem_of_getElem? (i := 1319) (by decide +kernel), List.mem_of_getElem? (i := 1320) (by decide +kernel)⟩
theorem lw_p66 : lw_okq (⟨"HatFieldsModel", "holdsIt", "(I)I"⟩, 51) := ⟨⟨by decide +kernel, by decide +kernel⟩, List.mem_of_getElem? (i := 794) (by decide +kernel), List.mem_of_getElem? (i := 1330) (by decide +kernel), List.mem_of_getElem? (i := 1331) (by decide +kernel)⟩
theorem lw_p67 : lw_okq (⟨"HatFieldsModel", "strawHolds", "(I)I"⟩, 51) := ⟨⟨by decide +kernel, by decide +kernel⟩, List.mem_of_getElem? (i := 794) (by decide +kernel), List.mem_of_getElem? (i := 1334) (by decide +kernel), List.mem_of_getElem? (i := 1335) (by decide +kernel)⟩
theorem lw_p68 : lw_okq (⟨"HatFieldsModel", "ran", "(I)V"⟩, 51) := ⟨⟨by decide +kernel, by decide +kernel⟩, List.mem_of_getElem? (i := 794) (by decide +kernel), List.mem_of_getElem? (i := 1338) (by decide +kernel), List.mem_of_getElem? (i := 1339) (by decide +kernel)⟩
theorem lw_p69 : lw_okq (⟨"HatFieldsModel", "plainHolds", "(I)I"⟩, 51) := ⟨⟨by decide +kernel, by decide +kernel⟩, List.mem_of_getElem? (i := 794) (by decide +kernel), List.mem_of_getElem? (i := 1342) (by decide +kernel), List.mem_of_getElem? (i := 1343) (by decide +kernel)⟩
theorem lw_p70 : lw_okq (⟨"HatFieldsModel", "fliesIt", "(I)I"⟩, 51) := ⟨⟨by decide +kernel, by decide +kernel⟩, List.mem_of_getElem? (i := 794) (by decide +kernel), List.mem_of_getElem? (i := 1346) (by decide +kernel), List.mem_of_getElem? (i := 1347) (by decide +kernel)⟩
theorem lw_p71 : lw_okq (⟨"HatFieldsModel", "plainFlies", "(I)I"⟩, 51) := ⟨⟨by decide +kernel, by decide +kernel⟩, List.mem_of_getElem? (i := 794) (by decide +kernel), List.mem_of_getElem? (i := 1350) (by decide +kernel), List.mem_of_getElem? (i := 1351) (by decide +kernel)⟩
theorem lw_p72 : lw_okq (⟨"HatFieldsModel", "sharesIt", "(I)I"⟩, 51) := ⟨⟨by decide +kernel, by decide +kernel⟩, List.mem_of_getElem? (i := 794) (by decide +kernel), List.mem_of_getElem? (i := 1354) (by decide +kernel), List.mem_of_getElem? (i := 1355) (by decide +kernel)⟩
theorem lw_p73 : lw_okq (⟨"HatFieldsModel", "plainShares", "(I)I"⟩, 51) := ⟨⟨by decide +kernel, by decide +kernel⟩, List.mem_of_getElem? (i := 794) (by decide +kernel), List.mem_of_getElem? (i := 1358) (by decide +kernel), List.mem_of_getElem? (i := 1359) (by decide +kernel)⟩
theorem lw_p74 : lw_okq (⟨"HatFieldsModel", "tellsIt", "(I)I"⟩, 51) := ⟨⟨by decide +kernel, by decide +kernel⟩, List.mem_of_getElem? (i := 794) (by decide +kernel), List.mem_of_getElem? (i := 1362) (by decide +kernel), List.mem_of_getElem? (i := 1363) (by decide +kernel)⟩
theorem lw_p75 : lw_okq (⟨"HatFieldsModel", "plainTells", "(I)I"⟩, 51) := ⟨⟨by decide +kernel, by decide +kernel⟩, List.mem_of_getElem? (i := 794) (by decide +kernel), List.mem_of_getElem? (i := 1366) (by decide +kernel), List.mem_of_getElem? (i := 1367) (by decide +kernel)⟩
theorem lw_p76 : lw_okq (⟨"HatFieldsModel", "moveAll", "(Z)V"⟩, 51) := ⟨⟨by decide +kernel, by decide +kernel⟩, List.mem_of_getElem? (i := 794) (by decide +kernel), List.mem_of_getElem? (i := 1382) (by decide +kernel), List.mem_of_getElem? (i := 1383) (by decide +kernel)⟩
theorem lw_p77 : lw_okq (⟨"HatFieldsModel", "moveRow", "([IIZ)V"⟩, 51) := ⟨⟨by decide +kernel, by decide +kernel⟩, List.mem_of_getElem? (i := 794) (by decide +kernel), List.mem_of_getElem? (i := 1386) (by decide +kernel), List.mem_of_getElem? (i := 1387) (by decide +kernel)⟩
def lw_privs_5 : List (MethodName × Nat) := [(⟨"HatFieldsModel", "isHeld", "(II)Z"⟩, 51), (⟨"HatFieldsModel", "kindOn", "(I)I"⟩, 51), (⟨"HatFieldsModel", "holdsIt", "(I)I"⟩, 51), (⟨"HatFieldsModel", "strawHolds", "(I)I"⟩, 51), (⟨"HatFieldsModel", "ran", "(I)V"⟩, 51), (⟨"HatFieldsModel", "plainHolds", "(I)I"⟩, 51), (⟨"HatFieldsModel", "fliesIt", "(I)I"⟩, 51), (⟨"HatFieldsModel", "plainFlies", "(I)I"⟩, 51), (⟨"HatFieldsModel", "sharesIt", "(I)I"⟩, 51), (⟨"HatFieldsModel", "plainShares", "(I)I"⟩, 51), (⟨"HatFieldsModel", "tellsIt", "(I)I"⟩, 51), (⟨"HatFieldsModel", "plainTells", "(I)I"⟩, 51), (⟨"HatFieldsModel", "moveAll", "(Z)V"⟩, 51), (⟨"HatFieldsModel", "moveRow", "([IIZ)V"⟩, 51)]
theorem lw_r5 : ∀ q ∈ lw_privs_5, lw_okq q := List.forall_mem_cons.mpr ⟨lw_p64, List.forall_mem_cons.mpr ⟨lw_p65, List.forall_mem_cons.mpr ⟨lw_p66, List.forall_mem_cons.mpr ⟨lw_p67, List.forall_mem_cons.mpr ⟨lw_p68, List.forall_mem_cons.mpr ⟨lw_p69, List.forall_mem_cons.mpr ⟨lw_p70, List.forall_mem_cons.mpr ⟨lw_p71, List.forall_mem_cons.mpr ⟨lw_p72, List.forall_mem_cons.mpr ⟨lw_p73, List.forall_mem_cons.mpr ⟨lw_p74, List.forall_mem_cons.mpr ⟨lw_p75, List.forall_mem_cons.mpr ⟨lw_p76, List.forall_mem_cons.mpr ⟨lw_p77, fun _ h => absurd h List.not_mem_nil⟩⟩⟩⟩⟩⟩⟩⟩⟩⟩⟩⟩⟩⟩
def lw_privs : List (MethodName × Nat) := lw_privs_1 ++ (lw_privs_2 ++ (lw_privs_3 ++ (lw_privs_4 ++ (lw_privs_5))))
def lw_tbl : List Cond := k2_sels lw_privs ++ tables_1
theorem lw_privs_ok : ∀ q ∈ lw_privs, lw_okq q := by
  show ∀ q ∈ lw_privs_1 ++ (lw_privs_2 ++ (lw_privs_3 ++ (lw_privs_4 ++ (lw_privs_5)))), lw_okq q
  exact List.forall_mem_append.mpr ⟨lw_r1, List.forall_mem_append.mpr ⟨lw_r2, List.forall_mem_append.mpr ⟨lw_r3, List.forall_mem_append.mpr ⟨lw_r4, lw_r5⟩⟩⟩⟩
-- ===== end of PART A; then your names; then what follows =====
/-! THE CLAIM OUT OF ONE WALK OF THE LAW'S BODY. Your part is whole_start (and what it stands on); all else here is the same for every law, but numbers. -/
def R_law : String := "HatFieldsLaw"
def lw_P (b : Addr) (xs : List Int32) (args : Array Value) (s : State) : Prop := args = #[.ref b] ∧ s.IntsAt b xs ∧ xs.length ≤ 320 ∧ (Jvm.Cond.and given_1 narrow_1).before args s = true
def lw_Q (_ : Array Value) (s : State) (o : Outcome) (t : State) : Prop := o = .returned (some (.int 1)) ∧ Framed s o t [] 600000 7302250
def lw_Z (below : List Frame) (a : Array Value) (s : State) : State → Prop := fun t => ∃ o, t.status = .running ∧ Ended t below o ∧ lw_Q a s o t
/-- the law's own end, with 1 on the stack, nothing written that was there before, its room as the claim has it -/
theorem lw_ret {p : Program} {l : Launch} {e : Env} {s : State} {m : MethodId} {below : List Frame} {meth : Method} {c : Code} {b : Nat} (hx : p.tables.exec = Jvm.exec) (hb : c.code = code) (hr : meth.sig.returnType = ret) (hlocks : meth.locks = false) {pc : Nat} {H : Heap} {ls : Array Slot} (hdg : decode code pc = .ok (.ireturn, 1)) : W p l e room_1 s m #[Value.ref b] below meth c H [] 600000 7302250 (lw_Z below #[Value.ref b] s) (F0 m pc ls [.int 1]) := by
  intro T hT X
  obtain ⟨fs, hret, hrun, hended, hW, hframe⟩ := X.leave (v := some (.int 1)) (hlocks := hlocks) (fun h => by rw [hr] at h; cases h)
  have hmeth' : T.vm.method? m = some meth := X.method'
  refine ⟨T.setFrames fs, ?_, .returned (some (.int 1)), hrun, hended, rfl, ⟨_, rfl⟩, hW, hframe⟩
  jvm_step X.here [X.here.top, hx, hb, hdg, hmeth', hr, ret, narrow_b1]
  (try refine ⟨rfl, ?_⟩); (try refine ⟨rfl, ?_⟩)
  first | (intro acts; rw [hret _ acts rfl rfl rfl]) | rw [hret _ _ rfl rfl rfl]
  exact Steps.refl _
/-- what holds at the law's entry: the machine, the code, the tables' words (any of lw_tbl by 'hts w (by decide +kernel)'), the script of L ints xs at the cell b, what the Statement gives of the start (any of its parts by flat_of_before) -/
def lw_At (p : Program) (s : State) (m : MethodId) (meth : Method) (c : Code) (b L : Nat) (xs : Nat → Int32) : Prop :=
  p.tables.exec = Jvm.exec ∧ c.code = code ∧ meth.sig.returnType = ret ∧ c.maxLocals = 4 ∧ s.vm.findClass R_law = some m.cls ∧ (∀ w ∈ lw_tbl, w.before #[Value.ref b] s = true) ∧ va_X b L xs s s.heap ∧ b < s.heap.size ∧ meth.locks = false ∧ (Jvm.Cond.and given_1 narrow_1).before #[Value.ref b] s = true
end
section
def RX0 : String := "HatFields$Actor"
def TX0 : u_T := fun k => match k with
  | 0 => ("HatFields$Actor", "bodies", "[I", true)
  | 1 => ("HatFields$Actor", "ran", "I", false)
  | 2 => ("HatFields$Actor", "kind", "I", false)
  | 3 => ("HatFields$Actor", "n", "I", false)
  | 4 => ("HatFields$Actor", "a", "I", false)
  | _ => ("HatFields$Actor", "parted", "Z", false)
def tyX0 : Nat → FieldType := fun k => match k with
  | 0 => .array .int
  | 1 => .int
  | 2 => .int
  | 3 => .int
  | 4 => .int
  | _ => .boolean
abbrev wsX00 : List Cond := u_ws RX0 TX0 6
theorem nmX0 : ∀ a, a < 6 → ∀ b, b < 6 → a ≠ b → (TX0 a).2.1 ≠ (TX0 b).2.1 := by decide +kernel
theorem tyX0_ok : ∀ k, k < 6 → parseFieldDescriptor (TX0 k).2.2.1 = some (tyX0 k) := by decide +kernel
def RX1 : String := "HatFields$Hat"
def TX1 : u_T := fun k => match k with
  | 0 => ("HatFields$Hat", "kind", "I", false)
  | 1 => ("HatFields$Hat", "a", "I", false)
  | 2 => ("HatFields$Hat", "worth", "I", false)
  | 3 => ("HatFields$Hat", "wearer", "I", false)
  | _ => ("HatFields$Hat", "spot", "I", false)
def tyX1 : Nat → FieldType := fun k => match k with
  | 0 => .int
  | 1 => .int
  | 2 => .int
  | 3 => .int
  | _ => .int
abbrev wsX10 : List Cond := u_ws RX1 TX1 5
theorem nmX1 : ∀ a, a < 5 → ∀ b, b < 5 → a ≠ b → (TX1 a).2.1 ≠ (TX1 b).2.1 := by decide +kernel
theorem tyX1_ok : ∀ k, k < 5 → parseFieldDescriptor (TX1 k).2.2.1 = some (tyX1 k) := by decide +kernel
def RX2 : String := "HatFields$Person"
def TX2 : u_T := fun k => match k with
  | 0 => ("HatFields$Person", "place", "I", false)
  | _ => ("HatFields$Person", "speed", "I", false)
def tyX2 : Nat → FieldType := fun k => match k with
  | 0 => .int
  | _ => .int
abbrev wsX20 : List Cond := u_ws RX2 TX2 2
theorem nmX2 : ∀ a, a < 2 → ∀ b, b < 2 → a ≠ b → (TX2 a).2.1 ≠ (TX2 b).2.1 := by decide +kernel
theorem tyX2_ok : ∀ k, k < 2 → parseFieldDescriptor (TX2 k).2.2.1 = some (tyX2 k) := by decide +kernel
def RX3 : String := "HatFields$Plain"
def TX3 : u_T := fun k => match k with
  | 0 => ("HatFields$Plain", "direction", "[I", true)
  | 1 => ("HatFields$Plain", "force", "[I", true)
  | 2 => ("HatFields$Plain", "people", "[LHatFields$Person;", true)
  | 3 => ("HatFields$Plain", "hats", "[LHatFields$Hat;", true)
  | 4 => ("HatFields$Plain", "peopleCount", "I", false)
  | 5 => ("HatFields$Plain", "hatCount", "I", false)
  | _ => ("HatFields$Plain", "now", "I", false)
def tyX3 : Nat → FieldType := fun k => match k with
  | 0 => .array .int
  | 1 => .array .int
  | 2 => .array (.object "HatFields$Person")
  | 3 => .array (.object "HatFields$Hat")
  | 4 => .int
  | 5 => .int
  | _ => .int
abbrev wsX30 : List Cond := u_ws RX3 TX3 7
theorem nmX3 : ∀ a, a < 7 → ∀ b, b < 7 → a ≠ b → (TX3 a).2.1 ≠ (TX3 b).2.1 := by decide +kernel
theorem tyX3_ok : ∀ k, k < 7 → parseFieldDescriptor (TX3 k).2.2.1 = some (tyX3 k) := by decide +kernel
def RX4 : String := "HatFields$Row"
def TX4 : u_T := fun k => match k with
  | 0 => ("HatFields$Row", "sort", "I", true)
  | _ => ("HatFields$Row", "items", "[I", true)
def tyX4 : Nat → FieldType := fun k => match k with
  | 0 => .int
  | _ => .array .int
abbrev wsX40 : List Cond := u_ws RX4 TX4 2
theorem nmX4 : ∀ a, a < 2 → ∀ b, b < 2 → a ≠ b → (TX4 a).2.1 ≠ (TX4 b).2.1 := by decide +kernel
theorem tyX4_ok : ∀ k, k < 2 → parseFieldDescriptor (TX4 k).2.2.1 = some (tyX4 k) := by decide +kernel
def RX5 : String := "HatFields$Shelf"
def TX5 : u_T := fun k => match k with
  | 0 => ("HatFields$Shelf", "hat", "I", false)
  | _ => ("HatFields$Shelf", "row", "LHatFields$Row;", false)
def tyX5 : Nat → FieldType := fun k => match k with
  | 0 => .int
  | _ => .object "HatFields$Row"
abbrev wsX50 : List Cond := u_ws RX5 TX5 2
theorem nmX5 : ∀ a, a < 2 → ∀ b, b < 2 → a ≠ b → (TX5 a).2.1 ≠ (TX5 b).2.1 := by decide +kernel
theorem tyX5_ok : ∀ k, k < 2 → parseFieldDescriptor (TX5 k).2.2.1 = some (tyX5 k) := by decide +kernel
def RX6 : String := "HatFields$Tape"
def TX6 : u_T := fun k => match k with
  | 0 => ("HatFields$Tape", "bytes", "[B", true)
  | 1 => ("HatFields$Tape", "length", "I", false)
  | 2 => ("HatFields$Tape", "sort", "I", false)
  | 3 => ("HatFields$Tape", "begin", "I", false)
  | 4 => ("HatFields$Tape", "end", "I", false)
  | _ => ("HatFields$Tape", "fault", "I", false)
def tyX6 : Nat → FieldType := fun k => match k with
  | 0 => .array .byte
  | 1 => .int
  | 2 => .int
  | 3 => .int
  | 4 => .int
  | _ => .int
abbrev wsX60 : List Cond := u_ws RX6 TX6 6
theorem nmX6 : ∀ a, a < 6 → ∀ b, b < 6 → a ≠ b → (TX6 a).2.1 ≠ (TX6 b).2.1 := by decide +kernel
theorem tyX6_ok : ∀ k, k < 6 → parseFieldDescriptor (TX6 k).2.2.1 = some (tyX6 k) := by decide +kernel
def RX7 : String := "HatFields"
def TX7 : u_T := fun k => match k with
  | 0 => ("HatFields", "plain", "LHatFields$Plain;", true)
  | 1 => ("HatFields", "trial", "LHatFields$Plain;", true)
  | 2 => ("HatFields", "kept", "LHatFields$Plain;", true)
  | 3 => ("HatFields", "anythingKept", "Z", false)
  | 4 => ("HatFields", "z", "I", false)
  | 5 => ("HatFields", "keptZ", "I", false)
  | 6 => ("HatFields", "tape", "LHatFields$Tape;", true)
  | 7 => ("HatFields", "rows", "[I", true)
  | 8 => ("HatFields", "rowCount", "I", false)
  | 9 => ("HatFields", "sheets", "[LHatFields$Row;", true)
  | 10 => ("HatFields", "shelves", "[LHatFields$Shelf;", true)
  | _ => ("HatFields", "actor", "LHatFields$Actor;", true)
def tyX7 : Nat → FieldType := fun k => match k with
  | 0 => .object "HatFields$Plain"
  | 1 => .object "HatFields$Plain"
  | 2 => .object "HatFields$Plain"
  | 3 => .boolean
  | 4 => .int
  | 5 => .int
  | 6 => .object "HatFields$Tape"
  | 7 => .array .int
  | 8 => .int
  | 9 => .array (.object "HatFields$Row")
  | 10 => .array (.object "HatFields$Shelf")
  | _ => .object "HatFields$Actor"
abbrev wsX70 : List Cond := u_ws RX7 TX7 12
theorem nmX7 : ∀ a, a < 12 → ∀ b, b < 12 → a ≠ b → (TX7 a).2.1 ≠ (TX7 b).2.1 := by decide +kernel
theorem tyX7_ok : ∀ k, k < 12 → parseFieldDescriptor (TX7 k).2.2.1 = some (tyX7 k) := by decide +kernel
def RX8 : String := "HatFieldsModel"
def TX8 : u_T := fun k => match k with
  | 0 => ("HatFieldsModel", "directions", "[I", true)
  | 1 => ("HatFieldsModel", "forces", "[I", true)
  | 2 => ("HatFieldsModel", "people", "I", false)
  | 3 => ("HatFieldsModel", "speeds", "[I", true)
  | 4 => ("HatFieldsModel", "hats", "I", false)
  | 5 => ("HatFieldsModel", "kinds", "[I", true)
  | 6 => ("HatFieldsModel", "own", "[I", true)
  | 7 => ("HatFieldsModel", "worths", "[I", true)
  | 8 => ("HatFieldsModel", "row", "[I", true)
  | 9 => ("HatFieldsModel", "at", "I", false)
  | 10 => ("HatFieldsModel", "z", "I", false)
  | 11 => ("HatFieldsModel", "tape", "[I", true)
  | 12 => ("HatFieldsModel", "tapeMany", "I", false)
  | 13 => ("HatFieldsModel", "sort", "I", false)
  | 14 => ("HatFieldsModel", "begins", "I", false)
  | 15 => ("HatFieldsModel", "tokenEnds", "I", false)
  | 16 => ("HatFieldsModel", "word", "J", false)
  | 17 => ("HatFieldsModel", "value", "I", false)
  | 18 => ("HatFieldsModel", "good", "Z", false)
  | 19 => ("HatFieldsModel", "freshPeople", "I", false)
  | 20 => ("HatFieldsModel", "freshHats", "I", false)
  | 21 => ("HatFieldsModel", "freshNow", "I", false)
  | 22 => ("HatFieldsModel", "freshStands", "[I", true)
  | 23 => ("HatFieldsModel", "freshSpeeds", "[I", true)
  | 24 => ("HatFieldsModel", "freshKinds", "[I", true)
  | 25 => ("HatFieldsModel", "freshOwn", "[I", true)
  | 26 => ("HatFieldsModel", "freshWorths", "[I", true)
  | 27 => ("HatFieldsModel", "freshWearer", "[I", true)
  | 28 => ("HatFieldsModel", "freshLies", "[I", true)
  | 29 => ("HatFieldsModel", "freshDirections", "[I", true)
  | 30 => ("HatFieldsModel", "freshForces", "[I", true)
  | 31 => ("HatFieldsModel", "rows", "[I", true)
  | 32 => ("HatFieldsModel", "must", "[I", true)
  | 33 => ("HatFieldsModel", "rowMany", "I", false)
  | 34 => ("HatFieldsModel", "mustMany", "I", false)
  | 35 => ("HatFieldsModel", "sorts", "[I", true)
  | 36 => ("HatFieldsModel", "sizes", "[I", true)
  | 37 => ("HatFieldsModel", "sheets", "[J", true)
  | 38 => ("HatFieldsModel", "held", "[I", true)
  | 39 => ("HatFieldsModel", "heldNumber", "[I", true)
  | 40 => ("HatFieldsModel", "heldSize", "[I", true)
  | 41 => ("HatFieldsModel", "kind", "I", false)
  | 42 => ("HatFieldsModel", "number", "I", false)
  | 43 => ("HatFieldsModel", "ownA", "I", false)
  | 44 => ("HatFieldsModel", "traced", "[I", true)
  | 45 => ("HatFieldsModel", "bodies", "I", false)
  | 46 => ("HatFieldsModel", "isParted", "Z", false)
  | 47 => ("HatFieldsModel", "isKept", "Z", false)
  | 48 => ("HatFieldsModel", "keptRow", "[I", true)
  | 49 => ("HatFieldsModel", "movedTo", "I", false)
  | _ => ("HatFieldsModel", "single", "[I", true)
def tyX8 : Nat → FieldType := fun k => match k with
  | 0 => .array .int
  | 1 => .array .int
  | 2 => .int
  | 3 => .array .int
  | 4 => .int
  | 5 => .array .int
  | 6 => .array .int
  | 7 => .array .int
  | 8 => .array .int
  | 9 => .int
  | 10 => .int
  | 11 => .array .int
  | 12 => .int
  | 13 => .int
  | 14 => .int
  | 15 => .int
  | 16 => .long
  | 17 => .int
  | 18 => .boolean
  | 19 => .int
  | 20 => .int
  | 21 => .int
  | 22 => .array .int
  | 23 => .array .int
  | 24 => .array .int
  | 25 => .array .int
  | 26 => .array .int
  | 27 => .array .int
  | 28 => .array .int
  | 29 => .array .int
  | 30 => .array .int
  | 31 => .array .int
  | 32 => .array .int
  | 33 => .int
  | 34 => .int
  | 35 => .array .int
  | 36 => .array .int
  | 37 => .array .long
  | 38 => .array .int
  | 39 => .array .int
  | 40 => .array .int
  | 41 => .int
  | 42 => .int
  | 43 => .int
  | 44 => .array .int
  | 45 => .int
  | 46 => .boolean
  | 47 => .boolean
  | 48 => .array .int
  | 49 => .int
  | _ => .array .int
abbrev wsX80 : List Cond := u_ws RX8 TX8 51
theorem nmX8 : ∀ a, a < 51 → ∀ b, b < 51 → a ≠ b → (TX8 a).2.1 ≠ (TX8 b).2.1 := by decide +kernel
theorem tyX8_ok : ∀ k, k < 51 → parseFieldDescriptor (TX8 k).2.2.1 = some (tyX8 k) := by decide +kernel
abbrev hk_Cl : List vw_C := [(RX0, TX0, 6), (RX1, TX1, 5), (RX2, TX2, 2), (RX3, TX3, 7), (RX4, TX4, 2), (RX5, TX5, 2), (RX6, TX6, 6), (RX7, TX7, 12), (RX8, TX8, 51)]
def hk_ty (t k : Nat) : FieldType := match t with
  | 0 => tyX0 k
  | 1 => tyX1 k
  | 2 => tyX2 k
  | 3 => tyX3 k
  | 4 => tyX4 k
  | 5 => tyX5 k
  | 6 => tyX6 k
  | 7 => tyX7 k
  | 8 => tyX8 k
  | _ => .int
def hk_T (t : Nat) : u_T := match t with
  | 0 => TX0
  | 1 => TX1
  | 2 => TX2
  | 3 => TX3
  | 4 => TX4
  | 5 => TX5
  | 6 => TX6
  | 7 => TX7
  | 8 => TX8
  | _ => fun k => match k with
    | 0 => ("java/lang/String", "value", "[B", true)
    | _ => ("java/lang/String", "coder", "B", true)
def hk_nf (t : Nat) : Nat := match t with
  | 0 => 6
  | 1 => 5
  | 2 => 2
  | 3 => 7
  | 4 => 2
  | 5 => 2
  | 6 => 6
  | 7 => 12
  | 8 => 51
  | _ => 2
def hk_cn (t : Nat) : String := match t with
  | 0 => "HatFields$Actor"
  | 1 => "HatFields$Hat"
  | 2 => "HatFields$Person"
  | 3 => "HatFields$Plain"
  | 4 => "HatFields$Row"
  | 5 => "HatFields$Shelf"
  | 6 => "HatFields$Tape"
  | 7 => "HatFields"
  | 8 => "HatFieldsModel"
  | 9 => "java/lang/String"
  | 10 => "HatFieldsLaw"
  | 11 => "java/lang/StringLatin1"
  | 12 => "jdk/internal/util/Preconditions"
  | 13 => "java/lang/Math"
  | 14 => "java/lang/Integer"
  | 15 => "java/lang/StringUTF16"
  | 16 => "java/lang/System"
  | _ => "java/lang/Object"
end
section
/-! A small machine over whole numbers of cells ('handles'), which the class, the reference and the law run on. Soundness against the model: part 07. -/
/-- an instruction: its pc, what it is (locals by number, jumps by place), the next place, two numbers, a constant, more numbers -/
abbrev hk_In : Type := Nat × Instr × Nat × Nat × Nat × Int32 × List Nat
abbrev hk_Cd : Type := List (List hk_In)
abbrev hk_Ls : Type := List (Nat × Value)
/-- a cell: its sort, its length, what it holds -/
abbrev hk_Ce : Type := Nat × Nat × (Nat → Value)
/-- how many handles there are, and the cells -/
abbrev hk_Hp : Type := Nat × (Nat → hk_Ce)
abbrev hk_Q : Type := Option Value → hk_Hp → Prop
abbrev hk_X : Type := Nat → hk_Ls → List Value → hk_Hp → Nat → Nat → Prop
abbrev hk_C : Type := Nat → List Value → hk_Hp → hk_Q → Prop
def hk_nth {α : Type} : List α → Nat → Option α
  | [], _ => none
  | a :: _, 0 => some a
  | _ :: l, n + 1 => hk_nth l n
def hk_at (cd : hk_Cd) (ip : Nat) : Option hk_In := match hk_nth cd (ip / 16) with
  | none => none
  | some l => hk_nth l (ip % 16)
def hk_lk : hk_Ls → Nat → (Value → Prop) → Prop
  | [], _, _ => False
  | q :: l, i, K => bif Nat.beq q.1 i then K q.2 else hk_lk l i K
def hk_fl (p : Nat × Value → Bool) : hk_Ls → (hk_Ls → Prop) → Prop
  | [], K => K []
  | q :: l, K => bif p q then hk_fl p l (fun l' => K (q :: l')) else hk_fl p l K
def hk_p1 (i : Nat) (q : Nat × Value) : Bool := !(q.1 == i) && !(q.1 + 1 == i && q.2.category == 2)
def hk_p2 (i : Nat) (q : Nat × Value) : Bool := !(q.1 == i) && (!(q.1 == i + 1) && !(q.1 + 1 == i && q.2.category == 2))
/-- some of the locals, by their places -/
def hk_pk : List Nat → hk_Ls → (hk_Ls → Prop) → Prop
  | [], _, K => K []
  | i :: is, ls, K => match hk_nth ls i with
    | some q => hk_pk is ls (fun l => K (q :: l))
    | none => False
def hk_ent : Nat → List Value → (hk_Ls → Prop) → Prop
  | _, [], K => K []
  | i, v :: vs, K => bif Nat.beq v.category 2 then hk_ent (i + 2) vs (fun l => K ((i, v) :: l)) else hk_ent (i + 1) vs (fun l => K ((i, v) :: l))
def hk_pop : Nat → List Value → List Value → (List Value → List Value → Prop) → Prop
  | 0, st, as, K => K as st
  | _ + 1, [], _, _ => False
  | n + 1, v :: st, as, K => hk_pop n st (v :: as) K
def hk_cs : List Value → Nat
  | [] => 0
  | v :: l => v.category + hk_cs l
def hk_up (h : hk_Hp) (a : Nat) (c : hk_Ce) : hk_Hp := (h.1, fun b => bif Nat.beq b a then c else h.2 b)
def hk_nw (h : hk_Hp) (c : hk_Ce) : hk_Hp := (h.1 + 1, fun b => bif Nat.beq b h.1 then c else h.2 b)
/-- a value, looked at -/
def hk_v (v : Value) (K : Value → Prop) : Prop := match v with
  | .int x => K (.int x)
  | .long x => K (.long x)
  | .ref x => K (.ref x)
  | .null => K .null
  | _ => False
def hk_shl (x y : Int32) : Int32 := x <<< (y &&& 31)
def hk_shr (x y : Int32) : Int32 := x >>> (y &&& 31)
def hk_ush (x y : Int32) : Int32 := (x.toUInt32 >>> (y.toUInt32 &&& Int32.toUInt32 31)).toInt32
def hk_rem (x y : Int32) : Int32 := x - x / y * y
def hk_shlL (x : Int64) (y : Int32) : Int64 := x <<< (y.toInt64 &&& 63)
def hk_shrL (x : Int64) (y : Int32) : Int64 := x >>> (y.toInt64 &&& 63)
def hk_ushL (x : Int64) (y : Int32) : Int64 := (x.toUInt64 >>> (y.toInt64.toUInt64 &&& Int64.toUInt64 63)).toInt64
def hk_max (x y : Int32) : Int32 := if x < y then y else x
def hk_min (x y : Int32) : Int32 := if y < x then y else x
def hk_abs (x : Int32) : Int32 := if 0 ≤ x then x else 0 - x
def hk_i1 (f : Int32 → Value) (st : List Value) (K : List Value → Prop) : Prop := match st with
  | .int x :: r => K (f x :: r)
  | _ => False
def hk_i2 (f : Int32 → Int32 → Int32) (st : List Value) (K : List Value → Prop) : Prop := match st with
  | .int y :: .int x :: r => K (.int (f x y) :: r)
  | _ => False
def hk_l2 (f : Int64 → Int64 → Value) (st : List Value) (K : List Value → Prop) : Prop := match st with
  | .long y :: .long x :: r => K (f x y :: r)
  | _ => False
def hk_ls (f : Int64 → Int32 → Int64) (st : List Value) (K : List Value → Prop) : Prop := match st with
  | .int y :: .long x :: r => K (.long (f x y) :: r)
  | _ => False
def hk_dv (f : Int32 → Int32 → Int32) (st : List Value) (K : List Value → Prop) : Prop := match st with
  | .int y :: .int x :: r => ¬ y = 0 ∧ K (.int (f x y) :: r)
  | _ => False
def hk_m2 (f : Int32 → Int32 → Int32) (st : List Value) (K : List Value → Prop) : Prop := match st with
  | .int y :: .int x :: r => bif Nat.ble (hk_cs r) 8 then K (.int (f x y) :: r) else False
  | _ => False
def hk_m1 (f : Int32 → Int32) (st : List Value) (K : List Value → Prop) : Prop := match st with
  | .int x :: r => bif Nat.ble (hk_cs r) 8 then K (.int (f x) :: r) else False
  | _ => False
def hk_br (c : Prop) (A B : Prop) : Prop := (c → A) ∧ (¬ c → B)
def hk_ift (cd : ClassFile.Cond) (x y : Int32) (A B : Prop) : Prop := match cd with
  | .eq => hk_br (x = y) A B
  | .ne => hk_br (x = y) B A
  | .lt => hk_br (x < y) A B
  | .ge => hk_br (y ≤ x) A B
  | .gt => hk_br (y < x) A B
  | .le => hk_br (x ≤ y) A B
def hk_if1 (cd : ClassFile.Cond) (st : List Value) (A B : List Value → Prop) : Prop := match st with
  | .int x :: r => hk_ift cd x 0 (A r) (B r)
  | _ => False
def hk_if2 (cd : ClassFile.Cond) (st : List Value) (A B : List Value → Prop) : Prop := match st with
  | .int y :: .int x :: r => hk_ift cd x y (A r) (B r)
  | _ => False
def hk_nul (st : List Value) (A B : List Value → Prop) : Prop := match st with
  | .null :: r => A r
  | .ref _ :: r => B r
  | _ => False
def hk_sws (x : Int32) (K : Nat → Prop) : Int → List Nat → Prop
  | _, [] => True
  | v, t :: tl => (x.toInt = v → K t) ∧ hk_sws x K (v + 1) tl
def hk_sw (lo : Int) (d : Nat) (tl : List Nat) (st : List Value) (K : Nat → List Value → Prop) : Prop := match st with
  | .int x :: r => (x.toInt < lo ∨ lo + (tl.length - 1) < x.toInt → K d r) ∧ hk_sws x (fun t => K t r) lo tl
  | _ => False
/-- a field is read -/
def hk_gf (h : hk_Hp) (t k : Nat) (st : List Value) (K : List Value → Prop) : Prop := match st with
  | .ref a :: r => bif Nat.beq (h.2 a).1 t then hk_v ((h.2 a).2.2 k) (fun v => K (v :: r)) else False
  | _ => False
def hk_pfv (tc : Nat) (v : Value) (K : Prop) : Prop := match tc, v with
  | 0, .int _ => True ∧ K
  | 1, .int x => fits .boolean (.int x) = true ∧ K
  | 2, .long _ => True ∧ K
  | 3, .ref _ => True ∧ K
  | 3, .null => True ∧ K
  | _, _ => False
/-- a field is written -/
def hk_pf (h : hk_Hp) (t k tc : Nat) (st : List Value) (K : hk_Hp → List Value → Prop) : Prop := match st with
  | v :: .ref a :: r => bif Nat.beq (h.2 a).1 t && Nat.ble 38 a then hk_pfv tc v (K (hk_up h a (t, (h.2 a).2.1, va_up (h.2 a).2.2 k v)) r) else False
  | _ => False
def hk_ald (h : hk_Hp) (t : Nat) (st : List Value) (K : List Value → Prop) : Prop := match st with
  | .int i :: .ref a :: r => bif Nat.beq (h.2 a).1 t then vp_in i (h.2 a).2.1 ∧ hk_v ((h.2 a).2.2 i.toNatClampNeg) (fun v => K (v :: r)) else False
  | _ => False
def hk_ald2 (h : hk_Hp) (st : List Value) (K : List Value → Prop) : Prop := match st with
  | .int i :: .ref a :: r => bif Nat.ble 13 (h.2 a).1 && Nat.ble (h.2 a).1 16 && Nat.ble 38 a then vp_in i (h.2 a).2.1 ∧ hk_v ((h.2 a).2.2 i.toNatClampNeg) (fun v => K (v :: r)) else False
  | _ => False
def hk_astv (t : Nat) (v : Value) (K : Value → Prop) : Prop := match t, v with
  | 10, .int x => K (.int x)
  | 11, .long x => K (.long x)
  | 12, .int x => K (.int x.toInt8.toInt32)
  | _, _ => False
def hk_ast (h : hk_Hp) (t : Nat) (st : List Value) (K : hk_Hp → List Value → Prop) : Prop := match st with
  | v :: .int i :: .ref a :: r => bif Nat.beq (h.2 a).1 t && Nat.ble 38 a then vp_in i (h.2 a).2.1 ∧ hk_astv t v (fun v' => K (hk_up h a (t, (h.2 a).2.1, va_up (h.2 a).2.2 i.toNatClampNeg v')) r) else False
  | _ => False
/-- what the arrays of references hold -/
def hk_comp (t : Nat) : Nat := match t with
  | 13 => 2
  | 14 => 1
  | 15 => 4
  | 16 => 5
  | _ => 99
def hk_ast2 (h : hk_Hp) (st : List Value) (K : hk_Hp → List Value → Prop) : Prop := match st with
  | .ref x :: .int i :: .ref a :: r => bif Nat.ble 13 (h.2 a).1 && Nat.ble (h.2 a).1 16 && Nat.ble 38 a && Nat.beq (h.2 x).1 (hk_comp (h.2 a).1) && Nat.ble 38 x then vp_in i (h.2 a).2.1 ∧ K (hk_up h a ((h.2 a).1, (h.2 a).2.1, va_up (h.2 a).2.2 i.toNatClampNeg (.ref x))) r else False
  | .null :: .int i :: .ref a :: r => bif Nat.ble 13 (h.2 a).1 && Nat.ble (h.2 a).1 16 && Nat.ble 38 a then vp_in i (h.2 a).2.1 ∧ K (hk_up h a ((h.2 a).1, (h.2 a).2.1, va_up (h.2 a).2.2 i.toNatClampNeg .null)) r else False
  | _ => False
def hk_len (h : hk_Hp) (st : List Value) (K : List Value → Prop) : Prop := match st with
  | .ref a :: r => bif Nat.ble 10 (h.2 a).1 && Nat.ble (h.2 a).1 12 then K (.int (nI (h.2 a).2.1) :: r) else False
  | _ => False
def hk_zero (t : Nat) : Value := match t with
  | 10 => .int 0
  | 11 => .long 0
  | 12 => .int 0
  | _ => .null
def hk_nar (h : hk_Hp) (t C S k n : Nat) (st : List Value) (K : hk_Hp → List Value → Nat → Prop) : Prop := match st with
  | .int i :: r => (¬ i < 0 ∧ i.toNatClampNeg ≤ 1000 ∧ k + 1 ≤ C ∧ n + i.toNatClampNeg ≤ S) ∧ K (hk_nw h (t, i.toNatClampNeg, fun _ => hk_zero t)) (.ref h.1 :: r) (n + i.toNatClampNeg)
  | _ => False
def hk_sv (a : Nat) : Value := match a with
  | 0 => .ref 1
  | 1 => .ref 2
  | 2 => .int 1
  | _ => .float 0
def hk_ret (rt : Option FieldType) (st : List Value) (K : Option Value → Prop) : Prop := match rt, st with
  | some .int, [.int v] => K (some (.int v))
  | some ty, [.int v] => narrow ty (.int v) = .int v ∧ K (some (.int v))
  | _, _ => False
def hk_rv (r : Option Value) (st : List Value) (K : List Value → Prop) : Prop := match r with
  | none => K st
  | some v => K (v :: st)
def hk_alc (tl : List Nat) (C S k n : Nat) (K : Nat → Nat → Prop) : Prop := match tl with
  | [_, 0, 0] => K k n
  | [_, a, b] => (k + a ≤ C ∧ n + b ≤ S) ∧ K (k + a) (n + b)
  | _ => False
/-- the receiver is of the class -/
def hk_rc (h : hk_Hp) (as : List Value) (t : Nat) (K : Prop) : Prop := match as with
  | .ref a :: _ => bif Nat.beq (h.2 a).1 t then K else False
  | _ => False
def hk_rn (as : List Value) (K : Prop) : Prop := match as with
  | .ref a :: _ => bif Nat.ble 38 a then K else False
  | _ => False
def hk_cpy (h : hk_Hp) (st : List Value) (K : hk_Hp → List Value → Prop) : Prop := match st with
  | .int n :: .int dp :: .ref b :: .int sp :: .ref a :: r =>
    bif Nat.beq (h.2 a).1 10 && Nat.beq (h.2 b).1 10 && Nat.ble 38 a && Nat.ble 38 b && Nat.ble (hk_cs r) 8 then
      (¬ sp < 0 ∧ ¬ dp < 0 ∧ ¬ n < 0 ∧ sp.toNatClampNeg + n.toNatClampNeg ≤ (h.2 a).2.1 ∧ dp.toNatClampNeg + n.toNatClampNeg ≤ (h.2 b).2.1 ∧ ∀ j, ∃ x, (h.2 a).2.2 j = .int x) ∧
      K (hk_up h b (10, (h.2 b).2.1, va_cpy (h.2 a).2.2 (h.2 b).2.2 sp.toNatClampNeg dp.toNatClampNeg n.toNatClampNeg)) r
    else False
  | _ => False
def hk_lc : List Int64 := [0, 1, (-1), 9, 27, 96, 255, 411, 419, 5879, 10634, 99677, 122087, 400360, 456887, 459652, 7749089, 10408481, 10416091, 10504211, 12532058, 232608281, 234651388, 4294967295, 1747557746734]
def hk_step (rt : Option FieldType) (C S : Nat) (dft : Nat → Nat → Value) (cd : hk_Cd) (call : hk_C) (Q : hk_Q) (X : hk_X) (ip : Nat) (ls : hk_Ls) (st : List Value) (h : hk_Hp) (k n : Nat) : Prop :=
  match hk_at cd ip with
  | none => False
  | some (_, i, nx, a, b, c, tl) =>
    match i with
    | .aconst_null => X nx ls (.null :: st) h k n
    | .iconst _ => X nx ls (.int c :: st) h k n
    | .lconst _ => (match hk_nth hk_lc a with | some v => X nx ls (.long v :: st) h k n | none => False)
    | .ldc _ => X nx ls (.ref a :: st) h k n
    | .iload j => hk_lk ls j (fun v => match v with | .int x => X nx ls (.int x :: st) h k n | _ => False)
    | .lload j => hk_lk ls j (fun v => match v with | .long x => X nx ls (.long x :: st) h k n | _ => False)
    | .aload j => hk_lk ls j (fun v => match v with | .ref x => X nx ls (.ref x :: st) h k n | .null => X nx ls (.null :: st) h k n | _ => False)
    | .istore j => (match st with | .int x :: r => hk_fl (hk_p1 j) ls (fun l => X nx ((j, .int x) :: l) r h k n) | _ => False)
    | .lstore j => (match st with | .long x :: r => hk_fl (hk_p2 j) ls (fun l => X nx ((j, .long x) :: l) r h k n) | _ => False)
    | .astore j => (match st with | .ref x :: r => hk_fl (hk_p1 j) ls (fun l => X nx ((j, .ref x) :: l) r h k n) | .null :: r => hk_fl (hk_p1 j) ls (fun l => X nx ((j, .null) :: l) r h k n) | _ => False)
    | .iinc j _ => hk_lk ls j (fun v => match v with | .int x => hk_fl (hk_p1 j) ls (fun l => X nx ((j, .int (x + c)) :: l) st h k n) | _ => False)
    | .pop => (match st with | .int _ :: r => X nx ls r h k n | _ => False)
    | .dup => (match st with | .int x :: r => X nx ls (.int x :: .int x :: r) h k n | .ref x :: r => X nx ls (.ref x :: .ref x :: r) h k n | _ => False)
    | .iadd => hk_i2 HAdd.hAdd st (fun s => X nx ls s h k n)
    | .isub => hk_i2 HSub.hSub st (fun s => X nx ls s h k n)
    | .imul => hk_i2 HMul.hMul st (fun s => X nx ls s h k n)
    | .iand => hk_i2 HAnd.hAnd st (fun s => X nx ls s h k n)
    | .ior => hk_i2 HOr.hOr st (fun s => X nx ls s h k n)
    | .ixor => hk_i2 HXor.hXor st (fun s => X nx ls s h k n)
    | .ishl => hk_i2 hk_shl st (fun s => X nx ls s h k n)
    | .ishr => hk_i2 hk_shr st (fun s => X nx ls s h k n)
    | .iushr => hk_i2 hk_ush st (fun s => X nx ls s h k n)
    | .idiv => hk_dv HDiv.hDiv st (fun s => X nx ls s h k n)
    | .irem => hk_dv hk_rem st (fun s => X nx ls s h k n)
    | .ineg => hk_i1 (fun x => .int (-x)) st (fun s => X nx ls s h k n)
    | .i2l => hk_i1 (fun x => .long x.toInt64) st (fun s => X nx ls s h k n)
    | .i2b => hk_i1 (fun x => .int x.toInt8.toInt32) st (fun s => X nx ls s h k n)
    | .i2s => hk_i1 (fun x => .int x.toInt16.toInt32) st (fun s => X nx ls s h k n)
    | .i2c => hk_i1 (fun x => .int (x.toUInt32 % 65536).toInt32) st (fun s => X nx ls s h k n)
    | .l2i => (match st with | .long x :: r => X nx ls (.int x.toInt32 :: r) h k n | _ => False)
    | .ladd => hk_l2 (fun x y => .long (x + y)) st (fun s => X nx ls s h k n)
    | .lsub => hk_l2 (fun x y => .long (x - y)) st (fun s => X nx ls s h k n)
    | .lmul => hk_l2 (fun x y => .long (x * y)) st (fun s => X nx ls s h k n)
    | .land => hk_l2 (fun x y => .long (x &&& y)) st (fun s => X nx ls s h k n)
    | .lor => hk_l2 (fun x y => .long (x ||| y)) st (fun s => X nx ls s h k n)
    | .lcmp => hk_l2 (fun x y => .int (lg_cmp x y)) st (fun s => X nx ls s h k n)
    | .lshl => hk_ls hk_shlL st (fun s => X nx ls s h k n)
    | .lshr => hk_ls hk_shrL st (fun s => X nx ls s h k n)
    | .lushr => hk_ls hk_ushL st (fun s => X nx ls s h k n)
    | .fadd => hk_m2 hk_max st (fun s => X nx ls s h k n)
    | .fsub => hk_m2 hk_min st (fun s => X nx ls s h k n)
    | .fneg => hk_m1 hk_abs st (fun s => X nx ls s h k n)
    | .goto _ => bif Nat.ble a ip then (∃ is : List Nat, hk_pk is ls (fun l => X a l st h k n)) else X a ls st h k n
    | .ifCond d _ => hk_if1 d st (fun s => X a ls s h k n) (fun s => X nx ls s h k n)
    | .if_icmp d _ => hk_if2 d st (fun s => X a ls s h k n) (fun s => X nx ls s h k n)
    | .ifnull _ => hk_nul st (fun s => X a ls s h k n) (fun s => X nx ls s h k n)
    | .ifnonnull _ => hk_nul st (fun s => X nx ls s h k n) (fun s => X a ls s h k n)
    | .tableswitch _ lo _ _ => hk_sw lo a tl st (fun t s => X t ls s h k n)
    | .getstatic _ => X nx ls (hk_sv a :: st) h k n
    | .getfield _ => hk_gf h a b st (fun s => X nx ls s h k n)
    | .putfield _ => (match tl with | tc :: _ => hk_pf h a b tc st (fun h' s => X nx ls s h' k n) | _ => False)
    | .iaload => hk_ald h 10 st (fun s => X nx ls s h k n)
    | .laload => hk_ald h 11 st (fun s => X nx ls s h k n)
    | .baload => hk_ald h 12 st (fun s => X nx ls s h k n)
    | .aaload => hk_ald2 h st (fun s => X nx ls s h k n)
    | .iastore => hk_ast h 10 st (fun h' s => X nx ls s h' k n)
    | .lastore => hk_ast h 11 st (fun h' s => X nx ls s h' k n)
    | .bastore => hk_ast h 12 st (fun h' s => X nx ls s h' k n)
    | .aastore => hk_ast2 h st (fun h' s => X nx ls s h' k n)
    | .arraylength => hk_len h st (fun s => X nx ls s h k n)
    | .new _ => (k + 1 ≤ C ∧ n + b ≤ S) ∧ X nx ls (.ref h.1 :: st) (hk_nw h (a, b, dft a)) (k + 1) (n + b)
    | .newarray _ => hk_nar h a C S k n st (fun h' s n' => X nx ls s h' (k + 1) n')
    | .anewarray _ => hk_nar h a C S k n st (fun h' s n' => X nx ls s h' (k + 1) n')
    | .invokedynamic _ => (match st with | .ref x :: r => bif Nat.ble 38 x && Nat.ble (hk_cs r) 8 then X nx ls r h k n else False | _ => False)
    | .invokeinterface _ _ => hk_cpy h st (fun h' s => X nx ls s h' k n)
    | .invokevirtual _ => hk_pop (b + 1) st [] (fun as r => bif Nat.ble (hk_cs r) 8 then hk_rc h as (match tl with | t :: _ => t | _ => 99) (hk_alc tl C S k n (fun k' n' => call a as h (fun v h' => hk_rv v r (fun s => X nx ls s h' k' n')))) else False)
    | .invokestatic _ => hk_pop b st [] (fun as r => bif Nat.ble (hk_cs r) 8 then hk_alc tl C S k n (fun k' n' => call a as h (fun v h' => hk_rv v r (fun s => X nx ls s h' k' n'))) else False)
    | .invokespecial _ => hk_pop (b + 1) st [] (fun as r => bif Nat.ble (hk_cs r) 8 then hk_rn as (hk_alc tl C S k n (fun k' n' => call a as h (fun v h' => hk_rv v r (fun s => X nx ls s h' k' n')))) else False)
    | .ireturn => hk_ret rt st (fun v => Q v h)
    | .return_ => (match rt, st with | none, [] => Q none h | _, _ => False)
    | _ => False
/-- the least that is closed under the steps -/
def hk_wp (rt : Option FieldType) (C S : Nat) (dft : Nat → Nat → Value) (cd : hk_Cd) (call : hk_C) (Q : hk_Q) : hk_X := fun ip ls st h k n =>
  ∀ P : hk_X, (∀ ip ls st h k n, hk_step rt C S dft cd call Q P ip ls st h k n → P ip ls st h k n) → P ip ls st h k n
/-- so many steps, then the least -/
def hk_go (rt : Option FieldType) (C S : Nat) (dft : Nat → Nat → Value) (cd : hk_Cd) (call : hk_C) (Q : hk_Q) (f : Nat) : hk_X :=
  Nat.rec (hk_wp rt C S dft cd call Q) (fun _ X => hk_step rt C S dft cd call Q X) f
end
section
/-- HatFields.<init>()V -/
def hcd0 : hk_Cd := [
 [(0, .aload 0, 1, 0, 0, 0, []),
  (1, .invokedynamic 0, 2, 0, 0, 0, []),
  (4, .aload 0, 3, 0, 0, 0, []),
  (5, .new 0, 4, 3, 7, 0, []),
  (8, .dup, 5, 0, 0, 0, []),
  (9, .invokespecial 0, 6, 1, 0, 0, [3, 15, 99]),
  (12, .putfield 0, 7, 7, 0, 0, [3]),
  (15, .aload 0, 8, 0, 0, 0, []),
  (16, .new 0, 9, 3, 7, 0, []),
  (19, .dup, 10, 0, 0, 0, []),
  (20, .invokespecial 0, 11, 1, 0, 0, [3, 15, 99]),
  (23, .putfield 0, 12, 7, 1, 0, [3]),
  (26, .aload 0, 13, 0, 0, 0, []),
  (27, .new 0, 14, 3, 7, 0, []),
  (30, .dup, 15, 0, 0, 0, []),
  (31, .invokespecial 0, 16, 1, 0, 0, [3, 15, 99])],
 [(34, .putfield 0, 17, 7, 2, 0, [3]),
  (37, .aload 0, 18, 0, 0, 0, []),
  (38, .iconst 0, 19, 0, 0, 1, []),
  (39, .putfield 0, 20, 7, 4, 0, [0]),
  (42, .aload 0, 21, 0, 0, 0, []),
  (43, .new 0, 22, 6, 6, 0, []),
  (46, .dup, 23, 0, 0, 0, []),
  (47, .invokespecial 0, 24, 4, 0, 0, [6, 1, 200]),
  (50, .putfield 0, 25, 7, 6, 0, [3]),
  (53, .aload 0, 26, 0, 0, 0, []),
  (54, .iconst 0, 27, 0, 0, 60, []),
  (56, .newarray .int, 28, 10, 0, 0, []),
  (58, .putfield 0, 29, 7, 7, 0, [3]),
  (61, .aload 0, 30, 0, 0, 0, []),
  (62, .iconst 0, 31, 0, 0, 4, []),
  (63, .anewarray 0, 32, 15, 0, 0, [])],
 [(66, .putfield 0, 33, 7, 9, 0, [3]),
  (69, .aload 0, 34, 0, 0, 0, []),
  (70, .iconst 0, 35, 0, 0, 4, []),
  (71, .anewarray 0, 36, 16, 0, 0, []),
  (74, .putfield 0, 37, 7, 10, 0, [3]),
  (77, .aload 0, 38, 0, 0, 0, []),
  (78, .new 0, 39, 0, 6, 0, []),
  (81, .dup, 40, 0, 0, 0, []),
  (82, .invokespecial 0, 41, 5, 0, 0, [0, 1, 30]),
  (85, .putfield 0, 42, 7, 11, 0, [3]),
  (88, .iconst 0, 43, 0, 0, 0, []),
  (89, .istore 1, 44, 0, 0, 0, []),
  (90, .iload 1, 45, 0, 0, 0, []),
  (91, .iconst 0, 46, 0, 0, 4, []),
  (92, .if_icmp .ge 0, 47, 56, 0, 0, []),
  (95, .aload 0, 48, 0, 0, 0, [])],
 [(96, .getfield 0, 49, 7, 10, 0, []),
  (99, .iload 1, 50, 0, 0, 0, []),
  (100, .new 0, 51, 5, 2, 0, []),
  (103, .dup, 52, 0, 0, 0, []),
  (104, .invokespecial 0, 53, 6, 0, 0, [5, 0, 0]),
  (107, .aastore, 54, 0, 0, 0, []),
  (108, .iinc 1 0, 55, 0, 0, 1, []),
  (111, .goto 0, 56, 44, 0, 0, []),
  (114, .return_, 57, 0, 0, 0, [])]]
/-- HatFields$Plain.<init>()V -/
def hcd1 : hk_Cd := [
 [(0, .aload 0, 1, 0, 0, 0, []),
  (1, .invokedynamic 0, 2, 0, 0, 0, []),
  (4, .aload 0, 3, 0, 0, 0, []),
  (5, .iconst 0, 4, 0, 0, 24, []),
  (7, .newarray .int, 5, 10, 0, 0, []),
  (9, .putfield 0, 6, 3, 0, 0, [3]),
  (12, .aload 0, 7, 0, 0, 0, []),
  (13, .iconst 0, 8, 0, 0, 24, []),
  (15, .newarray .int, 9, 10, 0, 0, []),
  (17, .putfield 0, 10, 3, 1, 0, [3]),
  (20, .aload 0, 11, 0, 0, 0, []),
  (21, .iconst 0, 12, 0, 0, 5, []),
  (22, .anewarray 0, 13, 13, 0, 0, []),
  (25, .putfield 0, 14, 3, 2, 0, [3]),
  (28, .aload 0, 15, 0, 0, 0, []),
  (29, .iconst 0, 16, 0, 0, 6, [])],
 [(31, .anewarray 0, 17, 14, 0, 0, []),
  (34, .putfield 0, 18, 3, 3, 0, [3]),
  (37, .iconst 0, 19, 0, 0, 0, []),
  (38, .istore 1, 20, 0, 0, 0, []),
  (39, .iload 1, 21, 0, 0, 0, []),
  (40, .iconst 0, 22, 0, 0, 5, []),
  (41, .if_icmp .ge 0, 23, 32, 0, 0, []),
  (44, .aload 0, 24, 0, 0, 0, []),
  (45, .getfield 0, 25, 3, 2, 0, []),
  (48, .iload 1, 26, 0, 0, 0, []),
  (49, .new 0, 27, 2, 2, 0, []),
  (52, .dup, 28, 0, 0, 0, []),
  (53, .invokespecial 0, 29, 2, 0, 0, [2, 0, 0]),
  (56, .aastore, 30, 0, 0, 0, []),
  (57, .iinc 1 0, 31, 0, 0, 1, []),
  (60, .goto 0, 32, 20, 0, 0, [])],
 [(63, .iconst 0, 33, 0, 0, 0, []),
  (64, .istore 1, 34, 0, 0, 0, []),
  (65, .iload 1, 35, 0, 0, 0, []),
  (66, .iconst 0, 36, 0, 0, 6, []),
  (68, .if_icmp .ge 0, 37, 46, 0, 0, []),
  (71, .aload 0, 38, 0, 0, 0, []),
  (72, .getfield 0, 39, 3, 3, 0, []),
  (75, .iload 1, 40, 0, 0, 0, []),
  (76, .new 0, 41, 1, 5, 0, []),
  (79, .dup, 42, 0, 0, 0, []),
  (80, .invokespecial 0, 43, 3, 0, 0, [1, 0, 0]),
  (83, .aastore, 44, 0, 0, 0, []),
  (84, .iinc 1 0, 45, 0, 0, 1, []),
  (87, .goto 0, 46, 34, 0, 0, []),
  (90, .return_, 47, 0, 0, 0, [])]]
/-- HatFields$Person.<init>()V -/
def hcd2 : hk_Cd := [
 [(0, .aload 0, 1, 0, 0, 0, []),
  (1, .invokedynamic 0, 2, 0, 0, 0, []),
  (4, .return_, 3, 0, 0, 0, [])]]
/-- HatFields$Hat.<init>()V -/
def hcd3 : hk_Cd := [
 [(0, .aload 0, 1, 0, 0, 0, []),
  (1, .invokedynamic 0, 2, 0, 0, 0, []),
  (4, .aload 0, 3, 0, 0, 0, []),
  (5, .iconst 0, 4, 0, 0, (-9), []),
  (7, .putfield 0, 5, 1, 3, 0, [0]),
  (10, .aload 0, 6, 0, 0, 0, []),
  (11, .iconst 0, 7, 0, 0, (-9), []),
  (13, .putfield 0, 8, 1, 4, 0, [0]),
  (16, .return_, 9, 0, 0, 0, [])]]
/-- HatFields$Tape.<init>()V -/
def hcd4 : hk_Cd := [
 [(0, .aload 0, 1, 0, 0, 0, []),
  (1, .invokedynamic 0, 2, 0, 0, 0, []),
  (4, .aload 0, 3, 0, 0, 0, []),
  (5, .iconst 0, 4, 0, 0, 200, []),
  (8, .newarray .byte, 5, 12, 0, 0, []),
  (10, .putfield 0, 6, 6, 0, 0, [3]),
  (13, .return_, 7, 0, 0, 0, [])]]
/-- HatFields$Actor.<init>()V -/
def hcd5 : hk_Cd := [
 [(0, .aload 0, 1, 0, 0, 0, []),
  (1, .invokedynamic 0, 2, 0, 0, 0, []),
  (4, .aload 0, 3, 0, 0, 0, []),
  (5, .iconst 0, 4, 0, 0, 30, []),
  (7, .newarray .int, 5, 10, 0, 0, []),
  (9, .putfield 0, 6, 0, 0, 0, [3]),
  (12, .return_, 7, 0, 0, 0, [])]]
/-- HatFields$Shelf.<init>()V -/
def hcd6 : hk_Cd := [
 [(0, .aload 0, 1, 0, 0, 0, []),
  (1, .invokedynamic 0, 2, 0, 0, 0, []),
  (4, .aload 0, 3, 0, 0, 0, []),
  (5, .iconst 0, 4, 0, 0, (-1), []),
  (6, .putfield 0, 5, 5, 0, 0, [0]),
  (9, .return_, 6, 0, 0, 0, [])]]
/-- HatFields.feed(JI)I -/
def hcd7 : hk_Cd := [
 [(0, .iload 3, 1, 0, 0, 0, []),
  (1, .iconst 0, 2, 0, 0, 1, []),
  (2, .if_icmp .lt 0, 3, 6, 0, 0, []),
  (5, .iload 3, 4, 0, 0, 0, []),
  (6, .iconst 0, 5, 0, 0, 8, []),
  (8, .if_icmp .le 0, 6, 8, 0, 0, []),
  (11, .iconst 0, 7, 0, 0, (-1), []),
  (12, .ireturn, 8, 0, 0, 0, []),
  (13, .iload 3, 9, 0, 0, 0, []),
  (14, .aload 0, 10, 0, 0, 0, []),
  (15, .getfield 0, 11, 7, 6, 0, []),
  (18, .invokevirtual 0, 12, 8, 0, 0, [6, 0, 0]),
  (21, .if_icmp .le 0, 13, 15, 0, 0, []),
  (24, .iconst 0, 14, 0, 0, (-2), []),
  (26, .ireturn, 15, 0, 0, 0, []),
  (27, .iconst 0, 16, 0, 0, 0, [])],
 [(28, .istore 4, 17, 0, 0, 0, []),
  (30, .iload 4, 18, 0, 0, 0, []),
  (32, .iload 3, 19, 0, 0, 0, []),
  (33, .if_icmp .ge 0, 20, 32, 0, 0, []),
  (36, .aload 0, 21, 0, 0, 0, []),
  (37, .getfield 0, 22, 7, 6, 0, []),
  (40, .lload 1, 23, 0, 0, 0, []),
  (41, .iconst 0, 24, 0, 0, 8, []),
  (43, .iload 4, 25, 0, 0, 0, []),
  (45, .imul, 26, 0, 0, 0, []),
  (46, .lushr, 27, 0, 0, 0, []),
  (47, .l2i, 28, 0, 0, 0, []),
  (48, .i2b, 29, 0, 0, 0, []),
  (49, .invokevirtual 0, 30, 9, 1, 0, [6, 0, 0]),
  (52, .iinc 4 0, 31, 0, 0, 1, []),
  (55, .goto 0, 32, 17, 0, 0, [])],
 [(58, .aload 0, 33, 0, 0, 0, []),
  (59, .getfield 0, 34, 7, 6, 0, []),
  (62, .getfield 0, 35, 6, 1, 0, []),
  (65, .ireturn, 36, 0, 0, 0, [])]]
/-- HatFields$Tape.room()I -/
def hcd8 : hk_Cd := [
 [(0, .iconst 0, 1, 0, 0, 200, []),
  (3, .aload 0, 2, 0, 0, 0, []),
  (4, .getfield 0, 3, 6, 1, 0, []),
  (7, .isub, 4, 0, 0, 0, []),
  (8, .ireturn, 5, 0, 0, 0, [])]]
/-- HatFields$Tape.take(B)V -/
def hcd9 : hk_Cd := [
 [(0, .aload 0, 1, 0, 0, 0, []),
  (1, .getfield 0, 2, 6, 1, 0, []),
  (4, .iconst 0, 3, 0, 0, 200, []),
  (7, .if_icmp .ge 0, 4, 16, 0, 0, []),
  (10, .aload 0, 5, 0, 0, 0, []),
  (11, .getfield 0, 6, 6, 0, 0, []),
  (14, .aload 0, 7, 0, 0, 0, []),
  (15, .getfield 0, 8, 6, 1, 0, []),
  (18, .iload 1, 9, 0, 0, 0, []),
  (19, .bastore, 10, 0, 0, 0, []),
  (20, .aload 0, 11, 0, 0, 0, []),
  (21, .dup, 12, 0, 0, 0, []),
  (22, .getfield 0, 13, 6, 1, 0, []),
  (25, .iconst 0, 14, 0, 0, 1, []),
  (26, .iadd, 15, 0, 0, 0, []),
  (27, .putfield 0, 16, 6, 1, 0, [0])],
 [(30, .return_, 17, 0, 0, 0, [])]]
/-- HatFields.plain()I -/
def hcd10 : hk_Cd := [
 [(0, .aload 0, 1, 0, 0, 0, []),
  (1, .getfield 0, 2, 7, 6, 0, []),
  (4, .aload 0, 3, 0, 0, 0, []),
  (5, .getfield 0, 4, 7, 1, 0, []),
  (8, .invokevirtual 0, 5, 11, 1, 0, [6, 0, 0]),
  (11, .istore 1, 6, 0, 0, 0, []),
  (12, .iload 1, 7, 0, 0, 0, []),
  (13, .ifCond .lt 0, 8, 12, 0, 0, []),
  (16, .iconst 0, 9, 0, 0, (-100), []),
  (18, .iload 1, 10, 0, 0, 0, []),
  (19, .isub, 11, 0, 0, 0, []),
  (20, .ireturn, 12, 0, 0, 0, []),
  (21, .aload 0, 13, 0, 0, 0, []),
  (22, .getfield 0, 14, 7, 0, 0, []),
  (25, .aload 0, 15, 0, 0, 0, []),
  (26, .getfield 0, 16, 7, 1, 0, [])],
 [(29, .invokevirtual 0, 17, 40, 1, 0, [3, 0, 0]),
  (32, .aload 0, 18, 0, 0, 0, []),
  (33, .iconst 0, 19, 0, 0, 0, []),
  (34, .putfield 0, 20, 7, 8, 0, [0]),
  (37, .aload 0, 21, 0, 0, 0, []),
  (38, .getfield 0, 22, 7, 0, 0, []),
  (41, .getfield 0, 23, 3, 5, 0, []),
  (44, .ireturn, 24, 0, 0, 0, [])]]
/-- HatFields$Tape.tellTo(LHatFields$Plain;)I -/
def hcd11 : hk_Cd := [
 [(0, .aload 0, 1, 0, 0, 0, []),
  (1, .iconst 0, 2, 0, 0, 0, []),
  (2, .putfield 0, 3, 6, 4, 0, [0]),
  (5, .aload 0, 4, 0, 0, 0, []),
  (6, .iconst 0, 5, 0, 0, (-1), []),
  (7, .putfield 0, 6, 6, 5, 0, [0]),
  (10, .aload 1, 7, 0, 0, 0, []),
  (11, .invokevirtual 0, 8, 12, 0, 0, [3, 0, 0]),
  (14, .aload 0, 9, 0, 0, 0, []),
  (15, .invokevirtual 0, 10, 15, 0, 0, [6, 0, 0]),
  (18, .iconst 0, 11, 0, 0, 0, []),
  (19, .istore 2, 12, 0, 0, 0, []),
  (20, .iload 2, 13, 0, 0, 0, []),
  (21, .iconst 0, 14, 0, 0, 200, []),
  (24, .if_icmp .ge 0, 15, 27, 0, 0, []),
  (27, .aload 0, 16, 0, 0, 0, [])],
 [(28, .getfield 0, 17, 6, 5, 0, []),
  (31, .iconst 0, 18, 0, 0, (-1), []),
  (32, .if_icmp .ne 0, 19, 27, 0, 0, []),
  (35, .aload 0, 20, 0, 0, 0, []),
  (36, .getfield 0, 21, 6, 2, 0, []),
  (39, .ifCond .eq 0, 22, 27, 0, 0, []),
  (42, .aload 0, 23, 0, 0, 0, []),
  (43, .aload 1, 24, 0, 0, 0, []),
  (44, .invokevirtual 0, 25, 17, 1, 0, [6, 0, 0]),
  (47, .iinc 2 0, 26, 0, 0, 1, []),
  (50, .goto 0, 27, 12, 0, 0, []),
  (53, .aload 0, 28, 0, 0, 0, []),
  (54, .iconst 0, 29, 0, 0, 0, []),
  (55, .putfield 0, 30, 6, 1, 0, [0]),
  (58, .aload 0, 31, 0, 0, 0, []),
  (59, .getfield 0, 32, 6, 5, 0, [])],
 [(62, .ireturn, 33, 0, 0, 0, [])]]
/-- HatFields$Plain.clear()V -/
def hcd12 : hk_Cd := [
 [(0, .aload 0, 1, 0, 0, 0, []),
  (1, .invokevirtual 0, 2, 13, 0, 0, [3, 0, 0]),
  (4, .aload 0, 3, 0, 0, 0, []),
  (5, .iconst 0, 4, 0, 0, 0, []),
  (6, .putfield 0, 5, 3, 4, 0, [0]),
  (9, .aload 0, 6, 0, 0, 0, []),
  (10, .iconst 0, 7, 0, 0, 0, []),
  (11, .putfield 0, 8, 3, 5, 0, [0]),
  (14, .aload 0, 9, 0, 0, 0, []),
  (15, .iconst 0, 10, 0, 0, 0, []),
  (16, .putfield 0, 11, 3, 6, 0, [0]),
  (19, .return_, 12, 0, 0, 0, [])]]
/-- HatFields$Plain.stillWinds()V -/
def hcd13 : hk_Cd := [
 [(0, .iconst 0, 1, 0, 0, 0, []),
  (1, .istore 1, 2, 0, 0, 0, []),
  (2, .iload 1, 3, 0, 0, 0, []),
  (3, .iconst 0, 4, 0, 0, 24, []),
  (5, .if_icmp .ge 0, 5, 12, 0, 0, []),
  (8, .aload 0, 6, 0, 0, 0, []),
  (9, .iload 1, 7, 0, 0, 0, []),
  (10, .iconst 0, 8, 0, 0, 0, []),
  (11, .iconst 0, 9, 0, 0, 0, []),
  (12, .invokevirtual 0, 10, 14, 3, 0, [3, 0, 0]),
  (15, .iinc 1 0, 11, 0, 0, 1, []),
  (18, .goto 0, 12, 2, 0, 0, []),
  (21, .return_, 13, 0, 0, 0, [])]]
/-- HatFields$Plain.setWind(III)V -/
def hcd14 : hk_Cd := [
 [(0, .aload 0, 1, 0, 0, 0, []),
  (1, .getfield 0, 2, 3, 0, 0, []),
  (4, .iload 1, 3, 0, 0, 0, []),
  (5, .iload 2, 4, 0, 0, 0, []),
  (6, .iastore, 5, 0, 0, 0, []),
  (7, .aload 0, 6, 0, 0, 0, []),
  (8, .getfield 0, 7, 3, 1, 0, []),
  (11, .iload 1, 8, 0, 0, 0, []),
  (12, .iload 3, 9, 0, 0, 0, []),
  (13, .iastore, 10, 0, 0, 0, []),
  (14, .return_, 11, 0, 0, 0, [])]]
/-- HatFields$Tape.step()V -/
def hcd15 : hk_Cd := [
 [(0, .aload 0, 1, 0, 0, 0, []),
  (1, .aload 0, 2, 0, 0, 0, []),
  (2, .getfield 0, 3, 6, 4, 0, []),
  (5, .putfield 0, 4, 6, 3, 0, [0]),
  (8, .aload 0, 5, 0, 0, 0, []),
  (9, .getfield 0, 6, 6, 3, 0, []),
  (12, .aload 0, 7, 0, 0, 0, []),
  (13, .getfield 0, 8, 6, 1, 0, []),
  (16, .if_icmp .ge 0, 9, 23, 0, 0, []),
  (19, .aload 0, 10, 0, 0, 0, []),
  (20, .getfield 0, 11, 6, 0, 0, []),
  (23, .aload 0, 12, 0, 0, 0, []),
  (24, .getfield 0, 13, 6, 3, 0, []),
  (27, .baload, 14, 0, 0, 0, []),
  (28, .iconst 0, 15, 0, 0, 32, []),
  (30, .if_icmp .ne 0, 16, 23, 0, 0, [])],
 [(33, .aload 0, 17, 0, 0, 0, []),
  (34, .dup, 18, 0, 0, 0, []),
  (35, .getfield 0, 19, 6, 3, 0, []),
  (38, .iconst 0, 20, 0, 0, 1, []),
  (39, .iadd, 21, 0, 0, 0, []),
  (40, .putfield 0, 22, 6, 3, 0, [0]),
  (43, .goto 0, 23, 4, 0, 0, []),
  (46, .aload 0, 24, 0, 0, 0, []),
  (47, .aload 0, 25, 0, 0, 0, []),
  (48, .aload 0, 26, 0, 0, 0, []),
  (49, .getfield 0, 27, 6, 3, 0, []),
  (52, .invokevirtual 0, 28, 16, 1, 0, [6, 0, 0]),
  (55, .putfield 0, 29, 6, 2, 0, [0]),
  (58, .aload 0, 30, 0, 0, 0, []),
  (59, .aload 0, 31, 0, 0, 0, []),
  (60, .getfield 0, 32, 6, 3, 0, [])],
 [(63, .putfield 0, 33, 6, 4, 0, [0]),
  (66, .aload 0, 34, 0, 0, 0, []),
  (67, .getfield 0, 35, 6, 2, 0, []),
  (70, .iconst 0, 36, 0, 0, 3, []),
  (71, .if_icmp .ne 0, 37, 44, 0, 0, []),
  (74, .aload 0, 38, 0, 0, 0, []),
  (75, .dup, 39, 0, 0, 0, []),
  (76, .getfield 0, 40, 6, 4, 0, []),
  (79, .iconst 0, 41, 0, 0, 1, []),
  (80, .iadd, 42, 0, 0, 0, []),
  (81, .putfield 0, 43, 6, 4, 0, [0]),
  (84, .goto 0, 44, 66, 0, 0, []),
  (87, .aload 0, 45, 0, 0, 0, []),
  (88, .getfield 0, 46, 6, 2, 0, []),
  (91, .ifCond .eq 0, 47, 66, 0, 0, []),
  (94, .aload 0, 48, 0, 0, 0, [])],
 [(95, .getfield 0, 49, 6, 4, 0, []),
  (98, .aload 0, 50, 0, 0, 0, []),
  (99, .getfield 0, 51, 6, 1, 0, []),
  (102, .if_icmp .ge 0, 52, 66, 0, 0, []),
  (105, .aload 0, 53, 0, 0, 0, []),
  (106, .aload 0, 54, 0, 0, 0, []),
  (107, .getfield 0, 55, 6, 4, 0, []),
  (110, .invokevirtual 0, 56, 16, 1, 0, [6, 0, 0]),
  (113, .aload 0, 57, 0, 0, 0, []),
  (114, .getfield 0, 58, 6, 2, 0, []),
  (117, .if_icmp .ne 0, 59, 66, 0, 0, []),
  (120, .aload 0, 60, 0, 0, 0, []),
  (121, .dup, 61, 0, 0, 0, []),
  (122, .getfield 0, 62, 6, 4, 0, []),
  (125, .iconst 0, 63, 0, 0, 1, []),
  (126, .iadd, 64, 0, 0, 0, [])],
 [(127, .putfield 0, 65, 6, 4, 0, [0]),
  (130, .goto 0, 66, 47, 0, 0, []),
  (133, .return_, 67, 0, 0, 0, [])]]
/-- HatFields$Tape.sortAt(I)I -/
def hcd16 : hk_Cd := [
 [(0, .iload 1, 1, 0, 0, 0, []),
  (1, .aload 0, 2, 0, 0, 0, []),
  (2, .getfield 0, 3, 6, 1, 0, []),
  (5, .if_icmp .lt 0, 4, 6, 0, 0, []),
  (8, .iconst 0, 5, 0, 0, 0, []),
  (9, .ireturn, 6, 0, 0, 0, []),
  (10, .aload 0, 7, 0, 0, 0, []),
  (11, .getfield 0, 8, 6, 0, 0, []),
  (14, .iload 1, 9, 0, 0, 0, []),
  (15, .baload, 10, 0, 0, 0, []),
  (16, .iconst 0, 11, 0, 0, 97, []),
  (18, .if_icmp .lt 0, 12, 20, 0, 0, []),
  (21, .aload 0, 13, 0, 0, 0, []),
  (22, .getfield 0, 14, 6, 0, 0, []),
  (25, .iload 1, 15, 0, 0, 0, []),
  (26, .baload, 16, 0, 0, 0, [])],
 [(27, .iconst 0, 17, 0, 0, 122, []),
  (29, .if_icmp .gt 0, 18, 20, 0, 0, []),
  (32, .iconst 0, 19, 0, 0, 1, []),
  (33, .ireturn, 20, 0, 0, 0, []),
  (34, .aload 0, 21, 0, 0, 0, []),
  (35, .getfield 0, 22, 6, 0, 0, []),
  (38, .iload 1, 23, 0, 0, 0, []),
  (39, .baload, 24, 0, 0, 0, []),
  (40, .iconst 0, 25, 0, 0, 48, []),
  (42, .if_icmp .lt 0, 26, 34, 0, 0, []),
  (45, .aload 0, 27, 0, 0, 0, []),
  (46, .getfield 0, 28, 6, 0, 0, []),
  (49, .iload 1, 29, 0, 0, 0, []),
  (50, .baload, 30, 0, 0, 0, []),
  (51, .iconst 0, 31, 0, 0, 57, []),
  (53, .if_icmp .gt 0, 32, 34, 0, 0, [])],
 [(56, .iconst 0, 33, 0, 0, 2, []),
  (57, .goto 0, 34, 35, 0, 0, []),
  (60, .iconst 0, 35, 0, 0, 3, []),
  (61, .ireturn, 36, 0, 0, 0, [])]]
/-- HatFields$Tape.readOne(LHatFields$Plain;)V -/
def hcd17 : hk_Cd := [
 [(0, .aload 0, 1, 0, 0, 0, []),
  (1, .invokevirtual 0, 2, 18, 0, 0, [6, 0, 0]),
  (4, .istore 2, 3, 0, 0, 0, []),
  (5, .iload 2, 4, 0, 0, 0, []),
  (6, .ifCond .lt 0, 5, 14, 0, 0, []),
  (9, .aload 1, 6, 0, 0, 0, []),
  (10, .getfield 0, 7, 3, 5, 0, []),
  (13, .iconst 0, 8, 0, 0, 6, []),
  (15, .if_icmp .ge 0, 9, 14, 0, 0, []),
  (18, .aload 0, 10, 0, 0, 0, []),
  (19, .aload 1, 11, 0, 0, 0, []),
  (20, .iload 2, 12, 0, 0, 0, []),
  (21, .invokevirtual 0, 13, 27, 2, 0, [6, 0, 0]),
  (24, .goto 0, 14, 50, 0, 0, []),
  (27, .aload 0, 15, 0, 0, 0, []),
  (28, .ldc 0, 16, 13, 0, 0, [])],
 [(30, .invokevirtual 0, 17, 19, 1, 0, [6, 0, 0]),
  (33, .ifCond .eq 0, 18, 26, 0, 0, []),
  (36, .aload 1, 19, 0, 0, 0, []),
  (37, .getfield 0, 20, 3, 4, 0, []),
  (40, .iconst 0, 21, 0, 0, 5, []),
  (41, .if_icmp .ge 0, 22, 26, 0, 0, []),
  (44, .aload 0, 23, 0, 0, 0, []),
  (45, .aload 1, 24, 0, 0, 0, []),
  (46, .invokevirtual 0, 25, 36, 1, 0, [6, 0, 0]),
  (49, .goto 0, 26, 50, 0, 0, []),
  (52, .aload 0, 27, 0, 0, 0, []),
  (53, .ldc 0, 28, 15, 0, 0, []),
  (55, .invokevirtual 0, 29, 19, 1, 0, [6, 0, 0]),
  (58, .ifCond .eq 0, 30, 34, 0, 0, []),
  (61, .aload 0, 31, 0, 0, 0, []),
  (62, .aload 1, 32, 0, 0, 0, [])],
 [(63, .invokevirtual 0, 33, 38, 1, 0, [6, 0, 0]),
  (66, .goto 0, 34, 50, 0, 0, []),
  (69, .aload 0, 35, 0, 0, 0, []),
  (70, .ldc 0, 36, 20, 0, 0, []),
  (72, .invokevirtual 0, 37, 19, 1, 0, [6, 0, 0]),
  (75, .ifCond .eq 0, 38, 48, 0, 0, []),
  (78, .aload 0, 39, 0, 0, 0, []),
  (79, .invokevirtual 0, 40, 15, 0, 0, [6, 0, 0]),
  (82, .aload 1, 41, 0, 0, 0, []),
  (83, .aload 0, 42, 0, 0, 0, []),
  (84, .iconst 0, 43, 0, 0, 96, []),
  (86, .invokevirtual 0, 44, 28, 1, 0, [6, 0, 0]),
  (89, .putfield 0, 45, 3, 6, 0, [0]),
  (92, .aload 0, 46, 0, 0, 0, []),
  (93, .invokevirtual 0, 47, 35, 0, 0, [6, 0, 0]),
  (96, .goto 0, 48, 50, 0, 0, [])],
 [(99, .aload 0, 49, 0, 0, 0, []),
  (100, .invokevirtual 0, 50, 29, 0, 0, [6, 0, 0]),
  (103, .return_, 51, 0, 0, 0, [])]]
/-- HatFields$Tape.kindNamed()I -/
def hcd18 : hk_Cd := [
 [(0, .aload 0, 1, 0, 0, 0, []),
  (1, .ldc 0, 2, 4, 0, 0, []),
  (3, .invokevirtual 0, 3, 19, 1, 0, [6, 0, 0]),
  (6, .ifCond .eq 0, 4, 6, 0, 0, []),
  (9, .iconst 0, 5, 0, 0, 0, []),
  (10, .goto 0, 6, 37, 0, 0, []),
  (13, .aload 0, 7, 0, 0, 0, []),
  (14, .ldc 0, 8, 5, 0, 0, []),
  (16, .invokevirtual 0, 9, 19, 1, 0, [6, 0, 0]),
  (19, .ifCond .eq 0, 10, 12, 0, 0, []),
  (22, .iconst 0, 11, 0, 0, 1, []),
  (23, .goto 0, 12, 37, 0, 0, []),
  (26, .aload 0, 13, 0, 0, 0, []),
  (27, .ldc 0, 14, 6, 0, 0, []),
  (29, .invokevirtual 0, 15, 19, 1, 0, [6, 0, 0]),
  (32, .ifCond .eq 0, 16, 18, 0, 0, [])],
 [(35, .iconst 0, 17, 0, 0, 2, []),
  (36, .goto 0, 18, 37, 0, 0, []),
  (39, .aload 0, 19, 0, 0, 0, []),
  (40, .ldc 0, 20, 7, 0, 0, []),
  (42, .invokevirtual 0, 21, 19, 1, 0, [6, 0, 0]),
  (45, .ifCond .eq 0, 22, 24, 0, 0, []),
  (48, .iconst 0, 23, 0, 0, 3, []),
  (49, .goto 0, 24, 37, 0, 0, []),
  (52, .aload 0, 25, 0, 0, 0, []),
  (53, .ldc 0, 26, 8, 0, 0, []),
  (55, .invokevirtual 0, 27, 19, 1, 0, [6, 0, 0]),
  (58, .ifCond .eq 0, 28, 30, 0, 0, []),
  (61, .iconst 0, 29, 0, 0, 4, []),
  (62, .goto 0, 30, 37, 0, 0, []),
  (65, .aload 0, 31, 0, 0, 0, []),
  (66, .ldc 0, 32, 9, 0, 0, [])],
 [(68, .invokevirtual 0, 33, 19, 1, 0, [6, 0, 0]),
  (71, .ifCond .eq 0, 34, 36, 0, 0, []),
  (74, .iconst 0, 35, 0, 0, 5, []),
  (75, .goto 0, 36, 37, 0, 0, []),
  (78, .iconst 0, 37, 0, 0, (-1), []),
  (79, .ireturn, 38, 0, 0, 0, [])]]
/-- HatFields$Tape.spells(Ljava/lang/String;)Z -/
def hcd19 : hk_Cd := [
 [(0, .aload 0, 1, 0, 0, 0, []),
  (1, .getfield 0, 2, 6, 2, 0, []),
  (4, .iconst 0, 3, 0, 0, 1, []),
  (5, .if_icmp .ne 0, 4, 12, 0, 0, []),
  (8, .aload 0, 5, 0, 0, 0, []),
  (9, .getfield 0, 6, 6, 4, 0, []),
  (12, .aload 0, 7, 0, 0, 0, []),
  (13, .getfield 0, 8, 6, 3, 0, []),
  (16, .isub, 9, 0, 0, 0, []),
  (17, .aload 1, 10, 0, 0, 0, []),
  (18, .invokevirtual 0, 11, 20, 0, 0, [9, 0, 0]),
  (21, .if_icmp .eq 0, 12, 14, 0, 0, []),
  (24, .iconst 0, 13, 0, 0, 0, []),
  (25, .ireturn, 14, 0, 0, 0, []),
  (26, .iconst 0, 15, 0, 0, 0, []),
  (27, .istore 2, 16, 0, 0, 0, [])],
 [(28, .iload 2, 17, 0, 0, 0, []),
  (29, .aload 1, 18, 0, 0, 0, []),
  (30, .invokevirtual 0, 19, 20, 0, 0, [9, 0, 0]),
  (33, .if_icmp .ge 0, 20, 35, 0, 0, []),
  (36, .aload 0, 21, 0, 0, 0, []),
  (37, .getfield 0, 22, 6, 0, 0, []),
  (40, .aload 0, 23, 0, 0, 0, []),
  (41, .getfield 0, 24, 6, 3, 0, []),
  (44, .iload 2, 25, 0, 0, 0, []),
  (45, .iadd, 26, 0, 0, 0, []),
  (46, .baload, 27, 0, 0, 0, []),
  (47, .aload 1, 28, 0, 0, 0, []),
  (48, .iload 2, 29, 0, 0, 0, []),
  (49, .invokevirtual 0, 30, 22, 1, 0, [9, 0, 0]),
  (52, .if_icmp .eq 0, 31, 33, 0, 0, []),
  (55, .iconst 0, 32, 0, 0, 0, [])],
 [(56, .ireturn, 33, 0, 0, 0, []),
  (57, .iinc 2 0, 34, 0, 0, 1, []),
  (60, .goto 0, 35, 16, 0, 0, []),
  (63, .iconst 0, 36, 0, 0, 1, []),
  (64, .ireturn, 37, 0, 0, 0, [])]]
/-- java/lang/String.length()I -/
def hcd20 : hk_Cd := [
 [(0, .aload 0, 1, 0, 0, 0, []),
  (1, .getfield 0, 2, 9, 0, 0, []),
  (4, .arraylength, 3, 0, 0, 0, []),
  (5, .aload 0, 4, 0, 0, 0, []),
  (6, .invokevirtual 0, 5, 21, 0, 0, [9, 0, 0]),
  (9, .ishr, 6, 0, 0, 0, []),
  (10, .ireturn, 7, 0, 0, 0, [])]]
/-- java/lang/String.coder()B -/
def hcd21 : hk_Cd := [
 [(0, .getstatic 0, 1, 2, 0, 0, []),
  (3, .ifCond .eq 0, 2, 5, 0, 0, []),
  (6, .aload 0, 3, 0, 0, 0, []),
  (7, .getfield 0, 4, 9, 1, 0, []),
  (10, .goto 0, 5, 6, 0, 0, []),
  (13, .iconst 0, 6, 0, 0, 1, []),
  (14, .ireturn, 7, 0, 0, 0, [])]]
/-- java/lang/String.charAt(I)C -/
def hcd22 : hk_Cd := [
 [(0, .aload 0, 1, 0, 0, 0, []),
  (1, .invokevirtual 0, 2, 23, 0, 0, [9, 0, 0]),
  (4, .ifCond .eq 0, 3, 8, 0, 0, []),
  (7, .aload 0, 4, 0, 0, 0, []),
  (8, .getfield 0, 5, 9, 0, 0, []),
  (11, .iload 1, 6, 0, 0, 0, []),
  (12, .invokestatic 0, 7, 24, 2, 0, [11, 0, 0]),
  (15, .ireturn, 8, 0, 0, 0, []),
  (16, .aload 0, 9, 0, 0, 0, []),
  (17, .getfield 0, 10, 9, 0, 0, []),
  (20, .iload 1, 11, 0, 0, 0, []),
  (21, .nop, 12, 0, 0, 0, []),
  (24, .ireturn, 13, 0, 0, 0, [])]]
/-- java/lang/String.isLatin1()Z -/
def hcd23 : hk_Cd := [
 [(0, .getstatic 0, 1, 2, 0, 0, []),
  (3, .ifCond .eq 0, 2, 7, 0, 0, []),
  (6, .aload 0, 3, 0, 0, 0, []),
  (7, .getfield 0, 4, 9, 1, 0, []),
  (10, .ifCond .ne 0, 5, 7, 0, 0, []),
  (13, .iconst 0, 6, 0, 0, 1, []),
  (14, .goto 0, 7, 8, 0, 0, []),
  (17, .iconst 0, 8, 0, 0, 0, []),
  (18, .ireturn, 9, 0, 0, 0, [])]]
/-- java/lang/StringLatin1.charAt([BI)C -/
def hcd24 : hk_Cd := [
 [(0, .iload 1, 1, 0, 0, 0, []),
  (1, .aload 0, 2, 0, 0, 0, []),
  (2, .arraylength, 3, 0, 0, 0, []),
  (3, .invokestatic 0, 4, 25, 2, 0, [9, 0, 0]),
  (6, .aload 0, 5, 0, 0, 0, []),
  (7, .iload 1, 6, 0, 0, 0, []),
  (8, .baload, 7, 0, 0, 0, []),
  (9, .iconst 0, 8, 0, 0, 255, []),
  (12, .iand, 9, 0, 0, 0, []),
  (13, .i2c, 10, 0, 0, 0, []),
  (14, .ireturn, 11, 0, 0, 0, [])]]
/-- java/lang/String.checkIndex(II)V -/
def hcd25 : hk_Cd := [
 [(0, .iload 0, 1, 0, 0, 0, []),
  (1, .iload 1, 2, 0, 0, 0, []),
  (2, .getstatic 0, 3, 3, 0, 0, []),
  (5, .invokestatic 0, 4, 26, 3, 0, [12, 0, 0]),
  (8, .pop, 5, 0, 0, 0, []),
  (9, .return_, 6, 0, 0, 0, [])]]
/-- jdk/internal/util/Preconditions.checkIndex(IILjava/util/function/BiFunction;)I -/
def hcd26 : hk_Cd := [
 [(0, .iload 0, 1, 0, 0, 0, []),
  (1, .ifCond .lt 0, 2, 5, 0, 0, []),
  (4, .iload 0, 3, 0, 0, 0, []),
  (5, .iload 1, 4, 0, 0, 0, []),
  (6, .if_icmp .lt 0, 5, 10, 0, 0, []),
  (9, .aload 2, 6, 0, 0, 0, []),
  (10, .iload 0, 7, 0, 0, 0, []),
  (11, .iload 1, 8, 0, 0, 0, []),
  (12, .nop, 9, 0, 0, 0, []),
  (15, .nop, 10, 0, 0, 0, []),
  (16, .iload 0, 11, 0, 0, 0, []),
  (17, .ireturn, 12, 0, 0, 0, [])]]
/-- HatFields$Tape.readHat(LHatFields$Plain;I)V -/
def hcd27 : hk_Cd := [
 [(0, .aload 0, 1, 0, 0, 0, []),
  (1, .invokevirtual 0, 2, 15, 0, 0, [6, 0, 0]),
  (4, .aload 0, 3, 0, 0, 0, []),
  (5, .iconst 0, 4, 0, 0, 9, []),
  (7, .invokevirtual 0, 5, 28, 1, 0, [6, 0, 0]),
  (10, .istore 3, 6, 0, 0, 0, []),
  (11, .aload 0, 7, 0, 0, 0, []),
  (12, .ldc 0, 8, 10, 0, 0, []),
  (14, .invokevirtual 0, 9, 30, 1, 0, [6, 0, 0]),
  (17, .aload 1, 10, 0, 0, 0, []),
  (18, .getfield 0, 11, 3, 3, 0, []),
  (21, .aload 1, 12, 0, 0, 0, []),
  (22, .iload 2, 13, 0, 0, 0, []),
  (23, .iload 3, 14, 0, 0, 0, []),
  (24, .aload 0, 15, 0, 0, 0, []),
  (25, .iconst 0, 16, 0, 0, 99, [])],
 [(27, .invokevirtual 0, 17, 28, 1, 0, [6, 0, 0]),
  (30, .invokevirtual 0, 18, 31, 3, 0, [3, 0, 0]),
  (33, .aaload, 19, 0, 0, 0, []),
  (34, .astore 4, 20, 0, 0, 0, []),
  (36, .aload 0, 21, 0, 0, 0, []),
  (37, .ldc 0, 22, 11, 0, 0, []),
  (39, .invokevirtual 0, 23, 19, 1, 0, [6, 0, 0]),
  (42, .ifCond .eq 0, 24, 35, 0, 0, []),
  (45, .aload 0, 25, 0, 0, 0, []),
  (46, .invokevirtual 0, 26, 15, 0, 0, [6, 0, 0]),
  (49, .aload 4, 27, 0, 0, 0, []),
  (51, .aload 0, 28, 0, 0, 0, []),
  (52, .aload 1, 29, 0, 0, 0, []),
  (53, .getfield 0, 30, 3, 4, 0, []),
  (56, .iconst 0, 31, 0, 0, 1, []),
  (57, .isub, 32, 0, 0, 0, [])],
 [(58, .invokevirtual 0, 33, 28, 1, 0, [6, 0, 0]),
  (61, .invokevirtual 0, 34, 33, 1, 0, [1, 0, 0]),
  (64, .goto 0, 35, 43, 0, 0, []),
  (67, .aload 0, 36, 0, 0, 0, []),
  (68, .ldc 0, 37, 12, 0, 0, []),
  (70, .invokevirtual 0, 38, 30, 1, 0, [6, 0, 0]),
  (73, .aload 4, 39, 0, 0, 0, []),
  (75, .aload 0, 40, 0, 0, 0, []),
  (76, .iconst 0, 41, 0, 0, 24, []),
  (78, .invokevirtual 0, 42, 28, 1, 0, [6, 0, 0]),
  (81, .invokevirtual 0, 43, 34, 1, 0, [1, 0, 0]),
  (84, .aload 0, 44, 0, 0, 0, []),
  (85, .invokevirtual 0, 45, 35, 0, 0, [6, 0, 0]),
  (88, .return_, 46, 0, 0, 0, [])]]
/-- HatFields$Tape.number(I)I -/
def hcd28 : hk_Cd := [
 [(0, .aload 0, 1, 0, 0, 0, []),
  (1, .getfield 0, 2, 6, 2, 0, []),
  (4, .iconst 0, 3, 0, 0, 2, []),
  (5, .if_icmp .ne 0, 4, 11, 0, 0, []),
  (8, .aload 0, 5, 0, 0, 0, []),
  (9, .getfield 0, 6, 6, 4, 0, []),
  (12, .aload 0, 7, 0, 0, 0, []),
  (13, .getfield 0, 8, 6, 3, 0, []),
  (16, .isub, 9, 0, 0, 0, []),
  (17, .iconst 0, 10, 0, 0, 2, []),
  (18, .if_icmp .le 0, 11, 15, 0, 0, []),
  (21, .aload 0, 12, 0, 0, 0, []),
  (22, .invokevirtual 0, 13, 29, 0, 0, [6, 0, 0]),
  (25, .iconst 0, 14, 0, 0, 0, []),
  (26, .ireturn, 15, 0, 0, 0, []),
  (27, .iconst 0, 16, 0, 0, 0, [])],
 [(28, .istore 2, 17, 0, 0, 0, []),
  (29, .aload 0, 18, 0, 0, 0, []),
  (30, .getfield 0, 19, 6, 3, 0, []),
  (33, .istore 3, 20, 0, 0, 0, []),
  (34, .iload 3, 21, 0, 0, 0, []),
  (35, .aload 0, 22, 0, 0, 0, []),
  (36, .getfield 0, 23, 6, 4, 0, []),
  (39, .if_icmp .ge 0, 24, 37, 0, 0, []),
  (42, .iconst 0, 25, 0, 0, 10, []),
  (44, .iload 2, 26, 0, 0, 0, []),
  (45, .imul, 27, 0, 0, 0, []),
  (46, .aload 0, 28, 0, 0, 0, []),
  (47, .getfield 0, 29, 6, 0, 0, []),
  (50, .iload 3, 30, 0, 0, 0, []),
  (51, .baload, 31, 0, 0, 0, []),
  (52, .iadd, 32, 0, 0, 0, [])],
 [(53, .iconst 0, 33, 0, 0, 48, []),
  (55, .isub, 34, 0, 0, 0, []),
  (56, .istore 2, 35, 0, 0, 0, []),
  (57, .iinc 3 0, 36, 0, 0, 1, []),
  (60, .goto 0, 37, 20, 0, 0, []),
  (63, .iload 2, 38, 0, 0, 0, []),
  (64, .iload 1, 39, 0, 0, 0, []),
  (65, .if_icmp .le 0, 40, 44, 0, 0, []),
  (68, .aload 0, 41, 0, 0, 0, []),
  (69, .invokevirtual 0, 42, 29, 0, 0, [6, 0, 0]),
  (72, .iconst 0, 43, 0, 0, 0, []),
  (73, .ireturn, 44, 0, 0, 0, []),
  (74, .aload 0, 45, 0, 0, 0, []),
  (75, .invokevirtual 0, 46, 15, 0, 0, [6, 0, 0]),
  (78, .iload 2, 47, 0, 0, 0, []),
  (79, .ireturn, 48, 0, 0, 0, [])]]
/-- HatFields$Tape.fail()V -/
def hcd29 : hk_Cd := [
 [(0, .aload 0, 1, 0, 0, 0, []),
  (1, .getfield 0, 2, 6, 5, 0, []),
  (4, .iconst 0, 3, 0, 0, (-1), []),
  (5, .if_icmp .ne 0, 4, 8, 0, 0, []),
  (8, .aload 0, 5, 0, 0, 0, []),
  (9, .aload 0, 6, 0, 0, 0, []),
  (10, .getfield 0, 7, 6, 3, 0, []),
  (13, .putfield 0, 8, 6, 5, 0, [0]),
  (16, .return_, 9, 0, 0, 0, [])]]
/-- HatFields$Tape.word(Ljava/lang/String;)V -/
def hcd30 : hk_Cd := [
 [(0, .aload 0, 1, 0, 0, 0, []),
  (1, .aload 1, 2, 0, 0, 0, []),
  (2, .invokevirtual 0, 3, 19, 1, 0, [6, 0, 0]),
  (5, .ifCond .eq 0, 4, 7, 0, 0, []),
  (8, .aload 0, 5, 0, 0, 0, []),
  (9, .invokevirtual 0, 6, 15, 0, 0, [6, 0, 0]),
  (12, .goto 0, 7, 9, 0, 0, []),
  (15, .aload 0, 8, 0, 0, 0, []),
  (16, .invokevirtual 0, 9, 29, 0, 0, [6, 0, 0]),
  (19, .return_, 10, 0, 0, 0, [])]]
/-- HatFields$Plain.addHat(III)I -/
def hcd31 : hk_Cd := [
 [(0, .aload 0, 1, 0, 0, 0, []),
  (1, .getfield 0, 2, 3, 3, 0, []),
  (4, .aload 0, 3, 0, 0, 0, []),
  (5, .getfield 0, 4, 3, 5, 0, []),
  (8, .aaload, 5, 0, 0, 0, []),
  (9, .iload 1, 6, 0, 0, 0, []),
  (10, .iload 2, 7, 0, 0, 0, []),
  (11, .invokevirtual 0, 8, 32, 2, 0, [1, 0, 0]),
  (14, .aload 0, 9, 0, 0, 0, []),
  (15, .getfield 0, 10, 3, 3, 0, []),
  (18, .aload 0, 11, 0, 0, 0, []),
  (19, .getfield 0, 12, 3, 5, 0, []),
  (22, .aaload, 13, 0, 0, 0, []),
  (23, .iload 3, 14, 0, 0, 0, []),
  (24, .putfield 0, 15, 1, 2, 0, [0]),
  (27, .aload 0, 16, 0, 0, 0, [])],
 [(28, .dup, 17, 0, 0, 0, []),
  (29, .getfield 0, 18, 3, 5, 0, []),
  (32, .iconst 0, 19, 0, 0, 1, []),
  (33, .iadd, 20, 0, 0, 0, []),
  (34, .putfield 0, 21, 3, 5, 0, [0]),
  (37, .aload 0, 22, 0, 0, 0, []),
  (38, .getfield 0, 23, 3, 5, 0, []),
  (41, .iconst 0, 24, 0, 0, 1, []),
  (42, .isub, 25, 0, 0, 0, []),
  (43, .ireturn, 26, 0, 0, 0, [])]]
/-- HatFields$Hat.become(II)V -/
def hcd32 : hk_Cd := [
 [(0, .aload 0, 1, 0, 0, 0, []),
  (1, .iload 1, 2, 0, 0, 0, []),
  (2, .putfield 0, 3, 1, 0, 0, [0]),
  (5, .aload 0, 4, 0, 0, 0, []),
  (6, .iload 2, 5, 0, 0, 0, []),
  (7, .putfield 0, 6, 1, 1, 0, [0]),
  (10, .return_, 7, 0, 0, 0, [])]]
/-- HatFields$Hat.goOn(I)V -/
def hcd33 : hk_Cd := [
 [(0, .aload 0, 1, 0, 0, 0, []),
  (1, .iload 1, 2, 0, 0, 0, []),
  (2, .putfield 0, 3, 1, 3, 0, [0]),
  (5, .aload 0, 4, 0, 0, 0, []),
  (6, .iconst 0, 5, 0, 0, (-9), []),
  (8, .putfield 0, 6, 1, 4, 0, [0]),
  (11, .return_, 7, 0, 0, 0, [])]]
/-- HatFields$Hat.lieIn(I)V -/
def hcd34 : hk_Cd := [
 [(0, .aload 0, 1, 0, 0, 0, []),
  (1, .iconst 0, 2, 0, 0, (-9), []),
  (3, .putfield 0, 3, 1, 3, 0, [0]),
  (6, .aload 0, 4, 0, 0, 0, []),
  (7, .iload 1, 5, 0, 0, 0, []),
  (8, .putfield 0, 6, 1, 4, 0, [0]),
  (11, .return_, 7, 0, 0, 0, [])]]
/-- HatFields$Tape.semicolon()V -/
def hcd35 : hk_Cd := [
 [(0, .aload 0, 1, 0, 0, 0, []),
  (1, .getfield 0, 2, 6, 2, 0, []),
  (4, .iconst 0, 3, 0, 0, 3, []),
  (5, .if_icmp .ne 0, 4, 14, 0, 0, []),
  (8, .aload 0, 5, 0, 0, 0, []),
  (9, .getfield 0, 6, 6, 0, 0, []),
  (12, .aload 0, 7, 0, 0, 0, []),
  (13, .getfield 0, 8, 6, 3, 0, []),
  (16, .baload, 9, 0, 0, 0, []),
  (17, .iconst 0, 10, 0, 0, 59, []),
  (19, .if_icmp .ne 0, 11, 14, 0, 0, []),
  (22, .aload 0, 12, 0, 0, 0, []),
  (23, .invokevirtual 0, 13, 15, 0, 0, [6, 0, 0]),
  (26, .goto 0, 14, 16, 0, 0, []),
  (29, .aload 0, 15, 0, 0, 0, []),
  (30, .invokevirtual 0, 16, 29, 0, 0, [6, 0, 0])],
 [(33, .return_, 17, 0, 0, 0, [])]]
/-- HatFields$Tape.readPerson(LHatFields$Plain;)V -/
def hcd36 : hk_Cd := [
 [(0, .aload 0, 1, 0, 0, 0, []),
  (1, .invokevirtual 0, 2, 15, 0, 0, [6, 0, 0]),
  (4, .aload 0, 3, 0, 0, 0, []),
  (5, .iconst 0, 4, 0, 0, 24, []),
  (7, .invokevirtual 0, 5, 28, 1, 0, [6, 0, 0]),
  (10, .istore 2, 6, 0, 0, 0, []),
  (11, .iconst 0, 7, 0, 0, 1, []),
  (12, .istore 3, 8, 0, 0, 0, []),
  (13, .aload 0, 9, 0, 0, 0, []),
  (14, .ldc 0, 10, 14, 0, 0, []),
  (16, .invokevirtual 0, 11, 19, 1, 0, [6, 0, 0]),
  (19, .ifCond .eq 0, 12, 18, 0, 0, []),
  (22, .aload 0, 13, 0, 0, 0, []),
  (23, .invokevirtual 0, 14, 15, 0, 0, [6, 0, 0]),
  (26, .aload 0, 15, 0, 0, 0, []),
  (27, .iconst 0, 16, 0, 0, 3, [])],
 [(28, .invokevirtual 0, 17, 28, 1, 0, [6, 0, 0]),
  (31, .istore 3, 18, 0, 0, 0, []),
  (32, .aload 0, 19, 0, 0, 0, []),
  (33, .invokevirtual 0, 20, 35, 0, 0, [6, 0, 0]),
  (36, .aload 1, 21, 0, 0, 0, []),
  (37, .iload 2, 22, 0, 0, 0, []),
  (38, .iload 3, 23, 0, 0, 0, []),
  (39, .invokevirtual 0, 24, 37, 2, 0, [3, 0, 0]),
  (42, .pop, 25, 0, 0, 0, []),
  (43, .return_, 26, 0, 0, 0, [])]]
/-- HatFields$Plain.addPerson(II)I -/
def hcd37 : hk_Cd := [
 [(0, .aload 0, 1, 0, 0, 0, []),
  (1, .getfield 0, 2, 3, 2, 0, []),
  (4, .aload 0, 3, 0, 0, 0, []),
  (5, .getfield 0, 4, 3, 4, 0, []),
  (8, .aaload, 5, 0, 0, 0, []),
  (9, .iload 1, 6, 0, 0, 0, []),
  (10, .putfield 0, 7, 2, 0, 0, [0]),
  (13, .aload 0, 8, 0, 0, 0, []),
  (14, .getfield 0, 9, 3, 2, 0, []),
  (17, .aload 0, 10, 0, 0, 0, []),
  (18, .getfield 0, 11, 3, 4, 0, []),
  (21, .aaload, 12, 0, 0, 0, []),
  (22, .iload 2, 13, 0, 0, 0, []),
  (23, .putfield 0, 14, 2, 1, 0, [0]),
  (26, .aload 0, 15, 0, 0, 0, []),
  (27, .dup, 16, 0, 0, 0, [])],
 [(28, .getfield 0, 17, 3, 4, 0, []),
  (31, .iconst 0, 18, 0, 0, 1, []),
  (32, .iadd, 19, 0, 0, 0, []),
  (33, .putfield 0, 20, 3, 4, 0, [0]),
  (36, .aload 0, 21, 0, 0, 0, []),
  (37, .getfield 0, 22, 3, 4, 0, []),
  (40, .iconst 0, 23, 0, 0, 1, []),
  (41, .isub, 24, 0, 0, 0, []),
  (42, .ireturn, 25, 0, 0, 0, [])]]
/-- HatFields$Tape.readWind(LHatFields$Plain;)V -/
def hcd38 : hk_Cd := [
 [(0, .aload 0, 1, 0, 0, 0, []),
  (1, .invokevirtual 0, 2, 15, 0, 0, [6, 0, 0]),
  (4, .aload 0, 3, 0, 0, 0, []),
  (5, .iconst 0, 4, 0, 0, 23, []),
  (7, .invokevirtual 0, 5, 28, 1, 0, [6, 0, 0]),
  (10, .istore 2, 6, 0, 0, 0, []),
  (11, .aload 0, 7, 0, 0, 0, []),
  (12, .invokevirtual 0, 8, 39, 0, 0, [6, 0, 0]),
  (15, .istore 3, 9, 0, 0, 0, []),
  (16, .iload 3, 10, 0, 0, 0, []),
  (17, .ifCond .ge 0, 11, 14, 0, 0, []),
  (20, .aload 0, 12, 0, 0, 0, []),
  (21, .invokevirtual 0, 13, 29, 0, 0, [6, 0, 0]),
  (24, .return_, 14, 0, 0, 0, []),
  (25, .aload 0, 15, 0, 0, 0, []),
  (26, .invokevirtual 0, 16, 15, 0, 0, [6, 0, 0])],
 [(29, .aload 1, 17, 0, 0, 0, []),
  (30, .iload 2, 18, 0, 0, 0, []),
  (31, .iload 3, 19, 0, 0, 0, []),
  (32, .aload 0, 20, 0, 0, 0, []),
  (33, .iconst 0, 21, 0, 0, 9, []),
  (35, .invokevirtual 0, 22, 28, 1, 0, [6, 0, 0]),
  (38, .invokevirtual 0, 23, 14, 3, 0, [3, 0, 0]),
  (41, .aload 0, 24, 0, 0, 0, []),
  (42, .invokevirtual 0, 25, 35, 0, 0, [6, 0, 0]),
  (45, .return_, 26, 0, 0, 0, [])]]
/-- HatFields$Tape.directionNamed()I -/
def hcd39 : hk_Cd := [
 [(0, .aload 0, 1, 0, 0, 0, []),
  (1, .ldc 0, 2, 16, 0, 0, []),
  (3, .invokevirtual 0, 3, 19, 1, 0, [6, 0, 0]),
  (6, .ifCond .eq 0, 4, 6, 0, 0, []),
  (9, .iconst 0, 5, 0, 0, 0, []),
  (10, .goto 0, 6, 25, 0, 0, []),
  (13, .aload 0, 7, 0, 0, 0, []),
  (14, .ldc 0, 8, 17, 0, 0, []),
  (16, .invokevirtual 0, 9, 19, 1, 0, [6, 0, 0]),
  (19, .ifCond .eq 0, 10, 12, 0, 0, []),
  (22, .iconst 0, 11, 0, 0, 1, []),
  (23, .goto 0, 12, 25, 0, 0, []),
  (26, .aload 0, 13, 0, 0, 0, []),
  (27, .ldc 0, 14, 18, 0, 0, []),
  (29, .invokevirtual 0, 15, 19, 1, 0, [6, 0, 0]),
  (32, .ifCond .eq 0, 16, 18, 0, 0, [])],
 [(35, .iconst 0, 17, 0, 0, 2, []),
  (36, .goto 0, 18, 25, 0, 0, []),
  (39, .aload 0, 19, 0, 0, 0, []),
  (40, .ldc 0, 20, 19, 0, 0, []),
  (42, .invokevirtual 0, 21, 19, 1, 0, [6, 0, 0]),
  (45, .ifCond .eq 0, 22, 24, 0, 0, []),
  (48, .iconst 0, 23, 0, 0, 3, []),
  (49, .goto 0, 24, 25, 0, 0, []),
  (52, .iconst 0, 25, 0, 0, (-1), []),
  (53, .ireturn, 26, 0, 0, 0, [])]]
/-- HatFields$Plain.copyFrom(LHatFields$Plain;)V -/
def hcd40 : hk_Cd := [
 [(0, .aload 1, 1, 0, 0, 0, []),
  (1, .getfield 0, 2, 3, 0, 0, []),
  (4, .iconst 0, 3, 0, 0, 0, []),
  (5, .aload 0, 4, 0, 0, 0, []),
  (6, .getfield 0, 5, 3, 0, 0, []),
  (9, .iconst 0, 6, 0, 0, 0, []),
  (10, .iconst 0, 7, 0, 0, 24, []),
  (12, .invokeinterface 0 0, 8, 0, 0, 0, []),
  (15, .aload 1, 9, 0, 0, 0, []),
  (16, .getfield 0, 10, 3, 1, 0, []),
  (19, .iconst 0, 11, 0, 0, 0, []),
  (20, .aload 0, 12, 0, 0, 0, []),
  (21, .getfield 0, 13, 3, 1, 0, []),
  (24, .iconst 0, 14, 0, 0, 0, []),
  (25, .iconst 0, 15, 0, 0, 24, []),
  (27, .invokeinterface 0 0, 16, 0, 0, 0, [])],
 [(30, .aload 0, 17, 0, 0, 0, []),
  (31, .aload 1, 18, 0, 0, 0, []),
  (32, .getfield 0, 19, 3, 4, 0, []),
  (35, .putfield 0, 20, 3, 4, 0, [0]),
  (38, .iconst 0, 21, 0, 0, 0, []),
  (39, .istore 2, 22, 0, 0, 0, []),
  (40, .iload 2, 23, 0, 0, 0, []),
  (41, .aload 0, 24, 0, 0, 0, []),
  (42, .getfield 0, 25, 3, 4, 0, []),
  (45, .if_icmp .ge 0, 26, 37, 0, 0, []),
  (48, .aload 0, 27, 0, 0, 0, []),
  (49, .getfield 0, 28, 3, 2, 0, []),
  (52, .iload 2, 29, 0, 0, 0, []),
  (53, .aaload, 30, 0, 0, 0, []),
  (54, .aload 1, 31, 0, 0, 0, []),
  (55, .getfield 0, 32, 3, 2, 0, [])],
 [(58, .iload 2, 33, 0, 0, 0, []),
  (59, .aaload, 34, 0, 0, 0, []),
  (60, .invokevirtual 0, 35, 41, 1, 0, [2, 0, 0]),
  (63, .iinc 2 0, 36, 0, 0, 1, []),
  (66, .goto 0, 37, 22, 0, 0, []),
  (69, .aload 0, 38, 0, 0, 0, []),
  (70, .aload 1, 39, 0, 0, 0, []),
  (71, .getfield 0, 40, 3, 5, 0, []),
  (74, .putfield 0, 41, 3, 5, 0, [0]),
  (77, .iconst 0, 42, 0, 0, 0, []),
  (78, .istore 2, 43, 0, 0, 0, []),
  (79, .iload 2, 44, 0, 0, 0, []),
  (80, .aload 0, 45, 0, 0, 0, []),
  (81, .getfield 0, 46, 3, 5, 0, []),
  (84, .if_icmp .ge 0, 47, 58, 0, 0, []),
  (87, .aload 0, 48, 0, 0, 0, [])],
 [(88, .getfield 0, 49, 3, 3, 0, []),
  (91, .iload 2, 50, 0, 0, 0, []),
  (92, .aaload, 51, 0, 0, 0, []),
  (93, .aload 1, 52, 0, 0, 0, []),
  (94, .getfield 0, 53, 3, 3, 0, []),
  (97, .iload 2, 54, 0, 0, 0, []),
  (98, .aaload, 55, 0, 0, 0, []),
  (99, .invokevirtual 0, 56, 42, 1, 0, [1, 0, 0]),
  (102, .iinc 2 0, 57, 0, 0, 1, []),
  (105, .goto 0, 58, 43, 0, 0, []),
  (108, .aload 0, 59, 0, 0, 0, []),
  (109, .aload 1, 60, 0, 0, 0, []),
  (110, .getfield 0, 61, 3, 6, 0, []),
  (113, .putfield 0, 62, 3, 6, 0, [0]),
  (116, .return_, 63, 0, 0, 0, [])]]
/-- HatFields$Person.copyFrom(LHatFields$Person;)V -/
def hcd41 : hk_Cd := [
 [(0, .aload 0, 1, 0, 0, 0, []),
  (1, .aload 1, 2, 0, 0, 0, []),
  (2, .getfield 0, 3, 2, 0, 0, []),
  (5, .putfield 0, 4, 2, 0, 0, [0]),
  (8, .aload 0, 5, 0, 0, 0, []),
  (9, .aload 1, 6, 0, 0, 0, []),
  (10, .getfield 0, 7, 2, 1, 0, []),
  (13, .putfield 0, 8, 2, 1, 0, [0]),
  (16, .return_, 9, 0, 0, 0, [])]]
/-- HatFields$Hat.copyFrom(LHatFields$Hat;)V -/
def hcd42 : hk_Cd := [
 [(0, .aload 0, 1, 0, 0, 0, []),
  (1, .aload 1, 2, 0, 0, 0, []),
  (2, .getfield 0, 3, 1, 0, 0, []),
  (5, .putfield 0, 4, 1, 0, 0, [0]),
  (8, .aload 0, 5, 0, 0, 0, []),
  (9, .aload 1, 6, 0, 0, 0, []),
  (10, .getfield 0, 7, 1, 1, 0, []),
  (13, .putfield 0, 8, 1, 1, 0, [0]),
  (16, .aload 0, 9, 0, 0, 0, []),
  (17, .aload 1, 10, 0, 0, 0, []),
  (18, .getfield 0, 11, 1, 2, 0, []),
  (21, .putfield 0, 12, 1, 2, 0, [0]),
  (24, .aload 0, 13, 0, 0, 0, []),
  (25, .aload 1, 14, 0, 0, 0, []),
  (26, .getfield 0, 15, 1, 3, 0, []),
  (29, .putfield 0, 16, 1, 3, 0, [0])],
 [(32, .aload 0, 17, 0, 0, 0, []),
  (33, .aload 1, 18, 0, 0, 0, []),
  (34, .getfield 0, 19, 1, 4, 0, []),
  (37, .putfield 0, 20, 1, 4, 0, [0]),
  (40, .return_, 21, 0, 0, 0, [])]]
/-- HatFields.wind(III)I -/
def hcd43 : hk_Cd := [
 [(0, .iload 1, 1, 0, 0, 0, []),
  (1, .iconst 0, 2, 0, 0, 24, []),
  (3, .invokestatic 0, 3, 44, 2, 0, [7, 0, 0]),
  (6, .ifCond .eq 0, 4, 12, 0, 0, []),
  (9, .iload 2, 5, 0, 0, 0, []),
  (10, .iconst 0, 6, 0, 0, 4, []),
  (11, .invokestatic 0, 7, 44, 2, 0, [7, 0, 0]),
  (14, .ifCond .eq 0, 8, 12, 0, 0, []),
  (17, .iload 3, 9, 0, 0, 0, []),
  (18, .iconst 0, 10, 0, 0, 10, []),
  (20, .invokestatic 0, 11, 44, 2, 0, [7, 0, 0]),
  (23, .ifCond .ne 0, 12, 14, 0, 0, []),
  (26, .iconst 0, 13, 0, 0, (-1), []),
  (27, .ireturn, 14, 0, 0, 0, []),
  (28, .aload 0, 15, 0, 0, 0, []),
  (29, .getfield 0, 16, 7, 0, 0, [])],
 [(32, .iload 1, 17, 0, 0, 0, []),
  (33, .invokevirtual 0, 18, 45, 1, 0, [3, 0, 0]),
  (36, .istore 4, 19, 0, 0, 0, []),
  (38, .aload 0, 20, 0, 0, 0, []),
  (39, .getfield 0, 21, 7, 0, 0, []),
  (42, .iload 1, 22, 0, 0, 0, []),
  (43, .iload 2, 23, 0, 0, 0, []),
  (44, .iload 3, 24, 0, 0, 0, []),
  (45, .invokevirtual 0, 25, 14, 3, 0, [3, 0, 0]),
  (48, .iload 4, 26, 0, 0, 0, []),
  (50, .ireturn, 27, 0, 0, 0, [])]]
/-- HatFields.isBelow(II)Z -/
def hcd44 : hk_Cd := [
 [(0, .iload 0, 1, 0, 0, 0, []),
  (1, .ifCond .lt 0, 2, 7, 0, 0, []),
  (4, .iload 0, 3, 0, 0, 0, []),
  (5, .iload 1, 4, 0, 0, 0, []),
  (6, .if_icmp .ge 0, 5, 7, 0, 0, []),
  (9, .iconst 0, 6, 0, 0, 1, []),
  (10, .goto 0, 7, 8, 0, 0, []),
  (13, .iconst 0, 8, 0, 0, 0, []),
  (14, .ireturn, 9, 0, 0, 0, [])]]
/-- HatFields$Plain.windIn(I)I -/
def hcd45 : hk_Cd := [
 [(0, .iconst 0, 1, 0, 0, 10, []),
  (2, .aload 0, 2, 0, 0, 0, []),
  (3, .getfield 0, 3, 3, 0, 0, []),
  (6, .iload 1, 4, 0, 0, 0, []),
  (7, .iaload, 5, 0, 0, 0, []),
  (8, .imul, 6, 0, 0, 0, []),
  (9, .aload 0, 7, 0, 0, 0, []),
  (10, .getfield 0, 8, 3, 1, 0, []),
  (13, .iload 1, 9, 0, 0, 0, []),
  (14, .iaload, 10, 0, 0, 0, []),
  (15, .iadd, 11, 0, 0, 0, []),
  (16, .ireturn, 12, 0, 0, 0, [])]]
/-- HatFields.windOf(I)I -/
def hcd46 : hk_Cd := [
 [(0, .iload 1, 1, 0, 0, 0, []),
  (1, .iconst 0, 2, 0, 0, 24, []),
  (3, .invokestatic 0, 3, 44, 2, 0, [7, 0, 0]),
  (6, .ifCond .eq 0, 4, 9, 0, 0, []),
  (9, .aload 0, 5, 0, 0, 0, []),
  (10, .getfield 0, 6, 7, 0, 0, []),
  (13, .iload 1, 7, 0, 0, 0, []),
  (14, .invokevirtual 0, 8, 45, 1, 0, [3, 0, 0]),
  (17, .goto 0, 9, 10, 0, 0, []),
  (20, .iconst 0, 10, 0, 0, (-1), []),
  (21, .ireturn, 11, 0, 0, 0, [])]]
/-- HatFields.person(II)I -/
def hcd47 : hk_Cd := [
 [(0, .iload 1, 1, 0, 0, 0, []),
  (1, .iconst 0, 2, 0, 0, 25, []),
  (3, .invokestatic 0, 3, 44, 2, 0, [7, 0, 0]),
  (6, .ifCond .eq 0, 4, 8, 0, 0, []),
  (9, .iload 2, 5, 0, 0, 0, []),
  (10, .iconst 0, 6, 0, 0, 4, []),
  (11, .invokestatic 0, 7, 44, 2, 0, [7, 0, 0]),
  (14, .ifCond .ne 0, 8, 10, 0, 0, []),
  (17, .iconst 0, 9, 0, 0, (-1), []),
  (18, .ireturn, 10, 0, 0, 0, []),
  (19, .aload 0, 11, 0, 0, 0, []),
  (20, .getfield 0, 12, 7, 0, 0, []),
  (23, .getfield 0, 13, 3, 4, 0, []),
  (26, .iconst 0, 14, 0, 0, 5, []),
  (27, .if_icmp .lt 0, 15, 17, 0, 0, []),
  (30, .iconst 0, 16, 0, 0, (-2), [])],
 [(32, .ireturn, 17, 0, 0, 0, []),
  (33, .aload 0, 18, 0, 0, 0, []),
  (34, .getfield 0, 19, 7, 0, 0, []),
  (37, .iload 1, 20, 0, 0, 0, []),
  (38, .iload 2, 21, 0, 0, 0, []),
  (39, .invokevirtual 0, 22, 37, 2, 0, [3, 0, 0]),
  (42, .ireturn, 23, 0, 0, 0, [])]]
/-- HatFields.personOf(II)I -/
def hcd48 : hk_Cd := [
 [(0, .aload 0, 1, 0, 0, 0, []),
  (1, .iload 1, 2, 0, 0, 0, []),
  (2, .invokevirtual 0, 3, 49, 1, 0, [7, 0, 0]),
  (5, .ifCond .ne 0, 4, 6, 0, 0, []),
  (8, .iconst 0, 5, 0, 0, (-1), []),
  (9, .ireturn, 6, 0, 0, 0, []),
  (10, .iload 2, 7, 0, 0, 0, []),
  (11, .tableswitch 0 0 0 #[], 8, 32, 0, 0, [8, 15, 22, 27]),
  (40, .aload 0, 9, 0, 0, 0, []),
  (41, .getfield 0, 10, 7, 0, 0, []),
  (44, .getfield 0, 11, 3, 2, 0, []),
  (47, .iload 1, 12, 0, 0, 0, []),
  (48, .aaload, 13, 0, 0, 0, []),
  (49, .getfield 0, 14, 2, 0, 0, []),
  (52, .ireturn, 15, 0, 0, 0, []),
  (53, .aload 0, 16, 0, 0, 0, [])],
 [(54, .getfield 0, 17, 7, 0, 0, []),
  (57, .getfield 0, 18, 3, 2, 0, []),
  (60, .iload 1, 19, 0, 0, 0, []),
  (61, .aaload, 20, 0, 0, 0, []),
  (62, .getfield 0, 21, 2, 1, 0, []),
  (65, .ireturn, 22, 0, 0, 0, []),
  (66, .aload 0, 23, 0, 0, 0, []),
  (67, .getfield 0, 24, 7, 0, 0, []),
  (70, .iload 1, 25, 0, 0, 0, []),
  (71, .invokevirtual 0, 26, 50, 1, 0, [3, 0, 0]),
  (74, .ireturn, 27, 0, 0, 0, []),
  (75, .aload 0, 28, 0, 0, 0, []),
  (76, .getfield 0, 29, 7, 0, 0, []),
  (79, .iload 1, 30, 0, 0, 0, []),
  (80, .invokevirtual 0, 31, 51, 1, 0, [3, 0, 0]),
  (83, .ireturn, 32, 0, 0, 0, [])],
 [(84, .iconst 0, 33, 0, 0, (-1), []),
  (85, .ireturn, 34, 0, 0, 0, [])]]
/-- HatFields.isPerson(I)Z -/
def hcd49 : hk_Cd := [
 [(0, .iload 1, 1, 0, 0, 0, []),
  (1, .aload 0, 2, 0, 0, 0, []),
  (2, .getfield 0, 3, 7, 0, 0, []),
  (5, .getfield 0, 4, 3, 4, 0, []),
  (8, .invokestatic 0, 5, 44, 2, 0, [7, 0, 0]),
  (11, .ireturn, 6, 0, 0, 0, [])]]
/-- HatFields$Plain.ownedBy(I)I -/
def hcd50 : hk_Cd := [
 [(0, .iconst 0, 1, 0, 0, 0, []),
  (1, .istore 2, 2, 0, 0, 0, []),
  (2, .iconst 0, 3, 0, 0, 0, []),
  (3, .istore 3, 4, 0, 0, 0, []),
  (4, .iload 3, 5, 0, 0, 0, []),
  (5, .aload 0, 6, 0, 0, 0, []),
  (6, .getfield 0, 7, 3, 5, 0, []),
  (9, .if_icmp .ge 0, 8, 25, 0, 0, []),
  (12, .aload 0, 9, 0, 0, 0, []),
  (13, .getfield 0, 10, 3, 3, 0, []),
  (16, .iload 3, 11, 0, 0, 0, []),
  (17, .aaload, 12, 0, 0, 0, []),
  (18, .getfield 0, 13, 1, 3, 0, []),
  (21, .iload 1, 14, 0, 0, 0, []),
  (22, .if_icmp .ne 0, 15, 23, 0, 0, []),
  (25, .iload 2, 16, 0, 0, 0, [])],
 [(26, .aload 0, 17, 0, 0, 0, []),
  (27, .getfield 0, 18, 3, 3, 0, []),
  (30, .iload 3, 19, 0, 0, 0, []),
  (31, .aaload, 20, 0, 0, 0, []),
  (32, .getfield 0, 21, 1, 2, 0, []),
  (35, .iadd, 22, 0, 0, 0, []),
  (36, .istore 2, 23, 0, 0, 0, []),
  (37, .iinc 3 0, 24, 0, 0, 1, []),
  (40, .goto 0, 25, 4, 0, 0, []),
  (43, .iload 2, 26, 0, 0, 0, []),
  (44, .ireturn, 27, 0, 0, 0, [])]]
/-- HatFields$Plain.wornBy(I)I -/
def hcd51 : hk_Cd := [
 [(0, .iconst 0, 1, 0, 0, 0, []),
  (1, .istore 2, 2, 0, 0, 0, []),
  (2, .iconst 0, 3, 0, 0, 0, []),
  (3, .istore 3, 4, 0, 0, 0, []),
  (4, .iload 3, 5, 0, 0, 0, []),
  (5, .aload 0, 6, 0, 0, 0, []),
  (6, .getfield 0, 7, 3, 5, 0, []),
  (9, .if_icmp .ge 0, 8, 23, 0, 0, []),
  (12, .aload 0, 9, 0, 0, 0, []),
  (13, .getfield 0, 10, 3, 3, 0, []),
  (16, .iload 3, 11, 0, 0, 0, []),
  (17, .aaload, 12, 0, 0, 0, []),
  (18, .getfield 0, 13, 1, 3, 0, []),
  (21, .iload 1, 14, 0, 0, 0, []),
  (22, .if_icmp .ne 0, 15, 21, 0, 0, []),
  (25, .iload 2, 16, 0, 0, 0, [])],
 [(26, .iconst 0, 17, 0, 0, 1, []),
  (27, .iload 3, 18, 0, 0, 0, []),
  (28, .ishl, 19, 0, 0, 0, []),
  (29, .ior, 20, 0, 0, 0, []),
  (30, .istore 2, 21, 0, 0, 0, []),
  (31, .iinc 3 0, 22, 0, 0, 1, []),
  (34, .goto 0, 23, 4, 0, 0, []),
  (37, .iload 2, 24, 0, 0, 0, []),
  (38, .ireturn, 25, 0, 0, 0, [])]]
/-- HatFields.moves(II)I -/
def hcd52 : hk_Cd := [
 [(0, .aload 0, 1, 0, 0, 0, []),
  (1, .iload 1, 2, 0, 0, 0, []),
  (2, .invokevirtual 0, 3, 49, 1, 0, [7, 0, 0]),
  (5, .ifCond .eq 0, 4, 8, 0, 0, []),
  (8, .iload 2, 5, 0, 0, 0, []),
  (9, .iconst 0, 6, 0, 0, 25, []),
  (11, .invokestatic 0, 7, 44, 2, 0, [7, 0, 0]),
  (14, .ifCond .ne 0, 8, 10, 0, 0, []),
  (17, .iconst 0, 9, 0, 0, (-1), []),
  (18, .ireturn, 10, 0, 0, 0, []),
  (19, .aload 0, 11, 0, 0, 0, []),
  (20, .getfield 0, 12, 7, 0, 0, []),
  (23, .getfield 0, 13, 3, 2, 0, []),
  (26, .iload 1, 14, 0, 0, 0, []),
  (27, .aaload, 15, 0, 0, 0, []),
  (28, .getfield 0, 16, 2, 0, 0, [])],
 [(31, .istore 3, 17, 0, 0, 0, []),
  (32, .aload 0, 18, 0, 0, 0, []),
  (33, .getfield 0, 19, 7, 0, 0, []),
  (36, .getfield 0, 20, 3, 2, 0, []),
  (39, .iload 1, 21, 0, 0, 0, []),
  (40, .aaload, 22, 0, 0, 0, []),
  (41, .iload 2, 23, 0, 0, 0, []),
  (42, .putfield 0, 24, 2, 0, 0, [0]),
  (45, .iload 3, 25, 0, 0, 0, []),
  (46, .ireturn, 26, 0, 0, 0, [])]]
/-- HatFields.speed(II)I -/
def hcd53 : hk_Cd := [
 [(0, .aload 0, 1, 0, 0, 0, []),
  (1, .iload 1, 2, 0, 0, 0, []),
  (2, .invokevirtual 0, 3, 49, 1, 0, [7, 0, 0]),
  (5, .ifCond .eq 0, 4, 8, 0, 0, []),
  (8, .iload 2, 5, 0, 0, 0, []),
  (9, .iconst 0, 6, 0, 0, 4, []),
  (10, .invokestatic 0, 7, 44, 2, 0, [7, 0, 0]),
  (13, .ifCond .ne 0, 8, 10, 0, 0, []),
  (16, .iconst 0, 9, 0, 0, (-1), []),
  (17, .ireturn, 10, 0, 0, 0, []),
  (18, .aload 0, 11, 0, 0, 0, []),
  (19, .getfield 0, 12, 7, 0, 0, []),
  (22, .getfield 0, 13, 3, 2, 0, []),
  (25, .iload 1, 14, 0, 0, 0, []),
  (26, .aaload, 15, 0, 0, 0, []),
  (27, .getfield 0, 16, 2, 1, 0, [])],
 [(30, .istore 3, 17, 0, 0, 0, []),
  (31, .aload 0, 18, 0, 0, 0, []),
  (32, .getfield 0, 19, 7, 0, 0, []),
  (35, .getfield 0, 20, 3, 2, 0, []),
  (38, .iload 1, 21, 0, 0, 0, []),
  (39, .aaload, 22, 0, 0, 0, []),
  (40, .iload 2, 23, 0, 0, 0, []),
  (41, .putfield 0, 24, 2, 1, 0, [0]),
  (44, .iload 3, 25, 0, 0, 0, []),
  (45, .ireturn, 26, 0, 0, 0, [])]]
/-- HatFields.hat(IIII)I -/
def hcd54 : hk_Cd := [
 [(0, .iload 1, 1, 0, 0, 0, []),
  (1, .iconst 0, 2, 0, 0, 6, []),
  (3, .invokestatic 0, 3, 44, 2, 0, [7, 0, 0]),
  (6, .ifCond .eq 0, 4, 16, 0, 0, []),
  (9, .iload 2, 5, 0, 0, 0, []),
  (10, .iconst 0, 6, 0, 0, 10, []),
  (12, .invokestatic 0, 7, 44, 2, 0, [7, 0, 0]),
  (15, .ifCond .eq 0, 8, 16, 0, 0, []),
  (18, .iload 3, 9, 0, 0, 0, []),
  (19, .iconst 0, 10, 0, 0, 100, []),
  (21, .invokestatic 0, 11, 44, 2, 0, [7, 0, 0]),
  (24, .ifCond .eq 0, 12, 16, 0, 0, []),
  (27, .iload 4, 13, 0, 0, 0, []),
  (29, .iconst 0, 14, 0, 0, 25, []),
  (31, .invokestatic 0, 15, 44, 2, 0, [7, 0, 0]),
  (34, .ifCond .ne 0, 16, 18, 0, 0, [])],
 [(37, .iconst 0, 17, 0, 0, (-1), []),
  (38, .ireturn, 18, 0, 0, 0, []),
  (39, .aload 0, 19, 0, 0, 0, []),
  (40, .getfield 0, 20, 7, 0, 0, []),
  (43, .getfield 0, 21, 3, 5, 0, []),
  (46, .iconst 0, 22, 0, 0, 6, []),
  (48, .if_icmp .lt 0, 23, 25, 0, 0, []),
  (51, .iconst 0, 24, 0, 0, (-2), []),
  (53, .ireturn, 25, 0, 0, 0, []),
  (54, .aload 0, 26, 0, 0, 0, []),
  (55, .getfield 0, 27, 7, 0, 0, []),
  (58, .iload 1, 28, 0, 0, 0, []),
  (59, .iload 2, 29, 0, 0, 0, []),
  (60, .iload 3, 30, 0, 0, 0, []),
  (61, .invokevirtual 0, 31, 31, 3, 0, [3, 0, 0]),
  (64, .istore 5, 32, 0, 0, 0, [])],
 [(66, .aload 0, 33, 0, 0, 0, []),
  (67, .getfield 0, 34, 7, 0, 0, []),
  (70, .getfield 0, 35, 3, 3, 0, []),
  (73, .iload 5, 36, 0, 0, 0, []),
  (75, .aaload, 37, 0, 0, 0, []),
  (76, .iload 4, 38, 0, 0, 0, []),
  (78, .invokevirtual 0, 39, 34, 1, 0, [1, 0, 0]),
  (81, .iload 5, 40, 0, 0, 0, []),
  (83, .ireturn, 41, 0, 0, 0, [])]]
/-- HatFields.hatOf(II)I -/
def hcd55 : hk_Cd := [
 [(0, .aload 0, 1, 0, 0, 0, []),
  (1, .iload 1, 2, 0, 0, 0, []),
  (2, .invokevirtual 0, 3, 56, 1, 0, [7, 0, 0]),
  (5, .ifCond .ne 0, 4, 6, 0, 0, []),
  (8, .iconst 0, 5, 0, 0, (-1), []),
  (9, .ireturn, 6, 0, 0, 0, []),
  (10, .aload 0, 7, 0, 0, 0, []),
  (11, .getfield 0, 8, 7, 0, 0, []),
  (14, .getfield 0, 9, 3, 3, 0, []),
  (17, .iload 1, 10, 0, 0, 0, []),
  (18, .aaload, 11, 0, 0, 0, []),
  (19, .astore 3, 12, 0, 0, 0, []),
  (20, .iload 2, 13, 0, 0, 0, []),
  (21, .tableswitch 0 0 0 #[], 14, 44, 0, 0, [14, 17, 20, 23, 26, 31, 34]),
  (64, .aload 3, 15, 0, 0, 0, []),
  (65, .getfield 0, 16, 1, 0, 0, [])],
 [(68, .ireturn, 17, 0, 0, 0, []),
  (69, .aload 3, 18, 0, 0, 0, []),
  (70, .getfield 0, 19, 1, 1, 0, []),
  (73, .ireturn, 20, 0, 0, 0, []),
  (74, .aload 3, 21, 0, 0, 0, []),
  (75, .getfield 0, 22, 1, 2, 0, []),
  (78, .ireturn, 23, 0, 0, 0, []),
  (79, .aload 3, 24, 0, 0, 0, []),
  (80, .getfield 0, 25, 1, 3, 0, []),
  (83, .ireturn, 26, 0, 0, 0, []),
  (84, .aload 0, 27, 0, 0, 0, []),
  (85, .getfield 0, 28, 7, 0, 0, []),
  (88, .iload 1, 29, 0, 0, 0, []),
  (89, .invokevirtual 0, 30, 57, 1, 0, [3, 0, 0]),
  (92, .ireturn, 31, 0, 0, 0, []),
  (93, .aload 3, 32, 0, 0, 0, [])],
 [(94, .invokevirtual 0, 33, 59, 0, 0, [1, 0, 0]),
  (97, .ireturn, 34, 0, 0, 0, []),
  (98, .aload 3, 35, 0, 0, 0, []),
  (99, .aload 0, 36, 0, 0, 0, []),
  (100, .getfield 0, 37, 7, 0, 0, []),
  (103, .getfield 0, 38, 3, 1, 0, []),
  (106, .aload 0, 39, 0, 0, 0, []),
  (107, .getfield 0, 40, 7, 0, 0, []),
  (110, .invokevirtual 0, 41, 60, 0, 0, [3, 0, 0]),
  (113, .iaload, 42, 0, 0, 0, []),
  (114, .invokevirtual 0, 43, 61, 1, 0, [1, 0, 0]),
  (117, .ireturn, 44, 0, 0, 0, []),
  (118, .iconst 0, 45, 0, 0, (-1), []),
  (119, .ireturn, 46, 0, 0, 0, [])]]
/-- HatFields.isHat(I)Z -/
def hcd56 : hk_Cd := [
 [(0, .iload 1, 1, 0, 0, 0, []),
  (1, .aload 0, 2, 0, 0, 0, []),
  (2, .getfield 0, 3, 7, 0, 0, []),
  (5, .getfield 0, 4, 3, 5, 0, []),
  (8, .invokestatic 0, 5, 44, 2, 0, [7, 0, 0]),
  (11, .ireturn, 6, 0, 0, 0, [])]]
/-- HatFields$Plain.placeOf(I)I -/
def hcd57 : hk_Cd := [
 [(0, .aload 0, 1, 0, 0, 0, []),
  (1, .getfield 0, 2, 3, 3, 0, []),
  (4, .iload 1, 3, 0, 0, 0, []),
  (5, .aaload, 4, 0, 0, 0, []),
  (6, .astore 2, 5, 0, 0, 0, []),
  (7, .aload 2, 6, 0, 0, 0, []),
  (8, .invokevirtual 0, 7, 58, 0, 0, [1, 0, 0]),
  (11, .ifCond .eq 0, 8, 15, 0, 0, []),
  (14, .aload 0, 9, 0, 0, 0, []),
  (15, .getfield 0, 10, 3, 2, 0, []),
  (18, .aload 2, 11, 0, 0, 0, []),
  (19, .getfield 0, 12, 1, 3, 0, []),
  (22, .aaload, 13, 0, 0, 0, []),
  (23, .getfield 0, 14, 2, 0, 0, []),
  (26, .goto 0, 15, 17, 0, 0, []),
  (29, .aload 2, 16, 0, 0, 0, [])],
 [(30, .getfield 0, 17, 1, 4, 0, []),
  (33, .ireturn, 18, 0, 0, 0, [])]]
/-- HatFields$Hat.isWorn()Z -/
def hcd58 : hk_Cd := [
 [(0, .aload 0, 1, 0, 0, 0, []),
  (1, .getfield 0, 2, 1, 3, 0, []),
  (4, .ifCond .lt 0, 3, 5, 0, 0, []),
  (7, .iconst 0, 4, 0, 0, 1, []),
  (8, .goto 0, 5, 6, 0, 0, []),
  (11, .iconst 0, 6, 0, 0, 0, []),
  (12, .ireturn, 7, 0, 0, 0, [])]]
/-- HatFields$Hat.firmness()I -/
def hcd59 : hk_Cd := [
 [(0, .iconst 0, 1, 0, 0, 3, []),
  (1, .istore 1, 2, 0, 0, 0, []),
  (2, .aload 0, 3, 0, 0, 0, []),
  (3, .getfield 0, 4, 1, 0, 0, []),
  (6, .tableswitch 0 1 0 #[], 5, 40, 0, 0, [5, 12, 16, 25, 36]),
  (40, .iload 1, 6, 0, 0, 0, []),
  (41, .aload 0, 7, 0, 0, 0, []),
  (42, .getfield 0, 8, 1, 1, 0, []),
  (45, .iconst 0, 9, 0, 0, 2, []),
  (46, .idiv, 10, 0, 0, 0, []),
  (47, .iadd, 11, 0, 0, 0, []),
  (48, .ireturn, 12, 0, 0, 0, []),
  (49, .iload 1, 13, 0, 0, 0, []),
  (50, .iconst 0, 14, 0, 0, 2, []),
  (51, .isub, 15, 0, 0, 0, []),
  (52, .ireturn, 16, 0, 0, 0, [])],
 [(53, .iconst 0, 17, 0, 0, 2, []),
  (54, .iload 1, 18, 0, 0, 0, []),
  (55, .aload 0, 19, 0, 0, 0, []),
  (56, .getfield 0, 20, 1, 1, 0, []),
  (59, .iconst 0, 21, 0, 0, 2, []),
  (60, .idiv, 22, 0, 0, 0, []),
  (61, .iadd, 23, 0, 0, 0, []),
  (62, .imul, 24, 0, 0, 0, []),
  (63, .ireturn, 25, 0, 0, 0, []),
  (64, .iconst 0, 26, 0, 0, 0, []),
  (65, .iload 1, 27, 0, 0, 0, []),
  (66, .iconst 0, 28, 0, 0, 2, []),
  (67, .isub, 29, 0, 0, 0, []),
  (68, .aload 0, 30, 0, 0, 0, []),
  (69, .getfield 0, 31, 1, 1, 0, []),
  (72, .iconst 0, 32, 0, 0, 2, [])],
 [(73, .irem, 33, 0, 0, 0, []),
  (74, .isub, 34, 0, 0, 0, []),
  (75, .fadd, 35, 0, 0, 0, []),
  (78, .ireturn, 36, 0, 0, 0, []),
  (79, .iload 1, 37, 0, 0, 0, []),
  (80, .iconst 0, 38, 0, 0, 1, []),
  (81, .iadd, 39, 0, 0, 0, []),
  (82, .ireturn, 40, 0, 0, 0, []),
  (83, .iload 1, 41, 0, 0, 0, []),
  (84, .ireturn, 42, 0, 0, 0, [])]]
end
section
/-- HatFields$Plain.hour()I -/
def hcd60 : hk_Cd := [
 [(0, .aload 0, 1, 0, 0, 0, []),
  (1, .getfield 0, 2, 3, 6, 0, []),
  (4, .iconst 0, 3, 0, 0, 24, []),
  (6, .irem, 4, 0, 0, 0, []),
  (7, .ireturn, 5, 0, 0, 0, [])]]
/-- HatFields$Hat.flight(I)I -/
def hcd61 : hk_Cd := [
 [(0, .iload 1, 1, 0, 0, 0, []),
  (1, .iconst 0, 2, 0, 0, 3, []),
  (2, .idiv, 3, 0, 0, 0, []),
  (3, .istore 2, 4, 0, 0, 0, []),
  (4, .iload 1, 5, 0, 0, 0, []),
  (5, .ifCond .le 0, 6, 10, 0, 0, []),
  (8, .iload 2, 7, 0, 0, 0, []),
  (9, .iconst 0, 8, 0, 0, 1, []),
  (10, .iadd, 9, 0, 0, 0, []),
  (11, .goto 0, 10, 11, 0, 0, []),
  (14, .iload 2, 11, 0, 0, 0, []),
  (15, .istore 3, 12, 0, 0, 0, []),
  (16, .aload 0, 13, 0, 0, 0, []),
  (17, .getfield 0, 14, 1, 0, 0, []),
  (20, .tableswitch 0 2 0 #[], 15, 25, 0, 0, [15, 25, 17, 21]),
  (52, .iload 3, 16, 0, 0, 0, [])],
 [(53, .ireturn, 17, 0, 0, 0, []),
  (54, .iconst 0, 18, 0, 0, 2, []),
  (55, .iload 3, 19, 0, 0, 0, []),
  (56, .imul, 20, 0, 0, 0, []),
  (57, .ireturn, 21, 0, 0, 0, []),
  (58, .iload 2, 22, 0, 0, 0, []),
  (59, .iconst 0, 23, 0, 0, 2, []),
  (60, .idiv, 24, 0, 0, 0, []),
  (61, .ireturn, 25, 0, 0, 0, []),
  (62, .iload 2, 26, 0, 0, 0, []),
  (63, .ireturn, 27, 0, 0, 0, [])]]
/-- HatFields.make(III)I -/
def hcd62 : hk_Cd := [
 [(0, .aload 0, 1, 0, 0, 0, []),
  (1, .iload 1, 2, 0, 0, 0, []),
  (2, .invokevirtual 0, 3, 56, 1, 0, [7, 0, 0]),
  (5, .ifCond .eq 0, 4, 12, 0, 0, []),
  (8, .iload 2, 5, 0, 0, 0, []),
  (9, .iconst 0, 6, 0, 0, 6, []),
  (11, .invokestatic 0, 7, 44, 2, 0, [7, 0, 0]),
  (14, .ifCond .eq 0, 8, 12, 0, 0, []),
  (17, .iload 3, 9, 0, 0, 0, []),
  (18, .iconst 0, 10, 0, 0, 10, []),
  (20, .invokestatic 0, 11, 44, 2, 0, [7, 0, 0]),
  (23, .ifCond .ne 0, 12, 14, 0, 0, []),
  (26, .iconst 0, 13, 0, 0, (-1), []),
  (27, .ireturn, 14, 0, 0, 0, []),
  (28, .aload 0, 15, 0, 0, 0, []),
  (29, .getfield 0, 16, 7, 0, 0, [])],
 [(32, .getfield 0, 17, 3, 3, 0, []),
  (35, .iload 1, 18, 0, 0, 0, []),
  (36, .aaload, 19, 0, 0, 0, []),
  (37, .getfield 0, 20, 1, 0, 0, []),
  (40, .istore 4, 21, 0, 0, 0, []),
  (42, .aload 0, 22, 0, 0, 0, []),
  (43, .getfield 0, 23, 7, 0, 0, []),
  (46, .getfield 0, 24, 3, 3, 0, []),
  (49, .iload 1, 25, 0, 0, 0, []),
  (50, .aaload, 26, 0, 0, 0, []),
  (51, .iload 2, 27, 0, 0, 0, []),
  (52, .iload 3, 28, 0, 0, 0, []),
  (53, .invokevirtual 0, 29, 32, 2, 0, [1, 0, 0]),
  (56, .iload 4, 30, 0, 0, 0, []),
  (58, .ireturn, 31, 0, 0, 0, [])]]
/-- HatFields.puts(II)I -/
def hcd63 : hk_Cd := [
 [(0, .aload 0, 1, 0, 0, 0, []),
  (1, .iload 1, 2, 0, 0, 0, []),
  (2, .invokevirtual 0, 3, 56, 1, 0, [7, 0, 0]),
  (5, .ifCond .eq 0, 4, 8, 0, 0, []),
  (8, .aload 0, 5, 0, 0, 0, []),
  (9, .iload 2, 6, 0, 0, 0, []),
  (10, .invokevirtual 0, 7, 49, 1, 0, [7, 0, 0]),
  (13, .ifCond .ne 0, 8, 10, 0, 0, []),
  (16, .iconst 0, 9, 0, 0, (-1), []),
  (17, .ireturn, 10, 0, 0, 0, []),
  (18, .aload 0, 11, 0, 0, 0, []),
  (19, .getfield 0, 12, 7, 0, 0, []),
  (22, .getfield 0, 13, 3, 3, 0, []),
  (25, .iload 1, 14, 0, 0, 0, []),
  (26, .aaload, 15, 0, 0, 0, []),
  (27, .astore 3, 16, 0, 0, 0, [])],
 [(28, .aload 3, 17, 0, 0, 0, []),
  (29, .invokevirtual 0, 18, 64, 0, 0, [1, 0, 0]),
  (32, .ifCond .eq 0, 19, 28, 0, 0, []),
  (35, .aload 3, 20, 0, 0, 0, []),
  (36, .getfield 0, 21, 1, 4, 0, []),
  (39, .aload 0, 22, 0, 0, 0, []),
  (40, .getfield 0, 23, 7, 0, 0, []),
  (43, .getfield 0, 24, 3, 2, 0, []),
  (46, .iload 2, 25, 0, 0, 0, []),
  (47, .aaload, 26, 0, 0, 0, []),
  (48, .getfield 0, 27, 2, 0, 0, []),
  (51, .if_icmp .eq 0, 28, 30, 0, 0, []),
  (54, .iconst 0, 29, 0, 0, (-4), []),
  (56, .ireturn, 30, 0, 0, 0, []),
  (57, .aload 3, 31, 0, 0, 0, []),
  (58, .iload 2, 32, 0, 0, 0, [])],
 [(59, .invokevirtual 0, 33, 33, 1, 0, [1, 0, 0]),
  (62, .iconst 0, 34, 0, 0, 1, []),
  (63, .ireturn, 35, 0, 0, 0, [])]]
/-- HatFields$Hat.lies()Z -/
def hcd64 : hk_Cd := [
 [(0, .aload 0, 1, 0, 0, 0, []),
  (1, .getfield 0, 2, 1, 4, 0, []),
  (4, .ifCond .lt 0, 3, 5, 0, 0, []),
  (7, .iconst 0, 4, 0, 0, 1, []),
  (8, .goto 0, 5, 6, 0, 0, []),
  (11, .iconst 0, 6, 0, 0, 0, []),
  (12, .ireturn, 7, 0, 0, 0, [])]]
/-- HatFields.down(I)I -/
def hcd65 : hk_Cd := [
 [(0, .aload 0, 1, 0, 0, 0, []),
  (1, .iload 1, 2, 0, 0, 0, []),
  (2, .invokevirtual 0, 3, 56, 1, 0, [7, 0, 0]),
  (5, .ifCond .ne 0, 4, 6, 0, 0, []),
  (8, .iconst 0, 5, 0, 0, (-1), []),
  (9, .ireturn, 6, 0, 0, 0, []),
  (10, .aload 0, 7, 0, 0, 0, []),
  (11, .getfield 0, 8, 7, 0, 0, []),
  (14, .getfield 0, 9, 3, 3, 0, []),
  (17, .iload 1, 10, 0, 0, 0, []),
  (18, .aaload, 11, 0, 0, 0, []),
  (19, .invokevirtual 0, 12, 58, 0, 0, [1, 0, 0]),
  (22, .ifCond .ne 0, 13, 15, 0, 0, []),
  (25, .iconst 0, 14, 0, 0, (-4), []),
  (27, .ireturn, 15, 0, 0, 0, []),
  (28, .aload 0, 16, 0, 0, 0, [])],
 [(29, .getfield 0, 17, 7, 0, 0, []),
  (32, .iload 1, 18, 0, 0, 0, []),
  (33, .invokevirtual 0, 19, 57, 1, 0, [3, 0, 0]),
  (36, .istore 2, 20, 0, 0, 0, []),
  (37, .aload 0, 21, 0, 0, 0, []),
  (38, .getfield 0, 22, 7, 0, 0, []),
  (41, .getfield 0, 23, 3, 3, 0, []),
  (44, .iload 1, 24, 0, 0, 0, []),
  (45, .aaload, 25, 0, 0, 0, []),
  (46, .iload 2, 26, 0, 0, 0, []),
  (47, .invokevirtual 0, 27, 34, 1, 0, [1, 0, 0]),
  (50, .iload 2, 28, 0, 0, 0, []),
  (51, .ireturn, 29, 0, 0, 0, [])]]
/-- HatFields.found(II)I -/
def hcd66 : hk_Cd := [
 [(0, .aload 0, 1, 0, 0, 0, []),
  (1, .iload 1, 2, 0, 0, 0, []),
  (2, .invokevirtual 0, 3, 56, 1, 0, [7, 0, 0]),
  (5, .ifCond .eq 0, 4, 8, 0, 0, []),
  (8, .iload 2, 5, 0, 0, 0, []),
  (9, .iconst 0, 6, 0, 0, 25, []),
  (11, .invokestatic 0, 7, 44, 2, 0, [7, 0, 0]),
  (14, .ifCond .ne 0, 8, 10, 0, 0, []),
  (17, .iconst 0, 9, 0, 0, (-1), []),
  (18, .ireturn, 10, 0, 0, 0, []),
  (19, .aload 0, 11, 0, 0, 0, []),
  (20, .getfield 0, 12, 7, 0, 0, []),
  (23, .getfield 0, 13, 3, 3, 0, []),
  (26, .iload 1, 14, 0, 0, 0, []),
  (27, .aaload, 15, 0, 0, 0, []),
  (28, .invokevirtual 0, 16, 67, 0, 0, [1, 0, 0])],
 [(31, .ifCond .ne 0, 17, 19, 0, 0, []),
  (34, .iconst 0, 18, 0, 0, (-4), []),
  (36, .ireturn, 19, 0, 0, 0, []),
  (37, .aload 0, 20, 0, 0, 0, []),
  (38, .getfield 0, 21, 7, 0, 0, []),
  (41, .getfield 0, 22, 3, 3, 0, []),
  (44, .iload 1, 23, 0, 0, 0, []),
  (45, .aaload, 24, 0, 0, 0, []),
  (46, .iload 2, 25, 0, 0, 0, []),
  (47, .invokevirtual 0, 26, 34, 1, 0, [1, 0, 0]),
  (50, .iconst 0, 27, 0, 0, 1, []),
  (51, .ireturn, 28, 0, 0, 0, [])]]
/-- HatFields$Hat.isGone()Z -/
def hcd67 : hk_Cd := [
 [(0, .aload 0, 1, 0, 0, 0, []),
  (1, .getfield 0, 2, 1, 3, 0, []),
  (4, .ifCond .ge 0, 3, 8, 0, 0, []),
  (7, .aload 0, 4, 0, 0, 0, []),
  (8, .getfield 0, 5, 1, 4, 0, []),
  (11, .ifCond .ge 0, 6, 8, 0, 0, []),
  (14, .iconst 0, 7, 0, 0, 1, []),
  (15, .goto 0, 8, 9, 0, 0, []),
  (18, .iconst 0, 9, 0, 0, 0, []),
  (19, .ireturn, 10, 0, 0, 0, [])]]
/-- HatFields.bow(II)I -/
def hcd68 : hk_Cd := [
 [(0, .aload 0, 1, 0, 0, 0, []),
  (1, .iload 1, 2, 0, 0, 0, []),
  (2, .invokevirtual 0, 3, 49, 1, 0, [7, 0, 0]),
  (5, .ifCond .eq 0, 4, 11, 0, 0, []),
  (8, .aload 0, 5, 0, 0, 0, []),
  (9, .iload 2, 6, 0, 0, 0, []),
  (10, .invokevirtual 0, 7, 49, 1, 0, [7, 0, 0]),
  (13, .ifCond .eq 0, 8, 11, 0, 0, []),
  (16, .iload 1, 9, 0, 0, 0, []),
  (17, .iload 2, 10, 0, 0, 0, []),
  (18, .if_icmp .ne 0, 11, 13, 0, 0, []),
  (21, .iconst 0, 12, 0, 0, (-1), []),
  (22, .ireturn, 13, 0, 0, 0, []),
  (23, .aload 0, 14, 0, 0, 0, []),
  (24, .getfield 0, 15, 7, 0, 0, []),
  (27, .getfield 0, 16, 3, 2, 0, [])],
 [(30, .iload 1, 17, 0, 0, 0, []),
  (31, .aaload, 18, 0, 0, 0, []),
  (32, .getfield 0, 19, 2, 0, 0, []),
  (35, .aload 0, 20, 0, 0, 0, []),
  (36, .getfield 0, 21, 7, 0, 0, []),
  (39, .getfield 0, 22, 3, 2, 0, []),
  (42, .iload 2, 23, 0, 0, 0, []),
  (43, .aaload, 24, 0, 0, 0, []),
  (44, .getfield 0, 25, 2, 0, 0, []),
  (47, .if_icmp .eq 0, 26, 28, 0, 0, []),
  (50, .iconst 0, 27, 0, 0, (-4), []),
  (52, .ireturn, 28, 0, 0, 0, []),
  (53, .aload 0, 29, 0, 0, 0, []),
  (54, .getfield 0, 30, 7, 0, 0, []),
  (57, .iload 1, 31, 0, 0, 0, []),
  (58, .iload 2, 32, 0, 0, 0, [])],
 [(59, .invokevirtual 0, 33, 69, 2, 0, [3, 0, 0]),
  (62, .ireturn, 34, 0, 0, 0, [])]]
/-- HatFields$Plain.swapHats(II)I -/
def hcd69 : hk_Cd := [
 [(0, .iconst 0, 1, 0, 0, 0, []),
  (1, .istore 3, 2, 0, 0, 0, []),
  (2, .iconst 0, 3, 0, 0, 0, []),
  (3, .istore 4, 4, 0, 0, 0, []),
  (5, .iload 4, 5, 0, 0, 0, []),
  (7, .aload 0, 6, 0, 0, 0, []),
  (8, .getfield 0, 7, 3, 5, 0, []),
  (11, .if_icmp .ge 0, 8, 34, 0, 0, []),
  (14, .aload 0, 9, 0, 0, 0, []),
  (15, .getfield 0, 10, 3, 3, 0, []),
  (18, .iload 4, 11, 0, 0, 0, []),
  (20, .aaload, 12, 0, 0, 0, []),
  (21, .getfield 0, 13, 1, 3, 0, []),
  (24, .istore 5, 14, 0, 0, 0, []),
  (26, .iload 5, 15, 0, 0, 0, []),
  (28, .iload 1, 16, 0, 0, 0, [])],
 [(29, .if_icmp .eq 0, 17, 20, 0, 0, []),
  (32, .iload 5, 18, 0, 0, 0, []),
  (34, .iload 2, 19, 0, 0, 0, []),
  (35, .if_icmp .ne 0, 20, 32, 0, 0, []),
  (38, .aload 0, 21, 0, 0, 0, []),
  (39, .getfield 0, 22, 3, 3, 0, []),
  (42, .iload 4, 23, 0, 0, 0, []),
  (44, .aaload, 24, 0, 0, 0, []),
  (45, .iload 5, 25, 0, 0, 0, []),
  (47, .iload 1, 26, 0, 0, 0, []),
  (48, .if_icmp .ne 0, 27, 29, 0, 0, []),
  (51, .iload 2, 28, 0, 0, 0, []),
  (52, .goto 0, 29, 30, 0, 0, []),
  (55, .iload 1, 30, 0, 0, 0, []),
  (56, .invokevirtual 0, 31, 33, 1, 0, [1, 0, 0]),
  (59, .iinc 3 0, 32, 0, 0, 1, [])],
 [(62, .iinc 4 0, 33, 0, 0, 1, []),
  (65, .goto 0, 34, 4, 0, 0, []),
  (68, .iload 3, 35, 0, 0, 0, []),
  (69, .ireturn, 36, 0, 0, 0, [])]]
/-- HatFields.hours(I)I -/
def hcd70 : hk_Cd := [
 [(0, .iload 1, 1, 0, 0, 0, []),
  (1, .invokestatic 0, 2, 71, 1, 0, [7, 0, 0]),
  (4, .ifCond .ne 0, 3, 5, 0, 0, []),
  (7, .iconst 0, 4, 0, 0, (-1), []),
  (8, .ireturn, 5, 0, 0, 0, []),
  (9, .aload 0, 6, 0, 0, 0, []),
  (10, .getfield 0, 7, 7, 0, 0, []),
  (13, .iload 1, 8, 0, 0, 0, []),
  (14, .invokevirtual 0, 9, 72, 1, 0, [3, 0, 0]),
  (17, .aload 0, 10, 0, 0, 0, []),
  (18, .getfield 0, 11, 7, 0, 0, []),
  (21, .getfield 0, 12, 3, 6, 0, []),
  (24, .ireturn, 13, 0, 0, 0, [])]]
/-- HatFields.isTrialLength(I)Z -/
def hcd71 : hk_Cd := [
 [(0, .iload 0, 1, 0, 0, 0, []),
  (1, .ifCond .lt 0, 2, 7, 0, 0, []),
  (4, .iload 0, 3, 0, 0, 0, []),
  (5, .iconst 0, 4, 0, 0, 48, []),
  (7, .if_icmp .gt 0, 5, 7, 0, 0, []),
  (10, .iconst 0, 6, 0, 0, 1, []),
  (11, .goto 0, 7, 8, 0, 0, []),
  (14, .iconst 0, 8, 0, 0, 0, []),
  (15, .ireturn, 9, 0, 0, 0, [])]]
/-- HatFields$Plain.passHours(I)V -/
def hcd72 : hk_Cd := [
 [(0, .iconst 0, 1, 0, 0, 0, []),
  (1, .istore 2, 2, 0, 0, 0, []),
  (2, .iload 2, 3, 0, 0, 0, []),
  (3, .iload 1, 4, 0, 0, 0, []),
  (4, .if_icmp .ge 0, 5, 13, 0, 0, []),
  (7, .aload 0, 6, 0, 0, 0, []),
  (8, .getfield 0, 7, 3, 6, 0, []),
  (11, .iconst 0, 8, 0, 0, 96, []),
  (13, .if_icmp .ge 0, 9, 13, 0, 0, []),
  (16, .aload 0, 10, 0, 0, 0, []),
  (17, .invokevirtual 0, 11, 73, 0, 0, [3, 0, 0]),
  (20, .iinc 2 0, 12, 0, 0, 1, []),
  (23, .goto 0, 13, 2, 0, 0, []),
  (26, .return_, 14, 0, 0, 0, [])]]
/-- HatFields$Plain.passHour()V -/
def hcd73 : hk_Cd := [
 [(0, .aload 0, 1, 0, 0, 0, []),
  (1, .invokevirtual 0, 2, 60, 0, 0, [3, 0, 0]),
  (4, .istore 1, 3, 0, 0, 0, []),
  (5, .aload 0, 4, 0, 0, 0, []),
  (6, .aload 0, 5, 0, 0, 0, []),
  (7, .getfield 0, 6, 3, 0, 0, []),
  (10, .iload 1, 7, 0, 0, 0, []),
  (11, .iaload, 8, 0, 0, 0, []),
  (12, .aload 0, 9, 0, 0, 0, []),
  (13, .getfield 0, 10, 3, 1, 0, []),
  (16, .iload 1, 11, 0, 0, 0, []),
  (17, .iaload, 12, 0, 0, 0, []),
  (18, .invokevirtual 0, 13, 74, 2, 0, [3, 0, 0]),
  (21, .iconst 0, 14, 0, 0, 0, []),
  (22, .istore 2, 15, 0, 0, 0, []),
  (23, .iload 2, 16, 0, 0, 0, [])],
 [(24, .aload 0, 17, 0, 0, 0, []),
  (25, .getfield 0, 18, 3, 4, 0, []),
  (28, .if_icmp .ge 0, 19, 24, 0, 0, []),
  (31, .aload 0, 20, 0, 0, 0, []),
  (32, .iload 2, 21, 0, 0, 0, []),
  (33, .invokevirtual 0, 22, 76, 1, 0, [3, 0, 0]),
  (36, .iinc 2 0, 23, 0, 0, 1, []),
  (39, .goto 0, 24, 15, 0, 0, []),
  (42, .aload 0, 25, 0, 0, 0, []),
  (43, .dup, 26, 0, 0, 0, []),
  (44, .getfield 0, 27, 3, 6, 0, []),
  (47, .iconst 0, 28, 0, 0, 1, []),
  (48, .iadd, 29, 0, 0, 0, []),
  (49, .putfield 0, 30, 3, 6, 0, [0]),
  (52, .return_, 31, 0, 0, 0, [])]]
/-- HatFields$Plain.blow(II)V -/
def hcd74 : hk_Cd := [
 [(0, .iconst 0, 1, 0, 0, 0, []),
  (1, .istore 3, 2, 0, 0, 0, []),
  (2, .iload 3, 3, 0, 0, 0, []),
  (3, .aload 0, 4, 0, 0, 0, []),
  (4, .getfield 0, 5, 3, 5, 0, []),
  (7, .if_icmp .ge 0, 6, 34, 0, 0, []),
  (10, .aload 0, 7, 0, 0, 0, []),
  (11, .getfield 0, 8, 3, 3, 0, []),
  (14, .iload 3, 9, 0, 0, 0, []),
  (15, .aaload, 10, 0, 0, 0, []),
  (16, .astore 4, 11, 0, 0, 0, []),
  (18, .aload 4, 12, 0, 0, 0, []),
  (20, .invokevirtual 0, 13, 58, 0, 0, [1, 0, 0]),
  (23, .ifCond .eq 0, 14, 23, 0, 0, []),
  (26, .aload 4, 15, 0, 0, 0, []),
  (28, .invokevirtual 0, 16, 59, 0, 0, [1, 0, 0])],
 [(31, .iload 2, 17, 0, 0, 0, []),
  (32, .if_icmp .ge 0, 18, 23, 0, 0, []),
  (35, .aload 4, 19, 0, 0, 0, []),
  (37, .aload 0, 20, 0, 0, 0, []),
  (38, .iload 3, 21, 0, 0, 0, []),
  (39, .invokevirtual 0, 22, 57, 1, 0, [3, 0, 0]),
  (42, .invokevirtual 0, 23, 34, 1, 0, [1, 0, 0]),
  (45, .aload 4, 24, 0, 0, 0, []),
  (47, .invokevirtual 0, 25, 64, 0, 0, [1, 0, 0]),
  (50, .ifCond .eq 0, 26, 32, 0, 0, []),
  (53, .aload 4, 27, 0, 0, 0, []),
  (55, .iload 1, 28, 0, 0, 0, []),
  (56, .aload 4, 29, 0, 0, 0, []),
  (58, .iload 2, 30, 0, 0, 0, []),
  (59, .invokevirtual 0, 31, 61, 1, 0, [1, 0, 0]),
  (62, .invokevirtual 0, 32, 75, 2, 0, [1, 0, 0])],
 [(65, .iinc 3 0, 33, 0, 0, 1, []),
  (68, .goto 0, 34, 2, 0, 0, []),
  (71, .return_, 35, 0, 0, 0, [])]]
/-- HatFields$Hat.fly(II)V -/
def hcd75 : hk_Cd := [
 [(0, .aload 0, 1, 0, 0, 0, []),
  (1, .getfield 0, 2, 1, 4, 0, []),
  (4, .iconst 0, 3, 0, 0, 5, []),
  (5, .irem, 4, 0, 0, 0, []),
  (6, .istore 3, 5, 0, 0, 0, []),
  (7, .aload 0, 6, 0, 0, 0, []),
  (8, .getfield 0, 7, 1, 4, 0, []),
  (11, .iconst 0, 8, 0, 0, 5, []),
  (12, .idiv, 9, 0, 0, 0, []),
  (13, .istore 4, 10, 0, 0, 0, []),
  (15, .iload 1, 11, 0, 0, 0, []),
  (16, .tableswitch 0 0 0 #[], 12, 27, 0, 0, [12, 17, 22]),
  (44, .iload 4, 13, 0, 0, 0, []),
  (46, .iload 2, 14, 0, 0, 0, []),
  (47, .isub, 15, 0, 0, 0, []),
  (48, .istore 4, 16, 0, 0, 0, [])],
 [(50, .goto 0, 17, 31, 0, 0, []),
  (53, .iload 3, 18, 0, 0, 0, []),
  (54, .iload 2, 19, 0, 0, 0, []),
  (55, .iadd, 20, 0, 0, 0, []),
  (56, .istore 3, 21, 0, 0, 0, []),
  (57, .goto 0, 22, 31, 0, 0, []),
  (60, .iload 4, 23, 0, 0, 0, []),
  (62, .iload 2, 24, 0, 0, 0, []),
  (63, .iadd, 25, 0, 0, 0, []),
  (64, .istore 4, 26, 0, 0, 0, []),
  (66, .goto 0, 27, 31, 0, 0, []),
  (69, .iload 3, 28, 0, 0, 0, []),
  (70, .iload 2, 29, 0, 0, 0, []),
  (71, .isub, 30, 0, 0, 0, []),
  (72, .istore 3, 31, 0, 0, 0, []),
  (73, .aload 0, 32, 0, 0, 0, [])],
 [(74, .iload 3, 33, 0, 0, 0, []),
  (75, .iconst 0, 34, 0, 0, 5, []),
  (76, .invokestatic 0, 35, 44, 2, 0, [7, 0, 0]),
  (79, .ifCond .eq 0, 36, 46, 0, 0, []),
  (82, .iload 4, 37, 0, 0, 0, []),
  (84, .iconst 0, 38, 0, 0, 5, []),
  (85, .invokestatic 0, 39, 44, 2, 0, [7, 0, 0]),
  (88, .ifCond .eq 0, 40, 46, 0, 0, []),
  (91, .iconst 0, 41, 0, 0, 5, []),
  (92, .iload 4, 42, 0, 0, 0, []),
  (94, .imul, 43, 0, 0, 0, []),
  (95, .iload 3, 44, 0, 0, 0, []),
  (96, .iadd, 45, 0, 0, 0, []),
  (97, .goto 0, 46, 47, 0, 0, []),
  (100, .iconst 0, 47, 0, 0, (-9), []),
  (102, .putfield 0, 48, 1, 4, 0, [0])],
 [(105, .return_, 49, 0, 0, 0, [])]]
/-- HatFields$Plain.runForNearest(I)V -/
def hcd76 : hk_Cd := [
 [(0, .aload 0, 1, 0, 0, 0, []),
  (1, .aload 0, 2, 0, 0, 0, []),
  (2, .getfield 0, 3, 3, 2, 0, []),
  (5, .iload 1, 4, 0, 0, 0, []),
  (6, .aaload, 5, 0, 0, 0, []),
  (7, .getfield 0, 6, 2, 0, 0, []),
  (10, .invokevirtual 0, 7, 77, 1, 0, [3, 0, 0]),
  (13, .istore 2, 8, 0, 0, 0, []),
  (14, .iload 2, 9, 0, 0, 0, []),
  (15, .ifCond .ge 0, 10, 11, 0, 0, []),
  (18, .return_, 11, 0, 0, 0, []),
  (19, .aload 0, 12, 0, 0, 0, []),
  (20, .getfield 0, 13, 3, 3, 0, []),
  (23, .iload 2, 14, 0, 0, 0, []),
  (24, .aaload, 15, 0, 0, 0, []),
  (25, .getfield 0, 16, 1, 4, 0, [])],
 [(28, .istore 3, 17, 0, 0, 0, []),
  (29, .aload 0, 18, 0, 0, 0, []),
  (30, .getfield 0, 19, 3, 2, 0, []),
  (33, .iload 1, 20, 0, 0, 0, []),
  (34, .aaload, 21, 0, 0, 0, []),
  (35, .iload 3, 22, 0, 0, 0, []),
  (36, .invokevirtual 0, 23, 78, 1, 0, [2, 0, 0]),
  (39, .aload 0, 24, 0, 0, 0, []),
  (40, .getfield 0, 25, 3, 2, 0, []),
  (43, .iload 1, 26, 0, 0, 0, []),
  (44, .aaload, 27, 0, 0, 0, []),
  (45, .getfield 0, 28, 2, 0, 0, []),
  (48, .iload 3, 29, 0, 0, 0, []),
  (49, .if_icmp .ne 0, 30, 34, 0, 0, []),
  (52, .aload 0, 31, 0, 0, 0, []),
  (53, .iload 1, 32, 0, 0, 0, [])],
 [(54, .iload 3, 33, 0, 0, 0, []),
  (55, .invokevirtual 0, 34, 80, 2, 0, [3, 0, 0]),
  (58, .return_, 35, 0, 0, 0, [])]]
/-- HatFields$Plain.nearestTo(I)I -/
def hcd77 : hk_Cd := [
 [(0, .iconst 0, 1, 0, 0, (-1), []),
  (1, .istore 2, 2, 0, 0, 0, []),
  (2, .iconst 0, 3, 0, 0, 10, []),
  (4, .istore 3, 4, 0, 0, 0, []),
  (5, .iconst 0, 5, 0, 0, 0, []),
  (6, .istore 4, 6, 0, 0, 0, []),
  (8, .iload 4, 7, 0, 0, 0, []),
  (10, .aload 0, 8, 0, 0, 0, []),
  (11, .getfield 0, 9, 3, 5, 0, []),
  (14, .if_icmp .ge 0, 10, 49, 0, 0, []),
  (17, .aload 0, 11, 0, 0, 0, []),
  (18, .getfield 0, 12, 3, 3, 0, []),
  (21, .iload 4, 13, 0, 0, 0, []),
  (23, .aaload, 14, 0, 0, 0, []),
  (24, .invokevirtual 0, 15, 64, 0, 0, [1, 0, 0]),
  (27, .ifCond .eq 0, 16, 47, 0, 0, [])],
 [(30, .aload 0, 17, 0, 0, 0, []),
  (31, .getfield 0, 18, 3, 3, 0, []),
  (34, .iload 4, 19, 0, 0, 0, []),
  (36, .aaload, 20, 0, 0, 0, []),
  (37, .getfield 0, 21, 1, 4, 0, []),
  (40, .istore 5, 22, 0, 0, 0, []),
  (42, .iload 5, 23, 0, 0, 0, []),
  (44, .iconst 0, 24, 0, 0, 5, []),
  (45, .irem, 25, 0, 0, 0, []),
  (46, .iload 1, 26, 0, 0, 0, []),
  (47, .iconst 0, 27, 0, 0, 5, []),
  (48, .irem, 28, 0, 0, 0, []),
  (49, .isub, 29, 0, 0, 0, []),
  (50, .fneg, 30, 0, 0, 0, []),
  (53, .iload 5, 31, 0, 0, 0, []),
  (55, .iconst 0, 32, 0, 0, 5, [])],
 [(56, .idiv, 33, 0, 0, 0, []),
  (57, .iload 1, 34, 0, 0, 0, []),
  (58, .iconst 0, 35, 0, 0, 5, []),
  (59, .idiv, 36, 0, 0, 0, []),
  (60, .isub, 37, 0, 0, 0, []),
  (61, .fneg, 38, 0, 0, 0, []),
  (64, .iadd, 39, 0, 0, 0, []),
  (65, .istore 6, 40, 0, 0, 0, []),
  (67, .iload 6, 41, 0, 0, 0, []),
  (69, .iload 3, 42, 0, 0, 0, []),
  (70, .if_icmp .ge 0, 43, 47, 0, 0, []),
  (73, .iload 6, 44, 0, 0, 0, []),
  (75, .istore 3, 45, 0, 0, 0, []),
  (76, .iload 4, 46, 0, 0, 0, []),
  (78, .istore 2, 47, 0, 0, 0, []),
  (79, .iinc 4 0, 48, 0, 0, 1, [])],
 [(82, .goto 0, 49, 6, 0, 0, []),
  (85, .iload 2, 50, 0, 0, 0, []),
  (86, .ireturn, 51, 0, 0, 0, [])]]
/-- HatFields$Person.runTo(I)V -/
def hcd78 : hk_Cd := [
 [(0, .aload 0, 1, 0, 0, 0, []),
  (1, .getfield 0, 2, 2, 1, 0, []),
  (4, .iload 1, 3, 0, 0, 0, []),
  (5, .iconst 0, 4, 0, 0, 5, []),
  (6, .irem, 5, 0, 0, 0, []),
  (7, .aload 0, 6, 0, 0, 0, []),
  (8, .getfield 0, 7, 2, 0, 0, []),
  (11, .iconst 0, 8, 0, 0, 5, []),
  (12, .irem, 9, 0, 0, 0, []),
  (13, .isub, 10, 0, 0, 0, []),
  (14, .invokestatic 0, 11, 79, 2, 0, [2, 0, 0]),
  (17, .istore 2, 12, 0, 0, 0, []),
  (18, .aload 0, 13, 0, 0, 0, []),
  (19, .getfield 0, 14, 2, 1, 0, []),
  (22, .iload 2, 15, 0, 0, 0, []),
  (23, .fneg, 16, 0, 0, 0, [])],
 [(26, .isub, 17, 0, 0, 0, []),
  (27, .iload 1, 18, 0, 0, 0, []),
  (28, .iconst 0, 19, 0, 0, 5, []),
  (29, .idiv, 20, 0, 0, 0, []),
  (30, .aload 0, 21, 0, 0, 0, []),
  (31, .getfield 0, 22, 2, 0, 0, []),
  (34, .iconst 0, 23, 0, 0, 5, []),
  (35, .idiv, 24, 0, 0, 0, []),
  (36, .isub, 25, 0, 0, 0, []),
  (37, .invokestatic 0, 26, 79, 2, 0, [2, 0, 0]),
  (40, .istore 3, 27, 0, 0, 0, []),
  (41, .aload 0, 28, 0, 0, 0, []),
  (42, .dup, 29, 0, 0, 0, []),
  (43, .getfield 0, 30, 2, 0, 0, []),
  (46, .iconst 0, 31, 0, 0, 5, []),
  (47, .iload 3, 32, 0, 0, 0, [])],
 [(48, .imul, 33, 0, 0, 0, []),
  (49, .iload 2, 34, 0, 0, 0, []),
  (50, .iadd, 35, 0, 0, 0, []),
  (51, .iadd, 36, 0, 0, 0, []),
  (52, .putfield 0, 37, 2, 0, 0, [0]),
  (55, .return_, 38, 0, 0, 0, [])]]
/-- HatFields$Person.atMost(II)I -/
def hcd79 : hk_Cd := [
 [(0, .iload 0, 1, 0, 0, 0, []),
  (1, .ineg, 2, 0, 0, 0, []),
  (2, .iload 0, 3, 0, 0, 0, []),
  (3, .iload 1, 4, 0, 0, 0, []),
  (4, .fsub, 5, 0, 0, 0, []),
  (7, .fadd, 6, 0, 0, 0, []),
  (10, .ireturn, 7, 0, 0, 0, [])]]
/-- HatFields$Plain.putOnAll(II)V -/
def hcd80 : hk_Cd := [
 [(0, .iconst 0, 1, 0, 0, 0, []),
  (1, .istore 3, 2, 0, 0, 0, []),
  (2, .iload 3, 3, 0, 0, 0, []),
  (3, .aload 0, 4, 0, 0, 0, []),
  (4, .getfield 0, 5, 3, 5, 0, []),
  (7, .if_icmp .ge 0, 6, 27, 0, 0, []),
  (10, .aload 0, 7, 0, 0, 0, []),
  (11, .getfield 0, 8, 3, 3, 0, []),
  (14, .iload 3, 9, 0, 0, 0, []),
  (15, .aaload, 10, 0, 0, 0, []),
  (16, .invokevirtual 0, 11, 64, 0, 0, [1, 0, 0]),
  (19, .ifCond .eq 0, 12, 25, 0, 0, []),
  (22, .aload 0, 13, 0, 0, 0, []),
  (23, .getfield 0, 14, 3, 3, 0, []),
  (26, .iload 3, 15, 0, 0, 0, []),
  (27, .aaload, 16, 0, 0, 0, [])],
 [(28, .getfield 0, 17, 1, 4, 0, []),
  (31, .iload 2, 18, 0, 0, 0, []),
  (32, .if_icmp .ne 0, 19, 25, 0, 0, []),
  (35, .aload 0, 20, 0, 0, 0, []),
  (36, .getfield 0, 21, 3, 3, 0, []),
  (39, .iload 3, 22, 0, 0, 0, []),
  (40, .aaload, 23, 0, 0, 0, []),
  (41, .iload 1, 24, 0, 0, 0, []),
  (42, .invokevirtual 0, 25, 33, 1, 0, [1, 0, 0]),
  (45, .iinc 3 0, 26, 0, 0, 1, []),
  (48, .goto 0, 27, 2, 0, 0, []),
  (51, .return_, 28, 0, 0, 0, [])]]
/-- HatFields.clock(I)I -/
def hcd81 : hk_Cd := [
 [(0, .iload 1, 1, 0, 0, 0, []),
  (1, .ifCond .lt 0, 2, 5, 0, 0, []),
  (4, .iload 1, 3, 0, 0, 0, []),
  (5, .iconst 0, 4, 0, 0, 96, []),
  (7, .if_icmp .le 0, 5, 7, 0, 0, []),
  (10, .iconst 0, 6, 0, 0, (-1), []),
  (11, .ireturn, 7, 0, 0, 0, []),
  (12, .aload 0, 8, 0, 0, 0, []),
  (13, .getfield 0, 9, 7, 0, 0, []),
  (16, .getfield 0, 10, 3, 6, 0, []),
  (19, .istore 2, 11, 0, 0, 0, []),
  (20, .aload 0, 12, 0, 0, 0, []),
  (21, .getfield 0, 13, 7, 0, 0, []),
  (24, .iload 1, 14, 0, 0, 0, []),
  (25, .putfield 0, 15, 3, 6, 0, [0]),
  (28, .iload 2, 16, 0, 0, 0, [])],
 [(29, .ireturn, 17, 0, 0, 0, [])]]
/-- HatFields.owns(II)I -/
def hcd82 : hk_Cd := [
 [(0, .aload 0, 1, 0, 0, 0, []),
  (1, .iload 1, 2, 0, 0, 0, []),
  (2, .invokevirtual 0, 3, 49, 1, 0, [7, 0, 0]),
  (5, .ifCond .eq 0, 4, 7, 0, 0, []),
  (8, .iload 2, 5, 0, 0, 0, []),
  (9, .invokestatic 0, 6, 71, 1, 0, [7, 0, 0]),
  (12, .ifCond .ne 0, 7, 9, 0, 0, []),
  (15, .iconst 0, 8, 0, 0, (-1), []),
  (16, .ireturn, 9, 0, 0, 0, []),
  (17, .aload 0, 10, 0, 0, 0, []),
  (18, .iload 2, 11, 0, 0, 0, []),
  (19, .invokevirtual 0, 12, 83, 1, 0, [7, 0, 0]),
  (22, .aload 0, 13, 0, 0, 0, []),
  (23, .getfield 0, 14, 7, 1, 0, []),
  (26, .iload 1, 15, 0, 0, 0, []),
  (27, .invokevirtual 0, 16, 50, 1, 0, [3, 0, 0])],
 [(30, .ireturn, 17, 0, 0, 0, [])]]
/-- HatFields.tryHours(I)V -/
def hcd83 : hk_Cd := [
 [(0, .aload 0, 1, 0, 0, 0, []),
  (1, .getfield 0, 2, 7, 1, 0, []),
  (4, .aload 0, 3, 0, 0, 0, []),
  (5, .getfield 0, 4, 7, 0, 0, []),
  (8, .invokevirtual 0, 5, 40, 1, 0, [3, 0, 0]),
  (11, .aload 0, 6, 0, 0, 0, []),
  (12, .getfield 0, 7, 7, 1, 0, []),
  (15, .iload 1, 8, 0, 0, 0, []),
  (16, .invokevirtual 0, 9, 72, 1, 0, [3, 0, 0]),
  (19, .return_, 10, 0, 0, 0, [])]]
/-- HatFields.where(II)I -/
def hcd84 : hk_Cd := [
 [(0, .aload 0, 1, 0, 0, 0, []),
  (1, .iload 1, 2, 0, 0, 0, []),
  (2, .invokevirtual 0, 3, 56, 1, 0, [7, 0, 0]),
  (5, .ifCond .eq 0, 4, 7, 0, 0, []),
  (8, .iload 2, 5, 0, 0, 0, []),
  (9, .invokestatic 0, 6, 71, 1, 0, [7, 0, 0]),
  (12, .ifCond .ne 0, 7, 9, 0, 0, []),
  (15, .iconst 0, 8, 0, 0, (-1), []),
  (16, .ireturn, 9, 0, 0, 0, []),
  (17, .aload 0, 10, 0, 0, 0, []),
  (18, .iload 2, 11, 0, 0, 0, []),
  (19, .invokevirtual 0, 12, 83, 1, 0, [7, 0, 0]),
  (22, .aload 0, 13, 0, 0, 0, []),
  (23, .getfield 0, 14, 7, 1, 0, []),
  (26, .iload 1, 15, 0, 0, 0, []),
  (27, .invokevirtual 0, 16, 57, 1, 0, [3, 0, 0])],
 [(30, .ireturn, 17, 0, 0, 0, [])]]
/-- HatFields.wears(II)I -/
def hcd85 : hk_Cd := [
 [(0, .aload 0, 1, 0, 0, 0, []),
  (1, .iload 1, 2, 0, 0, 0, []),
  (2, .invokevirtual 0, 3, 56, 1, 0, [7, 0, 0]),
  (5, .ifCond .eq 0, 4, 7, 0, 0, []),
  (8, .iload 2, 5, 0, 0, 0, []),
  (9, .invokestatic 0, 6, 71, 1, 0, [7, 0, 0]),
  (12, .ifCond .ne 0, 7, 9, 0, 0, []),
  (15, .iconst 0, 8, 0, 0, (-1), []),
  (16, .ireturn, 9, 0, 0, 0, []),
  (17, .aload 0, 10, 0, 0, 0, []),
  (18, .iload 2, 11, 0, 0, 0, []),
  (19, .invokevirtual 0, 12, 83, 1, 0, [7, 0, 0]),
  (22, .aload 0, 13, 0, 0, 0, []),
  (23, .getfield 0, 14, 7, 1, 0, []),
  (26, .getfield 0, 15, 3, 3, 0, []),
  (29, .iload 1, 16, 0, 0, 0, [])],
 [(30, .aaload, 17, 0, 0, 0, []),
  (31, .getfield 0, 18, 1, 3, 0, []),
  (34, .ireturn, 19, 0, 0, 0, [])]]
/-- HatFields.lost(I)I -/
def hcd86 : hk_Cd := [
 [(0, .aload 0, 1, 0, 0, 0, []),
  (1, .iload 1, 2, 0, 0, 0, []),
  (2, .invokevirtual 0, 3, 56, 1, 0, [7, 0, 0]),
  (5, .ifCond .ne 0, 4, 6, 0, 0, []),
  (8, .iconst 0, 5, 0, 0, (-1), []),
  (9, .ireturn, 6, 0, 0, 0, []),
  (10, .aload 0, 7, 0, 0, 0, []),
  (11, .getfield 0, 8, 7, 1, 0, []),
  (14, .aload 0, 9, 0, 0, 0, []),
  (15, .getfield 0, 10, 7, 0, 0, []),
  (18, .invokevirtual 0, 11, 40, 1, 0, [3, 0, 0]),
  (21, .iconst 0, 12, 0, 0, 0, []),
  (22, .istore 2, 13, 0, 0, 0, []),
  (23, .iload 2, 14, 0, 0, 0, []),
  (24, .iconst 0, 15, 0, 0, 48, []),
  (26, .if_icmp .gt 0, 16, 31, 0, 0, [])],
 [(29, .aload 0, 17, 0, 0, 0, []),
  (30, .getfield 0, 18, 7, 1, 0, []),
  (33, .getfield 0, 19, 3, 3, 0, []),
  (36, .iload 1, 20, 0, 0, 0, []),
  (37, .aaload, 21, 0, 0, 0, []),
  (38, .invokevirtual 0, 22, 67, 0, 0, [1, 0, 0]),
  (41, .ifCond .eq 0, 23, 25, 0, 0, []),
  (44, .iload 2, 24, 0, 0, 0, []),
  (45, .ireturn, 25, 0, 0, 0, []),
  (46, .aload 0, 26, 0, 0, 0, []),
  (47, .getfield 0, 27, 7, 1, 0, []),
  (50, .iconst 0, 28, 0, 0, 1, []),
  (51, .invokevirtual 0, 29, 72, 1, 0, [3, 0, 0]),
  (54, .iinc 2 0, 30, 0, 0, 1, []),
  (57, .goto 0, 31, 13, 0, 0, []),
  (60, .iconst 0, 32, 0, 0, (-3), [])],
 [(62, .ireturn, 33, 0, 0, 0, [])]]
/-- HatFields.master(I)I -/
def hcd87 : hk_Cd := [
 [(0, .iload 1, 1, 0, 0, 0, []),
  (1, .invokestatic 0, 2, 71, 1, 0, [7, 0, 0]),
  (4, .ifCond .ne 0, 3, 5, 0, 0, []),
  (7, .iconst 0, 4, 0, 0, (-1), []),
  (8, .ireturn, 5, 0, 0, 0, []),
  (9, .aload 0, 6, 0, 0, 0, []),
  (10, .getfield 0, 7, 7, 0, 0, []),
  (13, .getfield 0, 8, 3, 4, 0, []),
  (16, .ifCond .ne 0, 9, 11, 0, 0, []),
  (19, .iconst 0, 10, 0, 0, (-3), []),
  (21, .ireturn, 11, 0, 0, 0, []),
  (22, .aload 0, 12, 0, 0, 0, []),
  (23, .iload 1, 13, 0, 0, 0, []),
  (24, .invokevirtual 0, 14, 83, 1, 0, [7, 0, 0]),
  (27, .iconst 0, 15, 0, 0, 0, []),
  (28, .istore 2, 16, 0, 0, 0, [])],
 [(29, .iconst 0, 17, 0, 0, 1, []),
  (30, .istore 3, 18, 0, 0, 0, []),
  (31, .iload 3, 19, 0, 0, 0, []),
  (32, .aload 0, 20, 0, 0, 0, []),
  (33, .getfield 0, 21, 7, 1, 0, []),
  (36, .getfield 0, 22, 3, 4, 0, []),
  (39, .if_icmp .ge 0, 23, 36, 0, 0, []),
  (42, .aload 0, 24, 0, 0, 0, []),
  (43, .getfield 0, 25, 7, 1, 0, []),
  (46, .iload 3, 26, 0, 0, 0, []),
  (47, .invokevirtual 0, 27, 50, 1, 0, [3, 0, 0]),
  (50, .aload 0, 28, 0, 0, 0, []),
  (51, .getfield 0, 29, 7, 1, 0, []),
  (54, .iload 2, 30, 0, 0, 0, []),
  (55, .invokevirtual 0, 31, 50, 1, 0, [3, 0, 0]),
  (58, .if_icmp .le 0, 32, 34, 0, 0, [])],
 [(61, .iload 3, 33, 0, 0, 0, []),
  (62, .istore 2, 34, 0, 0, 0, []),
  (63, .iinc 3 0, 35, 0, 0, 1, []),
  (66, .goto 0, 36, 18, 0, 0, []),
  (69, .iload 2, 37, 0, 0, 0, []),
  (70, .ireturn, 38, 0, 0, 0, [])]]
/-- HatFields.wish(II)I -/
def hcd88 : hk_Cd := [
 [(0, .aload 0, 1, 0, 0, 0, []),
  (1, .iload 1, 2, 0, 0, 0, []),
  (2, .invokevirtual 0, 3, 49, 1, 0, [7, 0, 0]),
  (5, .ifCond .eq 0, 4, 7, 0, 0, []),
  (8, .iload 2, 5, 0, 0, 0, []),
  (9, .invokestatic 0, 6, 89, 1, 0, [7, 0, 0]),
  (12, .ifCond .ne 0, 7, 9, 0, 0, []),
  (15, .iconst 0, 8, 0, 0, (-1), []),
  (16, .ireturn, 9, 0, 0, 0, []),
  (17, .aload 0, 10, 0, 0, 0, []),
  (18, .getfield 0, 11, 7, 0, 0, []),
  (21, .getfield 0, 12, 3, 6, 0, []),
  (24, .iconst 0, 13, 0, 0, 96, []),
  (26, .if_icmp .lt 0, 14, 16, 0, 0, []),
  (29, .iconst 0, 15, 0, 0, (-4), []),
  (31, .ireturn, 16, 0, 0, 0, [])],
 [(32, .aload 0, 17, 0, 0, 0, []),
  (33, .iload 1, 18, 0, 0, 0, []),
  (34, .iload 2, 19, 0, 0, 0, []),
  (35, .iconst 0, 20, 0, 0, 0, []),
  (36, .iconst 0, 21, 0, 0, 40, []),
  (38, .invokevirtual 0, 22, 90, 4, 0, [7, 0, 0]),
  (41, .ireturn, 23, 0, 0, 0, [])]]
/-- HatFields.isPlanLength(I)Z -/
def hcd89 : hk_Cd := [
 [(0, .iload 0, 1, 0, 0, 0, []),
  (1, .iconst 0, 2, 0, 0, 1, []),
  (2, .if_icmp .lt 0, 3, 8, 0, 0, []),
  (5, .iload 0, 4, 0, 0, 0, []),
  (6, .iconst 0, 5, 0, 0, 12, []),
  (8, .if_icmp .gt 0, 6, 8, 0, 0, []),
  (11, .iconst 0, 7, 0, 0, 1, []),
  (12, .goto 0, 8, 9, 0, 0, []),
  (15, .iconst 0, 9, 0, 0, 0, []),
  (16, .ireturn, 10, 0, 0, 0, [])]]
/-- HatFields.bestFor(IIII)I -/
def hcd90 : hk_Cd := [
 [(0, .iconst 0, 1, 0, 0, 0, []),
  (1, .istore 5, 2, 0, 0, 0, []),
  (3, .iconst 0, 3, 0, 0, (-1), []),
  (4, .istore 6, 4, 0, 0, 0, []),
  (6, .iconst 0, 5, 0, 0, 0, []),
  (7, .istore 7, 6, 0, 0, 0, []),
  (9, .iload 7, 7, 0, 0, 0, []),
  (11, .iload 4, 8, 0, 0, 0, []),
  (13, .if_icmp .ge 0, 9, 37, 0, 0, []),
  (16, .aload 0, 10, 0, 0, 0, []),
  (17, .getfield 0, 11, 7, 1, 0, []),
  (20, .aload 0, 12, 0, 0, 0, []),
  (21, .getfield 0, 13, 7, 0, 0, []),
  (24, .invokevirtual 0, 14, 40, 1, 0, [3, 0, 0]),
  (27, .aload 0, 15, 0, 0, 0, []),
  (28, .iload 3, 16, 0, 0, 0, [])],
 [(29, .iload 1, 17, 0, 0, 0, []),
  (30, .iload 7, 18, 0, 0, 0, []),
  (32, .invokevirtual 0, 19, 91, 3, 0, [7, 0, 0]),
  (35, .aload 0, 20, 0, 0, 0, []),
  (36, .getfield 0, 21, 7, 1, 0, []),
  (39, .iload 2, 22, 0, 0, 0, []),
  (40, .invokevirtual 0, 23, 72, 1, 0, [3, 0, 0]),
  (43, .aload 0, 24, 0, 0, 0, []),
  (44, .getfield 0, 25, 7, 1, 0, []),
  (47, .iload 1, 26, 0, 0, 0, []),
  (48, .invokevirtual 0, 27, 50, 1, 0, [3, 0, 0]),
  (51, .istore 8, 28, 0, 0, 0, []),
  (53, .iload 8, 29, 0, 0, 0, []),
  (55, .iload 6, 30, 0, 0, 0, []),
  (57, .if_icmp .le 0, 31, 35, 0, 0, []),
  (60, .iload 8, 32, 0, 0, 0, [])],
 [(62, .istore 6, 33, 0, 0, 0, []),
  (64, .iload 7, 34, 0, 0, 0, []),
  (66, .istore 5, 35, 0, 0, 0, []),
  (68, .iinc 7 0, 36, 0, 0, 1, []),
  (71, .goto 0, 37, 6, 0, 0, []),
  (74, .iload 5, 38, 0, 0, 0, []),
  (76, .ireturn, 39, 0, 0, 0, [])]]
/-- HatFields.changeTrial(III)V -/
def hcd91 : hk_Cd := [
 [(0, .iload 1, 1, 0, 0, 0, []),
  (1, .ifCond .ne 0, 2, 15, 0, 0, []),
  (4, .aload 0, 3, 0, 0, 0, []),
  (5, .getfield 0, 4, 7, 1, 0, []),
  (8, .aload 0, 5, 0, 0, 0, []),
  (9, .getfield 0, 6, 7, 1, 0, []),
  (12, .invokevirtual 0, 7, 60, 0, 0, [3, 0, 0]),
  (15, .iload 3, 8, 0, 0, 0, []),
  (16, .iconst 0, 9, 0, 0, 10, []),
  (18, .idiv, 10, 0, 0, 0, []),
  (19, .iload 3, 11, 0, 0, 0, []),
  (20, .iconst 0, 12, 0, 0, 10, []),
  (22, .irem, 13, 0, 0, 0, []),
  (23, .invokevirtual 0, 14, 14, 3, 0, [3, 0, 0]),
  (26, .goto 0, 15, 37, 0, 0, []),
  (29, .iload 1, 16, 0, 0, 0, [])],
 [(30, .iconst 0, 17, 0, 0, 1, []),
  (31, .if_icmp .ne 0, 18, 26, 0, 0, []),
  (34, .aload 0, 19, 0, 0, 0, []),
  (35, .getfield 0, 20, 7, 1, 0, []),
  (38, .getfield 0, 21, 3, 2, 0, []),
  (41, .iload 2, 22, 0, 0, 0, []),
  (42, .aaload, 23, 0, 0, 0, []),
  (43, .iload 3, 24, 0, 0, 0, []),
  (44, .putfield 0, 25, 2, 0, 0, [0]),
  (47, .goto 0, 26, 37, 0, 0, []),
  (50, .iload 1, 27, 0, 0, 0, []),
  (51, .iconst 0, 28, 0, 0, 2, []),
  (52, .if_icmp .ne 0, 29, 37, 0, 0, []),
  (55, .aload 0, 30, 0, 0, 0, []),
  (56, .getfield 0, 31, 7, 1, 0, []),
  (59, .getfield 0, 32, 3, 3, 0, [])],
 [(62, .iload 3, 33, 0, 0, 0, []),
  (63, .aaload, 34, 0, 0, 0, []),
  (64, .iconst 0, 35, 0, 0, 3, []),
  (65, .iconst 0, 36, 0, 0, 9, []),
  (67, .invokevirtual 0, 37, 32, 2, 0, [1, 0, 0]),
  (70, .return_, 38, 0, 0, 0, [])]]
/-- HatFields.start(II)I -/
def hcd92 : hk_Cd := [
 [(0, .aload 0, 1, 0, 0, 0, []),
  (1, .iload 1, 2, 0, 0, 0, []),
  (2, .invokevirtual 0, 3, 49, 1, 0, [7, 0, 0]),
  (5, .ifCond .eq 0, 4, 7, 0, 0, []),
  (8, .iload 2, 5, 0, 0, 0, []),
  (9, .invokestatic 0, 6, 89, 1, 0, [7, 0, 0]),
  (12, .ifCond .ne 0, 7, 9, 0, 0, []),
  (15, .iconst 0, 8, 0, 0, (-1), []),
  (16, .ireturn, 9, 0, 0, 0, []),
  (17, .aload 0, 10, 0, 0, 0, []),
  (18, .iload 1, 11, 0, 0, 0, []),
  (19, .iload 2, 12, 0, 0, 0, []),
  (20, .iconst 0, 13, 0, 0, 1, []),
  (21, .iconst 0, 14, 0, 0, 25, []),
  (23, .invokevirtual 0, 15, 90, 4, 0, [7, 0, 0]),
  (26, .ireturn, 16, 0, 0, 0, [])]]
/-- HatFields.tie(II)I -/
def hcd93 : hk_Cd := [
 [(0, .aload 0, 1, 0, 0, 0, []),
  (1, .iload 1, 2, 0, 0, 0, []),
  (2, .invokevirtual 0, 3, 49, 1, 0, [7, 0, 0]),
  (5, .ifCond .eq 0, 4, 7, 0, 0, []),
  (8, .iload 2, 5, 0, 0, 0, []),
  (9, .invokestatic 0, 6, 89, 1, 0, [7, 0, 0]),
  (12, .ifCond .ne 0, 7, 9, 0, 0, []),
  (15, .iconst 0, 8, 0, 0, (-1), []),
  (16, .ireturn, 9, 0, 0, 0, []),
  (17, .aload 0, 10, 0, 0, 0, []),
  (18, .getfield 0, 11, 7, 0, 0, []),
  (21, .getfield 0, 12, 3, 5, 0, []),
  (24, .ifCond .ne 0, 13, 15, 0, 0, []),
  (27, .iconst 0, 14, 0, 0, (-3), []),
  (29, .ireturn, 15, 0, 0, 0, []),
  (30, .aload 0, 16, 0, 0, 0, [])],
 [(31, .iload 1, 17, 0, 0, 0, []),
  (32, .iload 2, 18, 0, 0, 0, []),
  (33, .iconst 0, 19, 0, 0, 2, []),
  (34, .aload 0, 20, 0, 0, 0, []),
  (35, .getfield 0, 21, 7, 0, 0, []),
  (38, .getfield 0, 22, 3, 5, 0, []),
  (41, .invokevirtual 0, 23, 90, 4, 0, [7, 0, 0]),
  (44, .ireturn, 24, 0, 0, 0, [])]]
/-- HatFields.calm()I -/
def hcd94 : hk_Cd := [
 [(0, .aload 0, 1, 0, 0, 0, []),
  (1, .getfield 0, 2, 7, 1, 0, []),
  (4, .aload 0, 3, 0, 0, 0, []),
  (5, .getfield 0, 4, 7, 0, 0, []),
  (8, .invokevirtual 0, 5, 40, 1, 0, [3, 0, 0]),
  (11, .aload 0, 6, 0, 0, 0, []),
  (12, .getfield 0, 7, 7, 1, 0, []),
  (15, .invokevirtual 0, 8, 13, 0, 0, [3, 0, 0]),
  (18, .iconst 0, 9, 0, 0, 0, []),
  (19, .istore 1, 10, 0, 0, 0, []),
  (20, .iload 1, 11, 0, 0, 0, []),
  (21, .iconst 0, 12, 0, 0, 48, []),
  (23, .if_icmp .gt 0, 13, 24, 0, 0, []),
  (26, .aload 0, 14, 0, 0, 0, []),
  (27, .getfield 0, 15, 7, 1, 0, []),
  (30, .invokevirtual 0, 16, 95, 0, 0, [3, 0, 0])],
 [(33, .ifCond .ne 0, 17, 19, 0, 0, []),
  (36, .iload 1, 18, 0, 0, 0, []),
  (37, .ireturn, 19, 0, 0, 0, []),
  (38, .aload 0, 20, 0, 0, 0, []),
  (39, .getfield 0, 21, 7, 1, 0, []),
  (42, .invokevirtual 0, 22, 73, 0, 0, [3, 0, 0]),
  (45, .iinc 1 0, 23, 0, 0, 1, []),
  (48, .goto 0, 24, 10, 0, 0, []),
  (51, .iconst 0, 25, 0, 0, (-3), []),
  (53, .ireturn, 26, 0, 0, 0, [])]]
/-- HatFields$Plain.anyLies()Z -/
def hcd95 : hk_Cd := [
 [(0, .iconst 0, 1, 0, 0, 0, []),
  (1, .istore 1, 2, 0, 0, 0, []),
  (2, .iload 1, 3, 0, 0, 0, []),
  (3, .aload 0, 4, 0, 0, 0, []),
  (4, .getfield 0, 5, 3, 5, 0, []),
  (7, .if_icmp .ge 0, 6, 16, 0, 0, []),
  (10, .aload 0, 7, 0, 0, 0, []),
  (11, .getfield 0, 8, 3, 3, 0, []),
  (14, .iload 1, 9, 0, 0, 0, []),
  (15, .aaload, 10, 0, 0, 0, []),
  (16, .invokevirtual 0, 11, 64, 0, 0, [1, 0, 0]),
  (19, .ifCond .eq 0, 12, 14, 0, 0, []),
  (22, .iconst 0, 13, 0, 0, 1, []),
  (23, .ireturn, 14, 0, 0, 0, []),
  (24, .iinc 1 0, 15, 0, 0, 1, []),
  (27, .goto 0, 16, 2, 0, 0, [])],
 [(30, .iconst 0, 17, 0, 0, 0, []),
  (31, .ireturn, 18, 0, 0, 0, [])]]
/-- HatFields.seed(I)I -/
def hcd96 : hk_Cd := [
 [(0, .aload 0, 1, 0, 0, 0, []),
  (1, .getfield 0, 2, 7, 4, 0, []),
  (4, .istore 2, 3, 0, 0, 0, []),
  (5, .aload 0, 4, 0, 0, 0, []),
  (6, .iload 1, 5, 0, 0, 0, []),
  (7, .putfield 0, 6, 7, 4, 0, [0]),
  (10, .iload 2, 7, 0, 0, 0, []),
  (11, .ireturn, 8, 0, 0, 0, [])]]
/-- HatFields.draw(I)I -/
def hcd97 : hk_Cd := [
 [(0, .iload 1, 1, 0, 0, 0, []),
  (1, .iconst 0, 2, 0, 0, 24, []),
  (3, .invokestatic 0, 3, 44, 2, 0, [7, 0, 0]),
  (6, .ifCond .ne 0, 4, 6, 0, 0, []),
  (9, .iconst 0, 5, 0, 0, (-1), []),
  (10, .ireturn, 6, 0, 0, 0, []),
  (11, .aload 0, 7, 0, 0, 0, []),
  (12, .aload 0, 8, 0, 0, 0, []),
  (13, .getfield 0, 9, 7, 4, 0, []),
  (16, .iconst 0, 10, 0, 0, 1103515245, []),
  (18, .imul, 11, 0, 0, 0, []),
  (19, .iconst 0, 12, 0, 0, 12345, []),
  (22, .iadd, 13, 0, 0, 0, []),
  (23, .putfield 0, 14, 7, 4, 0, [0]),
  (26, .aload 0, 15, 0, 0, 0, []),
  (27, .getfield 0, 16, 7, 0, 0, [])],
 [(30, .iload 1, 17, 0, 0, 0, []),
  (31, .aload 0, 18, 0, 0, 0, []),
  (32, .getfield 0, 19, 7, 4, 0, []),
  (35, .iconst 0, 20, 0, 0, 16, []),
  (37, .iushr, 21, 0, 0, 0, []),
  (38, .iconst 0, 22, 0, 0, 4, []),
  (39, .irem, 23, 0, 0, 0, []),
  (40, .aload 0, 24, 0, 0, 0, []),
  (41, .getfield 0, 25, 7, 4, 0, []),
  (44, .iconst 0, 26, 0, 0, 20, []),
  (46, .iushr, 27, 0, 0, 0, []),
  (47, .iconst 0, 28, 0, 0, 10, []),
  (49, .irem, 29, 0, 0, 0, []),
  (50, .invokevirtual 0, 30, 14, 3, 0, [3, 0, 0]),
  (53, .aload 0, 31, 0, 0, 0, []),
  (54, .getfield 0, 32, 7, 0, 0, [])],
 [(57, .iload 1, 33, 0, 0, 0, []),
  (58, .invokevirtual 0, 34, 45, 1, 0, [3, 0, 0]),
  (61, .ireturn, 35, 0, 0, 0, [])]]
/-- HatFields.prove(I)I -/
def hcd98 : hk_Cd := [
 [(0, .iload 1, 1, 0, 0, 0, []),
  (1, .iconst 0, 2, 0, 0, 1, []),
  (2, .if_icmp .lt 0, 3, 6, 0, 0, []),
  (5, .iload 1, 4, 0, 0, 0, []),
  (6, .iconst 0, 5, 0, 0, 20, []),
  (8, .if_icmp .le 0, 6, 8, 0, 0, []),
  (11, .iconst 0, 7, 0, 0, (-1), []),
  (12, .ireturn, 8, 0, 0, 0, []),
  (13, .aload 0, 9, 0, 0, 0, []),
  (14, .getfield 0, 10, 7, 1, 0, []),
  (17, .aload 0, 11, 0, 0, 0, []),
  (18, .getfield 0, 12, 7, 0, 0, []),
  (21, .invokevirtual 0, 13, 40, 1, 0, [3, 0, 0]),
  (24, .aload 0, 14, 0, 0, 0, []),
  (25, .iconst 0, 15, 0, 0, 0, []),
  (26, .putfield 0, 16, 7, 8, 0, [0])],
 [(29, .iconst 0, 17, 0, 0, 0, []),
  (30, .istore 2, 18, 0, 0, 0, []),
  (31, .iload 2, 19, 0, 0, 0, []),
  (32, .iload 1, 20, 0, 0, 0, []),
  (33, .if_icmp .ge 0, 21, 68, 0, 0, []),
  (36, .aload 0, 22, 0, 0, 0, []),
  (37, .getfield 0, 23, 7, 1, 0, []),
  (40, .getfield 0, 24, 3, 6, 0, []),
  (43, .iconst 0, 25, 0, 0, 96, []),
  (45, .if_icmp .ge 0, 26, 68, 0, 0, []),
  (48, .aload 0, 27, 0, 0, 0, []),
  (49, .getfield 0, 28, 7, 1, 0, []),
  (52, .invokevirtual 0, 29, 73, 0, 0, [3, 0, 0]),
  (55, .aload 0, 30, 0, 0, 0, []),
  (56, .getfield 0, 31, 7, 7, 0, []),
  (59, .iconst 0, 32, 0, 0, 3, [])],
 [(60, .iload 2, 33, 0, 0, 0, []),
  (61, .imul, 34, 0, 0, 0, []),
  (62, .aload 0, 35, 0, 0, 0, []),
  (63, .getfield 0, 36, 7, 1, 0, []),
  (66, .getfield 0, 37, 3, 6, 0, []),
  (69, .iastore, 38, 0, 0, 0, []),
  (70, .aload 0, 39, 0, 0, 0, []),
  (71, .getfield 0, 40, 7, 7, 0, []),
  (74, .iconst 0, 41, 0, 0, 3, []),
  (75, .iload 2, 42, 0, 0, 0, []),
  (76, .imul, 43, 0, 0, 0, []),
  (77, .iconst 0, 44, 0, 0, 1, []),
  (78, .iadd, 45, 0, 0, 0, []),
  (79, .aload 0, 46, 0, 0, 0, []),
  (80, .getfield 0, 47, 7, 1, 0, []),
  (83, .invokevirtual 0, 48, 99, 0, 0, [3, 0, 0])],
 [(86, .iastore, 49, 0, 0, 0, []),
  (87, .aload 0, 50, 0, 0, 0, []),
  (88, .getfield 0, 51, 7, 7, 0, []),
  (91, .iconst 0, 52, 0, 0, 3, []),
  (92, .iload 2, 53, 0, 0, 0, []),
  (93, .imul, 54, 0, 0, 0, []),
  (94, .iconst 0, 55, 0, 0, 2, []),
  (95, .iadd, 56, 0, 0, 0, []),
  (96, .aload 0, 57, 0, 0, 0, []),
  (97, .getfield 0, 58, 7, 1, 0, []),
  (100, .invokevirtual 0, 59, 100, 0, 0, [3, 0, 0]),
  (103, .iastore, 60, 0, 0, 0, []),
  (104, .aload 0, 61, 0, 0, 0, []),
  (105, .dup, 62, 0, 0, 0, []),
  (106, .getfield 0, 63, 7, 8, 0, []),
  (109, .iconst 0, 64, 0, 0, 1, [])],
 [(110, .iadd, 65, 0, 0, 0, []),
  (111, .putfield 0, 66, 7, 8, 0, [0]),
  (114, .iinc 2 0, 67, 0, 0, 1, []),
  (117, .goto 0, 68, 18, 0, 0, []),
  (120, .aload 0, 69, 0, 0, 0, []),
  (121, .getfield 0, 70, 7, 8, 0, []),
  (124, .ireturn, 71, 0, 0, 0, [])]]
/-- HatFields$Plain.allWorn()I -/
def hcd99 : hk_Cd := [
 [(0, .iconst 0, 1, 0, 0, 0, []),
  (1, .istore 1, 2, 0, 0, 0, []),
  (2, .iconst 0, 3, 0, 0, 0, []),
  (3, .istore 2, 4, 0, 0, 0, []),
  (4, .iload 2, 5, 0, 0, 0, []),
  (5, .aload 0, 6, 0, 0, 0, []),
  (6, .getfield 0, 7, 3, 5, 0, []),
  (9, .if_icmp .ge 0, 8, 22, 0, 0, []),
  (12, .aload 0, 9, 0, 0, 0, []),
  (13, .getfield 0, 10, 3, 3, 0, []),
  (16, .iload 2, 11, 0, 0, 0, []),
  (17, .aaload, 12, 0, 0, 0, []),
  (18, .invokevirtual 0, 13, 58, 0, 0, [1, 0, 0]),
  (21, .ifCond .eq 0, 14, 20, 0, 0, []),
  (24, .iload 1, 15, 0, 0, 0, []),
  (25, .iconst 0, 16, 0, 0, 1, [])],
 [(26, .iload 2, 17, 0, 0, 0, []),
  (27, .ishl, 18, 0, 0, 0, []),
  (28, .ior, 19, 0, 0, 0, []),
  (29, .istore 1, 20, 0, 0, 0, []),
  (30, .iinc 2 0, 21, 0, 0, 1, []),
  (33, .goto 0, 22, 4, 0, 0, []),
  (36, .iload 1, 23, 0, 0, 0, []),
  (37, .ireturn, 24, 0, 0, 0, [])]]
/-- HatFields$Plain.allGone()I -/
def hcd100 : hk_Cd := [
 [(0, .iconst 0, 1, 0, 0, 0, []),
  (1, .istore 1, 2, 0, 0, 0, []),
  (2, .iconst 0, 3, 0, 0, 0, []),
  (3, .istore 2, 4, 0, 0, 0, []),
  (4, .iload 2, 5, 0, 0, 0, []),
  (5, .aload 0, 6, 0, 0, 0, []),
  (6, .getfield 0, 7, 3, 5, 0, []),
  (9, .if_icmp .ge 0, 8, 22, 0, 0, []),
  (12, .aload 0, 9, 0, 0, 0, []),
  (13, .getfield 0, 10, 3, 3, 0, []),
  (16, .iload 2, 11, 0, 0, 0, []),
  (17, .aaload, 12, 0, 0, 0, []),
  (18, .invokevirtual 0, 13, 67, 0, 0, [1, 0, 0]),
  (21, .ifCond .eq 0, 14, 20, 0, 0, []),
  (24, .iload 1, 15, 0, 0, 0, []),
  (25, .iconst 0, 16, 0, 0, 1, [])],
 [(26, .iload 2, 17, 0, 0, 0, []),
  (27, .ishl, 18, 0, 0, 0, []),
  (28, .ior, 19, 0, 0, 0, []),
  (29, .istore 1, 20, 0, 0, 0, []),
  (30, .iinc 2 0, 21, 0, 0, 1, []),
  (33, .goto 0, 22, 4, 0, 0, []),
  (36, .iload 1, 23, 0, 0, 0, []),
  (37, .ireturn, 24, 0, 0, 0, [])]]
/-- HatFields.row(II)I -/
def hcd101 : hk_Cd := [
 [(0, .aload 0, 1, 0, 0, 0, []),
  (1, .iload 1, 2, 0, 0, 0, []),
  (2, .iload 2, 3, 0, 0, 0, []),
  (3, .invokevirtual 0, 4, 102, 2, 0, [7, 0, 0]),
  (6, .ifCond .eq 0, 5, 14, 0, 0, []),
  (9, .aload 0, 6, 0, 0, 0, []),
  (10, .getfield 0, 7, 7, 7, 0, []),
  (13, .iconst 0, 8, 0, 0, 3, []),
  (14, .iload 1, 9, 0, 0, 0, []),
  (15, .imul, 10, 0, 0, 0, []),
  (16, .iload 2, 11, 0, 0, 0, []),
  (17, .iadd, 12, 0, 0, 0, []),
  (18, .iaload, 13, 0, 0, 0, []),
  (19, .goto 0, 14, 15, 0, 0, []),
  (22, .iconst 0, 15, 0, 0, (-9), []),
  (24, .ireturn, 16, 0, 0, 0, [])]]
/-- HatFields.isRowPart(II)Z -/
def hcd102 : hk_Cd := [
 [(0, .iload 1, 1, 0, 0, 0, []),
  (1, .aload 0, 2, 0, 0, 0, []),
  (2, .getfield 0, 3, 7, 8, 0, []),
  (5, .invokestatic 0, 4, 44, 2, 0, [7, 0, 0]),
  (8, .ifCond .eq 0, 5, 11, 0, 0, []),
  (11, .iload 2, 6, 0, 0, 0, []),
  (12, .iconst 0, 7, 0, 0, 3, []),
  (13, .invokestatic 0, 8, 44, 2, 0, [7, 0, 0]),
  (16, .ifCond .eq 0, 9, 11, 0, 0, []),
  (19, .iconst 0, 10, 0, 0, 1, []),
  (20, .goto 0, 11, 12, 0, 0, []),
  (23, .iconst 0, 12, 0, 0, 0, []),
  (24, .ireturn, 13, 0, 0, 0, [])]]
/-- HatFields.alterRow(III)I -/
def hcd103 : hk_Cd := [
 [(0, .aload 0, 1, 0, 0, 0, []),
  (1, .iload 1, 2, 0, 0, 0, []),
  (2, .iload 2, 3, 0, 0, 0, []),
  (3, .invokevirtual 0, 4, 102, 2, 0, [7, 0, 0]),
  (6, .ifCond .ne 0, 5, 7, 0, 0, []),
  (9, .iconst 0, 6, 0, 0, (-9), []),
  (11, .ireturn, 7, 0, 0, 0, []),
  (12, .aload 0, 8, 0, 0, 0, []),
  (13, .getfield 0, 9, 7, 7, 0, []),
  (16, .iconst 0, 10, 0, 0, 3, []),
  (17, .iload 1, 11, 0, 0, 0, []),
  (18, .imul, 12, 0, 0, 0, []),
  (19, .iload 2, 13, 0, 0, 0, []),
  (20, .iadd, 14, 0, 0, 0, []),
  (21, .iaload, 15, 0, 0, 0, []),
  (22, .istore 4, 16, 0, 0, 0, [])],
 [(24, .aload 0, 17, 0, 0, 0, []),
  (25, .getfield 0, 18, 7, 7, 0, []),
  (28, .iconst 0, 19, 0, 0, 3, []),
  (29, .iload 1, 20, 0, 0, 0, []),
  (30, .imul, 21, 0, 0, 0, []),
  (31, .iload 2, 22, 0, 0, 0, []),
  (32, .iadd, 23, 0, 0, 0, []),
  (33, .iload 3, 24, 0, 0, 0, []),
  (34, .iastore, 25, 0, 0, 0, []),
  (35, .iload 4, 26, 0, 0, 0, []),
  (37, .ireturn, 27, 0, 0, 0, [])]]
/-- HatFields.judge()I -/
def hcd104 : hk_Cd := [
 [(0, .aload 0, 1, 0, 0, 0, []),
  (1, .getfield 0, 2, 7, 1, 0, []),
  (4, .aload 0, 3, 0, 0, 0, []),
  (5, .getfield 0, 4, 7, 0, 0, []),
  (8, .invokevirtual 0, 5, 40, 1, 0, [3, 0, 0]),
  (11, .iconst 0, 6, 0, 0, 0, []),
  (12, .istore 1, 7, 0, 0, 0, []),
  (13, .iload 1, 8, 0, 0, 0, []),
  (14, .aload 0, 9, 0, 0, 0, []),
  (15, .getfield 0, 10, 7, 8, 0, []),
  (18, .if_icmp .ge 0, 11, 33, 0, 0, []),
  (21, .aload 0, 12, 0, 0, 0, []),
  (22, .getfield 0, 13, 7, 1, 0, []),
  (25, .getfield 0, 14, 3, 6, 0, []),
  (28, .iconst 0, 15, 0, 0, 96, []),
  (30, .if_icmp .lt 0, 16, 20, 0, 0, [])],
 [(33, .iload 1, 17, 0, 0, 0, []),
  (34, .iconst 0, 18, 0, 0, 1, []),
  (35, .iadd, 19, 0, 0, 0, []),
  (36, .ireturn, 20, 0, 0, 0, []),
  (37, .aload 0, 21, 0, 0, 0, []),
  (38, .getfield 0, 22, 7, 1, 0, []),
  (41, .invokevirtual 0, 23, 73, 0, 0, [3, 0, 0]),
  (44, .aload 0, 24, 0, 0, 0, []),
  (45, .iload 1, 25, 0, 0, 0, []),
  (46, .invokevirtual 0, 26, 105, 1, 0, [7, 0, 0]),
  (49, .ifCond .ne 0, 27, 31, 0, 0, []),
  (52, .iload 1, 28, 0, 0, 0, []),
  (53, .iconst 0, 29, 0, 0, 1, []),
  (54, .iadd, 30, 0, 0, 0, []),
  (55, .ireturn, 31, 0, 0, 0, []),
  (56, .iinc 1 0, 32, 0, 0, 1, [])],
 [(59, .goto 0, 33, 7, 0, 0, []),
  (62, .iconst 0, 34, 0, 0, 0, []),
  (63, .ireturn, 35, 0, 0, 0, [])]]
/-- HatFields.isRowOfTrial(I)Z -/
def hcd105 : hk_Cd := [
 [(0, .aload 0, 1, 0, 0, 0, []),
  (1, .getfield 0, 2, 7, 7, 0, []),
  (4, .iconst 0, 3, 0, 0, 3, []),
  (5, .iload 1, 4, 0, 0, 0, []),
  (6, .imul, 5, 0, 0, 0, []),
  (7, .iaload, 6, 0, 0, 0, []),
  (8, .aload 0, 7, 0, 0, 0, []),
  (9, .getfield 0, 8, 7, 1, 0, []),
  (12, .getfield 0, 9, 3, 6, 0, []),
  (15, .if_icmp .ne 0, 10, 36, 0, 0, []),
  (18, .aload 0, 11, 0, 0, 0, []),
  (19, .getfield 0, 12, 7, 7, 0, []),
  (22, .iconst 0, 13, 0, 0, 3, []),
  (23, .iload 1, 14, 0, 0, 0, []),
  (24, .imul, 15, 0, 0, 0, []),
  (25, .iconst 0, 16, 0, 0, 1, [])],
 [(26, .iadd, 17, 0, 0, 0, []),
  (27, .iaload, 18, 0, 0, 0, []),
  (28, .aload 0, 19, 0, 0, 0, []),
  (29, .getfield 0, 20, 7, 1, 0, []),
  (32, .invokevirtual 0, 21, 99, 0, 0, [3, 0, 0]),
  (35, .if_icmp .ne 0, 22, 36, 0, 0, []),
  (38, .aload 0, 23, 0, 0, 0, []),
  (39, .getfield 0, 24, 7, 7, 0, []),
  (42, .iconst 0, 25, 0, 0, 3, []),
  (43, .iload 1, 26, 0, 0, 0, []),
  (44, .imul, 27, 0, 0, 0, []),
  (45, .iconst 0, 28, 0, 0, 2, []),
  (46, .iadd, 29, 0, 0, 0, []),
  (47, .iaload, 30, 0, 0, 0, []),
  (48, .aload 0, 31, 0, 0, 0, []),
  (49, .getfield 0, 32, 7, 1, 0, [])],
 [(52, .invokevirtual 0, 33, 100, 0, 0, [3, 0, 0]),
  (55, .if_icmp .ne 0, 34, 36, 0, 0, []),
  (58, .iconst 0, 35, 0, 0, 1, []),
  (59, .goto 0, 36, 37, 0, 0, []),
  (62, .iconst 0, 37, 0, 0, 0, []),
  (63, .ireturn, 38, 0, 0, 0, [])]]
/-- HatFields.winds(IIII)I -/
def hcd106 : hk_Cd := [
 [(0, .iload 1, 1, 0, 0, 0, []),
  (1, .iconst 0, 2, 0, 0, 4, []),
  (2, .invokestatic 0, 3, 44, 2, 0, [7, 0, 0]),
  (5, .ifCond .eq 0, 4, 15, 0, 0, []),
  (8, .iload 3, 5, 0, 0, 0, []),
  (9, .iconst 0, 6, 0, 0, 24, []),
  (11, .invokestatic 0, 7, 44, 2, 0, [7, 0, 0]),
  (14, .ifCond .eq 0, 8, 15, 0, 0, []),
  (17, .iload 4, 9, 0, 0, 0, []),
  (19, .ifCond .lt 0, 10, 15, 0, 0, []),
  (22, .iload 4, 11, 0, 0, 0, []),
  (24, .iconst 0, 12, 0, 0, 24, []),
  (26, .iload 3, 13, 0, 0, 0, []),
  (27, .isub, 14, 0, 0, 0, []),
  (28, .if_icmp .le 0, 15, 17, 0, 0, []),
  (31, .iconst 0, 16, 0, 0, (-1), [])],
 [(32, .ireturn, 17, 0, 0, 0, []),
  (33, .aload 0, 18, 0, 0, 0, []),
  (34, .getfield 0, 19, 7, 9, 0, []),
  (37, .iload 1, 20, 0, 0, 0, []),
  (38, .aaload, 21, 0, 0, 0, []),
  (39, .astore 5, 22, 0, 0, 0, []),
  (41, .aload 5, 23, 0, 0, 0, []),
  (43, .ifnonnull 0, 24, 26, 0, 0, []),
  (46, .iconst 0, 25, 0, 0, (-11), []),
  (48, .ireturn, 26, 0, 0, 0, []),
  (49, .aload 5, 27, 0, 0, 0, []),
  (51, .getfield 0, 28, 4, 0, 0, []),
  (54, .ifCond .eq 0, 29, 31, 0, 0, []),
  (57, .iconst 0, 30, 0, 0, (-13), []),
  (59, .ireturn, 31, 0, 0, 0, []),
  (60, .iload 2, 32, 0, 0, 0, [])],
 [(61, .ifCond .lt 0, 33, 40, 0, 0, []),
  (64, .iload 2, 34, 0, 0, 0, []),
  (65, .aload 5, 35, 0, 0, 0, []),
  (67, .getfield 0, 36, 4, 1, 0, []),
  (70, .arraylength, 37, 0, 0, 0, []),
  (71, .iload 4, 38, 0, 0, 0, []),
  (73, .isub, 39, 0, 0, 0, []),
  (74, .if_icmp .le 0, 40, 42, 0, 0, []),
  (77, .iconst 0, 41, 0, 0, (-12), []),
  (79, .ireturn, 42, 0, 0, 0, []),
  (80, .iconst 0, 43, 0, 0, 0, []),
  (81, .istore 6, 44, 0, 0, 0, []),
  (83, .iload 6, 45, 0, 0, 0, []),
  (85, .iload 4, 46, 0, 0, 0, []),
  (87, .if_icmp .ge 0, 47, 66, 0, 0, []),
  (90, .aload 0, 48, 0, 0, 0, [])],
 [(91, .getfield 0, 49, 7, 0, 0, []),
  (94, .getfield 0, 50, 3, 1, 0, []),
  (97, .iload 3, 51, 0, 0, 0, []),
  (98, .iload 6, 52, 0, 0, 0, []),
  (100, .iadd, 53, 0, 0, 0, []),
  (101, .iconst 0, 54, 0, 0, 0, []),
  (102, .iconst 0, 55, 0, 0, 9, []),
  (104, .aload 5, 56, 0, 0, 0, []),
  (106, .getfield 0, 57, 4, 1, 0, []),
  (109, .iload 2, 58, 0, 0, 0, []),
  (110, .iload 6, 59, 0, 0, 0, []),
  (112, .iadd, 60, 0, 0, 0, []),
  (113, .iaload, 61, 0, 0, 0, []),
  (114, .fsub, 62, 0, 0, 0, []),
  (117, .fadd, 63, 0, 0, 0, []),
  (120, .iastore, 64, 0, 0, 0, [])],
 [(121, .iinc 6 0, 65, 0, 0, 1, []),
  (124, .goto 0, 66, 44, 0, 0, []),
  (127, .iload 4, 67, 0, 0, 0, []),
  (129, .ireturn, 68, 0, 0, 0, [])]]
/-- HatFields.sheet(III)I -/
def hcd107 : hk_Cd := [
 [(0, .iload 1, 1, 0, 0, 0, []),
  (1, .iconst 0, 2, 0, 0, 4, []),
  (2, .invokestatic 0, 3, 44, 2, 0, [7, 0, 0]),
  (5, .ifCond .eq 0, 4, 10, 0, 0, []),
  (8, .iload 2, 5, 0, 0, 0, []),
  (9, .iconst 0, 6, 0, 0, (-1), []),
  (10, .if_icmp .lt 0, 7, 10, 0, 0, []),
  (13, .iload 2, 8, 0, 0, 0, []),
  (14, .iconst 0, 9, 0, 0, 4, []),
  (15, .if_icmp .lt 0, 10, 12, 0, 0, []),
  (18, .iconst 0, 11, 0, 0, (-1), []),
  (19, .ireturn, 12, 0, 0, 0, []),
  (20, .iload 2, 13, 0, 0, 0, []),
  (21, .iconst 0, 14, 0, 0, (-1), []),
  (22, .if_icmp .ne 0, 15, 22, 0, 0, []),
  (25, .aload 0, 16, 0, 0, 0, [])],
 [(26, .getfield 0, 17, 7, 9, 0, []),
  (29, .iload 1, 18, 0, 0, 0, []),
  (30, .aconst_null, 19, 0, 0, 0, []),
  (31, .aastore, 20, 0, 0, 0, []),
  (32, .iconst 0, 21, 0, 0, 1, []),
  (33, .ireturn, 22, 0, 0, 0, []),
  (34, .iload 3, 23, 0, 0, 0, []),
  (35, .iconst 0, 24, 0, 0, 40, []),
  (37, .if_icmp .le 0, 25, 27, 0, 0, []),
  (40, .iconst 0, 26, 0, 0, (-1), []),
  (41, .ireturn, 27, 0, 0, 0, []),
  (42, .iload 3, 28, 0, 0, 0, []),
  (43, .ifCond .ge 0, 29, 31, 0, 0, []),
  (46, .iconst 0, 30, 0, 0, (-14), []),
  (48, .ireturn, 31, 0, 0, 0, []),
  (49, .aload 0, 32, 0, 0, 0, [])],
 [(50, .getfield 0, 33, 7, 9, 0, []),
  (53, .iload 1, 34, 0, 0, 0, []),
  (54, .new 0, 35, 4, 2, 0, []),
  (57, .dup, 36, 0, 0, 0, []),
  (58, .iload 2, 37, 0, 0, 0, []),
  (59, .iload 3, 38, 0, 0, 0, []),
  (60, .invokespecial 0, 39, 108, 2, 0, [4, 1, 40]),
  (63, .aastore, 40, 0, 0, 0, []),
  (64, .iconst 0, 41, 0, 0, 1, []),
  (65, .ireturn, 42, 0, 0, 0, [])]]
/-- HatFields$Row.<init>(II)V -/
def hcd108 : hk_Cd := [
 [(0, .aload 0, 1, 0, 0, 0, []),
  (1, .invokedynamic 0, 2, 0, 0, 0, []),
  (4, .aload 0, 3, 0, 0, 0, []),
  (5, .iload 1, 4, 0, 0, 0, []),
  (6, .putfield 0, 5, 4, 0, 0, [0]),
  (9, .aload 0, 6, 0, 0, 0, []),
  (10, .iload 2, 7, 0, 0, 0, []),
  (11, .newarray .int, 8, 10, 0, 0, []),
  (13, .putfield 0, 9, 4, 1, 0, [3]),
  (16, .return_, 10, 0, 0, 0, [])]]
/-- HatFields.put(III)I -/
def hcd109 : hk_Cd := [
 [(0, .iload 1, 1, 0, 0, 0, []),
  (1, .iconst 0, 2, 0, 0, 4, []),
  (2, .invokestatic 0, 3, 44, 2, 0, [7, 0, 0]),
  (5, .ifCond .ne 0, 4, 6, 0, 0, []),
  (8, .iconst 0, 5, 0, 0, (-1), []),
  (9, .ireturn, 6, 0, 0, 0, []),
  (10, .aload 0, 7, 0, 0, 0, []),
  (11, .getfield 0, 8, 7, 9, 0, []),
  (14, .iload 1, 9, 0, 0, 0, []),
  (15, .aaload, 10, 0, 0, 0, []),
  (16, .astore 4, 11, 0, 0, 0, []),
  (18, .aload 4, 12, 0, 0, 0, []),
  (20, .ifnonnull 0, 13, 15, 0, 0, []),
  (23, .iconst 0, 14, 0, 0, (-11), []),
  (25, .ireturn, 15, 0, 0, 0, []),
  (26, .iload 2, 16, 0, 0, 0, [])],
 [(27, .aload 4, 17, 0, 0, 0, []),
  (29, .getfield 0, 18, 4, 1, 0, []),
  (32, .arraylength, 19, 0, 0, 0, []),
  (33, .invokestatic 0, 20, 44, 2, 0, [7, 0, 0]),
  (36, .ifCond .ne 0, 21, 23, 0, 0, []),
  (39, .iconst 0, 22, 0, 0, (-12), []),
  (41, .ireturn, 23, 0, 0, 0, []),
  (42, .aload 4, 24, 0, 0, 0, []),
  (44, .getfield 0, 25, 4, 1, 0, []),
  (47, .iload 2, 26, 0, 0, 0, []),
  (48, .aload 4, 27, 0, 0, 0, []),
  (50, .iload 3, 28, 0, 0, 0, []),
  (51, .invokevirtual 0, 29, 110, 1, 0, [4, 0, 0]),
  (54, .iastore, 30, 0, 0, 0, []),
  (55, .iconst 0, 31, 0, 0, 1, []),
  (56, .ireturn, 32, 0, 0, 0, [])]]
/-- HatFields$Row.narrowed(I)I -/
def hcd110 : hk_Cd := [
 [(0, .aload 0, 1, 0, 0, 0, []),
  (1, .getfield 0, 2, 4, 0, 0, []),
  (4, .ifCond .ne 0, 3, 6, 0, 0, []),
  (7, .iload 1, 4, 0, 0, 0, []),
  (8, .i2b, 5, 0, 0, 0, []),
  (9, .goto 0, 6, 14, 0, 0, []),
  (12, .aload 0, 7, 0, 0, 0, []),
  (13, .getfield 0, 8, 4, 0, 0, []),
  (16, .iconst 0, 9, 0, 0, 1, []),
  (17, .if_icmp .ne 0, 10, 13, 0, 0, []),
  (20, .iload 1, 11, 0, 0, 0, []),
  (21, .i2s, 12, 0, 0, 0, []),
  (22, .goto 0, 13, 14, 0, 0, []),
  (25, .iload 1, 14, 0, 0, 0, []),
  (26, .ireturn, 15, 0, 0, 0, [])]]
/-- HatFields.item(III)I -/
def hcd111 : hk_Cd := [
 [(0, .iload 1, 1, 0, 0, 0, []),
  (1, .iconst 0, 2, 0, 0, 4, []),
  (2, .invokestatic 0, 3, 44, 2, 0, [7, 0, 0]),
  (5, .ifCond .eq 0, 4, 8, 0, 0, []),
  (8, .iload 2, 5, 0, 0, 0, []),
  (9, .iconst 0, 6, 0, 0, 4, []),
  (10, .invokestatic 0, 7, 44, 2, 0, [7, 0, 0]),
  (13, .ifCond .ne 0, 8, 10, 0, 0, []),
  (16, .iconst 0, 9, 0, 0, (-1), []),
  (17, .ireturn, 10, 0, 0, 0, []),
  (18, .aload 0, 11, 0, 0, 0, []),
  (19, .getfield 0, 12, 7, 9, 0, []),
  (22, .iload 1, 13, 0, 0, 0, []),
  (23, .aaload, 14, 0, 0, 0, []),
  (24, .astore 4, 15, 0, 0, 0, []),
  (26, .aload 4, 16, 0, 0, 0, [])],
 [(28, .ifnonnull 0, 17, 19, 0, 0, []),
  (31, .iconst 0, 18, 0, 0, (-11), []),
  (33, .ireturn, 19, 0, 0, 0, []),
  (34, .aload 4, 20, 0, 0, 0, []),
  (36, .getfield 0, 21, 4, 0, 0, []),
  (39, .iload 2, 22, 0, 0, 0, []),
  (40, .if_icmp .eq 0, 23, 25, 0, 0, []),
  (43, .iconst 0, 24, 0, 0, (-13), []),
  (45, .ireturn, 25, 0, 0, 0, []),
  (46, .iload 3, 26, 0, 0, 0, []),
  (47, .aload 4, 27, 0, 0, 0, []),
  (49, .getfield 0, 28, 4, 1, 0, []),
  (52, .arraylength, 29, 0, 0, 0, []),
  (53, .invokestatic 0, 30, 44, 2, 0, [7, 0, 0]),
  (56, .ifCond .eq 0, 31, 36, 0, 0, []),
  (59, .aload 4, 32, 0, 0, 0, [])],
 [(61, .getfield 0, 33, 4, 1, 0, []),
  (64, .iload 3, 34, 0, 0, 0, []),
  (65, .iaload, 35, 0, 0, 0, []),
  (66, .goto 0, 36, 37, 0, 0, []),
  (69, .iconst 0, 37, 0, 0, (-12), []),
  (71, .ireturn, 38, 0, 0, 0, [])]]
/-- HatFields.shelf(III)I -/
def hcd112 : hk_Cd := [
 [(0, .iload 1, 1, 0, 0, 0, []),
  (1, .iconst 0, 2, 0, 0, 4, []),
  (2, .invokestatic 0, 3, 44, 2, 0, [7, 0, 0]),
  (5, .ifCond .ne 0, 4, 6, 0, 0, []),
  (8, .iconst 0, 5, 0, 0, (-1), []),
  (9, .ireturn, 6, 0, 0, 0, []),
  (10, .iload 2, 7, 0, 0, 0, []),
  (11, .ifCond .ne 0, 8, 19, 0, 0, []),
  (14, .aload 0, 9, 0, 0, 0, []),
  (15, .iload 3, 10, 0, 0, 0, []),
  (16, .invokevirtual 0, 11, 56, 1, 0, [7, 0, 0]),
  (19, .ifCond .eq 0, 12, 19, 0, 0, []),
  (22, .aload 0, 13, 0, 0, 0, []),
  (23, .getfield 0, 14, 7, 10, 0, []),
  (26, .iload 1, 15, 0, 0, 0, []),
  (27, .aaload, 16, 0, 0, 0, [])],
 [(28, .iload 3, 17, 0, 0, 0, []),
  (29, .invokevirtual 0, 18, 113, 1, 0, [5, 0, 0]),
  (32, .goto 0, 19, 48, 0, 0, []),
  (35, .iload 2, 20, 0, 0, 0, []),
  (36, .iconst 0, 21, 0, 0, 1, []),
  (37, .if_icmp .ne 0, 22, 36, 0, 0, []),
  (40, .iload 3, 23, 0, 0, 0, []),
  (41, .iconst 0, 24, 0, 0, 4, []),
  (42, .invokestatic 0, 25, 44, 2, 0, [7, 0, 0]),
  (45, .ifCond .eq 0, 26, 36, 0, 0, []),
  (48, .aload 0, 27, 0, 0, 0, []),
  (49, .getfield 0, 28, 7, 10, 0, []),
  (52, .iload 1, 29, 0, 0, 0, []),
  (53, .aaload, 30, 0, 0, 0, []),
  (54, .aload 0, 31, 0, 0, 0, []),
  (55, .getfield 0, 32, 7, 9, 0, [])],
 [(58, .iload 3, 33, 0, 0, 0, []),
  (59, .aaload, 34, 0, 0, 0, []),
  (60, .invokevirtual 0, 35, 114, 1, 0, [5, 0, 0]),
  (63, .goto 0, 36, 48, 0, 0, []),
  (66, .iload 2, 37, 0, 0, 0, []),
  (67, .iconst 0, 38, 0, 0, 2, []),
  (68, .if_icmp .ne 0, 39, 46, 0, 0, []),
  (71, .aload 0, 40, 0, 0, 0, []),
  (72, .getfield 0, 41, 7, 10, 0, []),
  (75, .iload 1, 42, 0, 0, 0, []),
  (76, .aaload, 43, 0, 0, 0, []),
  (77, .aconst_null, 44, 0, 0, 0, []),
  (78, .invokevirtual 0, 45, 114, 1, 0, [5, 0, 0]),
  (81, .goto 0, 46, 48, 0, 0, []),
  (84, .iconst 0, 47, 0, 0, (-1), []),
  (85, .ireturn, 48, 0, 0, 0, [])],
 [(86, .iconst 0, 49, 0, 0, 1, []),
  (87, .ireturn, 50, 0, 0, 0, [])]]
/-- HatFields$Shelf.takeHat(I)V -/
def hcd113 : hk_Cd := [
 [(0, .aload 0, 1, 0, 0, 0, []),
  (1, .iload 1, 2, 0, 0, 0, []),
  (2, .putfield 0, 3, 5, 0, 0, [0]),
  (5, .aload 0, 4, 0, 0, 0, []),
  (6, .aconst_null, 5, 0, 0, 0, []),
  (7, .putfield 0, 6, 5, 1, 0, [3]),
  (10, .return_, 7, 0, 0, 0, [])]]
/-- HatFields$Shelf.takeRow(LHatFields$Row;)V -/
def hcd114 : hk_Cd := [
 [(0, .aload 0, 1, 0, 0, 0, []),
  (1, .iconst 0, 2, 0, 0, (-1), []),
  (2, .putfield 0, 3, 5, 0, 0, [0]),
  (5, .aload 0, 4, 0, 0, 0, []),
  (6, .aload 1, 5, 0, 0, 0, []),
  (7, .putfield 0, 6, 5, 1, 0, [3]),
  (10, .return_, 7, 0, 0, 0, [])]]
/-- HatFields.taken(II)I -/
def hcd115 : hk_Cd := [
 [(0, .iload 2, 1, 0, 0, 0, []),
  (1, .iconst 0, 2, 0, 0, 6, []),
  (3, .invokestatic 0, 3, 44, 2, 0, [7, 0, 0]),
  (6, .istore 3, 4, 0, 0, 0, []),
  (7, .iload 2, 5, 0, 0, 0, []),
  (8, .iconst 0, 6, 0, 0, 10, []),
  (10, .isub, 7, 0, 0, 0, []),
  (11, .iconst 0, 8, 0, 0, 4, []),
  (12, .invokestatic 0, 9, 44, 2, 0, [7, 0, 0]),
  (15, .istore 4, 10, 0, 0, 0, []),
  (17, .iload 1, 11, 0, 0, 0, []),
  (18, .iconst 0, 12, 0, 0, 4, []),
  (19, .invokestatic 0, 13, 44, 2, 0, [7, 0, 0]),
  (22, .ifCond .eq 0, 14, 18, 0, 0, []),
  (25, .iload 3, 15, 0, 0, 0, []),
  (26, .ifCond .ne 0, 16, 20, 0, 0, [])],
 [(29, .iload 4, 17, 0, 0, 0, []),
  (31, .ifCond .ne 0, 18, 20, 0, 0, []),
  (34, .iconst 0, 19, 0, 0, (-1), []),
  (35, .ireturn, 20, 0, 0, 0, []),
  (36, .aload 0, 21, 0, 0, 0, []),
  (37, .getfield 0, 22, 7, 10, 0, []),
  (40, .iload 1, 23, 0, 0, 0, []),
  (41, .aaload, 24, 0, 0, 0, []),
  (42, .getfield 0, 25, 5, 0, 0, []),
  (45, .istore 5, 26, 0, 0, 0, []),
  (47, .aload 0, 27, 0, 0, 0, []),
  (48, .getfield 0, 28, 7, 10, 0, []),
  (51, .iload 1, 29, 0, 0, 0, []),
  (52, .aaload, 30, 0, 0, 0, []),
  (53, .getfield 0, 31, 5, 1, 0, []),
  (56, .astore 6, 32, 0, 0, 0, [])],
 [(58, .aload 6, 33, 0, 0, 0, []),
  (60, .ifnonnull 0, 34, 40, 0, 0, []),
  (63, .aload 0, 35, 0, 0, 0, []),
  (64, .iload 5, 36, 0, 0, 0, []),
  (66, .invokevirtual 0, 37, 56, 1, 0, [7, 0, 0]),
  (69, .ifCond .ne 0, 38, 40, 0, 0, []),
  (72, .iconst 0, 39, 0, 0, (-11), []),
  (74, .ireturn, 40, 0, 0, 0, []),
  (75, .aload 6, 41, 0, 0, 0, []),
  (77, .ifnull 0, 42, 56, 0, 0, []),
  (80, .iload 4, 43, 0, 0, 0, []),
  (82, .ifCond .eq 0, 44, 54, 0, 0, []),
  (85, .aload 6, 45, 0, 0, 0, []),
  (87, .getfield 0, 46, 4, 0, 0, []),
  (90, .iload 2, 47, 0, 0, 0, []),
  (91, .iconst 0, 48, 0, 0, 10, [])],
 [(93, .isub, 49, 0, 0, 0, []),
  (94, .if_icmp .ne 0, 50, 54, 0, 0, []),
  (97, .aload 6, 51, 0, 0, 0, []),
  (99, .getfield 0, 52, 4, 1, 0, []),
  (102, .arraylength, 53, 0, 0, 0, []),
  (103, .goto 0, 54, 55, 0, 0, []),
  (106, .iconst 0, 55, 0, 0, (-13), []),
  (108, .ireturn, 56, 0, 0, 0, []),
  (109, .iload 3, 57, 0, 0, 0, []),
  (110, .ifCond .eq 0, 58, 68, 0, 0, []),
  (113, .aload 0, 59, 0, 0, 0, []),
  (114, .getfield 0, 60, 7, 0, 0, []),
  (117, .getfield 0, 61, 3, 3, 0, []),
  (120, .iload 5, 62, 0, 0, 0, []),
  (122, .aaload, 63, 0, 0, 0, []),
  (123, .iload 2, 64, 0, 0, 0, [])],
 [(124, .invokevirtual 0, 65, 116, 1, 0, [1, 0, 0]),
  (127, .ifCond .eq 0, 66, 68, 0, 0, []),
  (130, .iload 5, 67, 0, 0, 0, []),
  (132, .goto 0, 68, 69, 0, 0, []),
  (135, .iconst 0, 69, 0, 0, (-13), []),
  (137, .ireturn, 70, 0, 0, 0, [])]]
/-- HatFields$Hat.isOfKind(I)Z -/
def hcd116 : hk_Cd := [
 [(0, .aload 0, 1, 0, 0, 0, []),
  (1, .getfield 0, 2, 1, 0, 0, []),
  (4, .iload 1, 3, 0, 0, 0, []),
  (5, .if_icmp .eq 0, 4, 12, 0, 0, []),
  (8, .getstatic 0, 5, 0, 0, 0, []),
  (11, .aload 0, 6, 0, 0, 0, []),
  (12, .getfield 0, 7, 1, 0, 0, []),
  (15, .iaload, 8, 0, 0, 0, []),
  (16, .iload 1, 9, 0, 0, 0, []),
  (17, .if_icmp .eq 0, 10, 12, 0, 0, []),
  (20, .iload 1, 11, 0, 0, 0, []),
  (21, .ifCond .ne 0, 12, 14, 0, 0, []),
  (24, .iconst 0, 13, 0, 0, 1, []),
  (25, .goto 0, 14, 15, 0, 0, []),
  (28, .iconst 0, 15, 0, 0, 0, []),
  (29, .ireturn, 16, 0, 0, 0, [])]]
/-- HatFields.act(III)I -/
def hcd117 : hk_Cd := [
 [(0, .aload 0, 1, 0, 0, 0, []),
  (1, .getfield 0, 2, 7, 11, 0, []),
  (4, .invokevirtual 0, 3, 118, 0, 0, [0, 0, 0]),
  (7, .iload 1, 4, 0, 0, 0, []),
  (8, .iconst 0, 5, 0, 0, 4, []),
  (9, .invokestatic 0, 6, 44, 2, 0, [7, 0, 0]),
  (12, .ifCond .eq 0, 7, 11, 0, 0, []),
  (15, .iload 2, 8, 0, 0, 0, []),
  (16, .iconst 0, 9, 0, 0, 4, []),
  (17, .invokestatic 0, 10, 44, 2, 0, [7, 0, 0]),
  (20, .ifCond .ne 0, 11, 13, 0, 0, []),
  (23, .iconst 0, 12, 0, 0, 0, []),
  (24, .ireturn, 13, 0, 0, 0, []),
  (25, .aload 0, 14, 0, 0, 0, []),
  (26, .getfield 0, 15, 7, 10, 0, []),
  (29, .iload 1, 16, 0, 0, 0, [])],
 [(30, .aaload, 17, 0, 0, 0, []),
  (31, .getfield 0, 18, 5, 0, 0, []),
  (34, .istore 4, 19, 0, 0, 0, []),
  (36, .aload 0, 20, 0, 0, 0, []),
  (37, .iload 4, 21, 0, 0, 0, []),
  (39, .invokevirtual 0, 22, 56, 1, 0, [7, 0, 0]),
  (42, .ifCond .ne 0, 23, 25, 0, 0, []),
  (45, .iconst 0, 24, 0, 0, 0, []),
  (46, .ireturn, 25, 0, 0, 0, []),
  (47, .aload 0, 26, 0, 0, 0, []),
  (48, .getfield 0, 27, 7, 11, 0, []),
  (51, .iload 4, 28, 0, 0, 0, []),
  (53, .aload 0, 29, 0, 0, 0, []),
  (54, .getfield 0, 30, 7, 0, 0, []),
  (57, .getfield 0, 31, 3, 3, 0, []),
  (60, .iload 4, 32, 0, 0, 0, [])],
 [(62, .aaload, 33, 0, 0, 0, []),
  (63, .iload 2, 34, 0, 0, 0, []),
  (64, .iload 3, 35, 0, 0, 0, []),
  (65, .invokevirtual 0, 36, 119, 4, 0, [0, 0, 0]),
  (68, .ireturn, 37, 0, 0, 0, [])]]
/-- HatFields$Actor.forget()V -/
def hcd118 : hk_Cd := [
 [(0, .aload 0, 1, 0, 0, 0, []),
  (1, .iconst 0, 2, 0, 0, 0, []),
  (2, .putfield 0, 3, 0, 1, 0, [0]),
  (5, .return_, 4, 0, 0, 0, [])]]
/-- HatFields$Actor.perform(ILHatFields$Hat;II)I -/
def hcd119 : hk_Cd := [
 [(0, .aload 0, 1, 0, 0, 0, []),
  (1, .aload 2, 2, 0, 0, 0, []),
  (2, .getfield 0, 3, 1, 0, 0, []),
  (5, .putfield 0, 4, 0, 2, 0, [0]),
  (8, .aload 0, 5, 0, 0, 0, []),
  (9, .iload 1, 6, 0, 0, 0, []),
  (10, .putfield 0, 7, 0, 3, 0, [0]),
  (13, .aload 0, 8, 0, 0, 0, []),
  (14, .aload 2, 9, 0, 0, 0, []),
  (15, .getfield 0, 10, 1, 1, 0, []),
  (18, .putfield 0, 11, 0, 4, 0, [0]),
  (21, .aload 0, 12, 0, 0, 0, []),
  (22, .iconst 0, 13, 0, 0, 0, []),
  (23, .putfield 0, 14, 0, 5, 0, [1]),
  (26, .aload 0, 15, 0, 0, 0, []),
  (27, .aload 0, 16, 0, 0, 0, [])],
 [(28, .getfield 0, 17, 0, 2, 0, []),
  (31, .iload 3, 18, 0, 0, 0, []),
  (32, .iload 4, 19, 0, 0, 0, []),
  (34, .iconst 0, 20, 0, 0, 0, []),
  (35, .invokevirtual 0, 21, 120, 4, 0, [0, 0, 0]),
  (38, .istore 5, 22, 0, 0, 0, []),
  (40, .aload 0, 23, 0, 0, 0, []),
  (41, .getfield 0, 24, 0, 5, 0, []),
  (44, .ifCond .eq 0, 25, 27, 0, 0, []),
  (47, .iconst 0, 26, 0, 0, (-15), []),
  (49, .goto 0, 27, 28, 0, 0, []),
  (52, .iload 5, 28, 0, 0, 0, []),
  (54, .ireturn, 29, 0, 0, 0, [])]]
end
section
/-- HatFields$Actor.run(IIII)I -/
def hcd120 : hk_Cd := [
 [(0, .aload 0, 1, 0, 0, 0, []),
  (1, .getfield 0, 2, 0, 5, 0, []),
  (4, .ifCond .ne 0, 3, 6, 0, 0, []),
  (7, .iload 4, 4, 0, 0, 0, []),
  (9, .iconst 0, 5, 0, 0, 20, []),
  (11, .if_icmp .le 0, 6, 8, 0, 0, []),
  (14, .iconst 0, 7, 0, 0, 0, []),
  (15, .ireturn, 8, 0, 0, 0, []),
  (16, .getstatic 0, 9, 1, 0, 0, []),
  (19, .iconst 0, 10, 0, 0, 4, []),
  (20, .iload 1, 11, 0, 0, 0, []),
  (21, .imul, 12, 0, 0, 0, []),
  (22, .iload 2, 13, 0, 0, 0, []),
  (23, .iadd, 14, 0, 0, 0, []),
  (24, .iaload, 15, 0, 0, 0, []),
  (25, .istore 5, 16, 0, 0, 0, [])],
 [(27, .aload 0, 17, 0, 0, 0, []),
  (28, .iload 5, 18, 0, 0, 0, []),
  (30, .invokevirtual 0, 19, 121, 1, 0, [0, 0, 0]),
  (33, .iload 4, 20, 0, 0, 0, []),
  (35, .iconst 0, 21, 0, 0, 1, []),
  (36, .iadd, 22, 0, 0, 0, []),
  (37, .istore 6, 23, 0, 0, 0, []),
  (39, .iload 5, 24, 0, 0, 0, []),
  (41, .tableswitch 0 10 0 #[], 25, 161, 0, 0, [25, 30, 40, 44, 161, 161, 161, 161, 161, 161, 55, 161, 161, 161, 161, 161, 161, 161, 161, 161, 65, 74, 161, 161, 161, 161, 161, 161, 161, 161, 90, 99, 161, 161, 161, 161, 161, 161, 161, 161, 115, 126, 161, 161, 161, 161, 161, 161, 161, 161, 136, 145]),
  (264, .iload 3, 26, 0, 0, 0, []),
  (265, .aload 0, 27, 0, 0, 0, []),
  (266, .getfield 0, 28, 0, 3, 0, []),
  (269, .iadd, 29, 0, 0, 0, []),
  (270, .ireturn, 30, 0, 0, 0, []),
  (271, .aload 0, 31, 0, 0, 0, []),
  (272, .aload 0, 32, 0, 0, 0, [])],
 [(273, .getfield 0, 33, 0, 2, 0, []),
  (276, .iconst 0, 34, 0, 0, 0, []),
  (277, .iload 3, 35, 0, 0, 0, []),
  (278, .iload 6, 36, 0, 0, 0, []),
  (280, .invokevirtual 0, 37, 120, 4, 0, [0, 0, 0]),
  (283, .iconst 0, 38, 0, 0, 2, []),
  (284, .imul, 39, 0, 0, 0, []),
  (285, .ireturn, 40, 0, 0, 0, []),
  (286, .aload 0, 41, 0, 0, 0, []),
  (287, .iload 3, 42, 0, 0, 0, []),
  (288, .invokevirtual 0, 43, 122, 1, 0, [0, 0, 0]),
  (291, .ireturn, 44, 0, 0, 0, []),
  (292, .aload 0, 45, 0, 0, 0, []),
  (293, .aload 0, 46, 0, 0, 0, []),
  (294, .getfield 0, 47, 0, 2, 0, []),
  (297, .iconst 0, 48, 0, 0, 1, [])],
 [(298, .iload 3, 49, 0, 0, 0, []),
  (299, .iload 6, 50, 0, 0, 0, []),
  (301, .invokevirtual 0, 51, 120, 4, 0, [0, 0, 0]),
  (304, .aload 0, 52, 0, 0, 0, []),
  (305, .getfield 0, 53, 0, 4, 0, []),
  (308, .ixor, 54, 0, 0, 0, []),
  (309, .ireturn, 55, 0, 0, 0, []),
  (310, .aload 0, 56, 0, 0, 0, []),
  (311, .iconst 0, 57, 0, 0, 0, []),
  (312, .iconst 0, 58, 0, 0, 1, []),
  (313, .iload 3, 59, 0, 0, 0, []),
  (314, .iload 6, 60, 0, 0, 0, []),
  (316, .invokevirtual 0, 61, 120, 4, 0, [0, 0, 0]),
  (319, .aload 0, 62, 0, 0, 0, []),
  (320, .getfield 0, 63, 0, 4, 0, []),
  (323, .isub, 64, 0, 0, 0, [])],
 [(324, .ireturn, 65, 0, 0, 0, []),
  (325, .aload 0, 66, 0, 0, 0, []),
  (326, .iconst 0, 67, 0, 0, 0, []),
  (327, .iconst 0, 68, 0, 0, 0, []),
  (328, .iload 3, 69, 0, 0, 0, []),
  (329, .iload 6, 70, 0, 0, 0, []),
  (331, .invokevirtual 0, 71, 120, 4, 0, [0, 0, 0]),
  (334, .iconst 0, 72, 0, 0, 3, []),
  (335, .imul, 73, 0, 0, 0, []),
  (336, .ireturn, 74, 0, 0, 0, []),
  (337, .aload 0, 75, 0, 0, 0, []),
  (338, .iconst 0, 76, 0, 0, 0, []),
  (339, .iconst 0, 77, 0, 0, 3, []),
  (340, .iload 3, 78, 0, 0, 0, []),
  (341, .iload 6, 79, 0, 0, 0, []),
  (343, .invokevirtual 0, 80, 120, 4, 0, [0, 0, 0])],
 [(346, .aload 0, 81, 0, 0, 0, []),
  (347, .aload 0, 82, 0, 0, 0, []),
  (348, .getfield 0, 83, 0, 2, 0, []),
  (351, .iconst 0, 84, 0, 0, 2, []),
  (352, .aload 0, 85, 0, 0, 0, []),
  (353, .getfield 0, 86, 0, 3, 0, []),
  (356, .iload 6, 87, 0, 0, 0, []),
  (358, .invokevirtual 0, 88, 120, 4, 0, [0, 0, 0]),
  (361, .iadd, 89, 0, 0, 0, []),
  (362, .ireturn, 90, 0, 0, 0, []),
  (363, .iconst 0, 91, 0, 0, 0, []),
  (364, .aload 0, 92, 0, 0, 0, []),
  (365, .iconst 0, 93, 0, 0, 2, []),
  (366, .iconst 0, 94, 0, 0, 0, []),
  (367, .iload 3, 95, 0, 0, 0, []),
  (368, .iload 6, 96, 0, 0, 0, [])],
 [(370, .invokevirtual 0, 97, 120, 4, 0, [0, 0, 0]),
  (373, .isub, 98, 0, 0, 0, []),
  (374, .ireturn, 99, 0, 0, 0, []),
  (375, .aload 0, 100, 0, 0, 0, []),
  (376, .iconst 0, 101, 0, 0, 2, []),
  (377, .iconst 0, 102, 0, 0, 1, []),
  (378, .iload 3, 103, 0, 0, 0, []),
  (379, .iload 6, 104, 0, 0, 0, []),
  (381, .invokevirtual 0, 105, 120, 4, 0, [0, 0, 0]),
  (384, .aload 0, 106, 0, 0, 0, []),
  (385, .aload 0, 107, 0, 0, 0, []),
  (386, .getfield 0, 108, 0, 2, 0, []),
  (389, .iconst 0, 109, 0, 0, 0, []),
  (390, .aload 0, 110, 0, 0, 0, []),
  (391, .getfield 0, 111, 0, 3, 0, []),
  (394, .iload 6, 112, 0, 0, 0, [])],
 [(396, .invokevirtual 0, 113, 120, 4, 0, [0, 0, 0]),
  (399, .iadd, 114, 0, 0, 0, []),
  (400, .ireturn, 115, 0, 0, 0, []),
  (401, .aload 0, 116, 0, 0, 0, []),
  (402, .iconst 0, 117, 0, 0, 1, []),
  (403, .iconst 0, 118, 0, 0, 2, []),
  (404, .iload 3, 119, 0, 0, 0, []),
  (405, .iconst 0, 120, 0, 0, 2, []),
  (406, .iadd, 121, 0, 0, 0, []),
  (407, .iload 6, 122, 0, 0, 0, []),
  (409, .invokevirtual 0, 123, 120, 4, 0, [0, 0, 0]),
  (412, .iconst 0, 124, 0, 0, 1, []),
  (413, .ixor, 125, 0, 0, 0, []),
  (414, .ireturn, 126, 0, 0, 0, []),
  (415, .aload 0, 127, 0, 0, 0, []),
  (416, .iconst 0, 128, 0, 0, 1, [])],
 [(417, .iconst 0, 129, 0, 0, 0, []),
  (418, .iload 3, 130, 0, 0, 0, []),
  (419, .iload 6, 131, 0, 0, 0, []),
  (421, .invokevirtual 0, 132, 120, 4, 0, [0, 0, 0]),
  (424, .aload 0, 133, 0, 0, 0, []),
  (425, .getfield 0, 134, 0, 3, 0, []),
  (428, .isub, 135, 0, 0, 0, []),
  (429, .ireturn, 136, 0, 0, 0, []),
  (430, .aload 0, 137, 0, 0, 0, []),
  (431, .iconst 0, 138, 0, 0, 0, []),
  (432, .iconst 0, 139, 0, 0, 3, []),
  (433, .iload 3, 140, 0, 0, 0, []),
  (434, .iload 6, 141, 0, 0, 0, []),
  (436, .invokevirtual 0, 142, 120, 4, 0, [0, 0, 0]),
  (439, .iconst 0, 143, 0, 0, 2, []),
  (440, .imul, 144, 0, 0, 0, [])],
 [(441, .ireturn, 145, 0, 0, 0, []),
  (442, .aload 0, 146, 0, 0, 0, []),
  (443, .iconst 0, 147, 0, 0, 0, []),
  (444, .iconst 0, 148, 0, 0, 2, []),
  (445, .iload 3, 149, 0, 0, 0, []),
  (446, .iload 6, 150, 0, 0, 0, []),
  (448, .invokevirtual 0, 151, 120, 4, 0, [0, 0, 0]),
  (451, .aload 0, 152, 0, 0, 0, []),
  (452, .aload 0, 153, 0, 0, 0, []),
  (453, .getfield 0, 154, 0, 2, 0, []),
  (456, .iconst 0, 155, 0, 0, 0, []),
  (457, .aload 0, 156, 0, 0, 0, []),
  (458, .getfield 0, 157, 0, 4, 0, []),
  (461, .iload 6, 158, 0, 0, 0, []),
  (463, .invokevirtual 0, 159, 120, 4, 0, [0, 0, 0]),
  (466, .iadd, 160, 0, 0, 0, [])],
 [(467, .ireturn, 161, 0, 0, 0, []),
  (468, .iconst 0, 162, 0, 0, 0, []),
  (469, .ireturn, 163, 0, 0, 0, [])]]
/-- HatFields$Actor.begin(I)V -/
def hcd121 : hk_Cd := [
 [(0, .aload 0, 1, 0, 0, 0, []),
  (1, .getfield 0, 2, 0, 1, 0, []),
  (4, .iconst 0, 3, 0, 0, 30, []),
  (6, .if_icmp .ge 0, 4, 16, 0, 0, []),
  (9, .aload 0, 5, 0, 0, 0, []),
  (10, .getfield 0, 6, 0, 0, 0, []),
  (13, .aload 0, 7, 0, 0, 0, []),
  (14, .getfield 0, 8, 0, 1, 0, []),
  (17, .iload 1, 9, 0, 0, 0, []),
  (18, .iastore, 10, 0, 0, 0, []),
  (19, .aload 0, 11, 0, 0, 0, []),
  (20, .dup, 12, 0, 0, 0, []),
  (21, .getfield 0, 13, 0, 1, 0, []),
  (24, .iconst 0, 14, 0, 0, 1, []),
  (25, .iadd, 15, 0, 0, 0, []),
  (26, .putfield 0, 16, 0, 1, 0, [0])],
 [(29, .return_, 17, 0, 0, 0, [])]]
/-- HatFields$Actor.share(I)I -/
def hcd122 : hk_Cd := [
 [(0, .aload 0, 1, 0, 0, 0, []),
  (1, .getfield 0, 2, 0, 4, 0, []),
  (4, .aload 0, 3, 0, 0, 0, []),
  (5, .getfield 0, 4, 0, 3, 0, []),
  (8, .isub, 5, 0, 0, 0, []),
  (9, .istore 2, 6, 0, 0, 0, []),
  (10, .iload 2, 7, 0, 0, 0, []),
  (11, .ifCond .ne 0, 8, 13, 0, 0, []),
  (14, .aload 0, 9, 0, 0, 0, []),
  (15, .iconst 0, 10, 0, 0, 1, []),
  (16, .putfield 0, 11, 0, 5, 0, [1]),
  (19, .iconst 0, 12, 0, 0, 0, []),
  (20, .ireturn, 13, 0, 0, 0, []),
  (21, .iload 1, 14, 0, 0, 0, []),
  (22, .iload 2, 15, 0, 0, 0, []),
  (23, .idiv, 16, 0, 0, 0, [])],
 [(24, .ireturn, 17, 0, 0, 0, [])]]
/-- HatFields.trace(I)I -/
def hcd123 : hk_Cd := [
 [(0, .iload 1, 1, 0, 0, 0, []),
  (1, .aload 0, 2, 0, 0, 0, []),
  (2, .getfield 0, 3, 7, 11, 0, []),
  (5, .getfield 0, 4, 0, 1, 0, []),
  (8, .invokestatic 0, 5, 44, 2, 0, [7, 0, 0]),
  (11, .ifCond .eq 0, 6, 12, 0, 0, []),
  (14, .aload 0, 7, 0, 0, 0, []),
  (15, .getfield 0, 8, 7, 11, 0, []),
  (18, .getfield 0, 9, 0, 0, 0, []),
  (21, .iload 1, 10, 0, 0, 0, []),
  (22, .iaload, 11, 0, 0, 0, []),
  (23, .goto 0, 12, 13, 0, 0, []),
  (26, .iconst 0, 13, 0, 0, (-3), []),
  (28, .ireturn, 14, 0, 0, 0, [])]]
/-- HatFields.many(I)I -/
def hcd124 : hk_Cd := [
 [(0, .iload 1, 1, 0, 0, 0, []),
  (1, .tableswitch 0 0 0 #[], 2, 30, 0, 0, [2, 6, 10, 14, 17, 21, 25]),
  (44, .aload 0, 3, 0, 0, 0, []),
  (45, .getfield 0, 4, 7, 0, 0, []),
  (48, .getfield 0, 5, 3, 4, 0, []),
  (51, .ireturn, 6, 0, 0, 0, []),
  (52, .aload 0, 7, 0, 0, 0, []),
  (53, .getfield 0, 8, 7, 0, 0, []),
  (56, .getfield 0, 9, 3, 5, 0, []),
  (59, .ireturn, 10, 0, 0, 0, []),
  (60, .aload 0, 11, 0, 0, 0, []),
  (61, .getfield 0, 12, 7, 0, 0, []),
  (64, .getfield 0, 13, 3, 6, 0, []),
  (67, .ireturn, 14, 0, 0, 0, []),
  (68, .aload 0, 15, 0, 0, 0, []),
  (69, .getfield 0, 16, 7, 8, 0, [])],
 [(72, .ireturn, 17, 0, 0, 0, []),
  (73, .aload 0, 18, 0, 0, 0, []),
  (74, .getfield 0, 19, 7, 6, 0, []),
  (77, .getfield 0, 20, 6, 1, 0, []),
  (80, .ireturn, 21, 0, 0, 0, []),
  (81, .aload 0, 22, 0, 0, 0, []),
  (82, .getfield 0, 23, 7, 11, 0, []),
  (85, .getfield 0, 24, 0, 1, 0, []),
  (88, .ireturn, 25, 0, 0, 0, []),
  (89, .aload 0, 26, 0, 0, 0, []),
  (90, .getfield 0, 27, 7, 0, 0, []),
  (93, .invokevirtual 0, 28, 100, 0, 0, [3, 0, 0]),
  (96, .invokestatic 0, 29, 125, 1, 0, [14, 0, 0]),
  (99, .ireturn, 30, 0, 0, 0, []),
  (100, .iconst 0, 31, 0, 0, (-1), []),
  (101, .ireturn, 32, 0, 0, 0, [])]]
/-- java/lang/Integer.bitCount(I)I -/
def hcd125 : hk_Cd := [
 [(0, .iload 0, 1, 0, 0, 0, []),
  (1, .iload 0, 2, 0, 0, 0, []),
  (2, .iconst 0, 3, 0, 0, 1, []),
  (3, .iushr, 4, 0, 0, 0, []),
  (4, .iconst 0, 5, 0, 0, 1431655765, []),
  (7, .iand, 6, 0, 0, 0, []),
  (8, .isub, 7, 0, 0, 0, []),
  (9, .istore 0, 8, 0, 0, 0, []),
  (10, .iload 0, 9, 0, 0, 0, []),
  (11, .iconst 0, 10, 0, 0, 858993459, []),
  (14, .iand, 11, 0, 0, 0, []),
  (15, .iload 0, 12, 0, 0, 0, []),
  (16, .iconst 0, 13, 0, 0, 2, []),
  (17, .iushr, 14, 0, 0, 0, []),
  (18, .iconst 0, 15, 0, 0, 858993459, []),
  (21, .iand, 16, 0, 0, 0, [])],
 [(22, .iadd, 17, 0, 0, 0, []),
  (23, .istore 0, 18, 0, 0, 0, []),
  (24, .iload 0, 19, 0, 0, 0, []),
  (25, .iload 0, 20, 0, 0, 0, []),
  (26, .iconst 0, 21, 0, 0, 4, []),
  (27, .iushr, 22, 0, 0, 0, []),
  (28, .iadd, 23, 0, 0, 0, []),
  (29, .iconst 0, 24, 0, 0, 252645135, []),
  (32, .iand, 25, 0, 0, 0, []),
  (33, .istore 0, 26, 0, 0, 0, []),
  (34, .iload 0, 27, 0, 0, 0, []),
  (35, .iload 0, 28, 0, 0, 0, []),
  (36, .iconst 0, 29, 0, 0, 8, []),
  (38, .iushr, 30, 0, 0, 0, []),
  (39, .iadd, 31, 0, 0, 0, []),
  (40, .istore 0, 32, 0, 0, 0, [])],
 [(41, .iload 0, 33, 0, 0, 0, []),
  (42, .iload 0, 34, 0, 0, 0, []),
  (43, .iconst 0, 35, 0, 0, 16, []),
  (45, .iushr, 36, 0, 0, 0, []),
  (46, .iadd, 37, 0, 0, 0, []),
  (47, .istore 0, 38, 0, 0, 0, []),
  (48, .iload 0, 39, 0, 0, 0, []),
  (49, .iconst 0, 40, 0, 0, 63, []),
  (51, .iand, 41, 0, 0, 0, []),
  (52, .ireturn, 42, 0, 0, 0, [])]]
/-- HatFields.keep()I -/
def hcd126 : hk_Cd := [
 [(0, .aload 0, 1, 0, 0, 0, []),
  (1, .getfield 0, 2, 7, 2, 0, []),
  (4, .aload 0, 3, 0, 0, 0, []),
  (5, .getfield 0, 4, 7, 0, 0, []),
  (8, .invokevirtual 0, 5, 40, 1, 0, [3, 0, 0]),
  (11, .aload 0, 6, 0, 0, 0, []),
  (12, .aload 0, 7, 0, 0, 0, []),
  (13, .getfield 0, 8, 7, 4, 0, []),
  (16, .putfield 0, 9, 7, 5, 0, [0]),
  (19, .aload 0, 10, 0, 0, 0, []),
  (20, .iconst 0, 11, 0, 0, 1, []),
  (21, .putfield 0, 12, 7, 3, 0, [1]),
  (24, .iconst 0, 13, 0, 0, 1, []),
  (25, .ireturn, 14, 0, 0, 0, [])]]
/-- HatFields.again()I -/
def hcd127 : hk_Cd := [
 [(0, .aload 0, 1, 0, 0, 0, []),
  (1, .getfield 0, 2, 7, 3, 0, []),
  (4, .ifCond .ne 0, 3, 5, 0, 0, []),
  (7, .iconst 0, 4, 0, 0, (-3), []),
  (9, .ireturn, 5, 0, 0, 0, []),
  (10, .aload 0, 6, 0, 0, 0, []),
  (11, .getfield 0, 7, 7, 0, 0, []),
  (14, .aload 0, 8, 0, 0, 0, []),
  (15, .getfield 0, 9, 7, 2, 0, []),
  (18, .invokevirtual 0, 10, 40, 1, 0, [3, 0, 0]),
  (21, .aload 0, 11, 0, 0, 0, []),
  (22, .aload 0, 12, 0, 0, 0, []),
  (23, .getfield 0, 13, 7, 5, 0, []),
  (26, .putfield 0, 14, 7, 4, 0, [0]),
  (29, .aload 0, 15, 0, 0, 0, []),
  (30, .getfield 0, 16, 7, 0, 0, [])],
 [(33, .getfield 0, 17, 3, 6, 0, []),
  (36, .ireturn, 18, 0, 0, 0, [])]]
/-- HatFieldsModel.<init>()V -/
def hcd128 : hk_Cd := [
 [(0, .aload 0, 1, 0, 0, 0, []),
  (1, .invokedynamic 0, 2, 0, 0, 0, []),
  (4, .aload 0, 3, 0, 0, 0, []),
  (5, .iconst 0, 4, 0, 0, 24, []),
  (7, .newarray .int, 5, 10, 0, 0, []),
  (9, .putfield 0, 6, 8, 0, 0, [3]),
  (12, .aload 0, 7, 0, 0, 0, []),
  (13, .iconst 0, 8, 0, 0, 24, []),
  (15, .newarray .int, 9, 10, 0, 0, []),
  (17, .putfield 0, 10, 8, 1, 0, [3]),
  (20, .aload 0, 11, 0, 0, 0, []),
  (21, .iconst 0, 12, 0, 0, 5, []),
  (22, .newarray .int, 13, 10, 0, 0, []),
  (24, .putfield 0, 14, 8, 3, 0, [3]),
  (27, .aload 0, 15, 0, 0, 0, []),
  (28, .iconst 0, 16, 0, 0, 6, [])],
 [(30, .newarray .int, 17, 10, 0, 0, []),
  (32, .putfield 0, 18, 8, 5, 0, [3]),
  (35, .aload 0, 19, 0, 0, 0, []),
  (36, .iconst 0, 20, 0, 0, 6, []),
  (38, .newarray .int, 21, 10, 0, 0, []),
  (40, .putfield 0, 22, 8, 6, 0, [3]),
  (43, .aload 0, 23, 0, 0, 0, []),
  (44, .iconst 0, 24, 0, 0, 6, []),
  (46, .newarray .int, 25, 10, 0, 0, []),
  (48, .putfield 0, 26, 8, 7, 0, [3]),
  (51, .aload 0, 27, 0, 0, 0, []),
  (52, .iconst 0, 28, 0, 0, 36, []),
  (54, .newarray .int, 29, 10, 0, 0, []),
  (56, .putfield 0, 30, 8, 8, 0, [3]),
  (59, .aload 0, 31, 0, 0, 0, []),
  (60, .iconst 0, 32, 0, 0, 1, [])],
 [(61, .putfield 0, 33, 8, 10, 0, [0]),
  (64, .aload 0, 34, 0, 0, 0, []),
  (65, .iconst 0, 35, 0, 0, 200, []),
  (68, .newarray .int, 36, 10, 0, 0, []),
  (70, .putfield 0, 37, 8, 11, 0, [3]),
  (73, .aload 0, 38, 0, 0, 0, []),
  (74, .iconst 0, 39, 0, 0, 5, []),
  (75, .newarray .int, 40, 10, 0, 0, []),
  (77, .putfield 0, 41, 8, 22, 0, [3]),
  (80, .aload 0, 42, 0, 0, 0, []),
  (81, .iconst 0, 43, 0, 0, 5, []),
  (82, .newarray .int, 44, 10, 0, 0, []),
  (84, .putfield 0, 45, 8, 23, 0, [3]),
  (87, .aload 0, 46, 0, 0, 0, []),
  (88, .iconst 0, 47, 0, 0, 6, []),
  (90, .newarray .int, 48, 10, 0, 0, [])],
 [(92, .putfield 0, 49, 8, 24, 0, [3]),
  (95, .aload 0, 50, 0, 0, 0, []),
  (96, .iconst 0, 51, 0, 0, 6, []),
  (98, .newarray .int, 52, 10, 0, 0, []),
  (100, .putfield 0, 53, 8, 25, 0, [3]),
  (103, .aload 0, 54, 0, 0, 0, []),
  (104, .iconst 0, 55, 0, 0, 6, []),
  (106, .newarray .int, 56, 10, 0, 0, []),
  (108, .putfield 0, 57, 8, 26, 0, [3]),
  (111, .aload 0, 58, 0, 0, 0, []),
  (112, .iconst 0, 59, 0, 0, 6, []),
  (114, .newarray .int, 60, 10, 0, 0, []),
  (116, .putfield 0, 61, 8, 27, 0, [3]),
  (119, .aload 0, 62, 0, 0, 0, []),
  (120, .iconst 0, 63, 0, 0, 6, []),
  (122, .newarray .int, 64, 10, 0, 0, [])],
 [(124, .putfield 0, 65, 8, 28, 0, [3]),
  (127, .aload 0, 66, 0, 0, 0, []),
  (128, .iconst 0, 67, 0, 0, 24, []),
  (130, .newarray .int, 68, 10, 0, 0, []),
  (132, .putfield 0, 69, 8, 29, 0, [3]),
  (135, .aload 0, 70, 0, 0, 0, []),
  (136, .iconst 0, 71, 0, 0, 24, []),
  (138, .newarray .int, 72, 10, 0, 0, []),
  (140, .putfield 0, 73, 8, 30, 0, [3]),
  (143, .aload 0, 74, 0, 0, 0, []),
  (144, .iconst 0, 75, 0, 0, 60, []),
  (146, .newarray .int, 76, 10, 0, 0, []),
  (148, .putfield 0, 77, 8, 31, 0, [3]),
  (151, .aload 0, 78, 0, 0, 0, []),
  (152, .iconst 0, 79, 0, 0, 60, []),
  (154, .newarray .int, 80, 10, 0, 0, [])],
 [(156, .putfield 0, 81, 8, 32, 0, [3]),
  (159, .aload 0, 82, 0, 0, 0, []),
  (160, .iconst 0, 83, 0, 0, 4, []),
  (161, .newarray .int, 84, 10, 0, 0, []),
  (163, .dup, 85, 0, 0, 0, []),
  (164, .iconst 0, 86, 0, 0, 0, []),
  (165, .iconst 0, 87, 0, 0, (-1), []),
  (166, .iastore, 88, 0, 0, 0, []),
  (167, .dup, 89, 0, 0, 0, []),
  (168, .iconst 0, 90, 0, 0, 1, []),
  (169, .iconst 0, 91, 0, 0, (-1), []),
  (170, .iastore, 92, 0, 0, 0, []),
  (171, .dup, 93, 0, 0, 0, []),
  (172, .iconst 0, 94, 0, 0, 2, []),
  (173, .iconst 0, 95, 0, 0, (-1), []),
  (174, .iastore, 96, 0, 0, 0, [])],
 [(175, .dup, 97, 0, 0, 0, []),
  (176, .iconst 0, 98, 0, 0, 3, []),
  (177, .iconst 0, 99, 0, 0, (-1), []),
  (178, .iastore, 100, 0, 0, 0, []),
  (179, .putfield 0, 101, 8, 35, 0, [3]),
  (182, .aload 0, 102, 0, 0, 0, []),
  (183, .iconst 0, 103, 0, 0, 4, []),
  (184, .newarray .int, 104, 10, 0, 0, []),
  (186, .putfield 0, 105, 8, 36, 0, [3]),
  (189, .aload 0, 106, 0, 0, 0, []),
  (190, .iconst 0, 107, 0, 0, 160, []),
  (193, .newarray .long, 108, 11, 0, 0, []),
  (195, .putfield 0, 109, 8, 37, 0, [3]),
  (198, .aload 0, 110, 0, 0, 0, []),
  (199, .iconst 0, 111, 0, 0, 4, []),
  (200, .newarray .int, 112, 10, 0, 0, [])],
 [(202, .dup, 113, 0, 0, 0, []),
  (203, .iconst 0, 114, 0, 0, 0, []),
  (204, .iconst 0, 115, 0, 0, (-1), []),
  (205, .iastore, 116, 0, 0, 0, []),
  (206, .dup, 117, 0, 0, 0, []),
  (207, .iconst 0, 118, 0, 0, 1, []),
  (208, .iconst 0, 119, 0, 0, (-1), []),
  (209, .iastore, 120, 0, 0, 0, []),
  (210, .dup, 121, 0, 0, 0, []),
  (211, .iconst 0, 122, 0, 0, 2, []),
  (212, .iconst 0, 123, 0, 0, (-1), []),
  (213, .iastore, 124, 0, 0, 0, []),
  (214, .dup, 125, 0, 0, 0, []),
  (215, .iconst 0, 126, 0, 0, 3, []),
  (216, .iconst 0, 127, 0, 0, (-1), []),
  (217, .iastore, 128, 0, 0, 0, [])],
 [(218, .putfield 0, 129, 8, 38, 0, [3]),
  (221, .aload 0, 130, 0, 0, 0, []),
  (222, .iconst 0, 131, 0, 0, 4, []),
  (223, .newarray .int, 132, 10, 0, 0, []),
  (225, .putfield 0, 133, 8, 39, 0, [3]),
  (228, .aload 0, 134, 0, 0, 0, []),
  (229, .iconst 0, 135, 0, 0, 4, []),
  (230, .newarray .int, 136, 10, 0, 0, []),
  (232, .putfield 0, 137, 8, 40, 0, [3]),
  (235, .aload 0, 138, 0, 0, 0, []),
  (236, .iconst 0, 139, 0, 0, 30, []),
  (238, .newarray .int, 140, 10, 0, 0, []),
  (240, .putfield 0, 141, 8, 44, 0, [3]),
  (243, .aload 0, 142, 0, 0, 0, []),
  (244, .iconst 0, 143, 0, 0, 100, []),
  (246, .newarray .int, 144, 10, 0, 0, [])],
 [(248, .putfield 0, 145, 8, 48, 0, [3]),
  (251, .aload 0, 146, 0, 0, 0, []),
  (252, .iconst 0, 147, 0, 0, 3, []),
  (253, .newarray .int, 148, 10, 0, 0, []),
  (255, .putfield 0, 149, 8, 50, 0, [3]),
  (258, .return_, 150, 0, 0, 0, [])]]
/-- HatFieldsModel.feed(JI)I -/
def hcd129 : hk_Cd := [
 [(0, .iload 3, 1, 0, 0, 0, []),
  (1, .iconst 0, 2, 0, 0, 1, []),
  (2, .iconst 0, 3, 0, 0, 8, []),
  (4, .invokestatic 0, 4, 130, 3, 0, [8, 0, 0]),
  (7, .ifCond .ne 0, 5, 7, 0, 0, []),
  (10, .iconst 0, 6, 0, 0, (-1), []),
  (11, .ireturn, 7, 0, 0, 0, []),
  (12, .aload 0, 8, 0, 0, 0, []),
  (13, .getfield 0, 9, 8, 12, 0, []),
  (16, .iload 3, 10, 0, 0, 0, []),
  (17, .iadd, 11, 0, 0, 0, []),
  (18, .iconst 0, 12, 0, 0, 200, []),
  (21, .if_icmp .le 0, 13, 15, 0, 0, []),
  (24, .iconst 0, 14, 0, 0, (-2), []),
  (26, .ireturn, 15, 0, 0, 0, []),
  (27, .iconst 0, 16, 0, 0, 0, [])],
 [(28, .istore 4, 17, 0, 0, 0, []),
  (30, .iload 4, 18, 0, 0, 0, []),
  (32, .iload 3, 19, 0, 0, 0, []),
  (33, .if_icmp .ge 0, 20, 41, 0, 0, []),
  (36, .aload 0, 21, 0, 0, 0, []),
  (37, .getfield 0, 22, 8, 11, 0, []),
  (40, .aload 0, 23, 0, 0, 0, []),
  (41, .getfield 0, 24, 8, 12, 0, []),
  (44, .lload 1, 25, 0, 0, 0, []),
  (45, .iconst 0, 26, 0, 0, 8, []),
  (47, .iload 4, 27, 0, 0, 0, []),
  (49, .imul, 28, 0, 0, 0, []),
  (50, .lshr, 29, 0, 0, 0, []),
  (51, .lconst 0, 30, 6, 0, 0, []),
  (54, .land, 31, 0, 0, 0, []),
  (55, .l2i, 32, 0, 0, 0, [])],
 [(56, .iastore, 33, 0, 0, 0, []),
  (57, .aload 0, 34, 0, 0, 0, []),
  (58, .dup, 35, 0, 0, 0, []),
  (59, .getfield 0, 36, 8, 12, 0, []),
  (62, .iconst 0, 37, 0, 0, 1, []),
  (63, .iadd, 38, 0, 0, 0, []),
  (64, .putfield 0, 39, 8, 12, 0, [0]),
  (67, .iinc 4 0, 40, 0, 0, 1, []),
  (70, .goto 0, 41, 17, 0, 0, []),
  (73, .aload 0, 42, 0, 0, 0, []),
  (74, .getfield 0, 43, 8, 12, 0, []),
  (77, .ireturn, 44, 0, 0, 0, [])]]
/-- HatFieldsModel.in(III)Z -/
def hcd130 : hk_Cd := [
 [(0, .iload 0, 1, 0, 0, 0, []),
  (1, .iload 1, 2, 0, 0, 0, []),
  (2, .if_icmp .lt 0, 3, 8, 0, 0, []),
  (5, .iload 0, 4, 0, 0, 0, []),
  (6, .iload 2, 5, 0, 0, 0, []),
  (7, .if_icmp .gt 0, 6, 8, 0, 0, []),
  (10, .iconst 0, 7, 0, 0, 1, []),
  (11, .goto 0, 8, 9, 0, 0, []),
  (14, .iconst 0, 9, 0, 0, 0, []),
  (15, .ireturn, 10, 0, 0, 0, [])]]
/-- HatFieldsModel.plain()I -/
def hcd131 : hk_Cd := [
 [(0, .aload 0, 1, 0, 0, 0, []),
  (1, .iconst 0, 2, 0, 0, 0, []),
  (2, .putfield 0, 3, 8, 15, 0, [0]),
  (5, .aload 0, 4, 0, 0, 0, []),
  (6, .iconst 0, 5, 0, 0, 1, []),
  (7, .putfield 0, 6, 8, 18, 0, [1]),
  (10, .aload 0, 7, 0, 0, 0, []),
  (11, .iconst 0, 8, 0, 0, 0, []),
  (12, .putfield 0, 9, 8, 19, 0, [0]),
  (15, .aload 0, 10, 0, 0, 0, []),
  (16, .iconst 0, 11, 0, 0, 0, []),
  (17, .putfield 0, 12, 8, 20, 0, [0]),
  (20, .aload 0, 13, 0, 0, 0, []),
  (21, .iconst 0, 14, 0, 0, 0, []),
  (22, .putfield 0, 15, 8, 21, 0, [0]),
  (25, .iconst 0, 16, 0, 0, 0, [])],
 [(26, .istore 1, 17, 0, 0, 0, []),
  (27, .iload 1, 18, 0, 0, 0, []),
  (28, .iconst 0, 19, 0, 0, 24, []),
  (30, .if_icmp .ge 0, 20, 32, 0, 0, []),
  (33, .aload 0, 21, 0, 0, 0, []),
  (34, .getfield 0, 22, 8, 29, 0, []),
  (37, .iload 1, 23, 0, 0, 0, []),
  (38, .iconst 0, 24, 0, 0, 0, []),
  (39, .iastore, 25, 0, 0, 0, []),
  (40, .aload 0, 26, 0, 0, 0, []),
  (41, .getfield 0, 27, 8, 30, 0, []),
  (44, .iload 1, 28, 0, 0, 0, []),
  (45, .iconst 0, 29, 0, 0, 0, []),
  (46, .iastore, 30, 0, 0, 0, []),
  (47, .iinc 1 0, 31, 0, 0, 1, []),
  (50, .goto 0, 32, 17, 0, 0, [])],
 [(53, .aload 0, 33, 0, 0, 0, []),
  (54, .invokevirtual 0, 34, 132, 0, 0, [8, 0, 0]),
  (57, .aload 0, 35, 0, 0, 0, []),
  (58, .getfield 0, 36, 8, 18, 0, []),
  (61, .ifCond .eq 0, 37, 43, 0, 0, []),
  (64, .aload 0, 38, 0, 0, 0, []),
  (65, .getfield 0, 39, 8, 13, 0, []),
  (68, .ifCond .eq 0, 40, 43, 0, 0, []),
  (71, .aload 0, 41, 0, 0, 0, []),
  (72, .invokevirtual 0, 42, 136, 0, 0, [8, 0, 0]),
  (75, .goto 0, 43, 34, 0, 0, []),
  (78, .aload 0, 44, 0, 0, 0, []),
  (79, .iconst 0, 45, 0, 0, 0, []),
  (80, .putfield 0, 46, 8, 12, 0, [0]),
  (83, .aload 0, 47, 0, 0, 0, []),
  (84, .getfield 0, 48, 8, 18, 0, [])],
 [(87, .ifCond .ne 0, 49, 54, 0, 0, []),
  (90, .iconst 0, 50, 0, 0, (-100), []),
  (92, .aload 0, 51, 0, 0, 0, []),
  (93, .getfield 0, 52, 8, 14, 0, []),
  (96, .isub, 53, 0, 0, 0, []),
  (97, .ireturn, 54, 0, 0, 0, []),
  (98, .aload 0, 55, 0, 0, 0, []),
  (99, .invokevirtual 0, 56, 147, 0, 0, [8, 0, 0]),
  (102, .aload 0, 57, 0, 0, 0, []),
  (103, .iconst 0, 58, 0, 0, 0, []),
  (104, .putfield 0, 59, 8, 33, 0, [0]),
  (107, .aload 0, 60, 0, 0, 0, []),
  (108, .getfield 0, 61, 8, 4, 0, []),
  (111, .ireturn, 62, 0, 0, 0, [])]]
/-- HatFieldsModel.advance()V -/
def hcd132 : hk_Cd := [
 [(0, .aload 0, 1, 0, 0, 0, []),
  (1, .aload 0, 2, 0, 0, 0, []),
  (2, .getfield 0, 3, 8, 15, 0, []),
  (5, .putfield 0, 4, 8, 14, 0, [0]),
  (8, .aload 0, 5, 0, 0, 0, []),
  (9, .aload 0, 6, 0, 0, 0, []),
  (10, .getfield 0, 7, 8, 14, 0, []),
  (13, .invokevirtual 0, 8, 133, 1, 0, [8, 0, 0]),
  (16, .iconst 0, 9, 0, 0, 32, []),
  (18, .if_icmp .ne 0, 10, 17, 0, 0, []),
  (21, .aload 0, 11, 0, 0, 0, []),
  (22, .dup, 12, 0, 0, 0, []),
  (23, .getfield 0, 13, 8, 14, 0, []),
  (26, .iconst 0, 14, 0, 0, 1, []),
  (27, .iadd, 15, 0, 0, 0, []),
  (28, .putfield 0, 16, 8, 14, 0, [0])],
 [(31, .goto 0, 17, 4, 0, 0, []),
  (34, .aload 0, 18, 0, 0, 0, []),
  (35, .aload 0, 19, 0, 0, 0, []),
  (36, .getfield 0, 20, 8, 14, 0, []),
  (39, .putfield 0, 21, 8, 15, 0, [0]),
  (42, .aload 0, 22, 0, 0, 0, []),
  (43, .aload 0, 23, 0, 0, 0, []),
  (44, .getfield 0, 24, 8, 14, 0, []),
  (47, .invokevirtual 0, 25, 133, 1, 0, [8, 0, 0]),
  (50, .istore 1, 26, 0, 0, 0, []),
  (51, .aload 0, 27, 0, 0, 0, []),
  (52, .iload 1, 28, 0, 0, 0, []),
  (53, .ifCond .ge 0, 29, 31, 0, 0, []),
  (56, .iconst 0, 30, 0, 0, 0, []),
  (57, .goto 0, 31, 42, 0, 0, []),
  (60, .iload 1, 32, 0, 0, 0, [])],
 [(61, .invokestatic 0, 33, 134, 1, 0, [8, 0, 0]),
  (64, .ifCond .eq 0, 34, 36, 0, 0, []),
  (67, .iconst 0, 35, 0, 0, 1, []),
  (68, .goto 0, 36, 42, 0, 0, []),
  (71, .iload 1, 37, 0, 0, 0, []),
  (72, .invokestatic 0, 38, 135, 1, 0, [8, 0, 0]),
  (75, .ifCond .eq 0, 39, 41, 0, 0, []),
  (78, .iconst 0, 40, 0, 0, 2, []),
  (79, .goto 0, 41, 42, 0, 0, []),
  (82, .iconst 0, 42, 0, 0, 3, []),
  (83, .putfield 0, 43, 8, 13, 0, [0]),
  (86, .aload 0, 44, 0, 0, 0, []),
  (87, .lconst 0, 45, 0, 0, 0, []),
  (88, .putfield 0, 46, 8, 16, 0, [2]),
  (91, .aload 0, 47, 0, 0, 0, []),
  (92, .aload 0, 48, 0, 0, 0, [])],
 [(93, .getfield 0, 49, 8, 13, 0, []),
  (96, .iconst 0, 50, 0, 0, 2, []),
  (97, .if_icmp .ne 0, 51, 53, 0, 0, []),
  (100, .iconst 0, 52, 0, 0, 0, []),
  (101, .goto 0, 53, 54, 0, 0, []),
  (104, .iload 1, 54, 0, 0, 0, []),
  (105, .putfield 0, 55, 8, 17, 0, [0]),
  (108, .aload 0, 56, 0, 0, 0, []),
  (109, .getfield 0, 57, 8, 13, 0, []),
  (112, .iconst 0, 58, 0, 0, 3, []),
  (113, .if_icmp .ne 0, 59, 65, 0, 0, []),
  (116, .aload 0, 60, 0, 0, 0, []),
  (117, .dup, 61, 0, 0, 0, []),
  (118, .getfield 0, 62, 8, 15, 0, []),
  (121, .iconst 0, 63, 0, 0, 1, []),
  (122, .iadd, 64, 0, 0, 0, [])],
 [(123, .putfield 0, 65, 8, 15, 0, [0]),
  (126, .aload 0, 66, 0, 0, 0, []),
  (127, .getfield 0, 67, 8, 13, 0, []),
  (130, .iconst 0, 68, 0, 0, 1, []),
  (131, .if_icmp .ne 0, 69, 105, 0, 0, []),
  (134, .aload 0, 70, 0, 0, 0, []),
  (135, .aload 0, 71, 0, 0, 0, []),
  (136, .getfield 0, 72, 8, 15, 0, []),
  (139, .invokevirtual 0, 73, 133, 1, 0, [8, 0, 0]),
  (142, .invokestatic 0, 74, 134, 1, 0, [8, 0, 0]),
  (145, .ifCond .eq 0, 75, 105, 0, 0, []),
  (148, .aload 0, 76, 0, 0, 0, []),
  (149, .aload 0, 77, 0, 0, 0, []),
  (150, .getfield 0, 78, 8, 15, 0, []),
  (153, .aload 0, 79, 0, 0, 0, []),
  (154, .getfield 0, 80, 8, 14, 0, [])],
 [(157, .isub, 81, 0, 0, 0, []),
  (158, .iconst 0, 82, 0, 0, 12, []),
  (160, .if_icmp .ge 0, 83, 96, 0, 0, []),
  (163, .lconst 0, 84, 4, 0, 0, []),
  (166, .aload 0, 85, 0, 0, 0, []),
  (167, .getfield 0, 86, 8, 16, 0, []),
  (170, .lmul, 87, 0, 0, 0, []),
  (171, .aload 0, 88, 0, 0, 0, []),
  (172, .aload 0, 89, 0, 0, 0, []),
  (173, .getfield 0, 90, 8, 15, 0, []),
  (176, .invokevirtual 0, 91, 133, 1, 0, [8, 0, 0]),
  (179, .i2l, 92, 0, 0, 0, []),
  (180, .ladd, 93, 0, 0, 0, []),
  (181, .lconst 0, 94, 5, 0, 0, []),
  (184, .lsub, 95, 0, 0, 0, []),
  (185, .goto 0, 96, 97, 0, 0, [])],
 [(188, .lconst 0, 97, 2, 0, 0, []),
  (191, .putfield 0, 98, 8, 16, 0, [2]),
  (194, .aload 0, 99, 0, 0, 0, []),
  (195, .dup, 100, 0, 0, 0, []),
  (196, .getfield 0, 101, 8, 15, 0, []),
  (199, .iconst 0, 102, 0, 0, 1, []),
  (200, .iadd, 103, 0, 0, 0, []),
  (201, .putfield 0, 104, 8, 15, 0, [0]),
  (204, .goto 0, 105, 65, 0, 0, []),
  (207, .aload 0, 106, 0, 0, 0, []),
  (208, .getfield 0, 107, 8, 13, 0, []),
  (211, .iconst 0, 108, 0, 0, 2, []),
  (212, .if_icmp .ne 0, 109, 144, 0, 0, []),
  (215, .aload 0, 110, 0, 0, 0, []),
  (216, .aload 0, 111, 0, 0, 0, []),
  (217, .getfield 0, 112, 8, 15, 0, [])],
 [(220, .invokevirtual 0, 113, 133, 1, 0, [8, 0, 0]),
  (223, .invokestatic 0, 114, 135, 1, 0, [8, 0, 0]),
  (226, .ifCond .eq 0, 115, 144, 0, 0, []),
  (229, .aload 0, 116, 0, 0, 0, []),
  (230, .aload 0, 117, 0, 0, 0, []),
  (231, .getfield 0, 118, 8, 15, 0, []),
  (234, .aload 0, 119, 0, 0, 0, []),
  (235, .getfield 0, 120, 8, 14, 0, []),
  (238, .isub, 121, 0, 0, 0, []),
  (239, .iconst 0, 122, 0, 0, 2, []),
  (240, .if_icmp .ge 0, 123, 135, 0, 0, []),
  (243, .iconst 0, 124, 0, 0, 10, []),
  (245, .aload 0, 125, 0, 0, 0, []),
  (246, .getfield 0, 126, 8, 17, 0, []),
  (249, .imul, 127, 0, 0, 0, []),
  (250, .aload 0, 128, 0, 0, 0, [])],
 [(251, .aload 0, 129, 0, 0, 0, []),
  (252, .getfield 0, 130, 8, 15, 0, []),
  (255, .invokevirtual 0, 131, 133, 1, 0, [8, 0, 0]),
  (258, .iadd, 132, 0, 0, 0, []),
  (259, .iconst 0, 133, 0, 0, 48, []),
  (261, .isub, 134, 0, 0, 0, []),
  (262, .goto 0, 135, 136, 0, 0, []),
  (265, .iconst 0, 136, 0, 0, (-1), []),
  (266, .putfield 0, 137, 8, 17, 0, [0]),
  (269, .aload 0, 138, 0, 0, 0, []),
  (270, .dup, 139, 0, 0, 0, []),
  (271, .getfield 0, 140, 8, 15, 0, []),
  (274, .iconst 0, 141, 0, 0, 1, []),
  (275, .iadd, 142, 0, 0, 0, []),
  (276, .putfield 0, 143, 8, 15, 0, [0]),
  (279, .goto 0, 144, 105, 0, 0, [])],
 [(282, .return_, 145, 0, 0, 0, [])]]
/-- HatFieldsModel.byteAt(I)I -/
def hcd133 : hk_Cd := [
 [(0, .iload 1, 1, 0, 0, 0, []),
  (1, .aload 0, 2, 0, 0, 0, []),
  (2, .getfield 0, 3, 8, 12, 0, []),
  (5, .if_icmp .ge 0, 4, 9, 0, 0, []),
  (8, .aload 0, 5, 0, 0, 0, []),
  (9, .getfield 0, 6, 8, 11, 0, []),
  (12, .iload 1, 7, 0, 0, 0, []),
  (13, .iaload, 8, 0, 0, 0, []),
  (14, .goto 0, 9, 10, 0, 0, []),
  (17, .iconst 0, 10, 0, 0, (-1), []),
  (18, .ireturn, 11, 0, 0, 0, [])]]
/-- HatFieldsModel.isLetter(I)Z -/
def hcd134 : hk_Cd := [
 [(0, .iload 0, 1, 0, 0, 0, []),
  (1, .iconst 0, 2, 0, 0, 97, []),
  (3, .iconst 0, 3, 0, 0, 122, []),
  (5, .invokestatic 0, 4, 130, 3, 0, [8, 0, 0]),
  (8, .ireturn, 5, 0, 0, 0, [])]]
/-- HatFieldsModel.isDigit(I)Z -/
def hcd135 : hk_Cd := [
 [(0, .iload 0, 1, 0, 0, 0, []),
  (1, .iconst 0, 2, 0, 0, 48, []),
  (3, .iconst 0, 3, 0, 0, 57, []),
  (5, .invokestatic 0, 4, 130, 3, 0, [8, 0, 0]),
  (8, .ireturn, 5, 0, 0, 0, [])]]
/-- HatFieldsModel.wantClause()V -/
def hcd136 : hk_Cd := [
 [(0, .aload 0, 1, 0, 0, 0, []),
  (1, .lconst 0, 2, 21, 0, 0, []),
  (4, .invokevirtual 0, 3, 137, 1, 0, [8, 0, 0]),
  (7, .ifCond .eq 0, 4, 7, 0, 0, []),
  (10, .aload 0, 5, 0, 0, 0, []),
  (11, .invokevirtual 0, 6, 138, 0, 0, [8, 0, 0]),
  (14, .goto 0, 7, 40, 0, 0, []),
  (17, .aload 0, 8, 0, 0, 0, []),
  (18, .lconst 0, 9, 15, 0, 0, []),
  (21, .invokevirtual 0, 10, 137, 1, 0, [8, 0, 0]),
  (24, .ifCond .eq 0, 11, 14, 0, 0, []),
  (27, .aload 0, 12, 0, 0, 0, []),
  (28, .invokevirtual 0, 13, 143, 0, 0, [8, 0, 0]),
  (31, .goto 0, 14, 40, 0, 0, []),
  (34, .aload 0, 15, 0, 0, 0, []),
  (35, .lconst 0, 16, 10, 0, 0, [])],
 [(38, .invokevirtual 0, 17, 137, 1, 0, [8, 0, 0]),
  (41, .ifCond .eq 0, 18, 29, 0, 0, []),
  (44, .aload 0, 19, 0, 0, 0, []),
  (45, .invokevirtual 0, 20, 132, 0, 0, [8, 0, 0]),
  (48, .aload 0, 21, 0, 0, 0, []),
  (49, .aload 0, 22, 0, 0, 0, []),
  (50, .iconst 0, 23, 0, 0, 0, []),
  (51, .iconst 0, 24, 0, 0, 96, []),
  (53, .invokevirtual 0, 25, 139, 2, 0, [8, 0, 0]),
  (56, .putfield 0, 26, 8, 21, 0, [0]),
  (59, .aload 0, 27, 0, 0, 0, []),
  (60, .invokevirtual 0, 28, 141, 0, 0, [8, 0, 0]),
  (63, .goto 0, 29, 40, 0, 0, []),
  (66, .aload 0, 30, 0, 0, 0, []),
  (67, .invokevirtual 0, 31, 145, 0, 0, [8, 0, 0]),
  (70, .ifCond .lt 0, 32, 37, 0, 0, [])],
 [(73, .aload 0, 33, 0, 0, 0, []),
  (74, .aload 0, 34, 0, 0, 0, []),
  (75, .invokevirtual 0, 35, 145, 0, 0, [8, 0, 0]),
  (78, .invokevirtual 0, 36, 146, 1, 0, [8, 0, 0]),
  (81, .goto 0, 37, 40, 0, 0, []),
  (84, .aload 0, 38, 0, 0, 0, []),
  (85, .iconst 0, 39, 0, 0, 0, []),
  (86, .putfield 0, 40, 8, 18, 0, [1]),
  (89, .return_, 41, 0, 0, 0, [])]]
/-- HatFieldsModel.isWord(J)Z -/
def hcd137 : hk_Cd := [
 [(0, .aload 0, 1, 0, 0, 0, []),
  (1, .getfield 0, 2, 8, 13, 0, []),
  (4, .iconst 0, 3, 0, 0, 1, []),
  (5, .if_icmp .ne 0, 4, 11, 0, 0, []),
  (8, .aload 0, 5, 0, 0, 0, []),
  (9, .getfield 0, 6, 8, 16, 0, []),
  (12, .lload 1, 7, 0, 0, 0, []),
  (13, .lcmp, 8, 0, 0, 0, []),
  (14, .ifCond .ne 0, 9, 11, 0, 0, []),
  (17, .iconst 0, 10, 0, 0, 1, []),
  (18, .goto 0, 11, 12, 0, 0, []),
  (21, .iconst 0, 12, 0, 0, 0, []),
  (22, .ireturn, 13, 0, 0, 0, [])]]
/-- HatFieldsModel.wantPerson()V -/
def hcd138 : hk_Cd := [
 [(0, .aload 0, 1, 0, 0, 0, []),
  (1, .aload 0, 2, 0, 0, 0, []),
  (2, .getfield 0, 3, 8, 19, 0, []),
  (5, .iconst 0, 4, 0, 0, 5, []),
  (6, .if_icmp .ge 0, 5, 7, 0, 0, []),
  (9, .iconst 0, 6, 0, 0, 1, []),
  (10, .goto 0, 7, 8, 0, 0, []),
  (13, .iconst 0, 8, 0, 0, 0, []),
  (14, .putfield 0, 9, 8, 18, 0, [1]),
  (17, .aload 0, 10, 0, 0, 0, []),
  (18, .getfield 0, 11, 8, 18, 0, []),
  (21, .ifCond .eq 0, 12, 14, 0, 0, []),
  (24, .aload 0, 13, 0, 0, 0, []),
  (25, .invokevirtual 0, 14, 132, 0, 0, [8, 0, 0]),
  (28, .aload 0, 15, 0, 0, 0, []),
  (29, .iconst 0, 16, 0, 0, 0, [])],
 [(30, .iconst 0, 17, 0, 0, 24, []),
  (32, .invokevirtual 0, 18, 139, 2, 0, [8, 0, 0]),
  (35, .istore 1, 19, 0, 0, 0, []),
  (36, .iconst 0, 20, 0, 0, 1, []),
  (37, .istore 2, 21, 0, 0, 0, []),
  (38, .aload 0, 22, 0, 0, 0, []),
  (39, .lconst 0, 23, 18, 0, 0, []),
  (42, .invokevirtual 0, 24, 140, 1, 0, [8, 0, 0]),
  (45, .ifCond .eq 0, 25, 30, 0, 0, []),
  (48, .aload 0, 26, 0, 0, 0, []),
  (49, .iconst 0, 27, 0, 0, 0, []),
  (50, .iconst 0, 28, 0, 0, 3, []),
  (51, .invokevirtual 0, 29, 139, 2, 0, [8, 0, 0]),
  (54, .istore 2, 30, 0, 0, 0, []),
  (55, .aload 0, 31, 0, 0, 0, []),
  (56, .invokevirtual 0, 32, 141, 0, 0, [8, 0, 0])],
 [(59, .aload 0, 33, 0, 0, 0, []),
  (60, .getfield 0, 34, 8, 18, 0, []),
  (63, .ifCond .eq 0, 35, 53, 0, 0, []),
  (66, .aload 0, 36, 0, 0, 0, []),
  (67, .getfield 0, 37, 8, 22, 0, []),
  (70, .aload 0, 38, 0, 0, 0, []),
  (71, .getfield 0, 39, 8, 19, 0, []),
  (74, .iload 1, 40, 0, 0, 0, []),
  (75, .iastore, 41, 0, 0, 0, []),
  (76, .aload 0, 42, 0, 0, 0, []),
  (77, .getfield 0, 43, 8, 23, 0, []),
  (80, .aload 0, 44, 0, 0, 0, []),
  (81, .getfield 0, 45, 8, 19, 0, []),
  (84, .iload 2, 46, 0, 0, 0, []),
  (85, .iastore, 47, 0, 0, 0, []),
  (86, .aload 0, 48, 0, 0, 0, [])],
 [(87, .dup, 49, 0, 0, 0, []),
  (88, .getfield 0, 50, 8, 19, 0, []),
  (91, .iconst 0, 51, 0, 0, 1, []),
  (92, .iadd, 52, 0, 0, 0, []),
  (93, .putfield 0, 53, 8, 19, 0, [0]),
  (96, .return_, 54, 0, 0, 0, [])]]
/-- HatFieldsModel.wantNumber(II)I -/
def hcd139 : hk_Cd := [
 [(0, .aload 0, 1, 0, 0, 0, []),
  (1, .getfield 0, 2, 8, 17, 0, []),
  (4, .istore 3, 3, 0, 0, 0, []),
  (5, .aload 0, 4, 0, 0, 0, []),
  (6, .aload 0, 5, 0, 0, 0, []),
  (7, .getfield 0, 6, 8, 18, 0, []),
  (10, .ifCond .eq 0, 7, 18, 0, 0, []),
  (13, .aload 0, 8, 0, 0, 0, []),
  (14, .getfield 0, 9, 8, 13, 0, []),
  (17, .iconst 0, 10, 0, 0, 2, []),
  (18, .if_icmp .ne 0, 11, 18, 0, 0, []),
  (21, .iload 3, 12, 0, 0, 0, []),
  (22, .iload 1, 13, 0, 0, 0, []),
  (23, .iload 2, 14, 0, 0, 0, []),
  (24, .invokestatic 0, 15, 130, 3, 0, [8, 0, 0]),
  (27, .ifCond .eq 0, 16, 18, 0, 0, [])],
 [(30, .iconst 0, 17, 0, 0, 1, []),
  (31, .goto 0, 18, 19, 0, 0, []),
  (34, .iconst 0, 19, 0, 0, 0, []),
  (35, .putfield 0, 20, 8, 18, 0, [1]),
  (38, .aload 0, 21, 0, 0, 0, []),
  (39, .getfield 0, 22, 8, 18, 0, []),
  (42, .ifCond .eq 0, 23, 25, 0, 0, []),
  (45, .aload 0, 24, 0, 0, 0, []),
  (46, .invokevirtual 0, 25, 132, 0, 0, [8, 0, 0]),
  (49, .iload 3, 26, 0, 0, 0, []),
  (50, .ireturn, 27, 0, 0, 0, [])]]
/-- HatFieldsModel.takes(J)Z -/
def hcd140 : hk_Cd := [
 [(0, .aload 0, 1, 0, 0, 0, []),
  (1, .getfield 0, 2, 8, 18, 0, []),
  (4, .ifCond .eq 0, 3, 9, 0, 0, []),
  (7, .aload 0, 4, 0, 0, 0, []),
  (8, .lload 1, 5, 0, 0, 0, []),
  (9, .invokevirtual 0, 6, 137, 1, 0, [8, 0, 0]),
  (12, .ifCond .eq 0, 7, 9, 0, 0, []),
  (15, .iconst 0, 8, 0, 0, 1, []),
  (16, .goto 0, 9, 10, 0, 0, []),
  (19, .iconst 0, 10, 0, 0, 0, []),
  (20, .istore 3, 11, 0, 0, 0, []),
  (21, .iload 3, 12, 0, 0, 0, []),
  (22, .ifCond .eq 0, 13, 15, 0, 0, []),
  (25, .aload 0, 14, 0, 0, 0, []),
  (26, .invokevirtual 0, 15, 132, 0, 0, [8, 0, 0]),
  (29, .iload 3, 16, 0, 0, 0, [])],
 [(30, .ireturn, 17, 0, 0, 0, [])]]
/-- HatFieldsModel.wantEnd()V -/
def hcd141 : hk_Cd := [
 [(0, .aload 0, 1, 0, 0, 0, []),
  (1, .aload 0, 2, 0, 0, 0, []),
  (2, .getfield 0, 3, 8, 18, 0, []),
  (5, .ifCond .eq 0, 4, 10, 0, 0, []),
  (8, .aload 0, 5, 0, 0, 0, []),
  (9, .iconst 0, 6, 0, 0, 59, []),
  (11, .invokevirtual 0, 7, 142, 1, 0, [8, 0, 0]),
  (14, .ifCond .eq 0, 8, 10, 0, 0, []),
  (17, .iconst 0, 9, 0, 0, 1, []),
  (18, .goto 0, 10, 11, 0, 0, []),
  (21, .iconst 0, 11, 0, 0, 0, []),
  (22, .putfield 0, 12, 8, 18, 0, [1]),
  (25, .aload 0, 13, 0, 0, 0, []),
  (26, .getfield 0, 14, 8, 18, 0, []),
  (29, .ifCond .eq 0, 15, 17, 0, 0, []),
  (32, .aload 0, 16, 0, 0, 0, [])],
 [(33, .invokevirtual 0, 17, 132, 0, 0, [8, 0, 0]),
  (36, .return_, 18, 0, 0, 0, [])]]
/-- HatFieldsModel.isMark(I)Z -/
def hcd142 : hk_Cd := [
 [(0, .aload 0, 1, 0, 0, 0, []),
  (1, .getfield 0, 2, 8, 13, 0, []),
  (4, .iconst 0, 3, 0, 0, 3, []),
  (5, .if_icmp .ne 0, 4, 10, 0, 0, []),
  (8, .aload 0, 5, 0, 0, 0, []),
  (9, .getfield 0, 6, 8, 17, 0, []),
  (12, .iload 1, 7, 0, 0, 0, []),
  (13, .if_icmp .ne 0, 8, 10, 0, 0, []),
  (16, .iconst 0, 9, 0, 0, 1, []),
  (17, .goto 0, 10, 11, 0, 0, []),
  (20, .iconst 0, 11, 0, 0, 0, []),
  (21, .ireturn, 12, 0, 0, 0, [])]]
/-- HatFieldsModel.wantWind()V -/
def hcd143 : hk_Cd := [
 [(0, .aload 0, 1, 0, 0, 0, []),
  (1, .invokevirtual 0, 2, 132, 0, 0, [8, 0, 0]),
  (4, .aload 0, 3, 0, 0, 0, []),
  (5, .iconst 0, 4, 0, 0, 0, []),
  (6, .iconst 0, 5, 0, 0, 23, []),
  (8, .invokevirtual 0, 6, 139, 2, 0, [8, 0, 0]),
  (11, .istore 1, 7, 0, 0, 0, []),
  (12, .aload 0, 8, 0, 0, 0, []),
  (13, .getfield 0, 9, 8, 18, 0, []),
  (16, .ifCond .eq 0, 10, 13, 0, 0, []),
  (19, .aload 0, 11, 0, 0, 0, []),
  (20, .invokevirtual 0, 12, 144, 0, 0, [8, 0, 0]),
  (23, .goto 0, 13, 14, 0, 0, []),
  (26, .iconst 0, 14, 0, 0, (-1), []),
  (27, .istore 2, 15, 0, 0, 0, []),
  (28, .aload 0, 16, 0, 0, 0, [])],
 [(29, .aload 0, 17, 0, 0, 0, []),
  (30, .getfield 0, 18, 8, 18, 0, []),
  (33, .ifCond .eq 0, 19, 23, 0, 0, []),
  (36, .iload 2, 20, 0, 0, 0, []),
  (37, .ifCond .lt 0, 21, 23, 0, 0, []),
  (40, .iconst 0, 22, 0, 0, 1, []),
  (41, .goto 0, 23, 24, 0, 0, []),
  (44, .iconst 0, 24, 0, 0, 0, []),
  (45, .putfield 0, 25, 8, 18, 0, [1]),
  (48, .aload 0, 26, 0, 0, 0, []),
  (49, .getfield 0, 27, 8, 18, 0, []),
  (52, .ifCond .eq 0, 28, 30, 0, 0, []),
  (55, .aload 0, 29, 0, 0, 0, []),
  (56, .invokevirtual 0, 30, 132, 0, 0, [8, 0, 0]),
  (59, .aload 0, 31, 0, 0, 0, []),
  (60, .iconst 0, 32, 0, 0, 0, [])],
 [(61, .iconst 0, 33, 0, 0, 9, []),
  (63, .invokevirtual 0, 34, 139, 2, 0, [8, 0, 0]),
  (66, .istore 3, 35, 0, 0, 0, []),
  (67, .aload 0, 36, 0, 0, 0, []),
  (68, .invokevirtual 0, 37, 141, 0, 0, [8, 0, 0]),
  (71, .aload 0, 38, 0, 0, 0, []),
  (72, .getfield 0, 39, 8, 18, 0, []),
  (75, .ifCond .eq 0, 40, 50, 0, 0, []),
  (78, .aload 0, 41, 0, 0, 0, []),
  (79, .getfield 0, 42, 8, 29, 0, []),
  (82, .iload 1, 43, 0, 0, 0, []),
  (83, .iload 2, 44, 0, 0, 0, []),
  (84, .iastore, 45, 0, 0, 0, []),
  (85, .aload 0, 46, 0, 0, 0, []),
  (86, .getfield 0, 47, 8, 30, 0, []),
  (89, .iload 1, 48, 0, 0, 0, [])],
 [(90, .iload 3, 49, 0, 0, 0, []),
  (91, .iastore, 50, 0, 0, 0, []),
  (92, .return_, 51, 0, 0, 0, [])]]
/-- HatFieldsModel.directionHere()I -/
def hcd144 : hk_Cd := [
 [(0, .aload 0, 1, 0, 0, 0, []),
  (1, .lconst 0, 2, 16, 0, 0, []),
  (4, .invokevirtual 0, 3, 137, 1, 0, [8, 0, 0]),
  (7, .ifCond .eq 0, 4, 6, 0, 0, []),
  (10, .iconst 0, 5, 0, 0, 0, []),
  (11, .goto 0, 6, 25, 0, 0, []),
  (14, .aload 0, 7, 0, 0, 0, []),
  (15, .lconst 0, 8, 11, 0, 0, []),
  (18, .invokevirtual 0, 9, 137, 1, 0, [8, 0, 0]),
  (21, .ifCond .eq 0, 10, 12, 0, 0, []),
  (24, .iconst 0, 11, 0, 0, 1, []),
  (25, .goto 0, 12, 25, 0, 0, []),
  (28, .aload 0, 13, 0, 0, 0, []),
  (29, .lconst 0, 14, 17, 0, 0, []),
  (32, .invokevirtual 0, 15, 137, 1, 0, [8, 0, 0]),
  (35, .ifCond .eq 0, 16, 18, 0, 0, [])],
 [(38, .iconst 0, 17, 0, 0, 2, []),
  (39, .goto 0, 18, 25, 0, 0, []),
  (42, .aload 0, 19, 0, 0, 0, []),
  (43, .lconst 0, 20, 14, 0, 0, []),
  (46, .invokevirtual 0, 21, 137, 1, 0, [8, 0, 0]),
  (49, .ifCond .eq 0, 22, 24, 0, 0, []),
  (52, .iconst 0, 23, 0, 0, 3, []),
  (53, .goto 0, 24, 25, 0, 0, []),
  (56, .iconst 0, 25, 0, 0, (-1), []),
  (57, .ireturn, 26, 0, 0, 0, [])]]
/-- HatFieldsModel.kindHere()I -/
def hcd145 : hk_Cd := [
 [(0, .aload 0, 1, 0, 0, 0, []),
  (1, .lconst 0, 2, 9, 0, 0, []),
  (4, .invokevirtual 0, 3, 137, 1, 0, [8, 0, 0]),
  (7, .ifCond .eq 0, 4, 6, 0, 0, []),
  (10, .iconst 0, 5, 0, 0, 0, []),
  (11, .goto 0, 6, 37, 0, 0, []),
  (14, .aload 0, 7, 0, 0, 0, []),
  (15, .lconst 0, 8, 22, 0, 0, []),
  (18, .invokevirtual 0, 9, 137, 1, 0, [8, 0, 0]),
  (21, .ifCond .eq 0, 10, 12, 0, 0, []),
  (24, .iconst 0, 11, 0, 0, 1, []),
  (25, .goto 0, 12, 37, 0, 0, []),
  (28, .aload 0, 13, 0, 0, 0, []),
  (29, .lconst 0, 14, 19, 0, 0, []),
  (32, .invokevirtual 0, 15, 137, 1, 0, [8, 0, 0]),
  (35, .ifCond .eq 0, 16, 18, 0, 0, [])],
 [(38, .iconst 0, 17, 0, 0, 2, []),
  (39, .goto 0, 18, 37, 0, 0, []),
  (42, .aload 0, 19, 0, 0, 0, []),
  (43, .lconst 0, 20, 13, 0, 0, []),
  (46, .invokevirtual 0, 21, 137, 1, 0, [8, 0, 0]),
  (49, .ifCond .eq 0, 22, 24, 0, 0, []),
  (52, .iconst 0, 23, 0, 0, 3, []),
  (53, .goto 0, 24, 37, 0, 0, []),
  (56, .aload 0, 25, 0, 0, 0, []),
  (57, .lconst 0, 26, 24, 0, 0, []),
  (60, .invokevirtual 0, 27, 137, 1, 0, [8, 0, 0]),
  (63, .ifCond .eq 0, 28, 30, 0, 0, []),
  (66, .iconst 0, 29, 0, 0, 4, []),
  (67, .goto 0, 30, 37, 0, 0, []),
  (70, .aload 0, 31, 0, 0, 0, []),
  (71, .lconst 0, 32, 12, 0, 0, [])],
 [(74, .invokevirtual 0, 33, 137, 1, 0, [8, 0, 0]),
  (77, .ifCond .eq 0, 34, 36, 0, 0, []),
  (80, .iconst 0, 35, 0, 0, 5, []),
  (81, .goto 0, 36, 37, 0, 0, []),
  (84, .iconst 0, 37, 0, 0, (-1), []),
  (85, .ireturn, 38, 0, 0, 0, [])]]
/-- HatFieldsModel.wantHat(I)V -/
def hcd146 : hk_Cd := [
 [(0, .aload 0, 1, 0, 0, 0, []),
  (1, .aload 0, 2, 0, 0, 0, []),
  (2, .getfield 0, 3, 8, 20, 0, []),
  (5, .iconst 0, 4, 0, 0, 6, []),
  (7, .if_icmp .ge 0, 5, 7, 0, 0, []),
  (10, .iconst 0, 6, 0, 0, 1, []),
  (11, .goto 0, 7, 8, 0, 0, []),
  (14, .iconst 0, 8, 0, 0, 0, []),
  (15, .putfield 0, 9, 8, 18, 0, [1]),
  (18, .aload 0, 10, 0, 0, 0, []),
  (19, .getfield 0, 11, 8, 18, 0, []),
  (22, .ifCond .eq 0, 12, 14, 0, 0, []),
  (25, .aload 0, 13, 0, 0, 0, []),
  (26, .invokevirtual 0, 14, 132, 0, 0, [8, 0, 0]),
  (29, .aload 0, 15, 0, 0, 0, []),
  (30, .iconst 0, 16, 0, 0, 0, [])],
 [(31, .iconst 0, 17, 0, 0, 9, []),
  (33, .invokevirtual 0, 18, 139, 2, 0, [8, 0, 0]),
  (36, .istore 2, 19, 0, 0, 0, []),
  (37, .aload 0, 20, 0, 0, 0, []),
  (38, .aload 0, 21, 0, 0, 0, []),
  (39, .getfield 0, 22, 8, 18, 0, []),
  (42, .ifCond .eq 0, 23, 29, 0, 0, []),
  (45, .aload 0, 24, 0, 0, 0, []),
  (46, .lconst 0, 25, 20, 0, 0, []),
  (49, .invokevirtual 0, 26, 137, 1, 0, [8, 0, 0]),
  (52, .ifCond .eq 0, 27, 29, 0, 0, []),
  (55, .iconst 0, 28, 0, 0, 1, []),
  (56, .goto 0, 29, 30, 0, 0, []),
  (59, .iconst 0, 30, 0, 0, 0, []),
  (60, .putfield 0, 31, 8, 18, 0, [1]),
  (63, .aload 0, 32, 0, 0, 0, [])],
 [(64, .getfield 0, 33, 8, 18, 0, []),
  (67, .ifCond .eq 0, 34, 36, 0, 0, []),
  (70, .aload 0, 35, 0, 0, 0, []),
  (71, .invokevirtual 0, 36, 132, 0, 0, [8, 0, 0]),
  (74, .aload 0, 37, 0, 0, 0, []),
  (75, .iconst 0, 38, 0, 0, 0, []),
  (76, .iconst 0, 39, 0, 0, 99, []),
  (78, .invokevirtual 0, 40, 139, 2, 0, [8, 0, 0]),
  (81, .istore 3, 41, 0, 0, 0, []),
  (82, .iconst 0, 42, 0, 0, (-1), []),
  (83, .istore 4, 43, 0, 0, 0, []),
  (85, .iconst 0, 44, 0, 0, (-1), []),
  (86, .istore 5, 45, 0, 0, 0, []),
  (88, .aload 0, 46, 0, 0, 0, []),
  (89, .lconst 0, 47, 8, 0, 0, []),
  (92, .invokevirtual 0, 48, 140, 1, 0, [8, 0, 0])],
 [(95, .ifCond .eq 0, 49, 55, 0, 0, []),
  (98, .aload 0, 50, 0, 0, 0, []),
  (99, .iconst 0, 51, 0, 0, 0, []),
  (100, .iconst 0, 52, 0, 0, 24, []),
  (102, .invokevirtual 0, 53, 139, 2, 0, [8, 0, 0]),
  (105, .istore 4, 54, 0, 0, 0, []),
  (107, .goto 0, 55, 80, 0, 0, []),
  (110, .aload 0, 56, 0, 0, 0, []),
  (111, .aload 0, 57, 0, 0, 0, []),
  (112, .getfield 0, 58, 8, 18, 0, []),
  (115, .ifCond .eq 0, 59, 65, 0, 0, []),
  (118, .aload 0, 60, 0, 0, 0, []),
  (119, .lconst 0, 61, 7, 0, 0, []),
  (122, .invokevirtual 0, 62, 137, 1, 0, [8, 0, 0]),
  (125, .ifCond .eq 0, 63, 65, 0, 0, []),
  (128, .iconst 0, 64, 0, 0, 1, [])],
 [(129, .goto 0, 65, 66, 0, 0, []),
  (132, .iconst 0, 66, 0, 0, 0, []),
  (133, .putfield 0, 67, 8, 18, 0, [1]),
  (136, .aload 0, 68, 0, 0, 0, []),
  (137, .getfield 0, 69, 8, 18, 0, []),
  (140, .ifCond .eq 0, 70, 72, 0, 0, []),
  (143, .aload 0, 71, 0, 0, 0, []),
  (144, .invokevirtual 0, 72, 132, 0, 0, [8, 0, 0]),
  (147, .aload 0, 73, 0, 0, 0, []),
  (148, .iconst 0, 74, 0, 0, 0, []),
  (149, .aload 0, 75, 0, 0, 0, []),
  (150, .getfield 0, 76, 8, 19, 0, []),
  (153, .iconst 0, 77, 0, 0, 1, []),
  (154, .isub, 78, 0, 0, 0, []),
  (155, .invokevirtual 0, 79, 139, 2, 0, [8, 0, 0]),
  (158, .istore 5, 80, 0, 0, 0, [])],
 [(160, .aload 0, 81, 0, 0, 0, []),
  (161, .invokevirtual 0, 82, 141, 0, 0, [8, 0, 0]),
  (164, .aload 0, 83, 0, 0, 0, []),
  (165, .getfield 0, 84, 8, 18, 0, []),
  (168, .ifCond .eq 0, 85, 121, 0, 0, []),
  (171, .aload 0, 86, 0, 0, 0, []),
  (172, .getfield 0, 87, 8, 24, 0, []),
  (175, .aload 0, 88, 0, 0, 0, []),
  (176, .getfield 0, 89, 8, 20, 0, []),
  (179, .iload 1, 90, 0, 0, 0, []),
  (180, .iastore, 91, 0, 0, 0, []),
  (181, .aload 0, 92, 0, 0, 0, []),
  (182, .getfield 0, 93, 8, 25, 0, []),
  (185, .aload 0, 94, 0, 0, 0, []),
  (186, .getfield 0, 95, 8, 20, 0, []),
  (189, .iload 2, 96, 0, 0, 0, [])],
 [(190, .iastore, 97, 0, 0, 0, []),
  (191, .aload 0, 98, 0, 0, 0, []),
  (192, .getfield 0, 99, 8, 26, 0, []),
  (195, .aload 0, 100, 0, 0, 0, []),
  (196, .getfield 0, 101, 8, 20, 0, []),
  (199, .iload 3, 102, 0, 0, 0, []),
  (200, .iastore, 103, 0, 0, 0, []),
  (201, .aload 0, 104, 0, 0, 0, []),
  (202, .getfield 0, 105, 8, 27, 0, []),
  (205, .aload 0, 106, 0, 0, 0, []),
  (206, .getfield 0, 107, 8, 20, 0, []),
  (209, .iload 5, 108, 0, 0, 0, []),
  (211, .iastore, 109, 0, 0, 0, []),
  (212, .aload 0, 110, 0, 0, 0, []),
  (213, .getfield 0, 111, 8, 28, 0, []),
  (216, .aload 0, 112, 0, 0, 0, [])],
 [(217, .getfield 0, 113, 8, 20, 0, []),
  (220, .iload 4, 114, 0, 0, 0, []),
  (222, .iastore, 115, 0, 0, 0, []),
  (223, .aload 0, 116, 0, 0, 0, []),
  (224, .dup, 117, 0, 0, 0, []),
  (225, .getfield 0, 118, 8, 20, 0, []),
  (228, .iconst 0, 119, 0, 0, 1, []),
  (229, .iadd, 120, 0, 0, 0, []),
  (230, .putfield 0, 121, 8, 20, 0, [0]),
  (233, .return_, 122, 0, 0, 0, [])]]
/-- HatFieldsModel.turnsInto()V -/
def hcd147 : hk_Cd := [
 [(0, .aload 0, 1, 0, 0, 0, []),
  (1, .aload 0, 2, 0, 0, 0, []),
  (2, .getfield 0, 3, 8, 19, 0, []),
  (5, .putfield 0, 4, 8, 2, 0, [0]),
  (8, .aload 0, 5, 0, 0, 0, []),
  (9, .aload 0, 6, 0, 0, 0, []),
  (10, .getfield 0, 7, 8, 20, 0, []),
  (13, .putfield 0, 8, 8, 4, 0, [0]),
  (16, .aload 0, 9, 0, 0, 0, []),
  (17, .getfield 0, 10, 8, 8, 0, []),
  (20, .iconst 0, 11, 0, 0, 0, []),
  (21, .aload 0, 12, 0, 0, 0, []),
  (22, .getfield 0, 13, 8, 21, 0, []),
  (25, .iastore, 14, 0, 0, 0, []),
  (26, .iconst 0, 15, 0, 0, 0, []),
  (27, .istore 1, 16, 0, 0, 0, [])],
 [(28, .iload 1, 17, 0, 0, 0, []),
  (29, .iconst 0, 18, 0, 0, 24, []),
  (31, .if_icmp .ge 0, 19, 37, 0, 0, []),
  (34, .aload 0, 20, 0, 0, 0, []),
  (35, .getfield 0, 21, 8, 0, 0, []),
  (38, .iload 1, 22, 0, 0, 0, []),
  (39, .aload 0, 23, 0, 0, 0, []),
  (40, .getfield 0, 24, 8, 29, 0, []),
  (43, .iload 1, 25, 0, 0, 0, []),
  (44, .iaload, 26, 0, 0, 0, []),
  (45, .iastore, 27, 0, 0, 0, []),
  (46, .aload 0, 28, 0, 0, 0, []),
  (47, .getfield 0, 29, 8, 1, 0, []),
  (50, .iload 1, 30, 0, 0, 0, []),
  (51, .aload 0, 31, 0, 0, 0, []),
  (52, .getfield 0, 32, 8, 30, 0, [])],
 [(55, .iload 1, 33, 0, 0, 0, []),
  (56, .iaload, 34, 0, 0, 0, []),
  (57, .iastore, 35, 0, 0, 0, []),
  (58, .iinc 1 0, 36, 0, 0, 1, []),
  (61, .goto 0, 37, 16, 0, 0, []),
  (64, .iconst 0, 38, 0, 0, 0, []),
  (65, .istore 1, 39, 0, 0, 0, []),
  (66, .iload 1, 40, 0, 0, 0, []),
  (67, .iconst 0, 41, 0, 0, 5, []),
  (68, .if_icmp .ge 0, 42, 62, 0, 0, []),
  (71, .aload 0, 43, 0, 0, 0, []),
  (72, .getfield 0, 44, 8, 8, 0, []),
  (75, .iconst 0, 45, 0, 0, 1, []),
  (76, .iload 1, 46, 0, 0, 0, []),
  (77, .iadd, 47, 0, 0, 0, []),
  (78, .aload 0, 48, 0, 0, 0, [])],
 [(79, .getfield 0, 49, 8, 22, 0, []),
  (82, .iload 1, 50, 0, 0, 0, []),
  (83, .iaload, 51, 0, 0, 0, []),
  (84, .iastore, 52, 0, 0, 0, []),
  (85, .aload 0, 53, 0, 0, 0, []),
  (86, .getfield 0, 54, 8, 3, 0, []),
  (89, .iload 1, 55, 0, 0, 0, []),
  (90, .aload 0, 56, 0, 0, 0, []),
  (91, .getfield 0, 57, 8, 23, 0, []),
  (94, .iload 1, 58, 0, 0, 0, []),
  (95, .iaload, 59, 0, 0, 0, []),
  (96, .iastore, 60, 0, 0, 0, []),
  (97, .iinc 1 0, 61, 0, 0, 1, []),
  (100, .goto 0, 62, 39, 0, 0, []),
  (103, .iconst 0, 63, 0, 0, 0, []),
  (104, .istore 1, 64, 0, 0, 0, [])],
 [(105, .iload 1, 65, 0, 0, 0, []),
  (106, .iconst 0, 66, 0, 0, 6, []),
  (108, .if_icmp .ge 0, 67, 113, 0, 0, []),
  (111, .aload 0, 68, 0, 0, 0, []),
  (112, .getfield 0, 69, 8, 5, 0, []),
  (115, .iload 1, 70, 0, 0, 0, []),
  (116, .aload 0, 71, 0, 0, 0, []),
  (117, .getfield 0, 72, 8, 24, 0, []),
  (120, .iload 1, 73, 0, 0, 0, []),
  (121, .iaload, 74, 0, 0, 0, []),
  (122, .iastore, 75, 0, 0, 0, []),
  (123, .aload 0, 76, 0, 0, 0, []),
  (124, .getfield 0, 77, 8, 6, 0, []),
  (127, .iload 1, 78, 0, 0, 0, []),
  (128, .aload 0, 79, 0, 0, 0, []),
  (129, .getfield 0, 80, 8, 25, 0, [])],
 [(132, .iload 1, 81, 0, 0, 0, []),
  (133, .iaload, 82, 0, 0, 0, []),
  (134, .iastore, 83, 0, 0, 0, []),
  (135, .aload 0, 84, 0, 0, 0, []),
  (136, .getfield 0, 85, 8, 7, 0, []),
  (139, .iload 1, 86, 0, 0, 0, []),
  (140, .aload 0, 87, 0, 0, 0, []),
  (141, .getfield 0, 88, 8, 26, 0, []),
  (144, .iload 1, 89, 0, 0, 0, []),
  (145, .iaload, 90, 0, 0, 0, []),
  (146, .iastore, 91, 0, 0, 0, []),
  (147, .aload 0, 92, 0, 0, 0, []),
  (148, .getfield 0, 93, 8, 8, 0, []),
  (151, .iconst 0, 94, 0, 0, 6, []),
  (153, .iload 1, 95, 0, 0, 0, []),
  (154, .iadd, 96, 0, 0, 0, [])],
 [(155, .aload 0, 97, 0, 0, 0, []),
  (156, .getfield 0, 98, 8, 27, 0, []),
  (159, .iload 1, 99, 0, 0, 0, []),
  (160, .iaload, 100, 0, 0, 0, []),
  (161, .iastore, 101, 0, 0, 0, []),
  (162, .aload 0, 102, 0, 0, 0, []),
  (163, .getfield 0, 103, 8, 8, 0, []),
  (166, .iconst 0, 104, 0, 0, 12, []),
  (168, .iload 1, 105, 0, 0, 0, []),
  (169, .iadd, 106, 0, 0, 0, []),
  (170, .aload 0, 107, 0, 0, 0, []),
  (171, .getfield 0, 108, 8, 28, 0, []),
  (174, .iload 1, 109, 0, 0, 0, []),
  (175, .iaload, 110, 0, 0, 0, []),
  (176, .iastore, 111, 0, 0, 0, []),
  (177, .iinc 1 0, 112, 0, 0, 1, [])],
 [(180, .goto 0, 113, 64, 0, 0, []),
  (183, .return_, 114, 0, 0, 0, [])]]
/-- HatFieldsModel.windOf(I)I -/
def hcd148 : hk_Cd := [
 [(0, .iload 1, 1, 0, 0, 0, []),
  (1, .invokestatic 0, 2, 149, 1, 0, [8, 0, 0]),
  (4, .ifCond .eq 0, 3, 15, 0, 0, []),
  (7, .iconst 0, 4, 0, 0, 10, []),
  (9, .aload 0, 5, 0, 0, 0, []),
  (10, .getfield 0, 6, 8, 0, 0, []),
  (13, .iload 1, 7, 0, 0, 0, []),
  (14, .iaload, 8, 0, 0, 0, []),
  (15, .imul, 9, 0, 0, 0, []),
  (16, .aload 0, 10, 0, 0, 0, []),
  (17, .getfield 0, 11, 8, 1, 0, []),
  (20, .iload 1, 12, 0, 0, 0, []),
  (21, .iaload, 13, 0, 0, 0, []),
  (22, .iadd, 14, 0, 0, 0, []),
  (23, .goto 0, 15, 16, 0, 0, []),
  (26, .iconst 0, 16, 0, 0, (-1), [])],
 [(27, .ireturn, 17, 0, 0, 0, [])]]
/-- HatFieldsModel.isHour(I)Z -/
def hcd149 : hk_Cd := [
 [(0, .iload 0, 1, 0, 0, 0, []),
  (1, .iconst 0, 2, 0, 0, 0, []),
  (2, .iconst 0, 3, 0, 0, 23, []),
  (4, .invokestatic 0, 4, 130, 3, 0, [8, 0, 0]),
  (7, .ireturn, 5, 0, 0, 0, [])]]
/-- HatFieldsModel.wind(III)I -/
def hcd150 : hk_Cd := [
 [(0, .iload 1, 1, 0, 0, 0, []),
  (1, .invokestatic 0, 2, 149, 1, 0, [8, 0, 0]),
  (4, .ifCond .eq 0, 3, 7, 0, 0, []),
  (7, .iload 2, 4, 0, 0, 0, []),
  (8, .iload 3, 5, 0, 0, 0, []),
  (9, .invokestatic 0, 6, 151, 2, 0, [8, 0, 0]),
  (12, .ifCond .ne 0, 7, 9, 0, 0, []),
  (15, .iconst 0, 8, 0, 0, (-1), []),
  (16, .ireturn, 9, 0, 0, 0, []),
  (17, .aload 0, 10, 0, 0, 0, []),
  (18, .iload 1, 11, 0, 0, 0, []),
  (19, .invokevirtual 0, 12, 148, 1, 0, [8, 0, 0]),
  (22, .istore 4, 13, 0, 0, 0, []),
  (24, .aload 0, 14, 0, 0, 0, []),
  (25, .getfield 0, 15, 8, 0, 0, []),
  (28, .iload 1, 16, 0, 0, 0, [])],
 [(29, .iload 2, 17, 0, 0, 0, []),
  (30, .iastore, 18, 0, 0, 0, []),
  (31, .aload 0, 19, 0, 0, 0, []),
  (32, .getfield 0, 20, 8, 1, 0, []),
  (35, .iload 1, 21, 0, 0, 0, []),
  (36, .iload 3, 22, 0, 0, 0, []),
  (37, .iastore, 23, 0, 0, 0, []),
  (38, .iload 4, 24, 0, 0, 0, []),
  (40, .ireturn, 25, 0, 0, 0, [])]]
/-- HatFieldsModel.isWind(II)Z -/
def hcd151 : hk_Cd := [
 [(0, .iload 0, 1, 0, 0, 0, []),
  (1, .iconst 0, 2, 0, 0, 0, []),
  (2, .iconst 0, 3, 0, 0, 3, []),
  (3, .invokestatic 0, 4, 130, 3, 0, [8, 0, 0]),
  (6, .ifCond .eq 0, 5, 12, 0, 0, []),
  (9, .iload 1, 6, 0, 0, 0, []),
  (10, .iconst 0, 7, 0, 0, 0, []),
  (11, .iconst 0, 8, 0, 0, 9, []),
  (13, .invokestatic 0, 9, 130, 3, 0, [8, 0, 0]),
  (16, .ifCond .eq 0, 10, 12, 0, 0, []),
  (19, .iconst 0, 11, 0, 0, 1, []),
  (20, .goto 0, 12, 13, 0, 0, []),
  (23, .iconst 0, 13, 0, 0, 0, []),
  (24, .ireturn, 14, 0, 0, 0, [])]]
/-- HatFieldsModel.person(II)I -/
def hcd152 : hk_Cd := [
 [(0, .iload 1, 1, 0, 0, 0, []),
  (1, .invokestatic 0, 2, 153, 1, 0, [8, 0, 0]),
  (4, .ifCond .eq 0, 3, 8, 0, 0, []),
  (7, .iload 2, 4, 0, 0, 0, []),
  (8, .iconst 0, 5, 0, 0, 0, []),
  (9, .iconst 0, 6, 0, 0, 3, []),
  (10, .invokestatic 0, 7, 130, 3, 0, [8, 0, 0]),
  (13, .ifCond .ne 0, 8, 10, 0, 0, []),
  (16, .iconst 0, 9, 0, 0, (-1), []),
  (17, .ireturn, 10, 0, 0, 0, []),
  (18, .aload 0, 11, 0, 0, 0, []),
  (19, .getfield 0, 12, 8, 2, 0, []),
  (22, .iconst 0, 13, 0, 0, 5, []),
  (23, .if_icmp .ne 0, 14, 16, 0, 0, []),
  (26, .iconst 0, 15, 0, 0, (-2), []),
  (28, .ireturn, 16, 0, 0, 0, [])],
 [(29, .aload 0, 17, 0, 0, 0, []),
  (30, .getfield 0, 18, 8, 8, 0, []),
  (33, .iconst 0, 19, 0, 0, 1, []),
  (34, .aload 0, 20, 0, 0, 0, []),
  (35, .getfield 0, 21, 8, 2, 0, []),
  (38, .iadd, 22, 0, 0, 0, []),
  (39, .iload 1, 23, 0, 0, 0, []),
  (40, .iastore, 24, 0, 0, 0, []),
  (41, .aload 0, 25, 0, 0, 0, []),
  (42, .getfield 0, 26, 8, 3, 0, []),
  (45, .aload 0, 27, 0, 0, 0, []),
  (46, .getfield 0, 28, 8, 2, 0, []),
  (49, .iload 2, 29, 0, 0, 0, []),
  (50, .iastore, 30, 0, 0, 0, []),
  (51, .aload 0, 31, 0, 0, 0, []),
  (52, .dup, 32, 0, 0, 0, [])],
 [(53, .getfield 0, 33, 8, 2, 0, []),
  (56, .iconst 0, 34, 0, 0, 1, []),
  (57, .iadd, 35, 0, 0, 0, []),
  (58, .putfield 0, 36, 8, 2, 0, [0]),
  (61, .aload 0, 37, 0, 0, 0, []),
  (62, .getfield 0, 38, 8, 2, 0, []),
  (65, .iconst 0, 39, 0, 0, 1, []),
  (66, .isub, 40, 0, 0, 0, []),
  (67, .ireturn, 41, 0, 0, 0, [])]]
/-- HatFieldsModel.isPlace(I)Z -/
def hcd153 : hk_Cd := [
 [(0, .iload 0, 1, 0, 0, 0, []),
  (1, .iconst 0, 2, 0, 0, 0, []),
  (2, .iconst 0, 3, 0, 0, 24, []),
  (4, .invokestatic 0, 4, 130, 3, 0, [8, 0, 0]),
  (7, .ireturn, 5, 0, 0, 0, [])]]
/-- HatFieldsModel.personOf(II)I -/
def hcd154 : hk_Cd := [
 [(0, .aload 0, 1, 0, 0, 0, []),
  (1, .iload 1, 2, 0, 0, 0, []),
  (2, .invokevirtual 0, 3, 155, 1, 0, [8, 0, 0]),
  (5, .ifCond .eq 0, 4, 9, 0, 0, []),
  (8, .iload 2, 5, 0, 0, 0, []),
  (9, .iconst 0, 6, 0, 0, 0, []),
  (10, .iconst 0, 7, 0, 0, 3, []),
  (11, .invokestatic 0, 8, 130, 3, 0, [8, 0, 0]),
  (14, .ifCond .ne 0, 9, 11, 0, 0, []),
  (17, .iconst 0, 10, 0, 0, (-1), []),
  (18, .ireturn, 11, 0, 0, 0, []),
  (19, .iload 2, 12, 0, 0, 0, []),
  (20, .ifCond .ne 0, 13, 20, 0, 0, []),
  (23, .aload 0, 14, 0, 0, 0, []),
  (24, .getfield 0, 15, 8, 8, 0, []),
  (27, .iconst 0, 16, 0, 0, 1, [])],
 [(28, .iload 1, 17, 0, 0, 0, []),
  (29, .iadd, 18, 0, 0, 0, []),
  (30, .iaload, 19, 0, 0, 0, []),
  (31, .goto 0, 20, 38, 0, 0, []),
  (34, .iload 2, 21, 0, 0, 0, []),
  (35, .iconst 0, 22, 0, 0, 1, []),
  (36, .if_icmp .ne 0, 23, 28, 0, 0, []),
  (39, .aload 0, 24, 0, 0, 0, []),
  (40, .getfield 0, 25, 8, 3, 0, []),
  (43, .iload 1, 26, 0, 0, 0, []),
  (44, .iaload, 27, 0, 0, 0, []),
  (45, .goto 0, 28, 38, 0, 0, []),
  (48, .iload 2, 29, 0, 0, 0, []),
  (49, .iconst 0, 30, 0, 0, 2, []),
  (50, .if_icmp .ne 0, 31, 35, 0, 0, []),
  (53, .aload 0, 32, 0, 0, 0, [])],
 [(54, .iload 1, 33, 0, 0, 0, []),
  (55, .invokevirtual 0, 34, 156, 1, 0, [8, 0, 0]),
  (58, .goto 0, 35, 38, 0, 0, []),
  (61, .aload 0, 36, 0, 0, 0, []),
  (62, .iload 1, 37, 0, 0, 0, []),
  (63, .invokevirtual 0, 38, 158, 1, 0, [8, 0, 0]),
  (66, .ireturn, 39, 0, 0, 0, [])]]
/-- HatFieldsModel.isPerson(I)Z -/
def hcd155 : hk_Cd := [
 [(0, .iload 1, 1, 0, 0, 0, []),
  (1, .iconst 0, 2, 0, 0, 0, []),
  (2, .aload 0, 3, 0, 0, 0, []),
  (3, .getfield 0, 4, 8, 2, 0, []),
  (6, .iconst 0, 5, 0, 0, 1, []),
  (7, .isub, 6, 0, 0, 0, []),
  (8, .invokestatic 0, 7, 130, 3, 0, [8, 0, 0]),
  (11, .ireturn, 8, 0, 0, 0, [])]]
/-- HatFieldsModel.ownedBy(I)I -/
def hcd156 : hk_Cd := [
 [(0, .iconst 0, 1, 0, 0, 0, []),
  (1, .istore 2, 2, 0, 0, 0, []),
  (2, .iconst 0, 3, 0, 0, 0, []),
  (3, .istore 3, 4, 0, 0, 0, []),
  (4, .iload 3, 5, 0, 0, 0, []),
  (5, .aload 0, 6, 0, 0, 0, []),
  (6, .getfield 0, 7, 8, 4, 0, []),
  (9, .if_icmp .ge 0, 8, 26, 0, 0, []),
  (12, .iload 2, 9, 0, 0, 0, []),
  (13, .aload 0, 10, 0, 0, 0, []),
  (14, .iconst 0, 11, 0, 0, 6, []),
  (16, .iload 3, 12, 0, 0, 0, []),
  (17, .iadd, 13, 0, 0, 0, []),
  (18, .invokevirtual 0, 14, 157, 1, 0, [8, 0, 0]),
  (21, .iload 1, 15, 0, 0, 0, []),
  (22, .if_icmp .ne 0, 16, 21, 0, 0, [])],
 [(25, .aload 0, 17, 0, 0, 0, []),
  (26, .getfield 0, 18, 8, 7, 0, []),
  (29, .iload 3, 19, 0, 0, 0, []),
  (30, .iaload, 20, 0, 0, 0, []),
  (31, .goto 0, 21, 22, 0, 0, []),
  (34, .iconst 0, 22, 0, 0, 0, []),
  (35, .iadd, 23, 0, 0, 0, []),
  (36, .istore 2, 24, 0, 0, 0, []),
  (37, .iinc 3 0, 25, 0, 0, 1, []),
  (40, .goto 0, 26, 4, 0, 0, []),
  (43, .iload 2, 27, 0, 0, 0, []),
  (44, .ireturn, 28, 0, 0, 0, [])]]
/-- HatFieldsModel.its(I)I -/
def hcd157 : hk_Cd := [
 [(0, .aload 0, 1, 0, 0, 0, []),
  (1, .getfield 0, 2, 8, 8, 0, []),
  (4, .aload 0, 3, 0, 0, 0, []),
  (5, .getfield 0, 4, 8, 9, 0, []),
  (8, .iload 1, 5, 0, 0, 0, []),
  (9, .iadd, 6, 0, 0, 0, []),
  (10, .iaload, 7, 0, 0, 0, []),
  (11, .ireturn, 8, 0, 0, 0, [])]]
/-- HatFieldsModel.wornBy(I)I -/
def hcd158 : hk_Cd := [
 [(0, .iconst 0, 1, 0, 0, 0, []),
  (1, .istore 2, 2, 0, 0, 0, []),
  (2, .iconst 0, 3, 0, 0, 0, []),
  (3, .istore 3, 4, 0, 0, 0, []),
  (4, .iload 3, 5, 0, 0, 0, []),
  (5, .aload 0, 6, 0, 0, 0, []),
  (6, .getfield 0, 7, 8, 4, 0, []),
  (9, .if_icmp .ge 0, 8, 25, 0, 0, []),
  (12, .iload 2, 9, 0, 0, 0, []),
  (13, .aload 0, 10, 0, 0, 0, []),
  (14, .iconst 0, 11, 0, 0, 6, []),
  (16, .iload 3, 12, 0, 0, 0, []),
  (17, .iadd, 13, 0, 0, 0, []),
  (18, .invokevirtual 0, 14, 157, 1, 0, [8, 0, 0]),
  (21, .iload 1, 15, 0, 0, 0, []),
  (22, .if_icmp .ne 0, 16, 20, 0, 0, [])],
 [(25, .iconst 0, 17, 0, 0, 1, []),
  (26, .iload 3, 18, 0, 0, 0, []),
  (27, .ishl, 19, 0, 0, 0, []),
  (28, .goto 0, 20, 21, 0, 0, []),
  (31, .iconst 0, 21, 0, 0, 0, []),
  (32, .ior, 22, 0, 0, 0, []),
  (33, .istore 2, 23, 0, 0, 0, []),
  (34, .iinc 3 0, 24, 0, 0, 1, []),
  (37, .goto 0, 25, 4, 0, 0, []),
  (40, .iload 2, 26, 0, 0, 0, []),
  (41, .ireturn, 27, 0, 0, 0, [])]]
/-- HatFieldsModel.moves(II)I -/
def hcd159 : hk_Cd := [
 [(0, .aload 0, 1, 0, 0, 0, []),
  (1, .iload 1, 2, 0, 0, 0, []),
  (2, .invokevirtual 0, 3, 155, 1, 0, [8, 0, 0]),
  (5, .ifCond .eq 0, 4, 7, 0, 0, []),
  (8, .iload 2, 5, 0, 0, 0, []),
  (9, .invokestatic 0, 6, 153, 1, 0, [8, 0, 0]),
  (12, .ifCond .ne 0, 7, 9, 0, 0, []),
  (15, .iconst 0, 8, 0, 0, (-1), []),
  (16, .ireturn, 9, 0, 0, 0, []),
  (17, .aload 0, 10, 0, 0, 0, []),
  (18, .getfield 0, 11, 8, 8, 0, []),
  (21, .iconst 0, 12, 0, 0, 1, []),
  (22, .iload 1, 13, 0, 0, 0, []),
  (23, .iadd, 14, 0, 0, 0, []),
  (24, .iaload, 15, 0, 0, 0, []),
  (25, .istore 3, 16, 0, 0, 0, [])],
 [(26, .aload 0, 17, 0, 0, 0, []),
  (27, .getfield 0, 18, 8, 8, 0, []),
  (30, .iconst 0, 19, 0, 0, 1, []),
  (31, .iload 1, 20, 0, 0, 0, []),
  (32, .iadd, 21, 0, 0, 0, []),
  (33, .iload 2, 22, 0, 0, 0, []),
  (34, .iastore, 23, 0, 0, 0, []),
  (35, .iload 3, 24, 0, 0, 0, []),
  (36, .ireturn, 25, 0, 0, 0, [])]]
/-- HatFieldsModel.speed(II)I -/
def hcd160 : hk_Cd := [
 [(0, .aload 0, 1, 0, 0, 0, []),
  (1, .iload 1, 2, 0, 0, 0, []),
  (2, .invokevirtual 0, 3, 155, 1, 0, [8, 0, 0]),
  (5, .ifCond .eq 0, 4, 9, 0, 0, []),
  (8, .iload 2, 5, 0, 0, 0, []),
  (9, .iconst 0, 6, 0, 0, 0, []),
  (10, .iconst 0, 7, 0, 0, 3, []),
  (11, .invokestatic 0, 8, 130, 3, 0, [8, 0, 0]),
  (14, .ifCond .ne 0, 9, 11, 0, 0, []),
  (17, .iconst 0, 10, 0, 0, (-1), []),
  (18, .ireturn, 11, 0, 0, 0, []),
  (19, .aload 0, 12, 0, 0, 0, []),
  (20, .getfield 0, 13, 8, 3, 0, []),
  (23, .iload 1, 14, 0, 0, 0, []),
  (24, .iaload, 15, 0, 0, 0, []),
  (25, .istore 3, 16, 0, 0, 0, [])],
 [(26, .aload 0, 17, 0, 0, 0, []),
  (27, .getfield 0, 18, 8, 3, 0, []),
  (30, .iload 1, 19, 0, 0, 0, []),
  (31, .iload 2, 20, 0, 0, 0, []),
  (32, .iastore, 21, 0, 0, 0, []),
  (33, .iload 3, 22, 0, 0, 0, []),
  (34, .ireturn, 23, 0, 0, 0, [])]]
/-- HatFieldsModel.hat(IIII)I -/
def hcd161 : hk_Cd := [
 [(0, .iload 1, 1, 0, 0, 0, []),
  (1, .iconst 0, 2, 0, 0, 0, []),
  (2, .iconst 0, 3, 0, 0, 5, []),
  (3, .invokestatic 0, 4, 130, 3, 0, [8, 0, 0]),
  (6, .ifCond .eq 0, 5, 18, 0, 0, []),
  (9, .iload 2, 6, 0, 0, 0, []),
  (10, .iconst 0, 7, 0, 0, 0, []),
  (11, .iconst 0, 8, 0, 0, 9, []),
  (13, .invokestatic 0, 9, 130, 3, 0, [8, 0, 0]),
  (16, .ifCond .eq 0, 10, 18, 0, 0, []),
  (19, .iload 3, 11, 0, 0, 0, []),
  (20, .iconst 0, 12, 0, 0, 0, []),
  (21, .iconst 0, 13, 0, 0, 99, []),
  (23, .invokestatic 0, 14, 130, 3, 0, [8, 0, 0]),
  (26, .ifCond .eq 0, 15, 18, 0, 0, []),
  (29, .iload 4, 16, 0, 0, 0, [])],
 [(31, .invokestatic 0, 17, 153, 1, 0, [8, 0, 0]),
  (34, .ifCond .ne 0, 18, 20, 0, 0, []),
  (37, .iconst 0, 19, 0, 0, (-1), []),
  (38, .ireturn, 20, 0, 0, 0, []),
  (39, .aload 0, 21, 0, 0, 0, []),
  (40, .getfield 0, 22, 8, 4, 0, []),
  (43, .iconst 0, 23, 0, 0, 6, []),
  (45, .if_icmp .ne 0, 24, 26, 0, 0, []),
  (48, .iconst 0, 25, 0, 0, (-2), []),
  (50, .ireturn, 26, 0, 0, 0, []),
  (51, .aload 0, 27, 0, 0, 0, []),
  (52, .getfield 0, 28, 8, 5, 0, []),
  (55, .aload 0, 29, 0, 0, 0, []),
  (56, .getfield 0, 30, 8, 4, 0, []),
  (59, .iload 1, 31, 0, 0, 0, []),
  (60, .iastore, 32, 0, 0, 0, [])],
 [(61, .aload 0, 33, 0, 0, 0, []),
  (62, .getfield 0, 34, 8, 6, 0, []),
  (65, .aload 0, 35, 0, 0, 0, []),
  (66, .getfield 0, 36, 8, 4, 0, []),
  (69, .iload 2, 37, 0, 0, 0, []),
  (70, .iastore, 38, 0, 0, 0, []),
  (71, .aload 0, 39, 0, 0, 0, []),
  (72, .getfield 0, 40, 8, 7, 0, []),
  (75, .aload 0, 41, 0, 0, 0, []),
  (76, .getfield 0, 42, 8, 4, 0, []),
  (79, .iload 3, 43, 0, 0, 0, []),
  (80, .iastore, 44, 0, 0, 0, []),
  (81, .aload 0, 45, 0, 0, 0, []),
  (82, .getfield 0, 46, 8, 8, 0, []),
  (85, .iconst 0, 47, 0, 0, 6, []),
  (87, .aload 0, 48, 0, 0, 0, [])],
 [(88, .getfield 0, 49, 8, 4, 0, []),
  (91, .iadd, 50, 0, 0, 0, []),
  (92, .iconst 0, 51, 0, 0, (-1), []),
  (93, .iastore, 52, 0, 0, 0, []),
  (94, .aload 0, 53, 0, 0, 0, []),
  (95, .getfield 0, 54, 8, 8, 0, []),
  (98, .iconst 0, 55, 0, 0, 12, []),
  (100, .aload 0, 56, 0, 0, 0, []),
  (101, .getfield 0, 57, 8, 4, 0, []),
  (104, .iadd, 58, 0, 0, 0, []),
  (105, .iload 4, 59, 0, 0, 0, []),
  (107, .iastore, 60, 0, 0, 0, []),
  (108, .aload 0, 61, 0, 0, 0, []),
  (109, .dup, 62, 0, 0, 0, []),
  (110, .getfield 0, 63, 8, 4, 0, []),
  (113, .iconst 0, 64, 0, 0, 1, [])],
 [(114, .iadd, 65, 0, 0, 0, []),
  (115, .putfield 0, 66, 8, 4, 0, [0]),
  (118, .aload 0, 67, 0, 0, 0, []),
  (119, .getfield 0, 68, 8, 4, 0, []),
  (122, .iconst 0, 69, 0, 0, 1, []),
  (123, .isub, 70, 0, 0, 0, []),
  (124, .ireturn, 71, 0, 0, 0, [])]]
/-- HatFieldsModel.hatOf(II)I -/
def hcd162 : hk_Cd := [
 [(0, .aload 0, 1, 0, 0, 0, []),
  (1, .iload 1, 2, 0, 0, 0, []),
  (2, .invokevirtual 0, 3, 163, 1, 0, [8, 0, 0]),
  (5, .ifCond .eq 0, 4, 9, 0, 0, []),
  (8, .iload 2, 5, 0, 0, 0, []),
  (9, .iconst 0, 6, 0, 0, 0, []),
  (10, .iconst 0, 7, 0, 0, 6, []),
  (12, .invokestatic 0, 8, 130, 3, 0, [8, 0, 0]),
  (15, .ifCond .ne 0, 9, 11, 0, 0, []),
  (18, .iconst 0, 10, 0, 0, (-1), []),
  (19, .ireturn, 11, 0, 0, 0, []),
  (20, .iload 2, 12, 0, 0, 0, []),
  (21, .tableswitch 0 0 0 #[], 13, 45, 0, 0, [13, 18, 23, 28, 36, 41]),
  (60, .aload 0, 14, 0, 0, 0, []),
  (61, .getfield 0, 15, 8, 5, 0, []),
  (64, .iload 1, 16, 0, 0, 0, [])],
 [(65, .iaload, 17, 0, 0, 0, []),
  (66, .ireturn, 18, 0, 0, 0, []),
  (67, .aload 0, 19, 0, 0, 0, []),
  (68, .getfield 0, 20, 8, 6, 0, []),
  (71, .iload 1, 21, 0, 0, 0, []),
  (72, .iaload, 22, 0, 0, 0, []),
  (73, .ireturn, 23, 0, 0, 0, []),
  (74, .aload 0, 24, 0, 0, 0, []),
  (75, .getfield 0, 25, 8, 7, 0, []),
  (78, .iload 1, 26, 0, 0, 0, []),
  (79, .iaload, 27, 0, 0, 0, []),
  (80, .ireturn, 28, 0, 0, 0, []),
  (81, .aload 0, 29, 0, 0, 0, []),
  (82, .getfield 0, 30, 8, 8, 0, []),
  (85, .iconst 0, 31, 0, 0, 6, []),
  (87, .iload 1, 32, 0, 0, 0, [])],
 [(88, .iadd, 33, 0, 0, 0, []),
  (89, .iaload, 34, 0, 0, 0, []),
  (90, .invokestatic 0, 35, 164, 1, 0, [8, 0, 0]),
  (93, .ireturn, 36, 0, 0, 0, []),
  (94, .aload 0, 37, 0, 0, 0, []),
  (95, .iload 1, 38, 0, 0, 0, []),
  (96, .invokevirtual 0, 39, 165, 1, 0, [8, 0, 0]),
  (99, .invokestatic 0, 40, 164, 1, 0, [8, 0, 0]),
  (102, .ireturn, 41, 0, 0, 0, []),
  (103, .aload 0, 42, 0, 0, 0, []),
  (104, .iload 1, 43, 0, 0, 0, []),
  (105, .invokevirtual 0, 44, 166, 1, 0, [8, 0, 0]),
  (108, .ireturn, 45, 0, 0, 0, []),
  (109, .aload 0, 46, 0, 0, 0, []),
  (110, .iload 1, 47, 0, 0, 0, []),
  (111, .aload 0, 48, 0, 0, 0, [])],
 [(112, .getfield 0, 49, 8, 1, 0, []),
  (115, .aload 0, 50, 0, 0, 0, []),
  (116, .getfield 0, 51, 8, 8, 0, []),
  (119, .iconst 0, 52, 0, 0, 0, []),
  (120, .iaload, 53, 0, 0, 0, []),
  (121, .iconst 0, 54, 0, 0, 24, []),
  (123, .irem, 55, 0, 0, 0, []),
  (124, .iaload, 56, 0, 0, 0, []),
  (125, .invokevirtual 0, 57, 167, 2, 0, [8, 0, 0]),
  (128, .ireturn, 58, 0, 0, 0, [])]]
/-- HatFieldsModel.isHat(I)Z -/
def hcd163 : hk_Cd := [
 [(0, .iload 1, 1, 0, 0, 0, []),
  (1, .iconst 0, 2, 0, 0, 0, []),
  (2, .aload 0, 3, 0, 0, 0, []),
  (3, .getfield 0, 4, 8, 4, 0, []),
  (6, .iconst 0, 5, 0, 0, 1, []),
  (7, .isub, 6, 0, 0, 0, []),
  (8, .invokestatic 0, 7, 130, 3, 0, [8, 0, 0]),
  (11, .ireturn, 8, 0, 0, 0, [])]]
/-- HatFieldsModel.orNot(I)I -/
def hcd164 : hk_Cd := [
 [(0, .iload 0, 1, 0, 0, 0, []),
  (1, .ifCond .ge 0, 2, 4, 0, 0, []),
  (4, .iconst 0, 3, 0, 0, (-9), []),
  (6, .goto 0, 4, 5, 0, 0, []),
  (9, .iload 0, 5, 0, 0, 0, []),
  (10, .ireturn, 6, 0, 0, 0, [])]]
/-- HatFieldsModel.placeOf(I)I -/
def hcd165 : hk_Cd := [
 [(0, .aload 0, 1, 0, 0, 0, []),
  (1, .iconst 0, 2, 0, 0, 6, []),
  (3, .iload 1, 3, 0, 0, 0, []),
  (4, .iadd, 4, 0, 0, 0, []),
  (5, .invokevirtual 0, 5, 157, 1, 0, [8, 0, 0]),
  (8, .ifCond .ge 0, 6, 12, 0, 0, []),
  (11, .aload 0, 7, 0, 0, 0, []),
  (12, .iconst 0, 8, 0, 0, 12, []),
  (14, .iload 1, 9, 0, 0, 0, []),
  (15, .iadd, 10, 0, 0, 0, []),
  (16, .invokevirtual 0, 11, 157, 1, 0, [8, 0, 0]),
  (19, .goto 0, 12, 21, 0, 0, []),
  (22, .aload 0, 13, 0, 0, 0, []),
  (23, .iconst 0, 14, 0, 0, 1, []),
  (24, .aload 0, 15, 0, 0, 0, []),
  (25, .iconst 0, 16, 0, 0, 6, [])],
 [(27, .iload 1, 17, 0, 0, 0, []),
  (28, .iadd, 18, 0, 0, 0, []),
  (29, .invokevirtual 0, 19, 157, 1, 0, [8, 0, 0]),
  (32, .iadd, 20, 0, 0, 0, []),
  (33, .invokevirtual 0, 21, 157, 1, 0, [8, 0, 0]),
  (36, .ireturn, 22, 0, 0, 0, [])]]
/-- HatFieldsModel.holds(I)I -/
def hcd166 : hk_Cd := [
 [(0, .aload 0, 1, 0, 0, 0, []),
  (1, .getfield 0, 2, 8, 5, 0, []),
  (4, .iload 1, 3, 0, 0, 0, []),
  (5, .iaload, 4, 0, 0, 0, []),
  (6, .tableswitch 0 1 0 #[], 5, 41, 0, 0, [5, 14, 16, 27, 39]),
  (40, .iconst 0, 6, 0, 0, 3, []),
  (41, .aload 0, 7, 0, 0, 0, []),
  (42, .getfield 0, 8, 8, 6, 0, []),
  (45, .iload 1, 9, 0, 0, 0, []),
  (46, .iaload, 10, 0, 0, 0, []),
  (47, .iconst 0, 11, 0, 0, 2, []),
  (48, .idiv, 12, 0, 0, 0, []),
  (49, .iadd, 13, 0, 0, 0, []),
  (50, .ireturn, 14, 0, 0, 0, []),
  (51, .iconst 0, 15, 0, 0, 1, []),
  (52, .ireturn, 16, 0, 0, 0, [])],
 [(53, .iconst 0, 17, 0, 0, 2, []),
  (54, .iconst 0, 18, 0, 0, 3, []),
  (55, .aload 0, 19, 0, 0, 0, []),
  (56, .getfield 0, 20, 8, 6, 0, []),
  (59, .iload 1, 21, 0, 0, 0, []),
  (60, .iaload, 22, 0, 0, 0, []),
  (61, .iconst 0, 23, 0, 0, 2, []),
  (62, .idiv, 24, 0, 0, 0, []),
  (63, .iadd, 25, 0, 0, 0, []),
  (64, .imul, 26, 0, 0, 0, []),
  (65, .ireturn, 27, 0, 0, 0, []),
  (66, .aload 0, 28, 0, 0, 0, []),
  (67, .getfield 0, 29, 8, 6, 0, []),
  (70, .iload 1, 30, 0, 0, 0, []),
  (71, .iaload, 31, 0, 0, 0, []),
  (72, .iconst 0, 32, 0, 0, 2, [])],
 [(73, .irem, 33, 0, 0, 0, []),
  (74, .iconst 0, 34, 0, 0, 1, []),
  (75, .if_icmp .ne 0, 35, 37, 0, 0, []),
  (78, .iconst 0, 36, 0, 0, 0, []),
  (79, .goto 0, 37, 38, 0, 0, []),
  (82, .iconst 0, 38, 0, 0, 1, []),
  (83, .ireturn, 39, 0, 0, 0, []),
  (84, .iconst 0, 40, 0, 0, 4, []),
  (85, .ireturn, 41, 0, 0, 0, []),
  (86, .iconst 0, 42, 0, 0, 3, []),
  (87, .ireturn, 43, 0, 0, 0, [])]]
/-- HatFieldsModel.flies(II)I -/
def hcd167 : hk_Cd := [
 [(0, .iload 2, 1, 0, 0, 0, []),
  (1, .iconst 0, 2, 0, 0, 3, []),
  (2, .idiv, 3, 0, 0, 0, []),
  (3, .istore 3, 4, 0, 0, 0, []),
  (4, .iload 2, 5, 0, 0, 0, []),
  (5, .ifCond .le 0, 6, 10, 0, 0, []),
  (8, .iload 3, 7, 0, 0, 0, []),
  (9, .iconst 0, 8, 0, 0, 1, []),
  (10, .iadd, 9, 0, 0, 0, []),
  (11, .goto 0, 10, 11, 0, 0, []),
  (14, .iload 3, 11, 0, 0, 0, []),
  (15, .istore 4, 12, 0, 0, 0, []),
  (17, .aload 0, 13, 0, 0, 0, []),
  (18, .getfield 0, 14, 8, 5, 0, []),
  (21, .iload 1, 15, 0, 0, 0, []),
  (22, .iaload, 16, 0, 0, 0, [])],
 [(23, .iconst 0, 17, 0, 0, 2, []),
  (24, .if_icmp .ne 0, 18, 20, 0, 0, []),
  (27, .iload 4, 19, 0, 0, 0, []),
  (29, .goto 0, 20, 41, 0, 0, []),
  (32, .aload 0, 21, 0, 0, 0, []),
  (33, .getfield 0, 22, 8, 5, 0, []),
  (36, .iload 1, 23, 0, 0, 0, []),
  (37, .iaload, 24, 0, 0, 0, []),
  (38, .iconst 0, 25, 0, 0, 4, []),
  (39, .if_icmp .ne 0, 26, 30, 0, 0, []),
  (42, .iconst 0, 27, 0, 0, 2, []),
  (43, .iload 4, 28, 0, 0, 0, []),
  (45, .imul, 29, 0, 0, 0, []),
  (46, .goto 0, 30, 41, 0, 0, []),
  (49, .aload 0, 31, 0, 0, 0, []),
  (50, .getfield 0, 32, 8, 5, 0, [])],
 [(53, .iload 1, 33, 0, 0, 0, []),
  (54, .iaload, 34, 0, 0, 0, []),
  (55, .iconst 0, 35, 0, 0, 5, []),
  (56, .if_icmp .ne 0, 36, 40, 0, 0, []),
  (59, .iload 3, 37, 0, 0, 0, []),
  (60, .iconst 0, 38, 0, 0, 2, []),
  (61, .idiv, 39, 0, 0, 0, []),
  (62, .goto 0, 40, 41, 0, 0, []),
  (65, .iload 3, 41, 0, 0, 0, []),
  (66, .ireturn, 42, 0, 0, 0, [])]]
/-- HatFieldsModel.make(III)I -/
def hcd168 : hk_Cd := [
 [(0, .aload 0, 1, 0, 0, 0, []),
  (1, .iload 1, 2, 0, 0, 0, []),
  (2, .invokevirtual 0, 3, 163, 1, 0, [8, 0, 0]),
  (5, .ifCond .eq 0, 4, 14, 0, 0, []),
  (8, .iload 2, 5, 0, 0, 0, []),
  (9, .iconst 0, 6, 0, 0, 0, []),
  (10, .iconst 0, 7, 0, 0, 5, []),
  (11, .invokestatic 0, 8, 130, 3, 0, [8, 0, 0]),
  (14, .ifCond .eq 0, 9, 14, 0, 0, []),
  (17, .iload 3, 10, 0, 0, 0, []),
  (18, .iconst 0, 11, 0, 0, 0, []),
  (19, .iconst 0, 12, 0, 0, 9, []),
  (21, .invokestatic 0, 13, 130, 3, 0, [8, 0, 0]),
  (24, .ifCond .ne 0, 14, 16, 0, 0, []),
  (27, .iconst 0, 15, 0, 0, (-1), []),
  (28, .ireturn, 16, 0, 0, 0, [])],
 [(29, .aload 0, 17, 0, 0, 0, []),
  (30, .getfield 0, 18, 8, 5, 0, []),
  (33, .iload 1, 19, 0, 0, 0, []),
  (34, .iaload, 20, 0, 0, 0, []),
  (35, .istore 4, 21, 0, 0, 0, []),
  (37, .aload 0, 22, 0, 0, 0, []),
  (38, .getfield 0, 23, 8, 5, 0, []),
  (41, .iload 1, 24, 0, 0, 0, []),
  (42, .iload 2, 25, 0, 0, 0, []),
  (43, .iastore, 26, 0, 0, 0, []),
  (44, .aload 0, 27, 0, 0, 0, []),
  (45, .getfield 0, 28, 8, 6, 0, []),
  (48, .iload 1, 29, 0, 0, 0, []),
  (49, .iload 3, 30, 0, 0, 0, []),
  (50, .iastore, 31, 0, 0, 0, []),
  (51, .iload 4, 32, 0, 0, 0, [])],
 [(53, .ireturn, 33, 0, 0, 0, [])]]
/-- HatFieldsModel.puts(II)I -/
def hcd169 : hk_Cd := [
 [(0, .aload 0, 1, 0, 0, 0, []),
  (1, .iload 1, 2, 0, 0, 0, []),
  (2, .invokevirtual 0, 3, 163, 1, 0, [8, 0, 0]),
  (5, .ifCond .eq 0, 4, 8, 0, 0, []),
  (8, .aload 0, 5, 0, 0, 0, []),
  (9, .iload 2, 6, 0, 0, 0, []),
  (10, .invokevirtual 0, 7, 155, 1, 0, [8, 0, 0]),
  (13, .ifCond .ne 0, 8, 10, 0, 0, []),
  (16, .iconst 0, 9, 0, 0, (-1), []),
  (17, .ireturn, 10, 0, 0, 0, []),
  (18, .aload 0, 11, 0, 0, 0, []),
  (19, .iload 1, 12, 0, 0, 0, []),
  (20, .invokevirtual 0, 13, 170, 1, 0, [8, 0, 0]),
  (23, .ifCond .eq 0, 14, 27, 0, 0, []),
  (26, .aload 0, 15, 0, 0, 0, []),
  (27, .getfield 0, 16, 8, 8, 0, [])],
 [(30, .iconst 0, 17, 0, 0, 12, []),
  (32, .iload 1, 18, 0, 0, 0, []),
  (33, .iadd, 19, 0, 0, 0, []),
  (34, .iaload, 20, 0, 0, 0, []),
  (35, .aload 0, 21, 0, 0, 0, []),
  (36, .getfield 0, 22, 8, 8, 0, []),
  (39, .iconst 0, 23, 0, 0, 1, []),
  (40, .iload 2, 24, 0, 0, 0, []),
  (41, .iadd, 25, 0, 0, 0, []),
  (42, .iaload, 26, 0, 0, 0, []),
  (43, .if_icmp .eq 0, 27, 29, 0, 0, []),
  (46, .iconst 0, 28, 0, 0, (-4), []),
  (48, .ireturn, 29, 0, 0, 0, []),
  (49, .aload 0, 30, 0, 0, 0, []),
  (50, .getfield 0, 31, 8, 8, 0, []),
  (53, .iconst 0, 32, 0, 0, 6, [])],
 [(55, .iload 1, 33, 0, 0, 0, []),
  (56, .iadd, 34, 0, 0, 0, []),
  (57, .iload 2, 35, 0, 0, 0, []),
  (58, .iastore, 36, 0, 0, 0, []),
  (59, .iconst 0, 37, 0, 0, 1, []),
  (60, .ireturn, 38, 0, 0, 0, [])]]
/-- HatFieldsModel.isLying(I)Z -/
def hcd170 : hk_Cd := [
 [(0, .aload 0, 1, 0, 0, 0, []),
  (1, .iconst 0, 2, 0, 0, 6, []),
  (3, .iload 1, 3, 0, 0, 0, []),
  (4, .iadd, 4, 0, 0, 0, []),
  (5, .invokevirtual 0, 5, 157, 1, 0, [8, 0, 0]),
  (8, .ifCond .ge 0, 6, 14, 0, 0, []),
  (11, .aload 0, 7, 0, 0, 0, []),
  (12, .iconst 0, 8, 0, 0, 12, []),
  (14, .iload 1, 9, 0, 0, 0, []),
  (15, .iadd, 10, 0, 0, 0, []),
  (16, .invokevirtual 0, 11, 157, 1, 0, [8, 0, 0]),
  (19, .ifCond .lt 0, 12, 14, 0, 0, []),
  (22, .iconst 0, 13, 0, 0, 1, []),
  (23, .goto 0, 14, 15, 0, 0, []),
  (26, .iconst 0, 15, 0, 0, 0, []),
  (27, .ireturn, 16, 0, 0, 0, [])]]
/-- HatFieldsModel.down(I)I -/
def hcd171 : hk_Cd := [
 [(0, .aload 0, 1, 0, 0, 0, []),
  (1, .iload 1, 2, 0, 0, 0, []),
  (2, .invokevirtual 0, 3, 163, 1, 0, [8, 0, 0]),
  (5, .ifCond .ne 0, 4, 6, 0, 0, []),
  (8, .iconst 0, 5, 0, 0, (-1), []),
  (9, .ireturn, 6, 0, 0, 0, []),
  (10, .aload 0, 7, 0, 0, 0, []),
  (11, .getfield 0, 8, 8, 8, 0, []),
  (14, .iconst 0, 9, 0, 0, 6, []),
  (16, .iload 1, 10, 0, 0, 0, []),
  (17, .iadd, 11, 0, 0, 0, []),
  (18, .iaload, 12, 0, 0, 0, []),
  (19, .ifCond .ge 0, 13, 15, 0, 0, []),
  (22, .iconst 0, 14, 0, 0, (-4), []),
  (24, .ireturn, 15, 0, 0, 0, []),
  (25, .aload 0, 16, 0, 0, 0, [])],
 [(26, .iload 1, 17, 0, 0, 0, []),
  (27, .invokevirtual 0, 18, 172, 1, 0, [8, 0, 0]),
  (30, .aload 0, 19, 0, 0, 0, []),
  (31, .getfield 0, 20, 8, 8, 0, []),
  (34, .iconst 0, 21, 0, 0, 12, []),
  (36, .iload 1, 22, 0, 0, 0, []),
  (37, .iadd, 23, 0, 0, 0, []),
  (38, .iaload, 24, 0, 0, 0, []),
  (39, .ireturn, 25, 0, 0, 0, [])]]
/-- HatFieldsModel.lays(I)V -/
def hcd172 : hk_Cd := [
 [(0, .aload 0, 1, 0, 0, 0, []),
  (1, .iconst 0, 2, 0, 0, 12, []),
  (3, .iload 1, 3, 0, 0, 0, []),
  (4, .iadd, 4, 0, 0, 0, []),
  (5, .aload 0, 5, 0, 0, 0, []),
  (6, .iload 1, 6, 0, 0, 0, []),
  (7, .invokevirtual 0, 7, 165, 1, 0, [8, 0, 0]),
  (10, .invokevirtual 0, 8, 173, 2, 0, [8, 0, 0]),
  (13, .aload 0, 9, 0, 0, 0, []),
  (14, .iconst 0, 10, 0, 0, 6, []),
  (16, .iload 1, 11, 0, 0, 0, []),
  (17, .iadd, 12, 0, 0, 0, []),
  (18, .iconst 0, 13, 0, 0, (-1), []),
  (19, .invokevirtual 0, 14, 173, 2, 0, [8, 0, 0]),
  (22, .return_, 15, 0, 0, 0, [])]]
/-- HatFieldsModel.becomes(II)V -/
def hcd173 : hk_Cd := [
 [(0, .aload 0, 1, 0, 0, 0, []),
  (1, .getfield 0, 2, 8, 8, 0, []),
  (4, .aload 0, 3, 0, 0, 0, []),
  (5, .getfield 0, 4, 8, 9, 0, []),
  (8, .iload 1, 5, 0, 0, 0, []),
  (9, .iadd, 6, 0, 0, 0, []),
  (10, .iload 2, 7, 0, 0, 0, []),
  (11, .iastore, 8, 0, 0, 0, []),
  (12, .return_, 9, 0, 0, 0, [])]]
/-- HatFieldsModel.found(II)I -/
def hcd174 : hk_Cd := [
 [(0, .aload 0, 1, 0, 0, 0, []),
  (1, .iload 1, 2, 0, 0, 0, []),
  (2, .invokevirtual 0, 3, 163, 1, 0, [8, 0, 0]),
  (5, .ifCond .eq 0, 4, 7, 0, 0, []),
  (8, .iload 2, 5, 0, 0, 0, []),
  (9, .invokestatic 0, 6, 153, 1, 0, [8, 0, 0]),
  (12, .ifCond .ne 0, 7, 9, 0, 0, []),
  (15, .iconst 0, 8, 0, 0, (-1), []),
  (16, .ireturn, 9, 0, 0, 0, []),
  (17, .aload 0, 10, 0, 0, 0, []),
  (18, .iload 1, 11, 0, 0, 0, []),
  (19, .invokevirtual 0, 12, 175, 1, 0, [8, 0, 0]),
  (22, .ifCond .ne 0, 13, 15, 0, 0, []),
  (25, .iconst 0, 14, 0, 0, (-4), []),
  (27, .ireturn, 15, 0, 0, 0, []),
  (28, .aload 0, 16, 0, 0, 0, [])],
 [(29, .getfield 0, 17, 8, 8, 0, []),
  (32, .iconst 0, 18, 0, 0, 12, []),
  (34, .iload 1, 19, 0, 0, 0, []),
  (35, .iadd, 20, 0, 0, 0, []),
  (36, .iload 2, 21, 0, 0, 0, []),
  (37, .iastore, 22, 0, 0, 0, []),
  (38, .iconst 0, 23, 0, 0, 1, []),
  (39, .ireturn, 24, 0, 0, 0, [])]]
/-- HatFieldsModel.isGone(I)Z -/
def hcd175 : hk_Cd := [
 [(0, .aload 0, 1, 0, 0, 0, []),
  (1, .iconst 0, 2, 0, 0, 6, []),
  (3, .iload 1, 3, 0, 0, 0, []),
  (4, .iadd, 4, 0, 0, 0, []),
  (5, .invokevirtual 0, 5, 157, 1, 0, [8, 0, 0]),
  (8, .ifCond .ge 0, 6, 14, 0, 0, []),
  (11, .aload 0, 7, 0, 0, 0, []),
  (12, .iconst 0, 8, 0, 0, 12, []),
  (14, .iload 1, 9, 0, 0, 0, []),
  (15, .iadd, 10, 0, 0, 0, []),
  (16, .invokevirtual 0, 11, 157, 1, 0, [8, 0, 0]),
  (19, .ifCond .ge 0, 12, 14, 0, 0, []),
  (22, .iconst 0, 13, 0, 0, 1, []),
  (23, .goto 0, 14, 15, 0, 0, []),
  (26, .iconst 0, 15, 0, 0, 0, []),
  (27, .ireturn, 16, 0, 0, 0, [])]]
/-- HatFieldsModel.bow(II)I -/
def hcd176 : hk_Cd := [
 [(0, .aload 0, 1, 0, 0, 0, []),
  (1, .iload 1, 2, 0, 0, 0, []),
  (2, .invokevirtual 0, 3, 155, 1, 0, [8, 0, 0]),
  (5, .ifCond .eq 0, 4, 11, 0, 0, []),
  (8, .aload 0, 5, 0, 0, 0, []),
  (9, .iload 2, 6, 0, 0, 0, []),
  (10, .invokevirtual 0, 7, 155, 1, 0, [8, 0, 0]),
  (13, .ifCond .eq 0, 8, 11, 0, 0, []),
  (16, .iload 1, 9, 0, 0, 0, []),
  (17, .iload 2, 10, 0, 0, 0, []),
  (18, .if_icmp .ne 0, 11, 13, 0, 0, []),
  (21, .iconst 0, 12, 0, 0, (-1), []),
  (22, .ireturn, 13, 0, 0, 0, []),
  (23, .aload 0, 14, 0, 0, 0, []),
  (24, .getfield 0, 15, 8, 8, 0, []),
  (27, .iconst 0, 16, 0, 0, 1, [])],
 [(28, .iload 1, 17, 0, 0, 0, []),
  (29, .iadd, 18, 0, 0, 0, []),
  (30, .iaload, 19, 0, 0, 0, []),
  (31, .aload 0, 20, 0, 0, 0, []),
  (32, .getfield 0, 21, 8, 8, 0, []),
  (35, .iconst 0, 22, 0, 0, 1, []),
  (36, .iload 2, 23, 0, 0, 0, []),
  (37, .iadd, 24, 0, 0, 0, []),
  (38, .iaload, 25, 0, 0, 0, []),
  (39, .if_icmp .eq 0, 26, 28, 0, 0, []),
  (42, .iconst 0, 27, 0, 0, (-4), []),
  (44, .ireturn, 28, 0, 0, 0, []),
  (45, .iconst 0, 29, 0, 0, 0, []),
  (46, .istore 3, 30, 0, 0, 0, []),
  (47, .iconst 0, 31, 0, 0, 0, []),
  (48, .istore 4, 32, 0, 0, 0, [])],
 [(50, .iload 4, 33, 0, 0, 0, []),
  (52, .aload 0, 34, 0, 0, 0, []),
  (53, .getfield 0, 35, 8, 4, 0, []),
  (56, .if_icmp .ge 0, 36, 64, 0, 0, []),
  (59, .aload 0, 37, 0, 0, 0, []),
  (60, .getfield 0, 38, 8, 8, 0, []),
  (63, .iconst 0, 39, 0, 0, 6, []),
  (65, .iload 4, 40, 0, 0, 0, []),
  (67, .iadd, 41, 0, 0, 0, []),
  (68, .iaload, 42, 0, 0, 0, []),
  (69, .istore 5, 43, 0, 0, 0, []),
  (71, .iload 5, 44, 0, 0, 0, []),
  (73, .iload 1, 45, 0, 0, 0, []),
  (74, .if_icmp .eq 0, 46, 49, 0, 0, []),
  (77, .iload 5, 47, 0, 0, 0, []),
  (79, .iload 2, 48, 0, 0, 0, [])],
 [(80, .if_icmp .ne 0, 49, 62, 0, 0, []),
  (83, .aload 0, 50, 0, 0, 0, []),
  (84, .getfield 0, 51, 8, 8, 0, []),
  (87, .iconst 0, 52, 0, 0, 6, []),
  (89, .iload 4, 53, 0, 0, 0, []),
  (91, .iadd, 54, 0, 0, 0, []),
  (92, .iload 5, 55, 0, 0, 0, []),
  (94, .iload 1, 56, 0, 0, 0, []),
  (95, .if_icmp .ne 0, 57, 59, 0, 0, []),
  (98, .iload 2, 58, 0, 0, 0, []),
  (99, .goto 0, 59, 60, 0, 0, []),
  (102, .iload 1, 60, 0, 0, 0, []),
  (103, .iastore, 61, 0, 0, 0, []),
  (104, .iinc 3 0, 62, 0, 0, 1, []),
  (107, .iinc 4 0, 63, 0, 0, 1, []),
  (110, .goto 0, 64, 32, 0, 0, [])],
 [(113, .iload 3, 65, 0, 0, 0, []),
  (114, .ireturn, 66, 0, 0, 0, [])]]
/-- HatFieldsModel.hours(I)I -/
def hcd177 : hk_Cd := [
 [(0, .iload 1, 1, 0, 0, 0, []),
  (1, .invokestatic 0, 2, 178, 1, 0, [8, 0, 0]),
  (4, .ifCond .ne 0, 3, 5, 0, 0, []),
  (7, .iconst 0, 4, 0, 0, (-1), []),
  (8, .ireturn, 5, 0, 0, 0, []),
  (9, .aload 0, 6, 0, 0, 0, []),
  (10, .iload 1, 7, 0, 0, 0, []),
  (11, .invokevirtual 0, 8, 179, 1, 0, [8, 0, 0]),
  (14, .aload 0, 9, 0, 0, 0, []),
  (15, .getfield 0, 10, 8, 8, 0, []),
  (18, .iconst 0, 11, 0, 0, 0, []),
  (19, .iaload, 12, 0, 0, 0, []),
  (20, .ireturn, 13, 0, 0, 0, [])]]
/-- HatFieldsModel.isTrial(I)Z -/
def hcd178 : hk_Cd := [
 [(0, .iload 0, 1, 0, 0, 0, []),
  (1, .iconst 0, 2, 0, 0, 0, []),
  (2, .iconst 0, 3, 0, 0, 48, []),
  (4, .invokestatic 0, 4, 130, 3, 0, [8, 0, 0]),
  (7, .ireturn, 5, 0, 0, 0, [])]]
/-- HatFieldsModel.go(I)V -/
def hcd179 : hk_Cd := [
 [(0, .iconst 0, 1, 0, 0, 0, []),
  (1, .istore 2, 2, 0, 0, 0, []),
  (2, .iload 2, 3, 0, 0, 0, []),
  (3, .iload 1, 4, 0, 0, 0, []),
  (4, .if_icmp .ge 0, 5, 28, 0, 0, []),
  (7, .aload 0, 6, 0, 0, 0, []),
  (8, .iconst 0, 7, 0, 0, 0, []),
  (9, .invokevirtual 0, 8, 157, 1, 0, [8, 0, 0]),
  (12, .iconst 0, 9, 0, 0, 96, []),
  (14, .if_icmp .ge 0, 10, 28, 0, 0, []),
  (17, .aload 0, 11, 0, 0, 0, []),
  (18, .iconst 0, 12, 0, 0, 0, []),
  (19, .invokevirtual 0, 13, 157, 1, 0, [8, 0, 0]),
  (22, .iconst 0, 14, 0, 0, 24, []),
  (24, .irem, 15, 0, 0, 0, []),
  (25, .istore 3, 16, 0, 0, 0, [])],
 [(26, .aload 0, 17, 0, 0, 0, []),
  (27, .aload 0, 18, 0, 0, 0, []),
  (28, .getfield 0, 19, 8, 0, 0, []),
  (31, .iload 3, 20, 0, 0, 0, []),
  (32, .iaload, 21, 0, 0, 0, []),
  (33, .aload 0, 22, 0, 0, 0, []),
  (34, .getfield 0, 23, 8, 1, 0, []),
  (37, .iload 3, 24, 0, 0, 0, []),
  (38, .iaload, 25, 0, 0, 0, []),
  (39, .invokevirtual 0, 26, 180, 2, 0, [8, 0, 0]),
  (42, .iinc 2 0, 27, 0, 0, 1, []),
  (45, .goto 0, 28, 2, 0, 0, []),
  (48, .return_, 29, 0, 0, 0, [])]]
end
section
/-- HatFieldsModel.hourGoes(II)V -/
def hcd180 : hk_Cd := [
 [(0, .aload 0, 1, 0, 0, 0, []),
  (1, .iload 1, 2, 0, 0, 0, []),
  (2, .iload 2, 3, 0, 0, 0, []),
  (3, .invokevirtual 0, 4, 181, 2, 0, [8, 0, 0]),
  (6, .iconst 0, 5, 0, 0, 0, []),
  (7, .istore 3, 6, 0, 0, 0, []),
  (8, .iload 3, 7, 0, 0, 0, []),
  (9, .aload 0, 8, 0, 0, 0, []),
  (10, .getfield 0, 9, 8, 2, 0, []),
  (13, .if_icmp .ge 0, 10, 15, 0, 0, []),
  (16, .aload 0, 11, 0, 0, 0, []),
  (17, .iload 3, 12, 0, 0, 0, []),
  (18, .invokevirtual 0, 13, 182, 1, 0, [8, 0, 0]),
  (21, .iinc 3 0, 14, 0, 0, 1, []),
  (24, .goto 0, 15, 6, 0, 0, []),
  (27, .aload 0, 16, 0, 0, 0, [])],
 [(28, .iconst 0, 17, 0, 0, 0, []),
  (29, .aload 0, 18, 0, 0, 0, []),
  (30, .iconst 0, 19, 0, 0, 0, []),
  (31, .invokevirtual 0, 20, 157, 1, 0, [8, 0, 0]),
  (34, .iconst 0, 21, 0, 0, 1, []),
  (35, .iadd, 22, 0, 0, 0, []),
  (36, .invokevirtual 0, 23, 173, 2, 0, [8, 0, 0]),
  (39, .return_, 24, 0, 0, 0, [])]]
/-- HatFieldsModel.blows(II)V -/
def hcd181 : hk_Cd := [
 [(0, .iconst 0, 1, 0, 0, 0, []),
  (1, .istore 3, 2, 0, 0, 0, []),
  (2, .iload 3, 3, 0, 0, 0, []),
  (3, .aload 0, 4, 0, 0, 0, []),
  (4, .getfield 0, 5, 8, 4, 0, []),
  (7, .if_icmp .ge 0, 6, 22, 0, 0, []),
  (10, .aload 0, 7, 0, 0, 0, []),
  (11, .iconst 0, 8, 0, 0, 6, []),
  (13, .iload 3, 9, 0, 0, 0, []),
  (14, .iadd, 10, 0, 0, 0, []),
  (15, .invokevirtual 0, 11, 157, 1, 0, [8, 0, 0]),
  (18, .ifCond .lt 0, 12, 20, 0, 0, []),
  (21, .aload 0, 13, 0, 0, 0, []),
  (22, .iload 3, 14, 0, 0, 0, []),
  (23, .invokevirtual 0, 15, 166, 1, 0, [8, 0, 0]),
  (26, .iload 2, 16, 0, 0, 0, [])],
 [(27, .if_icmp .ge 0, 17, 20, 0, 0, []),
  (30, .aload 0, 18, 0, 0, 0, []),
  (31, .iload 3, 19, 0, 0, 0, []),
  (32, .invokevirtual 0, 20, 172, 1, 0, [8, 0, 0]),
  (35, .iinc 3 0, 21, 0, 0, 1, []),
  (38, .goto 0, 22, 2, 0, 0, []),
  (41, .iconst 0, 23, 0, 0, 0, []),
  (42, .istore 3, 24, 0, 0, 0, []),
  (43, .iload 3, 25, 0, 0, 0, []),
  (44, .aload 0, 26, 0, 0, 0, []),
  (45, .getfield 0, 27, 8, 4, 0, []),
  (48, .if_icmp .ge 0, 28, 104, 0, 0, []),
  (51, .aload 0, 29, 0, 0, 0, []),
  (52, .iload 3, 30, 0, 0, 0, []),
  (53, .invokevirtual 0, 31, 170, 1, 0, [8, 0, 0]),
  (56, .ifCond .eq 0, 32, 102, 0, 0, [])],
 [(59, .aload 0, 33, 0, 0, 0, []),
  (60, .iload 3, 34, 0, 0, 0, []),
  (61, .iload 2, 35, 0, 0, 0, []),
  (62, .invokevirtual 0, 36, 167, 2, 0, [8, 0, 0]),
  (65, .istore 4, 37, 0, 0, 0, []),
  (67, .aload 0, 38, 0, 0, 0, []),
  (68, .iconst 0, 39, 0, 0, 12, []),
  (70, .iload 3, 40, 0, 0, 0, []),
  (71, .iadd, 41, 0, 0, 0, []),
  (72, .invokevirtual 0, 42, 157, 1, 0, [8, 0, 0]),
  (75, .iconst 0, 43, 0, 0, 5, []),
  (76, .irem, 44, 0, 0, 0, []),
  (77, .iload 1, 45, 0, 0, 0, []),
  (78, .iconst 0, 46, 0, 0, 1, []),
  (79, .if_icmp .ne 0, 47, 49, 0, 0, []),
  (82, .iload 4, 48, 0, 0, 0, [])],
 [(84, .goto 0, 49, 57, 0, 0, []),
  (87, .iload 1, 50, 0, 0, 0, []),
  (88, .iconst 0, 51, 0, 0, 3, []),
  (89, .if_icmp .ne 0, 52, 56, 0, 0, []),
  (92, .iconst 0, 53, 0, 0, 0, []),
  (93, .iload 4, 54, 0, 0, 0, []),
  (95, .isub, 55, 0, 0, 0, []),
  (96, .goto 0, 56, 57, 0, 0, []),
  (99, .iconst 0, 57, 0, 0, 0, []),
  (100, .iadd, 58, 0, 0, 0, []),
  (101, .istore 5, 59, 0, 0, 0, []),
  (103, .aload 0, 60, 0, 0, 0, []),
  (104, .iconst 0, 61, 0, 0, 12, []),
  (106, .iload 3, 62, 0, 0, 0, []),
  (107, .iadd, 63, 0, 0, 0, []),
  (108, .invokevirtual 0, 64, 157, 1, 0, [8, 0, 0])],
 [(111, .iconst 0, 65, 0, 0, 5, []),
  (112, .idiv, 66, 0, 0, 0, []),
  (113, .iload 1, 67, 0, 0, 0, []),
  (114, .iconst 0, 68, 0, 0, 2, []),
  (115, .if_icmp .ne 0, 69, 71, 0, 0, []),
  (118, .iload 4, 70, 0, 0, 0, []),
  (120, .goto 0, 71, 78, 0, 0, []),
  (123, .iload 1, 72, 0, 0, 0, []),
  (124, .ifCond .ne 0, 73, 77, 0, 0, []),
  (127, .iconst 0, 74, 0, 0, 0, []),
  (128, .iload 4, 75, 0, 0, 0, []),
  (130, .isub, 76, 0, 0, 0, []),
  (131, .goto 0, 77, 78, 0, 0, []),
  (134, .iconst 0, 78, 0, 0, 0, []),
  (135, .iadd, 79, 0, 0, 0, []),
  (136, .istore 6, 80, 0, 0, 0, [])],
 [(138, .aload 0, 81, 0, 0, 0, []),
  (139, .iconst 0, 82, 0, 0, 12, []),
  (141, .iload 3, 83, 0, 0, 0, []),
  (142, .iadd, 84, 0, 0, 0, []),
  (143, .iload 5, 85, 0, 0, 0, []),
  (145, .iconst 0, 86, 0, 0, 0, []),
  (146, .iconst 0, 87, 0, 0, 4, []),
  (147, .invokestatic 0, 88, 130, 3, 0, [8, 0, 0]),
  (150, .ifCond .eq 0, 89, 100, 0, 0, []),
  (153, .iload 6, 90, 0, 0, 0, []),
  (155, .iconst 0, 91, 0, 0, 0, []),
  (156, .iconst 0, 92, 0, 0, 4, []),
  (157, .invokestatic 0, 93, 130, 3, 0, [8, 0, 0]),
  (160, .ifCond .eq 0, 94, 100, 0, 0, []),
  (163, .iconst 0, 95, 0, 0, 5, []),
  (164, .iload 6, 96, 0, 0, 0, [])],
 [(166, .imul, 97, 0, 0, 0, []),
  (167, .iload 5, 98, 0, 0, 0, []),
  (169, .iadd, 99, 0, 0, 0, []),
  (170, .goto 0, 100, 101, 0, 0, []),
  (173, .iconst 0, 101, 0, 0, (-1), []),
  (174, .invokevirtual 0, 102, 173, 2, 0, [8, 0, 0]),
  (177, .iinc 3 0, 103, 0, 0, 1, []),
  (180, .goto 0, 104, 24, 0, 0, []),
  (183, .return_, 105, 0, 0, 0, [])]]
/-- HatFieldsModel.runs(I)V -/
def hcd182 : hk_Cd := [
 [(0, .iconst 0, 1, 0, 0, (-1), []),
  (1, .istore 2, 2, 0, 0, 0, []),
  (2, .iconst 0, 3, 0, 0, 0, []),
  (3, .istore 3, 4, 0, 0, 0, []),
  (4, .iload 3, 5, 0, 0, 0, []),
  (5, .aload 0, 6, 0, 0, 0, []),
  (6, .getfield 0, 7, 8, 4, 0, []),
  (9, .if_icmp .ge 0, 8, 41, 0, 0, []),
  (12, .aload 0, 9, 0, 0, 0, []),
  (13, .iload 3, 10, 0, 0, 0, []),
  (14, .invokevirtual 0, 11, 170, 1, 0, [8, 0, 0]),
  (17, .ifCond .eq 0, 12, 39, 0, 0, []),
  (20, .iload 2, 13, 0, 0, 0, []),
  (21, .ifCond .lt 0, 14, 37, 0, 0, []),
  (24, .aload 0, 15, 0, 0, 0, []),
  (25, .iconst 0, 16, 0, 0, 1, [])],
 [(26, .iload 1, 17, 0, 0, 0, []),
  (27, .iadd, 18, 0, 0, 0, []),
  (28, .invokevirtual 0, 19, 157, 1, 0, [8, 0, 0]),
  (31, .aload 0, 20, 0, 0, 0, []),
  (32, .iconst 0, 21, 0, 0, 12, []),
  (34, .iload 3, 22, 0, 0, 0, []),
  (35, .iadd, 23, 0, 0, 0, []),
  (36, .invokevirtual 0, 24, 157, 1, 0, [8, 0, 0]),
  (39, .invokestatic 0, 25, 183, 2, 0, [8, 0, 0]),
  (42, .aload 0, 26, 0, 0, 0, []),
  (43, .iconst 0, 27, 0, 0, 1, []),
  (44, .iload 1, 28, 0, 0, 0, []),
  (45, .iadd, 29, 0, 0, 0, []),
  (46, .invokevirtual 0, 30, 157, 1, 0, [8, 0, 0]),
  (49, .aload 0, 31, 0, 0, 0, []),
  (50, .iconst 0, 32, 0, 0, 12, [])],
 [(52, .iload 2, 33, 0, 0, 0, []),
  (53, .iadd, 34, 0, 0, 0, []),
  (54, .invokevirtual 0, 35, 157, 1, 0, [8, 0, 0]),
  (57, .invokestatic 0, 36, 183, 2, 0, [8, 0, 0]),
  (60, .if_icmp .ge 0, 37, 39, 0, 0, []),
  (63, .iload 3, 38, 0, 0, 0, []),
  (64, .istore 2, 39, 0, 0, 0, []),
  (65, .iinc 3 0, 40, 0, 0, 1, []),
  (68, .goto 0, 41, 4, 0, 0, []),
  (71, .iload 2, 42, 0, 0, 0, []),
  (72, .ifCond .ge 0, 43, 44, 0, 0, []),
  (75, .return_, 44, 0, 0, 0, []),
  (76, .aload 0, 45, 0, 0, 0, []),
  (77, .iconst 0, 46, 0, 0, 12, []),
  (79, .iload 2, 47, 0, 0, 0, []),
  (80, .iadd, 48, 0, 0, 0, [])],
 [(81, .invokevirtual 0, 49, 157, 1, 0, [8, 0, 0]),
  (84, .istore 3, 50, 0, 0, 0, []),
  (85, .iconst 0, 51, 0, 0, 0, []),
  (86, .istore 4, 52, 0, 0, 0, []),
  (88, .iload 4, 53, 0, 0, 0, []),
  (90, .aload 0, 54, 0, 0, 0, []),
  (91, .getfield 0, 55, 8, 3, 0, []),
  (94, .iload 1, 56, 0, 0, 0, []),
  (95, .iaload, 57, 0, 0, 0, []),
  (96, .if_icmp .ge 0, 58, 72, 0, 0, []),
  (99, .aload 0, 59, 0, 0, 0, []),
  (100, .iconst 0, 60, 0, 0, 1, []),
  (101, .iload 1, 61, 0, 0, 0, []),
  (102, .iadd, 62, 0, 0, 0, []),
  (103, .aload 0, 63, 0, 0, 0, []),
  (104, .iconst 0, 64, 0, 0, 1, [])],
 [(105, .iload 1, 65, 0, 0, 0, []),
  (106, .iadd, 66, 0, 0, 0, []),
  (107, .invokevirtual 0, 67, 157, 1, 0, [8, 0, 0]),
  (110, .iload 3, 68, 0, 0, 0, []),
  (111, .invokestatic 0, 69, 184, 2, 0, [8, 0, 0]),
  (114, .invokevirtual 0, 70, 173, 2, 0, [8, 0, 0]),
  (117, .iinc 4 0, 71, 0, 0, 1, []),
  (120, .goto 0, 72, 52, 0, 0, []),
  (123, .aload 0, 73, 0, 0, 0, []),
  (124, .iconst 0, 74, 0, 0, 1, []),
  (125, .iload 1, 75, 0, 0, 0, []),
  (126, .iadd, 76, 0, 0, 0, []),
  (127, .invokevirtual 0, 77, 157, 1, 0, [8, 0, 0]),
  (130, .iload 3, 78, 0, 0, 0, []),
  (131, .if_icmp .ne 0, 79, 104, 0, 0, []),
  (134, .iconst 0, 80, 0, 0, 0, [])],
 [(135, .istore 4, 81, 0, 0, 0, []),
  (137, .iload 4, 82, 0, 0, 0, []),
  (139, .aload 0, 83, 0, 0, 0, []),
  (140, .getfield 0, 84, 8, 4, 0, []),
  (143, .if_icmp .ge 0, 85, 104, 0, 0, []),
  (146, .aload 0, 86, 0, 0, 0, []),
  (147, .iload 4, 87, 0, 0, 0, []),
  (149, .invokevirtual 0, 88, 170, 1, 0, [8, 0, 0]),
  (152, .ifCond .eq 0, 89, 102, 0, 0, []),
  (155, .aload 0, 90, 0, 0, 0, []),
  (156, .iconst 0, 91, 0, 0, 12, []),
  (158, .iload 4, 92, 0, 0, 0, []),
  (160, .iadd, 93, 0, 0, 0, []),
  (161, .invokevirtual 0, 94, 157, 1, 0, [8, 0, 0]),
  (164, .iload 3, 95, 0, 0, 0, []),
  (165, .if_icmp .ne 0, 96, 102, 0, 0, [])],
 [(168, .aload 0, 97, 0, 0, 0, []),
  (169, .iconst 0, 98, 0, 0, 6, []),
  (171, .iload 4, 99, 0, 0, 0, []),
  (173, .iadd, 100, 0, 0, 0, []),
  (174, .iload 1, 101, 0, 0, 0, []),
  (175, .invokevirtual 0, 102, 173, 2, 0, [8, 0, 0]),
  (178, .iinc 4 0, 103, 0, 0, 1, []),
  (181, .goto 0, 104, 81, 0, 0, []),
  (184, .return_, 105, 0, 0, 0, [])]]
/-- HatFieldsModel.apart(II)I -/
def hcd183 : hk_Cd := [
 [(0, .iload 0, 1, 0, 0, 0, []),
  (1, .iconst 0, 2, 0, 0, 5, []),
  (2, .irem, 3, 0, 0, 0, []),
  (3, .iload 1, 4, 0, 0, 0, []),
  (4, .iconst 0, 5, 0, 0, 5, []),
  (5, .irem, 6, 0, 0, 0, []),
  (6, .isub, 7, 0, 0, 0, []),
  (7, .istore 2, 8, 0, 0, 0, []),
  (8, .iload 0, 9, 0, 0, 0, []),
  (9, .iconst 0, 10, 0, 0, 5, []),
  (10, .idiv, 11, 0, 0, 0, []),
  (11, .iload 1, 12, 0, 0, 0, []),
  (12, .iconst 0, 13, 0, 0, 5, []),
  (13, .idiv, 14, 0, 0, 0, []),
  (14, .isub, 15, 0, 0, 0, []),
  (15, .istore 3, 16, 0, 0, 0, [])],
 [(16, .iload 2, 17, 0, 0, 0, []),
  (17, .ifCond .ge 0, 18, 22, 0, 0, []),
  (20, .iconst 0, 19, 0, 0, 0, []),
  (21, .iload 2, 20, 0, 0, 0, []),
  (22, .isub, 21, 0, 0, 0, []),
  (23, .goto 0, 22, 23, 0, 0, []),
  (26, .iload 2, 23, 0, 0, 0, []),
  (27, .iload 3, 24, 0, 0, 0, []),
  (28, .ifCond .ge 0, 25, 29, 0, 0, []),
  (31, .iconst 0, 26, 0, 0, 0, []),
  (32, .iload 3, 27, 0, 0, 0, []),
  (33, .isub, 28, 0, 0, 0, []),
  (34, .goto 0, 29, 30, 0, 0, []),
  (37, .iload 3, 30, 0, 0, 0, []),
  (38, .iadd, 31, 0, 0, 0, []),
  (39, .ireturn, 32, 0, 0, 0, [])]]
/-- HatFieldsModel.stepTo(II)I -/
def hcd184 : hk_Cd := [
 [(0, .iload 0, 1, 0, 0, 0, []),
  (1, .iconst 0, 2, 0, 0, 5, []),
  (2, .irem, 3, 0, 0, 0, []),
  (3, .iload 1, 4, 0, 0, 0, []),
  (4, .iconst 0, 5, 0, 0, 5, []),
  (5, .irem, 6, 0, 0, 0, []),
  (6, .isub, 7, 0, 0, 0, []),
  (7, .istore 2, 8, 0, 0, 0, []),
  (8, .iload 2, 9, 0, 0, 0, []),
  (9, .ifCond .ge 0, 10, 14, 0, 0, []),
  (12, .iload 0, 11, 0, 0, 0, []),
  (13, .iconst 0, 12, 0, 0, 1, []),
  (14, .iadd, 13, 0, 0, 0, []),
  (15, .goto 0, 14, 35, 0, 0, []),
  (18, .iload 2, 15, 0, 0, 0, []),
  (19, .ifCond .le 0, 16, 20, 0, 0, [])],
 [(22, .iload 0, 17, 0, 0, 0, []),
  (23, .iconst 0, 18, 0, 0, 1, []),
  (24, .isub, 19, 0, 0, 0, []),
  (25, .goto 0, 20, 35, 0, 0, []),
  (28, .iload 0, 21, 0, 0, 0, []),
  (29, .iload 1, 22, 0, 0, 0, []),
  (30, .if_icmp .ge 0, 23, 27, 0, 0, []),
  (33, .iload 0, 24, 0, 0, 0, []),
  (34, .iconst 0, 25, 0, 0, 5, []),
  (35, .iadd, 26, 0, 0, 0, []),
  (36, .goto 0, 27, 35, 0, 0, []),
  (39, .iload 0, 28, 0, 0, 0, []),
  (40, .iload 1, 29, 0, 0, 0, []),
  (41, .if_icmp .le 0, 30, 34, 0, 0, []),
  (44, .iload 0, 31, 0, 0, 0, []),
  (45, .iconst 0, 32, 0, 0, 5, [])],
 [(46, .isub, 33, 0, 0, 0, []),
  (47, .goto 0, 34, 35, 0, 0, []),
  (50, .iload 0, 35, 0, 0, 0, []),
  (51, .ireturn, 36, 0, 0, 0, [])]]
/-- HatFieldsModel.clock(I)I -/
def hcd185 : hk_Cd := [
 [(0, .iload 1, 1, 0, 0, 0, []),
  (1, .iconst 0, 2, 0, 0, 0, []),
  (2, .iconst 0, 3, 0, 0, 96, []),
  (4, .invokestatic 0, 4, 130, 3, 0, [8, 0, 0]),
  (7, .ifCond .ne 0, 5, 7, 0, 0, []),
  (10, .iconst 0, 6, 0, 0, (-1), []),
  (11, .ireturn, 7, 0, 0, 0, []),
  (12, .aload 0, 8, 0, 0, 0, []),
  (13, .getfield 0, 9, 8, 8, 0, []),
  (16, .iconst 0, 10, 0, 0, 0, []),
  (17, .iaload, 11, 0, 0, 0, []),
  (18, .istore 2, 12, 0, 0, 0, []),
  (19, .aload 0, 13, 0, 0, 0, []),
  (20, .getfield 0, 14, 8, 8, 0, []),
  (23, .iconst 0, 15, 0, 0, 0, []),
  (24, .iload 1, 16, 0, 0, 0, [])],
 [(25, .iastore, 17, 0, 0, 0, []),
  (26, .iload 2, 18, 0, 0, 0, []),
  (27, .ireturn, 19, 0, 0, 0, [])]]
/-- HatFieldsModel.owns(II)I -/
def hcd186 : hk_Cd := [
 [(0, .aload 0, 1, 0, 0, 0, []),
  (1, .iload 1, 2, 0, 0, 0, []),
  (2, .invokevirtual 0, 3, 155, 1, 0, [8, 0, 0]),
  (5, .ifCond .eq 0, 4, 12, 0, 0, []),
  (8, .iload 2, 5, 0, 0, 0, []),
  (9, .invokestatic 0, 6, 178, 1, 0, [8, 0, 0]),
  (12, .ifCond .eq 0, 7, 12, 0, 0, []),
  (15, .aload 0, 8, 0, 0, 0, []),
  (16, .iload 1, 9, 0, 0, 0, []),
  (17, .iload 2, 10, 0, 0, 0, []),
  (18, .invokevirtual 0, 11, 187, 2, 0, [8, 0, 0]),
  (21, .goto 0, 12, 13, 0, 0, []),
  (24, .iconst 0, 13, 0, 0, (-1), []),
  (25, .ireturn, 14, 0, 0, 0, [])]]
/-- HatFieldsModel.ownsThen(II)I -/
def hcd187 : hk_Cd := [
 [(0, .aload 0, 1, 0, 0, 0, []),
  (1, .invokevirtual 0, 2, 188, 0, 0, [8, 0, 0]),
  (4, .aload 0, 3, 0, 0, 0, []),
  (5, .iload 2, 4, 0, 0, 0, []),
  (6, .invokevirtual 0, 5, 179, 1, 0, [8, 0, 0]),
  (9, .aload 0, 6, 0, 0, 0, []),
  (10, .iload 1, 7, 0, 0, 0, []),
  (11, .invokevirtual 0, 8, 156, 1, 0, [8, 0, 0]),
  (14, .istore 3, 9, 0, 0, 0, []),
  (15, .aload 0, 10, 0, 0, 0, []),
  (16, .iconst 0, 11, 0, 0, 0, []),
  (17, .putfield 0, 12, 8, 9, 0, [0]),
  (20, .iload 3, 13, 0, 0, 0, []),
  (21, .ireturn, 14, 0, 0, 0, [])]]
/-- HatFieldsModel.lends()V -/
def hcd188 : hk_Cd := [
 [(0, .aload 0, 1, 0, 0, 0, []),
  (1, .iconst 0, 2, 0, 0, 0, []),
  (2, .putfield 0, 3, 8, 9, 0, [0]),
  (5, .iconst 0, 4, 0, 0, 0, []),
  (6, .istore 1, 5, 0, 0, 0, []),
  (7, .iload 1, 6, 0, 0, 0, []),
  (8, .iconst 0, 7, 0, 0, 18, []),
  (10, .if_icmp .ge 0, 8, 20, 0, 0, []),
  (13, .aload 0, 9, 0, 0, 0, []),
  (14, .getfield 0, 10, 8, 8, 0, []),
  (17, .iconst 0, 11, 0, 0, 18, []),
  (19, .iload 1, 12, 0, 0, 0, []),
  (20, .iadd, 13, 0, 0, 0, []),
  (21, .aload 0, 14, 0, 0, 0, []),
  (22, .getfield 0, 15, 8, 8, 0, []),
  (25, .iload 1, 16, 0, 0, 0, [])],
 [(26, .iaload, 17, 0, 0, 0, []),
  (27, .iastore, 18, 0, 0, 0, []),
  (28, .iinc 1 0, 19, 0, 0, 1, []),
  (31, .goto 0, 20, 5, 0, 0, []),
  (34, .aload 0, 21, 0, 0, 0, []),
  (35, .iconst 0, 22, 0, 0, 18, []),
  (37, .putfield 0, 23, 8, 9, 0, [0]),
  (40, .return_, 24, 0, 0, 0, [])]]
/-- HatFieldsModel.where(II)I -/
def hcd189 : hk_Cd := [
 [(0, .aload 0, 1, 0, 0, 0, []),
  (1, .iload 1, 2, 0, 0, 0, []),
  (2, .invokevirtual 0, 3, 163, 1, 0, [8, 0, 0]),
  (5, .ifCond .eq 0, 4, 7, 0, 0, []),
  (8, .iload 2, 5, 0, 0, 0, []),
  (9, .invokestatic 0, 6, 178, 1, 0, [8, 0, 0]),
  (12, .ifCond .ne 0, 7, 9, 0, 0, []),
  (15, .iconst 0, 8, 0, 0, (-1), []),
  (16, .ireturn, 9, 0, 0, 0, []),
  (17, .aload 0, 10, 0, 0, 0, []),
  (18, .invokevirtual 0, 11, 188, 0, 0, [8, 0, 0]),
  (21, .aload 0, 12, 0, 0, 0, []),
  (22, .iload 2, 13, 0, 0, 0, []),
  (23, .invokevirtual 0, 14, 179, 1, 0, [8, 0, 0]),
  (26, .aload 0, 15, 0, 0, 0, []),
  (27, .iload 1, 16, 0, 0, 0, [])],
 [(28, .invokevirtual 0, 17, 165, 1, 0, [8, 0, 0]),
  (31, .istore 3, 18, 0, 0, 0, []),
  (32, .aload 0, 19, 0, 0, 0, []),
  (33, .iconst 0, 20, 0, 0, 0, []),
  (34, .putfield 0, 21, 8, 9, 0, [0]),
  (37, .iload 3, 22, 0, 0, 0, []),
  (38, .invokestatic 0, 23, 164, 1, 0, [8, 0, 0]),
  (41, .ireturn, 24, 0, 0, 0, [])]]
/-- HatFieldsModel.wears(II)I -/
def hcd190 : hk_Cd := [
 [(0, .aload 0, 1, 0, 0, 0, []),
  (1, .iload 1, 2, 0, 0, 0, []),
  (2, .invokevirtual 0, 3, 163, 1, 0, [8, 0, 0]),
  (5, .ifCond .eq 0, 4, 7, 0, 0, []),
  (8, .iload 2, 5, 0, 0, 0, []),
  (9, .invokestatic 0, 6, 178, 1, 0, [8, 0, 0]),
  (12, .ifCond .ne 0, 7, 9, 0, 0, []),
  (15, .iconst 0, 8, 0, 0, (-1), []),
  (16, .ireturn, 9, 0, 0, 0, []),
  (17, .aload 0, 10, 0, 0, 0, []),
  (18, .invokevirtual 0, 11, 188, 0, 0, [8, 0, 0]),
  (21, .aload 0, 12, 0, 0, 0, []),
  (22, .iload 2, 13, 0, 0, 0, []),
  (23, .invokevirtual 0, 14, 179, 1, 0, [8, 0, 0]),
  (26, .aload 0, 15, 0, 0, 0, []),
  (27, .iconst 0, 16, 0, 0, 6, [])],
 [(29, .iload 1, 17, 0, 0, 0, []),
  (30, .iadd, 18, 0, 0, 0, []),
  (31, .invokevirtual 0, 19, 157, 1, 0, [8, 0, 0]),
  (34, .istore 3, 20, 0, 0, 0, []),
  (35, .aload 0, 21, 0, 0, 0, []),
  (36, .iconst 0, 22, 0, 0, 0, []),
  (37, .putfield 0, 23, 8, 9, 0, [0]),
  (40, .iload 3, 24, 0, 0, 0, []),
  (41, .invokestatic 0, 25, 164, 1, 0, [8, 0, 0]),
  (44, .ireturn, 26, 0, 0, 0, [])]]
/-- HatFieldsModel.lost(I)I -/
def hcd191 : hk_Cd := [
 [(0, .aload 0, 1, 0, 0, 0, []),
  (1, .iload 1, 2, 0, 0, 0, []),
  (2, .invokevirtual 0, 3, 163, 1, 0, [8, 0, 0]),
  (5, .ifCond .ne 0, 4, 6, 0, 0, []),
  (8, .iconst 0, 5, 0, 0, (-1), []),
  (9, .ireturn, 6, 0, 0, 0, []),
  (10, .aload 0, 7, 0, 0, 0, []),
  (11, .invokevirtual 0, 8, 188, 0, 0, [8, 0, 0]),
  (14, .aload 0, 9, 0, 0, 0, []),
  (15, .iload 1, 10, 0, 0, 0, []),
  (16, .invokevirtual 0, 11, 175, 1, 0, [8, 0, 0]),
  (19, .ifCond .eq 0, 12, 14, 0, 0, []),
  (22, .iconst 0, 13, 0, 0, 0, []),
  (23, .goto 0, 14, 15, 0, 0, []),
  (26, .iconst 0, 15, 0, 0, (-3), []),
  (28, .istore 2, 16, 0, 0, 0, [])],
 [(29, .iconst 0, 17, 0, 0, 1, []),
  (30, .istore 3, 18, 0, 0, 0, []),
  (31, .iload 3, 19, 0, 0, 0, []),
  (32, .iconst 0, 20, 0, 0, 48, []),
  (34, .if_icmp .gt 0, 21, 41, 0, 0, []),
  (37, .iload 2, 22, 0, 0, 0, []),
  (38, .ifCond .ge 0, 23, 41, 0, 0, []),
  (41, .aload 0, 24, 0, 0, 0, []),
  (42, .iconst 0, 25, 0, 0, 0, []),
  (43, .invokevirtual 0, 26, 157, 1, 0, [8, 0, 0]),
  (46, .iconst 0, 27, 0, 0, 96, []),
  (48, .if_icmp .ge 0, 28, 41, 0, 0, []),
  (51, .aload 0, 29, 0, 0, 0, []),
  (52, .iconst 0, 30, 0, 0, 1, []),
  (53, .invokevirtual 0, 31, 179, 1, 0, [8, 0, 0]),
  (56, .aload 0, 32, 0, 0, 0, [])],
 [(57, .iload 1, 33, 0, 0, 0, []),
  (58, .invokevirtual 0, 34, 175, 1, 0, [8, 0, 0]),
  (61, .ifCond .eq 0, 35, 37, 0, 0, []),
  (64, .iload 3, 36, 0, 0, 0, []),
  (65, .goto 0, 37, 38, 0, 0, []),
  (68, .iconst 0, 38, 0, 0, (-3), []),
  (70, .istore 2, 39, 0, 0, 0, []),
  (71, .iinc 3 0, 40, 0, 0, 1, []),
  (74, .goto 0, 41, 18, 0, 0, []),
  (77, .aload 0, 42, 0, 0, 0, []),
  (78, .iconst 0, 43, 0, 0, 0, []),
  (79, .putfield 0, 44, 8, 9, 0, [0]),
  (82, .iload 2, 45, 0, 0, 0, []),
  (83, .ireturn, 46, 0, 0, 0, [])]]
/-- HatFieldsModel.master(I)I -/
def hcd192 : hk_Cd := [
 [(0, .iload 1, 1, 0, 0, 0, []),
  (1, .invokestatic 0, 2, 178, 1, 0, [8, 0, 0]),
  (4, .ifCond .ne 0, 3, 5, 0, 0, []),
  (7, .iconst 0, 4, 0, 0, (-1), []),
  (8, .ireturn, 5, 0, 0, 0, []),
  (9, .aload 0, 6, 0, 0, 0, []),
  (10, .invokevirtual 0, 7, 188, 0, 0, [8, 0, 0]),
  (13, .aload 0, 8, 0, 0, 0, []),
  (14, .iload 1, 9, 0, 0, 0, []),
  (15, .invokevirtual 0, 10, 179, 1, 0, [8, 0, 0]),
  (18, .iconst 0, 11, 0, 0, (-3), []),
  (20, .istore 2, 12, 0, 0, 0, []),
  (21, .iconst 0, 13, 0, 0, 0, []),
  (22, .istore 3, 14, 0, 0, 0, []),
  (23, .iload 3, 15, 0, 0, 0, []),
  (24, .aload 0, 16, 0, 0, 0, [])],
 [(25, .getfield 0, 17, 8, 2, 0, []),
  (28, .if_icmp .ge 0, 18, 33, 0, 0, []),
  (31, .iload 2, 19, 0, 0, 0, []),
  (32, .ifCond .lt 0, 20, 27, 0, 0, []),
  (35, .aload 0, 21, 0, 0, 0, []),
  (36, .iload 3, 22, 0, 0, 0, []),
  (37, .invokevirtual 0, 23, 156, 1, 0, [8, 0, 0]),
  (40, .aload 0, 24, 0, 0, 0, []),
  (41, .iload 2, 25, 0, 0, 0, []),
  (42, .invokevirtual 0, 26, 156, 1, 0, [8, 0, 0]),
  (45, .if_icmp .le 0, 27, 29, 0, 0, []),
  (48, .iload 3, 28, 0, 0, 0, []),
  (49, .goto 0, 29, 30, 0, 0, []),
  (52, .iload 2, 30, 0, 0, 0, []),
  (53, .istore 2, 31, 0, 0, 0, []),
  (54, .iinc 3 0, 32, 0, 0, 1, [])],
 [(57, .goto 0, 33, 14, 0, 0, []),
  (60, .aload 0, 34, 0, 0, 0, []),
  (61, .iconst 0, 35, 0, 0, 0, []),
  (62, .putfield 0, 36, 8, 9, 0, [0]),
  (65, .iload 2, 37, 0, 0, 0, []),
  (66, .ireturn, 38, 0, 0, 0, [])]]
/-- HatFieldsModel.wish(II)I -/
def hcd193 : hk_Cd := [
 [(0, .aload 0, 1, 0, 0, 0, []),
  (1, .iload 1, 2, 0, 0, 0, []),
  (2, .invokevirtual 0, 3, 155, 1, 0, [8, 0, 0]),
  (5, .ifCond .eq 0, 4, 7, 0, 0, []),
  (8, .iload 2, 5, 0, 0, 0, []),
  (9, .invokestatic 0, 6, 194, 1, 0, [8, 0, 0]),
  (12, .ifCond .ne 0, 7, 9, 0, 0, []),
  (15, .iconst 0, 8, 0, 0, (-1), []),
  (16, .ireturn, 9, 0, 0, 0, []),
  (17, .aload 0, 10, 0, 0, 0, []),
  (18, .getfield 0, 11, 8, 8, 0, []),
  (21, .iconst 0, 12, 0, 0, 0, []),
  (22, .iaload, 13, 0, 0, 0, []),
  (23, .iconst 0, 14, 0, 0, 96, []),
  (25, .if_icmp .ne 0, 15, 17, 0, 0, []),
  (28, .iconst 0, 16, 0, 0, (-4), [])],
 [(30, .ireturn, 17, 0, 0, 0, []),
  (31, .aload 0, 18, 0, 0, 0, []),
  (32, .getfield 0, 19, 8, 8, 0, []),
  (35, .iconst 0, 20, 0, 0, 0, []),
  (36, .iaload, 21, 0, 0, 0, []),
  (37, .iconst 0, 22, 0, 0, 24, []),
  (39, .irem, 23, 0, 0, 0, []),
  (40, .istore 3, 24, 0, 0, 0, []),
  (41, .aload 0, 25, 0, 0, 0, []),
  (42, .getfield 0, 26, 8, 0, 0, []),
  (45, .iload 3, 27, 0, 0, 0, []),
  (46, .iaload, 28, 0, 0, 0, []),
  (47, .istore 4, 29, 0, 0, 0, []),
  (49, .aload 0, 30, 0, 0, 0, []),
  (50, .getfield 0, 31, 8, 1, 0, []),
  (53, .iload 3, 32, 0, 0, 0, [])],
 [(54, .iaload, 33, 0, 0, 0, []),
  (55, .istore 5, 34, 0, 0, 0, []),
  (57, .iconst 0, 35, 0, 0, 0, []),
  (58, .istore 6, 36, 0, 0, 0, []),
  (60, .iconst 0, 37, 0, 0, (-1), []),
  (61, .istore 7, 38, 0, 0, 0, []),
  (63, .iconst 0, 39, 0, 0, 0, []),
  (64, .istore 8, 40, 0, 0, 0, []),
  (66, .iload 8, 41, 0, 0, 0, []),
  (68, .iconst 0, 42, 0, 0, 40, []),
  (70, .if_icmp .ge 0, 43, 78, 0, 0, []),
  (73, .aload 0, 44, 0, 0, 0, []),
  (74, .getfield 0, 45, 8, 0, 0, []),
  (77, .iload 3, 46, 0, 0, 0, []),
  (78, .iload 8, 47, 0, 0, 0, []),
  (80, .iconst 0, 48, 0, 0, 10, [])],
 [(82, .idiv, 49, 0, 0, 0, []),
  (83, .iastore, 50, 0, 0, 0, []),
  (84, .aload 0, 51, 0, 0, 0, []),
  (85, .getfield 0, 52, 8, 1, 0, []),
  (88, .iload 3, 53, 0, 0, 0, []),
  (89, .iload 8, 54, 0, 0, 0, []),
  (91, .iconst 0, 55, 0, 0, 10, []),
  (93, .irem, 56, 0, 0, 0, []),
  (94, .iastore, 57, 0, 0, 0, []),
  (95, .aload 0, 58, 0, 0, 0, []),
  (96, .iload 1, 59, 0, 0, 0, []),
  (97, .iload 2, 60, 0, 0, 0, []),
  (98, .invokevirtual 0, 61, 187, 2, 0, [8, 0, 0]),
  (101, .istore 9, 62, 0, 0, 0, []),
  (103, .iload 9, 63, 0, 0, 0, []),
  (105, .iload 7, 64, 0, 0, 0, [])],
 [(107, .if_icmp .le 0, 65, 67, 0, 0, []),
  (110, .iload 8, 66, 0, 0, 0, []),
  (112, .goto 0, 67, 68, 0, 0, []),
  (115, .iload 6, 68, 0, 0, 0, []),
  (117, .istore 6, 69, 0, 0, 0, []),
  (119, .iload 9, 70, 0, 0, 0, []),
  (121, .iload 7, 71, 0, 0, 0, []),
  (123, .if_icmp .le 0, 72, 74, 0, 0, []),
  (126, .iload 9, 73, 0, 0, 0, []),
  (128, .goto 0, 74, 75, 0, 0, []),
  (131, .iload 7, 75, 0, 0, 0, []),
  (133, .istore 7, 76, 0, 0, 0, []),
  (135, .iinc 8 0, 77, 0, 0, 1, []),
  (138, .goto 0, 78, 40, 0, 0, []),
  (141, .aload 0, 79, 0, 0, 0, []),
  (142, .getfield 0, 80, 8, 0, 0, [])],
 [(145, .iload 3, 81, 0, 0, 0, []),
  (146, .iload 4, 82, 0, 0, 0, []),
  (148, .iastore, 83, 0, 0, 0, []),
  (149, .aload 0, 84, 0, 0, 0, []),
  (150, .getfield 0, 85, 8, 1, 0, []),
  (153, .iload 3, 86, 0, 0, 0, []),
  (154, .iload 5, 87, 0, 0, 0, []),
  (156, .iastore, 88, 0, 0, 0, []),
  (157, .iload 6, 89, 0, 0, 0, []),
  (159, .ireturn, 90, 0, 0, 0, [])]]
/-- HatFieldsModel.isSoon(I)Z -/
def hcd194 : hk_Cd := [
 [(0, .iload 0, 1, 0, 0, 0, []),
  (1, .iconst 0, 2, 0, 0, 1, []),
  (2, .iconst 0, 3, 0, 0, 12, []),
  (4, .invokestatic 0, 4, 130, 3, 0, [8, 0, 0]),
  (7, .ireturn, 5, 0, 0, 0, [])]]
/-- HatFieldsModel.start(II)I -/
def hcd195 : hk_Cd := [
 [(0, .aload 0, 1, 0, 0, 0, []),
  (1, .iload 1, 2, 0, 0, 0, []),
  (2, .invokevirtual 0, 3, 155, 1, 0, [8, 0, 0]),
  (5, .ifCond .eq 0, 4, 7, 0, 0, []),
  (8, .iload 2, 5, 0, 0, 0, []),
  (9, .invokestatic 0, 6, 194, 1, 0, [8, 0, 0]),
  (12, .ifCond .ne 0, 7, 9, 0, 0, []),
  (15, .iconst 0, 8, 0, 0, (-1), []),
  (16, .ireturn, 9, 0, 0, 0, []),
  (17, .aload 0, 10, 0, 0, 0, []),
  (18, .getfield 0, 11, 8, 8, 0, []),
  (21, .iconst 0, 12, 0, 0, 1, []),
  (22, .iload 1, 13, 0, 0, 0, []),
  (23, .iadd, 14, 0, 0, 0, []),
  (24, .iaload, 15, 0, 0, 0, []),
  (25, .istore 3, 16, 0, 0, 0, [])],
 [(26, .iconst 0, 17, 0, 0, 0, []),
  (27, .istore 4, 18, 0, 0, 0, []),
  (29, .iconst 0, 19, 0, 0, (-1), []),
  (30, .istore 5, 20, 0, 0, 0, []),
  (32, .iconst 0, 21, 0, 0, 0, []),
  (33, .istore 6, 22, 0, 0, 0, []),
  (35, .iload 6, 23, 0, 0, 0, []),
  (37, .iconst 0, 24, 0, 0, 25, []),
  (39, .if_icmp .ge 0, 25, 53, 0, 0, []),
  (42, .aload 0, 26, 0, 0, 0, []),
  (43, .getfield 0, 27, 8, 8, 0, []),
  (46, .iconst 0, 28, 0, 0, 1, []),
  (47, .iload 1, 29, 0, 0, 0, []),
  (48, .iadd, 30, 0, 0, 0, []),
  (49, .iload 6, 31, 0, 0, 0, []),
  (51, .iastore, 32, 0, 0, 0, [])],
 [(52, .aload 0, 33, 0, 0, 0, []),
  (53, .iload 1, 34, 0, 0, 0, []),
  (54, .iload 2, 35, 0, 0, 0, []),
  (55, .invokevirtual 0, 36, 187, 2, 0, [8, 0, 0]),
  (58, .istore 7, 37, 0, 0, 0, []),
  (60, .iload 7, 38, 0, 0, 0, []),
  (62, .iload 5, 39, 0, 0, 0, []),
  (64, .if_icmp .le 0, 40, 42, 0, 0, []),
  (67, .iload 6, 41, 0, 0, 0, []),
  (69, .goto 0, 42, 43, 0, 0, []),
  (72, .iload 4, 43, 0, 0, 0, []),
  (74, .istore 4, 44, 0, 0, 0, []),
  (76, .iload 7, 45, 0, 0, 0, []),
  (78, .iload 5, 46, 0, 0, 0, []),
  (80, .if_icmp .le 0, 47, 49, 0, 0, []),
  (83, .iload 7, 48, 0, 0, 0, [])],
 [(85, .goto 0, 49, 50, 0, 0, []),
  (88, .iload 5, 50, 0, 0, 0, []),
  (90, .istore 5, 51, 0, 0, 0, []),
  (92, .iinc 6 0, 52, 0, 0, 1, []),
  (95, .goto 0, 53, 22, 0, 0, []),
  (98, .aload 0, 54, 0, 0, 0, []),
  (99, .getfield 0, 55, 8, 8, 0, []),
  (102, .iconst 0, 56, 0, 0, 1, []),
  (103, .iload 1, 57, 0, 0, 0, []),
  (104, .iadd, 58, 0, 0, 0, []),
  (105, .iload 3, 59, 0, 0, 0, []),
  (106, .iastore, 60, 0, 0, 0, []),
  (107, .iload 4, 61, 0, 0, 0, []),
  (109, .ireturn, 62, 0, 0, 0, [])]]
/-- HatFieldsModel.tie(II)I -/
def hcd196 : hk_Cd := [
 [(0, .aload 0, 1, 0, 0, 0, []),
  (1, .iload 1, 2, 0, 0, 0, []),
  (2, .invokevirtual 0, 3, 155, 1, 0, [8, 0, 0]),
  (5, .ifCond .eq 0, 4, 7, 0, 0, []),
  (8, .iload 2, 5, 0, 0, 0, []),
  (9, .invokestatic 0, 6, 194, 1, 0, [8, 0, 0]),
  (12, .ifCond .ne 0, 7, 9, 0, 0, []),
  (15, .iconst 0, 8, 0, 0, (-1), []),
  (16, .ireturn, 9, 0, 0, 0, []),
  (17, .iconst 0, 10, 0, 0, (-3), []),
  (19, .istore 3, 11, 0, 0, 0, []),
  (20, .iconst 0, 12, 0, 0, (-1), []),
  (21, .istore 4, 13, 0, 0, 0, []),
  (23, .iconst 0, 14, 0, 0, 0, []),
  (24, .istore 5, 15, 0, 0, 0, []),
  (26, .iload 5, 16, 0, 0, 0, [])],
 [(28, .aload 0, 17, 0, 0, 0, []),
  (29, .getfield 0, 18, 8, 4, 0, []),
  (32, .if_icmp .ge 0, 19, 70, 0, 0, []),
  (35, .aload 0, 20, 0, 0, 0, []),
  (36, .getfield 0, 21, 8, 5, 0, []),
  (39, .iload 5, 22, 0, 0, 0, []),
  (41, .iaload, 23, 0, 0, 0, []),
  (42, .istore 6, 24, 0, 0, 0, []),
  (44, .aload 0, 25, 0, 0, 0, []),
  (45, .getfield 0, 26, 8, 6, 0, []),
  (48, .iload 5, 27, 0, 0, 0, []),
  (50, .iaload, 28, 0, 0, 0, []),
  (51, .istore 7, 29, 0, 0, 0, []),
  (53, .aload 0, 30, 0, 0, 0, []),
  (54, .getfield 0, 31, 8, 5, 0, []),
  (57, .iload 5, 32, 0, 0, 0, [])],
 [(59, .iconst 0, 33, 0, 0, 3, []),
  (60, .iastore, 34, 0, 0, 0, []),
  (61, .aload 0, 35, 0, 0, 0, []),
  (62, .getfield 0, 36, 8, 6, 0, []),
  (65, .iload 5, 37, 0, 0, 0, []),
  (67, .iconst 0, 38, 0, 0, 9, []),
  (69, .iastore, 39, 0, 0, 0, []),
  (70, .aload 0, 40, 0, 0, 0, []),
  (71, .iload 1, 41, 0, 0, 0, []),
  (72, .iload 2, 42, 0, 0, 0, []),
  (73, .invokevirtual 0, 43, 187, 2, 0, [8, 0, 0]),
  (76, .istore 8, 44, 0, 0, 0, []),
  (78, .aload 0, 45, 0, 0, 0, []),
  (79, .getfield 0, 46, 8, 5, 0, []),
  (82, .iload 5, 47, 0, 0, 0, []),
  (84, .iload 6, 48, 0, 0, 0, [])],
 [(86, .iastore, 49, 0, 0, 0, []),
  (87, .aload 0, 50, 0, 0, 0, []),
  (88, .getfield 0, 51, 8, 6, 0, []),
  (91, .iload 5, 52, 0, 0, 0, []),
  (93, .iload 7, 53, 0, 0, 0, []),
  (95, .iastore, 54, 0, 0, 0, []),
  (96, .iload 8, 55, 0, 0, 0, []),
  (98, .iload 4, 56, 0, 0, 0, []),
  (100, .if_icmp .le 0, 57, 59, 0, 0, []),
  (103, .iload 5, 58, 0, 0, 0, []),
  (105, .goto 0, 59, 60, 0, 0, []),
  (108, .iload 3, 60, 0, 0, 0, []),
  (109, .istore 3, 61, 0, 0, 0, []),
  (110, .iload 8, 62, 0, 0, 0, []),
  (112, .iload 4, 63, 0, 0, 0, []),
  (114, .if_icmp .le 0, 64, 66, 0, 0, [])],
 [(117, .iload 8, 65, 0, 0, 0, []),
  (119, .goto 0, 66, 67, 0, 0, []),
  (122, .iload 4, 67, 0, 0, 0, []),
  (124, .istore 4, 68, 0, 0, 0, []),
  (126, .iinc 5 0, 69, 0, 0, 1, []),
  (129, .goto 0, 70, 15, 0, 0, []),
  (132, .iload 3, 71, 0, 0, 0, []),
  (133, .ireturn, 72, 0, 0, 0, [])]]
/-- HatFieldsModel.calm()I -/
def hcd197 : hk_Cd := [
 [(0, .aload 0, 1, 0, 0, 0, []),
  (1, .invokevirtual 0, 2, 188, 0, 0, [8, 0, 0]),
  (4, .iconst 0, 3, 0, 0, 0, []),
  (5, .istore 1, 4, 0, 0, 0, []),
  (6, .iload 1, 5, 0, 0, 0, []),
  (7, .iconst 0, 6, 0, 0, 48, []),
  (9, .if_icmp .gt 0, 7, 16, 0, 0, []),
  (12, .aload 0, 8, 0, 0, 0, []),
  (13, .invokevirtual 0, 9, 198, 0, 0, [8, 0, 0]),
  (16, .ifCond .ne 0, 10, 16, 0, 0, []),
  (19, .aload 0, 11, 0, 0, 0, []),
  (20, .iconst 0, 12, 0, 0, 0, []),
  (21, .iconst 0, 13, 0, 0, 0, []),
  (22, .invokevirtual 0, 14, 180, 2, 0, [8, 0, 0]),
  (25, .iinc 1 0, 15, 0, 0, 1, []),
  (28, .goto 0, 16, 4, 0, 0, [])],
 [(31, .aload 0, 17, 0, 0, 0, []),
  (32, .iconst 0, 18, 0, 0, 0, []),
  (33, .putfield 0, 19, 8, 9, 0, [0]),
  (36, .iload 1, 20, 0, 0, 0, []),
  (37, .iconst 0, 21, 0, 0, 48, []),
  (39, .if_icmp .le 0, 22, 24, 0, 0, []),
  (42, .iconst 0, 23, 0, 0, (-3), []),
  (44, .goto 0, 24, 25, 0, 0, []),
  (47, .iload 1, 25, 0, 0, 0, []),
  (48, .ireturn, 26, 0, 0, 0, [])]]
/-- HatFieldsModel.isAllWorn()Z -/
def hcd198 : hk_Cd := [
 [(0, .iconst 0, 1, 0, 0, 1, []),
  (1, .istore 1, 2, 0, 0, 0, []),
  (2, .iconst 0, 3, 0, 0, 0, []),
  (3, .istore 2, 4, 0, 0, 0, []),
  (4, .iload 2, 5, 0, 0, 0, []),
  (5, .aload 0, 6, 0, 0, 0, []),
  (6, .getfield 0, 7, 8, 4, 0, []),
  (9, .if_icmp .ge 0, 8, 20, 0, 0, []),
  (12, .iload 1, 9, 0, 0, 0, []),
  (13, .ifCond .eq 0, 10, 16, 0, 0, []),
  (16, .aload 0, 11, 0, 0, 0, []),
  (17, .iload 2, 12, 0, 0, 0, []),
  (18, .invokevirtual 0, 13, 170, 1, 0, [8, 0, 0]),
  (21, .ifCond .ne 0, 14, 16, 0, 0, []),
  (24, .iconst 0, 15, 0, 0, 1, []),
  (25, .goto 0, 16, 17, 0, 0, [])],
 [(28, .iconst 0, 17, 0, 0, 0, []),
  (29, .istore 1, 18, 0, 0, 0, []),
  (30, .iinc 2 0, 19, 0, 0, 1, []),
  (33, .goto 0, 20, 4, 0, 0, []),
  (36, .iload 1, 21, 0, 0, 0, []),
  (37, .ireturn, 22, 0, 0, 0, [])]]
/-- HatFieldsModel.seed(I)I -/
def hcd199 : hk_Cd := [
 [(0, .aload 0, 1, 0, 0, 0, []),
  (1, .getfield 0, 2, 8, 10, 0, []),
  (4, .istore 2, 3, 0, 0, 0, []),
  (5, .aload 0, 4, 0, 0, 0, []),
  (6, .iload 1, 5, 0, 0, 0, []),
  (7, .putfield 0, 6, 8, 10, 0, [0]),
  (10, .iload 2, 7, 0, 0, 0, []),
  (11, .ireturn, 8, 0, 0, 0, [])]]
/-- HatFieldsModel.draw(I)I -/
def hcd200 : hk_Cd := [
 [(0, .iload 1, 1, 0, 0, 0, []),
  (1, .invokestatic 0, 2, 149, 1, 0, [8, 0, 0]),
  (4, .ifCond .ne 0, 3, 5, 0, 0, []),
  (7, .iconst 0, 4, 0, 0, (-1), []),
  (8, .ireturn, 5, 0, 0, 0, []),
  (9, .aload 0, 6, 0, 0, 0, []),
  (10, .aload 0, 7, 0, 0, 0, []),
  (11, .getfield 0, 8, 8, 10, 0, []),
  (14, .iconst 0, 9, 0, 0, 1103515245, []),
  (17, .imul, 10, 0, 0, 0, []),
  (18, .iconst 0, 11, 0, 0, 12345, []),
  (21, .iadd, 12, 0, 0, 0, []),
  (22, .putfield 0, 13, 8, 10, 0, [0]),
  (25, .aload 0, 14, 0, 0, 0, []),
  (26, .getfield 0, 15, 8, 0, 0, []),
  (29, .iload 1, 16, 0, 0, 0, [])],
 [(30, .aload 0, 17, 0, 0, 0, []),
  (31, .getfield 0, 18, 8, 10, 0, []),
  (34, .iconst 0, 19, 0, 0, 16, []),
  (36, .iushr, 20, 0, 0, 0, []),
  (37, .iconst 0, 21, 0, 0, 4, []),
  (38, .irem, 22, 0, 0, 0, []),
  (39, .iastore, 23, 0, 0, 0, []),
  (40, .aload 0, 24, 0, 0, 0, []),
  (41, .getfield 0, 25, 8, 1, 0, []),
  (44, .iload 1, 26, 0, 0, 0, []),
  (45, .aload 0, 27, 0, 0, 0, []),
  (46, .getfield 0, 28, 8, 10, 0, []),
  (49, .iconst 0, 29, 0, 0, 20, []),
  (51, .iushr, 30, 0, 0, 0, []),
  (52, .iconst 0, 31, 0, 0, 10, []),
  (54, .irem, 32, 0, 0, 0, [])],
 [(55, .iastore, 33, 0, 0, 0, []),
  (56, .aload 0, 34, 0, 0, 0, []),
  (57, .iload 1, 35, 0, 0, 0, []),
  (58, .invokevirtual 0, 36, 148, 1, 0, [8, 0, 0]),
  (61, .ireturn, 37, 0, 0, 0, [])]]
/-- HatFieldsModel.prove(I)I -/
def hcd201 : hk_Cd := [
 [(0, .iload 1, 1, 0, 0, 0, []),
  (1, .iconst 0, 2, 0, 0, 1, []),
  (2, .iconst 0, 3, 0, 0, 20, []),
  (4, .invokestatic 0, 4, 130, 3, 0, [8, 0, 0]),
  (7, .ifCond .ne 0, 5, 7, 0, 0, []),
  (10, .iconst 0, 6, 0, 0, (-1), []),
  (11, .ireturn, 7, 0, 0, 0, []),
  (12, .aload 0, 8, 0, 0, 0, []),
  (13, .iload 1, 9, 0, 0, 0, []),
  (14, .invokevirtual 0, 10, 202, 1, 0, [8, 0, 0]),
  (17, .aload 0, 11, 0, 0, 0, []),
  (18, .aload 0, 12, 0, 0, 0, []),
  (19, .getfield 0, 13, 8, 34, 0, []),
  (22, .putfield 0, 14, 8, 33, 0, [0]),
  (25, .iconst 0, 15, 0, 0, 0, []),
  (26, .istore 2, 16, 0, 0, 0, [])],
 [(27, .iload 2, 17, 0, 0, 0, []),
  (28, .iconst 0, 18, 0, 0, 3, []),
  (29, .aload 0, 19, 0, 0, 0, []),
  (30, .getfield 0, 20, 8, 33, 0, []),
  (33, .imul, 21, 0, 0, 0, []),
  (34, .if_icmp .ge 0, 22, 32, 0, 0, []),
  (37, .aload 0, 23, 0, 0, 0, []),
  (38, .getfield 0, 24, 8, 31, 0, []),
  (41, .iload 2, 25, 0, 0, 0, []),
  (42, .aload 0, 26, 0, 0, 0, []),
  (43, .getfield 0, 27, 8, 32, 0, []),
  (46, .iload 2, 28, 0, 0, 0, []),
  (47, .iaload, 29, 0, 0, 0, []),
  (48, .iastore, 30, 0, 0, 0, []),
  (49, .iinc 2 0, 31, 0, 0, 1, []),
  (52, .goto 0, 32, 16, 0, 0, [])],
 [(55, .aload 0, 33, 0, 0, 0, []),
  (56, .getfield 0, 34, 8, 33, 0, []),
  (59, .ireturn, 35, 0, 0, 0, [])]]
/-- HatFieldsModel.findRows(I)V -/
def hcd202 : hk_Cd := [
 [(0, .aload 0, 1, 0, 0, 0, []),
  (1, .invokevirtual 0, 2, 188, 0, 0, [8, 0, 0]),
  (4, .aload 0, 3, 0, 0, 0, []),
  (5, .iconst 0, 4, 0, 0, 0, []),
  (6, .putfield 0, 5, 8, 34, 0, [0]),
  (9, .aload 0, 6, 0, 0, 0, []),
  (10, .getfield 0, 7, 8, 34, 0, []),
  (13, .iload 1, 8, 0, 0, 0, []),
  (14, .if_icmp .ge 0, 9, 79, 0, 0, []),
  (17, .aload 0, 10, 0, 0, 0, []),
  (18, .iconst 0, 11, 0, 0, 0, []),
  (19, .invokevirtual 0, 12, 157, 1, 0, [8, 0, 0]),
  (22, .iconst 0, 13, 0, 0, 96, []),
  (24, .if_icmp .ge 0, 14, 79, 0, 0, []),
  (27, .aload 0, 15, 0, 0, 0, []),
  (28, .iconst 0, 16, 0, 0, 1, [])],
 [(29, .invokevirtual 0, 17, 179, 1, 0, [8, 0, 0]),
  (32, .iconst 0, 18, 0, 0, 0, []),
  (33, .istore 2, 19, 0, 0, 0, []),
  (34, .iconst 0, 20, 0, 0, 0, []),
  (35, .istore 3, 21, 0, 0, 0, []),
  (36, .iload 3, 22, 0, 0, 0, []),
  (37, .aload 0, 23, 0, 0, 0, []),
  (38, .getfield 0, 24, 8, 4, 0, []),
  (41, .if_icmp .ge 0, 25, 41, 0, 0, []),
  (44, .iload 2, 26, 0, 0, 0, []),
  (45, .aload 0, 27, 0, 0, 0, []),
  (46, .iconst 0, 28, 0, 0, 6, []),
  (48, .iload 3, 29, 0, 0, 0, []),
  (49, .iadd, 30, 0, 0, 0, []),
  (50, .invokevirtual 0, 31, 157, 1, 0, [8, 0, 0]),
  (53, .ifCond .lt 0, 32, 36, 0, 0, [])],
 [(56, .iconst 0, 33, 0, 0, 1, []),
  (57, .iload 3, 34, 0, 0, 0, []),
  (58, .ishl, 35, 0, 0, 0, []),
  (59, .goto 0, 36, 37, 0, 0, []),
  (62, .iconst 0, 37, 0, 0, 0, []),
  (63, .ior, 38, 0, 0, 0, []),
  (64, .istore 2, 39, 0, 0, 0, []),
  (65, .iinc 3 0, 40, 0, 0, 1, []),
  (68, .goto 0, 41, 21, 0, 0, []),
  (71, .aload 0, 42, 0, 0, 0, []),
  (72, .getfield 0, 43, 8, 32, 0, []),
  (75, .iconst 0, 44, 0, 0, 3, []),
  (76, .aload 0, 45, 0, 0, 0, []),
  (77, .getfield 0, 46, 8, 34, 0, []),
  (80, .imul, 47, 0, 0, 0, []),
  (81, .aload 0, 48, 0, 0, 0, [])],
 [(82, .iconst 0, 49, 0, 0, 0, []),
  (83, .invokevirtual 0, 50, 157, 1, 0, [8, 0, 0]),
  (86, .iastore, 51, 0, 0, 0, []),
  (87, .aload 0, 52, 0, 0, 0, []),
  (88, .getfield 0, 53, 8, 32, 0, []),
  (91, .iconst 0, 54, 0, 0, 3, []),
  (92, .aload 0, 55, 0, 0, 0, []),
  (93, .getfield 0, 56, 8, 34, 0, []),
  (96, .imul, 57, 0, 0, 0, []),
  (97, .iconst 0, 58, 0, 0, 1, []),
  (98, .iadd, 59, 0, 0, 0, []),
  (99, .iload 2, 60, 0, 0, 0, []),
  (100, .iastore, 61, 0, 0, 0, []),
  (101, .aload 0, 62, 0, 0, 0, []),
  (102, .getfield 0, 63, 8, 32, 0, []),
  (105, .iconst 0, 64, 0, 0, 3, [])],
 [(106, .aload 0, 65, 0, 0, 0, []),
  (107, .getfield 0, 66, 8, 34, 0, []),
  (110, .imul, 67, 0, 0, 0, []),
  (111, .iconst 0, 68, 0, 0, 2, []),
  (112, .iadd, 69, 0, 0, 0, []),
  (113, .aload 0, 70, 0, 0, 0, []),
  (114, .invokevirtual 0, 71, 203, 0, 0, [8, 0, 0]),
  (117, .iastore, 72, 0, 0, 0, []),
  (118, .aload 0, 73, 0, 0, 0, []),
  (119, .dup, 74, 0, 0, 0, []),
  (120, .getfield 0, 75, 8, 34, 0, []),
  (123, .iconst 0, 76, 0, 0, 1, []),
  (124, .iadd, 77, 0, 0, 0, []),
  (125, .putfield 0, 78, 8, 34, 0, [0]),
  (128, .goto 0, 79, 5, 0, 0, []),
  (131, .aload 0, 80, 0, 0, 0, [])],
 [(132, .iconst 0, 81, 0, 0, 0, []),
  (133, .putfield 0, 82, 8, 9, 0, [0]),
  (136, .return_, 83, 0, 0, 0, [])]]
/-- HatFieldsModel.goneSet()I -/
def hcd203 : hk_Cd := [
 [(0, .iconst 0, 1, 0, 0, 0, []),
  (1, .istore 1, 2, 0, 0, 0, []),
  (2, .iconst 0, 3, 0, 0, 0, []),
  (3, .istore 2, 4, 0, 0, 0, []),
  (4, .iload 2, 5, 0, 0, 0, []),
  (5, .aload 0, 6, 0, 0, 0, []),
  (6, .getfield 0, 7, 8, 4, 0, []),
  (9, .if_icmp .ge 0, 8, 22, 0, 0, []),
  (12, .iload 1, 9, 0, 0, 0, []),
  (13, .aload 0, 10, 0, 0, 0, []),
  (14, .iload 2, 11, 0, 0, 0, []),
  (15, .invokevirtual 0, 12, 175, 1, 0, [8, 0, 0]),
  (18, .ifCond .eq 0, 13, 17, 0, 0, []),
  (21, .iconst 0, 14, 0, 0, 1, []),
  (22, .iload 2, 15, 0, 0, 0, []),
  (23, .ishl, 16, 0, 0, 0, [])],
 [(24, .goto 0, 17, 18, 0, 0, []),
  (27, .iconst 0, 18, 0, 0, 0, []),
  (28, .ior, 19, 0, 0, 0, []),
  (29, .istore 1, 20, 0, 0, 0, []),
  (30, .iinc 2 0, 21, 0, 0, 1, []),
  (33, .goto 0, 22, 4, 0, 0, []),
  (36, .iload 1, 23, 0, 0, 0, []),
  (37, .ireturn, 24, 0, 0, 0, [])]]
/-- HatFieldsModel.row(II)I -/
def hcd204 : hk_Cd := [
 [(0, .aload 0, 1, 0, 0, 0, []),
  (1, .iload 1, 2, 0, 0, 0, []),
  (2, .iload 2, 3, 0, 0, 0, []),
  (3, .invokevirtual 0, 4, 205, 2, 0, [8, 0, 0]),
  (6, .ifCond .eq 0, 5, 14, 0, 0, []),
  (9, .aload 0, 6, 0, 0, 0, []),
  (10, .getfield 0, 7, 8, 31, 0, []),
  (13, .iconst 0, 8, 0, 0, 3, []),
  (14, .iload 1, 9, 0, 0, 0, []),
  (15, .imul, 10, 0, 0, 0, []),
  (16, .iload 2, 11, 0, 0, 0, []),
  (17, .iadd, 12, 0, 0, 0, []),
  (18, .iaload, 13, 0, 0, 0, []),
  (19, .goto 0, 14, 15, 0, 0, []),
  (22, .iconst 0, 15, 0, 0, (-9), []),
  (24, .ireturn, 16, 0, 0, 0, [])]]
/-- HatFieldsModel.isRow(II)Z -/
def hcd205 : hk_Cd := [
 [(0, .iload 1, 1, 0, 0, 0, []),
  (1, .iconst 0, 2, 0, 0, 0, []),
  (2, .aload 0, 3, 0, 0, 0, []),
  (3, .getfield 0, 4, 8, 33, 0, []),
  (6, .iconst 0, 5, 0, 0, 1, []),
  (7, .isub, 6, 0, 0, 0, []),
  (8, .invokestatic 0, 7, 130, 3, 0, [8, 0, 0]),
  (11, .ifCond .eq 0, 8, 15, 0, 0, []),
  (14, .iload 2, 9, 0, 0, 0, []),
  (15, .iconst 0, 10, 0, 0, 0, []),
  (16, .iconst 0, 11, 0, 0, 2, []),
  (17, .invokestatic 0, 12, 130, 3, 0, [8, 0, 0]),
  (20, .ifCond .eq 0, 13, 15, 0, 0, []),
  (23, .iconst 0, 14, 0, 0, 1, []),
  (24, .goto 0, 15, 16, 0, 0, []),
  (27, .iconst 0, 16, 0, 0, 0, [])],
 [(28, .ireturn, 17, 0, 0, 0, [])]]
/-- HatFieldsModel.alterRow(III)I -/
def hcd206 : hk_Cd := [
 [(0, .aload 0, 1, 0, 0, 0, []),
  (1, .iload 1, 2, 0, 0, 0, []),
  (2, .iload 2, 3, 0, 0, 0, []),
  (3, .invokevirtual 0, 4, 205, 2, 0, [8, 0, 0]),
  (6, .ifCond .ne 0, 5, 7, 0, 0, []),
  (9, .iconst 0, 6, 0, 0, (-9), []),
  (11, .ireturn, 7, 0, 0, 0, []),
  (12, .aload 0, 8, 0, 0, 0, []),
  (13, .getfield 0, 9, 8, 31, 0, []),
  (16, .iconst 0, 10, 0, 0, 3, []),
  (17, .iload 1, 11, 0, 0, 0, []),
  (18, .imul, 12, 0, 0, 0, []),
  (19, .iload 2, 13, 0, 0, 0, []),
  (20, .iadd, 14, 0, 0, 0, []),
  (21, .iaload, 15, 0, 0, 0, []),
  (22, .istore 4, 16, 0, 0, 0, [])],
 [(24, .aload 0, 17, 0, 0, 0, []),
  (25, .getfield 0, 18, 8, 31, 0, []),
  (28, .iconst 0, 19, 0, 0, 3, []),
  (29, .iload 1, 20, 0, 0, 0, []),
  (30, .imul, 21, 0, 0, 0, []),
  (31, .iload 2, 22, 0, 0, 0, []),
  (32, .iadd, 23, 0, 0, 0, []),
  (33, .iload 3, 24, 0, 0, 0, []),
  (34, .iastore, 25, 0, 0, 0, []),
  (35, .iload 4, 26, 0, 0, 0, []),
  (37, .ireturn, 27, 0, 0, 0, [])]]
/-- HatFieldsModel.judge()I -/
def hcd207 : hk_Cd := [
 [(0, .aload 0, 1, 0, 0, 0, []),
  (1, .aload 0, 2, 0, 0, 0, []),
  (2, .getfield 0, 3, 8, 33, 0, []),
  (5, .invokevirtual 0, 4, 202, 1, 0, [8, 0, 0]),
  (8, .iconst 0, 5, 0, 0, 0, []),
  (9, .istore 1, 6, 0, 0, 0, []),
  (10, .iload 1, 7, 0, 0, 0, []),
  (11, .aload 0, 8, 0, 0, 0, []),
  (12, .getfield 0, 9, 8, 33, 0, []),
  (15, .if_icmp .ge 0, 10, 56, 0, 0, []),
  (18, .iload 1, 11, 0, 0, 0, []),
  (19, .aload 0, 12, 0, 0, 0, []),
  (20, .getfield 0, 13, 8, 34, 0, []),
  (23, .if_icmp .ge 0, 14, 16, 0, 0, []),
  (26, .iconst 0, 15, 0, 0, 1, []),
  (27, .goto 0, 16, 17, 0, 0, [])],
 [(30, .iconst 0, 17, 0, 0, 0, []),
  (31, .istore 2, 18, 0, 0, 0, []),
  (32, .iconst 0, 19, 0, 0, 0, []),
  (33, .istore 3, 20, 0, 0, 0, []),
  (34, .iload 3, 21, 0, 0, 0, []),
  (35, .iconst 0, 22, 0, 0, 3, []),
  (36, .if_icmp .ge 0, 23, 48, 0, 0, []),
  (39, .iload 2, 24, 0, 0, 0, []),
  (40, .ifCond .eq 0, 25, 48, 0, 0, []),
  (43, .aload 0, 26, 0, 0, 0, []),
  (44, .getfield 0, 27, 8, 31, 0, []),
  (47, .iconst 0, 28, 0, 0, 3, []),
  (48, .iload 1, 29, 0, 0, 0, []),
  (49, .imul, 30, 0, 0, 0, []),
  (50, .iload 3, 31, 0, 0, 0, []),
  (51, .iadd, 32, 0, 0, 0, [])],
 [(52, .iaload, 33, 0, 0, 0, []),
  (53, .aload 0, 34, 0, 0, 0, []),
  (54, .getfield 0, 35, 8, 32, 0, []),
  (57, .iconst 0, 36, 0, 0, 3, []),
  (58, .iload 1, 37, 0, 0, 0, []),
  (59, .imul, 38, 0, 0, 0, []),
  (60, .iload 3, 39, 0, 0, 0, []),
  (61, .iadd, 40, 0, 0, 0, []),
  (62, .iaload, 41, 0, 0, 0, []),
  (63, .if_icmp .ne 0, 42, 44, 0, 0, []),
  (66, .iconst 0, 43, 0, 0, 1, []),
  (67, .goto 0, 44, 45, 0, 0, []),
  (70, .iconst 0, 45, 0, 0, 0, []),
  (71, .istore 2, 46, 0, 0, 0, []),
  (72, .iinc 3 0, 47, 0, 0, 1, []),
  (75, .goto 0, 48, 20, 0, 0, [])],
 [(78, .iload 2, 49, 0, 0, 0, []),
  (79, .ifCond .ne 0, 50, 54, 0, 0, []),
  (82, .iload 1, 51, 0, 0, 0, []),
  (83, .iconst 0, 52, 0, 0, 1, []),
  (84, .iadd, 53, 0, 0, 0, []),
  (85, .ireturn, 54, 0, 0, 0, []),
  (86, .iinc 1 0, 55, 0, 0, 1, []),
  (89, .goto 0, 56, 6, 0, 0, []),
  (92, .iconst 0, 57, 0, 0, 0, []),
  (93, .ireturn, 58, 0, 0, 0, [])]]
/-- HatFieldsModel.winds(IIII)I -/
def hcd208 : hk_Cd := [
 [(0, .iload 1, 1, 0, 0, 0, []),
  (1, .invokestatic 0, 2, 209, 1, 0, [8, 0, 0]),
  (4, .ifCond .eq 0, 3, 16, 0, 0, []),
  (7, .iload 3, 4, 0, 0, 0, []),
  (8, .invokestatic 0, 5, 149, 1, 0, [8, 0, 0]),
  (11, .ifCond .eq 0, 6, 16, 0, 0, []),
  (14, .iload 4, 7, 0, 0, 0, []),
  (16, .iconst 0, 8, 0, 0, 0, []),
  (17, .iconst 0, 9, 0, 0, 24, []),
  (19, .invokestatic 0, 10, 130, 3, 0, [8, 0, 0]),
  (22, .ifCond .eq 0, 11, 16, 0, 0, []),
  (25, .iload 3, 12, 0, 0, 0, []),
  (26, .iload 4, 13, 0, 0, 0, []),
  (28, .iadd, 14, 0, 0, 0, []),
  (29, .iconst 0, 15, 0, 0, 24, []),
  (31, .if_icmp .le 0, 16, 18, 0, 0, [])],
 [(34, .iconst 0, 17, 0, 0, (-1), []),
  (35, .ireturn, 18, 0, 0, 0, []),
  (36, .aload 0, 19, 0, 0, 0, []),
  (37, .iload 1, 20, 0, 0, 0, []),
  (38, .iconst 0, 21, 0, 0, 0, []),
  (39, .invokevirtual 0, 22, 210, 2, 0, [8, 0, 0]),
  (42, .istore 5, 23, 0, 0, 0, []),
  (44, .iload 5, 24, 0, 0, 0, []),
  (46, .ifCond .eq 0, 25, 27, 0, 0, []),
  (49, .iload 5, 26, 0, 0, 0, []),
  (51, .ireturn, 27, 0, 0, 0, []),
  (52, .iload 2, 28, 0, 0, 0, []),
  (53, .ifCond .lt 0, 29, 37, 0, 0, []),
  (56, .iload 2, 30, 0, 0, 0, []),
  (57, .aload 0, 31, 0, 0, 0, []),
  (58, .getfield 0, 32, 8, 36, 0, [])],
 [(61, .iload 1, 33, 0, 0, 0, []),
  (62, .iaload, 34, 0, 0, 0, []),
  (63, .iload 4, 35, 0, 0, 0, []),
  (65, .isub, 36, 0, 0, 0, []),
  (66, .if_icmp .le 0, 37, 39, 0, 0, []),
  (69, .iconst 0, 38, 0, 0, (-12), []),
  (71, .ireturn, 39, 0, 0, 0, []),
  (72, .iconst 0, 40, 0, 0, 0, []),
  (73, .istore 6, 41, 0, 0, 0, []),
  (75, .iload 6, 42, 0, 0, 0, []),
  (77, .iload 4, 43, 0, 0, 0, []),
  (79, .if_icmp .ge 0, 44, 77, 0, 0, []),
  (82, .aload 0, 45, 0, 0, 0, []),
  (83, .getfield 0, 46, 8, 37, 0, []),
  (86, .iconst 0, 47, 0, 0, 40, []),
  (88, .iload 1, 48, 0, 0, 0, [])],
 [(89, .imul, 49, 0, 0, 0, []),
  (90, .iload 2, 50, 0, 0, 0, []),
  (91, .iadd, 51, 0, 0, 0, []),
  (92, .iload 6, 52, 0, 0, 0, []),
  (94, .iadd, 53, 0, 0, 0, []),
  (95, .laload, 54, 0, 0, 0, []),
  (96, .lstore 7, 55, 0, 0, 0, []),
  (98, .aload 0, 56, 0, 0, 0, []),
  (99, .getfield 0, 57, 8, 1, 0, []),
  (102, .iload 3, 58, 0, 0, 0, []),
  (103, .iload 6, 59, 0, 0, 0, []),
  (105, .iadd, 60, 0, 0, 0, []),
  (106, .lload 7, 61, 0, 0, 0, []),
  (108, .lconst 0, 62, 0, 0, 0, []),
  (109, .lcmp, 63, 0, 0, 0, []),
  (110, .ifCond .ge 0, 64, 66, 0, 0, [])],
 [(113, .iconst 0, 65, 0, 0, 0, []),
  (114, .goto 0, 66, 74, 0, 0, []),
  (117, .lload 7, 67, 0, 0, 0, []),
  (119, .lconst 0, 68, 3, 0, 0, []),
  (122, .lcmp, 69, 0, 0, 0, []),
  (123, .ifCond .le 0, 70, 72, 0, 0, []),
  (126, .iconst 0, 71, 0, 0, 9, []),
  (128, .goto 0, 72, 74, 0, 0, []),
  (131, .lload 7, 73, 0, 0, 0, []),
  (133, .l2i, 74, 0, 0, 0, []),
  (134, .iastore, 75, 0, 0, 0, []),
  (135, .iinc 6 0, 76, 0, 0, 1, []),
  (138, .goto 0, 77, 41, 0, 0, []),
  (141, .iload 4, 78, 0, 0, 0, []),
  (143, .ireturn, 79, 0, 0, 0, [])]]
/-- HatFieldsModel.isShelf(I)Z -/
def hcd209 : hk_Cd := [
 [(0, .iload 0, 1, 0, 0, 0, []),
  (1, .iconst 0, 2, 0, 0, 0, []),
  (2, .iconst 0, 3, 0, 0, 3, []),
  (3, .invokestatic 0, 4, 130, 3, 0, [8, 0, 0]),
  (6, .ireturn, 5, 0, 0, 0, [])]]
/-- HatFieldsModel.lacksSort(II)I -/
def hcd210 : hk_Cd := [
 [(0, .aload 0, 1, 0, 0, 0, []),
  (1, .getfield 0, 2, 8, 35, 0, []),
  (4, .iload 1, 3, 0, 0, 0, []),
  (5, .iaload, 4, 0, 0, 0, []),
  (6, .ifCond .ge 0, 5, 7, 0, 0, []),
  (9, .iconst 0, 6, 0, 0, (-11), []),
  (11, .goto 0, 7, 16, 0, 0, []),
  (14, .aload 0, 8, 0, 0, 0, []),
  (15, .getfield 0, 9, 8, 35, 0, []),
  (18, .iload 1, 10, 0, 0, 0, []),
  (19, .iaload, 11, 0, 0, 0, []),
  (20, .iload 2, 12, 0, 0, 0, []),
  (21, .if_icmp .eq 0, 13, 15, 0, 0, []),
  (24, .iconst 0, 14, 0, 0, (-13), []),
  (26, .goto 0, 15, 16, 0, 0, []),
  (29, .iconst 0, 16, 0, 0, 0, [])],
 [(30, .ireturn, 17, 0, 0, 0, [])]]
/-- HatFieldsModel.sheet(III)I -/
def hcd211 : hk_Cd := [
 [(0, .iload 1, 1, 0, 0, 0, []),
  (1, .invokestatic 0, 2, 209, 1, 0, [8, 0, 0]),
  (4, .ifCond .eq 0, 3, 13, 0, 0, []),
  (7, .iload 2, 4, 0, 0, 0, []),
  (8, .iconst 0, 5, 0, 0, (-1), []),
  (9, .iconst 0, 6, 0, 0, 3, []),
  (10, .invokestatic 0, 7, 130, 3, 0, [8, 0, 0]),
  (13, .ifCond .eq 0, 8, 13, 0, 0, []),
  (16, .iload 2, 9, 0, 0, 0, []),
  (17, .ifCond .lt 0, 10, 15, 0, 0, []),
  (20, .iload 3, 11, 0, 0, 0, []),
  (21, .iconst 0, 12, 0, 0, 40, []),
  (23, .if_icmp .le 0, 13, 15, 0, 0, []),
  (26, .iconst 0, 14, 0, 0, (-1), []),
  (27, .ireturn, 15, 0, 0, 0, []),
  (28, .iload 2, 16, 0, 0, 0, [])],
 [(29, .ifCond .lt 0, 17, 21, 0, 0, []),
  (32, .iload 3, 18, 0, 0, 0, []),
  (33, .ifCond .ge 0, 19, 21, 0, 0, []),
  (36, .iconst 0, 20, 0, 0, (-14), []),
  (38, .ireturn, 21, 0, 0, 0, []),
  (39, .aload 0, 22, 0, 0, 0, []),
  (40, .getfield 0, 23, 8, 35, 0, []),
  (43, .iload 1, 24, 0, 0, 0, []),
  (44, .iload 2, 25, 0, 0, 0, []),
  (45, .iastore, 26, 0, 0, 0, []),
  (46, .aload 0, 27, 0, 0, 0, []),
  (47, .getfield 0, 28, 8, 36, 0, []),
  (50, .iload 1, 29, 0, 0, 0, []),
  (51, .iload 2, 30, 0, 0, 0, []),
  (52, .ifCond .ge 0, 31, 33, 0, 0, []),
  (55, .iconst 0, 32, 0, 0, 0, [])],
 [(56, .goto 0, 33, 34, 0, 0, []),
  (59, .iload 3, 34, 0, 0, 0, []),
  (60, .iastore, 35, 0, 0, 0, []),
  (61, .iconst 0, 36, 0, 0, 0, []),
  (62, .istore 4, 37, 0, 0, 0, []),
  (64, .iload 4, 38, 0, 0, 0, []),
  (66, .iconst 0, 39, 0, 0, 40, []),
  (68, .if_icmp .ge 0, 40, 51, 0, 0, []),
  (71, .aload 0, 41, 0, 0, 0, []),
  (72, .getfield 0, 42, 8, 37, 0, []),
  (75, .iconst 0, 43, 0, 0, 40, []),
  (77, .iload 1, 44, 0, 0, 0, []),
  (78, .imul, 45, 0, 0, 0, []),
  (79, .iload 4, 46, 0, 0, 0, []),
  (81, .iadd, 47, 0, 0, 0, []),
  (82, .lconst 0, 48, 0, 0, 0, [])],
 [(83, .lastore, 49, 0, 0, 0, []),
  (84, .iinc 4 0, 50, 0, 0, 1, []),
  (87, .goto 0, 51, 37, 0, 0, []),
  (90, .iconst 0, 52, 0, 0, 1, []),
  (91, .ireturn, 53, 0, 0, 0, [])]]
/-- HatFieldsModel.put(III)I -/
def hcd212 : hk_Cd := [
 [(0, .iload 1, 1, 0, 0, 0, []),
  (1, .invokestatic 0, 2, 209, 1, 0, [8, 0, 0]),
  (4, .ifCond .ne 0, 3, 5, 0, 0, []),
  (7, .iconst 0, 4, 0, 0, (-1), []),
  (8, .ireturn, 5, 0, 0, 0, []),
  (9, .aload 0, 6, 0, 0, 0, []),
  (10, .getfield 0, 7, 8, 35, 0, []),
  (13, .iload 1, 8, 0, 0, 0, []),
  (14, .iaload, 9, 0, 0, 0, []),
  (15, .ifCond .ge 0, 10, 12, 0, 0, []),
  (18, .iconst 0, 11, 0, 0, (-11), []),
  (20, .ireturn, 12, 0, 0, 0, []),
  (21, .iload 2, 13, 0, 0, 0, []),
  (22, .iconst 0, 14, 0, 0, 0, []),
  (23, .aload 0, 15, 0, 0, 0, []),
  (24, .getfield 0, 16, 8, 36, 0, [])],
 [(27, .iload 1, 17, 0, 0, 0, []),
  (28, .iaload, 18, 0, 0, 0, []),
  (29, .iconst 0, 19, 0, 0, 1, []),
  (30, .isub, 20, 0, 0, 0, []),
  (31, .invokestatic 0, 21, 130, 3, 0, [8, 0, 0]),
  (34, .ifCond .ne 0, 22, 24, 0, 0, []),
  (37, .iconst 0, 23, 0, 0, (-12), []),
  (39, .ireturn, 24, 0, 0, 0, []),
  (40, .aload 0, 25, 0, 0, 0, []),
  (41, .getfield 0, 26, 8, 37, 0, []),
  (44, .iconst 0, 27, 0, 0, 40, []),
  (46, .iload 1, 28, 0, 0, 0, []),
  (47, .imul, 29, 0, 0, 0, []),
  (48, .iload 2, 30, 0, 0, 0, []),
  (49, .iadd, 31, 0, 0, 0, []),
  (50, .aload 0, 32, 0, 0, 0, [])],
 [(51, .getfield 0, 33, 8, 35, 0, []),
  (54, .iload 1, 34, 0, 0, 0, []),
  (55, .iaload, 35, 0, 0, 0, []),
  (56, .ifCond .ne 0, 36, 40, 0, 0, []),
  (59, .iload 3, 37, 0, 0, 0, []),
  (60, .i2b, 38, 0, 0, 0, []),
  (61, .i2l, 39, 0, 0, 0, []),
  (62, .goto 0, 40, 52, 0, 0, []),
  (65, .aload 0, 41, 0, 0, 0, []),
  (66, .getfield 0, 42, 8, 35, 0, []),
  (69, .iload 1, 43, 0, 0, 0, []),
  (70, .iaload, 44, 0, 0, 0, []),
  (71, .iconst 0, 45, 0, 0, 1, []),
  (72, .if_icmp .ne 0, 46, 50, 0, 0, []),
  (75, .iload 3, 47, 0, 0, 0, []),
  (76, .i2s, 48, 0, 0, 0, [])],
 [(77, .i2l, 49, 0, 0, 0, []),
  (78, .goto 0, 50, 52, 0, 0, []),
  (81, .iload 3, 51, 0, 0, 0, []),
  (82, .i2l, 52, 0, 0, 0, []),
  (83, .lastore, 53, 0, 0, 0, []),
  (84, .iconst 0, 54, 0, 0, 1, []),
  (85, .ireturn, 55, 0, 0, 0, [])]]
/-- HatFieldsModel.item(III)I -/
def hcd213 : hk_Cd := [
 [(0, .iload 1, 1, 0, 0, 0, []),
  (1, .invokestatic 0, 2, 209, 1, 0, [8, 0, 0]),
  (4, .ifCond .eq 0, 3, 8, 0, 0, []),
  (7, .iload 2, 4, 0, 0, 0, []),
  (8, .iconst 0, 5, 0, 0, 0, []),
  (9, .iconst 0, 6, 0, 0, 3, []),
  (10, .invokestatic 0, 7, 130, 3, 0, [8, 0, 0]),
  (13, .ifCond .ne 0, 8, 10, 0, 0, []),
  (16, .iconst 0, 9, 0, 0, (-1), []),
  (17, .ireturn, 10, 0, 0, 0, []),
  (18, .aload 0, 11, 0, 0, 0, []),
  (19, .iload 1, 12, 0, 0, 0, []),
  (20, .iload 2, 13, 0, 0, 0, []),
  (21, .invokevirtual 0, 14, 210, 2, 0, [8, 0, 0]),
  (24, .istore 4, 15, 0, 0, 0, []),
  (26, .iload 4, 16, 0, 0, 0, [])],
 [(28, .ifCond .eq 0, 17, 19, 0, 0, []),
  (31, .iload 4, 18, 0, 0, 0, []),
  (33, .ireturn, 19, 0, 0, 0, []),
  (34, .iload 3, 20, 0, 0, 0, []),
  (35, .iconst 0, 21, 0, 0, 0, []),
  (36, .aload 0, 22, 0, 0, 0, []),
  (37, .getfield 0, 23, 8, 36, 0, []),
  (40, .iload 1, 24, 0, 0, 0, []),
  (41, .iaload, 25, 0, 0, 0, []),
  (42, .iconst 0, 26, 0, 0, 1, []),
  (43, .isub, 27, 0, 0, 0, []),
  (44, .invokestatic 0, 28, 130, 3, 0, [8, 0, 0]),
  (47, .ifCond .eq 0, 29, 39, 0, 0, []),
  (50, .aload 0, 30, 0, 0, 0, []),
  (51, .getfield 0, 31, 8, 37, 0, []),
  (54, .iconst 0, 32, 0, 0, 40, [])],
 [(56, .iload 1, 33, 0, 0, 0, []),
  (57, .imul, 34, 0, 0, 0, []),
  (58, .iload 3, 35, 0, 0, 0, []),
  (59, .iadd, 36, 0, 0, 0, []),
  (60, .laload, 37, 0, 0, 0, []),
  (61, .l2i, 38, 0, 0, 0, []),
  (62, .goto 0, 39, 40, 0, 0, []),
  (65, .iconst 0, 40, 0, 0, (-12), []),
  (67, .ireturn, 41, 0, 0, 0, [])]]
/-- HatFieldsModel.shelf(III)I -/
def hcd214 : hk_Cd := [
 [(0, .iload 1, 1, 0, 0, 0, []),
  (1, .invokestatic 0, 2, 209, 1, 0, [8, 0, 0]),
  (4, .ifCond .eq 0, 3, 8, 0, 0, []),
  (7, .aload 0, 4, 0, 0, 0, []),
  (8, .iload 2, 5, 0, 0, 0, []),
  (9, .iload 3, 6, 0, 0, 0, []),
  (10, .invokevirtual 0, 7, 215, 2, 0, [8, 0, 0]),
  (13, .ifCond .ne 0, 8, 10, 0, 0, []),
  (16, .iconst 0, 9, 0, 0, (-1), []),
  (17, .ireturn, 10, 0, 0, 0, []),
  (18, .aload 0, 11, 0, 0, 0, []),
  (19, .getfield 0, 12, 8, 38, 0, []),
  (22, .iload 1, 13, 0, 0, 0, []),
  (23, .iload 2, 14, 0, 0, 0, []),
  (24, .iconst 0, 15, 0, 0, 2, []),
  (25, .if_icmp .eq 0, 16, 24, 0, 0, [])],
 [(28, .iload 2, 17, 0, 0, 0, []),
  (29, .iconst 0, 18, 0, 0, 1, []),
  (30, .if_icmp .ne 0, 19, 26, 0, 0, []),
  (33, .aload 0, 20, 0, 0, 0, []),
  (34, .getfield 0, 21, 8, 35, 0, []),
  (37, .iload 3, 22, 0, 0, 0, []),
  (38, .iaload, 23, 0, 0, 0, []),
  (39, .ifCond .ge 0, 24, 26, 0, 0, []),
  (42, .iconst 0, 25, 0, 0, (-1), []),
  (43, .goto 0, 26, 27, 0, 0, []),
  (46, .iload 2, 27, 0, 0, 0, []),
  (47, .iastore, 28, 0, 0, 0, []),
  (48, .aload 0, 29, 0, 0, 0, []),
  (49, .getfield 0, 30, 8, 39, 0, []),
  (52, .iload 1, 31, 0, 0, 0, []),
  (53, .iload 2, 32, 0, 0, 0, [])],
 [(54, .iconst 0, 33, 0, 0, 1, []),
  (55, .if_icmp .ne 0, 34, 39, 0, 0, []),
  (58, .aload 0, 35, 0, 0, 0, []),
  (59, .getfield 0, 36, 8, 35, 0, []),
  (62, .iload 3, 37, 0, 0, 0, []),
  (63, .iaload, 38, 0, 0, 0, []),
  (64, .goto 0, 39, 40, 0, 0, []),
  (67, .iload 3, 40, 0, 0, 0, []),
  (68, .iastore, 41, 0, 0, 0, []),
  (69, .aload 0, 42, 0, 0, 0, []),
  (70, .getfield 0, 43, 8, 40, 0, []),
  (73, .iload 1, 44, 0, 0, 0, []),
  (74, .iload 2, 45, 0, 0, 0, []),
  (75, .iconst 0, 46, 0, 0, 1, []),
  (76, .if_icmp .ne 0, 47, 52, 0, 0, []),
  (79, .aload 0, 48, 0, 0, 0, [])],
 [(80, .getfield 0, 49, 8, 36, 0, []),
  (83, .iload 3, 50, 0, 0, 0, []),
  (84, .iaload, 51, 0, 0, 0, []),
  (85, .goto 0, 52, 53, 0, 0, []),
  (88, .iconst 0, 53, 0, 0, 0, []),
  (89, .iastore, 54, 0, 0, 0, []),
  (90, .iconst 0, 55, 0, 0, 1, []),
  (91, .ireturn, 56, 0, 0, 0, [])]]
/-- HatFieldsModel.isHeld(II)Z -/
def hcd215 : hk_Cd := [
 [(0, .iload 1, 1, 0, 0, 0, []),
  (1, .ifCond .ne 0, 2, 6, 0, 0, []),
  (4, .aload 0, 3, 0, 0, 0, []),
  (5, .iload 2, 4, 0, 0, 0, []),
  (6, .invokevirtual 0, 5, 163, 1, 0, [8, 0, 0]),
  (9, .goto 0, 6, 18, 0, 0, []),
  (12, .iload 1, 7, 0, 0, 0, []),
  (13, .iconst 0, 8, 0, 0, 1, []),
  (14, .if_icmp .ne 0, 9, 12, 0, 0, []),
  (17, .iload 2, 10, 0, 0, 0, []),
  (18, .invokestatic 0, 11, 209, 1, 0, [8, 0, 0]),
  (21, .goto 0, 12, 18, 0, 0, []),
  (24, .iload 1, 13, 0, 0, 0, []),
  (25, .iconst 0, 14, 0, 0, 2, []),
  (26, .if_icmp .ne 0, 15, 17, 0, 0, []),
  (29, .iconst 0, 16, 0, 0, 1, [])],
 [(30, .goto 0, 17, 18, 0, 0, []),
  (33, .iconst 0, 18, 0, 0, 0, []),
  (34, .ireturn, 19, 0, 0, 0, [])]]
/-- HatFieldsModel.taken(II)I -/
def hcd216 : hk_Cd := [
 [(0, .iload 1, 1, 0, 0, 0, []),
  (1, .invokestatic 0, 2, 209, 1, 0, [8, 0, 0]),
  (4, .ifCond .eq 0, 3, 13, 0, 0, []),
  (7, .iload 2, 4, 0, 0, 0, []),
  (8, .iconst 0, 5, 0, 0, 0, []),
  (9, .iconst 0, 6, 0, 0, 5, []),
  (10, .invokestatic 0, 7, 130, 3, 0, [8, 0, 0]),
  (13, .ifCond .ne 0, 8, 15, 0, 0, []),
  (16, .iload 2, 9, 0, 0, 0, []),
  (17, .iconst 0, 10, 0, 0, 10, []),
  (19, .iconst 0, 11, 0, 0, 13, []),
  (21, .invokestatic 0, 12, 130, 3, 0, [8, 0, 0]),
  (24, .ifCond .ne 0, 13, 15, 0, 0, []),
  (27, .iconst 0, 14, 0, 0, (-1), []),
  (28, .ireturn, 15, 0, 0, 0, []),
  (29, .aload 0, 16, 0, 0, 0, [])],
 [(30, .iload 1, 17, 0, 0, 0, []),
  (31, .invokevirtual 0, 18, 217, 1, 0, [8, 0, 0]),
  (34, .istore 3, 19, 0, 0, 0, []),
  (35, .iload 3, 20, 0, 0, 0, []),
  (36, .ifCond .ge 0, 21, 23, 0, 0, []),
  (39, .iconst 0, 22, 0, 0, (-11), []),
  (41, .ireturn, 23, 0, 0, 0, []),
  (42, .iload 3, 24, 0, 0, 0, []),
  (43, .iconst 0, 25, 0, 0, 9, []),
  (45, .if_icmp .ne 0, 26, 41, 0, 0, []),
  (48, .iload 2, 27, 0, 0, 0, []),
  (49, .iconst 0, 28, 0, 0, 10, []),
  (51, .aload 0, 29, 0, 0, 0, []),
  (52, .getfield 0, 30, 8, 39, 0, []),
  (55, .iload 1, 31, 0, 0, 0, []),
  (56, .iaload, 32, 0, 0, 0, [])],
 [(57, .iadd, 33, 0, 0, 0, []),
  (58, .if_icmp .ne 0, 34, 39, 0, 0, []),
  (61, .aload 0, 35, 0, 0, 0, []),
  (62, .getfield 0, 36, 8, 40, 0, []),
  (65, .iload 1, 37, 0, 0, 0, []),
  (66, .iaload, 38, 0, 0, 0, []),
  (67, .goto 0, 39, 40, 0, 0, []),
  (70, .iconst 0, 40, 0, 0, (-13), []),
  (72, .ireturn, 41, 0, 0, 0, []),
  (73, .iload 2, 42, 0, 0, 0, []),
  (74, .iconst 0, 43, 0, 0, 10, []),
  (76, .if_icmp .ge 0, 44, 53, 0, 0, []),
  (79, .iload 3, 45, 0, 0, 0, []),
  (80, .iload 2, 46, 0, 0, 0, []),
  (81, .invokestatic 0, 47, 218, 2, 0, [8, 0, 0]),
  (84, .ifCond .eq 0, 48, 53, 0, 0, [])],
 [(87, .aload 0, 49, 0, 0, 0, []),
  (88, .getfield 0, 50, 8, 39, 0, []),
  (91, .iload 1, 51, 0, 0, 0, []),
  (92, .iaload, 52, 0, 0, 0, []),
  (93, .goto 0, 53, 54, 0, 0, []),
  (96, .iconst 0, 54, 0, 0, (-13), []),
  (98, .ireturn, 55, 0, 0, 0, [])]]
/-- HatFieldsModel.kindOn(I)I -/
def hcd217 : hk_Cd := [
 [(0, .aload 0, 1, 0, 0, 0, []),
  (1, .getfield 0, 2, 8, 38, 0, []),
  (4, .iload 1, 3, 0, 0, 0, []),
  (5, .iaload, 4, 0, 0, 0, []),
  (6, .ifCond .eq 0, 5, 14, 0, 0, []),
  (9, .aload 0, 6, 0, 0, 0, []),
  (10, .getfield 0, 7, 8, 38, 0, []),
  (13, .iload 1, 8, 0, 0, 0, []),
  (14, .iaload, 9, 0, 0, 0, []),
  (15, .ifCond .ge 0, 10, 12, 0, 0, []),
  (18, .iconst 0, 11, 0, 0, (-1), []),
  (19, .goto 0, 12, 13, 0, 0, []),
  (22, .iconst 0, 13, 0, 0, 9, []),
  (24, .ireturn, 14, 0, 0, 0, []),
  (25, .aload 0, 15, 0, 0, 0, []),
  (26, .aload 0, 16, 0, 0, 0, [])],
 [(27, .getfield 0, 17, 8, 39, 0, []),
  (30, .iload 1, 18, 0, 0, 0, []),
  (31, .iaload, 19, 0, 0, 0, []),
  (32, .invokevirtual 0, 20, 163, 1, 0, [8, 0, 0]),
  (35, .ifCond .eq 0, 21, 29, 0, 0, []),
  (38, .aload 0, 22, 0, 0, 0, []),
  (39, .getfield 0, 23, 8, 5, 0, []),
  (42, .aload 0, 24, 0, 0, 0, []),
  (43, .getfield 0, 25, 8, 39, 0, []),
  (46, .iload 1, 26, 0, 0, 0, []),
  (47, .iaload, 27, 0, 0, 0, []),
  (48, .iaload, 28, 0, 0, 0, []),
  (49, .goto 0, 29, 30, 0, 0, []),
  (52, .iconst 0, 30, 0, 0, (-1), []),
  (53, .ireturn, 31, 0, 0, 0, [])]]
/-- HatFieldsModel.isUnder(II)Z -/
def hcd218 : hk_Cd := [
 [(0, .iload 1, 1, 0, 0, 0, []),
  (1, .ifCond .eq 0, 2, 17, 0, 0, []),
  (4, .iload 1, 3, 0, 0, 0, []),
  (5, .iload 0, 4, 0, 0, 0, []),
  (6, .if_icmp .eq 0, 5, 17, 0, 0, []),
  (9, .iload 1, 6, 0, 0, 0, []),
  (10, .iconst 0, 7, 0, 0, 1, []),
  (11, .if_icmp .ne 0, 8, 11, 0, 0, []),
  (14, .iload 0, 9, 0, 0, 0, []),
  (15, .iconst 0, 10, 0, 0, 3, []),
  (16, .if_icmp .eq 0, 11, 17, 0, 0, []),
  (19, .iload 1, 12, 0, 0, 0, []),
  (20, .iconst 0, 13, 0, 0, 2, []),
  (21, .if_icmp .ne 0, 14, 19, 0, 0, []),
  (24, .iload 0, 15, 0, 0, 0, []),
  (25, .iconst 0, 16, 0, 0, 4, [])],
 [(26, .if_icmp .ne 0, 17, 19, 0, 0, []),
  (29, .iconst 0, 18, 0, 0, 1, []),
  (30, .goto 0, 19, 20, 0, 0, []),
  (33, .iconst 0, 20, 0, 0, 0, []),
  (34, .ireturn, 21, 0, 0, 0, [])]]
/-- HatFieldsModel.act(III)I -/
def hcd219 : hk_Cd := [
 [(0, .aload 0, 1, 0, 0, 0, []),
  (1, .iconst 0, 2, 0, 0, 0, []),
  (2, .putfield 0, 3, 8, 45, 0, [0]),
  (5, .iload 1, 4, 0, 0, 0, []),
  (6, .invokestatic 0, 5, 209, 1, 0, [8, 0, 0]),
  (9, .ifCond .eq 0, 6, 10, 0, 0, []),
  (12, .aload 0, 7, 0, 0, 0, []),
  (13, .iload 1, 8, 0, 0, 0, []),
  (14, .invokevirtual 0, 9, 217, 1, 0, [8, 0, 0]),
  (17, .goto 0, 10, 11, 0, 0, []),
  (20, .iconst 0, 11, 0, 0, (-1), []),
  (21, .istore 4, 12, 0, 0, 0, []),
  (23, .iload 2, 13, 0, 0, 0, []),
  (24, .iconst 0, 14, 0, 0, 0, []),
  (25, .iconst 0, 15, 0, 0, 3, []),
  (26, .invokestatic 0, 16, 130, 3, 0, [8, 0, 0])],
 [(29, .ifCond .eq 0, 17, 22, 0, 0, []),
  (32, .iload 4, 18, 0, 0, 0, []),
  (34, .iconst 0, 19, 0, 0, 0, []),
  (35, .iconst 0, 20, 0, 0, 5, []),
  (36, .invokestatic 0, 21, 130, 3, 0, [8, 0, 0]),
  (39, .ifCond .ne 0, 22, 24, 0, 0, []),
  (42, .iconst 0, 23, 0, 0, 0, []),
  (43, .ireturn, 24, 0, 0, 0, []),
  (44, .aload 0, 25, 0, 0, 0, []),
  (45, .iload 4, 26, 0, 0, 0, []),
  (47, .putfield 0, 27, 8, 41, 0, [0]),
  (50, .aload 0, 28, 0, 0, 0, []),
  (51, .aload 0, 29, 0, 0, 0, []),
  (52, .getfield 0, 30, 8, 39, 0, []),
  (55, .iload 1, 31, 0, 0, 0, []),
  (56, .iaload, 32, 0, 0, 0, [])],
 [(57, .putfield 0, 33, 8, 42, 0, [0]),
  (60, .aload 0, 34, 0, 0, 0, []),
  (61, .aload 0, 35, 0, 0, 0, []),
  (62, .getfield 0, 36, 8, 6, 0, []),
  (65, .aload 0, 37, 0, 0, 0, []),
  (66, .getfield 0, 38, 8, 42, 0, []),
  (69, .iaload, 39, 0, 0, 0, []),
  (70, .putfield 0, 40, 8, 43, 0, [0]),
  (73, .aload 0, 41, 0, 0, 0, []),
  (74, .iconst 0, 42, 0, 0, 0, []),
  (75, .putfield 0, 43, 8, 46, 0, [1]),
  (78, .iload 2, 44, 0, 0, 0, []),
  (79, .ifCond .ne 0, 45, 49, 0, 0, []),
  (82, .aload 0, 46, 0, 0, 0, []),
  (83, .iload 3, 47, 0, 0, 0, []),
  (84, .invokevirtual 0, 48, 220, 1, 0, [8, 0, 0])],
 [(87, .goto 0, 49, 66, 0, 0, []),
  (90, .iload 2, 50, 0, 0, 0, []),
  (91, .iconst 0, 51, 0, 0, 1, []),
  (92, .if_icmp .ne 0, 52, 56, 0, 0, []),
  (95, .aload 0, 53, 0, 0, 0, []),
  (96, .iload 3, 54, 0, 0, 0, []),
  (97, .invokevirtual 0, 55, 224, 1, 0, [8, 0, 0]),
  (100, .goto 0, 56, 66, 0, 0, []),
  (103, .iload 2, 57, 0, 0, 0, []),
  (104, .iconst 0, 58, 0, 0, 2, []),
  (105, .if_icmp .ne 0, 59, 63, 0, 0, []),
  (108, .aload 0, 60, 0, 0, 0, []),
  (109, .iload 3, 61, 0, 0, 0, []),
  (110, .invokevirtual 0, 62, 226, 1, 0, [8, 0, 0]),
  (113, .goto 0, 63, 66, 0, 0, []),
  (116, .aload 0, 64, 0, 0, 0, [])],
 [(117, .iload 3, 65, 0, 0, 0, []),
  (118, .invokevirtual 0, 66, 228, 1, 0, [8, 0, 0]),
  (121, .istore 5, 67, 0, 0, 0, []),
  (123, .aload 0, 68, 0, 0, 0, []),
  (124, .getfield 0, 69, 8, 46, 0, []),
  (127, .ifCond .eq 0, 70, 72, 0, 0, []),
  (130, .iconst 0, 71, 0, 0, (-15), []),
  (132, .goto 0, 72, 73, 0, 0, []),
  (135, .iload 5, 73, 0, 0, 0, []),
  (137, .ireturn, 74, 0, 0, 0, [])]]
/-- HatFieldsModel.holdsIt(I)I -/
def hcd220 : hk_Cd := [
 [(0, .aload 0, 1, 0, 0, 0, []),
  (1, .getfield 0, 2, 8, 41, 0, []),
  (4, .tableswitch 0 2 0 #[], 3, 26, 0, 0, [3, 16, 7]),
  (32, .aload 0, 4, 0, 0, 0, []),
  (33, .iload 1, 5, 0, 0, 0, []),
  (34, .invokevirtual 0, 6, 221, 1, 0, [8, 0, 0]),
  (37, .ireturn, 7, 0, 0, 0, []),
  (38, .aload 0, 8, 0, 0, 0, []),
  (39, .iconst 0, 9, 0, 0, 40, []),
  (41, .invokevirtual 0, 10, 222, 1, 0, [8, 0, 0]),
  (44, .iconst 0, 11, 0, 0, 0, []),
  (45, .aload 0, 12, 0, 0, 0, []),
  (46, .iload 1, 13, 0, 0, 0, []),
  (47, .invokevirtual 0, 14, 221, 1, 0, [8, 0, 0]),
  (50, .isub, 15, 0, 0, 0, []),
  (51, .ireturn, 16, 0, 0, 0, [])],
 [(52, .aload 0, 17, 0, 0, 0, []),
  (53, .iconst 0, 18, 0, 0, 51, []),
  (55, .invokevirtual 0, 19, 222, 1, 0, [8, 0, 0]),
  (58, .aload 0, 20, 0, 0, 0, []),
  (59, .iload 1, 21, 0, 0, 0, []),
  (60, .invokevirtual 0, 22, 223, 1, 0, [8, 0, 0]),
  (63, .aload 0, 23, 0, 0, 0, []),
  (64, .getfield 0, 24, 8, 42, 0, []),
  (67, .isub, 25, 0, 0, 0, []),
  (68, .ireturn, 26, 0, 0, 0, []),
  (69, .aload 0, 27, 0, 0, 0, []),
  (70, .iload 1, 28, 0, 0, 0, []),
  (71, .invokevirtual 0, 29, 223, 1, 0, [8, 0, 0]),
  (74, .ireturn, 30, 0, 0, 0, [])]]
/-- HatFieldsModel.strawHolds(I)I -/
def hcd221 : hk_Cd := [
 [(0, .aload 0, 1, 0, 0, 0, []),
  (1, .iconst 0, 2, 0, 0, 30, []),
  (3, .invokevirtual 0, 3, 222, 1, 0, [8, 0, 0]),
  (6, .aload 0, 4, 0, 0, 0, []),
  (7, .iload 1, 5, 0, 0, 0, []),
  (8, .invokevirtual 0, 6, 223, 1, 0, [8, 0, 0]),
  (11, .iconst 0, 7, 0, 0, 3, []),
  (12, .imul, 8, 0, 0, 0, []),
  (13, .ireturn, 9, 0, 0, 0, [])]]
/-- HatFieldsModel.ran(I)V -/
def hcd222 : hk_Cd := [
 [(0, .aload 0, 1, 0, 0, 0, []),
  (1, .getfield 0, 2, 8, 45, 0, []),
  (4, .iconst 0, 3, 0, 0, 30, []),
  (6, .if_icmp .ge 0, 4, 16, 0, 0, []),
  (9, .aload 0, 5, 0, 0, 0, []),
  (10, .getfield 0, 6, 8, 44, 0, []),
  (13, .aload 0, 7, 0, 0, 0, []),
  (14, .getfield 0, 8, 8, 45, 0, []),
  (17, .iload 1, 9, 0, 0, 0, []),
  (18, .iastore, 10, 0, 0, 0, []),
  (19, .aload 0, 11, 0, 0, 0, []),
  (20, .dup, 12, 0, 0, 0, []),
  (21, .getfield 0, 13, 8, 45, 0, []),
  (24, .iconst 0, 14, 0, 0, 1, []),
  (25, .iadd, 15, 0, 0, 0, []),
  (26, .putfield 0, 16, 8, 45, 0, [0])],
 [(29, .return_, 17, 0, 0, 0, [])]]
/-- HatFieldsModel.plainHolds(I)I -/
def hcd223 : hk_Cd := [
 [(0, .aload 0, 1, 0, 0, 0, []),
  (1, .iconst 0, 2, 0, 0, 10, []),
  (3, .invokevirtual 0, 3, 222, 1, 0, [8, 0, 0]),
  (6, .iload 1, 4, 0, 0, 0, []),
  (7, .aload 0, 5, 0, 0, 0, []),
  (8, .getfield 0, 6, 8, 42, 0, []),
  (11, .iadd, 7, 0, 0, 0, []),
  (12, .ireturn, 8, 0, 0, 0, [])]]
/-- HatFieldsModel.fliesIt(I)I -/
def hcd224 : hk_Cd := [
 [(0, .aload 0, 1, 0, 0, 0, []),
  (1, .getfield 0, 2, 8, 41, 0, []),
  (4, .iconst 0, 3, 0, 0, 1, []),
  (5, .if_icmp .eq 0, 4, 8, 0, 0, []),
  (8, .aload 0, 5, 0, 0, 0, []),
  (9, .getfield 0, 6, 8, 41, 0, []),
  (12, .iconst 0, 7, 0, 0, 3, []),
  (13, .if_icmp .ne 0, 8, 18, 0, 0, []),
  (16, .aload 0, 9, 0, 0, 0, []),
  (17, .iconst 0, 10, 0, 0, 20, []),
  (19, .invokevirtual 0, 11, 222, 1, 0, [8, 0, 0]),
  (22, .aload 0, 12, 0, 0, 0, []),
  (23, .iload 1, 13, 0, 0, 0, []),
  (24, .invokevirtual 0, 14, 225, 1, 0, [8, 0, 0]),
  (27, .aload 0, 15, 0, 0, 0, []),
  (28, .getfield 0, 16, 8, 43, 0, [])],
 [(31, .isub, 17, 0, 0, 0, []),
  (32, .ireturn, 18, 0, 0, 0, []),
  (33, .aload 0, 19, 0, 0, 0, []),
  (34, .getfield 0, 20, 8, 41, 0, []),
  (37, .iconst 0, 21, 0, 0, 4, []),
  (38, .if_icmp .ne 0, 22, 36, 0, 0, []),
  (41, .aload 0, 23, 0, 0, 0, []),
  (42, .iconst 0, 24, 0, 0, 41, []),
  (44, .invokevirtual 0, 25, 222, 1, 0, [8, 0, 0]),
  (47, .aload 0, 26, 0, 0, 0, []),
  (48, .iload 1, 27, 0, 0, 0, []),
  (49, .invokevirtual 0, 28, 225, 1, 0, [8, 0, 0]),
  (52, .istore 2, 29, 0, 0, 0, []),
  (53, .iload 2, 30, 0, 0, 0, []),
  (54, .aload 0, 31, 0, 0, 0, []),
  (55, .aload 0, 32, 0, 0, 0, [])],
 [(56, .getfield 0, 33, 8, 42, 0, []),
  (59, .invokevirtual 0, 34, 220, 1, 0, [8, 0, 0]),
  (62, .iadd, 35, 0, 0, 0, []),
  (63, .ireturn, 36, 0, 0, 0, []),
  (64, .aload 0, 37, 0, 0, 0, []),
  (65, .iload 1, 38, 0, 0, 0, []),
  (66, .invokevirtual 0, 39, 225, 1, 0, [8, 0, 0]),
  (69, .ireturn, 40, 0, 0, 0, [])]]
/-- HatFieldsModel.plainFlies(I)I -/
def hcd225 : hk_Cd := [
 [(0, .aload 0, 1, 0, 0, 0, []),
  (1, .iconst 0, 2, 0, 0, 11, []),
  (3, .invokevirtual 0, 3, 222, 1, 0, [8, 0, 0]),
  (6, .aload 0, 4, 0, 0, 0, []),
  (7, .iload 1, 5, 0, 0, 0, []),
  (8, .invokevirtual 0, 6, 220, 1, 0, [8, 0, 0]),
  (11, .iconst 0, 7, 0, 0, 2, []),
  (12, .imul, 8, 0, 0, 0, []),
  (13, .ireturn, 9, 0, 0, 0, [])]]
/-- HatFieldsModel.sharesIt(I)I -/
def hcd226 : hk_Cd := [
 [(0, .aload 0, 1, 0, 0, 0, []),
  (1, .getfield 0, 2, 8, 41, 0, []),
  (4, .iconst 0, 3, 0, 0, 3, []),
  (5, .if_icmp .ne 0, 4, 15, 0, 0, []),
  (8, .aload 0, 5, 0, 0, 0, []),
  (9, .iconst 0, 6, 0, 0, 50, []),
  (11, .invokevirtual 0, 7, 222, 1, 0, [8, 0, 0]),
  (14, .aload 0, 8, 0, 0, 0, []),
  (15, .iload 1, 9, 0, 0, 0, []),
  (16, .iconst 0, 10, 0, 0, 2, []),
  (17, .iadd, 11, 0, 0, 0, []),
  (18, .invokevirtual 0, 12, 227, 1, 0, [8, 0, 0]),
  (21, .iconst 0, 13, 0, 0, 1, []),
  (22, .ixor, 14, 0, 0, 0, []),
  (23, .ireturn, 15, 0, 0, 0, []),
  (24, .aload 0, 16, 0, 0, 0, [])],
 [(25, .getfield 0, 17, 8, 41, 0, []),
  (28, .iconst 0, 18, 0, 0, 5, []),
  (29, .if_icmp .ne 0, 19, 38, 0, 0, []),
  (32, .aload 0, 20, 0, 0, 0, []),
  (33, .iconst 0, 21, 0, 0, 61, []),
  (35, .invokevirtual 0, 22, 222, 1, 0, [8, 0, 0]),
  (38, .aload 0, 23, 0, 0, 0, []),
  (39, .iload 1, 24, 0, 0, 0, []),
  (40, .invokevirtual 0, 25, 227, 1, 0, [8, 0, 0]),
  (43, .istore 2, 26, 0, 0, 0, []),
  (44, .aload 0, 27, 0, 0, 0, []),
  (45, .getfield 0, 28, 8, 46, 0, []),
  (48, .ifCond .eq 0, 29, 31, 0, 0, []),
  (51, .iconst 0, 30, 0, 0, 0, []),
  (52, .goto 0, 31, 37, 0, 0, []),
  (55, .iload 2, 32, 0, 0, 0, [])],
 [(56, .aload 0, 33, 0, 0, 0, []),
  (57, .aload 0, 34, 0, 0, 0, []),
  (58, .getfield 0, 35, 8, 43, 0, []),
  (61, .invokevirtual 0, 36, 220, 1, 0, [8, 0, 0]),
  (64, .iadd, 37, 0, 0, 0, []),
  (65, .ireturn, 38, 0, 0, 0, []),
  (66, .aload 0, 39, 0, 0, 0, []),
  (67, .iload 1, 40, 0, 0, 0, []),
  (68, .invokevirtual 0, 41, 227, 1, 0, [8, 0, 0]),
  (71, .ireturn, 42, 0, 0, 0, [])]]
/-- HatFieldsModel.plainShares(I)I -/
def hcd227 : hk_Cd := [
 [(0, .aload 0, 1, 0, 0, 0, []),
  (1, .iconst 0, 2, 0, 0, 12, []),
  (3, .invokevirtual 0, 3, 222, 1, 0, [8, 0, 0]),
  (6, .aload 0, 4, 0, 0, 0, []),
  (7, .getfield 0, 5, 8, 43, 0, []),
  (10, .aload 0, 6, 0, 0, 0, []),
  (11, .getfield 0, 7, 8, 42, 0, []),
  (14, .if_icmp .ne 0, 8, 13, 0, 0, []),
  (17, .aload 0, 9, 0, 0, 0, []),
  (18, .iconst 0, 10, 0, 0, 1, []),
  (19, .putfield 0, 11, 8, 46, 0, [1]),
  (22, .iconst 0, 12, 0, 0, 0, []),
  (23, .ireturn, 13, 0, 0, 0, []),
  (24, .iload 1, 14, 0, 0, 0, []),
  (25, .aload 0, 15, 0, 0, 0, []),
  (26, .getfield 0, 16, 8, 43, 0, [])],
 [(29, .aload 0, 17, 0, 0, 0, []),
  (30, .getfield 0, 18, 8, 42, 0, []),
  (33, .isub, 19, 0, 0, 0, []),
  (34, .idiv, 20, 0, 0, 0, []),
  (35, .ireturn, 21, 0, 0, 0, [])]]
/-- HatFieldsModel.tellsIt(I)I -/
def hcd228 : hk_Cd := [
 [(0, .aload 0, 1, 0, 0, 0, []),
  (1, .getfield 0, 2, 8, 41, 0, []),
  (4, .iconst 0, 3, 0, 0, 2, []),
  (5, .if_icmp .eq 0, 4, 8, 0, 0, []),
  (8, .aload 0, 5, 0, 0, 0, []),
  (9, .getfield 0, 6, 8, 41, 0, []),
  (12, .iconst 0, 7, 0, 0, 4, []),
  (13, .if_icmp .ne 0, 8, 22, 0, 0, []),
  (16, .aload 0, 9, 0, 0, 0, []),
  (17, .iconst 0, 10, 0, 0, 31, []),
  (19, .invokevirtual 0, 11, 222, 1, 0, [8, 0, 0]),
  (22, .aload 0, 12, 0, 0, 0, []),
  (23, .iload 1, 13, 0, 0, 0, []),
  (24, .invokevirtual 0, 14, 229, 1, 0, [8, 0, 0]),
  (27, .istore 2, 15, 0, 0, 0, []),
  (28, .iload 2, 16, 0, 0, 0, [])],
 [(29, .aload 0, 17, 0, 0, 0, []),
  (30, .aload 0, 18, 0, 0, 0, []),
  (31, .getfield 0, 19, 8, 42, 0, []),
  (34, .invokevirtual 0, 20, 226, 1, 0, [8, 0, 0]),
  (37, .iadd, 21, 0, 0, 0, []),
  (38, .ireturn, 22, 0, 0, 0, []),
  (39, .aload 0, 23, 0, 0, 0, []),
  (40, .getfield 0, 24, 8, 41, 0, []),
  (43, .iconst 0, 25, 0, 0, 5, []),
  (44, .if_icmp .ne 0, 26, 35, 0, 0, []),
  (47, .aload 0, 27, 0, 0, 0, []),
  (48, .iconst 0, 28, 0, 0, 60, []),
  (50, .invokevirtual 0, 29, 222, 1, 0, [8, 0, 0]),
  (53, .aload 0, 30, 0, 0, 0, []),
  (54, .iload 1, 31, 0, 0, 0, []),
  (55, .invokevirtual 0, 32, 229, 1, 0, [8, 0, 0])],
 [(58, .iconst 0, 33, 0, 0, 2, []),
  (59, .imul, 34, 0, 0, 0, []),
  (60, .ireturn, 35, 0, 0, 0, []),
  (61, .aload 0, 36, 0, 0, 0, []),
  (62, .iload 1, 37, 0, 0, 0, []),
  (63, .invokevirtual 0, 38, 229, 1, 0, [8, 0, 0]),
  (66, .ireturn, 39, 0, 0, 0, [])]]
/-- HatFieldsModel.plainTells(I)I -/
def hcd229 : hk_Cd := [
 [(0, .aload 0, 1, 0, 0, 0, []),
  (1, .iconst 0, 2, 0, 0, 13, []),
  (3, .invokevirtual 0, 3, 222, 1, 0, [8, 0, 0]),
  (6, .aload 0, 4, 0, 0, 0, []),
  (7, .iload 1, 5, 0, 0, 0, []),
  (8, .invokevirtual 0, 6, 224, 1, 0, [8, 0, 0]),
  (11, .aload 0, 7, 0, 0, 0, []),
  (12, .getfield 0, 8, 8, 43, 0, []),
  (15, .ixor, 9, 0, 0, 0, []),
  (16, .ireturn, 10, 0, 0, 0, [])]]
/-- HatFieldsModel.trace(I)I -/
def hcd230 : hk_Cd := [
 [(0, .iload 1, 1, 0, 0, 0, []),
  (1, .iconst 0, 2, 0, 0, 0, []),
  (2, .aload 0, 3, 0, 0, 0, []),
  (3, .getfield 0, 4, 8, 45, 0, []),
  (6, .iconst 0, 5, 0, 0, 1, []),
  (7, .isub, 6, 0, 0, 0, []),
  (8, .invokestatic 0, 7, 130, 3, 0, [8, 0, 0]),
  (11, .ifCond .eq 0, 8, 13, 0, 0, []),
  (14, .aload 0, 9, 0, 0, 0, []),
  (15, .getfield 0, 10, 8, 44, 0, []),
  (18, .iload 1, 11, 0, 0, 0, []),
  (19, .iaload, 12, 0, 0, 0, []),
  (20, .goto 0, 13, 14, 0, 0, []),
  (23, .iconst 0, 14, 0, 0, (-3), []),
  (25, .ireturn, 15, 0, 0, 0, [])]]
/-- HatFieldsModel.many(I)I -/
def hcd231 : hk_Cd := [
 [(0, .iconst 0, 1, 0, 0, 0, []),
  (1, .istore 2, 2, 0, 0, 0, []),
  (2, .iload 1, 3, 0, 0, 0, []),
  (3, .tableswitch 0 0 0 #[], 4, 44, 0, 0, [4, 7, 10, 15, 18, 21, 24]),
  (44, .aload 0, 5, 0, 0, 0, []),
  (45, .getfield 0, 6, 8, 2, 0, []),
  (48, .ireturn, 7, 0, 0, 0, []),
  (49, .aload 0, 8, 0, 0, 0, []),
  (50, .getfield 0, 9, 8, 4, 0, []),
  (53, .ireturn, 10, 0, 0, 0, []),
  (54, .aload 0, 11, 0, 0, 0, []),
  (55, .getfield 0, 12, 8, 8, 0, []),
  (58, .iconst 0, 13, 0, 0, 0, []),
  (59, .iaload, 14, 0, 0, 0, []),
  (60, .ireturn, 15, 0, 0, 0, []),
  (61, .aload 0, 16, 0, 0, 0, [])],
 [(62, .getfield 0, 17, 8, 33, 0, []),
  (65, .ireturn, 18, 0, 0, 0, []),
  (66, .aload 0, 19, 0, 0, 0, []),
  (67, .getfield 0, 20, 8, 12, 0, []),
  (70, .ireturn, 21, 0, 0, 0, []),
  (71, .aload 0, 22, 0, 0, 0, []),
  (72, .getfield 0, 23, 8, 45, 0, []),
  (75, .ireturn, 24, 0, 0, 0, []),
  (76, .iconst 0, 25, 0, 0, 0, []),
  (77, .istore 3, 26, 0, 0, 0, []),
  (78, .iload 3, 27, 0, 0, 0, []),
  (79, .aload 0, 28, 0, 0, 0, []),
  (80, .getfield 0, 29, 8, 4, 0, []),
  (83, .if_icmp .ge 0, 30, 42, 0, 0, []),
  (86, .iload 2, 31, 0, 0, 0, []),
  (87, .aload 0, 32, 0, 0, 0, [])],
 [(88, .iload 3, 33, 0, 0, 0, []),
  (89, .invokevirtual 0, 34, 175, 1, 0, [8, 0, 0]),
  (92, .ifCond .eq 0, 35, 37, 0, 0, []),
  (95, .iconst 0, 36, 0, 0, 1, []),
  (96, .goto 0, 37, 38, 0, 0, []),
  (99, .iconst 0, 38, 0, 0, 0, []),
  (100, .iadd, 39, 0, 0, 0, []),
  (101, .istore 2, 40, 0, 0, 0, []),
  (102, .iinc 3 0, 41, 0, 0, 1, []),
  (105, .goto 0, 42, 26, 0, 0, []),
  (108, .iload 2, 43, 0, 0, 0, []),
  (109, .ireturn, 44, 0, 0, 0, []),
  (110, .iconst 0, 45, 0, 0, (-1), []),
  (111, .ireturn, 46, 0, 0, 0, [])]]
/-- HatFieldsModel.keep()I -/
def hcd232 : hk_Cd := [
 [(0, .aload 0, 1, 0, 0, 0, []),
  (1, .iconst 0, 2, 0, 0, 1, []),
  (2, .invokevirtual 0, 3, 233, 1, 0, [8, 0, 0]),
  (5, .aload 0, 4, 0, 0, 0, []),
  (6, .iconst 0, 5, 0, 0, 1, []),
  (7, .putfield 0, 6, 8, 47, 0, [1]),
  (10, .iconst 0, 7, 0, 0, 1, []),
  (11, .ireturn, 8, 0, 0, 0, [])]]
/-- HatFieldsModel.moveAll(Z)V -/
def hcd233 : hk_Cd := [
 [(0, .aload 0, 1, 0, 0, 0, []),
  (1, .iconst 0, 2, 0, 0, 0, []),
  (2, .putfield 0, 3, 8, 49, 0, [0]),
  (5, .aload 0, 4, 0, 0, 0, []),
  (6, .getfield 0, 5, 8, 50, 0, []),
  (9, .iconst 0, 6, 0, 0, 0, []),
  (10, .aload 0, 7, 0, 0, 0, []),
  (11, .getfield 0, 8, 8, 2, 0, []),
  (14, .iastore, 9, 0, 0, 0, []),
  (15, .aload 0, 10, 0, 0, 0, []),
  (16, .getfield 0, 11, 8, 50, 0, []),
  (19, .iconst 0, 12, 0, 0, 1, []),
  (20, .aload 0, 13, 0, 0, 0, []),
  (21, .getfield 0, 14, 8, 4, 0, []),
  (24, .iastore, 15, 0, 0, 0, []),
  (25, .aload 0, 16, 0, 0, 0, [])],
 [(26, .getfield 0, 17, 8, 50, 0, []),
  (29, .iconst 0, 18, 0, 0, 2, []),
  (30, .aload 0, 19, 0, 0, 0, []),
  (31, .getfield 0, 20, 8, 10, 0, []),
  (34, .iastore, 21, 0, 0, 0, []),
  (35, .aload 0, 22, 0, 0, 0, []),
  (36, .aload 0, 23, 0, 0, 0, []),
  (37, .getfield 0, 24, 8, 50, 0, []),
  (40, .iconst 0, 25, 0, 0, 3, []),
  (41, .iload 1, 26, 0, 0, 0, []),
  (42, .invokevirtual 0, 27, 234, 3, 0, [8, 0, 0]),
  (45, .aload 0, 28, 0, 0, 0, []),
  (46, .aload 0, 29, 0, 0, 0, []),
  (47, .getfield 0, 30, 8, 0, 0, []),
  (50, .iconst 0, 31, 0, 0, 24, []),
  (52, .iload 1, 32, 0, 0, 0, [])],
 [(53, .invokevirtual 0, 33, 234, 3, 0, [8, 0, 0]),
  (56, .aload 0, 34, 0, 0, 0, []),
  (57, .aload 0, 35, 0, 0, 0, []),
  (58, .getfield 0, 36, 8, 1, 0, []),
  (61, .iconst 0, 37, 0, 0, 24, []),
  (63, .iload 1, 38, 0, 0, 0, []),
  (64, .invokevirtual 0, 39, 234, 3, 0, [8, 0, 0]),
  (67, .aload 0, 40, 0, 0, 0, []),
  (68, .aload 0, 41, 0, 0, 0, []),
  (69, .getfield 0, 42, 8, 3, 0, []),
  (72, .iconst 0, 43, 0, 0, 5, []),
  (73, .iload 1, 44, 0, 0, 0, []),
  (74, .invokevirtual 0, 45, 234, 3, 0, [8, 0, 0]),
  (77, .aload 0, 46, 0, 0, 0, []),
  (78, .aload 0, 47, 0, 0, 0, []),
  (79, .getfield 0, 48, 8, 5, 0, [])],
 [(82, .iconst 0, 49, 0, 0, 6, []),
  (84, .iload 1, 50, 0, 0, 0, []),
  (85, .invokevirtual 0, 51, 234, 3, 0, [8, 0, 0]),
  (88, .aload 0, 52, 0, 0, 0, []),
  (89, .aload 0, 53, 0, 0, 0, []),
  (90, .getfield 0, 54, 8, 6, 0, []),
  (93, .iconst 0, 55, 0, 0, 6, []),
  (95, .iload 1, 56, 0, 0, 0, []),
  (96, .invokevirtual 0, 57, 234, 3, 0, [8, 0, 0]),
  (99, .aload 0, 58, 0, 0, 0, []),
  (100, .aload 0, 59, 0, 0, 0, []),
  (101, .getfield 0, 60, 8, 7, 0, []),
  (104, .iconst 0, 61, 0, 0, 6, []),
  (106, .iload 1, 62, 0, 0, 0, []),
  (107, .invokevirtual 0, 63, 234, 3, 0, [8, 0, 0]),
  (110, .aload 0, 64, 0, 0, 0, [])],
 [(111, .aload 0, 65, 0, 0, 0, []),
  (112, .getfield 0, 66, 8, 8, 0, []),
  (115, .iconst 0, 67, 0, 0, 18, []),
  (117, .iload 1, 68, 0, 0, 0, []),
  (118, .invokevirtual 0, 69, 234, 3, 0, [8, 0, 0]),
  (121, .return_, 70, 0, 0, 0, [])]]
/-- HatFieldsModel.moveRow([IIZ)V -/
def hcd234 : hk_Cd := [
 [(0, .iconst 0, 1, 0, 0, 0, []),
  (1, .istore 4, 2, 0, 0, 0, []),
  (3, .iload 4, 3, 0, 0, 0, []),
  (5, .iload 2, 4, 0, 0, 0, []),
  (6, .if_icmp .ge 0, 5, 32, 0, 0, []),
  (9, .iload 3, 6, 0, 0, 0, []),
  (10, .ifCond .eq 0, 7, 16, 0, 0, []),
  (13, .aload 0, 8, 0, 0, 0, []),
  (14, .getfield 0, 9, 8, 48, 0, []),
  (17, .aload 0, 10, 0, 0, 0, []),
  (18, .getfield 0, 11, 8, 49, 0, []),
  (21, .aload 1, 12, 0, 0, 0, []),
  (22, .iload 4, 13, 0, 0, 0, []),
  (24, .iaload, 14, 0, 0, 0, []),
  (25, .iastore, 15, 0, 0, 0, []),
  (26, .goto 0, 16, 24, 0, 0, [])],
 [(29, .aload 1, 17, 0, 0, 0, []),
  (30, .iload 4, 18, 0, 0, 0, []),
  (32, .aload 0, 19, 0, 0, 0, []),
  (33, .getfield 0, 20, 8, 48, 0, []),
  (36, .aload 0, 21, 0, 0, 0, []),
  (37, .getfield 0, 22, 8, 49, 0, []),
  (40, .iaload, 23, 0, 0, 0, []),
  (41, .iastore, 24, 0, 0, 0, []),
  (42, .aload 0, 25, 0, 0, 0, []),
  (43, .dup, 26, 0, 0, 0, []),
  (44, .getfield 0, 27, 8, 49, 0, []),
  (47, .iconst 0, 28, 0, 0, 1, []),
  (48, .iadd, 29, 0, 0, 0, []),
  (49, .putfield 0, 30, 8, 49, 0, [0]),
  (52, .iinc 4 0, 31, 0, 0, 1, []),
  (55, .goto 0, 32, 2, 0, 0, [])],
 [(58, .return_, 33, 0, 0, 0, [])]]
/-- HatFieldsModel.again()I -/
def hcd235 : hk_Cd := [
 [(0, .aload 0, 1, 0, 0, 0, []),
  (1, .getfield 0, 2, 8, 47, 0, []),
  (4, .ifCond .ne 0, 3, 5, 0, 0, []),
  (7, .iconst 0, 4, 0, 0, (-3), []),
  (9, .ireturn, 5, 0, 0, 0, []),
  (10, .aload 0, 6, 0, 0, 0, []),
  (11, .iconst 0, 7, 0, 0, 0, []),
  (12, .invokevirtual 0, 8, 233, 1, 0, [8, 0, 0]),
  (15, .aload 0, 9, 0, 0, 0, []),
  (16, .aload 0, 10, 0, 0, 0, []),
  (17, .getfield 0, 11, 8, 50, 0, []),
  (20, .iconst 0, 12, 0, 0, 0, []),
  (21, .iaload, 13, 0, 0, 0, []),
  (22, .putfield 0, 14, 8, 2, 0, [0]),
  (25, .aload 0, 15, 0, 0, 0, []),
  (26, .aload 0, 16, 0, 0, 0, [])],
 [(27, .getfield 0, 17, 8, 50, 0, []),
  (30, .iconst 0, 18, 0, 0, 1, []),
  (31, .iaload, 19, 0, 0, 0, []),
  (32, .putfield 0, 20, 8, 4, 0, [0]),
  (35, .aload 0, 21, 0, 0, 0, []),
  (36, .aload 0, 22, 0, 0, 0, []),
  (37, .getfield 0, 23, 8, 50, 0, []),
  (40, .iconst 0, 24, 0, 0, 2, []),
  (41, .iaload, 25, 0, 0, 0, []),
  (42, .putfield 0, 26, 8, 10, 0, [0]),
  (45, .aload 0, 27, 0, 0, 0, []),
  (46, .getfield 0, 28, 8, 8, 0, []),
  (49, .iconst 0, 29, 0, 0, 0, []),
  (50, .iaload, 30, 0, 0, 0, []),
  (51, .ireturn, 31, 0, 0, 0, [])]]
def hcdLAW_0 : List hk_In := [(0, .new 0, 1, 7, 12, 0, []),
  (3, .dup, 2, 0, 0, 0, []),
  (4, .invokespecial 0, 3, 0, 0, 0, [7, 59, 636]),
  (7, .astore 1, 4, 0, 0, 0, []),
  (8, .new 0, 5, 8, 51, 0, []),
  (11, .dup, 6, 0, 0, 0, []),
  (12, .invokespecial 0, 7, 128, 0, 0, [8, 28, 828]),
  (15, .astore 2, 8, 0, 0, 0, []),
  (16, .iconst 0, 9, 0, 0, 0, []),
  (17, .istore 3, 10, 0, 0, 0, []),
  (18, .iload 3, 11, 0, 0, 0, []),
  (19, .aload 0, 12, 0, 0, 0, []),
  (20, .arraylength, 13, 0, 0, 0, []),
  (21, .iconst 0, 14, 0, 0, 5, []),
  (22, .isub, 15, 0, 0, 0, []),
  (23, .if_icmp .gt 0, 16, 1119, 0, 0, [])]
def hcdLAW_1 : List hk_In := [(26, .aload 0, 17, 0, 0, 0, []),
  (27, .iload 3, 18, 0, 0, 0, []),
  (28, .iaload, 19, 0, 0, 0, []),
  (29, .iconst 0, 20, 0, 0, 63, []),
  (31, .iand, 21, 0, 0, 0, []),
  (32, .tableswitch 0 0 0 #[], 22, 1117, 0, 0, [22, 73, 80, 117, 134, 161, 188, 215, 242, 289, 316, 353, 380, 397, 424, 451, 468, 485, 512, 539, 566, 583, 600, 627, 654, 681, 688, 705, 722, 739, 766, 803, 810, 857, 894, 931, 968, 1005, 1032, 1069, 1086, 1103, 1110]),
  (220, .aload 1, 23, 0, 0, 0, []),
  (221, .aload 0, 24, 0, 0, 0, []),
  (222, .iload 3, 25, 0, 0, 0, []),
  (223, .iconst 0, 26, 0, 0, 1, []),
  (224, .iadd, 27, 0, 0, 0, []),
  (225, .iaload, 28, 0, 0, 0, []),
  (226, .i2l, 29, 0, 0, 0, []),
  (227, .iconst 0, 30, 0, 0, 32, []),
  (229, .lshl, 31, 0, 0, 0, []),
  (230, .aload 0, 32, 0, 0, 0, [])]
def hcdLAW_2 : List hk_In := [(231, .iload 3, 33, 0, 0, 0, []),
  (232, .iconst 0, 34, 0, 0, 2, []),
  (233, .iadd, 35, 0, 0, 0, []),
  (234, .iaload, 36, 0, 0, 0, []),
  (235, .i2l, 37, 0, 0, 0, []),
  (236, .lconst 0, 38, 23, 0, 0, []),
  (239, .land, 39, 0, 0, 0, []),
  (240, .lor, 40, 0, 0, 0, []),
  (241, .aload 0, 41, 0, 0, 0, []),
  (242, .iload 3, 42, 0, 0, 0, []),
  (243, .iconst 0, 43, 0, 0, 3, []),
  (244, .iadd, 44, 0, 0, 0, []),
  (245, .iaload, 45, 0, 0, 0, []),
  (246, .invokevirtual 0, 46, 7, 2, 0, [7, 0, 0]),
  (249, .aload 2, 47, 0, 0, 0, []),
  (250, .aload 0, 48, 0, 0, 0, [])]
def hcdLAW_3 : List hk_In := [(251, .iload 3, 49, 0, 0, 0, []),
  (252, .iconst 0, 50, 0, 0, 1, []),
  (253, .iadd, 51, 0, 0, 0, []),
  (254, .iaload, 52, 0, 0, 0, []),
  (255, .i2l, 53, 0, 0, 0, []),
  (256, .iconst 0, 54, 0, 0, 32, []),
  (258, .lshl, 55, 0, 0, 0, []),
  (259, .aload 0, 56, 0, 0, 0, []),
  (260, .iload 3, 57, 0, 0, 0, []),
  (261, .iconst 0, 58, 0, 0, 2, []),
  (262, .iadd, 59, 0, 0, 0, []),
  (263, .iaload, 60, 0, 0, 0, []),
  (264, .i2l, 61, 0, 0, 0, []),
  (265, .lconst 0, 62, 23, 0, 0, []),
  (268, .land, 63, 0, 0, 0, []),
  (269, .lor, 64, 0, 0, 0, [])]
def hcdLAW_4 : List hk_In := [(270, .aload 0, 65, 0, 0, 0, []),
  (271, .iload 3, 66, 0, 0, 0, []),
  (272, .iconst 0, 67, 0, 0, 3, []),
  (273, .iadd, 68, 0, 0, 0, []),
  (274, .iaload, 69, 0, 0, 0, []),
  (275, .invokevirtual 0, 70, 129, 2, 0, [8, 0, 0]),
  (278, .if_icmp .eq 0, 71, 1117, 0, 0, []),
  (281, .iconst 0, 72, 0, 0, 0, []),
  (282, .ireturn, 73, 0, 0, 0, []),
  (283, .aload 1, 74, 0, 0, 0, []),
  (284, .invokevirtual 0, 75, 10, 0, 0, [7, 0, 0]),
  (287, .aload 2, 76, 0, 0, 0, []),
  (288, .invokevirtual 0, 77, 131, 0, 0, [8, 0, 0]),
  (291, .if_icmp .eq 0, 78, 1117, 0, 0, []),
  (294, .iconst 0, 79, 0, 0, 0, []),
  (295, .ireturn, 80, 0, 0, 0, [])]
def hcdLAW_5 : List hk_In := [(296, .aload 1, 81, 0, 0, 0, []),
  (297, .aload 0, 82, 0, 0, 0, []),
  (298, .iload 3, 83, 0, 0, 0, []),
  (299, .iconst 0, 84, 0, 0, 1, []),
  (300, .iadd, 85, 0, 0, 0, []),
  (301, .iaload, 86, 0, 0, 0, []),
  (302, .aload 0, 87, 0, 0, 0, []),
  (303, .iload 3, 88, 0, 0, 0, []),
  (304, .iconst 0, 89, 0, 0, 2, []),
  (305, .iadd, 90, 0, 0, 0, []),
  (306, .iaload, 91, 0, 0, 0, []),
  (307, .aload 0, 92, 0, 0, 0, []),
  (308, .iload 3, 93, 0, 0, 0, []),
  (309, .iconst 0, 94, 0, 0, 3, []),
  (310, .iadd, 95, 0, 0, 0, []),
  (311, .iaload, 96, 0, 0, 0, [])]
def hcdLAW_6 : List hk_In := [(312, .invokevirtual 0, 97, 43, 3, 0, [7, 0, 0]),
  (315, .aload 2, 98, 0, 0, 0, []),
  (316, .aload 0, 99, 0, 0, 0, []),
  (317, .iload 3, 100, 0, 0, 0, []),
  (318, .iconst 0, 101, 0, 0, 1, []),
  (319, .iadd, 102, 0, 0, 0, []),
  (320, .iaload, 103, 0, 0, 0, []),
  (321, .aload 0, 104, 0, 0, 0, []),
  (322, .iload 3, 105, 0, 0, 0, []),
  (323, .iconst 0, 106, 0, 0, 2, []),
  (324, .iadd, 107, 0, 0, 0, []),
  (325, .iaload, 108, 0, 0, 0, []),
  (326, .aload 0, 109, 0, 0, 0, []),
  (327, .iload 3, 110, 0, 0, 0, []),
  (328, .iconst 0, 111, 0, 0, 3, []),
  (329, .iadd, 112, 0, 0, 0, [])]
def hcdLAW_7 : List hk_In := [(330, .iaload, 113, 0, 0, 0, []),
  (331, .invokevirtual 0, 114, 150, 3, 0, [8, 0, 0]),
  (334, .if_icmp .eq 0, 115, 1117, 0, 0, []),
  (337, .iconst 0, 116, 0, 0, 0, []),
  (338, .ireturn, 117, 0, 0, 0, []),
  (339, .aload 1, 118, 0, 0, 0, []),
  (340, .aload 0, 119, 0, 0, 0, []),
  (341, .iload 3, 120, 0, 0, 0, []),
  (342, .iconst 0, 121, 0, 0, 1, []),
  (343, .iadd, 122, 0, 0, 0, []),
  (344, .iaload, 123, 0, 0, 0, []),
  (345, .invokevirtual 0, 124, 46, 1, 0, [7, 0, 0]),
  (348, .aload 2, 125, 0, 0, 0, []),
  (349, .aload 0, 126, 0, 0, 0, []),
  (350, .iload 3, 127, 0, 0, 0, []),
  (351, .iconst 0, 128, 0, 0, 1, [])]
def hcdLAW_8 : List hk_In := [(352, .iadd, 129, 0, 0, 0, []),
  (353, .iaload, 130, 0, 0, 0, []),
  (354, .invokevirtual 0, 131, 148, 1, 0, [8, 0, 0]),
  (357, .if_icmp .eq 0, 132, 1117, 0, 0, []),
  (360, .iconst 0, 133, 0, 0, 0, []),
  (361, .ireturn, 134, 0, 0, 0, []),
  (362, .aload 1, 135, 0, 0, 0, []),
  (363, .aload 0, 136, 0, 0, 0, []),
  (364, .iload 3, 137, 0, 0, 0, []),
  (365, .iconst 0, 138, 0, 0, 1, []),
  (366, .iadd, 139, 0, 0, 0, []),
  (367, .iaload, 140, 0, 0, 0, []),
  (368, .aload 0, 141, 0, 0, 0, []),
  (369, .iload 3, 142, 0, 0, 0, []),
  (370, .iconst 0, 143, 0, 0, 2, []),
  (371, .iadd, 144, 0, 0, 0, [])]
def hcdLAW_9 : List hk_In := [(372, .iaload, 145, 0, 0, 0, []),
  (373, .invokevirtual 0, 146, 47, 2, 0, [7, 0, 0]),
  (376, .aload 2, 147, 0, 0, 0, []),
  (377, .aload 0, 148, 0, 0, 0, []),
  (378, .iload 3, 149, 0, 0, 0, []),
  (379, .iconst 0, 150, 0, 0, 1, []),
  (380, .iadd, 151, 0, 0, 0, []),
  (381, .iaload, 152, 0, 0, 0, []),
  (382, .aload 0, 153, 0, 0, 0, []),
  (383, .iload 3, 154, 0, 0, 0, []),
  (384, .iconst 0, 155, 0, 0, 2, []),
  (385, .iadd, 156, 0, 0, 0, []),
  (386, .iaload, 157, 0, 0, 0, []),
  (387, .invokevirtual 0, 158, 152, 2, 0, [8, 0, 0]),
  (390, .if_icmp .eq 0, 159, 1117, 0, 0, []),
  (393, .iconst 0, 160, 0, 0, 0, [])]
def hcdLAW_10 : List hk_In := [(394, .ireturn, 161, 0, 0, 0, []),
  (395, .aload 1, 162, 0, 0, 0, []),
  (396, .aload 0, 163, 0, 0, 0, []),
  (397, .iload 3, 164, 0, 0, 0, []),
  (398, .iconst 0, 165, 0, 0, 1, []),
  (399, .iadd, 166, 0, 0, 0, []),
  (400, .iaload, 167, 0, 0, 0, []),
  (401, .aload 0, 168, 0, 0, 0, []),
  (402, .iload 3, 169, 0, 0, 0, []),
  (403, .iconst 0, 170, 0, 0, 2, []),
  (404, .iadd, 171, 0, 0, 0, []),
  (405, .iaload, 172, 0, 0, 0, []),
  (406, .invokevirtual 0, 173, 48, 2, 0, [7, 0, 0]),
  (409, .aload 2, 174, 0, 0, 0, []),
  (410, .aload 0, 175, 0, 0, 0, []),
  (411, .iload 3, 176, 0, 0, 0, [])]
def hcdLAW_11 : List hk_In := [(412, .iconst 0, 177, 0, 0, 1, []),
  (413, .iadd, 178, 0, 0, 0, []),
  (414, .iaload, 179, 0, 0, 0, []),
  (415, .aload 0, 180, 0, 0, 0, []),
  (416, .iload 3, 181, 0, 0, 0, []),
  (417, .iconst 0, 182, 0, 0, 2, []),
  (418, .iadd, 183, 0, 0, 0, []),
  (419, .iaload, 184, 0, 0, 0, []),
  (420, .invokevirtual 0, 185, 154, 2, 0, [8, 0, 0]),
  (423, .if_icmp .eq 0, 186, 1117, 0, 0, []),
  (426, .iconst 0, 187, 0, 0, 0, []),
  (427, .ireturn, 188, 0, 0, 0, []),
  (428, .aload 1, 189, 0, 0, 0, []),
  (429, .aload 0, 190, 0, 0, 0, []),
  (430, .iload 3, 191, 0, 0, 0, []),
  (431, .iconst 0, 192, 0, 0, 1, [])]
def hcdLAW_12 : List hk_In := [(432, .iadd, 193, 0, 0, 0, []),
  (433, .iaload, 194, 0, 0, 0, []),
  (434, .aload 0, 195, 0, 0, 0, []),
  (435, .iload 3, 196, 0, 0, 0, []),
  (436, .iconst 0, 197, 0, 0, 2, []),
  (437, .iadd, 198, 0, 0, 0, []),
  (438, .iaload, 199, 0, 0, 0, []),
  (439, .invokevirtual 0, 200, 52, 2, 0, [7, 0, 0]),
  (442, .aload 2, 201, 0, 0, 0, []),
  (443, .aload 0, 202, 0, 0, 0, []),
  (444, .iload 3, 203, 0, 0, 0, []),
  (445, .iconst 0, 204, 0, 0, 1, []),
  (446, .iadd, 205, 0, 0, 0, []),
  (447, .iaload, 206, 0, 0, 0, []),
  (448, .aload 0, 207, 0, 0, 0, []),
  (449, .iload 3, 208, 0, 0, 0, [])]
def hcdLAW_13 : List hk_In := [(450, .iconst 0, 209, 0, 0, 2, []),
  (451, .iadd, 210, 0, 0, 0, []),
  (452, .iaload, 211, 0, 0, 0, []),
  (453, .invokevirtual 0, 212, 159, 2, 0, [8, 0, 0]),
  (456, .if_icmp .eq 0, 213, 1117, 0, 0, []),
  (459, .iconst 0, 214, 0, 0, 0, []),
  (460, .ireturn, 215, 0, 0, 0, []),
  (461, .aload 1, 216, 0, 0, 0, []),
  (462, .aload 0, 217, 0, 0, 0, []),
  (463, .iload 3, 218, 0, 0, 0, []),
  (464, .iconst 0, 219, 0, 0, 1, []),
  (465, .iadd, 220, 0, 0, 0, []),
  (466, .iaload, 221, 0, 0, 0, []),
  (467, .aload 0, 222, 0, 0, 0, []),
  (468, .iload 3, 223, 0, 0, 0, []),
  (469, .iconst 0, 224, 0, 0, 2, [])]
def hcdLAW_14 : List hk_In := [(470, .iadd, 225, 0, 0, 0, []),
  (471, .iaload, 226, 0, 0, 0, []),
  (472, .invokevirtual 0, 227, 53, 2, 0, [7, 0, 0]),
  (475, .aload 2, 228, 0, 0, 0, []),
  (476, .aload 0, 229, 0, 0, 0, []),
  (477, .iload 3, 230, 0, 0, 0, []),
  (478, .iconst 0, 231, 0, 0, 1, []),
  (479, .iadd, 232, 0, 0, 0, []),
  (480, .iaload, 233, 0, 0, 0, []),
  (481, .aload 0, 234, 0, 0, 0, []),
  (482, .iload 3, 235, 0, 0, 0, []),
  (483, .iconst 0, 236, 0, 0, 2, []),
  (484, .iadd, 237, 0, 0, 0, []),
  (485, .iaload, 238, 0, 0, 0, []),
  (486, .invokevirtual 0, 239, 160, 2, 0, [8, 0, 0]),
  (489, .if_icmp .eq 0, 240, 1117, 0, 0, [])]
def hcdLAW_15 : List hk_In := [(492, .iconst 0, 241, 0, 0, 0, []),
  (493, .ireturn, 242, 0, 0, 0, []),
  (494, .aload 1, 243, 0, 0, 0, []),
  (495, .aload 0, 244, 0, 0, 0, []),
  (496, .iload 3, 245, 0, 0, 0, []),
  (497, .iconst 0, 246, 0, 0, 1, []),
  (498, .iadd, 247, 0, 0, 0, []),
  (499, .iaload, 248, 0, 0, 0, []),
  (500, .aload 0, 249, 0, 0, 0, []),
  (501, .iload 3, 250, 0, 0, 0, []),
  (502, .iconst 0, 251, 0, 0, 2, []),
  (503, .iadd, 252, 0, 0, 0, []),
  (504, .iaload, 253, 0, 0, 0, []),
  (505, .aload 0, 254, 0, 0, 0, []),
  (506, .iload 3, 255, 0, 0, 0, []),
  (507, .iconst 0, 256, 0, 0, 3, [])]
def hcdLAW_16 : List hk_In := [(508, .iadd, 257, 0, 0, 0, []),
  (509, .iaload, 258, 0, 0, 0, []),
  (510, .aload 0, 259, 0, 0, 0, []),
  (511, .iload 3, 260, 0, 0, 0, []),
  (512, .iconst 0, 261, 0, 0, 4, []),
  (513, .iadd, 262, 0, 0, 0, []),
  (514, .iaload, 263, 0, 0, 0, []),
  (515, .invokevirtual 0, 264, 54, 4, 0, [7, 0, 0]),
  (518, .aload 2, 265, 0, 0, 0, []),
  (519, .aload 0, 266, 0, 0, 0, []),
  (520, .iload 3, 267, 0, 0, 0, []),
  (521, .iconst 0, 268, 0, 0, 1, []),
  (522, .iadd, 269, 0, 0, 0, []),
  (523, .iaload, 270, 0, 0, 0, []),
  (524, .aload 0, 271, 0, 0, 0, []),
  (525, .iload 3, 272, 0, 0, 0, [])]
def hcdLAW_17 : List hk_In := [(526, .iconst 0, 273, 0, 0, 2, []),
  (527, .iadd, 274, 0, 0, 0, []),
  (528, .iaload, 275, 0, 0, 0, []),
  (529, .aload 0, 276, 0, 0, 0, []),
  (530, .iload 3, 277, 0, 0, 0, []),
  (531, .iconst 0, 278, 0, 0, 3, []),
  (532, .iadd, 279, 0, 0, 0, []),
  (533, .iaload, 280, 0, 0, 0, []),
  (534, .aload 0, 281, 0, 0, 0, []),
  (535, .iload 3, 282, 0, 0, 0, []),
  (536, .iconst 0, 283, 0, 0, 4, []),
  (537, .iadd, 284, 0, 0, 0, []),
  (538, .iaload, 285, 0, 0, 0, []),
  (539, .invokevirtual 0, 286, 161, 4, 0, [8, 0, 0]),
  (542, .if_icmp .eq 0, 287, 1117, 0, 0, []),
  (545, .iconst 0, 288, 0, 0, 0, [])]
def hcdLAW_18 : List hk_In := [(546, .ireturn, 289, 0, 0, 0, []),
  (547, .aload 1, 290, 0, 0, 0, []),
  (548, .aload 0, 291, 0, 0, 0, []),
  (549, .iload 3, 292, 0, 0, 0, []),
  (550, .iconst 0, 293, 0, 0, 1, []),
  (551, .iadd, 294, 0, 0, 0, []),
  (552, .iaload, 295, 0, 0, 0, []),
  (553, .aload 0, 296, 0, 0, 0, []),
  (554, .iload 3, 297, 0, 0, 0, []),
  (555, .iconst 0, 298, 0, 0, 2, []),
  (556, .iadd, 299, 0, 0, 0, []),
  (557, .iaload, 300, 0, 0, 0, []),
  (558, .invokevirtual 0, 301, 55, 2, 0, [7, 0, 0]),
  (561, .aload 2, 302, 0, 0, 0, []),
  (562, .aload 0, 303, 0, 0, 0, []),
  (563, .iload 3, 304, 0, 0, 0, [])]
def hcdLAW_19 : List hk_In := [(564, .iconst 0, 305, 0, 0, 1, []),
  (565, .iadd, 306, 0, 0, 0, []),
  (566, .iaload, 307, 0, 0, 0, []),
  (567, .aload 0, 308, 0, 0, 0, []),
  (568, .iload 3, 309, 0, 0, 0, []),
  (569, .iconst 0, 310, 0, 0, 2, []),
  (570, .iadd, 311, 0, 0, 0, []),
  (571, .iaload, 312, 0, 0, 0, []),
  (572, .invokevirtual 0, 313, 162, 2, 0, [8, 0, 0]),
  (575, .if_icmp .eq 0, 314, 1117, 0, 0, []),
  (578, .iconst 0, 315, 0, 0, 0, []),
  (579, .ireturn, 316, 0, 0, 0, []),
  (580, .aload 1, 317, 0, 0, 0, []),
  (581, .aload 0, 318, 0, 0, 0, []),
  (582, .iload 3, 319, 0, 0, 0, []),
  (583, .iconst 0, 320, 0, 0, 1, [])]
def hcdLAW_20 : List hk_In := [(584, .iadd, 321, 0, 0, 0, []),
  (585, .iaload, 322, 0, 0, 0, []),
  (586, .aload 0, 323, 0, 0, 0, []),
  (587, .iload 3, 324, 0, 0, 0, []),
  (588, .iconst 0, 325, 0, 0, 2, []),
  (589, .iadd, 326, 0, 0, 0, []),
  (590, .iaload, 327, 0, 0, 0, []),
  (591, .aload 0, 328, 0, 0, 0, []),
  (592, .iload 3, 329, 0, 0, 0, []),
  (593, .iconst 0, 330, 0, 0, 3, []),
  (594, .iadd, 331, 0, 0, 0, []),
  (595, .iaload, 332, 0, 0, 0, []),
  (596, .invokevirtual 0, 333, 62, 3, 0, [7, 0, 0]),
  (599, .aload 2, 334, 0, 0, 0, []),
  (600, .aload 0, 335, 0, 0, 0, []),
  (601, .iload 3, 336, 0, 0, 0, [])]
def hcdLAW_21 : List hk_In := [(602, .iconst 0, 337, 0, 0, 1, []),
  (603, .iadd, 338, 0, 0, 0, []),
  (604, .iaload, 339, 0, 0, 0, []),
  (605, .aload 0, 340, 0, 0, 0, []),
  (606, .iload 3, 341, 0, 0, 0, []),
  (607, .iconst 0, 342, 0, 0, 2, []),
  (608, .iadd, 343, 0, 0, 0, []),
  (609, .iaload, 344, 0, 0, 0, []),
  (610, .aload 0, 345, 0, 0, 0, []),
  (611, .iload 3, 346, 0, 0, 0, []),
  (612, .iconst 0, 347, 0, 0, 3, []),
  (613, .iadd, 348, 0, 0, 0, []),
  (614, .iaload, 349, 0, 0, 0, []),
  (615, .invokevirtual 0, 350, 168, 3, 0, [8, 0, 0]),
  (618, .if_icmp .eq 0, 351, 1117, 0, 0, []),
  (621, .iconst 0, 352, 0, 0, 0, [])]
def hcdLAW_22 : List hk_In := [(622, .ireturn, 353, 0, 0, 0, []),
  (623, .aload 1, 354, 0, 0, 0, []),
  (624, .aload 0, 355, 0, 0, 0, []),
  (625, .iload 3, 356, 0, 0, 0, []),
  (626, .iconst 0, 357, 0, 0, 1, []),
  (627, .iadd, 358, 0, 0, 0, []),
  (628, .iaload, 359, 0, 0, 0, []),
  (629, .aload 0, 360, 0, 0, 0, []),
  (630, .iload 3, 361, 0, 0, 0, []),
  (631, .iconst 0, 362, 0, 0, 2, []),
  (632, .iadd, 363, 0, 0, 0, []),
  (633, .iaload, 364, 0, 0, 0, []),
  (634, .invokevirtual 0, 365, 63, 2, 0, [7, 0, 0]),
  (637, .aload 2, 366, 0, 0, 0, []),
  (638, .aload 0, 367, 0, 0, 0, []),
  (639, .iload 3, 368, 0, 0, 0, [])]
def hcdLAW_23 : List hk_In := [(640, .iconst 0, 369, 0, 0, 1, []),
  (641, .iadd, 370, 0, 0, 0, []),
  (642, .iaload, 371, 0, 0, 0, []),
  (643, .aload 0, 372, 0, 0, 0, []),
  (644, .iload 3, 373, 0, 0, 0, []),
  (645, .iconst 0, 374, 0, 0, 2, []),
  (646, .iadd, 375, 0, 0, 0, []),
  (647, .iaload, 376, 0, 0, 0, []),
  (648, .invokevirtual 0, 377, 169, 2, 0, [8, 0, 0]),
  (651, .if_icmp .eq 0, 378, 1117, 0, 0, []),
  (654, .iconst 0, 379, 0, 0, 0, []),
  (655, .ireturn, 380, 0, 0, 0, []),
  (656, .aload 1, 381, 0, 0, 0, []),
  (657, .aload 0, 382, 0, 0, 0, []),
  (658, .iload 3, 383, 0, 0, 0, []),
  (659, .iconst 0, 384, 0, 0, 1, [])]
def hcdLAW_24 : List hk_In := [(660, .iadd, 385, 0, 0, 0, []),
  (661, .iaload, 386, 0, 0, 0, []),
  (662, .invokevirtual 0, 387, 65, 1, 0, [7, 0, 0]),
  (665, .aload 2, 388, 0, 0, 0, []),
  (666, .aload 0, 389, 0, 0, 0, []),
  (667, .iload 3, 390, 0, 0, 0, []),
  (668, .iconst 0, 391, 0, 0, 1, []),
  (669, .iadd, 392, 0, 0, 0, []),
  (670, .iaload, 393, 0, 0, 0, []),
  (671, .invokevirtual 0, 394, 171, 1, 0, [8, 0, 0]),
  (674, .if_icmp .eq 0, 395, 1117, 0, 0, []),
  (677, .iconst 0, 396, 0, 0, 0, []),
  (678, .ireturn, 397, 0, 0, 0, []),
  (679, .aload 1, 398, 0, 0, 0, []),
  (680, .aload 0, 399, 0, 0, 0, []),
  (681, .iload 3, 400, 0, 0, 0, [])]
def hcdLAW_25 : List hk_In := [(682, .iconst 0, 401, 0, 0, 1, []),
  (683, .iadd, 402, 0, 0, 0, []),
  (684, .iaload, 403, 0, 0, 0, []),
  (685, .aload 0, 404, 0, 0, 0, []),
  (686, .iload 3, 405, 0, 0, 0, []),
  (687, .iconst 0, 406, 0, 0, 2, []),
  (688, .iadd, 407, 0, 0, 0, []),
  (689, .iaload, 408, 0, 0, 0, []),
  (690, .invokevirtual 0, 409, 66, 2, 0, [7, 0, 0]),
  (693, .aload 2, 410, 0, 0, 0, []),
  (694, .aload 0, 411, 0, 0, 0, []),
  (695, .iload 3, 412, 0, 0, 0, []),
  (696, .iconst 0, 413, 0, 0, 1, []),
  (697, .iadd, 414, 0, 0, 0, []),
  (698, .iaload, 415, 0, 0, 0, []),
  (699, .aload 0, 416, 0, 0, 0, [])]
def hcdLAW_26 : List hk_In := [(700, .iload 3, 417, 0, 0, 0, []),
  (701, .iconst 0, 418, 0, 0, 2, []),
  (702, .iadd, 419, 0, 0, 0, []),
  (703, .iaload, 420, 0, 0, 0, []),
  (704, .invokevirtual 0, 421, 174, 2, 0, [8, 0, 0]),
  (707, .if_icmp .eq 0, 422, 1117, 0, 0, []),
  (710, .iconst 0, 423, 0, 0, 0, []),
  (711, .ireturn, 424, 0, 0, 0, []),
  (712, .aload 1, 425, 0, 0, 0, []),
  (713, .aload 0, 426, 0, 0, 0, []),
  (714, .iload 3, 427, 0, 0, 0, []),
  (715, .iconst 0, 428, 0, 0, 1, []),
  (716, .iadd, 429, 0, 0, 0, []),
  (717, .iaload, 430, 0, 0, 0, []),
  (718, .aload 0, 431, 0, 0, 0, []),
  (719, .iload 3, 432, 0, 0, 0, [])]
def hcdLAW_27 : List hk_In := [(720, .iconst 0, 433, 0, 0, 2, []),
  (721, .iadd, 434, 0, 0, 0, []),
  (722, .iaload, 435, 0, 0, 0, []),
  (723, .invokevirtual 0, 436, 68, 2, 0, [7, 0, 0]),
  (726, .aload 2, 437, 0, 0, 0, []),
  (727, .aload 0, 438, 0, 0, 0, []),
  (728, .iload 3, 439, 0, 0, 0, []),
  (729, .iconst 0, 440, 0, 0, 1, []),
  (730, .iadd, 441, 0, 0, 0, []),
  (731, .iaload, 442, 0, 0, 0, []),
  (732, .aload 0, 443, 0, 0, 0, []),
  (733, .iload 3, 444, 0, 0, 0, []),
  (734, .iconst 0, 445, 0, 0, 2, []),
  (735, .iadd, 446, 0, 0, 0, []),
  (736, .iaload, 447, 0, 0, 0, []),
  (737, .invokevirtual 0, 448, 176, 2, 0, [8, 0, 0])]
def hcdLAW_28 : List hk_In := [(740, .if_icmp .eq 0, 449, 1117, 0, 0, []),
  (743, .iconst 0, 450, 0, 0, 0, []),
  (744, .ireturn, 451, 0, 0, 0, []),
  (745, .aload 1, 452, 0, 0, 0, []),
  (746, .aload 0, 453, 0, 0, 0, []),
  (747, .iload 3, 454, 0, 0, 0, []),
  (748, .iconst 0, 455, 0, 0, 1, []),
  (749, .iadd, 456, 0, 0, 0, []),
  (750, .iaload, 457, 0, 0, 0, []),
  (751, .invokevirtual 0, 458, 70, 1, 0, [7, 0, 0]),
  (754, .aload 2, 459, 0, 0, 0, []),
  (755, .aload 0, 460, 0, 0, 0, []),
  (756, .iload 3, 461, 0, 0, 0, []),
  (757, .iconst 0, 462, 0, 0, 1, []),
  (758, .iadd, 463, 0, 0, 0, []),
  (759, .iaload, 464, 0, 0, 0, [])]
def hcdLAW_29 : List hk_In := [(760, .invokevirtual 0, 465, 177, 1, 0, [8, 0, 0]),
  (763, .if_icmp .eq 0, 466, 1117, 0, 0, []),
  (766, .iconst 0, 467, 0, 0, 0, []),
  (767, .ireturn, 468, 0, 0, 0, []),
  (768, .aload 1, 469, 0, 0, 0, []),
  (769, .aload 0, 470, 0, 0, 0, []),
  (770, .iload 3, 471, 0, 0, 0, []),
  (771, .iconst 0, 472, 0, 0, 1, []),
  (772, .iadd, 473, 0, 0, 0, []),
  (773, .iaload, 474, 0, 0, 0, []),
  (774, .invokevirtual 0, 475, 81, 1, 0, [7, 0, 0]),
  (777, .aload 2, 476, 0, 0, 0, []),
  (778, .aload 0, 477, 0, 0, 0, []),
  (779, .iload 3, 478, 0, 0, 0, []),
  (780, .iconst 0, 479, 0, 0, 1, []),
  (781, .iadd, 480, 0, 0, 0, [])]
def hcdLAW_30 : List hk_In := [(782, .iaload, 481, 0, 0, 0, []),
  (783, .invokevirtual 0, 482, 185, 1, 0, [8, 0, 0]),
  (786, .if_icmp .eq 0, 483, 1117, 0, 0, []),
  (789, .iconst 0, 484, 0, 0, 0, []),
  (790, .ireturn, 485, 0, 0, 0, []),
  (791, .aload 1, 486, 0, 0, 0, []),
  (792, .aload 0, 487, 0, 0, 0, []),
  (793, .iload 3, 488, 0, 0, 0, []),
  (794, .iconst 0, 489, 0, 0, 1, []),
  (795, .iadd, 490, 0, 0, 0, []),
  (796, .iaload, 491, 0, 0, 0, []),
  (797, .aload 0, 492, 0, 0, 0, []),
  (798, .iload 3, 493, 0, 0, 0, []),
  (799, .iconst 0, 494, 0, 0, 2, []),
  (800, .iadd, 495, 0, 0, 0, []),
  (801, .iaload, 496, 0, 0, 0, [])]
def hcdLAW_31 : List hk_In := [(802, .invokevirtual 0, 497, 82, 2, 0, [7, 0, 0]),
  (805, .aload 2, 498, 0, 0, 0, []),
  (806, .aload 0, 499, 0, 0, 0, []),
  (807, .iload 3, 500, 0, 0, 0, []),
  (808, .iconst 0, 501, 0, 0, 1, []),
  (809, .iadd, 502, 0, 0, 0, []),
  (810, .iaload, 503, 0, 0, 0, []),
  (811, .aload 0, 504, 0, 0, 0, []),
  (812, .iload 3, 505, 0, 0, 0, []),
  (813, .iconst 0, 506, 0, 0, 2, []),
  (814, .iadd, 507, 0, 0, 0, []),
  (815, .iaload, 508, 0, 0, 0, []),
  (816, .invokevirtual 0, 509, 186, 2, 0, [8, 0, 0]),
  (819, .if_icmp .eq 0, 510, 1117, 0, 0, []),
  (822, .iconst 0, 511, 0, 0, 0, []),
  (823, .ireturn, 512, 0, 0, 0, [])]
def hcdLAW_32 : List hk_In := [(824, .aload 1, 513, 0, 0, 0, []),
  (825, .aload 0, 514, 0, 0, 0, []),
  (826, .iload 3, 515, 0, 0, 0, []),
  (827, .iconst 0, 516, 0, 0, 1, []),
  (828, .iadd, 517, 0, 0, 0, []),
  (829, .iaload, 518, 0, 0, 0, []),
  (830, .aload 0, 519, 0, 0, 0, []),
  (831, .iload 3, 520, 0, 0, 0, []),
  (832, .iconst 0, 521, 0, 0, 2, []),
  (833, .iadd, 522, 0, 0, 0, []),
  (834, .iaload, 523, 0, 0, 0, []),
  (835, .invokevirtual 0, 524, 84, 2, 0, [7, 0, 0]),
  (838, .aload 2, 525, 0, 0, 0, []),
  (839, .aload 0, 526, 0, 0, 0, []),
  (840, .iload 3, 527, 0, 0, 0, []),
  (841, .iconst 0, 528, 0, 0, 1, [])]
def hcdLAW_33 : List hk_In := [(842, .iadd, 529, 0, 0, 0, []),
  (843, .iaload, 530, 0, 0, 0, []),
  (844, .aload 0, 531, 0, 0, 0, []),
  (845, .iload 3, 532, 0, 0, 0, []),
  (846, .iconst 0, 533, 0, 0, 2, []),
  (847, .iadd, 534, 0, 0, 0, []),
  (848, .iaload, 535, 0, 0, 0, []),
  (849, .invokevirtual 0, 536, 189, 2, 0, [8, 0, 0]),
  (852, .if_icmp .eq 0, 537, 1117, 0, 0, []),
  (855, .iconst 0, 538, 0, 0, 0, []),
  (856, .ireturn, 539, 0, 0, 0, []),
  (857, .aload 1, 540, 0, 0, 0, []),
  (858, .aload 0, 541, 0, 0, 0, []),
  (859, .iload 3, 542, 0, 0, 0, []),
  (860, .iconst 0, 543, 0, 0, 1, []),
  (861, .iadd, 544, 0, 0, 0, [])]
def hcdLAW_34 : List hk_In := [(862, .iaload, 545, 0, 0, 0, []),
  (863, .aload 0, 546, 0, 0, 0, []),
  (864, .iload 3, 547, 0, 0, 0, []),
  (865, .iconst 0, 548, 0, 0, 2, []),
  (866, .iadd, 549, 0, 0, 0, []),
  (867, .iaload, 550, 0, 0, 0, []),
  (868, .invokevirtual 0, 551, 85, 2, 0, [7, 0, 0]),
  (871, .aload 2, 552, 0, 0, 0, []),
  (872, .aload 0, 553, 0, 0, 0, []),
  (873, .iload 3, 554, 0, 0, 0, []),
  (874, .iconst 0, 555, 0, 0, 1, []),
  (875, .iadd, 556, 0, 0, 0, []),
  (876, .iaload, 557, 0, 0, 0, []),
  (877, .aload 0, 558, 0, 0, 0, []),
  (878, .iload 3, 559, 0, 0, 0, []),
  (879, .iconst 0, 560, 0, 0, 2, [])]
def hcdLAW_35 : List hk_In := [(880, .iadd, 561, 0, 0, 0, []),
  (881, .iaload, 562, 0, 0, 0, []),
  (882, .invokevirtual 0, 563, 190, 2, 0, [8, 0, 0]),
  (885, .if_icmp .eq 0, 564, 1117, 0, 0, []),
  (888, .iconst 0, 565, 0, 0, 0, []),
  (889, .ireturn, 566, 0, 0, 0, []),
  (890, .aload 1, 567, 0, 0, 0, []),
  (891, .aload 0, 568, 0, 0, 0, []),
  (892, .iload 3, 569, 0, 0, 0, []),
  (893, .iconst 0, 570, 0, 0, 1, []),
  (894, .iadd, 571, 0, 0, 0, []),
  (895, .iaload, 572, 0, 0, 0, []),
  (896, .invokevirtual 0, 573, 86, 1, 0, [7, 0, 0]),
  (899, .aload 2, 574, 0, 0, 0, []),
  (900, .aload 0, 575, 0, 0, 0, []),
  (901, .iload 3, 576, 0, 0, 0, [])]
def hcdLAW_36 : List hk_In := [(902, .iconst 0, 577, 0, 0, 1, []),
  (903, .iadd, 578, 0, 0, 0, []),
  (904, .iaload, 579, 0, 0, 0, []),
  (905, .invokevirtual 0, 580, 191, 1, 0, [8, 0, 0]),
  (908, .if_icmp .eq 0, 581, 1117, 0, 0, []),
  (911, .iconst 0, 582, 0, 0, 0, []),
  (912, .ireturn, 583, 0, 0, 0, []),
  (913, .aload 1, 584, 0, 0, 0, []),
  (914, .aload 0, 585, 0, 0, 0, []),
  (915, .iload 3, 586, 0, 0, 0, []),
  (916, .iconst 0, 587, 0, 0, 1, []),
  (917, .iadd, 588, 0, 0, 0, []),
  (918, .iaload, 589, 0, 0, 0, []),
  (919, .invokevirtual 0, 590, 87, 1, 0, [7, 0, 0]),
  (922, .aload 2, 591, 0, 0, 0, []),
  (923, .aload 0, 592, 0, 0, 0, [])]
def hcdLAW_37 : List hk_In := [(924, .iload 3, 593, 0, 0, 0, []),
  (925, .iconst 0, 594, 0, 0, 1, []),
  (926, .iadd, 595, 0, 0, 0, []),
  (927, .iaload, 596, 0, 0, 0, []),
  (928, .invokevirtual 0, 597, 192, 1, 0, [8, 0, 0]),
  (931, .if_icmp .eq 0, 598, 1117, 0, 0, []),
  (934, .iconst 0, 599, 0, 0, 0, []),
  (935, .ireturn, 600, 0, 0, 0, []),
  (936, .aload 1, 601, 0, 0, 0, []),
  (937, .aload 0, 602, 0, 0, 0, []),
  (938, .iload 3, 603, 0, 0, 0, []),
  (939, .iconst 0, 604, 0, 0, 1, []),
  (940, .iadd, 605, 0, 0, 0, []),
  (941, .iaload, 606, 0, 0, 0, []),
  (942, .aload 0, 607, 0, 0, 0, []),
  (943, .iload 3, 608, 0, 0, 0, [])]
def hcdLAW_38 : List hk_In := [(944, .iconst 0, 609, 0, 0, 2, []),
  (945, .iadd, 610, 0, 0, 0, []),
  (946, .iaload, 611, 0, 0, 0, []),
  (947, .invokevirtual 0, 612, 88, 2, 0, [7, 0, 0]),
  (950, .aload 2, 613, 0, 0, 0, []),
  (951, .aload 0, 614, 0, 0, 0, []),
  (952, .iload 3, 615, 0, 0, 0, []),
  (953, .iconst 0, 616, 0, 0, 1, []),
  (954, .iadd, 617, 0, 0, 0, []),
  (955, .iaload, 618, 0, 0, 0, []),
  (956, .aload 0, 619, 0, 0, 0, []),
  (957, .iload 3, 620, 0, 0, 0, []),
  (958, .iconst 0, 621, 0, 0, 2, []),
  (959, .iadd, 622, 0, 0, 0, []),
  (960, .iaload, 623, 0, 0, 0, []),
  (961, .invokevirtual 0, 624, 193, 2, 0, [8, 0, 0])]
def hcdLAW_39 : List hk_In := [(964, .if_icmp .eq 0, 625, 1117, 0, 0, []),
  (967, .iconst 0, 626, 0, 0, 0, []),
  (968, .ireturn, 627, 0, 0, 0, []),
  (969, .aload 1, 628, 0, 0, 0, []),
  (970, .aload 0, 629, 0, 0, 0, []),
  (971, .iload 3, 630, 0, 0, 0, []),
  (972, .iconst 0, 631, 0, 0, 1, []),
  (973, .iadd, 632, 0, 0, 0, []),
  (974, .iaload, 633, 0, 0, 0, []),
  (975, .aload 0, 634, 0, 0, 0, []),
  (976, .iload 3, 635, 0, 0, 0, []),
  (977, .iconst 0, 636, 0, 0, 2, []),
  (978, .iadd, 637, 0, 0, 0, []),
  (979, .iaload, 638, 0, 0, 0, []),
  (980, .invokevirtual 0, 639, 92, 2, 0, [7, 0, 0]),
  (983, .aload 2, 640, 0, 0, 0, [])]
def hcdLAW_40 : List hk_In := [(984, .aload 0, 641, 0, 0, 0, []),
  (985, .iload 3, 642, 0, 0, 0, []),
  (986, .iconst 0, 643, 0, 0, 1, []),
  (987, .iadd, 644, 0, 0, 0, []),
  (988, .iaload, 645, 0, 0, 0, []),
  (989, .aload 0, 646, 0, 0, 0, []),
  (990, .iload 3, 647, 0, 0, 0, []),
  (991, .iconst 0, 648, 0, 0, 2, []),
  (992, .iadd, 649, 0, 0, 0, []),
  (993, .iaload, 650, 0, 0, 0, []),
  (994, .invokevirtual 0, 651, 195, 2, 0, [8, 0, 0]),
  (997, .if_icmp .eq 0, 652, 1117, 0, 0, []),
  (1000, .iconst 0, 653, 0, 0, 0, []),
  (1001, .ireturn, 654, 0, 0, 0, []),
  (1002, .aload 1, 655, 0, 0, 0, []),
  (1003, .aload 0, 656, 0, 0, 0, [])]
def hcdLAW_41 : List hk_In := [(1004, .iload 3, 657, 0, 0, 0, []),
  (1005, .iconst 0, 658, 0, 0, 1, []),
  (1006, .iadd, 659, 0, 0, 0, []),
  (1007, .iaload, 660, 0, 0, 0, []),
  (1008, .aload 0, 661, 0, 0, 0, []),
  (1009, .iload 3, 662, 0, 0, 0, []),
  (1010, .iconst 0, 663, 0, 0, 2, []),
  (1011, .iadd, 664, 0, 0, 0, []),
  (1012, .iaload, 665, 0, 0, 0, []),
  (1013, .invokevirtual 0, 666, 93, 2, 0, [7, 0, 0]),
  (1016, .aload 2, 667, 0, 0, 0, []),
  (1017, .aload 0, 668, 0, 0, 0, []),
  (1018, .iload 3, 669, 0, 0, 0, []),
  (1019, .iconst 0, 670, 0, 0, 1, []),
  (1020, .iadd, 671, 0, 0, 0, []),
  (1021, .iaload, 672, 0, 0, 0, [])]
def hcdLAW_42 : List hk_In := [(1022, .aload 0, 673, 0, 0, 0, []),
  (1023, .iload 3, 674, 0, 0, 0, []),
  (1024, .iconst 0, 675, 0, 0, 2, []),
  (1025, .iadd, 676, 0, 0, 0, []),
  (1026, .iaload, 677, 0, 0, 0, []),
  (1027, .invokevirtual 0, 678, 196, 2, 0, [8, 0, 0]),
  (1030, .if_icmp .eq 0, 679, 1117, 0, 0, []),
  (1033, .iconst 0, 680, 0, 0, 0, []),
  (1034, .ireturn, 681, 0, 0, 0, []),
  (1035, .aload 1, 682, 0, 0, 0, []),
  (1036, .invokevirtual 0, 683, 94, 0, 0, [7, 0, 0]),
  (1039, .aload 2, 684, 0, 0, 0, []),
  (1040, .invokevirtual 0, 685, 197, 0, 0, [8, 0, 0]),
  (1043, .if_icmp .eq 0, 686, 1117, 0, 0, []),
  (1046, .iconst 0, 687, 0, 0, 0, []),
  (1047, .ireturn, 688, 0, 0, 0, [])]
def hcdLAW_43 : List hk_In := [(1048, .aload 1, 689, 0, 0, 0, []),
  (1049, .aload 0, 690, 0, 0, 0, []),
  (1050, .iload 3, 691, 0, 0, 0, []),
  (1051, .iconst 0, 692, 0, 0, 1, []),
  (1052, .iadd, 693, 0, 0, 0, []),
  (1053, .iaload, 694, 0, 0, 0, []),
  (1054, .invokevirtual 0, 695, 96, 1, 0, [7, 0, 0]),
  (1057, .aload 2, 696, 0, 0, 0, []),
  (1058, .aload 0, 697, 0, 0, 0, []),
  (1059, .iload 3, 698, 0, 0, 0, []),
  (1060, .iconst 0, 699, 0, 0, 1, []),
  (1061, .iadd, 700, 0, 0, 0, []),
  (1062, .iaload, 701, 0, 0, 0, []),
  (1063, .invokevirtual 0, 702, 199, 1, 0, [8, 0, 0]),
  (1066, .if_icmp .eq 0, 703, 1117, 0, 0, []),
  (1069, .iconst 0, 704, 0, 0, 0, [])]
def hcdLAW_44 : List hk_In := [(1070, .ireturn, 705, 0, 0, 0, []),
  (1071, .aload 1, 706, 0, 0, 0, []),
  (1072, .aload 0, 707, 0, 0, 0, []),
  (1073, .iload 3, 708, 0, 0, 0, []),
  (1074, .iconst 0, 709, 0, 0, 1, []),
  (1075, .iadd, 710, 0, 0, 0, []),
  (1076, .iaload, 711, 0, 0, 0, []),
  (1077, .invokevirtual 0, 712, 97, 1, 0, [7, 0, 0]),
  (1080, .aload 2, 713, 0, 0, 0, []),
  (1081, .aload 0, 714, 0, 0, 0, []),
  (1082, .iload 3, 715, 0, 0, 0, []),
  (1083, .iconst 0, 716, 0, 0, 1, []),
  (1084, .iadd, 717, 0, 0, 0, []),
  (1085, .iaload, 718, 0, 0, 0, []),
  (1086, .invokevirtual 0, 719, 200, 1, 0, [8, 0, 0]),
  (1089, .if_icmp .eq 0, 720, 1117, 0, 0, [])]
def hcdLAW_45 : List hk_In := [(1092, .iconst 0, 721, 0, 0, 0, []),
  (1093, .ireturn, 722, 0, 0, 0, []),
  (1094, .aload 1, 723, 0, 0, 0, []),
  (1095, .aload 0, 724, 0, 0, 0, []),
  (1096, .iload 3, 725, 0, 0, 0, []),
  (1097, .iconst 0, 726, 0, 0, 1, []),
  (1098, .iadd, 727, 0, 0, 0, []),
  (1099, .iaload, 728, 0, 0, 0, []),
  (1100, .invokevirtual 0, 729, 98, 1, 0, [7, 0, 0]),
  (1103, .aload 2, 730, 0, 0, 0, []),
  (1104, .aload 0, 731, 0, 0, 0, []),
  (1105, .iload 3, 732, 0, 0, 0, []),
  (1106, .iconst 0, 733, 0, 0, 1, []),
  (1107, .iadd, 734, 0, 0, 0, []),
  (1108, .iaload, 735, 0, 0, 0, []),
  (1109, .invokevirtual 0, 736, 201, 1, 0, [8, 0, 0])]
def hcdLAW_46 : List hk_In := [(1112, .if_icmp .eq 0, 737, 1117, 0, 0, []),
  (1115, .iconst 0, 738, 0, 0, 0, []),
  (1116, .ireturn, 739, 0, 0, 0, []),
  (1117, .aload 1, 740, 0, 0, 0, []),
  (1118, .aload 0, 741, 0, 0, 0, []),
  (1119, .iload 3, 742, 0, 0, 0, []),
  (1120, .iconst 0, 743, 0, 0, 1, []),
  (1121, .iadd, 744, 0, 0, 0, []),
  (1122, .iaload, 745, 0, 0, 0, []),
  (1123, .aload 0, 746, 0, 0, 0, []),
  (1124, .iload 3, 747, 0, 0, 0, []),
  (1125, .iconst 0, 748, 0, 0, 2, []),
  (1126, .iadd, 749, 0, 0, 0, []),
  (1127, .iaload, 750, 0, 0, 0, []),
  (1128, .invokevirtual 0, 751, 101, 2, 0, [7, 0, 0]),
  (1131, .aload 2, 752, 0, 0, 0, [])]
def hcdLAW_47 : List hk_In := [(1132, .aload 0, 753, 0, 0, 0, []),
  (1133, .iload 3, 754, 0, 0, 0, []),
  (1134, .iconst 0, 755, 0, 0, 1, []),
  (1135, .iadd, 756, 0, 0, 0, []),
  (1136, .iaload, 757, 0, 0, 0, []),
  (1137, .aload 0, 758, 0, 0, 0, []),
  (1138, .iload 3, 759, 0, 0, 0, []),
  (1139, .iconst 0, 760, 0, 0, 2, []),
  (1140, .iadd, 761, 0, 0, 0, []),
  (1141, .iaload, 762, 0, 0, 0, []),
  (1142, .invokevirtual 0, 763, 204, 2, 0, [8, 0, 0]),
  (1145, .if_icmp .eq 0, 764, 1117, 0, 0, []),
  (1148, .iconst 0, 765, 0, 0, 0, []),
  (1149, .ireturn, 766, 0, 0, 0, []),
  (1150, .aload 1, 767, 0, 0, 0, []),
  (1151, .aload 0, 768, 0, 0, 0, [])]
def hcdLAW_48 : List hk_In := [(1152, .iload 3, 769, 0, 0, 0, []),
  (1153, .iconst 0, 770, 0, 0, 1, []),
  (1154, .iadd, 771, 0, 0, 0, []),
  (1155, .iaload, 772, 0, 0, 0, []),
  (1156, .aload 0, 773, 0, 0, 0, []),
  (1157, .iload 3, 774, 0, 0, 0, []),
  (1158, .iconst 0, 775, 0, 0, 2, []),
  (1159, .iadd, 776, 0, 0, 0, []),
  (1160, .iaload, 777, 0, 0, 0, []),
  (1161, .aload 0, 778, 0, 0, 0, []),
  (1162, .iload 3, 779, 0, 0, 0, []),
  (1163, .iconst 0, 780, 0, 0, 3, []),
  (1164, .iadd, 781, 0, 0, 0, []),
  (1165, .iaload, 782, 0, 0, 0, []),
  (1166, .invokevirtual 0, 783, 103, 3, 0, [7, 0, 0]),
  (1169, .aload 2, 784, 0, 0, 0, [])]
def hcdLAW_49 : List hk_In := [(1170, .aload 0, 785, 0, 0, 0, []),
  (1171, .iload 3, 786, 0, 0, 0, []),
  (1172, .iconst 0, 787, 0, 0, 1, []),
  (1173, .iadd, 788, 0, 0, 0, []),
  (1174, .iaload, 789, 0, 0, 0, []),
  (1175, .aload 0, 790, 0, 0, 0, []),
  (1176, .iload 3, 791, 0, 0, 0, []),
  (1177, .iconst 0, 792, 0, 0, 2, []),
  (1178, .iadd, 793, 0, 0, 0, []),
  (1179, .iaload, 794, 0, 0, 0, []),
  (1180, .aload 0, 795, 0, 0, 0, []),
  (1181, .iload 3, 796, 0, 0, 0, []),
  (1182, .iconst 0, 797, 0, 0, 3, []),
  (1183, .iadd, 798, 0, 0, 0, []),
  (1184, .iaload, 799, 0, 0, 0, []),
  (1185, .invokevirtual 0, 800, 206, 3, 0, [8, 0, 0])]
def hcdLAW_50 : List hk_In := [(1188, .if_icmp .eq 0, 801, 1117, 0, 0, []),
  (1191, .iconst 0, 802, 0, 0, 0, []),
  (1192, .ireturn, 803, 0, 0, 0, []),
  (1193, .aload 1, 804, 0, 0, 0, []),
  (1194, .invokevirtual 0, 805, 104, 0, 0, [7, 0, 0]),
  (1197, .aload 2, 806, 0, 0, 0, []),
  (1198, .invokevirtual 0, 807, 207, 0, 0, [8, 0, 0]),
  (1201, .if_icmp .eq 0, 808, 1117, 0, 0, []),
  (1204, .iconst 0, 809, 0, 0, 0, []),
  (1205, .ireturn, 810, 0, 0, 0, []),
  (1206, .aload 1, 811, 0, 0, 0, []),
  (1207, .aload 0, 812, 0, 0, 0, []),
  (1208, .iload 3, 813, 0, 0, 0, []),
  (1209, .iconst 0, 814, 0, 0, 1, []),
  (1210, .iadd, 815, 0, 0, 0, []),
  (1211, .iaload, 816, 0, 0, 0, [])]
def hcdLAW_51 : List hk_In := [(1212, .aload 0, 817, 0, 0, 0, []),
  (1213, .iload 3, 818, 0, 0, 0, []),
  (1214, .iconst 0, 819, 0, 0, 2, []),
  (1215, .iadd, 820, 0, 0, 0, []),
  (1216, .iaload, 821, 0, 0, 0, []),
  (1217, .aload 0, 822, 0, 0, 0, []),
  (1218, .iload 3, 823, 0, 0, 0, []),
  (1219, .iconst 0, 824, 0, 0, 3, []),
  (1220, .iadd, 825, 0, 0, 0, []),
  (1221, .iaload, 826, 0, 0, 0, []),
  (1222, .aload 0, 827, 0, 0, 0, []),
  (1223, .iload 3, 828, 0, 0, 0, []),
  (1224, .iconst 0, 829, 0, 0, 4, []),
  (1225, .iadd, 830, 0, 0, 0, []),
  (1226, .iaload, 831, 0, 0, 0, []),
  (1227, .invokevirtual 0, 832, 106, 4, 0, [7, 0, 0])]
def hcdLAW_52 : List hk_In := [(1230, .aload 2, 833, 0, 0, 0, []),
  (1231, .aload 0, 834, 0, 0, 0, []),
  (1232, .iload 3, 835, 0, 0, 0, []),
  (1233, .iconst 0, 836, 0, 0, 1, []),
  (1234, .iadd, 837, 0, 0, 0, []),
  (1235, .iaload, 838, 0, 0, 0, []),
  (1236, .aload 0, 839, 0, 0, 0, []),
  (1237, .iload 3, 840, 0, 0, 0, []),
  (1238, .iconst 0, 841, 0, 0, 2, []),
  (1239, .iadd, 842, 0, 0, 0, []),
  (1240, .iaload, 843, 0, 0, 0, []),
  (1241, .aload 0, 844, 0, 0, 0, []),
  (1242, .iload 3, 845, 0, 0, 0, []),
  (1243, .iconst 0, 846, 0, 0, 3, []),
  (1244, .iadd, 847, 0, 0, 0, []),
  (1245, .iaload, 848, 0, 0, 0, [])]
def hcdLAW_53 : List hk_In := [(1246, .aload 0, 849, 0, 0, 0, []),
  (1247, .iload 3, 850, 0, 0, 0, []),
  (1248, .iconst 0, 851, 0, 0, 4, []),
  (1249, .iadd, 852, 0, 0, 0, []),
  (1250, .iaload, 853, 0, 0, 0, []),
  (1251, .invokevirtual 0, 854, 208, 4, 0, [8, 0, 0]),
  (1254, .if_icmp .eq 0, 855, 1117, 0, 0, []),
  (1257, .iconst 0, 856, 0, 0, 0, []),
  (1258, .ireturn, 857, 0, 0, 0, []),
  (1259, .aload 1, 858, 0, 0, 0, []),
  (1260, .aload 0, 859, 0, 0, 0, []),
  (1261, .iload 3, 860, 0, 0, 0, []),
  (1262, .iconst 0, 861, 0, 0, 1, []),
  (1263, .iadd, 862, 0, 0, 0, []),
  (1264, .iaload, 863, 0, 0, 0, []),
  (1265, .aload 0, 864, 0, 0, 0, [])]
def hcdLAW_54 : List hk_In := [(1266, .iload 3, 865, 0, 0, 0, []),
  (1267, .iconst 0, 866, 0, 0, 2, []),
  (1268, .iadd, 867, 0, 0, 0, []),
  (1269, .iaload, 868, 0, 0, 0, []),
  (1270, .aload 0, 869, 0, 0, 0, []),
  (1271, .iload 3, 870, 0, 0, 0, []),
  (1272, .iconst 0, 871, 0, 0, 3, []),
  (1273, .iadd, 872, 0, 0, 0, []),
  (1274, .iaload, 873, 0, 0, 0, []),
  (1275, .invokevirtual 0, 874, 107, 3, 0, [7, 2, 42]),
  (1278, .aload 2, 875, 0, 0, 0, []),
  (1279, .aload 0, 876, 0, 0, 0, []),
  (1280, .iload 3, 877, 0, 0, 0, []),
  (1281, .iconst 0, 878, 0, 0, 1, []),
  (1282, .iadd, 879, 0, 0, 0, []),
  (1283, .iaload, 880, 0, 0, 0, [])]
def hcdLAW_55 : List hk_In := [(1284, .aload 0, 881, 0, 0, 0, []),
  (1285, .iload 3, 882, 0, 0, 0, []),
  (1286, .iconst 0, 883, 0, 0, 2, []),
  (1287, .iadd, 884, 0, 0, 0, []),
  (1288, .iaload, 885, 0, 0, 0, []),
  (1289, .aload 0, 886, 0, 0, 0, []),
  (1290, .iload 3, 887, 0, 0, 0, []),
  (1291, .iconst 0, 888, 0, 0, 3, []),
  (1292, .iadd, 889, 0, 0, 0, []),
  (1293, .iaload, 890, 0, 0, 0, []),
  (1294, .invokevirtual 0, 891, 211, 3, 0, [8, 0, 0]),
  (1297, .if_icmp .eq 0, 892, 1117, 0, 0, []),
  (1300, .iconst 0, 893, 0, 0, 0, []),
  (1301, .ireturn, 894, 0, 0, 0, []),
  (1302, .aload 1, 895, 0, 0, 0, []),
  (1303, .aload 0, 896, 0, 0, 0, [])]
def hcdLAW_56 : List hk_In := [(1304, .iload 3, 897, 0, 0, 0, []),
  (1305, .iconst 0, 898, 0, 0, 1, []),
  (1306, .iadd, 899, 0, 0, 0, []),
  (1307, .iaload, 900, 0, 0, 0, []),
  (1308, .aload 0, 901, 0, 0, 0, []),
  (1309, .iload 3, 902, 0, 0, 0, []),
  (1310, .iconst 0, 903, 0, 0, 2, []),
  (1311, .iadd, 904, 0, 0, 0, []),
  (1312, .iaload, 905, 0, 0, 0, []),
  (1313, .aload 0, 906, 0, 0, 0, []),
  (1314, .iload 3, 907, 0, 0, 0, []),
  (1315, .iconst 0, 908, 0, 0, 3, []),
  (1316, .iadd, 909, 0, 0, 0, []),
  (1317, .iaload, 910, 0, 0, 0, []),
  (1318, .invokevirtual 0, 911, 109, 3, 0, [7, 0, 0]),
  (1321, .aload 2, 912, 0, 0, 0, [])]
def hcdLAW_57 : List hk_In := [(1322, .aload 0, 913, 0, 0, 0, []),
  (1323, .iload 3, 914, 0, 0, 0, []),
  (1324, .iconst 0, 915, 0, 0, 1, []),
  (1325, .iadd, 916, 0, 0, 0, []),
  (1326, .iaload, 917, 0, 0, 0, []),
  (1327, .aload 0, 918, 0, 0, 0, []),
  (1328, .iload 3, 919, 0, 0, 0, []),
  (1329, .iconst 0, 920, 0, 0, 2, []),
  (1330, .iadd, 921, 0, 0, 0, []),
  (1331, .iaload, 922, 0, 0, 0, []),
  (1332, .aload 0, 923, 0, 0, 0, []),
  (1333, .iload 3, 924, 0, 0, 0, []),
  (1334, .iconst 0, 925, 0, 0, 3, []),
  (1335, .iadd, 926, 0, 0, 0, []),
  (1336, .iaload, 927, 0, 0, 0, []),
  (1337, .invokevirtual 0, 928, 212, 3, 0, [8, 0, 0])]
def hcdLAW_58 : List hk_In := [(1340, .if_icmp .eq 0, 929, 1117, 0, 0, []),
  (1343, .iconst 0, 930, 0, 0, 0, []),
  (1344, .ireturn, 931, 0, 0, 0, []),
  (1345, .aload 1, 932, 0, 0, 0, []),
  (1346, .aload 0, 933, 0, 0, 0, []),
  (1347, .iload 3, 934, 0, 0, 0, []),
  (1348, .iconst 0, 935, 0, 0, 1, []),
  (1349, .iadd, 936, 0, 0, 0, []),
  (1350, .iaload, 937, 0, 0, 0, []),
  (1351, .aload 0, 938, 0, 0, 0, []),
  (1352, .iload 3, 939, 0, 0, 0, []),
  (1353, .iconst 0, 940, 0, 0, 2, []),
  (1354, .iadd, 941, 0, 0, 0, []),
  (1355, .iaload, 942, 0, 0, 0, []),
  (1356, .aload 0, 943, 0, 0, 0, []),
  (1357, .iload 3, 944, 0, 0, 0, [])]
def hcdLAW_59 : List hk_In := [(1358, .iconst 0, 945, 0, 0, 3, []),
  (1359, .iadd, 946, 0, 0, 0, []),
  (1360, .iaload, 947, 0, 0, 0, []),
  (1361, .invokevirtual 0, 948, 111, 3, 0, [7, 0, 0]),
  (1364, .aload 2, 949, 0, 0, 0, []),
  (1365, .aload 0, 950, 0, 0, 0, []),
  (1366, .iload 3, 951, 0, 0, 0, []),
  (1367, .iconst 0, 952, 0, 0, 1, []),
  (1368, .iadd, 953, 0, 0, 0, []),
  (1369, .iaload, 954, 0, 0, 0, []),
  (1370, .aload 0, 955, 0, 0, 0, []),
  (1371, .iload 3, 956, 0, 0, 0, []),
  (1372, .iconst 0, 957, 0, 0, 2, []),
  (1373, .iadd, 958, 0, 0, 0, []),
  (1374, .iaload, 959, 0, 0, 0, []),
  (1375, .aload 0, 960, 0, 0, 0, [])]
def hcdLAW_60 : List hk_In := [(1376, .iload 3, 961, 0, 0, 0, []),
  (1377, .iconst 0, 962, 0, 0, 3, []),
  (1378, .iadd, 963, 0, 0, 0, []),
  (1379, .iaload, 964, 0, 0, 0, []),
  (1380, .invokevirtual 0, 965, 213, 3, 0, [8, 0, 0]),
  (1383, .if_icmp .eq 0, 966, 1117, 0, 0, []),
  (1386, .iconst 0, 967, 0, 0, 0, []),
  (1387, .ireturn, 968, 0, 0, 0, []),
  (1388, .aload 1, 969, 0, 0, 0, []),
  (1389, .aload 0, 970, 0, 0, 0, []),
  (1390, .iload 3, 971, 0, 0, 0, []),
  (1391, .iconst 0, 972, 0, 0, 1, []),
  (1392, .iadd, 973, 0, 0, 0, []),
  (1393, .iaload, 974, 0, 0, 0, []),
  (1394, .aload 0, 975, 0, 0, 0, []),
  (1395, .iload 3, 976, 0, 0, 0, [])]
def hcdLAW_61 : List hk_In := [(1396, .iconst 0, 977, 0, 0, 2, []),
  (1397, .iadd, 978, 0, 0, 0, []),
  (1398, .iaload, 979, 0, 0, 0, []),
  (1399, .aload 0, 980, 0, 0, 0, []),
  (1400, .iload 3, 981, 0, 0, 0, []),
  (1401, .iconst 0, 982, 0, 0, 3, []),
  (1402, .iadd, 983, 0, 0, 0, []),
  (1403, .iaload, 984, 0, 0, 0, []),
  (1404, .invokevirtual 0, 985, 112, 3, 0, [7, 0, 0]),
  (1407, .aload 2, 986, 0, 0, 0, []),
  (1408, .aload 0, 987, 0, 0, 0, []),
  (1409, .iload 3, 988, 0, 0, 0, []),
  (1410, .iconst 0, 989, 0, 0, 1, []),
  (1411, .iadd, 990, 0, 0, 0, []),
  (1412, .iaload, 991, 0, 0, 0, []),
  (1413, .aload 0, 992, 0, 0, 0, [])]
def hcdLAW_62 : List hk_In := [(1414, .iload 3, 993, 0, 0, 0, []),
  (1415, .iconst 0, 994, 0, 0, 2, []),
  (1416, .iadd, 995, 0, 0, 0, []),
  (1417, .iaload, 996, 0, 0, 0, []),
  (1418, .aload 0, 997, 0, 0, 0, []),
  (1419, .iload 3, 998, 0, 0, 0, []),
  (1420, .iconst 0, 999, 0, 0, 3, []),
  (1421, .iadd, 1000, 0, 0, 0, []),
  (1422, .iaload, 1001, 0, 0, 0, []),
  (1423, .invokevirtual 0, 1002, 214, 3, 0, [8, 0, 0]),
  (1426, .if_icmp .eq 0, 1003, 1117, 0, 0, []),
  (1429, .iconst 0, 1004, 0, 0, 0, []),
  (1430, .ireturn, 1005, 0, 0, 0, []),
  (1431, .aload 1, 1006, 0, 0, 0, []),
  (1432, .aload 0, 1007, 0, 0, 0, []),
  (1433, .iload 3, 1008, 0, 0, 0, [])]
def hcdLAW_63 : List hk_In := [(1434, .iconst 0, 1009, 0, 0, 1, []),
  (1435, .iadd, 1010, 0, 0, 0, []),
  (1436, .iaload, 1011, 0, 0, 0, []),
  (1437, .aload 0, 1012, 0, 0, 0, []),
  (1438, .iload 3, 1013, 0, 0, 0, []),
  (1439, .iconst 0, 1014, 0, 0, 2, []),
  (1440, .iadd, 1015, 0, 0, 0, []),
  (1441, .iaload, 1016, 0, 0, 0, []),
  (1442, .invokevirtual 0, 1017, 115, 2, 0, [7, 0, 0]),
  (1445, .aload 2, 1018, 0, 0, 0, []),
  (1446, .aload 0, 1019, 0, 0, 0, []),
  (1447, .iload 3, 1020, 0, 0, 0, []),
  (1448, .iconst 0, 1021, 0, 0, 1, []),
  (1449, .iadd, 1022, 0, 0, 0, []),
  (1450, .iaload, 1023, 0, 0, 0, []),
  (1451, .aload 0, 1024, 0, 0, 0, [])]
def hcdLAW_64 : List hk_In := [(1452, .iload 3, 1025, 0, 0, 0, []),
  (1453, .iconst 0, 1026, 0, 0, 2, []),
  (1454, .iadd, 1027, 0, 0, 0, []),
  (1455, .iaload, 1028, 0, 0, 0, []),
  (1456, .invokevirtual 0, 1029, 216, 2, 0, [8, 0, 0]),
  (1459, .if_icmp .eq 0, 1030, 1117, 0, 0, []),
  (1462, .iconst 0, 1031, 0, 0, 0, []),
  (1463, .ireturn, 1032, 0, 0, 0, []),
  (1464, .aload 1, 1033, 0, 0, 0, []),
  (1465, .aload 0, 1034, 0, 0, 0, []),
  (1466, .iload 3, 1035, 0, 0, 0, []),
  (1467, .iconst 0, 1036, 0, 0, 1, []),
  (1468, .iadd, 1037, 0, 0, 0, []),
  (1469, .iaload, 1038, 0, 0, 0, []),
  (1470, .aload 0, 1039, 0, 0, 0, []),
  (1471, .iload 3, 1040, 0, 0, 0, [])]
def hcdLAW_65 : List hk_In := [(1472, .iconst 0, 1041, 0, 0, 2, []),
  (1473, .iadd, 1042, 0, 0, 0, []),
  (1474, .iaload, 1043, 0, 0, 0, []),
  (1475, .aload 0, 1044, 0, 0, 0, []),
  (1476, .iload 3, 1045, 0, 0, 0, []),
  (1477, .iconst 0, 1046, 0, 0, 3, []),
  (1478, .iadd, 1047, 0, 0, 0, []),
  (1479, .iaload, 1048, 0, 0, 0, []),
  (1480, .invokevirtual 0, 1049, 117, 3, 0, [7, 0, 0]),
  (1483, .aload 2, 1050, 0, 0, 0, []),
  (1484, .aload 0, 1051, 0, 0, 0, []),
  (1485, .iload 3, 1052, 0, 0, 0, []),
  (1486, .iconst 0, 1053, 0, 0, 1, []),
  (1487, .iadd, 1054, 0, 0, 0, []),
  (1488, .iaload, 1055, 0, 0, 0, []),
  (1489, .aload 0, 1056, 0, 0, 0, [])]
def hcdLAW_66 : List hk_In := [(1490, .iload 3, 1057, 0, 0, 0, []),
  (1491, .iconst 0, 1058, 0, 0, 2, []),
  (1492, .iadd, 1059, 0, 0, 0, []),
  (1493, .iaload, 1060, 0, 0, 0, []),
  (1494, .aload 0, 1061, 0, 0, 0, []),
  (1495, .iload 3, 1062, 0, 0, 0, []),
  (1496, .iconst 0, 1063, 0, 0, 3, []),
  (1497, .iadd, 1064, 0, 0, 0, []),
  (1498, .iaload, 1065, 0, 0, 0, []),
  (1499, .invokevirtual 0, 1066, 219, 3, 0, [8, 0, 0]),
  (1502, .if_icmp .eq 0, 1067, 1117, 0, 0, []),
  (1505, .iconst 0, 1068, 0, 0, 0, []),
  (1506, .ireturn, 1069, 0, 0, 0, []),
  (1507, .aload 1, 1070, 0, 0, 0, []),
  (1508, .aload 0, 1071, 0, 0, 0, []),
  (1509, .iload 3, 1072, 0, 0, 0, [])]
def hcdLAW_67 : List hk_In := [(1510, .iconst 0, 1073, 0, 0, 1, []),
  (1511, .iadd, 1074, 0, 0, 0, []),
  (1512, .iaload, 1075, 0, 0, 0, []),
  (1513, .invokevirtual 0, 1076, 123, 1, 0, [7, 0, 0]),
  (1516, .aload 2, 1077, 0, 0, 0, []),
  (1517, .aload 0, 1078, 0, 0, 0, []),
  (1518, .iload 3, 1079, 0, 0, 0, []),
  (1519, .iconst 0, 1080, 0, 0, 1, []),
  (1520, .iadd, 1081, 0, 0, 0, []),
  (1521, .iaload, 1082, 0, 0, 0, []),
  (1522, .invokevirtual 0, 1083, 230, 1, 0, [8, 0, 0]),
  (1525, .if_icmp .eq 0, 1084, 1117, 0, 0, []),
  (1528, .iconst 0, 1085, 0, 0, 0, []),
  (1529, .ireturn, 1086, 0, 0, 0, []),
  (1530, .aload 1, 1087, 0, 0, 0, []),
  (1531, .aload 0, 1088, 0, 0, 0, [])]
def hcdLAW_68 : List hk_In := [(1532, .iload 3, 1089, 0, 0, 0, []),
  (1533, .iconst 0, 1090, 0, 0, 1, []),
  (1534, .iadd, 1091, 0, 0, 0, []),
  (1535, .iaload, 1092, 0, 0, 0, []),
  (1536, .invokevirtual 0, 1093, 124, 1, 0, [7, 0, 0]),
  (1539, .aload 2, 1094, 0, 0, 0, []),
  (1540, .aload 0, 1095, 0, 0, 0, []),
  (1541, .iload 3, 1096, 0, 0, 0, []),
  (1542, .iconst 0, 1097, 0, 0, 1, []),
  (1543, .iadd, 1098, 0, 0, 0, []),
  (1544, .iaload, 1099, 0, 0, 0, []),
  (1545, .invokevirtual 0, 1100, 231, 1, 0, [8, 0, 0]),
  (1548, .if_icmp .eq 0, 1101, 1117, 0, 0, []),
  (1551, .iconst 0, 1102, 0, 0, 0, []),
  (1552, .ireturn, 1103, 0, 0, 0, []),
  (1553, .aload 1, 1104, 0, 0, 0, [])]
def hcdLAW_69 : List hk_In := [(1554, .invokevirtual 0, 1105, 126, 0, 0, [7, 0, 0]),
  (1557, .aload 2, 1106, 0, 0, 0, []),
  (1558, .invokevirtual 0, 1107, 232, 0, 0, [8, 0, 0]),
  (1561, .if_icmp .eq 0, 1108, 1117, 0, 0, []),
  (1564, .iconst 0, 1109, 0, 0, 0, []),
  (1565, .ireturn, 1110, 0, 0, 0, []),
  (1566, .aload 1, 1111, 0, 0, 0, []),
  (1567, .invokevirtual 0, 1112, 127, 0, 0, [7, 0, 0]),
  (1570, .aload 2, 1113, 0, 0, 0, []),
  (1571, .invokevirtual 0, 1114, 235, 0, 0, [8, 0, 0]),
  (1574, .if_icmp .eq 0, 1115, 1117, 0, 0, []),
  (1577, .iconst 0, 1116, 0, 0, 0, []),
  (1578, .ireturn, 1117, 0, 0, 0, []),
  (1579, .iinc 3 0, 1118, 0, 0, 5, []),
  (1582, .goto 0, 1119, 10, 0, 0, []),
  (1585, .iconst 0, 1120, 0, 0, 1, [])]
def hcdLAW_70 : List hk_In := [(1586, .ireturn, 1121, 0, 0, 0, [])]
def hcdLAW : hk_Cd := [hcdLAW_0, hcdLAW_1, hcdLAW_2, hcdLAW_3, hcdLAW_4, hcdLAW_5, hcdLAW_6, hcdLAW_7, hcdLAW_8, hcdLAW_9, hcdLAW_10, hcdLAW_11, hcdLAW_12, hcdLAW_13, hcdLAW_14, hcdLAW_15, hcdLAW_16, hcdLAW_17, hcdLAW_18, hcdLAW_19, hcdLAW_20, hcdLAW_21, hcdLAW_22, hcdLAW_23, hcdLAW_24, hcdLAW_25, hcdLAW_26, hcdLAW_27, hcdLAW_28, hcdLAW_29, hcdLAW_30, hcdLAW_31, hcdLAW_32, hcdLAW_33, hcdLAW_34, hcdLAW_35, hcdLAW_36, hcdLAW_37, hcdLAW_38, hcdLAW_39, hcdLAW_40, hcdLAW_41, hcdLAW_42, hcdLAW_43, hcdLAW_44, hcdLAW_45, hcdLAW_46, hcdLAW_47, hcdLAW_48, hcdLAW_49, hcdLAW_50, hcdLAW_51, hcdLAW_52, hcdLAW_53, hcdLAW_54, hcdLAW_55, hcdLAW_56, hcdLAW_57, hcdLAW_58, hcdLAW_59, hcdLAW_60, hcdLAW_61, hcdLAW_62, hcdLAW_63, hcdLAW_64, hcdLAW_65, hcdLAW_66, hcdLAW_67, hcdLAW_68, hcdLAW_69, hcdLAW_70]
end
section
/-! the small machine: its steps grow with what follows -/
theorem hk_lk_m {K K' : Value → Prop} (h : ∀ v, K v → K' v) : ∀ (l : hk_Ls) (i : Nat), hk_lk l i K → hk_lk l i K'
  | [], _, q => q
  | q :: l, i, g => by
    unfold hk_lk at g ⊢
    cases hb : Nat.beq q.1 i
    · rw [hb] at g; exact hk_lk_m h l i g
    · rw [hb] at g; exact h _ g
theorem hk_fl_eq (p : Nat × Value → Bool) : ∀ (l : hk_Ls) (K : hk_Ls → Prop), hk_fl p l K = K (l.filter p)
  | [], _ => rfl
  | q :: l, K => by
    unfold hk_fl
    cases hb : p q
    · rw [List.filter_cons_of_neg (by rw [hb]; decide)]; exact hk_fl_eq p l K
    · rw [List.filter_cons_of_pos hb]; exact hk_fl_eq p l _
theorem hk_fl_m {p : Nat × Value → Bool} {K K' : hk_Ls → Prop} (h : ∀ v, K v → K' v) (l : hk_Ls) (g : hk_fl p l K) : hk_fl p l K' := by
  rw [hk_fl_eq] at g ⊢
  exact h _ g
def hk_nthm (q : Nat × Value) (ls : hk_Ls) : Prop := ∃ i, hk_nth ls i = some q
theorem hk_pk_m {ls : hk_Ls} : ∀ {is : List Nat} {K K' : hk_Ls → Prop}, (∀ v, K v → K' v) → hk_pk is ls K → hk_pk is ls K'
  | [], _, _, h, g => h _ g
  | i :: is, K, K', h, g => by
    unfold hk_pk at g ⊢
    split at g
    · rename_i q hq; exact hk_pk_m (fun _ => h _) g
    · exact g
theorem hk_pk_sub {ls : hk_Ls} : ∀ {is : List Nat} {K : hk_Ls → Prop}, hk_pk is ls K → ∃ l, (∀ q ∈ l, hk_nthm q ls) ∧ K l
  | [], _, g => ⟨[], fun _ h => absurd h List.not_mem_nil, g⟩
  | i :: is, K, g => by
    unfold hk_pk at g
    split at g
    · rename_i q hq
      obtain ⟨l, h1, h2⟩ := hk_pk_sub g
      exact ⟨q :: l, List.forall_mem_cons.mpr ⟨⟨i, hq⟩, h1⟩, h2⟩
    · exact absurd g id
theorem hk_pop_m {K K' : List Value → List Value → Prop} (h : ∀ a b, K a b → K' a b) : ∀ (n : Nat) (st as : List Value), hk_pop n st as K → hk_pop n st as K'
  | 0, st, as, g => h _ _ g
  | n + 1, [], _, g => g
  | n + 1, v :: st, as, g => hk_pop_m h n st (v :: as) g
theorem hk_v_m {K K' : Value → Prop} (h : ∀ v, K v → K' v) (v : Value) (g : hk_v v K) : hk_v v K' := by
  cases v <;> first | exact g | exact h _ g
theorem hk_i1_m {f : Int32 → Value} {K K' : List Value → Prop} (h : ∀ v, K v → K' v) (st : List Value) (g : hk_i1 f st K) : hk_i1 f st K' := by
  unfold hk_i1 at g ⊢
  split at g
  · exact h _ g
  · exact g
theorem hk_i2_m {f : Int32 → Int32 → Int32} {K K' : List Value → Prop} (h : ∀ v, K v → K' v) (st : List Value) (g : hk_i2 f st K) : hk_i2 f st K' := by
  unfold hk_i2 at g ⊢
  split at g
  · exact h _ g
  · exact g
theorem hk_l2_m {f : Int64 → Int64 → Value} {K K' : List Value → Prop} (h : ∀ v, K v → K' v) (st : List Value) (g : hk_l2 f st K) : hk_l2 f st K' := by
  unfold hk_l2 at g ⊢
  split at g
  · exact h _ g
  · exact g
theorem hk_ls_m {f : Int64 → Int32 → Int64} {K K' : List Value → Prop} (h : ∀ v, K v → K' v) (st : List Value) (g : hk_ls f st K) : hk_ls f st K' := by
  unfold hk_ls at g ⊢
  split at g
  · exact h _ g
  · exact g
theorem hk_dv_m {f : Int32 → Int32 → Int32} {K K' : List Value → Prop} (h : ∀ v, K v → K' v) (st : List Value) (g : hk_dv f st K) : hk_dv f st K' := by
  unfold hk_dv at g ⊢
  split at g
  · exact ⟨g.1, h _ g.2⟩
  · exact g
theorem hk_bif_m0 {b : Bool} {A A' : Prop} (h : A → A') (g : bif b then A else False) : bif b then A' else False := by
  cases b
  · exact g
  · exact h g
theorem hk_m2_m {f : Int32 → Int32 → Int32} {K K' : List Value → Prop} (h : ∀ v, K v → K' v) (st : List Value) (g : hk_m2 f st K) : hk_m2 f st K' := by
  unfold hk_m2 at g ⊢
  split at g
  · exact hk_bif_m0 (h _) g
  · exact g
theorem hk_m1_m {f : Int32 → Int32} {K K' : List Value → Prop} (h : ∀ v, K v → K' v) (st : List Value) (g : hk_m1 f st K) : hk_m1 f st K' := by
  unfold hk_m1 at g ⊢
  split at g
  · exact hk_bif_m0 (h _) g
  · exact g
theorem hk_br_m {c A B A' B' : Prop} (ha : A → A') (hb : B → B') (g : hk_br c A B) : hk_br c A' B' := ⟨fun q => ha (g.1 q), fun q => hb (g.2 q)⟩
theorem hk_ift_m {cd : ClassFile.Cond} {x y : Int32} {A B A' B' : Prop} (ha : A → A') (hb : B → B') (g : hk_ift cd x y A B) : hk_ift cd x y A' B' := by
  cases cd
  · exact hk_br_m ha hb g
  · exact hk_br_m hb ha g
  · exact hk_br_m ha hb g
  · exact hk_br_m ha hb g
  · exact hk_br_m ha hb g
  · exact hk_br_m ha hb g
theorem hk_if1_m {cd : ClassFile.Cond} {A B A' B' : List Value → Prop} (ha : ∀ s, A s → A' s) (hb : ∀ s, B s → B' s) (st : List Value) (g : hk_if1 cd st A B) : hk_if1 cd st A' B' := by
  unfold hk_if1 at g ⊢
  split at g
  · exact hk_ift_m (ha _) (hb _) g
  · exact g
theorem hk_if2_m {cd : ClassFile.Cond} {A B A' B' : List Value → Prop} (ha : ∀ s, A s → A' s) (hb : ∀ s, B s → B' s) (st : List Value) (g : hk_if2 cd st A B) : hk_if2 cd st A' B' := by
  unfold hk_if2 at g ⊢
  split at g
  · exact hk_ift_m (ha _) (hb _) g
  · exact g
theorem hk_nul_m {A B A' B' : List Value → Prop} (ha : ∀ s, A s → A' s) (hb : ∀ s, B s → B' s) (st : List Value) (g : hk_nul st A B) : hk_nul st A' B' := by
  unfold hk_nul at g ⊢
  split at g
  · exact ha _ g
  · exact hb _ g
  · exact g
theorem hk_sws_m {x : Int32} {K K' : Nat → Prop} (h : ∀ t, K t → K' t) : ∀ (tl : List Nat) (v : Int), hk_sws x K v tl → hk_sws x K' v tl
  | [], _, g => g
  | _ :: tl, _, g => ⟨fun q => h _ (g.1 q), hk_sws_m h tl _ g.2⟩
theorem hk_sw_m {lo : Int} {d : Nat} {tl : List Nat} {K K' : Nat → List Value → Prop} (h : ∀ t s, K t s → K' t s) (st : List Value) (g : hk_sw lo d tl st K) : hk_sw lo d tl st K' := by
  unfold hk_sw at g ⊢
  split at g
  · exact ⟨fun q => h _ _ (g.1 q), hk_sws_m (fun t => h t _) _ _ g.2⟩
  · exact g
theorem hk_bif_m {b : Bool} {A A' : Prop} (h : A → A') (g : bif b then A else False) : bif b then A' else False := by
  cases b
  · exact g
  · exact h g
theorem hk_bif_1 {b : Bool} {A : Prop} (g : bif b then A else False) : b = true ∧ A := by
  cases b
  · exact absurd g id
  · exact ⟨rfl, g⟩
theorem hk_gf_m {h0 : hk_Hp} {t k : Nat} {K K' : List Value → Prop} (h : ∀ s, K s → K' s) (st : List Value) (g : hk_gf h0 t k st K) : hk_gf h0 t k st K' := by
  unfold hk_gf at g ⊢
  split at g
  · exact hk_bif_m (hk_v_m (fun _ => h _) _) g
  · exact g
theorem hk_pfv_m {tc : Nat} {v : Value} {K K' : Prop} (h : K → K') (g : hk_pfv tc v K) : hk_pfv tc v K' := by
  unfold hk_pfv at g ⊢
  split at g
  · exact ⟨trivial, h g.2⟩
  · exact ⟨g.1, h g.2⟩
  · exact ⟨trivial, h g.2⟩
  · exact ⟨trivial, h g.2⟩
  · exact ⟨trivial, h g.2⟩
  · exact g
theorem hk_pf_m {h0 : hk_Hp} {t k tc : Nat} {K K' : hk_Hp → List Value → Prop} (h : ∀ a s, K a s → K' a s) (st : List Value) (g : hk_pf h0 t k tc st K) : hk_pf h0 t k tc st K' := by
  unfold hk_pf at g ⊢
  split at g
  · exact hk_bif_m (hk_pfv_m (h _ _)) g
  · exact g
theorem hk_ald_m {h0 : hk_Hp} {t : Nat} {K K' : List Value → Prop} (h : ∀ s, K s → K' s) (st : List Value) (g : hk_ald h0 t st K) : hk_ald h0 t st K' := by
  unfold hk_ald at g ⊢
  split at g
  · exact hk_bif_m (fun q => ⟨q.1, hk_v_m (fun _ => h _) _ q.2⟩) g
  · exact g
theorem hk_ald2_m {h0 : hk_Hp} {K K' : List Value → Prop} (h : ∀ s, K s → K' s) (st : List Value) (g : hk_ald2 h0 st K) : hk_ald2 h0 st K' := by
  unfold hk_ald2 at g ⊢
  split at g
  · exact hk_bif_m (fun q => ⟨q.1, hk_v_m (fun _ => h _) _ q.2⟩) g
  · exact g
theorem hk_astv_m {t : Nat} {v : Value} {K K' : Value → Prop} (h : ∀ v, K v → K' v) (g : hk_astv t v K) : hk_astv t v K' := by
  unfold hk_astv at g ⊢
  split at g
  · exact h _ g
  · exact h _ g
  · exact h _ g
  · exact g
theorem hk_ast_m {h0 : hk_Hp} {t : Nat} {K K' : hk_Hp → List Value → Prop} (h : ∀ a s, K a s → K' a s) (st : List Value) (g : hk_ast h0 t st K) : hk_ast h0 t st K' := by
  unfold hk_ast at g ⊢
  split at g
  · exact hk_bif_m (fun q => ⟨q.1, hk_astv_m (fun _ => h _ _) q.2⟩) g
  · exact g
theorem hk_ast2_m {h0 : hk_Hp} {K K' : hk_Hp → List Value → Prop} (h : ∀ a s, K a s → K' a s) (st : List Value) (g : hk_ast2 h0 st K) : hk_ast2 h0 st K' := by
  unfold hk_ast2 at g ⊢
  split at g
  · exact hk_bif_m (fun q => ⟨q.1, h _ _ q.2⟩) g
  · exact hk_bif_m (fun q => ⟨q.1, h _ _ q.2⟩) g
  · exact g
theorem hk_len_m {h0 : hk_Hp} {K K' : List Value → Prop} (h : ∀ s, K s → K' s) (st : List Value) (g : hk_len h0 st K) : hk_len h0 st K' := by
  unfold hk_len at g ⊢
  split at g
  · exact hk_bif_m (h _) g
  · exact g
theorem hk_nar_m {h0 : hk_Hp} {t C S k n : Nat} {K K' : hk_Hp → List Value → Nat → Prop} (h : ∀ a s n, K a s n → K' a s n) (st : List Value) (g : hk_nar h0 t C S k n st K) : hk_nar h0 t C S k n st K' := by
  unfold hk_nar at g ⊢
  split at g
  · exact ⟨g.1, h _ _ _ g.2⟩
  · exact g
theorem hk_ret_m {rt : Option FieldType} {K K' : Option Value → Prop} (h : ∀ v, K v → K' v) (st : List Value) (g : hk_ret rt st K) : hk_ret rt st K' := by
  unfold hk_ret at g ⊢
  split at g
  · exact h _ g
  · exact ⟨g.1, h _ g.2⟩
  · exact g
theorem hk_rv_m {r : Option Value} {K K' : List Value → Prop} (h : ∀ v, K v → K' v) (st : List Value) (g : hk_rv r st K) : hk_rv r st K' := by
  cases r <;> exact h _ g
theorem hk_alc_m {tl : List Nat} {C S k n : Nat} {K K' : Nat → Nat → Prop} (h : ∀ a b, K a b → K' a b) (g : hk_alc tl C S k n K) : hk_alc tl C S k n K' := by
  unfold hk_alc at g ⊢
  split at g
  · exact h _ _ g
  · exact ⟨g.1, h _ _ g.2⟩
  · exact g
theorem hk_rc_m {h0 : hk_Hp} {as : List Value} {t : Nat} {K K' : Prop} (h : K → K') (g : hk_rc h0 as t K) : hk_rc h0 as t K' := by
  unfold hk_rc at g ⊢
  split at g
  · exact hk_bif_m h g
  · exact g
theorem hk_rn_m {as : List Value} {K K' : Prop} (h : K → K') (g : hk_rn as K) : hk_rn as K' := by
  unfold hk_rn at g ⊢
  split at g
  · exact hk_bif_m h g
  · exact g
theorem hk_cpy_m {h0 : hk_Hp} {K K' : hk_Hp → List Value → Prop} (h : ∀ a s, K a s → K' a s) (st : List Value) (g : hk_cpy h0 st K) : hk_cpy h0 st K' := by
  unfold hk_cpy at g ⊢
  split at g
  · exact hk_bif_m (fun q => ⟨q.1, h _ _ q.2⟩) g
  · exact g
def hk_cm (call : hk_C) : Prop := ∀ M as h (Q Q' : hk_Q), (∀ r h, Q r h → Q' r h) → call M as h Q → call M as h Q'
set_option maxHeartbeats 4000000 in
theorem hk_step_m {rt : Option FieldType} {C S : Nat} {dft : Nat → Nat → Value} {cd : hk_Cd} {call : hk_C} {Q Q' : hk_Q} {X X' : hk_X} (hc : hk_cm call) (hQ : ∀ r h, Q r h → Q' r h) (hX : ∀ ip ls st h k n, X ip ls st h k n → X' ip ls st h k n) (ip : Nat) (ls : hk_Ls) (st : List Value) (h : hk_Hp) (k n : Nat)
    (g : hk_step rt C S dft cd call Q X ip ls st h k n) : hk_step rt C S dft cd call Q' X' ip ls st h k n := by
  unfold hk_step at g ⊢
  cases he : hk_at cd ip with
  | none => rw [he] at g; exact g
  | some e =>
    rw [he] at g
    obtain ⟨pc, i, nx, a, b, c, tl⟩ := e
    dsimp only at g ⊢
    cases i
    case aconst_null => exact hX _ _ _ _ _ _ g
    case iconst => exact hX _ _ _ _ _ _ g
    case ldc => exact hX _ _ _ _ _ _ g
    case getstatic => exact hX _ _ _ _ _ _ g
    case goto =>
      dsimp only at g ⊢
      cases hb : Nat.ble a ip
      · rw [hb] at g; exact hX _ _ _ _ _ _ g
      · rw [hb] at g
        obtain ⟨is, g⟩ := g
        exact ⟨is, hk_pk_m (fun _ => hX _ _ _ _ _ _) g⟩
    case lconst => dsimp only at g ⊢; split at g <;> first | exact hX _ _ _ _ _ _ g | exact g
    case iload => exact hk_lk_m (fun v q => by cases v <;> first | exact hX _ _ _ _ _ _ q | exact q) _ _ g
    case lload => exact hk_lk_m (fun v q => by cases v <;> first | exact hX _ _ _ _ _ _ q | exact q) _ _ g
    case aload => exact hk_lk_m (fun v q => by cases v <;> first | exact hX _ _ _ _ _ _ q | exact q) _ _ g
    case istore => dsimp only at g ⊢; split at g <;> first | exact hk_fl_m (fun _ => hX _ _ _ _ _ _) _ g | exact g
    case lstore => dsimp only at g ⊢; split at g <;> first | exact hk_fl_m (fun _ => hX _ _ _ _ _ _) _ g | exact g
    case astore => dsimp only at g ⊢; split at g <;> first | exact hk_fl_m (fun _ => hX _ _ _ _ _ _) _ g | exact g
    case iinc => exact hk_lk_m (fun v q => by cases v <;> first | exact hk_fl_m (fun _ => hX _ _ _ _ _ _) _ q | exact q) _ _ g
    case pop => dsimp only at g ⊢; split at g <;> first | exact hX _ _ _ _ _ _ g | exact g
    case dup => dsimp only at g ⊢; split at g <;> first | exact hX _ _ _ _ _ _ g | exact g
    case l2i => dsimp only at g ⊢; split at g <;> first | exact hX _ _ _ _ _ _ g | exact g
    case iadd => exact hk_i2_m (fun _ => hX _ _ _ _ _ _) _ g
    case isub => exact hk_i2_m (fun _ => hX _ _ _ _ _ _) _ g
    case imul => exact hk_i2_m (fun _ => hX _ _ _ _ _ _) _ g
    case iand => exact hk_i2_m (fun _ => hX _ _ _ _ _ _) _ g
    case ior => exact hk_i2_m (fun _ => hX _ _ _ _ _ _) _ g
    case ixor => exact hk_i2_m (fun _ => hX _ _ _ _ _ _) _ g
    case ishl => exact hk_i2_m (fun _ => hX _ _ _ _ _ _) _ g
    case ishr => exact hk_i2_m (fun _ => hX _ _ _ _ _ _) _ g
    case iushr => exact hk_i2_m (fun _ => hX _ _ _ _ _ _) _ g
    case idiv => exact hk_dv_m (fun _ => hX _ _ _ _ _ _) _ g
    case irem => exact hk_dv_m (fun _ => hX _ _ _ _ _ _) _ g
    case fadd => exact hk_m2_m (fun _ => hX _ _ _ _ _ _) _ g
    case fsub => exact hk_m2_m (fun _ => hX _ _ _ _ _ _) _ g
    case fneg => exact hk_m1_m (fun _ => hX _ _ _ _ _ _) _ g
    case ineg => exact hk_i1_m (fun _ => hX _ _ _ _ _ _) _ g
    case i2l => exact hk_i1_m (fun _ => hX _ _ _ _ _ _) _ g
    case i2b => exact hk_i1_m (fun _ => hX _ _ _ _ _ _) _ g
    case i2s => exact hk_i1_m (fun _ => hX _ _ _ _ _ _) _ g
    case i2c => exact hk_i1_m (fun _ => hX _ _ _ _ _ _) _ g
    case ladd => exact hk_l2_m (fun _ => hX _ _ _ _ _ _) _ g
    case lsub => exact hk_l2_m (fun _ => hX _ _ _ _ _ _) _ g
    case lmul => exact hk_l2_m (fun _ => hX _ _ _ _ _ _) _ g
    case land => exact hk_l2_m (fun _ => hX _ _ _ _ _ _) _ g
    case lor => exact hk_l2_m (fun _ => hX _ _ _ _ _ _) _ g
    case lcmp => exact hk_l2_m (fun _ => hX _ _ _ _ _ _) _ g
    case lshl => exact hk_ls_m (fun _ => hX _ _ _ _ _ _) _ g
    case lshr => exact hk_ls_m (fun _ => hX _ _ _ _ _ _) _ g
    case lushr => exact hk_ls_m (fun _ => hX _ _ _ _ _ _) _ g
    case ifCond => exact hk_if1_m (fun _ => hX _ _ _ _ _ _) (fun _ => hX _ _ _ _ _ _) _ g
    case if_icmp => exact hk_if2_m (fun _ => hX _ _ _ _ _ _) (fun _ => hX _ _ _ _ _ _) _ g
    case ifnull => exact hk_nul_m (fun _ => hX _ _ _ _ _ _) (fun _ => hX _ _ _ _ _ _) _ g
    case ifnonnull => exact hk_nul_m (fun _ => hX _ _ _ _ _ _) (fun _ => hX _ _ _ _ _ _) _ g
    case tableswitch => exact hk_sw_m (fun _ _ => hX _ _ _ _ _ _) _ g
    case getfield => exact hk_gf_m (fun _ => hX _ _ _ _ _ _) _ g
    case putfield => dsimp only at g ⊢; split at g <;> first | exact hk_pf_m (fun _ _ => hX _ _ _ _ _ _) _ g | exact g
    case iaload => exact hk_ald_m (fun _ => hX _ _ _ _ _ _) _ g
    case laload => exact hk_ald_m (fun _ => hX _ _ _ _ _ _) _ g
    case baload => exact hk_ald_m (fun _ => hX _ _ _ _ _ _) _ g
    case aaload => exact hk_ald2_m (fun _ => hX _ _ _ _ _ _) _ g
    case iastore => exact hk_ast_m (fun _ _ => hX _ _ _ _ _ _) _ g
    case lastore => exact hk_ast_m (fun _ _ => hX _ _ _ _ _ _) _ g
    case bastore => exact hk_ast_m (fun _ _ => hX _ _ _ _ _ _) _ g
    case aastore => exact hk_ast2_m (fun _ _ => hX _ _ _ _ _ _) _ g
    case arraylength => exact hk_len_m (fun _ => hX _ _ _ _ _ _) _ g
    case new => exact ⟨g.1, hX _ _ _ _ _ _ g.2⟩
    case newarray => exact hk_nar_m (fun _ _ _ => hX _ _ _ _ _ _) _ g
    case anewarray => exact hk_nar_m (fun _ _ _ => hX _ _ _ _ _ _) _ g
    case invokedynamic => dsimp only at g ⊢; split at g <;> first | exact hk_bif_m (hX _ _ _ _ _ _) g | exact g
    case invokeinterface => exact hk_cpy_m (fun _ _ => hX _ _ _ _ _ _) _ g
    case invokevirtual => exact hk_pop_m (fun _ _ q => hk_bif_m (hk_rc_m (hk_alc_m (fun _ _ => hc _ _ _ _ _ (fun _ _ => hk_rv_m (fun _ => hX _ _ _ _ _ _) _)))) q) _ _ _ g
    case invokestatic => exact hk_pop_m (fun _ _ q => hk_bif_m (hk_alc_m (fun _ _ => hc _ _ _ _ _ (fun _ _ => hk_rv_m (fun _ => hX _ _ _ _ _ _) _))) q) _ _ _ g
    case invokespecial => exact hk_pop_m (fun _ _ q => hk_bif_m (hk_rn_m (hk_alc_m (fun _ _ => hc _ _ _ _ _ (fun _ _ => hk_rv_m (fun _ => hX _ _ _ _ _ _) _)))) q) _ _ _ g
    case ireturn => exact hk_ret_m (fun _ => hQ _ _) _ g
    case return_ => dsimp only at g ⊢; split at g <;> first | exact hQ _ _ g | exact g
    all_goals exact g
section Fix
variable {rt : Option FieldType} {C S : Nat} {dft : Nat → Nat → Value} {cd : hk_Cd} {call : hk_C} {Q Q' : hk_Q}
theorem hk_in (hc : hk_cm call) {ip : Nat} {ls : hk_Ls} {st : List Value} {h : hk_Hp} {k n : Nat} (g : hk_step rt C S dft cd call Q (hk_wp rt C S dft cd call Q) ip ls st h k n) : hk_wp rt C S dft cd call Q ip ls st h k n := by
  intro P hP
  exact hP _ _ _ _ _ _ (hk_step_m hc (fun _ _ q => q) (fun _ _ _ _ _ _ q => q P hP) _ _ _ _ _ _ g)
theorem hk_out (hc : hk_cm call) {ip : Nat} {ls : hk_Ls} {st : List Value} {h : hk_Hp} {k n : Nat} (g : hk_wp rt C S dft cd call Q ip ls st h k n) : hk_step rt C S dft cd call Q (hk_wp rt C S dft cd call Q) ip ls st h k n :=
  g _ (fun _ _ _ _ _ _ q => hk_step_m hc (fun _ _ q => q) (fun _ _ _ _ _ _ q => hk_in hc q) _ _ _ _ _ _ q)
theorem hk_run (hc : hk_cm call) : ∀ (f : Nat) {ip : Nat} {ls : hk_Ls} {st : List Value} {h : hk_Hp} {k n : Nat}, hk_go rt C S dft cd call Q f ip ls st h k n → hk_wp rt C S dft cd call Q ip ls st h k n
  | 0, _, _, _, _, _, _, g => g
  | f + 1, _, _, _, _, _, _, g => hk_in hc (hk_step_m hc (fun _ _ q => q) (fun _ _ _ _ _ _ q => hk_run hc f q) _ _ _ _ _ _ g)
theorem hk_stop (hc : hk_cm call) : ∀ (f : Nat) {ip : Nat} {ls : hk_Ls} {st : List Value} {h : hk_Hp} {k n : Nat}, hk_wp rt C S dft cd call Q ip ls st h k n → hk_go rt C S dft cd call Q f ip ls st h k n
  | 0, _, _, _, _, _, _, g => g
  | f + 1, _, _, _, _, _, _, g => hk_step_m hc (fun _ _ q => q) (fun _ _ _ _ _ _ q => hk_stop hc f q) _ _ _ _ _ _ (hk_out hc g)
theorem hk_wp_m (hc : hk_cm call) (hQ : ∀ r h, Q r h → Q' r h) {ip : Nat} {ls : hk_Ls} {st : List Value} {h : hk_Hp} {k n : Nat} (g : hk_wp rt C S dft cd call Q ip ls st h k n) : hk_wp rt C S dft cd call Q' ip ls st h k n :=
  g _ (fun _ _ _ _ _ _ q => hk_in hc (hk_step_m hc hQ (fun _ _ _ _ _ _ q => q) _ _ _ _ _ _ q))
end Fix
end
section
/-! the methods, and the cells of one object, one reference, the rows that were made -/
def hk_bds : List (hk_Cd × Option FieldType × Nat × Nat × Nat) := [
  (hcd0, none, 59, 636, 2),
  (hcd1, none, 15, 99, 2),
  (hcd2, none, 0, 0, 1),
  (hcd3, none, 0, 0, 1),
  (hcd4, none, 1, 200, 1),
  (hcd5, none, 1, 30, 1),
  (hcd6, none, 0, 0, 1),
  (hcd7, (some .int), 0, 0, 5),
  (hcd8, (some .int), 0, 0, 1),
  (hcd9, none, 0, 0, 2),
  (hcd10, (some .int), 0, 0, 2),
  (hcd11, (some .int), 0, 0, 3),
  (hcd12, none, 0, 0, 1),
  (hcd13, none, 0, 0, 2),
  (hcd14, none, 0, 0, 4),
  (hcd15, none, 0, 0, 1),
  (hcd16, (some .int), 0, 0, 2),
  (hcd17, none, 0, 0, 3),
  (hcd18, (some .int), 0, 0, 1),
  (hcd19, (some .boolean), 0, 0, 3),
  (hcd20, (some .int), 0, 0, 1),
  (hcd21, (some .byte), 0, 0, 1),
  (hcd22, (some .char), 0, 0, 2),
  (hcd23, (some .boolean), 0, 0, 1),
  (hcd24, (some .char), 0, 0, 2),
  (hcd25, none, 0, 0, 2),
  (hcd26, (some .int), 0, 0, 3),
  (hcd27, none, 0, 0, 5),
  (hcd28, (some .int), 0, 0, 4),
  (hcd29, none, 0, 0, 1),
  (hcd30, none, 0, 0, 2),
  (hcd31, (some .int), 0, 0, 4),
  (hcd32, none, 0, 0, 3),
  (hcd33, none, 0, 0, 2),
  (hcd34, none, 0, 0, 2),
  (hcd35, none, 0, 0, 1),
  (hcd36, none, 0, 0, 4),
  (hcd37, (some .int), 0, 0, 3),
  (hcd38, none, 0, 0, 4),
  (hcd39, (some .int), 0, 0, 1),
  (hcd40, none, 0, 0, 3),
  (hcd41, none, 0, 0, 2),
  (hcd42, none, 0, 0, 2),
  (hcd43, (some .int), 0, 0, 5),
  (hcd44, (some .boolean), 0, 0, 2),
  (hcd45, (some .int), 0, 0, 2),
  (hcd46, (some .int), 0, 0, 2),
  (hcd47, (some .int), 0, 0, 3),
  (hcd48, (some .int), 0, 0, 3),
  (hcd49, (some .boolean), 0, 0, 2),
  (hcd50, (some .int), 0, 0, 4),
  (hcd51, (some .int), 0, 0, 4),
  (hcd52, (some .int), 0, 0, 4),
  (hcd53, (some .int), 0, 0, 4),
  (hcd54, (some .int), 0, 0, 6),
  (hcd55, (some .int), 0, 0, 4),
  (hcd56, (some .boolean), 0, 0, 2),
  (hcd57, (some .int), 0, 0, 3),
  (hcd58, (some .boolean), 0, 0, 1),
  (hcd59, (some .int), 0, 0, 2),
  (hcd60, (some .int), 0, 0, 1),
  (hcd61, (some .int), 0, 0, 4),
  (hcd62, (some .int), 0, 0, 5),
  (hcd63, (some .int), 0, 0, 4),
  (hcd64, (some .boolean), 0, 0, 1),
  (hcd65, (some .int), 0, 0, 3),
  (hcd66, (some .int), 0, 0, 3),
  (hcd67, (some .boolean), 0, 0, 1),
  (hcd68, (some .int), 0, 0, 3),
  (hcd69, (some .int), 0, 0, 6),
  (hcd70, (some .int), 0, 0, 2),
  (hcd71, (some .boolean), 0, 0, 1),
  (hcd72, none, 0, 0, 3),
  (hcd73, none, 0, 0, 3),
  (hcd74, none, 0, 0, 5),
  (hcd75, none, 0, 0, 5),
  (hcd76, none, 0, 0, 4),
  (hcd77, (some .int), 0, 0, 7),
  (hcd78, none, 0, 0, 4),
  (hcd79, (some .int), 0, 0, 2),
  (hcd80, none, 0, 0, 4),
  (hcd81, (some .int), 0, 0, 3),
  (hcd82, (some .int), 0, 0, 3),
  (hcd83, none, 0, 0, 2),
  (hcd84, (some .int), 0, 0, 3),
  (hcd85, (some .int), 0, 0, 3),
  (hcd86, (some .int), 0, 0, 3),
  (hcd87, (some .int), 0, 0, 4),
  (hcd88, (some .int), 0, 0, 3),
  (hcd89, (some .boolean), 0, 0, 1),
  (hcd90, (some .int), 0, 0, 9),
  (hcd91, none, 0, 0, 4),
  (hcd92, (some .int), 0, 0, 3),
  (hcd93, (some .int), 0, 0, 3),
  (hcd94, (some .int), 0, 0, 2),
  (hcd95, (some .boolean), 0, 0, 2),
  (hcd96, (some .int), 0, 0, 3),
  (hcd97, (some .int), 0, 0, 2),
  (hcd98, (some .int), 0, 0, 3),
  (hcd99, (some .int), 0, 0, 3),
  (hcd100, (some .int), 0, 0, 3),
  (hcd101, (some .int), 0, 0, 3),
  (hcd102, (some .boolean), 0, 0, 3),
  (hcd103, (some .int), 0, 0, 5),
  (hcd104, (some .int), 0, 0, 2),
  (hcd105, (some .boolean), 0, 0, 2),
  (hcd106, (some .int), 0, 0, 7),
  (hcd107, (some .int), 2, 42, 4),
  (hcd108, none, 1, 40, 3),
  (hcd109, (some .int), 0, 0, 5),
  (hcd110, (some .int), 0, 0, 2),
  (hcd111, (some .int), 0, 0, 5),
  (hcd112, (some .int), 0, 0, 4),
  (hcd113, none, 0, 0, 2),
  (hcd114, none, 0, 0, 2),
  (hcd115, (some .int), 0, 0, 7),
  (hcd116, (some .boolean), 0, 0, 2),
  (hcd117, (some .int), 0, 0, 5),
  (hcd118, none, 0, 0, 1),
  (hcd119, (some .int), 0, 0, 6),
  (hcd120, (some .int), 0, 0, 7),
  (hcd121, none, 0, 0, 2),
  (hcd122, (some .int), 0, 0, 3),
  (hcd123, (some .int), 0, 0, 2),
  (hcd124, (some .int), 0, 0, 2),
  (hcd125, (some .int), 0, 0, 1),
  (hcd126, (some .int), 0, 0, 1),
  (hcd127, (some .int), 0, 0, 1),
  (hcd128, none, 28, 828, 1),
  (hcd129, (some .int), 0, 0, 5),
  (hcd130, (some .boolean), 0, 0, 3),
  (hcd131, (some .int), 0, 0, 2),
  (hcd132, none, 0, 0, 2),
  (hcd133, (some .int), 0, 0, 2),
  (hcd134, (some .boolean), 0, 0, 1),
  (hcd135, (some .boolean), 0, 0, 1),
  (hcd136, none, 0, 0, 1),
  (hcd137, (some .boolean), 0, 0, 3),
  (hcd138, none, 0, 0, 3),
  (hcd139, (some .int), 0, 0, 4),
  (hcd140, (some .boolean), 0, 0, 4),
  (hcd141, none, 0, 0, 1),
  (hcd142, (some .boolean), 0, 0, 2),
  (hcd143, none, 0, 0, 4),
  (hcd144, (some .int), 0, 0, 1),
  (hcd145, (some .int), 0, 0, 1),
  (hcd146, none, 0, 0, 6),
  (hcd147, none, 0, 0, 2),
  (hcd148, (some .int), 0, 0, 2),
  (hcd149, (some .boolean), 0, 0, 1),
  (hcd150, (some .int), 0, 0, 5),
  (hcd151, (some .boolean), 0, 0, 2),
  (hcd152, (some .int), 0, 0, 3),
  (hcd153, (some .boolean), 0, 0, 1),
  (hcd154, (some .int), 0, 0, 3),
  (hcd155, (some .boolean), 0, 0, 2),
  (hcd156, (some .int), 0, 0, 4),
  (hcd157, (some .int), 0, 0, 2),
  (hcd158, (some .int), 0, 0, 4),
  (hcd159, (some .int), 0, 0, 4),
  (hcd160, (some .int), 0, 0, 4),
  (hcd161, (some .int), 0, 0, 5),
  (hcd162, (some .int), 0, 0, 3),
  (hcd163, (some .boolean), 0, 0, 2),
  (hcd164, (some .int), 0, 0, 1),
  (hcd165, (some .int), 0, 0, 2),
  (hcd166, (some .int), 0, 0, 2),
  (hcd167, (some .int), 0, 0, 5),
  (hcd168, (some .int), 0, 0, 5),
  (hcd169, (some .int), 0, 0, 3),
  (hcd170, (some .boolean), 0, 0, 2),
  (hcd171, (some .int), 0, 0, 2),
  (hcd172, none, 0, 0, 2),
  (hcd173, none, 0, 0, 3),
  (hcd174, (some .int), 0, 0, 3),
  (hcd175, (some .boolean), 0, 0, 2),
  (hcd176, (some .int), 0, 0, 6),
  (hcd177, (some .int), 0, 0, 2),
  (hcd178, (some .boolean), 0, 0, 1),
  (hcd179, none, 0, 0, 4),
  (hcd180, none, 0, 0, 4),
  (hcd181, none, 0, 0, 7),
  (hcd182, none, 0, 0, 5),
  (hcd183, (some .int), 0, 0, 4),
  (hcd184, (some .int), 0, 0, 3),
  (hcd185, (some .int), 0, 0, 3),
  (hcd186, (some .int), 0, 0, 3),
  (hcd187, (some .int), 0, 0, 4),
  (hcd188, none, 0, 0, 2),
  (hcd189, (some .int), 0, 0, 4),
  (hcd190, (some .int), 0, 0, 4),
  (hcd191, (some .int), 0, 0, 4),
  (hcd192, (some .int), 0, 0, 4),
  (hcd193, (some .int), 0, 0, 10),
  (hcd194, (some .boolean), 0, 0, 1),
  (hcd195, (some .int), 0, 0, 8),
  (hcd196, (some .int), 0, 0, 9),
  (hcd197, (some .int), 0, 0, 2),
  (hcd198, (some .boolean), 0, 0, 3),
  (hcd199, (some .int), 0, 0, 3),
  (hcd200, (some .int), 0, 0, 2),
  (hcd201, (some .int), 0, 0, 3),
  (hcd202, none, 0, 0, 4),
  (hcd203, (some .int), 0, 0, 3),
  (hcd204, (some .int), 0, 0, 3),
  (hcd205, (some .boolean), 0, 0, 3),
  (hcd206, (some .int), 0, 0, 5),
  (hcd207, (some .int), 0, 0, 4),
  (hcd208, (some .int), 0, 0, 9),
  (hcd209, (some .boolean), 0, 0, 1),
  (hcd210, (some .int), 0, 0, 3),
  (hcd211, (some .int), 0, 0, 5),
  (hcd212, (some .int), 0, 0, 4),
  (hcd213, (some .int), 0, 0, 5),
  (hcd214, (some .int), 0, 0, 4),
  (hcd215, (some .boolean), 0, 0, 3),
  (hcd216, (some .int), 0, 0, 4),
  (hcd217, (some .int), 0, 0, 2),
  (hcd218, (some .boolean), 0, 0, 2),
  (hcd219, (some .int), 0, 0, 6),
  (hcd220, (some .int), 0, 0, 2),
  (hcd221, (some .int), 0, 0, 2),
  (hcd222, none, 0, 0, 2),
  (hcd223, (some .int), 0, 0, 2),
  (hcd224, (some .int), 0, 0, 3),
  (hcd225, (some .int), 0, 0, 2),
  (hcd226, (some .int), 0, 0, 3),
  (hcd227, (some .int), 0, 0, 2),
  (hcd228, (some .int), 0, 0, 3),
  (hcd229, (some .int), 0, 0, 2),
  (hcd230, (some .int), 0, 0, 2),
  (hcd231, (some .int), 0, 0, 4),
  (hcd232, (some .int), 0, 0, 1),
  (hcd233, none, 0, 0, 2),
  (hcd234, none, 0, 0, 5),
  (hcd235, (some .int), 0, 0, 1),
  (hcdLAW, (some .boolean), 217, 4215, 4)]
abbrev mC_init : Nat := 0
abbrev mP_init : Nat := 1
abbrev mN_init : Nat := 2
abbrev mH_init : Nat := 3
abbrev mT_init : Nat := 4
abbrev mA_init : Nat := 5
abbrev mS_init : Nat := 6
abbrev mC_feed : Nat := 7
abbrev mT_room : Nat := 8
abbrev mT_take : Nat := 9
abbrev mC_plain : Nat := 10
abbrev mT_tellTo : Nat := 11
abbrev mP_clear : Nat := 12
abbrev mP_stillWinds : Nat := 13
abbrev mP_setWind : Nat := 14
abbrev mT_step : Nat := 15
abbrev mT_sortAt : Nat := 16
abbrev mT_readOne : Nat := 17
abbrev mT_kindNamed : Nat := 18
abbrev mT_spells : Nat := 19
abbrev mJString_length : Nat := 20
abbrev mJString_coder : Nat := 21
abbrev mJString_charAt : Nat := 22
abbrev mJString_isLatin1 : Nat := 23
abbrev mJStringLatin1_charAt : Nat := 24
abbrev mJString_checkIndex : Nat := 25
abbrev mJPreconditions_checkIndex : Nat := 26
abbrev mT_readHat : Nat := 27
abbrev mT_number : Nat := 28
abbrev mT_fail : Nat := 29
abbrev mT_word : Nat := 30
abbrev mP_addHat : Nat := 31
abbrev mH_become : Nat := 32
abbrev mH_goOn : Nat := 33
abbrev mH_lieIn : Nat := 34
abbrev mT_semicolon : Nat := 35
abbrev mT_readPerson : Nat := 36
abbrev mP_addPerson : Nat := 37
abbrev mT_readWind : Nat := 38
abbrev mT_directionNamed : Nat := 39
abbrev mP_copyFrom : Nat := 40
abbrev mN_copyFrom : Nat := 41
abbrev mH_copyFrom : Nat := 42
abbrev mC_wind : Nat := 43
abbrev mC_isBelow : Nat := 44
abbrev mP_windIn : Nat := 45
abbrev mC_windOf : Nat := 46
abbrev mC_person : Nat := 47
abbrev mC_personOf : Nat := 48
abbrev mC_isPerson : Nat := 49
abbrev mP_ownedBy : Nat := 50
abbrev mP_wornBy : Nat := 51
abbrev mC_moves : Nat := 52
abbrev mC_speed : Nat := 53
abbrev mC_hat : Nat := 54
abbrev mC_hatOf : Nat := 55
abbrev mC_isHat : Nat := 56
abbrev mP_placeOf : Nat := 57
abbrev mH_isWorn : Nat := 58
abbrev mH_firmness : Nat := 59
abbrev mP_hour : Nat := 60
abbrev mH_flight : Nat := 61
abbrev mC_make : Nat := 62
abbrev mC_puts : Nat := 63
abbrev mH_lies : Nat := 64
abbrev mC_down : Nat := 65
abbrev mC_found : Nat := 66
abbrev mH_isGone : Nat := 67
abbrev mC_bow : Nat := 68
abbrev mP_swapHats : Nat := 69
abbrev mC_hours : Nat := 70
abbrev mC_isTrialLength : Nat := 71
abbrev mP_passHours : Nat := 72
abbrev mP_passHour : Nat := 73
abbrev mP_blow : Nat := 74
abbrev mH_fly : Nat := 75
abbrev mP_runForNearest : Nat := 76
abbrev mP_nearestTo : Nat := 77
abbrev mN_runTo : Nat := 78
abbrev mN_atMost : Nat := 79
abbrev mP_putOnAll : Nat := 80
abbrev mC_clock : Nat := 81
abbrev mC_owns : Nat := 82
abbrev mC_tryHours : Nat := 83
abbrev mC_where : Nat := 84
abbrev mC_wears : Nat := 85
abbrev mC_lost : Nat := 86
abbrev mC_master : Nat := 87
abbrev mC_wish : Nat := 88
abbrev mC_isPlanLength : Nat := 89
abbrev mC_bestFor : Nat := 90
abbrev mC_changeTrial : Nat := 91
abbrev mC_start : Nat := 92
abbrev mC_tie : Nat := 93
abbrev mC_calm : Nat := 94
abbrev mP_anyLies : Nat := 95
abbrev mC_seed : Nat := 96
abbrev mC_draw : Nat := 97
abbrev mC_prove : Nat := 98
abbrev mP_allWorn : Nat := 99
abbrev mP_allGone : Nat := 100
abbrev mC_row : Nat := 101
abbrev mC_isRowPart : Nat := 102
abbrev mC_alterRow : Nat := 103
abbrev mC_judge : Nat := 104
abbrev mC_isRowOfTrial : Nat := 105
abbrev mC_winds : Nat := 106
abbrev mC_sheet : Nat := 107
abbrev mR_init : Nat := 108
abbrev mC_put : Nat := 109
abbrev mR_narrowed : Nat := 110
abbrev mC_item : Nat := 111
abbrev mC_shelf : Nat := 112
abbrev mS_takeHat : Nat := 113
abbrev mS_takeRow : Nat := 114
abbrev mC_taken : Nat := 115
abbrev mH_isOfKind : Nat := 116
abbrev mC_act : Nat := 117
abbrev mA_forget : Nat := 118
abbrev mA_perform : Nat := 119
abbrev mA_run : Nat := 120
abbrev mA_begin : Nat := 121
abbrev mA_share : Nat := 122
abbrev mC_trace : Nat := 123
abbrev mC_many : Nat := 124
abbrev mJInteger_bitCount : Nat := 125
abbrev mC_keep : Nat := 126
abbrev mC_again : Nat := 127
abbrev mM_init : Nat := 128
abbrev mM_feed : Nat := 129
abbrev mM_in : Nat := 130
abbrev mM_plain : Nat := 131
abbrev mM_advance : Nat := 132
abbrev mM_byteAt : Nat := 133
abbrev mM_isLetter : Nat := 134
abbrev mM_isDigit : Nat := 135
abbrev mM_wantClause : Nat := 136
abbrev mM_isWord : Nat := 137
abbrev mM_wantPerson : Nat := 138
abbrev mM_wantNumber : Nat := 139
abbrev mM_takes : Nat := 140
abbrev mM_wantEnd : Nat := 141
abbrev mM_isMark : Nat := 142
abbrev mM_wantWind : Nat := 143
abbrev mM_directionHere : Nat := 144
abbrev mM_kindHere : Nat := 145
abbrev mM_wantHat : Nat := 146
abbrev mM_turnsInto : Nat := 147
abbrev mM_windOf : Nat := 148
abbrev mM_isHour : Nat := 149
abbrev mM_wind : Nat := 150
abbrev mM_isWind : Nat := 151
abbrev mM_person : Nat := 152
abbrev mM_isPlace : Nat := 153
abbrev mM_personOf : Nat := 154
abbrev mM_isPerson : Nat := 155
abbrev mM_ownedBy : Nat := 156
abbrev mM_its : Nat := 157
abbrev mM_wornBy : Nat := 158
abbrev mM_moves : Nat := 159
abbrev mM_speed : Nat := 160
abbrev mM_hat : Nat := 161
abbrev mM_hatOf : Nat := 162
abbrev mM_isHat : Nat := 163
abbrev mM_orNot : Nat := 164
abbrev mM_placeOf : Nat := 165
abbrev mM_holds : Nat := 166
abbrev mM_flies : Nat := 167
abbrev mM_make : Nat := 168
abbrev mM_puts : Nat := 169
abbrev mM_isLying : Nat := 170
abbrev mM_down : Nat := 171
abbrev mM_lays : Nat := 172
abbrev mM_becomes : Nat := 173
abbrev mM_found : Nat := 174
abbrev mM_isGone : Nat := 175
abbrev mM_bow : Nat := 176
abbrev mM_hours : Nat := 177
abbrev mM_isTrial : Nat := 178
abbrev mM_go : Nat := 179
abbrev mM_hourGoes : Nat := 180
abbrev mM_blows : Nat := 181
abbrev mM_runs : Nat := 182
abbrev mM_apart : Nat := 183
abbrev mM_stepTo : Nat := 184
abbrev mM_clock : Nat := 185
abbrev mM_owns : Nat := 186
abbrev mM_ownsThen : Nat := 187
abbrev mM_lends : Nat := 188
abbrev mM_where : Nat := 189
abbrev mM_wears : Nat := 190
abbrev mM_lost : Nat := 191
abbrev mM_master : Nat := 192
abbrev mM_wish : Nat := 193
abbrev mM_isSoon : Nat := 194
abbrev mM_start : Nat := 195
abbrev mM_tie : Nat := 196
abbrev mM_calm : Nat := 197
abbrev mM_isAllWorn : Nat := 198
abbrev mM_seed : Nat := 199
abbrev mM_draw : Nat := 200
abbrev mM_prove : Nat := 201
abbrev mM_findRows : Nat := 202
abbrev mM_goneSet : Nat := 203
abbrev mM_row : Nat := 204
abbrev mM_isRow : Nat := 205
abbrev mM_alterRow : Nat := 206
abbrev mM_judge : Nat := 207
abbrev mM_winds : Nat := 208
abbrev mM_isShelf : Nat := 209
abbrev mM_lacksSort : Nat := 210
abbrev mM_sheet : Nat := 211
abbrev mM_put : Nat := 212
abbrev mM_item : Nat := 213
abbrev mM_shelf : Nat := 214
abbrev mM_isHeld : Nat := 215
abbrev mM_taken : Nat := 216
abbrev mM_kindOn : Nat := 217
abbrev mM_isUnder : Nat := 218
abbrev mM_act : Nat := 219
abbrev mM_holdsIt : Nat := 220
abbrev mM_strawHolds : Nat := 221
abbrev mM_ran : Nat := 222
abbrev mM_plainHolds : Nat := 223
abbrev mM_fliesIt : Nat := 224
abbrev mM_plainFlies : Nat := 225
abbrev mM_sharesIt : Nat := 226
abbrev mM_plainShares : Nat := 227
abbrev mM_tellsIt : Nat := 228
abbrev mM_plainTells : Nat := 229
abbrev mM_trace : Nat := 230
abbrev mM_many : Nat := 231
abbrev mM_keep : Nat := 232
abbrev mM_moveAll : Nat := 233
abbrev mM_moveRow : Nat := 234
abbrev mM_again : Nat := 235
abbrev mL_law : Nat := 236
def hk_dft (t k : Nat) : Value := defaultValue (hk_ty t k)
def hk_ev (h h' : hk_Hp) : Prop := h.1 = h'.1 ∧ ∀ a, (h.2 a).1 = (h'.2 a).1 ∧ (h.2 a).2.1 = (h'.2 a).2.1 ∧ ∀ k, k < (h.2 a).2.1 → (h.2 a).2.2 k = (h'.2 a).2.2 k
def hk_qe (Q : hk_Q) : hk_Q := fun r h => ∃ h', hk_ev h h' ∧ Q r h'
theorem hk_ev_rf (h : hk_Hp) : hk_ev h h := ⟨rfl, fun _ => ⟨rfl, rfl, fun _ _ => rfl⟩⟩
theorem hk_qe_of {Q : hk_Q} {r : Option Value} {h : hk_Hp} (q : Q r h) : hk_qe Q r h := ⟨h, hk_ev_rf h, q⟩
def hk_call : Nat → hk_C
  | 0 => fun _ _ _ _ => False
  | d + 1 => fun M as h Q => match hk_nth hk_bds M with
    | none => False
    | some (cd, rt, C, S, mx) => bif Nat.ble (hk_cs as) mx then hk_ent 0 as (fun ls => hk_wp rt C S hk_dft cd (hk_call d) (hk_qe Q) 0 ls [] h 0 0) else False
theorem hk_ent_m {K K' : hk_Ls → Prop} (h : ∀ l, K l → K' l) : ∀ (as : List Value) (i : Nat), hk_ent i as K → hk_ent i as K'
  | [], _, g => h _ g
  | v :: vs, i, g => by
    unfold hk_ent at g ⊢
    cases hb : Nat.beq v.category 2
    · rw [hb] at g; exact hk_ent_m (fun l => h _) vs _ g
    · rw [hb] at g; exact hk_ent_m (fun l => h _) vs _ g
theorem hk_ent_eq : ∀ (as : List Value) (i : Nat) (K : hk_Ls → Prop), hk_ent i as K = K (lv_args i as)
  | [], _, _ => rfl
  | v :: vs, i, K => by
    unfold hk_ent lv_args
    cases hb : Nat.beq v.category 2
    · rw [if_neg (by have := Nat.ne_of_beq_eq_false hb; exact this)]; exact hk_ent_eq vs _ _
    · rw [if_pos (Nat.eq_of_beq_eq_true hb)]; exact hk_ent_eq vs _ _
theorem hk_call_m : ∀ d, hk_cm (hk_call d)
  | 0 => fun _ _ _ _ _ _ g => g
  | d + 1 => fun M as h Q Q' hQ g => by
    unfold hk_call at g ⊢
    cases hb : hk_nth hk_bds M with
    | none => rw [hb] at g; exact g
    | some e =>
      rw [hb] at g
      exact hk_bif_m (hk_ent_m (fun l q => hk_wp_m (hk_call_m d) (fun r h ⟨h', a, b⟩ => ⟨h', a, hQ _ _ b⟩) q) _ _) g
abbrev hk_D : Type := Int64 × (Nat → Int64) × Nat × (Nat → Nat) × (Nat → Option Nat) × (Nat → Option Nat) × Nat × (Nat → Int32)

def hk_tab : List (Nat × Nat × (Nat × Nat) × List (Nat × Nat)) := [
  (7, 12, (0, 0), [(1, 39), (1, 55), (1, 71), (0, 0), (0, 0), (0, 0), (1, 87), (1, 89), (0, 0), (1, 90), (1, 91), (1, 92)]),
  (3, 7, (0, 0), [(1, 40), (1, 41), (1, 42), (1, 43), (0, 0), (0, 0), (0, 0)]),
  (10, 24, (0, 0), []),
  (10, 24, (0, 0), []),
  (13, 5, (2, 44), []),
  (14, 6, (2, 49), []),
  (2, 2, (0, 0), [(0, 0), (0, 0)]),
  (2, 2, (0, 0), [(0, 0), (0, 0)]),
  (2, 2, (0, 0), [(0, 0), (0, 0)]),
  (2, 2, (0, 0), [(0, 0), (0, 0)]),
  (2, 2, (0, 0), [(0, 0), (0, 0)]),
  (1, 5, (0, 0), [(0, 0), (0, 0), (0, 0), (0, 0), (0, 0)]),
  (1, 5, (0, 0), [(0, 0), (0, 0), (0, 0), (0, 0), (0, 0)]),
  (1, 5, (0, 0), [(0, 0), (0, 0), (0, 0), (0, 0), (0, 0)]),
  (1, 5, (0, 0), [(0, 0), (0, 0), (0, 0), (0, 0), (0, 0)]),
  (1, 5, (0, 0), [(0, 0), (0, 0), (0, 0), (0, 0), (0, 0)]),
  (1, 5, (0, 0), [(0, 0), (0, 0), (0, 0), (0, 0), (0, 0)]),
  (3, 7, (0, 0), [(1, 56), (1, 57), (1, 58), (1, 59), (0, 0), (0, 0), (0, 0)]),
  (10, 24, (0, 0), []),
  (10, 24, (0, 0), []),
  (13, 5, (2, 60), []),
  (14, 6, (2, 65), []),
  (2, 2, (0, 0), [(0, 0), (0, 0)]),
  (2, 2, (0, 0), [(0, 0), (0, 0)]),
  (2, 2, (0, 0), [(0, 0), (0, 0)]),
  (2, 2, (0, 0), [(0, 0), (0, 0)]),
  (2, 2, (0, 0), [(0, 0), (0, 0)]),
  (1, 5, (0, 0), [(0, 0), (0, 0), (0, 0), (0, 0), (0, 0)]),
  (1, 5, (0, 0), [(0, 0), (0, 0), (0, 0), (0, 0), (0, 0)]),
  (1, 5, (0, 0), [(0, 0), (0, 0), (0, 0), (0, 0), (0, 0)]),
  (1, 5, (0, 0), [(0, 0), (0, 0), (0, 0), (0, 0), (0, 0)]),
  (1, 5, (0, 0), [(0, 0), (0, 0), (0, 0), (0, 0), (0, 0)]),
  (1, 5, (0, 0), [(0, 0), (0, 0), (0, 0), (0, 0), (0, 0)]),
  (3, 7, (0, 0), [(1, 72), (1, 73), (1, 74), (1, 75), (0, 0), (0, 0), (0, 0)]),
  (10, 24, (0, 0), []),
  (10, 24, (0, 0), []),
  (13, 5, (2, 76), []),
  (14, 6, (2, 81), []),
  (2, 2, (0, 0), [(0, 0), (0, 0)]),
  (2, 2, (0, 0), [(0, 0), (0, 0)]),
  (2, 2, (0, 0), [(0, 0), (0, 0)]),
  (2, 2, (0, 0), [(0, 0), (0, 0)]),
  (2, 2, (0, 0), [(0, 0), (0, 0)]),
  (1, 5, (0, 0), [(0, 0), (0, 0), (0, 0), (0, 0), (0, 0)]),
  (1, 5, (0, 0), [(0, 0), (0, 0), (0, 0), (0, 0), (0, 0)]),
  (1, 5, (0, 0), [(0, 0), (0, 0), (0, 0), (0, 0), (0, 0)]),
  (1, 5, (0, 0), [(0, 0), (0, 0), (0, 0), (0, 0), (0, 0)]),
  (1, 5, (0, 0), [(0, 0), (0, 0), (0, 0), (0, 0), (0, 0)]),
  (1, 5, (0, 0), [(0, 0), (0, 0), (0, 0), (0, 0), (0, 0)]),
  (6, 6, (0, 0), [(1, 88), (0, 0), (0, 0), (0, 0), (0, 0), (0, 0)]),
  (12, 200, (0, 0), []),
  (10, 60, (0, 0), []),
  (15, 4, (5, 0), []),
  (16, 4, (2, 94), []),
  (0, 6, (0, 0), [(1, 93), (0, 0), (0, 0), (0, 0), (0, 0), (0, 0)]),
  (10, 30, (0, 0), []),
  (5, 2, (0, 0), [(0, 0), (6, 0)]),
  (5, 2, (0, 0), [(0, 0), (6, 1)]),
  (5, 2, (0, 0), [(0, 0), (6, 2)]),
  (5, 2, (0, 0), [(0, 0), (6, 3)]),
  (8, 51, (0, 0), [(1, 99), (1, 100), (0, 0), (1, 101), (0, 0), (1, 102), (1, 103), (1, 104), (1, 105), (0, 0), (0, 0), (1, 106), (0, 0), (0, 0), (0, 0), (0, 0), (3, 0), (0, 0), (0, 0), (0, 0), (0, 0), (0, 0), (1, 107), (1, 108), (1, 109), (1, 110), (1, 111), (1, 112), (1, 113), (1, 114), (1, 115), (1, 116), (1, 117), (0, 0), (0, 0), (1, 118), (1, 119), (1, 120), (1, 121), (1, 122), (1, 123), (0, 0), (0, 0), (0, 0), (1, 124), (0, 0), (0, 0), (0, 0), (1, 125), (0, 0), (1, 126)]),
  (10, 24, (0, 0), []),
  (10, 24, (0, 0), []),
  (10, 5, (0, 0), []),
  (10, 6, (0, 0), []),
  (10, 6, (0, 0), []),
  (10, 6, (0, 0), []),
  (10, 36, (0, 0), []),
  (10, 200, (0, 0), []),
  (10, 5, (0, 0), []),
  (10, 5, (0, 0), []),
  (10, 6, (0, 0), []),
  (10, 6, (0, 0), []),
  (10, 6, (0, 0), []),
  (10, 6, (0, 0), []),
  (10, 6, (0, 0), []),
  (10, 24, (0, 0), []),
  (10, 24, (0, 0), []),
  (10, 60, (0, 0), []),
  (10, 60, (0, 0), []),
  (10, 4, (0, 0), []),
  (10, 4, (0, 0), []),
  (11, 160, (4, 0), []),
  (10, 4, (0, 0), []),
  (10, 4, (0, 0), []),
  (10, 4, (0, 0), []),
  (10, 30, (0, 0), []),
  (10, 100, (0, 0), []),
  (10, 3, (0, 0), [])]
def hk_knd (dk : Nat × Nat) (ks : List (Nat × Nat)) (k : Nat) : Nat × Nat := match ks with
  | [] => dk
  | q :: l => match hk_nth (q :: l) k with
    | some q => q
    | none => dk
def hk_rr (o : Option Nat) : Value := match o with
  | none => .null
  | some j => .ref (127 + 2 * j)
def hk_kv (R : Nat → Nat → Int32) (X : hk_D) (a k : Nat) (q : Nat × Nat) : Value := match q with
  | (0, _) => .int (R a k)
  | (1, b) => .ref b
  | (2, b) => .ref (b + k)
  | (3, _) => .long X.1
  | (4, _) => .long (X.2.1 k)
  | (5, _) => hk_rr (X.2.2.2.2.1 k)
  | (_, b) => hk_rr (X.2.2.2.2.2.1 b)
def hk_nd (l : List Int32) (k : Nat) : Int32 := match hk_nth l k with
  | some x => x
  | none => 0
def hk_ext (X : hk_D) (a : Nat) : hk_Ce := match hk_nth [
  ((10, X.2.2.2.2.2.2.1, fun k => .int (X.2.2.2.2.2.2.2 k)) : hk_Ce),
  (10, 6, fun k => .int (hk_nd [0, 0, 0, 1, 2, 0] k)),
  (10, 24, fun k => .int (hk_nd [10, 11, 12, 13, 10, 20, 12, 13, 30, 11, 12, 31, 51, 20, 50, 13, 40, 41, 12, 31, 10, 11, 61, 60] k)),
  (99, 0, fun _ => .null),
  (9, 2, fun k => match k with | 0 => .ref 21 | _ => .int 0),
  (9, 2, fun k => match k with | 0 => .ref 22 | _ => .int 0),
  (9, 2, fun k => match k with | 0 => .ref 23 | _ => .int 0),
  (9, 2, fun k => match k with | 0 => .ref 24 | _ => .int 0),
  (9, 2, fun k => match k with | 0 => .ref 25 | _ => .int 0),
  (9, 2, fun k => match k with | 0 => .ref 26 | _ => .int 0),
  (9, 2, fun k => match k with | 0 => .ref 27 | _ => .int 0),
  (9, 2, fun k => match k with | 0 => .ref 28 | _ => .int 0),
  (9, 2, fun k => match k with | 0 => .ref 29 | _ => .int 0),
  (9, 2, fun k => match k with | 0 => .ref 30 | _ => .int 0),
  (9, 2, fun k => match k with | 0 => .ref 31 | _ => .int 0),
  (9, 2, fun k => match k with | 0 => .ref 32 | _ => .int 0),
  (9, 2, fun k => match k with | 0 => .ref 33 | _ => .int 0),
  (9, 2, fun k => match k with | 0 => .ref 34 | _ => .int 0),
  (9, 2, fun k => match k with | 0 => .ref 35 | _ => .int 0),
  (9, 2, fun k => match k with | 0 => .ref 36 | _ => .int 0),
  (9, 2, fun k => match k with | 0 => .ref 37 | _ => .int 0),
  (12, 3, fun k => .int (hk_nd [104, 97, 116] k)),
  (12, 6, fun k => .int (hk_nd [112, 105, 110, 110, 101, 100] k)),
  (12, 5, fun k => .int (hk_nd [115, 116, 114, 97, 119] k)),
  (12, 4, fun k => .int (hk_nd [116, 105, 101, 100] k)),
  (12, 9, fun k => .int (hk_nd [102, 101, 97, 116, 104, 101, 114, 101, 100] k)),
  (12, 4, fun k => .int (hk_nd [102, 101, 108, 116] k)),
  (12, 5, fun k => .int (hk_nd [119, 111, 114, 116, 104] k)),
  (12, 2, fun k => .int (hk_nd [111, 102] k)),
  (12, 2, fun k => .int (hk_nd [111, 110] k)),
  (12, 6, fun k => .int (hk_nd [112, 101, 114, 115, 111, 110] k)),
  (12, 5, fun k => .int (hk_nd [115, 112, 101, 101, 100] k)),
  (12, 4, fun k => .int (hk_nd [119, 105, 110, 100] k)),
  (12, 5, fun k => .int (hk_nd [110, 111, 114, 116, 104] k)),
  (12, 4, fun k => .int (hk_nd [101, 97, 115, 116] k)),
  (12, 5, fun k => .int (hk_nd [115, 111, 117, 116, 104] k)),
  (12, 4, fun k => .int (hk_nd [119, 101, 115, 116] k)),
  (12, 3, fun k => .int (hk_nd [110, 111, 119] k))] a with
  | some c => c
  | none => (99, 0, fun _ => .null)
def hk_fix (R : Nat → Nat → Int32) (X : hk_D) (a : Nat) : hk_Ce := match hk_nth hk_tab (a - 38) with
  | some (t, n, dk, ks) => (t, n, fun k => hk_kv R X a k (hk_knd dk ks k))
  | none => (99, 0, fun _ => .null)
def hk_row (R : Nat → Nat → Int32) (X : hk_D) (a : Nat) : hk_Ce :=
  bif Nat.ble (127 + 2 * X.2.2.1) a then (99, 0, fun _ => .null) else
  bif Nat.beq ((a - 127) % 2) 0 then (4, 2, fun k => match k with | 0 => .int (R a 0) | _ => .ref (a + 1)) else (10, X.2.2.2.1 ((a - 127) / 2), fun k => .int (R a k))
def hw (R : Nat → Nat → Int32) (X : hk_D) : hk_Hp := (127 + 2 * X.2.2.1, fun a => bif Nat.ble a 37 then hk_ext X a else bif Nat.ble a 126 then hk_fix R X a else hk_row R X a)
def up2 (R : Nat → Nat → Int32) (a k : Nat) (v : Int32) : Nat → Nat → Int32 := fun b j => if b = a ∧ j = k then v else R b j
end
section
/-! which words stand behind the instructions, by their places in lw_tbl -/
def hk_mt : List (MethodName × ByteArray × Nat × Nat × Nat) := [
  (⟨"HatFields", "<init>", "()V"⟩, prog_1_method_1_code, 2, 7, 1021),
  (⟨"HatFields$Plain", "<init>", "()V"⟩, prog_5_method_1_code, 2, 3, 1029),
  (⟨"HatFields$Person", "<init>", "()V"⟩, prog_4_method_1_code, 1, 2, 1038),
  (⟨"HatFields$Hat", "<init>", "()V"⟩, prog_3_method_1_code, 1, 1, 1055),
  (⟨"HatFields$Tape", "<init>", "()V"⟩, prog_8_method_1_code, 1, 6, 1119),
  (⟨"HatFields$Actor", "<init>", "()V"⟩, prog_2_method_1_code, 1, 0, 1150),
  (⟨"HatFields$Shelf", "<init>", "()V"⟩, prog_7_method_1_code, 1, 5, 1176),
  (⟨"HatFields", "feed", "(JI)I"⟩, prog_1_method_2_code, 5, 7, 1227),
  (⟨"HatFields$Tape", "room", "()I"⟩, prog_8_method_2_code, 1, 6, 1231),
  (⟨"HatFields$Tape", "take", "(B)V"⟩, prog_8_method_3_code, 2, 6, 1235),
  (⟨"HatFields", "plain", "()I"⟩, prog_1_method_3_code, 2, 7, 1239),
  (⟨"HatFields$Tape", "tellTo", "(LHatFields$Plain;)I"⟩, prog_8_method_4_code, 3, 6, 2003),
  (⟨"HatFields$Plain", "clear", "()V"⟩, prog_5_method_2_code, 1, 3, 2007),
  (⟨"HatFields$Plain", "stillWinds", "()V"⟩, prog_5_method_3_code, 2, 3, 2011),
  (⟨"HatFields$Plain", "setWind", "(III)V"⟩, prog_5_method_7_code, 4, 3, 2015),
  (⟨"HatFields$Tape", "step", "()V"⟩, prog_8_method_16_code, 1, 6, 2019),
  (⟨"HatFields$Tape", "sortAt", "(I)I"⟩, prog_8_method_17_code, 2, 6, 2023),
  (⟨"HatFields$Tape", "readOne", "(LHatFields$Plain;)V"⟩, prog_8_method_5_code, 3, 6, 2027),
  (⟨"HatFields$Tape", "kindNamed", "()I"⟩, prog_8_method_9_code, 1, 6, 2031),
  (⟨"HatFields$Tape", "spells", "(Ljava/lang/String;)Z"⟩, prog_8_method_11_code, 3, 6, 2036),
  (⟨"java/lang/String", "length", "()I"⟩, prog_13_method_54_code, 1, 9, 2040),
  (⟨"java/lang/String", "coder", "()B"⟩, prog_13_method_152_code, 1, 9, 2044),
  (⟨"java/lang/String", "charAt", "(I)C"⟩, prog_13_method_56_code, 2, 9, 2050),
  (⟨"java/lang/String", "isLatin1", "()Z"⟩, prog_13_method_154_code, 1, 9, 2054),
  (⟨"java/lang/StringLatin1", "charAt", "([BI)C"⟩, prog_14_method_2_code, 2, 11, 2057),
  (⟨"java/lang/String", "checkIndex", "(II)V"⟩, prog_13_method_155_code, 2, 9, 2060),
  (⟨"jdk/internal/util/Preconditions", "checkIndex", "(IILjava/util/function/BiFunction;)I"⟩, prog_17_method_11_code, 3, 12, 2065),
  (⟨"HatFields$Tape", "readHat", "(LHatFields$Plain;I)V"⟩, prog_8_method_7_code, 5, 6, 2093),
  (⟨"HatFields$Tape", "number", "(I)I"⟩, prog_8_method_13_code, 4, 6, 2097),
  (⟨"HatFields$Tape", "fail", "()V"⟩, prog_8_method_15_code, 1, 6, 2101),
  (⟨"HatFields$Tape", "word", "(Ljava/lang/String;)V"⟩, prog_8_method_12_code, 2, 6, 2106),
  (⟨"HatFields$Plain", "addHat", "(III)I"⟩, prog_5_method_9_code, 4, 3, 2110),
  (⟨"HatFields$Hat", "become", "(II)V"⟩, prog_3_method_3_code, 3, 1, 2114),
  (⟨"HatFields$Hat", "goOn", "(I)V"⟩, prog_3_method_4_code, 2, 1, 2119),
  (⟨"HatFields$Hat", "lieIn", "(I)V"⟩, prog_3_method_5_code, 2, 1, 2124),
  (⟨"HatFields$Tape", "semicolon", "()V"⟩, prog_8_method_14_code, 1, 6, 2128),
  (⟨"HatFields$Tape", "readPerson", "(LHatFields$Plain;)V"⟩, prog_8_method_6_code, 4, 6, 2133),
  (⟨"HatFields$Plain", "addPerson", "(II)I"⟩, prog_5_method_8_code, 3, 3, 2138),
  (⟨"HatFields$Tape", "readWind", "(LHatFields$Plain;)V"⟩, prog_8_method_8_code, 4, 6, 2143),
  (⟨"HatFields$Tape", "directionNamed", "()I"⟩, prog_8_method_10_code, 1, 6, 2147),
  (⟨"HatFields$Plain", "copyFrom", "(LHatFields$Plain;)V"⟩, prog_5_method_4_code, 3, 3, 2157),
  (⟨"HatFields$Person", "copyFrom", "(LHatFields$Person;)V"⟩, prog_4_method_2_code, 2, 2, 2164),
  (⟨"HatFields$Hat", "copyFrom", "(LHatFields$Hat;)V"⟩, prog_3_method_2_code, 2, 1, 2168),
  (⟨"HatFields", "wind", "(III)I"⟩, prog_1_method_4_code, 5, 7, 2172),
  (⟨"HatFields", "isBelow", "(II)Z"⟩, prog_1_method_45_code, 2, 7, 2175),
  (⟨"HatFields$Plain", "windIn", "(I)I"⟩, prog_5_method_6_code, 2, 3, 2179),
  (⟨"HatFields", "windOf", "(I)I"⟩, prog_1_method_5_code, 2, 7, 2184),
  (⟨"HatFields", "person", "(II)I"⟩, prog_1_method_6_code, 3, 7, 2188),
  (⟨"HatFields", "personOf", "(II)I"⟩, prog_1_method_7_code, 3, 7, 2193),
  (⟨"HatFields", "isPerson", "(I)Z"⟩, prog_1_method_48_code, 2, 7, 2197),
  (⟨"HatFields$Plain", "ownedBy", "(I)I"⟩, prog_5_method_11_code, 4, 3, 2201),
  (⟨"HatFields$Plain", "wornBy", "(I)I"⟩, prog_5_method_12_code, 4, 3, 2205),
  (⟨"HatFields", "moves", "(II)I"⟩, prog_1_method_8_code, 4, 7, 2209),
  (⟨"HatFields", "speed", "(II)I"⟩, prog_1_method_9_code, 4, 7, 2213),
  (⟨"HatFields", "hat", "(IIII)I"⟩, prog_1_method_10_code, 6, 7, 2217),
  (⟨"HatFields", "hatOf", "(II)I"⟩, prog_1_method_11_code, 4, 7, 2223),
  (⟨"HatFields", "isHat", "(I)Z"⟩, prog_1_method_49_code, 2, 7, 2227),
  (⟨"HatFields$Plain", "placeOf", "(I)I"⟩, prog_5_method_10_code, 3, 3, 2231),
  (⟨"HatFields$Hat", "isWorn", "()Z"⟩, prog_3_method_6_code, 1, 1, 2235),
  (⟨"HatFields$Hat", "firmness", "()I"⟩, prog_3_method_10_code, 2, 1, 2239),
  (⟨"HatFields$Plain", "hour", "()I"⟩, prog_5_method_5_code, 1, 3, 3006),
  (⟨"HatFields$Hat", "flight", "(I)I"⟩, prog_3_method_11_code, 4, 1, 3010),
  (⟨"HatFields", "make", "(III)I"⟩, prog_1_method_12_code, 5, 7, 3014),
  (⟨"HatFields", "puts", "(II)I"⟩, prog_1_method_13_code, 4, 7, 3019),
  (⟨"HatFields$Hat", "lies", "()Z"⟩, prog_3_method_7_code, 1, 1, 3023),
  (⟨"HatFields", "down", "(I)I"⟩, prog_1_method_14_code, 3, 7, 3028),
  (⟨"HatFields", "found", "(II)I"⟩, prog_1_method_15_code, 3, 7, 3033),
  (⟨"HatFields$Hat", "isGone", "()Z"⟩, prog_3_method_8_code, 1, 1, 3037),
  (⟨"HatFields", "bow", "(II)I"⟩, prog_1_method_16_code, 3, 7, 3041),
  (⟨"HatFields$Plain", "swapHats", "(II)I"⟩, prog_5_method_16_code, 6, 3, 3045),
  (⟨"HatFields", "hours", "(I)I"⟩, prog_1_method_17_code, 2, 7, 3050),
  (⟨"HatFields", "isTrialLength", "(I)Z"⟩, prog_1_method_46_code, 1, 7, 3053),
  (⟨"HatFields$Plain", "passHours", "(I)V"⟩, prog_5_method_17_code, 3, 3, 3057),
  (⟨"HatFields$Plain", "passHour", "()V"⟩, prog_5_method_18_code, 3, 3, 3061),
  (⟨"HatFields$Plain", "blow", "(II)V"⟩, prog_5_method_19_code, 5, 3, 3066),
  (⟨"HatFields$Hat", "fly", "(II)V"⟩, prog_3_method_12_code, 5, 1, 3075),
  (⟨"HatFields$Plain", "runForNearest", "(I)V"⟩, prog_5_method_20_code, 4, 3, 3080),
  (⟨"HatFields$Plain", "nearestTo", "(I)I"⟩, prog_5_method_21_code, 7, 3, 3084),
  (⟨"HatFields$Person", "runTo", "(I)V"⟩, prog_4_method_3_code, 4, 2, 3091),
  (⟨"HatFields$Person", "atMost", "(II)I"⟩, prog_4_method_4_code, 2, 2, 3094),
  (⟨"HatFields$Plain", "putOnAll", "(II)V"⟩, prog_5_method_22_code, 4, 3, 3103),
  (⟨"HatFields", "clock", "(I)I"⟩, prog_1_method_18_code, 3, 7, 3107),
  (⟨"HatFields", "owns", "(II)I"⟩, prog_1_method_19_code, 3, 7, 3111),
  (⟨"HatFields", "tryHours", "(I)V"⟩, prog_1_method_52_code, 2, 7, 3115),
  (⟨"HatFields", "where", "(II)I"⟩, prog_1_method_20_code, 3, 7, 3119),
  (⟨"HatFields", "wears", "(II)I"⟩, prog_1_method_21_code, 3, 7, 3123),
  (⟨"HatFields", "lost", "(I)I"⟩, prog_1_method_22_code, 3, 7, 3127),
  (⟨"HatFields", "master", "(I)I"⟩, prog_1_method_23_code, 4, 7, 3131),
  (⟨"HatFields", "wish", "(II)I"⟩, prog_1_method_24_code, 3, 7, 3135),
  (⟨"HatFields", "isPlanLength", "(I)Z"⟩, prog_1_method_47_code, 1, 7, 3138),
  (⟨"HatFields", "bestFor", "(IIII)I"⟩, prog_1_method_53_code, 9, 7, 3142),
  (⟨"HatFields", "changeTrial", "(III)V"⟩, prog_1_method_54_code, 4, 7, 3146),
  (⟨"HatFields", "start", "(II)I"⟩, prog_1_method_25_code, 3, 7, 3150),
  (⟨"HatFields", "tie", "(II)I"⟩, prog_1_method_26_code, 3, 7, 3154),
  (⟨"HatFields", "calm", "()I"⟩, prog_1_method_27_code, 2, 7, 3158),
  (⟨"HatFields$Plain", "anyLies", "()Z"⟩, prog_5_method_15_code, 2, 3, 3163),
  (⟨"HatFields", "seed", "(I)I"⟩, prog_1_method_28_code, 3, 7, 3168),
  (⟨"HatFields", "draw", "(I)I"⟩, prog_1_method_29_code, 2, 7, 3172),
  (⟨"HatFields", "prove", "(I)I"⟩, prog_1_method_30_code, 3, 7, 3177),
  (⟨"HatFields$Plain", "allWorn", "()I"⟩, prog_5_method_13_code, 3, 3, 3181),
  (⟨"HatFields$Plain", "allGone", "()I"⟩, prog_5_method_14_code, 3, 3, 3185),
  (⟨"HatFields", "row", "(II)I"⟩, prog_1_method_31_code, 3, 7, 3190),
  (⟨"HatFields", "isRowPart", "(II)Z"⟩, prog_1_method_50_code, 3, 7, 3194),
  (⟨"HatFields", "alterRow", "(III)I"⟩, prog_1_method_32_code, 5, 7, 3198),
  (⟨"HatFields", "judge", "()I"⟩, prog_1_method_33_code, 2, 7, 3202),
  (⟨"HatFields", "isRowOfTrial", "(I)Z"⟩, prog_1_method_51_code, 2, 7, 3206),
  (⟨"HatFields", "winds", "(IIII)I"⟩, prog_1_method_34_code, 7, 7, 3210),
  (⟨"HatFields", "sheet", "(III)I"⟩, prog_1_method_35_code, 4, 7, 3216),
  (⟨"HatFields$Row", "<init>", "(II)V"⟩, prog_6_method_1_code, 3, 4, 3220),
  (⟨"HatFields", "put", "(III)I"⟩, prog_1_method_36_code, 5, 7, 3234),
  (⟨"HatFields$Row", "narrowed", "(I)I"⟩, prog_6_method_2_code, 2, 4, 3238),
  (⟨"HatFields", "item", "(III)I"⟩, prog_1_method_37_code, 5, 7, 4002),
  (⟨"HatFields", "shelf", "(III)I"⟩, prog_1_method_38_code, 4, 7, 4006),
  (⟨"HatFields$Shelf", "takeHat", "(I)V"⟩, prog_7_method_2_code, 2, 5, 4010),
  (⟨"HatFields$Shelf", "takeRow", "(LHatFields$Row;)V"⟩, prog_7_method_3_code, 2, 5, 4014),
  (⟨"HatFields", "taken", "(II)I"⟩, prog_1_method_39_code, 7, 7, 4018),
  (⟨"HatFields$Hat", "isOfKind", "(I)Z"⟩, prog_3_method_9_code, 2, 1, 4022),
  (⟨"HatFields", "act", "(III)I"⟩, prog_1_method_40_code, 5, 7, 4028),
  (⟨"HatFields$Actor", "forget", "()V"⟩, prog_2_method_2_code, 1, 0, 4032),
  (⟨"HatFields$Actor", "perform", "(ILHatFields$Hat;II)I"⟩, prog_2_method_3_code, 6, 0, 4036),
  (⟨"HatFields$Actor", "run", "(IIII)I"⟩, prog_2_method_4_code, 7, 0, 4040),
  (⟨"HatFields$Actor", "begin", "(I)V"⟩, prog_2_method_6_code, 2, 0, 4046),
  (⟨"HatFields$Actor", "share", "(I)I"⟩, prog_2_method_5_code, 3, 0, 4050),
  (⟨"HatFields", "trace", "(I)I"⟩, prog_1_method_41_code, 2, 7, 4054),
  (⟨"HatFields", "many", "(I)I"⟩, prog_1_method_42_code, 2, 7, 4058),
  (⟨"java/lang/Integer", "bitCount", "(I)I"⟩, prog_11_method_49_code, 1, 14, 4061),
  (⟨"HatFields", "keep", "()I"⟩, prog_1_method_43_code, 1, 7, 4068),
  (⟨"HatFields", "again", "()I"⟩, prog_1_method_44_code, 1, 7, 4072),
  (⟨"HatFieldsModel", "<init>", "()V"⟩, prog_10_method_1_code, 1, 8, 4077),
  (⟨"HatFieldsModel", "feed", "(JI)I"⟩, prog_10_method_9_code, 5, 8, 4237),
  (⟨"HatFieldsModel", "in", "(III)Z"⟩, prog_10_method_2_code, 3, 8, 5000),
  (⟨"HatFieldsModel", "plain", "()I"⟩, prog_10_method_25_code, 2, 8, 5005),
  (⟨"HatFieldsModel", "advance", "()V"⟩, prog_10_method_13_code, 2, 8, 5009),
  (⟨"HatFieldsModel", "byteAt", "(I)I"⟩, prog_10_method_10_code, 2, 8, 5013),
  (⟨"HatFieldsModel", "isLetter", "(I)Z"⟩, prog_10_method_11_code, 1, 8, 5016),
  (⟨"HatFieldsModel", "isDigit", "(I)Z"⟩, prog_10_method_12_code, 1, 8, 5019),
  (⟨"HatFieldsModel", "wantClause", "()V"⟩, prog_10_method_24_code, 1, 8, 5026),
  (⟨"HatFieldsModel", "isWord", "(J)Z"⟩, prog_10_method_14_code, 3, 8, 5031),
  (⟨"HatFieldsModel", "wantPerson", "()V"⟩, prog_10_method_21_code, 3, 8, 5035),
  (⟨"HatFieldsModel", "wantNumber", "(II)I"⟩, prog_10_method_18_code, 4, 8, 5039),
  (⟨"HatFieldsModel", "takes", "(J)Z"⟩, prog_10_method_20_code, 4, 8, 5044),
  (⟨"HatFieldsModel", "wantEnd", "()V"⟩, prog_10_method_19_code, 1, 8, 5048),
  (⟨"HatFieldsModel", "isMark", "(I)Z"⟩, prog_10_method_15_code, 2, 8, 5052),
  (⟨"HatFieldsModel", "wantWind", "()V"⟩, prog_10_method_23_code, 4, 8, 5057),
  (⟨"HatFieldsModel", "directionHere", "()I"⟩, prog_10_method_17_code, 1, 8, 5061),
  (⟨"HatFieldsModel", "kindHere", "()I"⟩, prog_10_method_16_code, 1, 8, 5070),
  (⟨"HatFieldsModel", "wantHat", "(I)V"⟩, prog_10_method_22_code, 6, 8, 5080),
  (⟨"HatFieldsModel", "turnsInto", "()V"⟩, prog_10_method_26_code, 2, 8, 5087),
  (⟨"HatFieldsModel", "windOf", "(I)I"⟩, prog_10_method_27_code, 2, 8, 5091),
  (⟨"HatFieldsModel", "isHour", "(I)Z"⟩, prog_10_method_3_code, 1, 8, 5094),
  (⟨"HatFieldsModel", "wind", "(III)I"⟩, prog_10_method_29_code, 5, 8, 5098),
  (⟨"HatFieldsModel", "isWind", "(II)Z"⟩, prog_10_method_28_code, 2, 8, 5101),
  (⟨"HatFieldsModel", "person", "(II)I"⟩, prog_10_method_30_code, 3, 8, 5106),
  (⟨"HatFieldsModel", "isPlace", "(I)Z"⟩, prog_10_method_4_code, 1, 8, 5109),
  (⟨"HatFieldsModel", "personOf", "(II)I"⟩, prog_10_method_33_code, 3, 8, 5113),
  (⟨"HatFieldsModel", "isPerson", "(I)Z"⟩, prog_10_method_5_code, 2, 8, 5117),
  (⟨"HatFieldsModel", "ownedBy", "(I)I"⟩, prog_10_method_32_code, 4, 8, 5121),
  (⟨"HatFieldsModel", "its", "(I)I"⟩, prog_10_method_7_code, 2, 8, 5125),
  (⟨"HatFieldsModel", "wornBy", "(I)I"⟩, prog_10_method_31_code, 4, 8, 5129),
  (⟨"HatFieldsModel", "moves", "(II)I"⟩, prog_10_method_34_code, 4, 8, 5133),
  (⟨"HatFieldsModel", "speed", "(II)I"⟩, prog_10_method_35_code, 4, 8, 5137),
  (⟨"HatFieldsModel", "hat", "(IIII)I"⟩, prog_10_method_36_code, 5, 8, 5141),
  (⟨"HatFieldsModel", "hatOf", "(II)I"⟩, prog_10_method_41_code, 3, 8, 5145),
  (⟨"HatFieldsModel", "isHat", "(I)Z"⟩, prog_10_method_6_code, 2, 8, 5149),
  (⟨"HatFieldsModel", "orNot", "(I)I"⟩, prog_10_method_40_code, 1, 8, 5152),
  (⟨"HatFieldsModel", "placeOf", "(I)I"⟩, prog_10_method_39_code, 2, 8, 5156),
  (⟨"HatFieldsModel", "holds", "(I)I"⟩, prog_10_method_37_code, 2, 8, 5160),
  (⟨"HatFieldsModel", "flies", "(II)I"⟩, prog_10_method_38_code, 5, 8, 5164),
  (⟨"HatFieldsModel", "make", "(III)I"⟩, prog_10_method_42_code, 5, 8, 5168),
  (⟨"HatFieldsModel", "puts", "(II)I"⟩, prog_10_method_44_code, 3, 8, 5172),
  (⟨"HatFieldsModel", "isLying", "(I)Z"⟩, prog_10_method_43_code, 2, 8, 5176),
  (⟨"HatFieldsModel", "down", "(I)I"⟩, prog_10_method_46_code, 2, 8, 5180),
  (⟨"HatFieldsModel", "lays", "(I)V"⟩, prog_10_method_45_code, 2, 8, 5184),
  (⟨"HatFieldsModel", "becomes", "(II)V"⟩, prog_10_method_8_code, 3, 8, 5188),
  (⟨"HatFieldsModel", "found", "(II)I"⟩, prog_10_method_48_code, 3, 8, 5192),
  (⟨"HatFieldsModel", "isGone", "(I)Z"⟩, prog_10_method_47_code, 2, 8, 5196),
  (⟨"HatFieldsModel", "bow", "(II)I"⟩, prog_10_method_49_code, 6, 8, 5200),
  (⟨"HatFieldsModel", "hours", "(I)I"⟩, prog_10_method_57_code, 2, 8, 5204),
  (⟨"HatFieldsModel", "isTrial", "(I)Z"⟩, prog_10_method_56_code, 1, 8, 5207),
  (⟨"HatFieldsModel", "go", "(I)V"⟩, prog_10_method_55_code, 4, 8, 5211),
  (⟨"HatFieldsModel", "hourGoes", "(II)V"⟩, prog_10_method_54_code, 4, 8, 5215),
  (⟨"HatFieldsModel", "blows", "(II)V"⟩, prog_10_method_50_code, 7, 8, 5219),
  (⟨"HatFieldsModel", "runs", "(I)V"⟩, prog_10_method_53_code, 5, 8, 5223),
  (⟨"HatFieldsModel", "apart", "(II)I"⟩, prog_10_method_51_code, 4, 8, 5226),
  (⟨"HatFieldsModel", "stepTo", "(II)I"⟩, prog_10_method_52_code, 3, 8, 5229),
  (⟨"HatFieldsModel", "clock", "(I)I"⟩, prog_10_method_58_code, 3, 8, 5233),
  (⟨"HatFieldsModel", "owns", "(II)I"⟩, prog_10_method_61_code, 3, 8, 5237),
  (⟨"HatFieldsModel", "ownsThen", "(II)I"⟩, prog_10_method_60_code, 4, 8, 6001),
  (⟨"HatFieldsModel", "lends", "()V"⟩, prog_10_method_59_code, 2, 8, 6005),
  (⟨"HatFieldsModel", "where", "(II)I"⟩, prog_10_method_62_code, 4, 8, 6009),
  (⟨"HatFieldsModel", "wears", "(II)I"⟩, prog_10_method_63_code, 4, 8, 6013),
  (⟨"HatFieldsModel", "lost", "(I)I"⟩, prog_10_method_64_code, 4, 8, 6017),
  (⟨"HatFieldsModel", "master", "(I)I"⟩, prog_10_method_65_code, 4, 8, 6021),
  (⟨"HatFieldsModel", "wish", "(II)I"⟩, prog_10_method_67_code, 10, 8, 6025),
  (⟨"HatFieldsModel", "isSoon", "(I)Z"⟩, prog_10_method_66_code, 1, 8, 6028),
  (⟨"HatFieldsModel", "start", "(II)I"⟩, prog_10_method_68_code, 8, 8, 6032),
  (⟨"HatFieldsModel", "tie", "(II)I"⟩, prog_10_method_69_code, 9, 8, 6036),
  (⟨"HatFieldsModel", "calm", "()I"⟩, prog_10_method_71_code, 2, 8, 6040),
  (⟨"HatFieldsModel", "isAllWorn", "()Z"⟩, prog_10_method_70_code, 3, 8, 6044),
  (⟨"HatFieldsModel", "seed", "(I)I"⟩, prog_10_method_72_code, 3, 8, 6048),
  (⟨"HatFieldsModel", "draw", "(I)I"⟩, prog_10_method_73_code, 2, 8, 6052),
  (⟨"HatFieldsModel", "prove", "(I)I"⟩, prog_10_method_76_code, 3, 8, 6057),
  (⟨"HatFieldsModel", "findRows", "(I)V"⟩, prog_10_method_75_code, 4, 8, 6061),
  (⟨"HatFieldsModel", "goneSet", "()I"⟩, prog_10_method_74_code, 3, 8, 6065),
  (⟨"HatFieldsModel", "row", "(II)I"⟩, prog_10_method_78_code, 3, 8, 6069),
  (⟨"HatFieldsModel", "isRow", "(II)Z"⟩, prog_10_method_77_code, 3, 8, 6073),
  (⟨"HatFieldsModel", "alterRow", "(III)I"⟩, prog_10_method_79_code, 5, 8, 6077),
  (⟨"HatFieldsModel", "judge", "()I"⟩, prog_10_method_80_code, 4, 8, 6081),
  (⟨"HatFieldsModel", "winds", "(IIII)I"⟩, prog_10_method_81_code, 9, 8, 6085),
  (⟨"HatFieldsModel", "isShelf", "(I)Z"⟩, prog_10_method_82_code, 1, 8, 6088),
  (⟨"HatFieldsModel", "lacksSort", "(II)I"⟩, prog_10_method_85_code, 3, 8, 6092),
  (⟨"HatFieldsModel", "sheet", "(III)I"⟩, prog_10_method_83_code, 5, 8, 6097),
  (⟨"HatFieldsModel", "put", "(III)I"⟩, prog_10_method_84_code, 4, 8, 6101),
  (⟨"HatFieldsModel", "item", "(III)I"⟩, prog_10_method_86_code, 5, 8, 6105),
  (⟨"HatFieldsModel", "shelf", "(III)I"⟩, prog_10_method_88_code, 4, 8, 6109),
  (⟨"HatFieldsModel", "isHeld", "(II)Z"⟩, prog_10_method_87_code, 3, 8, 6113),
  (⟨"HatFieldsModel", "taken", "(II)I"⟩, prog_10_method_91_code, 4, 8, 6117),
  (⟨"HatFieldsModel", "kindOn", "(I)I"⟩, prog_10_method_89_code, 2, 8, 6121),
  (⟨"HatFieldsModel", "isUnder", "(II)Z"⟩, prog_10_method_90_code, 2, 8, 6124),
  (⟨"HatFieldsModel", "act", "(III)I"⟩, prog_10_method_102_code, 6, 8, 6128),
  (⟨"HatFieldsModel", "holdsIt", "(I)I"⟩, prog_10_method_95_code, 2, 8, 6132),
  (⟨"HatFieldsModel", "strawHolds", "(I)I"⟩, prog_10_method_94_code, 2, 8, 6136),
  (⟨"HatFieldsModel", "ran", "(I)V"⟩, prog_10_method_92_code, 2, 8, 6140),
  (⟨"HatFieldsModel", "plainHolds", "(I)I"⟩, prog_10_method_93_code, 2, 8, 6144),
  (⟨"HatFieldsModel", "fliesIt", "(I)I"⟩, prog_10_method_97_code, 3, 8, 6148),
  (⟨"HatFieldsModel", "plainFlies", "(I)I"⟩, prog_10_method_96_code, 2, 8, 6152),
  (⟨"HatFieldsModel", "sharesIt", "(I)I"⟩, prog_10_method_99_code, 3, 8, 6156),
  (⟨"HatFieldsModel", "plainShares", "(I)I"⟩, prog_10_method_98_code, 2, 8, 6160),
  (⟨"HatFieldsModel", "tellsIt", "(I)I"⟩, prog_10_method_101_code, 3, 8, 6164),
  (⟨"HatFieldsModel", "plainTells", "(I)I"⟩, prog_10_method_100_code, 2, 8, 6168),
  (⟨"HatFieldsModel", "trace", "(I)I"⟩, prog_10_method_103_code, 2, 8, 6172),
  (⟨"HatFieldsModel", "many", "(I)I"⟩, prog_10_method_104_code, 4, 8, 6176),
  (⟨"HatFieldsModel", "keep", "()I"⟩, prog_10_method_107_code, 1, 8, 6180),
  (⟨"HatFieldsModel", "moveAll", "(Z)V"⟩, prog_10_method_106_code, 2, 8, 6184),
  (⟨"HatFieldsModel", "moveRow", "([IIZ)V"⟩, prog_10_method_105_code, 5, 8, 6188),
  (⟨"HatFieldsModel", "again", "()I"⟩, prog_10_method_108_code, 1, 8, 6192),
  (⟨"HatFieldsLaw", "law", "([I)Z"⟩, code, 4, 10, 0)]
def hk_fL : List (Nat × Nat × Nat × Nat × Nat) := [
  (0, 11, 0, 0, 1152),
  (0, 15, 0, 1, 1154),
  (0, 19, 1, 0, 1058),
  (0, 24, 0, 2, 1156),
  (0, 25, 0, 3, 1157),
  (0, 28, 1, 1, 1061),
  (0, 31, 0, 4, 1158),
  (0, 32, 0, 5, 1159),
  (1, 9, 1, 3, 1066),
  (1, 15, 1, 4, 1069),
  (1, 18, 1, 0, 1057),
  (1, 21, 1, 1, 1060),
  (1, 24, 1, 2, 1063),
  (2, 9, 2, 0, 1040),
  (2, 15, 2, 1, 1043),
  (3, 9, 3, 0, 1083),
  (3, 15, 3, 1, 1084),
  (3, 20, 3, 2, 1086),
  (3, 26, 3, 3, 1088),
  (3, 35, 3, 4, 1091),
  (3, 39, 3, 5, 1094),
  (3, 42, 3, 6, 1097),
  (3, 62, 2, 0, 1042),
  (3, 65, 2, 1, 1045),
  (3, 72, 1, 2, 1064),
  (3, 79, 1, 3, 1067),
  (3, 82, 1, 4, 1070),
  (4, 9, 4, 0, 3222),
  (4, 15, 4, 1, 3224),
  (5, 9, 5, 0, 1178),
  (5, 13, 5, 1, 1180),
  (6, 9, 6, 0, 1121),
  (6, 15, 6, 1, 1122),
  (6, 19, 6, 4, 1126),
  (6, 22, 6, 5, 1127),
  (6, 33, 6, 2, 1124),
  (6, 44, 3, 5, 1096),
  (6, 57, 3, 4, 1092),
  (6, 74, 3, 6, 1098),
  (6, 94, 3, 3, 1089),
  (6, 142, 6, 3, 1125),
  (7, 10, 7, 0, 1187),
  (7, 16, 7, 1, 1188),
  (7, 19, 7, 2, 1189),
  (7, 22, 7, 4, 1191),
  (7, 29, 7, 6, 1193),
  (7, 33, 7, 7, 1194),
  (7, 39, 7, 9, 1196),
  (7, 45, 7, 10, 1197),
  (7, 52, 7, 11, 1198),
  (7, 65, 6, 1, 1123),
  (7, 76, 7, 8, 1195),
  (7, 79, 3, 5, 1095),
  (7, 94, 3, 4, 1093),
  (7, 105, 3, 2, 1087),
  (7, 109, 2, 0, 1041),
  (7, 114, 2, 1, 1044),
  (7, 127, 3, 3, 1090),
  (7, 140, 1, 0, 1059),
  (7, 143, 1, 1, 1062),
  (7, 146, 1, 2, 1065),
  (7, 149, 1, 3, 1068),
  (7, 158, 3, 1, 1085),
  (7, 175, 1, 4, 1071),
  (7, 196, 3, 6, 1099),
  (7, 231, 4, 0, 3223),
  (7, 234, 4, 1, 3225),
  (7, 257, 5, 0, 1179),
  (7, 260, 5, 1, 1181),
  (7, 274, 0, 1, 1155),
  (7, 277, 0, 0, 1153),
  (7, 285, 7, 5, 1192),
  (7, 288, 7, 3, 1190),
  (8, 7, 8, 0, 4079),
  (8, 13, 8, 1, 4080),
  (8, 16, 8, 3, 4082),
  (8, 19, 8, 5, 4084),
  (8, 22, 8, 6, 4085),
  (8, 25, 8, 7, 4086),
  (8, 28, 8, 8, 4087),
  (8, 31, 8, 10, 4089),
  (8, 35, 8, 11, 4090),
  (8, 38, 8, 22, 4101),
  (8, 41, 8, 23, 4102),
  (8, 44, 8, 24, 4103),
  (8, 47, 8, 25, 4104),
  (8, 50, 8, 26, 4105),
  (8, 53, 8, 27, 4106),
  (8, 56, 8, 28, 4107),
  (8, 59, 8, 29, 4108),
  (8, 62, 8, 30, 4109),
  (8, 65, 8, 31, 4110),
  (8, 68, 8, 32, 4111),
  (8, 71, 8, 35, 4114),
  (8, 74, 8, 36, 4115),
  (8, 77, 8, 37, 4116),
  (8, 81, 8, 38, 4117),
  (8, 84, 8, 39, 4118),
  (8, 87, 8, 40, 4119),
  (8, 90, 8, 44, 4123),
  (8, 93, 8, 48, 4127),
  (8, 96, 8, 50, 4129),
  (8, 103, 8, 2, 4081),
  (8, 106, 8, 4, 4083),
  (8, 109, 8, 9, 4088),
  (8, 112, 8, 12, 4091),
  (8, 117, 8, 15, 4094),
  (8, 120, 8, 14, 4093),
  (8, 134, 8, 13, 4092),
  (8, 137, 8, 16, 4095),
  (8, 141, 8, 17, 4096),
  (8, 174, 8, 18, 4097),
  (8, 184, 8, 19, 4098),
  (8, 199, 8, 20, 4099),
  (8, 224, 8, 21, 4100),
  (8, 240, 8, 33, 4112),
  (8, 331, 8, 34, 4113),
  (8, 360, 8, 45, 4124),
  (8, 366, 8, 42, 4121),
  (8, 372, 8, 41, 4120),
  (8, 384, 8, 43, 4122),
  (8, 387, 8, 46, 4125),
  (8, 405, 8, 49, 4128),
  (8, 416, 8, 47, 4126),
  (9, 9, 9, 0, 6194),
  (9, 15, 9, 1, 6195)]
def hk_zL : List (Nat × Nat × Nat × Nat) := [
  (0, 40, 1, 4041),
  (1, 27, 0, 4023),
  (9, 38, 2, 2045),
  (9, 1053, 3, 2061)]
def hk_zn (a : Nat) : String × String × String := match a with
  | 0 => ("HatFields$Hat", "ABOVE", "[I")
  | 1 => ("HatFields$Actor", "BODIES", "[I")
  | 2 => ("java/lang/String", "COMPACT_STRINGS", "Z")
  | _ => ("jdk/internal/util/Preconditions", "SIOOBE_FORMATTER", "Ljava/util/function/BiFunction;")
def hk_mL_0 : List (Nat × Nat × Nat × Nat × Nat × Nat × Nat × Nat × Nat) := [
  (0, 36, 0, 120, 4037, 4039, 24, 1006, 4040),
  (0, 43, 0, 121, 4043, 4045, 25, 1006, 4046),
  (0, 47, 0, 122, 4047, 4049, 26, 1006, 4050),
  (1, 37, 3, 44, 3076, 2174, 0, 1001, 2175),
  (2, 18, 1, 79, 3092, 3093, 0, 1003, 3094),
  (3, 30, 4, 2, 1036, 1037, 0, 1003, 1038),
  (3, 31, 4, 3, 1053, 1054, 0, 1004, 1055),
  (3, 32, 0, 13, 2008, 2009, 2010, 1002, 2011),
  (3, 45, 0, 14, 2012, 2013, 2014, 1002, 2015),
  (3, 55, 0, 41, 2161, 2162, 2163, 1003, 2164),
  (3, 59, 0, 42, 2165, 2166, 2167, 1004, 2168),
  (3, 68, 0, 32, 2111, 2112, 2113, 1004, 2114),
  (3, 75, 0, 58, 2232, 2233, 2234, 1004, 2235),
  (3, 85, 0, 67, 3186, 3035, 3036, 1004, 3037),
  (3, 88, 0, 64, 3070, 3021, 3022, 1004, 3023),
  (3, 91, 0, 33, 3046, 2117, 2118, 1004, 2119)]
def hk_mL_1 : List (Nat × Nat × Nat × Nat × Nat × Nat × Nat × Nat × Nat) := [
  (3, 95, 0, 73, 3058, 3059, 3060, 1002, 3061),
  (3, 98, 0, 60, 3062, 3004, 3005, 1002, 3006),
  (3, 102, 0, 74, 3063, 3065, 15, 1002, 3066),
  (3, 105, 0, 76, 3077, 3079, 16, 1002, 3080),
  (3, 108, 0, 59, 3067, 2237, 2238, 1004, 2239),
  (3, 111, 0, 57, 3068, 2229, 2230, 1002, 2231),
  (3, 115, 0, 34, 3069, 2122, 2123, 1004, 2124),
  (3, 118, 0, 61, 3071, 3008, 3009, 1004, 3010),
  (3, 121, 0, 75, 3072, 3073, 3074, 1004, 3075),
  (3, 124, 0, 77, 3081, 3083, 17, 1002, 3084),
  (3, 127, 0, 78, 3088, 3089, 3090, 1003, 3091),
  (3, 130, 0, 80, 3100, 3102, 18, 1002, 3103),
  (6, 25, 0, 12, 2004, 2005, 2006, 1002, 2007),
  (6, 30, 0, 15, 2016, 2018, 0, 1005, 2019),
  (6, 36, 0, 17, 2024, 2026, 2, 1005, 2027),
  (6, 40, 0, 18, 2028, 2030, 3, 1005, 2031)]
def hk_mL_2 : List (Nat × Nat × Nat × Nat × Nat × Nat × Nat × Nat × Nat) := [
  (6, 47, 0, 27, 2090, 2092, 5, 1005, 2093),
  (6, 53, 0, 19, 2033, 2035, 4, 1005, 2036),
  (6, 60, 0, 36, 2130, 2132, 10, 1005, 2133),
  (6, 65, 0, 38, 2140, 2142, 11, 1005, 2143),
  (6, 70, 0, 28, 2094, 2096, 6, 1005, 2097),
  (6, 76, 0, 35, 2125, 2127, 9, 1005, 2128),
  (6, 79, 0, 29, 2098, 2100, 7, 1005, 2101),
  (6, 84, 0, 37, 2135, 2136, 2137, 1002, 2138),
  (6, 90, 0, 30, 2103, 2105, 8, 1005, 2106),
  (6, 98, 0, 31, 2107, 2108, 2109, 1002, 2110),
  (6, 104, 0, 33, 2116, 2117, 2118, 1004, 2119),
  (6, 112, 0, 34, 2121, 2122, 2123, 1004, 2124),
  (6, 115, 0, 39, 2144, 2146, 12, 1005, 2147),
  (6, 118, 0, 14, 2152, 2013, 2014, 1002, 2015),
  (6, 145, 0, 20, 2037, 2038, 2039, 1009, 2040),
  (6, 149, 0, 22, 2047, 2048, 2049, 1009, 2050)]
def hk_mL_3 : List (Nat × Nat × Nat × Nat × Nat × Nat × Nat × Nat × Nat) := [
  (6, 153, 0, 16, 2020, 2022, 1, 1005, 2023),
  (7, 9, 2, 1, 1027, 1028, 0, 1002, 1029),
  (7, 28, 4, 4, 1117, 1118, 0, 1005, 1119),
  (7, 51, 4, 5, 1148, 1149, 0, 1006, 1150),
  (7, 56, 4, 6, 1174, 1175, 0, 1007, 1176),
  (7, 57, 0, 8, 1228, 1229, 1230, 1005, 1231),
  (7, 61, 0, 9, 1232, 1233, 1234, 1005, 1235),
  (7, 68, 0, 11, 2000, 2001, 2002, 1005, 2003),
  (7, 72, 0, 40, 2154, 2155, 2156, 1002, 2157),
  (7, 82, 1, 44, 2173, 2174, 0, 1001, 2175),
  (7, 86, 0, 45, 2176, 2177, 2178, 1002, 2179),
  (7, 90, 0, 14, 2180, 2013, 2014, 1002, 2015),
  (7, 97, 0, 37, 2189, 2136, 2137, 1002, 2138),
  (7, 101, 0, 49, 2194, 2196, 13, 1001, 2197),
  (7, 117, 0, 50, 2198, 2199, 2200, 1002, 2201),
  (7, 120, 0, 51, 2202, 2203, 2204, 1002, 2205)]
def hk_mL_4 : List (Nat × Nat × Nat × Nat × Nat × Nat × Nat × Nat × Nat) := [
  (7, 123, 0, 31, 2218, 2108, 2109, 1002, 2110),
  (7, 131, 0, 34, 2219, 2122, 2123, 1004, 2124),
  (7, 137, 0, 56, 2224, 2226, 14, 1001, 2227),
  (7, 152, 0, 57, 2228, 2229, 2230, 1002, 2231),
  (7, 155, 0, 59, 2236, 2237, 2238, 1004, 2239),
  (7, 161, 0, 60, 3003, 3004, 3005, 1002, 3006),
  (7, 164, 0, 61, 3007, 3008, 3009, 1004, 3010),
  (7, 167, 0, 32, 3015, 2112, 2113, 1004, 2114),
  (7, 171, 0, 64, 3020, 3021, 3022, 1004, 3023),
  (7, 178, 0, 33, 3024, 2117, 2118, 1004, 2119),
  (7, 181, 0, 58, 3029, 2233, 2234, 1004, 2235),
  (7, 184, 0, 67, 3034, 3035, 3036, 1004, 3037),
  (7, 187, 0, 69, 3042, 3043, 3044, 1002, 3045),
  (7, 190, 1, 71, 3051, 3052, 0, 1001, 3053),
  (7, 193, 0, 72, 3054, 3055, 3056, 1002, 3057),
  (7, 199, 0, 83, 3112, 3114, 19, 1001, 3115)]
def hk_mL_5 : List (Nat × Nat × Nat × Nat × Nat × Nat × Nat × Nat × Nat) := [
  (7, 202, 1, 89, 3136, 3137, 0, 1001, 3138),
  (7, 205, 0, 90, 3139, 3141, 20, 1001, 3142),
  (7, 209, 0, 13, 3159, 2009, 2010, 1002, 2011),
  (7, 212, 0, 95, 3160, 3161, 3162, 1002, 3163),
  (7, 215, 0, 73, 3164, 3059, 3060, 1002, 3061),
  (7, 219, 0, 99, 3178, 3179, 3180, 1002, 3181),
  (7, 222, 0, 100, 3182, 3183, 3184, 1002, 3185),
  (7, 225, 0, 102, 3191, 3193, 22, 1001, 3194),
  (7, 228, 0, 105, 3203, 3205, 23, 1001, 3206),
  (7, 245, 2, 108, 3218, 3219, 0, 1015, 3220),
  (7, 247, 0, 110, 3235, 3236, 3237, 1015, 3238),
  (7, 250, 0, 113, 4007, 4008, 4009, 1007, 4010),
  (7, 253, 0, 114, 4011, 4012, 4013, 1007, 4014),
  (7, 264, 0, 116, 4019, 4020, 4021, 1004, 4022),
  (7, 267, 0, 118, 4029, 4030, 4031, 1006, 4032),
  (7, 270, 0, 119, 4033, 4034, 4035, 1006, 4036)]
def hk_mL_6 : List (Nat × Nat × Nat × Nat × Nat × Nat × Nat × Nat × Nat) := [
  (7, 280, 1, 125, 4059, 4060, 0, 1016, 4061),
  (7, 292, 0, 91, 3143, 3145, 21, 1001, 3146),
  (8, 99, 1, 130, 4238, 4239, 0, 1008, 5000),
  (8, 123, 0, 133, 5010, 5012, 28, 1008, 5013),
  (8, 127, 1, 134, 5014, 5015, 0, 1008, 5016),
  (8, 131, 1, 135, 5017, 5018, 0, 1008, 5019),
  (8, 152, 0, 137, 5028, 5030, 30, 1008, 5031),
  (8, 178, 0, 132, 5006, 5008, 27, 1008, 5009),
  (8, 181, 0, 142, 5049, 5051, 35, 1008, 5052),
  (8, 187, 0, 139, 5036, 5038, 32, 1008, 5039),
  (8, 193, 0, 140, 5041, 5043, 33, 1008, 5044),
  (8, 196, 0, 141, 5045, 5047, 34, 1008, 5048),
  (8, 208, 0, 144, 5058, 5060, 37, 1008, 5061),
  (8, 214, 0, 138, 5032, 5034, 31, 1008, 5035),
  (8, 219, 0, 143, 5054, 5056, 36, 1008, 5057),
  (8, 227, 0, 145, 5067, 5069, 38, 1008, 5070)]
def hk_mL_7 : List (Nat × Nat × Nat × Nat × Nat × Nat × Nat × Nat × Nat) := [
  (8, 230, 0, 146, 5077, 5079, 39, 1008, 5080),
  (8, 234, 0, 136, 5023, 5025, 29, 1008, 5026),
  (8, 237, 0, 147, 5084, 5086, 40, 1008, 5087),
  (8, 243, 1, 149, 5092, 5093, 0, 1008, 5094),
  (8, 246, 1, 151, 5099, 5100, 0, 1008, 5101),
  (8, 250, 0, 148, 5102, 5089, 5090, 1008, 5091),
  (8, 253, 1, 153, 5107, 5108, 0, 1008, 5109),
  (8, 256, 0, 157, 5122, 5124, 43, 1008, 5125),
  (8, 259, 0, 155, 5114, 5116, 41, 1008, 5117),
  (8, 262, 0, 156, 5118, 5120, 42, 1008, 5121),
  (8, 265, 0, 158, 5126, 5128, 44, 1008, 5129),
  (8, 268, 0, 163, 5146, 5148, 45, 1008, 5149),
  (8, 271, 1, 164, 5150, 5151, 0, 1008, 5152),
  (8, 274, 0, 165, 5153, 5155, 46, 1008, 5156),
  (8, 277, 0, 166, 5157, 5159, 47, 1008, 5160),
  (8, 280, 0, 167, 5161, 5163, 48, 1008, 5164)]
def hk_mL_8 : List (Nat × Nat × Nat × Nat × Nat × Nat × Nat × Nat × Nat) := [
  (8, 283, 0, 170, 5173, 5175, 49, 1008, 5176),
  (8, 286, 0, 173, 5185, 5187, 51, 1008, 5188),
  (8, 290, 0, 172, 5181, 5183, 50, 1008, 5184),
  (8, 293, 0, 175, 5193, 5195, 52, 1008, 5196),
  (8, 296, 1, 183, 5224, 5225, 0, 1008, 5226),
  (8, 299, 1, 184, 5227, 5228, 0, 1008, 5229),
  (8, 302, 0, 181, 5216, 5218, 55, 1008, 5219),
  (8, 305, 0, 182, 5220, 5222, 56, 1008, 5223),
  (8, 308, 0, 180, 5212, 5214, 54, 1008, 5215),
  (8, 311, 1, 178, 5205, 5206, 0, 1008, 5207),
  (8, 314, 0, 179, 5208, 5210, 53, 1008, 5211),
  (8, 317, 0, 188, 6002, 6004, 58, 1008, 6005),
  (8, 320, 0, 187, 5238, 6000, 57, 1008, 6001),
  (8, 323, 1, 194, 6026, 6027, 0, 1008, 6028),
  (8, 326, 0, 198, 6041, 6043, 59, 1008, 6044),
  (8, 334, 0, 203, 6062, 6064, 61, 1008, 6065)]
def hk_mL_9 : List (Nat × Nat × Nat × Nat × Nat × Nat × Nat × Nat × Nat) := [
  (8, 337, 0, 202, 6058, 6060, 60, 1008, 6061),
  (8, 340, 0, 205, 6070, 6072, 62, 1008, 6073),
  (8, 343, 1, 209, 6086, 6087, 0, 1008, 6088),
  (8, 346, 0, 210, 6089, 6091, 63, 1008, 6092),
  (8, 351, 0, 215, 6110, 6112, 64, 1008, 6113),
  (8, 354, 0, 217, 6118, 6120, 65, 1008, 6121),
  (8, 357, 1, 218, 6122, 6123, 0, 1008, 6124),
  (8, 363, 0, 222, 6137, 6139, 68, 1008, 6140),
  (8, 369, 0, 223, 6141, 6143, 69, 1008, 6144),
  (8, 375, 0, 221, 6133, 6135, 67, 1008, 6136),
  (8, 378, 0, 220, 6129, 6131, 66, 1008, 6132),
  (8, 381, 0, 225, 6149, 6151, 71, 1008, 6152),
  (8, 390, 0, 227, 6157, 6159, 73, 1008, 6160),
  (8, 393, 0, 224, 6145, 6147, 70, 1008, 6148),
  (8, 396, 0, 229, 6165, 6167, 75, 1008, 6168),
  (8, 399, 0, 226, 6153, 6155, 72, 1008, 6156)]
def hk_mL_10 : List (Nat × Nat × Nat × Nat × Nat × Nat × Nat × Nat × Nat) := [
  (8, 402, 0, 228, 6161, 6163, 74, 1008, 6164),
  (8, 408, 0, 234, 6185, 6187, 77, 1008, 6188),
  (8, 412, 0, 233, 6181, 6183, 76, 1008, 6184),
  (9, 335, 0, 21, 2041, 2042, 2043, 1009, 2044),
  (9, 492, 0, 23, 2051, 2052, 2053, 1009, 2054),
  (9, 495, 1, 24, 2055, 2056, 0, 1010, 2057),
  (9, 1059, 1, 26, 2063, 2064, 0, 1011, 2065),
  (10, 9, 2, 0, 1019, 1020, 0, 1001, 1021),
  (10, 12, 2, 128, 4075, 4076, 0, 1008, 4077),
  (10, 15, 0, 7, 1224, 1225, 1226, 1001, 1227),
  (10, 19, 0, 129, 4234, 4235, 4236, 1008, 4237),
  (10, 20, 0, 10, 1236, 1237, 1238, 1001, 1239),
  (10, 24, 0, 131, 5002, 5003, 5004, 1008, 5005),
  (10, 25, 0, 43, 2169, 2170, 2171, 1001, 2172),
  (10, 29, 0, 150, 5095, 5096, 5097, 1008, 5098),
  (10, 30, 0, 46, 2181, 2182, 2183, 1001, 2184)]
def hk_mL_11 : List (Nat × Nat × Nat × Nat × Nat × Nat × Nat × Nat × Nat) := [
  (10, 34, 0, 148, 5088, 5089, 5090, 1008, 5091),
  (10, 35, 0, 47, 2185, 2186, 2187, 1001, 2188),
  (10, 39, 0, 152, 5103, 5104, 5105, 1008, 5106),
  (10, 40, 0, 48, 2190, 2191, 2192, 1001, 2193),
  (10, 43, 0, 154, 5110, 5111, 5112, 1008, 5113),
  (10, 44, 0, 52, 2206, 2207, 2208, 1001, 2209),
  (10, 47, 0, 159, 5130, 5131, 5132, 1008, 5133),
  (10, 48, 0, 53, 2210, 2211, 2212, 1001, 2213),
  (10, 51, 0, 160, 5134, 5135, 5136, 1008, 5137),
  (10, 52, 0, 54, 2214, 2215, 2216, 1001, 2217),
  (10, 56, 0, 161, 5138, 5139, 5140, 1008, 5141),
  (10, 57, 0, 55, 2220, 2221, 2222, 1001, 2223),
  (10, 60, 0, 162, 5142, 5143, 5144, 1008, 5145),
  (10, 61, 0, 62, 3011, 3012, 3013, 1001, 3014),
  (10, 64, 0, 168, 5165, 5166, 5167, 1008, 5168),
  (10, 65, 0, 63, 3016, 3017, 3018, 1001, 3019)]
def hk_mL_12 : List (Nat × Nat × Nat × Nat × Nat × Nat × Nat × Nat × Nat) := [
  (10, 68, 0, 169, 5169, 5170, 5171, 1008, 5172),
  (10, 69, 0, 65, 3025, 3026, 3027, 1001, 3028),
  (10, 72, 0, 171, 5177, 5178, 5179, 1008, 5180),
  (10, 73, 0, 66, 3030, 3031, 3032, 1001, 3033),
  (10, 76, 0, 174, 5189, 5190, 5191, 1008, 5192),
  (10, 77, 0, 68, 3038, 3039, 3040, 1001, 3041),
  (10, 80, 0, 176, 5197, 5198, 5199, 1008, 5200),
  (10, 81, 0, 70, 3047, 3048, 3049, 1001, 3050),
  (10, 84, 0, 177, 5201, 5202, 5203, 1008, 5204),
  (10, 85, 0, 81, 3104, 3105, 3106, 1001, 3107),
  (10, 88, 0, 185, 5230, 5231, 5232, 1008, 5233),
  (10, 89, 0, 82, 3108, 3109, 3110, 1001, 3111),
  (10, 92, 0, 186, 5234, 5235, 5236, 1008, 5237),
  (10, 93, 0, 84, 3116, 3117, 3118, 1001, 3119),
  (10, 96, 0, 189, 6006, 6007, 6008, 1008, 6009),
  (10, 97, 0, 85, 3120, 3121, 3122, 1001, 3123)]
def hk_mL_13 : List (Nat × Nat × Nat × Nat × Nat × Nat × Nat × Nat × Nat) := [
  (10, 100, 0, 190, 6010, 6011, 6012, 1008, 6013),
  (10, 101, 0, 86, 3124, 3125, 3126, 1001, 3127),
  (10, 104, 0, 191, 6014, 6015, 6016, 1008, 6017),
  (10, 105, 0, 87, 3128, 3129, 3130, 1001, 3131),
  (10, 108, 0, 192, 6018, 6019, 6020, 1008, 6021),
  (10, 109, 0, 88, 3132, 3133, 3134, 1001, 3135),
  (10, 112, 0, 193, 6022, 6023, 6024, 1008, 6025),
  (10, 113, 0, 92, 3147, 3148, 3149, 1001, 3150),
  (10, 116, 0, 195, 6029, 6030, 6031, 1008, 6032),
  (10, 117, 0, 93, 3151, 3152, 3153, 1001, 3154),
  (10, 120, 0, 196, 6033, 6034, 6035, 1008, 6036),
  (10, 121, 0, 94, 3155, 3156, 3157, 1001, 3158),
  (10, 124, 0, 197, 6037, 6038, 6039, 1008, 6040),
  (10, 125, 0, 96, 3165, 3166, 3167, 1001, 3168),
  (10, 128, 0, 199, 6045, 6046, 6047, 1008, 6048),
  (10, 129, 0, 97, 3169, 3170, 3171, 1001, 3172)]
def hk_mL_14 : List (Nat × Nat × Nat × Nat × Nat × Nat × Nat × Nat × Nat) := [
  (10, 132, 0, 200, 6049, 6050, 6051, 1008, 6052),
  (10, 133, 0, 98, 3174, 3175, 3176, 1001, 3177),
  (10, 136, 0, 201, 6054, 6055, 6056, 1008, 6057),
  (10, 137, 0, 101, 3187, 3188, 3189, 1001, 3190),
  (10, 140, 0, 204, 6066, 6067, 6068, 1008, 6069),
  (10, 141, 0, 103, 3195, 3196, 3197, 1001, 3198),
  (10, 144, 0, 206, 6074, 6075, 6076, 1008, 6077),
  (10, 145, 0, 104, 3199, 3200, 3201, 1001, 3202),
  (10, 148, 0, 207, 6078, 6079, 6080, 1008, 6081),
  (10, 149, 0, 106, 3207, 3208, 3209, 1001, 3210),
  (10, 152, 0, 208, 6082, 6083, 6084, 1008, 6085),
  (10, 153, 0, 107, 3213, 3214, 3215, 1001, 3216),
  (10, 156, 0, 211, 6094, 6095, 6096, 1008, 6097),
  (10, 157, 0, 109, 3231, 3232, 3233, 1001, 3234),
  (10, 160, 0, 212, 6098, 6099, 6100, 1008, 6101),
  (10, 161, 0, 111, 3239, 4000, 4001, 1001, 4002)]
def hk_mL_15 : List (Nat × Nat × Nat × Nat × Nat × Nat × Nat × Nat × Nat) := [
  (10, 164, 0, 213, 6102, 6103, 6104, 1008, 6105),
  (10, 165, 0, 112, 4003, 4004, 4005, 1001, 4006),
  (10, 168, 0, 214, 6106, 6107, 6108, 1008, 6109),
  (10, 169, 0, 115, 4015, 4016, 4017, 1001, 4018),
  (10, 172, 0, 216, 6114, 6115, 6116, 1008, 6117),
  (10, 173, 0, 117, 4025, 4026, 4027, 1001, 4028),
  (10, 176, 0, 219, 6125, 6126, 6127, 1008, 6128),
  (10, 177, 0, 123, 4051, 4052, 4053, 1001, 4054),
  (10, 180, 0, 230, 6169, 6170, 6171, 1008, 6172),
  (10, 181, 0, 124, 4055, 4056, 4057, 1001, 4058),
  (10, 184, 0, 231, 6173, 6174, 6175, 1008, 6176),
  (10, 185, 0, 126, 4065, 4066, 4067, 1001, 4068),
  (10, 188, 0, 232, 6177, 6178, 6179, 1008, 6180),
  (10, 189, 0, 127, 4069, 4070, 4071, 1001, 4072),
  (10, 192, 0, 235, 6189, 6190, 6191, 1008, 6192),
  (11, 9, 1, 25, 2058, 2059, 0, 1009, 2060)]
def hk_mL : List (Nat × Nat × Nat × Nat × Nat × Nat × Nat × Nat × Nat) := hk_mL_0 ++ hk_mL_1 ++ hk_mL_2 ++ hk_mL_3 ++ hk_mL_4 ++ hk_mL_5 ++ hk_mL_6 ++ hk_mL_7 ++ hk_mL_8 ++ hk_mL_9 ++ hk_mL_10 ++ hk_mL_11 ++ hk_mL_12 ++ hk_mL_13 ++ hk_mL_14 ++ hk_mL_15
def hk_oL : List (Nat × Nat × Nat) := [
  (0, 3, 1151),
  (1, 3, 1056),
  (2, 3, 1039),
  (3, 3, 1030),
  (4, 3, 3221),
  (5, 1, 1177),
  (6, 3, 1120),
  (7, 1, 1022),
  (8, 1, 4078)]
def hk_yL : List (Nat × Nat × Nat) := [
  (3, 49, 2158)]
def hk_xL : List (Nat × Nat × Nat × Nat) := [
  (7, 237, 1, 3211),
  (7, 242, 0, 3212),
  (1, 31, 0, 3000),
  (2, 22, 2, 3099),
  (2, 28, 1, 3095),
  (2, 31, 0, 3098),
  (3, 133, 2, 3085)]
def hk_nL : List (Nat × Nat × Nat × Nat × Nat × Nat) := [
  (3, 18, 2, 1031, 1035, 1003),
  (3, 24, 1, 1033, 1052, 1004),
  (7, 7, 3, 1025, 1026, 1002),
  (7, 26, 6, 1115, 1116, 1005),
  (7, 37, 4, 1142, 3217, 1015),
  (7, 43, 5, 1144, 1173, 1007),
  (7, 49, 0, 1146, 1147, 1006),
  (10, 7, 7, 1017, 1018, 1001),
  (10, 10, 8, 4073, 4074, 1008)]
def hk_aL : List (Nat × Nat × Nat × Nat × Nat) := [
  (3, 18, 13, 1031, 1032),
  (3, 24, 14, 1033, 1034),
  (7, 37, 15, 1142, 1143),
  (7, 43, 16, 1144, 1145)]
def hk_iL : List (Nat × Nat × Int32 × Nat) := [
  (7, 218, 1103515245, 3173),
  (8, 330, 1103515245, 6053),
  (14, 265, 1431655765, 4062),
  (14, 266, 858993459, 4063),
  (14, 267, 252645135, 4064)]
def hk_lL : List (Nat × Nat × Nat × Nat) := [
  (10, 13, 23, 6193),
  (8, 115, 6, 5001),
  (8, 144, 4, 5020),
  (8, 146, 5, 5021),
  (8, 148, 2, 5022),
  (8, 150, 9, 5071),
  (8, 156, 22, 5072),
  (8, 158, 19, 5073),
  (8, 160, 13, 5074),
  (8, 162, 24, 5075),
  (8, 164, 12, 5076),
  (8, 166, 16, 5062),
  (8, 168, 11, 5063),
  (8, 170, 17, 5064),
  (8, 172, 14, 5065),
  (8, 191, 18, 5040),
  (8, 202, 20, 5081),
  (8, 204, 8, 5082),
  (8, 206, 7, 5083),
  (8, 212, 21, 5027),
  (8, 217, 15, 5053),
  (8, 222, 10, 5066),
  (8, 349, 3, 6093)]
def hk_sL : List (Nat × Nat × Nat × String × Nat) := [
  (6, 122, 4, "hat", 2032),
  (6, 124, 5, "pinned", 2085),
  (6, 126, 6, "straw", 2086),
  (6, 128, 7, "tied", 2087),
  (6, 130, 8, "feathered", 2088),
  (6, 132, 9, "felt", 2089),
  (6, 88, 10, "worth", 2102),
  (6, 102, 11, "of", 2115),
  (6, 110, 12, "on", 2120),
  (6, 51, 13, "person", 2129),
  (6, 82, 14, "speed", 2134),
  (6, 63, 15, "wind", 2139),
  (6, 134, 16, "north", 2148),
  (6, 136, 17, "east", 2149),
  (6, 138, 18, "south", 2150),
  (6, 140, 19, "west", 2151),
  (6, 68, 20, "now", 2153)]
def hk_good (w : Cond) : Bool := match w with
  | .methodLinkNest _ _ _ _ => true
  | .stringRef _ _ _ => true
  | .arrayOver (.object _) => true
  | w => goodWord w
def hk_tb (k : Nat) : List Cond := match k with
  | 0 => k2_sels lw_privs
  | 1 => tables_1_1
  | 2 => tables_1_2
  | 3 => tables_1_3
  | 4 => tables_1_4
  | 5 => tables_1_5
  | 6 => tables_1_6
  | _ => []
def hk_w (p : Nat) (w : Cond) : Bool := decide (hk_nth (hk_tb (p / 1000)) (p % 1000) = some w) && hk_good w
theorem hk_nth_in {α : Type} : ∀ {l : List α} {n : Nat} {a : α}, hk_nth l n = some a → a ∈ l
  | [], _, _, h => by cases h
  | b :: l, 0, a, h => by cases h; exact List.mem_cons_self
  | b :: l, n + 1, a, h => List.mem_cons_of_mem _ (hk_nth_in (l := l) (n := n) h)
theorem hk_tb_in {k : Nat} {w : Cond} (h : w ∈ hk_tb k) : w ∈ lw_tbl := by
  unfold hk_tb at h
  unfold lw_tbl tables_1
  split at h
  all_goals first
    | exact List.mem_append_left _ h
    | exact List.mem_append_right _ (List.mem_append_left _ h)
    | exact List.mem_append_right _ (List.mem_append_right _ (List.mem_append_left _ h))
    | exact List.mem_append_right _ (List.mem_append_right _ (List.mem_append_right _ (List.mem_append_left _ h)))
    | exact List.mem_append_right _ (List.mem_append_right _ (List.mem_append_right _ (List.mem_append_right _ (List.mem_append_left _ h))))
    | exact List.mem_append_right _ (List.mem_append_right _ (List.mem_append_right _ (List.mem_append_right _ (List.mem_append_right _ (List.mem_append_left _ h)))))
    | exact List.mem_append_right _ (List.mem_append_right _ (List.mem_append_right _ (List.mem_append_right _ (List.mem_append_right _ (List.mem_append_right _ h)))))
    | exact absurd h List.not_mem_nil
theorem hk_w_in {p : Nat} {w : Cond} (h : hk_w p w = true) : w ∈ lw_tbl ∧ hk_good w = true := by
  unfold hk_w at h
  rw [Bool.and_eq_true] at h
  exact ⟨hk_tb_in (hk_nth_in (of_decide_eq_true h.1)), h.2⟩
def hk_my (M : Nat) : MethodName := match hk_nth hk_mt M with
  | some e => e.1
  | none => ⟨"", "", ""⟩
def hk_mb (M : Nat) : ByteArray := match hk_nth hk_mt M with
  | some e => e.2.1
  | none => ⟨#[]⟩
def hk_ml (M : Nat) : Nat := match hk_nth hk_mt M with
  | some e => e.2.2.1
  | none => 0
def hk_mo (M : Nat) : Nat := match hk_nth hk_mt M with
  | some e => e.2.2.2.1
  | none => 0
def hk_mr (M : Nat) : Option FieldType := match hk_nth hk_bds M with
  | some e => e.2.1
  | none => none
def hk_mc (M : Nat) : hk_Cd := match hk_nth hk_bds M with
  | some e => e.1
  | none => []
def hk_fOK (e : Nat × Nat × Nat × Nat × Nat) : Bool := hk_w e.2.2.2.2 (.fieldLink (hk_cn e.1) e.2.1 (hk_cn e.2.2.1) (hk_T e.2.2.1 e.2.2.2.1).2.1 (hk_T e.2.2.1 e.2.2.2.1).2.2.1) && Nat.blt e.2.2.2.1 (hk_nf e.2.2.1) && Nat.ble e.2.2.1 9
set_option maxRecDepth 100000 in
theorem hk_fL_ok : hk_fL.all hk_fOK = true := by decide +kernel
def hk_zOK (e : Nat × Nat × Nat × Nat) : Bool := hk_w e.2.2.2 (.fieldLink (hk_cn e.1) e.2.1 (hk_zn e.2.2.1).1 (hk_zn e.2.2.1).2.1 (hk_zn e.2.2.1).2.2)
set_option maxRecDepth 100000 in
theorem hk_zL_ok : hk_zL.all hk_zOK = true := by decide +kernel
def hk_ok1 (e : Nat × Nat × Nat) : Bool := hk_w e.2.2 (.methodLink (hk_cn e.1) e.2.1 objectInit)
set_option maxRecDepth 100000 in
theorem hk_oL_ok : hk_oL.all hk_ok1 = true := by decide +kernel
def hk_yOK (e : Nat × Nat × Nat) : Bool := hk_w e.2.2 (.methodLink (hk_cn e.1) e.2.1 arraycopyName)
set_option maxRecDepth 100000 in
theorem hk_yL_ok : hk_yL.all hk_yOK = true := by decide +kernel
def hk_xn (w : Nat) : MethodName := match w with
  | 0 => Lib.Math.max.name
  | 1 => Lib.Math.min.name
  | _ => Lib.Math.abs.name
def hk_xOK (e : Nat × Nat × Nat × Nat) : Bool := hk_w e.2.2.2 (.methodLink (hk_cn e.1) e.2.1 (hk_xn e.2.2.1))
set_option maxRecDepth 100000 in
theorem hk_xL_ok : hk_xL.all hk_xOK = true := by decide +kernel
def hk_nOK (e : Nat × Nat × Nat × Nat × Nat × Nat) : Bool := hk_w e.2.2.2.1 (.classLink (hk_cn e.1) e.2.1 (hk_cn e.2.2.1)) && hk_w e.2.2.2.2.1 (.instantiable (hk_cn e.2.2.1) (hk_nf e.2.2.1)) && hk_w e.2.2.2.2.2 (.initialized (hk_cn e.2.2.1)) && Nat.blt e.2.2.1 9
set_option maxRecDepth 100000 in
theorem hk_nL_ok : hk_nL.all hk_nOK = true := by decide +kernel
def hk_an (t : Nat) : String := hk_cn (hk_comp t)
def hk_aOK (e : Nat × Nat × Nat × Nat × Nat) : Bool := hk_w e.2.2.2.1 (.classLink (hk_cn e.1) e.2.1 (hk_an e.2.2.1)) && hk_w e.2.2.2.2 (.arrayOver (.object (hk_an e.2.2.1))) && Nat.ble 13 e.2.2.1 && Nat.ble e.2.2.1 16
set_option maxRecDepth 100000 in
theorem hk_aL_ok : hk_aL.all hk_aOK = true := by decide +kernel
def hk_iOK (e : Nat × Nat × Int32 × Nat) : Bool := hk_w e.2.2.2 (.constant (hk_cn e.1) e.2.1 e.2.2.1)
set_option maxRecDepth 100000 in
theorem hk_iL_ok : hk_iL.all hk_iOK = true := by decide +kernel
def hk_lOK (e : Nat × Nat × Nat × Nat) : Bool := match hk_nth hk_lc e.2.2.1 with
  | some v => hk_w e.2.2.2 (.constantLong (hk_cn e.1) e.2.1 v)
  | none => false
set_option maxRecDepth 100000 in
theorem hk_lL_ok : hk_lL.all hk_lOK = true := by decide +kernel
def hk_sOK (e : Nat × Nat × Nat × String × Nat) : Bool := hk_w e.2.2.2.2 (.stringRef (hk_cn e.1) e.2.1 e.2.2.2.1)
set_option maxRecDepth 100000 in
theorem hk_sL_ok : hk_sL.all hk_sOK = true := by decide +kernel
def hk_dsc (M : Nat) : Option Nat := (parseMethodDescriptor (hk_my M).desc).map (fun d => d.parameters.length)
def hk_noMH (y : MethodName) : Bool := decide (y.cls ≠ "java/lang/invoke/MethodHandle" ∧ y.cls ≠ "java/lang/invoke/VarHandle")
def hk_mOK (e : Nat × Nat × Nat × Nat × Nat × Nat × Nat × Nat × Nat) : Bool :=
  let own := e.1
  let idx := e.2.1
  let kind := e.2.2.1
  let M := e.2.2.2.1
  let y := hk_my M
  hk_noMH y && hk_w e.2.2.2.2.2.2.2.1 (.initialized y.cls) && Nat.ble (hk_ml M) 40 && decide (y.cls = hk_cn (hk_mo M)) &&
  (match kind with
    | 0 => hk_w e.2.2.2.2.1 (.methodLink (hk_cn own) idx y) && hk_w e.2.2.2.2.2.1 (.instanceMethod y) && hk_w e.2.2.2.2.2.2.1 (.selects y.cls y y)
    | 1 => hk_w e.2.2.2.2.1 (.methodLink (hk_cn own) idx y) && hk_w e.2.2.2.2.2.1 (.static y)
    | 2 => hk_w e.2.2.2.2.1 (.methodLink (hk_cn own) idx y) && hk_w e.2.2.2.2.2.1 (.instanceMethod y) && decide (y.name = "<init>") && decide (hk_mr M = none)
    | 3 => hk_w e.2.2.2.2.1 (.methodLinkNest (hk_cn own) idx y "HatFields") && hk_w e.2.2.2.2.2.1 (.static y)
    | _ => hk_w e.2.2.2.2.1 (.methodLinkNest (hk_cn own) idx y "HatFields") && hk_w e.2.2.2.2.2.1 (.instanceMethod y) && decide (y.name = "<init>") && decide (hk_mr M = none))

set_option maxRecDepth 100000 in
theorem hk_mL_ok0 : hk_mL_0.all hk_mOK = true := by decide +kernel
set_option maxRecDepth 100000 in
theorem hk_mL_ok1 : hk_mL_1.all hk_mOK = true := by decide +kernel
set_option maxRecDepth 100000 in
theorem hk_mL_ok2 : hk_mL_2.all hk_mOK = true := by decide +kernel
set_option maxRecDepth 100000 in
theorem hk_mL_ok3 : hk_mL_3.all hk_mOK = true := by decide +kernel
set_option maxRecDepth 100000 in
theorem hk_mL_ok4 : hk_mL_4.all hk_mOK = true := by decide +kernel
set_option maxRecDepth 100000 in
theorem hk_mL_ok5 : hk_mL_5.all hk_mOK = true := by decide +kernel
set_option maxRecDepth 100000 in
theorem hk_mL_ok6 : hk_mL_6.all hk_mOK = true := by decide +kernel
set_option maxRecDepth 100000 in
theorem hk_mL_ok7 : hk_mL_7.all hk_mOK = true := by decide +kernel
set_option maxRecDepth 100000 in
theorem hk_mL_ok8 : hk_mL_8.all hk_mOK = true := by decide +kernel
set_option maxRecDepth 100000 in
theorem hk_mL_ok9 : hk_mL_9.all hk_mOK = true := by decide +kernel
set_option maxRecDepth 100000 in
theorem hk_mL_ok10 : hk_mL_10.all hk_mOK = true := by decide +kernel
set_option maxRecDepth 100000 in
theorem hk_mL_ok11 : hk_mL_11.all hk_mOK = true := by decide +kernel
set_option maxRecDepth 100000 in
theorem hk_mL_ok12 : hk_mL_12.all hk_mOK = true := by decide +kernel
set_option maxRecDepth 100000 in
theorem hk_mL_ok13 : hk_mL_13.all hk_mOK = true := by decide +kernel
set_option maxRecDepth 100000 in
theorem hk_mL_ok14 : hk_mL_14.all hk_mOK = true := by decide +kernel
set_option maxRecDepth 100000 in
theorem hk_mL_ok15 : hk_mL_15.all hk_mOK = true := by decide +kernel
theorem hk_mL_ok : hk_mL.all hk_mOK = true := by
  unfold hk_mL
  simp only [List.all_append, Bool.and_eq_true]
  exact ⟨⟨⟨⟨⟨⟨⟨⟨⟨⟨⟨⟨⟨⟨⟨hk_mL_ok0, hk_mL_ok1⟩, hk_mL_ok2⟩, hk_mL_ok3⟩, hk_mL_ok4⟩, hk_mL_ok5⟩, hk_mL_ok6⟩, hk_mL_ok7⟩, hk_mL_ok8⟩, hk_mL_ok9⟩, hk_mL_ok10⟩, hk_mL_ok11⟩, hk_mL_ok12⟩, hk_mL_ok13⟩, hk_mL_ok14⟩, hk_mL_ok15⟩
def hk_cP (M : Nat) : Prop := Cond.code (hk_my M) (hk_mb M) (hk_ml M) (hk_mr M) ∈ lw_tbl
theorem hk_cw0 : hk_cP 0 := hk_tb_in (k := 1) (hk_nth_in (n := 21) rfl)
theorem hk_cw1 : hk_cP 1 := hk_tb_in (k := 1) (hk_nth_in (n := 29) rfl)
theorem hk_cw2 : hk_cP 2 := hk_tb_in (k := 1) (hk_nth_in (n := 38) rfl)
theorem hk_cw3 : hk_cP 3 := hk_tb_in (k := 1) (hk_nth_in (n := 55) rfl)
theorem hk_cw4 : hk_cP 4 := hk_tb_in (k := 1) (hk_nth_in (n := 119) rfl)
theorem hk_cw5 : hk_cP 5 := hk_tb_in (k := 1) (hk_nth_in (n := 150) rfl)
theorem hk_cw6 : hk_cP 6 := hk_tb_in (k := 1) (hk_nth_in (n := 176) rfl)
theorem hk_cw7 : hk_cP 7 := hk_tb_in (k := 1) (hk_nth_in (n := 227) rfl)
theorem hk_cw8 : hk_cP 8 := hk_tb_in (k := 1) (hk_nth_in (n := 231) rfl)
theorem hk_cw9 : hk_cP 9 := hk_tb_in (k := 1) (hk_nth_in (n := 235) rfl)
theorem hk_cw10 : hk_cP 10 := hk_tb_in (k := 1) (hk_nth_in (n := 239) rfl)
theorem hk_cw11 : hk_cP 11 := hk_tb_in (k := 2) (hk_nth_in (n := 3) rfl)
theorem hk_cw12 : hk_cP 12 := hk_tb_in (k := 2) (hk_nth_in (n := 7) rfl)
theorem hk_cw13 : hk_cP 13 := hk_tb_in (k := 2) (hk_nth_in (n := 11) rfl)
theorem hk_cw14 : hk_cP 14 := hk_tb_in (k := 2) (hk_nth_in (n := 15) rfl)
theorem hk_cw15 : hk_cP 15 := hk_tb_in (k := 2) (hk_nth_in (n := 19) rfl)
theorem hk_cw16 : hk_cP 16 := hk_tb_in (k := 2) (hk_nth_in (n := 23) rfl)
theorem hk_cw17 : hk_cP 17 := hk_tb_in (k := 2) (hk_nth_in (n := 27) rfl)
theorem hk_cw18 : hk_cP 18 := hk_tb_in (k := 2) (hk_nth_in (n := 31) rfl)
theorem hk_cw19 : hk_cP 19 := hk_tb_in (k := 2) (hk_nth_in (n := 36) rfl)
theorem hk_cw20 : hk_cP 20 := hk_tb_in (k := 2) (hk_nth_in (n := 40) rfl)
theorem hk_cw21 : hk_cP 21 := hk_tb_in (k := 2) (hk_nth_in (n := 44) rfl)
theorem hk_cw22 : hk_cP 22 := hk_tb_in (k := 2) (hk_nth_in (n := 50) rfl)
theorem hk_cw23 : hk_cP 23 := hk_tb_in (k := 2) (hk_nth_in (n := 54) rfl)
theorem hk_cw24 : hk_cP 24 := hk_tb_in (k := 2) (hk_nth_in (n := 57) rfl)
theorem hk_cw25 : hk_cP 25 := hk_tb_in (k := 2) (hk_nth_in (n := 60) rfl)
theorem hk_cw26 : hk_cP 26 := hk_tb_in (k := 2) (hk_nth_in (n := 65) rfl)
theorem hk_cw27 : hk_cP 27 := hk_tb_in (k := 2) (hk_nth_in (n := 93) rfl)
theorem hk_cw28 : hk_cP 28 := hk_tb_in (k := 2) (hk_nth_in (n := 97) rfl)
theorem hk_cw29 : hk_cP 29 := hk_tb_in (k := 2) (hk_nth_in (n := 101) rfl)
theorem hk_cw30 : hk_cP 30 := hk_tb_in (k := 2) (hk_nth_in (n := 106) rfl)
theorem hk_cw31 : hk_cP 31 := hk_tb_in (k := 2) (hk_nth_in (n := 110) rfl)
theorem hk_cw32 : hk_cP 32 := hk_tb_in (k := 2) (hk_nth_in (n := 114) rfl)
theorem hk_cw33 : hk_cP 33 := hk_tb_in (k := 2) (hk_nth_in (n := 119) rfl)
theorem hk_cw34 : hk_cP 34 := hk_tb_in (k := 2) (hk_nth_in (n := 124) rfl)
theorem hk_cw35 : hk_cP 35 := hk_tb_in (k := 2) (hk_nth_in (n := 128) rfl)
theorem hk_cw36 : hk_cP 36 := hk_tb_in (k := 2) (hk_nth_in (n := 133) rfl)
theorem hk_cw37 : hk_cP 37 := hk_tb_in (k := 2) (hk_nth_in (n := 138) rfl)
theorem hk_cw38 : hk_cP 38 := hk_tb_in (k := 2) (hk_nth_in (n := 143) rfl)
theorem hk_cw39 : hk_cP 39 := hk_tb_in (k := 2) (hk_nth_in (n := 147) rfl)
theorem hk_cw40 : hk_cP 40 := hk_tb_in (k := 2) (hk_nth_in (n := 157) rfl)
theorem hk_cw41 : hk_cP 41 := hk_tb_in (k := 2) (hk_nth_in (n := 164) rfl)
theorem hk_cw42 : hk_cP 42 := hk_tb_in (k := 2) (hk_nth_in (n := 168) rfl)
theorem hk_cw43 : hk_cP 43 := hk_tb_in (k := 2) (hk_nth_in (n := 172) rfl)
theorem hk_cw44 : hk_cP 44 := hk_tb_in (k := 2) (hk_nth_in (n := 175) rfl)
theorem hk_cw45 : hk_cP 45 := hk_tb_in (k := 2) (hk_nth_in (n := 179) rfl)
theorem hk_cw46 : hk_cP 46 := hk_tb_in (k := 2) (hk_nth_in (n := 184) rfl)
theorem hk_cw47 : hk_cP 47 := hk_tb_in (k := 2) (hk_nth_in (n := 188) rfl)
theorem hk_cw48 : hk_cP 48 := hk_tb_in (k := 2) (hk_nth_in (n := 193) rfl)
theorem hk_cw49 : hk_cP 49 := hk_tb_in (k := 2) (hk_nth_in (n := 197) rfl)
theorem hk_cw50 : hk_cP 50 := hk_tb_in (k := 2) (hk_nth_in (n := 201) rfl)
theorem hk_cw51 : hk_cP 51 := hk_tb_in (k := 2) (hk_nth_in (n := 205) rfl)
theorem hk_cw52 : hk_cP 52 := hk_tb_in (k := 2) (hk_nth_in (n := 209) rfl)
theorem hk_cw53 : hk_cP 53 := hk_tb_in (k := 2) (hk_nth_in (n := 213) rfl)
theorem hk_cw54 : hk_cP 54 := hk_tb_in (k := 2) (hk_nth_in (n := 217) rfl)
theorem hk_cw55 : hk_cP 55 := hk_tb_in (k := 2) (hk_nth_in (n := 223) rfl)
theorem hk_cw56 : hk_cP 56 := hk_tb_in (k := 2) (hk_nth_in (n := 227) rfl)
theorem hk_cw57 : hk_cP 57 := hk_tb_in (k := 2) (hk_nth_in (n := 231) rfl)
theorem hk_cw58 : hk_cP 58 := hk_tb_in (k := 2) (hk_nth_in (n := 235) rfl)
theorem hk_cw59 : hk_cP 59 := hk_tb_in (k := 2) (hk_nth_in (n := 239) rfl)
theorem hk_cw60 : hk_cP 60 := hk_tb_in (k := 3) (hk_nth_in (n := 6) rfl)
theorem hk_cw61 : hk_cP 61 := hk_tb_in (k := 3) (hk_nth_in (n := 10) rfl)
theorem hk_cw62 : hk_cP 62 := hk_tb_in (k := 3) (hk_nth_in (n := 14) rfl)
theorem hk_cw63 : hk_cP 63 := hk_tb_in (k := 3) (hk_nth_in (n := 19) rfl)
theorem hk_cw64 : hk_cP 64 := hk_tb_in (k := 3) (hk_nth_in (n := 23) rfl)
theorem hk_cw65 : hk_cP 65 := hk_tb_in (k := 3) (hk_nth_in (n := 28) rfl)
theorem hk_cw66 : hk_cP 66 := hk_tb_in (k := 3) (hk_nth_in (n := 33) rfl)
theorem hk_cw67 : hk_cP 67 := hk_tb_in (k := 3) (hk_nth_in (n := 37) rfl)
theorem hk_cw68 : hk_cP 68 := hk_tb_in (k := 3) (hk_nth_in (n := 41) rfl)
theorem hk_cw69 : hk_cP 69 := hk_tb_in (k := 3) (hk_nth_in (n := 45) rfl)
theorem hk_cw70 : hk_cP 70 := hk_tb_in (k := 3) (hk_nth_in (n := 50) rfl)
theorem hk_cw71 : hk_cP 71 := hk_tb_in (k := 3) (hk_nth_in (n := 53) rfl)
theorem hk_cw72 : hk_cP 72 := hk_tb_in (k := 3) (hk_nth_in (n := 57) rfl)
theorem hk_cw73 : hk_cP 73 := hk_tb_in (k := 3) (hk_nth_in (n := 61) rfl)
theorem hk_cw74 : hk_cP 74 := hk_tb_in (k := 3) (hk_nth_in (n := 66) rfl)
theorem hk_cw75 : hk_cP 75 := hk_tb_in (k := 3) (hk_nth_in (n := 75) rfl)
theorem hk_cw76 : hk_cP 76 := hk_tb_in (k := 3) (hk_nth_in (n := 80) rfl)
theorem hk_cw77 : hk_cP 77 := hk_tb_in (k := 3) (hk_nth_in (n := 84) rfl)
theorem hk_cw78 : hk_cP 78 := hk_tb_in (k := 3) (hk_nth_in (n := 91) rfl)
theorem hk_cw79 : hk_cP 79 := hk_tb_in (k := 3) (hk_nth_in (n := 94) rfl)
theorem hk_cw80 : hk_cP 80 := hk_tb_in (k := 3) (hk_nth_in (n := 103) rfl)
theorem hk_cw81 : hk_cP 81 := hk_tb_in (k := 3) (hk_nth_in (n := 107) rfl)
theorem hk_cw82 : hk_cP 82 := hk_tb_in (k := 3) (hk_nth_in (n := 111) rfl)
theorem hk_cw83 : hk_cP 83 := hk_tb_in (k := 3) (hk_nth_in (n := 115) rfl)
theorem hk_cw84 : hk_cP 84 := hk_tb_in (k := 3) (hk_nth_in (n := 119) rfl)
theorem hk_cw85 : hk_cP 85 := hk_tb_in (k := 3) (hk_nth_in (n := 123) rfl)
theorem hk_cw86 : hk_cP 86 := hk_tb_in (k := 3) (hk_nth_in (n := 127) rfl)
theorem hk_cw87 : hk_cP 87 := hk_tb_in (k := 3) (hk_nth_in (n := 131) rfl)
theorem hk_cw88 : hk_cP 88 := hk_tb_in (k := 3) (hk_nth_in (n := 135) rfl)
theorem hk_cw89 : hk_cP 89 := hk_tb_in (k := 3) (hk_nth_in (n := 138) rfl)
theorem hk_cw90 : hk_cP 90 := hk_tb_in (k := 3) (hk_nth_in (n := 142) rfl)
theorem hk_cw91 : hk_cP 91 := hk_tb_in (k := 3) (hk_nth_in (n := 146) rfl)
theorem hk_cw92 : hk_cP 92 := hk_tb_in (k := 3) (hk_nth_in (n := 150) rfl)
theorem hk_cw93 : hk_cP 93 := hk_tb_in (k := 3) (hk_nth_in (n := 154) rfl)
theorem hk_cw94 : hk_cP 94 := hk_tb_in (k := 3) (hk_nth_in (n := 158) rfl)
theorem hk_cw95 : hk_cP 95 := hk_tb_in (k := 3) (hk_nth_in (n := 163) rfl)
theorem hk_cw96 : hk_cP 96 := hk_tb_in (k := 3) (hk_nth_in (n := 168) rfl)
theorem hk_cw97 : hk_cP 97 := hk_tb_in (k := 3) (hk_nth_in (n := 172) rfl)
theorem hk_cw98 : hk_cP 98 := hk_tb_in (k := 3) (hk_nth_in (n := 177) rfl)
theorem hk_cw99 : hk_cP 99 := hk_tb_in (k := 3) (hk_nth_in (n := 181) rfl)
theorem hk_cw100 : hk_cP 100 := hk_tb_in (k := 3) (hk_nth_in (n := 185) rfl)
theorem hk_cw101 : hk_cP 101 := hk_tb_in (k := 3) (hk_nth_in (n := 190) rfl)
theorem hk_cw102 : hk_cP 102 := hk_tb_in (k := 3) (hk_nth_in (n := 194) rfl)
theorem hk_cw103 : hk_cP 103 := hk_tb_in (k := 3) (hk_nth_in (n := 198) rfl)
theorem hk_cw104 : hk_cP 104 := hk_tb_in (k := 3) (hk_nth_in (n := 202) rfl)
theorem hk_cw105 : hk_cP 105 := hk_tb_in (k := 3) (hk_nth_in (n := 206) rfl)
theorem hk_cw106 : hk_cP 106 := hk_tb_in (k := 3) (hk_nth_in (n := 210) rfl)
theorem hk_cw107 : hk_cP 107 := hk_tb_in (k := 3) (hk_nth_in (n := 216) rfl)
theorem hk_cw108 : hk_cP 108 := hk_tb_in (k := 3) (hk_nth_in (n := 220) rfl)
theorem hk_cw109 : hk_cP 109 := hk_tb_in (k := 3) (hk_nth_in (n := 234) rfl)
theorem hk_cw110 : hk_cP 110 := hk_tb_in (k := 3) (hk_nth_in (n := 238) rfl)
theorem hk_cw111 : hk_cP 111 := hk_tb_in (k := 4) (hk_nth_in (n := 2) rfl)
theorem hk_cw112 : hk_cP 112 := hk_tb_in (k := 4) (hk_nth_in (n := 6) rfl)
theorem hk_cw113 : hk_cP 113 := hk_tb_in (k := 4) (hk_nth_in (n := 10) rfl)
theorem hk_cw114 : hk_cP 114 := hk_tb_in (k := 4) (hk_nth_in (n := 14) rfl)
theorem hk_cw115 : hk_cP 115 := hk_tb_in (k := 4) (hk_nth_in (n := 18) rfl)
theorem hk_cw116 : hk_cP 116 := hk_tb_in (k := 4) (hk_nth_in (n := 22) rfl)
theorem hk_cw117 : hk_cP 117 := hk_tb_in (k := 4) (hk_nth_in (n := 28) rfl)
theorem hk_cw118 : hk_cP 118 := hk_tb_in (k := 4) (hk_nth_in (n := 32) rfl)
theorem hk_cw119 : hk_cP 119 := hk_tb_in (k := 4) (hk_nth_in (n := 36) rfl)
theorem hk_cw120 : hk_cP 120 := hk_tb_in (k := 4) (hk_nth_in (n := 40) rfl)
theorem hk_cw121 : hk_cP 121 := hk_tb_in (k := 4) (hk_nth_in (n := 46) rfl)
theorem hk_cw122 : hk_cP 122 := hk_tb_in (k := 4) (hk_nth_in (n := 50) rfl)
theorem hk_cw123 : hk_cP 123 := hk_tb_in (k := 4) (hk_nth_in (n := 54) rfl)
theorem hk_cw124 : hk_cP 124 := hk_tb_in (k := 4) (hk_nth_in (n := 58) rfl)
theorem hk_cw125 : hk_cP 125 := hk_tb_in (k := 4) (hk_nth_in (n := 61) rfl)
theorem hk_cw126 : hk_cP 126 := hk_tb_in (k := 4) (hk_nth_in (n := 68) rfl)
theorem hk_cw127 : hk_cP 127 := hk_tb_in (k := 4) (hk_nth_in (n := 72) rfl)
theorem hk_cw128 : hk_cP 128 := hk_tb_in (k := 4) (hk_nth_in (n := 77) rfl)
theorem hk_cw129 : hk_cP 129 := hk_tb_in (k := 4) (hk_nth_in (n := 237) rfl)
theorem hk_cw130 : hk_cP 130 := hk_tb_in (k := 5) (hk_nth_in (n := 0) rfl)
theorem hk_cw131 : hk_cP 131 := hk_tb_in (k := 5) (hk_nth_in (n := 5) rfl)
theorem hk_cw132 : hk_cP 132 := hk_tb_in (k := 5) (hk_nth_in (n := 9) rfl)
theorem hk_cw133 : hk_cP 133 := hk_tb_in (k := 5) (hk_nth_in (n := 13) rfl)
theorem hk_cw134 : hk_cP 134 := hk_tb_in (k := 5) (hk_nth_in (n := 16) rfl)
theorem hk_cw135 : hk_cP 135 := hk_tb_in (k := 5) (hk_nth_in (n := 19) rfl)
theorem hk_cw136 : hk_cP 136 := hk_tb_in (k := 5) (hk_nth_in (n := 26) rfl)
theorem hk_cw137 : hk_cP 137 := hk_tb_in (k := 5) (hk_nth_in (n := 31) rfl)
theorem hk_cw138 : hk_cP 138 := hk_tb_in (k := 5) (hk_nth_in (n := 35) rfl)
theorem hk_cw139 : hk_cP 139 := hk_tb_in (k := 5) (hk_nth_in (n := 39) rfl)
theorem hk_cw140 : hk_cP 140 := hk_tb_in (k := 5) (hk_nth_in (n := 44) rfl)
theorem hk_cw141 : hk_cP 141 := hk_tb_in (k := 5) (hk_nth_in (n := 48) rfl)
theorem hk_cw142 : hk_cP 142 := hk_tb_in (k := 5) (hk_nth_in (n := 52) rfl)
theorem hk_cw143 : hk_cP 143 := hk_tb_in (k := 5) (hk_nth_in (n := 57) rfl)
theorem hk_cw144 : hk_cP 144 := hk_tb_in (k := 5) (hk_nth_in (n := 61) rfl)
theorem hk_cw145 : hk_cP 145 := hk_tb_in (k := 5) (hk_nth_in (n := 70) rfl)
theorem hk_cw146 : hk_cP 146 := hk_tb_in (k := 5) (hk_nth_in (n := 80) rfl)
theorem hk_cw147 : hk_cP 147 := hk_tb_in (k := 5) (hk_nth_in (n := 87) rfl)
theorem hk_cw148 : hk_cP 148 := hk_tb_in (k := 5) (hk_nth_in (n := 91) rfl)
theorem hk_cw149 : hk_cP 149 := hk_tb_in (k := 5) (hk_nth_in (n := 94) rfl)
theorem hk_cw150 : hk_cP 150 := hk_tb_in (k := 5) (hk_nth_in (n := 98) rfl)
theorem hk_cw151 : hk_cP 151 := hk_tb_in (k := 5) (hk_nth_in (n := 101) rfl)
theorem hk_cw152 : hk_cP 152 := hk_tb_in (k := 5) (hk_nth_in (n := 106) rfl)
theorem hk_cw153 : hk_cP 153 := hk_tb_in (k := 5) (hk_nth_in (n := 109) rfl)
theorem hk_cw154 : hk_cP 154 := hk_tb_in (k := 5) (hk_nth_in (n := 113) rfl)
theorem hk_cw155 : hk_cP 155 := hk_tb_in (k := 5) (hk_nth_in (n := 117) rfl)
theorem hk_cw156 : hk_cP 156 := hk_tb_in (k := 5) (hk_nth_in (n := 121) rfl)
theorem hk_cw157 : hk_cP 157 := hk_tb_in (k := 5) (hk_nth_in (n := 125) rfl)
theorem hk_cw158 : hk_cP 158 := hk_tb_in (k := 5) (hk_nth_in (n := 129) rfl)
theorem hk_cw159 : hk_cP 159 := hk_tb_in (k := 5) (hk_nth_in (n := 133) rfl)
theorem hk_cw160 : hk_cP 160 := hk_tb_in (k := 5) (hk_nth_in (n := 137) rfl)
theorem hk_cw161 : hk_cP 161 := hk_tb_in (k := 5) (hk_nth_in (n := 141) rfl)
theorem hk_cw162 : hk_cP 162 := hk_tb_in (k := 5) (hk_nth_in (n := 145) rfl)
theorem hk_cw163 : hk_cP 163 := hk_tb_in (k := 5) (hk_nth_in (n := 149) rfl)
theorem hk_cw164 : hk_cP 164 := hk_tb_in (k := 5) (hk_nth_in (n := 152) rfl)
theorem hk_cw165 : hk_cP 165 := hk_tb_in (k := 5) (hk_nth_in (n := 156) rfl)
theorem hk_cw166 : hk_cP 166 := hk_tb_in (k := 5) (hk_nth_in (n := 160) rfl)
theorem hk_cw167 : hk_cP 167 := hk_tb_in (k := 5) (hk_nth_in (n := 164) rfl)
theorem hk_cw168 : hk_cP 168 := hk_tb_in (k := 5) (hk_nth_in (n := 168) rfl)
theorem hk_cw169 : hk_cP 169 := hk_tb_in (k := 5) (hk_nth_in (n := 172) rfl)
theorem hk_cw170 : hk_cP 170 := hk_tb_in (k := 5) (hk_nth_in (n := 176) rfl)
theorem hk_cw171 : hk_cP 171 := hk_tb_in (k := 5) (hk_nth_in (n := 180) rfl)
theorem hk_cw172 : hk_cP 172 := hk_tb_in (k := 5) (hk_nth_in (n := 184) rfl)
theorem hk_cw173 : hk_cP 173 := hk_tb_in (k := 5) (hk_nth_in (n := 188) rfl)
theorem hk_cw174 : hk_cP 174 := hk_tb_in (k := 5) (hk_nth_in (n := 192) rfl)
theorem hk_cw175 : hk_cP 175 := hk_tb_in (k := 5) (hk_nth_in (n := 196) rfl)
theorem hk_cw176 : hk_cP 176 := hk_tb_in (k := 5) (hk_nth_in (n := 200) rfl)
theorem hk_cw177 : hk_cP 177 := hk_tb_in (k := 5) (hk_nth_in (n := 204) rfl)
theorem hk_cw178 : hk_cP 178 := hk_tb_in (k := 5) (hk_nth_in (n := 207) rfl)
theorem hk_cw179 : hk_cP 179 := hk_tb_in (k := 5) (hk_nth_in (n := 211) rfl)
theorem hk_cw180 : hk_cP 180 := hk_tb_in (k := 5) (hk_nth_in (n := 215) rfl)
theorem hk_cw181 : hk_cP 181 := hk_tb_in (k := 5) (hk_nth_in (n := 219) rfl)
theorem hk_cw182 : hk_cP 182 := hk_tb_in (k := 5) (hk_nth_in (n := 223) rfl)
theorem hk_cw183 : hk_cP 183 := hk_tb_in (k := 5) (hk_nth_in (n := 226) rfl)
theorem hk_cw184 : hk_cP 184 := hk_tb_in (k := 5) (hk_nth_in (n := 229) rfl)
theorem hk_cw185 : hk_cP 185 := hk_tb_in (k := 5) (hk_nth_in (n := 233) rfl)
theorem hk_cw186 : hk_cP 186 := hk_tb_in (k := 5) (hk_nth_in (n := 237) rfl)
theorem hk_cw187 : hk_cP 187 := hk_tb_in (k := 6) (hk_nth_in (n := 1) rfl)
theorem hk_cw188 : hk_cP 188 := hk_tb_in (k := 6) (hk_nth_in (n := 5) rfl)
theorem hk_cw189 : hk_cP 189 := hk_tb_in (k := 6) (hk_nth_in (n := 9) rfl)
theorem hk_cw190 : hk_cP 190 := hk_tb_in (k := 6) (hk_nth_in (n := 13) rfl)
theorem hk_cw191 : hk_cP 191 := hk_tb_in (k := 6) (hk_nth_in (n := 17) rfl)
theorem hk_cw192 : hk_cP 192 := hk_tb_in (k := 6) (hk_nth_in (n := 21) rfl)
theorem hk_cw193 : hk_cP 193 := hk_tb_in (k := 6) (hk_nth_in (n := 25) rfl)
theorem hk_cw194 : hk_cP 194 := hk_tb_in (k := 6) (hk_nth_in (n := 28) rfl)
theorem hk_cw195 : hk_cP 195 := hk_tb_in (k := 6) (hk_nth_in (n := 32) rfl)
theorem hk_cw196 : hk_cP 196 := hk_tb_in (k := 6) (hk_nth_in (n := 36) rfl)
theorem hk_cw197 : hk_cP 197 := hk_tb_in (k := 6) (hk_nth_in (n := 40) rfl)
theorem hk_cw198 : hk_cP 198 := hk_tb_in (k := 6) (hk_nth_in (n := 44) rfl)
theorem hk_cw199 : hk_cP 199 := hk_tb_in (k := 6) (hk_nth_in (n := 48) rfl)
theorem hk_cw200 : hk_cP 200 := hk_tb_in (k := 6) (hk_nth_in (n := 52) rfl)
theorem hk_cw201 : hk_cP 201 := hk_tb_in (k := 6) (hk_nth_in (n := 57) rfl)
theorem hk_cw202 : hk_cP 202 := hk_tb_in (k := 6) (hk_nth_in (n := 61) rfl)
theorem hk_cw203 : hk_cP 203 := hk_tb_in (k := 6) (hk_nth_in (n := 65) rfl)
theorem hk_cw204 : hk_cP 204 := hk_tb_in (k := 6) (hk_nth_in (n := 69) rfl)
theorem hk_cw205 : hk_cP 205 := hk_tb_in (k := 6) (hk_nth_in (n := 73) rfl)
theorem hk_cw206 : hk_cP 206 := hk_tb_in (k := 6) (hk_nth_in (n := 77) rfl)
theorem hk_cw207 : hk_cP 207 := hk_tb_in (k := 6) (hk_nth_in (n := 81) rfl)
theorem hk_cw208 : hk_cP 208 := hk_tb_in (k := 6) (hk_nth_in (n := 85) rfl)
theorem hk_cw209 : hk_cP 209 := hk_tb_in (k := 6) (hk_nth_in (n := 88) rfl)
theorem hk_cw210 : hk_cP 210 := hk_tb_in (k := 6) (hk_nth_in (n := 92) rfl)
theorem hk_cw211 : hk_cP 211 := hk_tb_in (k := 6) (hk_nth_in (n := 97) rfl)
theorem hk_cw212 : hk_cP 212 := hk_tb_in (k := 6) (hk_nth_in (n := 101) rfl)
theorem hk_cw213 : hk_cP 213 := hk_tb_in (k := 6) (hk_nth_in (n := 105) rfl)
theorem hk_cw214 : hk_cP 214 := hk_tb_in (k := 6) (hk_nth_in (n := 109) rfl)
theorem hk_cw215 : hk_cP 215 := hk_tb_in (k := 6) (hk_nth_in (n := 113) rfl)
theorem hk_cw216 : hk_cP 216 := hk_tb_in (k := 6) (hk_nth_in (n := 117) rfl)
theorem hk_cw217 : hk_cP 217 := hk_tb_in (k := 6) (hk_nth_in (n := 121) rfl)
theorem hk_cw218 : hk_cP 218 := hk_tb_in (k := 6) (hk_nth_in (n := 124) rfl)
theorem hk_cw219 : hk_cP 219 := hk_tb_in (k := 6) (hk_nth_in (n := 128) rfl)
theorem hk_cw220 : hk_cP 220 := hk_tb_in (k := 6) (hk_nth_in (n := 132) rfl)
theorem hk_cw221 : hk_cP 221 := hk_tb_in (k := 6) (hk_nth_in (n := 136) rfl)
theorem hk_cw222 : hk_cP 222 := hk_tb_in (k := 6) (hk_nth_in (n := 140) rfl)
theorem hk_cw223 : hk_cP 223 := hk_tb_in (k := 6) (hk_nth_in (n := 144) rfl)
theorem hk_cw224 : hk_cP 224 := hk_tb_in (k := 6) (hk_nth_in (n := 148) rfl)
theorem hk_cw225 : hk_cP 225 := hk_tb_in (k := 6) (hk_nth_in (n := 152) rfl)
theorem hk_cw226 : hk_cP 226 := hk_tb_in (k := 6) (hk_nth_in (n := 156) rfl)
theorem hk_cw227 : hk_cP 227 := hk_tb_in (k := 6) (hk_nth_in (n := 160) rfl)
theorem hk_cw228 : hk_cP 228 := hk_tb_in (k := 6) (hk_nth_in (n := 164) rfl)
theorem hk_cw229 : hk_cP 229 := hk_tb_in (k := 6) (hk_nth_in (n := 168) rfl)
theorem hk_cw230 : hk_cP 230 := hk_tb_in (k := 6) (hk_nth_in (n := 172) rfl)
theorem hk_cw231 : hk_cP 231 := hk_tb_in (k := 6) (hk_nth_in (n := 176) rfl)
theorem hk_cw232 : hk_cP 232 := hk_tb_in (k := 6) (hk_nth_in (n := 180) rfl)
theorem hk_cw233 : hk_cP 233 := hk_tb_in (k := 6) (hk_nth_in (n := 184) rfl)
theorem hk_cw234 : hk_cP 234 := hk_tb_in (k := 6) (hk_nth_in (n := 188) rfl)
theorem hk_cw235 : hk_cP 235 := hk_tb_in (k := 6) (hk_nth_in (n := 192) rfl)
theorem hk_mL_c0 : ∀ e ∈ hk_mL_0, hk_cP e.2.2.2.1 := List.forall_mem_cons.mpr ⟨hk_cw120, List.forall_mem_cons.mpr ⟨hk_cw121, List.forall_mem_cons.mpr ⟨hk_cw122, List.forall_mem_cons.mpr ⟨hk_cw44, List.forall_mem_cons.mpr ⟨hk_cw79, List.forall_mem_cons.mpr ⟨hk_cw2, List.forall_mem_cons.mpr ⟨hk_cw3, List.forall_mem_cons.mpr ⟨hk_cw13, List.forall_mem_cons.mpr ⟨hk_cw14, List.forall_mem_cons.mpr ⟨hk_cw41, List.forall_mem_cons.mpr ⟨hk_cw42, List.forall_mem_cons.mpr ⟨hk_cw32, List.forall_mem_cons.mpr ⟨hk_cw58, List.forall_mem_cons.mpr ⟨hk_cw67, List.forall_mem_cons.mpr ⟨hk_cw64, List.forall_mem_cons.mpr ⟨hk_cw33, fun _ h => absurd h List.not_mem_nil⟩⟩⟩⟩⟩⟩⟩⟩⟩⟩⟩⟩⟩⟩⟩⟩
theorem hk_mL_c1 : ∀ e ∈ hk_mL_1, hk_cP e.2.2.2.1 := List.forall_mem_cons.mpr ⟨hk_cw73, List.forall_mem_cons.mpr ⟨hk_cw60, List.forall_mem_cons.mpr ⟨hk_cw74, List.forall_mem_cons.mpr ⟨hk_cw76, List.forall_mem_cons.mpr ⟨hk_cw59, List.forall_mem_cons.mpr ⟨hk_cw57, List.forall_mem_cons.mpr ⟨hk_cw34, List.forall_mem_cons.mpr ⟨hk_cw61, List.forall_mem_cons.mpr ⟨hk_cw75, List.forall_mem_cons.mpr ⟨hk_cw77, List.forall_mem_cons.mpr ⟨hk_cw78, List.forall_mem_cons.mpr ⟨hk_cw80, List.forall_mem_cons.mpr ⟨hk_cw12, List.forall_mem_cons.mpr ⟨hk_cw15, List.forall_mem_cons.mpr ⟨hk_cw17, List.forall_mem_cons.mpr ⟨hk_cw18, fun _ h => absurd h List.not_mem_nil⟩⟩⟩⟩⟩⟩⟩⟩⟩⟩⟩⟩⟩⟩⟩⟩
theorem hk_mL_c2 : ∀ e ∈ hk_mL_2, hk_cP e.2.2.2.1 := List.forall_mem_cons.mpr ⟨hk_cw27, List.forall_mem_cons.mpr ⟨hk_cw19, List.forall_mem_cons.mpr ⟨hk_cw36, List.forall_mem_cons.mpr ⟨hk_cw38, List.forall_mem_cons.mpr ⟨hk_cw28, List.forall_mem_cons.mpr ⟨hk_cw35, List.forall_mem_cons.mpr ⟨hk_cw29, List.forall_mem_cons.mpr ⟨hk_cw37, List.forall_mem_cons.mpr ⟨hk_cw30, List.forall_mem_cons.mpr ⟨hk_cw31, List.forall_mem_cons.mpr ⟨hk_cw33, List.forall_mem_cons.mpr ⟨hk_cw34, List.forall_mem_cons.mpr ⟨hk_cw39, List.forall_mem_cons.mpr ⟨hk_cw14, List.forall_mem_cons.mpr ⟨hk_cw20, List.forall_mem_cons.mpr ⟨hk_cw22, fun _ h => absurd h List.not_mem_nil⟩⟩⟩⟩⟩⟩⟩⟩⟩⟩⟩⟩⟩⟩⟩⟩
theorem hk_mL_c3 : ∀ e ∈ hk_mL_3, hk_cP e.2.2.2.1 := List.forall_mem_cons.mpr ⟨hk_cw16, List.forall_mem_cons.mpr ⟨hk_cw1, List.forall_mem_cons.mpr ⟨hk_cw4, List.forall_mem_cons.mpr ⟨hk_cw5, List.forall_mem_cons.mpr ⟨hk_cw6, List.forall_mem_cons.mpr ⟨hk_cw8, List.forall_mem_cons.mpr ⟨hk_cw9, List.forall_mem_cons.mpr ⟨hk_cw11, List.forall_mem_cons.mpr ⟨hk_cw40, List.forall_mem_cons.mpr ⟨hk_cw44, List.forall_mem_cons.mpr ⟨hk_cw45, List.forall_mem_cons.mpr ⟨hk_cw14, List.forall_mem_cons.mpr ⟨hk_cw37, List.forall_mem_cons.mpr ⟨hk_cw49, List.forall_mem_cons.mpr ⟨hk_cw50, List.forall_mem_cons.mpr ⟨hk_cw51, fun _ h => absurd h List.not_mem_nil⟩⟩⟩⟩⟩⟩⟩⟩⟩⟩⟩⟩⟩⟩⟩⟩
theorem hk_mL_c4 : ∀ e ∈ hk_mL_4, hk_cP e.2.2.2.1 := List.forall_mem_cons.mpr ⟨hk_cw31, List.forall_mem_cons.mpr ⟨hk_cw34, List.forall_mem_cons.mpr ⟨hk_cw56, List.forall_mem_cons.mpr ⟨hk_cw57, List.forall_mem_cons.mpr ⟨hk_cw59, List.forall_mem_cons.mpr ⟨hk_cw60, List.forall_mem_cons.mpr ⟨hk_cw61, List.forall_mem_cons.mpr ⟨hk_cw32, List.forall_mem_cons.mpr ⟨hk_cw64, List.forall_mem_cons.mpr ⟨hk_cw33, List.forall_mem_cons.mpr ⟨hk_cw58, List.forall_mem_cons.mpr ⟨hk_cw67, List.forall_mem_cons.mpr ⟨hk_cw69, List.forall_mem_cons.mpr ⟨hk_cw71, List.forall_mem_cons.mpr ⟨hk_cw72, List.forall_mem_cons.mpr ⟨hk_cw83, fun _ h => absurd h List.not_mem_nil⟩⟩⟩⟩⟩⟩⟩⟩⟩⟩⟩⟩⟩⟩⟩⟩
theorem hk_mL_c5 : ∀ e ∈ hk_mL_5, hk_cP e.2.2.2.1 := List.forall_mem_cons.mpr ⟨hk_cw89, List.forall_mem_cons.mpr ⟨hk_cw90, List.forall_mem_cons.mpr ⟨hk_cw13, List.forall_mem_cons.mpr ⟨hk_cw95, List.forall_mem_cons.mpr ⟨hk_cw73, List.forall_mem_cons.mpr ⟨hk_cw99, List.forall_mem_cons.mpr ⟨hk_cw100, List.forall_mem_cons.mpr ⟨hk_cw102, List.forall_mem_cons.mpr ⟨hk_cw105, List.forall_mem_cons.mpr ⟨hk_cw108, List.forall_mem_cons.mpr ⟨hk_cw110, List.forall_mem_cons.mpr ⟨hk_cw113, List.forall_mem_cons.mpr ⟨hk_cw114, List.forall_mem_cons.mpr ⟨hk_cw116, List.forall_mem_cons.mpr ⟨hk_cw118, List.forall_mem_cons.mpr ⟨hk_cw119, fun _ h => absurd h List.not_mem_nil⟩⟩⟩⟩⟩⟩⟩⟩⟩⟩⟩⟩⟩⟩⟩⟩
theorem hk_mL_c6 : ∀ e ∈ hk_mL_6, hk_cP e.2.2.2.1 := List.forall_mem_cons.mpr ⟨hk_cw125, List.forall_mem_cons.mpr ⟨hk_cw91, List.forall_mem_cons.mpr ⟨hk_cw130, List.forall_mem_cons.mpr ⟨hk_cw133, List.forall_mem_cons.mpr ⟨hk_cw134, List.forall_mem_cons.mpr ⟨hk_cw135, List.forall_mem_cons.mpr ⟨hk_cw137, List.forall_mem_cons.mpr ⟨hk_cw132, List.forall_mem_cons.mpr ⟨hk_cw142, List.forall_mem_cons.mpr ⟨hk_cw139, List.forall_mem_cons.mpr ⟨hk_cw140, List.forall_mem_cons.mpr ⟨hk_cw141, List.forall_mem_cons.mpr ⟨hk_cw144, List.forall_mem_cons.mpr ⟨hk_cw138, List.forall_mem_cons.mpr ⟨hk_cw143, List.forall_mem_cons.mpr ⟨hk_cw145, fun _ h => absurd h List.not_mem_nil⟩⟩⟩⟩⟩⟩⟩⟩⟩⟩⟩⟩⟩⟩⟩⟩
theorem hk_mL_c7 : ∀ e ∈ hk_mL_7, hk_cP e.2.2.2.1 := List.forall_mem_cons.mpr ⟨hk_cw146, List.forall_mem_cons.mpr ⟨hk_cw136, List.forall_mem_cons.mpr ⟨hk_cw147, List.forall_mem_cons.mpr ⟨hk_cw149, List.forall_mem_cons.mpr ⟨hk_cw151, List.forall_mem_cons.mpr ⟨hk_cw148, List.forall_mem_cons.mpr ⟨hk_cw153, List.forall_mem_cons.mpr ⟨hk_cw157, List.forall_mem_cons.mpr ⟨hk_cw155, List.forall_mem_cons.mpr ⟨hk_cw156, List.forall_mem_cons.mpr ⟨hk_cw158, List.forall_mem_cons.mpr ⟨hk_cw163, List.forall_mem_cons.mpr ⟨hk_cw164, List.forall_mem_cons.mpr ⟨hk_cw165, List.forall_mem_cons.mpr ⟨hk_cw166, List.forall_mem_cons.mpr ⟨hk_cw167, fun _ h => absurd h List.not_mem_nil⟩⟩⟩⟩⟩⟩⟩⟩⟩⟩⟩⟩⟩⟩⟩⟩
theorem hk_mL_c8 : ∀ e ∈ hk_mL_8, hk_cP e.2.2.2.1 := List.forall_mem_cons.mpr ⟨hk_cw170, List.forall_mem_cons.mpr ⟨hk_cw173, List.forall_mem_cons.mpr ⟨hk_cw172, List.forall_mem_cons.mpr ⟨hk_cw175, List.forall_mem_cons.mpr ⟨hk_cw183, List.forall_mem_cons.mpr ⟨hk_cw184, List.forall_mem_cons.mpr ⟨hk_cw181, List.forall_mem_cons.mpr ⟨hk_cw182, List.forall_mem_cons.mpr ⟨hk_cw180, List.forall_mem_cons.mpr ⟨hk_cw178, List.forall_mem_cons.mpr ⟨hk_cw179, List.forall_mem_cons.mpr ⟨hk_cw188, List.forall_mem_cons.mpr ⟨hk_cw187, List.forall_mem_cons.mpr ⟨hk_cw194, List.forall_mem_cons.mpr ⟨hk_cw198, List.forall_mem_cons.mpr ⟨hk_cw203, fun _ h => absurd h List.not_mem_nil⟩⟩⟩⟩⟩⟩⟩⟩⟩⟩⟩⟩⟩⟩⟩⟩
theorem hk_mL_c9 : ∀ e ∈ hk_mL_9, hk_cP e.2.2.2.1 := List.forall_mem_cons.mpr ⟨hk_cw202, List.forall_mem_cons.mpr ⟨hk_cw205, List.forall_mem_cons.mpr ⟨hk_cw209, List.forall_mem_cons.mpr ⟨hk_cw210, List.forall_mem_cons.mpr ⟨hk_cw215, List.forall_mem_cons.mpr ⟨hk_cw217, List.forall_mem_cons.mpr ⟨hk_cw218, List.forall_mem_cons.mpr ⟨hk_cw222, List.forall_mem_cons.mpr ⟨hk_cw223, List.forall_mem_cons.mpr ⟨hk_cw221, List.forall_mem_cons.mpr ⟨hk_cw220, List.forall_mem_cons.mpr ⟨hk_cw225, List.forall_mem_cons.mpr ⟨hk_cw227, List.forall_mem_cons.mpr ⟨hk_cw224, List.forall_mem_cons.mpr ⟨hk_cw229, List.forall_mem_cons.mpr ⟨hk_cw226, fun _ h => absurd h List.not_mem_nil⟩⟩⟩⟩⟩⟩⟩⟩⟩⟩⟩⟩⟩⟩⟩⟩
theorem hk_mL_c10 : ∀ e ∈ hk_mL_10, hk_cP e.2.2.2.1 := List.forall_mem_cons.mpr ⟨hk_cw228, List.forall_mem_cons.mpr ⟨hk_cw234, List.forall_mem_cons.mpr ⟨hk_cw233, List.forall_mem_cons.mpr ⟨hk_cw21, List.forall_mem_cons.mpr ⟨hk_cw23, List.forall_mem_cons.mpr ⟨hk_cw24, List.forall_mem_cons.mpr ⟨hk_cw26, List.forall_mem_cons.mpr ⟨hk_cw0, List.forall_mem_cons.mpr ⟨hk_cw128, List.forall_mem_cons.mpr ⟨hk_cw7, List.forall_mem_cons.mpr ⟨hk_cw129, List.forall_mem_cons.mpr ⟨hk_cw10, List.forall_mem_cons.mpr ⟨hk_cw131, List.forall_mem_cons.mpr ⟨hk_cw43, List.forall_mem_cons.mpr ⟨hk_cw150, List.forall_mem_cons.mpr ⟨hk_cw46, fun _ h => absurd h List.not_mem_nil⟩⟩⟩⟩⟩⟩⟩⟩⟩⟩⟩⟩⟩⟩⟩⟩
theorem hk_mL_c11 : ∀ e ∈ hk_mL_11, hk_cP e.2.2.2.1 := List.forall_mem_cons.mpr ⟨hk_cw148, List.forall_mem_cons.mpr ⟨hk_cw47, List.forall_mem_cons.mpr ⟨hk_cw152, List.forall_mem_cons.mpr ⟨hk_cw48, List.forall_mem_cons.mpr ⟨hk_cw154, List.forall_mem_cons.mpr ⟨hk_cw52, List.forall_mem_cons.mpr ⟨hk_cw159, List.forall_mem_cons.mpr ⟨hk_cw53, List.forall_mem_cons.mpr ⟨hk_cw160, List.forall_mem_cons.mpr ⟨hk_cw54, List.forall_mem_cons.mpr ⟨hk_cw161, List.forall_mem_cons.mpr ⟨hk_cw55, List.forall_mem_cons.mpr ⟨hk_cw162, List.forall_mem_cons.mpr ⟨hk_cw62, List.forall_mem_cons.mpr ⟨hk_cw168, List.forall_mem_cons.mpr ⟨hk_cw63, fun _ h => absurd h List.not_mem_nil⟩⟩⟩⟩⟩⟩⟩⟩⟩⟩⟩⟩⟩⟩⟩⟩
theorem hk_mL_c12 : ∀ e ∈ hk_mL_12, hk_cP e.2.2.2.1 := List.forall_mem_cons.mpr ⟨hk_cw169, List.forall_mem_cons.mpr ⟨hk_cw65, List.forall_mem_cons.mpr ⟨hk_cw171, List.forall_mem_cons.mpr ⟨hk_cw66, List.forall_mem_cons.mpr ⟨hk_cw174, List.forall_mem_cons.mpr ⟨hk_cw68, List.forall_mem_cons.mpr ⟨hk_cw176, List.forall_mem_cons.mpr ⟨hk_cw70, List.forall_mem_cons.mpr ⟨hk_cw177, List.forall_mem_cons.mpr ⟨hk_cw81, List.forall_mem_cons.mpr ⟨hk_cw185, List.forall_mem_cons.mpr ⟨hk_cw82, List.forall_mem_cons.mpr ⟨hk_cw186, List.forall_mem_cons.mpr ⟨hk_cw84, List.forall_mem_cons.mpr ⟨hk_cw189, List.forall_mem_cons.mpr ⟨hk_cw85, fun _ h => absurd h List.not_mem_nil⟩⟩⟩⟩⟩⟩⟩⟩⟩⟩⟩⟩⟩⟩⟩⟩
theorem hk_mL_c13 : ∀ e ∈ hk_mL_13, hk_cP e.2.2.2.1 := List.forall_mem_cons.mpr ⟨hk_cw190, List.forall_mem_cons.mpr ⟨hk_cw86, List.forall_mem_cons.mpr ⟨hk_cw191, List.forall_mem_cons.mpr ⟨hk_cw87, List.forall_mem_cons.mpr ⟨hk_cw192, List.forall_mem_cons.mpr ⟨hk_cw88, List.forall_mem_cons.mpr ⟨hk_cw193, List.forall_mem_cons.mpr ⟨hk_cw92, List.forall_mem_cons.mpr ⟨hk_cw195, List.forall_mem_cons.mpr ⟨hk_cw93, List.forall_mem_cons.mpr ⟨hk_cw196, List.forall_mem_cons.mpr ⟨hk_cw94, List.forall_mem_cons.mpr ⟨hk_cw197, List.forall_mem_cons.mpr ⟨hk_cw96, List.forall_mem_cons.mpr ⟨hk_cw199, List.forall_mem_cons.mpr ⟨hk_cw97, fun _ h => absurd h List.not_mem_nil⟩⟩⟩⟩⟩⟩⟩⟩⟩⟩⟩⟩⟩⟩⟩⟩
theorem hk_mL_c14 : ∀ e ∈ hk_mL_14, hk_cP e.2.2.2.1 := List.forall_mem_cons.mpr ⟨hk_cw200, List.forall_mem_cons.mpr ⟨hk_cw98, List.forall_mem_cons.mpr ⟨hk_cw201, List.forall_mem_cons.mpr ⟨hk_cw101, List.forall_mem_cons.mpr ⟨hk_cw204, List.forall_mem_cons.mpr ⟨hk_cw103, List.forall_mem_cons.mpr ⟨hk_cw206, List.forall_mem_cons.mpr ⟨hk_cw104, List.forall_mem_cons.mpr ⟨hk_cw207, List.forall_mem_cons.mpr ⟨hk_cw106, List.forall_mem_cons.mpr ⟨hk_cw208, List.forall_mem_cons.mpr ⟨hk_cw107, List.forall_mem_cons.mpr ⟨hk_cw211, List.forall_mem_cons.mpr ⟨hk_cw109, List.forall_mem_cons.mpr ⟨hk_cw212, List.forall_mem_cons.mpr ⟨hk_cw111, fun _ h => absurd h List.not_mem_nil⟩⟩⟩⟩⟩⟩⟩⟩⟩⟩⟩⟩⟩⟩⟩⟩
theorem hk_mL_c15 : ∀ e ∈ hk_mL_15, hk_cP e.2.2.2.1 := List.forall_mem_cons.mpr ⟨hk_cw213, List.forall_mem_cons.mpr ⟨hk_cw112, List.forall_mem_cons.mpr ⟨hk_cw214, List.forall_mem_cons.mpr ⟨hk_cw115, List.forall_mem_cons.mpr ⟨hk_cw216, List.forall_mem_cons.mpr ⟨hk_cw117, List.forall_mem_cons.mpr ⟨hk_cw219, List.forall_mem_cons.mpr ⟨hk_cw123, List.forall_mem_cons.mpr ⟨hk_cw230, List.forall_mem_cons.mpr ⟨hk_cw124, List.forall_mem_cons.mpr ⟨hk_cw231, List.forall_mem_cons.mpr ⟨hk_cw126, List.forall_mem_cons.mpr ⟨hk_cw232, List.forall_mem_cons.mpr ⟨hk_cw127, List.forall_mem_cons.mpr ⟨hk_cw235, List.forall_mem_cons.mpr ⟨hk_cw25, fun _ h => absurd h List.not_mem_nil⟩⟩⟩⟩⟩⟩⟩⟩⟩⟩⟩⟩⟩⟩⟩⟩
theorem hk_mL_c : ∀ e ∈ hk_mL, hk_cP e.2.2.2.1 := by
  unfold hk_mL
  simp only [List.forall_mem_append]
  exact ⟨⟨⟨⟨⟨⟨⟨⟨⟨⟨⟨⟨⟨⟨⟨hk_mL_c0, hk_mL_c1⟩, hk_mL_c2⟩, hk_mL_c3⟩, hk_mL_c4⟩, hk_mL_c5⟩, hk_mL_c6⟩, hk_mL_c7⟩, hk_mL_c8⟩, hk_mL_c9⟩, hk_mL_c10⟩, hk_mL_c11⟩, hk_mL_c12⟩, hk_mL_c13⟩, hk_mL_c14⟩, hk_mL_c15⟩
theorem hk_xc_max : Cond.code Lib.Math.max.name Lib.Math.max.code 2 (some .int) ∈ lw_tbl := hk_tb_in (k := 3) (hk_nth_in (n := 2) rfl)
theorem hk_xs_max : Cond.static Lib.Math.max.name ∈ lw_tbl := hk_tb_in (k := 3) (hk_nth_in (n := 1) rfl)
theorem hk_xc_min : Cond.code Lib.Math.min.name Lib.Math.min.code 2 (some .int) ∈ lw_tbl := hk_tb_in (k := 3) (hk_nth_in (n := 97) rfl)
theorem hk_xs_min : Cond.static Lib.Math.min.name ∈ lw_tbl := hk_tb_in (k := 3) (hk_nth_in (n := 96) rfl)
theorem hk_xc_abs : Cond.code Lib.Math.abs.name Lib.Math.abs.code 1 (some .int) ∈ lw_tbl := hk_tb_in (k := 3) (hk_nth_in (n := 87) rfl)
theorem hk_xs_abs : Cond.static Lib.Math.abs.name ∈ lw_tbl := hk_tb_in (k := 3) (hk_nth_in (n := 86) rfl)
theorem hk_xi : Cond.initialized "java/lang/Math" ∈ lw_tbl := hk_tb_in (k := 1) (hk_nth_in (n := 14) rfl)
end
section
/-! the tables of instructions are what the bytes say -/
def hk_pc (cd : hk_Cd) (ip : Nat) : Nat := match hk_at cd ip with
  | some e => e.1
  | none => 100000
def hk_dq (bs : ByteArray) (pc : Nat) (i : Instr) (n : Nat) : Bool := decide (decode bs pc = .ok (i, n))
def hk_tcq (ty : FieldType) (tc : Nat) : Bool := match ty, tc with
  | .int, 0 => true
  | .boolean, 1 => true
  | .long, 2 => true
  | .object _, 3 => true
  | .array _, 3 => true
  | _, _ => false
/-- the method's own number for the checks: own class, whether it is a constructor -/
def hk_chk (cd : hk_Cd) (own : Nat) (ini : Bool) (mx : Nat) (bs : ByteArray) (e : hk_In) : Bool :=
  let pc := e.1
  let nx := e.2.2.1
  let a := e.2.2.2.1
  let b := e.2.2.2.2.1
  let c := e.2.2.2.2.2.1
  let tl := e.2.2.2.2.2.2
  let N := fun (k : Nat) => Nat.beq (hk_pc cd nx) (pc + k)
  let D := fun (i : Instr) (k : Nat) => hk_dq bs pc i k && N k
  let J := fun (off : Int) => decide ((pc : Int) + off = (hk_pc cd a : Int))
  match e.2.1 with
  | .nop => true
  | .iconst _ => (match decode bs pc with
    | .ok (.iconst z, 1) => decide (Int32.ofInt z = c) && N 1
    | .ok (.bipush z, 2) => decide ((Int8.ofInt z).toInt32 = c) && N 2
    | .ok (.sipush z, 3) => decide ((Int16.ofInt z).toInt32 = c) && N 3
    | .ok (.ldc x, 2) => hk_iL.any (fun q => Nat.beq q.1 own && Nat.beq q.2.1 x && decide (q.2.2.1 = c)) && N 2
    | .ok (.ldc_w x, 3) => hk_iL.any (fun q => Nat.beq q.1 own && Nat.beq q.2.1 x && decide (q.2.2.1 = c)) && N 3
    | _ => false)
  | .lconst _ => (match decode bs pc with
    | .ok (.lconst z, 1) => Nat.beq z.val a && Nat.blt a 2 && N 1
    | .ok (.ldc2_w x, 3) => hk_lL.any (fun q => Nat.beq q.1 own && Nat.beq q.2.1 x && Nat.beq q.2.2.1 a) && N 3
    | _ => false)
  | .ldc _ => (match decode bs pc with
    | .ok (.ldc x, 2) => hk_sL.any (fun q => Nat.beq q.1 own && Nat.beq q.2.1 x && Nat.beq q.2.2.1 a) && N 2
    | _ => false)
  | .iload j => D (.iload j) 2 || (Nat.blt j 4 && D (.iload_n (Fin.ofNat 4 j)) 1)
  | .lload j => D (.lload j) 2 || (Nat.blt j 4 && D (.lload_n (Fin.ofNat 4 j)) 1)
  | .aload j => D (.aload j) 2 || (Nat.blt j 4 && D (.aload_n (Fin.ofNat 4 j)) 1)
  | .istore j => Nat.blt j mx && (D (.istore j) 2 || (Nat.blt j 4 && D (.istore_n (Fin.ofNat 4 j)) 1))
  | .lstore j => Nat.blt (j + 1) mx && (D (.lstore j) 2 || (Nat.blt j 4 && D (.lstore_n (Fin.ofNat 4 j)) 1))
  | .astore j => Nat.blt j mx && (D (.astore j) 2 || (Nat.blt j 4 && D (.astore_n (Fin.ofNat 4 j)) 1))
  | .iinc j _ => (match decode bs pc with
    | .ok (.iinc j' z, 3) => Nat.beq j' j && Nat.blt j mx && decide (Int32.ofInt z = c) && N 3
    | _ => false)
  | .goto _ => (match decode bs pc with
    | .ok (.goto off, 3) => J off
    | _ => false)
  | .ifCond d _ => (match decode bs pc with
    | .ok (.ifCond d' off, 3) => decide (d' = d) && J off && N 3
    | _ => false)
  | .if_icmp d _ => (match decode bs pc with
    | .ok (.if_icmp d' off, 3) => decide (d' = d) && J off && N 3
    | _ => false)
  | .ifnull _ => (match decode bs pc with
    | .ok (.ifnull off, 3) => J off && N 3
    | _ => false)
  | .ifnonnull _ => (match decode bs pc with
    | .ok (.ifnonnull off, 3) => J off && N 3
    | _ => false)
  | .tableswitch _ lo _ _ => (match decode bs pc with
    | .ok (.tableswitch df lo' hi offs, _) => decide (lo' = lo) && decide (hi = lo + ((tl.length : Int) - 1)) && J df && decide (offs.toList.map (fun o => (pc : Int) + o) = tl.map (fun t => (hk_pc cd t : Int)))
    | _ => false)
  | .getstatic _ => (match decode bs pc with
    | .ok (.getstatic x, 3) => hk_zL.any (fun q => Nat.beq q.1 own && Nat.beq q.2.1 x && Nat.beq q.2.2.1 a) && N 3 && Nat.blt a 4
    | _ => false)
  | .getfield _ => (match decode bs pc with
    | .ok (.getfield x, 3) => hk_fL.any (fun q => Nat.beq q.1 own && Nat.beq q.2.1 x && Nat.beq q.2.2.1 a && Nat.beq q.2.2.2.1 b) && N 3
    | _ => false)
  | .putfield _ => (match decode bs pc with
    | .ok (.putfield x, 3) => hk_fL.any (fun q => Nat.beq q.1 own && Nat.beq q.2.1 x && Nat.beq q.2.2.1 a && Nat.beq q.2.2.2.1 b) && N 3 && Nat.blt a 9 && (!(hk_T a b).2.2.2 || (ini && Nat.beq own a)) && (match tl with | [tc] => hk_tcq (hk_ty a b) tc | _ => false)
    | _ => false)
  | .invokevirtual _ => (match decode bs pc with
    | .ok (.invokevirtual x, 3) => hk_mL.any (fun q => Nat.beq q.1 own && Nat.beq q.2.1 x && Nat.beq q.2.2.1 0 && Nat.beq q.2.2.2.1 a) && N 3 && decide (hk_dsc a = some b) && (match tl, hk_nth hk_bds a with | [t, k, n], some (_, _, k', n', _) => Nat.beq t (hk_mo a) && Nat.beq k k' && Nat.beq n n' | _, _ => false)
    | _ => false)
  | .invokestatic _ => (match decode bs pc with
    | .ok (.invokestatic x, 3) => hk_mL.any (fun q => Nat.beq q.1 own && Nat.beq q.2.1 x && (Nat.beq q.2.2.1 1 || Nat.beq q.2.2.1 3) && Nat.beq q.2.2.2.1 a) && N 3 && decide (hk_dsc a = some b) && (match tl, hk_nth hk_bds a with | [_, k, n], some (_, _, k', n', _) => Nat.beq k k' && Nat.beq n n' | _, _ => false)
    | _ => false)
  | .invokespecial _ => (match decode bs pc with
    | .ok (.invokespecial x, 3) => hk_mL.any (fun q => Nat.beq q.1 own && Nat.beq q.2.1 x && (Nat.beq q.2.2.1 2 || Nat.beq q.2.2.1 4) && Nat.beq q.2.2.2.1 a) && N 3 && decide (hk_dsc a = some b) && (match tl, hk_nth hk_bds a with | [_, k, n], some (_, _, k', n', _) => Nat.beq k k' && Nat.beq n n' | _, _ => false)
    | _ => false)
  | .invokedynamic _ => (match decode bs pc with
    | .ok (.invokespecial x, 3) => hk_oL.any (fun q => Nat.beq q.1 own && Nat.beq q.2.1 x) && N 3
    | _ => false)
  | .invokeinterface _ _ => (match decode bs pc with
    | .ok (.invokestatic x, 3) => hk_yL.any (fun q => Nat.beq q.1 own && Nat.beq q.2.1 x) && N 3
    | _ => false)
  | .fadd => (match decode bs pc with
    | .ok (.invokestatic x, 3) => hk_xL.any (fun q => Nat.beq q.1 own && Nat.beq q.2.1 x && Nat.beq q.2.2.1 0) && N 3
    | _ => false)
  | .fsub => (match decode bs pc with
    | .ok (.invokestatic x, 3) => hk_xL.any (fun q => Nat.beq q.1 own && Nat.beq q.2.1 x && Nat.beq q.2.2.1 1) && N 3
    | _ => false)
  | .fneg => (match decode bs pc with
    | .ok (.invokestatic x, 3) => hk_xL.any (fun q => Nat.beq q.1 own && Nat.beq q.2.1 x && Nat.beq q.2.2.1 2) && N 3
    | _ => false)
  | .new _ => (match decode bs pc with
    | .ok (.new x, 3) => hk_nL.any (fun q => Nat.beq q.1 own && Nat.beq q.2.1 x && Nat.beq q.2.2.1 a) && N 3 && Nat.beq b (hk_nf a)
    | _ => false)
  | .newarray _ => (match decode bs pc with
    | .ok (.newarray .int, 2) => Nat.beq a 10 && N 2
    | .ok (.newarray .long, 2) => Nat.beq a 11 && N 2
    | .ok (.newarray .byte, 2) => Nat.beq a 12 && N 2
    | _ => false)
  | .anewarray _ => (match decode bs pc with
    | .ok (.anewarray x, 3) => hk_aL.any (fun q => Nat.beq q.1 own && Nat.beq q.2.1 x && Nat.beq q.2.2.1 a) && N 3
    | _ => false)
  | .ireturn => hk_dq bs pc .ireturn 1
  | .return_ => hk_dq bs pc .return_ 1
  | .aconst_null => D .aconst_null 1
  | .pop => D .pop 1
  | .dup => D .dup 1
  | .iadd => D .iadd 1
  | .isub => D .isub 1
  | .imul => D .imul 1
  | .iand => D .iand 1
  | .ior => D .ior 1
  | .ixor => D .ixor 1
  | .ishl => D .ishl 1
  | .ishr => D .ishr 1
  | .iushr => D .iushr 1
  | .idiv => D .idiv 1
  | .irem => D .irem 1
  | .ineg => D .ineg 1
  | .i2l => D .i2l 1
  | .i2b => D .i2b 1
  | .i2s => D .i2s 1
  | .i2c => D .i2c 1
  | .l2i => D .l2i 1
  | .ladd => D .ladd 1
  | .lsub => D .lsub 1
  | .lmul => D .lmul 1
  | .land => D .land 1
  | .lor => D .lor 1
  | .lcmp => D .lcmp 1
  | .lshl => D .lshl 1
  | .lshr => D .lshr 1
  | .lushr => D .lushr 1
  | .iaload => D .iaload 1
  | .laload => D .laload 1
  | .baload => D .baload 1
  | .aaload => D .aaload 1
  | .iastore => D .iastore 1
  | .lastore => D .lastore 1
  | .bastore => D .bastore 1
  | .aastore => D .aastore 1
  | .arraylength => D .arraylength 1
  | _ => false
def hk_chM (M : Nat) : Bool := (hk_mc M).all (fun l => l.all (hk_chk (hk_mc M) (hk_mo M) (decide ((hk_my M).name = "<init>")) (hk_ml M) (hk_mb M))) && Nat.beq (hk_pc (hk_mc M) 0) 0
end
section
set_option maxRecDepth 100000 in
theorem hk_ch0 : hk_chM 0 = true := by decide +kernel
set_option maxRecDepth 100000 in
theorem hk_ch1 : hk_chM 1 = true := by decide +kernel
set_option maxRecDepth 100000 in
theorem hk_ch2 : hk_chM 2 = true := by decide +kernel
set_option maxRecDepth 100000 in
theorem hk_ch3 : hk_chM 3 = true := by decide +kernel
set_option maxRecDepth 100000 in
theorem hk_ch4 : hk_chM 4 = true := by decide +kernel
set_option maxRecDepth 100000 in
theorem hk_ch5 : hk_chM 5 = true := by decide +kernel
set_option maxRecDepth 100000 in
theorem hk_ch6 : hk_chM 6 = true := by decide +kernel
set_option maxRecDepth 100000 in
theorem hk_ch7 : hk_chM 7 = true := by decide +kernel
set_option maxRecDepth 100000 in
theorem hk_ch8 : hk_chM 8 = true := by decide +kernel
set_option maxRecDepth 100000 in
theorem hk_ch9 : hk_chM 9 = true := by decide +kernel
set_option maxRecDepth 100000 in
theorem hk_ch10 : hk_chM 10 = true := by decide +kernel
set_option maxRecDepth 100000 in
theorem hk_ch11 : hk_chM 11 = true := by decide +kernel
set_option maxRecDepth 100000 in
theorem hk_ch12 : hk_chM 12 = true := by decide +kernel
set_option maxRecDepth 100000 in
theorem hk_ch13 : hk_chM 13 = true := by decide +kernel
set_option maxRecDepth 100000 in
theorem hk_ch14 : hk_chM 14 = true := by decide +kernel
set_option maxRecDepth 100000 in
theorem hk_ch15 : hk_chM 15 = true := by decide +kernel
set_option maxRecDepth 100000 in
theorem hk_ch16 : hk_chM 16 = true := by decide +kernel
set_option maxRecDepth 100000 in
theorem hk_ch17 : hk_chM 17 = true := by decide +kernel
set_option maxRecDepth 100000 in
theorem hk_ch18 : hk_chM 18 = true := by decide +kernel
set_option maxRecDepth 100000 in
theorem hk_ch19 : hk_chM 19 = true := by decide +kernel
set_option maxRecDepth 100000 in
theorem hk_ch20 : hk_chM 20 = true := by decide +kernel
set_option maxRecDepth 100000 in
theorem hk_ch21 : hk_chM 21 = true := by decide +kernel
set_option maxRecDepth 100000 in
theorem hk_ch22 : hk_chM 22 = true := by decide +kernel
set_option maxRecDepth 100000 in
theorem hk_ch23 : hk_chM 23 = true := by decide +kernel
set_option maxRecDepth 100000 in
theorem hk_ch24 : hk_chM 24 = true := by decide +kernel
set_option maxRecDepth 100000 in
theorem hk_ch25 : hk_chM 25 = true := by decide +kernel
set_option maxRecDepth 100000 in
theorem hk_ch26 : hk_chM 26 = true := by decide +kernel
set_option maxRecDepth 100000 in
theorem hk_ch27 : hk_chM 27 = true := by decide +kernel
set_option maxRecDepth 100000 in
theorem hk_ch28 : hk_chM 28 = true := by decide +kernel
set_option maxRecDepth 100000 in
theorem hk_ch29 : hk_chM 29 = true := by decide +kernel
set_option maxRecDepth 100000 in
theorem hk_ch30 : hk_chM 30 = true := by decide +kernel
set_option maxRecDepth 100000 in
theorem hk_ch31 : hk_chM 31 = true := by decide +kernel
set_option maxRecDepth 100000 in
theorem hk_ch32 : hk_chM 32 = true := by decide +kernel
set_option maxRecDepth 100000 in
theorem hk_ch33 : hk_chM 33 = true := by decide +kernel
set_option maxRecDepth 100000 in
theorem hk_ch34 : hk_chM 34 = true := by decide +kernel
set_option maxRecDepth 100000 in
theorem hk_ch35 : hk_chM 35 = true := by decide +kernel
set_option maxRecDepth 100000 in
theorem hk_ch36 : hk_chM 36 = true := by decide +kernel
set_option maxRecDepth 100000 in
theorem hk_ch37 : hk_chM 37 = true := by decide +kernel
set_option maxRecDepth 100000 in
theorem hk_ch38 : hk_chM 38 = true := by decide +kernel
set_option maxRecDepth 100000 in
theorem hk_ch39 : hk_chM 39 = true := by decide +kernel
set_option maxRecDepth 100000 in
theorem hk_ch40 : hk_chM 40 = true := by decide +kernel
set_option maxRecDepth 100000 in
theorem hk_ch41 : hk_chM 41 = true := by decide +kernel
set_option maxRecDepth 100000 in
theorem hk_ch42 : hk_chM 42 = true := by decide +kernel
set_option maxRecDepth 100000 in
theorem hk_ch43 : hk_chM 43 = true := by decide +kernel
set_option maxRecDepth 100000 in
theorem hk_ch44 : hk_chM 44 = true := by decide +kernel
set_option maxRecDepth 100000 in
theorem hk_ch45 : hk_chM 45 = true := by decide +kernel
set_option maxRecDepth 100000 in
theorem hk_ch46 : hk_chM 46 = true := by decide +kernel
set_option maxRecDepth 100000 in
theorem hk_ch47 : hk_chM 47 = true := by decide +kernel
set_option maxRecDepth 100000 in
theorem hk_ch48 : hk_chM 48 = true := by decide +kernel
set_option maxRecDepth 100000 in
theorem hk_ch49 : hk_chM 49 = true := by decide +kernel
set_option maxRecDepth 100000 in
theorem hk_ch50 : hk_chM 50 = true := by decide +kernel
set_option maxRecDepth 100000 in
theorem hk_ch51 : hk_chM 51 = true := by decide +kernel
set_option maxRecDepth 100000 in
theorem hk_ch52 : hk_chM 52 = true := by decide +kernel
set_option maxRecDepth 100000 in
theorem hk_ch53 : hk_chM 53 = true := by decide +kernel
set_option maxRecDepth 100000 in
theorem hk_ch54 : hk_chM 54 = true := by decide +kernel
set_option maxRecDepth 100000 in
theorem hk_ch55 : hk_chM 55 = true := by decide +kernel
set_option maxRecDepth 100000 in
theorem hk_ch56 : hk_chM 56 = true := by decide +kernel
set_option maxRecDepth 100000 in
theorem hk_ch57 : hk_chM 57 = true := by decide +kernel
set_option maxRecDepth 100000 in
theorem hk_ch58 : hk_chM 58 = true := by decide +kernel
set_option maxRecDepth 100000 in
theorem hk_ch59 : hk_chM 59 = true := by decide +kernel
end
section
set_option maxRecDepth 100000 in
theorem hk_ch60 : hk_chM 60 = true := by decide +kernel
set_option maxRecDepth 100000 in
theorem hk_ch61 : hk_chM 61 = true := by decide +kernel
set_option maxRecDepth 100000 in
theorem hk_ch62 : hk_chM 62 = true := by decide +kernel
set_option maxRecDepth 100000 in
theorem hk_ch63 : hk_chM 63 = true := by decide +kernel
set_option maxRecDepth 100000 in
theorem hk_ch64 : hk_chM 64 = true := by decide +kernel
set_option maxRecDepth 100000 in
theorem hk_ch65 : hk_chM 65 = true := by decide +kernel
set_option maxRecDepth 100000 in
theorem hk_ch66 : hk_chM 66 = true := by decide +kernel
set_option maxRecDepth 100000 in
theorem hk_ch67 : hk_chM 67 = true := by decide +kernel
set_option maxRecDepth 100000 in
theorem hk_ch68 : hk_chM 68 = true := by decide +kernel
set_option maxRecDepth 100000 in
theorem hk_ch69 : hk_chM 69 = true := by decide +kernel
set_option maxRecDepth 100000 in
theorem hk_ch70 : hk_chM 70 = true := by decide +kernel
set_option maxRecDepth 100000 in
theorem hk_ch71 : hk_chM 71 = true := by decide +kernel
set_option maxRecDepth 100000 in
theorem hk_ch72 : hk_chM 72 = true := by decide +kernel
set_option maxRecDepth 100000 in
theorem hk_ch73 : hk_chM 73 = true := by decide +kernel
set_option maxRecDepth 100000 in
theorem hk_ch74 : hk_chM 74 = true := by decide +kernel
set_option maxRecDepth 100000 in
theorem hk_ch75 : hk_chM 75 = true := by decide +kernel
set_option maxRecDepth 100000 in
theorem hk_ch76 : hk_chM 76 = true := by decide +kernel
set_option maxRecDepth 100000 in
theorem hk_ch77 : hk_chM 77 = true := by decide +kernel
set_option maxRecDepth 100000 in
theorem hk_ch78 : hk_chM 78 = true := by decide +kernel
set_option maxRecDepth 100000 in
theorem hk_ch79 : hk_chM 79 = true := by decide +kernel
set_option maxRecDepth 100000 in
theorem hk_ch80 : hk_chM 80 = true := by decide +kernel
set_option maxRecDepth 100000 in
theorem hk_ch81 : hk_chM 81 = true := by decide +kernel
set_option maxRecDepth 100000 in
theorem hk_ch82 : hk_chM 82 = true := by decide +kernel
set_option maxRecDepth 100000 in
theorem hk_ch83 : hk_chM 83 = true := by decide +kernel
set_option maxRecDepth 100000 in
theorem hk_ch84 : hk_chM 84 = true := by decide +kernel
set_option maxRecDepth 100000 in
theorem hk_ch85 : hk_chM 85 = true := by decide +kernel
set_option maxRecDepth 100000 in
theorem hk_ch86 : hk_chM 86 = true := by decide +kernel
set_option maxRecDepth 100000 in
theorem hk_ch87 : hk_chM 87 = true := by decide +kernel
set_option maxRecDepth 100000 in
theorem hk_ch88 : hk_chM 88 = true := by decide +kernel
set_option maxRecDepth 100000 in
theorem hk_ch89 : hk_chM 89 = true := by decide +kernel
set_option maxRecDepth 100000 in
theorem hk_ch90 : hk_chM 90 = true := by decide +kernel
set_option maxRecDepth 100000 in
theorem hk_ch91 : hk_chM 91 = true := by decide +kernel
set_option maxRecDepth 100000 in
theorem hk_ch92 : hk_chM 92 = true := by decide +kernel
set_option maxRecDepth 100000 in
theorem hk_ch93 : hk_chM 93 = true := by decide +kernel
set_option maxRecDepth 100000 in
theorem hk_ch94 : hk_chM 94 = true := by decide +kernel
set_option maxRecDepth 100000 in
theorem hk_ch95 : hk_chM 95 = true := by decide +kernel
set_option maxRecDepth 100000 in
theorem hk_ch96 : hk_chM 96 = true := by decide +kernel
set_option maxRecDepth 100000 in
theorem hk_ch97 : hk_chM 97 = true := by decide +kernel
set_option maxRecDepth 100000 in
theorem hk_ch98 : hk_chM 98 = true := by decide +kernel
set_option maxRecDepth 100000 in
theorem hk_ch99 : hk_chM 99 = true := by decide +kernel
set_option maxRecDepth 100000 in
theorem hk_ch100 : hk_chM 100 = true := by decide +kernel
set_option maxRecDepth 100000 in
theorem hk_ch101 : hk_chM 101 = true := by decide +kernel
set_option maxRecDepth 100000 in
theorem hk_ch102 : hk_chM 102 = true := by decide +kernel
set_option maxRecDepth 100000 in
theorem hk_ch103 : hk_chM 103 = true := by decide +kernel
set_option maxRecDepth 100000 in
theorem hk_ch104 : hk_chM 104 = true := by decide +kernel
set_option maxRecDepth 100000 in
theorem hk_ch105 : hk_chM 105 = true := by decide +kernel
set_option maxRecDepth 100000 in
theorem hk_ch106 : hk_chM 106 = true := by decide +kernel
set_option maxRecDepth 100000 in
theorem hk_ch107 : hk_chM 107 = true := by decide +kernel
set_option maxRecDepth 100000 in
theorem hk_ch108 : hk_chM 108 = true := by decide +kernel
set_option maxRecDepth 100000 in
theorem hk_ch109 : hk_chM 109 = true := by decide +kernel
set_option maxRecDepth 100000 in
theorem hk_ch110 : hk_chM 110 = true := by decide +kernel
set_option maxRecDepth 100000 in
theorem hk_ch111 : hk_chM 111 = true := by decide +kernel
set_option maxRecDepth 100000 in
theorem hk_ch112 : hk_chM 112 = true := by decide +kernel
set_option maxRecDepth 100000 in
theorem hk_ch113 : hk_chM 113 = true := by decide +kernel
set_option maxRecDepth 100000 in
theorem hk_ch114 : hk_chM 114 = true := by decide +kernel
set_option maxRecDepth 100000 in
theorem hk_ch115 : hk_chM 115 = true := by decide +kernel
set_option maxRecDepth 100000 in
theorem hk_ch116 : hk_chM 116 = true := by decide +kernel
set_option maxRecDepth 100000 in
theorem hk_ch117 : hk_chM 117 = true := by decide +kernel
set_option maxRecDepth 100000 in
theorem hk_ch118 : hk_chM 118 = true := by decide +kernel
set_option maxRecDepth 100000 in
theorem hk_ch119 : hk_chM 119 = true := by decide +kernel
end
section
set_option maxRecDepth 100000 in
theorem hk_ch120 : hk_chM 120 = true := by decide +kernel
set_option maxRecDepth 100000 in
theorem hk_ch121 : hk_chM 121 = true := by decide +kernel
set_option maxRecDepth 100000 in
theorem hk_ch122 : hk_chM 122 = true := by decide +kernel
set_option maxRecDepth 100000 in
theorem hk_ch123 : hk_chM 123 = true := by decide +kernel
set_option maxRecDepth 100000 in
theorem hk_ch124 : hk_chM 124 = true := by decide +kernel
set_option maxRecDepth 100000 in
theorem hk_ch125 : hk_chM 125 = true := by decide +kernel
set_option maxRecDepth 100000 in
theorem hk_ch126 : hk_chM 126 = true := by decide +kernel
set_option maxRecDepth 100000 in
theorem hk_ch127 : hk_chM 127 = true := by decide +kernel
set_option maxRecDepth 100000 in
theorem hk_ch128 : hk_chM 128 = true := by decide +kernel
set_option maxRecDepth 100000 in
theorem hk_ch129 : hk_chM 129 = true := by decide +kernel
set_option maxRecDepth 100000 in
theorem hk_ch130 : hk_chM 130 = true := by decide +kernel
set_option maxRecDepth 100000 in
theorem hk_ch131 : hk_chM 131 = true := by decide +kernel
set_option maxRecDepth 100000 in
theorem hk_ch132 : hk_chM 132 = true := by decide +kernel
set_option maxRecDepth 100000 in
theorem hk_ch133 : hk_chM 133 = true := by decide +kernel
set_option maxRecDepth 100000 in
theorem hk_ch134 : hk_chM 134 = true := by decide +kernel
set_option maxRecDepth 100000 in
theorem hk_ch135 : hk_chM 135 = true := by decide +kernel
set_option maxRecDepth 100000 in
theorem hk_ch136 : hk_chM 136 = true := by decide +kernel
set_option maxRecDepth 100000 in
theorem hk_ch137 : hk_chM 137 = true := by decide +kernel
set_option maxRecDepth 100000 in
theorem hk_ch138 : hk_chM 138 = true := by decide +kernel
set_option maxRecDepth 100000 in
theorem hk_ch139 : hk_chM 139 = true := by decide +kernel
set_option maxRecDepth 100000 in
theorem hk_ch140 : hk_chM 140 = true := by decide +kernel
set_option maxRecDepth 100000 in
theorem hk_ch141 : hk_chM 141 = true := by decide +kernel
set_option maxRecDepth 100000 in
theorem hk_ch142 : hk_chM 142 = true := by decide +kernel
set_option maxRecDepth 100000 in
theorem hk_ch143 : hk_chM 143 = true := by decide +kernel
set_option maxRecDepth 100000 in
theorem hk_ch144 : hk_chM 144 = true := by decide +kernel
set_option maxRecDepth 100000 in
theorem hk_ch145 : hk_chM 145 = true := by decide +kernel
set_option maxRecDepth 100000 in
theorem hk_ch146 : hk_chM 146 = true := by decide +kernel
set_option maxRecDepth 100000 in
theorem hk_ch147 : hk_chM 147 = true := by decide +kernel
set_option maxRecDepth 100000 in
theorem hk_ch148 : hk_chM 148 = true := by decide +kernel
set_option maxRecDepth 100000 in
theorem hk_ch149 : hk_chM 149 = true := by decide +kernel
set_option maxRecDepth 100000 in
theorem hk_ch150 : hk_chM 150 = true := by decide +kernel
set_option maxRecDepth 100000 in
theorem hk_ch151 : hk_chM 151 = true := by decide +kernel
set_option maxRecDepth 100000 in
theorem hk_ch152 : hk_chM 152 = true := by decide +kernel
set_option maxRecDepth 100000 in
theorem hk_ch153 : hk_chM 153 = true := by decide +kernel
set_option maxRecDepth 100000 in
theorem hk_ch154 : hk_chM 154 = true := by decide +kernel
set_option maxRecDepth 100000 in
theorem hk_ch155 : hk_chM 155 = true := by decide +kernel
set_option maxRecDepth 100000 in
theorem hk_ch156 : hk_chM 156 = true := by decide +kernel
set_option maxRecDepth 100000 in
theorem hk_ch157 : hk_chM 157 = true := by decide +kernel
set_option maxRecDepth 100000 in
theorem hk_ch158 : hk_chM 158 = true := by decide +kernel
set_option maxRecDepth 100000 in
theorem hk_ch159 : hk_chM 159 = true := by decide +kernel
set_option maxRecDepth 100000 in
theorem hk_ch160 : hk_chM 160 = true := by decide +kernel
set_option maxRecDepth 100000 in
theorem hk_ch161 : hk_chM 161 = true := by decide +kernel
set_option maxRecDepth 100000 in
theorem hk_ch162 : hk_chM 162 = true := by decide +kernel
set_option maxRecDepth 100000 in
theorem hk_ch163 : hk_chM 163 = true := by decide +kernel
set_option maxRecDepth 100000 in
theorem hk_ch164 : hk_chM 164 = true := by decide +kernel
set_option maxRecDepth 100000 in
theorem hk_ch165 : hk_chM 165 = true := by decide +kernel
set_option maxRecDepth 100000 in
theorem hk_ch166 : hk_chM 166 = true := by decide +kernel
set_option maxRecDepth 100000 in
theorem hk_ch167 : hk_chM 167 = true := by decide +kernel
set_option maxRecDepth 100000 in
theorem hk_ch168 : hk_chM 168 = true := by decide +kernel
set_option maxRecDepth 100000 in
theorem hk_ch169 : hk_chM 169 = true := by decide +kernel
set_option maxRecDepth 100000 in
theorem hk_ch170 : hk_chM 170 = true := by decide +kernel
set_option maxRecDepth 100000 in
theorem hk_ch171 : hk_chM 171 = true := by decide +kernel
set_option maxRecDepth 100000 in
theorem hk_ch172 : hk_chM 172 = true := by decide +kernel
set_option maxRecDepth 100000 in
theorem hk_ch173 : hk_chM 173 = true := by decide +kernel
set_option maxRecDepth 100000 in
theorem hk_ch174 : hk_chM 174 = true := by decide +kernel
set_option maxRecDepth 100000 in
theorem hk_ch175 : hk_chM 175 = true := by decide +kernel
set_option maxRecDepth 100000 in
theorem hk_ch176 : hk_chM 176 = true := by decide +kernel
set_option maxRecDepth 100000 in
theorem hk_ch177 : hk_chM 177 = true := by decide +kernel
set_option maxRecDepth 100000 in
theorem hk_ch178 : hk_chM 178 = true := by decide +kernel
set_option maxRecDepth 100000 in
theorem hk_ch179 : hk_chM 179 = true := by decide +kernel
end
section
set_option maxRecDepth 100000 in
theorem hk_ch180 : hk_chM 180 = true := by decide +kernel
set_option maxRecDepth 100000 in
theorem hk_ch181 : hk_chM 181 = true := by decide +kernel
set_option maxRecDepth 100000 in
theorem hk_ch182 : hk_chM 182 = true := by decide +kernel
set_option maxRecDepth 100000 in
theorem hk_ch183 : hk_chM 183 = true := by decide +kernel
set_option maxRecDepth 100000 in
theorem hk_ch184 : hk_chM 184 = true := by decide +kernel
set_option maxRecDepth 100000 in
theorem hk_ch185 : hk_chM 185 = true := by decide +kernel
set_option maxRecDepth 100000 in
theorem hk_ch186 : hk_chM 186 = true := by decide +kernel
set_option maxRecDepth 100000 in
theorem hk_ch187 : hk_chM 187 = true := by decide +kernel
set_option maxRecDepth 100000 in
theorem hk_ch188 : hk_chM 188 = true := by decide +kernel
set_option maxRecDepth 100000 in
theorem hk_ch189 : hk_chM 189 = true := by decide +kernel
set_option maxRecDepth 100000 in
theorem hk_ch190 : hk_chM 190 = true := by decide +kernel
set_option maxRecDepth 100000 in
theorem hk_ch191 : hk_chM 191 = true := by decide +kernel
set_option maxRecDepth 100000 in
theorem hk_ch192 : hk_chM 192 = true := by decide +kernel
set_option maxRecDepth 100000 in
theorem hk_ch193 : hk_chM 193 = true := by decide +kernel
set_option maxRecDepth 100000 in
theorem hk_ch194 : hk_chM 194 = true := by decide +kernel
set_option maxRecDepth 100000 in
theorem hk_ch195 : hk_chM 195 = true := by decide +kernel
set_option maxRecDepth 100000 in
theorem hk_ch196 : hk_chM 196 = true := by decide +kernel
set_option maxRecDepth 100000 in
theorem hk_ch197 : hk_chM 197 = true := by decide +kernel
set_option maxRecDepth 100000 in
theorem hk_ch198 : hk_chM 198 = true := by decide +kernel
set_option maxRecDepth 100000 in
theorem hk_ch199 : hk_chM 199 = true := by decide +kernel
set_option maxRecDepth 100000 in
theorem hk_ch200 : hk_chM 200 = true := by decide +kernel
set_option maxRecDepth 100000 in
theorem hk_ch201 : hk_chM 201 = true := by decide +kernel
set_option maxRecDepth 100000 in
theorem hk_ch202 : hk_chM 202 = true := by decide +kernel
set_option maxRecDepth 100000 in
theorem hk_ch203 : hk_chM 203 = true := by decide +kernel
set_option maxRecDepth 100000 in
theorem hk_ch204 : hk_chM 204 = true := by decide +kernel
set_option maxRecDepth 100000 in
theorem hk_ch205 : hk_chM 205 = true := by decide +kernel
set_option maxRecDepth 100000 in
theorem hk_ch206 : hk_chM 206 = true := by decide +kernel
set_option maxRecDepth 100000 in
theorem hk_ch207 : hk_chM 207 = true := by decide +kernel
set_option maxRecDepth 100000 in
theorem hk_ch208 : hk_chM 208 = true := by decide +kernel
set_option maxRecDepth 100000 in
theorem hk_ch209 : hk_chM 209 = true := by decide +kernel
set_option maxRecDepth 100000 in
theorem hk_ch210 : hk_chM 210 = true := by decide +kernel
set_option maxRecDepth 100000 in
theorem hk_ch211 : hk_chM 211 = true := by decide +kernel
set_option maxRecDepth 100000 in
theorem hk_ch212 : hk_chM 212 = true := by decide +kernel
set_option maxRecDepth 100000 in
theorem hk_ch213 : hk_chM 213 = true := by decide +kernel
set_option maxRecDepth 100000 in
theorem hk_ch214 : hk_chM 214 = true := by decide +kernel
set_option maxRecDepth 100000 in
theorem hk_ch215 : hk_chM 215 = true := by decide +kernel
set_option maxRecDepth 100000 in
theorem hk_ch216 : hk_chM 216 = true := by decide +kernel
set_option maxRecDepth 100000 in
theorem hk_ch217 : hk_chM 217 = true := by decide +kernel
set_option maxRecDepth 100000 in
theorem hk_ch218 : hk_chM 218 = true := by decide +kernel
set_option maxRecDepth 100000 in
theorem hk_ch219 : hk_chM 219 = true := by decide +kernel
set_option maxRecDepth 100000 in
theorem hk_ch220 : hk_chM 220 = true := by decide +kernel
set_option maxRecDepth 100000 in
theorem hk_ch221 : hk_chM 221 = true := by decide +kernel
set_option maxRecDepth 100000 in
theorem hk_ch222 : hk_chM 222 = true := by decide +kernel
set_option maxRecDepth 100000 in
theorem hk_ch223 : hk_chM 223 = true := by decide +kernel
set_option maxRecDepth 100000 in
theorem hk_ch224 : hk_chM 224 = true := by decide +kernel
set_option maxRecDepth 100000 in
theorem hk_ch225 : hk_chM 225 = true := by decide +kernel
set_option maxRecDepth 100000 in
theorem hk_ch226 : hk_chM 226 = true := by decide +kernel
set_option maxRecDepth 100000 in
theorem hk_ch227 : hk_chM 227 = true := by decide +kernel
set_option maxRecDepth 100000 in
theorem hk_ch228 : hk_chM 228 = true := by decide +kernel
set_option maxRecDepth 100000 in
theorem hk_ch229 : hk_chM 229 = true := by decide +kernel
set_option maxRecDepth 100000 in
theorem hk_ch230 : hk_chM 230 = true := by decide +kernel
set_option maxRecDepth 100000 in
theorem hk_ch231 : hk_chM 231 = true := by decide +kernel
set_option maxRecDepth 100000 in
theorem hk_ch232 : hk_chM 232 = true := by decide +kernel
set_option maxRecDepth 100000 in
theorem hk_ch233 : hk_chM 233 = true := by decide +kernel
set_option maxRecDepth 100000 in
theorem hk_ch234 : hk_chM 234 = true := by decide +kernel
set_option maxRecDepth 100000 in
theorem hk_ch235 : hk_chM 235 = true := by decide +kernel
end
section
def hk_chL (l : List hk_In) : Bool := l.all (hk_chk hcdLAW 10 false 4 code)
set_option maxRecDepth 100000 in
theorem hk_chLAW_0 : hk_chL hcdLAW_0 = true := by decide +kernel
set_option maxRecDepth 100000 in
theorem hk_chLAW_1 : hk_chL hcdLAW_1 = true := by decide +kernel
set_option maxRecDepth 100000 in
theorem hk_chLAW_2 : hk_chL hcdLAW_2 = true := by decide +kernel
set_option maxRecDepth 100000 in
theorem hk_chLAW_3 : hk_chL hcdLAW_3 = true := by decide +kernel
set_option maxRecDepth 100000 in
theorem hk_chLAW_4 : hk_chL hcdLAW_4 = true := by decide +kernel
set_option maxRecDepth 100000 in
theorem hk_chLAW_5 : hk_chL hcdLAW_5 = true := by decide +kernel
set_option maxRecDepth 100000 in
theorem hk_chLAW_6 : hk_chL hcdLAW_6 = true := by decide +kernel
set_option maxRecDepth 100000 in
theorem hk_chLAW_7 : hk_chL hcdLAW_7 = true := by decide +kernel
set_option maxRecDepth 100000 in
theorem hk_chLAW_8 : hk_chL hcdLAW_8 = true := by decide +kernel
set_option maxRecDepth 100000 in
theorem hk_chLAW_9 : hk_chL hcdLAW_9 = true := by decide +kernel
set_option maxRecDepth 100000 in
theorem hk_chLAW_10 : hk_chL hcdLAW_10 = true := by decide +kernel
set_option maxRecDepth 100000 in
theorem hk_chLAW_11 : hk_chL hcdLAW_11 = true := by decide +kernel
set_option maxRecDepth 100000 in
theorem hk_chLAW_12 : hk_chL hcdLAW_12 = true := by decide +kernel
set_option maxRecDepth 100000 in
theorem hk_chLAW_13 : hk_chL hcdLAW_13 = true := by decide +kernel
set_option maxRecDepth 100000 in
theorem hk_chLAW_14 : hk_chL hcdLAW_14 = true := by decide +kernel
set_option maxRecDepth 100000 in
theorem hk_chLAW_15 : hk_chL hcdLAW_15 = true := by decide +kernel
set_option maxRecDepth 100000 in
theorem hk_chLAW_16 : hk_chL hcdLAW_16 = true := by decide +kernel
set_option maxRecDepth 100000 in
theorem hk_chLAW_17 : hk_chL hcdLAW_17 = true := by decide +kernel
set_option maxRecDepth 100000 in
theorem hk_chLAW_18 : hk_chL hcdLAW_18 = true := by decide +kernel
set_option maxRecDepth 100000 in
theorem hk_chLAW_19 : hk_chL hcdLAW_19 = true := by decide +kernel
set_option maxRecDepth 100000 in
theorem hk_chLAW_20 : hk_chL hcdLAW_20 = true := by decide +kernel
set_option maxRecDepth 100000 in
theorem hk_chLAW_21 : hk_chL hcdLAW_21 = true := by decide +kernel
set_option maxRecDepth 100000 in
theorem hk_chLAW_22 : hk_chL hcdLAW_22 = true := by decide +kernel
set_option maxRecDepth 100000 in
theorem hk_chLAW_23 : hk_chL hcdLAW_23 = true := by decide +kernel
set_option maxRecDepth 100000 in
theorem hk_chLAW_24 : hk_chL hcdLAW_24 = true := by decide +kernel
set_option maxRecDepth 100000 in
theorem hk_chLAW_25 : hk_chL hcdLAW_25 = true := by decide +kernel
set_option maxRecDepth 100000 in
theorem hk_chLAW_26 : hk_chL hcdLAW_26 = true := by decide +kernel
set_option maxRecDepth 100000 in
theorem hk_chLAW_27 : hk_chL hcdLAW_27 = true := by decide +kernel
set_option maxRecDepth 100000 in
theorem hk_chLAW_28 : hk_chL hcdLAW_28 = true := by decide +kernel
set_option maxRecDepth 100000 in
theorem hk_chLAW_29 : hk_chL hcdLAW_29 = true := by decide +kernel
set_option maxRecDepth 100000 in
theorem hk_chLAW_30 : hk_chL hcdLAW_30 = true := by decide +kernel
set_option maxRecDepth 100000 in
theorem hk_chLAW_31 : hk_chL hcdLAW_31 = true := by decide +kernel
set_option maxRecDepth 100000 in
theorem hk_chLAW_32 : hk_chL hcdLAW_32 = true := by decide +kernel
set_option maxRecDepth 100000 in
theorem hk_chLAW_33 : hk_chL hcdLAW_33 = true := by decide +kernel
set_option maxRecDepth 100000 in
theorem hk_chLAW_34 : hk_chL hcdLAW_34 = true := by decide +kernel
set_option maxRecDepth 100000 in
theorem hk_chLAW_35 : hk_chL hcdLAW_35 = true := by decide +kernel
set_option maxRecDepth 100000 in
theorem hk_chLAW_36 : hk_chL hcdLAW_36 = true := by decide +kernel
set_option maxRecDepth 100000 in
theorem hk_chLAW_37 : hk_chL hcdLAW_37 = true := by decide +kernel
set_option maxRecDepth 100000 in
theorem hk_chLAW_38 : hk_chL hcdLAW_38 = true := by decide +kernel
set_option maxRecDepth 100000 in
theorem hk_chLAW_39 : hk_chL hcdLAW_39 = true := by decide +kernel
set_option maxRecDepth 100000 in
theorem hk_chLAW_40 : hk_chL hcdLAW_40 = true := by decide +kernel
set_option maxRecDepth 100000 in
theorem hk_chLAW_41 : hk_chL hcdLAW_41 = true := by decide +kernel
set_option maxRecDepth 100000 in
theorem hk_chLAW_42 : hk_chL hcdLAW_42 = true := by decide +kernel
set_option maxRecDepth 100000 in
theorem hk_chLAW_43 : hk_chL hcdLAW_43 = true := by decide +kernel
set_option maxRecDepth 100000 in
theorem hk_chLAW_44 : hk_chL hcdLAW_44 = true := by decide +kernel
set_option maxRecDepth 100000 in
theorem hk_chLAW_45 : hk_chL hcdLAW_45 = true := by decide +kernel
set_option maxRecDepth 100000 in
theorem hk_chLAW_46 : hk_chL hcdLAW_46 = true := by decide +kernel
set_option maxRecDepth 100000 in
theorem hk_chLAW_47 : hk_chL hcdLAW_47 = true := by decide +kernel
set_option maxRecDepth 100000 in
theorem hk_chLAW_48 : hk_chL hcdLAW_48 = true := by decide +kernel
set_option maxRecDepth 100000 in
theorem hk_chLAW_49 : hk_chL hcdLAW_49 = true := by decide +kernel
set_option maxRecDepth 100000 in
theorem hk_chLAW_50 : hk_chL hcdLAW_50 = true := by decide +kernel
set_option maxRecDepth 100000 in
theorem hk_chLAW_51 : hk_chL hcdLAW_51 = true := by decide +kernel
set_option maxRecDepth 100000 in
theorem hk_chLAW_52 : hk_chL hcdLAW_52 = true := by decide +kernel
set_option maxRecDepth 100000 in
theorem hk_chLAW_53 : hk_chL hcdLAW_53 = true := by decide +kernel
set_option maxRecDepth 100000 in
theorem hk_chLAW_54 : hk_chL hcdLAW_54 = true := by decide +kernel
set_option maxRecDepth 100000 in
theorem hk_chLAW_55 : hk_chL hcdLAW_55 = true := by decide +kernel
set_option maxRecDepth 100000 in
theorem hk_chLAW_56 : hk_chL hcdLAW_56 = true := by decide +kernel
set_option maxRecDepth 100000 in
theorem hk_chLAW_57 : hk_chL hcdLAW_57 = true := by decide +kernel
set_option maxRecDepth 100000 in
theorem hk_chLAW_58 : hk_chL hcdLAW_58 = true := by decide +kernel
set_option maxRecDepth 100000 in
theorem hk_chLAW_59 : hk_chL hcdLAW_59 = true := by decide +kernel
set_option maxRecDepth 100000 in
theorem hk_chLAW_60 : hk_chL hcdLAW_60 = true := by decide +kernel
set_option maxRecDepth 100000 in
theorem hk_chLAW_61 : hk_chL hcdLAW_61 = true := by decide +kernel
set_option maxRecDepth 100000 in
theorem hk_chLAW_62 : hk_chL hcdLAW_62 = true := by decide +kernel
set_option maxRecDepth 100000 in
theorem hk_chLAW_63 : hk_chL hcdLAW_63 = true := by decide +kernel
set_option maxRecDepth 100000 in
theorem hk_chLAW_64 : hk_chL hcdLAW_64 = true := by decide +kernel
set_option maxRecDepth 100000 in
theorem hk_chLAW_65 : hk_chL hcdLAW_65 = true := by decide +kernel
set_option maxRecDepth 100000 in
theorem hk_chLAW_66 : hk_chL hcdLAW_66 = true := by decide +kernel
set_option maxRecDepth 100000 in
theorem hk_chLAW_67 : hk_chL hcdLAW_67 = true := by decide +kernel
set_option maxRecDepth 100000 in
theorem hk_chLAW_68 : hk_chL hcdLAW_68 = true := by decide +kernel
set_option maxRecDepth 100000 in
theorem hk_chLAW_69 : hk_chL hcdLAW_69 = true := by decide +kernel
set_option maxRecDepth 100000 in
theorem hk_chLAW_70 : hk_chL hcdLAW_70 = true := by decide +kernel
set_option maxRecDepth 100000 in
theorem hk_chLAW : ∀ l ∈ hcdLAW, hk_chL l = true := List.forall_mem_cons.mpr ⟨hk_chLAW_0, List.forall_mem_cons.mpr ⟨hk_chLAW_1, List.forall_mem_cons.mpr ⟨hk_chLAW_2, List.forall_mem_cons.mpr ⟨hk_chLAW_3, List.forall_mem_cons.mpr ⟨hk_chLAW_4, List.forall_mem_cons.mpr ⟨hk_chLAW_5, List.forall_mem_cons.mpr ⟨hk_chLAW_6, List.forall_mem_cons.mpr ⟨hk_chLAW_7, List.forall_mem_cons.mpr ⟨hk_chLAW_8, List.forall_mem_cons.mpr ⟨hk_chLAW_9, List.forall_mem_cons.mpr ⟨hk_chLAW_10, List.forall_mem_cons.mpr ⟨hk_chLAW_11, List.forall_mem_cons.mpr ⟨hk_chLAW_12, List.forall_mem_cons.mpr ⟨hk_chLAW_13, List.forall_mem_cons.mpr ⟨hk_chLAW_14, List.forall_mem_cons.mpr ⟨hk_chLAW_15, List.forall_mem_cons.mpr ⟨hk_chLAW_16, List.forall_mem_cons.mpr ⟨hk_chLAW_17, List.forall_mem_cons.mpr ⟨hk_chLAW_18, List.forall_mem_cons.mpr ⟨hk_chLAW_19, List.forall_mem_cons.mpr ⟨hk_chLAW_20, List.forall_mem_cons.mpr ⟨hk_chLAW_21, List.forall_mem_cons.mpr ⟨hk_chLAW_22, List.forall_mem_cons.mpr ⟨hk_chLAW_23, List.forall_mem_cons.mpr ⟨hk_chLAW_24, List.forall_mem_cons.mpr ⟨hk_chLAW_25, List.forall_mem_cons.mpr ⟨hk_chLAW_26, List.forall_mem_cons.mpr ⟨hk_chLAW_27, List.forall_mem_cons.mpr ⟨hk_chLAW_28, List.forall_mem_cons.mpr ⟨hk_chLAW_29, List.forall_mem_cons.mpr ⟨hk_chLAW_30, List.forall_mem_cons.mpr ⟨hk_chLAW_31, List.forall_mem_cons.mpr ⟨hk_chLAW_32, List.forall_mem_cons.mpr ⟨hk_chLAW_33, List.forall_mem_cons.mpr ⟨hk_chLAW_34, List.forall_mem_cons.mpr ⟨hk_chLAW_35, List.forall_mem_cons.mpr ⟨hk_chLAW_36, List.forall_mem_cons.mpr ⟨hk_chLAW_37, List.forall_mem_cons.mpr ⟨hk_chLAW_38, List.forall_mem_cons.mpr ⟨hk_chLAW_39, List.forall_mem_cons.mpr ⟨hk_chLAW_40, List.forall_mem_cons.mpr ⟨hk_chLAW_41, List.forall_mem_cons.mpr ⟨hk_chLAW_42, List.forall_mem_cons.mpr ⟨hk_chLAW_43, List.forall_mem_cons.mpr ⟨hk_chLAW_44, List.forall_mem_cons.mpr ⟨hk_chLAW_45, List.forall_mem_cons.mpr ⟨hk_chLAW_46, List.forall_mem_cons.mpr ⟨hk_chLAW_47, List.forall_mem_cons.mpr ⟨hk_chLAW_48, List.forall_mem_cons.mpr ⟨hk_chLAW_49, List.forall_mem_cons.mpr ⟨hk_chLAW_50, List.forall_mem_cons.mpr ⟨hk_chLAW_51, List.forall_mem_cons.mpr ⟨hk_chLAW_52, List.forall_mem_cons.mpr ⟨hk_chLAW_53, List.forall_mem_cons.mpr ⟨hk_chLAW_54, List.forall_mem_cons.mpr ⟨hk_chLAW_55, List.forall_mem_cons.mpr ⟨hk_chLAW_56, List.forall_mem_cons.mpr ⟨hk_chLAW_57, List.forall_mem_cons.mpr ⟨hk_chLAW_58, List.forall_mem_cons.mpr ⟨hk_chLAW_59, List.forall_mem_cons.mpr ⟨hk_chLAW_60, List.forall_mem_cons.mpr ⟨hk_chLAW_61, List.forall_mem_cons.mpr ⟨hk_chLAW_62, List.forall_mem_cons.mpr ⟨hk_chLAW_63, List.forall_mem_cons.mpr ⟨hk_chLAW_64, List.forall_mem_cons.mpr ⟨hk_chLAW_65, List.forall_mem_cons.mpr ⟨hk_chLAW_66, List.forall_mem_cons.mpr ⟨hk_chLAW_67, List.forall_mem_cons.mpr ⟨hk_chLAW_68, List.forall_mem_cons.mpr ⟨hk_chLAW_69, List.forall_mem_cons.mpr ⟨hk_chLAW_70, fun _ h => absurd h List.not_mem_nil⟩⟩⟩⟩⟩⟩⟩⟩⟩⟩⟩⟩⟩⟩⟩⟩⟩⟩⟩⟩⟩⟩⟩⟩⟩⟩⟩⟩⟩⟩⟩⟩⟩⟩⟩⟩⟩⟩⟩⟩⟩⟩⟩⟩⟩⟩⟩⟩⟩⟩⟩⟩⟩⟩⟩⟩⟩⟩⟩⟩⟩⟩⟩⟩⟩⟩⟩⟩⟩⟩⟩
end
section
/-! SOUNDNESS of the small machine, 1: what a heap of the model is beside the small one's -/
def hk_ad (ex : Nat → Nat) (B k : Nat) : Nat := if k < 38 then ex k else B + (k - 38)
def hk_cv (ex : Nat → Nat) (B : Nat) (vX : Value) (v : Value) : Value := match v with
  | .ref k => .ref (hk_ad ex B k)
  | .float _ => vX
  | v => v
def hk_aty (t : Nat) : FieldType := match t with
  | 10 => .int
  | 11 => .long
  | 12 => .byte
  | t => .object (hk_an t)
/-- a cell of the small heap stands in the model's heap at its address -/
def hk_ok (ex : Nat → Nat) (B : Nat) (vX : Value) (dC : Nat → ClassId) (dI : Nat → Nat → Nat) (s : State) (H : Heap) (k : Nat) (c : hk_Ce) : Prop :=
  (c.1 < 9 → hk_nf c.1 ≤ c.2.1 ∧ t_OB (hk_ad ex B k) (dC c.1) (hk_nf c.1) (dI c.1) H (fun j => hk_cv ex B vX (c.2.2 j))) ∧
  (c.1 = 9 → 2 ≤ c.2.1 ∧ va_O "java/lang/String" (hk_ad ex B k) (fun q => B ≤ q) s H ∧ ∀ j, j < 2 → va_OF "java/lang/String" (hk_T 9 j).2.1 (hk_T 9 j).2.2.1 (hk_cv ex B vX (c.2.2 j)) (hk_ad ex B k) (fun q => B ≤ q) s H) ∧
  (10 ≤ c.1 → c.1 ≤ 12 → k < 38 → ∃ cell : Cell, H[hk_ad ex B k]? = some cell ∧ s.isArrayOf cell (hk_aty c.1) ∧ cell.vm ≠ .unknown ∧ c.2.1 ≤ cell.slots.size ∧ cell.slots.size.toInt32 = Int32.ofNat c.2.1 ∧ ∀ j, j < c.2.1 → cell.slots[j]? = some (hk_cv ex B vX (c.2.2 j))) ∧
  (10 ≤ c.1 → c.1 ≤ 16 → 38 ≤ k → ∃ cA : ClassId, H[hk_ad ex B k]? = some (arrV cA c.2.1 (fun j => hk_cv ex B vX (c.2.2 j))) ∧ ArrOfT s cA (hk_aty c.1) ∧ (13 ≤ c.1 → va_RA s cA (hk_aty c.1)))
def hk_Rel (ex : Nat → Nat) (B : Nat) (vX : Value) (H0 : Heap) (dC : Nat → ClassId) (dI : Nat → Nat → Nat) (s : State) (H : Heap) (h : hk_Hp) : Prop :=
  H.size = B + (h.1 - 38) ∧ 38 ≤ h.1 ∧ (∀ q, q < B → H[q]? = H0[q]?) ∧ ∀ k, hk_ok ex B vX dC dI s H k (h.2 k)
def hk_Env (ex : Nat → Nat) (B : Nat) (vX : Value) (H0 : Heap) (dC : Nat → ClassId) (dI : Nat → Nat → Nat) (s : State) : Prop :=
  (∀ w ∈ lw_tbl, hk_good w = true → ∀ a, w.before a s = true) ∧ (∀ t, t < 9 → u_Kn s (hk_cn t) (hk_T t) (hk_nf t) (dC t) (dI t)) ∧
  (∀ a, a < 4 → va_Z (hk_zn a).1 (hk_zn a).2.1 (hk_zn a).2.2 (hk_cv ex B vX (hk_sv a)) (fun q => B ≤ q) s H0) ∧
  (∀ e ∈ hk_sL, vk_R (hk_cn e.1) e.2.1 e.2.2.2.1 (ex e.2.2.1) s) ∧ H0.size = B ∧ (∀ k, k < 38 → ex k < B) ∧ (vX = .null ∨ ∃ a, vX = .ref a)
section Snd1
variable {ex : Nat → Nat} {B : Nat} {vX : Value} {H0 : Heap} {dC : Nat → ClassId} {dI : Nat → Nat → Nat} {s U : State} {H H1 : Heap} {h : hk_Hp} {k : Nat} {c : hk_Ce}
theorem hk_ad_ge (hk : 38 ≤ k) : hk_ad ex B k = B + (k - 38) := if_neg (Nat.not_lt.mpr hk)
theorem hk_ad_lt (hk : k < 38) : hk_ad ex B k = ex k := if_pos hk
theorem hk_ad_B (hk : 38 ≤ k) : B ≤ hk_ad ex B k := by rw [hk_ad_ge hk]; exact Nat.le_add_right _ _
theorem hk_ad_ne (hex : ∀ k, k < 38 → ex k < B) {a : Nat} (ha : 38 ≤ a) (hk : k ≠ a) : hk_ad ex B k ≠ hk_ad ex B a := by
  by_cases h1 : k < 38
  · have := hex k h1
    have := hk_ad_B (ex := ex) (B := B) ha
    rw [hk_ad_lt h1]
    omega
  · rw [hk_ad_ge (by omega), hk_ad_ge ha]
    omega
theorem hk_cv_cat (hX : vX = .null ∨ ∃ a, vX = .ref a) (v : Value) : (hk_cv ex B vX v).category = v.category := by
  cases v with
  | float x => rcases hX with h | ⟨a, h⟩ <;> rw [hk_cv, h] <;> rfl
  | _ => rfl
theorem hk_ok_kept (g : hk_ok ex B vX dC dI s H k c) (hq : H1[hk_ad ex B k]? = H[hk_ad ex B k]?) : hk_ok ex B vX dC dI s H1 k c := by
  obtain ⟨g1, g2, g3, g4⟩ := g
  refine ⟨fun q => ⟨(g1 q).1, (g1 q).2.kept hq⟩, fun q => ⟨(g2 q).1, ?_, fun j hj => ?_⟩, fun a b d => ?_, fun a b d => ?_⟩
  · obtain ⟨cell, h1, h2⟩ := (g2 q).2.1
    exact ⟨cell, by rw [hq]; exact h1, h2⟩
  · obtain ⟨cf, kc, i, f, cell, h1, h2, h3, h4⟩ := (g2 q).2.2 j hj
    exact ⟨cf, kc, i, f, cell, h1, h2, by rw [hq]; exact h3, h4⟩
  · obtain ⟨cell, h1, h2⟩ := g3 a b d
    exact ⟨cell, by rw [hq]; exact h1, h2⟩
  · obtain ⟨cA, h1, h2⟩ := g4 a b d
    exact ⟨cA, by rw [hq]; exact h1, h2⟩
theorem hk_ok_moved (hvm : s.vm.Alike U.vm) (g : hk_ok ex B vX dC dI s H k c) : hk_ok ex B vX dC dI U H k c := by
  obtain ⟨g1, g2, g3, g4⟩ := g
  refine ⟨g1, fun q => ⟨(g2 q).1, va_O.moved hvm (g2 q).2.1, fun j hj => va_OF.moved hvm ((g2 q).2.2 j hj)⟩, fun a b d => ?_, fun a b d => ?_⟩
  · obtain ⟨cell, h1, h2, h3⟩ := g3 a b d
    exact ⟨cell, h1, State.isArrayOf_alike hvm h2, h3⟩
  · obtain ⟨cA, h1, h2, h3⟩ := g4 a b d
    exact ⟨cA, h1, arrOfT_moved hvm h2, fun q => (h3 q).moved hvm⟩
theorem hk_Rel_moved (hvm : s.vm.Alike U.vm) (g : hk_Rel ex B vX H0 dC dI s H h) : hk_Rel ex B vX H0 dC dI U H h :=
  ⟨g.1, g.2.1, g.2.2.1, fun k => hk_ok_moved hvm (g.2.2.2 k)⟩
theorem hk_ok_ev {c' : hk_Ce} (h1 : c.1 = c'.1) (h2 : c.2.1 = c'.2.1) (h3 : ∀ k, k < c.2.1 → c.2.2 k = c'.2.2 k) (g : hk_ok ex B vX dC dI s H k c) : hk_ok ex B vX dC dI s H k c' := by
  obtain ⟨t, n, f⟩ := c
  obtain ⟨t', n', f'⟩ := c'
  dsimp only at h1 h2 h3
  subst h1; subst h2
  obtain ⟨g1, g2, g3, g4⟩ := g
  dsimp only [hk_ok] at g1 g2 g3 g4 ⊢
  refine ⟨fun q => ⟨(g1 q).1, (g1 q).2.to (fun j hj => by rw [h3 j (Nat.lt_of_lt_of_le hj (g1 q).1)])⟩, fun q => ⟨(g2 q).1, (g2 q).2.1, fun j hj => ?_⟩, fun a b d => ?_, fun a b d => ?_⟩
  · rw [← h3 j (Nat.lt_of_lt_of_le hj (g2 q).1)]
    exact (g2 q).2.2 j hj
  · obtain ⟨cell, q1, q2, q3, q4, q5, q6⟩ := g3 a b d
    exact ⟨cell, q1, q2, q3, q4, q5, fun j hj => by rw [q6 j hj, h3 j hj]⟩
  · obtain ⟨cA, q1, q2⟩ := g4 a b d
    refine ⟨cA, ?_, q2⟩
    rw [q1]
    unfold arrV
    congr 2
    apply Array.ext'
    simp only [Array.toList_ofFn]
    congr 1
    funext j
    rw [h3 j.val j.isLt]
theorem hk_Env_warm (hW : s.WarmedH U.vm) (g : hk_Env ex B vX H0 dC dI s) : hk_Env ex B vX H0 dC dI U := by
  obtain ⟨g1, g2, g3, g4, g5⟩ := g
  refine ⟨fun w hw hg a => ?_, fun t ht => u_Kn_moved hW.alike (g2 t ht), fun a ha => va_Z.moved hW.alike (g3 a ha), fun e he => vk_R.warm hW (g4 e he), g5⟩
  have h0 := g1 w hw hg
  unfold hk_good at hg
  split at hg
  · exact va_Nw.use rfl (va_Nw.warmM hW (va_Nw.of rfl (h0 #[])))
  · have h1 := Cond.stringRef_warmed hW (h0 #[])
    have hv : U.vm = (s.setVm U.vm).vm := rfl
    simp only [Cond.before, Cond.holds, Cond.value, State.names, State.poolOf?, State.resolvedAt?, ← hv] at h1 ⊢
    exact h1
  · exact va_AO.use (va_AO.moved hW.alike (va_AO.of (h0 #[])))
  · exact word_at hW (good_of_word hg) (h0 #[])
end Snd1
end
section
/-! SOUNDNESS, 2: each step of the small machine is a step of the model's -/
section Snd2
variable {ex : Nat → Nat} {B : Nat} {vX : Value} {H0 : Heap} {dC : Nat → ClassId} {dI : Nat → Nat → Nat} {s U : State} {H H1 : Heap} {h : hk_Hp} {k a : Nat} {c : hk_Ce}
theorem hk_up_self : (hk_up h a c).2 a = c := by
  show (bif Nat.beq a a then c else h.2 a) = c
  rw [show Nat.beq a a = true from Nat.beq_refl a]; rfl
theorem hk_up_ne {b : Nat} (hb : b ≠ a) : (hk_up h a c).2 b = h.2 b := by
  show (bif Nat.beq b a then c else h.2 b) = h.2 b
  cases hq : Nat.beq b a
  · rfl
  · exact absurd (Nat.eq_of_beq_eq_true hq) hb
theorem hk_Rel_up (hex : ∀ k, k < 38 → ex k < B) (g : hk_Rel ex B vX H0 dC dI s H h) (ha : 38 ≤ a) (z : H1.size = H.size) (oq : ∀ q : Nat, q ≠ hk_ad ex B a → H1[q]? = H[q]?) (hc : hk_ok ex B vX dC dI s H1 a c) : hk_Rel ex B vX H0 dC dI s H1 (hk_up h a c) := by
  refine ⟨by rw [z]; exact g.1, g.2.1, fun q hq => ?_, fun b => ?_⟩
  · have := hk_ad_B (ex := ex) (B := B) ha
    rw [oq q (by omega)]
    exact g.2.2.1 q hq
  · by_cases hb : b = a
    · subst hb; rw [hk_up_self]; exact hc
    · rw [hk_up_ne hb]
      exact hk_ok_kept (g.2.2.2 b) (oq _ (hk_ad_ne hex ha hb))
theorem hk_Rel_nw (hex : ∀ k, k < 38 → ex k < B) (g : hk_Rel ex B vX H0 dC dI s H h) (z : H1.size = H.size + 1) (oq : ∀ q : Nat, q < H.size → H1[q]? = H[q]?) (hc : hk_ok ex B vX dC dI s H1 h.1 c) : hk_Rel ex B vX H0 dC dI s H1 (hk_nw h c) := by
  have hs := g.1
  have h38 := g.2.1
  refine ⟨by show H1.size = B + (h.1 + 1 - 38); omega, by show 38 ≤ h.1 + 1; omega, fun q hq => ?_, fun b => ?_⟩
  · rw [oq q (by omega)]
    exact g.2.2.1 q hq
  · by_cases hb : b = h.1
    · subst hb
      have e : (hk_nw h c).2 h.1 = c := by
        show (bif Nat.beq h.1 h.1 then c else h.2 h.1) = c
        rw [show Nat.beq h.1 h.1 = true from Nat.beq_refl _]; rfl
      rw [e]; exact hc
    · have e : (hk_nw h c).2 b = h.2 b := by
        show (bif Nat.beq b h.1 then c else h.2 b) = h.2 b
        cases hq : Nat.beq b h.1
        · rfl
        · exact absurd (Nat.eq_of_beq_eq_true hq) hb
      rw [e]
      refine hk_ok_kept (g.2.2.2 b) ?_
      by_cases hlt : hk_ad ex B b < H.size
      · exact oq _ hlt
      · have hne : hk_ad ex B b ≠ H.size := by
          by_cases h1 : b < 38
          · rw [hk_ad_lt h1]; have := hex b h1; omega
          · rw [hk_ad_ge (by omega)]; omega
        rw [Array.getElem?_eq_none (by omega), Array.getElem?_eq_none (by omega)]
theorem hk_Rel_ev {h' : hk_Hp} (g : hk_Rel ex B vX H0 dC dI s H h) (he : hk_ev h h') : hk_Rel ex B vX H0 dC dI s H h' :=
  ⟨by rw [← he.1]; exact g.1, by rw [← he.1]; exact g.2.1, g.2.2.1, fun k => hk_ok_ev (he.2 k).1 (he.2 k).2.1 (he.2 k).2.2 (g.2.2.2 k)⟩
theorem hk_lk_in {K : Value → Prop} : ∀ {l : hk_Ls} {i : Nat}, hk_lk l i K → ∃ v, (i, v) ∈ l ∧ K v
  | [], _, g => absurd g id
  | q :: l, i, g => by
    unfold hk_lk at g
    cases hb : Nat.beq q.1 i
    · rw [hb] at g
      obtain ⟨v, h1, h2⟩ := hk_lk_in (l := l) g
      exact ⟨v, List.mem_cons_of_mem _ h1, h2⟩
    · rw [hb] at g
      have e := Nat.eq_of_beq_eq_true hb
      subst e
      exact ⟨q.2, List.mem_cons_self, g⟩
theorem hk_v_sp {v : Value} {K : Value → Prop} (g : hk_v v K) : K v := by
  cases v <;> first | exact g | exact absurd g id
theorem hk_fil1 (hX : vX = .null ∨ ∃ a, vX = .ref a) (i : Nat) (l : hk_Ls) : (l.map (fun q => (q.1, hk_cv ex B vX q.2))).filter (fun q => !(q.1 == i) && !(q.1 + 1 == i && q.2.category == 2)) = (l.filter (hk_p1 i)).map (fun q => (q.1, hk_cv ex B vX q.2)) := by
  rw [List.filter_map]
  congr 1
  apply List.filter_congr
  intro q _
  simp only [Function.comp, hk_p1, hk_cv_cat hX]
theorem hk_fil2 (hX : vX = .null ∨ ∃ a, vX = .ref a) (i : Nat) (l : hk_Ls) : (l.map (fun q => (q.1, hk_cv ex B vX q.2))).filter (fun q => !(q.1 == i) && (!(q.1 == i + 1) && !(q.1 + 1 == i && q.2.category == 2))) = (l.filter (hk_p2 i)).map (fun q => (q.1, hk_cv ex B vX q.2)) := by
  rw [List.filter_map]
  congr 1
  apply List.filter_congr
  intro q _
  simp only [Function.comp, hk_p2, hk_cv_cat hX]
theorem hk_cs_eq (hX : vX = .null ∨ ∃ a, vX = .ref a) : ∀ (l : List Value), ((l.map (hk_cv ex B vX)).map fun v => v.category).sum = hk_cs l
  | [] => rfl
  | v :: l => by
    show (hk_cv ex B vX v).category + ((l.map (hk_cv ex B vX)).map fun v => v.category).sum = v.category + hk_cs l
    rw [hk_cs_eq hX l, hk_cv_cat hX]
theorem hk_pop_sp {K : List Value → List Value → Prop} : ∀ {n : Nat} {st as : List Value}, hk_pop n st as K → ∃ l r, st = l.reverse ++ r ∧ l.length = n ∧ K (l ++ as) r
  | 0, st, as, g => ⟨[], st, rfl, rfl, g⟩
  | n + 1, [], _, g => absurd g id
  | n + 1, v :: st, as, g => by
    obtain ⟨l, r, h1, h2, h3⟩ := hk_pop_sp (n := n) (st := st) (as := v :: as) g
    exact ⟨l ++ [v], r, by rw [h1]; simp, by simp [h2], by simpa using h3⟩
theorem hk_sws_get {x : Int32} {K : Nat → Prop} : ∀ {tl : List Nat} {v : Int}, hk_sws x K v tl → ∀ (j t : Nat), tl[j]? = some t → x.toInt = v + j → K t
  | [], _, _, j, t, h, _ => by simp at h
  | t0 :: tl, v, g, 0, t, h, e => by
    simp at h; subst h
    exact g.1 (by rw [e]; simp)
  | t0 :: tl, v, g, j + 1, t, h, e => by
    simp at h
    exact hk_sws_get g.2 j t h (by rw [e]; push_cast; omega)
/-- the arrays, read -/
theorem hk_arr (g : hk_ok ex B vX dC dI s H k c) (h1 : 10 ≤ c.1) (h2 : c.1 ≤ 16) (h3 : k < 38 → c.1 ≤ 12) : ∃ cell : Cell, H[hk_ad ex B k]? = some cell ∧ s.isArrayOf cell (hk_aty c.1) ∧ cell.vm ≠ .unknown ∧ c.2.1 ≤ cell.slots.size ∧ cell.slots.size.toInt32 = Int32.ofNat c.2.1 ∧ ∀ j, j < c.2.1 → cell.slots[j]? = some (hk_cv ex B vX (c.2.2 j)) := by
  by_cases hk : k < 38
  · exact g.2.2.1 h1 (h3 hk) hk
  · obtain ⟨cA, q1, q2, -⟩ := g.2.2.2 h1 h2 (by omega)
    exact ⟨_, q1, q2 _ _, fun q => by (cases q), by rw [arrV_size]; exact Nat.le_refl _, by rw [arrV_size], fun j hj => by rw [arrV_read _ _ hj]⟩
theorem hk_inb {i : Int32} {n N : Nat} (h : vp_in i n) (hn : n ≤ N) : ¬ (i < 0 ∨ N ≤ i.toNatClampNeg) := fun q => q.elim (fun z => h (Or.inl z)) (fun z => h (Or.inr (Nat.le_trans hn z)))
theorem hk_ilt {i : Int32} {n : Nat} (h : vp_in i n) : i.toNatClampNeg < n := Nat.not_le.mp fun q => h (Or.inr q)
theorem hk_cv_up (f : Nat → Value) (i : Nat) (v : Value) : (fun j => hk_cv ex B vX (va_up f i v j)) = updV (fun j => hk_cv ex B vX (f j)) i (hk_cv ex B vX v) := by
  funext j
  unfold va_up updV
  split <;> rfl
/-- an array of the small heap, written at one place -/
theorem hk_ok_ast {t n i : Nat} {f : Nat → Value} {v : Value} {cA : ClassId} (h1 : 10 ≤ t) (h2 : 38 ≤ k) (e : H1[hk_ad ex B k]? = some ((arrV cA n (fun j => hk_cv ex B vX (f j))).setSlot i (hk_cv ex B vX v))) (hA : ArrOfT s cA (hk_aty t)) (hB : 13 ≤ t → va_RA s cA (hk_aty t)) : hk_ok ex B vX dC dI s H1 k (t, n, va_up f i v) := by
  refine ⟨fun q => ?_, fun q => ?_, fun _ _ q => ?_, fun _ _ _ => ⟨cA, ?_, hA, hB⟩⟩
  · dsimp only at q; omega
  · dsimp only at q; omega
  · omega
  · rw [e, arrV_store]
    dsimp only
    rw [hk_cv_up]
theorem hk_ok_anw {t n : Nat} {f : Nat → Value} {cA : ClassId} (h1 : 10 ≤ t) (h2 : 38 ≤ k) (e : H1[hk_ad ex B k]? = some (arrV cA n (fun j => hk_cv ex B vX (f j)))) (hA : ArrOfT s cA (hk_aty t)) (hB : 13 ≤ t → va_RA s cA (hk_aty t)) : hk_ok ex B vX dC dI s H1 k (t, n, f) := by
  refine ⟨fun q => ?_, fun q => ?_, fun _ _ q => ?_, fun _ _ _ => ⟨cA, e, hA, hB⟩⟩
  · dsimp only at q; omega
  · dsimp only at q; omega
  · omega
theorem hk_ok_obj {t n : Nat} {f : Nat → Value} (h1 : t < 9) (hn : hk_nf t ≤ n) (e : t_OB (hk_ad ex B k) (dC t) (hk_nf t) (dI t) H1 (fun j => hk_cv ex B vX (f j))) : hk_ok ex B vX dC dI s H1 k (t, n, f) := by
  refine ⟨fun q => ⟨hn, e⟩, fun q => ?_, fun q => ?_, fun q => ?_⟩
  · dsimp only at q; omega
  · dsimp only at q; omega
  · dsimp only at q; omega
end Snd2
set_option maxRecDepth 100000 in
theorem hk_lay0 : ∀ t, t < 9 → ∀ w ∈ u_ws (hk_cn t) (hk_T t) (hk_nf t), w ∈ lw_tbl ∧ hk_good w = true := by decide +kernel
theorem hk_Tc : ∀ t, t < 9 → ∀ k, k < hk_nf t → (hk_T t k).1 = hk_cn t := by decide +kernel
theorem hk_Tty : ∀ t, t < 9 → ∀ k, k < hk_nf t → parseFieldDescriptor (hk_T t k).2.2.1 = some (hk_ty t k) := by decide +kernel
theorem hk_Tnm : ∀ t, t < 9 → ∀ a, a < hk_nf t → ∀ b, b < hk_nf t → a ≠ b → (hk_T t a).2.1 ≠ (hk_T t b).2.1 := by decide +kernel
theorem hk_arrc : (Cond.arrayClass .int ∈ lw_tbl ∧ Cond.arrayClass .long ∈ lw_tbl ∧ Cond.arrayClass .byte ∈ lw_tbl) := by decide +kernel
theorem hk_obji : Cond.instanceMethod objectInit ∈ lw_tbl ∧ Cond.code objectInit ⟨#[0xb1]⟩ 1 none ∈ lw_tbl := by decide +kernel
theorem hk_cpyi : Cond.native arraycopyName ∈ lw_tbl ∧ Cond.static arraycopyName ∈ lw_tbl ∧ Cond.initialized "java/lang/System" ∈ lw_tbl := by decide +kernel
end
section
/-! SOUNDNESS, 3: closed under the steps -/
def hk_rm (d C S : Nat) : Room := { frames := d, cells := C, slots := S, locals := 100 * d }
/-- what a call of a method of the table is to the model -/
def hk_Mt (l : Launch) (ex : Nat → Nat) (B : Nat) (vX : Value) (H0 : Heap) (dC : Nat → ClassId) (dI : Nat → Nat → Nat) (d M : Nat) (as : List Value) (h : hk_Hp) (Q : hk_Q) : Prop :=
  ∀ cd rt C S mx, hk_nth hk_bds M = some (cd, rt, C, S, mx) → Met l (hk_my M) [.code (hk_my M) (hk_mb M) (hk_ml M) (hk_mr M)] (hk_rm d C S)
    (fun a U => a = (as.map (hk_cv ex B vX)).toArray ∧ hk_Env ex B vX H0 dC dI U ∧ hk_Rel ex B vX H0 dC dI U U.heap h)
    (fun _ _ o t => ∃ r h', o = .returned (r.map (hk_cv ex B vX)) ∧ Q r h' ∧ hk_Rel ex B vX H0 dC dI t t.heap h') C S (fun q => B ≤ q)
/-- what stands around a method's body -/
def hk_Cx (p : Program) (l : Launch) (R : Room) (s : State) (m : MethodId) (meth : Method) (c : Code) (ex : Nat → Nat) (B : Nat) (vX : Value) (H0 : Heap) (dC : Nat → ClassId) (dI : Nat → Nat → Nat) (d : Nat) (cd : hk_Cd) (call : hk_C) (own : Nat) (ini : Bool) (mx C S : Nat) (bs : ByteArray) : Prop :=
  p.tables.exec = Jvm.exec ∧ c.code = bs ∧ c.maxLocals = mx ∧ s.vm.findClass (hk_cn own) = some m.cls ∧ hk_Env ex B vX H0 dC dI s ∧ (ini = true → meth.name = "<init>") ∧
  (∀ ip e, hk_at cd ip = some e → hk_chk cd own ini mx bs e = true) ∧ (∀ M as h Q, call M as h Q → hk_Mt l ex B vX H0 dC dI d M as h Q) ∧ (d + 1 ≤ R.frames ∧ 100 * (d + 1) ≤ R.locals ∧ C ≤ R.cells ∧ S ≤ R.slots)
def hk_cvl (ex : Nat → Nat) (B : Nat) (vX : Value) (ls : hk_Ls) : List (Nat × Value) := ls.map (fun q => (q.1, hk_cv ex B vX q.2))
def hk_PP (p : Program) (l : Launch) (e : Env) (R : Room) (s : State) (m : MethodId) (args : Array Value) (below : List Frame) (meth : Method) (c : Code) (Qf : State → Prop) (ex : Nat → Nat) (B : Nat) (vX : Value) (H0 : Heap) (dC : Nat → ClassId) (dI : Nat → Nat → Nat) (cd : hk_Cd) (mx C S : Nat) : hk_X := fun ip ls st h k n =>
  ∀ (H : Heap) (locs : List Loc) (la : Array Slot), lv_has la mx (hk_cvl ex B vX ls) → hk_Rel ex B vX H0 dC dI s H h → (∀ q ∈ locs, B ≤ q.base) → k ≤ C → n ≤ S → W p l e R s m args below meth c H locs k n Qf (F0 m (hk_pc cd ip) la (st.map (hk_cv ex B vX)))
theorem hk_dn {bs : ByteArray} {cd : hk_Cd} {pc nx k : Nat} {i : Instr} (h : (hk_dq bs pc i k && Nat.beq (hk_pc cd nx) (pc + k)) = true) : decode bs pc = .ok (i, k) ∧ hk_pc cd nx = pc + k := by
  rw [Bool.and_eq_true] at h
  exact ⟨of_decide_eq_true h.1, Nat.eq_of_beq_eq_true h.2⟩
theorem hk_any {α : Type} {l : List α} {p : α → Bool} {f : α → Bool} (h : l.any p = true) (hl : l.all f = true) : ∃ e, e ∈ l ∧ p e = true ∧ f e = true := by
  obtain ⟨e, h1, h2⟩ := List.any_eq_true.mp h
  exact ⟨e, h1, h2, List.all_eq_true.mp hl e h1⟩
section Snd3
variable {p : Program} {l : Launch} {e : Env} {R : Room} {s : State} {m : MethodId} {args : Array Value} {below : List Frame} {meth : Method} {c : Code} {Qf : State → Prop} {ex : Nat → Nat} {B : Nat} {vX : Value} {H0 : Heap} {dC : Nat → ClassId} {dI : Nat → Nat → Nat} {d : Nat} {cd : hk_Cd} {call : hk_C} {own : Nat} {ini : Bool} {mx C S : Nat} {bs : ByteArray}
variable {H : Heap} {locs : List Loc} {la : Array Slot} {ls : hk_Ls} {st : List Value} {h : hk_Hp} {k n pc nx : Nat}
theorem hk_word (X : hk_Cx p l R s m meth c ex B vX H0 dC dI d cd call own ini mx C S bs) {w : Cond} (h : w ∈ lw_tbl ∧ hk_good w = true) : w.before args s = true := X.2.2.2.2.1.1 w h.1 h.2 args
/-- on with the next place -/
theorem hk_nx {cat : Nat} (g : hk_PP p l e R s m args below meth c Qf ex B vX H0 dC dI cd mx C S nx ls st h k n) (hN : hk_pc cd nx = cat) (hl : lv_has la mx (hk_cvl ex B vX ls)) (hR : hk_Rel ex B vX H0 dC dI s H h) (hq : ∀ q ∈ locs, B ≤ q.base) (hk : k ≤ C) (hn : n ≤ S) : W p l e R s m args below meth c H locs k n Qf (F0 m cat la (st.map (hk_cv ex B vX))) := by
  have := g H locs la hl hR hq hk hn
  rwa [hN] at this
/-- a call that has come back: its outcome, and the heap behind it -/
theorem hk_back {Q : hk_Q} {mc ms : Nat} {g : JFrame} {rest : List Value} {la : Array Slot} {st0 : List Value} (hg : g = F0 m pc la st0) (hr : va_Run p l e R s m args below meth c H locs k n mc ms g rest (fun _ o t => ∃ r h', o = .returned (r.map (hk_cv ex B vX)) ∧ Q r h' ∧ hk_Rel ex B vX H0 dC dI t t.heap h') (fun q => B ≤ q)) (hq : ∀ q ∈ locs, B ≤ q.base)
    (kk : ∀ (r : Option Value) (h' : hk_Hp) (H1 : Heap) (locs1 : List Loc), Q r h' → hk_Rel ex B vX H0 dC dI s H1 h' → (∀ q ∈ locs1, B ≤ q.base) → W p l e R s m args below meth c H1 locs1 (k + mc) (n + ms) Qf (F0 m (pc + 3) la ((r.map (hk_cv ex B vX)).toList ++ rest))) : W p l e R s m args below meth c H locs k n Qf g := by
  intro T hT X
  obtain ⟨v, st₀, t, T', L, h0, X', hL, e1, e2, ⟨r, h', hv, hQ, hR⟩, go⟩ := hr T hT X
  cases hv
  have hR' : hk_Rel ex B vX H0 dC dI s T'.heap h' := by
    rw [e1]
    exact hk_Rel_moved (by rw [← e2]; exact X'.warmed.alike.symm) hR
  obtain ⟨t2, a1, b1⟩ := kk r h' T'.heap (locs ++ L) hQ hR' (fun q hq' => by
    rcases List.mem_append.mp hq' with z | z
    · exact hq q z
    · exact hL q z) T' rfl X'
  subst hg
  exact ⟨t2, go t2 a1, b1⟩
theorem hk_blind (as : List Value) (h : hk_Hp) : FrameBlind (fun a U => a = (as.map (hk_cv ex B vX)).toArray ∧ hk_Env ex B vX H0 dC dI U ∧ hk_Rel ex B vX H0 dC dI U U.heap h) := by
  intro a U g mk q
  exact ⟨q.1, hk_Env_warm (s := U) (U := U.calling g mk a) (State.WarmedH.refl U) q.2.1, hk_Rel_moved (s := U) (U := U.calling g mk a) (Vm.Alike.refl U.vm) q.2.2⟩
/-- the words of a callee -/
theorem hk_callB (X : hk_Cx p l R s m meth c ex B vX H0 dC dI d cd call own ini mx C S bs) {M idx b : Nat} {C' S' : Nat} (hc : hk_cP M) (hlink : (Cond.methodLink (hk_cn own) idx (hk_my M)).before args s = true) (hini : (Cond.initialized (hk_my M).cls).before args s = true) (hmh : hk_noMH (hk_my M) = true) (hml : hk_ml M ≤ 40) (hds : hk_dsc M = some b) :
    CallB R s args (hk_cn own) idx (hk_my M) (hk_mb M) (hk_ml M) (hk_mr M) [.code (hk_my M) (hk_mb M) (hk_ml M) (hk_mr M)] (hk_rm d C' S') C' S' b := by
  have hw := X.2.2.2.2.1.1 _ hc rfl
  have hroom := X.2.2.2.2.2.2.2.2
  refine ⟨rfl, rfl, hroom.1, ?_, fun w hw' a' U hU => ?_, List.mem_cons_self, hw args, hini, of_decide_eq_true hmh, fun sig hs => ?_, hlink⟩
  · have : 8 + (hk_ml M + 11) + 100 * d ≤ 100 * (d + 1) := by omega
    exact Nat.le_trans this hroom.2.1
  · rw [List.mem_singleton.mp hw']
    exact (hk_Env_warm hU X.2.2.2.2.1).1 _ hc rfl a'
  · unfold hk_dsc at hds
    rw [hs] at hds
    exact (Option.some.inj hds).symm
end Snd3
end
section
/-! SOUNDNESS, 4: fields, arrays, new cells, calls -/
section Snd4
variable {p : Program} {l : Launch} {e : Env} {R : Room} {s : State} {m : MethodId} {args : Array Value} {below : List Frame} {meth : Method} {c : Code} {Qf : State → Prop} {ex : Nat → Nat} {B : Nat} {vX : Value} {H0 : Heap} {dC : Nat → ClassId} {dI : Nat → Nat → Nat} {d : Nat} {cd : hk_Cd} {call : hk_C} {own : Nat} {ini : Bool} {mx C S : Nat} {bs : ByteArray}
variable {H : Heap} {locs : List Loc} {la : Array Slot} {ls : hk_Ls} {st : List Value} {h : hk_Hp} {k n pc nx : Nat}
/-- a field's link -/
theorem hk_flink (X : hk_Cx p l R s m meth c ex B vX H0 dC dI d cd call own ini mx C S bs) {x a b : Nat} (hf : hk_fL.any (fun q => Nat.beq q.1 own && Nat.beq q.2.1 x && Nat.beq q.2.2.1 a && Nat.beq q.2.2.2.1 b) = true) :
    (Cond.fieldLink (hk_cn own) x (hk_cn a) (hk_T a b).2.1 (hk_T a b).2.2.1).before args s = true ∧ b < hk_nf a ∧ a ≤ 9 := by
  obtain ⟨q, -, h2, h3⟩ := hk_any hf hk_fL_ok
  simp only [Bool.and_eq_true] at h2
  obtain ⟨⟨⟨h4, h5⟩, h6⟩, h7⟩ := h2
  have e1 := Nat.eq_of_beq_eq_true h4
  have e2 := Nat.eq_of_beq_eq_true h5
  have e3 := Nat.eq_of_beq_eq_true h6
  have e4 := Nat.eq_of_beq_eq_true h7
  unfold hk_fOK at h3
  rw [Bool.and_eq_true, Bool.and_eq_true, e1, e2, e3, e4] at h3
  exact ⟨hk_word X (hk_w_in h3.1.1), Nat.lt_of_succ_le (Nat.le_of_ble_eq_true h3.1.2), Nat.le_of_ble_eq_true h3.2⟩
theorem hk_s_get (X : hk_Cx p l R s m meth c ex B vX H0 dC dI d cd call own ini mx C S bs) {x a b : Nat} (hf : hk_fL.any (fun q => Nat.beq q.1 own && Nat.beq q.2.1 x && Nat.beq q.2.2.1 a && Nat.beq q.2.2.2.1 b) = true) (hd : decode bs pc = .ok (.getfield x, 3)) (hR : hk_Rel ex B vX H0 dC dI s H h) {q : Nat} (ht : (h.2 q).1 = a) {rest : List Value}
    (kk : W p l e R s m args below meth c H locs k n Qf (F0 m (pc + 3) la (hk_cv ex B vX ((h.2 q).2.2 b) :: rest))) : W p l e R s m args below meth c H locs k n Qf (F0 m pc la (.ref (hk_ad ex B q) :: rest)) := by
  obtain ⟨hlink, hb, ha⟩ := hk_flink (args := args) X hf
  obtain ⟨hx, hbs, hml, hown, henv, -⟩ := X
  have ok := hR.2.2.2 q
  by_cases h9 : a < 9
  · obtain ⟨-, cell, q1, q2, q3, q4⟩ := ok.1 (by rw [ht]; exact h9)
    rw [ht] at q2 q4
    obtain ⟨hS, hfc, kC, hkC, hkind⟩ := henv.2.1 a h9
    obtain ⟨cf, kf, fi, f, hi, hsl⟩ := hS b hb
    have hst := (u_facts (args := args) hfc hkC (u_lays (ws := lw_tbl.filter hk_good) (fun w hw => henv.1 w (List.mem_filter.mp hw).1 (List.mem_filter.mp hw).2 args) (fun w hw => List.mem_filter.mpr (hk_lay0 a h9 w hw)) hb) hi).1
    rw [hk_Tc a h9 b hb] at hi
    exact W.getf hx hbs hown hlink hi hst q1 (by rw [q3]; exact fun z => by cases z) (v := hk_cv ex B vX ((h.2 q).2.2 b)) (by rw [hsl]; exact q4 b hb) rfl rfl hd kk
  · have e9 : a = 9 := by omega
    subst e9
    obtain ⟨-, -, g⟩ := ok.2.1 ht
    obtain ⟨cf, kc, i, f, cell, h1, h2, h3, h4, h5, -⟩ := g b hb
    exact W.getf hx hbs hown hlink h1 h2 h3 h4 h5 rfl rfl hd kk
theorem hk_s_put (X : hk_Cx p l R s m meth c ex B vX H0 dC dI d cd call own ini mx C S bs) {x a b tc : Nat} (hf : hk_fL.any (fun q => Nat.beq q.1 own && Nat.beq q.2.1 x && Nat.beq q.2.2.1 a && Nat.beq q.2.2.2.1 b) = true) (h9 : a < 9) (hfin : (!(hk_T a b).2.2.2 || (ini && Nat.beq own a)) = true) (htc : hk_tcq (hk_ty a b) tc = true) (hd : decode bs pc = .ok (.putfield x, 3)) (hR : hk_Rel ex B vX H0 dC dI s H h) {q : Nat} (h38 : 38 ≤ q) (ht : (h.2 q).1 = a) {v : Value} {rest : List Value} (hv : hk_pfv tc v True) (hq : ∀ q ∈ locs, B ≤ q.base)
    (kk : ∀ (H1 : Heap) (locs1 : List Loc), hk_Rel ex B vX H0 dC dI s H1 (hk_up h q (a, (h.2 q).2.1, va_up (h.2 q).2.2 b v)) → (∀ q ∈ locs1, B ≤ q.base) → W p l e R s m args below meth c H1 locs1 k n Qf (F0 m (pc + 3) la rest)) : W p l e R s m args below meth c H locs k n Qf (F0 m pc la (hk_cv ex B vX v :: .ref (hk_ad ex B q) :: rest)) := by
  obtain ⟨hlink, hb, -⟩ := hk_flink (args := args) X hf
  obtain ⟨hx, hbs, hml, hown, henv, hini, -⟩ := X
  have hty := hk_Tty a h9 b hb
  have hnf : narrow (hk_ty a b) (hk_cv ex B vX v) = hk_cv ex B vX v ∧ fits (hk_ty a b) (hk_cv ex B vX v) = true := by
    unfold hk_tcq at htc
    split at htc
    · rename_i e1; rw [e1]; cases v <;> first | exact absurd hv id | exact ⟨rfl, rfl⟩
    · rename_i e1; rw [e1]; cases v <;> first | exact absurd hv id | skip
      have h1 := hv.1
      refine ⟨?_, h1⟩
      rename_i z
      have : z = 0 ∨ z = 1 := by
        simp only [fits, Bool.or_eq_true, beq_iff_eq] at h1
        exact h1
      rcases this with rfl | rfl <;> rfl
    · rename_i e1; rw [e1]; cases v <;> first | exact absurd hv id | exact ⟨rfl, rfl⟩
    · rename_i e1; rw [e1]; cases v <;> first | exact absurd hv id | exact ⟨rfl, rfl⟩
    · rename_i e1; rw [e1]; cases v <;> first | exact absurd hv id | exact ⟨rfl, rfl⟩
    · exact absurd htc (by decide)
  obtain ⟨hlen, cell, q1, q2, q3, q4⟩ := (hR.2.2.2 q).1 (by rw [ht]; exact h9)
  rw [ht] at q2 q4 hlen
  have hts : ∀ w ∈ lw_tbl.filter hk_good, w.before args s = true := fun w hw => henv.1 w (List.mem_filter.mp hw).1 (List.mem_filter.mp hw).2 args
  have hin : ∀ w ∈ u_ws (hk_cn a) (hk_T a) (hk_nf a), w ∈ lw_tbl.filter hk_good := fun w hw => List.mem_filter.mpr (hk_lay0 a h9 w hw)
  obtain ⟨hS, hfc, kC, hkC, hkind⟩ := henv.2.1 a h9
  have hap : ∀ x y, x < hk_nf a → y < hk_nf a → x ≠ y → dI a x ≠ dI a y := by
    intro x y hx hy hne
    obtain ⟨_, _, _, fa, hia, ea⟩ := hS x hx
    obtain ⟨_, _, _, fb, hib, eb⟩ := hS y hy
    rw [← ea, ← eb]
    refine u_apart (u_lays hts hin hx) (u_lays hts hin hy) hia hib ?_
    rw [(State.fieldFound?_type hia (hk_Tty a h9 x hx)).1, (State.fieldFound?_type hib (hk_Tty a h9 y hy)).1]
    exact hk_Tnm a h9 x hx y hy hne
  obtain ⟨cf, kf, fi, f, hi, hsl⟩ := hS b hb
  have hst := (u_facts hfc hkC (u_lays hts hin hb) hi).1
  have hlay := hts _ (hin _ (u_in_lay hb))
  unfold u_lay at hlay
  have fin : ∀ H1 : Heap, H1[hk_ad ex B q]? = some (cell.setSlot f.slot (hk_cv ex B vX v)) → H1.size = H.size → (∀ z : Nat, z ≠ hk_ad ex B q → H1[z]? = H[z]?) → hk_Rel ex B vX H0 dC dI s H1 (hk_up h q (a, (h.2 q).2.1, va_up (h.2 q).2.2 b v)) := by
    intro H1 e1 e2 e3
    rw [hsl] at e1
    refine hk_Rel_up henv.2.2.2.2.2.1 hR h38 e2 e3 (hk_ok_obj h9 hlen ?_)
    rw [hk_cv_up]
    exact ⟨_, e1, q2, q3, t_set q4 hap hb _⟩
  have lo : ∀ z ∈ locs ++ [⟨hk_ad ex B q, f.slot⟩], B ≤ z.base := by
    intro z hz
    rcases List.mem_append.mp hz with w | w
    · exact hq z w
    · rw [List.mem_singleton.mp w]; exact hk_ad_B h38
  by_cases hfn : (hk_T a b).2.2.2 = true
  · rw [if_pos hfn] at hlay
    rw [hfn] at hfin
    simp only [Bool.not_true, Bool.false_or, Bool.and_eq_true] at hfin
    have eo : own = a := Nat.eq_of_beq_eq_true hfin.2
    have hcf : m.cls = cf := by
      obtain ⟨_, _, c', _, _, _, -, -, hf', -, -, -, hown2, -⟩ := Cond.laysFinal_spec hlay
      have e1 : c' = cf := by have := hi.symm.trans hf'; simp at this; exact this.1.symm
      rw [hk_Tc a h9 b hb] at hown2
      rw [← e1, ← eo] at *
      exact Option.some.inj (hown.symm.trans hown2)
    have h6 := u_fits hfc hkC hkind (Or.inr hlay) hi hty hnf.1 hnf.2
    rw [hk_Tc a h9 b hb] at hi
    exact W.putFinK hx hbs hown hlink hi hst hcf (hini hfin.1) (by rw [q2]; exact h6) q1 q3 (by rw [hsl]; exact k2_hasslot (q4 b hb)) rfl rfl hd fun H1 e1 e2 e3 => kk H1 _ (fin H1 e1 e2 e3) lo
  · rw [if_neg hfn] at hlay
    have h6 := u_store hfc hkC hkind hlay hi hty hnf.1 hnf.2
    rw [hk_Tc a h9 b hb] at hi
    exact W.putK hx hbs (f := f) ⟨hown, hlink, ⟨_, _, _, hi⟩, hst⟩ (by rw [q2]; exact h6) q1 q3 (by rw [hsl]; exact k2_hasslot (q4 b hb)) rfl rfl hd fun H1 e1 e2 e3 => kk H1 _ (fin H1 e1 e2 e3) lo
/-- a store into an array of numbers -/
theorem hk_s_ast (X : hk_Cx p l R s m meth c ex B vX H0 dC dI d cd call own ini mx C S bs) {t : Nat} {i : Int32} {q : Nat} (hd : (t = 10 ∧ decode bs pc = .ok (.iastore, 1)) ∨ (t = 11 ∧ decode bs pc = .ok (.lastore, 1)) ∨ (t = 12 ∧ decode bs pc = .ok (.bastore, 1))) (hR : hk_Rel ex B vX H0 dC dI s H h) (h38 : 38 ≤ q) (ht : (h.2 q).1 = t) (hi : vp_in i (h.2 q).2.1) {v : Value} {rest : List Value} {K : Value → Prop} (hv : hk_astv t v K) (hq : ∀ q ∈ locs, B ≤ q.base)
    (kk : ∀ (v' : Value) (H1 : Heap) (locs1 : List Loc), K v' → hk_Rel ex B vX H0 dC dI s H1 (hk_up h q (t, (h.2 q).2.1, va_up (h.2 q).2.2 i.toNatClampNeg v')) → (∀ q ∈ locs1, B ≤ q.base) → W p l e R s m args below meth c H1 locs1 k n Qf (F0 m (pc + 1) la rest)) : W p l e R s m args below meth c H locs k n Qf (F0 m pc la (hk_cv ex B vX v :: .int i :: .ref (hk_ad ex B q) :: rest)) := by
  obtain ⟨hx, hbs, hml, hown, henv, -⟩ := X
  have lo : ∀ z ∈ locs ++ [⟨hk_ad ex B q, i.toNatClampNeg⟩], B ≤ z.base := by
    intro z hz
    rcases List.mem_append.mp hz with w | w
    · exact hq z w
    · rw [List.mem_singleton.mp w]; exact hk_ad_B h38
  have ht2 : 10 ≤ t ∧ t ≤ 12 := by
    rcases hd with ⟨e, -⟩ | ⟨e, -⟩ | ⟨e, -⟩ <;> subst e <;> decide
  obtain ⟨cA, q1, q2, -⟩ := (hR.2.2.2 q).2.2.2 (by rw [ht]; exact ht2.1) (by rw [ht]; omega) h38
  rw [ht] at q2
  have hin : ¬ (i < 0 ∨ (arrV cA (h.2 q).2.1 (fun j => hk_cv ex B vX ((h.2 q).2.2 j))).slots.size ≤ i.toNatClampNeg) := by rw [arrV_size]; exact hi
  have fin : ∀ (v' : Value) (H1 : Heap), H1[hk_ad ex B q]? = some ((arrV cA (h.2 q).2.1 (fun j => hk_cv ex B vX ((h.2 q).2.2 j))).setSlot i.toNatClampNeg (hk_cv ex B vX v')) → H1.size = H.size → (∀ z : Nat, z ≠ hk_ad ex B q → H1[z]? = H[z]?) → hk_Rel ex B vX H0 dC dI s H1 (hk_up h q (t, (h.2 q).2.1, va_up (h.2 q).2.2 i.toNatClampNeg v')) := by
    intro v' H1 e1 e2 e3
    exact hk_Rel_up henv.2.2.2.2.2.1 hR h38 e2 e3 (hk_ok_ast ht2.1 h38 e1 q2 (fun z => by omega))
  rcases hd with ⟨e, hd⟩ | ⟨e, hd⟩ | ⟨e, hd⟩
  · subst e
    cases v <;> first | exact absurd hv id | skip
    exact W.iast hx hbs q1 (q2 _ _) (fun z => by cases z) hin rfl rfl hd fun H1 e1 e2 e3 => kk _ H1 _ hv (fin (.int _) H1 e1 e2 e3) lo
  · subst e
    cases v <;> first | exact absurd hv id | skip
    exact W.last hx hbs q1 (q2 _ _) (fun z => by cases z) hin rfl rfl hd fun H1 e1 e2 e3 => kk _ H1 _ hv (fin (.long _) H1 e1 e2 e3) lo
  · subst e
    cases v <;> first | exact absurd hv id | skip
    exact W.bast hx hbs q1 (q2 _ _) (fun z => by cases z) hin rfl rfl hd fun H1 e1 e2 e3 => kk _ H1 _ hv (fin (.int _) H1 e1 e2 e3) lo
end Snd4
section Snd4b
variable {p : Program} {l : Launch} {e : Env} {R : Room} {s : State} {m : MethodId} {args : Array Value} {below : List Frame} {meth : Method} {c : Code} {Qf : State → Prop} {ex : Nat → Nat} {B : Nat} {vX : Value} {H0 : Heap} {dC : Nat → ClassId} {dI : Nat → Nat → Nat} {d : Nat} {cd : hk_Cd} {call : hk_C} {own : Nat} {ini : Bool} {mx C S : Nat} {bs : ByteArray}
variable {H : Heap} {locs : List Loc} {la : Array Slot} {ls : hk_Ls} {st : List Value} {h : hk_Hp} {k n pc nx : Nat}
theorem hk_aty_r {t : Nat} (h1 : 13 ≤ t) (h2 : t ≤ 16) : hk_aty t = .object (hk_an t) := by
  have : t = 13 ∨ t = 14 ∨ t = 15 ∨ t = 16 := by omega
  rcases this with rfl | rfl | rfl | rfl <;> rfl
theorem hk_comp9 {t : Nat} (h1 : 13 ≤ t) (h2 : t ≤ 16) : hk_comp t < 9 := by
  have : t = 13 ∨ t = 14 ∨ t = 15 ∨ t = 16 := by omega
  rcases this with rfl | rfl | rfl | rfl <;> decide
/-- a store of a reference, or of null, into an array of references -/
theorem hk_s_ast2 (X : hk_Cx p l R s m meth c ex B vX H0 dC dI d cd call own ini mx C S bs) {i : Int32} {q : Nat} (hd : decode bs pc = .ok (.aastore, 1)) (hR : hk_Rel ex B vX H0 dC dI s H h) (h38 : 38 ≤ q) (h1 : 13 ≤ (h.2 q).1) (h2 : (h.2 q).1 ≤ 16) (hi : vp_in i (h.2 q).2.1) {v : Value} {rest : List Value} (hv : v = .null ∨ ∃ x, v = .ref x ∧ 38 ≤ x ∧ (h.2 x).1 = hk_comp (h.2 q).1) (hq : ∀ q ∈ locs, B ≤ q.base)
    (kk : ∀ (H1 : Heap) (locs1 : List Loc), hk_Rel ex B vX H0 dC dI s H1 (hk_up h q ((h.2 q).1, (h.2 q).2.1, va_up (h.2 q).2.2 i.toNatClampNeg v)) → (∀ q ∈ locs1, B ≤ q.base) → W p l e R s m args below meth c H1 locs1 k n Qf (F0 m (pc + 1) la rest)) : W p l e R s m args below meth c H locs k n Qf (F0 m pc la (hk_cv ex B vX v :: .int i :: .ref (hk_ad ex B q) :: rest)) := by
  obtain ⟨hx, hbs, hml, hown, henv, -⟩ := X
  have lo : ∀ z ∈ locs ++ [⟨hk_ad ex B q, i.toNatClampNeg⟩], B ≤ z.base := by
    intro z hz
    rcases List.mem_append.mp hz with w | w
    · exact hq z w
    · rw [List.mem_singleton.mp w]; exact hk_ad_B h38
  obtain ⟨cA, q1, q2, q3⟩ := (hR.2.2.2 q).2.2.2 (by omega) h2 h38
  have q3 := q3 h1
  have fin : ∀ (H1 : Heap), H1[hk_ad ex B q]? = some ((arrV cA (h.2 q).2.1 (fun j => hk_cv ex B vX ((h.2 q).2.2 j))).setSlot i.toNatClampNeg (hk_cv ex B vX v)) → H1.size = H.size → (∀ z : Nat, z ≠ hk_ad ex B q → H1[z]? = H[z]?) → hk_Rel ex B vX H0 dC dI s H1 (hk_up h q ((h.2 q).1, (h.2 q).2.1, va_up (h.2 q).2.2 i.toNatClampNeg v)) := by
    intro H1 e1 e2 e3
    exact hk_Rel_up henv.2.2.2.2.2.1 hR h38 e2 e3 (hk_ok_ast (by omega) h38 e1 q2 (fun _ => q3))
  rw [hk_aty_r h1 h2] at q2 q3
  rcases hv with rfl | ⟨x, rfl, hx38, hxt⟩
  · exact va_WaastN hx hbs q1 (q2 _ _) (fun z => by cases z) (by rw [arrV_size]; exact hi) rfl rfl hd fun H1 e1 e2 e3 => kk H1 _ (fin H1 e1 e2 e3) lo
  · obtain ⟨-, cellV, g1, g2, g3, -⟩ := (hR.2.2.2 x).1 (by rw [hxt]; exact hk_comp9 h1 h2)
    rw [hxt] at g2
    have hcls := (henv.2.1 _ (hk_comp9 h1 h2)).2
    obtain ⟨kA, comp, k1, k2, k3, -⟩ := q3
    have hcc : dC (hk_comp (h.2 q).1) = comp := Option.some.inj (hcls.1.symm.trans k3)
    obtain ⟨hf, kv, hkv, hkind⟩ := id hcls
    exact W.aast hx hbs q1 (fun z w => by cases w) (fun z => by cases z) k1 k2 rfl (kcomp := kv) (by rw [← hcc]; exact hkv) ⟨fun w => hi (Or.inl w), by rw [arrV_size]; exact hk_ilt hi⟩ g1 (fun z w => by rw [g3] at w; cases w) (kv := kv) (by rw [g2]; exact hkv) (by rw [g2, ← hcc]; exact va_assign hcls) rfl rfl hd fun H1 e1 e2 e3 => kk H1 _ (fin H1 e1 e2 e3) lo
theorem hk_def (t : FieldType) : hk_cv ex B vX (defaultValue t) = defaultValue t ∨ defaultValue t = .float 0 := by
  cases t <;> first | exact Or.inl rfl | exact Or.inr rfl
theorem hk_ty_nf : ∀ t, t < 9 → ∀ k, k < hk_nf t → defaultValue (hk_ty t k) ≠ .float 0 := by decide +kernel
/-- a new object -/
theorem hk_s_new (X : hk_Cx p l R s m meth c ex B vX H0 dC dI d cd call own ini mx C S bs) {x a b : Nat} (hf : hk_nL.any (fun q => Nat.beq q.1 own && Nat.beq q.2.1 x && Nat.beq q.2.2.1 a) = true) (hb : b = hk_nf a) (hd : decode bs pc = .ok (.new x, 3)) (hR : hk_Rel ex B vX H0 dC dI s H h) (hk : k + 1 ≤ C) (hn : n + b ≤ S) {rest : List Value}
    (kk : ∀ (H1 : Heap), hk_Rel ex B vX H0 dC dI s H1 (hk_nw h (a, b, hk_dft a)) → W p l e R s m args below meth c H1 locs (k + 1) (n + b) Qf (F0 m (pc + 3) la (.ref (hk_ad ex B h.1) :: rest))) : W p l e R s m args below meth c H locs k n Qf (F0 m pc la rest) := by
  subst hb
  obtain ⟨q, -, h2, h3⟩ := hk_any hf hk_nL_ok
  simp only [Bool.and_eq_true] at h2
  obtain ⟨⟨h4, h5⟩, h6⟩ := h2
  have e1 := Nat.eq_of_beq_eq_true h4
  have e2 := Nat.eq_of_beq_eq_true h5
  have e3 := Nat.eq_of_beq_eq_true h6
  unfold hk_nOK at h3
  rw [Bool.and_eq_true, Bool.and_eq_true, Bool.and_eq_true, e1, e2, e3] at h3
  have h9 : a < 9 := Nat.lt_of_succ_le (Nat.le_of_ble_eq_true h3.2)
  have w1 := hk_word (args := args) X (hk_w_in h3.1.1.1)
  have w2 := hk_word (args := args) X (hk_w_in h3.1.1.2)
  have w3 := hk_word (args := args) X (hk_w_in h3.1.2)
  obtain ⟨hx, hbs, hml, hown, henv, -, -, -, hroom⟩ := X
  have hts : ∀ w ∈ lw_tbl.filter hk_good, w.before args s = true := fun w hw => henv.1 w (List.mem_filter.mp hw).1 (List.mem_filter.mp hw).2 args
  have hin : ∀ w ∈ u_ws (hk_cn a) (hk_T a) (hk_nf a), w ∈ lw_tbl.filter hk_good := fun w hw => List.mem_filter.mpr (hk_lay0 a h9 w hw)
  have hKn := henv.2.1 a h9
  have hsz : H.size = hk_ad ex B h.1 := by rw [hk_ad_ge hR.2.1]; exact hR.1
  refine W.newcK hx hbs hown w1 w2 w3 rfl hd (Nat.le_trans hk hroom.2.2.1) (Nat.le_trans hn hroom.2.2.2) hKn.2.1 hsz fun H1 kC hkC e1 z1 o1 => ?_
  refine kk H1 (hk_Rel_nw henv.2.2.2.2.2.1 hR (by rw [z1, hsz]) (fun z hz => o1 z (by rw [← hsz]; exact hz)) (hk_ok_obj h9 (Nat.le_refl _) ?_))
  refine (u_born (hk_ty a) hts hin hKn hkC e1 (hk_Tty a h9)).to (fun j hj => ?_)
  rcases hk_def (ex := ex) (B := B) (vX := vX) (hk_ty a j) with z | z
  · exact z.symm
  · exact absurd z (hk_ty_nf a h9 j hj)
theorem hk_s_na (X : hk_Cx p l R s m meth c ex B vX H0 dC dI d cd call own ini mx C S bs) {a : Nat} (hd : (a = 10 ∧ decode bs pc = .ok (.newarray .int, 2)) ∨ (a = 11 ∧ decode bs pc = .ok (.newarray .long, 2)) ∨ (a = 12 ∧ decode bs pc = .ok (.newarray .byte, 2))) (hR : hk_Rel ex B vX H0 dC dI s H h) {i : Int32} (hi : ¬ i < 0 ∧ i.toNatClampNeg ≤ 1000 ∧ k + 1 ≤ C ∧ n + i.toNatClampNeg ≤ S) {rest : List Value}
    (kk : ∀ (H1 : Heap), hk_Rel ex B vX H0 dC dI s H1 (hk_nw h (a, i.toNatClampNeg, fun _ => hk_zero a)) → W p l e R s m args below meth c H1 locs (k + 1) (n + i.toNatClampNeg) Qf (F0 m (pc + 2) la (.ref (hk_ad ex B h.1) :: rest))) : W p l e R s m args below meth c H locs k n Qf (F0 m pc la (.int i :: rest)) := by
  obtain ⟨hx, hbs, hml, hown, henv, -, -, -, hroom⟩ := X
  have hsz : H.size = hk_ad ex B h.1 := by rw [hk_ad_ge hR.2.1]; exact hR.1
  have hc := Nat.le_trans hi.2.2.1 hroom.2.2.1
  have hs := Nat.le_trans hi.2.2.2 hroom.2.2.2
  rcases hd with ⟨rfl, hd⟩ | ⟨rfl, hd⟩ | ⟨rfl, hd⟩
  · refine va_newaK (atype := .int) hx hbs (henv.1 _ hk_arrc.1 rfl args) rfl hd rfl hi.1 rfl (by show _ * 4 ≤ _; omega) hc hs hsz fun H1 cA e1 z1 o1 hA _ => ?_
    exact kk H1 (hk_Rel_nw henv.2.2.2.2.2.1 hR (by rw [z1, hsz]) (fun z hz => o1 z (by rw [← hsz]; exact hz)) (hk_ok_anw (cA := cA) (by decide) hR.2.1 e1 hA (fun z => absurd z (by decide))))
  · refine va_newaK (atype := .long) hx hbs (henv.1 _ hk_arrc.2.1 rfl args) rfl hd rfl hi.1 rfl (by show _ * 8 ≤ _; omega) hc hs hsz fun H1 cA e1 z1 o1 hA _ => ?_
    exact kk H1 (hk_Rel_nw henv.2.2.2.2.2.1 hR (by rw [z1, hsz]) (fun z hz => o1 z (by rw [← hsz]; exact hz)) (hk_ok_anw (cA := cA) (by decide) hR.2.1 e1 hA (fun z => absurd z (by decide))))
  · refine va_newaK (atype := .byte) hx hbs (henv.1 _ hk_arrc.2.2 rfl args) rfl hd rfl hi.1 rfl (by show _ * 1 ≤ _; omega) hc hs hsz fun H1 cA e1 z1 o1 hA _ => ?_
    exact kk H1 (hk_Rel_nw henv.2.2.2.2.2.1 hR (by rw [z1, hsz]) (fun z hz => o1 z (by rw [← hsz]; exact hz)) (hk_ok_anw (cA := cA) (by decide) hR.2.1 e1 hA (fun z => absurd z (by decide))))
theorem hk_s_an (X : hk_Cx p l R s m meth c ex B vX H0 dC dI d cd call own ini mx C S bs) {x a : Nat} (hf : hk_aL.any (fun q => Nat.beq q.1 own && Nat.beq q.2.1 x && Nat.beq q.2.2.1 a) = true) (hd : decode bs pc = .ok (.anewarray x, 3)) (hR : hk_Rel ex B vX H0 dC dI s H h) {i : Int32} (hi : ¬ i < 0 ∧ i.toNatClampNeg ≤ 1000 ∧ k + 1 ≤ C ∧ n + i.toNatClampNeg ≤ S) {rest : List Value}
    (kk : ∀ (H1 : Heap), hk_Rel ex B vX H0 dC dI s H1 (hk_nw h (a, i.toNatClampNeg, fun _ => hk_zero a)) → W p l e R s m args below meth c H1 locs (k + 1) (n + i.toNatClampNeg) Qf (F0 m (pc + 3) la (.ref (hk_ad ex B h.1) :: rest))) : W p l e R s m args below meth c H locs k n Qf (F0 m pc la (.int i :: rest)) := by
  obtain ⟨q, -, h2, h3⟩ := hk_any hf hk_aL_ok
  simp only [Bool.and_eq_true] at h2
  obtain ⟨⟨h4, h5⟩, h6⟩ := h2
  have e1 := Nat.eq_of_beq_eq_true h4
  have e2 := Nat.eq_of_beq_eq_true h5
  have e3 := Nat.eq_of_beq_eq_true h6
  unfold hk_aOK at h3
  rw [Bool.and_eq_true, Bool.and_eq_true, Bool.and_eq_true, e1, e2, e3] at h3
  have g1 : 13 ≤ a := Nat.le_of_ble_eq_true h3.1.2
  have g2 : a ≤ 16 := Nat.le_of_ble_eq_true h3.2
  have w1 := hk_word (args := args) X (hk_w_in h3.1.1.1)
  have w2 := hk_word (args := args) X (hk_w_in h3.1.1.2)
  obtain ⟨hx, hbs, hml, hown, henv, -, -, -, hroom⟩ := X
  have hsz : H.size = hk_ad ex B h.1 := by rw [hk_ad_ge hR.2.1]; exact hR.1
  have hc := Nat.le_trans hi.2.2.1 hroom.2.2.1
  have hs := Nat.le_trans hi.2.2.2 hroom.2.2.2
  refine W.anew hx hbs hown w1 w2 rfl hd rfl hi.1 (by omega) hc hs fun cA kA comp f1 f2 f3 f4 => ?_
  rw [hsz]
  have hz : hk_zero a = .null := by
    have : a = 13 ∨ a = 14 ∨ a = 15 ∨ a = 16 := by omega
    rcases this with rfl | rfl | rfl | rfl <;> rfl
  refine kk _ (hk_Rel_nw henv.2.2.2.2.2.1 hR (by simp) (fun z hz => by rw [Array.getElem?_push, if_neg (Nat.ne_of_lt hz)]) (hk_ok_anw (cA := cA) (by omega) hR.2.1 ?_ ?_ (fun _ => ?_)))
  · rw [← hsz, hz]
    rw [show (fun _ : Nat => hk_cv ex B vX Value.null) = fun _ => Value.null from rfl, ← arrV_new]
    simp
  · rw [hk_aty_r g1 g2]
    exact fun n z => ⟨fun k h => (by cases h), kA, f2, comp, f3⟩
  · rw [hk_aty_r g1 g2]
    exact ⟨kA, comp, f2, f3, f4, f1⟩
end Snd4b
end
section
/-! SOUNDNESS, 5: calls, the copy of an array -/
section Snd5
variable {p : Program} {l : Launch} {e : Env} {R : Room} {s : State} {m : MethodId} {args : Array Value} {below : List Frame} {meth : Method} {c : Code} {Qf : State → Prop} {ex : Nat → Nat} {B : Nat} {vX : Value} {H0 : Heap} {dC : Nat → ClassId} {dI : Nat → Nat → Nat} {d : Nat} {cd : hk_Cd} {call : hk_C} {own : Nat} {ini : Bool} {mx C S : Nat} {bs : ByteArray}
variable {H : Heap} {locs : List Loc} {la : Array Slot} {ls : hk_Ls} {st : List Value} {h : hk_Hp} {k n pc nx : Nat}
/-- what the tables say of a callee -/
theorem hk_mlink {own x M : Nat} {kd : Nat → Bool} (hf : hk_mL.any (fun q => Nat.beq q.1 own && Nat.beq q.2.1 x && kd q.2.2.1 && Nat.beq q.2.2.2.1 M) = true) : ∃ kind p1 p2 p3 p4 p5, kd kind = true ∧ hk_mOK (own, x, kind, M, p1, p2, p3, p4, p5) = true ∧ hk_cP M := by
  obtain ⟨q, h1, h2, h3⟩ := hk_any hf hk_mL_ok
  have h8 := hk_mL_c q h1
  obtain ⟨o, x', kind, M', p1, p2, p3, p4, p5⟩ := q
  simp only [Bool.and_eq_true] at h2
  obtain ⟨⟨⟨h4, h5⟩, h6⟩, h7⟩ := h2
  have e1 := Nat.eq_of_beq_eq_true h4
  have e2 := Nat.eq_of_beq_eq_true h5
  have e4 := Nat.eq_of_beq_eq_true h7
  dsimp only at e1 e2 e4 h6 h8
  subst e1; subst e2; subst e4
  exact ⟨kind, p1, p2, p3, p4, p5, h6, h3, h8⟩
theorem hk_s_virt (X : hk_Cx p l R s m meth c ex B vX H0 dC dI d cd call own ini mx C S bs) {x M b : Nat} (hf : hk_mL.any (fun q => Nat.beq q.1 own && Nat.beq q.2.1 x && Nat.beq q.2.2.1 0 && Nat.beq q.2.2.2.1 M) = true) (hds : hk_dsc M = some b) {cd' : hk_Cd} {rt' : Option FieldType} {C' S' mx' : Nat} (hM : hk_nth hk_bds M = some (cd', rt', C', S', mx')) (hd : decode bs pc = .ok (.invokevirtual x, 3)) (hR : hk_Rel ex B vX H0 dC dI s H h) {q : Nat} (ht : (h.2 q).1 = hk_mo M) (h9 : hk_mo M ≤ 9) {as rest : List Value} {Q : hk_Q} (hlen : as.length = b) (hW : hk_cs rest ≤ 8) (hc : call M (.ref q :: as) h Q) (hl : la.size = mx) (hq : ∀ q ∈ locs, B ≤ q.base) (hk : k + C' ≤ C) (hn : n + S' ≤ S)
    (kk : ∀ (r : Option Value) (h' : hk_Hp) (H1 : Heap) (locs1 : List Loc), Q r h' → hk_Rel ex B vX H0 dC dI s H1 h' → (∀ q ∈ locs1, B ≤ q.base) → W p l e R s m args below meth c H1 locs1 (k + C') (n + S') Qf (F0 m (pc + 3) la ((r.map (hk_cv ex B vX)).toList ++ rest.map (hk_cv ex B vX)))) :
    W p l e R s m args below meth c H locs k n Qf (F0 m pc la ((as.map (hk_cv ex B vX)).reverse ++ .ref (hk_ad ex B q) :: rest.map (hk_cv ex B vX))) := by
  obtain ⟨kind, p1, p2, p3, p4, p5, hkd, hok, hcP⟩ := hk_mlink (kd := fun z => Nat.beq z 0) hf
  have ekd := Nat.eq_of_beq_eq_true hkd
  subst ekd
  simp only [hk_mOK, Bool.and_eq_true] at hok
  obtain ⟨⟨⟨⟨hmh, w4⟩, hml⟩, hcls⟩, ⟨w1, w2⟩, w3⟩ := hok
  have hmet := X.2.2.2.2.2.2.2.1 M _ h Q hc cd' rt' C' S' mx' hM
  have hcb := hk_callB (args := args) (C' := C') (S' := S') X hcP (hk_word X (hk_w_in w1)) (hk_word X (hk_w_in w4)) hmh (Nat.le_of_ble_eq_true hml) hds
  have hcw : CallW R s args (hk_cn own) (hk_my M).cls x (hk_my M) (hk_mb M) (hk_ml M) (hk_mr M) [.code (hk_my M) (hk_mb M) (hk_ml M) (hk_mr M)] (hk_rm d C' S') C' S' b := ⟨hcb, hk_word X (hk_w_in w2), hk_word X (hk_w_in w3)⟩
  have hroom := X.2.2.2.2.2.2.2.2
  have hX := X.2.2.2.2.1.2.2.2.2.2.2
  have hclsE : (hk_my M).cls = hk_cn (hk_mo M) := of_decide_eq_true hcls
  have hrecv : ∃ cellB : Cell, H[hk_ad ex B q]? = some cellB ∧ cellB.vm.isStatics = false ∧ s.vm.findClass (hk_my M).cls = some cellB.cls := by
    rw [hclsE]
    by_cases h8 : hk_mo M < 9
    · obtain ⟨-, cell, g1, g2, g3, -⟩ := (hR.2.2.2 q).1 (by rw [ht]; exact h8)
      rw [ht] at g2
      exact ⟨cell, g1, by rw [g3]; rfl, by rw [g2]; exact (X.2.2.2.2.1.2.1 _ h8).2.1⟩
    · have e9 : hk_mo M = 9 := by omega
      rw [e9] at ht ⊢
      obtain ⟨-, ⟨cell, g1, g2, g3, -⟩, -⟩ := (hR.2.2.2 q).2.1 ht
      exact ⟨cell, g1, g2, g3⟩
  refine hk_back (Q := Q) rfl (va_runV (b := hk_ad ex B q) (As := as.map (hk_cv ex B vX)) (rest := rest.map (hk_cv ex B vX)) (Ts := []) ⟨X.1, X.2.1, X.2.2.1, X.2.2.2.1, fun w hw => absurd hw List.not_mem_nil⟩ hmet hcw ⟨hk_blind _ _, hrecv, fun U hU hWm => ⟨rfl, hk_Env_warm hWm X.2.2.2.2.1, by rw [hU]; exact hk_Rel_moved hWm.alike hR⟩⟩ rfl (by rw [List.length_map, hlen]) hl rfl (lv_room (by rw [hk_cs_eq hX]; exact hW)) hd ⟨Nat.le_trans hk hroom.2.2.1, Nat.le_trans hn hroom.2.2.2⟩) hq kk
theorem hk_s_stat (X : hk_Cx p l R s m meth c ex B vX H0 dC dI d cd call own ini mx C S bs) {x M b : Nat} (hf : hk_mL.any (fun q => Nat.beq q.1 own && Nat.beq q.2.1 x && (Nat.beq q.2.2.1 1 || Nat.beq q.2.2.1 3) && Nat.beq q.2.2.2.1 M) = true) (hds : hk_dsc M = some b) {cd' : hk_Cd} {rt' : Option FieldType} {C' S' mx' : Nat} (hM : hk_nth hk_bds M = some (cd', rt', C', S', mx')) (hd : decode bs pc = .ok (.invokestatic x, 3)) (hR : hk_Rel ex B vX H0 dC dI s H h) {as rest : List Value} {Q : hk_Q} (hlen : as.length = b) (hW : hk_cs rest ≤ 8) (hc : call M as h Q) (hl : la.size = mx) (hq : ∀ q ∈ locs, B ≤ q.base) (hk : k + C' ≤ C) (hn : n + S' ≤ S)
    (kk : ∀ (r : Option Value) (h' : hk_Hp) (H1 : Heap) (locs1 : List Loc), Q r h' → hk_Rel ex B vX H0 dC dI s H1 h' → (∀ q ∈ locs1, B ≤ q.base) → W p l e R s m args below meth c H1 locs1 (k + C') (n + S') Qf (F0 m (pc + 3) la ((r.map (hk_cv ex B vX)).toList ++ rest.map (hk_cv ex B vX)))) :
    W p l e R s m args below meth c H locs k n Qf (F0 m pc la ((as.map (hk_cv ex B vX)).reverse ++ rest.map (hk_cv ex B vX))) := by
  obtain ⟨kind, p1, p2, p3, p4, p5, hkd, hok, hcP⟩ := hk_mlink (kd := fun z => Nat.beq z 1 || Nat.beq z 3) hf
  have hmet := X.2.2.2.2.2.2.2.1 M _ h Q hc cd' rt' C' S' mx' hM
  have hroom := X.2.2.2.2.2.2.2.2
  have hX := X.2.2.2.2.1.2.2.2.2.2.2
  have hpre : PreS s H (fun a U => a = (as.map (hk_cv ex B vX)).toArray ∧ hk_Env ex B vX H0 dC dI U ∧ hk_Rel ex B vX H0 dC dI U U.heap h) (as.map (hk_cv ex B vX)) := ⟨hk_blind _ _, fun U hU hWm => ⟨rfl, hk_Env_warm hWm X.2.2.2.2.1, by rw [hU]; exact hk_Rel_moved hWm.alike hR⟩⟩
  rw [Bool.or_eq_true] at hkd
  rcases hkd with hkd | hkd
  · have ekd := Nat.eq_of_beq_eq_true hkd
    subst ekd
    simp only [hk_mOK, Bool.and_eq_true] at hok
    obtain ⟨⟨⟨⟨hmh, w4⟩, hml⟩, hcls⟩, w1, w2⟩ := hok
    have hcb := hk_callB (args := args) (C' := C') (S' := S') X hcP (hk_word X (hk_w_in w1)) (hk_word X (hk_w_in w4)) hmh (Nat.le_of_ble_eq_true hml) hds
    exact hk_back (Q := Q) rfl (va_runS (As := as.map (hk_cv ex B vX)) (rest := rest.map (hk_cv ex B vX)) (Ts := []) ⟨X.1, X.2.1, X.2.2.1, X.2.2.2.1, fun w hw => absurd hw List.not_mem_nil⟩ hmet ⟨hcb, hk_word X (hk_w_in w2)⟩ hpre rfl (by rw [List.length_map, hlen]) hl rfl (lv_room (by rw [hk_cs_eq hX]; exact hW)) hd ⟨Nat.le_trans hk hroom.2.2.1, Nat.le_trans hn hroom.2.2.2⟩) hq kk
  · have ekd := Nat.eq_of_beq_eq_true hkd
    subst ekd
    simp only [hk_mOK, Bool.and_eq_true] at hok
    obtain ⟨⟨⟨⟨hmh, w4⟩, hml⟩, hcls⟩, w1, w2⟩ := hok
    have hw := X.2.2.2.2.1.1 _ hcP rfl
    have hcn : va_CN R s args (hk_cn own) x (hk_my M) "HatFields" (hk_mb M) (hk_ml M) (hk_mr M) [.code (hk_my M) (hk_mb M) (hk_ml M) (hk_mr M)] (hk_rm d C' S') C' S' b := by
      refine va_cnB (Ts := [.code (hk_my M) (hk_mb M) (hk_ml M) (hk_mr M)]) (ws' := []) b (fun w hw' => by rw [List.mem_singleton.mp hw']; exact hw args) (fun w hw' => ⟨hw', Or.inl (by rw [List.mem_singleton.mp hw']; rfl)⟩) rfl rfl rfl (va_Nw.of rfl (hk_word (args := args) X (hk_w_in w1))) (hk_word X (hk_w_in w4)) ?_ ⟨hroom.1, ?_⟩
      · have := of_decide_eq_true hmh
        exact ⟨this.1, this.2, hds⟩
      · have h1 : 8 + (hk_ml M + 11) + 100 * d ≤ 100 * (d + 1) := by have := Nat.le_of_ble_eq_true hml; omega
        exact Nat.le_trans h1 hroom.2.1
    exact hk_back (Q := Q) rfl (va_runSN (As := as.map (hk_cv ex B vX)) (rest := rest.map (hk_cv ex B vX)) (Ts := []) ⟨X.1, X.2.1, X.2.2.1, X.2.2.2.1, fun w hw => absurd hw List.not_mem_nil⟩ hmet ⟨hcn, hk_word X (hk_w_in w2), trivial⟩ hpre rfl (by rw [List.length_map, hlen]) hl rfl (lv_room (by rw [hk_cs_eq hX]; exact hW)) hd ⟨Nat.le_trans hk hroom.2.2.1, Nat.le_trans hn hroom.2.2.2⟩) hq kk
theorem hk_s_spec (X : hk_Cx p l R s m meth c ex B vX H0 dC dI d cd call own ini mx C S bs) {x M b : Nat} (hf : hk_mL.any (fun q => Nat.beq q.1 own && Nat.beq q.2.1 x && (Nat.beq q.2.2.1 2 || Nat.beq q.2.2.1 4) && Nat.beq q.2.2.2.1 M) = true) (hds : hk_dsc M = some b) {cd' : hk_Cd} {rt' : Option FieldType} {C' S' mx' : Nat} (hM : hk_nth hk_bds M = some (cd', rt', C', S', mx')) (hd : decode bs pc = .ok (.invokespecial x, 3)) (hR : hk_Rel ex B vX H0 dC dI s H h) {q : Nat} {as rest : List Value} {Q : hk_Q} (hlen : as.length = b) (hW : hk_cs rest ≤ 8) (hc : call M (.ref q :: as) h Q) (hl : la.size = mx) (hq : ∀ q ∈ locs, B ≤ q.base) (hk : k + C' ≤ C) (hn : n + S' ≤ S)
    (kk : ∀ (r : Option Value) (h' : hk_Hp) (H1 : Heap) (locs1 : List Loc), Q r h' → hk_Rel ex B vX H0 dC dI s H1 h' → (∀ q ∈ locs1, B ≤ q.base) → W p l e R s m args below meth c H1 locs1 (k + C') (n + S') Qf (F0 m (pc + 3) la ((r.map (hk_cv ex B vX)).toList ++ rest.map (hk_cv ex B vX)))) :
    W p l e R s m args below meth c H locs k n Qf (F0 m pc la ((as.map (hk_cv ex B vX)).reverse ++ .ref (hk_ad ex B q) :: rest.map (hk_cv ex B vX))) := by
  obtain ⟨kind, p1, p2, p3, p4, p5, hkd, hok, hcP⟩ := hk_mlink (kd := fun z => Nat.beq z 2 || Nat.beq z 4) hf
  have hmet := X.2.2.2.2.2.2.2.1 M _ h Q hc cd' rt' C' S' mx' hM
  have hroom := X.2.2.2.2.2.2.2.2
  have hX := X.2.2.2.2.1.2.2.2.2.2.2
  have hpre : PreS s H (fun a U => a = ((Value.ref q :: as).map (hk_cv ex B vX)).toArray ∧ hk_Env ex B vX H0 dC dI U ∧ hk_Rel ex B vX H0 dC dI U U.heap h) (.ref (hk_ad ex B q) :: as.map (hk_cv ex B vX)) := ⟨hk_blind _ _, fun U hU hWm => ⟨rfl, hk_Env_warm hWm X.2.2.2.2.1, by rw [hU]; exact hk_Rel_moved hWm.alike hR⟩⟩
  rw [Bool.or_eq_true] at hkd
  rcases hkd with hkd | hkd
  · have ekd := Nat.eq_of_beq_eq_true hkd
    subst ekd
    simp only [hk_mOK, Bool.and_eq_true] at hok
    obtain ⟨⟨⟨⟨hmh, w4⟩, hml⟩, hcls⟩, ⟨⟨w1, w2⟩, hnm⟩, hrn⟩ := hok
    have hrn : hk_mr M = none := of_decide_eq_true hrn
    have hcb := hk_callB (args := args) (C' := C') (S' := S') X hcP (hk_word X (hk_w_in w1)) (hk_word X (hk_w_in w4)) hmh (Nat.le_of_ble_eq_true hml) hds
    rw [hrn] at hcb hmet
    exact hk_back (Q := Q) rfl (va_runI (b := hk_ad ex B q) (As := as.map (hk_cv ex B vX)) (rest := rest.map (hk_cv ex B vX)) (Ts := []) ⟨X.1, X.2.1, X.2.2.1, X.2.2.2.1, fun w hw => absurd hw List.not_mem_nil⟩ hmet ⟨hcb, of_decide_eq_true hnm, hk_word X (hk_w_in w2)⟩ hpre rfl (by rw [List.length_map, hlen]) hl rfl (lv_room (by rw [hk_cs_eq hX]; exact hW)) hd ⟨Nat.le_trans hk hroom.2.2.1, Nat.le_trans hn hroom.2.2.2⟩) hq kk
  · have h4 : kind = 4 := Nat.eq_of_beq_eq_true hkd
    subst h4
    simp only [hk_mOK, Bool.and_eq_true] at hok
    obtain ⟨⟨⟨⟨hmh, w4⟩, hml⟩, hcls⟩, ⟨⟨w1, w2⟩, hnm⟩, hrn⟩ := hok
    have hrn : hk_mr M = none := of_decide_eq_true hrn
    have hw := X.2.2.2.2.1.1 _ hcP rfl
    have hcn : va_CN R s args (hk_cn own) x (hk_my M) "HatFields" (hk_mb M) (hk_ml M) (hk_mr M) [.code (hk_my M) (hk_mb M) (hk_ml M) (hk_mr M)] (hk_rm d C' S') C' S' b := by
      refine va_cnB (Ts := [.code (hk_my M) (hk_mb M) (hk_ml M) (hk_mr M)]) (ws' := []) b (fun w hw' => by rw [List.mem_singleton.mp hw']; exact hw args) (fun w hw' => ⟨hw', Or.inl (by rw [List.mem_singleton.mp hw']; rfl)⟩) rfl rfl rfl (va_Nw.of rfl (hk_word (args := args) X (hk_w_in w1))) (hk_word X (hk_w_in w4)) ?_ ⟨hroom.1, ?_⟩
      · have := of_decide_eq_true hmh
        exact ⟨this.1, this.2, hds⟩
      · have h1 : 8 + (hk_ml M + 11) + 100 * d ≤ 100 * (d + 1) := by have := Nat.le_of_ble_eq_true hml; omega
        exact Nat.le_trans h1 hroom.2.1
    rw [hrn] at hcn hmet
    exact hk_back (Q := Q) rfl (va_runIN (b := hk_ad ex B q) (As := as.map (hk_cv ex B vX)) (rest := rest.map (hk_cv ex B vX)) (Ts := []) ⟨X.1, X.2.1, X.2.2.1, X.2.2.2.1, fun w hw => absurd hw List.not_mem_nil⟩ hmet ⟨hcn, of_decide_eq_true hnm, hk_word X (hk_w_in w2)⟩ hpre rfl (by rw [List.length_map, hlen]) hl rfl (lv_room (by rw [hk_cs_eq hX]; exact hW)) hd ⟨Nat.le_trans hk hroom.2.2.1, Nat.le_trans hn hroom.2.2.2⟩) hq kk
/-- System.arraycopy between two arrays of ints -/
theorem hk_s_cpy (X : hk_Cx p l R s m meth c ex B vX H0 dC dI d cd call own ini mx C S bs) {x a b : Nat} (hf : hk_yL.any (fun q => Nat.beq q.1 own && Nat.beq q.2.1 x) = true) (hd : decode bs pc = .ok (.invokestatic x, 3)) (hR : hk_Rel ex B vX H0 dC dI s H h) (ta : (h.2 a).1 = 10) (tb : (h.2 b).1 = 10) (ha : 38 ≤ a) (hb : 38 ≤ b) {rest : List Value} (hW : hk_cs rest ≤ 8) {sp dp z : Int32} (h1 : ¬ sp < 0) (h2 : ¬ dp < 0) (h3 : ¬ z < 0) (h4 : sp.toNatClampNeg + z.toNatClampNeg ≤ (h.2 a).2.1) (h5 : dp.toNatClampNeg + z.toNatClampNeg ≤ (h.2 b).2.1) (hv : ∀ j, ∃ x, (h.2 a).2.2 j = .int x) (hl : la.size = mx) (hq : ∀ q ∈ locs, B ≤ q.base)
    (kk : ∀ (H1 : Heap) (locs1 : List Loc), hk_Rel ex B vX H0 dC dI s H1 (hk_up h b (10, (h.2 b).2.1, va_cpy (h.2 a).2.2 (h.2 b).2.2 sp.toNatClampNeg dp.toNatClampNeg z.toNatClampNeg)) → (∀ q ∈ locs1, B ≤ q.base) → W p l e R s m args below meth c H1 locs1 k n Qf (F0 m (pc + 3) la (rest.map (hk_cv ex B vX)))) :
    W p l e R s m args below meth c H locs k n Qf (F0 m pc la (.int z :: .int dp :: .ref (hk_ad ex B b) :: .int sp :: .ref (hk_ad ex B a) :: rest.map (hk_cv ex B vX))) := by
  obtain ⟨q, -, g2, g3⟩ := hk_any hf hk_yL_ok
  simp only [Bool.and_eq_true] at g2
  have e1 := Nat.eq_of_beq_eq_true g2.1
  have e2 := Nat.eq_of_beq_eq_true g2.2
  unfold hk_yOK at g3
  rw [e1, e2] at g3
  have hlink := hk_word (args := args) X (hk_w_in g3)
  obtain ⟨hx, hbs, hml, hown, henv, -, -, -, hroom⟩ := X
  have hX := henv.2.2.2.2.2.2
  have hnat := henv.1 _ hk_cpyi.1
  have nn : ∀ z : Int32, ¬ z < 0 → z.toInt = (z.toNatClampNeg : Int) := by
    intro z hz
    have hz0 : (0 : Int) ≤ z.toInt := by
      have := Int32.not_lt.mp hz
      simpa using Int32.le_iff_toInt_le.mp this
    show z.toInt = ((z.toInt.toNat : Nat) : Int)
    omega
  have hnw : nativeFrameWords "java/lang/System" "arraycopy" 5 ≤ 60 := by decide +kernel
  have hrl : 100 * (d + 1) ≤ R.locals := hroom.2.1
  obtain ⟨c0, hc0, hA0, -⟩ := (hR.2.2.2 a).2.2.2 (by omega) (by omega) ha
  obtain ⟨c1, hc1, hA1, -⟩ := (hR.2.2.2 b).2.2.2 (by omega) (by omega) hb
  rw [ta] at hA0
  rw [tb] at hA1
  intro T hT X
  obtain ⟨-, k0, hk0, cm0, hkk0⟩ := hA0 (h.2 a).2.1 (fun j => hk_cv ex B vX ((h.2 a).2.2 j))
  obtain ⟨-, k1, hk1, cm1, hkk1⟩ := hA1 (h.2 b).2.1 (fun j => hk_cv ex B vX ((h.2 b).2.2 j))
  obtain ⟨vm', X', step⟩ := X.arraycopy hx hown hlink (hnat rfl args) (henv.1 _ hk_cpyi.2.1 rfl args) (henv.1 _ hk_cpyi.2.2 rfl args) (src := hk_ad ex B a) (dst := hk_ad ex B b) (srcPos := sp) (destPos := dp) (n := z) (by rw [hT]; exact hc0) (by rw [hT]; exact hc1)
    (fun _ h => by cases h) (fun _ h => by cases h) (fun h => by cases h) (fun h => by cases h) hk0 hk1 hkk0 hkk1 (by decide) h1 h2 h3
    (by rw [nn sp h1, nn z h3, arrV_size]; omega)
    (by rw [nn dp h2, nn z h3, arrV_size]; omega)
    (fun vm₁ _ i hi => by
      obtain ⟨w, hw⟩ := hv (sp.toNatClampNeg + i)
      have e : (arrV c0 (h.2 a).2.1 (fun j => hk_cv ex B vX ((h.2 a).2.2 j))).slots.getD (sp.toNatClampNeg + i) .null = .int w := by
        rw [Array.getD_eq_getD_getElem?, arrV_read _ _ (by omega), hw]
        rfl
      refine ⟨?_, ?_⟩
      · rw [e]; rfl
      · rw [e]; exact trivial)
    (g := F0 m pc la (.int z :: .int dp :: .ref (hk_ad ex B b) :: .int sp :: .ref (hk_ad ex B a) :: rest.map (hk_cv ex B vX))) rfl (by rw [hml]; exact hl) (rest := rest.map (hk_cv ex B vX)) rfl (by rw [hbs]; exact hd) (by omega) (by rw [hk_cs_eq hX]; show 2 * 0 + _ + _ ≤ _; omega)
  have e1 : copied (arrV c0 (h.2 a).2.1 (fun j => hk_cv ex B vX ((h.2 a).2.2 j))) (arrV c1 (h.2 b).2.1 (fun j => hk_cv ex B vX ((h.2 b).2.2 j))) sp dp z = arrV c1 (h.2 b).2.1 (fun j => hk_cv ex B vX (va_cpy (h.2 a).2.2 (h.2 b).2.2 sp.toNatClampNeg dp.toNatClampNeg z.toNatClampNeg j)) := va_copied (hk_cv ex B vX) c0 c1 _ _ h4
  rw [e1] at X' step
  have hlt : hk_ad ex B b < H.size := (Array.getElem?_eq_some_iff.mp hc1).1
  have hheap : ∀ cell, ((T.setVm vm').setCell (hk_ad ex B b) cell).heap = H.setIfInBounds (hk_ad ex B b) cell := by intro cell; rw [← hT]; rfl
  have oq : ∀ cell, ∀ q : Nat, q ≠ hk_ad ex B b → (H.setIfInBounds (hk_ad ex B b) cell)[q]? = H[q]? := fun cell q hq => by simp [Array.getElem?_setIfInBounds, Ne.symm hq]
  obtain ⟨t, a1, b1⟩ := kk _ _ (hk_Rel_up (H1 := H.setIfInBounds (hk_ad ex B b) _) henv.2.2.2.2.2.1 hR hb (by simp) (oq _) (hk_ok_anw (cA := c1) (t := 10) (by decide) hb (by rw [Array.getElem?_setIfInBounds, if_pos rfl, if_pos hlt]) hA1 (fun w => absurd w (by decide)))) (fun q hq' => by
      rcases List.mem_append.mp hq' with w | w
      · exact hq q w
      · first
          | (rw [List.mem_singleton.mp w]; exact hk_ad_B hb)
          | (obtain ⟨i, -, rfl⟩ := List.mem_map.mp w; exact hk_ad_B hb)) _ (hheap _) X'
  exact ⟨t, step t a1, b1⟩
end Snd5
end
section
/-! SOUNDNESS, 6: the whole step -/
def hk_P1 (p : Program) (l : Launch) (e : Env) (R : Room) (s : State) (m : MethodId) (args : Array Value) (below : List Frame) (meth : Method) (c : Code) (Qf : State → Prop) (ex : Nat → Nat) (B : Nat) (vX : Value) (H0 : Heap) (dC : Nat → ClassId) (dI : Nat → Nat → Nat) (pc mx C S : Nat) (ls : hk_Ls) (st : List Value) (h : hk_Hp) (k n : Nat) : Prop :=
  ∀ (H : Heap) (locs : List Loc) (la : Array Slot), lv_has la mx (hk_cvl ex B vX ls) → hk_Rel ex B vX H0 dC dI s H h → (∀ q ∈ locs, B ≤ q.base) → k ≤ C → n ≤ S → W p l e R s m args below meth c H locs k n Qf (F0 m pc la (st.map (hk_cv ex B vX)))
theorem hk_sL38 : ∀ q ∈ hk_sL, q.2.2.1 < 38 := by decide +kernel
theorem hk_pfv_k {tc : Nat} {v : Value} {K : Prop} (g : hk_pfv tc v K) : K := by
  unfold hk_pfv at g
  split at g
  · exact g.2
  · exact g.2
  · exact g.2
  · exact g.2
  · exact g.2
  · exact absurd g id
theorem hk_alc_sp {t a b C S k n : Nat} {K : Nat → Nat → Prop} (g : hk_alc [t, a, b] C S k n K) (hk : k ≤ C) (hn : n ≤ S) : ∃ k1 n1, k1 ≤ C ∧ n1 ≤ S ∧ k1 = k + a ∧ n1 = n + b ∧ K k1 n1 := by
  unfold hk_alc at g
  split at g
  · rename_i e; cases e; exact ⟨k, n, hk, hn, rfl, rfl, g⟩
  · rename_i e; cases e; exact ⟨_, _, g.1.1, g.1.2, rfl, rfl, g.2⟩
  · exact absurd g id
theorem hk_mo9a : hk_mL.all (fun q => !(Nat.beq q.2.2.1 0) || Nat.ble (hk_mo q.2.2.2.1) 9) = true := by decide +kernel
theorem hk_mo9 {own x M : Nat} (hf : hk_mL.any (fun q => Nat.beq q.1 own && Nat.beq q.2.1 x && Nat.beq q.2.2.1 0 && Nat.beq q.2.2.2.1 M) = true) : hk_mo M ≤ 9 := by
  obtain ⟨q, -, h2, h3⟩ := hk_any hf hk_mo9a
  simp only [Bool.and_eq_true] at h2
  rw [h2.1.2, Nat.eq_of_beq_eq_true h2.2] at h3
  exact Nat.le_of_ble_eq_true (by simpa using h3)
section Snd6
variable {p : Program} {l : Launch} {e : Env} {R : Room} {s : State} {m : MethodId} {args : Array Value} {below : List Frame} {meth : Method} {c : Code} {Qf : State → Prop} {ex : Nat → Nat} {B : Nat} {vX : Value} {H0 : Heap} {dC : Nat → ClassId} {dI : Nat → Nat → Nat} {d : Nat} {cd : hk_Cd} {call : hk_C} {own : Nat} {ini : Bool} {mx C S : Nat} {bs : ByteArray}
variable {H : Heap} {locs : List Loc} {la : Array Slot} {ls : hk_Ls} {st : List Value} {h : hk_Hp} {k n pc nx a ip : Nat}
theorem hk_s_if (hx : p.tables.exec = Jvm.exec) (hbs : c.code = bs) {d : ClassFile.Cond} {off : Int} (hd : decode bs pc = .ok (.ifCond d off, 3)) (hJ : (pc : Int) + off = (hk_pc cd a : Int)) (hN : hk_pc cd nx = pc + 3) {x : Int32} {A B0 : Prop} (g : hk_ift d x 0 A B0) {rest : List Value} (hA : A → W p l e R s m args below meth c H locs k n Qf (F0 m (hk_pc cd a) la rest)) (hB : B0 → W p l e R s m args below meth c H locs k n Qf (F0 m (pc + 3) la rest)) : W p l e R s m args below meth c H locs k n Qf (F0 m pc la (.int x :: rest)) := by
  cases d
  · exact lv_if_eq hx hbs hd hJ (fun z => hA (g.1 z)) (fun z => hB (g.2 z))
  · exact lv_if_ne hx hbs hd hJ (fun z => hA (g.2 z)) (fun z => hB (g.1 z))
  · exact lv_if_lt hx hbs hd hJ (fun z => hA (g.1 z)) (fun z => hB (g.2 z))
  · exact lv_if_ge hx hbs hd hJ (fun z => hA (g.1 z)) (fun z => hB (g.2 z))
  · exact lv_if_gt hx hbs hd hJ (fun z => hA (g.1 z)) (fun z => hB (g.2 z))
  · exact lv_if_le hx hbs hd hJ (fun z => hA (g.1 z)) (fun z => hB (g.2 z))
theorem hk_s_icmp (hx : p.tables.exec = Jvm.exec) (hbs : c.code = bs) {d : ClassFile.Cond} {off : Int} (hd : decode bs pc = .ok (.if_icmp d off, 3)) (hJ : (pc : Int) + off = (hk_pc cd a : Int)) (hN : hk_pc cd nx = pc + 3) {x y : Int32} {A B0 : Prop} (g : hk_ift d x y A B0) {rest : List Value} (hA : A → W p l e R s m args below meth c H locs k n Qf (F0 m (hk_pc cd a) la rest)) (hB : B0 → W p l e R s m args below meth c H locs k n Qf (F0 m (pc + 3) la rest)) : W p l e R s m args below meth c H locs k n Qf (F0 m pc la (.int y :: .int x :: rest)) := by
  cases d
  · exact lv_icmp_eq hx hbs hd hJ (fun z => hA (g.1 z)) (fun z => hB (g.2 z))
  · exact lv_icmp_ne hx hbs hd hJ (fun z => hA (g.2 z)) (fun z => hB (g.1 z))
  · exact lv_icmp_lt hx hbs hd hJ (fun z => hA (g.1 z)) (fun z => hB (g.2 z))
  · exact lv_icmp_ge hx hbs hd hJ (fun z => hA (g.1 z)) (fun z => hB (g.2 z))
  · exact lv_icmp_gt hx hbs hd hJ (fun z => hA (g.1 z)) (fun z => hB (g.2 z))
  · exact lv_icmp_le hx hbs hd hJ (fun z => hA (g.1 z)) (fun z => hB (g.2 z))
theorem hk_fin4 {j : Nat} (h : Nat.blt j 4 = true) : ((Fin.ofNat 4 j : Fin 4) : Nat) = j := Nat.mod_eq_of_lt (Nat.lt_of_succ_le (Nat.le_of_ble_eq_true h))
theorem hk_blt {a b : Nat} (h : Nat.blt a b = true) : a < b := Nat.lt_of_succ_le (Nat.le_of_ble_eq_true h)

set_option maxHeartbeats 4000000 in
theorem hk_o_aconst_null (X : hk_Cx p l R s m meth c ex B vX H0 dC dI d cd call own ini mx C S bs)  {b : Nat} {cc : Int32} {tl : List Nat} (hck : hk_chk cd own ini mx bs (pc, .aconst_null, nx, a, b, cc, tl) = true)
    (g : (hk_PP p l e R s m args below meth c Qf ex B vX H0 dC dI cd mx C S) nx ls (.null :: st) h k n) : hk_P1 p l e R s m args below meth c Qf ex B vX H0 dC dI pc mx C S ls st h k n := by
  intro H locs la hl hR hq hk hn
  have hX0 := X
  obtain ⟨hx, hbs, hml, hown, henv, hini, hchk, -, hroom⟩ := hX0
  have hVX := henv.2.2.2.2.2.2
  unfold hk_chk at hck
  dsimp only at hck
  obtain ⟨hd, hN⟩ := hk_dn hck
  exact lv_null hx hbs hd (hk_nx g hN hl hR hq hk hn)
set_option maxHeartbeats 4000000 in
theorem hk_o_iconst (X : hk_Cx p l R s m meth c ex B vX H0 dC dI d cd call own ini mx C S bs) {u0 : Int} {b : Nat} {cc : Int32} {tl : List Nat} (hck : hk_chk cd own ini mx bs (pc, .iconst u0, nx, a, b, cc, tl) = true)
    (g : (hk_PP p l e R s m args below meth c Qf ex B vX H0 dC dI cd mx C S) nx ls (.int cc :: st) h k n) : hk_P1 p l e R s m args below meth c Qf ex B vX H0 dC dI pc mx C S ls st h k n := by
  intro H locs la hl hR hq hk hn
  have hX0 := X
  obtain ⟨hx, hbs, hml, hown, henv, hini, hchk, -, hroom⟩ := hX0
  have hVX := henv.2.2.2.2.2.2
  unfold hk_chk at hck
  dsimp only at hck
  split at hck
  · rename_i z hd; simp only [Bool.and_eq_true] at hck
    exact lv_iconst hx hbs hd (of_decide_eq_true hck.1) (hk_nx g (Nat.eq_of_beq_eq_true hck.2) hl hR hq hk hn)
  · rename_i z hd; simp only [Bool.and_eq_true] at hck
    exact lv_bipush hx hbs hd (of_decide_eq_true hck.1) (hk_nx g (Nat.eq_of_beq_eq_true hck.2) hl hR hq hk hn)
  · rename_i z hd; simp only [Bool.and_eq_true] at hck
    exact lv_sipush hx hbs hd (of_decide_eq_true hck.1) (hk_nx g (Nat.eq_of_beq_eq_true hck.2) hl hR hq hk hn)
  · rename_i z hd; rw [Bool.and_eq_true] at hck
    obtain ⟨q, -, h2, h3⟩ := hk_any hck.1 hk_iL_ok
    simp only [Bool.and_eq_true] at h2
    unfold hk_iOK at h3
    rw [Nat.eq_of_beq_eq_true h2.1.1, Nat.eq_of_beq_eq_true h2.1.2, of_decide_eq_true h2.2] at h3
    exact lv_ldc hx hbs hown (hk_word X (hk_w_in h3)) hd (hk_nx g (Nat.eq_of_beq_eq_true hck.2) hl hR hq hk hn)
  · rename_i z hd; rw [Bool.and_eq_true] at hck
    obtain ⟨q, -, h2, h3⟩ := hk_any hck.1 hk_iL_ok
    simp only [Bool.and_eq_true] at h2
    unfold hk_iOK at h3
    rw [Nat.eq_of_beq_eq_true h2.1.1, Nat.eq_of_beq_eq_true h2.1.2, of_decide_eq_true h2.2] at h3
    exact lv_ldcw hx hbs hown (hk_word X (hk_w_in h3)) hd (hk_nx g (Nat.eq_of_beq_eq_true hck.2) hl hR hq hk hn)
  · exact absurd hck (by decide)
set_option maxHeartbeats 4000000 in
theorem hk_o_lconst (X : hk_Cx p l R s m meth c ex B vX H0 dC dI d cd call own ini mx C S bs) {u0 : Fin 2} {b : Nat} {cc : Int32} {tl : List Nat} (hck : hk_chk cd own ini mx bs (pc, .lconst u0, nx, a, b, cc, tl) = true)
    (g : (match hk_nth hk_lc a with | some v => (hk_PP p l e R s m args below meth c Qf ex B vX H0 dC dI cd mx C S) nx ls (.long v :: st) h k n | none => False)) : hk_P1 p l e R s m args below meth c Qf ex B vX H0 dC dI pc mx C S ls st h k n := by
  intro H locs la hl hR hq hk hn
  have hX0 := X
  obtain ⟨hx, hbs, hml, hown, henv, hini, hchk, -, hroom⟩ := hX0
  have hVX := henv.2.2.2.2.2.2
  unfold hk_chk at hck
  dsimp only at hck
  try dsimp only at g
  split at hck
  · rename_i z hd; simp only [Bool.and_eq_true] at hck
    have ea := Nat.eq_of_beq_eq_true hck.1.1
    have hz : z.val = 0 ∨ z.val = 1 := by omega
    rcases hz with h0 | h0
    · rw [← ea, h0] at g
      exact lv_lconst (v := 0) hx hbs hd (by rw [h0]; rfl) (hk_nx g (Nat.eq_of_beq_eq_true hck.2) hl hR hq hk hn)
    · rw [← ea, h0] at g
      exact lv_lconst (v := 1) hx hbs hd (by rw [h0]; rfl) (hk_nx g (Nat.eq_of_beq_eq_true hck.2) hl hR hq hk hn)
  · rename_i z hd; rw [Bool.and_eq_true] at hck
    obtain ⟨q, -, h2, h3⟩ := hk_any hck.1 hk_lL_ok
    simp only [Bool.and_eq_true] at h2
    unfold hk_lOK at h3
    rw [Nat.eq_of_beq_eq_true h2.1.1, Nat.eq_of_beq_eq_true h2.1.2, Nat.eq_of_beq_eq_true h2.2] at h3
    split at g
    · rename_i v hv
      rw [hv] at h3
      exact lv_ldc2 hx hbs hown (hk_word X (hk_w_in h3)) hd (hk_nx g (Nat.eq_of_beq_eq_true hck.2) hl hR hq hk hn)
    · exact absurd g id
  · exact absurd hck (by decide)
set_option maxHeartbeats 4000000 in
theorem hk_o_ldc (X : hk_Cx p l R s m meth c ex B vX H0 dC dI d cd call own ini mx C S bs) {u0 : Nat} {b : Nat} {cc : Int32} {tl : List Nat} (hck : hk_chk cd own ini mx bs (pc, .ldc u0, nx, a, b, cc, tl) = true)
    (g : (hk_PP p l e R s m args below meth c Qf ex B vX H0 dC dI cd mx C S) nx ls (.ref a :: st) h k n) : hk_P1 p l e R s m args below meth c Qf ex B vX H0 dC dI pc mx C S ls st h k n := by
  intro H locs la hl hR hq hk hn
  have hX0 := X
  obtain ⟨hx, hbs, hml, hown, henv, hini, hchk, -, hroom⟩ := hX0
  have hVX := henv.2.2.2.2.2.2
  unfold hk_chk at hck
  dsimp only at hck
  split at hck
  · rename_i z hd; rw [Bool.and_eq_true] at hck
    obtain ⟨q, q1, h2⟩ := List.any_eq_true.mp hck.1
    simp only [Bool.and_eq_true] at h2
    have hz := henv.2.2.2.1 q q1
    rw [Nat.eq_of_beq_eq_true h2.1.1, Nat.eq_of_beq_eq_true h2.1.2, Nat.eq_of_beq_eq_true h2.2] at hz
    have h38 : a < 38 := by
      rw [← Nat.eq_of_beq_eq_true h2.2]
      exact hk_sL38 q q1
    have g' := hk_nx g (Nat.eq_of_beq_eq_true hck.2) hl hR hq hk hn
    refine va_ldcS hx hbs hown hz hd ?_
    have e1 : hk_ad ex B a = ex a := hk_ad_lt h38
    rw [← e1]
    exact g'
  · exact absurd hck (by decide)
set_option maxHeartbeats 4000000 in
theorem hk_o_iload (X : hk_Cx p l R s m meth c ex B vX H0 dC dI d cd call own ini mx C S bs) {j : Nat} {b : Nat} {cc : Int32} {tl : List Nat} (hck : hk_chk cd own ini mx bs (pc, .iload j, nx, a, b, cc, tl) = true)
    (g : hk_lk ls j (fun v => match v with | .int x => (hk_PP p l e R s m args below meth c Qf ex B vX H0 dC dI cd mx C S) nx ls (.int x :: st) h k n | _ => False)) : hk_P1 p l e R s m args below meth c Qf ex B vX H0 dC dI pc mx C S ls st h k n := by
  intro H locs la hl hR hq hk hn
  have hX0 := X
  obtain ⟨hx, hbs, hml, hown, henv, hini, hchk, -, hroom⟩ := hX0
  have hVX := henv.2.2.2.2.2.2
  unfold hk_chk at hck
  dsimp only at hck
  obtain ⟨v, hm, hv⟩ := hk_lk_in g
  rw [Bool.or_eq_true] at hck
  have hla := hl.2.2 _ (List.mem_map.mpr ⟨_, hm, rfl⟩)
  cases v <;> first | exact absurd hv id | skip
  case int =>
    rcases hck with z | z
    · obtain ⟨hd, hN⟩ := hk_dn z
      exact lv_iload hx hbs hd hla (hk_nx hv hN hl hR hq hk hn)
    · rw [Bool.and_eq_true] at z
      obtain ⟨hd, hN⟩ := hk_dn z.2
      exact lv_iload_n hx hbs hd (hk_fin4 z.1) hla (hk_nx hv hN hl hR hq hk hn)
set_option maxHeartbeats 4000000 in
theorem hk_o_lload (X : hk_Cx p l R s m meth c ex B vX H0 dC dI d cd call own ini mx C S bs) {j : Nat} {b : Nat} {cc : Int32} {tl : List Nat} (hck : hk_chk cd own ini mx bs (pc, .lload j, nx, a, b, cc, tl) = true)
    (g : hk_lk ls j (fun v => match v with | .long x => (hk_PP p l e R s m args below meth c Qf ex B vX H0 dC dI cd mx C S) nx ls (.long x :: st) h k n | _ => False)) : hk_P1 p l e R s m args below meth c Qf ex B vX H0 dC dI pc mx C S ls st h k n := by
  intro H locs la hl hR hq hk hn
  have hX0 := X
  obtain ⟨hx, hbs, hml, hown, henv, hini, hchk, -, hroom⟩ := hX0
  have hVX := henv.2.2.2.2.2.2
  unfold hk_chk at hck
  dsimp only at hck
  obtain ⟨v, hm, hv⟩ := hk_lk_in g
  rw [Bool.or_eq_true] at hck
  have hla := hl.2.2 _ (List.mem_map.mpr ⟨_, hm, rfl⟩)
  cases v <;> first | exact absurd hv id | skip
  case long =>
    rcases hck with z | z
    · obtain ⟨hd, hN⟩ := hk_dn z
      exact lv_lload hx hbs hd hla (hk_nx hv hN hl hR hq hk hn)
    · rw [Bool.and_eq_true] at z
      obtain ⟨hd, hN⟩ := hk_dn z.2
      exact lv_lload_n hx hbs hd (hk_fin4 z.1) hla (hk_nx hv hN hl hR hq hk hn)
set_option maxHeartbeats 4000000 in
theorem hk_o_aload (X : hk_Cx p l R s m meth c ex B vX H0 dC dI d cd call own ini mx C S bs) {j : Nat} {b : Nat} {cc : Int32} {tl : List Nat} (hck : hk_chk cd own ini mx bs (pc, .aload j, nx, a, b, cc, tl) = true)
    (g : hk_lk ls j (fun v => match v with | .ref x => (hk_PP p l e R s m args below meth c Qf ex B vX H0 dC dI cd mx C S) nx ls (.ref x :: st) h k n | .null => (hk_PP p l e R s m args below meth c Qf ex B vX H0 dC dI cd mx C S) nx ls (.null :: st) h k n | _ => False)) : hk_P1 p l e R s m args below meth c Qf ex B vX H0 dC dI pc mx C S ls st h k n := by
  intro H locs la hl hR hq hk hn
  have hX0 := X
  obtain ⟨hx, hbs, hml, hown, henv, hini, hchk, -, hroom⟩ := hX0
  have hVX := henv.2.2.2.2.2.2
  unfold hk_chk at hck
  dsimp only at hck
  obtain ⟨v, hm, hv⟩ := hk_lk_in g
  rw [Bool.or_eq_true] at hck
  have hla := hl.2.2 _ (List.mem_map.mpr ⟨_, hm, rfl⟩)
  cases v <;> first | exact absurd hv id | skip
  case null =>
    rcases hck with z | z
    · obtain ⟨hd, hN⟩ := hk_dn z
      exact lv_aloadN hx hbs hd hla (hk_nx hv hN hl hR hq hk hn)
    · rw [Bool.and_eq_true] at z
      obtain ⟨hd, hN⟩ := hk_dn z.2
      exact lv_aload_nN hx hbs hd (hk_fin4 z.1) hla (hk_nx hv hN hl hR hq hk hn)
  case ref =>
    rcases hck with z | z
    · obtain ⟨hd, hN⟩ := hk_dn z
      exact lv_aload hx hbs hd hla (hk_nx hv hN hl hR hq hk hn)
    · rw [Bool.and_eq_true] at z
      obtain ⟨hd, hN⟩ := hk_dn z.2
      exact lv_aload_n hx hbs hd (hk_fin4 z.1) hla (hk_nx hv hN hl hR hq hk hn)
set_option maxHeartbeats 4000000 in
theorem hk_o_istore (X : hk_Cx p l R s m meth c ex B vX H0 dC dI d cd call own ini mx C S bs) {j : Nat} {b : Nat} {cc : Int32} {tl : List Nat} (hck : hk_chk cd own ini mx bs (pc, .istore j, nx, a, b, cc, tl) = true)
    (g : (match (generalizing := false) st with | .int x :: r => hk_fl (hk_p1 j) ls (fun l9 => (hk_PP p l e R s m args below meth c Qf ex B vX H0 dC dI cd mx C S) nx ((j, .int x) :: l9) r h k n) | _ => False)) : hk_P1 p l e R s m args below meth c Qf ex B vX H0 dC dI pc mx C S ls st h k n := by
  intro H locs la hl hR hq hk hn
  have hX0 := X
  obtain ⟨hx, hbs, hml, hown, henv, hini, hchk, -, hroom⟩ := hX0
  have hVX := henv.2.2.2.2.2.2
  unfold hk_chk at hck
  dsimp only at hck
  rw [Bool.and_eq_true, Bool.or_eq_true] at hck
  obtain ⟨hj, hck⟩ := hck
  have hj := hk_blt hj
  try dsimp only at g
  split at g
  · rw [hk_fl_eq] at g
    rcases hck with z | z
    · obtain ⟨hd, hN⟩ := hk_dn z
      exact lv_istore (lv' := hk_cvl ex B vX ((j, _) :: ls.filter (hk_p1 j))) hx hbs hd hl hj (by unfold hk_cvl; rw [hk_fil1 hVX]; rfl) (fun la hl => hk_nx g hN hl hR hq hk hn)
    · rw [Bool.and_eq_true] at z
      obtain ⟨hd, hN⟩ := hk_dn z.2
      exact lv_istore_n (lv' := hk_cvl ex B vX ((j, _) :: ls.filter (hk_p1 j))) hx hbs hd (hk_fin4 z.1) hl hj (by unfold hk_cvl; rw [hk_fil1 hVX]; rfl) (fun la hl => hk_nx g hN hl hR hq hk hn)
  · exact absurd g id
set_option maxHeartbeats 4000000 in
theorem hk_o_lstore (X : hk_Cx p l R s m meth c ex B vX H0 dC dI d cd call own ini mx C S bs) {j : Nat} {b : Nat} {cc : Int32} {tl : List Nat} (hck : hk_chk cd own ini mx bs (pc, .lstore j, nx, a, b, cc, tl) = true)
    (g : (match (generalizing := false) st with | .long x :: r => hk_fl (hk_p2 j) ls (fun l9 => (hk_PP p l e R s m args below meth c Qf ex B vX H0 dC dI cd mx C S) nx ((j, .long x) :: l9) r h k n) | _ => False)) : hk_P1 p l e R s m args below meth c Qf ex B vX H0 dC dI pc mx C S ls st h k n := by
  intro H locs la hl hR hq hk hn
  have hX0 := X
  obtain ⟨hx, hbs, hml, hown, henv, hini, hchk, -, hroom⟩ := hX0
  have hVX := henv.2.2.2.2.2.2
  unfold hk_chk at hck
  dsimp only at hck
  rw [Bool.and_eq_true, Bool.or_eq_true] at hck
  obtain ⟨hj, hck⟩ := hck
  have hj := hk_blt hj
  try dsimp only at g
  split at g
  · rw [hk_fl_eq] at g
    rcases hck with z | z
    · obtain ⟨hd, hN⟩ := hk_dn z
      exact lv_lstore (lv' := hk_cvl ex B vX ((j, _) :: ls.filter (hk_p2 j))) hx hbs hd hl hj (by unfold hk_cvl; rw [hk_fil2 hVX]; rfl) (fun la hl => hk_nx g hN hl hR hq hk hn)
    · rw [Bool.and_eq_true] at z
      obtain ⟨hd, hN⟩ := hk_dn z.2
      exact lv_lstore_n (lv' := hk_cvl ex B vX ((j, _) :: ls.filter (hk_p2 j))) hx hbs hd (hk_fin4 z.1) hl hj (by unfold hk_cvl; rw [hk_fil2 hVX]; rfl) (fun la hl => hk_nx g hN hl hR hq hk hn)
  · exact absurd g id
set_option maxHeartbeats 4000000 in
theorem hk_o_astore (X : hk_Cx p l R s m meth c ex B vX H0 dC dI d cd call own ini mx C S bs) {j : Nat} {b : Nat} {cc : Int32} {tl : List Nat} (hck : hk_chk cd own ini mx bs (pc, .astore j, nx, a, b, cc, tl) = true)
    (g : (match (generalizing := false) st with | .ref x :: r => hk_fl (hk_p1 j) ls (fun l9 => (hk_PP p l e R s m args below meth c Qf ex B vX H0 dC dI cd mx C S) nx ((j, .ref x) :: l9) r h k n) | .null :: r => hk_fl (hk_p1 j) ls (fun l9 => (hk_PP p l e R s m args below meth c Qf ex B vX H0 dC dI cd mx C S) nx ((j, .null) :: l9) r h k n) | _ => False)) : hk_P1 p l e R s m args below meth c Qf ex B vX H0 dC dI pc mx C S ls st h k n := by
  intro H locs la hl hR hq hk hn
  have hX0 := X
  obtain ⟨hx, hbs, hml, hown, henv, hini, hchk, -, hroom⟩ := hX0
  have hVX := henv.2.2.2.2.2.2
  unfold hk_chk at hck
  dsimp only at hck
  rw [Bool.and_eq_true, Bool.or_eq_true] at hck
  obtain ⟨hj, hck⟩ := hck
  have hj := hk_blt hj
  try dsimp only at g
  split at g
  · rw [hk_fl_eq] at g
    rcases hck with z | z
    · obtain ⟨hd, hN⟩ := hk_dn z
      exact lv_astore (lv' := hk_cvl ex B vX ((j, _) :: ls.filter (hk_p1 j))) hx hbs hd hl hj (by unfold hk_cvl; rw [hk_fil1 hVX]; rfl) (fun la hl => hk_nx g hN hl hR hq hk hn)
    · rw [Bool.and_eq_true] at z
      obtain ⟨hd, hN⟩ := hk_dn z.2
      exact lv_astore_n (lv' := hk_cvl ex B vX ((j, _) :: ls.filter (hk_p1 j))) hx hbs hd (hk_fin4 z.1) hl hj (by unfold hk_cvl; rw [hk_fil1 hVX]; rfl) (fun la hl => hk_nx g hN hl hR hq hk hn)
  · rw [hk_fl_eq] at g
    rcases hck with z | z
    · obtain ⟨hd, hN⟩ := hk_dn z
      exact lv_astoreN (lv' := hk_cvl ex B vX ((j, _) :: ls.filter (hk_p1 j))) hx hbs hd hl hj (by unfold hk_cvl; rw [hk_fil1 hVX]; rfl) (fun la hl => hk_nx g hN hl hR hq hk hn)
    · rw [Bool.and_eq_true] at z
      obtain ⟨hd, hN⟩ := hk_dn z.2
      exact lv_astore_nN (lv' := hk_cvl ex B vX ((j, _) :: ls.filter (hk_p1 j))) hx hbs hd (hk_fin4 z.1) hl hj (by unfold hk_cvl; rw [hk_fil1 hVX]; rfl) (fun la hl => hk_nx g hN hl hR hq hk hn)
  · exact absurd g id
set_option maxHeartbeats 4000000 in
theorem hk_o_iinc (X : hk_Cx p l R s m meth c ex B vX H0 dC dI d cd call own ini mx C S bs) {j : Nat} {u1 : Int} {b : Nat} {cc : Int32} {tl : List Nat} (hck : hk_chk cd own ini mx bs (pc, .iinc j u1, nx, a, b, cc, tl) = true)
    (g : hk_lk ls j (fun v => match v with | .int x => hk_fl (hk_p1 j) ls (fun l9 => (hk_PP p l e R s m args below meth c Qf ex B vX H0 dC dI cd mx C S) nx ((j, .int (x + cc)) :: l9) st h k n) | _ => False)) : hk_P1 p l e R s m args below meth c Qf ex B vX H0 dC dI pc mx C S ls st h k n := by
  intro H locs la hl hR hq hk hn
  have hX0 := X
  obtain ⟨hx, hbs, hml, hown, henv, hini, hchk, -, hroom⟩ := hX0
  have hVX := henv.2.2.2.2.2.2
  unfold hk_chk at hck
  dsimp only at hck
  split at hck
  · rename_i j' z hd
    simp only [Bool.and_eq_true] at hck
    obtain ⟨⟨⟨h1, h2⟩, h3⟩, h4⟩ := hck
    have ej := Nat.eq_of_beq_eq_true h1
    subst ej
    obtain ⟨v, hm, hv⟩ := hk_lk_in g
    cases v <;> first | exact absurd hv id | skip
    obtain ⟨q, hq0⟩ := List.getElem?_of_mem (List.mem_map.mpr ⟨_, hm, rfl⟩ : _ ∈ hk_cvl ex B vX ls)
    have hv := hv
    dsimp only at hv
    rw [hk_fl_eq] at hv
    exact lv_iinc (lv' := hk_cvl ex B vX ((_, _) :: ls.filter (hk_p1 _))) hx hbs hd hl (k := q) hq0 (by rw [of_decide_eq_true h3]) (hk_blt h2) (by unfold hk_cvl; rw [hk_fil1 hVX]; rfl) (fun la hl => hk_nx hv (Nat.eq_of_beq_eq_true h4) hl hR hq hk hn)
  · exact absurd hck (by decide)
set_option maxHeartbeats 4000000 in
theorem hk_o_pop (X : hk_Cx p l R s m meth c ex B vX H0 dC dI d cd call own ini mx C S bs)  {b : Nat} {cc : Int32} {tl : List Nat} (hck : hk_chk cd own ini mx bs (pc, .pop, nx, a, b, cc, tl) = true)
    (g : (match (generalizing := false) st with | .int _ :: r => (hk_PP p l e R s m args below meth c Qf ex B vX H0 dC dI cd mx C S) nx ls r h k n | _ => False)) : hk_P1 p l e R s m args below meth c Qf ex B vX H0 dC dI pc mx C S ls st h k n := by
  intro H locs la hl hR hq hk hn
  have hX0 := X
  obtain ⟨hx, hbs, hml, hown, henv, hini, hchk, -, hroom⟩ := hX0
  have hVX := henv.2.2.2.2.2.2
  unfold hk_chk at hck
  dsimp only at hck
  obtain ⟨hd, hN⟩ := hk_dn hck
  try dsimp only at g
  split at g
  · exact lv_pop hx hbs hd rfl (hk_nx g hN hl hR hq hk hn)
  · exact absurd g id
set_option maxHeartbeats 4000000 in
theorem hk_o_dup (X : hk_Cx p l R s m meth c ex B vX H0 dC dI d cd call own ini mx C S bs)  {b : Nat} {cc : Int32} {tl : List Nat} (hck : hk_chk cd own ini mx bs (pc, .dup, nx, a, b, cc, tl) = true)
    (g : (match (generalizing := false) st with | .int x :: r => (hk_PP p l e R s m args below meth c Qf ex B vX H0 dC dI cd mx C S) nx ls (.int x :: .int x :: r) h k n | .ref x :: r => (hk_PP p l e R s m args below meth c Qf ex B vX H0 dC dI cd mx C S) nx ls (.ref x :: .ref x :: r) h k n | _ => False)) : hk_P1 p l e R s m args below meth c Qf ex B vX H0 dC dI pc mx C S ls st h k n := by
  intro H locs la hl hR hq hk hn
  have hX0 := X
  obtain ⟨hx, hbs, hml, hown, henv, hini, hchk, -, hroom⟩ := hX0
  have hVX := henv.2.2.2.2.2.2
  unfold hk_chk at hck
  dsimp only at hck
  obtain ⟨hd, hN⟩ := hk_dn hck
  try dsimp only at g
  split at g
  · exact lv_dup hx hbs hd rfl (hk_nx g hN hl hR hq hk hn)
  · exact lv_dup hx hbs hd rfl (hk_nx g hN hl hR hq hk hn)
  · exact absurd g id
set_option maxHeartbeats 4000000 in
theorem hk_o_iadd (X : hk_Cx p l R s m meth c ex B vX H0 dC dI d cd call own ini mx C S bs)  {b : Nat} {cc : Int32} {tl : List Nat} (hck : hk_chk cd own ini mx bs (pc, .iadd, nx, a, b, cc, tl) = true)
    (g : hk_i2 HAdd.hAdd st (fun s9 => (hk_PP p l e R s m args below meth c Qf ex B vX H0 dC dI cd mx C S) nx ls s9 h k n)) : hk_P1 p l e R s m args below meth c Qf ex B vX H0 dC dI pc mx C S ls st h k n := by
  intro H locs la hl hR hq hk hn
  have hX0 := X
  obtain ⟨hx, hbs, hml, hown, henv, hini, hchk, -, hroom⟩ := hX0
  have hVX := henv.2.2.2.2.2.2
  unfold hk_chk at hck
  dsimp only at hck
  obtain ⟨hd, hN⟩ := hk_dn hck
  unfold hk_i2 at g
  split at g
  · exact lv_iadd hx hbs hd (hk_nx g hN hl hR hq hk hn)
  · exact absurd g id
set_option maxHeartbeats 4000000 in
theorem hk_o_isub (X : hk_Cx p l R s m meth c ex B vX H0 dC dI d cd call own ini mx C S bs)  {b : Nat} {cc : Int32} {tl : List Nat} (hck : hk_chk cd own ini mx bs (pc, .isub, nx, a, b, cc, tl) = true)
    (g : hk_i2 HSub.hSub st (fun s9 => (hk_PP p l e R s m args below meth c Qf ex B vX H0 dC dI cd mx C S) nx ls s9 h k n)) : hk_P1 p l e R s m args below meth c Qf ex B vX H0 dC dI pc mx C S ls st h k n := by
  intro H locs la hl hR hq hk hn
  have hX0 := X
  obtain ⟨hx, hbs, hml, hown, henv, hini, hchk, -, hroom⟩ := hX0
  have hVX := henv.2.2.2.2.2.2
  unfold hk_chk at hck
  dsimp only at hck
  obtain ⟨hd, hN⟩ := hk_dn hck
  unfold hk_i2 at g
  split at g
  · exact lv_isub hx hbs hd (hk_nx g hN hl hR hq hk hn)
  · exact absurd g id
set_option maxHeartbeats 4000000 in
theorem hk_o_imul (X : hk_Cx p l R s m meth c ex B vX H0 dC dI d cd call own ini mx C S bs)  {b : Nat} {cc : Int32} {tl : List Nat} (hck : hk_chk cd own ini mx bs (pc, .imul, nx, a, b, cc, tl) = true)
    (g : hk_i2 HMul.hMul st (fun s9 => (hk_PP p l e R s m args below meth c Qf ex B vX H0 dC dI cd mx C S) nx ls s9 h k n)) : hk_P1 p l e R s m args below meth c Qf ex B vX H0 dC dI pc mx C S ls st h k n := by
  intro H locs la hl hR hq hk hn
  have hX0 := X
  obtain ⟨hx, hbs, hml, hown, henv, hini, hchk, -, hroom⟩ := hX0
  have hVX := henv.2.2.2.2.2.2
  unfold hk_chk at hck
  dsimp only at hck
  obtain ⟨hd, hN⟩ := hk_dn hck
  unfold hk_i2 at g
  split at g
  · exact lv_imul hx hbs hd (hk_nx g hN hl hR hq hk hn)
  · exact absurd g id
set_option maxHeartbeats 4000000 in
theorem hk_o_iand (X : hk_Cx p l R s m meth c ex B vX H0 dC dI d cd call own ini mx C S bs)  {b : Nat} {cc : Int32} {tl : List Nat} (hck : hk_chk cd own ini mx bs (pc, .iand, nx, a, b, cc, tl) = true)
    (g : hk_i2 HAnd.hAnd st (fun s9 => (hk_PP p l e R s m args below meth c Qf ex B vX H0 dC dI cd mx C S) nx ls s9 h k n)) : hk_P1 p l e R s m args below meth c Qf ex B vX H0 dC dI pc mx C S ls st h k n := by
  intro H locs la hl hR hq hk hn
  have hX0 := X
  obtain ⟨hx, hbs, hml, hown, henv, hini, hchk, -, hroom⟩ := hX0
  have hVX := henv.2.2.2.2.2.2
  unfold hk_chk at hck
  dsimp only at hck
  obtain ⟨hd, hN⟩ := hk_dn hck
  unfold hk_i2 at g
  split at g
  · exact lv_iand hx hbs hd (hk_nx g hN hl hR hq hk hn)
  · exact absurd g id
set_option maxHeartbeats 4000000 in
theorem hk_o_ior (X : hk_Cx p l R s m meth c ex B vX H0 dC dI d cd call own ini mx C S bs)  {b : Nat} {cc : Int32} {tl : List Nat} (hck : hk_chk cd own ini mx bs (pc, .ior, nx, a, b, cc, tl) = true)
    (g : hk_i2 HOr.hOr st (fun s9 => (hk_PP p l e R s m args below meth c Qf ex B vX H0 dC dI cd mx C S) nx ls s9 h k n)) : hk_P1 p l e R s m args below meth c Qf ex B vX H0 dC dI pc mx C S ls st h k n := by
  intro H locs la hl hR hq hk hn
  have hX0 := X
  obtain ⟨hx, hbs, hml, hown, henv, hini, hchk, -, hroom⟩ := hX0
  have hVX := henv.2.2.2.2.2.2
  unfold hk_chk at hck
  dsimp only at hck
  obtain ⟨hd, hN⟩ := hk_dn hck
  unfold hk_i2 at g
  split at g
  · exact lv_ior hx hbs hd (hk_nx g hN hl hR hq hk hn)
  · exact absurd g id
set_option maxHeartbeats 4000000 in
theorem hk_o_ixor (X : hk_Cx p l R s m meth c ex B vX H0 dC dI d cd call own ini mx C S bs)  {b : Nat} {cc : Int32} {tl : List Nat} (hck : hk_chk cd own ini mx bs (pc, .ixor, nx, a, b, cc, tl) = true)
    (g : hk_i2 HXor.hXor st (fun s9 => (hk_PP p l e R s m args below meth c Qf ex B vX H0 dC dI cd mx C S) nx ls s9 h k n)) : hk_P1 p l e R s m args below meth c Qf ex B vX H0 dC dI pc mx C S ls st h k n := by
  intro H locs la hl hR hq hk hn
  have hX0 := X
  obtain ⟨hx, hbs, hml, hown, henv, hini, hchk, -, hroom⟩ := hX0
  have hVX := henv.2.2.2.2.2.2
  unfold hk_chk at hck
  dsimp only at hck
  obtain ⟨hd, hN⟩ := hk_dn hck
  unfold hk_i2 at g
  split at g
  · exact lv_ixor hx hbs hd (hk_nx g hN hl hR hq hk hn)
  · exact absurd g id
set_option maxHeartbeats 4000000 in
theorem hk_o_ishl (X : hk_Cx p l R s m meth c ex B vX H0 dC dI d cd call own ini mx C S bs)  {b : Nat} {cc : Int32} {tl : List Nat} (hck : hk_chk cd own ini mx bs (pc, .ishl, nx, a, b, cc, tl) = true)
    (g : hk_i2 hk_shl st (fun s9 => (hk_PP p l e R s m args below meth c Qf ex B vX H0 dC dI cd mx C S) nx ls s9 h k n)) : hk_P1 p l e R s m args below meth c Qf ex B vX H0 dC dI pc mx C S ls st h k n := by
  intro H locs la hl hR hq hk hn
  have hX0 := X
  obtain ⟨hx, hbs, hml, hown, henv, hini, hchk, -, hroom⟩ := hX0
  have hVX := henv.2.2.2.2.2.2
  unfold hk_chk at hck
  dsimp only at hck
  obtain ⟨hd, hN⟩ := hk_dn hck
  unfold hk_i2 at g
  split at g
  · exact lv_ishl hx hbs hd (hk_nx g hN hl hR hq hk hn)
  · exact absurd g id
set_option maxHeartbeats 4000000 in
theorem hk_o_ishr (X : hk_Cx p l R s m meth c ex B vX H0 dC dI d cd call own ini mx C S bs)  {b : Nat} {cc : Int32} {tl : List Nat} (hck : hk_chk cd own ini mx bs (pc, .ishr, nx, a, b, cc, tl) = true)
    (g : hk_i2 hk_shr st (fun s9 => (hk_PP p l e R s m args below meth c Qf ex B vX H0 dC dI cd mx C S) nx ls s9 h k n)) : hk_P1 p l e R s m args below meth c Qf ex B vX H0 dC dI pc mx C S ls st h k n := by
  intro H locs la hl hR hq hk hn
  have hX0 := X
  obtain ⟨hx, hbs, hml, hown, henv, hini, hchk, -, hroom⟩ := hX0
  have hVX := henv.2.2.2.2.2.2
  unfold hk_chk at hck
  dsimp only at hck
  obtain ⟨hd, hN⟩ := hk_dn hck
  unfold hk_i2 at g
  split at g
  · exact lv_ishr hx hbs hd (hk_nx g hN hl hR hq hk hn)
  · exact absurd g id
set_option maxHeartbeats 4000000 in
theorem hk_o_iushr (X : hk_Cx p l R s m meth c ex B vX H0 dC dI d cd call own ini mx C S bs)  {b : Nat} {cc : Int32} {tl : List Nat} (hck : hk_chk cd own ini mx bs (pc, .iushr, nx, a, b, cc, tl) = true)
    (g : hk_i2 hk_ush st (fun s9 => (hk_PP p l e R s m args below meth c Qf ex B vX H0 dC dI cd mx C S) nx ls s9 h k n)) : hk_P1 p l e R s m args below meth c Qf ex B vX H0 dC dI pc mx C S ls st h k n := by
  intro H locs la hl hR hq hk hn
  have hX0 := X
  obtain ⟨hx, hbs, hml, hown, henv, hini, hchk, -, hroom⟩ := hX0
  have hVX := henv.2.2.2.2.2.2
  unfold hk_chk at hck
  dsimp only at hck
  obtain ⟨hd, hN⟩ := hk_dn hck
  unfold hk_i2 at g
  split at g
  · exact lv_iushr hx hbs hd rfl (hk_nx g hN hl hR hq hk hn)
  · exact absurd g id
set_option maxHeartbeats 4000000 in
theorem hk_o_idiv (X : hk_Cx p l R s m meth c ex B vX H0 dC dI d cd call own ini mx C S bs)  {b : Nat} {cc : Int32} {tl : List Nat} (hck : hk_chk cd own ini mx bs (pc, .idiv, nx, a, b, cc, tl) = true)
    (g : hk_dv HDiv.hDiv st (fun s9 => (hk_PP p l e R s m args below meth c Qf ex B vX H0 dC dI cd mx C S) nx ls s9 h k n)) : hk_P1 p l e R s m args below meth c Qf ex B vX H0 dC dI pc mx C S ls st h k n := by
  intro H locs la hl hR hq hk hn
  have hX0 := X
  obtain ⟨hx, hbs, hml, hown, henv, hini, hchk, -, hroom⟩ := hX0
  have hVX := henv.2.2.2.2.2.2
  unfold hk_chk at hck
  dsimp only at hck
  obtain ⟨hd, hN⟩ := hk_dn hck
  unfold hk_dv at g
  split at g
  · exact lv_idiv hx hbs hd g.1 (hk_nx g.2 hN hl hR hq hk hn)
  · exact absurd g id
set_option maxHeartbeats 4000000 in
theorem hk_o_irem (X : hk_Cx p l R s m meth c ex B vX H0 dC dI d cd call own ini mx C S bs)  {b : Nat} {cc : Int32} {tl : List Nat} (hck : hk_chk cd own ini mx bs (pc, .irem, nx, a, b, cc, tl) = true)
    (g : hk_dv hk_rem st (fun s9 => (hk_PP p l e R s m args below meth c Qf ex B vX H0 dC dI cd mx C S) nx ls s9 h k n)) : hk_P1 p l e R s m args below meth c Qf ex B vX H0 dC dI pc mx C S ls st h k n := by
  intro H locs la hl hR hq hk hn
  have hX0 := X
  obtain ⟨hx, hbs, hml, hown, henv, hini, hchk, -, hroom⟩ := hX0
  have hVX := henv.2.2.2.2.2.2
  unfold hk_chk at hck
  dsimp only at hck
  obtain ⟨hd, hN⟩ := hk_dn hck
  unfold hk_dv at g
  split at g
  · exact lv_irem hx hbs hd g.1 (hk_nx g.2 hN hl hR hq hk hn)
  · exact absurd g id
set_option maxHeartbeats 4000000 in
theorem hk_o_ineg (X : hk_Cx p l R s m meth c ex B vX H0 dC dI d cd call own ini mx C S bs)  {b : Nat} {cc : Int32} {tl : List Nat} (hck : hk_chk cd own ini mx bs (pc, .ineg, nx, a, b, cc, tl) = true)
    (g : hk_i1 (fun x => .int (-x)) st (fun s9 => (hk_PP p l e R s m args below meth c Qf ex B vX H0 dC dI cd mx C S) nx ls s9 h k n)) : hk_P1 p l e R s m args below meth c Qf ex B vX H0 dC dI pc mx C S ls st h k n := by
  intro H locs la hl hR hq hk hn
  have hX0 := X
  obtain ⟨hx, hbs, hml, hown, henv, hini, hchk, -, hroom⟩ := hX0
  have hVX := henv.2.2.2.2.2.2
  unfold hk_chk at hck
  dsimp only at hck
  obtain ⟨hd, hN⟩ := hk_dn hck
  unfold hk_i1 at g
  split at g
  · exact lv_ineg hx hbs hd (hk_nx g hN hl hR hq hk hn)
  · exact absurd g id
set_option maxHeartbeats 4000000 in
theorem hk_o_i2l (X : hk_Cx p l R s m meth c ex B vX H0 dC dI d cd call own ini mx C S bs)  {b : Nat} {cc : Int32} {tl : List Nat} (hck : hk_chk cd own ini mx bs (pc, .i2l, nx, a, b, cc, tl) = true)
    (g : hk_i1 (fun x => .long x.toInt64) st (fun s9 => (hk_PP p l e R s m args below meth c Qf ex B vX H0 dC dI cd mx C S) nx ls s9 h k n)) : hk_P1 p l e R s m args below meth c Qf ex B vX H0 dC dI pc mx C S ls st h k n := by
  intro H locs la hl hR hq hk hn
  have hX0 := X
  obtain ⟨hx, hbs, hml, hown, henv, hini, hchk, -, hroom⟩ := hX0
  have hVX := henv.2.2.2.2.2.2
  unfold hk_chk at hck
  dsimp only at hck
  obtain ⟨hd, hN⟩ := hk_dn hck
  unfold hk_i1 at g
  split at g
  · exact lv_i2l hx hbs hd rfl (hk_nx g hN hl hR hq hk hn)
  · exact absurd g id
set_option maxHeartbeats 4000000 in
theorem hk_o_i2b (X : hk_Cx p l R s m meth c ex B vX H0 dC dI d cd call own ini mx C S bs)  {b : Nat} {cc : Int32} {tl : List Nat} (hck : hk_chk cd own ini mx bs (pc, .i2b, nx, a, b, cc, tl) = true)
    (g : hk_i1 (fun x => .int x.toInt8.toInt32) st (fun s9 => (hk_PP p l e R s m args below meth c Qf ex B vX H0 dC dI cd mx C S) nx ls s9 h k n)) : hk_P1 p l e R s m args below meth c Qf ex B vX H0 dC dI pc mx C S ls st h k n := by
  intro H locs la hl hR hq hk hn
  have hX0 := X
  obtain ⟨hx, hbs, hml, hown, henv, hini, hchk, -, hroom⟩ := hX0
  have hVX := henv.2.2.2.2.2.2
  unfold hk_chk at hck
  dsimp only at hck
  obtain ⟨hd, hN⟩ := hk_dn hck
  unfold hk_i1 at g
  split at g
  · exact lv_i2b hx hbs hd rfl (hk_nx g hN hl hR hq hk hn)
  · exact absurd g id
set_option maxHeartbeats 4000000 in
theorem hk_o_i2s (X : hk_Cx p l R s m meth c ex B vX H0 dC dI d cd call own ini mx C S bs)  {b : Nat} {cc : Int32} {tl : List Nat} (hck : hk_chk cd own ini mx bs (pc, .i2s, nx, a, b, cc, tl) = true)
    (g : hk_i1 (fun x => .int x.toInt16.toInt32) st (fun s9 => (hk_PP p l e R s m args below meth c Qf ex B vX H0 dC dI cd mx C S) nx ls s9 h k n)) : hk_P1 p l e R s m args below meth c Qf ex B vX H0 dC dI pc mx C S ls st h k n := by
  intro H locs la hl hR hq hk hn
  have hX0 := X
  obtain ⟨hx, hbs, hml, hown, henv, hini, hchk, -, hroom⟩ := hX0
  have hVX := henv.2.2.2.2.2.2
  unfold hk_chk at hck
  dsimp only at hck
  obtain ⟨hd, hN⟩ := hk_dn hck
  unfold hk_i1 at g
  split at g
  · exact lv_i2s hx hbs hd rfl (hk_nx g hN hl hR hq hk hn)
  · exact absurd g id
set_option maxHeartbeats 4000000 in
theorem hk_o_i2c (X : hk_Cx p l R s m meth c ex B vX H0 dC dI d cd call own ini mx C S bs)  {b : Nat} {cc : Int32} {tl : List Nat} (hck : hk_chk cd own ini mx bs (pc, .i2c, nx, a, b, cc, tl) = true)
    (g : hk_i1 (fun x => .int (x.toUInt32 % 65536).toInt32) st (fun s9 => (hk_PP p l e R s m args below meth c Qf ex B vX H0 dC dI cd mx C S) nx ls s9 h k n)) : hk_P1 p l e R s m args below meth c Qf ex B vX H0 dC dI pc mx C S ls st h k n := by
  intro H locs la hl hR hq hk hn
  have hX0 := X
  obtain ⟨hx, hbs, hml, hown, henv, hini, hchk, -, hroom⟩ := hX0
  have hVX := henv.2.2.2.2.2.2
  unfold hk_chk at hck
  dsimp only at hck
  obtain ⟨hd, hN⟩ := hk_dn hck
  unfold hk_i1 at g
  split at g
  · exact lv_i2c hx hbs hd rfl (hk_nx g hN hl hR hq hk hn)
  · exact absurd g id
set_option maxHeartbeats 4000000 in
theorem hk_o_l2i (X : hk_Cx p l R s m meth c ex B vX H0 dC dI d cd call own ini mx C S bs)  {b : Nat} {cc : Int32} {tl : List Nat} (hck : hk_chk cd own ini mx bs (pc, .l2i, nx, a, b, cc, tl) = true)
    (g : (match (generalizing := false) st with | .long x :: r => (hk_PP p l e R s m args below meth c Qf ex B vX H0 dC dI cd mx C S) nx ls (.int x.toInt32 :: r) h k n | _ => False)) : hk_P1 p l e R s m args below meth c Qf ex B vX H0 dC dI pc mx C S ls st h k n := by
  intro H locs la hl hR hq hk hn
  have hX0 := X
  obtain ⟨hx, hbs, hml, hown, henv, hini, hchk, -, hroom⟩ := hX0
  have hVX := henv.2.2.2.2.2.2
  unfold hk_chk at hck
  dsimp only at hck
  obtain ⟨hd, hN⟩ := hk_dn hck
  try dsimp only at g
  split at g
  · exact lv_l2i hx hbs hd rfl (hk_nx g hN hl hR hq hk hn)
  · exact absurd g id
set_option maxHeartbeats 4000000 in
theorem hk_o_ladd (X : hk_Cx p l R s m meth c ex B vX H0 dC dI d cd call own ini mx C S bs)  {b : Nat} {cc : Int32} {tl : List Nat} (hck : hk_chk cd own ini mx bs (pc, .ladd, nx, a, b, cc, tl) = true)
    (g : hk_l2 (fun x y => .long (x + y)) st (fun s9 => (hk_PP p l e R s m args below meth c Qf ex B vX H0 dC dI cd mx C S) nx ls s9 h k n)) : hk_P1 p l e R s m args below meth c Qf ex B vX H0 dC dI pc mx C S ls st h k n := by
  intro H locs la hl hR hq hk hn
  have hX0 := X
  obtain ⟨hx, hbs, hml, hown, henv, hini, hchk, -, hroom⟩ := hX0
  have hVX := henv.2.2.2.2.2.2
  unfold hk_chk at hck
  dsimp only at hck
  obtain ⟨hd, hN⟩ := hk_dn hck
  unfold hk_l2 at g
  split at g
  · exact lv_ladd hx hbs hd (hk_nx g hN hl hR hq hk hn)
  · exact absurd g id
set_option maxHeartbeats 4000000 in
theorem hk_o_lsub (X : hk_Cx p l R s m meth c ex B vX H0 dC dI d cd call own ini mx C S bs)  {b : Nat} {cc : Int32} {tl : List Nat} (hck : hk_chk cd own ini mx bs (pc, .lsub, nx, a, b, cc, tl) = true)
    (g : hk_l2 (fun x y => .long (x - y)) st (fun s9 => (hk_PP p l e R s m args below meth c Qf ex B vX H0 dC dI cd mx C S) nx ls s9 h k n)) : hk_P1 p l e R s m args below meth c Qf ex B vX H0 dC dI pc mx C S ls st h k n := by
  intro H locs la hl hR hq hk hn
  have hX0 := X
  obtain ⟨hx, hbs, hml, hown, henv, hini, hchk, -, hroom⟩ := hX0
  have hVX := henv.2.2.2.2.2.2
  unfold hk_chk at hck
  dsimp only at hck
  obtain ⟨hd, hN⟩ := hk_dn hck
  unfold hk_l2 at g
  split at g
  · exact lv_lsub hx hbs hd (hk_nx g hN hl hR hq hk hn)
  · exact absurd g id
set_option maxHeartbeats 4000000 in
theorem hk_o_lmul (X : hk_Cx p l R s m meth c ex B vX H0 dC dI d cd call own ini mx C S bs)  {b : Nat} {cc : Int32} {tl : List Nat} (hck : hk_chk cd own ini mx bs (pc, .lmul, nx, a, b, cc, tl) = true)
    (g : hk_l2 (fun x y => .long (x * y)) st (fun s9 => (hk_PP p l e R s m args below meth c Qf ex B vX H0 dC dI cd mx C S) nx ls s9 h k n)) : hk_P1 p l e R s m args below meth c Qf ex B vX H0 dC dI pc mx C S ls st h k n := by
  intro H locs la hl hR hq hk hn
  have hX0 := X
  obtain ⟨hx, hbs, hml, hown, henv, hini, hchk, -, hroom⟩ := hX0
  have hVX := henv.2.2.2.2.2.2
  unfold hk_chk at hck
  dsimp only at hck
  obtain ⟨hd, hN⟩ := hk_dn hck
  unfold hk_l2 at g
  split at g
  · exact lv_lmul hx hbs hd (hk_nx g hN hl hR hq hk hn)
  · exact absurd g id
set_option maxHeartbeats 4000000 in
theorem hk_o_land (X : hk_Cx p l R s m meth c ex B vX H0 dC dI d cd call own ini mx C S bs)  {b : Nat} {cc : Int32} {tl : List Nat} (hck : hk_chk cd own ini mx bs (pc, .land, nx, a, b, cc, tl) = true)
    (g : hk_l2 (fun x y => .long (x &&& y)) st (fun s9 => (hk_PP p l e R s m args below meth c Qf ex B vX H0 dC dI cd mx C S) nx ls s9 h k n)) : hk_P1 p l e R s m args below meth c Qf ex B vX H0 dC dI pc mx C S ls st h k n := by
  intro H locs la hl hR hq hk hn
  have hX0 := X
  obtain ⟨hx, hbs, hml, hown, henv, hini, hchk, -, hroom⟩ := hX0
  have hVX := henv.2.2.2.2.2.2
  unfold hk_chk at hck
  dsimp only at hck
  obtain ⟨hd, hN⟩ := hk_dn hck
  unfold hk_l2 at g
  split at g
  · exact lv_land hx hbs hd (hk_nx g hN hl hR hq hk hn)
  · exact absurd g id
set_option maxHeartbeats 4000000 in
theorem hk_o_lor (X : hk_Cx p l R s m meth c ex B vX H0 dC dI d cd call own ini mx C S bs)  {b : Nat} {cc : Int32} {tl : List Nat} (hck : hk_chk cd own ini mx bs (pc, .lor, nx, a, b, cc, tl) = true)
    (g : hk_l2 (fun x y => .long (x ||| y)) st (fun s9 => (hk_PP p l e R s m args below meth c Qf ex B vX H0 dC dI cd mx C S) nx ls s9 h k n)) : hk_P1 p l e R s m args below meth c Qf ex B vX H0 dC dI pc mx C S ls st h k n := by
  intro H locs la hl hR hq hk hn
  have hX0 := X
  obtain ⟨hx, hbs, hml, hown, henv, hini, hchk, -, hroom⟩ := hX0
  have hVX := henv.2.2.2.2.2.2
  unfold hk_chk at hck
  dsimp only at hck
  obtain ⟨hd, hN⟩ := hk_dn hck
  unfold hk_l2 at g
  split at g
  · exact lv_lor hx hbs hd (hk_nx g hN hl hR hq hk hn)
  · exact absurd g id
set_option maxHeartbeats 4000000 in
theorem hk_o_lcmp (X : hk_Cx p l R s m meth c ex B vX H0 dC dI d cd call own ini mx C S bs)  {b : Nat} {cc : Int32} {tl : List Nat} (hck : hk_chk cd own ini mx bs (pc, .lcmp, nx, a, b, cc, tl) = true)
    (g : hk_l2 (fun x y => .int (lg_cmp x y)) st (fun s9 => (hk_PP p l e R s m args below meth c Qf ex B vX H0 dC dI cd mx C S) nx ls s9 h k n)) : hk_P1 p l e R s m args below meth c Qf ex B vX H0 dC dI pc mx C S ls st h k n := by
  intro H locs la hl hR hq hk hn
  have hX0 := X
  obtain ⟨hx, hbs, hml, hown, henv, hini, hchk, -, hroom⟩ := hX0
  have hVX := henv.2.2.2.2.2.2
  unfold hk_chk at hck
  dsimp only at hck
  obtain ⟨hd, hN⟩ := hk_dn hck
  unfold hk_l2 at g
  split at g
  · exact W.lcmp hx hbs hd (hk_nx g hN hl hR hq hk hn)
  · exact absurd g id
set_option maxHeartbeats 4000000 in
theorem hk_o_lshl (X : hk_Cx p l R s m meth c ex B vX H0 dC dI d cd call own ini mx C S bs)  {b : Nat} {cc : Int32} {tl : List Nat} (hck : hk_chk cd own ini mx bs (pc, .lshl, nx, a, b, cc, tl) = true)
    (g : hk_ls hk_shlL st (fun s9 => (hk_PP p l e R s m args below meth c Qf ex B vX H0 dC dI cd mx C S) nx ls s9 h k n)) : hk_P1 p l e R s m args below meth c Qf ex B vX H0 dC dI pc mx C S ls st h k n := by
  intro H locs la hl hR hq hk hn
  have hX0 := X
  obtain ⟨hx, hbs, hml, hown, henv, hini, hchk, -, hroom⟩ := hX0
  have hVX := henv.2.2.2.2.2.2
  unfold hk_chk at hck
  dsimp only at hck
  obtain ⟨hd, hN⟩ := hk_dn hck
  unfold hk_ls at g
  split at g
  · exact lv_lshl hx hbs hd rfl (hk_nx g hN hl hR hq hk hn)
  · exact absurd g id
set_option maxHeartbeats 4000000 in
theorem hk_o_lshr (X : hk_Cx p l R s m meth c ex B vX H0 dC dI d cd call own ini mx C S bs)  {b : Nat} {cc : Int32} {tl : List Nat} (hck : hk_chk cd own ini mx bs (pc, .lshr, nx, a, b, cc, tl) = true)
    (g : hk_ls hk_shrL st (fun s9 => (hk_PP p l e R s m args below meth c Qf ex B vX H0 dC dI cd mx C S) nx ls s9 h k n)) : hk_P1 p l e R s m args below meth c Qf ex B vX H0 dC dI pc mx C S ls st h k n := by
  intro H locs la hl hR hq hk hn
  have hX0 := X
  obtain ⟨hx, hbs, hml, hown, henv, hini, hchk, -, hroom⟩ := hX0
  have hVX := henv.2.2.2.2.2.2
  unfold hk_chk at hck
  dsimp only at hck
  obtain ⟨hd, hN⟩ := hk_dn hck
  unfold hk_ls at g
  split at g
  · exact lv_lshr hx hbs hd rfl (hk_nx g hN hl hR hq hk hn)
  · exact absurd g id
set_option maxHeartbeats 4000000 in
theorem hk_o_lushr (X : hk_Cx p l R s m meth c ex B vX H0 dC dI d cd call own ini mx C S bs)  {b : Nat} {cc : Int32} {tl : List Nat} (hck : hk_chk cd own ini mx bs (pc, .lushr, nx, a, b, cc, tl) = true)
    (g : hk_ls hk_ushL st (fun s9 => (hk_PP p l e R s m args below meth c Qf ex B vX H0 dC dI cd mx C S) nx ls s9 h k n)) : hk_P1 p l e R s m args below meth c Qf ex B vX H0 dC dI pc mx C S ls st h k n := by
  intro H locs la hl hR hq hk hn
  have hX0 := X
  obtain ⟨hx, hbs, hml, hown, henv, hini, hchk, -, hroom⟩ := hX0
  have hVX := henv.2.2.2.2.2.2
  unfold hk_chk at hck
  dsimp only at hck
  obtain ⟨hd, hN⟩ := hk_dn hck
  unfold hk_ls at g
  split at g
  · exact lv_lushr hx hbs hd rfl (hk_nx g hN hl hR hq hk hn)
  · exact absurd g id
set_option maxHeartbeats 4000000 in
theorem hk_o_goto (X : hk_Cx p l R s m meth c ex B vX H0 dC dI d cd call own ini mx C S bs) {u0 : Int} {b : Nat} {cc : Int32} {tl : List Nat} (hck : hk_chk cd own ini mx bs (pc, .goto u0, nx, a, b, cc, tl) = true)
    (g : bif Nat.ble a ip then (∃ is : List Nat, hk_pk is ls (fun l9 => (hk_PP p l e R s m args below meth c Qf ex B vX H0 dC dI cd mx C S) a l9 st h k n)) else (hk_PP p l e R s m args below meth c Qf ex B vX H0 dC dI cd mx C S) a ls st h k n) : hk_P1 p l e R s m args below meth c Qf ex B vX H0 dC dI pc mx C S ls st h k n := by
  intro H locs la hl hR hq hk hn
  have hX0 := X
  obtain ⟨hx, hbs, hml, hown, henv, hini, hchk, -, hroom⟩ := hX0
  have hVX := henv.2.2.2.2.2.2
  unfold hk_chk at hck
  dsimp only at hck
  split at hck
  · rename_i off hd
    cases hb : Nat.ble a ip
    · rw [hb] at g
      exact lv_goto hx hbs hd (of_decide_eq_true hck) (hk_nx g rfl hl hR hq hk hn)
    · rw [hb] at g
      obtain ⟨is, g⟩ := g
      obtain ⟨l9, h1, g⟩ := hk_pk_sub g
      refine lv_goto hx hbs hd (of_decide_eq_true hck) (hk_nx g rfl ⟨hl.1, hl.2.1, fun q hq9 => ?_⟩ hR hq hk hn)
      obtain ⟨q0, h2, rfl⟩ := List.mem_map.mp hq9
      obtain ⟨i9, h3⟩ := h1 q0 h2
      exact hl.2.2 _ (List.mem_map.mpr ⟨q0, hk_nth_in h3, rfl⟩)
  · exact absurd hck (by decide)
set_option maxHeartbeats 4000000 in
theorem hk_o_ifCond (X : hk_Cx p l R s m meth c ex B vX H0 dC dI d cd call own ini mx C S bs) {d9 : ClassFile.Cond} {u1 : Int} {b : Nat} {cc : Int32} {tl : List Nat} (hck : hk_chk cd own ini mx bs (pc, .ifCond d9 u1, nx, a, b, cc, tl) = true)
    (g : hk_if1 d9 st (fun s9 => (hk_PP p l e R s m args below meth c Qf ex B vX H0 dC dI cd mx C S) a ls s9 h k n) (fun s9 => (hk_PP p l e R s m args below meth c Qf ex B vX H0 dC dI cd mx C S) nx ls s9 h k n)) : hk_P1 p l e R s m args below meth c Qf ex B vX H0 dC dI pc mx C S ls st h k n := by
  intro H locs la hl hR hq hk hn
  have hX0 := X
  obtain ⟨hx, hbs, hml, hown, henv, hini, hchk, -, hroom⟩ := hX0
  have hVX := henv.2.2.2.2.2.2
  unfold hk_chk at hck
  dsimp only at hck
  split at hck
  · rename_i d' off hd
    simp only [Bool.and_eq_true] at hck
    have ed := of_decide_eq_true hck.1.1
    subst ed
    unfold hk_if1 at g
    split at g
    · exact hk_s_if hx hbs hd (of_decide_eq_true hck.1.2) (Nat.eq_of_beq_eq_true hck.2) g (fun z => hk_nx z rfl hl hR hq hk hn) (fun z => hk_nx z (Nat.eq_of_beq_eq_true hck.2) hl hR hq hk hn)
    · exact absurd g id
  · exact absurd hck (by decide)
set_option maxHeartbeats 4000000 in
theorem hk_o_if_icmp (X : hk_Cx p l R s m meth c ex B vX H0 dC dI d cd call own ini mx C S bs) {d9 : ClassFile.Cond} {u1 : Int} {b : Nat} {cc : Int32} {tl : List Nat} (hck : hk_chk cd own ini mx bs (pc, .if_icmp d9 u1, nx, a, b, cc, tl) = true)
    (g : hk_if2 d9 st (fun s9 => (hk_PP p l e R s m args below meth c Qf ex B vX H0 dC dI cd mx C S) a ls s9 h k n) (fun s9 => (hk_PP p l e R s m args below meth c Qf ex B vX H0 dC dI cd mx C S) nx ls s9 h k n)) : hk_P1 p l e R s m args below meth c Qf ex B vX H0 dC dI pc mx C S ls st h k n := by
  intro H locs la hl hR hq hk hn
  have hX0 := X
  obtain ⟨hx, hbs, hml, hown, henv, hini, hchk, -, hroom⟩ := hX0
  have hVX := henv.2.2.2.2.2.2
  unfold hk_chk at hck
  dsimp only at hck
  split at hck
  · rename_i d' off hd
    simp only [Bool.and_eq_true] at hck
    have ed := of_decide_eq_true hck.1.1
    subst ed
    unfold hk_if2 at g
    split at g
    · exact hk_s_icmp hx hbs hd (of_decide_eq_true hck.1.2) (Nat.eq_of_beq_eq_true hck.2) g (fun z => hk_nx z rfl hl hR hq hk hn) (fun z => hk_nx z (Nat.eq_of_beq_eq_true hck.2) hl hR hq hk hn)
    · exact absurd g id
  · exact absurd hck (by decide)
set_option maxHeartbeats 4000000 in
theorem hk_o_ifnull (X : hk_Cx p l R s m meth c ex B vX H0 dC dI d cd call own ini mx C S bs) {u0 : Int} {b : Nat} {cc : Int32} {tl : List Nat} (hck : hk_chk cd own ini mx bs (pc, .ifnull u0, nx, a, b, cc, tl) = true)
    (g : hk_nul st (fun s9 => (hk_PP p l e R s m args below meth c Qf ex B vX H0 dC dI cd mx C S) a ls s9 h k n) (fun s9 => (hk_PP p l e R s m args below meth c Qf ex B vX H0 dC dI cd mx C S) nx ls s9 h k n)) : hk_P1 p l e R s m args below meth c Qf ex B vX H0 dC dI pc mx C S ls st h k n := by
  intro H locs la hl hR hq hk hn
  have hX0 := X
  obtain ⟨hx, hbs, hml, hown, henv, hini, hchk, -, hroom⟩ := hX0
  have hVX := henv.2.2.2.2.2.2
  unfold hk_chk at hck
  dsimp only at hck
  split at hck
  · rename_i off hd
    simp only [Bool.and_eq_true] at hck
    unfold hk_nul at g
    split at g
    · exact lv_ifnullN hx hbs hd (of_decide_eq_true hck.1) (hk_nx g rfl hl hR hq hk hn)
    · exact lv_ifnull hx hbs hd (hk_nx g (Nat.eq_of_beq_eq_true hck.2) hl hR hq hk hn)
    · exact absurd g id
  · exact absurd hck (by decide)
set_option maxHeartbeats 4000000 in
theorem hk_o_ifnonnull (X : hk_Cx p l R s m meth c ex B vX H0 dC dI d cd call own ini mx C S bs) {u0 : Int} {b : Nat} {cc : Int32} {tl : List Nat} (hck : hk_chk cd own ini mx bs (pc, .ifnonnull u0, nx, a, b, cc, tl) = true)
    (g : hk_nul st (fun s9 => (hk_PP p l e R s m args below meth c Qf ex B vX H0 dC dI cd mx C S) nx ls s9 h k n) (fun s9 => (hk_PP p l e R s m args below meth c Qf ex B vX H0 dC dI cd mx C S) a ls s9 h k n)) : hk_P1 p l e R s m args below meth c Qf ex B vX H0 dC dI pc mx C S ls st h k n := by
  intro H locs la hl hR hq hk hn
  have hX0 := X
  obtain ⟨hx, hbs, hml, hown, henv, hini, hchk, -, hroom⟩ := hX0
  have hVX := henv.2.2.2.2.2.2
  unfold hk_chk at hck
  dsimp only at hck
  split at hck
  · rename_i off hd
    simp only [Bool.and_eq_true] at hck
    unfold hk_nul at g
    split at g
    · exact lv_ifnonnullN hx hbs hd (hk_nx g (Nat.eq_of_beq_eq_true hck.2) hl hR hq hk hn)
    · exact lv_ifnonnull hx hbs hd (of_decide_eq_true hck.1) (hk_nx g rfl hl hR hq hk hn)
    · exact absurd g id
  · exact absurd hck (by decide)
set_option maxHeartbeats 4000000 in
theorem hk_o_tableswitch (X : hk_Cx p l R s m meth c ex B vX H0 dC dI d cd call own ini mx C S bs) {u0 : Int} {lo : Int} {u2 : Int} {u3 : Array Int} {b : Nat} {cc : Int32} {tl : List Nat} (hck : hk_chk cd own ini mx bs (pc, .tableswitch u0 lo u2 u3, nx, a, b, cc, tl) = true)
    (g : hk_sw lo a tl st (fun t s9 => (hk_PP p l e R s m args below meth c Qf ex B vX H0 dC dI cd mx C S) t ls s9 h k n)) : hk_P1 p l e R s m args below meth c Qf ex B vX H0 dC dI pc mx C S ls st h k n := by
  intro H locs la hl hR hq hk hn
  have hX0 := X
  obtain ⟨hx, hbs, hml, hown, henv, hini, hchk, -, hroom⟩ := hX0
  have hVX := henv.2.2.2.2.2.2
  unfold hk_chk at hck
  dsimp only at hck
  split at hck
  · rename_i df lo' hi offs len hd
    simp only [Bool.and_eq_true] at hck
    obtain ⟨⟨⟨h1, h2⟩, h3⟩, h4⟩ := hck
    have e1 := of_decide_eq_true h1
    have e2 := of_decide_eq_true h2
    have e3 := of_decide_eq_true h3
    have e4 := of_decide_eq_true h4
    subst e1
    unfold hk_sw at g
    split at g
    · rename_i x r
      by_cases hout : x.toInt < lo' ∨ hi < x.toInt
      · exact lv_tableOut hx hbs hd hout e3 (hk_nx (g.1 (by rw [← e2]; exact hout)) rfl hl hR hq hk hn)
      · have h5 : lo' ≤ x.toInt := by omega
        have h6 : x.toInt ≤ hi := by omega
        have hj : (x.toInt - lo').toNat < tl.length := by omega
        have ht : tl[(x.toInt - lo').toNat]? = some tl[(x.toInt - lo').toNat] := List.getElem?_eq_getElem hj
        have h7 : (offs.toList.map (fun o => (pc : Int) + o))[(x.toInt - lo').toNat]? = some (hk_pc cd tl[(x.toInt - lo').toNat] : Int) := by
          rw [e4, List.getElem?_map, ht]; rfl
        rw [List.getElem?_map] at h7
        cases ho : offs.toList[(x.toInt - lo').toNat]? with
        | none => rw [ho] at h7; cases h7
        | some off =>
          rw [ho] at h7
          have h8 : (pc : Int) + off = (hk_pc cd tl[(x.toInt - lo').toNat] : Int) := Option.some.inj h7
          exact lv_tableIn hx hbs hd (by omega) (by omega) (by rw [← Array.getElem?_toList]; exact ho) h8 (hk_nx (hk_sws_get g.2 _ _ ht (by omega)) rfl hl hR hq hk hn)
    · exact absurd g id
  · exact absurd hck (by decide)
set_option maxHeartbeats 4000000 in
theorem hk_o_getstatic (X : hk_Cx p l R s m meth c ex B vX H0 dC dI d cd call own ini mx C S bs) {u0 : Nat} {b : Nat} {cc : Int32} {tl : List Nat} (hck : hk_chk cd own ini mx bs (pc, .getstatic u0, nx, a, b, cc, tl) = true)
    (g : (hk_PP p l e R s m args below meth c Qf ex B vX H0 dC dI cd mx C S) nx ls (hk_sv a :: st) h k n) : hk_P1 p l e R s m args below meth c Qf ex B vX H0 dC dI pc mx C S ls st h k n := by
  intro H locs la hl hR hq hk hn
  have hX0 := X
  obtain ⟨hx, hbs, hml, hown, henv, hini, hchk, -, hroom⟩ := hX0
  have hVX := henv.2.2.2.2.2.2
  unfold hk_chk at hck
  dsimp only at hck
  split at hck
  · rename_i x hd
    rw [Bool.and_eq_true, Bool.and_eq_true] at hck
    obtain ⟨q, -, h2, h3⟩ := hk_any hck.1.1 hk_zL_ok
    simp only [Bool.and_eq_true] at h2
    unfold hk_zOK at h3
    rw [Nat.eq_of_beq_eq_true h2.1.1, Nat.eq_of_beq_eq_true h2.1.2, Nat.eq_of_beq_eq_true h2.2] at h3
    obtain ⟨cf, kf, fi, f, aa, cell, g1, g2, g3, g4, g5, g6, g7, g8⟩ := henv.2.2.1 a (hk_blt hck.2)
    have hlt : aa < B := by rw [← henv.2.2.2.2.1]; exact (Array.getElem?_eq_some_iff.mp g5).1
    exact W.gets hx hbs hown (hk_word X (hk_w_in h3)) g1 g2 g3 g4 (by rw [hR.2.2.1 aa hlt]; exact g5) (fun z => by rw [z] at g6; cases g6) g7 rfl hd (hk_nx g (Nat.eq_of_beq_eq_true hck.1.2) hl hR hq hk hn)
  · exact absurd hck (by decide)
set_option maxHeartbeats 4000000 in
theorem hk_o_getfield (X : hk_Cx p l R s m meth c ex B vX H0 dC dI d cd call own ini mx C S bs) {u0 : Nat} {b : Nat} {cc : Int32} {tl : List Nat} (hck : hk_chk cd own ini mx bs (pc, .getfield u0, nx, a, b, cc, tl) = true)
    (g : hk_gf h a b st (fun s9 => (hk_PP p l e R s m args below meth c Qf ex B vX H0 dC dI cd mx C S) nx ls s9 h k n)) : hk_P1 p l e R s m args below meth c Qf ex B vX H0 dC dI pc mx C S ls st h k n := by
  intro H locs la hl hR hq hk hn
  have hX0 := X
  obtain ⟨hx, hbs, hml, hown, henv, hini, hchk, -, hroom⟩ := hX0
  have hVX := henv.2.2.2.2.2.2
  unfold hk_chk at hck
  dsimp only at hck
  split at hck
  · rename_i x hd
    rw [Bool.and_eq_true] at hck
    unfold hk_gf at g
    split at g
    · obtain ⟨h1, h2⟩ := hk_bif_1 g
      exact hk_s_get X hck.1 hd hR (Nat.eq_of_beq_eq_true h1) (hk_nx (hk_v_sp h2) (Nat.eq_of_beq_eq_true hck.2) hl hR hq hk hn)
    · exact absurd g id
  · exact absurd hck (by decide)
set_option maxHeartbeats 4000000 in
theorem hk_o_putfield (X : hk_Cx p l R s m meth c ex B vX H0 dC dI d cd call own ini mx C S bs) {u0 : Nat} {b : Nat} {cc : Int32} {tl : List Nat} (hck : hk_chk cd own ini mx bs (pc, .putfield u0, nx, a, b, cc, tl) = true)
    (g : (match (generalizing := false) tl with | tc :: _ => hk_pf h a b tc st (fun h' s9 => (hk_PP p l e R s m args below meth c Qf ex B vX H0 dC dI cd mx C S) nx ls s9 h' k n) | _ => False)) : hk_P1 p l e R s m args below meth c Qf ex B vX H0 dC dI pc mx C S ls st h k n := by
  intro H locs la hl hR hq hk hn
  have hX0 := X
  obtain ⟨hx, hbs, hml, hown, henv, hini, hchk, -, hroom⟩ := hX0
  have hVX := henv.2.2.2.2.2.2
  unfold hk_chk at hck
  dsimp only at hck
  try dsimp only at g
  split at hck
  · rename_i x hd
    rw [Bool.and_eq_true, Bool.and_eq_true, Bool.and_eq_true, Bool.and_eq_true] at hck
    obtain ⟨⟨⟨⟨h1, h2⟩, h3⟩, h4⟩, h5⟩ := hck
    split at h5
    · rename_i tc
      dsimp only at g
      unfold hk_pf at g
      split at g
      · obtain ⟨h6, h7⟩ := hk_bif_1 g
        rw [Bool.and_eq_true] at h6
        refine hk_s_put X h1 (hk_blt h3) h4 h5 hd hR (Nat.le_of_ble_eq_true h6.2) (Nat.eq_of_beq_eq_true h6.1) (hk_pfv_m (fun _ => trivial) h7) hq (fun H1 locs1 r1 r2 => ?_)
        exact hk_nx (hk_pfv_k h7) (Nat.eq_of_beq_eq_true h2) hl r1 r2 hk hn
      · exact absurd g id
    · exact absurd h5 (by decide)
  · exact absurd hck (by decide)
set_option maxHeartbeats 4000000 in
theorem hk_o_iaload (X : hk_Cx p l R s m meth c ex B vX H0 dC dI d cd call own ini mx C S bs)  {b : Nat} {cc : Int32} {tl : List Nat} (hck : hk_chk cd own ini mx bs (pc, .iaload, nx, a, b, cc, tl) = true)
    (g : hk_ald h 10 st (fun s9 => (hk_PP p l e R s m args below meth c Qf ex B vX H0 dC dI cd mx C S) nx ls s9 h k n)) : hk_P1 p l e R s m args below meth c Qf ex B vX H0 dC dI pc mx C S ls st h k n := by
  intro H locs la hl hR hq hk hn
  have hX0 := X
  obtain ⟨hx, hbs, hml, hown, henv, hini, hchk, -, hroom⟩ := hX0
  have hVX := henv.2.2.2.2.2.2
  unfold hk_chk at hck
  dsimp only at hck
  obtain ⟨hd, hN⟩ := hk_dn hck
  unfold hk_ald at g
  split at g
  · obtain ⟨h1, h2, h3⟩ := hk_bif_1 g
    have e1 := Nat.eq_of_beq_eq_true h1
    obtain ⟨cell, q1, q2, q3, q4, q5, q6⟩ := hk_arr (hR.2.2.2 _) (by rw [e1]; decide) (by rw [e1]; decide) (fun _ => by rw [e1]; decide)
    rw [e1] at q2
    exact W.iald hx hbs q1 q2 q3 (hk_inb h2 q4) (q6 _ (hk_ilt h2)) rfl rfl hd (hk_nx (hk_v_sp h3) hN hl hR hq hk hn)
  · exact absurd g id
set_option maxHeartbeats 4000000 in
theorem hk_o_laload (X : hk_Cx p l R s m meth c ex B vX H0 dC dI d cd call own ini mx C S bs)  {b : Nat} {cc : Int32} {tl : List Nat} (hck : hk_chk cd own ini mx bs (pc, .laload, nx, a, b, cc, tl) = true)
    (g : hk_ald h 11 st (fun s9 => (hk_PP p l e R s m args below meth c Qf ex B vX H0 dC dI cd mx C S) nx ls s9 h k n)) : hk_P1 p l e R s m args below meth c Qf ex B vX H0 dC dI pc mx C S ls st h k n := by
  intro H locs la hl hR hq hk hn
  have hX0 := X
  obtain ⟨hx, hbs, hml, hown, henv, hini, hchk, -, hroom⟩ := hX0
  have hVX := henv.2.2.2.2.2.2
  unfold hk_chk at hck
  dsimp only at hck
  obtain ⟨hd, hN⟩ := hk_dn hck
  unfold hk_ald at g
  split at g
  · obtain ⟨h1, h2, h3⟩ := hk_bif_1 g
    have e1 := Nat.eq_of_beq_eq_true h1
    obtain ⟨cell, q1, q2, q3, q4, q5, q6⟩ := hk_arr (hR.2.2.2 _) (by rw [e1]; decide) (by rw [e1]; decide) (fun _ => by rw [e1]; decide)
    rw [e1] at q2
    exact W.lald hx hbs q1 q2 q3 (hk_inb h2 q4) (q6 _ (hk_ilt h2)) rfl rfl hd (hk_nx (hk_v_sp h3) hN hl hR hq hk hn)
  · exact absurd g id
set_option maxHeartbeats 4000000 in
theorem hk_o_baload (X : hk_Cx p l R s m meth c ex B vX H0 dC dI d cd call own ini mx C S bs)  {b : Nat} {cc : Int32} {tl : List Nat} (hck : hk_chk cd own ini mx bs (pc, .baload, nx, a, b, cc, tl) = true)
    (g : hk_ald h 12 st (fun s9 => (hk_PP p l e R s m args below meth c Qf ex B vX H0 dC dI cd mx C S) nx ls s9 h k n)) : hk_P1 p l e R s m args below meth c Qf ex B vX H0 dC dI pc mx C S ls st h k n := by
  intro H locs la hl hR hq hk hn
  have hX0 := X
  obtain ⟨hx, hbs, hml, hown, henv, hini, hchk, -, hroom⟩ := hX0
  have hVX := henv.2.2.2.2.2.2
  unfold hk_chk at hck
  dsimp only at hck
  obtain ⟨hd, hN⟩ := hk_dn hck
  unfold hk_ald at g
  split at g
  · obtain ⟨h1, h2, h3⟩ := hk_bif_1 g
    have e1 := Nat.eq_of_beq_eq_true h1
    obtain ⟨cell, q1, q2, q3, q4, q5, q6⟩ := hk_arr (hR.2.2.2 _) (by rw [e1]; decide) (by rw [e1]; decide) (fun _ => by rw [e1]; decide)
    rw [e1] at q2
    exact W.bald hx hbs q1 q2 q3 (hk_inb h2 q4) (q6 _ (hk_ilt h2)) rfl rfl hd (hk_nx (hk_v_sp h3) hN hl hR hq hk hn)
  · exact absurd g id
set_option maxHeartbeats 4000000 in
theorem hk_o_aaload (X : hk_Cx p l R s m meth c ex B vX H0 dC dI d cd call own ini mx C S bs)  {b : Nat} {cc : Int32} {tl : List Nat} (hck : hk_chk cd own ini mx bs (pc, .aaload, nx, a, b, cc, tl) = true)
    (g : hk_ald2 h st (fun s9 => (hk_PP p l e R s m args below meth c Qf ex B vX H0 dC dI cd mx C S) nx ls s9 h k n)) : hk_P1 p l e R s m args below meth c Qf ex B vX H0 dC dI pc mx C S ls st h k n := by
  intro H locs la hl hR hq hk hn
  have hX0 := X
  obtain ⟨hx, hbs, hml, hown, henv, hini, hchk, -, hroom⟩ := hX0
  have hVX := henv.2.2.2.2.2.2
  unfold hk_chk at hck
  dsimp only at hck
  obtain ⟨hd, hN⟩ := hk_dn hck
  unfold hk_ald2 at g
  split at g
  · obtain ⟨h1, h2, h3⟩ := hk_bif_1 g
    rw [Bool.and_eq_true, Bool.and_eq_true] at h1
    have g1 := Nat.le_of_ble_eq_true h1.1.1
    have g2 := Nat.le_of_ble_eq_true h1.1.2
    have g3 := Nat.le_of_ble_eq_true h1.2
    obtain ⟨cell, q1, q2, q3, q4, q5, q6⟩ := hk_arr (hR.2.2.2 _) (by omega) g2 (fun z => by omega)
    rw [hk_aty_r g1 g2] at q2
    exact W.aald hx hbs q1 q2 rfl q3 (hk_inb h2 q4) (q6 _ (hk_ilt h2)) rfl rfl hd (hk_nx (hk_v_sp h3) hN hl hR hq hk hn)
  · exact absurd g id
set_option maxHeartbeats 4000000 in
theorem hk_o_iastore (X : hk_Cx p l R s m meth c ex B vX H0 dC dI d cd call own ini mx C S bs)  {b : Nat} {cc : Int32} {tl : List Nat} (hck : hk_chk cd own ini mx bs (pc, .iastore, nx, a, b, cc, tl) = true)
    (g : hk_ast h 10 st (fun h' s9 => (hk_PP p l e R s m args below meth c Qf ex B vX H0 dC dI cd mx C S) nx ls s9 h' k n)) : hk_P1 p l e R s m args below meth c Qf ex B vX H0 dC dI pc mx C S ls st h k n := by
  intro H locs la hl hR hq hk hn
  have hX0 := X
  obtain ⟨hx, hbs, hml, hown, henv, hini, hchk, -, hroom⟩ := hX0
  have hVX := henv.2.2.2.2.2.2
  unfold hk_chk at hck
  dsimp only at hck
  obtain ⟨hd, hN⟩ := hk_dn hck
  unfold hk_ast at g
  split at g
  · obtain ⟨h1, h2, h3⟩ := hk_bif_1 g
    rw [Bool.and_eq_true] at h1
    exact hk_s_ast X (Or.inl ⟨rfl, hd⟩) hR (Nat.le_of_ble_eq_true h1.2) (Nat.eq_of_beq_eq_true h1.1) h2 h3 hq (fun v' H1 locs1 r0 r1 r2 => hk_nx r0 hN hl r1 r2 hk hn)
  · exact absurd g id
set_option maxHeartbeats 4000000 in
theorem hk_o_lastore (X : hk_Cx p l R s m meth c ex B vX H0 dC dI d cd call own ini mx C S bs)  {b : Nat} {cc : Int32} {tl : List Nat} (hck : hk_chk cd own ini mx bs (pc, .lastore, nx, a, b, cc, tl) = true)
    (g : hk_ast h 11 st (fun h' s9 => (hk_PP p l e R s m args below meth c Qf ex B vX H0 dC dI cd mx C S) nx ls s9 h' k n)) : hk_P1 p l e R s m args below meth c Qf ex B vX H0 dC dI pc mx C S ls st h k n := by
  intro H locs la hl hR hq hk hn
  have hX0 := X
  obtain ⟨hx, hbs, hml, hown, henv, hini, hchk, -, hroom⟩ := hX0
  have hVX := henv.2.2.2.2.2.2
  unfold hk_chk at hck
  dsimp only at hck
  obtain ⟨hd, hN⟩ := hk_dn hck
  unfold hk_ast at g
  split at g
  · obtain ⟨h1, h2, h3⟩ := hk_bif_1 g
    rw [Bool.and_eq_true] at h1
    exact hk_s_ast X (Or.inr (Or.inl ⟨rfl, hd⟩)) hR (Nat.le_of_ble_eq_true h1.2) (Nat.eq_of_beq_eq_true h1.1) h2 h3 hq (fun v' H1 locs1 r0 r1 r2 => hk_nx r0 hN hl r1 r2 hk hn)
  · exact absurd g id
set_option maxHeartbeats 4000000 in
theorem hk_o_bastore (X : hk_Cx p l R s m meth c ex B vX H0 dC dI d cd call own ini mx C S bs)  {b : Nat} {cc : Int32} {tl : List Nat} (hck : hk_chk cd own ini mx bs (pc, .bastore, nx, a, b, cc, tl) = true)
    (g : hk_ast h 12 st (fun h' s9 => (hk_PP p l e R s m args below meth c Qf ex B vX H0 dC dI cd mx C S) nx ls s9 h' k n)) : hk_P1 p l e R s m args below meth c Qf ex B vX H0 dC dI pc mx C S ls st h k n := by
  intro H locs la hl hR hq hk hn
  have hX0 := X
  obtain ⟨hx, hbs, hml, hown, henv, hini, hchk, -, hroom⟩ := hX0
  have hVX := henv.2.2.2.2.2.2
  unfold hk_chk at hck
  dsimp only at hck
  obtain ⟨hd, hN⟩ := hk_dn hck
  unfold hk_ast at g
  split at g
  · obtain ⟨h1, h2, h3⟩ := hk_bif_1 g
    rw [Bool.and_eq_true] at h1
    exact hk_s_ast X (Or.inr (Or.inr ⟨rfl, hd⟩)) hR (Nat.le_of_ble_eq_true h1.2) (Nat.eq_of_beq_eq_true h1.1) h2 h3 hq (fun v' H1 locs1 r0 r1 r2 => hk_nx r0 hN hl r1 r2 hk hn)
  · exact absurd g id
set_option maxHeartbeats 4000000 in
theorem hk_o_aastore (X : hk_Cx p l R s m meth c ex B vX H0 dC dI d cd call own ini mx C S bs)  {b : Nat} {cc : Int32} {tl : List Nat} (hck : hk_chk cd own ini mx bs (pc, .aastore, nx, a, b, cc, tl) = true)
    (g : hk_ast2 h st (fun h' s9 => (hk_PP p l e R s m args below meth c Qf ex B vX H0 dC dI cd mx C S) nx ls s9 h' k n)) : hk_P1 p l e R s m args below meth c Qf ex B vX H0 dC dI pc mx C S ls st h k n := by
  intro H locs la hl hR hq hk hn
  have hX0 := X
  obtain ⟨hx, hbs, hml, hown, henv, hini, hchk, -, hroom⟩ := hX0
  have hVX := henv.2.2.2.2.2.2
  unfold hk_chk at hck
  dsimp only at hck
  obtain ⟨hd, hN⟩ := hk_dn hck
  unfold hk_ast2 at g
  split at g
  · obtain ⟨h1, h2, h3⟩ := hk_bif_1 g
    simp only [Bool.and_eq_true] at h1
    exact hk_s_ast2 X (v := .ref _) hd hR (Nat.le_of_ble_eq_true h1.1.1.2) (Nat.le_of_ble_eq_true h1.1.1.1.1) (Nat.le_of_ble_eq_true h1.1.1.1.2) h2 (Or.inr ⟨_, rfl, Nat.le_of_ble_eq_true h1.2, Nat.eq_of_beq_eq_true h1.1.2⟩) hq (fun H1 locs1 r1 r2 => hk_nx h3 hN hl r1 r2 hk hn)
  · obtain ⟨h1, h2, h3⟩ := hk_bif_1 g
    simp only [Bool.and_eq_true] at h1
    exact hk_s_ast2 X (v := .null) hd hR (Nat.le_of_ble_eq_true h1.2) (Nat.le_of_ble_eq_true h1.1.1) (Nat.le_of_ble_eq_true h1.1.2) h2 (Or.inl rfl) hq (fun H1 locs1 r1 r2 => hk_nx h3 hN hl r1 r2 hk hn)
  · exact absurd g id
set_option maxHeartbeats 4000000 in
theorem hk_o_arraylength (X : hk_Cx p l R s m meth c ex B vX H0 dC dI d cd call own ini mx C S bs)  {b : Nat} {cc : Int32} {tl : List Nat} (hck : hk_chk cd own ini mx bs (pc, .arraylength, nx, a, b, cc, tl) = true)
    (g : hk_len h st (fun s9 => (hk_PP p l e R s m args below meth c Qf ex B vX H0 dC dI cd mx C S) nx ls s9 h k n)) : hk_P1 p l e R s m args below meth c Qf ex B vX H0 dC dI pc mx C S ls st h k n := by
  intro H locs la hl hR hq hk hn
  have hX0 := X
  obtain ⟨hx, hbs, hml, hown, henv, hini, hchk, -, hroom⟩ := hX0
  have hVX := henv.2.2.2.2.2.2
  unfold hk_chk at hck
  dsimp only at hck
  obtain ⟨hd, hN⟩ := hk_dn hck
  unfold hk_len at g
  split at g
  · obtain ⟨h1, h2⟩ := hk_bif_1 g
    rw [Bool.and_eq_true] at h1
    have g1 := Nat.le_of_ble_eq_true h1.1
    have g2 := Nat.le_of_ble_eq_true h1.2
    rename_i q r
    obtain ⟨cell, q1, q2, q3, q4, q5, q6⟩ := hk_arr (hR.2.2.2 q) g1 (by omega) (fun z => g2)
    exact W.alen hx hbs q1 q2 q5 rfl rfl hd (hk_nx h2 hN hl hR hq hk hn)
  · exact absurd g id
set_option maxHeartbeats 4000000 in
theorem hk_o_fadd (X : hk_Cx p l R s m meth c ex B vX H0 dC dI d cd call own ini mx C S bs)  {b : Nat} {cc : Int32} {tl : List Nat} (hck : hk_chk cd own ini mx bs (pc, .fadd, nx, a, b, cc, tl) = true)
    (g : hk_m2 hk_max st (fun s9 => (hk_PP p l e R s m args below meth c Qf ex B vX H0 dC dI cd mx C S) nx ls s9 h k n)) : hk_P1 p l e R s m args below meth c Qf ex B vX H0 dC dI pc mx C S ls st h k n := by
  intro H locs la hl hR hq hk hn
  have hX0 := X
  obtain ⟨hx, hbs, hml, hown, henv, hini, hchk, -, hroom⟩ := hX0
  have hVX := henv.2.2.2.2.2.2
  unfold hk_chk at hck
  dsimp only at hck
  split at hck
  · rename_i x hd
    rw [Bool.and_eq_true] at hck
    obtain ⟨q, -, h2, h3⟩ := hk_any hck.1 hk_xL_ok
    simp only [Bool.and_eq_true] at h2
    unfold hk_xOK at h3
    rw [Nat.eq_of_beq_eq_true h2.1.1, Nat.eq_of_beq_eq_true h2.1.2, Nat.eq_of_beq_eq_true h2.2] at h3
    unfold hk_m2 at g
    split at g
    · obtain ⟨h6, h7⟩ := hk_bif_1 g
      have hcs := Nat.le_of_ble_eq_true h6
      rename_i r
      have hcs2 := hk_cs_eq (ex := ex) (B := B) hVX r
      have hrl := hroom.2.1
      exact va_mmax hx hbs (by rw [hml]; exact hl.1.symm) hown (hk_word X (hk_w_in h3)) (henv.1 _ hk_xs_max rfl args) (henv.1 _ hk_xi rfl args) (henv.1 _ hk_xc_max rfl args) (Nat.le_trans (Nat.succ_le_succ (Nat.zero_le d)) hroom.1) (by rw [hcs2]; omega) (Nat.le_trans hk hroom.2.2.1) (Nat.le_trans hn hroom.2.2.2) hd (hk_nx h7 (Nat.eq_of_beq_eq_true hck.2) hl hR hq hk hn)
    · exact absurd g id
  · exact absurd hck (by decide)
set_option maxHeartbeats 4000000 in
theorem hk_o_fsub (X : hk_Cx p l R s m meth c ex B vX H0 dC dI d cd call own ini mx C S bs)  {b : Nat} {cc : Int32} {tl : List Nat} (hck : hk_chk cd own ini mx bs (pc, .fsub, nx, a, b, cc, tl) = true)
    (g : hk_m2 hk_min st (fun s9 => (hk_PP p l e R s m args below meth c Qf ex B vX H0 dC dI cd mx C S) nx ls s9 h k n)) : hk_P1 p l e R s m args below meth c Qf ex B vX H0 dC dI pc mx C S ls st h k n := by
  intro H locs la hl hR hq hk hn
  have hX0 := X
  obtain ⟨hx, hbs, hml, hown, henv, hini, hchk, -, hroom⟩ := hX0
  have hVX := henv.2.2.2.2.2.2
  unfold hk_chk at hck
  dsimp only at hck
  split at hck
  · rename_i x hd
    rw [Bool.and_eq_true] at hck
    obtain ⟨q, -, h2, h3⟩ := hk_any hck.1 hk_xL_ok
    simp only [Bool.and_eq_true] at h2
    unfold hk_xOK at h3
    rw [Nat.eq_of_beq_eq_true h2.1.1, Nat.eq_of_beq_eq_true h2.1.2, Nat.eq_of_beq_eq_true h2.2] at h3
    unfold hk_m2 at g
    split at g
    · obtain ⟨h6, h7⟩ := hk_bif_1 g
      have hcs := Nat.le_of_ble_eq_true h6
      rename_i r
      have hcs2 := hk_cs_eq (ex := ex) (B := B) hVX r
      have hrl := hroom.2.1
      exact va_mmin hx hbs (by rw [hml]; exact hl.1.symm) hown (hk_word X (hk_w_in h3)) (henv.1 _ hk_xs_min rfl args) (henv.1 _ hk_xi rfl args) (henv.1 _ hk_xc_min rfl args) (Nat.le_trans (Nat.succ_le_succ (Nat.zero_le d)) hroom.1) (by rw [hcs2]; omega) (Nat.le_trans hk hroom.2.2.1) (Nat.le_trans hn hroom.2.2.2) hd (hk_nx h7 (Nat.eq_of_beq_eq_true hck.2) hl hR hq hk hn)
    · exact absurd g id
  · exact absurd hck (by decide)
set_option maxHeartbeats 4000000 in
theorem hk_o_fneg (X : hk_Cx p l R s m meth c ex B vX H0 dC dI d cd call own ini mx C S bs)  {b : Nat} {cc : Int32} {tl : List Nat} (hck : hk_chk cd own ini mx bs (pc, .fneg, nx, a, b, cc, tl) = true)
    (g : hk_m1 hk_abs st (fun s9 => (hk_PP p l e R s m args below meth c Qf ex B vX H0 dC dI cd mx C S) nx ls s9 h k n)) : hk_P1 p l e R s m args below meth c Qf ex B vX H0 dC dI pc mx C S ls st h k n := by
  intro H locs la hl hR hq hk hn
  have hX0 := X
  obtain ⟨hx, hbs, hml, hown, henv, hini, hchk, -, hroom⟩ := hX0
  have hVX := henv.2.2.2.2.2.2
  unfold hk_chk at hck
  dsimp only at hck
  split at hck
  · rename_i x hd
    rw [Bool.and_eq_true] at hck
    obtain ⟨q, -, h2, h3⟩ := hk_any hck.1 hk_xL_ok
    simp only [Bool.and_eq_true] at h2
    unfold hk_xOK at h3
    rw [Nat.eq_of_beq_eq_true h2.1.1, Nat.eq_of_beq_eq_true h2.1.2, Nat.eq_of_beq_eq_true h2.2] at h3
    unfold hk_m1 at g
    split at g
    · obtain ⟨h6, h7⟩ := hk_bif_1 g
      have hcs := Nat.le_of_ble_eq_true h6
      rename_i r
      have hcs2 := hk_cs_eq (ex := ex) (B := B) hVX r
      have hrl := hroom.2.1
      exact va_mabs hx hbs (by rw [hml]; exact hl.1.symm) hown (hk_word X (hk_w_in h3)) (henv.1 _ hk_xs_abs rfl args) (henv.1 _ hk_xi rfl args) (henv.1 _ hk_xc_abs rfl args) (Nat.le_trans (Nat.succ_le_succ (Nat.zero_le d)) hroom.1) (by rw [hcs2]; omega) (Nat.le_trans hk hroom.2.2.1) (Nat.le_trans hn hroom.2.2.2) hd (hk_nx h7 (Nat.eq_of_beq_eq_true hck.2) hl hR hq hk hn)
    · exact absurd g id
  · exact absurd hck (by decide)
set_option maxHeartbeats 4000000 in
theorem hk_o_new (X : hk_Cx p l R s m meth c ex B vX H0 dC dI d cd call own ini mx C S bs) {u0 : Nat} {b : Nat} {cc : Int32} {tl : List Nat} (hck : hk_chk cd own ini mx bs (pc, .new u0, nx, a, b, cc, tl) = true)
    (g : (k + 1 ≤ C ∧ n + b ≤ S) ∧ (hk_PP p l e R s m args below meth c Qf ex B vX H0 dC dI cd mx C S) nx ls (.ref h.1 :: st) (hk_nw h (a, b, hk_dft a)) (k + 1) (n + b)) : hk_P1 p l e R s m args below meth c Qf ex B vX H0 dC dI pc mx C S ls st h k n := by
  intro H locs la hl hR hq hk hn
  have hX0 := X
  obtain ⟨hx, hbs, hml, hown, henv, hini, hchk, -, hroom⟩ := hX0
  have hVX := henv.2.2.2.2.2.2
  unfold hk_chk at hck
  dsimp only at hck
  split at hck
  · rename_i x hd
    rw [Bool.and_eq_true, Bool.and_eq_true] at hck
    exact hk_s_new X hck.1.1 (Nat.eq_of_beq_eq_true hck.2) hd hR g.1.1 g.1.2 (fun H1 r1 => hk_nx g.2 (Nat.eq_of_beq_eq_true hck.1.2) hl r1 hq g.1.1 g.1.2)
  · exact absurd hck (by decide)
set_option maxHeartbeats 4000000 in
theorem hk_o_newarray (X : hk_Cx p l R s m meth c ex B vX H0 dC dI d cd call own ini mx C S bs) {u0 : ArrayType} {b : Nat} {cc : Int32} {tl : List Nat} (hck : hk_chk cd own ini mx bs (pc, .newarray u0, nx, a, b, cc, tl) = true)
    (g : hk_nar h a C S k n st (fun h' s9 n' => (hk_PP p l e R s m args below meth c Qf ex B vX H0 dC dI cd mx C S) nx ls s9 h' (k + 1) n')) : hk_P1 p l e R s m args below meth c Qf ex B vX H0 dC dI pc mx C S ls st h k n := by
  intro H locs la hl hR hq hk hn
  have hX0 := X
  obtain ⟨hx, hbs, hml, hown, henv, hini, hchk, -, hroom⟩ := hX0
  have hVX := henv.2.2.2.2.2.2
  unfold hk_chk at hck
  dsimp only at hck
  unfold hk_nar at g
  split at g
  · have g1 := g.1
    split at hck
    · rename_i hd; rw [Bool.and_eq_true] at hck
      have ea := Nat.eq_of_beq_eq_true hck.1
      exact hk_s_na X (Or.inl ⟨ea, hd⟩) hR g.1 (fun H1 r1 => hk_nx g.2 (Nat.eq_of_beq_eq_true hck.2) hl r1 hq g1.2.2.1 g1.2.2.2)
    · rename_i hd; rw [Bool.and_eq_true] at hck
      have ea := Nat.eq_of_beq_eq_true hck.1
      exact hk_s_na X (Or.inr (Or.inl ⟨ea, hd⟩)) hR g.1 (fun H1 r1 => hk_nx g.2 (Nat.eq_of_beq_eq_true hck.2) hl r1 hq g1.2.2.1 g1.2.2.2)
    · rename_i hd; rw [Bool.and_eq_true] at hck
      have ea := Nat.eq_of_beq_eq_true hck.1
      exact hk_s_na X (Or.inr (Or.inr ⟨ea, hd⟩)) hR g.1 (fun H1 r1 => hk_nx g.2 (Nat.eq_of_beq_eq_true hck.2) hl r1 hq g1.2.2.1 g1.2.2.2)
    · exact absurd hck (by decide)
  · exact absurd g id
set_option maxHeartbeats 4000000 in
theorem hk_o_anewarray (X : hk_Cx p l R s m meth c ex B vX H0 dC dI d cd call own ini mx C S bs) {u0 : Nat} {b : Nat} {cc : Int32} {tl : List Nat} (hck : hk_chk cd own ini mx bs (pc, .anewarray u0, nx, a, b, cc, tl) = true)
    (g : hk_nar h a C S k n st (fun h' s9 n' => (hk_PP p l e R s m args below meth c Qf ex B vX H0 dC dI cd mx C S) nx ls s9 h' (k + 1) n')) : hk_P1 p l e R s m args below meth c Qf ex B vX H0 dC dI pc mx C S ls st h k n := by
  intro H locs la hl hR hq hk hn
  have hX0 := X
  obtain ⟨hx, hbs, hml, hown, henv, hini, hchk, -, hroom⟩ := hX0
  have hVX := henv.2.2.2.2.2.2
  unfold hk_chk at hck
  dsimp only at hck
  unfold hk_nar at g
  split at g
  · have g1 := g.1
    split at hck
    · rename_i hd; rw [Bool.and_eq_true] at hck
      exact hk_s_an X hck.1 hd hR g.1 (fun H1 r1 => hk_nx g.2 (Nat.eq_of_beq_eq_true hck.2) hl r1 hq g1.2.2.1 g1.2.2.2)
    · exact absurd hck (by decide)
  · exact absurd g id
set_option maxHeartbeats 4000000 in
theorem hk_o_invokedynamic (X : hk_Cx p l R s m meth c ex B vX H0 dC dI d cd call own ini mx C S bs) {u0 : Nat} {b : Nat} {cc : Int32} {tl : List Nat} (hck : hk_chk cd own ini mx bs (pc, .invokedynamic u0, nx, a, b, cc, tl) = true)
    (g : (match (generalizing := false) st with | .ref x :: r => bif Nat.ble 38 x && Nat.ble (hk_cs r) 8 then (hk_PP p l e R s m args below meth c Qf ex B vX H0 dC dI cd mx C S) nx ls r h k n else False | _ => False)) : hk_P1 p l e R s m args below meth c Qf ex B vX H0 dC dI pc mx C S ls st h k n := by
  intro H locs la hl hR hq hk hn
  have hX0 := X
  obtain ⟨hx, hbs, hml, hown, henv, hini, hchk, -, hroom⟩ := hX0
  have hVX := henv.2.2.2.2.2.2
  unfold hk_chk at hck
  dsimp only at hck
  try dsimp only at g
  split at hck
  · rename_i x hd
    rw [Bool.and_eq_true] at hck
    obtain ⟨q, -, h2, h3⟩ := hk_any hck.1 hk_oL_ok
    simp only [Bool.and_eq_true] at h2
    unfold hk_ok1 at h3
    rw [Nat.eq_of_beq_eq_true h2.1, Nat.eq_of_beq_eq_true h2.2] at h3
    split at g
    · obtain ⟨h6, h7⟩ := hk_bif_1 g
      rw [Bool.and_eq_true] at h6
      have hcs := Nat.le_of_ble_eq_true h6.2
      rename_i y r
      have hcs2 := hk_cs_eq (ex := ex) (B := B) hVX r
      refine W.objInit hx hbs hown (hk_word X (hk_w_in h3)) (henv.1 _ hk_obji.1 rfl args) (henv.1 _ hk_obji.2 rfl args) rfl (by rw [hml]; exact hl.1) rfl hd (Nat.le_trans (Nat.succ_le_succ (Nat.zero_le d)) hroom.1) ?_ (hk_nx h7 (Nat.eq_of_beq_eq_true hck.2) hl hR hq hk hn)
      rw [hcs2]
      have := hroom.2.1
      show 2 * 0 + _ + _ ≤ _
      omega
    · exact absurd g id
  · exact absurd hck (by decide)
set_option maxHeartbeats 4000000 in
theorem hk_o_invokeinterface (X : hk_Cx p l R s m meth c ex B vX H0 dC dI d cd call own ini mx C S bs) {u0 : Nat} {u1 : Nat} {b : Nat} {cc : Int32} {tl : List Nat} (hck : hk_chk cd own ini mx bs (pc, .invokeinterface u0 u1, nx, a, b, cc, tl) = true)
    (g : hk_cpy h st (fun h' s9 => (hk_PP p l e R s m args below meth c Qf ex B vX H0 dC dI cd mx C S) nx ls s9 h' k n)) : hk_P1 p l e R s m args below meth c Qf ex B vX H0 dC dI pc mx C S ls st h k n := by
  intro H locs la hl hR hq hk hn
  have hX0 := X
  obtain ⟨hx, hbs, hml, hown, henv, hini, hchk, -, hroom⟩ := hX0
  have hVX := henv.2.2.2.2.2.2
  unfold hk_chk at hck
  dsimp only at hck
  split at hck
  · rename_i x hd
    rw [Bool.and_eq_true] at hck
    unfold hk_cpy at g
    split at g
    · obtain ⟨h6, ⟨g1, g2, g3, g4, g5, g6⟩, h8⟩ := hk_bif_1 g
      simp only [Bool.and_eq_true] at h6
      obtain ⟨⟨⟨⟨t1, t2⟩, t3⟩, t4⟩, t5⟩ := h6
      exact hk_s_cpy X hck.1 hd hR (Nat.eq_of_beq_eq_true t1) (Nat.eq_of_beq_eq_true t2) (Nat.le_of_ble_eq_true t3) (Nat.le_of_ble_eq_true t4) (Nat.le_of_ble_eq_true t5) g1 g2 g3 g4 g5 g6 hl.1 hq (fun H1 locs1 r1 r2 => hk_nx h8 (Nat.eq_of_beq_eq_true hck.2) hl r1 r2 hk hn)
    · exact absurd g id
  · exact absurd hck (by decide)
set_option maxHeartbeats 4000000 in
theorem hk_o_invokevirtual (X : hk_Cx p l R s m meth c ex B vX H0 dC dI d cd call own ini mx C S bs) {u0 : Nat} {b : Nat} {cc : Int32} {tl : List Nat} (hck : hk_chk cd own ini mx bs (pc, .invokevirtual u0, nx, a, b, cc, tl) = true)
    (g : hk_pop (b + 1) st [] (fun as r => bif Nat.ble (hk_cs r) 8 then hk_rc h as (match (generalizing := false) tl with | t :: _ => t | _ => 99) (hk_alc tl C S k n (fun k' n' => call a as h (fun v h' => hk_rv v r (fun s9 => (hk_PP p l e R s m args below meth c Qf ex B vX H0 dC dI cd mx C S) nx ls s9 h' k' n')))) else False)) : hk_P1 p l e R s m args below meth c Qf ex B vX H0 dC dI pc mx C S ls st h k n := by
  intro H locs la hl hR hq hk hn
  have hX0 := X
  obtain ⟨hx, hbs, hml, hown, henv, hini, hchk, -, hroom⟩ := hX0
  have hVX := henv.2.2.2.2.2.2
  unfold hk_chk at hck
  dsimp only at hck
  split at hck
  · rename_i x hd
    rw [Bool.and_eq_true, Bool.and_eq_true, Bool.and_eq_true] at hck
    obtain ⟨⟨⟨h1, h2⟩, h3⟩, h4⟩ := hck
    have h3 := of_decide_eq_true h3
    split at h4
    · rename_i t ka na cd' rt' k' n' mx' hM
      simp only [Bool.and_eq_true] at h4
      obtain ⟨as, r, e1, e2, g2⟩ := hk_pop_sp g
      obtain ⟨h6, g3⟩ := hk_bif_1 g2
      rw [List.append_nil] at g3
      subst e1
      cases as with
      | nil => exact absurd g3 id
      | cons v as =>
        cases v <;> first | exact absurd g3 id | skip
        rename_i y
        obtain ⟨h7, g4⟩ := hk_bif_1 g3
        have hlen : as.length = b := by simp at e2; exact e2
        have ek := Nat.eq_of_beq_eq_true h4.1.2
        have en := Nat.eq_of_beq_eq_true h4.2
        have et := Nat.eq_of_beq_eq_true h4.1.1
        subst ek; subst en; subst et
        have hst : ((.ref y :: as).reverse ++ r : List Value).map (hk_cv ex B vX) = (as.map (hk_cv ex B vX)).reverse ++ .ref (hk_ad ex B y) :: r.map (hk_cv ex B vX) := by simp [hk_cv]
        rw [hst]
        obtain ⟨k1, n1, hk1, hn1, ek1, en1, g5⟩ := hk_alc_sp g4 hk hn
        subst ek1; subst en1
        refine hk_s_virt X h1 h3 hM hd hR (Nat.eq_of_beq_eq_true h7) (hk_mo9 h1) hlen (Nat.le_of_ble_eq_true h6) g5 hl.1 hq hk1 hn1 (fun rv h' H1 locs1 r0 r1 r2 => ?_)
        cases rv with
        | none => exact hk_nx r0 (Nat.eq_of_beq_eq_true h2) hl r1 r2 hk1 hn1
        | some v => exact hk_nx (st := v :: r) r0 (Nat.eq_of_beq_eq_true h2) hl r1 r2 hk1 hn1
    · exact absurd h4 (by decide)
  · exact absurd hck (by decide)
set_option maxHeartbeats 4000000 in
theorem hk_o_invokestatic (X : hk_Cx p l R s m meth c ex B vX H0 dC dI d cd call own ini mx C S bs) {u0 : Nat} {b : Nat} {cc : Int32} {tl : List Nat} (hck : hk_chk cd own ini mx bs (pc, .invokestatic u0, nx, a, b, cc, tl) = true)
    (g : hk_pop b st [] (fun as r => bif Nat.ble (hk_cs r) 8 then hk_alc tl C S k n (fun k' n' => call a as h (fun v h' => hk_rv v r (fun s9 => (hk_PP p l e R s m args below meth c Qf ex B vX H0 dC dI cd mx C S) nx ls s9 h' k' n'))) else False)) : hk_P1 p l e R s m args below meth c Qf ex B vX H0 dC dI pc mx C S ls st h k n := by
  intro H locs la hl hR hq hk hn
  have hX0 := X
  obtain ⟨hx, hbs, hml, hown, henv, hini, hchk, -, hroom⟩ := hX0
  have hVX := henv.2.2.2.2.2.2
  unfold hk_chk at hck
  dsimp only at hck
  split at hck
  · rename_i x hd
    rw [Bool.and_eq_true, Bool.and_eq_true, Bool.and_eq_true] at hck
    obtain ⟨⟨⟨h1, h2⟩, h3⟩, h4⟩ := hck
    have h3 := of_decide_eq_true h3
    split at h4
    · rename_i t ka na cd' rt' k' n' mx' hM
      simp only [Bool.and_eq_true] at h4
      obtain ⟨as, r, e1, e2, g2⟩ := hk_pop_sp g
      obtain ⟨h6, g3⟩ := hk_bif_1 g2
      rw [List.append_nil] at g3
      subst e1
      · have g4 := g3
        have hlen : as.length = b := e2
        have ek := Nat.eq_of_beq_eq_true h4.1
        have en := Nat.eq_of_beq_eq_true h4.2
        subst ek; subst en
        have hst : (as.reverse ++ r : List Value).map (hk_cv ex B vX) = (as.map (hk_cv ex B vX)).reverse ++ r.map (hk_cv ex B vX) := by simp
        rw [hst]
        obtain ⟨k1, n1, hk1, hn1, ek1, en1, g5⟩ := hk_alc_sp g4 hk hn
        subst ek1; subst en1
        refine hk_s_stat X h1 h3 hM hd hR  hlen (Nat.le_of_ble_eq_true h6) g5 hl.1 hq hk1 hn1 (fun rv h' H1 locs1 r0 r1 r2 => ?_)
        cases rv with
        | none => exact hk_nx r0 (Nat.eq_of_beq_eq_true h2) hl r1 r2 hk1 hn1
        | some v => exact hk_nx (st := v :: r) r0 (Nat.eq_of_beq_eq_true h2) hl r1 r2 hk1 hn1
    · exact absurd h4 (by decide)
  · exact absurd hck (by decide)
set_option maxHeartbeats 4000000 in
theorem hk_o_invokespecial (X : hk_Cx p l R s m meth c ex B vX H0 dC dI d cd call own ini mx C S bs) {u0 : Nat} {b : Nat} {cc : Int32} {tl : List Nat} (hck : hk_chk cd own ini mx bs (pc, .invokespecial u0, nx, a, b, cc, tl) = true)
    (g : hk_pop (b + 1) st [] (fun as r => bif Nat.ble (hk_cs r) 8 then hk_rn as (hk_alc tl C S k n (fun k' n' => call a as h (fun v h' => hk_rv v r (fun s9 => (hk_PP p l e R s m args below meth c Qf ex B vX H0 dC dI cd mx C S) nx ls s9 h' k' n')))) else False)) : hk_P1 p l e R s m args below meth c Qf ex B vX H0 dC dI pc mx C S ls st h k n := by
  intro H locs la hl hR hq hk hn
  have hX0 := X
  obtain ⟨hx, hbs, hml, hown, henv, hini, hchk, -, hroom⟩ := hX0
  have hVX := henv.2.2.2.2.2.2
  unfold hk_chk at hck
  dsimp only at hck
  split at hck
  · rename_i x hd
    rw [Bool.and_eq_true, Bool.and_eq_true, Bool.and_eq_true] at hck
    obtain ⟨⟨⟨h1, h2⟩, h3⟩, h4⟩ := hck
    have h3 := of_decide_eq_true h3
    split at h4
    · rename_i t ka na cd' rt' k' n' mx' hM
      simp only [Bool.and_eq_true] at h4
      obtain ⟨as, r, e1, e2, g2⟩ := hk_pop_sp g
      obtain ⟨h6, g3⟩ := hk_bif_1 g2
      rw [List.append_nil] at g3
      subst e1
      cases as with
      | nil => exact absurd g3 id
      | cons v as =>
        cases v <;> first | exact absurd g3 id | skip
        rename_i y
        obtain ⟨h7, g4⟩ := hk_bif_1 g3
        have hlen : as.length = b := by simp at e2; exact e2
        have ek := Nat.eq_of_beq_eq_true h4.1
        have en := Nat.eq_of_beq_eq_true h4.2
        subst ek; subst en
        have hst : ((.ref y :: as).reverse ++ r : List Value).map (hk_cv ex B vX) = (as.map (hk_cv ex B vX)).reverse ++ .ref (hk_ad ex B y) :: r.map (hk_cv ex B vX) := by simp [hk_cv]
        rw [hst]
        obtain ⟨k1, n1, hk1, hn1, ek1, en1, g5⟩ := hk_alc_sp g4 hk hn
        subst ek1; subst en1
        refine hk_s_spec X h1 h3 hM hd hR  hlen (Nat.le_of_ble_eq_true h6) g5 hl.1 hq hk1 hn1 (fun rv h' H1 locs1 r0 r1 r2 => ?_)
        cases rv with
        | none => exact hk_nx r0 (Nat.eq_of_beq_eq_true h2) hl r1 r2 hk1 hn1
        | some v => exact hk_nx (st := v :: r) r0 (Nat.eq_of_beq_eq_true h2) hl r1 r2 hk1 hn1
    · exact absurd h4 (by decide)
  · exact absurd hck (by decide)
set_option maxHeartbeats 4000000 in
theorem hk_o_ireturn {rt : Option FieldType} {Q : hk_Q} (hI : ∀ ty (v : Int32) (h : hk_Hp) (H : Heap) (locs : List Loc) (k n : Nat) (la : Array Slot) (pc : Nat), rt = some ty → Q (some (.int v)) h → narrow ty (.int v) = .int v → hk_Rel ex B vX H0 dC dI s H h → (∀ q ∈ locs, B ≤ q.base) → k ≤ C → n ≤ S → decode bs pc = .ok (.ireturn, 1) → W p l e R s m args below meth c H locs k n Qf (F0 m pc la [.int v])) (X : hk_Cx p l R s m meth c ex B vX H0 dC dI d cd call own ini mx C S bs)  {b : Nat} {cc : Int32} {tl : List Nat} (hck : hk_chk cd own ini mx bs (pc, .ireturn, nx, a, b, cc, tl) = true)
    (g : hk_ret rt st (fun v => Q v h)) : hk_P1 p l e R s m args below meth c Qf ex B vX H0 dC dI pc mx C S ls st h k n := by
  intro H locs la hl hR hq hk hn
  have hX0 := X
  obtain ⟨hx, hbs, hml, hown, henv, hini, hchk, -, hroom⟩ := hX0
  have hVX := henv.2.2.2.2.2.2
  unfold hk_chk at hck
  dsimp only at hck
  have hd := of_decide_eq_true hck
  unfold hk_ret at g
  split at g
  · exact hI .int _ h H locs k n la pc rfl g rfl hR hq hk hn hd
  · exact hI _ _ h H locs k n la pc rfl g.2 g.1 hR hq hk hn hd
  · exact absurd g id
set_option maxHeartbeats 4000000 in
theorem hk_o_return_ {rt : Option FieldType} {Q : hk_Q} (hV : ∀ (h : hk_Hp) (H : Heap) (locs : List Loc) (k n : Nat) (la : Array Slot) (pc : Nat), rt = none → Q none h → hk_Rel ex B vX H0 dC dI s H h → (∀ q ∈ locs, B ≤ q.base) → k ≤ C → n ≤ S → decode bs pc = .ok (.return_, 1) → W p l e R s m args below meth c H locs k n Qf (F0 m pc la [])) (X : hk_Cx p l R s m meth c ex B vX H0 dC dI d cd call own ini mx C S bs)  {b : Nat} {cc : Int32} {tl : List Nat} (hck : hk_chk cd own ini mx bs (pc, .return_, nx, a, b, cc, tl) = true)
    (g : (match (generalizing := false) rt, st with | none, [] => Q none h | _, _ => False)) : hk_P1 p l e R s m args below meth c Qf ex B vX H0 dC dI pc mx C S ls st h k n := by
  intro H locs la hl hR hq hk hn
  have hX0 := X
  obtain ⟨hx, hbs, hml, hown, henv, hini, hchk, -, hroom⟩ := hX0
  have hVX := henv.2.2.2.2.2.2
  unfold hk_chk at hck
  dsimp only at hck
  have hd := of_decide_eq_true hck
  try dsimp only at g
  split at g
  · exact hV h H locs k n la pc rfl g hR hq hk hn hd
  · exact absurd g id
set_option maxHeartbeats 4000000 in
theorem hk_close {rt : Option FieldType} {Q : hk_Q} (X : hk_Cx p l R s m meth c ex B vX H0 dC dI d cd call own ini mx C S bs)
    (hI : ∀ ty (v : Int32) (h : hk_Hp) (H : Heap) (locs : List Loc) (k n : Nat) (la : Array Slot) (pc : Nat), rt = some ty → Q (some (.int v)) h → narrow ty (.int v) = .int v → hk_Rel ex B vX H0 dC dI s H h → (∀ q ∈ locs, B ≤ q.base) → k ≤ C → n ≤ S → decode bs pc = .ok (.ireturn, 1) → W p l e R s m args below meth c H locs k n Qf (F0 m pc la [.int v]))
    (hV : ∀ (h : hk_Hp) (H : Heap) (locs : List Loc) (k n : Nat) (la : Array Slot) (pc : Nat), rt = none → Q none h → hk_Rel ex B vX H0 dC dI s H h → (∀ q ∈ locs, B ≤ q.base) → k ≤ C → n ≤ S → decode bs pc = .ok (.return_, 1) → W p l e R s m args below meth c H locs k n Qf (F0 m pc la []))
    (ip : Nat) (ls : hk_Ls) (st : List Value) (h : hk_Hp) (k n : Nat) (g : hk_step rt C S hk_dft cd call Q (hk_PP p l e R s m args below meth c Qf ex B vX H0 dC dI cd mx C S) ip ls st h k n) : hk_PP p l e R s m args below meth c Qf ex B vX H0 dC dI cd mx C S ip ls st h k n := by
  unfold hk_step at g
  cases he : hk_at cd ip with
  | none => rw [he] at g; exact absurd g id
  | some en =>
    rw [he] at g
    have hck := X.2.2.2.2.2.2.1 ip en he
    have hpc : hk_pc cd ip = en.1 := by unfold hk_pc; rw [he]
    show hk_P1 p l e R s m args below meth c Qf ex B vX H0 dC dI (hk_pc cd ip) mx C S ls st h k n
    rw [hpc]
    obtain ⟨pc, i, nx, a, b, cc, tl⟩ := en
    dsimp only at g ⊢
    cases i
    case aconst_null => exact hk_o_aconst_null X hck g
    case iconst => exact hk_o_iconst X hck g
    case lconst => exact hk_o_lconst X hck g
    case ldc => exact hk_o_ldc X hck g
    case iload => exact hk_o_iload X hck g
    case lload => exact hk_o_lload X hck g
    case aload => exact hk_o_aload X hck g
    case istore => exact hk_o_istore X hck g
    case lstore => exact hk_o_lstore X hck g
    case astore => exact hk_o_astore X hck g
    case iinc => exact hk_o_iinc X hck g
    case pop => exact hk_o_pop X hck g
    case dup => exact hk_o_dup X hck g
    case iadd => exact hk_o_iadd X hck g
    case isub => exact hk_o_isub X hck g
    case imul => exact hk_o_imul X hck g
    case iand => exact hk_o_iand X hck g
    case ior => exact hk_o_ior X hck g
    case ixor => exact hk_o_ixor X hck g
    case ishl => exact hk_o_ishl X hck g
    case ishr => exact hk_o_ishr X hck g
    case iushr => exact hk_o_iushr X hck g
    case idiv => exact hk_o_idiv X hck g
    case irem => exact hk_o_irem X hck g
    case ineg => exact hk_o_ineg X hck g
    case i2l => exact hk_o_i2l X hck g
    case i2b => exact hk_o_i2b X hck g
    case i2s => exact hk_o_i2s X hck g
    case i2c => exact hk_o_i2c X hck g
    case l2i => exact hk_o_l2i X hck g
    case ladd => exact hk_o_ladd X hck g
    case lsub => exact hk_o_lsub X hck g
    case lmul => exact hk_o_lmul X hck g
    case land => exact hk_o_land X hck g
    case lor => exact hk_o_lor X hck g
    case lcmp => exact hk_o_lcmp X hck g
    case lshl => exact hk_o_lshl X hck g
    case lshr => exact hk_o_lshr X hck g
    case lushr => exact hk_o_lushr X hck g
    case goto => exact hk_o_goto X hck g
    case ifCond => exact hk_o_ifCond X hck g
    case if_icmp => exact hk_o_if_icmp X hck g
    case ifnull => exact hk_o_ifnull X hck g
    case ifnonnull => exact hk_o_ifnonnull X hck g
    case tableswitch => exact hk_o_tableswitch X hck g
    case getstatic => exact hk_o_getstatic X hck g
    case getfield => exact hk_o_getfield X hck g
    case putfield => exact hk_o_putfield X hck g
    case iaload => exact hk_o_iaload X hck g
    case laload => exact hk_o_laload X hck g
    case baload => exact hk_o_baload X hck g
    case aaload => exact hk_o_aaload X hck g
    case iastore => exact hk_o_iastore X hck g
    case lastore => exact hk_o_lastore X hck g
    case bastore => exact hk_o_bastore X hck g
    case aastore => exact hk_o_aastore X hck g
    case arraylength => exact hk_o_arraylength X hck g
    case fadd => exact hk_o_fadd X hck g
    case fsub => exact hk_o_fsub X hck g
    case fneg => exact hk_o_fneg X hck g
    case new => exact hk_o_new X hck g
    case newarray => exact hk_o_newarray X hck g
    case anewarray => exact hk_o_anewarray X hck g
    case invokedynamic => exact hk_o_invokedynamic X hck g
    case invokeinterface => exact hk_o_invokeinterface X hck g
    case invokevirtual => exact hk_o_invokevirtual X hck g
    case invokestatic => exact hk_o_invokestatic X hck g
    case invokespecial => exact hk_o_invokespecial X hck g
    case ireturn => exact hk_o_ireturn hI X hck g
    case return_ => exact hk_o_return_ hV X hck g
    all_goals exact absurd g id
end Snd6
end
section
/-! SOUNDNESS, 7: calls by their depth; the law from its entry -/
def hk_239 : List Nat := [0, 1, 2, 3, 4, 5, 6, 7, 8, 9, 10, 11, 12, 13, 14, 15, 16, 17, 18, 19, 20, 21, 22, 23, 24, 25, 26, 27, 28, 29, 30, 31, 32, 33, 34, 35, 36, 37, 38, 39, 40, 41, 42, 43, 44, 45, 46, 47, 48, 49, 50, 51, 52, 53, 54, 55, 56, 57, 58, 59, 60, 61, 62, 63, 64, 65, 66, 67, 68, 69, 70, 71, 72, 73, 74, 75, 76, 77, 78, 79, 80, 81, 82, 83, 84, 85, 86, 87, 88, 89, 90, 91, 92, 93, 94, 95, 96, 97, 98, 99, 100, 101, 102, 103, 104, 105, 106, 107, 108, 109, 110, 111, 112, 113, 114, 115, 116, 117, 118, 119, 120, 121, 122, 123, 124, 125, 126, 127, 128, 129, 130, 131, 132, 133, 134, 135, 136, 137, 138, 139, 140, 141, 142, 143, 144, 145, 146, 147, 148, 149, 150, 151, 152, 153, 154, 155, 156, 157, 158, 159, 160, 161, 162, 163, 164, 165, 166, 167, 168, 169, 170, 171, 172, 173, 174, 175, 176, 177, 178, 179, 180, 181, 182, 183, 184, 185, 186, 187, 188, 189, 190, 191, 192, 193, 194, 195, 196, 197, 198, 199, 200, 201, 202, 203, 204, 205, 206, 207, 208, 209, 210, 211, 212, 213, 214, 215, 216, 217, 218, 219, 220, 221, 222, 223, 224, 225, 226, 227, 228, 229, 230, 231, 232, 233, 234, 235]
set_option maxRecDepth 100000 in
theorem hk_chs : ∀ M ∈ hk_239, hk_chM M = true := List.forall_mem_cons.mpr ⟨hk_ch0, List.forall_mem_cons.mpr ⟨hk_ch1, List.forall_mem_cons.mpr ⟨hk_ch2, List.forall_mem_cons.mpr ⟨hk_ch3, List.forall_mem_cons.mpr ⟨hk_ch4, List.forall_mem_cons.mpr ⟨hk_ch5, List.forall_mem_cons.mpr ⟨hk_ch6, List.forall_mem_cons.mpr ⟨hk_ch7, List.forall_mem_cons.mpr ⟨hk_ch8, List.forall_mem_cons.mpr ⟨hk_ch9, List.forall_mem_cons.mpr ⟨hk_ch10, List.forall_mem_cons.mpr ⟨hk_ch11, List.forall_mem_cons.mpr ⟨hk_ch12, List.forall_mem_cons.mpr ⟨hk_ch13, List.forall_mem_cons.mpr ⟨hk_ch14, List.forall_mem_cons.mpr ⟨hk_ch15, List.forall_mem_cons.mpr ⟨hk_ch16, List.forall_mem_cons.mpr ⟨hk_ch17, List.forall_mem_cons.mpr ⟨hk_ch18, List.forall_mem_cons.mpr ⟨hk_ch19, List.forall_mem_cons.mpr ⟨hk_ch20, List.forall_mem_cons.mpr ⟨hk_ch21, List.forall_mem_cons.mpr ⟨hk_ch22, List.forall_mem_cons.mpr ⟨hk_ch23, List.forall_mem_cons.mpr ⟨hk_ch24, List.forall_mem_cons.mpr ⟨hk_ch25, List.forall_mem_cons.mpr ⟨hk_ch26, List.forall_mem_cons.mpr ⟨hk_ch27, List.forall_mem_cons.mpr ⟨hk_ch28, List.forall_mem_cons.mpr ⟨hk_ch29, List.forall_mem_cons.mpr ⟨hk_ch30, List.forall_mem_cons.mpr ⟨hk_ch31, List.forall_mem_cons.mpr ⟨hk_ch32, List.forall_mem_cons.mpr ⟨hk_ch33, List.forall_mem_cons.mpr ⟨hk_ch34, List.forall_mem_cons.mpr ⟨hk_ch35, List.forall_mem_cons.mpr ⟨hk_ch36, List.forall_mem_cons.mpr ⟨hk_ch37, List.forall_mem_cons.mpr ⟨hk_ch38, List.forall_mem_cons.mpr ⟨hk_ch39, List.forall_mem_cons.mpr ⟨hk_ch40, List.forall_mem_cons.mpr ⟨hk_ch41, List.forall_mem_cons.mpr ⟨hk_ch42, List.forall_mem_cons.mpr ⟨hk_ch43, List.forall_mem_cons.mpr ⟨hk_ch44, List.forall_mem_cons.mpr ⟨hk_ch45, List.forall_mem_cons.mpr ⟨hk_ch46, List.forall_mem_cons.mpr ⟨hk_ch47, List.forall_mem_cons.mpr ⟨hk_ch48, List.forall_mem_cons.mpr ⟨hk_ch49, List.forall_mem_cons.mpr ⟨hk_ch50, List.forall_mem_cons.mpr ⟨hk_ch51, List.forall_mem_cons.mpr ⟨hk_ch52, List.forall_mem_cons.mpr ⟨hk_ch53, List.forall_mem_cons.mpr ⟨hk_ch54, List.forall_mem_cons.mpr ⟨hk_ch55, List.forall_mem_cons.mpr ⟨hk_ch56, List.forall_mem_cons.mpr ⟨hk_ch57, List.forall_mem_cons.mpr ⟨hk_ch58, List.forall_mem_cons.mpr ⟨hk_ch59, List.forall_mem_cons.mpr ⟨hk_ch60, List.forall_mem_cons.mpr ⟨hk_ch61, List.forall_mem_cons.mpr ⟨hk_ch62, List.forall_mem_cons.mpr ⟨hk_ch63, List.forall_mem_cons.mpr ⟨hk_ch64, List.forall_mem_cons.mpr ⟨hk_ch65, List.forall_mem_cons.mpr ⟨hk_ch66, List.forall_mem_cons.mpr ⟨hk_ch67, List.forall_mem_cons.mpr ⟨hk_ch68, List.forall_mem_cons.mpr ⟨hk_ch69, List.forall_mem_cons.mpr ⟨hk_ch70, List.forall_mem_cons.mpr ⟨hk_ch71, List.forall_mem_cons.mpr ⟨hk_ch72, List.forall_mem_cons.mpr ⟨hk_ch73, List.forall_mem_cons.mpr ⟨hk_ch74, List.forall_mem_cons.mpr ⟨hk_ch75, List.forall_mem_cons.mpr ⟨hk_ch76, List.forall_mem_cons.mpr ⟨hk_ch77, List.forall_mem_cons.mpr ⟨hk_ch78, List.forall_mem_cons.mpr ⟨hk_ch79, List.forall_mem_cons.mpr ⟨hk_ch80, List.forall_mem_cons.mpr ⟨hk_ch81, List.forall_mem_cons.mpr ⟨hk_ch82, List.forall_mem_cons.mpr ⟨hk_ch83, List.forall_mem_cons.mpr ⟨hk_ch84, List.forall_mem_cons.mpr ⟨hk_ch85, List.forall_mem_cons.mpr ⟨hk_ch86, List.forall_mem_cons.mpr ⟨hk_ch87, List.forall_mem_cons.mpr ⟨hk_ch88, List.forall_mem_cons.mpr ⟨hk_ch89, List.forall_mem_cons.mpr ⟨hk_ch90, List.forall_mem_cons.mpr ⟨hk_ch91, List.forall_mem_cons.mpr ⟨hk_ch92, List.forall_mem_cons.mpr ⟨hk_ch93, List.forall_mem_cons.mpr ⟨hk_ch94, List.forall_mem_cons.mpr ⟨hk_ch95, List.forall_mem_cons.mpr ⟨hk_ch96, List.forall_mem_cons.mpr ⟨hk_ch97, List.forall_mem_cons.mpr ⟨hk_ch98, List.forall_mem_cons.mpr ⟨hk_ch99, List.forall_mem_cons.mpr ⟨hk_ch100, List.forall_mem_cons.mpr ⟨hk_ch101, List.forall_mem_cons.mpr ⟨hk_ch102, List.forall_mem_cons.mpr ⟨hk_ch103, List.forall_mem_cons.mpr ⟨hk_ch104, List.forall_mem_cons.mpr ⟨hk_ch105, List.forall_mem_cons.mpr ⟨hk_ch106, List.forall_mem_cons.mpr ⟨hk_ch107, List.forall_mem_cons.mpr ⟨hk_ch108, List.forall_mem_cons.mpr ⟨hk_ch109, List.forall_mem_cons.mpr ⟨hk_ch110, List.forall_mem_cons.mpr ⟨hk_ch111, List.forall_mem_cons.mpr ⟨hk_ch112, List.forall_mem_cons.mpr ⟨hk_ch113, List.forall_mem_cons.mpr ⟨hk_ch114, List.forall_mem_cons.mpr ⟨hk_ch115, List.forall_mem_cons.mpr ⟨hk_ch116, List.forall_mem_cons.mpr ⟨hk_ch117, List.forall_mem_cons.mpr ⟨hk_ch118, List.forall_mem_cons.mpr ⟨hk_ch119, List.forall_mem_cons.mpr ⟨hk_ch120, List.forall_mem_cons.mpr ⟨hk_ch121, List.forall_mem_cons.mpr ⟨hk_ch122, List.forall_mem_cons.mpr ⟨hk_ch123, List.forall_mem_cons.mpr ⟨hk_ch124, List.forall_mem_cons.mpr ⟨hk_ch125, List.forall_mem_cons.mpr ⟨hk_ch126, List.forall_mem_cons.mpr ⟨hk_ch127, List.forall_mem_cons.mpr ⟨hk_ch128, List.forall_mem_cons.mpr ⟨hk_ch129, List.forall_mem_cons.mpr ⟨hk_ch130, List.forall_mem_cons.mpr ⟨hk_ch131, List.forall_mem_cons.mpr ⟨hk_ch132, List.forall_mem_cons.mpr ⟨hk_ch133, List.forall_mem_cons.mpr ⟨hk_ch134, List.forall_mem_cons.mpr ⟨hk_ch135, List.forall_mem_cons.mpr ⟨hk_ch136, List.forall_mem_cons.mpr ⟨hk_ch137, List.forall_mem_cons.mpr ⟨hk_ch138, List.forall_mem_cons.mpr ⟨hk_ch139, List.forall_mem_cons.mpr ⟨hk_ch140, List.forall_mem_cons.mpr ⟨hk_ch141, List.forall_mem_cons.mpr ⟨hk_ch142, List.forall_mem_cons.mpr ⟨hk_ch143, List.forall_mem_cons.mpr ⟨hk_ch144, List.forall_mem_cons.mpr ⟨hk_ch145, List.forall_mem_cons.mpr ⟨hk_ch146, List.forall_mem_cons.mpr ⟨hk_ch147, List.forall_mem_cons.mpr ⟨hk_ch148, List.forall_mem_cons.mpr ⟨hk_ch149, List.forall_mem_cons.mpr ⟨hk_ch150, List.forall_mem_cons.mpr ⟨hk_ch151, List.forall_mem_cons.mpr ⟨hk_ch152, List.forall_mem_cons.mpr ⟨hk_ch153, List.forall_mem_cons.mpr ⟨hk_ch154, List.forall_mem_cons.mpr ⟨hk_ch155, List.forall_mem_cons.mpr ⟨hk_ch156, List.forall_mem_cons.mpr ⟨hk_ch157, List.forall_mem_cons.mpr ⟨hk_ch158, List.forall_mem_cons.mpr ⟨hk_ch159, List.forall_mem_cons.mpr ⟨hk_ch160, List.forall_mem_cons.mpr ⟨hk_ch161, List.forall_mem_cons.mpr ⟨hk_ch162, List.forall_mem_cons.mpr ⟨hk_ch163, List.forall_mem_cons.mpr ⟨hk_ch164, List.forall_mem_cons.mpr ⟨hk_ch165, List.forall_mem_cons.mpr ⟨hk_ch166, List.forall_mem_cons.mpr ⟨hk_ch167, List.forall_mem_cons.mpr ⟨hk_ch168, List.forall_mem_cons.mpr ⟨hk_ch169, List.forall_mem_cons.mpr ⟨hk_ch170, List.forall_mem_cons.mpr ⟨hk_ch171, List.forall_mem_cons.mpr ⟨hk_ch172, List.forall_mem_cons.mpr ⟨hk_ch173, List.forall_mem_cons.mpr ⟨hk_ch174, List.forall_mem_cons.mpr ⟨hk_ch175, List.forall_mem_cons.mpr ⟨hk_ch176, List.forall_mem_cons.mpr ⟨hk_ch177, List.forall_mem_cons.mpr ⟨hk_ch178, List.forall_mem_cons.mpr ⟨hk_ch179, List.forall_mem_cons.mpr ⟨hk_ch180, List.forall_mem_cons.mpr ⟨hk_ch181, List.forall_mem_cons.mpr ⟨hk_ch182, List.forall_mem_cons.mpr ⟨hk_ch183, List.forall_mem_cons.mpr ⟨hk_ch184, List.forall_mem_cons.mpr ⟨hk_ch185, List.forall_mem_cons.mpr ⟨hk_ch186, List.forall_mem_cons.mpr ⟨hk_ch187, List.forall_mem_cons.mpr ⟨hk_ch188, List.forall_mem_cons.mpr ⟨hk_ch189, List.forall_mem_cons.mpr ⟨hk_ch190, List.forall_mem_cons.mpr ⟨hk_ch191, List.forall_mem_cons.mpr ⟨hk_ch192, List.forall_mem_cons.mpr ⟨hk_ch193, List.forall_mem_cons.mpr ⟨hk_ch194, List.forall_mem_cons.mpr ⟨hk_ch195, List.forall_mem_cons.mpr ⟨hk_ch196, List.forall_mem_cons.mpr ⟨hk_ch197, List.forall_mem_cons.mpr ⟨hk_ch198, List.forall_mem_cons.mpr ⟨hk_ch199, List.forall_mem_cons.mpr ⟨hk_ch200, List.forall_mem_cons.mpr ⟨hk_ch201, List.forall_mem_cons.mpr ⟨hk_ch202, List.forall_mem_cons.mpr ⟨hk_ch203, List.forall_mem_cons.mpr ⟨hk_ch204, List.forall_mem_cons.mpr ⟨hk_ch205, List.forall_mem_cons.mpr ⟨hk_ch206, List.forall_mem_cons.mpr ⟨hk_ch207, List.forall_mem_cons.mpr ⟨hk_ch208, List.forall_mem_cons.mpr ⟨hk_ch209, List.forall_mem_cons.mpr ⟨hk_ch210, List.forall_mem_cons.mpr ⟨hk_ch211, List.forall_mem_cons.mpr ⟨hk_ch212, List.forall_mem_cons.mpr ⟨hk_ch213, List.forall_mem_cons.mpr ⟨hk_ch214, List.forall_mem_cons.mpr ⟨hk_ch215, List.forall_mem_cons.mpr ⟨hk_ch216, List.forall_mem_cons.mpr ⟨hk_ch217, List.forall_mem_cons.mpr ⟨hk_ch218, List.forall_mem_cons.mpr ⟨hk_ch219, List.forall_mem_cons.mpr ⟨hk_ch220, List.forall_mem_cons.mpr ⟨hk_ch221, List.forall_mem_cons.mpr ⟨hk_ch222, List.forall_mem_cons.mpr ⟨hk_ch223, List.forall_mem_cons.mpr ⟨hk_ch224, List.forall_mem_cons.mpr ⟨hk_ch225, List.forall_mem_cons.mpr ⟨hk_ch226, List.forall_mem_cons.mpr ⟨hk_ch227, List.forall_mem_cons.mpr ⟨hk_ch228, List.forall_mem_cons.mpr ⟨hk_ch229, List.forall_mem_cons.mpr ⟨hk_ch230, List.forall_mem_cons.mpr ⟨hk_ch231, List.forall_mem_cons.mpr ⟨hk_ch232, List.forall_mem_cons.mpr ⟨hk_ch233, List.forall_mem_cons.mpr ⟨hk_ch234, List.forall_mem_cons.mpr ⟨hk_ch235, fun _ h => absurd h List.not_mem_nil⟩⟩⟩⟩⟩⟩⟩⟩⟩⟩⟩⟩⟩⟩⟩⟩⟩⟩⟩⟩⟩⟩⟩⟩⟩⟩⟩⟩⟩⟩⟩⟩⟩⟩⟩⟩⟩⟩⟩⟩⟩⟩⟩⟩⟩⟩⟩⟩⟩⟩⟩⟩⟩⟩⟩⟩⟩⟩⟩⟩⟩⟩⟩⟩⟩⟩⟩⟩⟩⟩⟩⟩⟩⟩⟩⟩⟩⟩⟩⟩⟩⟩⟩⟩⟩⟩⟩⟩⟩⟩⟩⟩⟩⟩⟩⟩⟩⟩⟩⟩⟩⟩⟩⟩⟩⟩⟩⟩⟩⟩⟩⟩⟩⟩⟩⟩⟩⟩⟩⟩⟩⟩⟩⟩⟩⟩⟩⟩⟩⟩⟩⟩⟩⟩⟩⟩⟩⟩⟩⟩⟩⟩⟩⟩⟩⟩⟩⟩⟩⟩⟩⟩⟩⟩⟩⟩⟩⟩⟩⟩⟩⟩⟩⟩⟩⟩⟩⟩⟩⟩⟩⟩⟩⟩⟩⟩⟩⟩⟩⟩⟩⟩⟩⟩⟩⟩⟩⟩⟩⟩⟩⟩⟩⟩⟩⟩⟩⟩⟩⟩⟩⟩⟩⟩⟩⟩⟩⟩⟩⟩⟩⟩⟩⟩⟩⟩⟩⟩⟩⟩⟩⟩⟩⟩⟩⟩⟩⟩⟩⟩⟩⟩⟩⟩⟩⟩
theorem hk_in239 : ∀ M, M < 236 → M ∈ hk_239 := by decide +kernel
theorem hk_pn0 : plainName "HatFields$Actor" = true := by decide
theorem hk_pn1 : plainName "HatFields$Hat" = true := by decide
theorem hk_pn2 : plainName "HatFields$Person" = true := by decide
theorem hk_pn3 : plainName "HatFields$Plain" = true := by decide
theorem hk_pn4 : plainName "HatFields$Row" = true := by decide
theorem hk_pn5 : plainName "HatFields$Shelf" = true := by decide
theorem hk_pn6 : plainName "HatFields$Tape" = true := by decide
theorem hk_pn7 : plainName "HatFields" = true := by decide
theorem hk_pn8 : plainName "HatFieldsModel" = true := by decide
theorem hk_pn9 : plainName "java/lang/String" = true := by decide
theorem hk_pn10 : plainName "HatFieldsLaw" = true := by decide
theorem hk_pn11 : plainName "java/lang/StringLatin1" = true := by decide
theorem hk_pn12 : plainName "jdk/internal/util/Preconditions" = true := by decide
theorem hk_pn14 : plainName "java/lang/Integer" = true := by decide
theorem hk_mt_o : ∀ M, M < 237 → hk_mo M < 15 ∧ hk_mo M ≠ 13 := by decide +kernel
theorem hk_pn : ∀ t, t < 15 ∧ t ≠ 13 → plainName (hk_cn t) = true
  | 0, _ => hk_pn0
  | 1, _ => hk_pn1
  | 2, _ => hk_pn2
  | 3, _ => hk_pn3
  | 4, _ => hk_pn4
  | 5, _ => hk_pn5
  | 6, _ => hk_pn6
  | 7, _ => hk_pn7
  | 8, _ => hk_pn8
  | 9, _ => hk_pn9
  | 10, _ => hk_pn10
  | 11, _ => hk_pn11
  | 12, _ => hk_pn12
  | 13, h => absurd rfl h.2
  | 14, _ => hk_pn14
  | n + 15, h => absurd h.1 (by omega)
theorem hk_mt_b : ∀ M, M < 237 → (hk_my M).cls = hk_cn (hk_mo M) := by decide +kernel
theorem hk_mt_c : ∀ M, M < 237 → (hk_nth hk_bds M).map (fun e => e.2.2.2.2) = some (hk_ml M) := by decide +kernel
theorem hk_mt_ok (M : Nat) (h : M < 237) : plainName (hk_my M).cls = true ∧ (hk_my M).cls = hk_cn (hk_mo M) ∧ (hk_nth hk_bds M).map (fun e => e.2.2.2.2) = some (hk_ml M) := ⟨by rw [hk_mt_b M h]; exact hk_pn _ (hk_mt_o M h), hk_mt_b M h, hk_mt_c M h⟩
theorem hk_bds_lt : ∀ {M : Nat} {q : hk_Cd × Option FieldType × Nat × Nat × Nat}, hk_nth hk_bds M = some q → M < 237 := by
  have key : ∀ {α : Type} (l : List α) (M : Nat) (q : α), hk_nth l M = some q → M < l.length := by
    intro α l
    induction l with
    | nil => intro M q h; cases h
    | cons a l ih =>
      intro M q h
      cases M with
      | zero => simp
      | succ M => have := ih M q h; simp; omega
  intro M q h
  exact key hk_bds M q h
theorem hk_at_in {cd : hk_Cd} {ip : Nat} {e : hk_In} (h : hk_at cd ip = some e) : ∃ l ∈ cd, e ∈ l := by
  unfold hk_at at h
  split at h
  · cases h
  · rename_i l hl
    exact ⟨l, hk_nth_in hl, hk_nth_in h⟩
theorem hk_chk_all {M : Nat} (hM : M < 237) (ip : Nat) (e : hk_In) (h : hk_at (hk_mc M) ip = some e) : hk_chk (hk_mc M) (hk_mo M) (decide ((hk_my M).name = "<init>")) (hk_ml M) (hk_mb M) e = true := by
  obtain ⟨l, h1, h2⟩ := hk_at_in h
  by_cases h9 : M < 236
  · have h3 := hk_chs M (hk_in239 M h9)
    unfold hk_chM at h3
    rw [Bool.and_eq_true] at h3
    exact List.all_eq_true.mp (List.all_eq_true.mp h3.1 l h1) e h2
  · have e9 : M = 236 := by omega
    subst e9
    exact List.all_eq_true.mp (hk_chLAW l h1) e h2
theorem hk_pc0 {M : Nat} (hM : M < 237) : hk_pc (hk_mc M) 0 = 0 := by
  by_cases h9 : M < 236
  · have h3 := hk_chs M (hk_in239 M h9)
    unfold hk_chM at h3
    rw [Bool.and_eq_true] at h3
    exact Nat.eq_of_beq_eq_true h3.2
  · have e9 : M = 236 := by omega
    subst e9
    rfl
section Snd7
variable {ex : Nat → Nat} {B : Nat} {vX : Value} {H0 : Heap} {dC : Nat → ClassId} {dI : Nat → Nat → Nat}
theorem hk_sl_len (hX : vX = .null ∨ ∃ a, vX = .ref a) : ∀ (vs : List Value), (lg_sl (vs.map (hk_cv ex B vX))).length = hk_cs vs
  | [] => rfl
  | v :: vs => by
    have ih := hk_sl_len hX vs
    unfold lg_sl at ih ⊢
    rw [List.map_cons, List.flatMap_cons, List.length_append, ih, hk_cv_cat hX]
    show _ = v.category + hk_cs vs
    rcases lv_cat v with h | h <;> rw [h] <;> rfl
theorem hk_args_eq (hX : vX = .null ∨ ∃ a, vX = .ref a) : ∀ (vs : List Value) (i : Nat), lv_args i (vs.map (hk_cv ex B vX)) = hk_cvl ex B vX (lv_args i vs)
  | [], _ => rfl
  | v :: vs, i => by
    unfold hk_cvl
    rw [List.map_cons, lv_args, lv_args, List.map_cons, hk_cv_cat hX, hk_args_eq hX vs]
    rfl
set_option maxHeartbeats 4000000 in
theorem hk_sound (l : Launch) : ∀ (d M : Nat) (as : List Value) (h : hk_Hp) (Q : hk_Q), hk_call d M as h Q → hk_Mt l ex B vX H0 dC dI d M as h Q
  | 0, _, _, _, _, g => absurd g id
  | d + 1, M, as, h, Q, g => by
    intro cd rt C S mx hM
    unfold hk_call at g
    rw [hM] at g
    obtain ⟨g1, g2⟩ := hk_bif_1 g
    rw [hk_ent_eq] at g2
    have h240 := hk_bds_lt hM
    obtain ⟨hp1, hp2, hp3⟩ := hk_mt_ok M h240
    rw [hM] at hp3
    have hp3 : mx = hk_ml M := Option.some.inj hp3
    have hmr : hk_mr M = rt := by unfold hk_mr; rw [hM]
    have hmc : hk_mc M = cd := by unfold hk_mc; rw [hM]
    refine Met.ofW (cc := hk_mb M) (maxL := hk_ml M) (ret := hk_mr M) hp1 rfl ?_
    intro p e s m args below meth c s₁ Bd hml hv
    obtain ⟨rfl, henv, hR⟩ := hv
    have hVX := henv.2.2.2.2.2.2
    have hlocks := Bd.notSynchronized
    have hown : s.vm.findClass (hk_cn (hk_mo M)) = some m.cls := by rw [← hp2]; exact findClass_of_methodNamed Bd.named
    have X : hk_Cx p l (hk_rm (d + 1) C S) s m meth c ex B vX H0 dC dI d cd (hk_call d) (hk_mo M) (decide ((hk_my M).name = "<init>")) (hk_ml M) C S (hk_mb M) := by
      refine ⟨Bd.exec, Bd.bytes, hml, hown, henv, fun z => ?_, fun ip e he => ?_, fun M as h Q => hk_sound l d M as h Q, ⟨Nat.le_refl _, Nat.le_refl _, Nat.le_refl _, Nat.le_refl _⟩⟩
      · rw [← of_decide_eq_true z]; exact (name_of_methodNamed Bd.named Bd.method).1
      · rw [← hmc] at he ⊢; exact hk_chk_all h240 ip e he
    have fin : ∀ (r : Option Value) (h1 : hk_Hp) (H : Heap), hk_qe Q r h1 → hk_Rel ex B vX H0 dC dI s H h1 → ∀ t : State, t.heap = H → s.WarmedH t.vm → ∃ r' h', (Outcome.returned (r.map (hk_cv ex B vX))) = .returned (r'.map (hk_cv ex B vX)) ∧ Q r' h' ∧ hk_Rel ex B vX H0 dC dI t t.heap h' := by
      intro r h1 H ⟨h2, hev, hQ⟩ hR1 t ht hW
      exact ⟨r, h2, rfl, hQ, by rw [ht]; exact hk_Rel_moved hW.alike (hk_Rel_ev hR1 hev)⟩
    have hw := g2 _ (hk_close (e := e) (args := (as.map (hk_cv ex B vX)).toArray) (below := below) (Qf := MQ below (fun _ _ o t => ∃ r h', o = .returned (r.map (hk_cv ex B vX)) ∧ Q r h' ∧ hk_Rel ex B vX H0 dC dI t t.heap h') (as.map (hk_cv ex B vX)).toArray s C S (fun q => B ≤ q)) X
      (fun ty v h1 H locs k n la pc hty hQ hnr hR1 hlo hk hn hd => W.widen hk hn (W.zret Bd.exec Bd.bytes (by rw [Bd.returns, hmr]; exact hty) hnr (fin _ h1 H hQ hR1) hlo hd))
      (fun h1 H locs k n la pc hty hQ hR1 hlo hk hn hd => W.widen hk hn (W.vret Bd.exec Bd.bytes (by rw [Bd.returns, hmr]; exact hty) (fin _ h1 H hQ hR1) hlo hd)))
    rw [lg_entry_eq]
    have hlen : (lg_sl (as.map (hk_cv ex B vX))).length ≤ hk_ml M := by rw [hk_sl_len hVX, ← hp3]; exact Nat.le_of_ble_eq_true g1
    have hl := lv_entry (as.map (hk_cv ex B vX)) hlen
    rw [hk_args_eq hVX] at hl
    have := hw s.heap [] _ hl hR (fun q hq => absurd hq List.not_mem_nil) (Nat.zero_le _) (Nat.zero_le _)
    rw [← hmc, hk_pc0 h240] at this
    exact this
end Snd7
end
section
/-! the law, from its entry: what the start gives to the small machine -/
def hk_h0 (X : hk_D) : hk_Hp := (38, fun a => bif Nat.ble a 37 then hk_ext X a else (99, 0, fun _ => .null))
/-- the claim of the law in the small machine -/
def hk_Law : Prop := ∀ X : hk_D, X.2.2.2.2.2.2.1 ≤ 320 → hk_wp (some .boolean) 217 4215 hk_dft hcdLAW (hk_call 60) (fun r _ => r = some (.int 1)) 0 [(0, .ref 0)] [] (hk_h0 X) 0 0
def hk_sby (j : Nat) : List Int32 := match j with
  | 0 => [104, 97, 116]
  | 1 => [112, 105, 110, 110, 101, 100]
  | 2 => [115, 116, 114, 97, 119]
  | 3 => [116, 105, 101, 100]
  | 4 => [102, 101, 97, 116, 104, 101, 114, 101, 100]
  | 5 => [102, 101, 108, 116]
  | 6 => [119, 111, 114, 116, 104]
  | 7 => [111, 102]
  | 8 => [111, 110]
  | 9 => [112, 101, 114, 115, 111, 110]
  | 10 => [115, 112, 101, 101, 100]
  | 11 => [119, 105, 110, 100]
  | 12 => [110, 111, 114, 116, 104]
  | 13 => [101, 97, 115, 116]
  | 14 => [115, 111, 117, 116, 104]
  | 15 => [119, 101, 115, 116]
  | _ => [110, 111, 119]
def hk_six (j : Nat) : Nat := match j with
  | 0 => 122
  | 1 => 124
  | 2 => 126
  | 3 => 128
  | 4 => 130
  | 5 => 132
  | 6 => 88
  | 7 => 102
  | 8 => 110
  | 9 => 51
  | 10 => 82
  | 11 => 63
  | 12 => 134
  | 13 => 136
  | 14 => 138
  | 15 => 140
  | _ => 68
def hk_stx (j : Nat) : String := match j with
  | 0 => "hat"
  | 1 => "pinned"
  | 2 => "straw"
  | 3 => "tied"
  | 4 => "feathered"
  | 5 => "felt"
  | 6 => "worth"
  | 7 => "of"
  | 8 => "on"
  | 9 => "person"
  | 10 => "speed"
  | 11 => "wind"
  | 12 => "north"
  | 13 => "east"
  | 14 => "south"
  | 15 => "west"
  | _ => "now"
theorem hk_nd_eq : ∀ (l : List Int32) (k : Nat), hk_nd l k = l.getD k 0
  | [], _ => rfl
  | a :: l, 0 => rfl
  | a :: l, k + 1 => by
    have := hk_nd_eq l k
    simpa [hk_nd, hk_nth] using this

theorem hk_ext_s : ∀ j, j < 17 → ∀ X, hk_ext X (4 + j) = (9, 2, fun k => match k with | 0 => .ref (21 + j) | _ => .int 0)
  | 0, _ => fun _ => rfl
  | 1, _ => fun _ => rfl
  | 2, _ => fun _ => rfl
  | 3, _ => fun _ => rfl
  | 4, _ => fun _ => rfl
  | 5, _ => fun _ => rfl
  | 6, _ => fun _ => rfl
  | 7, _ => fun _ => rfl
  | 8, _ => fun _ => rfl
  | 9, _ => fun _ => rfl
  | 10, _ => fun _ => rfl
  | 11, _ => fun _ => rfl
  | 12, _ => fun _ => rfl
  | 13, _ => fun _ => rfl
  | 14, _ => fun _ => rfl
  | 15, _ => fun _ => rfl
  | 16, _ => fun _ => rfl
  | j + 17, h => absurd h (by omega)
theorem hk_ext_b : ∀ j, j < 17 → ∀ X, hk_ext X (21 + j) = (12, (hk_sby j).length, fun k => .int (hk_nd (hk_sby j) k))
  | 0, _ => fun _ => rfl
  | 1, _ => fun _ => rfl
  | 2, _ => fun _ => rfl
  | 3, _ => fun _ => rfl
  | 4, _ => fun _ => rfl
  | 5, _ => fun _ => rfl
  | 6, _ => fun _ => rfl
  | 7, _ => fun _ => rfl
  | 8, _ => fun _ => rfl
  | 9, _ => fun _ => rfl
  | 10, _ => fun _ => rfl
  | 11, _ => fun _ => rfl
  | 12, _ => fun _ => rfl
  | 13, _ => fun _ => rfl
  | 14, _ => fun _ => rfl
  | 15, _ => fun _ => rfl
  | 16, _ => fun _ => rfl
  | j + 17, h => absurd h (by omega)
theorem hk_sL_eq : ∀ e ∈ hk_sL, ∃ j, j < 17 ∧ e.1 = 6 ∧ e.2.1 = hk_six j ∧ e.2.2.1 = 4 + j ∧ e.2.2.2.1 = hk_stx j := by decide +kernel
def hk_st (j : Nat) : Term := .string "HatFields$Tape" (hk_six j)
def hk_atoms (j : Nat) : List Cond := [.exactly (hk_st j) "java/lang/String", .eq (.field (hk_st j) "java/lang/String" "coder" "B") (.int 0), .arrayOf (.field (hk_st j) "java/lang/String" "value" "[B") .byte, .eq (.length (.field (hk_st j) "java/lang/String" "value" "[B")) (.int (Int32.ofNat (hk_sby j).length))] ++ (List.range (hk_sby j).length).map (fun k => .eq (.elem (.field (hk_st j) "java/lang/String" "value" "[B") (.int (Int32.ofNat k))) (.int ((hk_sby j).getD k 0)))
def hk_flat : List Cond := flatC (Jvm.Cond.and given_1 narrow_1)
set_option maxRecDepth 100000 in
theorem hk_at0 : ∀ c ∈ hk_atoms 0, c ∈ hk_flat := by decide +kernel
set_option maxRecDepth 100000 in
theorem hk_at1 : ∀ c ∈ hk_atoms 1, c ∈ hk_flat := by decide +kernel
set_option maxRecDepth 100000 in
theorem hk_at2 : ∀ c ∈ hk_atoms 2, c ∈ hk_flat := by decide +kernel
set_option maxRecDepth 100000 in
theorem hk_at3 : ∀ c ∈ hk_atoms 3, c ∈ hk_flat := by decide +kernel
set_option maxRecDepth 100000 in
theorem hk_at4 : ∀ c ∈ hk_atoms 4, c ∈ hk_flat := by decide +kernel
set_option maxRecDepth 100000 in
theorem hk_at5 : ∀ c ∈ hk_atoms 5, c ∈ hk_flat := by decide +kernel
set_option maxRecDepth 100000 in
theorem hk_at6 : ∀ c ∈ hk_atoms 6, c ∈ hk_flat := by decide +kernel
set_option maxRecDepth 100000 in
theorem hk_at7 : ∀ c ∈ hk_atoms 7, c ∈ hk_flat := by decide +kernel
set_option maxRecDepth 100000 in
theorem hk_at8 : ∀ c ∈ hk_atoms 8, c ∈ hk_flat := by decide +kernel
set_option maxRecDepth 100000 in
theorem hk_at9 : ∀ c ∈ hk_atoms 9, c ∈ hk_flat := by decide +kernel
set_option maxRecDepth 100000 in
theorem hk_at10 : ∀ c ∈ hk_atoms 10, c ∈ hk_flat := by decide +kernel
set_option maxRecDepth 100000 in
theorem hk_at11 : ∀ c ∈ hk_atoms 11, c ∈ hk_flat := by decide +kernel
set_option maxRecDepth 100000 in
theorem hk_at12 : ∀ c ∈ hk_atoms 12, c ∈ hk_flat := by decide +kernel
set_option maxRecDepth 100000 in
theorem hk_at13 : ∀ c ∈ hk_atoms 13, c ∈ hk_flat := by decide +kernel
set_option maxRecDepth 100000 in
theorem hk_at14 : ∀ c ∈ hk_atoms 14, c ∈ hk_flat := by decide +kernel
set_option maxRecDepth 100000 in
theorem hk_at15 : ∀ c ∈ hk_atoms 15, c ∈ hk_flat := by decide +kernel
set_option maxRecDepth 100000 in
theorem hk_at16 : ∀ c ∈ hk_atoms 16, c ∈ hk_flat := by decide +kernel
theorem hk_ats : ∀ j, j < 17 → ∀ c ∈ hk_atoms j, c ∈ hk_flat
  | 0, _ => hk_at0
  | 1, _ => hk_at1
  | 2, _ => hk_at2
  | 3, _ => hk_at3
  | 4, _ => hk_at4
  | 5, _ => hk_at5
  | 6, _ => hk_at6
  | 7, _ => hk_at7
  | 8, _ => hk_at8
  | 9, _ => hk_at9
  | 10, _ => hk_at10
  | 11, _ => hk_at11
  | 12, _ => hk_at12
  | 13, _ => hk_at13
  | 14, _ => hk_at14
  | 15, _ => hk_at15
  | 16, _ => hk_at16
  | j + 17, h => absurd h (by omega)
def hk_tabs (C n : String) (l : List Int32) : List Cond := [.arrayOf (.static C n "[I") .int, .eq (.length (.static C n "[I")) (.int (Int32.ofNat l.length))] ++ (List.range l.length).map (fun k => .eq (.elem (.static C n "[I") (.int (Int32.ofNat k))) (.int (l.getD k 0)))
def hk_above : List Int32 := [0, 0, 0, 1, 2, 0]
def hk_bodies : List Int32 := [10, 11, 12, 13, 10, 20, 12, 13, 30, 11, 12, 31, 51, 20, 50, 13, 40, 41, 12, 31, 10, 11, 61, 60]
set_option maxRecDepth 100000 in
theorem hk_tabA : ∀ c ∈ hk_tabs "HatFields$Hat" "ABOVE" hk_above, c ∈ hk_flat := by decide +kernel
set_option maxRecDepth 100000 in
theorem hk_tabB : ∀ c ∈ hk_tabs "HatFields$Actor" "BODIES" hk_bodies, c ∈ hk_flat := by decide +kernel
theorem hk_tabC : Cond.eq (.static "java/lang/String" "COMPACT_STRINGS" "Z") (.int 1) ∈ hk_flat ∧ Cond.isRef (.static "jdk/internal/util/Preconditions" "SIOOBE_FORMATTER" "Ljava/util/function/BiFunction;") ∈ hk_flat := by decide +kernel
theorem hk_ls0 : Cond.laysStatic "HatFields$Hat" "ABOVE" "[I" ∈ lw_tbl := hk_tb_in (k := 4) (hk_nth_in (n := 24) rfl)
theorem hk_li0 : Cond.initialized "HatFields$Hat" ∈ lw_tbl := hk_tb_in (k := 1) (hk_nth_in (n := 4) rfl)
theorem hk_ls1 : Cond.laysStatic "HatFields$Actor" "BODIES" "[I" ∈ lw_tbl := hk_tb_in (k := 4) (hk_nth_in (n := 42) rfl)
theorem hk_li1 : Cond.initialized "HatFields$Actor" ∈ lw_tbl := hk_tb_in (k := 1) (hk_nth_in (n := 6) rfl)
theorem hk_ls2 : Cond.laysStatic "java/lang/String" "COMPACT_STRINGS" "Z" ∈ lw_tbl := hk_tb_in (k := 2) (hk_nth_in (n := 46) rfl)
theorem hk_li2 : Cond.initialized "java/lang/String" ∈ lw_tbl := hk_tb_in (k := 1) (hk_nth_in (n := 9) rfl)
theorem hk_ls3 : Cond.laysStatic "jdk/internal/util/Preconditions" "SIOOBE_FORMATTER" "Ljava/util/function/BiFunction;" ∈ lw_tbl := hk_tb_in (k := 2) (hk_nth_in (n := 62) rfl)
theorem hk_li3 : Cond.initialized "jdk/internal/util/Preconditions" ∈ lw_tbl := hk_tb_in (k := 1) (hk_nth_in (n := 11) rfl)
theorem hk_ins : ∀ t, t < 9 → ∃ nn, Cond.instantiable (hk_cn t) nn ∈ lw_tbl
  | 0, _ => ⟨6, hk_tb_in (k := 1) (hk_nth_in (n := 147) rfl)⟩
  | 1, _ => ⟨5, hk_tb_in (k := 1) (hk_nth_in (n := 52) rfl)⟩
  | 2, _ => ⟨2, hk_tb_in (k := 1) (hk_nth_in (n := 35) rfl)⟩
  | 3, _ => ⟨7, hk_tb_in (k := 1) (hk_nth_in (n := 26) rfl)⟩
  | 4, _ => ⟨2, hk_tb_in (k := 3) (hk_nth_in (n := 217) rfl)⟩
  | 5, _ => ⟨2, hk_tb_in (k := 1) (hk_nth_in (n := 173) rfl)⟩
  | 6, _ => ⟨6, hk_tb_in (k := 1) (hk_nth_in (n := 116) rfl)⟩
  | 7, _ => ⟨12, hk_tb_in (k := 1) (hk_nth_in (n := 18) rfl)⟩
  | 8, _ => ⟨51, hk_tb_in (k := 4) (hk_nth_in (n := 74) rfl)⟩
  | t + 9, h => absurd h (by omega)
theorem hk_srf : ∀ j, j < 17 → Cond.stringRef "HatFields$Tape" (hk_six j) (hk_stx j) ∈ lw_tbl
  | 0, _ => hk_tb_in (k := 2) (hk_nth_in (n := 32) rfl)
  | 1, _ => hk_tb_in (k := 2) (hk_nth_in (n := 85) rfl)
  | 2, _ => hk_tb_in (k := 2) (hk_nth_in (n := 86) rfl)
  | 3, _ => hk_tb_in (k := 2) (hk_nth_in (n := 87) rfl)
  | 4, _ => hk_tb_in (k := 2) (hk_nth_in (n := 88) rfl)
  | 5, _ => hk_tb_in (k := 2) (hk_nth_in (n := 89) rfl)
  | 6, _ => hk_tb_in (k := 2) (hk_nth_in (n := 102) rfl)
  | 7, _ => hk_tb_in (k := 2) (hk_nth_in (n := 115) rfl)
  | 8, _ => hk_tb_in (k := 2) (hk_nth_in (n := 120) rfl)
  | 9, _ => hk_tb_in (k := 2) (hk_nth_in (n := 129) rfl)
  | 10, _ => hk_tb_in (k := 2) (hk_nth_in (n := 134) rfl)
  | 11, _ => hk_tb_in (k := 2) (hk_nth_in (n := 139) rfl)
  | 12, _ => hk_tb_in (k := 2) (hk_nth_in (n := 148) rfl)
  | 13, _ => hk_tb_in (k := 2) (hk_nth_in (n := 149) rfl)
  | 14, _ => hk_tb_in (k := 2) (hk_nth_in (n := 150) rfl)
  | 15, _ => hk_tb_in (k := 2) (hk_nth_in (n := 151) rfl)
  | 16, _ => hk_tb_in (k := 2) (hk_nth_in (n := 153) rfl)
  | j + 17, h => absurd h (by omega)
section Law0
variable {s : State} {args : Array Value}
/-- a table of ints that nobody writes -/
theorem hk_tab1 {C n : String} {l : List Int32} (hN : l.length < 2 ^ 31) (hfl : ∀ c ∈ hk_flat, c.before args s = true) (ht : ∀ c ∈ hk_tabs C n l, c ∈ hk_flat) (hl : (Cond.laysStatic C n "[I").before args s = true) (hi : (Cond.initialized C).before args s = true) :
    ∃ t : Nat, va_Z C n "[I" (.ref t) (fun q => s.heap.size ≤ q) s s.heap ∧ va_T .int t l.length (fun k => .int (hk_nd l k)) (fun q => s.heap.size ≤ q) s s.heap := by
  have hA : ∀ a : Nat, a < s.heap.size → ¬ (fun q : Nat => s.heap.size ≤ q) a := fun a h => Nat.not_le.mpr h
  have h1 := hfl _ (ht (.arrayOf (.static C n "[I") .int) (by simp [hk_tabs]))
  have h2 := hfl _ (ht (.eq (.length (.static C n "[I")) (.int (Int32.ofNat l.length))) (by simp [hk_tabs]))
  have h3 : ∀ k, k < l.length → (Cond.eq (.elem (.static C n "[I") (.int (Int32.ofNat k))) (.int (l.getD k 0))).before args s = true := fun k hk => hfl _ (ht _ (by
    unfold hk_tabs
    exact List.mem_append_right _ (List.mem_map.mpr ⟨k, List.mem_range.mpr hk, rfl⟩)))
  obtain ⟨t, g1, g2⟩ := va_Tof (A := fun q => s.heap.size ≤ q) (f := fun k => .int (hk_nd l k)) hN h1 (va_eqt h2) (fun j hj => by rw [hk_nd_eq]; exact va_eqt (h3 j hj)) hA
  exact ⟨t, va_Zref hl hi g1 hA, g2⟩
/-- a text constant -/
theorem hk_str1 {j : Nat} (hj : j < 17) (hfl : ∀ c ∈ hk_flat, c.before args s = true) (hw : (Cond.stringRef "HatFields$Tape" (hk_six j) (hk_stx j)).before args s = true) :
    ∃ q : Nat × Nat, vk_R "HatFields$Tape" (hk_six j) (hk_stx j) q.1 s ∧ va_O "java/lang/String" q.1 (fun q => s.heap.size ≤ q) s s.heap ∧ va_OF "java/lang/String" "coder" "B" (.int 0) q.1 (fun q => s.heap.size ≤ q) s s.heap ∧ va_OF "java/lang/String" "value" "[B" (.ref q.2) q.1 (fun q => s.heap.size ≤ q) s s.heap ∧ va_T .byte q.2 (hk_sby j).length (fun k => .int (hk_nd (hk_sby j) k)) (fun q => s.heap.size ≤ q) s s.heap := by
  have hA : ∀ a : Nat, a < s.heap.size → ¬ (fun q : Nat => s.heap.size ≤ q) a := fun a h => Nat.not_le.mpr h
  have ha := hk_ats j hj
  have h1 := hfl _ (ha (.exactly (hk_st j) "java/lang/String") (by simp [hk_atoms]))
  have h2 := hfl _ (ha (.eq (.field (hk_st j) "java/lang/String" "coder" "B") (.int 0)) (by simp [hk_atoms]))
  have h3 := hfl _ (ha (.arrayOf (.field (hk_st j) "java/lang/String" "value" "[B") .byte) (by simp [hk_atoms]))
  have h4 := hfl _ (ha (.eq (.length (.field (hk_st j) "java/lang/String" "value" "[B")) (.int (Int32.ofNat (hk_sby j).length))) (by simp [hk_atoms]))
  have h5 : ∀ k, k < (hk_sby j).length → (Cond.eq (.elem (.field (hk_st j) "java/lang/String" "value" "[B") (.int (Int32.ofNat k))) (.int ((hk_sby j).getD k 0))).before args s = true := fun k hk => hfl _ (ha _ (by
    unfold hk_atoms
    exact List.mem_append_right _ (List.mem_map.mpr ⟨k, List.mem_range.mpr hk, rfl⟩)))
  have hlen : (hk_sby j).length < 2 ^ 31 := by
    have : ∀ j, j < 17 → (hk_sby j).length < 20 := by decide +kernel
    have := this j hj
    omega
  obtain ⟨adK, adV, hS, hv⟩ := vk_Sof (args := args) (s := s) (N := 1) (tm := fun _ => hk_st j) (len := [(hk_sby j).length]) (byt := [hk_sby j]) (A := fun q => s.heap.size ≤ q) (fun i hi => by rw [show i = 0 by omega]; exact hlen) (fun _ _ => h1) (fun _ _ => h2) (fun _ _ => h3) (fun i hi => by rw [show i = 0 by omega]; exact h4) (fun i hi k hk => by rw [show i = 0 by omega] at hk ⊢; exact h5 k hk) (fun i k hi hk hne => absurd (show i = k by omega) hne) hA
  obtain ⟨g1, g2, g3, g4⟩ := hS.1 0 (by omega)
  have hev := hv 0 (by omega)
  refine ⟨(adK 0, adV 0), ?_, g1, g2, g3, ?_⟩
  · refine ⟨?_, ?_⟩
    · have h0 := hw
      simp only [Cond.before, Cond.holds, Cond.value] at h0 ⊢
      exact h0
    · rw [Term.string_eval_of_vm (args := #[]) (rfl : s.vm = s.vm)]
      exact hev
  · have e : (fun k => Value.int (hk_nd (hk_sby j) k)) = fun k => Value.int (([hk_sby j].getD 0 []).getD k 0) := by
      funext k
      rw [hk_nd_eq]; rfl
    rw [e]
    exact g4
end Law0
end
section
/-! whole_start out of the law in the small machine -/
theorem hk_any_args {s : State} {w : Cond} {A : Array Value} (hg : hk_good w = true) (h0 : w.before A s = true) (a : Array Value) : w.before a s = true := by
  unfold hk_good at hg
  split at hg
  · exact va_Nw.use rfl (va_Nw.of rfl h0)
  · simp only [Cond.before, Cond.holds, Cond.value] at h0 ⊢
    exact h0
  · exact va_AO.use (va_AO.of h0)
  · exact word_at (State.WarmedH.refl s) (good_of_word hg) h0
def hk_exf (b tA tB : Nat) (f : Nat → Nat × Nat) (k : Nat) : Nat := if k = 0 then b else if k = 1 then tA else if k = 2 then tB else if k = 3 then b else if k < 21 then (f (k - 4)).1 else (f (k - 21)).2
theorem hk_exf_s {b tA tB : Nat} {f : Nat → Nat × Nat} {j : Nat} (hj : j < 17) : hk_exf b tA tB f (4 + j) = (f j).1 := by
  unfold hk_exf
  rw [if_neg (by omega), if_neg (by omega), if_neg (by omega), if_neg (by omega), if_pos (by omega)]
  congr 2; omega
theorem hk_exf_b {b tA tB : Nat} {f : Nat → Nat × Nat} {j : Nat} : hk_exf b tA tB f (21 + j) = (f j).2 := by
  unfold hk_exf
  rw [if_neg (by omega), if_neg (by omega), if_neg (by omega), if_neg (by omega), if_neg (by omega)]
  congr 2; omega
theorem hk_T_lt {ty : FieldType} {t N : Nat} {f : Nat → Value} {A : Nat → Prop} {U : State} {H : Heap} (h : va_T ty t N f A U H) : t < H.size := by
  obtain ⟨cell, h1, -⟩ := h
  exact (Array.getElem?_eq_some_iff.mp h1).1
theorem hk_O_lt {E : String} {t : Nat} {A : Nat → Prop} {U : State} {H : Heap} (h : va_O E t A U H) : t < H.size := by
  obtain ⟨cell, h1, -⟩ := h
  exact (Array.getElem?_eq_some_iff.mp h1).1
/-- a table of the start, as a cell of the small heap -/
theorem hk_ok_T {ex : Nat → Nat} {B : Nat} {vX : Value} {dC : Nat → ClassId} {dI : Nat → Nat → Nat} {s : State} {H : Heap} {k t n : Nat} {ty : FieldType} {f : Nat → Int32} (ht : (t = 10 ∧ ty = .int) ∨ (t = 12 ∧ ty = .byte)) (hk : k < 38) {A : Nat → Prop} (h : va_T ty (ex k) n (fun j => .int (f j)) A s H) : hk_ok ex B vX dC dI s H k (t, n, fun j => .int (f j)) := by
  have h1 : 10 ≤ t ∧ t ≤ 12 ∧ hk_aty t = ty := by rcases ht with ⟨rfl, rfl⟩ | ⟨rfl, rfl⟩ <;> exact ⟨by decide, by decide, rfl⟩
  refine ⟨fun q => ?_, fun q => ?_, fun _ _ _ => ?_, fun _ _ q => ?_⟩
  · dsimp only at q; omega
  · dsimp only at q; omega
  · obtain ⟨cell, g1, g2, g3, g4, g5, g6, -⟩ := h
    rw [hk_ad_lt hk]
    dsimp only
    rw [h1.2.2]
    exact ⟨cell, g1, g2, g3, g4, g5, fun j hj => g6 j hj⟩
  · omega
set_option maxHeartbeats 4000000 in
theorem whole_start_of (hlaw : hk_Law) {p : Program} {e : Env} {s : State} {m : MethodId} {below : List Frame} {meth : Method} {c : Code} (l : Launch) (hflags : l.flags = flags0) {b L : Nat} {xs : Nat → Int32} (hL : L ≤ 320) (C0 : lw_At p s m meth c b L xs) : W p l e room_1 s m #[Value.ref b] below meth c s.heap [] 0 0 (lw_Z below #[Value.ref b] s) (entryFrame m ([Value.ref b] : List Value).toArray 4) := by
  obtain ⟨hx, hb, hr, hml, hown, hts, hX, hbl, hlocks, hgv⟩ := C0
  have hfl : ∀ c ∈ hk_flat, c.before #[Value.ref b] s = true := flat_of_before _ hgv
  have hA : ∀ a : Nat, a < s.heap.size → ¬ (fun q : Nat => s.heap.size ≤ q) a := fun a h => Nat.not_le.mpr h
  -- classes
  have hcl : ∀ t, ∃ q : ClassId × (Nat → Nat), t < 9 → u_Kn s (hk_cn t) (hk_T t) (hk_nf t) q.1 q.2 := by
    intro t
    by_cases h9 : t < 9
    · obtain ⟨nn, hn⟩ := hk_ins t h9
      obtain ⟨cC, iS, h⟩ := u_known (C := hk_cn t) (T := hk_T t) (N := hk_nf t) (n := nn) hts (fun w hw => (hk_lay0 t h9 w hw).1) (hts _ hn)
      exact ⟨(cC, iS), fun _ => h⟩
    · exact ⟨(0, fun _ => 0), fun h => absurd h h9⟩
  -- tables and texts
  obtain ⟨tA, zA, vA⟩ := hk_tab1 (l := hk_above) (by decide) hfl hk_tabA (hts _ hk_ls0) (hts _ hk_li0)
  obtain ⟨tB, zB, vB⟩ := hk_tab1 (l := hk_bodies) (by decide) hfl hk_tabB (hts _ hk_ls1) (hts _ hk_li1)
  have zC := va_Zof (A := fun q => s.heap.size ≤ q) (hts _ hk_ls2) (hts _ hk_li2) (va_eqi (hfl _ hk_tabC.1)) hA
  have zD := va_Zqof (A := fun q => s.heap.size ≤ q) (hts _ hk_ls3) (hts _ hk_li3) (hfl _ hk_tabC.2) hA
  have hst : ∀ j, ∃ q : Nat × Nat, j < 17 → vk_R "HatFields$Tape" (hk_six j) (hk_stx j) q.1 s ∧ va_O "java/lang/String" q.1 (fun q => s.heap.size ≤ q) s s.heap ∧ va_OF "java/lang/String" "coder" "B" (.int 0) q.1 (fun q => s.heap.size ≤ q) s s.heap ∧ va_OF "java/lang/String" "value" "[B" (.ref q.2) q.1 (fun q => s.heap.size ≤ q) s s.heap ∧ va_T .byte q.2 (hk_sby j).length (fun k => .int (hk_nd (hk_sby j) k)) (fun q => s.heap.size ≤ q) s s.heap := by
    intro j
    by_cases hj : j < 17
    · obtain ⟨q, h⟩ := hk_str1 (args := #[Value.ref b]) hj hfl (hts _ (hk_srf j hj))
      exact ⟨q, fun _ => h⟩
    · exact ⟨(0, 0), fun h => absurd h hj⟩
  obtain ⟨vX, hvX, zE⟩ : ∃ vX : Value, (vX = .null ∨ ∃ a, vX = .ref a) ∧ va_Z "jdk/internal/util/Preconditions" "SIOOBE_FORMATTER" "Ljava/util/function/BiFunction;" vX (fun q => s.heap.size ≤ q) s s.heap := by
    rcases zD with z | ⟨t, z⟩
    · exact ⟨.null, Or.inl rfl, z⟩
    · exact ⟨.ref t, Or.inr ⟨t, rfl⟩, z⟩
  let f : Nat → Nat × Nat := fun j => Classical.choose (hst j)
  have hf : ∀ j, j < 17 → _ := fun j => Classical.choose_spec (hst j)
  let dC : Nat → ClassId := fun t => (Classical.choose (hcl t)).1
  let dI : Nat → Nat → Nat := fun t => (Classical.choose (hcl t)).2
  have hK : ∀ t, t < 9 → u_Kn s (hk_cn t) (hk_T t) (hk_nf t) (dC t) (dI t) := fun t => Classical.choose_spec (hcl t)
  let ex := hk_exf b tA tB f
  have hex : ∀ k, k < 38 → ex k < s.heap.size := by
    intro k hk
    by_cases h0 : k = 0
    · subst h0; exact hbl
    by_cases h1 : k = 1
    · subst h1; exact hk_T_lt vA
    by_cases h2 : k = 2
    · subst h2; exact hk_T_lt vB
    by_cases h3 : k = 3
    · subst h3; exact hbl
    by_cases h4 : k < 21
    · have e1 : k = 4 + (k - 4) := by omega
      rw [e1]
      show hk_exf b tA tB f _ < _
      rw [hk_exf_s (by omega)]
      exact hk_O_lt (hf (k - 4) (by omega)).2.1
    · have e1 : k = 21 + (k - 21) := by omega
      rw [e1]
      show hk_exf b tA tB f _ < _
      rw [hk_exf_b]
      exact hk_T_lt (hf (k - 21) (by omega)).2.2.2.2
  have henv : hk_Env ex s.heap.size vX s.heap dC dI s := by
    refine ⟨fun w hw hg a => hk_any_args hg (hts w hw) a, hK, fun a ha => ?_, fun q hq => ?_, rfl, hex, hvX⟩
    · match a, ha with
      | 0, _ => exact zA
      | 1, _ => exact zB
      | 2, _ => exact zC
      | 3, _ => exact zE
      | a + 4, h => exact absurd h (by omega)
    · obtain ⟨j, hj, e1, e2, e3, e4⟩ := hk_sL_eq q hq
      rw [e1, e2, e3, e4]
      show vk_R "HatFields$Tape" (hk_six j) (hk_stx j) (hk_exf b tA tB f (4 + j)) s
      rw [hk_exf_s hj]
      exact (hf j hj).1
  let X : hk_D := (0, fun _ => 0, 0, fun _ => 0, fun _ => none, fun _ => none, L, xs)
  have hRel : hk_Rel ex s.heap.size vX s.heap dC dI s s.heap (hk_h0 X) := by
    refine ⟨rfl, Nat.le_refl _, fun _ _ => rfl, fun k => ?_⟩
    by_cases hk : k < 38
    · have e0 : (hk_h0 X).2 k = hk_ext X k := by
        show (bif Nat.ble k 37 then hk_ext X k else _) = _
        rw [show Nat.ble k 37 = true from Nat.ble_eq_true_of_le (by omega)]; rfl
      rw [e0]
      by_cases h0 : k = 0
      · subst h0
        refine ⟨fun q => absurd (show (10 : Nat) < 9 from q) (by decide), fun q => absurd (show (10 : Nat) = 9 from q) (by decide), fun _ _ _ => ?_, fun _ _ q => absurd q (by decide)⟩
        obtain ⟨scr, q1, q2, q3, q4, q5⟩ := hX
        exact ⟨scr, q1, q2, q3, by rw [q4]; exact Nat.le_refl _, by rw [q4]; rfl, q5⟩
      by_cases h1 : k = 1
      · subst h1; exact hk_ok_T (ty := .int) (Or.inl ⟨rfl, rfl⟩) (by decide) vA
      by_cases h2 : k = 2
      · subst h2; exact hk_ok_T (ty := .int) (Or.inl ⟨rfl, rfl⟩) (by decide) vB
      by_cases h3 : k = 3
      · subst h3
        exact ⟨fun q => absurd (show (99 : Nat) < 9 from q) (by decide), fun q => absurd (show (99 : Nat) = 9 from q) (by decide), fun _ q => absurd (show (99 : Nat) ≤ 12 from q) (by decide), fun _ q => absurd (show (99 : Nat) ≤ 16 from q) (by decide)⟩
      by_cases h4 : k < 21
      · have e1 : k = 4 + (k - 4) := by omega
        generalize k - 4 = j at e1
        subst e1
        have hj : j < 17 := by omega
        rw [hk_ext_s j hj]
        obtain ⟨-, g1, g2, g3, -⟩ := hf j hj
        have ea : hk_ad ex s.heap.size (4 + j) = (f j).1 := by rw [hk_ad_lt hk]; exact hk_exf_s hj
        refine ⟨fun q => absurd (show (9 : Nat) < 9 from q) (by decide), fun _ => ⟨Nat.le_refl 2, by rw [ea]; exact g1, fun i hi => ?_⟩, fun q => absurd (show 10 ≤ (9 : Nat) from q) (by decide), fun q => absurd (show 10 ≤ (9 : Nat) from q) (by decide)⟩
        rw [ea]
        match i, hi with
        | 0, _ =>
          have e2 : hk_cv ex s.heap.size vX (.ref (21 + j)) = .ref (f j).2 := by
            show Value.ref (hk_ad ex s.heap.size (21 + j)) = _
            rw [hk_ad_lt (by omega)]
            show Value.ref (hk_exf b tA tB f (21 + j)) = _
            rw [hk_exf_b]
          show va_OF "java/lang/String" "value" "[B" (hk_cv ex s.heap.size vX (.ref (21 + j))) (f j).1 _ s s.heap
          rw [e2]
          exact g3
        | 1, _ => exact g2
        | i + 2, h => exact absurd h (by omega)
      · have e1 : k = 21 + (k - 21) := by omega
        generalize k - 21 = j at e1
        subst e1
        have hj : j < 17 := by omega
        rw [hk_ext_b j hj]
        refine hk_ok_T (ty := .byte) (Or.inr ⟨rfl, rfl⟩) hk ?_ (A := fun q => s.heap.size ≤ q)
        show va_T .byte (hk_exf b tA tB f (21 + j)) _ _ _ s s.heap
        rw [hk_exf_b]
        exact (hf j hj).2.2.2.2
    · have e0 : (hk_h0 X).2 k = (99, 0, fun _ => .null) := by
        show (bif Nat.ble k 37 then hk_ext X k else _) = _
        have : Nat.ble k 37 = false := by
          cases hq : Nat.ble k 37
          · rfl
          · exact absurd (Nat.le_of_ble_eq_true hq) (by omega)
        rw [this]; rfl
      rw [e0]
      exact ⟨fun q => absurd q (by decide), fun q => absurd q (by decide), fun _ q => absurd q (by decide), fun _ q => absurd q (by decide)⟩
  have XX : hk_Cx p l room_1 s m meth c ex s.heap.size vX s.heap dC dI 60 hcdLAW (hk_call 60) 10 false 4 217 4215 code := by
    refine ⟨hx, hb, hml, hown, henv, fun z => absurd z (by decide), fun ip en he => ?_, fun M as h Q => hk_sound l 60 M as h Q, by decide, by decide, by decide, by decide⟩
    obtain ⟨lst, h1, h2⟩ := hk_at_in he
    exact List.all_eq_true.mp (hk_chLAW lst h1) en h2
  have hw := hlaw X hL _ (hk_close (e := e) (args := #[Value.ref b]) (below := below) (Qf := lw_Z below #[Value.ref b] s) XX
    (fun ty v h1 H locs k n la pc hty hQ hnr hR1 hlo hk hn hd => by
      have hv : v = 1 := by
        have := Option.some.inj hQ
        exact Value.int.inj this
      subst hv
      refine va_forget (fun q hq => hlo q hq) ?_
      refine W.widen (k := 600000) (n := 7302250) (by omega) (by omega) ?_
      exact lw_ret hx hb hr hlocks hd)
    (fun h1 H locs k n la pc hty hQ hR1 hlo hk hn hd => absurd hty (by decide)))
  rw [lg_entry_eq]
  have hl := lv_entry ([Value.ref b]) (n := 4) (Nat.le_of_ble_eq_true rfl)
  exact hw s.heap [] _ hl hRel (fun q hq => absurd hq List.not_mem_nil) (Nat.zero_le _) (Nat.zero_le _)
end
section
/-! names of the code tables -/
abbrev cC_init : hk_Cd := hcd0
abbrev cP_init : hk_Cd := hcd1
abbrev cN_init : hk_Cd := hcd2
abbrev cH_init : hk_Cd := hcd3
abbrev cT_init : hk_Cd := hcd4
abbrev cA_init : hk_Cd := hcd5
abbrev cS_init : hk_Cd := hcd6
abbrev cC_feed : hk_Cd := hcd7
abbrev cT_room : hk_Cd := hcd8
abbrev cT_take : hk_Cd := hcd9
abbrev cC_plain : hk_Cd := hcd10
abbrev cT_tellTo : hk_Cd := hcd11
abbrev cP_clear : hk_Cd := hcd12
abbrev cP_stillWinds : hk_Cd := hcd13
abbrev cP_setWind : hk_Cd := hcd14
abbrev cT_step : hk_Cd := hcd15
abbrev cT_sortAt : hk_Cd := hcd16
abbrev cT_readOne : hk_Cd := hcd17
abbrev cT_kindNamed : hk_Cd := hcd18
abbrev cT_spells : hk_Cd := hcd19
abbrev cJString_length : hk_Cd := hcd20
abbrev cJString_coder : hk_Cd := hcd21
abbrev cJString_charAt : hk_Cd := hcd22
abbrev cJString_isLatin1 : hk_Cd := hcd23
abbrev cJStringLatin1_charAt : hk_Cd := hcd24
abbrev cJString_checkIndex : hk_Cd := hcd25
abbrev cJPreconditions_checkIndex : hk_Cd := hcd26
abbrev cT_readHat : hk_Cd := hcd27
abbrev cT_number : hk_Cd := hcd28
abbrev cT_fail : hk_Cd := hcd29
abbrev cT_word : hk_Cd := hcd30
abbrev cP_addHat : hk_Cd := hcd31
abbrev cH_become : hk_Cd := hcd32
abbrev cH_goOn : hk_Cd := hcd33
abbrev cH_lieIn : hk_Cd := hcd34
abbrev cT_semicolon : hk_Cd := hcd35
abbrev cT_readPerson : hk_Cd := hcd36
abbrev cP_addPerson : hk_Cd := hcd37
abbrev cT_readWind : hk_Cd := hcd38
abbrev cT_directionNamed : hk_Cd := hcd39
abbrev cP_copyFrom : hk_Cd := hcd40
abbrev cN_copyFrom : hk_Cd := hcd41
abbrev cH_copyFrom : hk_Cd := hcd42
abbrev cC_wind : hk_Cd := hcd43
abbrev cC_isBelow : hk_Cd := hcd44
abbrev cP_windIn : hk_Cd := hcd45
abbrev cC_windOf : hk_Cd := hcd46
abbrev cC_person : hk_Cd := hcd47
abbrev cC_personOf : hk_Cd := hcd48
abbrev cC_isPerson : hk_Cd := hcd49
abbrev cP_ownedBy : hk_Cd := hcd50
abbrev cP_wornBy : hk_Cd := hcd51
abbrev cC_moves : hk_Cd := hcd52
abbrev cC_speed : hk_Cd := hcd53
abbrev cC_hat : hk_Cd := hcd54
abbrev cC_hatOf : hk_Cd := hcd55
abbrev cC_isHat : hk_Cd := hcd56
abbrev cP_placeOf : hk_Cd := hcd57
abbrev cH_isWorn : hk_Cd := hcd58
abbrev cH_firmness : hk_Cd := hcd59
abbrev cP_hour : hk_Cd := hcd60
abbrev cH_flight : hk_Cd := hcd61
abbrev cC_make : hk_Cd := hcd62
abbrev cC_puts : hk_Cd := hcd63
abbrev cH_lies : hk_Cd := hcd64
abbrev cC_down : hk_Cd := hcd65
abbrev cC_found : hk_Cd := hcd66
abbrev cH_isGone : hk_Cd := hcd67
abbrev cC_bow : hk_Cd := hcd68
abbrev cP_swapHats : hk_Cd := hcd69
abbrev cC_hours : hk_Cd := hcd70
abbrev cC_isTrialLength : hk_Cd := hcd71
abbrev cP_passHours : hk_Cd := hcd72
abbrev cP_passHour : hk_Cd := hcd73
abbrev cP_blow : hk_Cd := hcd74
abbrev cH_fly : hk_Cd := hcd75
abbrev cP_runForNearest : hk_Cd := hcd76
abbrev cP_nearestTo : hk_Cd := hcd77
abbrev cN_runTo : hk_Cd := hcd78
abbrev cN_atMost : hk_Cd := hcd79
abbrev cP_putOnAll : hk_Cd := hcd80
abbrev cC_clock : hk_Cd := hcd81
abbrev cC_owns : hk_Cd := hcd82
abbrev cC_tryHours : hk_Cd := hcd83
abbrev cC_where : hk_Cd := hcd84
abbrev cC_wears : hk_Cd := hcd85
abbrev cC_lost : hk_Cd := hcd86
abbrev cC_master : hk_Cd := hcd87
abbrev cC_wish : hk_Cd := hcd88
abbrev cC_isPlanLength : hk_Cd := hcd89
abbrev cC_bestFor : hk_Cd := hcd90
abbrev cC_changeTrial : hk_Cd := hcd91
abbrev cC_start : hk_Cd := hcd92
abbrev cC_tie : hk_Cd := hcd93
abbrev cC_calm : hk_Cd := hcd94
abbrev cP_anyLies : hk_Cd := hcd95
abbrev cC_seed : hk_Cd := hcd96
abbrev cC_draw : hk_Cd := hcd97
abbrev cC_prove : hk_Cd := hcd98
abbrev cP_allWorn : hk_Cd := hcd99
abbrev cP_allGone : hk_Cd := hcd100
abbrev cC_row : hk_Cd := hcd101
abbrev cC_isRowPart : hk_Cd := hcd102
abbrev cC_alterRow : hk_Cd := hcd103
abbrev cC_judge : hk_Cd := hcd104
abbrev cC_isRowOfTrial : hk_Cd := hcd105
abbrev cC_winds : hk_Cd := hcd106
abbrev cC_sheet : hk_Cd := hcd107
abbrev cR_init : hk_Cd := hcd108
abbrev cC_put : hk_Cd := hcd109
abbrev cR_narrowed : hk_Cd := hcd110
abbrev cC_item : hk_Cd := hcd111
abbrev cC_shelf : hk_Cd := hcd112
abbrev cS_takeHat : hk_Cd := hcd113
abbrev cS_takeRow : hk_Cd := hcd114
abbrev cC_taken : hk_Cd := hcd115
abbrev cH_isOfKind : hk_Cd := hcd116
abbrev cC_act : hk_Cd := hcd117
abbrev cA_forget : hk_Cd := hcd118
abbrev cA_perform : hk_Cd := hcd119
abbrev cA_run : hk_Cd := hcd120
abbrev cA_begin : hk_Cd := hcd121
abbrev cA_share : hk_Cd := hcd122
abbrev cC_trace : hk_Cd := hcd123
abbrev cC_many : hk_Cd := hcd124
abbrev cJInteger_bitCount : hk_Cd := hcd125
abbrev cC_keep : hk_Cd := hcd126
abbrev cC_again : hk_Cd := hcd127
abbrev cM_init : hk_Cd := hcd128
abbrev cM_feed : hk_Cd := hcd129
abbrev cM_in : hk_Cd := hcd130
abbrev cM_plain : hk_Cd := hcd131
abbrev cM_advance : hk_Cd := hcd132
abbrev cM_byteAt : hk_Cd := hcd133
abbrev cM_isLetter : hk_Cd := hcd134
abbrev cM_isDigit : hk_Cd := hcd135
abbrev cM_wantClause : hk_Cd := hcd136
abbrev cM_isWord : hk_Cd := hcd137
abbrev cM_wantPerson : hk_Cd := hcd138
abbrev cM_wantNumber : hk_Cd := hcd139
abbrev cM_takes : hk_Cd := hcd140
abbrev cM_wantEnd : hk_Cd := hcd141
abbrev cM_isMark : hk_Cd := hcd142
abbrev cM_wantWind : hk_Cd := hcd143
abbrev cM_directionHere : hk_Cd := hcd144
abbrev cM_kindHere : hk_Cd := hcd145
abbrev cM_wantHat : hk_Cd := hcd146
abbrev cM_turnsInto : hk_Cd := hcd147
abbrev cM_windOf : hk_Cd := hcd148
abbrev cM_isHour : hk_Cd := hcd149
abbrev cM_wind : hk_Cd := hcd150
abbrev cM_isWind : hk_Cd := hcd151
abbrev cM_person : hk_Cd := hcd152
abbrev cM_isPlace : hk_Cd := hcd153
abbrev cM_personOf : hk_Cd := hcd154
abbrev cM_isPerson : hk_Cd := hcd155
abbrev cM_ownedBy : hk_Cd := hcd156
abbrev cM_its : hk_Cd := hcd157
abbrev cM_wornBy : hk_Cd := hcd158
abbrev cM_moves : hk_Cd := hcd159
abbrev cM_speed : hk_Cd := hcd160
abbrev cM_hat : hk_Cd := hcd161
abbrev cM_hatOf : hk_Cd := hcd162
abbrev cM_isHat : hk_Cd := hcd163
abbrev cM_orNot : hk_Cd := hcd164
abbrev cM_placeOf : hk_Cd := hcd165
abbrev cM_holds : hk_Cd := hcd166
abbrev cM_flies : hk_Cd := hcd167
abbrev cM_make : hk_Cd := hcd168
abbrev cM_puts : hk_Cd := hcd169
abbrev cM_isLying : hk_Cd := hcd170
abbrev cM_down : hk_Cd := hcd171
abbrev cM_lays : hk_Cd := hcd172
abbrev cM_becomes : hk_Cd := hcd173
abbrev cM_found : hk_Cd := hcd174
abbrev cM_isGone : hk_Cd := hcd175
abbrev cM_bow : hk_Cd := hcd176
abbrev cM_hours : hk_Cd := hcd177
abbrev cM_isTrial : hk_Cd := hcd178
abbrev cM_go : hk_Cd := hcd179
abbrev cM_hourGoes : hk_Cd := hcd180
abbrev cM_blows : hk_Cd := hcd181
abbrev cM_runs : hk_Cd := hcd182
abbrev cM_apart : hk_Cd := hcd183
abbrev cM_stepTo : hk_Cd := hcd184
abbrev cM_clock : hk_Cd := hcd185
abbrev cM_owns : hk_Cd := hcd186
abbrev cM_ownsThen : hk_Cd := hcd187
abbrev cM_lends : hk_Cd := hcd188
abbrev cM_where : hk_Cd := hcd189
abbrev cM_wears : hk_Cd := hcd190
abbrev cM_lost : hk_Cd := hcd191
abbrev cM_master : hk_Cd := hcd192
abbrev cM_wish : hk_Cd := hcd193
abbrev cM_isSoon : hk_Cd := hcd194
abbrev cM_start : hk_Cd := hcd195
abbrev cM_tie : hk_Cd := hcd196
abbrev cM_calm : hk_Cd := hcd197
abbrev cM_isAllWorn : hk_Cd := hcd198
abbrev cM_seed : hk_Cd := hcd199
abbrev cM_draw : hk_Cd := hcd200
abbrev cM_prove : hk_Cd := hcd201
abbrev cM_findRows : hk_Cd := hcd202
abbrev cM_goneSet : hk_Cd := hcd203
abbrev cM_row : hk_Cd := hcd204
abbrev cM_isRow : hk_Cd := hcd205
abbrev cM_alterRow : hk_Cd := hcd206
abbrev cM_judge : hk_Cd := hcd207
abbrev cM_winds : hk_Cd := hcd208
abbrev cM_isShelf : hk_Cd := hcd209
abbrev cM_lacksSort : hk_Cd := hcd210
abbrev cM_sheet : hk_Cd := hcd211
abbrev cM_put : hk_Cd := hcd212
abbrev cM_item : hk_Cd := hcd213
abbrev cM_shelf : hk_Cd := hcd214
abbrev cM_isHeld : hk_Cd := hcd215
abbrev cM_taken : hk_Cd := hcd216
abbrev cM_kindOn : hk_Cd := hcd217
abbrev cM_isUnder : hk_Cd := hcd218
abbrev cM_act : hk_Cd := hcd219
abbrev cM_holdsIt : hk_Cd := hcd220
abbrev cM_strawHolds : hk_Cd := hcd221
abbrev cM_ran : hk_Cd := hcd222
abbrev cM_plainHolds : hk_Cd := hcd223
abbrev cM_fliesIt : hk_Cd := hcd224
abbrev cM_plainFlies : hk_Cd := hcd225
abbrev cM_sharesIt : hk_Cd := hcd226
abbrev cM_plainShares : hk_Cd := hcd227
abbrev cM_tellsIt : hk_Cd := hcd228
abbrev cM_plainTells : hk_Cd := hcd229
abbrev cM_trace : hk_Cd := hcd230
abbrev cM_many : hk_Cd := hcd231
abbrev cM_keep : hk_Cd := hcd232
abbrev cM_moveAll : hk_Cd := hcd233
abbrev cM_moveRow : hk_Cd := hcd234
abbrev cM_again : hk_Cd := hcd235
abbrev cL_law : hk_Cd := hcdLAW
/-- so many steps, then the least: in a form that stays when it is looked at -/
def hk_ru (rt : Option FieldType) (C S : Nat) (cd : hk_Cd) (call : hk_C) (Q : hk_Q) : Nat → hk_X
  | 0 => hk_wp rt C S hk_dft cd call Q
  | f + 1 => hk_step rt C S hk_dft cd call Q (hk_ru rt C S cd call Q f)
section Ru
variable {rt : Option FieldType} {C S : Nat} {cd : hk_Cd} {call : hk_C} {Q : hk_Q}
theorem hk_run2 (hc : hk_cm call) : ∀ (f : Nat) {ip : Nat} {ls : hk_Ls} {st : List Value} {h : hk_Hp} {k n : Nat}, hk_ru rt C S cd call Q f ip ls st h k n → hk_wp rt C S hk_dft cd call Q ip ls st h k n
  | 0, _, _, _, _, _, _, g => g
  | f + 1, _, _, _, _, _, _, g => hk_in hc (hk_step_m hc (fun _ _ q => q) (fun _ _ _ _ _ _ q => hk_run2 hc f q) _ _ _ _ _ _ g)
theorem hk_stop1 (hc : hk_cm call) : ∀ (f : Nat) {ip : Nat} {ls : hk_Ls} {st : List Value} {h : hk_Hp} {k n : Nat}, hk_wp rt C S hk_dft cd call Q ip ls st h k n → hk_ru rt C S cd call Q f ip ls st h k n
  | 0, _, _, _, _, _, _, g => g
  | f + 1, _, _, _, _, _, _, g => hk_step_m hc (fun _ _ q => q) (fun _ _ _ _ _ _ q => hk_stop1 hc f q) _ _ _ _ _ _ (hk_out hc g)
theorem hk_stop2 (hc : hk_cm call) {f : Nat} {ip : Nat} {ls : hk_Ls} {st : List Value} {h : hk_Hp} {k n : Nat} (g : hk_wp rt C S hk_dft cd call Q ip ls st h k n) : hk_ru rt C S cd call Q f ip ls st h k n := hk_stop1 hc f g
end Ru
end
section
/-! the heap's form: reading and writing -/
theorem up2_s (R : Nat → Nat → Int32) (a k : Nat) (v : Int32) : up2 R a k v a k = v := if_pos ⟨rfl, rfl⟩
theorem up2_n {R : Nat → Nat → Int32} {a k b j : Nat} {v : Int32} (h : ¬ (b = a ∧ j = k)) : up2 R a k v b j = R b j := if_neg h
theorem up2_a {R : Nat → Nat → Int32} {a k b j : Nat} {v : Int32} (h : b ≠ a) : up2 R a k v b j = R b j := if_neg (fun q => h q.1)
theorem up2_k {R : Nat → Nat → Int32} {a k b j : Nat} {v : Int32} (h : j ≠ k) : up2 R a k v b j = R b j := if_neg (fun q => h q.2)
/-- at (a, k) stands an int -/
def hk_kI (X : hk_D) (a k : Nat) : Bool := bif Nat.ble a 37 then false else bif Nat.ble a 126 then (match hk_nth hk_tab (a - 38) with | some (_, _, dk, ks) => Nat.beq (hk_knd dk ks k).1 0 | none => false) else
  (bif Nat.ble (127 + 2 * X.2.2.1) a then false else bif Nat.beq ((a - 127) % 2) 0 then Nat.beq k 0 else true)
theorem hw_val {R R' : Nat → Nat → Int32} {X : hk_D} {a j : Nat} (h : R a j = R' a j) : ((hw R X).2 a).2.2 j = ((hw R' X).2 a).2.2 j := by
  unfold hw
  dsimp only
  cases Nat.ble a 37
  · cases Nat.ble a 126
    · show (hk_row R X a).2.2 j = (hk_row R' X a).2.2 j
      unfold hk_row
      cases Nat.ble (127 + 2 * X.2.2.1) a
      · cases Nat.beq ((a - 127) % 2) 0
        · show Value.int (R a j) = .int (R' a j); rw [h]
        · match j, h with
          | 0, h => show Value.int (R a 0) = .int (R' a 0); rw [h]
          | j + 1, h => rfl
      · rfl
    · show (hk_fix R X a).2.2 j = (hk_fix R' X a).2.2 j
      unfold hk_fix
      split
      · show hk_kv R X a j _ = hk_kv R' X a j _
        unfold hk_kv
        split <;> first | rfl | rw [h]
      · rfl
  · rfl
theorem hk_row_sh {R R' : Nat → Nat → Int32} {X : hk_D} {a : Nat} : (hk_row R X a).1 = (hk_row R' X a).1 ∧ (hk_row R X a).2.1 = (hk_row R' X a).2.1 := by
  unfold hk_row
  generalize Nat.ble (127 + 2 * X.2.2.1) a = b1
  generalize Nat.beq ((a - 127) % 2) 0 = b2
  generalize X.2.2.2.1 ((a - 127) / 2) = b3
  cases b1
  · cases b2
    · exact ⟨rfl, rfl⟩
    · exact ⟨rfl, rfl⟩
  · exact ⟨rfl, rfl⟩
theorem hk_fix_sh {R R' : Nat → Nat → Int32} {X : hk_D} {a : Nat} : (hk_fix R X a).1 = (hk_fix R' X a).1 ∧ (hk_fix R X a).2.1 = (hk_fix R' X a).2.1 := by
  unfold hk_fix
  generalize hk_nth hk_tab (a - 38) = z
  cases z with
  | none => exact ⟨rfl, rfl⟩
  | some q => exact ⟨rfl, rfl⟩
theorem hk_cond3 {α β : Type} (f : α → β) {b c : Bool} {x y z y' z' : α} (h1 : f y = f y') (h2 : f z = f z') : f (bif b then x else bif c then y else z) = f (bif b then x else bif c then y' else z') := by
  cases b
  · cases c
    · exact h2
    · exact h1
  · rfl
theorem hw_sh {R R' : Nat → Nat → Int32} {X : hk_D} {a : Nat} : ((hw R X).2 a).1 = ((hw R' X).2 a).1 ∧ ((hw R X).2 a).2.1 = ((hw R' X).2 a).2.1 :=
  ⟨hk_cond3 (fun q : hk_Ce => q.1) hk_fix_sh.1 hk_row_sh.1, hk_cond3 (fun q : hk_Ce => q.2.1) hk_fix_sh.2 hk_row_sh.2⟩
theorem hw_int {R : Nat → Nat → Int32} {X : hk_D} {a j : Nat} (h : hk_kI X a j = true) : ((hw R X).2 a).2.2 j = .int (R a j) := by
  unfold hk_kI at h
  unfold hw
  dsimp only
  cases h1 : Nat.ble a 37
  · rw [h1] at h
    cases h2 : Nat.ble a 126
    · rw [h2] at h
      show (hk_row R X a).2.2 j = _
      unfold hk_row
      cases h3 : Nat.ble (127 + 2 * X.2.2.1) a
      · rw [h3] at h
        cases h4 : Nat.beq ((a - 127) % 2) 0
        · rfl
        · rw [h4] at h
          have : j = 0 := Nat.eq_of_beq_eq_true h
          subst this; rfl
      · rw [h3] at h; exact absurd (show false = true from h) (by decide)
    · rw [h2] at h
      show (hk_fix R X a).2.2 j = _
      unfold hk_fix
      dsimp only [cond] at h
      split at h
      · rename_i t n dk ks hq
        rw [hq]
        have h0 := Nat.eq_of_beq_eq_true h
        show hk_kv R X a j (hk_knd dk ks j) = _
        generalize hk_knd dk ks j = z at h0 ⊢
        obtain ⟨z1, z2⟩ := z
        dsimp only at h0
        subst h0
        rfl
      · exact absurd h (by decide)
  · rw [h1] at h; exact absurd (show false = true from h) (by decide)
/-- an int is written -/
theorem hw_up {R : Nat → Nat → Int32} {X : hk_D} {a k : Nat} {v : Int32} {t : Nat} (h : hk_kI X a k = true) (ht : ((hw R X).2 a).1 = t) : hk_up (hw R X) a (t, ((hw R X).2 a).2.1, va_up ((hw R X).2 a).2.2 k (.int v)) = hw (up2 R a k v) X := by
  subst ht
  refine Prod.ext rfl (funext fun b => ?_)
  by_cases hb : b = a
  · subst hb
    rw [hk_up_self]
    refine Prod.ext hw_sh.1 (Prod.ext hw_sh.2 (funext fun j => ?_))
    show va_up ((hw R X).2 b).2.2 k (.int v) j = _
    unfold va_up
    by_cases hj : j = k
    · subst hj
      rw [if_pos rfl, hw_int h, up2_s]
    · rw [if_neg hj]
      exact hw_val (up2_k hj).symm
  · rw [hk_up_ne hb]
    refine Prod.ext hw_sh.1 (Prod.ext hw_sh.2 (funext fun j => ?_))
    exact hw_val (up2_a hb).symm
/-! numbers -/
theorem hn_of {x : Int32} {n : Nat} (hn : n ≤ 100000) (h0 : ¬ x < 0) (h1 : ¬ nI n ≤ x) : ∃ j, j < n ∧ x = nI j := by
  rcases pk_ix x (n := n) (by omega) with h | h | h
  · exact absurd h h0
  · exact absurd h h1
  · exact h
theorem hn_i {n : Nat} (h : n < 2 ^ 31) : (nI n).toInt = n := nI_toInt h
theorem hn_lt {x y : Int32} : x < y ↔ x.toInt < y.toInt := Int32.lt_iff_toInt_lt
theorem hn_le {x y : Int32} : x ≤ y ↔ x.toInt ≤ y.toInt := Int32.le_iff_toInt_le
/-! pure methods -/
theorem sp_in {d : Nat} (hd : 0 < d) {h : hk_Hp} {Q : hk_Q} {v x : Int32} {n : Nat} (hn : n ≤ 100000) (hx : x = nI n - 1) (h1 : ∀ j, j < n → v = nI j → Q (some (.int 1)) h) (h0 : (∀ j, j < n → v ≠ nI j) → Q (some (.int 0)) h) : hk_call d mM_in [.int v, .int 0, .int x] h Q := by
  obtain ⟨d, rfl⟩ : ∃ e, d = e + 1 := ⟨d - 1, by omega⟩
  refine hk_run2 (hk_call_m d) 100 ?_
  have hxt : x.toInt = (n : Int) - 1 := by
    subst hx
    have := pk_sub_toInt (a := n) (b := 1) (by omega) (by omega)
    exact this
  refine And.intro (fun c => ?_) (fun c => ?_)
  · refine And.intro (by decide) (hk_qe_of (h0 (fun j hj e => ?_)))
    rw [hn_lt, e, hn_i (by omega)] at c
    exact absurd c (by simp)
  · refine And.intro (fun c2 => ?_) (fun c2 => ?_)
    · refine And.intro (by decide) (hk_qe_of (h0 (fun j hj e => ?_)))
      rw [hn_lt, e, hn_i (by omega), hxt] at c2
      omega
    · refine And.intro (by decide) (hk_qe_of ?_)
      obtain ⟨j, hj, e⟩ := hn_of (x := v) (n := n) hn c (fun q => c2 (by rw [hn_lt, hxt]; rw [hn_le, hn_i (by omega)] at q; omega))
      exact h1 j hj e
theorem sp_isBelow {d : Nat} (hd : 0 < d) {h : hk_Hp} {Q : hk_Q} {v x : Int32} {n : Nat} (hn : n ≤ 100000) (hx : x = nI n) (h1 : ∀ j, j < n → v = nI j → Q (some (.int 1)) h) (h0 : (∀ j, j < n → v ≠ nI j) → Q (some (.int 0)) h) : hk_call d mC_isBelow [.int v, .int x] h Q := by
  subst hx
  obtain ⟨d, rfl⟩ : ∃ e, d = e + 1 := ⟨d - 1, by omega⟩
  refine hk_run2 (hk_call_m d) 100 ?_
  refine And.intro (fun c => ?_) (fun c => ?_)
  · refine And.intro (by decide) (hk_qe_of (h0 (fun j hj e => ?_)))
    rw [hn_lt, e, hn_i (by omega)] at c
    exact absurd c (by simp)
  · refine And.intro (fun c2 => ?_) (fun c2 => ?_)
    · refine And.intro (by decide) (hk_qe_of (h0 (fun j hj e => ?_)))
      rw [hn_le, e, hn_i (by omega), hn_i (by omega)] at c2
      omega
    · refine And.intro (by decide) (hk_qe_of ?_)
      obtain ⟨j, hj, e⟩ := hn_of (x := v) (n := n) hn c c2
      exact h1 j hj e
theorem sp_its {d : Nat} (hd : 0 < d) {R : Nat → Nat → Int32} {X : hk_D} {Q : hk_Q} {k : Int32} {o j : Nat} (ho : R 98 9 = nI o) (hk : k = nI j) (hj : o + j < 36) (hQ : Q (some (.int (R 105 (o + j)))) (hw R X)) : hk_call d mM_its [.ref 98, .int k] (hw R X) Q := by
  obtain ⟨d, rfl⟩ : ∃ e, d = e + 1 := ⟨d - 1, by omega⟩
  refine hk_run2 (hk_call_m d) 100 ?_
  have e : R 98 9 + k = nI (o + j) := by rw [ho, hk, nI_add]
  refine And.intro (by rw [e]; exact vp_in_nI (N := 36) hj (by omega)) (hk_qe_of ?_)
  rw [e, nI_clamp (by omega)]
  exact hQ
theorem sp_becomes {d : Nat} (hd : 0 < d) {R : Nat → Nat → Int32} {X : hk_D} {Q : hk_Q} {k v : Int32} {o j : Nat} (ho : R 98 9 = nI o) (hk : k = nI j) (hj : o + j < 36) (hQ : Q none (hw (up2 R 105 (o + j) v) X)) : hk_call d mM_becomes [.ref 98, .int k, .int v] (hw R X) Q := by
  obtain ⟨d, rfl⟩ : ∃ e, d = e + 1 := ⟨d - 1, by omega⟩
  refine hk_run2 (hk_call_m d) 100 ?_
  have e : R 98 9 + k = nI (o + j) := by rw [ho, hk, nI_add]
  refine And.intro (by rw [e]; exact vp_in_nI (N := 36) hj (by omega)) (hk_qe_of ?_)
  rw [e, nI_clamp (by omega)]
  rw [hw_up (t := 10) rfl rfl]
  exact hQ
end
section
/-! THE ABSTRACT PLAIN: rows 0 direction, 1 force (by hours), 2 people, 3 hats, 4 NOW (at 0), 5 place, 6 speed (by persons), 7 kind, 8 a, 9 worth, 10 where (by hats: 0 to 24 lies there, 25 + p worn by p, 30 gone) -/
abbrev hP : Type := Nat → Nat → Nat
def hf_up (P : hP) (r j v : Nat) : hP := fun r' j' => if r' = r ∧ j' = j then v else P r' j'
def hf_holds (kind a : Nat) : Nat := match kind with
  | 1 => 3 + a / 2
  | 2 => 1
  | 3 => 2 * (3 + a / 2)
  | 4 => 1 - a % 2
  | 5 => 4
  | _ => 3
def hf_flies (kind force : Nat) : Nat := match kind with
  | 2 => if 0 < force then force / 3 + 1 else force / 3
  | 4 => 2 * (if 0 < force then force / 3 + 1 else force / 3)
  | 5 => force / 3 / 2
  | _ => force / 3
def hf_fly (dir n q : Nat) : Nat := match dir with
  | 0 => if n ≤ q / 5 then 5 * (q / 5 - n) + q % 5 else 30
  | 1 => if q % 5 + n ≤ 4 then 5 * (q / 5) + (q % 5 + n) else 30
  | 2 => if q / 5 + n ≤ 4 then 5 * (q / 5 + n) + q % 5 else 30
  | _ => if n ≤ q % 5 then 5 * (q / 5) + (q % 5 - n) else 30
/-- a hat behind the first half of an hour's wind -/
def hf_drop (P : hP) (force j : Nat) : Nat := if 25 ≤ P 10 j ∧ P 10 j < 30 ∧ hf_holds (P 7 j) (P 8 j) < force then P 5 (P 10 j - 25) else P 10 j
def hf_air (P : hP) (dir force j q : Nat) : Nat := if q < 25 then hf_fly dir (hf_flies (P 7 j) force) q else q
/-- the first n hats have dropped -/
def hf_drops (P : hP) (force n : Nat) : hP := fun r j => if r = 10 ∧ j < n then hf_drop P force j else P r j
/-- the first n hats have dropped and flown -/
def hf_blow (P : hP) (dir force n : Nat) : hP := fun r j => if r = 10 ∧ j < n then hf_air P dir force j (hf_drop P force j) else P r j
def hf_ab (x y : Nat) : Nat := (x - y) + (y - x)
def hf_dist (a b : Nat) : Nat := hf_ab (a % 5) (b % 5) + hf_ab (a / 5) (b / 5)
/-- of the first n hats the nearest that lies; 99: none -/
def hf_near (P : hP) (at0 : Nat) : Nat → Nat
  | 0 => 99
  | n + 1 => if P 10 n < 25 ∧ (hf_near P at0 n = 99 ∨ hf_dist at0 (P 10 n) < hf_dist at0 (P 10 (hf_near P at0 n))) then n else hf_near P at0 n
def hf_st1 (f t : Nat) : Nat := if f % 5 < t % 5 then f + 1 else if t % 5 < f % 5 then f - 1 else if f < t then f + 5 else if t < f then f - 5 else f
def hf_runs : Nat → Nat → Nat → Nat
  | 0, f, _ => f
  | k + 1, f, t => hf_st1 (hf_runs k f t) t
/-- of the first n hats those that lie in a place are put on -/
def hf_puton (P : hP) (p t n : Nat) : hP := fun r j => if r = 10 ∧ j < n ∧ P 10 j = t then 25 + p else P r j
def hf_person (P : hP) (p : Nat) : hP :=
  if hf_near P (P 5 p) (P 3 0) = 99 then P else
  if hf_runs (P 6 p) (P 5 p) (P 10 (hf_near P (P 5 p) (P 3 0))) = P 10 (hf_near P (P 5 p) (P 3 0)) then
    hf_puton (hf_up P 5 p (P 10 (hf_near P (P 5 p) (P 3 0)))) p (P 10 (hf_near P (P 5 p) (P 3 0))) (P 3 0)
  else hf_up P 5 p (hf_runs (P 6 p) (P 5 p) (P 10 (hf_near P (P 5 p) (P 3 0))))
def hf_people (P : hP) : Nat → hP
  | 0 => P
  | n + 1 => hf_person (hf_people P n) n
def hf_hour (P : hP) (dir force : Nat) : hP := hf_up (hf_people (hf_blow P dir force (P 3 0)) (P 2 0)) 4 0 (P 4 0 + 1)
def hf_pass (P : hP) : hP := hf_hour P (P 0 (P 4 0 % 24)) (P 1 (P 4 0 % 24))
def hf_hours : Nat → hP → hP
  | 0, P => P
  | n + 1, P => if P 4 0 < 96 then hf_hours n (hf_pass P) else P
/-- what every plain keeps to -/
def hf_ok (P : hP) : Prop := P 2 0 ≤ 5 ∧ P 3 0 ≤ 6 ∧ P 4 0 ≤ 200 ∧ (∀ j, j < 24 → P 0 j < 4 ∧ P 1 j < 10) ∧ (∀ p, p < P 2 0 → P 5 p < 25 ∧ P 6 p < 4) ∧
  (∀ h, h < P 3 0 → P 7 h < 6 ∧ P 8 h < 10 ∧ P 9 h < 100 ∧ (P 10 h < 25 ∨ (25 ≤ P 10 h ∧ P 10 h < 25 + P 2 0) ∨ P 10 h = 30))
/-! how the class and the reference hold it -/
def hf_cw (x : Nat) : Int32 := if 25 ≤ x ∧ x < 30 then nI (x - 25) else -9
def hf_cs (x : Nat) : Int32 := if x < 25 then nI x else -9
def hf_mw (x : Nat) : Int32 := if 25 ≤ x ∧ x < 30 then nI (x - 25) else -1
/-- plain i of the class -/
def hf_C (i : Nat) (P : hP) (R : Nat → Nat → Int32) : Prop :=
  R (39 + 16 * i) 4 = nI (P 2 0) ∧ R (39 + 16 * i) 5 = nI (P 3 0) ∧ R (39 + 16 * i) 6 = nI (P 4 0) ∧
  (∀ j, j < 24 → R (40 + 16 * i) j = nI (P 0 j) ∧ R (41 + 16 * i) j = nI (P 1 j)) ∧
  (∀ p, p < P 2 0 → R (44 + 16 * i + p) 0 = nI (P 5 p) ∧ R (44 + 16 * i + p) 1 = nI (P 6 p)) ∧
  (∀ h, h < P 3 0 → R (49 + 16 * i + h) 0 = nI (P 7 h) ∧ R (49 + 16 * i + h) 1 = nI (P 8 h) ∧ R (49 + 16 * i + h) 2 = nI (P 9 h) ∧ R (49 + 16 * i + h) 3 = hf_cw (P 10 h) ∧ R (49 + 16 * i + h) 4 = hf_cs (P 10 h))
/-- the reference's: what an hour doesn't change -/
def hf_MS (P : hP) (R : Nat → Nat → Int32) : Prop :=
  R 98 2 = nI (P 2 0) ∧ R 98 4 = nI (P 3 0) ∧ (∀ j, j < 24 → R 99 j = nI (P 0 j) ∧ R 100 j = nI (P 1 j)) ∧ (∀ p, p < P 2 0 → R 101 p = nI (P 6 p)) ∧
  (∀ h, h < P 3 0 → R 102 h = nI (P 7 h) ∧ R 103 h = nI (P 8 h) ∧ R 104 h = nI (P 9 h))
/-- the reference's row that begins at o: what an hour changes -/
def hf_MD (o : Nat) (P : hP) (R : Nat → Nat → Int32) : Prop :=
  R 105 o = nI (P 4 0) ∧ (∀ p, p < P 2 0 → R 105 (o + (1 + p)) = nI (P 5 p)) ∧
  (∀ h, h < P 3 0 → R 105 (o + (6 + h)) = hf_mw (P 10 h) ∧ (P 10 h < 25 → R 105 (o + (12 + h)) = nI (P 10 h)) ∧ (P 10 h = 30 → R 105 (o + (12 + h)) = -1))
theorem hk_for {P : Nat → Prop} {n : Nat} (hx : P n) (hs : ∀ j, j < n → P (j + 1) → P j) : ∀ j, j ≤ n → P j := by
  intro j hj
  have key : ∀ k j, j ≤ n → n - j = k → P j := by
    intro k
    induction k with
    | zero => intro j h1 h2; have : j = n := by omega
              subst this; exact hx
    | succ k ih => intro j h1 h2; exact hs j (by omega) (ih (j + 1) (by omega) (by omega))
  exact key (n - j) j hj rfl
theorem hf_up_s (P : hP) (r j v : Nat) : hf_up P r j v r j = v := if_pos ⟨rfl, rfl⟩
theorem hf_up_r {P : hP} {r j v r' j' : Nat} (h : r' ≠ r) : hf_up P r j v r' j' = P r' j' := if_neg (fun q => h q.1)
theorem hf_up_j {P : hP} {r j v r' j' : Nat} (h : j' ≠ j) : hf_up P r j v r' j' = P r' j' := if_neg (fun q => h q.2)
theorem hf_fly_ok : ∀ d, d < 4 → ∀ n, n < 9 → ∀ q, q < 25 → hf_fly d n q < 25 ∨ hf_fly d n q = 30 := by decide +kernel
theorem hf_flies_lt : ∀ k, k < 6 → ∀ f, f < 10 → hf_flies k f < 9 := by decide +kernel
theorem hf_holds_lt : ∀ k, k < 6 → ∀ a, a < 10 → hf_holds k a < 20 := by decide +kernel
theorem hf_st1_lt : ∀ f, f < 25 → ∀ t, t < 25 → hf_st1 f t < 25 := by decide +kernel
theorem hf_dist_lt : ∀ f, f < 25 → ∀ t, t < 25 → hf_dist f t < 10 := by decide +kernel
theorem hf_runs_lt {f t : Nat} (hf : f < 25) (ht : t < 25) : ∀ k, hf_runs k f t < 25
  | 0 => hf
  | k + 1 => hf_st1_lt _ (hf_runs_lt hf ht k) t ht
theorem hf_drops_0 (P : hP) (f : Nat) : hf_drops P f 0 = P := by
  funext r j; exact if_neg (fun q => absurd q.2 (Nat.not_lt_zero j))
theorem hf_drops_s (P : hP) (f n : Nat) : hf_drops P f (n + 1) = hf_up (hf_drops P f n) 10 n (hf_drop P f n) := by
  funext r j
  unfold hf_up hf_drops
  by_cases hr : r = 10
  · subst hr
    by_cases hj : j = n
    · subst hj; simp
    · by_cases h2 : j < n
      · simp [hj, h2, Nat.lt_succ_of_lt h2]
      · have : ¬ j < n + 1 := by omega
        simp [hj, h2, this]
  · simp [hr]
def hf_mix (P : hP) (dir f m n : Nat) : hP := fun r j => if r = 10 ∧ j < n then hf_air P dir f j (hf_drop P f j) else hf_drops P f m r j
theorem hf_mix_0 (P : hP) (dir f m : Nat) : hf_mix P dir f m 0 = hf_drops P f m := by
  funext r j; exact if_neg (fun q => absurd q.2 (Nat.not_lt_zero j))
theorem hf_mix_s (P : hP) (dir f m n : Nat) : hf_mix P dir f m (n + 1) = hf_up (hf_mix P dir f m n) 10 n (hf_air P dir f n (hf_drop P f n)) := by
  funext r j
  unfold hf_up hf_mix
  by_cases hr : r = 10
  · subst hr
    by_cases hj : j = n
    · subst hj; simp
    · by_cases h2 : j < n
      · simp [hj, h2, Nat.lt_succ_of_lt h2]
      · have : ¬ j < n + 1 := by omega
        simp [hj, h2, this]
  · simp [hr]
theorem hf_mix_e (P : hP) (dir f m : Nat) : hf_mix P dir f m m = hf_blow P dir f m := by
  funext r j
  unfold hf_mix hf_blow hf_drops
  by_cases h : r = 10 ∧ j < m
  · rw [if_pos h, if_pos h]
  · rw [if_neg h, if_neg h, if_neg h]
theorem hf_blow_0 (P : hP) (dir f : Nat) : hf_blow P dir f 0 = P := by
  funext r j; exact if_neg (fun q => absurd q.2 (Nat.not_lt_zero j))
theorem hf_blow_s (P : hP) (dir f n : Nat) : hf_blow P dir f (n + 1) = hf_up (hf_blow P dir f n) 10 n (hf_air P dir f n (hf_drop P f n)) := by
  funext r j
  unfold hf_up hf_blow
  by_cases hr : r = 10
  · subst hr
    by_cases hj : j = n
    · subst hj; simp
    · by_cases h2 : j < n
      · simp [hj, h2, Nat.lt_succ_of_lt h2]
      · have : ¬ j < n + 1 := by omega
        simp [hj, h2, this]
  · simp [hr]
theorem hf_puton_0 (P : hP) (p t : Nat) : hf_puton P p t 0 = P := by
  funext r j; exact if_neg (fun q => absurd q.2.1 (Nat.not_lt_zero j))
theorem hf_puton_s (P : hP) (p t n : Nat) : hf_puton P p t (n + 1) = if P 10 n = t then hf_up (hf_puton P p t n) 10 n (25 + p) else hf_puton P p t n := by
  by_cases ht : P 10 n = t
  · rw [if_pos ht]
    funext r j
    unfold hf_up hf_puton
    by_cases hr : r = 10
    · subst hr
      by_cases hj : j = n
      · subst hj; simp [ht]
      · by_cases h2 : j < n
        · simp [hj, h2, Nat.lt_succ_of_lt h2]
        · have : ¬ j < n + 1 := by omega
          simp [hj, h2, this]
    · simp [hr]
  · rw [if_neg ht]
    funext r j
    unfold hf_puton
    by_cases hj : j = n
    · subst hj; simp [ht]
    · by_cases h2 : j < n
      · simp [h2, Nat.lt_succ_of_lt h2]
      · have : ¬ j < n + 1 := by omega
        simp [h2, this]
/-! rows for the walks: the form in which the machine's step stands when unification stops there -/
theorem w_ld {R : Nat → Nat → Int32} {X : hk_D} {Xc : hk_X} {ip q m : Nat} {ls : hk_Ls} {a j n : Nat} {i x : Int32} {r : List Value} {h : hk_Hp} (hi : i = nI j) (hn : ((hw R X).2 a).2.1 = n) (hj : j < n) (hb : n < 2 ^ 31) (hk : hk_kI X a j = true) (hx : R a j = x) (g : Xc ip ls (.int x :: r) h q m) : vp_in i ((hw R X).2 a).2.1 ∧ hk_v (((hw R X).2 a).2.2 i.toNatClampNeg) (fun v => Xc ip ls (v :: r) h q m) := by
  subst hi
  refine And.intro ?_ ?_
  · rw [hn]; exact vp_in_nI hj hb
  · rw [nI_clamp (by omega), hw_int hk, hx]; exact g
theorem w_st {R : Nat → Nat → Int32} {X : hk_D} {Xc : hk_X} {ip q m : Nat} {ls : hk_Ls} {a j n t : Nat} {i v : Int32} {r : List Value} (hi : i = nI j) (hn : ((hw R X).2 a).2.1 = n) (hj : j < n) (hb : n < 2 ^ 31) (hk : hk_kI X a j = true) (ht : ((hw R X).2 a).1 = 10) (g : Xc ip ls r (hw (up2 R a j v) X) q m) : vp_in i ((hw R X).2 a).2.1 ∧ hk_astv 10 (.int v) (fun v' => Xc ip ls r (hk_up (hw R X) a (10, ((hw R X).2 a).2.1, va_up ((hw R X).2 a).2.2 i.toNatClampNeg v')) q m) := by
  subst hi
  refine And.intro ?_ ?_
  · rw [hn]; exact vp_in_nI hj hb
  · show Xc ip ls r (hk_up (hw R X) a (10, ((hw R X).2 a).2.1, va_up ((hw R X).2 a).2.2 (nI j).toNatClampNeg (.int v))) q m
    rw [nI_clamp (by omega), hw_up hk ht]; exact g
theorem w_put {R : Nat → Nat → Int32} {X : hk_D} {Xc : hk_X} {ip q m : Nat} {ls : hk_Ls} {a k t : Nat} {v : Int32} {r : List Value} {p : Prop} (hp : p) (ht : ((hw R X).2 a).1 = t) (hk : hk_kI X a k = true) (g : Xc ip ls r (hw (up2 R a k v) X) q m) : p ∧ Xc ip ls r (hk_up (hw R X) a (t, ((hw R X).2 a).2.1, va_up ((hw R X).2 a).2.2 k (.int v))) q m := by
  refine And.intro hp ?_
  rw [hw_up hk ht]; exact g
/-- a field of an int, of a cell at any place -/
theorem w_get {R : Nat → Nat → Int32} {X : hk_D} {Xc : hk_X} {ip q m : Nat} {ls : hk_Ls} {a k t : Nat} {x : Int32} {r : List Value} {h : hk_Hp} (ht : ((hw R X).2 a).1 = t) (hk : hk_kI X a k = true) (hx : R a k = x) (g : Xc ip ls (.int x :: r) h q m) : (bif Nat.beq ((hw R X).2 a).1 t then hk_v (((hw R X).2 a).2.2 k) (fun v => Xc ip ls (v :: r) h q m) else False) := by
  rw [ht, show Nat.beq t t = true from Nat.beq_refl t]
  show hk_v (((hw R X).2 a).2.2 k) (fun v => Xc ip ls (v :: r) h q m)
  rw [hw_int hk, hx]
  exact g
/-- a field of a reference, of a cell at any place -/
theorem w_gref {h0 : hk_Hp} {Xc : hk_X} {ip q m : Nat} {ls : hk_Ls} {a k t b : Nat} {r : List Value} {h : hk_Hp} (ht : (h0.2 a).1 = t) (hv : (h0.2 a).2.2 k = .ref b) (g : Xc ip ls (.ref b :: r) h q m) : (bif Nat.beq (h0.2 a).1 t then hk_v ((h0.2 a).2.2 k) (fun v => Xc ip ls (v :: r) h q m) else False) := by
  rw [ht, show Nat.beq t t = true from Nat.beq_refl t]
  show hk_v ((h0.2 a).2.2 k) (fun v => Xc ip ls (v :: r) h q m)
  rw [hv]
  exact g
theorem w_recv {h : hk_Hp} {a t : Nat} {K : Prop} (ht : (h.2 a).1 = t) (g : K) : (bif Nat.beq (h.2 a).1 t then K else False) := by
  rw [ht, show Nat.beq t t = true from Nat.beq_refl t]
  exact g
theorem w_lda {h0 : hk_Hp} {Xc : hk_X} {ip q m : Nat} {ls : hk_Ls} {a j n b : Nat} {i : Int32} {r : List Value} {h : hk_Hp} (hi : i = nI j) (hn : (h0.2 a).2.1 = n) (hj : j < n) (hb : n < 2 ^ 31) (ht : 13 ≤ (h0.2 a).1 ∧ (h0.2 a).1 ≤ 16) (ha : 38 ≤ a) (hv : (h0.2 a).2.2 j = .ref b) (g : Xc ip ls (.ref b :: r) h q m) : (bif Nat.ble 13 (h0.2 a).1 && Nat.ble (h0.2 a).1 16 && Nat.ble 38 a then vp_in i (h0.2 a).2.1 ∧ hk_v ((h0.2 a).2.2 i.toNatClampNeg) (fun v => Xc ip ls (v :: r) h q m) else False) := by
  subst hi
  rw [show Nat.ble 13 (h0.2 a).1 = true from Nat.ble_eq_true_of_le ht.1, show Nat.ble (h0.2 a).1 16 = true from Nat.ble_eq_true_of_le ht.2, show Nat.ble 38 a = true from Nat.ble_eq_true_of_le ha]
  refine And.intro ?_ ?_
  · rw [hn]; exact vp_in_nI hj hb
  · rw [nI_clamp (by omega), hv]; exact g
end
section
/-! THE REFERENCE: what it says of a hat -/
/-- the reference holds P, on the row that begins at o -/
def hf_M (o : Nat) (P : hP) (R : Nat → Nat → Int32) : Prop := hf_MS P R ∧ hf_MD o P R ∧ R 98 9 = nI o ∧ o ≤ 18 ∧ hf_ok P
theorem hn_neg9 : ¬ (0 : Int32) ≤ -9 := by decide
theorem hn_neg1 : ¬ (0 : Int32) ≤ -1 := by decide
theorem hn_pos {n : Nat} (h : n < 2 ^ 31) : (0 : Int32) ≤ nI n := nI_pos' h
theorem hn_npos {n : Nat} (h : n < 2 ^ 31) : ¬ nI n < 0 := nI_pos h
theorem hf_mw_w {x : Nat} (h : 25 ≤ x ∧ x < 30) : hf_mw x = nI (x - 25) := if_pos h
theorem hf_mw_n {x : Nat} (h : ¬ (25 ≤ x ∧ x < 30)) : hf_mw x = -1 := if_neg h
theorem hn_lit (n : Nat) : (OfNat.ofNat n : Int32) = nI n := rfl
theorem sp_isLying {d : Nat} (hd : 1 < d) {R : Nat → Nat → Int32} {X : hk_D} {Q : hk_Q} {h : Int32} {o j : Nat} {P : hP} (M : hf_M o P R) (hj : j < P 3 0) (hh : h = nI j) (h1 : P 10 j < 25 → Q (some (.int 1)) (hw R X)) (h0 : ¬ P 10 j < 25 → Q (some (.int 0)) (hw R X)) : hk_call d mM_isLying [.ref 98, .int h] (hw R X) Q := by
  obtain ⟨d, rfl⟩ : ∃ e, d = e + 1 := ⟨d - 1, by omega⟩
  subst hh
  obtain ⟨MS, MD, ho, h18, ok⟩ := M
  have h6 := ok.2.1
  have h5 := ok.1
  obtain ⟨m1, m2, m3⟩ := MD.2.2 j hj
  refine hk_run2 (hk_call_m d) 100 ?_
  refine sp_its (by omega) ho (j := 6 + j) (by rw [← nI_add]; rfl) (by omega) ?_
  rw [m1]
  refine And.intro (fun c => ?_) (fun c => ?_)
  · refine And.intro (by decide) (hk_qe_of (h0 (fun q => ?_)))
    rw [hf_mw_n (by omega)] at c
    exact absurd c hn_neg1
  · refine sp_its (by omega) ho (j := 12 + j) (by rw [← nI_add]; rfl) (by omega) ?_
    have hw0 : ¬ (25 ≤ P 10 j ∧ P 10 j < 30) := fun q => c (by rw [hf_mw_w q]; exact hn_pos (by omega))
    refine And.intro (fun c2 => ?_) (fun c2 => ?_)
    · refine And.intro (by decide) (hk_qe_of (h0 (fun q => ?_)))
      rw [m2 q] at c2
      exact absurd c2 (hn_npos (by omega))
    · refine And.intro (by decide) (hk_qe_of (h1 ?_))
      rcases (ok.2.2.2.2.2 j hj).2.2.2 with q | q | q
      · exact q
      · omega
      · exact absurd (by rw [m3 q]; decide) c2
theorem sp_isGone {d : Nat} (hd : 1 < d) {R : Nat → Nat → Int32} {X : hk_D} {Q : hk_Q} {h : Int32} {o j : Nat} {P : hP} (M : hf_M o P R) (hj : j < P 3 0) (hh : h = nI j) (h1 : P 10 j = 30 → Q (some (.int 1)) (hw R X)) (h0 : ¬ P 10 j = 30 → Q (some (.int 0)) (hw R X)) : hk_call d mM_isGone [.ref 98, .int h] (hw R X) Q := by
  obtain ⟨d, rfl⟩ : ∃ e, d = e + 1 := ⟨d - 1, by omega⟩
  subst hh
  obtain ⟨MS, MD, ho, h18, ok⟩ := M
  have h6 := ok.2.1
  have h5 := ok.1
  obtain ⟨m1, m2, m3⟩ := MD.2.2 j hj
  have cs := (ok.2.2.2.2.2 j hj).2.2.2
  refine hk_run2 (hk_call_m d) 100 ?_
  refine sp_its (by omega) ho (j := 6 + j) (by rw [← nI_add]; rfl) (by omega) ?_
  rw [m1]
  refine And.intro (fun c => ?_) (fun c => ?_)
  · refine And.intro (by decide) (hk_qe_of (h0 (fun q => ?_)))
    rw [hf_mw_n (by omega)] at c
    exact absurd c hn_neg1
  · have hw0 : ¬ (25 ≤ P 10 j ∧ P 10 j < 30) := fun q => c (by rw [hf_mw_w q]; exact hn_pos (by omega))
    refine sp_its (by omega) ho (j := 12 + j) (by rw [← nI_add]; rfl) (by omega) ?_
    refine And.intro (fun c2 => ?_) (fun c2 => ?_)
    · refine And.intro (by decide) (hk_qe_of (h0 (fun q => ?_)))
      rw [m3 q] at c2
      exact absurd c2 hn_neg1
    · refine And.intro (by decide) (hk_qe_of (h1 ?_))
      rcases cs with q | q | q
      · exact absurd (by rw [m2 q]; exact hn_pos (by omega)) c2
      · omega
      · exact q
/-- where a hat is, as the reference says it -/
def hf_pl (P : hP) (j : Nat) : Int32 := if P 10 j < 25 then nI (P 10 j) else if P 10 j < 30 then nI (P 5 (P 10 j - 25)) else -1
theorem sp_mplaceOf {d : Nat} (hd : 1 < d) {R : Nat → Nat → Int32} {X : hk_D} {Q : hk_Q} {h : Int32} {o j : Nat} {P : hP} (M : hf_M o P R) (hj : j < P 3 0) (hh : h = nI j) (hQ : Q (some (.int (hf_pl P j))) (hw R X)) : hk_call d mM_placeOf [.ref 98, .int h] (hw R X) Q := by
  obtain ⟨d, rfl⟩ : ∃ e, d = e + 1 := ⟨d - 1, by omega⟩
  subst hh
  obtain ⟨MS, MD, ho, h18, ok⟩ := M
  have h6 := ok.2.1
  have h5 := ok.1
  obtain ⟨m1, m2, m3⟩ := MD.2.2 j hj
  have cs := (ok.2.2.2.2.2 j hj).2.2.2
  unfold hf_pl at hQ
  refine hk_run2 (hk_call_m d) 100 ?_
  refine sp_its (by omega) ho (j := 6 + j) (by rw [← nI_add]; rfl) (by omega) ?_
  rw [m1]
  refine And.intro (fun c => ?_) (fun c => ?_)
  · have hw1 : 25 ≤ P 10 j ∧ P 10 j < 30 := by
      by_cases q : 25 ≤ P 10 j ∧ P 10 j < 30
      · exact q
      · rw [hf_mw_n q] at c; exact absurd c hn_neg1
    refine sp_its (by omega) ho (j := 6 + j) (by rw [← nI_add]; rfl) (by omega) ?_
    rw [m1, hf_mw_w hw1]
    have hp : P 10 j - 25 < P 2 0 := by omega
    refine sp_its (by omega) ho (j := 1 + (P 10 j - 25)) (by rw [← nI_add]; rfl) (by omega) ?_
    rw [MD.2.1 _ hp]
    rw [if_neg (by omega), if_pos hw1.2] at hQ
    exact hk_qe_of hQ
  · have hw0 : ¬ (25 ≤ P 10 j ∧ P 10 j < 30) := fun q => c (by rw [hf_mw_w q]; exact hn_pos (by omega))
    refine sp_its (by omega) ho (j := 12 + j) (by rw [← nI_add]; rfl) (by omega) ?_
    rcases cs with q | q | q
    · rw [if_pos q] at hQ
      rw [m2 q]
      exact hk_qe_of hQ
    · omega
    · rw [if_neg (by omega), if_neg (by omega)] at hQ
      rw [m3 q]
      exact hk_qe_of hQ
theorem hn_div {a b : Nat} (ha : a < 2 ^ 31) (h0 : 0 < b) (hb : b < 2 ^ 31) : nI a / nI b = nI (a / b) := pk_div ha h0 hb
theorem hn_rem {a b : Nat} (ha : a < 2 ^ 31) (h0 : 0 < b) (hb : b < 2 ^ 31) : hk_rem (nI a) (nI b) = nI (a % b) := pk_rem ha h0 hb
theorem hn_add (a b : Nat) : nI a + nI b = nI (a + b) := nI_add a b
theorem hn_mul (a b : Nat) : nI a * nI b = nI (a * b) := pk_mul a b
theorem sp_mholds {d : Nat} (hd : 0 < d) {R : Nat → Nat → Int32} {X : hk_D} {Q : hk_Q} {h : Int32} {j : Nat} {P : hP} (MS : hf_MS P R) (ok : hf_ok P) (hj : j < P 3 0) (hh : h = nI j) (hQ : Q (some (.int (nI (hf_holds (P 7 j) (P 8 j))))) (hw R X)) : hk_call d mM_holds [.ref 98, .int h] (hw R X) Q := by
  obtain ⟨d, rfl⟩ : ∃ e, d = e + 1 := ⟨d - 1, by omega⟩
  subst hh
  have h6 := ok.2.1
  obtain ⟨m1, m2, m3⟩ := MS.2.2.2.2 j hj
  obtain ⟨k1, k2, -⟩ := ok.2.2.2.2.2 j hj
  refine hk_run2 (hk_call_m d) 100 ?_
  refine w_ld (j := j) (n := 6) rfl rfl (by omega) (by omega) rfl m1 ?_
  generalize P 7 j = kk at *
  have hk : kk = 0 ∨ kk = 1 ∨ kk = 2 ∨ kk = 3 ∨ kk = 4 ∨ kk = 5 := by omega
  have ti : (nI kk).toInt = kk := nI_toInt (by omega)
  refine And.intro (fun c => ?_) (And.intro (fun c => ?_) (And.intro (fun c => ?_) (And.intro (fun c => ?_) (And.intro (fun c => ?_) (And.intro (fun c => ?_) trivial)))))
  · rw [ti] at c
    have : kk = 0 := by simp at c; omega
    subst this
    exact hk_qe_of hQ
  · rw [ti] at c
    have : kk = 1 := by omega
    subst this
    refine w_ld (j := j) (n := 6) rfl rfl (by omega) (by omega) rfl m2 ?_
    refine And.intro (by decide) ?_
    have e : (3 : Int32) + nI (P 8 j) / 2 = nI (3 + P 8 j / 2) := by rw [show (2 : Int32) = nI 2 from rfl, hn_div (by omega) (by omega) (by omega), show (3 : Int32) = nI 3 from rfl, hn_add]
    rw [show hf_holds 1 (P 8 j) = 3 + P 8 j / 2 from rfl, ← e] at hQ
    exact hk_qe_of hQ
  · rw [ti] at c
    have : kk = 2 := by omega
    subst this
    exact hk_qe_of hQ
  · rw [ti] at c
    have : kk = 3 := by omega
    subst this
    refine w_ld (j := j) (n := 6) rfl rfl (by omega) (by omega) rfl m2 ?_
    refine And.intro (by decide) ?_
    have e : (2 : Int32) * ((3 : Int32) + nI (P 8 j) / 2) = nI (2 * (3 + P 8 j / 2)) := by rw [show (nI (P 8 j) / (2 : Int32)) = nI (P 8 j) / nI 2 from rfl, hn_div (by omega) (by omega) (by omega), show (3 : Int32) = nI 3 from rfl, hn_add, show (2 : Int32) = nI 2 from rfl, hn_mul]
    rw [show hf_holds 3 (P 8 j) = 2 * (3 + P 8 j / 2) from rfl, ← e] at hQ
    exact hk_qe_of hQ
  · rw [ti] at c
    have : kk = 4 := by omega
    subst this
    refine w_ld (j := j) (n := 6) rfl rfl (by omega) (by omega) rfl m2 ?_
    refine And.intro (by decide) ?_
    have e : hk_rem (nI (P 8 j)) 2 = nI (P 8 j % 2) := hn_rem (b := 2) (by omega) (by omega) (by omega)
    rw [e]
    refine And.intro (fun c2 => ?_) (fun c2 => ?_)
    · have : P 8 j % 2 = 1 := (nI_eq (by omega) (by omega)).mp c2
      rw [show hf_holds 4 (P 8 j) = 0 by show 1 - P 8 j % 2 = 0; omega] at hQ
      exact hk_qe_of hQ
    · have : P 8 j % 2 = 0 := by
        have : ¬ P 8 j % 2 = 1 := fun q => c2 (by rw [q]; rfl)
        omega
      rw [show hf_holds 4 (P 8 j) = 1 by show 1 - P 8 j % 2 = 1; omega] at hQ
      exact hk_qe_of hQ
  · rw [ti] at c
    have : kk = 5 := by omega
    subst this
    exact hk_qe_of hQ
end
section
/-! THE REFERENCE: the wind of an hour -/
def hfr (o : Nat) (R R' : Nat → Nat → Int32) : Prop := ∀ a k, ¬ (a = 105 ∧ o ≤ k ∧ k < o + 18) → R' a k = R a k
theorem hfr_rf {o : Nat} {R : Nat → Nat → Int32} : hfr o R R := fun _ _ _ => rfl
theorem hfr_tr {o : Nat} {R R1 R2 : Nat → Nat → Int32} (h1 : hfr o R R1) (h2 : hfr o R1 R2) : hfr o R R2 := fun a k h => (h2 a k h).trans (h1 a k h)
theorem hfr_up {o k : Nat} {R : Nat → Nat → Int32} {v : Int32} (h : o ≤ k ∧ k < o + 18) : hfr o R (up2 R 105 k v) := fun a j q => up2_n (fun z => q ⟨z.1, by rw [z.2]; exact h⟩)
theorem hf_upself (P : hP) (r j : Nat) : hf_up P r j (P r j) = P := by
  funext r' j'
  unfold hf_up
  split
  · rename_i h; rw [h.1, h.2]
  · rfl
/-- one hat is elsewhere -/
theorem hf_M_hat {o j q : Nat} {P : hP} {R R' : Nat → Nat → Int32} (M : hf_M o P R) (hj : j < P 3 0) (hq : q < 25 ∨ (25 ≤ q ∧ q < 25 + P 2 0) ∨ q = 30) (hs : ∀ a k, ¬ (a = 105 ∧ (k = o + (6 + j) ∨ k = o + (12 + j))) → R' a k = R a k) (h1 : R' 105 (o + (6 + j)) = hf_mw q) (h2 : q < 25 → R' 105 (o + (12 + j)) = nI q) (h3 : q = 30 → R' 105 (o + (12 + j)) = -1) : hf_M o (hf_up P 10 j q) R' := by
  obtain ⟨MS, MD, ho, h18, ok⟩ := M
  have h6 := ok.2.1
  have h5 := ok.1
  have ne : ∀ a k, a ≠ 105 → R' a k = R a k := fun a k h => hs a k (fun z => h z.1)
  have P2 : hf_up P 10 j q 2 0 = P 2 0 := hf_up_r (by decide)
  have P3 : hf_up P 10 j q 3 0 = P 3 0 := hf_up_r (by decide)
  refine ⟨⟨?_, ?_, ?_, ?_, ?_⟩, ⟨?_, ?_, ?_⟩, ?_, h18, ⟨?_, ?_, ?_, ?_, ?_, ?_⟩⟩
  · rw [ne _ _ (by decide), P2]; exact MS.1
  · rw [ne _ _ (by decide), P3]; exact MS.2.1
  · intro i hi
    rw [ne _ _ (by decide), ne _ _ (by decide), hf_up_r (by decide), hf_up_r (by decide)]; exact MS.2.2.1 i hi
  · intro p hp
    rw [P2] at hp
    rw [ne _ _ (by decide), hf_up_r (by decide)]; exact MS.2.2.2.1 p hp
  · intro i hi
    rw [P3] at hi
    rw [ne _ _ (by decide), ne _ _ (by decide), ne _ _ (by decide), hf_up_r (by decide), hf_up_r (by decide), hf_up_r (by decide)]; exact MS.2.2.2.2 i hi
  · rw [hs _ _ (by omega), hf_up_r (by decide)]; exact MD.1
  · intro p hp
    rw [P2] at hp
    rw [hs _ _ (by omega), hf_up_r (by decide)]; exact MD.2.1 p hp
  · intro i hi
    rw [P3] at hi
    by_cases hij : i = j
    · subst hij
      rw [hf_up_s]
      exact ⟨h1, h2, h3⟩
    · rw [hs _ _ (by omega), hs _ _ (by omega), hf_up_j hij]
      exact MD.2.2 i hi
  · rw [ne _ _ (by decide)]; exact ho
  · rw [P2]; exact ok.1
  · rw [P3]; exact ok.2.1
  · rw [hf_up_r (by decide)]; exact ok.2.2.1
  · intro i hi
    rw [hf_up_r (by decide), hf_up_r (by decide)]; exact ok.2.2.2.1 i hi
  · intro p hp
    rw [P2] at hp
    rw [hf_up_r (by decide), hf_up_r (by decide)]; exact ok.2.2.2.2.1 p hp
  · intro i hi
    rw [P3] at hi
    rw [hf_up_r (by decide), hf_up_r (by decide), hf_up_r (by decide), P2]
    obtain ⟨k1, k2, k3, k4⟩ := ok.2.2.2.2.2 i hi
    refine ⟨k1, k2, k3, ?_⟩
    by_cases hij : i = j
    · subst hij; rw [hf_up_s]; exact hq
    · rw [hf_up_j hij]; exact k4
theorem sp_mlays {d : Nat} (hd : 2 < d) {R : Nat → Nat → Int32} {X : hk_D} {Q : hk_Q} {h : Int32} {o j : Nat} {P : hP} (M : hf_M o P R) (hj : j < P 3 0) (hh : h = nI j) (hw1 : 25 ≤ P 10 j ∧ P 10 j < 30) (hQ : ∀ R', hf_M o (hf_up P 10 j (P 5 (P 10 j - 25))) R' → hfr o R R' → R' 105 (o + (12 + j)) = nI (P 5 (P 10 j - 25)) → Q none (hw R' X)) : hk_call d mM_lays [.ref 98, .int h] (hw R X) Q := by
  obtain ⟨d, rfl⟩ : ∃ e, d = e + 1 := ⟨d - 1, by omega⟩
  subst hh
  have M0 := M
  obtain ⟨MS, MD, ho, h18, ok⟩ := M0
  have h6 := ok.2.1
  have h5 := ok.1
  have cs := (ok.2.2.2.2.2 j hj).2.2.2
  have hp : P 10 j - 25 < P 2 0 := by omega
  have hpl := (ok.2.2.2.2.1 _ hp).1
  refine hk_run2 (hk_call_m d) 100 ?_
  refine sp_mplaceOf (by omega) M hj rfl ?_
  have e1 : hf_pl P j = nI (P 5 (P 10 j - 25)) := by unfold hf_pl; rw [if_neg (by omega), if_pos hw1.2]
  rw [e1]
  refine sp_becomes (by omega) ho (j := 12 + j) (by rw [← nI_add]; rfl) (by omega) ?_
  refine sp_becomes (by omega) (by rw [up2_a (by decide)]; exact ho) (j := 6 + j) (by rw [← nI_add]; rfl) (by omega) ?_
  refine hk_qe_of (hQ _ ?_ ?_ ?_)
  · refine hf_M_hat M hj (Or.inl hpl) (fun a k q => ?_) ?_ (fun _ => ?_) (fun q => by omega)
    · rw [up2_n (fun z => q ⟨z.1, Or.inl z.2⟩), up2_n (fun z => q ⟨z.1, Or.inr z.2⟩)]
    · rw [up2_s, hf_mw_n (by omega)]
    · rw [up2_k (by omega), up2_s]
  · exact hfr_tr (hfr_up (by omega)) (hfr_up (by omega))
  · rw [up2_k (by omega), up2_s]
theorem hn_2mul (x : Nat) : (2 : Int32) * nI x = nI (2 * x) := hn_mul 2 x
theorem hn_div2 {x : Nat} (h : x < 2 ^ 31) : nI x / 2 = nI (x / 2) := hn_div (b := 2) h (by omega) (by omega)
theorem sp_mflies {d : Nat} (hd : 0 < d) {R : Nat → Nat → Int32} {X : hk_D} {Q : hk_Q} {h v : Int32} {j f : Nat} {P : hP} (MS : hf_MS P R) (ok : hf_ok P) (hj : j < P 3 0) (hh : h = nI j) (hv : v = nI f) (hf : f < 10) (hQ : Q (some (.int (nI (hf_flies (P 7 j) f)))) (hw R X)) : hk_call d mM_flies [.ref 98, .int h, .int v] (hw R X) Q := by
  obtain ⟨d, rfl⟩ : ∃ e, d = e + 1 := ⟨d - 1, by omega⟩
  subst hh; subst hv
  have h6 := ok.2.1
  obtain ⟨m1, m2, m3⟩ := MS.2.2.2.2 j hj
  obtain ⟨k1, k2, -⟩ := ok.2.2.2.2.2 j hj
  refine hk_run2 (hk_call_m d) 100 ?_
  refine And.intro (by decide) ?_
  have e3 : nI f / 3 = nI (f / 3) := hn_div (b := 3) (by omega) (by omega) (by omega)
  rw [e3]
  have eq1 : ∀ a b : Nat, a < 10 → b < 10 → (nI a = nI b ↔ a = b) := fun a b ha hb => nI_eq (by omega) (by omega)
  generalize P 7 j = kk at *
  have key : ∀ (mo : Nat), mo < 100 → mo = (if 0 < f then f / 3 + 1 else f / 3) → hk_wp (some .int) 0 0 hk_dft cM_flies (hk_call d) (hk_qe Q) 12 [(4, .int (nI mo)), (3, .int (nI (f / 3))), (0, .ref 98), (1, .int (nI j)), (2, .int (nI f))] [] (hw R X) 0 0 := by
    intro mo hmo emo
    refine hk_run2 (hk_call_m d) 100 ?_
    refine w_ld (j := j) (n := 6) rfl rfl (by omega) (by omega) rfl m1 ?_
    refine And.intro (fun c => ?_) (fun c => ?_)
    · have : kk = 2 := (eq1 kk 2 (by omega) (by omega)).mp c
      subst this
      rw [show hf_flies 2 f = mo from emo.symm] at hQ
      exact hk_qe_of hQ
    · have n2 : kk ≠ 2 := fun q => c (by rw [q]; rfl)
      refine w_ld (j := j) (n := 6) rfl rfl (by omega) (by omega) rfl m1 ?_
      refine And.intro (fun c => ?_) (fun c => ?_)
      · have : kk = 4 := (eq1 kk 4 (by omega) (by omega)).mp c
        subst this
        rw [show hf_flies 4 f = 2 * mo by rw [emo]; rfl, ← hn_2mul] at hQ
        exact hk_qe_of hQ
      · have n4 : kk ≠ 4 := fun q => c (by rw [q]; rfl)
        refine w_ld (j := j) (n := 6) rfl rfl (by omega) (by omega) rfl m1 ?_
        refine And.intro (fun c => ?_) (fun c => ?_)
        · have : kk = 5 := (eq1 kk 5 (by omega) (by omega)).mp c
          subst this
          refine And.intro (by decide) ?_
          rw [show hf_flies 5 f = f / 3 / 2 from rfl, ← hn_div2 (by omega)] at hQ
          exact hk_qe_of hQ
        · have n5 : kk ≠ 5 := fun q => c (by rw [q]; rfl)
          have e0 : hf_flies kk f = f / 3 := by
            have : kk = 0 ∨ kk = 1 ∨ kk = 3 := by omega
            rcases this with q | q | q <;> rw [q] <;> rfl
          rw [e0] at hQ
          exact hk_qe_of hQ
  refine And.intro (fun c => ?_) (fun c => ?_)
  · have h0 : f = 0 := by
      have : nI f ≤ nI 0 := c
      have := (nI_leI (by omega) (by omega)).mp this
      omega
    refine hk_stop2 (hk_call_m d) (hk_run2 (hk_call_m d) 2 ?_)
    exact key (f / 3) (by omega) (by rw [if_neg (by omega)])
  · have h0 : 0 < f := by
      rcases Nat.eq_zero_or_pos f with q | q
      · exact absurd (by rw [q]; decide) c
      · exact q
    have e1 : nI (f / 3) + 1 = nI (f / 3 + 1) := nI_1 _
    have := key (f / 3 + 1) (by omega) (by rw [if_pos h0])
    rw [← e1] at this
    refine hk_stop2 (hk_call_m d) (hk_run2 (hk_call_m d) 5 ?_)
    exact this
end
section
/-! THE REFERENCE: blows -/
theorem sp_inR {d : Nat} (hd : 0 < d) {h : hk_Hp} {Q : hk_Q} {v a b : Int32} (h1 : ¬ v < a → ¬ b < v → Q (some (.int 1)) h) (h0 : v < a ∨ b < v → Q (some (.int 0)) h) : hk_call d mM_in [.int v, .int a, .int b] h Q := by
  obtain ⟨d, rfl⟩ : ∃ e, d = e + 1 := ⟨d - 1, by omega⟩
  refine hk_run2 (hk_call_m d) 100 ?_
  refine And.intro (fun c => ?_) (fun c => ?_)
  · exact And.intro (by decide) (hk_qe_of (h0 (Or.inl c)))
  · refine And.intro (fun c2 => ?_) (fun c2 => ?_)
    · exact And.intro (by decide) (hk_qe_of (h0 (Or.inr c2)))
    · exact And.intro (by decide) (hk_qe_of (h1 c c2))
def fl_x (d : Nat) (q n : Int32) : Int32 := hk_rem q 5 + (match d with
  | 1 => n
  | 3 => 0 - n
  | _ => 0)
def fl_y (d : Nat) (q n : Int32) : Int32 := q / 5 + (match d with
  | 2 => n
  | 0 => 0 - n
  | _ => 0)
def fl_b (d n q : Nat) : Bool :=
  let x := fl_x d (nI q) (nI n)
  let y := fl_y d (nI q) (nI n)
  bif (!decide (x < 0)) && (!decide (4 < x)) && (!decide (y < 0)) && (!decide (4 < y)) then Nat.blt (hf_fly d n q) 25 && decide (5 * y + x = nI (hf_fly d n q)) else Nat.beq (hf_fly d n q) 30
theorem fl_bt : ∀ d, d < 4 → ∀ n, n < 9 → ∀ q, q < 25 → fl_b d n q = true := by decide +kernel
theorem fl_dec (d : Nat) (hd : d < 4) (n : Nat) (hn : n < 9) (q : Nat) (hq : q < 25) : (¬ fl_x d (nI q) (nI n) < 0 ∧ ¬ 4 < fl_x d (nI q) (nI n) ∧ ¬ fl_y d (nI q) (nI n) < 0 ∧ ¬ 4 < fl_y d (nI q) (nI n) → hf_fly d n q < 25 ∧ 5 * fl_y d (nI q) (nI n) + fl_x d (nI q) (nI n) = nI (hf_fly d n q)) ∧
  (fl_x d (nI q) (nI n) < 0 ∨ 4 < fl_x d (nI q) (nI n) ∨ fl_y d (nI q) (nI n) < 0 ∨ 4 < fl_y d (nI q) (nI n) → hf_fly d n q = 30) := by
  have h := fl_bt d hd n hn q hq
  unfold fl_b at h
  dsimp only at h
  constructor
  · rintro ⟨a, b, c, e⟩
    rw [decide_eq_false a, decide_eq_false b, decide_eq_false c, decide_eq_false e] at h
    have h : (Nat.blt (hf_fly d n q) 25 && decide (5 * fl_y d (nI q) (nI n) + fl_x d (nI q) (nI n) = nI (hf_fly d n q))) = true := h
    rw [Bool.and_eq_true] at h
    exact ⟨hk_blt h.1, of_decide_eq_true h.2⟩
  · intro g
    have e : ((!decide (fl_x d (nI q) (nI n) < 0)) && (!decide (4 < fl_x d (nI q) (nI n))) && (!decide (fl_y d (nI q) (nI n) < 0)) && (!decide (4 < fl_y d (nI q) (nI n)))) = false := by
      rcases g with g | g | g | g <;> simp [g]
    rw [e] at h
    exact Nat.eq_of_beq_eq_true h
theorem hf_drops_P {P : hP} {f m r j : Nat} (h : ¬ (r = 10 ∧ j < m)) : hf_drops P f m r j = P r j := if_neg h
theorem hf_mix_P {P : hP} {dir f m n r j : Nat} (h : r ≠ 10) : hf_mix P dir f m n r j = P r j := by
  unfold hf_mix
  rw [if_neg (fun q => h q.1), hf_drops_P (fun q => h q.1)]
theorem hf_mix_at {P : hP} {dir f m n : Nat} (h : n < m) : hf_mix P dir f m n 10 n = hf_drop P f n := by
  unfold hf_mix hf_drops
  rw [if_neg (by omega), if_pos ⟨rfl, h⟩]
set_option maxHeartbeats 4000000 in
theorem sp_mblows {d : Nat} (hd : 3 < d) {R0 : Nat → Nat → Int32} {X : hk_D} {Q : hk_Q} {v1 v2 : Int32} {o dir f : Nat} {P : hP} (M : hf_M o P R0) (e1 : v1 = nI dir) (e2 : v2 = nI f) (hdir : dir < 4) (hf : f < 10) (hQ : ∀ R', hf_M o (hf_blow P dir f (P 3 0)) R' → hfr o R0 R' → Q none (hw R' X)) : hk_call d mM_blows [.ref 98, .int v1, .int v2] (hw R0 X) Q := by
  obtain ⟨d, rfl⟩ : ∃ e, d = e + 1 := ⟨d - 1, by omega⟩
  subst e1; subst e2
  have h6 := M.2.2.2.2.2.1
  have h18 := M.2.2.2.1
  have L2 : ∀ j, j ≤ P 3 0 → ∀ R, hf_M o (hf_mix P dir f (P 3 0) j) R → hfr o R0 R → hk_wp none 0 0 hk_dft cM_blows (hk_call d) (hk_qe Q) 24 [(3, .int (nI j)), (0, .ref 98), (1, .int (nI dir)), (2, .int (nI f))] [] (hw R X) 0 0 := by
    refine hk_for ?_ ?_
    · intro R MR fr
      refine hk_run2 (hk_call_m d) 100 ?_
      have eh : R 98 4 = nI (P 3 0) := by rw [MR.1.2.1, hf_mix_P (by decide)]
      rw [hf_mix_e] at MR
      refine And.intro (fun c => hk_qe_of (hQ R MR fr)) (fun c => ?_)
      exact absurd (by rw [eh]; exact nI_le (Nat.le_refl _) (by omega)) c
    · intro j hj ih R MR fr
      have n3 : hf_mix P dir f (P 3 0) j 3 0 = P 3 0 := hf_mix_P (by decide)
      have hj' : j < hf_mix P dir f (P 3 0) j 3 0 := by rw [n3]; exact hj
      have eh : R 98 4 = nI (P 3 0) := by rw [MR.1.2.1, n3]
      have okj := MR.2.2.2.2
      have ho := MR.2.2.1
      have hmd := MR.2.1.2.2 j hj'
      rw [hf_mix_at hj] at hmd
      have ek : hf_mix P dir f (P 3 0) j 7 j = P 7 j := hf_mix_P (by decide)
      refine hk_run2 (hk_call_m d) 200 ?_
      refine And.intro (fun c => absurd c (by rw [eh]; exact nI_ge hj (by omega))) (fun c => ?_)
      refine sp_isLying (by omega) MR hj' rfl (fun hl => ?_) (fun hl => ?_)
      · rw [hf_mix_at hj] at hl
        refine And.intro (fun c => absurd c (by decide)) (fun _ => ?_)
        refine sp_mflies (by omega) MR.1 okj hj' rfl rfl hf ?_
        rw [ek]
        have kk6 : P 7 j < 6 := by have := (okj.2.2.2.2.2 j hj').1; rw [ek] at this; exact this
        have hfl := hf_flies_lt (P 7 j) kk6 f hf
        have ec : R 105 (o + (12 + j)) = nI (hf_drop P f j) := hmd.2.1 hl
        have hfd := fl_dec dir hdir (hf_flies (P 7 j) f) hfl (hf_drop P f j) hl
        have eair : hf_air P dir f j (hf_drop P f j) = hf_fly dir (hf_flies (P 7 j) f) (hf_drop P f j) := if_pos hl
        -- what follows the choice of the way
        have key : hk_wp none 0 0 hk_dft cM_blows (hk_call d) (hk_qe Q) 80 [(6, .int (fl_y dir (nI (hf_drop P f j)) (nI (hf_flies (P 7 j) f)))), (5, .int (fl_x dir (nI (hf_drop P f j)) (nI (hf_flies (P 7 j) f)))), (4, .int (nI (hf_flies (P 7 j) f))), (3, .int (nI j)), (0, .ref 98), (1, .int (nI dir)), (2, .int (nI f))] [] (hw R X) 0 0 := by
          generalize fl_x dir (nI (hf_drop P f j)) (nI (hf_flies (P 7 j) f)) = xx at hfd ⊢
          generalize fl_y dir (nI (hf_drop P f j)) (nI (hf_flies (P 7 j) f)) = yy at hfd ⊢
          have bad : (hf_fly dir (hf_flies (P 7 j) f) (hf_drop P f j) = 30) → hk_ru none 0 0 cM_blows (hk_call d) (hk_qe Q) 90 101 [(6, .int yy), (5, .int xx), (4, .int (nI (hf_flies (P 7 j) f))), (3, .int (nI j)), (0, .ref 98), (1, .int (nI dir)), (2, .int (nI f))] [.int (-1), .int (12 + nI j), .ref 98] (hw R X) 0 0 := by
            intro e30
            refine sp_becomes (by omega) ho (j := 12 + j) (by rw [← nI_add]; rfl) (by omega) ?_
            refine Exists.intro [0, 4, 5, 6] ?_
            rw [nI_1]
            refine hk_stop2 (hk_call_m d) (ih _ ?_ (hfr_tr fr (hfr_up (by omega))))
            rw [hf_mix_s, eair, e30]
            refine hf_M_hat MR hj' (Or.inr (Or.inr rfl)) (fun a k q => up2_n (fun z => q ⟨z.1, Or.inr z.2⟩)) ?_ (fun q => absurd q (by decide)) (fun _ => up2_s _ _ _ _)
            rw [up2_k (by omega), hmd.1, hf_mw_n (by omega)]; rfl
          refine hk_run2 (hk_call_m d) 100 ?_
          refine sp_inR (by omega) (fun g1 g2 => ?_) (fun g1 => ?_)
          · refine And.intro (fun c => absurd c (by decide)) (fun _ => ?_)
            refine sp_inR (by omega) (fun g3 g4 => ?_) (fun g3 => ?_)
            · refine And.intro (fun c => absurd c (by decide)) (fun _ => ?_)
              obtain ⟨q1, q2⟩ := hfd.1 ⟨g1, g2, g3, g4⟩
              refine sp_becomes (by omega) ho (j := 12 + j) (by rw [← nI_add]; rfl) (by omega) ?_
              rw [q2]
              refine Exists.intro [0, 4, 5, 6] ?_
              rw [nI_1]
              refine hk_stop2 (hk_call_m d) (ih _ ?_ (hfr_tr fr (hfr_up (by omega))))
              rw [hf_mix_s, eair]
              refine hf_M_hat MR hj' (Or.inl q1) (fun a k q => up2_n (fun z => q ⟨z.1, Or.inr z.2⟩)) ?_ (fun _ => up2_s _ _ _ _) (fun q => by omega)
              rw [up2_k (by omega), hmd.1, hf_mw_n (by omega), hf_mw_n (by omega)]
            · refine And.intro (fun _ => ?_) (fun c => absurd rfl c)
              have e30 := hfd.2 (by rcases g3 with q | q; exact Or.inr (Or.inr (Or.inl q)); exact Or.inr (Or.inr (Or.inr q)))
              refine hk_stop2 (hk_call_m d) (hk_run2 (hk_call_m d) 1 ?_)
              exact hk_run2 (hk_call_m d) 90 (bad e30)
          · refine And.intro (fun _ => ?_) (fun c => absurd rfl c)
            have e30 := hfd.2 (by rcases g1 with q | q; exact Or.inl q; exact Or.inr (Or.inl q))
            refine hk_stop2 (hk_call_m d) (hk_run2 (hk_call_m d) 1 ?_)
            exact hk_run2 (hk_call_m d) 90 (bad e30)
        refine sp_its (by omega) ho (j := 12 + j) (by rw [← nI_add]; rfl) (by omega) ?_
        rw [ec]
        refine And.intro (by decide) ?_
        have hdc : dir = 0 ∨ dir = 1 ∨ dir = 2 ∨ dir = 3 := by omega
        rcases hdc with rfl | rfl | rfl | rfl
        · refine And.intro (fun c => absurd c (by decide)) (fun _ => ?_)
          refine And.intro (fun c => absurd c (by decide)) (fun _ => ?_)
          refine sp_its (by omega) ho (j := 12 + j) (by rw [← nI_add]; rfl) (by omega) ?_
          rw [ec]
          refine And.intro (by decide) ?_
          refine And.intro (fun c => absurd c (by decide)) (fun _ => ?_)
          refine And.intro (fun _ => ?_) (fun c => absurd rfl c)
          refine hk_stop2 (hk_call_m d) (hk_run2 (hk_call_m d) 6 ?_)
          exact key
        · refine And.intro (fun _ => ?_) (fun c => absurd rfl c)
          refine sp_its (by omega) ho (j := 12 + j) (by rw [← nI_add]; rfl) (by omega) ?_
          rw [ec]
          refine And.intro (by decide) ?_
          refine And.intro (fun c => absurd c (by decide)) (fun _ => ?_)
          refine And.intro (fun c => absurd c (by decide)) (fun _ => ?_)
          refine hk_stop2 (hk_call_m d) (hk_run2 (hk_call_m d) 3 ?_)
          exact key
        · refine And.intro (fun c => absurd c (by decide)) (fun _ => ?_)
          refine And.intro (fun c => absurd c (by decide)) (fun _ => ?_)
          refine sp_its (by omega) ho (j := 12 + j) (by rw [← nI_add]; rfl) (by omega) ?_
          rw [ec]
          refine And.intro (by decide) ?_
          refine And.intro (fun _ => ?_) (fun c => absurd rfl c)
          refine hk_stop2 (hk_call_m d) (hk_run2 (hk_call_m d) 4 ?_)
          exact key
        · refine And.intro (fun c => absurd c (by decide)) (fun _ => ?_)
          refine And.intro (fun _ => ?_) (fun c => absurd rfl c)
          refine sp_its (by omega) ho (j := 12 + j) (by rw [← nI_add]; rfl) (by omega) ?_
          rw [ec]
          refine And.intro (by decide) ?_
          refine And.intro (fun c => absurd c (by decide)) (fun _ => ?_)
          refine And.intro (fun c => absurd c (by decide)) (fun _ => ?_)
          refine hk_stop2 (hk_call_m d) (hk_run2 (hk_call_m d) 3 ?_)
          exact key
      · rw [hf_mix_at hj] at hl
        refine And.intro (fun _ => ?_) (fun c => absurd rfl c)
        refine Exists.intro [0, 1, 2, 3] ?_
        rw [nI_1]
        refine hk_stop2 (hk_call_m d) (ih R ?_ fr)
        rw [hf_mix_s, show hf_air P dir f j (hf_drop P f j) = hf_mix P dir f (P 3 0) j 10 j by rw [hf_mix_at hj]; exact if_neg hl, hf_upself]
        exact MR
  have L1 : ∀ j, j ≤ P 3 0 → ∀ R, hf_M o (hf_drops P f j) R → hfr o R0 R → hk_wp none 0 0 hk_dft cM_blows (hk_call d) (hk_qe Q) 2 [(3, .int (nI j)), (0, .ref 98), (1, .int (nI dir)), (2, .int (nI f))] [] (hw R X) 0 0 := by
    refine hk_for ?_ ?_
    · intro R MR fr
      refine hk_run2 (hk_call_m d) 100 ?_
      have eh : R 98 4 = nI (P 3 0) := by rw [MR.1.2.1, hf_drops_P (by omega)]
      refine And.intro (fun c => ?_) (fun c => absurd (by rw [eh]; exact nI_le (Nat.le_refl _) (by omega)) c)
      refine hk_stop2 (hk_call_m d) (hk_run2 (hk_call_m d) 2 ?_)
      exact L2 0 (Nat.zero_le _) R (by rw [hf_mix_0]; exact MR) fr
    · intro j hj ih R MR fr
      have n3 : hf_drops P f j 3 0 = P 3 0 := hf_drops_P (by omega)
      have hj' : j < hf_drops P f j 3 0 := by rw [n3]; exact hj
      have eh : R 98 4 = nI (P 3 0) := by rw [MR.1.2.1, n3]
      have okj := MR.2.2.2.2
      have ho := MR.2.2.1
      have hmd := MR.2.1.2.2 j hj'
      have eq : hf_drops P f j 10 j = P 10 j := hf_drops_P (by omega)
      have e7 : hf_drops P f j 7 j = P 7 j := hf_drops_P (by omega)
      have e8 : hf_drops P f j 8 j = P 8 j := hf_drops_P (by omega)
      have e5 : ∀ p, hf_drops P f j 5 p = P 5 p := fun p => hf_drops_P (by omega)
      have same : hf_drop P f j = P 10 j → hf_drops P f (j + 1) = hf_drops P f j := fun q => by rw [hf_drops_s, q, ← eq, hf_upself]
      have back : hf_drop P f j = P 10 j → hk_wp none 0 0 hk_dft cM_blows (hk_call d) (hk_qe Q) 20 [(3, .int (nI j)), (0, .ref 98), (1, .int (nI dir)), (2, .int (nI f))] [] (hw R X) 0 0 := by
        intro q
        refine hk_run2 (hk_call_m d) 100 ?_
        refine Exists.intro [0, 1, 2, 3] ?_
        rw [nI_1]
        exact hk_stop2 (hk_call_m d) (ih R (by rw [same q]; exact MR) fr)
      refine hk_run2 (hk_call_m d) 200 ?_
      refine And.intro (fun c => absurd c (by rw [eh]; exact nI_ge hj (by omega))) (fun c => ?_)
      refine sp_its (by omega) ho (j := 6 + j) (by rw [← nI_add]; rfl) (by omega) ?_
      rw [hmd.1, eq]
      refine And.intro (fun c => ?_) (fun c => ?_)
      · refine hk_stop2 (hk_call_m d) (back ?_)
        refine if_neg (fun q => ?_)
        rw [hf_mw_w ⟨q.1, q.2.1⟩] at c
        exact absurd c (hn_npos (by omega))
      · have hw1 : 25 ≤ P 10 j ∧ P 10 j < 30 := by
          by_cases q : 25 ≤ P 10 j ∧ P 10 j < 30
          · exact q
          · exact absurd (by rw [hf_mw_n q]; decide) c
        refine sp_mholds (by omega) MR.1 okj hj' rfl ?_
        rw [e7, e8]
        have k1 := (okj.2.2.2.2.2 j hj').1
        have k2 := (okj.2.2.2.2.2 j hj').2.1
        rw [e7] at k1
        rw [e8] at k2
        have hh := hf_holds_lt (P 7 j) k1 (P 8 j) k2
        refine And.intro (fun c => ?_) (fun c => ?_)
        · refine hk_stop2 (hk_call_m d) (back (if_neg (fun q => ?_)))
          have := (nI_leI (by omega) (by omega)).mp c
          omega
        · have hlt : hf_holds (P 7 j) (P 8 j) < f := by
            rcases Nat.lt_or_ge (hf_holds (P 7 j) (P 8 j)) f with q | q
            · exact q
            · exact absurd (nI_le q (by omega)) c
          refine sp_mlays (by omega) MR hj' rfl (by rw [eq]; exact hw1) (fun R' MR' fr' _ => ?_)
          refine Exists.intro [0, 1, 2, 3] ?_
          rw [nI_1]
          refine hk_stop2 (hk_call_m d) (ih R' ?_ (hfr_tr fr fr'))
          rw [eq, e5] at MR'
          rw [hf_drops_s, show hf_drop P f j = P 5 (P 10 j - 25) from if_pos ⟨hw1.1, hw1.2, hlt⟩]
          exact MR'
  refine hk_run2 (hk_call_m d) 2 ?_
  exact L1 0 (Nat.zero_le _) R0 (by rw [hf_drops_0]; exact M) hfr_rf
end
section
/-! THE REFERENCE: people run; hours go -/
def ap_v (a b : Nat) : Int32 := (if 0 ≤ hk_rem (nI a) 5 - hk_rem (nI b) 5 then hk_rem (nI a) 5 - hk_rem (nI b) 5 else 0 - (hk_rem (nI a) 5 - hk_rem (nI b) 5)) + (if 0 ≤ nI a / 5 - nI b / 5 then nI a / 5 - nI b / 5 else 0 - (nI a / 5 - nI b / 5))
theorem ap_ok : ∀ a, a < 25 → ∀ b, b < 25 → ap_v a b = nI (hf_dist a b) := by decide +kernel
theorem sp_apart {d : Nat} (hd : 0 < d) {h : hk_Hp} {Q : hk_Q} {v w : Int32} {a b : Nat} (ev : v = nI a) (ew : w = nI b) (ha : a < 25) (hb : b < 25) (hQ : Q (some (.int (nI (hf_dist a b)))) h) : hk_call d mM_apart [.int v, .int w] h Q := by
  obtain ⟨d, rfl⟩ : ∃ e, d = e + 1 := ⟨d - 1, by omega⟩
  subst ev; subst ew
  have e := ap_ok a ha b hb
  unfold ap_v at e
  rw [← e] at hQ
  refine hk_run2 (hk_call_m d) 100 ?_
  refine And.intro (by decide) (And.intro (by decide) (And.intro (by decide) (And.intro (by decide) ?_)))
  refine And.intro (fun c => ?_) (fun c => ?_)
  · refine And.intro (fun c2 => ?_) (fun c2 => ?_)
    · rw [if_pos c, if_pos c2] at hQ; exact hk_qe_of hQ
    · rw [if_pos c, if_neg c2] at hQ; exact hk_qe_of hQ
  · refine And.intro (fun c2 => ?_) (fun c2 => ?_)
    · rw [if_neg c, if_pos c2] at hQ; exact hk_qe_of hQ
    · rw [if_neg c, if_neg c2] at hQ; exact hk_qe_of hQ
def st_v (f t : Nat) : Int32 := if 0 ≤ hk_rem (nI f) 5 - hk_rem (nI t) 5 then (if hk_rem (nI f) 5 - hk_rem (nI t) 5 ≤ 0 then (if nI t ≤ nI f then (if nI f ≤ nI t then nI f else nI f - 5) else nI f + 5) else nI f - 1) else nI f + 1
theorem st_ok : ∀ f, f < 25 → ∀ t, t < 25 → st_v f t = nI (hf_st1 f t) := by decide +kernel
theorem sp_stepTo {d : Nat} (hd : 0 < d) {h : hk_Hp} {Q : hk_Q} {v w : Int32} {a b : Nat} (ev : v = nI a) (ew : w = nI b) (ha : a < 25) (hb : b < 25) (hQ : Q (some (.int (nI (hf_st1 a b)))) h) : hk_call d mM_stepTo [.int v, .int w] h Q := by
  obtain ⟨d, rfl⟩ : ∃ e, d = e + 1 := ⟨d - 1, by omega⟩
  subst ev; subst ew
  have e := st_ok a ha b hb
  unfold st_v at e
  rw [← e] at hQ
  refine hk_run2 (hk_call_m d) 100 ?_
  refine And.intro (by decide) (And.intro (by decide) ?_)
  refine And.intro (fun c => ?_) (fun c => ?_)
  · rw [if_pos c] at hQ
    refine And.intro (fun c => ?_) (fun c => ?_)
    · rw [if_pos c] at hQ
      refine And.intro (fun c => ?_) (fun c => ?_)
      · rw [if_pos c] at hQ
        refine And.intro (fun c => ?_) (fun c => ?_)
        · rw [if_pos c] at hQ; exact hk_qe_of hQ
        · rw [if_neg c] at hQ; exact hk_qe_of hQ
      · rw [if_neg c] at hQ; exact hk_qe_of hQ
    · rw [if_neg c] at hQ; exact hk_qe_of hQ
  · rw [if_neg c] at hQ; exact hk_qe_of hQ
/-- one person is elsewhere -/
theorem hf_M_place {o j q : Nat} {P : hP} {R R' : Nat → Nat → Int32} (M : hf_M o P R) (hj : j < P 2 0) (hq : q < 25) (hs : ∀ a k, ¬ (a = 105 ∧ k = o + (1 + j)) → R' a k = R a k) (h1 : R' 105 (o + (1 + j)) = nI q) : hf_M o (hf_up P 5 j q) R' := by
  obtain ⟨MS, MD, ho, h18, ok⟩ := M
  have h6 := ok.2.1
  have h5 := ok.1
  have ne : ∀ a k, a ≠ 105 → R' a k = R a k := fun a k h => hs a k (fun z => h z.1)
  have P2 : hf_up P 5 j q 2 0 = P 2 0 := hf_up_r (by decide)
  have P3 : hf_up P 5 j q 3 0 = P 3 0 := hf_up_r (by decide)
  refine ⟨⟨?_, ?_, ?_, ?_, ?_⟩, ⟨?_, ?_, ?_⟩, ?_, h18, ⟨?_, ?_, ?_, ?_, ?_, ?_⟩⟩
  · rw [ne _ _ (by decide), P2]; exact MS.1
  · rw [ne _ _ (by decide), P3]; exact MS.2.1
  · intro i hi
    rw [ne _ _ (by decide), ne _ _ (by decide), hf_up_r (by decide), hf_up_r (by decide)]; exact MS.2.2.1 i hi
  · intro p hp
    rw [P2] at hp
    rw [ne _ _ (by decide), hf_up_r (by decide)]; exact MS.2.2.2.1 p hp
  · intro i hi
    rw [P3] at hi
    rw [ne _ _ (by decide), ne _ _ (by decide), ne _ _ (by decide), hf_up_r (by decide), hf_up_r (by decide), hf_up_r (by decide)]; exact MS.2.2.2.2 i hi
  · rw [hs _ _ (by omega), hf_up_r (by decide)]; exact MD.1
  · intro p hp
    rw [P2] at hp
    by_cases hij : p = j
    · subst hij; rw [hf_up_s]; exact h1
    · rw [hs _ _ (by omega), hf_up_j hij]; exact MD.2.1 p hp
  · intro i hi
    rw [P3] at hi
    rw [hs _ _ (by omega), hs _ _ (by omega), hf_up_r (by decide)]
    exact MD.2.2 i hi
  · rw [ne _ _ (by decide)]; exact ho
  · rw [P2]; exact ok.1
  · rw [P3]; exact ok.2.1
  · rw [hf_up_r (by decide)]; exact ok.2.2.1
  · intro i hi
    rw [hf_up_r (by decide), hf_up_r (by decide)]; exact ok.2.2.2.1 i hi
  · intro p hp
    rw [P2] at hp
    rw [hf_up_r (show 6 ≠ 5 by decide)]
    by_cases hij : p = j
    · subst hij; rw [hf_up_s]; exact ⟨hq, (ok.2.2.2.2.1 p hp).2⟩
    · rw [hf_up_j hij]; exact ok.2.2.2.2.1 p hp
  · intro i hi
    rw [P3] at hi
    rw [hf_up_r (by decide), hf_up_r (by decide), hf_up_r (by decide), hf_up_r (by decide), P2]
    exact ok.2.2.2.2.2 i hi
/-- it is another hour -/
theorem hf_M_now {o q : Nat} {P : hP} {R R' : Nat → Nat → Int32} (M : hf_M o P R) (hq : q ≤ 200) (hs : ∀ a k, ¬ (a = 105 ∧ k = o) → R' a k = R a k) (h1 : R' 105 o = nI q) : hf_M o (hf_up P 4 0 q) R' := by
  obtain ⟨MS, MD, ho, h18, ok⟩ := M
  have ne : ∀ a k, a ≠ 105 → R' a k = R a k := fun a k h => hs a k (fun z => h z.1)
  have rr : ∀ r j, r ≠ 4 → hf_up P 4 0 q r j = P r j := fun r j h => hf_up_r h
  refine ⟨⟨?_, ?_, ?_, ?_, ?_⟩, ⟨?_, ?_, ?_⟩, ?_, h18, ⟨?_, ?_, ?_, ?_, ?_, ?_⟩⟩
  · rw [ne _ _ (by decide), rr _ _ (by decide)]; exact MS.1
  · rw [ne _ _ (by decide), rr _ _ (by decide)]; exact MS.2.1
  · intro i hi
    rw [ne _ _ (by decide), ne _ _ (by decide), rr _ _ (by decide), rr _ _ (by decide)]; exact MS.2.2.1 i hi
  · intro p hp
    rw [rr _ _ (by decide)] at hp
    rw [ne _ _ (by decide), rr _ _ (by decide)]; exact MS.2.2.2.1 p hp
  · intro i hi
    rw [rr _ _ (by decide)] at hi
    rw [ne _ _ (by decide), ne _ _ (by decide), ne _ _ (by decide), rr _ _ (by decide), rr _ _ (by decide), rr _ _ (by decide)]; exact MS.2.2.2.2 i hi
  · rw [hf_up_s]; exact h1
  · intro p hp
    rw [rr _ _ (by decide)] at hp
    rw [hs _ _ (by omega), rr _ _ (by decide)]; exact MD.2.1 p hp
  · intro i hi
    rw [rr _ _ (by decide)] at hi
    rw [hs _ _ (by omega), hs _ _ (by omega), rr _ _ (by decide)]; exact MD.2.2 i hi
  · rw [ne _ _ (by decide)]; exact ho
  · rw [rr _ _ (by decide)]; exact ok.1
  · rw [rr _ _ (by decide)]; exact ok.2.1
  · rw [hf_up_s]; exact hq
  · intro i hi
    rw [rr _ _ (by decide), rr _ _ (by decide)]; exact ok.2.2.2.1 i hi
  · intro p hp
    rw [rr _ _ (by decide)] at hp
    rw [rr _ _ (by decide), rr _ _ (by decide)]; exact ok.2.2.2.2.1 p hp
  · intro i hi
    rw [rr _ _ (by decide)] at hi
    rw [rr _ _ (by decide), rr _ _ (by decide), rr _ _ (by decide), rr _ _ (by decide), rr _ _ (by decide)]; exact ok.2.2.2.2.2 i hi
theorem hf_near_ok (P : hP) (pl : Nat) : ∀ n, hf_near P pl n = 99 ∨ (hf_near P pl n < n ∧ P 10 (hf_near P pl n) < 25)
  | 0 => Or.inl rfl
  | n + 1 => by
    unfold hf_near
    split
    · rename_i h; exact Or.inr ⟨Nat.lt_succ_self n, h.1⟩
    · rcases hf_near_ok P pl n with h | h
      · exact Or.inl h
      · exact Or.inr ⟨Nat.lt_succ_of_lt h.1, h.2⟩
theorem w_rv {v : Value} {st : List Value} {K : List Value → Prop} (g : K (v :: st)) : hk_rv (some v) st K := g
def hf_bI (x : Nat) : Int32 := if x = 99 then -1 else nI x
set_option maxHeartbeats 400000 in
theorem sp_mruns {d : Nat} (hd : 3 < d) {R0 : Nat → Nat → Int32} {X : hk_D} {Q : hk_Q} {v1 : Int32} {o p : Nat} {P : hP} (M : hf_M o P R0) (e1 : v1 = nI p) (hp : p < P 2 0) (hQ : ∀ R', hf_M o (hf_person P p) R' → hfr o R0 R' → Q none (hw R' X)) : hk_call d mM_runs [.ref 98, .int v1] (hw R0 X) Q := by
  obtain ⟨d, rfl⟩ : ∃ e, d = e + 1 := ⟨d - 1, by omega⟩
  subst e1
  have M0 := M
  obtain ⟨MS, MD, ho, h18, ok⟩ := M0
  have h6 := ok.2.1
  have h5 := ok.1
  have eh : R0 98 4 = nI (P 3 0) := MS.2.1
  have hpl := (ok.2.2.2.2.1 p hp).1
  have hsp := (ok.2.2.2.2.1 p hp).2
  have epl := MD.2.1 p hp
  -- the third loop
  have L3 : ∀ t P1, t < 25 → P1 = hf_up P 5 p t → ∀ j, j ≤ P 3 0 → ∀ R, hf_M o (hf_puton P1 p t j) R → hfr o R0 R → (∀ R', hf_M o (hf_puton P1 p t (P 3 0)) R' → hfr o R0 R' → Q none (hw R' X)) → ∀ b : Int32, hk_wp none 0 0 hk_dft cM_runs (hk_call d) (hk_qe Q) 81 [(4, .int (nI j)), (3, .int (nI t)), (2, .int b), (0, .ref 98), (1, .int (nI p))] [] (hw R X) 0 0 := by
    intro t P1 ht eP1
    refine hk_for ?_ ?_
    · intro R MR fr hQ b
      have eh : R 98 4 = nI (P 3 0) := by rw [fr 98 4 (by omega)]; exact eh
      refine hk_run2 (hk_call_m d) 100 ?_
      refine And.intro (fun c => hk_qe_of (hQ R MR fr)) (fun c => ?_)
      exact absurd (by rw [eh]; exact nI_le (Nat.le_refl _) (by omega)) c
    · intro j hj ih R MR fr hQ b
      have eh : R 98 4 = nI (P 3 0) := by rw [fr 98 4 (by omega)]; exact eh
      have n3 : hf_puton P1 p t j 3 0 = P 3 0 := by unfold hf_puton; rw [if_neg (by omega), eP1, hf_up_r (by decide)]
      have n2 : hf_puton P1 p t j 2 0 = P 2 0 := by unfold hf_puton; rw [if_neg (by omega), eP1, hf_up_r (by decide)]
      have eq : hf_puton P1 p t j 10 j = P1 10 j := by unfold hf_puton; rw [if_neg (by omega)]
      have hj' : j < hf_puton P1 p t j 3 0 := by rw [n3]; exact hj
      have ho := MR.2.2.1
      have hmd := MR.2.1.2.2 j hj'
      rw [eq] at hmd
      have back : ¬ P1 10 j = t → hk_wp none 0 0 hk_dft cM_runs (hk_call d) (hk_qe Q) 102 [(4, .int (nI j)), (3, .int (nI t)), (2, .int b), (0, .ref 98), (1, .int (nI p))] [] (hw R X) 0 0 := by
        intro q
        refine hk_run2 (hk_call_m d) 100 ?_
        refine Exists.intro [0, 1, 2, 3, 4] ?_
        rw [nI_1]
        exact hk_stop2 (hk_call_m d) (ih R (by rw [hf_puton_s, if_neg q]; exact MR) fr hQ b)
      refine hk_run2 (hk_call_m d) 200 ?_
      refine And.intro (fun c => absurd c (by rw [eh]; exact nI_ge hj (by omega))) (fun c => ?_)
      refine sp_isLying (by omega) MR hj' rfl (fun hl => ?_) (fun hl => ?_)
      · rw [eq] at hl
        refine And.intro (fun c => absurd c (by decide)) (fun _ => ?_)
        refine sp_its (by omega) ho (j := 12 + j) (by rw [← nI_add]; rfl) (by omega) ?_
        rw [hmd.2.1 hl]
        refine And.intro (fun c => ?_) (fun c => ?_)
        · have hqt : P1 10 j = t := (nI_eq (by omega) (by omega)).mp c
          refine sp_becomes (by omega) ho (j := 6 + j) (by rw [← nI_add]; rfl) (by omega) ?_
          refine Exists.intro [0, 1, 2, 3, 4] ?_
          rw [nI_1]
          refine hk_stop2 (hk_call_m d) (ih _ ?_ (hfr_tr fr (hfr_up (by omega))) hQ b)
          rw [hf_puton_s, if_pos hqt]
          refine hf_M_hat MR hj' (Or.inr (Or.inl ⟨by omega, by rw [n2]; omega⟩)) (fun a k q => up2_n (fun z => q ⟨z.1, Or.inl z.2⟩)) ?_ (fun q => by omega) (fun q => by omega)
          rw [up2_s, hf_mw_w (by omega)]
          congr 1; omega
        · exact hk_stop2 (hk_call_m d) (back (fun q => c (by rw [q])))
      · rw [eq] at hl
        refine And.intro (fun _ => ?_) (fun c => absurd rfl c)
        exact hk_stop2 (hk_call_m d) (back (by omega))
  -- the second loop
  have L2 : ∀ t, t < 25 → (∀ R', hf_M o (if hf_runs (P 6 p) (P 5 p) t = t then hf_puton (hf_up P 5 p t) p t (P 3 0) else hf_up P 5 p (hf_runs (P 6 p) (P 5 p) t)) R' → hfr o R0 R' → Q none (hw R' X)) → ∀ b : Int32, ∀ j, j ≤ P 6 p → ∀ R, hf_M o (hf_up P 5 p (hf_runs j (P 5 p) t)) R → hfr o R0 R → hk_wp none 0 0 hk_dft cM_runs (hk_call d) (hk_qe Q) 52 [(4, .int (nI j)), (3, .int (nI t)), (2, .int b), (0, .ref 98), (1, .int (nI p))] [] (hw R X) 0 0 := by
    intro t ht hQ b
    have hrl : ∀ k, hf_runs k (P 5 p) t < 25 := hf_runs_lt hpl ht
    refine hk_for ?_ ?_
    · intro R MR fr
      have es : R 101 p = nI (P 6 p) := by rw [fr 101 p (by omega)]; exact MS.2.2.2.1 p hp
      have ep := MR.2.1.2.1 p (by rw [hf_up_r (by decide)]; exact hp)
      rw [hf_up_s] at ep
      have ho := MR.2.2.1
      refine hk_run2 (hk_call_m d) 100 ?_
      refine w_ld (j := p) (n := 5) rfl rfl (by omega) (by omega) rfl es ?_
      refine And.intro (fun c => ?_) (fun c => absurd (nI_le (Nat.le_refl _) (by omega)) c)
      refine sp_its (by omega) ho (j := 1 + p) (by rw [← nI_add]; rfl) (by omega) ?_
      rw [ep]
      refine And.intro (fun c => ?_) (fun c => ?_)
      · have hrt : hf_runs (P 6 p) (P 5 p) t = t := (nI_eq (by have := hrl (P 6 p); omega) (by omega)).mp c
        rw [if_pos hrt] at hQ
        rw [hrt] at MR
        refine hk_stop2 (hk_call_m d) (hk_run2 (hk_call_m d) 2 ?_)
        exact L3 t _ ht rfl 0 (Nat.zero_le _) R (by rw [hf_puton_0]; exact MR) fr hQ b
      · have hrt : ¬ hf_runs (P 6 p) (P 5 p) t = t := fun q => c (by rw [q])
        rw [if_neg hrt] at hQ
        exact hk_qe_of (hQ R MR fr)
    · intro j hj ih R MR fr
      have es : R 101 p = nI (P 6 p) := by rw [fr 101 p (by omega)]; exact MS.2.2.2.1 p hp
      have ep := MR.2.1.2.1 p (by rw [hf_up_r (by decide)]; exact hp)
      rw [hf_up_s] at ep
      have ho := MR.2.2.1
      refine hk_run2 (hk_call_m d) 100 ?_
      refine w_ld (j := p) (n := 5) rfl rfl (by omega) (by omega) rfl es ?_
      refine And.intro (fun c => absurd c (nI_ge hj (by omega))) (fun c => ?_)
      refine sp_its (by omega) ho (j := 1 + p) (by rw [← nI_add]; rfl) (by omega) ?_
      refine sp_stepTo (by omega) ep rfl (hrl j) ht ?_
      refine sp_becomes (by omega) ho (j := 1 + p) (by rw [← nI_add]; rfl) (by omega) ?_
      refine Exists.intro [0, 1, 2, 3, 4] ?_
      rw [nI_1]
      refine hk_stop2 (hk_call_m d) (ih _ ?_ (hfr_tr fr (hfr_up (by omega))))
      have e : hf_up P 5 p (hf_runs (j + 1) (P 5 p) t) = hf_up (hf_up P 5 p (hf_runs j (P 5 p) t)) 5 p (hf_st1 (hf_runs j (P 5 p) t) t) := by
        funext r i
        unfold hf_up
        by_cases q : r = 5 ∧ i = p
        · rw [if_pos q, if_pos q]; rfl
        · rw [if_neg q, if_neg q, if_neg q]
      rw [e]
      exact hf_M_place MR (by rw [hf_up_r (by decide)]; exact hp) (hf_st1_lt _ (hrl j) t ht) (fun a k q => up2_n (fun z => q z)) (up2_s _ _ _ _)
  -- the first loop
  have L1 : ∀ j, j ≤ P 3 0 → hk_wp none 0 0 hk_dft cM_runs (hk_call d) (hk_qe Q) 4 [(3, .int (nI j)), (2, .int (hf_bI (hf_near P (P 5 p) j))), (0, .ref 98), (1, .int (nI p))] [] (hw R0 X) 0 0 := by
    refine hk_for ?_ ?_
    · refine hk_run2 (hk_call_m d) 100 ?_
      refine And.intro (fun c => ?_) (fun c => absurd (by rw [eh]; exact nI_le (Nat.le_refl _) (by omega)) c)
      unfold hf_person at hQ
      rcases hf_near_ok P (P 5 p) (P 3 0) with hn | ⟨hn1, hn2⟩
      · rw [hn, show hf_bI 99 = -1 from rfl]
        rw [if_pos hn] at hQ
        refine And.intro (fun c => absurd c hn_neg1) (fun _ => ?_)
        exact hk_qe_of (hQ R0 M hfr_rf)
      · have hne : hf_near P (P 5 p) (P 3 0) ≠ 99 := by omega
        rw [if_neg hne] at hQ
        generalize hf_near P (P 5 p) (P 3 0) = b at *
        rw [show hf_bI b = nI b from if_neg hne]
        refine And.intro (fun _ => ?_) (fun c => absurd (hn_pos (by omega)) c)
        refine sp_its (by omega) ho (j := 12 + b) (by rw [← nI_add]; rfl) (by omega) ?_
        rw [(MD.2.2 b hn1).2.1 hn2]
        have e0 : hf_up P 5 p (hf_runs 0 (P 5 p) (P 10 b)) = P := hf_upself P 5 p
        refine w_rv (hk_stop2 (hk_call_m d) (hk_run2 (hk_call_m d) 3 ?_))
        refine L2 (P 10 b) hn2 (fun R' MR' fr' => hQ R' ?_ fr') (nI b) 0 (Nat.zero_le _) R0 (by rw [e0]; exact M) hfr_rf
        exact MR'
    · intro j hj ih
      have hmd := MD.2.2 j hj
      have back : hf_near P (P 5 p) (j + 1) = hf_near P (P 5 p) j → hk_wp none 0 0 hk_dft cM_runs (hk_call d) (hk_qe Q) 39 [(3, .int (nI j)), (2, .int (hf_bI (hf_near P (P 5 p) j))), (0, .ref 98), (1, .int (nI p))] [] (hw R0 X) 0 0 := by
        intro q
        refine hk_run2 (hk_call_m d) 100 ?_
        refine Exists.intro [0, 1, 2, 3] ?_
        rw [nI_1]
        rw [q] at ih
        exact hk_stop2 (hk_call_m d) ih
      have take : hf_near P (P 5 p) (j + 1) = j → ∀ b, hk_wp none 0 0 hk_dft cM_runs (hk_call d) (hk_qe Q) 37 [(3, .int (nI j)), (2, .int b), (0, .ref 98), (1, .int (nI p))] [] (hw R0 X) 0 0 := by
        intro q b
        refine hk_run2 (hk_call_m d) 100 ?_
        refine Exists.intro [0, 1, 2, 3] ?_
        rw [nI_1]
        rw [q, show hf_bI j = nI j from if_neg (by omega)] at ih
        exact hk_stop2 (hk_call_m d) ih
      refine hk_run2 (hk_call_m d) 200 ?_
      refine And.intro (fun c => absurd c (by rw [eh]; exact nI_ge hj (by omega))) (fun c => ?_)
      refine sp_isLying (by omega) M hj rfl (fun hl => ?_) (fun hl => ?_)
      · refine And.intro (fun c => absurd c (by decide)) (fun _ => ?_)
        rcases hf_near_ok P (P 5 p) j with hn | ⟨hn1, hn2⟩
        · have et : hf_near P (P 5 p) (j + 1) = j := if_pos ⟨hl, Or.inl hn⟩
          refine And.intro (fun _ => ?_) (fun c => absurd (by rw [hn]; decide) c)
          exact hk_stop2 (hk_call_m d) (take et _)
        · have hne : hf_near P (P 5 p) j ≠ 99 := by omega
          have ebI : hf_bI (hf_near P (P 5 p) j) = nI (hf_near P (P 5 p) j) := if_neg hne
          rw [ebI] at back ⊢
          refine And.intro (fun c => absurd c (hn_npos (by omega))) (fun _ => ?_)
          refine sp_its (by omega) ho (j := 1 + p) (by rw [← nI_add]; rfl) (by omega) ?_
          refine sp_its (by omega) ho (j := 12 + j) (by rw [← nI_add]; rfl) (by omega) ?_
          refine sp_apart (by omega) epl (hmd.2.1 hl) hpl hl ?_
          refine sp_its (by omega) ho (j := 1 + p) (by rw [← nI_add]; rfl) (by omega) ?_
          refine sp_its (by omega) ho (j := 12 + hf_near P (P 5 p) j) (by rw [← nI_add]; rfl) (by omega) ?_
          refine sp_apart (by omega) epl ((MD.2.2 _ (by omega)).2.1 hn2) hpl hn2 ?_
          have d1 := hf_dist_lt (P 5 p) hpl (P 10 j) hl
          have d2 := hf_dist_lt (P 5 p) hpl _ hn2
          refine And.intro (fun c => ?_) (fun c => ?_)
          · have hle := (nI_leI (by omega) (by omega)).mp c
            refine hk_stop2 (hk_call_m d) (back (if_neg (fun q => ?_)))
            rcases q.2 with z | z
            · exact hne z
            · omega
          · have hlt : hf_dist (P 5 p) (P 10 j) < hf_dist (P 5 p) (P 10 (hf_near P (P 5 p) j)) := by
              rcases Nat.lt_or_ge (hf_dist (P 5 p) (P 10 j)) (hf_dist (P 5 p) (P 10 (hf_near P (P 5 p) j))) with q | q
              · exact q
              · exact absurd (nI_le q (by omega)) c
            exact hk_stop2 (hk_call_m d) (take (if_pos ⟨hl, Or.inr hlt⟩) _)
      · refine And.intro (fun _ => ?_) (fun c => absurd rfl c)
        exact hk_stop2 (hk_call_m d) (back (if_neg (fun q => hl q.1)))
  refine hk_run2 (hk_call_m d) 4 ?_
  exact L1 0 (Nat.zero_le _)
end
section
/-! THE REFERENCE: an hour, hours, the trial's row -/
theorem w_rn {st : List Value} {K : List Value → Prop} (g : K st) : hk_rv none st K := g
theorem hf_puton_r {P : hP} {p t n r j : Nat} (h : r ≠ 10) : hf_puton P p t n r j = P r j := if_neg (fun q => h q.1)
theorem hf_person_r {P : hP} {p r j : Nat} (h5 : r ≠ 5) (h10 : r ≠ 10) : hf_person P p r j = P r j := by
  unfold hf_person
  split
  · rfl
  · split
    · rw [hf_puton_r h10, hf_up_r h5]
    · rw [hf_up_r h5]
theorem hf_people_r {P : hP} {r j : Nat} (h5 : r ≠ 5) (h10 : r ≠ 10) : ∀ n, hf_people P n r j = P r j
  | 0 => rfl
  | n + 1 => by rw [hf_people, hf_person_r h5 h10]; exact hf_people_r h5 h10 n
theorem hf_blow_r {P : hP} {dir f n r j : Nat} (h : r ≠ 10) : hf_blow P dir f n r j = P r j := if_neg (fun q => h q.1)
theorem hf_hour_r {P : hP} {dir f r j : Nat} (h4 : r ≠ 4) (h5 : r ≠ 5) (h10 : r ≠ 10) : hf_hour P dir f r j = P r j := by
  unfold hf_hour
  rw [hf_up_r h4, hf_people_r h5 h10, hf_blow_r h10]
set_option maxHeartbeats 400000 in
theorem sp_mhourGoes {d : Nat} (hd : 4 < d) {R0 : Nat → Nat → Int32} {X : hk_D} {Q : hk_Q} {v1 v2 : Int32} {o dir f : Nat} {P : hP} (M : hf_M o P R0) (hnow : P 4 0 < 200) (e1 : v1 = nI dir) (e2 : v2 = nI f) (hdir : dir < 4) (hf : f < 10) (hQ : ∀ R', hf_M o (hf_hour P dir f) R' → hfr o R0 R' → Q none (hw R' X)) : hk_call d mM_hourGoes [.ref 98, .int v1, .int v2] (hw R0 X) Q := by
  obtain ⟨d, rfl⟩ : ∃ e, d = e + 1 := ⟨d - 1, by omega⟩
  have h5 := M.2.2.2.2.1
  have B2 : ∀ n, hf_people (hf_blow P dir f (P 3 0)) n 2 0 = P 2 0 := fun n => by rw [hf_people_r (by decide) (by decide), hf_blow_r (by decide)]
  have L : ∀ j, j ≤ P 2 0 → ∀ R, hf_M o (hf_people (hf_blow P dir f (P 3 0)) j) R → hfr o R0 R → hk_wp none 0 0 hk_dft cM_hourGoes (hk_call d) (hk_qe Q) 6 [(3, .int (nI j)), (0, .ref 98), (1, .int v1), (2, .int v2)] [] (hw R X) 0 0 := by
    refine hk_for ?_ ?_
    · intro R MR fr
      have ep : R 98 2 = nI (P 2 0) := by rw [← B2 (P 2 0)]; exact MR.1.1
      have ho := MR.2.2.1
      have h18 := MR.2.2.2.1
      refine hk_run2 (hk_call_m d) 100 ?_
      refine And.intro (fun c => ?_) (fun c => absurd (by rw [ep]; exact nI_le (Nat.le_refl _) (by omega)) c)
      refine sp_its (by omega) ho (j := 0) rfl (by omega) ?_
      refine sp_becomes (by omega) ho (j := 0) rfl (by omega) ?_
      refine hk_qe_of (hQ _ ?_ (hfr_tr fr (hfr_up (by omega))))
      have e4 : hf_people (hf_blow P dir f (P 3 0)) (P 2 0) 4 0 = P 4 0 := by rw [hf_people_r (by decide) (by decide), hf_blow_r (by decide)]
      have en : R 105 (o + 0) + 1 = nI (P 4 0 + 1) := by
        rw [show R 105 (o + 0) = nI (P 4 0) from by rw [← e4]; exact MR.2.1.1]
        exact nI_1 _
      rw [en]
      exact hf_M_now MR (by omega) (fun a k q => up2_n (fun z => q z)) (up2_s _ _ _ _)
    · intro j hj ih R MR fr
      have ep : R 98 2 = nI (P 2 0) := by rw [← B2 j]; exact MR.1.1
      refine hk_run2 (hk_call_m d) 100 ?_
      refine And.intro (fun c => absurd c (by rw [ep]; exact nI_ge hj (by omega))) (fun c => ?_)
      refine sp_mruns (by omega) MR rfl (by rw [B2 j]; exact hj) (fun R' MR' fr' => ?_)
      refine Exists.intro [0, 1, 2, 3] ?_
      rw [nI_1]
      exact hk_stop2 (hk_call_m d) (ih R' MR' (hfr_tr fr fr'))
  refine hk_run2 (hk_call_m d) 100 ?_
  refine sp_mblows (by omega) M e1 e2 hdir hf (fun R MR fr => ?_)
  refine w_rn (hk_stop2 (hk_call_m d) (hk_run2 (hk_call_m d) 2 ?_))
  exact L 0 (Nat.zero_le _) R MR fr
set_option maxHeartbeats 400000 in
theorem sp_mgo {d : Nat} (hd : 5 < d) {R0 : Nat → Nat → Int32} {X : hk_D} {Q : hk_Q} {v1 : Int32} {o n : Nat} {P : hP} (M : hf_M o P R0) (e1 : v1 = nI n) (hn : n ≤ 1000) (hQ : ∀ R', hf_M o (hf_hours n P) R' → hfr o R0 R' → Q none (hw R' X)) : hk_call d mM_go [.ref 98, .int v1] (hw R0 X) Q := by
  obtain ⟨d, rfl⟩ : ∃ e, d = e + 1 := ⟨d - 1, by omega⟩
  subst e1
  have L : ∀ j, j ≤ n → ∀ R S, hf_M o S R → hfr o R0 R → hf_hours (n - j) S = hf_hours n P → hk_wp none 0 0 hk_dft cM_go (hk_call d) (hk_qe Q) 2 [(2, .int (nI j)), (0, .ref 98), (1, .int (nI n))] [] (hw R X) 0 0 := by
    refine hk_for ?_ ?_
    · intro R S MR fr e
      refine hk_run2 (hk_call_m d) 100 ?_
      refine And.intro (fun c => ?_) (fun c => absurd (nI_le (Nat.le_refl _) (by omega)) c)
      rw [Nat.sub_self] at e
      rw [← e] at hQ
      exact hk_qe_of (hQ R MR fr)
    · intro j hj ih R S MR fr e
      have ho := MR.2.2.1
      have h18 := MR.2.2.2.1
      have h200 := MR.2.2.2.2.2.2.1
      have enow : R 105 (o + 0) = nI (S 4 0) := MR.2.1.1
      have hm : S 4 0 % 24 < 24 := Nat.mod_lt _ (by decide)
      have ew := MR.1.2.2.1 (S 4 0 % 24) hm
      have hw := MR.2.2.2.2.2.2.2.1 (S 4 0 % 24) hm
      rw [show n - j = (n - (j + 1)) + 1 from by omega, hf_hours] at e
      refine hk_run2 (hk_call_m d) 200 ?_
      refine And.intro (fun c => absurd c (nI_ge hj (by omega))) (fun c => ?_)
      refine sp_its (by omega) ho (j := 0) rfl (by omega) ?_
      rw [enow]
      refine And.intro (fun c => ?_) (fun c => ?_)
      · have : 96 ≤ S 4 0 := (nI_leI (b := S 4 0) (a := 96) (by omega) (by omega)).mp c
        rw [if_neg (by omega)] at e
        rw [← e] at hQ
        exact hk_qe_of (hQ R MR fr)
      · have hlt : S 4 0 < 96 := by
          rcases Nat.lt_or_ge (S 4 0) 96 with q | q
          · exact q
          · exact absurd (nI_le (a := 96) q (by omega)) c
        rw [if_pos hlt] at e
        refine sp_its (by omega) ho (j := 0) rfl (by omega) ?_
        rw [enow]
        have er : hk_rem (nI (S 4 0)) 24 = nI (S 4 0 % 24) := hn_rem (b := 24) (by omega) (by omega) (by omega)
        refine And.intro (by decide) ?_
        refine w_ld (j := S 4 0 % 24) (n := 24) er rfl hm (by omega) rfl ew.1 ?_
        refine w_ld (j := S 4 0 % 24) (n := 24) er rfl hm (by omega) rfl ew.2 ?_
        refine sp_mhourGoes (by omega) MR (by omega) rfl rfl hw.1 hw.2 (fun R' MR' fr' => ?_)
        refine Exists.intro [0, 2, 3] ?_
        rw [nI_1]
        exact hk_stop2 (hk_call_m d) (ih R' _ MR' (hfr_tr fr fr') e)
  refine hk_run2 (hk_call_m d) 2 ?_
  exact L 0 (Nat.zero_le _) R0 P M hfr_rf rfl
/-! the trial's row -/
def hft (R R' : Nat → Nat → Int32) : Prop := ∀ a k, ¬ (a = 105 ∧ 18 ≤ k) → R' a k = R a k
def hft2 (R R' : Nat → Nat → Int32) : Prop := ∀ a k, ¬ (a = 105 ∧ 18 ≤ k) → ¬ (a = 98 ∧ k = 9) → R' a k = R a k
theorem hft2_go {R R1 R2 : Nat → Nat → Int32} (h : hft2 R R1) (g : hfr 18 R1 R2) : hft2 R R2 := fun a k q1 q2 => (g a k (fun z => q1 ⟨z.1, z.2.1⟩)).trans (h a k q1 q2)
theorem hft2_end {R R1 : Nat → Nat → Int32} (h0 : R 98 9 = nI 0) (h : hft2 R R1) : hft R (up2 R1 98 9 0) := by
  intro a k q
  by_cases z : a = 98 ∧ k = 9
  · obtain ⟨rfl, rfl⟩ := z
    rw [up2_s, h0]; rfl
  · rw [up2_n z]; exact h a k q z
theorem hf_M_t {P : hP} {R R' : Nat → Nat → Int32} (M : hf_M 0 P R) (h : hft R R') : hf_M 0 P R' := by
  obtain ⟨MS, MD, ho, h18, ok⟩ := M
  have h6 := ok.2.1
  have h5 := ok.1
  have ne : ∀ a k, a ≠ 105 → R' a k = R a k := fun a k q => h a k (fun z => q z.1)
  refine ⟨⟨?_, ?_, ?_, ?_, ?_⟩, ⟨?_, ?_, ?_⟩, ?_, h18, ok⟩
  · rw [ne _ _ (by decide)]; exact MS.1
  · rw [ne _ _ (by decide)]; exact MS.2.1
  · intro i hi
    rw [ne _ _ (by decide), ne _ _ (by decide)]; exact MS.2.2.1 i hi
  · intro p hp
    rw [ne _ _ (by decide)]; exact MS.2.2.2.1 p hp
  · intro i hi
    rw [ne _ _ (by decide), ne _ _ (by decide), ne _ _ (by decide)]; exact MS.2.2.2.2 i hi
  · rw [h _ _ (by omega)]; exact MD.1
  · intro p hp
    rw [h _ _ (by omega)]; exact MD.2.1 p hp
  · intro i hi
    rw [h _ _ (by omega), h _ _ (by omega)]; exact MD.2.2 i hi
  · rw [ne _ _ (by decide)]; exact ho
theorem hf_M_18 {P : hP} {R R' : Nat → Nat → Int32} (M : hf_M 0 P R) (h : hft2 R R') (hr : ∀ k, k < 18 → R' 105 (18 + k) = R 105 k) (h9 : R' 98 9 = nI 18) : hf_M 18 P R' := by
  obtain ⟨MS, MD, ho, h18, ok⟩ := M
  have h6 := ok.2.1
  have h5 := ok.1
  have ne : ∀ a k, a ≠ 105 → ¬ (a = 98 ∧ k = 9) → R' a k = R a k := fun a k q q2 => h a k (fun z => q z.1) q2
  refine ⟨⟨?_, ?_, ?_, ?_, ?_⟩, ⟨?_, ?_, ?_⟩, h9, Nat.le_refl _, ok⟩
  · rw [ne _ _ (by decide) (by decide)]; exact MS.1
  · rw [ne _ _ (by decide) (by decide)]; exact MS.2.1
  · intro i hi
    rw [ne _ _ (by decide) (by omega), ne _ _ (by decide) (by omega)]; exact MS.2.2.1 i hi
  · intro p hp
    rw [ne _ _ (by decide) (by omega)]; exact MS.2.2.2.1 p hp
  · intro i hi
    rw [ne _ _ (by decide) (by omega), ne _ _ (by decide) (by omega), ne _ _ (by decide) (by omega)]; exact MS.2.2.2.2 i hi
  · rw [show R' 105 18 = R 105 0 from hr 0 (by omega)]; exact MD.1
  · intro p hp
    rw [hr _ (by omega)]
    have := MD.2.1 p hp
    rw [Nat.zero_add] at this; exact this
  · intro i hi
    rw [hr _ (by omega), hr _ (by omega)]
    have := MD.2.2 i hi
    rw [Nat.zero_add, Nat.zero_add] at this; exact this
set_option maxHeartbeats 400000 in
theorem sp_mlends {d : Nat} (hd : 0 < d) {R0 : Nat → Nat → Int32} {X : hk_D} {Q : hk_Q} {P : hP} (M : hf_M 0 P R0) (hQ : ∀ R', hf_M 18 P R' → hft2 R0 R' → Q none (hw R' X)) : hk_call d mM_lends [.ref 98] (hw R0 X) Q := by
  obtain ⟨d, rfl⟩ : ∃ e, d = e + 1 := ⟨d - 1, by omega⟩
  have L : ∀ j, j ≤ 18 → ∀ R, (∀ k, k < j → R 105 (18 + k) = R0 105 k) → hft R0 R → hk_wp none 0 0 hk_dft cM_lends (hk_call d) (hk_qe Q) 5 [(1, .int (nI j)), (0, .ref 98)] [] (hw R X) 0 0 := by
    refine hk_for ?_ ?_
    · intro R hr fr
      refine hk_run2 (hk_call_m d) 100 ?_
      refine And.intro (fun c => ?_) (fun c => absurd (nI_le (Nat.le_refl 18) (by omega)) c)
      refine w_put trivial rfl rfl ?_
      have f2 : hft2 R0 (up2 R 98 9 18) := fun a k q1 q2 => by rw [up2_n q2]; exact fr a k q1
      refine hk_qe_of (hQ _ (hf_M_18 M f2 ?_ (up2_s _ _ _ _)) f2)
      intro k hk
      rw [up2_a (by decide)]; exact hr k hk
    · intro j hj ih R hr fr
      refine hk_run2 (hk_call_m d) 100 ?_
      refine And.intro (fun c => absurd c (show ¬ nI 18 ≤ nI j from nI_ge hj (by omega))) (fun c => ?_)
      refine w_ld (j := j) (n := 36) rfl rfl (by omega) (by omega) rfl (fr 105 j (by omega)) ?_
      refine w_st (t := 0) (j := 18 + j) (n := 36) (by rw [← nI_add]; rfl) rfl (by omega) (by omega) rfl rfl ?_
      refine Exists.intro [0, 1] ?_
      rw [nI_1]
      refine hk_stop2 (hk_call_m d) (ih _ ?_ ?_)
      · intro k hk
        by_cases q : k = j
        · subst q; rw [up2_s]
        · rw [up2_n (by omega)]; exact hr k (by omega)
      · intro a k q
        rw [up2_n (by omega)]; exact fr a k q
  refine hk_run2 (hk_call_m d) 100 ?_
  refine w_put trivial rfl rfl ?_
  refine hk_stop2 (hk_call_m d) (hk_run2 (hk_call_m d) 2 ?_)
  refine L 0 (Nat.zero_le _) _ (fun k hk => absurd hk (Nat.not_lt_zero k)) (fun a k q => ?_)
  by_cases z : a = 98 ∧ k = 9
  · obtain ⟨rfl, rfl⟩ := z
    rw [up2_s, M.2.2.1]; rfl
  · rw [up2_n z]
end
section
/-! THE REFERENCE: who, what, how many -/
theorem sp_misHat {d : Nat} (hd : 1 < d) {R : Nat → Nat → Int32} {X : hk_D} {Q : hk_Q} {v : Int32} {n : Nat} (e : R 98 4 = nI n) (hn : n ≤ 6) (h1 : ∀ j, j < n → v = nI j → Q (some (.int 1)) (hw R X)) (h0 : (∀ j, j < n → v ≠ nI j) → Q (some (.int 0)) (hw R X)) : hk_call d mM_isHat [.ref 98, .int v] (hw R X) Q := by
  obtain ⟨d, rfl⟩ : ∃ e, d = e + 1 := ⟨d - 1, by omega⟩
  refine hk_run2 (hk_call_m d) 100 ?_
  refine sp_in (by omega) (n := n) (by omega) (by rw [e]) (fun j hj q => ?_) (fun q => ?_)
  · exact And.intro (by decide) (hk_qe_of (h1 j hj q))
  · exact And.intro (by decide) (hk_qe_of (h0 q))
theorem sp_misPerson {d : Nat} (hd : 1 < d) {R : Nat → Nat → Int32} {X : hk_D} {Q : hk_Q} {v : Int32} {n : Nat} (e : R 98 2 = nI n) (hn : n ≤ 5) (h1 : ∀ j, j < n → v = nI j → Q (some (.int 1)) (hw R X)) (h0 : (∀ j, j < n → v ≠ nI j) → Q (some (.int 0)) (hw R X)) : hk_call d mM_isPerson [.ref 98, .int v] (hw R X) Q := by
  obtain ⟨d, rfl⟩ : ∃ e, d = e + 1 := ⟨d - 1, by omega⟩
  refine hk_run2 (hk_call_m d) 100 ?_
  refine sp_in (by omega) (n := n) (by omega) (by rw [e]) (fun j hj q => ?_) (fun q => ?_)
  · exact And.intro (by decide) (hk_qe_of (h1 j hj q))
  · exact And.intro (by decide) (hk_qe_of (h0 q))
theorem sp_misTrial {d : Nat} (hd : 1 < d) {h : hk_Hp} {Q : hk_Q} {v : Int32} (h1 : ∀ j, j < 49 → v = nI j → Q (some (.int 1)) h) (h0 : (∀ j, j < 49 → v ≠ nI j) → Q (some (.int 0)) h) : hk_call d mM_isTrial [.int v] h Q := by
  obtain ⟨d, rfl⟩ : ∃ e, d = e + 1 := ⟨d - 1, by omega⟩
  refine hk_run2 (hk_call_m d) 100 ?_
  refine sp_in (by omega) (n := 49) (by omega) (by decide) (fun j hj q => ?_) (fun q => ?_)
  · exact And.intro (by decide) (hk_qe_of (h1 j hj q))
  · exact And.intro (by decide) (hk_qe_of (h0 q))
theorem sp_misHour {d : Nat} (hd : 1 < d) {h : hk_Hp} {Q : hk_Q} {v : Int32} (h1 : ∀ j, j < 24 → v = nI j → Q (some (.int 1)) h) (h0 : (∀ j, j < 24 → v ≠ nI j) → Q (some (.int 0)) h) : hk_call d mM_isHour [.int v] h Q := by
  obtain ⟨d, rfl⟩ : ∃ e, d = e + 1 := ⟨d - 1, by omega⟩
  refine hk_run2 (hk_call_m d) 100 ?_
  refine sp_in (by omega) (n := 24) (by omega) (by decide) (fun j hj q => ?_) (fun q => ?_)
  · exact And.intro (by decide) (hk_qe_of (h1 j hj q))
  · exact And.intro (by decide) (hk_qe_of (h0 q))
theorem sp_misPlace {d : Nat} (hd : 1 < d) {h : hk_Hp} {Q : hk_Q} {v : Int32} (h1 : ∀ j, j < 25 → v = nI j → Q (some (.int 1)) h) (h0 : (∀ j, j < 25 → v ≠ nI j) → Q (some (.int 0)) h) : hk_call d mM_isPlace [.int v] h Q := by
  obtain ⟨d, rfl⟩ : ∃ e, d = e + 1 := ⟨d - 1, by omega⟩
  refine hk_run2 (hk_call_m d) 100 ?_
  refine sp_in (by omega) (n := 25) (by omega) (by decide) (fun j hj q => ?_) (fun q => ?_)
  · exact And.intro (by decide) (hk_qe_of (h1 j hj q))
  · exact And.intro (by decide) (hk_qe_of (h0 q))
theorem sp_misWind {d : Nat} (hd : 1 < d) {h : hk_Hp} {Q : hk_Q} {v w : Int32} (h1 : ∀ i j, i < 4 → j < 10 → v = nI i → w = nI j → Q (some (.int 1)) h) (h0 : (∀ i j, i < 4 → j < 10 → ¬ (v = nI i ∧ w = nI j)) → Q (some (.int 0)) h) : hk_call d mM_isWind [.int v, .int w] h Q := by
  obtain ⟨d, rfl⟩ : ∃ e, d = e + 1 := ⟨d - 1, by omega⟩
  refine hk_run2 (hk_call_m d) 100 ?_
  refine sp_in (by omega) (n := 4) (by omega) (by decide) (fun i hi q => ?_) (fun q => ?_)
  · refine And.intro (fun c => absurd c (by decide)) (fun _ => ?_)
    refine sp_in (by omega) (n := 10) (by omega) (by decide) (fun j hj q2 => ?_) (fun q2 => ?_)
    · refine And.intro (fun c => absurd c (by decide)) (fun _ => ?_)
      exact And.intro (by decide) (hk_qe_of (h1 i j hi hj q q2))
    · refine And.intro (fun _ => ?_) (fun c => absurd rfl c)
      exact And.intro (by decide) (hk_qe_of (h0 (fun i j _ hj z => q2 j hj z.2)))
  · refine And.intro (fun _ => ?_) (fun c => absurd rfl c)
    exact And.intro (by decide) (hk_qe_of (h0 (fun i j hi _ z => q i hi z.1)))
theorem sp_misSoon {d : Nat} (hd : 1 < d) {h : hk_Hp} {Q : hk_Q} {v : Int32} (h1 : ∀ j, 1 ≤ j → j < 13 → v = nI j → Q (some (.int 1)) h) (h0 : (∀ j, 1 ≤ j → j < 13 → v ≠ nI j) → Q (some (.int 0)) h) : hk_call d mM_isSoon [.int v] h Q := by
  obtain ⟨d, rfl⟩ : ∃ e, d = e + 1 := ⟨d - 1, by omega⟩
  refine hk_run2 (hk_call_m d) 100 ?_
  have t1 : (1 : Int32).toInt = 1 := by decide
  have t12 : (12 : Int32).toInt = 12 := by decide
  have t0 : (0 : Int32).toInt = 0 := by decide
  refine sp_inR (by omega) (fun c1 c2 => ?_) (fun c => ?_)
  · rw [hn_lt, t1] at c1
    rw [hn_lt, t12] at c2
    obtain ⟨j, hj, e⟩ := hn_of (x := v) (n := 13) (by omega) (by rw [hn_lt, t0]; omega) (by rw [hn_le, hn_i (by omega)]; omega)
    rw [e, hn_i (by omega)] at c1
    exact And.intro (by decide) (hk_qe_of (h1 j (by omega) hj e))
  · refine And.intro (by decide) (hk_qe_of (h0 (fun j hj1 hj2 e => ?_)))
    rw [hn_lt, hn_lt, t1, t12, e, hn_i (by omega)] at c
    omega
theorem sp_orNot {d : Nat} (hd : 0 < d) {h : hk_Hp} {Q : hk_Q} {v : Int32} (hQ : Q (some (.int (if 0 ≤ v then v else -9))) h) : hk_call d mM_orNot [.int v] h Q := by
  obtain ⟨d, rfl⟩ : ∃ e, d = e + 1 := ⟨d - 1, by omega⟩
  refine hk_run2 (hk_call_m d) 100 ?_
  refine And.intro (fun c => ?_) (fun c => ?_)
  · rw [if_pos c] at hQ; exact hk_qe_of hQ
  · rw [if_neg c] at hQ; exact hk_qe_of hQ
theorem hf_mw_eq {x p : Nat} (hp : p < 5) : hf_mw x = nI p ↔ x = 25 + p := by
  by_cases h : 25 ≤ x ∧ x < 30
  · rw [hf_mw_w h, nI_eq (by omega) (by omega)]; omega
  · rw [hf_mw_n h]
    refine ⟨fun e => absurd (hn_pos (n := p) (by omega)) (by rw [← e]; exact hn_neg1), fun e => absurd ⟨by omega, by omega⟩ h⟩
/-- the worth of the hats that p wears, of the first n -/
def hf_owned (P : hP) (p : Nat) : Nat → Nat
  | 0 => 0
  | n + 1 => hf_owned P p n + (if P 10 n = 25 + p then P 9 n else 0)
def hf_bits (f : Nat → Bool) : Nat → Nat
  | 0 => 0
  | n + 1 => hf_bits f n + (bif f n then 2 ^ n else 0)
theorem hf_bits_lt (f : Nat → Bool) : ∀ n, hf_bits f n < 2 ^ n
  | 0 => Nat.one_pos
  | n + 1 => by
    have := hf_bits_lt f n
    unfold hf_bits
    rw [Nat.pow_succ]
    cases f n
    · show hf_bits f n + 0 < _; omega
    · show hf_bits f n + 2 ^ n < _; omega
theorem hf_or : ∀ n, n < 6 → ∀ b, b < 2 ^ n → nI b ||| hk_shl 1 (nI n) = nI (b + 2 ^ n) := by decide +kernel
theorem hf_or0 (x : Int32) : x ||| 0 = x := by simp
set_option maxHeartbeats 400000 in
theorem sp_mownedBy {d : Nat} (hd : 1 < d) {R : Nat → Nat → Int32} {X : hk_D} {Q : hk_Q} {v : Int32} {o p : Nat} {P : hP} (M : hf_M o P R) (ev : v = nI p) (hp : p < 5) (hQ : Q (some (.int (nI (hf_owned P p (P 3 0))))) (hw R X)) : hk_call d mM_ownedBy [.ref 98, .int v] (hw R X) Q := by
  obtain ⟨d, rfl⟩ : ∃ e, d = e + 1 := ⟨d - 1, by omega⟩
  subst ev
  have eh := M.1.2.1
  have h6 := M.2.2.2.2.2.1
  have ho := M.2.2.1
  have h18 := M.2.2.2.1
  have L : ∀ j, j ≤ P 3 0 → hk_wp (some .int) 0 0 hk_dft cM_ownedBy (hk_call d) (hk_qe Q) 4 [(3, .int (nI j)), (2, .int (nI (hf_owned P p j))), (0, .ref 98), (1, .int (nI p))] [] (hw R X) 0 0 := by
    refine hk_for ?_ ?_
    · refine hk_run2 (hk_call_m d) 100 ?_
      refine And.intro (fun c => ?_) (fun c => absurd (by rw [eh]; exact nI_le (Nat.le_refl _) (by omega)) c)
      exact hk_qe_of hQ
    · intro j hj ih
      refine hk_run2 (hk_call_m d) 100 ?_
      refine And.intro (fun c => absurd c (by rw [eh]; exact nI_ge hj (by omega))) (fun c => ?_)
      refine sp_its (by omega) ho (j := 6 + j) (by rw [← nI_add]; rfl) (by omega) ?_
      rw [(M.2.1.2.2 j hj).1]
      unfold hf_owned at ih
      refine And.intro (fun c => ?_) (fun c => ?_)
      · rw [if_pos ((hf_mw_eq hp).mp c)] at ih
        refine w_ld (j := j) (n := 6) rfl rfl (by omega) (by omega) rfl (M.1.2.2.2.2 j hj).2.2 ?_
        refine Exists.intro [0, 1, 2, 3] ?_
        rw [nI_1, hn_add]
        exact hk_stop2 (hk_call_m d) ih
      · rw [if_neg (fun q => c ((hf_mw_eq hp).mpr q))] at ih
        refine Exists.intro [0, 1, 2, 3] ?_
        rw [nI_1, show nI (hf_owned P p j) + 0 = nI (hf_owned P p j + 0) from hn_add _ 0]
        exact hk_stop2 (hk_call_m d) ih
  refine hk_run2 (hk_call_m d) 4 ?_
  exact L 0 (Nat.zero_le _)
def hf_wb (P : hP) (p : Nat) : Nat → Bool := fun h => Nat.beq (P 10 h) (25 + p)
def hf_gb (P : hP) : Nat → Bool := fun h => Nat.beq (P 10 h) 30
theorem hn_beq {a b : Nat} (h : a = b) : Nat.beq a b = true := by subst h; exact Nat.beq_refl a
theorem hn_nbeq {a b : Nat} (h : ¬ a = b) : Nat.beq a b = false := by
  cases q : Nat.beq a b
  · rfl
  · exact absurd (Nat.eq_of_beq_eq_true q) h
set_option maxHeartbeats 400000 in
theorem sp_mwornBy {d : Nat} (hd : 1 < d) {R : Nat → Nat → Int32} {X : hk_D} {Q : hk_Q} {v : Int32} {o p : Nat} {P : hP} (M : hf_M o P R) (ev : v = nI p) (hp : p < 5) (hQ : Q (some (.int (nI (hf_bits (hf_wb P p) (P 3 0))))) (hw R X)) : hk_call d mM_wornBy [.ref 98, .int v] (hw R X) Q := by
  obtain ⟨d, rfl⟩ : ∃ e, d = e + 1 := ⟨d - 1, by omega⟩
  subst ev
  have eh := M.1.2.1
  have h6 := M.2.2.2.2.2.1
  have ho := M.2.2.1
  have h18 := M.2.2.2.1
  have L : ∀ j, j ≤ P 3 0 → hk_wp (some .int) 0 0 hk_dft cM_wornBy (hk_call d) (hk_qe Q) 4 [(3, .int (nI j)), (2, .int (nI (hf_bits (hf_wb P p) j))), (0, .ref 98), (1, .int (nI p))] [] (hw R X) 0 0 := by
    refine hk_for ?_ ?_
    · refine hk_run2 (hk_call_m d) 100 ?_
      refine And.intro (fun c => ?_) (fun c => absurd (by rw [eh]; exact nI_le (Nat.le_refl _) (by omega)) c)
      exact hk_qe_of hQ
    · intro j hj ih
      refine hk_run2 (hk_call_m d) 100 ?_
      refine And.intro (fun c => absurd c (by rw [eh]; exact nI_ge hj (by omega))) (fun c => ?_)
      refine sp_its (by omega) ho (j := 6 + j) (by rw [← nI_add]; rfl) (by omega) ?_
      rw [(M.2.1.2.2 j hj).1]
      unfold hf_bits at ih
      refine And.intro (fun c => ?_) (fun c => ?_)
      · rw [show hf_wb P p j = true from hn_beq ((hf_mw_eq hp).mp c)] at ih
        refine Exists.intro [0, 1, 2, 3] ?_
        rw [nI_1, show nI (hf_bits (hf_wb P p) j) ||| hk_shl 1 (nI j) = nI (hf_bits (hf_wb P p) j + 2 ^ j) from hf_or j (by omega) _ (hf_bits_lt _ j)]
        exact hk_stop2 (hk_call_m d) ih
      · rw [show hf_wb P p j = false from hn_nbeq (fun q => c ((hf_mw_eq hp).mpr q))] at ih
        refine Exists.intro [0, 1, 2, 3] ?_
        rw [nI_1, hf_or0]
        exact hk_stop2 (hk_call_m d) ih
  refine hk_run2 (hk_call_m d) 4 ?_
  exact L 0 (Nat.zero_le _)
set_option maxHeartbeats 400000 in
theorem sp_mgoneSet {d : Nat} (hd : 2 < d) {R : Nat → Nat → Int32} {X : hk_D} {Q : hk_Q} {o : Nat} {P : hP} (M : hf_M o P R) (hQ : Q (some (.int (nI (hf_bits (hf_gb P) (P 3 0))))) (hw R X)) : hk_call d mM_goneSet [.ref 98] (hw R X) Q := by
  obtain ⟨d, rfl⟩ : ∃ e, d = e + 1 := ⟨d - 1, by omega⟩
  have eh := M.1.2.1
  have h6 := M.2.2.2.2.2.1
  have L : ∀ j, j ≤ P 3 0 → hk_wp (some .int) 0 0 hk_dft cM_goneSet (hk_call d) (hk_qe Q) 4 [(2, .int (nI j)), (1, .int (nI (hf_bits (hf_gb P) j))), (0, .ref 98)] [] (hw R X) 0 0 := by
    refine hk_for ?_ ?_
    · refine hk_run2 (hk_call_m d) 100 ?_
      refine And.intro (fun c => ?_) (fun c => absurd (by rw [eh]; exact nI_le (Nat.le_refl _) (by omega)) c)
      exact hk_qe_of hQ
    · intro j hj ih
      refine hk_run2 (hk_call_m d) 100 ?_
      refine And.intro (fun c => absurd c (by rw [eh]; exact nI_ge hj (by omega))) (fun c => ?_)
      unfold hf_bits at ih
      refine sp_isGone (by omega) M hj rfl (fun hg => ?_) (fun hg => ?_)
      · refine And.intro (fun c => absurd c (by decide)) (fun _ => ?_)
        rw [show hf_gb P j = true from hn_beq hg] at ih
        refine Exists.intro [0, 1, 2] ?_
        rw [nI_1, show nI (hf_bits (hf_gb P) j) ||| hk_shl 1 (nI j) = nI (hf_bits (hf_gb P) j + 2 ^ j) from hf_or j (by omega) _ (hf_bits_lt _ j)]
        exact hk_stop2 (hk_call_m d) ih
      · refine And.intro (fun _ => ?_) (fun c => absurd rfl c)
        rw [show hf_gb P j = false from hn_nbeq hg] at ih
        refine Exists.intro [0, 1, 2] ?_
        rw [nI_1, hf_or0]
        exact hk_stop2 (hk_call_m d) ih
  refine hk_run2 (hk_call_m d) 4 ?_
  exact L 0 (Nat.zero_le _)
end
section
/-! THE REFERENCE: trials -/
def hxi (n : Nat) (v : Int32) : Option Nat := if 0 ≤ v.toInt ∧ v.toInt < n then some v.toInt.toNat else none
theorem hxi_s {n j : Nat} (hj : j < n) (hn : n ≤ 100000) : hxi n (nI j) = some j := by
  unfold hxi
  rw [hn_i (by omega), if_pos ⟨by omega, by omega⟩]; rfl
theorem hxi_n {n : Nat} {v : Int32} (hn : n ≤ 100000) (h : ∀ j, j < n → v ≠ nI j) : hxi n v = none := by
  unfold hxi
  refine if_neg (fun q => ?_)
  have t0 : (0 : Int32).toInt = 0 := by decide
  obtain ⟨j, hj, e⟩ := hn_of (x := v) (n := n) hn (by rw [hn_lt, t0]; omega) (by rw [hn_le, hn_i (by omega)]; omega)
  exact h j hj e
theorem hf_hours_r {r j : Nat} (h4 : r ≠ 4) (h5 : r ≠ 5) (h10 : r ≠ 10) : ∀ n (P : hP), hf_hours n P r j = P r j
  | 0, _ => rfl
  | n + 1, P => by
    rw [hf_hours]
    split
    · rw [hf_hours_r h4 h5 h10 n]; exact hf_hour_r h4 h5 h10
    · rfl
def hf_own (P : hP) (p : Nat) : Nat := hf_owned P p (P 3 0)
def a_owns (P : hP) (v w : Int32) : Int32 := match hxi (P 2 0) v with
  | none => -1
  | some p => match hxi 49 w with
    | none => -1
    | some n => nI (hf_own (hf_hours n P) p)
def hf_or9 (x : Int32) : Int32 := if 0 ≤ x then x else -9
def a_where (P : hP) (v w : Int32) : Int32 := match hxi (P 3 0) v with
  | none => -1
  | some j => match hxi 49 w with
    | none => -1
    | some n => hf_or9 (hf_pl (hf_hours n P) j)
def a_wears (P : hP) (v w : Int32) : Int32 := match hxi (P 3 0) v with
  | none => -1
  | some j => match hxi 49 w with
    | none => -1
    | some n => hf_or9 (hf_mw (hf_hours n P 10 j))
theorem hft_rf {R : Nat → Nat → Int32} : hft R R := fun _ _ _ => rfl
theorem hft_tr {R R1 R2 : Nat → Nat → Int32} (h1 : hft R R1) (h2 : hft R1 R2) : hft R R2 := fun a k h => (h2 a k h).trans (h1 a k h)
set_option maxHeartbeats 400000 in
theorem sp_mownsThen {d : Nat} (hd : 6 < d) {R : Nat → Nat → Int32} {X : hk_D} {Q : hk_Q} {v w : Int32} {p n : Nat} {P : hP} (M : hf_M 0 P R) (ev : v = nI p) (ew : w = nI n) (hp : p < 5) (hn : n ≤ 1000) (hQ : ∀ R', hft R R' → Q (some (.int (nI (hf_own (hf_hours n P) p)))) (hw R' X)) : hk_call d mM_ownsThen [.ref 98, .int v, .int w] (hw R X) Q := by
  obtain ⟨d, rfl⟩ : ∃ e, d = e + 1 := ⟨d - 1, by omega⟩
  refine hk_run2 (hk_call_m d) 100 ?_
  refine sp_mlends (by omega) M (fun R1 M1 f1 => ?_)
  refine sp_mgo (by omega) M1 ew hn (fun R2 M2 f2 => ?_)
  refine sp_mownedBy (by omega) M2 ev hp ?_
  refine w_put trivial rfl rfl ?_
  exact hk_qe_of (hQ _ (hft2_end M.2.2.1 (hft2_go f1 f2)))
set_option maxHeartbeats 400000 in
theorem sp_mowns {d : Nat} (hd : 7 < d) {R : Nat → Nat → Int32} {X : hk_D} {Q : hk_Q} {v w : Int32} {P : hP} (M : hf_M 0 P R) (hQ : ∀ R', hft R R' → Q (some (.int (a_owns P v w))) (hw R' X)) : hk_call d mM_owns [.ref 98, .int v, .int w] (hw R X) Q := by
  obtain ⟨d, rfl⟩ : ∃ e, d = e + 1 := ⟨d - 1, by omega⟩
  have h5 := M.2.2.2.2.1
  unfold a_owns at hQ
  refine hk_run2 (hk_call_m d) 100 ?_
  refine sp_misPerson (by omega) M.1.1 h5 (fun p hp ep => ?_) (fun np => ?_)
  · refine And.intro (fun c => absurd c (by decide)) (fun _ => ?_)
    rw [ep, hxi_s hp (by omega)] at hQ
    refine sp_misTrial (by omega) (fun n hn en => ?_) (fun nn => ?_)
    · refine And.intro (fun c => absurd c (by decide)) (fun _ => ?_)
      rw [en, hxi_s hn (by omega)] at hQ
      refine sp_mownsThen (by omega) M ep en (by omega) (by omega) (fun R' f => ?_)
      exact hk_qe_of (hQ R' f)
    · refine And.intro (fun _ => ?_) (fun c => absurd rfl c)
      rw [hxi_n (by omega) nn] at hQ
      exact hk_qe_of (hQ R hft_rf)
  · refine And.intro (fun _ => ?_) (fun c => absurd rfl c)
    rw [hxi_n (by omega) np] at hQ
    exact hk_qe_of (hQ R hft_rf)
set_option maxHeartbeats 400000 in
theorem sp_mwhere {d : Nat} (hd : 7 < d) {R : Nat → Nat → Int32} {X : hk_D} {Q : hk_Q} {v w : Int32} {P : hP} (M : hf_M 0 P R) (hQ : ∀ R', hft R R' → Q (some (.int (a_where P v w))) (hw R' X)) : hk_call d mM_where [.ref 98, .int v, .int w] (hw R X) Q := by
  obtain ⟨d, rfl⟩ : ∃ e, d = e + 1 := ⟨d - 1, by omega⟩
  have h6 := M.2.2.2.2.2.1
  unfold a_where at hQ
  refine hk_run2 (hk_call_m d) 100 ?_
  refine sp_misHat (by omega) M.1.2.1 h6 (fun j hj ej => ?_) (fun np => ?_)
  · refine And.intro (fun c => absurd c (by decide)) (fun _ => ?_)
    rw [ej, hxi_s hj (by omega)] at hQ
    refine sp_misTrial (by omega) (fun n hn en => ?_) (fun nn => ?_)
    · refine And.intro (fun c => absurd c (by decide)) (fun _ => ?_)
      rw [en, hxi_s hn (by omega)] at hQ
      refine sp_mlends (by omega) M (fun R1 M1 f1 => ?_)
      refine sp_mgo (by omega) M1 en (by omega) (fun R2 M2 f2 => ?_)
      refine sp_mplaceOf (by omega) M2 (by rw [hf_hours_r (by decide) (by decide) (by decide)]; exact hj) ej ?_
      refine w_put trivial rfl rfl ?_
      refine sp_orNot (by omega) ?_
      exact hk_qe_of (hQ _ (hft2_end M.2.2.1 (hft2_go f1 f2)))
    · refine And.intro (fun _ => ?_) (fun c => absurd rfl c)
      rw [hxi_n (by omega) nn] at hQ
      exact hk_qe_of (hQ R hft_rf)
  · refine And.intro (fun _ => ?_) (fun c => absurd rfl c)
    rw [hxi_n (by omega) np] at hQ
    exact hk_qe_of (hQ R hft_rf)
set_option maxHeartbeats 400000 in
theorem sp_mwears {d : Nat} (hd : 7 < d) {R : Nat → Nat → Int32} {X : hk_D} {Q : hk_Q} {v w : Int32} {P : hP} (M : hf_M 0 P R) (hQ : ∀ R', hft R R' → Q (some (.int (a_wears P v w))) (hw R' X)) : hk_call d mM_wears [.ref 98, .int v, .int w] (hw R X) Q := by
  obtain ⟨d, rfl⟩ : ∃ e, d = e + 1 := ⟨d - 1, by omega⟩
  have h6 := M.2.2.2.2.2.1
  unfold a_wears at hQ
  refine hk_run2 (hk_call_m d) 100 ?_
  refine sp_misHat (by omega) M.1.2.1 h6 (fun j hj ej => ?_) (fun np => ?_)
  · refine And.intro (fun c => absurd c (by decide)) (fun _ => ?_)
    rw [ej, hxi_s hj (by omega)] at hQ
    refine sp_misTrial (by omega) (fun n hn en => ?_) (fun nn => ?_)
    · refine And.intro (fun c => absurd c (by decide)) (fun _ => ?_)
      rw [en, hxi_s hn (by omega)] at hQ
      refine sp_mlends (by omega) M (fun R1 M1 f1 => ?_)
      refine sp_mgo (by omega) M1 en (by omega) (fun R2 M2 f2 => ?_)
      refine sp_its (by omega) M2.2.2.1 (j := 6 + j) (by rw [ej, ← nI_add]; rfl) (by omega) ?_
      rw [(M2.2.1.2.2 j (by rw [hf_hours_r (by decide) (by decide) (by decide)]; exact hj)).1]
      refine w_put trivial rfl rfl ?_
      refine sp_orNot (by omega) ?_
      exact hk_qe_of (hQ _ (hft2_end M.2.2.1 (hft2_go f1 f2)))
    · refine And.intro (fun _ => ?_) (fun c => absurd rfl c)
      rw [hxi_n (by omega) nn] at hQ
      exact hk_qe_of (hQ R hft_rf)
  · refine And.intro (fun _ => ?_) (fun c => absurd rfl c)
    rw [hxi_n (by omega) np] at hQ
    exact hk_qe_of (hQ R hft_rf)
end
section
/-! THE REFERENCE: lost, master, calm, the clock -/
def hf_lost (h : Nat) : Nat → Nat → hP → Int32
  | 0, _, _ => -3
  | k + 1, j, P => if P 4 0 < 96 then (if hf_pass P 10 h = 30 then nI j else hf_lost h k (j + 1) (hf_pass P)) else -3
def a_lost (P : hP) (v : Int32) : Int32 := match hxi (P 3 0) v with
  | none => -1
  | some h => if P 10 h = 30 then 0 else hf_lost h 48 1 P
theorem hn_now {R : Nat → Nat → Int32} {o : Nat} {S : hP} (M : hf_M o S R) : R 105 (o + 0) = nI (S 4 0) := M.2.1.1
set_option maxHeartbeats 400000 in
theorem sp_mlost {d : Nat} (hd : 7 < d) {R0 : Nat → Nat → Int32} {X : hk_D} {Q : hk_Q} {v : Int32} {P : hP} (M : hf_M 0 P R0) (hQ : ∀ R', hft R0 R' → Q (some (.int (a_lost P v))) (hw R' X)) : hk_call d mM_lost [.ref 98, .int v] (hw R0 X) Q := by
  obtain ⟨d, rfl⟩ : ∃ e, d = e + 1 := ⟨d - 1, by omega⟩
  have h6 := M.2.2.2.2.2.1
  unfold a_lost at hQ
  refine hk_run2 (hk_call_m d) 100 ?_
  refine sp_misHat (by omega) M.1.2.1 h6 (fun h hj ej => ?_) (fun np => ?_)
  · refine And.intro (fun c => absurd c (by decide)) (fun _ => ?_)
    rw [ej, hxi_s hj (by omega)] at hQ
    dsimp only at hQ
    have hj0 := hj
    -- found
    have E : ∀ j, j ≤ 49 → ∀ r : Int32, 0 ≤ r → ∀ R, hft2 R0 R → (∀ R', hft R0 R' → Q (some (.int r)) (hw R' X)) → hk_wp (some .int) 0 0 hk_dft cM_lost (hk_call d) (hk_qe Q) 18 [(3, .int (nI j)), (2, .int r), (0, .ref 98), (1, .int v)] [] (hw R X) 0 0 := by
      intro j hj r hr R f hQ
      refine hk_run2 (hk_call_m d) 100 ?_
      refine And.intro (fun c => ?_) (fun c => ?_)
      · refine w_put trivial rfl rfl ?_
        exact hk_qe_of (hQ _ (hft2_end M.2.2.1 f))
      · refine And.intro (fun c => ?_) (fun c => absurd hr c)
        refine w_put trivial rfl rfl ?_
        exact hk_qe_of (hQ _ (hft2_end M.2.2.1 f))
    have L : ∀ j, j ≤ 49 → ∀ R S, hf_M 18 S R → hft2 R0 R → S 3 0 = P 3 0 → (∀ R', hft R0 R' → Q (some (.int (hf_lost h (49 - j) j S))) (hw R' X)) → hk_wp (some .int) 0 0 hk_dft cM_lost (hk_call d) (hk_qe Q) 18 [(3, .int (nI j)), (2, .int (-3)), (0, .ref 98), (1, .int v)] [] (hw R X) 0 0 := by
      refine hk_for ?_ ?_
      · intro R S MR f e3 hQ
        refine hk_run2 (hk_call_m d) 100 ?_
        refine And.intro (fun c => ?_) (fun c => absurd (by decide) c)
        refine w_put trivial rfl rfl ?_
        exact hk_qe_of (hQ _ (hft2_end M.2.2.1 f))
      · intro j hj ih R S MR f e3 hQ
        have h200 := MR.2.2.2.2.2.2.1
        rw [show 49 - j = (49 - (j + 1)) + 1 from by omega, hf_lost] at hQ
        refine hk_run2 (hk_call_m d) 200 ?_
        refine And.intro (fun c => absurd c (show ¬ nI 48 < nI j from fun q => by rw [hn_lt, hn_i (by omega), hn_i (by omega)] at q; omega)) (fun c => ?_)
        refine And.intro (fun c => absurd c (by decide)) (fun _ => ?_)
        refine sp_its (by omega) MR.2.2.1 (j := 0) rfl (by omega) ?_
        rw [hn_now MR]
        refine And.intro (fun c => ?_) (fun c => ?_)
        · have : 96 ≤ S 4 0 := (nI_leI (b := S 4 0) (a := 96) (by omega) (by omega)).mp c
          rw [if_neg (by omega)] at hQ
          refine w_put trivial rfl rfl ?_
          exact hk_qe_of (hQ _ (hft2_end M.2.2.1 f))
        · have hlt : S 4 0 < 96 := by
            rcases Nat.lt_or_ge (S 4 0) 96 with q | q
            · exact q
            · exact absurd (nI_le (a := 96) q (by omega)) c
          rw [if_pos hlt] at hQ
          refine sp_mgo (by omega) MR (n := 1) rfl (by omega) (fun R2 M2 f2 => ?_)
          rw [show hf_hours 1 S = hf_pass S from if_pos hlt] at M2
          have e3' : hf_pass S 3 0 = P 3 0 := by rw [← e3]; exact hf_hour_r (by decide) (by decide) (by decide)
          refine sp_isGone (by omega) M2 (by rw [e3']; exact hj0) ej (fun hg => ?_) (fun hg => ?_)
          · refine And.intro (fun c => absurd c (by decide)) (fun _ => ?_)
            rw [if_pos hg] at hQ
            refine Exists.intro [0, 1, 2, 3] ?_
            rw [nI_1]
            exact hk_stop2 (hk_call_m d) (E (j + 1) (by omega) (nI j) (hn_pos (by omega)) R2 (hft2_go f f2) hQ)
          · refine And.intro (fun _ => ?_) (fun c => absurd rfl c)
            rw [if_neg hg] at hQ
            refine Exists.intro [0, 1, 2, 3] ?_
            rw [nI_1]
            exact hk_stop2 (hk_call_m d) (ih R2 _ M2 (hft2_go f f2) e3' hQ)
    refine sp_mlends (by omega) M (fun R1 M1 f1 => ?_)
    refine sp_isGone (by omega) M1 hj ej (fun hg => ?_) (fun hg => ?_)
    · refine And.intro (fun c => absurd c (by decide)) (fun _ => ?_)
      rw [if_pos hg] at hQ
      refine hk_stop2 (hk_call_m d) (hk_run2 (hk_call_m d) 5 ?_)
      exact E 1 (by omega) 0 (by decide) R1 f1 hQ
    · refine And.intro (fun _ => ?_) (fun c => absurd rfl c)
      rw [if_neg hg] at hQ
      refine hk_stop2 (hk_call_m d) (hk_run2 (hk_call_m d) 4 ?_)
      exact L 1 (by omega) R1 P M1 f1 rfl hQ
  · refine And.intro (fun _ => ?_) (fun c => absurd rfl c)
    rw [hxi_n (by omega) np] at hQ
    exact hk_qe_of (hQ R0 hft_rf)
theorem hf_owned_le {P : hP} (ok : hf_ok P) (p : Nat) : ∀ n, n ≤ P 3 0 → hf_owned P p n ≤ 100 * n
  | 0, _ => Nat.le_refl _
  | n + 1, h => by
    have := hf_owned_le ok p n (by omega)
    have := (ok.2.2.2.2.2 n (by omega)).2.2.1
    unfold hf_owned
    split <;> omega
theorem hf_own_lt {P : hP} (ok : hf_ok P) (p : Nat) : hf_own P p < 1000 := by
  have := hf_owned_le ok p (P 3 0) (Nat.le_refl _)
  have := ok.2.1
  unfold hf_own; omega
def hf_mst (P : hP) : Nat → Nat
  | 0 => 99
  | n + 1 => if hf_mst P n = 99 ∨ hf_own P (hf_mst P n) < hf_own P n then n else hf_mst P n
theorem hf_mst_ok (P : hP) : ∀ n, hf_mst P n = 99 ∨ hf_mst P n < n
  | 0 => Or.inl rfl
  | n + 1 => by
    unfold hf_mst
    split
    · exact Or.inr (Nat.lt_succ_self n)
    · rcases hf_mst_ok P n with h | h
      · exact Or.inl h
      · exact Or.inr (Nat.lt_succ_of_lt h)
def hf_b3 (x : Nat) : Int32 := if x = 99 then -3 else nI x
def a_master (P : hP) (w : Int32) : Int32 := match hxi 49 w with
  | none => -1
  | some n => hf_b3 (hf_mst (hf_hours n P) (P 2 0))
set_option maxHeartbeats 400000 in
theorem sp_mmaster {d : Nat} (hd : 7 < d) {R0 : Nat → Nat → Int32} {X : hk_D} {Q : hk_Q} {w : Int32} {P : hP} (M : hf_M 0 P R0) (hQ : ∀ R', hft R0 R' → Q (some (.int (a_master P w))) (hw R' X)) : hk_call d mM_master [.ref 98, .int w] (hw R0 X) Q := by
  obtain ⟨d, rfl⟩ : ∃ e, d = e + 1 := ⟨d - 1, by omega⟩
  have h5 := M.2.2.2.2.1
  unfold a_master at hQ
  refine hk_run2 (hk_call_m d) 100 ?_
  refine sp_misTrial (by omega) (fun n hn en => ?_) (fun nn => ?_)
  · refine And.intro (fun c => absurd c (by decide)) (fun _ => ?_)
    rw [en, hxi_s hn (by omega)] at hQ
    dsimp only at hQ
    refine sp_mlends (by omega) M (fun R1 M1 f1 => ?_)
    refine sp_mgo (by omega) M1 en (by omega) (fun R2 M2 f2 => ?_)
    have e2 : hf_hours n P 2 0 = P 2 0 := hf_hours_r (by decide) (by decide) (by decide) n P
    generalize hf_hours n P = S at *
    have ep : R2 98 2 = nI (P 2 0) := by rw [← e2]; exact M2.1.1
    have f := hft2_go f1 f2
    have L : ∀ j, j ≤ P 2 0 → hk_wp (some .int) 0 0 hk_dft cM_master (hk_call d) (hk_qe Q) 14 [(3, .int (nI j)), (2, .int (hf_b3 (hf_mst S j))), (0, .ref 98), (1, .int w)] [] (hw R2 X) 0 0 := by
      refine hk_for ?_ ?_
      · refine hk_run2 (hk_call_m d) 100 ?_
        refine And.intro (fun c => ?_) (fun c => absurd (by rw [ep]; exact nI_le (Nat.le_refl _) (by omega)) c)
        refine w_put trivial rfl rfl ?_
        exact hk_qe_of (hQ _ (hft2_end M.2.2.1 f))
      · intro j hj ih
        refine hk_run2 (hk_call_m d) 200 ?_
        refine And.intro (fun c => absurd c (by rw [ep]; exact nI_ge hj (by omega))) (fun c => ?_)
        rcases hf_mst_ok S j with hb | hb
        · have et : hf_mst S (j + 1) = j := if_pos (Or.inl hb)
          rw [et, show hf_b3 j = nI j from if_neg (by omega)] at ih
          rw [hb, show hf_b3 99 = -3 from rfl]
          refine And.intro (fun _ => ?_) (fun c => absurd (by decide) c)
          refine Exists.intro [0, 1, 2, 3] ?_
          rw [nI_1]
          exact hk_stop2 (hk_call_m d) ih
        · have eb : hf_b3 (hf_mst S j) = nI (hf_mst S j) := if_neg (by omega)
          rw [eb]
          refine And.intro (fun c => absurd c (hn_npos (by omega))) (fun _ => ?_)
          refine sp_mownedBy (by omega) M2 (p := j) rfl (by omega) ?_
          refine sp_mownedBy (by omega) M2 (p := hf_mst S j) rfl (by omega) ?_
          have o1 := hf_own_lt M2.2.2.2.2 j
          have o2 := hf_own_lt M2.2.2.2.2 (hf_mst S j)
          unfold hf_own at o1 o2
          refine And.intro (fun c => ?_) (fun c => ?_)
          · have hle := (nI_leI (by omega) (by omega)).mp c
            have et : hf_mst S (j + 1) = hf_mst S j := if_neg (fun q => by
              rcases q with z | z
              · omega
              · unfold hf_own at z; omega)
            rw [et, eb] at ih
            refine Exists.intro [0, 1, 2, 3] ?_
            rw [nI_1]
            exact hk_stop2 (hk_call_m d) ih
          · have hlt : hf_own S (hf_mst S j) < hf_own S j := by
              unfold hf_own
              rcases Nat.lt_or_ge (hf_owned S (hf_mst S j) (S 3 0)) (hf_owned S j (S 3 0)) with q | q
              · exact q
              · exact absurd (nI_le q (by omega)) c
            have et : hf_mst S (j + 1) = j := if_pos (Or.inr hlt)
            rw [et, show hf_b3 j = nI j from if_neg (by omega)] at ih
            refine Exists.intro [0, 1, 2, 3] ?_
            rw [nI_1]
            exact hk_stop2 (hk_call_m d) ih
    refine w_rn (hk_stop2 (hk_call_m d) (hk_run2 (hk_call_m d) 4 ?_))
    exact L 0 (Nat.zero_le _)
  · refine And.intro (fun _ => ?_) (fun c => absurd rfl c)
    rw [hxi_n (by omega) nn] at hQ
    exact hk_qe_of (hQ R0 hft_rf)
/-- of the first n hats none lies -/
def hf_nol (P : hP) : Nat → Nat
  | 0 => 1
  | n + 1 => if hf_nol P n = 1 ∧ ¬ P 10 n < 25 then 1 else 0
theorem hf_nol01 (P : hP) : ∀ n, hf_nol P n = 1 ∨ hf_nol P n = 0
  | 0 => Or.inl rfl
  | n + 1 => by
    unfold hf_nol
    split
    · exact Or.inl rfl
    · exact Or.inr rfl
set_option maxHeartbeats 400000 in
theorem sp_misAllWorn {d : Nat} (hd : 2 < d) {R : Nat → Nat → Int32} {X : hk_D} {Q : hk_Q} {o : Nat} {P : hP} (M : hf_M o P R) (h1 : hf_nol P (P 3 0) = 1 → Q (some (.int 1)) (hw R X)) (h0 : ¬ hf_nol P (P 3 0) = 1 → Q (some (.int 0)) (hw R X)) : hk_call d mM_isAllWorn [.ref 98] (hw R X) Q := by
  obtain ⟨d, rfl⟩ : ∃ e, d = e + 1 := ⟨d - 1, by omega⟩
  have eh := M.1.2.1
  have h6 := M.2.2.2.2.2.1
  have L : ∀ j, j ≤ P 3 0 → ∀ b : Int32, b = nI (hf_nol P j) → hk_wp (some .boolean) 0 0 hk_dft cM_isAllWorn (hk_call d) (hk_qe Q) 4 [(2, .int (nI j)), (1, .int b), (0, .ref 98)] [] (hw R X) 0 0 := by
    refine hk_for ?_ ?_
    · intro b eb
      refine hk_run2 (hk_call_m d) 100 ?_
      refine And.intro (fun c => ?_) (fun c => absurd (by rw [eh]; exact nI_le (Nat.le_refl _) (by omega)) c)
      rcases hf_nol01 P (P 3 0) with e | e
      · rw [eb, e]; exact And.intro (by decide) (hk_qe_of (h1 e))
      · rw [eb, e]; exact And.intro (by decide) (hk_qe_of (h0 (by omega)))
    · intro j hj ih b eb
      refine hk_run2 (hk_call_m d) 100 ?_
      refine And.intro (fun c => absurd c (by rw [eh]; exact nI_ge hj (by omega))) (fun c => ?_)
      unfold hf_nol at ih
      rcases hf_nol01 P j with e | e
      · rw [e] at eb ih
        subst eb
        refine And.intro (fun c => absurd c (by decide)) (fun _ => ?_)
        refine sp_isLying (by omega) M hj rfl (fun hl => ?_) (fun hl => ?_)
        · refine And.intro (fun c => absurd c (by decide)) (fun _ => ?_)
          refine Exists.intro [0, 1, 2] ?_
          rw [nI_1]
          exact hk_stop2 (hk_call_m d) (ih 0 (by rw [if_neg (fun q => q.2 hl)]; rfl))
        · refine And.intro (fun _ => ?_) (fun c => absurd rfl c)
          refine Exists.intro [0, 1, 2] ?_
          rw [nI_1]
          exact hk_stop2 (hk_call_m d) (ih 1 (by rw [if_pos ⟨rfl, hl⟩]; rfl))
      · rw [e] at eb ih
        subst eb
        refine And.intro (fun _ => ?_) (fun c => absurd rfl c)
        refine Exists.intro [0, 1, 2] ?_
        rw [nI_1]
        exact hk_stop2 (hk_call_m d) (ih 0 (by rw [if_neg (fun q => absurd q.1 (by decide))]; rfl))
  refine hk_run2 (hk_call_m d) 4 ?_
  exact L 0 (Nat.zero_le _) 1 rfl
def hf_calm : Nat → Nat → hP → Int32
  | 0, _, _ => -3
  | k + 1, j, P => if hf_nol P (P 3 0) = 1 then nI j else hf_calm k (j + 1) (hf_hour P 0 0)
set_option maxHeartbeats 400000 in
theorem sp_mcalm {d : Nat} (hd : 6 < d) {R0 : Nat → Nat → Int32} {X : hk_D} {Q : hk_Q} {P : hP} (M : hf_M 0 P R0) (h96 : P 4 0 ≤ 96) (hQ : ∀ R', hft R0 R' → Q (some (.int (hf_calm 49 0 P))) (hw R' X)) : hk_call d mM_calm [.ref 98] (hw R0 X) Q := by
  obtain ⟨d, rfl⟩ : ∃ e, d = e + 1 := ⟨d - 1, by omega⟩
  have L : ∀ j, j ≤ 49 → ∀ R S, hf_M 18 S R → hft2 R0 R → S 4 0 = P 4 0 + j → (∀ R', hft R0 R' → Q (some (.int (hf_calm (49 - j) j S))) (hw R' X)) → hk_wp (some .int) 0 0 hk_dft cM_calm (hk_call d) (hk_qe Q) 4 [(1, .int (nI j)), (0, .ref 98)] [] (hw R X) 0 0 := by
    refine hk_for ?_ ?_
    · intro R S MR f e4 hQ
      refine hk_run2 (hk_call_m d) 100 ?_
      refine And.intro (fun c => ?_) (fun c => absurd (by decide) c)
      refine w_put trivial rfl rfl ?_
      refine And.intro (fun c => absurd c (by decide)) (fun _ => ?_)
      exact hk_qe_of (hQ _ (hft2_end M.2.2.1 f))
    · intro j hj ih R S MR f e4 hQ
      rw [show 49 - j = (49 - (j + 1)) + 1 from by omega, hf_calm] at hQ
      have n48 : ¬ nI 48 < nI j := fun q => by rw [hn_lt, hn_i (by omega), hn_i (by omega)] at q; omega
      refine hk_run2 (hk_call_m d) 200 ?_
      refine And.intro (fun c => absurd c n48) (fun c => ?_)
      refine sp_misAllWorn (by omega) MR (fun hl => ?_) (fun hl => ?_)
      · refine And.intro (fun c => absurd c (by decide)) (fun _ => ?_)
        rw [if_pos hl] at hQ
        refine w_put trivial rfl rfl ?_
        refine And.intro (fun _ => ?_) (fun c => absurd (show nI j ≤ nI 48 from nI_le (by omega) (by omega)) c)
        exact hk_qe_of (hQ _ (hft2_end M.2.2.1 f))
      · refine And.intro (fun _ => ?_) (fun c => absurd rfl c)
        rw [if_neg hl] at hQ
        refine sp_mhourGoes (by omega) MR (by omega) (dir := 0) (f := 0) rfl rfl (by omega) (by omega) (fun R2 M2 f2 => ?_)
        refine Exists.intro [0, 1] ?_
        rw [nI_1]
        exact hk_stop2 (hk_call_m d) (ih R2 _ M2 (hft2_go f f2) (by rw [hf_hour, hf_up_s]; omega) hQ)
  refine hk_run2 (hk_call_m d) 100 ?_
  refine sp_mlends (by omega) M (fun R1 M1 f1 => ?_)
  refine w_rn (hk_stop2 (hk_call_m d) (hk_run2 (hk_call_m d) 2 ?_))
  exact L 0 (by omega) R1 P M1 f1 rfl hQ
end
section
/-! THE REFERENCE: what sets one thing -/
theorem hxi_e {n j : Nat} {v : Int32} (hn : n ≤ 100000) (h : hxi n v = some j) : j < n ∧ v = nI j := by
  by_cases q : ∀ j, j < n → v ≠ nI j
  · rw [hxi_n hn q] at h; cases h
  · obtain ⟨j', hj', e⟩ : ∃ j', j' < n ∧ v = nI j' := Classical.byContradiction (fun z => q (fun j hj e => z ⟨j, hj, e⟩))
    rw [e, hxi_s hj' hn] at h
    cases h
    exact ⟨hj', e⟩
/-- only the reference's plain has changed -/
def hfp (R R' : Nat → Nat → Int32) : Prop := ∀ a k, ¬ (99 ≤ a ∧ a ≤ 105) → ¬ (a = 98 ∧ (k = 2 ∨ k = 4)) → R' a k = R a k
theorem hfp_rf {R : Nat → Nat → Int32} : hfp R R := fun _ _ _ _ => rfl
theorem hfp_tr {R R1 R2 : Nat → Nat → Int32} (h1 : hfp R R1) (h2 : hfp R1 R2) : hfp R R2 := fun a k q1 q2 => (h2 a k q1 q2).trans (h1 a k q1 q2)
theorem hfp_t {R R' : Nat → Nat → Int32} (h : hft R R') : hfp R R' := fun a k q _ => h a k (fun z => by omega)
theorem hfp_r {o : Nat} {R R' : Nat → Nat → Int32} (h : hfr o R R') : hfp R R' := fun a k q _ => h a k (fun z => by omega)
theorem hfp_up {R : Nat → Nat → Int32} {b k : Nat} {v : Int32} (h : 99 ≤ b ∧ b ≤ 105) : hfp R (up2 R b k v) := fun a j q _ => up2_n (fun z => q (by rw [z.1]; exact h))
theorem hfp_up2 {R : Nat → Nat → Int32} {k : Nat} {v : Int32} (h : k = 2 ∨ k = 4) : hfp R (up2 R 98 k v) := fun a j _ q => up2_n (fun z => q ⟨z.1, by rw [z.2]; exact h⟩)
theorem hf_M_mk {o : Nat} {P P' : hP} {R R' : Nat → Nat → Int32} (h9 : R' 98 9 = nI o) (h18 : o ≤ 18) (c2 : R' 98 2 = nI (P' 2 0)) (c4 : R' 98 4 = nI (P' 3 0)) (n2 : P' 2 0 ≤ 5) (n3 : P' 3 0 ≤ 6) (n4 : P' 4 0 ≤ 200 ∧ R' 105 o = nI (P' 4 0))
    (w : ∀ j, j < 24 → R' 99 j = nI (P' 0 j) ∧ R' 100 j = nI (P' 1 j) ∧ P' 0 j < 4 ∧ P' 1 j < 10)
    (p : ∀ p, p < P' 2 0 → R' 101 p = nI (P' 6 p) ∧ R' 105 (o + (1 + p)) = nI (P' 5 p) ∧ P' 5 p < 25 ∧ P' 6 p < 4)
    (h : ∀ h, h < P' 3 0 → (R' 102 h = nI (P' 7 h) ∧ R' 103 h = nI (P' 8 h) ∧ R' 104 h = nI (P' 9 h)) ∧ (R' 105 (o + (6 + h)) = hf_mw (P' 10 h) ∧ (P' 10 h < 25 → R' 105 (o + (12 + h)) = nI (P' 10 h)) ∧ (P' 10 h = 30 → R' 105 (o + (12 + h)) = -1)) ∧ (P' 7 h < 6 ∧ P' 8 h < 10 ∧ P' 9 h < 100 ∧ (P' 10 h < 25 ∨ (25 ≤ P' 10 h ∧ P' 10 h < 25 + P' 2 0) ∨ P' 10 h = 30))) : hf_M o P' R' :=
  ⟨⟨c2, c4, fun j hj => ⟨(w j hj).1, (w j hj).2.1⟩, fun q hq => (p q hq).1, fun q hq => (h q hq).1⟩, ⟨n4.2, fun q hq => (p q hq).2.1, fun q hq => (h q hq).2.1⟩, h9, h18, n2, n3, n4.1, fun j hj => (w j hj).2.2, fun q hq => (p q hq).2.2, fun q hq => (h q hq).2.2⟩
theorem hf_M_w {o : Nat} {P : hP} {R : Nat → Nat → Int32} (M : hf_M o P R) : ∀ j, j < 24 → R 99 j = nI (P 0 j) ∧ R 100 j = nI (P 1 j) ∧ P 0 j < 4 ∧ P 1 j < 10 :=
  fun j hj => ⟨(M.1.2.2.1 j hj).1, (M.1.2.2.1 j hj).2, M.2.2.2.2.2.2.2.1 j hj⟩
theorem hf_M_p {o : Nat} {P : hP} {R : Nat → Nat → Int32} (M : hf_M o P R) : ∀ p, p < P 2 0 → R 101 p = nI (P 6 p) ∧ R 105 (o + (1 + p)) = nI (P 5 p) ∧ P 5 p < 25 ∧ P 6 p < 4 :=
  fun p hp => ⟨M.1.2.2.2.1 p hp, M.2.1.2.1 p hp, M.2.2.2.2.2.2.2.2.1 p hp⟩
theorem hf_M_h {o : Nat} {P : hP} {R : Nat → Nat → Int32} (M : hf_M o P R) : ∀ h, h < P 3 0 → (R 102 h = nI (P 7 h) ∧ R 103 h = nI (P 8 h) ∧ R 104 h = nI (P 9 h)) ∧ (R 105 (o + (6 + h)) = hf_mw (P 10 h) ∧ (P 10 h < 25 → R 105 (o + (12 + h)) = nI (P 10 h)) ∧ (P 10 h = 30 → R 105 (o + (12 + h)) = -1)) ∧ (P 7 h < 6 ∧ P 8 h < 10 ∧ P 9 h < 100 ∧ (P 10 h < 25 ∨ (25 ≤ P 10 h ∧ P 10 h < 25 + P 2 0) ∨ P 10 h = 30)) :=
  fun h hh => ⟨M.1.2.2.2.2 h hh, M.2.1.2.2 h hh, M.2.2.2.2.2.2.2.2.2 h hh⟩
theorem hf_M_wind {o g i j : Nat} {P : hP} {R : Nat → Nat → Int32} (M : hf_M o P R) (hg : g < 24) (hi : i < 4) (hj : j < 10) : hf_M o (hf_up (hf_up P 0 g i) 1 g j) (up2 (up2 R 99 g (nI i)) 100 g (nI j)) := by
  have rr : ∀ r k, r ≠ 0 → r ≠ 1 → hf_up (hf_up P 0 g i) 1 g j r k = P r k := fun r k h0 h1 => by rw [hf_up_r h1, hf_up_r h0]
  have ne : ∀ a k, a ≠ 99 → a ≠ 100 → up2 (up2 R 99 g (nI i)) 100 g (nI j) a k = R a k := fun a k h0 h1 => by rw [up2_a h1, up2_a h0]
  have o4 := M.2.2.2.2
  refine hf_M_mk (P := P) (R := R) ?_ M.2.2.2.1 ?_ ?_ ?_ ?_ ?_ ?_ ?_ ?_
  · rw [ne _ _ (by decide) (by decide)]; exact M.2.2.1
  · rw [ne _ _ (by decide) (by decide), rr _ _ (by decide) (by decide)]; exact M.1.1
  · rw [ne _ _ (by decide) (by decide), rr _ _ (by decide) (by decide)]; exact M.1.2.1
  · rw [rr _ _ (by decide) (by decide)]; exact o4.1
  · rw [rr _ _ (by decide) (by decide)]; exact o4.2.1
  · rw [ne _ _ (by decide) (by decide), rr _ _ (by decide) (by decide)]; exact ⟨o4.2.2.1, M.2.1.1⟩
  · intro k hk
    have mw := hf_M_w M k hk
    by_cases q : k = g
    · subst q
      rw [up2_a (show 99 ≠ 100 by decide), up2_s, up2_s, hf_up_r (show 0 ≠ 1 by decide), hf_up_s, hf_up_s]
      exact ⟨rfl, rfl, hi, hj⟩
    · rw [up2_k q, up2_k q, up2_k q, up2_k q, hf_up_j q, hf_up_j q, hf_up_j q, hf_up_j q]; exact mw
  · intro p hp
    rw [rr _ _ (by decide) (by decide)] at hp
    rw [ne _ _ (by decide) (by decide), ne _ _ (by decide) (by decide), rr _ _ (by decide) (by decide), rr _ _ (by decide) (by decide)]
    exact hf_M_p M p hp
  · intro h hh
    rw [rr _ _ (by decide) (by decide)] at hh
    rw [ne _ _ (by decide) (by decide), ne _ _ (by decide) (by decide), ne _ _ (by decide) (by decide), ne _ _ (by decide) (by decide), ne _ _ (by decide) (by decide), rr _ _ (by decide) (by decide), rr _ _ (by decide) (by decide), rr _ _ (by decide) (by decide), rr _ _ (by decide) (by decide), rr _ _ (by decide) (by decide)]
    exact hf_M_h M h hh
def a_windOf (P : hP) (v : Int32) : Int32 := match hxi 24 v with
  | none => -1
  | some g => nI (10 * P 0 g + P 1 g)
set_option maxHeartbeats 400000 in
theorem sp_mwindOf {d : Nat} (hd : 2 < d) {R : Nat → Nat → Int32} {X : hk_D} {Q : hk_Q} {v : Int32} {o : Nat} {P : hP} (M : hf_M o P R) (hQ : Q (some (.int (a_windOf P v))) (hw R X)) : hk_call d mM_windOf [.ref 98, .int v] (hw R X) Q := by
  obtain ⟨d, rfl⟩ : ∃ e, d = e + 1 := ⟨d - 1, by omega⟩
  unfold a_windOf at hQ
  refine hk_run2 (hk_call_m d) 100 ?_
  refine sp_misHour (by omega) (fun g hg e => ?_) (fun ng => ?_)
  · refine And.intro (fun c => absurd c (by decide)) (fun _ => ?_)
    rw [e, hxi_s hg (by omega)] at hQ
    dsimp only at hQ
    have mw := hf_M_w M g hg
    refine w_ld (j := g) (n := 24) e rfl hg (by omega) rfl mw.1 ?_
    refine w_ld (j := g) (n := 24) e rfl hg (by omega) rfl mw.2.1 ?_
    rw [← hn_add, ← hn_mul] at hQ
    exact hk_qe_of hQ
  · refine And.intro (fun _ => ?_) (fun c => absurd rfl c)
    rw [hxi_n (by omega) ng] at hQ
    exact hk_qe_of hQ
def o_wind (P : hP) (v a b : Int32) : Int32 × hP := match hxi 24 v with
  | none => (-1, P)
  | some g => match hxi 4 a with
    | none => (-1, P)
    | some i => match hxi 10 b with
      | none => (-1, P)
      | some j => (nI (10 * P 0 g + P 1 g), hf_up (hf_up P 0 g i) 1 g j)
set_option maxHeartbeats 400000 in
theorem sp_mwind {d : Nat} (hd : 3 < d) {R : Nat → Nat → Int32} {X : hk_D} {Q : hk_Q} {v a b : Int32} {P : hP} (M : hf_M 0 P R) (hQ : ∀ R', hf_M 0 (o_wind P v a b).2 R' → hfp R R' → Q (some (.int (o_wind P v a b).1)) (hw R' X)) : hk_call d mM_wind [.ref 98, .int v, .int a, .int b] (hw R X) Q := by
  obtain ⟨d, rfl⟩ : ∃ e, d = e + 1 := ⟨d - 1, by omega⟩
  unfold o_wind at hQ
  refine hk_run2 (hk_call_m d) 100 ?_
  refine sp_misHour (by omega) (fun g hg e => ?_) (fun ng => ?_)
  · refine And.intro (fun c => absurd c (by decide)) (fun _ => ?_)
    rw [e, hxi_s hg (by omega)] at hQ
    dsimp only at hQ
    refine sp_misWind (by omega) (fun i j hi hj ei ej => ?_) (fun nn => ?_)
    · refine And.intro (fun c => absurd c (by decide)) (fun _ => ?_)
      rw [ei, hxi_s hi (by omega), ej, hxi_s hj (by omega)] at hQ
      dsimp only at hQ
      refine sp_mwindOf (by omega) M ?_
      refine w_st (t := 0) (j := g) (n := 24) e rfl hg (by omega) rfl rfl ?_
      refine w_st (t := 0) (j := g) (n := 24) e rfl hg (by omega) rfl rfl ?_
      have ea : a_windOf P v = nI (10 * P 0 g + P 1 g) := by unfold a_windOf; rw [e, hxi_s hg (by omega)]
      rw [ea]
      refine hk_qe_of (hQ _ ?_ (hfp_tr (hfp_up (by omega)) (hfp_up (by omega))))
      rw [ei, ej]
      exact hf_M_wind M hg hi hj
    · refine And.intro (fun _ => ?_) (fun c => absurd rfl c)
      cases q1 : hxi 4 a with
      | none => rw [q1] at hQ; exact hk_qe_of (hQ R M hfp_rf)
      | some i =>
        cases q2 : hxi 10 b with
        | none => rw [q1, q2] at hQ; exact hk_qe_of (hQ R M hfp_rf)
        | some j =>
          have z1 := hxi_e (by omega) q1
          have z2 := hxi_e (by omega) q2
          exact absurd ⟨z1.2, z2.2⟩ (nn i j z1.1 z2.1)
  · refine And.intro (fun _ => ?_) (fun c => absurd rfl c)
    rw [hxi_n (by omega) ng] at hQ
    exact hk_qe_of (hQ R M hfp_rf)
def o_clock (P : hP) (v : Int32) : Int32 × hP := match hxi 97 v with
  | none => (-1, P)
  | some n => (nI (P 4 0), hf_up P 4 0 n)
set_option maxHeartbeats 400000 in
theorem sp_mclock {d : Nat} (hd : 1 < d) {R : Nat → Nat → Int32} {X : hk_D} {Q : hk_Q} {v : Int32} {P : hP} (M : hf_M 0 P R) (hQ : ∀ R', hf_M 0 (o_clock P v).2 R' → hfp R R' → Q (some (.int (o_clock P v).1)) (hw R' X)) : hk_call d mM_clock [.ref 98, .int v] (hw R X) Q := by
  obtain ⟨d, rfl⟩ : ∃ e, d = e + 1 := ⟨d - 1, by omega⟩
  unfold o_clock at hQ
  refine hk_run2 (hk_call_m d) 100 ?_
  refine sp_in (by omega) (n := 97) (by omega) (by decide) (fun n hn e => ?_) (fun nn => ?_)
  · refine And.intro (fun c => absurd c (by decide)) (fun _ => ?_)
    rw [e, hxi_s hn (by omega)] at hQ
    dsimp only at hQ
    refine w_ld (j := 0) (n := 36) rfl rfl (by omega) (by omega) rfl M.2.1.1 ?_
    refine w_st (t := 0) (j := 0) (n := 36) rfl rfl (by omega) (by omega) rfl rfl ?_
    refine hk_qe_of (hQ _ ?_ (hfp_up (by omega)))
    rw [e]
    exact hf_M_now M (by omega) (fun a k q => up2_n q) (up2_s _ _ _ _)
  · refine And.intro (fun _ => ?_) (fun c => absurd rfl c)
    rw [hxi_n (by omega) nn] at hQ
    exact hk_qe_of (hQ R M hfp_rf)
def o_moves (P : hP) (v w : Int32) : Int32 × hP := match hxi (P 2 0) v with
  | none => (-1, P)
  | some p => match hxi 25 w with
    | none => (-1, P)
    | some q => (nI (P 5 p), hf_up P 5 p q)
set_option maxHeartbeats 400000 in
theorem sp_mmoves {d : Nat} (hd : 2 < d) {R : Nat → Nat → Int32} {X : hk_D} {Q : hk_Q} {v w : Int32} {P : hP} (M : hf_M 0 P R) (hQ : ∀ R', hf_M 0 (o_moves P v w).2 R' → hfp R R' → Q (some (.int (o_moves P v w).1)) (hw R' X)) : hk_call d mM_moves [.ref 98, .int v, .int w] (hw R X) Q := by
  obtain ⟨d, rfl⟩ : ∃ e, d = e + 1 := ⟨d - 1, by omega⟩
  have h5 := M.2.2.2.2.1
  unfold o_moves at hQ
  refine hk_run2 (hk_call_m d) 100 ?_
  refine sp_misPerson (by omega) M.1.1 h5 (fun p hp e => ?_) (fun np => ?_)
  · refine And.intro (fun c => absurd c (by decide)) (fun _ => ?_)
    rw [e, hxi_s hp (by omega)] at hQ
    dsimp only at hQ
    refine sp_misPlace (by omega) (fun q hq eq => ?_) (fun nn => ?_)
    · refine And.intro (fun c => absurd c (by decide)) (fun _ => ?_)
      rw [eq, hxi_s hq (by omega)] at hQ
      dsimp only at hQ
      have ep := (hf_M_p M p hp).2.1
      rw [Nat.zero_add] at ep
      refine w_ld (j := 1 + p) (n := 36) (by rw [e, ← nI_add]; rfl) rfl (by omega) (by omega) rfl ep ?_
      refine w_st (t := 0) (j := 1 + p) (n := 36) (by rw [e, ← nI_add]; rfl) rfl (by omega) (by omega) rfl rfl ?_
      refine hk_qe_of (hQ _ ?_ (hfp_up (by omega)))
      rw [eq]
      exact hf_M_place M hp hq (fun a k z => up2_n (by omega)) (by rw [Nat.zero_add, up2_s])
    · refine And.intro (fun _ => ?_) (fun c => absurd rfl c)
      rw [hxi_n (by omega) nn] at hQ
      exact hk_qe_of (hQ R M hfp_rf)
  · refine And.intro (fun _ => ?_) (fun c => absurd rfl c)
    rw [hxi_n (by omega) np] at hQ
    exact hk_qe_of (hQ R M hfp_rf)
def o_found (P : hP) (v w : Int32) : Int32 × hP := match hxi (P 3 0) v with
  | none => (-1, P)
  | some j => match hxi 25 w with
    | none => (-1, P)
    | some q => if P 10 j = 30 then (1, hf_up P 10 j q) else (-4, P)
set_option maxHeartbeats 400000 in
theorem sp_mfound {d : Nat} (hd : 2 < d) {R : Nat → Nat → Int32} {X : hk_D} {Q : hk_Q} {v w : Int32} {P : hP} (M : hf_M 0 P R) (hQ : ∀ R', hf_M 0 (o_found P v w).2 R' → hfp R R' → Q (some (.int (o_found P v w).1)) (hw R' X)) : hk_call d mM_found [.ref 98, .int v, .int w] (hw R X) Q := by
  obtain ⟨d, rfl⟩ : ∃ e, d = e + 1 := ⟨d - 1, by omega⟩
  have h6 := M.2.2.2.2.2.1
  unfold o_found at hQ
  refine hk_run2 (hk_call_m d) 100 ?_
  refine sp_misHat (by omega) M.1.2.1 h6 (fun j hj e => ?_) (fun np => ?_)
  · refine And.intro (fun c => absurd c (by decide)) (fun _ => ?_)
    rw [e, hxi_s hj (by omega)] at hQ
    dsimp only at hQ
    refine sp_misPlace (by omega) (fun q hq eq => ?_) (fun nn => ?_)
    · refine And.intro (fun c => absurd c (by decide)) (fun _ => ?_)
      rw [eq, hxi_s hq (by omega)] at hQ
      dsimp only at hQ
      refine sp_isGone (by omega) M hj e (fun hg => ?_) (fun hg => ?_)
      · refine And.intro (fun c => absurd c (by decide)) (fun _ => ?_)
        rw [if_pos hg] at hQ
        refine w_st (t := 0) (j := 12 + j) (n := 36) (by rw [e, ← nI_add]; rfl) rfl (by omega) (by omega) rfl rfl ?_
        refine hk_qe_of (hQ _ ?_ (hfp_up (by omega)))
        rw [eq]
        have mw := (hf_M_h M j hj).2.1.1
        rw [hg] at mw
        refine hf_M_hat M hj (Or.inl hq) (fun a k z => up2_n (by omega)) ?_ (fun _ => by rw [Nat.zero_add, up2_s]) (fun z => by omega)
        rw [up2_k (by omega), mw, hf_mw_n (by omega), hf_mw_n (by omega)]
      · refine And.intro (fun _ => ?_) (fun c => absurd rfl c)
        rw [if_neg hg] at hQ
        exact hk_qe_of (hQ R M hfp_rf)
    · refine And.intro (fun _ => ?_) (fun c => absurd rfl c)
      rw [hxi_n (by omega) nn] at hQ
      exact hk_qe_of (hQ R M hfp_rf)
  · refine And.intro (fun _ => ?_) (fun c => absurd rfl c)
    rw [hxi_n (by omega) np] at hQ
    exact hk_qe_of (hQ R M hfp_rf)
def o_hours (P : hP) (v : Int32) : Int32 × hP := match hxi 49 v with
  | none => (-1, P)
  | some n => (nI (hf_hours n P 4 0), hf_hours n P)
set_option maxHeartbeats 400000 in
theorem sp_mhours {d : Nat} (hd : 6 < d) {R : Nat → Nat → Int32} {X : hk_D} {Q : hk_Q} {v : Int32} {P : hP} (M : hf_M 0 P R) (hQ : ∀ R', hf_M 0 (o_hours P v).2 R' → hfp R R' → Q (some (.int (o_hours P v).1)) (hw R' X)) : hk_call d mM_hours [.ref 98, .int v] (hw R X) Q := by
  obtain ⟨d, rfl⟩ : ∃ e, d = e + 1 := ⟨d - 1, by omega⟩
  unfold o_hours at hQ
  refine hk_run2 (hk_call_m d) 100 ?_
  refine sp_misTrial (by omega) (fun n hn e => ?_) (fun nn => ?_)
  · refine And.intro (fun c => absurd c (by decide)) (fun _ => ?_)
    rw [e, hxi_s hn (by omega)] at hQ
    dsimp only at hQ
    refine sp_mgo (by omega) M e (by omega) (fun R' M' f => ?_)
    refine w_ld (j := 0) (n := 36) rfl rfl (by omega) (by omega) rfl M'.2.1.1 ?_
    exact hk_qe_of (hQ R' M' (hfp_r f))
  · refine And.intro (fun _ => ?_) (fun c => absurd rfl c)
    rw [hxi_n (by omega) nn] at hQ
    exact hk_qe_of (hQ R M hfp_rf)
end
section
/-! THE REFERENCE: people and hats -/
theorem hn_sub1 (n : Nat) : nI (n + 1) - 1 = nI n := by
  rw [← nI_1]; exact Int32.add_sub_cancel _ _
theorem hf_M_speed {o p s : Nat} {P : hP} {R : Nat → Nat → Int32} (M : hf_M o P R) (hp : p < P 2 0) (hs : s < 4) : hf_M o (hf_up P 6 p s) (up2 R 101 p (nI s)) := by
  have rr : ∀ r k, r ≠ 6 → hf_up P 6 p s r k = P r k := fun r k h0 => hf_up_r h0
  have ne : ∀ a k, a ≠ 101 → up2 R 101 p (nI s) a k = R a k := fun a k h0 => up2_a h0
  have o4 := M.2.2.2.2
  refine hf_M_mk (P := P) (R := R) ?_ M.2.2.2.1 ?_ ?_ ?_ ?_ ?_ ?_ ?_ ?_
  · rw [ne _ _ (by decide)]; exact M.2.2.1
  · rw [ne _ _ (by decide), rr _ _ (by decide)]; exact M.1.1
  · rw [ne _ _ (by decide), rr _ _ (by decide)]; exact M.1.2.1
  · rw [rr _ _ (by decide)]; exact o4.1
  · rw [rr _ _ (by decide)]; exact o4.2.1
  · rw [ne _ _ (by decide), rr _ _ (by decide)]; exact ⟨o4.2.2.1, M.2.1.1⟩
  · intro k hk
    rw [ne _ _ (by decide), ne _ _ (by decide), rr _ _ (by decide), rr _ _ (by decide)]; exact hf_M_w M k hk
  · intro k hk
    rw [rr _ _ (by decide)] at hk
    have mp := hf_M_p M k hk
    rw [ne 105 _ (by decide), rr 5 _ (by decide)]
    by_cases q : k = p
    · subst q
      rw [up2_s, hf_up_s]; exact ⟨rfl, mp.2.1, mp.2.2.1, hs⟩
    · rw [up2_k q, hf_up_j q]; exact mp
  · intro h hh
    rw [rr _ _ (by decide)] at hh
    rw [ne _ _ (by decide), ne _ _ (by decide), ne _ _ (by decide), ne _ _ (by decide), ne _ _ (by decide), rr _ _ (by decide), rr _ _ (by decide), rr _ _ (by decide), rr _ _ (by decide), rr _ _ (by decide)]
    exact hf_M_h M h hh
def o_speed (P : hP) (v w : Int32) : Int32 × hP := match hxi (P 2 0) v with
  | none => (-1, P)
  | some p => match hxi 4 w with
    | none => (-1, P)
    | some s => (nI (P 6 p), hf_up P 6 p s)
set_option maxHeartbeats 400000 in
theorem sp_mspeed {d : Nat} (hd : 2 < d) {R : Nat → Nat → Int32} {X : hk_D} {Q : hk_Q} {v w : Int32} {P : hP} (M : hf_M 0 P R) (hQ : ∀ R', hf_M 0 (o_speed P v w).2 R' → hfp R R' → Q (some (.int (o_speed P v w).1)) (hw R' X)) : hk_call d mM_speed [.ref 98, .int v, .int w] (hw R X) Q := by
  obtain ⟨d, rfl⟩ : ∃ e, d = e + 1 := ⟨d - 1, by omega⟩
  have h5 := M.2.2.2.2.1
  unfold o_speed at hQ
  refine hk_run2 (hk_call_m d) 100 ?_
  refine sp_misPerson (by omega) M.1.1 h5 (fun p hp e => ?_) (fun np => ?_)
  · refine And.intro (fun c => absurd c (by decide)) (fun _ => ?_)
    rw [e, hxi_s hp (by omega)] at hQ
    dsimp only at hQ
    refine sp_in (by omega) (n := 4) (by omega) (by decide) (fun q hq eq => ?_) (fun nn => ?_)
    · refine And.intro (fun c => absurd c (by decide)) (fun _ => ?_)
      rw [eq, hxi_s hq (by omega)] at hQ
      dsimp only at hQ
      refine w_ld (j := p) (n := 5) e rfl (by omega) (by omega) rfl (hf_M_p M p hp).1 ?_
      refine w_st (t := 0) (j := p) (n := 5) e rfl (by omega) (by omega) rfl rfl ?_
      refine hk_qe_of (hQ _ ?_ (hfp_up (by omega)))
      rw [eq]
      exact hf_M_speed M hp hq
    · refine And.intro (fun _ => ?_) (fun c => absurd rfl c)
      rw [hxi_n (by omega) nn] at hQ
      exact hk_qe_of (hQ R M hfp_rf)
  · refine And.intro (fun _ => ?_) (fun c => absurd rfl c)
    rw [hxi_n (by omega) np] at hQ
    exact hk_qe_of (hQ R M hfp_rf)
def hf_addp (P : hP) (q s : Nat) : hP := hf_up (hf_up (hf_up P 5 (P 2 0) q) 6 (P 2 0) s) 2 0 (P 2 0 + 1)
theorem hf_M_addp {q s : Nat} {P : hP} {R : Nat → Nat → Int32} (M : hf_M 0 P R) (hn : P 2 0 < 5) (hq : q < 25) (hs : s < 4) : hf_M 0 (hf_addp P q s) (up2 (up2 (up2 R 105 (1 + P 2 0) (nI q)) 101 (P 2 0) (nI s)) 98 2 (nI (P 2 0 + 1))) := by
  have rr : ∀ r k, r ≠ 6 → r ≠ 5 → r ≠ 2 → hf_addp P q s r k = P r k := fun r k h0 h1 h2 => by unfold hf_addp; rw [hf_up_r h2, hf_up_r h0, hf_up_r h1]
  have o4 := M.2.2.2.2
  have h6 := o4.2.1
  have n2 : hf_addp P q s 2 0 = P 2 0 + 1 := hf_up_s _ _ _ _
  have n3 : hf_addp P q s 3 0 = P 3 0 := rr _ _ (by decide) (by decide) (by decide)
  have ne : ∀ a k, ¬ (a = 105 ∧ k = 1 + P 2 0) → ¬ (a = 101 ∧ k = P 2 0) → ¬ (a = 98 ∧ k = 2) → up2 (up2 (up2 R 105 (1 + P 2 0) (nI q)) 101 (P 2 0) (nI s)) 98 2 (nI (P 2 0 + 1)) a k = R a k := fun a k h1 h2 h3 => by rw [up2_n h3, up2_n h2, up2_n h1]
  refine hf_M_mk (P := P) (R := R) ?_ M.2.2.2.1 ?_ ?_ ?_ ?_ ?_ ?_ ?_ ?_
  · rw [ne _ _ (by omega) (by omega) (by omega)]; exact M.2.2.1
  · rw [up2_s, n2]
  · rw [ne _ _ (by omega) (by omega) (by omega), n3]; exact M.1.2.1
  · rw [n2]; omega
  · rw [n3]; exact o4.2.1
  · rw [ne _ _ (by omega) (by omega) (by omega), rr _ _ (by decide) (by decide) (by decide)]; exact ⟨o4.2.2.1, M.2.1.1⟩
  · intro k hk
    rw [ne _ _ (by omega) (by omega) (by omega), ne _ _ (by omega) (by omega) (by omega), rr _ _ (by decide) (by decide) (by decide), rr _ _ (by decide) (by decide) (by decide)]; exact hf_M_w M k hk
  · intro k hk
    rw [n2] at hk
    by_cases z : k = P 2 0
    · have e6 : hf_addp P q s 6 k = s := by rw [z]; unfold hf_addp; rw [hf_up_r (by decide), hf_up_s]
      have e5 : hf_addp P q s 5 k = q := by rw [z]; unfold hf_addp; rw [hf_up_r (by decide), hf_up_r (by decide), hf_up_s]
      rw [e6, e5]
      refine ⟨?_, ?_, hq, hs⟩
      · rw [z, up2_a (by decide), up2_s]
      · rw [z, Nat.zero_add, up2_a (by decide), up2_a (by decide), up2_s]
    · have e6 : hf_addp P q s 6 k = P 6 k := by unfold hf_addp; rw [hf_up_r (by decide), hf_up_j z, hf_up_j z]
      have e5 : hf_addp P q s 5 k = P 5 k := by unfold hf_addp; rw [hf_up_r (by decide), hf_up_j z, hf_up_j z]
      rw [e6, e5, ne _ _ (by omega) (by omega) (by omega), ne _ _ (by omega) (by omega) (by omega)]
      exact hf_M_p M k (by omega)
  · intro h hh
    rw [n3] at hh
    have mh := hf_M_h M h hh
    rw [ne _ _ (by omega) (by omega) (by omega), ne _ _ (by omega) (by omega) (by omega), ne _ _ (by omega) (by omega) (by omega), ne _ _ (by omega) (by omega) (by omega), ne _ _ (by omega) (by omega) (by omega), rr 7 _ (by decide) (by decide) (by decide), rr 8 _ (by decide) (by decide) (by decide), rr 9 _ (by decide) (by decide) (by decide), rr 10 _ (by decide) (by decide) (by decide), n2]
    refine ⟨mh.1, mh.2.1, mh.2.2.1, mh.2.2.2.1, mh.2.2.2.2.1, ?_⟩
    have := mh.2.2.2.2.2
    omega
def o_person (P : hP) (v w : Int32) : Int32 × hP := match hxi 25 v with
  | none => (-1, P)
  | some q => match hxi 4 w with
    | none => (-1, P)
    | some s => if P 2 0 = 5 then (-2, P) else (nI (P 2 0), hf_addp P q s)
set_option maxHeartbeats 400000 in
theorem sp_mperson {d : Nat} (hd : 2 < d) {R : Nat → Nat → Int32} {X : hk_D} {Q : hk_Q} {v w : Int32} {P : hP} (M : hf_M 0 P R) (hQ : ∀ R', hf_M 0 (o_person P v w).2 R' → hfp R R' → Q (some (.int (o_person P v w).1)) (hw R' X)) : hk_call d mM_person [.ref 98, .int v, .int w] (hw R X) Q := by
  obtain ⟨d, rfl⟩ : ∃ e, d = e + 1 := ⟨d - 1, by omega⟩
  have h5 := M.2.2.2.2.1
  unfold o_person at hQ
  refine hk_run2 (hk_call_m d) 100 ?_
  refine sp_misPlace (by omega) (fun q hq eq => ?_) (fun nn => ?_)
  · refine And.intro (fun c => absurd c (by decide)) (fun _ => ?_)
    rw [eq, hxi_s hq (by omega)] at hQ
    dsimp only at hQ
    refine sp_in (by omega) (n := 4) (by omega) (by decide) (fun s hs es => ?_) (fun nn => ?_)
    · refine And.intro (fun c => absurd c (by decide)) (fun _ => ?_)
      rw [es, hxi_s hs (by omega)] at hQ
      dsimp only at hQ
      have e5 := M.1.1
      refine And.intro (fun c => ?_) (fun c => ?_)
      · have : P 2 0 = 5 := (nI_eq (b := 5) (by omega) (by omega)).mp (e5.symm.trans c)
        rw [if_pos this] at hQ
        exact hk_qe_of (hQ R M hfp_rf)
      · have hn : ¬ P 2 0 = 5 := fun z => c (by rw [e5, z]; rfl)
        rw [if_neg hn] at hQ
        refine w_st (t := 0) (j := 1 + P 2 0) (n := 36) (by rw [M.1.1, ← nI_add]; rfl) rfl (by omega) (by omega) rfl rfl ?_
        refine w_st (t := 0) (j := P 2 0) (n := 5) (by rw [up2_a (by decide)]; exact M.1.1) rfl (by omega) (by omega) rfl rfl ?_
        refine w_put trivial rfl rfl ?_
        refine hk_qe_of ?_
        rw [up2_s, up2_a (by decide), up2_a (by decide), M.1.1, nI_1, hn_sub1, eq, es]
        exact hQ _ (hf_M_addp M (by omega) hq hs) (hfp_tr (hfp_tr (hfp_up (by omega)) (hfp_up (by omega))) (hfp_up2 (by omega)))
    · refine And.intro (fun _ => ?_) (fun c => absurd rfl c)
      rw [hxi_n (by omega) nn] at hQ
      exact hk_qe_of (hQ R M hfp_rf)
  · refine And.intro (fun _ => ?_) (fun c => absurd rfl c)
    rw [hxi_n (by omega) nn] at hQ
    exact hk_qe_of (hQ R M hfp_rf)
end
section
/-! THE REFERENCE: a new hat; what a person or a hat is -/
def hf_addh (P : hP) (k a w q : Nat) : hP := hf_up (hf_up (hf_up (hf_up (hf_up P 7 (P 3 0) k) 8 (P 3 0) a) 9 (P 3 0) w) 10 (P 3 0) q) 3 0 (P 3 0 + 1)
theorem hf_M_addh {k a w q : Nat} {P : hP} {R : Nat → Nat → Int32} (M : hf_M 0 P R) (hn : P 3 0 < 6) (hk : k < 6) (ha : a < 10) (hw : w < 100) (hq : q < 25) : hf_M 0 (hf_addh P k a w q) (up2 (up2 (up2 (up2 (up2 (up2 R 102 (P 3 0) (nI k)) 103 (P 3 0) (nI a)) 104 (P 3 0) (nI w)) 105 (6 + P 3 0) (-1)) 105 (12 + P 3 0) (nI q)) 98 4 (nI (P 3 0 + 1))) := by
  have rr : ∀ r i, r ≠ 7 → r ≠ 8 → r ≠ 9 → r ≠ 10 → r ≠ 3 → hf_addh P k a w q r i = P r i := fun r i h7 h8 h9 h10 h3 => by unfold hf_addh; rw [hf_up_r h3, hf_up_r h10, hf_up_r h9, hf_up_r h8, hf_up_r h7]
  have o4 := M.2.2.2.2
  have h5 := o4.1
  have n3 : hf_addh P k a w q 3 0 = P 3 0 + 1 := hf_up_s _ _ _ _
  have n2 : hf_addh P k a w q 2 0 = P 2 0 := rr _ _ (by decide) (by decide) (by decide) (by decide) (by decide)
  have ne : ∀ b i, ¬ ((b = 102 ∨ b = 103 ∨ b = 104) ∧ i = P 3 0) → ¬ (b = 105 ∧ (i = 6 + P 3 0 ∨ i = 12 + P 3 0)) → ¬ (b = 98 ∧ i = 4) → up2 (up2 (up2 (up2 (up2 (up2 R 102 (P 3 0) (nI k)) 103 (P 3 0) (nI a)) 104 (P 3 0) (nI w)) 105 (6 + P 3 0) (-1)) 105 (12 + P 3 0) (nI q)) 98 4 (nI (P 3 0 + 1)) b i = R b i := fun b i h1 h2 h3 => by rw [up2_n (by omega), up2_n (by omega), up2_n (by omega), up2_n (by omega), up2_n (by omega), up2_n (by omega)]
  refine hf_M_mk (P := P) (R := R) ?_ M.2.2.2.1 ?_ ?_ ?_ ?_ ?_ ?_ ?_ ?_
  · rw [ne _ _ (by omega) (by omega) (by omega)]; exact M.2.2.1
  · rw [ne _ _ (by omega) (by omega) (by omega), n2]; exact M.1.1
  · rw [up2_s, n3]
  · rw [n2]; exact o4.1
  · rw [n3]; omega
  · rw [ne _ _ (by omega) (by omega) (by omega), rr _ _ (by decide) (by decide) (by decide) (by decide) (by decide)]; exact ⟨o4.2.2.1, M.2.1.1⟩
  · intro i hi
    rw [ne _ _ (by omega) (by omega) (by omega), ne _ _ (by omega) (by omega) (by omega), rr _ _ (by decide) (by decide) (by decide) (by decide) (by decide), rr _ _ (by decide) (by decide) (by decide) (by decide) (by decide)]; exact hf_M_w M i hi
  · intro i hi
    rw [n2] at hi
    rw [ne _ _ (by omega) (by omega) (by omega), ne _ _ (by omega) (by omega) (by omega), rr _ _ (by decide) (by decide) (by decide) (by decide) (by decide), rr _ _ (by decide) (by decide) (by decide) (by decide) (by decide)]; exact hf_M_p M i hi
  · intro h hh
    rw [n3] at hh
    rw [n2]
    by_cases z : h = P 3 0
    · have e7 : hf_addh P k a w q 7 h = k := by rw [z]; unfold hf_addh; rw [hf_up_r (by decide), hf_up_r (by decide), hf_up_r (by decide), hf_up_r (by decide), hf_up_s]
      have e8 : hf_addh P k a w q 8 h = a := by rw [z]; unfold hf_addh; rw [hf_up_r (by decide), hf_up_r (by decide), hf_up_r (by decide), hf_up_s]
      have e9 : hf_addh P k a w q 9 h = w := by rw [z]; unfold hf_addh; rw [hf_up_r (by decide), hf_up_r (by decide), hf_up_s]
      have e10 : hf_addh P k a w q 10 h = q := by rw [z]; unfold hf_addh; rw [hf_up_r (by decide), hf_up_s]
      rw [e7, e8, e9, e10, z, Nat.zero_add, Nat.zero_add]
      refine ⟨⟨?_, ?_, ?_⟩, ⟨?_, fun _ => ?_, fun y => by omega⟩, hk, ha, hw, Or.inl hq⟩
      · rw [up2_a (by decide), up2_a (by decide), up2_a (by decide), up2_a (by decide), up2_a (by decide), up2_s]
      · rw [up2_a (by decide), up2_a (by decide), up2_a (by decide), up2_a (by decide), up2_s]
      · rw [up2_a (by decide), up2_a (by decide), up2_a (by decide), up2_s]
      · rw [up2_a (by decide), up2_k (by omega), up2_s, hf_mw_n (by omega)]
      · rw [up2_a (by decide), up2_s]
    · have e7 : hf_addh P k a w q 7 h = P 7 h := by unfold hf_addh; rw [hf_up_r (by decide), hf_up_j z, hf_up_j z, hf_up_j z, hf_up_j z]
      have e8 : hf_addh P k a w q 8 h = P 8 h := by unfold hf_addh; rw [hf_up_r (by decide), hf_up_j z, hf_up_j z, hf_up_j z, hf_up_j z]
      have e9 : hf_addh P k a w q 9 h = P 9 h := by unfold hf_addh; rw [hf_up_r (by decide), hf_up_j z, hf_up_j z, hf_up_j z, hf_up_j z]
      have e10 : hf_addh P k a w q 10 h = P 10 h := by unfold hf_addh; rw [hf_up_r (by decide), hf_up_j z, hf_up_j z, hf_up_j z, hf_up_j z]
      rw [e7, e8, e9, e10, ne _ _ (by omega) (by omega) (by omega), ne _ _ (by omega) (by omega) (by omega), ne _ _ (by omega) (by omega) (by omega), ne _ _ (by omega) (by omega) (by omega), ne _ _ (by omega) (by omega) (by omega)]
      exact hf_M_h M h (by omega)
def o_hat (P : hP) (v1 v2 v3 v4 : Int32) : Int32 × hP := match hxi 6 v1 with
  | none => (-1, P)
  | some k => match hxi 10 v2 with
    | none => (-1, P)
    | some a => match hxi 100 v3 with
      | none => (-1, P)
      | some w => match hxi 25 v4 with
        | none => (-1, P)
        | some q => if P 3 0 = 6 then (-2, P) else (nI (P 3 0), hf_addh P k a w q)
set_option maxHeartbeats 400000 in
theorem sp_mhat {d : Nat} (hd : 2 < d) {R : Nat → Nat → Int32} {X : hk_D} {Q : hk_Q} {v1 v2 v3 v4 : Int32} {P : hP} (M : hf_M 0 P R) (hQ : ∀ R', hf_M 0 (o_hat P v1 v2 v3 v4).2 R' → hfp R R' → Q (some (.int (o_hat P v1 v2 v3 v4).1)) (hw R' X)) : hk_call d mM_hat [.ref 98, .int v1, .int v2, .int v3, .int v4] (hw R X) Q := by
  obtain ⟨d, rfl⟩ : ∃ e, d = e + 1 := ⟨d - 1, by omega⟩
  have h6 := M.2.2.2.2.2.1
  have e6 := M.1.2.1
  unfold o_hat at hQ
  refine hk_run2 (hk_call_m d) 100 ?_
  refine sp_in (by omega) (n := 6) (by omega) (by decide) (fun k hk ek => ?_) (fun nn => ?_)
  · refine And.intro (fun c => absurd c (by decide)) (fun _ => ?_)
    rw [ek, hxi_s hk (by omega)] at hQ
    dsimp only at hQ
    refine sp_in (by omega) (n := 10) (by omega) (by decide) (fun a ha ea => ?_) (fun nn => ?_)
    · refine And.intro (fun c => absurd c (by decide)) (fun _ => ?_)
      rw [ea, hxi_s ha (by omega)] at hQ
      dsimp only at hQ
      refine sp_in (by omega) (n := 100) (by omega) (by decide) (fun w hw ew => ?_) (fun nn => ?_)
      · refine And.intro (fun c => absurd c (by decide)) (fun _ => ?_)
        rw [ew, hxi_s hw (by omega)] at hQ
        dsimp only at hQ
        refine sp_misPlace (by omega) (fun q hq eq => ?_) (fun nn => ?_)
        · refine And.intro (fun c => absurd c (by decide)) (fun _ => ?_)
          rw [eq, hxi_s hq (by omega)] at hQ
          dsimp only at hQ
          refine And.intro (fun c => ?_) (fun c => ?_)
          · have : P 3 0 = 6 := (nI_eq (b := 6) (by omega) (by omega)).mp (e6.symm.trans c)
            rw [if_pos this] at hQ
            exact hk_qe_of (hQ R M hfp_rf)
          · have hn : ¬ P 3 0 = 6 := fun z => c (by rw [e6, z]; rfl)
            rw [if_neg hn] at hQ
            refine w_st (t := 0) (j := P 3 0) (n := 6) e6 rfl (by omega) (by omega) rfl rfl ?_
            refine w_st (t := 0) (j := P 3 0) (n := 6) (by rw [up2_a (by decide)]; exact e6) rfl (by omega) (by omega) rfl rfl ?_
            refine w_st (t := 0) (j := P 3 0) (n := 6) (by rw [up2_a (by decide), up2_a (by decide)]; exact e6) rfl (by omega) (by omega) rfl rfl ?_
            refine w_st (t := 0) (j := 6 + P 3 0) (n := 36) (by rw [up2_a (by decide), up2_a (by decide), up2_a (by decide), e6, ← nI_add]; rfl) rfl (by omega) (by omega) rfl rfl ?_
            refine w_st (t := 0) (j := 12 + P 3 0) (n := 36) (by rw [up2_a (by decide), up2_a (by decide), up2_a (by decide), up2_a (by decide), e6, ← nI_add]; rfl) rfl (by omega) (by omega) rfl rfl ?_
            refine w_put trivial rfl rfl ?_
            refine hk_qe_of ?_
            rw [up2_s, up2_a (by decide), up2_a (by decide), up2_a (by decide), up2_a (by decide), up2_a (by decide), e6, nI_1, hn_sub1, ek, ea, ew, eq]
            exact hQ _ (hf_M_addh M (by omega) hk ha hw hq) (hfp_tr (hfp_tr (hfp_tr (hfp_tr (hfp_tr (hfp_up (by omega)) (hfp_up (by omega))) (hfp_up (by omega))) (hfp_up (by omega))) (hfp_up (by omega))) (hfp_up2 (by omega)))
        · refine And.intro (fun _ => ?_) (fun c => absurd rfl c)
          rw [hxi_n (by omega) nn] at hQ
          exact hk_qe_of (hQ R M hfp_rf)
      · refine And.intro (fun _ => ?_) (fun c => absurd rfl c)
        rw [hxi_n (by omega) nn] at hQ
        exact hk_qe_of (hQ R M hfp_rf)
    · refine And.intro (fun _ => ?_) (fun c => absurd rfl c)
      rw [hxi_n (by omega) nn] at hQ
      exact hk_qe_of (hQ R M hfp_rf)
  · refine And.intro (fun _ => ?_) (fun c => absurd rfl c)
    rw [hxi_n (by omega) nn] at hQ
    exact hk_qe_of (hQ R M hfp_rf)
def hf_pof (P : hP) (p : Nat) : Nat → Int32
  | 0 => nI (P 5 p)
  | 1 => nI (P 6 p)
  | 2 => nI (hf_own P p)
  | _ => nI (hf_bits (hf_wb P p) (P 3 0))
def a_personOf (P : hP) (v w : Int32) : Int32 := match hxi (P 2 0) v with
  | none => -1
  | some p => match hxi 4 w with
    | none => -1
    | some s => hf_pof P p s
set_option maxHeartbeats 400000 in
theorem sp_mpersonOf {d : Nat} (hd : 3 < d) {R : Nat → Nat → Int32} {X : hk_D} {Q : hk_Q} {v w : Int32} {P : hP} (M : hf_M 0 P R) (hQ : Q (some (.int (a_personOf P v w))) (hw R X)) : hk_call d mM_personOf [.ref 98, .int v, .int w] (hw R X) Q := by
  obtain ⟨d, rfl⟩ : ∃ e, d = e + 1 := ⟨d - 1, by omega⟩
  have h5 := M.2.2.2.2.1
  unfold a_personOf at hQ
  refine hk_run2 (hk_call_m d) 100 ?_
  refine sp_misPerson (by omega) M.1.1 h5 (fun p hp e => ?_) (fun np => ?_)
  · refine And.intro (fun c => absurd c (by decide)) (fun _ => ?_)
    rw [e, hxi_s hp (by omega)] at hQ
    dsimp only at hQ
    refine sp_in (by omega) (n := 4) (by omega) (by decide) (fun s hs es => ?_) (fun nn => ?_)
    · refine And.intro (fun c => absurd c (by decide)) (fun _ => ?_)
      rw [es, hxi_s hs (by omega)] at hQ
      dsimp only at hQ
      subst es
      have hs4 : s = 0 ∨ s = 1 ∨ s = 2 ∨ s = 3 := by omega
      have mp := hf_M_p M p hp
      rw [Nat.zero_add] at mp
      rcases hs4 with rfl | rfl | rfl | rfl
      · refine And.intro (fun _ => ?_) (fun c => absurd rfl c)
        refine w_ld (j := 1 + p) (n := 36) (by rw [e, ← nI_add]; rfl) rfl (by omega) (by omega) rfl mp.2.1 ?_
        exact hk_qe_of hQ
      · refine And.intro (fun c => absurd c (by decide)) (fun _ => And.intro (fun _ => ?_) (fun c => absurd rfl c))
        refine w_ld (j := p) (n := 5) e rfl (by omega) (by omega) rfl mp.1 ?_
        exact hk_qe_of hQ
      · refine And.intro (fun c => absurd c (by decide)) (fun _ => And.intro (fun c => absurd c (by decide)) (fun _ => And.intro (fun _ => ?_) (fun c => absurd rfl c)))
        refine sp_mownedBy (by omega) M e (by omega) ?_
        exact hk_qe_of hQ
      · refine And.intro (fun c => absurd c (by decide)) (fun _ => And.intro (fun c => absurd c (by decide)) (fun _ => And.intro (fun c => absurd c (by decide)) (fun _ => ?_)))
        refine sp_mwornBy (by omega) M e (by omega) ?_
        exact hk_qe_of hQ
    · refine And.intro (fun _ => ?_) (fun c => absurd rfl c)
      rw [hxi_n (by omega) nn] at hQ
      exact hk_qe_of hQ
  · refine And.intro (fun _ => ?_) (fun c => absurd rfl c)
    rw [hxi_n (by omega) np] at hQ
    exact hk_qe_of hQ
def hf_hof (P : hP) (j : Nat) : Nat → Int32
  | 0 => nI (P 7 j)
  | 1 => nI (P 8 j)
  | 2 => nI (P 9 j)
  | 3 => hf_or9 (hf_mw (P 10 j))
  | 4 => hf_or9 (hf_pl P j)
  | 5 => nI (hf_holds (P 7 j) (P 8 j))
  | _ => nI (hf_flies (P 7 j) (P 1 (P 4 0 % 24)))
def a_hatOf (P : hP) (v w : Int32) : Int32 := match hxi (P 3 0) v with
  | none => -1
  | some j => match hxi 7 w with
    | none => -1
    | some s => hf_hof P j s
set_option maxHeartbeats 400000 in
theorem sp_mhatOf {d : Nat} (hd : 3 < d) {R : Nat → Nat → Int32} {X : hk_D} {Q : hk_Q} {v w : Int32} {P : hP} (M : hf_M 0 P R) (hQ : Q (some (.int (a_hatOf P v w))) (hw R X)) : hk_call d mM_hatOf [.ref 98, .int v, .int w] (hw R X) Q := by
  obtain ⟨d, rfl⟩ : ∃ e, d = e + 1 := ⟨d - 1, by omega⟩
  have h6 := M.2.2.2.2.2.1
  unfold a_hatOf at hQ
  refine hk_run2 (hk_call_m d) 100 ?_
  refine sp_misHat (by omega) M.1.2.1 h6 (fun j hj e => ?_) (fun np => ?_)
  · refine And.intro (fun c => absurd c (by decide)) (fun _ => ?_)
    rw [e, hxi_s hj (by omega)] at hQ
    dsimp only at hQ
    refine sp_in (by omega) (n := 7) (by omega) (by decide) (fun s hs es => ?_) (fun nn => ?_)
    · refine And.intro (fun c => absurd c (by decide)) (fun _ => ?_)
      rw [es, hxi_s hs (by omega)] at hQ
      dsimp only at hQ
      subst es
      have mh := hf_M_h M j hj
      rw [Nat.zero_add, Nat.zero_add] at mh
      have ti : (nI s).toInt = s := nI_toInt (by omega)
      refine And.intro (fun c => ?_) (And.intro (fun c => ?_) (And.intro (fun c => ?_) (And.intro (fun c => ?_) (And.intro (fun c => ?_) (And.intro (fun c => ?_) (And.intro (fun c => ?_) trivial))))))
      · rw [ti] at c
        have : s = 6 := by simp at c; omega
        subst this
        have h200 := M.2.2.2.2.2.2.1
        have hm : P 4 0 % 24 < 24 := Nat.mod_lt _ (by decide)
        have mw := hf_M_w M _ hm
        refine w_ld (j := 0) (n := 36) rfl rfl (by omega) (by omega) rfl M.2.1.1 ?_
        have er : hk_rem (nI (P 4 0)) 24 = nI (P 4 0 % 24) := hn_rem (b := 24) (by omega) (by omega) (by omega)
        refine And.intro (by decide) ?_
        refine w_ld (j := P 4 0 % 24) (n := 24) er rfl hm (by omega) rfl mw.2.1 ?_
        refine sp_mflies (by omega) M.1 M.2.2.2.2 hj e rfl mw.2.2.2 ?_
        exact hk_qe_of hQ
      · rw [ti] at c
        have : s = 0 := by omega
        subst this
        refine w_ld (j := j) (n := 6) e rfl (by omega) (by omega) rfl mh.1.1 ?_
        exact hk_qe_of hQ
      · rw [ti] at c
        have : s = 1 := by omega
        subst this
        refine w_ld (j := j) (n := 6) e rfl (by omega) (by omega) rfl mh.1.2.1 ?_
        exact hk_qe_of hQ
      · rw [ti] at c
        have : s = 2 := by omega
        subst this
        refine w_ld (j := j) (n := 6) e rfl (by omega) (by omega) rfl mh.1.2.2 ?_
        exact hk_qe_of hQ
      · rw [ti] at c
        have : s = 3 := by omega
        subst this
        refine w_ld (j := 6 + j) (n := 36) (by rw [e, ← nI_add]; rfl) rfl (by omega) (by omega) rfl mh.2.1.1 ?_
        refine sp_orNot (by omega) ?_
        exact hk_qe_of hQ
      · rw [ti] at c
        have : s = 4 := by omega
        subst this
        refine sp_mplaceOf (by omega) M hj e ?_
        refine sp_orNot (by omega) ?_
        exact hk_qe_of hQ
      · rw [ti] at c
        have : s = 5 := by omega
        subst this
        refine sp_mholds (by omega) M.1 M.2.2.2.2 hj e ?_
        exact hk_qe_of hQ
    · refine And.intro (fun _ => ?_) (fun c => absurd rfl c)
      rw [hxi_n (by omega) nn] at hQ
      exact hk_qe_of hQ
  · refine And.intro (fun _ => ?_) (fun c => absurd rfl c)
    rw [hxi_n (by omega) np] at hQ
    exact hk_qe_of hQ
end
section
/-! THE REFERENCE: the best of many trials -/
theorem hf_own_b {S P : hP} {p : Nat} (e3 : S 3 0 = P 3 0) (e9 : ∀ h, S 9 h = P 9 h) (ok : hf_ok P) : hf_own S p < 1000 := by
  have h6 := ok.2.1
  have key : ∀ n, n ≤ P 3 0 → hf_owned S p n ≤ 100 * n := by
    intro n
    induction n with
    | zero => intro _; exact Nat.le_refl _
    | succ n ih =>
      intro h
      have := ih (by omega)
      have w := (ok.2.2.2.2.2 n (by omega)).2.2.1
      unfold hf_owned
      rw [e9]
      split <;> omega
  unfold hf_own
  rw [e3]
  have := key (P 3 0) (Nat.le_refl _)
  omega
def hf_bv (F : Nat → Nat) : Nat → Nat
  | 0 => 0
  | n + 1 => if hf_bv F n < F n + 1 then F n + 1 else hf_bv F n
def hf_bx (F : Nat → Nat) (b : Int32) : Nat → Int32
  | 0 => b
  | n + 1 => if hf_bv F n < F n + 1 then nI n else hf_bx F b n
theorem hf_bv_le {F : Nat → Nat} (h : ∀ j, F j < 1000) : ∀ n, hf_bv F n ≤ 1000
  | 0 => Nat.zero_le _
  | n + 1 => by
    have := hf_bv_le h n
    have := h n
    unfold hf_bv
    split <;> omega
theorem hf_bv_i {F : Nat → Nat} (h : ∀ j, F j < 1000) (j : Nat) : nI (F j) ≤ nI (hf_bv F j) - 1 ↔ F j + 1 ≤ hf_bv F j := by
  have h1 := hf_bv_le h j
  have h2 := h j
  have e : (nI (hf_bv F j) - 1).toInt = (hf_bv F j : Int) - 1 := pk_sub_toInt (a := hf_bv F j) (b := 1) (by omega) (by omega)
  rw [hn_le, e, hn_i (by omega)]
  omega
theorem hf_bv_t {F : Nat → Nat} {j : Nat} (h : hf_bv F j < F j + 1) : nI (hf_bv F (j + 1)) - 1 = nI (F j) := by
  rw [hf_bv, if_pos h, hn_sub1]
theorem hf_bv_f {F : Nat → Nat} {j : Nat} (h : ¬ hf_bv F j < F j + 1) : hf_bv F (j + 1) = hf_bv F j := by
  rw [hf_bv, if_neg h]
def hf_w (P : hP) (g i j : Nat) : hP := hf_up (hf_up P 0 g i) 1 g j
theorem hf_w_w (P : hP) (g i j i' j' : Nat) : hf_w (hf_w P g i j) g i' j' = hf_w P g i' j' := by
  funext r k
  unfold hf_w hf_up
  by_cases h1 : r = 1 ∧ k = g
  · simp only [if_pos h1]
  · simp only [if_neg h1]
    by_cases h0 : r = 0 ∧ k = g
    · simp only [if_pos h0]
    · simp only [if_neg h0]
theorem hf_w_self (P : hP) (g : Nat) : hf_w P g (P 0 g) (P 1 g) = P := by
  unfold hf_w
  rw [hf_upself]
  exact hf_upself P 1 g
def hf_wF (P : hP) (p n g : Nat) : Nat → Nat := fun t => hf_own (hf_hours n (hf_w P g (t / 10) (t % 10))) p
def a_wish (P : hP) (v w : Int32) : Int32 := match hxi (P 2 0) v with
  | none => -1
  | some p => match hxi 13 w with
    | none => -1
    | some n => if n = 0 then -1 else if P 4 0 = 96 then -4 else hf_bx (hf_wF P p n (P 4 0 % 24)) 0 40
theorem hx_soon {P : hP} {w : Int32} {α : Type} {x : α} {f : Nat → α} (h : ∀ j, 1 ≤ j → j < 13 → w ≠ nI j) : (match hxi 13 w with | none => x | some n => if n = 0 then x else f n) = x := by
  cases q : hxi 13 w with
  | none => rfl
  | some n =>
    have z := hxi_e (by omega) q
    by_cases h0 : n = 0
    · show (if n = 0 then x else f n) = x
      rw [if_pos h0]
    · exact absurd z.2 (h n (by omega) z.1)
set_option maxHeartbeats 1000000 in
theorem sp_mwish {d : Nat} (hd : 7 < d) {R0 : Nat → Nat → Int32} {X : hk_D} {Q : hk_Q} {v w : Int32} {P : hP} (M : hf_M 0 P R0) (hQ : ∀ R', hf_M 0 P R' → hfp R0 R' → Q (some (.int (a_wish P v w))) (hw R' X)) : hk_call d mM_wish [.ref 98, .int v, .int w] (hw R0 X) Q := by
  obtain ⟨d, rfl⟩ : ∃ e, d = e + 1 := ⟨d - 1, by omega⟩
  have h5 := M.2.2.2.2.1
  have h200 := M.2.2.2.2.2.2.1
  unfold a_wish at hQ
  refine hk_run2 (hk_call_m d) 200 ?_
  refine sp_misPerson (by omega) M.1.1 h5 (fun p hp e => ?_) (fun np => ?_)
  · refine And.intro (fun c => absurd c (by decide)) (fun _ => ?_)
    rw [e, hxi_s hp (by omega)] at hQ
    dsimp only at hQ
    refine sp_misSoon (by omega) (fun n hn1 hn en => ?_) (fun nn => ?_)
    · refine And.intro (fun c => absurd c (by decide)) (fun _ => ?_)
      rw [en, hxi_s hn (by omega)] at hQ
      dsimp only at hQ
      rw [if_neg (by omega)] at hQ
      refine w_ld (j := 0) (n := 36) rfl rfl (by omega) (by omega) rfl M.2.1.1 ?_
      refine And.intro (fun c => ?_) (fun c => ?_)
      · have : P 4 0 = 96 := (nI_eq (b := 96) (by omega) (by omega)).mp c
        rw [if_pos this] at hQ
        exact hk_qe_of (hQ R0 M hfp_rf)
      · have h96 : ¬ P 4 0 = 96 := fun z => c (by rw [z]; rfl)
        rw [if_neg h96] at hQ
        have hm : P 4 0 % 24 < 24 := Nat.mod_lt _ (by decide)
        have er : hk_rem (nI (P 4 0)) 24 = nI (P 4 0 % 24) := hn_rem (b := 24) (by omega) (by omega) (by omega)
        generalize P 4 0 % 24 = g at *
        have mw := hf_M_w M g hm
        have hF : ∀ j, hf_wF P p n g j < 1000 := fun j => hf_own_b (P := P) (hf_hours_r (by decide) (by decide) (by decide) _ _) (fun h => by rw [hf_hours_r (by decide) (by decide) (by decide)]; unfold hf_w; rw [hf_up_r (by decide), hf_up_r (by decide)]) M.2.2.2.2
        have L : ∀ j, j ≤ 40 → ∀ R i1 i2, i1 < 4 → i2 < 10 → hf_M 0 (hf_w P g i1 i2) R → hfp R0 R → hk_wp (some .int) 0 0 hk_dft cM_wish (hk_call d) (hk_qe Q) 40 [(8, .int (nI j)), (7, .int (nI (hf_bv (hf_wF P p n g) j) - 1)), (6, .int (hf_bx (hf_wF P p n g) 0 j)), (5, .int (nI (P 1 g))), (4, .int (nI (P 0 g))), (3, .int (nI g)), (0, .ref 98), (1, .int v), (2, .int w)] [] (hw R X) 0 0 := by
          refine hk_for ?_ ?_
          · intro R i1 i2 hi1 hi2 MR fr
            refine hk_run2 (hk_call_m d) 100 ?_
            refine And.intro (fun c => ?_) (fun c => absurd (by decide) c)
            refine w_st (t := 0) (j := g) (n := 24) rfl rfl hm (by omega) rfl rfl ?_
            refine w_st (t := 0) (j := g) (n := 24) rfl rfl hm (by omega) rfl rfl ?_
            refine hk_qe_of (hQ _ ?_ (hfp_tr fr (hfp_tr (hfp_up (by omega)) (hfp_up (by omega)))))
            have MM := hf_M_wind MR hm mw.2.2.1 mw.2.2.2
            rw [show hf_up (hf_up (hf_w P g i1 i2) 0 g (P 0 g)) 1 g (P 1 g) = P from (hf_w_w P g i1 i2 _ _).trans (hf_w_self P g)] at MM
            exact MM
          · intro j hj ih R i1 i2 hi1 hi2 MR fr
            have ed : nI j / 10 = nI (j / 10) := hn_div (b := 10) (by omega) (by omega) (by omega)
            have em : hk_rem (nI j) 10 = nI (j % 10) := hn_rem (b := 10) (by omega) (by omega) (by omega)
            have q1 : j / 10 < 4 := by omega
            have q2 : j % 10 < 10 := by omega
            refine hk_run2 (hk_call_m d) 200 ?_
            refine And.intro (fun c => absurd c (show ¬ nI 40 ≤ nI j from nI_ge hj (by omega))) (fun c => ?_)
            refine And.intro (by decide) ?_
            refine w_st (t := 0) (j := g) (n := 24) rfl rfl hm (by omega) rfl rfl ?_
            refine And.intro (by decide) ?_
            refine w_st (t := 0) (j := g) (n := 24) rfl rfl hm (by omega) rfl rfl ?_
            have MM := hf_M_wind MR hm q1 q2
            rw [show hf_up (hf_up (hf_w P g i1 i2) 0 g (j / 10)) 1 g (j % 10) = hf_w P g (j / 10) (j % 10) from hf_w_w P g i1 i2 _ _] at MM
            refine sp_mownsThen (by omega) (P := hf_w P g (j / 10) (j % 10)) (by rw [ed, em]; exact MM) e en (by omega) (by omega) (fun R2 f2 => ?_)
            have M2 : hf_M 0 (hf_w P g (j / 10) (j % 10)) R2 := hf_M_t (by rw [ed, em]; exact MM) f2
            have fr2 : hfp R0 R2 := hfp_tr (hfp_tr fr (hfp_tr (hfp_up (by omega)) (hfp_up (by omega)))) (hfp_t f2)
            have ih2 := ih R2 _ _ q1 q2 M2 fr2
            refine And.intro (fun c => And.intro (fun c2 => ?_) (fun c2 => absurd c c2)) (fun c => And.intro (fun c2 => absurd c2 c) (fun c2 => ?_))
            · have hb := (hf_bv_i hF j).mp c
              have nb : ¬ hf_bv (hf_wF P p n g) j < hf_wF P p n g j + 1 := by omega
              rw [hf_bv_f nb, hf_bx, if_neg nb] at ih2
              refine Exists.intro [0, 1, 2, 4, 5, 6, 7, 8, 9] ?_
              rw [nI_1]
              exact hk_stop2 (hk_call_m d) ih2
            · have nb : hf_bv (hf_wF P p n g) j < hf_wF P p n g j + 1 := by
                rcases Nat.lt_or_ge (hf_bv (hf_wF P p n g) j) (hf_wF P p n g j + 1) with z | z
                · exact z
                · exact absurd ((hf_bv_i hF j).mpr z) c
              rw [hf_bv_t nb, hf_bx, if_pos nb] at ih2
              refine Exists.intro [0, 1, 2, 4, 5, 6, 7, 8, 9] ?_
              rw [nI_1]
              exact hk_stop2 (hk_call_m d) ih2
        refine w_ld (j := 0) (n := 36) rfl rfl (by omega) (by omega) rfl M.2.1.1 ?_
        refine And.intro (by decide) ?_
        refine w_ld (j := g) (n := 24) er rfl hm (by omega) rfl mw.1 ?_
        refine w_ld (j := g) (n := 24) er rfl hm (by omega) rfl mw.2.1 ?_
        rw [er]
        refine hk_stop2 (hk_call_m d) (hk_run2 (hk_call_m d) 7 ?_)
        exact L 0 (by omega) R0 (P 0 g) (P 1 g) mw.2.2.1 mw.2.2.2 (by rw [hf_w_self]; exact M) hfp_rf
    · refine And.intro (fun _ => ?_) (fun c => absurd rfl c)
      rw [hx_soon (P := P) nn] at hQ
      exact hk_qe_of (hQ R0 M hfp_rf)
  · refine And.intro (fun _ => ?_) (fun c => absurd rfl c)
    rw [hxi_n (by omega) np] at hQ
    exact hk_qe_of (hQ R0 M hfp_rf)
end
section
/-! THE REFERENCE: start, tie -/
theorem hf_up_up (P : hP) (r j a b : Nat) : hf_up (hf_up P r j a) r j b = hf_up P r j b := by
  funext r' k
  unfold hf_up
  by_cases h1 : r' = r ∧ k = j
  · simp only [if_pos h1]
  · simp only [if_neg h1]
def hf_sF (P : hP) (p n : Nat) : Nat → Nat := fun t => hf_own (hf_hours n (hf_up P 5 p t)) p
def a_start (P : hP) (v w : Int32) : Int32 := match hxi (P 2 0) v with
  | none => -1
  | some p => match hxi 13 w with
    | none => -1
    | some n => if n = 0 then -1 else hf_bx (hf_sF P p n) 0 25
set_option maxHeartbeats 1000000 in
theorem sp_mstart {d : Nat} (hd : 7 < d) {R0 : Nat → Nat → Int32} {X : hk_D} {Q : hk_Q} {v w : Int32} {P : hP} (M : hf_M 0 P R0) (hQ : ∀ R', hf_M 0 P R' → hfp R0 R' → Q (some (.int (a_start P v w))) (hw R' X)) : hk_call d mM_start [.ref 98, .int v, .int w] (hw R0 X) Q := by
  obtain ⟨d, rfl⟩ : ∃ e, d = e + 1 := ⟨d - 1, by omega⟩
  have h5 := M.2.2.2.2.1
  unfold a_start at hQ
  refine hk_run2 (hk_call_m d) 200 ?_
  refine sp_misPerson (by omega) M.1.1 h5 (fun p hp e => ?_) (fun np => ?_)
  · refine And.intro (fun c => absurd c (by decide)) (fun _ => ?_)
    rw [e, hxi_s hp (by omega)] at hQ
    dsimp only at hQ
    refine sp_misSoon (by omega) (fun n hn1 hn en => ?_) (fun nn => ?_)
    · refine And.intro (fun c => absurd c (by decide)) (fun _ => ?_)
      rw [en, hxi_s hn (by omega)] at hQ
      dsimp only at hQ
      rw [if_neg (by omega)] at hQ
      have mp := hf_M_p M p hp
      rw [Nat.zero_add] at mp
      have ei : 1 + v = nI (1 + p) := by rw [e, ← nI_add]; rfl
      have hF : ∀ j, hf_sF P p n j < 1000 := fun j => hf_own_b (P := P) (hf_hours_r (by decide) (by decide) (by decide) _ _) (fun h => by rw [hf_hours_r (by decide) (by decide) (by decide)]; rw [hf_up_r (by decide)]) M.2.2.2.2
      have PL : ∀ R q q', hf_M 0 (hf_up P 5 p q) R → q' < 25 → hf_M 0 (hf_up P 5 p q') (up2 R 105 (1 + p) (nI q')) := by
        intro R q q' MR hq'
        have MM := hf_M_place (j := p) (R' := up2 R 105 (1 + p) (nI q')) MR (by rw [hf_up_r (by decide)]; exact hp) hq' (fun a k z => up2_n (by omega)) (by rw [Nat.zero_add, up2_s])
        rw [hf_up_up] at MM
        exact MM
      have L : ∀ j, j ≤ 25 → ∀ R q, hf_M 0 (hf_up P 5 p q) R → hfp R0 R → hk_wp (some .int) 0 0 hk_dft cM_start (hk_call d) (hk_qe Q) 22 [(6, .int (nI j)), (5, .int (nI (hf_bv (hf_sF P p n) j) - 1)), (4, .int (hf_bx (hf_sF P p n) 0 j)), (3, .int (nI (P 5 p))), (0, .ref 98), (1, .int v), (2, .int w)] [] (hw R X) 0 0 := by
        refine hk_for ?_ ?_
        · intro R q MR fr
          refine hk_run2 (hk_call_m d) 100 ?_
          refine And.intro (fun c => ?_) (fun c => absurd (by decide) c)
          refine w_st (t := 0) (j := 1 + p) (n := 36) ei rfl (by omega) (by omega) rfl rfl ?_
          refine hk_qe_of (hQ _ ?_ (hfp_tr fr (hfp_up (by omega))))
          have MM := PL R q (P 5 p) MR mp.2.2.1
          rw [hf_upself] at MM
          exact MM
        · intro j hj ih R q MR fr
          refine hk_run2 (hk_call_m d) 200 ?_
          refine And.intro (fun c => absurd c (show ¬ nI 25 ≤ nI j from nI_ge hj (by omega))) (fun c => ?_)
          refine w_st (t := 0) (j := 1 + p) (n := 36) ei rfl (by omega) (by omega) rfl rfl ?_
          have MM := PL R q j MR hj
          refine sp_mownsThen (by omega) MM e en (by omega) (by omega) (fun R2 f2 => ?_)
          have ih2 := ih R2 j (hf_M_t MM f2) (hfp_tr (hfp_tr fr (hfp_up (by omega))) (hfp_t f2))
          refine And.intro (fun c => And.intro (fun c2 => ?_) (fun c2 => absurd c c2)) (fun c => And.intro (fun c2 => absurd c2 c) (fun c2 => ?_))
          · have hb := (hf_bv_i hF j).mp c
            have nb : ¬ hf_bv (hf_sF P p n) j < hf_sF P p n j + 1 := by omega
            rw [hf_bv_f nb, hf_bx, if_neg nb] at ih2
            refine Exists.intro [0, 1, 2, 4, 5, 6, 7] ?_
            rw [nI_1]
            exact hk_stop2 (hk_call_m d) ih2
          · have nb : hf_bv (hf_sF P p n) j < hf_sF P p n j + 1 := by
              rcases Nat.lt_or_ge (hf_bv (hf_sF P p n) j) (hf_sF P p n j + 1) with z | z
              · exact z
              · exact absurd ((hf_bv_i hF j).mpr z) c
            rw [hf_bv_t nb, hf_bx, if_pos nb] at ih2
            refine Exists.intro [0, 1, 2, 4, 5, 6, 7] ?_
            rw [nI_1]
            exact hk_stop2 (hk_call_m d) ih2
      refine w_ld (j := 1 + p) (n := 36) ei rfl (by omega) (by omega) rfl mp.2.1 ?_
      refine hk_stop2 (hk_call_m d) (hk_run2 (hk_call_m d) 7 ?_)
      exact L 0 (by omega) R0 (P 5 p) (by rw [hf_upself]; exact M) hfp_rf
    · refine And.intro (fun _ => ?_) (fun c => absurd rfl c)
      cases q : hxi 13 w with
      | none => rw [q] at hQ; exact hk_qe_of (hQ R0 M hfp_rf)
      | some n =>
        have z := hxi_e (by omega) q
        rw [q] at hQ
        dsimp only at hQ
        rw [if_pos (show n = 0 from Classical.byContradiction (fun h0 => nn n (by omega) z.1 z.2))] at hQ
        exact hk_qe_of (hQ R0 M hfp_rf)
  · refine And.intro (fun _ => ?_) (fun c => absurd rfl c)
    rw [hxi_n (by omega) np] at hQ
    exact hk_qe_of (hQ R0 M hfp_rf)
def hf_k (P : hP) (h k a : Nat) : hP := hf_up (hf_up P 7 h k) 8 h a
theorem hf_k_k (P : hP) (h k a k' a' : Nat) : hf_k (hf_k P h k a) h k' a' = hf_k P h k' a' := by
  funext r i
  unfold hf_k hf_up
  by_cases h1 : r = 8 ∧ i = h
  · simp only [if_pos h1]
  · simp only [if_neg h1]
    by_cases h0 : r = 7 ∧ i = h
    · simp only [if_pos h0]
    · simp only [if_neg h0]
theorem hf_k_self (P : hP) (h : Nat) : hf_k P h (P 7 h) (P 8 h) = P := by
  unfold hf_k
  rw [hf_upself]
  exact hf_upself P 8 h
theorem hf_M_k {o h k a : Nat} {P : hP} {R : Nat → Nat → Int32} (M : hf_M o P R) (hh : h < P 3 0) (hk : k < 6) (ha : a < 10) : hf_M o (hf_k P h k a) (up2 (up2 R 102 h (nI k)) 103 h (nI a)) := by
  have rr : ∀ r i, r ≠ 7 → r ≠ 8 → hf_k P h k a r i = P r i := fun r i h0 h1 => by unfold hf_k; rw [hf_up_r h1, hf_up_r h0]
  have ne : ∀ b i, b ≠ 102 → b ≠ 103 → up2 (up2 R 102 h (nI k)) 103 h (nI a) b i = R b i := fun b i h0 h1 => by rw [up2_a h1, up2_a h0]
  have o4 := M.2.2.2.2
  refine hf_M_mk (P := P) (R := R) ?_ M.2.2.2.1 ?_ ?_ ?_ ?_ ?_ ?_ ?_ ?_
  · rw [ne _ _ (by decide) (by decide)]; exact M.2.2.1
  · rw [ne _ _ (by decide) (by decide), rr _ _ (by decide) (by decide)]; exact M.1.1
  · rw [ne _ _ (by decide) (by decide), rr _ _ (by decide) (by decide)]; exact M.1.2.1
  · rw [rr _ _ (by decide) (by decide)]; exact o4.1
  · rw [rr _ _ (by decide) (by decide)]; exact o4.2.1
  · rw [ne _ _ (by decide) (by decide), rr _ _ (by decide) (by decide)]; exact ⟨o4.2.2.1, M.2.1.1⟩
  · intro i hi
    rw [ne _ _ (by decide) (by decide), ne _ _ (by decide) (by decide), rr _ _ (by decide) (by decide), rr _ _ (by decide) (by decide)]; exact hf_M_w M i hi
  · intro p hp
    rw [rr _ _ (by decide) (by decide)] at hp
    rw [ne _ _ (by decide) (by decide), ne _ _ (by decide) (by decide), rr _ _ (by decide) (by decide), rr _ _ (by decide) (by decide)]
    exact hf_M_p M p hp
  · intro i hi
    rw [rr _ _ (by decide) (by decide)] at hi
    have mh := hf_M_h M i hi
    rw [ne 104 _ (by decide) (by decide), ne 105 _ (by decide) (by decide), ne 105 _ (by decide) (by decide), rr 9 _ (by decide) (by decide), rr 10 _ (by decide) (by decide), rr 2 _ (by decide) (by decide)]
    by_cases q : i = h
    · have e7 : hf_k P h k a 7 i = k := by rw [q]; unfold hf_k; rw [hf_up_r (by decide), hf_up_s]
      have e8 : hf_k P h k a 8 i = a := by rw [q]; unfold hf_k; rw [hf_up_s]
      rw [e7, e8, q, up2_a (show 102 ≠ 103 by decide), up2_s, up2_s]
      rw [q] at mh
      exact ⟨⟨rfl, rfl, mh.1.2.2⟩, mh.2.1, hk, ha, mh.2.2.2.2⟩
    · have e7 : hf_k P h k a 7 i = P 7 i := by unfold hf_k; rw [hf_up_j q, hf_up_j q]
      have e8 : hf_k P h k a 8 i = P 8 i := by unfold hf_k; rw [hf_up_j q, hf_up_j q]
      rw [e7, e8, up2_k q, up2_k q, up2_k q, up2_k q]
      exact mh
def hf_tF (P : hP) (p n : Nat) : Nat → Nat := fun t => hf_own (hf_hours n (hf_k P t 3 9)) p
def a_tie (P : hP) (v w : Int32) : Int32 := match hxi (P 2 0) v with
  | none => -1
  | some p => match hxi 13 w with
    | none => -1
    | some n => if n = 0 then -1 else hf_bx (hf_tF P p n) (-3) (P 3 0)
set_option maxHeartbeats 1000000 in
theorem sp_mtie {d : Nat} (hd : 7 < d) {R0 : Nat → Nat → Int32} {X : hk_D} {Q : hk_Q} {v w : Int32} {P : hP} (M : hf_M 0 P R0) (hQ : ∀ R', hf_M 0 P R' → hfp R0 R' → Q (some (.int (a_tie P v w))) (hw R' X)) : hk_call d mM_tie [.ref 98, .int v, .int w] (hw R0 X) Q := by
  obtain ⟨d, rfl⟩ : ∃ e, d = e + 1 := ⟨d - 1, by omega⟩
  have h5 := M.2.2.2.2.1
  have h6 := M.2.2.2.2.2.1
  unfold a_tie at hQ
  refine hk_run2 (hk_call_m d) 200 ?_
  refine sp_misPerson (by omega) M.1.1 h5 (fun p hp e => ?_) (fun np => ?_)
  · refine And.intro (fun c => absurd c (by decide)) (fun _ => ?_)
    rw [e, hxi_s hp (by omega)] at hQ
    dsimp only at hQ
    refine sp_misSoon (by omega) (fun n hn1 hn en => ?_) (fun nn => ?_)
    · refine And.intro (fun c => absurd c (by decide)) (fun _ => ?_)
      rw [en, hxi_s hn (by omega)] at hQ
      dsimp only at hQ
      rw [if_neg (by omega)] at hQ
      have hF : ∀ j, hf_tF P p n j < 1000 := fun j => hf_own_b (P := P) (hf_hours_r (by decide) (by decide) (by decide) _ _) (fun h => by rw [hf_hours_r (by decide) (by decide) (by decide)]; unfold hf_k; rw [hf_up_r (by decide), hf_up_r (by decide)]) M.2.2.2.2
      have L : ∀ j, j ≤ P 3 0 → ∀ R, hf_M 0 P R → hfp R0 R → hk_wp (some .int) 0 0 hk_dft cM_tie (hk_call d) (hk_qe Q) 15 [(5, .int (nI j)), (4, .int (nI (hf_bv (hf_tF P p n) j) - 1)), (3, .int (hf_bx (hf_tF P p n) (-3) j)), (0, .ref 98), (1, .int v), (2, .int w)] [] (hw R X) 0 0 := by
        refine hk_for ?_ ?_
        · intro R MR fr
          have eh := MR.1.2.1
          refine hk_run2 (hk_call_m d) 100 ?_
          refine And.intro (fun c => ?_) (fun c => absurd (by rw [eh]; exact nI_le (Nat.le_refl _) (by omega)) c)
          exact hk_qe_of (hQ _ MR fr)
        · intro j hj ih R MR fr
          have eh := MR.1.2.1
          have mh := hf_M_h MR j hj
          refine hk_run2 (hk_call_m d) 200 ?_
          refine And.intro (fun c => absurd c (by rw [eh]; exact nI_ge hj (by omega))) (fun c => ?_)
          refine w_ld (j := j) (n := 6) rfl rfl (by omega) (by omega) rfl mh.1.1 ?_
          refine w_ld (j := j) (n := 6) rfl rfl (by omega) (by omega) rfl mh.1.2.1 ?_
          refine w_st (t := 0) (j := j) (n := 6) rfl rfl (by omega) (by omega) rfl rfl ?_
          refine w_st (t := 0) (j := j) (n := 6) rfl rfl (by omega) (by omega) rfl rfl ?_
          have MM := hf_M_k (k := 3) (a := 9) MR hj (by omega) (by omega)
          refine sp_mownsThen (by omega) MM e en (by omega) (by omega) (fun R2 f2 => ?_)
          have M2 := hf_M_t MM f2
          refine w_st (t := 0) (j := j) (n := 6) rfl rfl (by omega) (by omega) rfl rfl ?_
          refine w_st (t := 0) (j := j) (n := 6) rfl rfl (by omega) (by omega) rfl rfl ?_
          have M3 := hf_M_k (h := j) (k := P 7 j) (a := P 8 j) M2 (by unfold hf_k; rw [hf_up_r (by decide), hf_up_r (by decide)]; exact hj) mh.2.2.1 mh.2.2.2.1
          rw [hf_k_k, hf_k_self] at M3
          have ih2 := ih _ M3 (hfp_tr (hfp_tr (hfp_tr fr (hfp_tr (hfp_up (by omega)) (hfp_up (by omega)))) (hfp_t f2)) (hfp_tr (hfp_up (by omega)) (hfp_up (by omega))))
          refine And.intro (fun c => And.intro (fun c2 => ?_) (fun c2 => absurd c c2)) (fun c => And.intro (fun c2 => absurd c2 c) (fun c2 => ?_))
          · have hb := (hf_bv_i hF j).mp c
            have nb : ¬ hf_bv (hf_tF P p n) j < hf_tF P p n j + 1 := by omega
            rw [hf_bv_f nb, hf_bx, if_neg nb] at ih2
            refine Exists.intro [0, 1, 2, 6, 7, 8] ?_
            rw [nI_1]
            exact hk_stop2 (hk_call_m d) ih2
          · have nb : hf_bv (hf_tF P p n) j < hf_tF P p n j + 1 := by
              rcases Nat.lt_or_ge (hf_bv (hf_tF P p n) j) (hf_tF P p n j + 1) with z | z
              · exact z
              · exact absurd ((hf_bv_i hF j).mpr z) c
            rw [hf_bv_t nb, hf_bx, if_pos nb] at ih2
            refine Exists.intro [0, 1, 2, 6, 7, 8] ?_
            rw [nI_1]
            exact hk_stop2 (hk_call_m d) ih2
      refine hk_stop2 (hk_call_m d) (hk_run2 (hk_call_m d) 6 ?_)
      exact L 0 (by omega) R0 M hfp_rf
    · refine And.intro (fun _ => ?_) (fun c => absurd rfl c)
      cases q : hxi 13 w with
      | none => rw [q] at hQ; exact hk_qe_of (hQ R0 M hfp_rf)
      | some n =>
        have z := hxi_e (by omega) q
        rw [q] at hQ
        dsimp only at hQ
        rw [if_pos (show n = 0 from Classical.byContradiction (fun h0 => nn n (by omega) z.1 z.2))] at hQ
        exact hk_qe_of (hQ R0 M hfp_rf)
  · refine And.intro (fun _ => ?_) (fun c => absurd rfl c)
    rw [hxi_n (by omega) np] at hQ
    exact hk_qe_of (hQ R0 M hfp_rf)
end
section
/-! THE REFERENCE: bow -/
def hf_sw (p q x : Nat) : Nat := if x = 25 + p then 25 + q else if x = 25 + q then 25 + p else x
def hf_bow (P : hP) (p q n : Nat) : hP := fun r j => if r = 10 ∧ j < n then hf_sw p q (P 10 j) else P r j
def hf_bc (P : hP) (p q : Nat) : Nat → Nat
  | 0 => 0
  | n + 1 => hf_bc P p q n + (if P 10 n = 25 + p ∨ P 10 n = 25 + q then 1 else 0)
theorem hf_bow_0 (P : hP) (p q : Nat) : hf_bow P p q 0 = P := by
  funext r j; exact if_neg (fun z => absurd z.2 (Nat.not_lt_zero j))
theorem hf_bow_s (P : hP) (p q n : Nat) : hf_bow P p q (n + 1) = hf_up (hf_bow P p q n) 10 n (hf_sw p q (P 10 n)) := by
  funext r j
  unfold hf_up hf_bow
  by_cases hr : r = 10
  · subst hr
    by_cases hj : j = n
    · subst hj; simp
    · by_cases h2 : j < n
      · simp [hj, h2, Nat.lt_succ_of_lt h2]
      · have : ¬ j < n + 1 := by omega
        simp [hj, h2, this]
  · simp [hr]
theorem hf_bow_r {P : hP} {p q n r j : Nat} (h : r ≠ 10) : hf_bow P p q n r j = P r j := if_neg (fun z => h z.1)
def o_bow (P : hP) (v w : Int32) : Int32 × hP := match hxi (P 2 0) v with
  | none => (-1, P)
  | some p => match hxi (P 2 0) w with
    | none => (-1, P)
    | some q => if p = q then (-1, P) else if P 5 p = P 5 q then (nI (hf_bc P p q (P 3 0)), hf_bow P p q (P 3 0)) else (-4, P)
set_option maxHeartbeats 400000 in
theorem sp_mbow {d : Nat} (hd : 2 < d) {R0 : Nat → Nat → Int32} {X : hk_D} {Q : hk_Q} {v w : Int32} {P : hP} (M : hf_M 0 P R0) (hQ : ∀ R', hf_M 0 (o_bow P v w).2 R' → hfp R0 R' → Q (some (.int (o_bow P v w).1)) (hw R' X)) : hk_call d mM_bow [.ref 98, .int v, .int w] (hw R0 X) Q := by
  obtain ⟨d, rfl⟩ : ∃ e, d = e + 1 := ⟨d - 1, by omega⟩
  have h5 := M.2.2.2.2.1
  have h6 := M.2.2.2.2.2.1
  unfold o_bow at hQ
  refine hk_run2 (hk_call_m d) 200 ?_
  refine sp_misPerson (by omega) M.1.1 h5 (fun p hp e => ?_) (fun np => ?_)
  · refine And.intro (fun c => absurd c (by decide)) (fun _ => ?_)
    rw [e, hxi_s hp (by omega)] at hQ
    dsimp only at hQ
    refine sp_misPerson (by omega) M.1.1 h5 (fun q hq eq => ?_) (fun nq => ?_)
    · refine And.intro (fun c => absurd c (by decide)) (fun _ => ?_)
      rw [eq, hxi_s hq (by omega)] at hQ
      dsimp only at hQ
      subst e; subst eq
      refine And.intro (fun c => ?_) (fun c => ?_)
      · rw [if_pos ((nI_eq (by omega) (by omega)).mp c)] at hQ
        exact hk_qe_of (hQ R0 M hfp_rf)
      · have hpq : ¬ p = q := fun z => c (by rw [z])
        rw [if_neg hpq] at hQ
        have mp := hf_M_p M p hp
        have mq := hf_M_p M q hq
        rw [Nat.zero_add] at mp mq
        refine w_ld (j := 1 + p) (n := 36) (by rw [← nI_add]; rfl) rfl (by omega) (by omega) rfl mp.2.1 ?_
        refine w_ld (j := 1 + q) (n := 36) (by rw [← nI_add]; rfl) rfl (by omega) (by omega) rfl mq.2.1 ?_
        refine And.intro (fun c => ?_) (fun c => ?_)
        · rw [if_pos ((nI_eq (by omega) (by omega)).mp c)] at hQ
          have L : ∀ j, j ≤ P 3 0 → ∀ R, hf_M 0 (hf_bow P p q j) R → hfp R0 R → hk_wp (some .int) 0 0 hk_dft cM_bow (hk_call d) (hk_qe Q) 32 [(4, .int (nI j)), (3, .int (nI (hf_bc P p q j))), (0, .ref 98), (1, .int (nI p)), (2, .int (nI q))] [] (hw R X) 0 0 := by
            refine hk_for ?_ ?_
            · intro R MR fr
              have eh : R 98 4 = nI (P 3 0) := by rw [← hf_bow_r (P := P) (p := p) (q := q) (n := P 3 0) (show 3 ≠ 10 by decide)]; exact MR.1.2.1
              refine hk_run2 (hk_call_m d) 100 ?_
              refine And.intro (fun c => ?_) (fun c => absurd (by rw [eh]; exact nI_le (Nat.le_refl _) (by omega)) c)
              exact hk_qe_of (hQ _ MR fr)
            · intro j hj ih R MR fr
              have eh : R 98 4 = nI (P 3 0) := by rw [← hf_bow_r (P := P) (p := p) (q := q) (n := j) (show 3 ≠ 10 by decide)]; exact MR.1.2.1
              have n3 : hf_bow P p q j 3 0 = P 3 0 := hf_bow_r (by decide)
              have n2 : hf_bow P p q j 2 0 = P 2 0 := hf_bow_r (by decide)
              have n10 : hf_bow P p q j 10 j = P 10 j := if_neg (by omega)
              have hj' : j < hf_bow P p q j 3 0 := by rw [n3]; exact hj
              have mh := (hf_M_h MR j hj').2.1.1
              rw [Nat.zero_add, n10] at mh
              have put : ∀ x, x < P 2 0 → hf_sw p q (P 10 j) = 25 + x → hf_M 0 (hf_bow P p q (j + 1)) (up2 R 105 (6 + j) (nI x)) := by
                intro x hx ex
                rw [hf_bow_s, ex]
                refine hf_M_hat MR hj' (Or.inr (Or.inl ⟨by omega, by rw [n2]; omega⟩)) (fun a k z => up2_n (by omega)) ?_ (fun z => by omega) (fun z => by omega)
                rw [Nat.zero_add, up2_s, hf_mw_w (by omega)]
                congr 1; omega
              refine hk_run2 (hk_call_m d) 200 ?_
              refine And.intro (fun c => absurd c (by rw [eh]; exact nI_ge hj (by omega))) (fun c => ?_)
              refine w_ld (j := 6 + j) (n := 36) (by rw [← nI_add]; rfl) rfl (by omega) (by omega) rfl mh ?_
              unfold hf_bc at ih
              refine And.intro (fun c => ?_) (fun c => And.intro (fun c2 => ?_) (fun c2 => ?_))
              · have ex := (hf_mw_eq (by omega)).mp c
                refine And.intro (fun _ => ?_) (fun c' => absurd c c')
                refine w_st (t := 0) (j := 6 + j) (n := 36) (by rw [← nI_add]; rfl) rfl (by omega) (by omega) rfl rfl ?_
                refine Exists.intro [0, 1, 3, 4, 5] ?_
                rw [nI_1, nI_1]
                rw [if_pos (Or.inl ex)] at ih
                exact hk_stop2 (hk_call_m d) (ih _ (put q hq (by unfold hf_sw; rw [if_pos ex])) (hfp_tr fr (hfp_up (by omega))))
              · have nx : ¬ P 10 j = 25 + p := fun z => c ((hf_mw_eq (by omega)).mpr z)
                have ex := (hf_mw_eq (by omega)).mp c2
                refine And.intro (fun c' => absurd c' c) (fun _ => ?_)
                refine w_st (t := 0) (j := 6 + j) (n := 36) (by rw [← nI_add]; rfl) rfl (by omega) (by omega) rfl rfl ?_
                refine Exists.intro [0, 1, 3, 4, 5] ?_
                rw [nI_1, nI_1]
                rw [if_pos (Or.inr ex)] at ih
                exact hk_stop2 (hk_call_m d) (ih _ (put p hp (by unfold hf_sw; rw [if_neg nx, if_pos ex])) (hfp_tr fr (hfp_up (by omega))))
              · have nx : ¬ P 10 j = 25 + p := fun z => c ((hf_mw_eq (by omega)).mpr z)
                have ny : ¬ P 10 j = 25 + q := fun z => c2 ((hf_mw_eq (by omega)).mpr z)
                refine Exists.intro [0, 2, 3, 4, 5] ?_
                rw [nI_1]
                rw [if_neg (by omega)] at ih
                refine hk_stop2 (hk_call_m d) (ih R ?_ fr)
                rw [hf_bow_s, show hf_sw p q (P 10 j) = hf_bow P p q j 10 j from by rw [n10]; unfold hf_sw; rw [if_neg nx, if_neg ny], hf_upself]
                exact MR
          refine hk_stop2 (hk_call_m d) (hk_run2 (hk_call_m d) 4 ?_)
          exact L 0 (Nat.zero_le _) R0 (by rw [hf_bow_0]; exact M) hfp_rf
        · rw [if_neg (fun z => c (by rw [z]))] at hQ
          exact hk_qe_of (hQ R0 M hfp_rf)
    · refine And.intro (fun _ => ?_) (fun c => absurd rfl c)
      rw [hxi_n (by omega) nq] at hQ
      exact hk_qe_of (hQ R0 M hfp_rf)
  · refine And.intro (fun _ => ?_) (fun c => absurd rfl c)
    rw [hxi_n (by omega) np] at hQ
    exact hk_qe_of (hQ R0 M hfp_rf)
end
section
/-! THE REFERENCE: the rows that must be -/
theorem hf_hours_s : ∀ m (P : hP), hf_hours (m + 1) P = if hf_hours m P 4 0 < 96 then hf_pass (hf_hours m P) else hf_hours m P
  | 0, P => rfl
  | m + 1, P => by
    by_cases h : P 4 0 < 96
    · have e1 : hf_hours (m + 1 + 1) P = hf_hours (m + 1) (hf_pass P) := if_pos h
      have e2 : hf_hours (m + 1) P = hf_hours m (hf_pass P) := if_pos h
      rw [e1, e2]; exact hf_hours_s m (hf_pass P)
    · have e1 : hf_hours (m + 1 + 1) P = P := if_neg h
      have e2 : hf_hours (m + 1) P = P := if_neg h
      rw [e1, e2, if_neg h]
def hf_rn : Nat → hP → Nat
  | 0, _ => 0
  | k + 1, P => if P 4 0 < 96 then hf_rn k (hf_pass P) + 1 else 0
theorem hf_rn_le : ∀ k P, hf_rn k P ≤ k
  | 0, _ => Nat.le_refl _
  | k + 1, P => by
    have := hf_rn_le k (hf_pass P)
    unfold hf_rn
    split <;> omega
def hf_wa (P : hP) : Nat → Bool := fun h => Nat.ble 25 (P 10 h) && Nat.ble (P 10 h) 29
def hf_rw (S : hP) : Nat → Nat
  | 0 => S 4 0
  | 1 => hf_bits (hf_wa S) (S 3 0)
  | _ => hf_bits (hf_gb S) (S 3 0)
def hf_must (P : hP) (n : Nat) (R : Nat → Nat → Int32) : Prop := R 98 34 = nI n ∧ ∀ m, m < n → ∀ i, i < 3 → R 117 (3 * m + i) = nI (hf_rw (hf_hours (m + 1) P) i)
/-- only the trial's row, the rows that must be and their number have changed -/
def hfm (R R' : Nat → Nat → Int32) : Prop := ∀ a k, ¬ (a = 105 ∧ 18 ≤ k) → ¬ a = 117 → ¬ (a = 98 ∧ k = 34) → R' a k = R a k
def hfm2 (R R' : Nat → Nat → Int32) : Prop := ∀ a k, ¬ (a = 105 ∧ 18 ≤ k) → ¬ a = 117 → ¬ (a = 98 ∧ k = 34) → ¬ (a = 98 ∧ k = 9) → R' a k = R a k
theorem hfm2_end {R R1 : Nat → Nat → Int32} (h0 : R 98 9 = nI 0) (h : hfm2 R R1) : hfm R (up2 R1 98 9 0) := by
  intro a k q1 q2 q3
  by_cases z : a = 98 ∧ k = 9
  · obtain ⟨rfl, rfl⟩ := z
    rw [up2_s, h0]; rfl
  · rw [up2_n z]; exact h a k q1 q2 q3 z
/-- the plain's cells are as they were -/
theorem hf_M_eq {o : Nat} {P : hP} {R R' : Nat → Nat → Int32} (M : hf_M o P R) (h : ∀ a k, (99 ≤ a ∧ a ≤ 105) ∨ (a = 98 ∧ (k = 2 ∨ k = 4 ∨ k = 9)) → R' a k = R a k) : hf_M o P R' := by
  obtain ⟨MS, MD, ho, h18, ok⟩ := M
  refine ⟨⟨?_, ?_, ?_, ?_, ?_⟩, ⟨?_, ?_, ?_⟩, ?_, h18, ok⟩
  · rw [h _ _ (by omega)]; exact MS.1
  · rw [h _ _ (by omega)]; exact MS.2.1
  · intro i hi
    rw [h _ _ (by omega), h _ _ (by omega)]; exact MS.2.2.1 i hi
  · intro p hp
    rw [h _ _ (by omega)]; exact MS.2.2.2.1 p hp
  · intro i hi
    rw [h _ _ (by omega), h _ _ (by omega), h _ _ (by omega)]; exact MS.2.2.2.2 i hi
  · rw [h _ _ (by omega)]; exact MD.1
  · intro p hp
    rw [h _ _ (by omega)]; exact MD.2.1 p hp
  · intro i hi
    rw [h _ _ (by omega), h _ _ (by omega)]; exact MD.2.2 i hi
  · rw [h _ _ (by omega)]; exact ho
theorem hf_wa_t {P : hP} {j : Nat} (h : 25 ≤ P 10 j ∧ P 10 j < 30) : hf_wa P j = true := by
  unfold hf_wa
  rw [show Nat.ble 25 (P 10 j) = true from Nat.ble_eq_true_of_le h.1, show Nat.ble (P 10 j) 29 = true from Nat.ble_eq_true_of_le (by omega)]; rfl
theorem hf_wa_f {P : hP} {j : Nat} (h : ¬ (25 ≤ P 10 j ∧ P 10 j < 30)) : hf_wa P j = false := by
  cases q : hf_wa P j
  · rfl
  · unfold hf_wa at q
    have q' := Bool.and_eq_true_iff.mp q
    exact absurd ⟨Nat.le_of_ble_eq_true q'.1, by have := Nat.le_of_ble_eq_true q'.2; omega⟩ h
set_option maxHeartbeats 1000000 in
theorem sp_mfindRows {d : Nat} (hd : 7 < d) {R0 : Nat → Nat → Int32} {X : hk_D} {Q : hk_Q} {v : Int32} {k : Nat} {P : hP} (M : hf_M 0 P R0) (ev : v = nI k) (hk : k ≤ 20) (hQ : ∀ R', hf_must P (hf_rn k P) R' → hfm R0 R' → Q none (hw R' X)) : hk_call d mM_findRows [.ref 98, .int v] (hw R0 X) Q := by
  obtain ⟨d, rfl⟩ : ∃ e, d = e + 1 := ⟨d - 1, by omega⟩
  subst ev
  have h6 := M.2.2.2.2.2.1
  have L : ∀ m, m ≤ k → ∀ R, hf_M 18 (hf_hours m P) R → hf_must P m R → hfm2 R0 R → hf_rn k P = m + hf_rn (k - m) (hf_hours m P) → hk_wp none 0 0 hk_dft cM_findRows (hk_call d) (hk_qe Q) 5 [(0, .ref 98), (1, .int (nI k))] [] (hw R X) 0 0 := by
    refine hk_for ?_ ?_
    · intro R MR mu fr er
      rw [Nat.sub_self, show hf_rn 0 (hf_hours k P) = 0 from rfl, Nat.add_zero] at er
      refine hk_run2 (hk_call_m d) 100 ?_
      refine And.intro (fun c => ?_) (fun c => absurd (by rw [mu.1]; exact nI_le (Nat.le_refl _) (by omega)) c)
      refine w_put trivial rfl rfl ?_
      refine hk_qe_of (hQ _ ?_ (hfm2_end M.2.2.1 fr))
      rw [er]
      exact ⟨by rw [up2_k (by decide)]; exact mu.1, fun m hm i hi => by rw [up2_a (by decide)]; exact mu.2 m hm i hi⟩
    · intro m hm ih R MR mu fr er
      have h200 := MR.2.2.2.2.2.2.1
      have e3 : hf_hours m P 3 0 = P 3 0 := hf_hours_r (by decide) (by decide) (by decide) _ _
      rw [show k - m = (k - (m + 1)) + 1 from by omega, hf_rn] at er
      refine hk_run2 (hk_call_m d) 300 ?_
      refine And.intro (fun c => absurd c (by rw [mu.1]; exact nI_ge hm (by omega))) (fun c => ?_)
      refine sp_its (by omega) MR.2.2.1 (j := 0) rfl (by omega) ?_
      rw [hn_now MR]
      refine And.intro (fun c => ?_) (fun c => ?_)
      · have : 96 ≤ hf_hours m P 4 0 := (nI_leI (b := hf_hours m P 4 0) (a := 96) (by omega) (by omega)).mp c
        rw [if_neg (by omega), Nat.add_zero] at er
        refine w_put trivial rfl rfl ?_
        refine hk_qe_of (hQ _ ?_ (hfm2_end M.2.2.1 fr))
        rw [er]
        exact ⟨by rw [up2_k (by decide)]; exact mu.1, fun m hm i hi => by rw [up2_a (by decide)]; exact mu.2 m hm i hi⟩
      · have hlt : hf_hours m P 4 0 < 96 := by
          rcases Nat.lt_or_ge (hf_hours m P 4 0) 96 with q | q
          · exact q
          · exact absurd (nI_le (a := 96) q (by omega)) c
        rw [if_pos hlt] at er
        have eS : hf_hours (m + 1) P = hf_pass (hf_hours m P) := by rw [hf_hours_s, if_pos hlt]
        refine sp_mgo (by omega) MR (n := 1) rfl (by omega) (fun R2 M2 f2 => ?_)
        rw [show hf_hours 1 (hf_hours m P) = hf_hours (m + 1) P from (if_pos hlt).trans eS.symm] at M2
        rw [← eS] at er
        have mu2 : hf_must P m R2 := ⟨(f2 _ _ (by omega)).trans mu.1, fun i hi j hj => (f2 _ _ (by omega)).trans (mu.2 i hi j hj)⟩
        have fr2 : hfm2 R0 R2 := fun a k q1 q2 q3 q4 => (f2 a k (by omega)).trans (fr a k q1 q2 q3 q4)
        have e3' : hf_hours (m + 1) P 3 0 = P 3 0 := hf_hours_r (by decide) (by decide) (by decide) _ _
        have hrwd : ∀ i, hf_rw (hf_hours (m + 1) P) i = hf_rw (hf_hours (m + 1) P) i := fun _ => rfl
        generalize eSS : hf_hours (m + 1) P = S at *
        have eh : R2 98 4 = nI (P 3 0) := by rw [← e3']; exact M2.1.2.1
        have I : ∀ j, j ≤ P 3 0 → hk_wp none 0 0 hk_dft cM_findRows (hk_call d) (hk_qe Q) 21 [(3, .int (nI j)), (2, .int (nI (hf_bits (hf_wa S) j))), (0, .ref 98), (1, .int (nI k))] [] (hw R2 X) 0 0 := by
          refine hk_for ?_ ?_
          · refine hk_run2 (hk_call_m d) 200 ?_
            refine And.intro (fun c => ?_) (fun c => absurd (by rw [eh]; exact nI_le (Nat.le_refl _) (by omega)) c)
            have ix : (3 : Int32) * R2 98 34 = nI (3 * m + 0) := by rw [mu2.1]; exact hn_mul 3 m
            refine sp_its (by omega) M2.2.2.1 (j := 0) rfl (by omega) ?_
            rw [hn_now M2]
            refine w_st (t := 0) (j := 3 * m + 0) (n := 60) ix rfl (by omega) (by omega) rfl rfl ?_
            refine w_st (t := 0) (j := 3 * m + 1) (n := 60) (by rw [up2_a (by decide), ix]; exact hn_add _ 1) rfl (by omega) (by omega) rfl rfl ?_
            refine sp_mgoneSet (by omega) (o := 18) (P := S) (hf_M_eq M2 (fun a k z => by rw [up2_a (by omega), up2_a (by omega)])) ?_
            refine w_st (t := 0) (j := 3 * m + 2) (n := 60) (by rw [up2_a (by decide), up2_a (by decide), ix]; exact hn_add _ 2) rfl (by omega) (by omega) rfl rfl ?_
            refine w_put trivial rfl rfl ?_
            refine Exists.intro [2, 3] ?_
            refine hk_stop2 (hk_call_m d) (ih _ (hf_M_eq M2 (fun a k z => by rw [up2_n (by omega), up2_a (by omega), up2_a (by omega), up2_a (by omega)])) ⟨?_, ?_⟩ ?_ (by omega))
            · rw [up2_s, up2_a (by decide), up2_a (by decide), up2_a (by decide), mu2.1, nI_1]
            · intro m' hm' i hi
              rw [up2_a (by decide)]
              by_cases z : m' = m
              · subst z
                rw [eSS]
                have hi3 : i = 0 ∨ i = 1 ∨ i = 2 := by omega
                rcases hi3 with rfl | rfl | rfl
                · rw [up2_k (by omega), up2_k (by omega), up2_s]; rfl
                · rw [up2_k (by omega), up2_s, ← e3']; rfl
                · rw [up2_s]; rfl
              · rw [up2_k (by omega), up2_k (by omega), up2_k (by omega)]
                exact mu2.2 m' (by omega) i hi
            · intro a k q1 q2 q3 q4
              rw [up2_n q3, up2_a q2, up2_a q2, up2_a q2]; exact fr2 a k q1 q2 q3 q4
          · intro j hj ih2
            refine hk_run2 (hk_call_m d) 200 ?_
            refine And.intro (fun c => absurd c (by rw [eh]; exact nI_ge hj (by omega))) (fun c => ?_)
            refine sp_its (by omega) M2.2.2.1 (j := 6 + j) (by rw [← nI_add]; rfl) (by omega) ?_
            rw [(M2.2.1.2.2 j (by omega)).1]
            unfold hf_bits at ih2
            by_cases hw1 : 25 ≤ S 10 j ∧ S 10 j < 30
            · rw [hf_wa_t hw1] at ih2
              rw [hf_mw_w hw1]
              refine And.intro (fun c => absurd c (hn_npos (by omega))) (fun _ => ?_)
              refine Exists.intro [0, 1, 2, 3] ?_
              rw [nI_1, show nI (hf_bits (hf_wa S) j) ||| hk_shl 1 (nI j) = nI (hf_bits (hf_wa S) j + 2 ^ j) from hf_or j (by omega) _ (hf_bits_lt _ j)]
              exact hk_stop2 (hk_call_m d) ih2
            · rw [hf_wa_f hw1] at ih2
              rw [hf_mw_n hw1]
              refine And.intro (fun _ => ?_) (fun c => absurd (by decide) c)
              refine Exists.intro [0, 1, 2, 3] ?_
              rw [nI_1, hf_or0]
              exact hk_stop2 (hk_call_m d) ih2
        refine w_rn (hk_stop2 (hk_call_m d) (hk_run2 (hk_call_m d) 4 ?_))
        exact I 0 (Nat.zero_le _)
  refine hk_run2 (hk_call_m d) 100 ?_
  refine sp_mlends (by omega) M (fun R1 M1 f1 => ?_)
  refine w_put trivial rfl rfl ?_
  refine hk_stop2 (hk_call_m d) (hk_run2 (hk_call_m d) 0 ?_)
  refine L 0 (Nat.zero_le _) _ (hf_M_eq M1 (fun a k z => up2_n (by omega))) ⟨up2_s _ _ _ _, fun m hm => absurd hm (Nat.not_lt_zero m)⟩ (fun a k q1 q2 q3 q4 => ?_) (Nat.zero_add _).symm
  rw [up2_n q3]; exact f1 a k q1 q4
end
section
/-! THE REFERENCE: its rows -/
def hf_T (n : Nat) (T : Nat → Int32) (R : Nat → Nat → Int32) : Prop := n ≤ 20 ∧ R 98 33 = nI n ∧ ∀ i, i < 3 * n → R 116 i = T i
theorem sp_misRow {d : Nat} (hd : 1 < d) {R : Nat → Nat → Int32} {X : hk_D} {Q : hk_Q} {v w : Int32} {n : Nat} (en : R 98 33 = nI n) (hn : n ≤ 20) (h1 : ∀ i j, i < n → j < 3 → v = nI i → w = nI j → Q (some (.int 1)) (hw R X)) (h0 : (∀ i j, i < n → j < 3 → ¬ (v = nI i ∧ w = nI j)) → Q (some (.int 0)) (hw R X)) : hk_call d mM_isRow [.ref 98, .int v, .int w] (hw R X) Q := by
  obtain ⟨d, rfl⟩ : ∃ e, d = e + 1 := ⟨d - 1, by omega⟩
  refine hk_run2 (hk_call_m d) 100 ?_
  refine sp_in (by omega) (n := n) (by omega) (by rw [en]) (fun i hi q => ?_) (fun q => ?_)
  · refine And.intro (fun c => absurd c (by decide)) (fun _ => ?_)
    refine sp_in (by omega) (n := 3) (by omega) (by decide) (fun j hj q2 => ?_) (fun q2 => ?_)
    · refine And.intro (fun c => absurd c (by decide)) (fun _ => ?_)
      exact And.intro (by decide) (hk_qe_of (h1 i j hi hj q q2))
    · refine And.intro (fun _ => ?_) (fun c => absurd rfl c)
      exact And.intro (by decide) (hk_qe_of (h0 (fun i j _ hj z => q2 j hj z.2)))
  · refine And.intro (fun _ => ?_) (fun c => absurd rfl c)
    exact And.intro (by decide) (hk_qe_of (h0 (fun i j hi _ z => q i hi z.1)))
def a_row (n : Nat) (T : Nat → Int32) (v w : Int32) : Int32 := match hxi n v with
  | none => -9
  | some i => match hxi 3 w with
    | none => -9
    | some j => T (3 * i + j)
theorem a_row_n {n : Nat} {T : Nat → Int32} {v w : Int32} (hn : n ≤ 20) (h : ∀ i j, i < n → j < 3 → ¬ (v = nI i ∧ w = nI j)) : a_row n T v w = -9 := by
  unfold a_row
  cases q1 : hxi n v with
  | none => rfl
  | some i =>
    cases q2 : hxi 3 w with
    | none => rfl
    | some j =>
      have z1 := hxi_e (by omega) q1
      have z2 := hxi_e (by omega) q2
      exact absurd ⟨z1.2, z2.2⟩ (h i j z1.1 z2.1)
theorem a_row_s {n i j : Nat} {T : Nat → Int32} (hn : n ≤ 20) (hi : i < n) (hj : j < 3) : a_row n T (nI i) (nI j) = T (3 * i + j) := by
  unfold a_row
  rw [hxi_s hi (by omega), hxi_s hj (by omega)]
theorem hn_3 (i j : Nat) : (3 : Int32) * nI i + nI j = nI (3 * i + j) := by
  rw [show (3 : Int32) * nI i = nI (3 * i) from hn_mul 3 i, hn_add]
set_option maxHeartbeats 400000 in
theorem sp_mrow {d : Nat} (hd : 2 < d) {R : Nat → Nat → Int32} {X : hk_D} {Q : hk_Q} {v w : Int32} {n : Nat} {T : Nat → Int32} (H : hf_T n T R) (hQ : Q (some (.int (a_row n T v w))) (hw R X)) : hk_call d mM_row [.ref 98, .int v, .int w] (hw R X) Q := by
  obtain ⟨d, rfl⟩ : ∃ e, d = e + 1 := ⟨d - 1, by omega⟩
  have hn := H.1
  refine hk_run2 (hk_call_m d) 100 ?_
  refine sp_misRow (by omega) H.2.1 H.1 (fun i j hi hj ei ej => ?_) (fun nn => ?_)
  · refine And.intro (fun c => absurd c (by decide)) (fun _ => ?_)
    subst ei; subst ej
    rw [a_row_s hn hi hj] at hQ
    refine w_ld (j := 3 * i + j) (n := 60) (hn_3 i j) rfl (by omega) (by omega) rfl (H.2.2 _ (by omega)) ?_
    exact hk_qe_of hQ
  · refine And.intro (fun _ => ?_) (fun c => absurd rfl c)
    rw [a_row_n hn nn] at hQ
    exact hk_qe_of hQ
def n_row (n : Nat) (T : Nat → Int32) (v w x : Int32) : Nat → Int32 := match hxi n v with
  | none => T
  | some i => match hxi 3 w with
    | none => T
    | some j => fun k => if k = 3 * i + j then x else T k
theorem n_row_n {n : Nat} {T : Nat → Int32} {v w x : Int32} (hn : n ≤ 20) (h : ∀ i j, i < n → j < 3 → ¬ (v = nI i ∧ w = nI j)) : n_row n T v w x = T := by
  unfold n_row
  cases q1 : hxi n v with
  | none => rfl
  | some i =>
    cases q2 : hxi 3 w with
    | none => rfl
    | some j =>
      have z1 := hxi_e (by omega) q1
      have z2 := hxi_e (by omega) q2
      exact absurd ⟨z1.2, z2.2⟩ (h i j z1.1 z2.1)
theorem n_row_s {n i j : Nat} {T : Nat → Int32} {x : Int32} (hn : n ≤ 20) (hi : i < n) (hj : j < 3) : n_row n T (nI i) (nI j) x = fun k => if k = 3 * i + j then x else T k := by
  unfold n_row
  rw [hxi_s hi (by omega), hxi_s hj (by omega)]
set_option maxHeartbeats 400000 in
theorem sp_malterRow {d : Nat} (hd : 2 < d) {R : Nat → Nat → Int32} {X : hk_D} {Q : hk_Q} {v w x : Int32} {n : Nat} {T : Nat → Int32} (H : hf_T n T R) (hQ : ∀ R', hf_T n (n_row n T v w x) R' → (∀ a k, a ≠ 116 → R' a k = R a k) → Q (some (.int (a_row n T v w))) (hw R' X)) : hk_call d mM_alterRow [.ref 98, .int v, .int w, .int x] (hw R X) Q := by
  obtain ⟨d, rfl⟩ : ∃ e, d = e + 1 := ⟨d - 1, by omega⟩
  have hn := H.1
  refine hk_run2 (hk_call_m d) 100 ?_
  refine sp_misRow (by omega) H.2.1 H.1 (fun i j hi hj ei ej => ?_) (fun nn => ?_)
  · refine And.intro (fun c => absurd c (by decide)) (fun _ => ?_)
    subst ei; subst ej
    rw [a_row_s hn hi hj, n_row_s hn hi hj] at hQ
    refine w_ld (j := 3 * i + j) (n := 60) (hn_3 i j) rfl (by omega) (by omega) rfl (H.2.2 _ (by omega)) ?_
    refine w_st (t := 0) (j := 3 * i + j) (n := 60) (hn_3 i j) rfl (by omega) (by omega) rfl rfl ?_
    refine hk_qe_of (hQ _ ⟨hn, ?_, fun k hk => ?_⟩ (fun a k q => up2_a q))
    · rw [up2_a (by decide)]; exact H.2.1
    · by_cases z : k = 3 * i + j
      · rw [z, up2_s]; exact (if_pos rfl).symm
      · rw [up2_k z]; exact (H.2.2 k hk).trans (if_neg z).symm
  · refine And.intro (fun _ => ?_) (fun c => absurd rfl c)
    rw [a_row_n hn nn, n_row_n hn nn] at hQ
    exact hk_qe_of (hQ R H (fun _ _ _ => rfl))
end
section
/-! THE REFERENCE: prove -/
def hf_pT (P : hP) : Nat → Int32 := fun i => nI (hf_rw (hf_hours (i / 3 + 1) P) (i % 3))
def hfj (R R' : Nat → Nat → Int32) : Prop := ∀ a k, ¬ (a = 105 ∧ 18 ≤ k) → ¬ a = 117 → ¬ a = 116 → ¬ (a = 98 ∧ (k = 33 ∨ k = 34)) → R' a k = R a k
theorem hf_must_T {P : hP} {n : Nat} {R : Nat → Nat → Int32} (mu : hf_must P n R) : ∀ t, t < 3 * n → R 117 t = hf_pT P t := by
  intro t ht
  have := mu.2 (t / 3) (by omega) (t % 3) (by omega)
  rw [show 3 * (t / 3) + t % 3 = t from by omega] at this
  exact this
set_option maxHeartbeats 400000 in
theorem sp_mprove {d : Nat} (hd : 8 < d) {R0 : Nat → Nat → Int32} {X : hk_D} {Q : hk_Q} {v : Int32} {P : hP} (M : hf_M 0 P R0) (h1 : ∀ k, 1 ≤ k → k < 21 → v = nI k → ∀ R', hf_T (hf_rn k P) (hf_pT P) R' → hfj R0 R' → Q (some (.int (nI (hf_rn k P)))) (hw R' X)) (h0 : (∀ k, 1 ≤ k → k < 21 → v ≠ nI k) → Q (some (.int (-1))) (hw R0 X)) : hk_call d mM_prove [.ref 98, .int v] (hw R0 X) Q := by
  obtain ⟨d, rfl⟩ : ∃ e, d = e + 1 := ⟨d - 1, by omega⟩
  have t1 : (1 : Int32).toInt = 1 := by decide
  have t20 : (20 : Int32).toInt = 20 := by decide
  have t0 : (0 : Int32).toInt = 0 := by decide
  refine hk_run2 (hk_call_m d) 100 ?_
  refine sp_inR (by omega) (fun c1 c2 => ?_) (fun c => ?_)
  · refine And.intro (fun c => absurd c (by decide)) (fun _ => ?_)
    rw [hn_lt, t1] at c1
    rw [hn_lt, t20] at c2
    obtain ⟨k, hk, e⟩ := hn_of (x := v) (n := 21) (by omega) (by rw [hn_lt, t0]; omega) (by rw [hn_le, hn_i (by omega)]; omega)
    rw [e, hn_i (by omega)] at c1
    have hQ := h1 k (by omega) hk e
    have hle := hf_rn_le k P
    refine sp_mfindRows (by omega) M e (by omega) (fun R1 mu f1 => ?_)
    generalize hf_rn k P = n at *
    have L : ∀ i, i ≤ 3 * n → ∀ R, R 98 33 = nI n → (∀ t, t < 3 * n → R 117 t = hf_pT P t) → (∀ t, t < i → R 116 t = hf_pT P t) → hfj R0 R → hk_wp (some .int) 0 0 hk_dft cM_prove (hk_call d) (hk_qe Q) 16 [(2, .int (nI i)), (0, .ref 98), (1, .int v)] [] (hw R X) 0 0 := by
      refine hk_for ?_ ?_
      · intro R e33 m7 m6 fr
        have e3 : (3 : Int32) * R 98 33 = nI (3 * n) := by rw [e33]; exact hn_mul 3 n
        refine hk_run2 (hk_call_m d) 100 ?_
        refine And.intro (fun c => ?_) (fun c => absurd (by rw [e3]; exact nI_le (Nat.le_refl _) (by omega)) c)
        refine hk_qe_of ?_
        rw [e33]
        exact hQ R ⟨by omega, e33, m6⟩ fr
      · intro i hi ih R e33 m7 m6 fr
        have e3 : (3 : Int32) * R 98 33 = nI (3 * n) := by rw [e33]; exact hn_mul 3 n
        refine hk_run2 (hk_call_m d) 100 ?_
        refine And.intro (fun c => absurd c (by rw [e3]; exact nI_ge hi (by omega))) (fun c => ?_)
        refine w_ld (j := i) (n := 60) rfl rfl (by omega) (by omega) rfl (m7 i hi) ?_
        refine w_st (t := 0) (j := i) (n := 60) rfl rfl (by omega) (by omega) rfl rfl ?_
        refine Exists.intro [0, 1, 2] ?_
        rw [nI_1]
        refine hk_stop2 (hk_call_m d) (ih _ ?_ ?_ ?_ ?_)
        · rw [up2_a (by decide)]; exact e33
        · intro t ht; rw [up2_a (by decide)]; exact m7 t ht
        · intro t ht
          by_cases z : t = i
          · rw [z, up2_s]
          · rw [up2_k z]; exact m6 t (by omega)
        · intro a b q1 q2 q3 q4
          rw [up2_a q3]; exact fr a b q1 q2 q3 q4
    refine w_put trivial rfl rfl ?_
    refine hk_stop2 (hk_call_m d) (hk_run2 (hk_call_m d) 2 ?_)
    refine L 0 (Nat.zero_le _) _ (by rw [up2_s]; exact mu.1) (fun t ht => ?_) (fun t ht => absurd ht (Nat.not_lt_zero t)) (fun a b q1 q2 q3 q4 => ?_)
    · rw [up2_a (by decide)]; exact hf_must_T mu t ht
    · rw [up2_n (by omega)]; exact f1 a b q1 q2 (by omega)
  · refine And.intro (fun _ => ?_) (fun c => absurd rfl c)
    refine hk_qe_of (h0 (fun k hk1 hk2 e => ?_))
    rw [hn_lt, hn_lt, t1, t20, e, hn_i (by omega)] at c
    omega
end
section
/-! THE REFERENCE: judge -/
def hf_jd (T U : Nat → Int32) (m : Nat) : Nat → Nat → Int32
  | 0, _ => 0
  | r + 1, i => if i < m ∧ (∀ t, t < 3 → T (3 * i + t) = U (3 * i + t)) then hf_jd T U m r (i + 1) else nI (i + 1)
set_option maxHeartbeats 400000 in
theorem sp_mjudge {d : Nat} (hd : 8 < d) {R0 : Nat → Nat → Int32} {X : hk_D} {Q : hk_Q} {P : hP} {n : Nat} {T : Nat → Int32} (M : hf_M 0 P R0) (H : hf_T n T R0) (hQ : ∀ R', hf_T n T R' → hfm R0 R' → Q (some (.int (hf_jd T (hf_pT P) (hf_rn n P) n 0))) (hw R' X)) : hk_call d mM_judge [.ref 98] (hw R0 X) Q := by
  obtain ⟨d, rfl⟩ : ∃ e, d = e + 1 := ⟨d - 1, by omega⟩
  have hn := H.1
  have hle := hf_rn_le n P
  refine hk_run2 (hk_call_m d) 100 ?_
  refine sp_mfindRows (by omega) M H.2.1 hn (fun R1 mu f1 => ?_)
  have H1 : hf_T n T R1 := ⟨hn, (f1 _ _ (by omega) (by omega) (by omega)).trans H.2.1, fun i hi => (f1 _ _ (by omega) (by omega) (by omega)).trans (H.2.2 i hi)⟩
  have hQ := hQ R1 H1 f1
  have mT := hf_must_T mu
  have e34 := mu.1
  have e33 := H1.2.1
  generalize hf_rn n P = m at *
  have L : ∀ i, i ≤ n → Q (some (.int (hf_jd T (hf_pT P) m (n - i) i))) (hw R1 X) → hk_wp (some .int) 0 0 hk_dft cM_judge (hk_call d) (hk_qe Q) 6 [(1, .int (nI i)), (0, .ref 98)] [] (hw R1 X) 0 0 := by
    refine hk_for ?_ ?_
    · intro hQ
      rw [Nat.sub_self] at hQ
      refine hk_run2 (hk_call_m d) 100 ?_
      refine And.intro (fun c => hk_qe_of hQ) (fun c => absurd (by rw [e33]; exact nI_le (Nat.le_refl _) (by omega)) c)
    · intro i hi ih hQ
      rw [show n - i = (n - (i + 1)) + 1 from by omega, hf_jd] at hQ
      -- found
      have E : ∀ t, t ≤ 3 → ¬ (i < m ∧ (∀ t, t < 3 → T (3 * i + t) = hf_pT P (3 * i + t))) → hk_wp (some .int) 0 0 hk_dft cM_judge (hk_call d) (hk_qe Q) 20 [(3, .int (nI t)), (2, .int 0), (1, .int (nI i)), (0, .ref 98)] [] (hw R1 X) 0 0 := by
        intro t ht no
        rw [if_neg no] at hQ
        refine hk_run2 (hk_call_m d) 100 ?_
        refine And.intro (fun c => ?_) (fun c => And.intro (fun _ => ?_) (fun c => absurd rfl c))
        · refine And.intro (fun _ => ?_) (fun c => absurd rfl c)
          refine hk_qe_of ?_
          rw [nI_1]; exact hQ
        · refine And.intro (fun _ => ?_) (fun c => absurd rfl c)
          refine hk_qe_of ?_
          rw [nI_1]; exact hQ
      have I : i < m → ∀ t, t ≤ 3 → (∀ s, s < t → T (3 * i + s) = hf_pT P (3 * i + s)) → hk_wp (some .int) 0 0 hk_dft cM_judge (hk_call d) (hk_qe Q) 20 [(3, .int (nI t)), (2, .int 1), (1, .int (nI i)), (0, .ref 98)] [] (hw R1 X) 0 0 := by
        intro him
        refine hk_for ?_ ?_
        · intro al
          rw [if_pos ⟨him, al⟩] at hQ
          refine hk_run2 (hk_call_m d) 100 ?_
          refine And.intro (fun c => ?_) (fun c => absurd (by decide) c)
          refine And.intro (fun c => absurd c (by decide)) (fun _ => ?_)
          refine Exists.intro [0, 3] ?_
          rw [nI_1]
          exact hk_stop2 (hk_call_m d) (ih hQ)
        · intro t ht ih2 al
          refine hk_run2 (hk_call_m d) 100 ?_
          refine And.intro (fun c => absurd c (show ¬ nI 3 ≤ nI t from nI_ge ht (by omega))) (fun _ => ?_)
          refine And.intro (fun c => absurd c (by decide)) (fun _ => ?_)
          refine w_ld (j := 3 * i + t) (n := 60) (hn_3 i t) rfl (by omega) (by omega) rfl (H1.2.2 _ (by omega)) ?_
          refine w_ld (j := 3 * i + t) (n := 60) (hn_3 i t) rfl (by omega) (by omega) rfl (mT _ (by omega)) ?_
          refine And.intro (fun c => ?_) (fun c => ?_)
          · refine Exists.intro [0, 1, 2, 3] ?_
            rw [nI_1]
            refine hk_stop2 (hk_call_m d) (ih2 (fun s hs => ?_))
            by_cases z : s = t
            · rw [z]; exact c
            · exact al s (by omega)
          · refine Exists.intro [0, 1, 2, 3] ?_
            rw [nI_1]
            exact hk_stop2 (hk_call_m d) (E (t + 1) (by omega) (fun z => c (z.2 t ht)))
      refine hk_run2 (hk_call_m d) 100 ?_
      refine And.intro (fun c => absurd c (by rw [e33]; exact nI_ge hi (by omega))) (fun _ => ?_)
      refine And.intro (fun c => ?_) (fun c => ?_)
      · have hmi : m ≤ i := (nI_leI (by omega) (by omega)).mp (by rw [← e34]; exact c)
        refine hk_stop2 (hk_call_m d) (hk_run2 (hk_call_m d) 4 ?_)
        exact E 0 (by omega) (fun z => by omega)
      · have hmi : i < m := by
          rcases Nat.lt_or_ge i m with z | z
          · exact z
          · exact absurd (by rw [e34]; exact nI_le z (by omega)) c
        refine hk_stop2 (hk_call_m d) (hk_run2 (hk_call_m d) 5 ?_)
        exact I hmi 0 (by omega) (fun s hs => absurd hs (Nat.not_lt_zero s))
  refine w_rn (hk_stop2 (hk_call_m d) (hk_run2 (hk_call_m d) 2 ?_))
  exact L 0 (Nat.zero_le _) hQ
end
section
/-! THE REFERENCE: how many -/
def hf_gc (P : hP) : Nat → Nat
  | 0 => 0
  | n + 1 => hf_gc P n + (if P 10 n = 30 then 1 else 0)
def hf_mny (P : hP) (r t b : Int32) : Nat → Int32
  | 0 => nI (P 2 0)
  | 1 => nI (P 3 0)
  | 2 => nI (P 4 0)
  | 3 => r
  | 4 => t
  | 5 => b
  | _ => nI (hf_gc P (P 3 0))
def a_many (P : hP) (r t b v : Int32) : Int32 := match hxi 7 v with
  | none => -1
  | some s => hf_mny P r t b s
set_option maxHeartbeats 400000 in
theorem sp_mmany {d : Nat} (hd : 2 < d) {R : Nat → Nat → Int32} {X : hk_D} {Q : hk_Q} {v : Int32} {P : hP} (M : hf_M 0 P R) (hQ : Q (some (.int (a_many P (R 98 33) (R 98 12) (R 98 45) v))) (hw R X)) : hk_call d mM_many [.ref 98, .int v] (hw R X) Q := by
  obtain ⟨d, rfl⟩ : ∃ e, d = e + 1 := ⟨d - 1, by omega⟩
  have h6 := M.2.2.2.2.2.1
  have eh := M.1.2.1
  unfold a_many at hQ
  have key : ∀ s : Nat, s < 7 → v.toInt = s → Q (some (.int (hf_mny P (R 98 33) (R 98 12) (R 98 45) s))) (hw R X) := by
    intro s hs e
    have ev : v = nI s := Int32.toInt_inj.mp (by rw [e, hn_i (by omega)])
    rw [ev, hxi_s hs (by omega)] at hQ
    exact hQ
  have keyn : (∀ s : Nat, s < 7 → ¬ v.toInt = s) → Q (some (.int (-1))) (hw R X) := by
    intro no
    rw [hxi_n (by omega) (fun j hj e => no j hj (by rw [e, hn_i (by omega)]))] at hQ
    exact hQ
  have L : Q (some (.int (nI (hf_gc P (P 3 0))))) (hw R X) → ∀ j, j ≤ P 3 0 → hk_wp (some .int) 0 0 hk_dft cM_many (hk_call d) (hk_qe Q) 26 [(3, .int (nI j)), (2, .int (nI (hf_gc P j))), (0, .ref 98), (1, .int v)] [] (hw R X) 0 0 := by
    intro hQ
    refine hk_for ?_ ?_
    · refine hk_run2 (hk_call_m d) 100 ?_
      refine And.intro (fun c => hk_qe_of hQ) (fun c => absurd (by rw [eh]; exact nI_le (Nat.le_refl _) (by omega)) c)
    · intro j hj ih
      refine hk_run2 (hk_call_m d) 100 ?_
      refine And.intro (fun c => absurd c (by rw [eh]; exact nI_ge hj (by omega))) (fun c => ?_)
      unfold hf_gc at ih
      refine sp_isGone (by omega) M hj rfl (fun hg => ?_) (fun hg => ?_)
      · refine And.intro (fun c => absurd c (by decide)) (fun _ => ?_)
        rw [if_pos hg] at ih
        refine Exists.intro [0, 1, 2, 3] ?_
        rw [nI_1, nI_1]
        exact hk_stop2 (hk_call_m d) ih
      · refine And.intro (fun _ => ?_) (fun c => absurd rfl c)
        rw [if_neg hg] at ih
        refine Exists.intro [0, 1, 2, 3] ?_
        rw [nI_1, show nI (hf_gc P j) + 0 = nI (hf_gc P j + 0) from hn_add _ 0]
        exact hk_stop2 (hk_call_m d) ih
  refine hk_run2 (hk_call_m d) 100 ?_
  refine And.intro (fun c => ?_) (And.intro (fun c => ?_) (And.intro (fun c => ?_) (And.intro (fun c => ?_) (And.intro (fun c => ?_) (And.intro (fun c => ?_) (And.intro (fun c => ?_) (And.intro (fun c => ?_) trivial)))))))
  · exact hk_qe_of (keyn (fun s hs e => by simp at c; omega))
  · have z := key 0 (by omega) (by omega)
    refine hk_qe_of ?_
    rw [M.1.1]; exact z
  · have z := key 1 (by omega) (by omega)
    refine hk_qe_of ?_
    rw [eh]; exact z
  · have z := key 2 (by omega) (by omega)
    refine w_ld (j := 0) (n := 36) rfl rfl (by omega) (by omega) rfl M.2.1.1 ?_
    exact hk_qe_of z
  · exact hk_qe_of (key 3 (by omega) (by omega))
  · exact hk_qe_of (key 4 (by omega) (by omega))
  · exact hk_qe_of (key 5 (by omega) (by omega))
  · have z := key 6 (by omega) (by omega)
    refine hk_stop2 (hk_call_m d) (hk_run2 (hk_call_m d) 2 ?_)
    exact L z 0 (Nat.zero_le _)
end
section
/-! THE REFERENCE: make, puts, down -/
def o_make (P : hP) (v1 v2 v3 : Int32) : Int32 × hP := match hxi (P 3 0) v1 with
  | none => (-1, P)
  | some h => match hxi 6 v2 with
    | none => (-1, P)
    | some k => match hxi 10 v3 with
      | none => (-1, P)
      | some a => (nI (P 7 h), hf_k P h k a)
set_option maxHeartbeats 400000 in
theorem sp_mmake {d : Nat} (hd : 2 < d) {R : Nat → Nat → Int32} {X : hk_D} {Q : hk_Q} {v1 v2 v3 : Int32} {P : hP} (M : hf_M 0 P R) (hQ : ∀ R', hf_M 0 (o_make P v1 v2 v3).2 R' → hfp R R' → Q (some (.int (o_make P v1 v2 v3).1)) (hw R' X)) : hk_call d mM_make [.ref 98, .int v1, .int v2, .int v3] (hw R X) Q := by
  obtain ⟨d, rfl⟩ : ∃ e, d = e + 1 := ⟨d - 1, by omega⟩
  have h6 := M.2.2.2.2.2.1
  unfold o_make at hQ
  refine hk_run2 (hk_call_m d) 100 ?_
  refine sp_misHat (by omega) M.1.2.1 h6 (fun h hh eh => ?_) (fun nn => ?_)
  · refine And.intro (fun c => absurd c (by decide)) (fun _ => ?_)
    rw [eh, hxi_s hh (by omega)] at hQ
    dsimp only at hQ
    refine sp_in (by omega) (n := 6) (by omega) (by decide) (fun k hk ek => ?_) (fun nn => ?_)
    · refine And.intro (fun c => absurd c (by decide)) (fun _ => ?_)
      rw [ek, hxi_s hk (by omega)] at hQ
      dsimp only at hQ
      refine sp_in (by omega) (n := 10) (by omega) (by decide) (fun a ha ea => ?_) (fun nn => ?_)
      · refine And.intro (fun c => absurd c (by decide)) (fun _ => ?_)
        rw [ea, hxi_s ha (by omega)] at hQ
        dsimp only at hQ
        refine w_ld (j := h) (n := 6) eh rfl (by omega) (by omega) rfl (hf_M_h M h hh).1.1 ?_
        refine w_st (t := 0) (j := h) (n := 6) eh rfl (by omega) (by omega) rfl rfl ?_
        refine w_st (t := 0) (j := h) (n := 6) eh rfl (by omega) (by omega) rfl rfl ?_
        refine hk_qe_of (hQ _ ?_ (hfp_tr (hfp_up (by omega)) (hfp_up (by omega))))
        rw [ek, ea]
        exact hf_M_k M hh hk ha
      · refine And.intro (fun _ => ?_) (fun c => absurd rfl c)
        rw [hxi_n (by omega) nn] at hQ
        exact hk_qe_of (hQ R M hfp_rf)
    · refine And.intro (fun _ => ?_) (fun c => absurd rfl c)
      rw [hxi_n (by omega) nn] at hQ
      exact hk_qe_of (hQ R M hfp_rf)
  · refine And.intro (fun _ => ?_) (fun c => absurd rfl c)
    rw [hxi_n (by omega) nn] at hQ
    exact hk_qe_of (hQ R M hfp_rf)
def o_puts (P : hP) (v w : Int32) : Int32 × hP := match hxi (P 3 0) v with
  | none => (-1, P)
  | some h => match hxi (P 2 0) w with
    | none => (-1, P)
    | some p => if P 10 h < 25 ∧ P 10 h = P 5 p then (1, hf_up P 10 h (25 + p)) else (-4, P)
set_option maxHeartbeats 400000 in
theorem sp_mputs {d : Nat} (hd : 2 < d) {R : Nat → Nat → Int32} {X : hk_D} {Q : hk_Q} {v w : Int32} {P : hP} (M : hf_M 0 P R) (hQ : ∀ R', hf_M 0 (o_puts P v w).2 R' → hfp R R' → Q (some (.int (o_puts P v w).1)) (hw R' X)) : hk_call d mM_puts [.ref 98, .int v, .int w] (hw R X) Q := by
  obtain ⟨d, rfl⟩ : ∃ e, d = e + 1 := ⟨d - 1, by omega⟩
  have h6 := M.2.2.2.2.2.1
  have h5 := M.2.2.2.2.1
  unfold o_puts at hQ
  refine hk_run2 (hk_call_m d) 100 ?_
  refine sp_misHat (by omega) M.1.2.1 h6 (fun h hh eh => ?_) (fun nn => ?_)
  · refine And.intro (fun c => absurd c (by decide)) (fun _ => ?_)
    rw [eh, hxi_s hh (by omega)] at hQ
    dsimp only at hQ
    refine sp_misPerson (by omega) M.1.1 h5 (fun p hp ep => ?_) (fun nn => ?_)
    · refine And.intro (fun c => absurd c (by decide)) (fun _ => ?_)
      rw [ep, hxi_s hp (by omega)] at hQ
      dsimp only at hQ
      have mp := hf_M_p M p hp
      have mh := hf_M_h M h hh
      rw [Nat.zero_add] at mp
      rw [Nat.zero_add, Nat.zero_add] at mh
      refine sp_isLying (by omega) M hh eh (fun hl => ?_) (fun hl => ?_)
      · refine And.intro (fun c => absurd c (by decide)) (fun _ => ?_)
        refine w_ld (j := 12 + h) (n := 36) (by rw [eh, ← nI_add]; rfl) rfl (by omega) (by omega) rfl (mh.2.1.2.1 hl) ?_
        refine w_ld (j := 1 + p) (n := 36) (by rw [ep, ← nI_add]; rfl) rfl (by omega) (by omega) rfl mp.2.1 ?_
        refine And.intro (fun c => ?_) (fun c => ?_)
        · have e := (nI_eq (by omega) (by omega)).mp c
          rw [if_pos ⟨hl, e⟩] at hQ
          refine w_st (t := 0) (j := 6 + h) (n := 36) (by rw [eh, ← nI_add]; rfl) rfl (by omega) (by omega) rfl rfl ?_
          refine hk_qe_of (hQ _ ?_ (hfp_up (by omega)))
          rw [ep]
          refine hf_M_hat M hh (Or.inr (Or.inl ⟨by omega, by omega⟩)) (fun a k z => up2_n (by omega)) ?_ (fun z => by omega) (fun z => by omega)
          rw [Nat.zero_add, up2_s, hf_mw_w (by omega)]
          congr 1; omega
        · rw [if_neg (fun z => c (by rw [z.2]))] at hQ
          exact hk_qe_of (hQ R M hfp_rf)
      · refine And.intro (fun _ => ?_) (fun c => absurd rfl c)
        rw [if_neg (fun z => hl z.1)] at hQ
        exact hk_qe_of (hQ R M hfp_rf)
    · refine And.intro (fun _ => ?_) (fun c => absurd rfl c)
      rw [hxi_n (by omega) nn] at hQ
      exact hk_qe_of (hQ R M hfp_rf)
  · refine And.intro (fun _ => ?_) (fun c => absurd rfl c)
    rw [hxi_n (by omega) nn] at hQ
    exact hk_qe_of (hQ R M hfp_rf)
def o_down (P : hP) (v : Int32) : Int32 × hP := match hxi (P 3 0) v with
  | none => (-1, P)
  | some h => if 25 ≤ P 10 h ∧ P 10 h < 30 then (nI (P 5 (P 10 h - 25)), hf_up P 10 h (P 5 (P 10 h - 25))) else (-4, P)
set_option maxHeartbeats 400000 in
theorem sp_mdown {d : Nat} (hd : 3 < d) {R : Nat → Nat → Int32} {X : hk_D} {Q : hk_Q} {v : Int32} {P : hP} (M : hf_M 0 P R) (hQ : ∀ R', hf_M 0 (o_down P v).2 R' → hfp R R' → Q (some (.int (o_down P v).1)) (hw R' X)) : hk_call d mM_down [.ref 98, .int v] (hw R X) Q := by
  obtain ⟨d, rfl⟩ : ∃ e, d = e + 1 := ⟨d - 1, by omega⟩
  have h6 := M.2.2.2.2.2.1
  unfold o_down at hQ
  refine hk_run2 (hk_call_m d) 100 ?_
  refine sp_misHat (by omega) M.1.2.1 h6 (fun h hh eh => ?_) (fun nn => ?_)
  · refine And.intro (fun c => absurd c (by decide)) (fun _ => ?_)
    rw [eh, hxi_s hh (by omega)] at hQ
    dsimp only at hQ
    have mh := hf_M_h M h hh
    rw [Nat.zero_add, Nat.zero_add] at mh
    by_cases hw1 : 25 ≤ P 10 h ∧ P 10 h < 30
    · rw [if_pos hw1] at hQ
      refine w_ld (j := 6 + h) (n := 36) (by rw [eh, ← nI_add]; rfl) rfl (by omega) (by omega) rfl (mh.2.1.1.trans (hf_mw_w hw1)) ?_
      refine And.intro (fun _ => ?_) (fun c => absurd (hn_pos (by omega)) c)
      refine sp_mlays (by omega) M hh eh hw1 (fun R' M' f e12 => ?_)
      rw [Nat.zero_add] at e12
      refine w_ld (j := 12 + h) (n := 36) (by rw [eh, ← nI_add]; rfl) rfl (by omega) (by omega) rfl e12 ?_
      exact hk_qe_of (hQ R' M' (hfp_r f))
    · rw [if_neg hw1] at hQ
      refine w_ld (j := 6 + h) (n := 36) (by rw [eh, ← nI_add]; rfl) rfl (by omega) (by omega) rfl (mh.2.1.1.trans (hf_mw_n hw1)) ?_
      refine And.intro (fun c => absurd c hn_neg1) (fun _ => ?_)
      exact hk_qe_of (hQ R M hfp_rf)
  · refine And.intro (fun _ => ?_) (fun c => absurd rfl c)
    rw [hxi_n (by omega) nn] at hQ
    exact hk_qe_of (hQ R M hfp_rf)
end
section
/-! THE REFERENCE: seed, small tests -/
theorem sp_mseed {d : Nat} (hd : 0 < d) {R : Nat → Nat → Int32} {X : hk_D} {Q : hk_Q} {v : Int32} (hQ : Q (some (.int (R 98 10))) (hw (up2 R 98 10 v) X)) : hk_call d mM_seed [.ref 98, .int v] (hw R X) Q := by
  obtain ⟨d, rfl⟩ : ∃ e, d = e + 1 := ⟨d - 1, by omega⟩
  refine hk_run2 (hk_call_m d) 100 ?_
  refine w_put trivial rfl rfl ?_
  exact hk_qe_of hQ
theorem sp_misShelf {d : Nat} (hd : 1 < d) {h : hk_Hp} {Q : hk_Q} {v : Int32} (h1 : ∀ j, j < 4 → v = nI j → Q (some (.int 1)) h) (h0 : (∀ j, j < 4 → v ≠ nI j) → Q (some (.int 0)) h) : hk_call d mM_isShelf [.int v] h Q := by
  obtain ⟨d, rfl⟩ : ∃ e, d = e + 1 := ⟨d - 1, by omega⟩
  refine hk_run2 (hk_call_m d) 100 ?_
  refine sp_in (by omega) (n := 4) (by omega) (by decide) (fun j hj q => ?_) (fun q => ?_)
  · exact And.intro (by decide) (hk_qe_of (h1 j hj q))
  · exact And.intro (by decide) (hk_qe_of (h0 q))
end
