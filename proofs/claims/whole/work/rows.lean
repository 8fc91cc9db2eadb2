section
-- ===== PART A: goes FIRST, ahead of the names: the tables' words, and 'selects' of the private methods out of them =====
/-- a private method of a class that the tables say can be made, by its rows of tables_1 -/
def lw_okq (q : MethodName × Nat) : Prop := (q.1.cls ≠ "java/lang/invoke/MethodHandle" ∧ q.1.cls ≠ "java/lang/invoke/VarHandle") ∧ Cond.instantiable q.1.cls q.2 ∈ tables_1 ∧ Cond.privateMethod q.1 ∈ tables_1 ∧ Cond.instanceMethod q.1 ∈ tables_1
theorem lw_p0 : lw_okq (⟨"LawNumberer$LevelsReader", "takeSemicolon", "(I)V"⟩, 3) := ⟨⟨by decide +kernel, by decide +kernel⟩, List.mem_of_getElem? (i := 69) (by decide +kernel), List.mem_of_getElem? (i := 276) (by decide +kernel), List.mem_of_getElem? (i := 277) (by decide +kernel)⟩
theorem lw_p1 : lw_okq (⟨"LawNumberer$LevelsReader", "failAt", "(II)V"⟩, 3) := ⟨⟨by decide +kernel, by decide +kernel⟩, List.mem_of_getElem? (i := 69) (by decide +kernel), List.mem_of_getElem? (i := 280) (by decide +kernel), List.mem_of_getElem? (i := 281) (by decide +kernel)⟩
theorem lw_p2 : lw_okq (⟨"LawNumberer$LevelsReader", "takeWord", "(LLawNumberer$Levels;LLawNumberer$Text;II)V"⟩, 3) := ⟨⟨by decide +kernel, by decide +kernel⟩, List.mem_of_getElem? (i := 69) (by decide +kernel), List.mem_of_getElem? (i := 290) (by decide +kernel), List.mem_of_getElem? (i := 291) (by decide +kernel)⟩
theorem lw_p3 : lw_okq (⟨"LawNumberer", "isPlaceTold", "(II)Z"⟩, 15) := ⟨⟨by decide +kernel, by decide +kernel⟩, List.mem_of_getElem? (i := 24) (by decide +kernel), List.mem_of_getElem? (i := 388) (by decide +kernel), List.mem_of_getElem? (i := 389) (by decide +kernel)⟩
theorem lw_p4 : lw_okq (⟨"LawNumberer", "placeOfNew", "(II)I"⟩, 15) := ⟨⟨by decide +kernel, by decide +kernel⟩, List.mem_of_getElem? (i := 24) (by decide +kernel), List.mem_of_getElem? (i := 396) (by decide +kernel), List.mem_of_getElem? (i := 397) (by decide +kernel)⟩
theorem lw_p5 : lw_okq (⟨"LawNumberer", "labelAhead", "(IIIZ)I"⟩, 15) := ⟨⟨by decide +kernel, by decide +kernel⟩, List.mem_of_getElem? (i := 24) (by decide +kernel), List.mem_of_getElem? (i := 413) (by decide +kernel), List.mem_of_getElem? (i := 414) (by decide +kernel)⟩
theorem lw_p6 : lw_okq (⟨"LawNumberer", "labelFrom", "(IIIZ)I"⟩, 15) := ⟨⟨by decide +kernel, by decide +kernel⟩, List.mem_of_getElem? (i := 24) (by decide +kernel), List.mem_of_getElem? (i := 426) (by decide +kernel), List.mem_of_getElem? (i := 427) (by decide +kernel)⟩
theorem lw_p7 : lw_okq (⟨"LawNumberer$History", "hasRoom", "()Z"⟩, 6) := ⟨⟨by decide +kernel, by decide +kernel⟩, List.mem_of_getElem? (i := 150) (by decide +kernel), List.mem_of_getElem? (i := 473) (by decide +kernel), List.mem_of_getElem? (i := 474) (by decide +kernel)⟩
theorem lw_p8 : lw_okq (⟨"LawNumberer$Acts", "latestSlot", "()I"⟩, 5) := ⟨⟨by decide +kernel, by decide +kernel⟩, List.mem_of_getElem? (i := 179) (by decide +kernel), List.mem_of_getElem? (i := 519) (by decide +kernel), List.mem_of_getElem? (i := 520) (by decide +kernel)⟩
theorem lw_p9 : lw_okq (⟨"LawNumberer", "readCitation", "()I"⟩, 15) := ⟨⟨by decide +kernel, by decide +kernel⟩, List.mem_of_getElem? (i := 24) (by decide +kernel), List.mem_of_getElem? (i := 590) (by decide +kernel), List.mem_of_getElem? (i := 591) (by decide +kernel)⟩
theorem lw_p10 : lw_okq (⟨"LawNumberer$LabelReader", "failAt", "(II)V"⟩, 5) := ⟨⟨by decide +kernel, by decide +kernel⟩, List.mem_of_getElem? (i := 87) (by decide +kernel), List.mem_of_getElem? (i := 608) (by decide +kernel), List.mem_of_getElem? (i := 609) (by decide +kernel)⟩
theorem lw_p11 : lw_okq (⟨"LawNumberer$LabelReader", "meant", "(LLawNumberer$Text;II)I"⟩, 5) := ⟨⟨by decide +kernel, by decide +kernel⟩, List.mem_of_getElem? (i := 87) (by decide +kernel), List.mem_of_getElem? (i := 625) (by decide +kernel), List.mem_of_getElem? (i := 626) (by decide +kernel)⟩
theorem lw_p12 : lw_okq (⟨"LawNumberer$LabelReader", "isAsWritten", "(LLawNumberer$Text;II)Z"⟩, 5) := ⟨⟨by decide +kernel, by decide +kernel⟩, List.mem_of_getElem? (i := 87) (by decide +kernel), List.mem_of_getElem? (i := 631) (by decide +kernel), List.mem_of_getElem? (i := 632) (by decide +kernel)⟩
theorem lw_p13 : lw_okq (⟨"LawNumberer", "bearsPath", "(II)Z"⟩, 15) := ⟨⟨by decide +kernel, by decide +kernel⟩, List.mem_of_getElem? (i := 24) (by decide +kernel), List.mem_of_getElem? (i := 641) (by decide +kernel), List.mem_of_getElem? (i := 642) (by decide +kernel)⟩
theorem lw_p14 : lw_okq (⟨"java/lang/Throwable", "fillInStackTrace", "(I)Ljava/lang/Throwable;"⟩, 6) := ⟨⟨by decide +kernel, by decide +kernel⟩, List.mem_of_getElem? (i := 721) (by decide +kernel), List.mem_of_getElem? (i := 719) (by decide +kernel), List.mem_of_getElem? (i := 720) (by decide +kernel)⟩
theorem lw_p15 : lw_okq (⟨"LawNumbererModel", "four", "(I)V"⟩, 42) := ⟨⟨by decide +kernel, by decide +kernel⟩, List.mem_of_getElem? (i := 764) (by decide +kernel), List.mem_of_getElem? (i := 906) (by decide +kernel), List.mem_of_getElem? (i := 907) (by decide +kernel)⟩
def lw_privs_1 : List (MethodName × Nat) := [(⟨"LawNumberer$LevelsReader", "takeSemicolon", "(I)V"⟩, 3), (⟨"LawNumberer$LevelsReader", "failAt", "(II)V"⟩, 3), (⟨"LawNumberer$LevelsReader", "takeWord", "(LLawNumberer$Levels;LLawNumberer$Text;II)V"⟩, 3), (⟨"LawNumberer", "isPlaceTold", "(II)Z"⟩, 15), (⟨"LawNumberer", "placeOfNew", "(II)I"⟩, 15), (⟨"LawNumberer", "labelAhead", "(IIIZ)I"⟩, 15), (⟨"LawNumberer", "labelFrom", "(IIIZ)I"⟩, 15), (⟨"LawNumberer$History", "hasRoom", "()Z"⟩, 6), (⟨"LawNumberer$Acts", "latestSlot", "()I"⟩, 5), (⟨"LawNumberer", "readCitation", "()I"⟩, 15), (⟨"LawNumberer$LabelReader", "failAt", "(II)V"⟩, 5), (⟨"LawNumberer$LabelReader", "meant", "(LLawNumberer$Text;II)I"⟩, 5), (⟨"LawNumberer$LabelReader", "isAsWritten", "(LLawNumberer$Text;II)Z"⟩, 5), (⟨"LawNumberer", "bearsPath", "(II)Z"⟩, 15), (⟨"java/lang/Throwable", "fillInStackTrace", "(I)Ljava/lang/Throwable;"⟩, 6), (⟨"LawNumbererModel", "four", "(I)V"⟩, 42)]
theorem lw_r1 : ∀ q ∈ lw_privs_1, lw_okq q := List.forall_mem_cons.mpr ⟨lw_p0, List.forall_mem_cons.mpr ⟨lw_p1, List.forall_mem_cons.mpr ⟨lw_p2, List.forall_mem_cons.mpr ⟨lw_p3, List.forall_mem_cons.mpr ⟨lw_p4, List.forall_mem_cons.mpr ⟨lw_p5, List.forall_mem_cons.mpr ⟨lw_p6, List.forall_mem_cons.mpr ⟨lw_p7, List.forall_mem_cons.mpr ⟨lw_p8, List.forall_mem_cons.mpr ⟨lw_p9, List.forall_mem_cons.mpr ⟨lw_p10, List.forall_mem_cons.mpr ⟨lw_p11, List.forall_mem_cons.mpr ⟨lw_p12, List.forall_mem_cons.mpr ⟨lw_p13, List.forall_mem_cons.mpr ⟨lw_p14, List.forall_mem_cons.mpr ⟨lw_p15, fun _ h => absurd h List.not_mem_nil⟩⟩⟩⟩⟩⟩⟩⟩⟩⟩⟩⟩⟩⟩⟩⟩
theorem lw_p16 : lw_okq (⟨"LawNumbererModel", "taken", "()V"⟩, 42) := ⟨⟨by decide +kernel, by decide +kernel⟩, List.mem_of_getElem? (i := 764) (by decide +kernel), List.mem_of_getElem? (i := 918) (by decide +kernel), List.mem_of_getElem? (i := 919) (by decide +kernel)⟩
theorem lw_p17 : lw_okq (⟨"LawNumbererModel", "readLevels", "()Z"⟩, 42) := ⟨⟨by decide +kernel, by decide +kernel⟩, List.mem_of_getElem? (i := 764) (by decide +kernel), List.mem_of_getElem? (i := 922) (by decide +kernel), List.mem_of_getElem? (i := 923) (by decide +kernel)⟩
theorem lw_p18 : lw_okq (⟨"LawNumbererModel", "next", "()V"⟩, 42) := ⟨⟨by decide +kernel, by decide +kernel⟩, List.mem_of_getElem? (i := 764) (by decide +kernel), List.mem_of_getElem? (i := 926) (by decide +kernel), List.mem_of_getElem? (i := 927) (by decide +kernel)⟩
theorem lw_p19 : lw_okq (⟨"LawNumbererModel", "peek", "()I"⟩, 42) := ⟨⟨by decide +kernel, by decide +kernel⟩, List.mem_of_getElem? (i := 764) (by decide +kernel), List.mem_of_getElem? (i := 930) (by decide +kernel), List.mem_of_getElem? (i := 931) (by decide +kernel)⟩
theorem lw_p20 : lw_okq (⟨"LawNumbererModel", "formOf", "()I"⟩, 42) := ⟨⟨by decide +kernel, by decide +kernel⟩, List.mem_of_getElem? (i := 764) (by decide +kernel), List.mem_of_getElem? (i := 939) (by decide +kernel), List.mem_of_getElem? (i := 940) (by decide +kernel)⟩
theorem lw_p21 : lw_okq (⟨"LawNumbererModel", "cant", "()Z"⟩, 42) := ⟨⟨by decide +kernel, by decide +kernel⟩, List.mem_of_getElem? (i := 764) (by decide +kernel), List.mem_of_getElem? (i := 947) (by decide +kernel), List.mem_of_getElem? (i := 948) (by decide +kernel)⟩
theorem lw_p22 : lw_okq (⟨"LawNumbererModel", "wrong", "(II)Z"⟩, 42) := ⟨⟨by decide +kernel, by decide +kernel⟩, List.mem_of_getElem? (i := 764) (by decide +kernel), List.mem_of_getElem? (i := 951) (by decide +kernel), List.mem_of_getElem? (i := 952) (by decide +kernel)⟩
theorem lw_p23 : lw_okq (⟨"LawNumbererModel", "isItem", "(I)Z"⟩, 42) := ⟨⟨by decide +kernel, by decide +kernel⟩, List.mem_of_getElem? (i := 764) (by decide +kernel), List.mem_of_getElem? (i := 968) (by decide +kernel), List.mem_of_getElem? (i := 969) (by decide +kernel)⟩
theorem lw_p24 : lw_okq (⟨"LawNumbererModel", "placeOf", "(I)I"⟩, 42) := ⟨⟨by decide +kernel, by decide +kernel⟩, List.mem_of_getElem? (i := 764) (by decide +kernel), List.mem_of_getElem? (i := 972) (by decide +kernel), List.mem_of_getElem? (i := 973) (by decide +kernel)⟩
theorem lw_p25 : lw_okq (⟨"LawNumbererModel", "isUnder", "(II)Z"⟩, 42) := ⟨⟨by decide +kernel, by decide +kernel⟩, List.mem_of_getElem? (i := 764) (by decide +kernel), List.mem_of_getElem? (i := 976) (by decide +kernel), List.mem_of_getElem? (i := 977) (by decide +kernel)⟩
theorem lw_p26 : lw_okq (⟨"LawNumbererModel", "isInRow", "(II)Z"⟩, 42) := ⟨⟨by decide +kernel, by decide +kernel⟩, List.mem_of_getElem? (i := 764) (by decide +kernel), List.mem_of_getElem? (i := 980) (by decide +kernel), List.mem_of_getElem? (i := 981) (by decide +kernel)⟩
theorem lw_p27 : lw_okq (⟨"LawNumbererModel", "labelOf", "(II)I"⟩, 42) := ⟨⟨by decide +kernel, by decide +kernel⟩, List.mem_of_getElem? (i := 764) (by decide +kernel), List.mem_of_getElem? (i := 984) (by decide +kernel), List.mem_of_getElem? (i := 985) (by decide +kernel)⟩
theorem lw_p28 : lw_okq (⟨"LawNumbererModel", "least", "(II)I"⟩, 42) := ⟨⟨by decide +kernel, by decide +kernel⟩, List.mem_of_getElem? (i := 764) (by decide +kernel), List.mem_of_getElem? (i := 989) (by decide +kernel), List.mem_of_getElem? (i := 990) (by decide +kernel)⟩
theorem lw_p29 : lw_okq (⟨"LawNumbererModel", "suffixInHand", "()I"⟩, 42) := ⟨⟨by decide +kernel, by decide +kernel⟩, List.mem_of_getElem? (i := 764) (by decide +kernel), List.mem_of_getElem? (i := 999) (by decide +kernel), List.mem_of_getElem? (i := 1000) (by decide +kernel)⟩
theorem lw_p30 : lw_okq (⟨"LawNumbererModel", "act", "(II)V"⟩, 42) := ⟨⟨by decide +kernel, by decide +kernel⟩, List.mem_of_getElem? (i := 764) (by decide +kernel), List.mem_of_getElem? (i := 1003) (by decide +kernel), List.mem_of_getElem? (i := 1004) (by decide +kernel)⟩
theorem lw_p31 : lw_okq (⟨"LawNumbererModel", "change", "(II)V"⟩, 42) := ⟨⟨by decide +kernel, by decide +kernel⟩, List.mem_of_getElem? (i := 764) (by decide +kernel), List.mem_of_getElem? (i := 1007) (by decide +kernel), List.mem_of_getElem? (i := 1008) (by decide +kernel)⟩
def lw_privs_2 : List (MethodName × Nat) := [(⟨"LawNumbererModel", "taken", "()V"⟩, 42), (⟨"LawNumbererModel", "readLevels", "()Z"⟩, 42), (⟨"LawNumbererModel", "next", "()V"⟩, 42), (⟨"LawNumbererModel", "peek", "()I"⟩, 42), (⟨"LawNumbererModel", "formOf", "()I"⟩, 42), (⟨"LawNumbererModel", "cant", "()Z"⟩, 42), (⟨"LawNumbererModel", "wrong", "(II)Z"⟩, 42), (⟨"LawNumbererModel", "isItem", "(I)Z"⟩, 42), (⟨"LawNumbererModel", "placeOf", "(I)I"⟩, 42), (⟨"LawNumbererModel", "isUnder", "(II)Z"⟩, 42), (⟨"LawNumbererModel", "isInRow", "(II)Z"⟩, 42), (⟨"LawNumbererModel", "labelOf", "(II)I"⟩, 42), (⟨"LawNumbererModel", "least", "(II)I"⟩, 42), (⟨"LawNumbererModel", "suffixInHand", "()I"⟩, 42), (⟨"LawNumbererModel", "act", "(II)V"⟩, 42), (⟨"LawNumbererModel", "change", "(II)V"⟩, 42)]
theorem lw_r2 : ∀ q ∈ lw_privs_2, lw_okq q := List.forall_mem_cons.mpr ⟨lw_p16, List.forall_mem_cons.mpr ⟨lw_p17, List.forall_mem_cons.mpr ⟨lw_p18, List.forall_mem_cons.mpr ⟨lw_p19, List.forall_mem_cons.mpr ⟨lw_p20, List.forall_mem_cons.mpr ⟨lw_p21, List.forall_mem_cons.mpr ⟨lw_p22, List.forall_mem_cons.mpr ⟨lw_p23, List.forall_mem_cons.mpr ⟨lw_p24, List.forall_mem_cons.mpr ⟨lw_p25, List.forall_mem_cons.mpr ⟨lw_p26, List.forall_mem_cons.mpr ⟨lw_p27, List.forall_mem_cons.mpr ⟨lw_p28, List.forall_mem_cons.mpr ⟨lw_p29, List.forall_mem_cons.mpr ⟨lw_p30, List.forall_mem_cons.mpr ⟨lw_p31, fun _ h => absurd h List.not_mem_nil⟩⟩⟩⟩⟩⟩⟩⟩⟩⟩⟩⟩⟩⟩⟩⟩
theorem lw_p32 : lw_okq (⟨"LawNumbererModel", "throwsIf", "(Z)Z"⟩, 42) := ⟨⟨by decide +kernel, by decide +kernel⟩, List.mem_of_getElem? (i := 764) (by decide +kernel), List.mem_of_getElem? (i := 1038) (by decide +kernel), List.mem_of_getElem? (i := 1039) (by decide +kernel)⟩
theorem lw_p33 : lw_okq (⟨"LawNumbererModel", "write", "(II)V"⟩, 42) := ⟨⟨by decide +kernel, by decide +kernel⟩, List.mem_of_getElem? (i := 764) (by decide +kernel), List.mem_of_getElem? (i := 1046) (by decide +kernel), List.mem_of_getElem? (i := 1047) (by decide +kernel)⟩
theorem lw_p34 : lw_okq (⟨"LawNumbererModel", "decimal", "(I)V"⟩, 42) := ⟨⟨by decide +kernel, by decide +kernel⟩, List.mem_of_getElem? (i := 764) (by decide +kernel), List.mem_of_getElem? (i := 1050) (by decide +kernel), List.mem_of_getElem? (i := 1051) (by decide +kernel)⟩
theorem lw_p35 : lw_okq (⟨"LawNumbererModel", "put", "(I)V"⟩, 42) := ⟨⟨by decide +kernel, by decide +kernel⟩, List.mem_of_getElem? (i := 764) (by decide +kernel), List.mem_of_getElem? (i := 1054) (by decide +kernel), List.mem_of_getElem? (i := 1055) (by decide +kernel)⟩
theorem lw_p36 : lw_okq (⟨"LawNumbererModel", "letters", "(I)V"⟩, 42) := ⟨⟨by decide +kernel, by decide +kernel⟩, List.mem_of_getElem? (i := 764) (by decide +kernel), List.mem_of_getElem? (i := 1058) (by decide +kernel), List.mem_of_getElem? (i := 1059) (by decide +kernel)⟩
theorem lw_p37 : lw_okq (⟨"LawNumbererModel", "roman", "(II)V"⟩, 42) := ⟨⟨by decide +kernel, by decide +kernel⟩, List.mem_of_getElem? (i := 764) (by decide +kernel), List.mem_of_getElem? (i := 1062) (by decide +kernel), List.mem_of_getElem? (i := 1063) (by decide +kernel)⟩
theorem lw_p38 : lw_okq (⟨"LawNumbererModel", "over", "(II)I"⟩, 42) := ⟨⟨by decide +kernel, by decide +kernel⟩, List.mem_of_getElem? (i := 764) (by decide +kernel), List.mem_of_getElem? (i := 1073) (by decide +kernel), List.mem_of_getElem? (i := 1074) (by decide +kernel)⟩
theorem lw_p39 : lw_okq (⟨"LawNumbererModel", "readCitation", "()I"⟩, 42) := ⟨⟨by decide +kernel, by decide +kernel⟩, List.mem_of_getElem? (i := 764) (by decide +kernel), List.mem_of_getElem? (i := 1085) (by decide +kernel), List.mem_of_getElem? (i := 1086) (by decide +kernel)⟩
theorem lw_p40 : lw_okq (⟨"LawNumbererModel", "readLabel", "(I)Z"⟩, 42) := ⟨⟨by decide +kernel, by decide +kernel⟩, List.mem_of_getElem? (i := 764) (by decide +kernel), List.mem_of_getElem? (i := 1089) (by decide +kernel), List.mem_of_getElem? (i := 1090) (by decide +kernel)⟩
theorem lw_p41 : lw_okq (⟨"LawNumbererModel", "breaks", "(II)Z"⟩, 42) := ⟨⟨by decide +kernel, by decide +kernel⟩, List.mem_of_getElem? (i := 764) (by decide +kernel), List.mem_of_getElem? (i := 1099) (by decide +kernel), List.mem_of_getElem? (i := 1100) (by decide +kernel)⟩
theorem lw_p42 : lw_okq (⟨"LawNumbererModel", "isWritten", "(II)Z"⟩, 42) := ⟨⟨by decide +kernel, by decide +kernel⟩, List.mem_of_getElem? (i := 764) (by decide +kernel), List.mem_of_getElem? (i := 1107) (by decide +kernel), List.mem_of_getElem? (i := 1108) (by decide +kernel)⟩
def lw_privs_3 : List (MethodName × Nat) := [(⟨"LawNumbererModel", "throwsIf", "(Z)Z"⟩, 42), (⟨"LawNumbererModel", "write", "(II)V"⟩, 42), (⟨"LawNumbererModel", "decimal", "(I)V"⟩, 42), (⟨"LawNumbererModel", "put", "(I)V"⟩, 42), (⟨"LawNumbererModel", "letters", "(I)V"⟩, 42), (⟨"LawNumbererModel", "roman", "(II)V"⟩, 42), (⟨"LawNumbererModel", "over", "(II)I"⟩, 42), (⟨"LawNumbererModel", "readCitation", "()I"⟩, 42), (⟨"LawNumbererModel", "readLabel", "(I)Z"⟩, 42), (⟨"LawNumbererModel", "breaks", "(II)Z"⟩, 42), (⟨"LawNumbererModel", "isWritten", "(II)Z"⟩, 42)]
theorem lw_r3 : ∀ q ∈ lw_privs_3, lw_okq q := List.forall_mem_cons.mpr ⟨lw_p32, List.forall_mem_cons.mpr ⟨lw_p33, List.forall_mem_cons.mpr ⟨lw_p34, List.forall_mem_cons.mpr ⟨lw_p35, List.forall_mem_cons.mpr ⟨lw_p36, List.forall_mem_cons.mpr ⟨lw_p37, List.forall_mem_cons.mpr ⟨lw_p38, List.forall_mem_cons.mpr ⟨lw_p39, List.forall_mem_cons.mpr ⟨lw_p40, List.forall_mem_cons.mpr ⟨lw_p41, List.forall_mem_cons.mpr ⟨lw_p42, fun _ h => absurd h List.not_mem_nil⟩⟩⟩⟩⟩⟩⟩⟩⟩⟩⟩
def lw_privs : List (MethodName × Nat) := lw_privs_1 ++ (lw_privs_2 ++ (lw_privs_3))
def lw_tbl : List Cond := k2_sels lw_privs ++ tables_1
theorem lw_privs_ok : ∀ q ∈ lw_privs, lw_okq q := by
  show ∀ q ∈ lw_privs_1 ++ (lw_privs_2 ++ (lw_privs_3)), lw_okq q
  exact List.forall_mem_append.mpr ⟨lw_r1, List.forall_mem_append.mpr ⟨lw_r2, lw_r3⟩⟩
/-! ===== BEGIN words of one list among another's, by their places ===== -/
theorem goodIn_r {big : List Cond} (ws : List Cond) (ps : List Nat) (hp : ws = ps.filterMap (fun i => big[i]?)) (h : ws.all goodWord = true) : GoodIn big ws := by
  intro w hw
  have h1 := List.all_eq_true.mp h w hw
  rw [hp] at hw
  obtain ⟨i, -, hi⟩ := List.mem_filterMap.mp hw
  have hm : w ∈ big := by first | exact List.mem_of_getElem? hi | exact List.getElem?_mem hi
  exact ⟨hm, good_of_word h1⟩
theorem goodIn_app {big a b : List Cond} (ha : GoodIn big a) (hb : GoodIn big b) : GoodIn big (a ++ b) := fun w h => (List.mem_append.mp h).elim (ha w) (hb w)
theorem goodIn_ca {big a b : List Cond} {c : Cond} (ha : GoodIn big (c :: a)) (hb : GoodIn big b) : GoodIn big (c :: (a ++ b)) := fun w h => (List.mem_cons.mp h).elim (fun e => ha w (List.mem_cons.mpr (Or.inl e))) (fun h => (List.mem_append.mp h).elim (fun h => ha w (List.mem_cons.mpr (Or.inr h))) (hb w))
theorem goodIn_sub {big ws : List Cond} (hm : ∀ w ∈ ws, w ∈ big) (h : ws.all goodWord = true) : GoodIn big ws := fun w hw => ⟨hm w hw, good_of_word (List.all_eq_true.mp h w hw)⟩
/-! ===== END ===== -/

/-! ===== BEGIN exceptions that leave a method, and their catching by the caller (launches without stack traces) ===== -/
section VXA
/-! The laws vx_back, vx_callV, vx_callS, vx_callSW, vx_throw0, vx_throwS follow proofs of the library, with one case more: JvmDerived/Free/Laws.lean (Back.of_free), Shelf42/LK1.lean (callV, callS), Shelf/KitTraced.lean (throwNew0V, throwNewS). -/
/-- where a method has thrown q: the class by its name, the cell, what was written, the world -/
def vx_T (XC : String → State → State → Prop) (st : State) (q : Addr) (t : State) (mc ms : Nat) (free : Addr → Prop) : Prop :=
  ∃ (E : String) (ce : Cell) (L : List Loc), XC E st t ∧ t.heap[q]? = some ce ∧ ce.vm = .none ∧ st.vm.findClass E = some ce.cls ∧ st.WarmedH t.vm ∧ st.sameButNew ({ t with vm := st.vm } : State) L mc ms ∧ ∀ z ∈ L, free z.base
def vx_Q (Qc : Array Value → State → Outcome → State → Prop) (XC : String → State → State → Prop) (mc ms : Nat) (free : Addr → Prop) : Array Value → State → Outcome → State → Prop := fun a st o t =>
  (Qc a st o t ∧ ∃ L, FrameEnd st o t L mc ms ∧ ∀ q ∈ L, free q.base) ∨ ∃ q, o = .threw q ∧ vx_T XC st q t mc ms free
/-- a callee that returns or throws -/
def vx_Met (l : Launch) (y : MethodName) (ws : List Cond) (rm : Room) (Pc : Array Value → State → Prop) (Qc : Array Value → State → Outcome → State → Prop) (XC : String → State → State → Prop) (mc ms : Nat) (free : Addr → Prop) : Prop :=
  MetFree l y (headSpec ws rm) Pc (fun _ _ _ _ _ => True) (vx_Q Qc XC mc ms free)
def vx_Post (XC : String → State → State → Prop) (mc ms : Nat) (free : Addr → Prop) : Pt → Array Value → Addr → Pt → Prop := fun A a q B =>
  ∃ (g : JFrame) (mk : MethodId) (t : State) (L : List Loc) (E : String) (ce : Cell), B.U.heap = t.heap ∧ B.U.vm = t.vm ∧ XC E (A.U.calling g mk a) t ∧ t.heap[q]? = some ce ∧ ce.vm = .none ∧ A.U.vm.findClass E = some ce.cls ∧ B.locs = A.locs ++ L ∧ (∀ z ∈ L, free z.base) ∧ B.cells = A.cells + mc ∧ B.slots = A.slots + ms
def vx_Back (l : Launch) (R : Room) (p : Program) (e : Env) (below : List Frame) (s : State) (sargs : Array Value) (y : MethodName) (len W9 : Nat)
    (Pre : Pt → Array Value → Prop) (Post : Pt → Array Value → Option Value → Pt → Prop) (PostX : Pt → Array Value → Addr → Pt → Prop) : Prop :=
  ∀ (m : MethodId) (meth : Method) (c : Code) (A : Pt) (g : JFrame) (ig : Instr) (mk : MethodId) (a : Array Value),
    Stand p l e R s m sargs below meth c A.U A.locs A.cells A.slots → g.method = m → g.locals.size = c.maxLocals → decode c.code g.pc = .ok (ig, len) →
    2 * g.monitorRoom + (g.stack.map fun v => v.category).sum ≤ W9 → A.U.methodNamed? y = some mk → Pre A a →
    (∃ (v : Option Value) (B : Pt), Stand p l e R s m sargs below meth c B.U B.locs B.cells B.slots ∧ Post A a v B ∧
      Steps p.tables e below (doInvoke e (A.U.setTop g) [] mk a).1 (B.U.setTop { g with pc := g.pc + len, stack := v.toList ++ g.stack })) ∨
    (∃ (q : Addr) (B : Pt), Stand p l e R s m sargs below meth c B.U B.locs B.cells B.slots ∧ PostX A a q B ∧
      Steps p.tables e below (doInvoke e (A.U.setTop g) [] mk a).1 ((B.U.setTop g).pushFrame (.throwing q)))
section Payer
variable {l : Launch} {R : Room} {p : Program} {e : Env} {below : List Frame} {s : State} {sargs : Array Value} {y : MethodName} {len W9 : Nat}
theorem vx_back {ws : List Cond} {rm : Room} {Pc : Array Value → State → Prop} {Qc : Array Value → State → Outcome → State → Prop} {XC : String → State → State → Prop} {mc ms : Nat} {free : Addr → Prop} {bytes : ByteArray} {maxL : Nat} {ret : Option FieldType}
    (hM : vx_Met l y ws rm Pc Qc XC mc ms free) (hblind : FrameBlind Pc) (hrc : rm.cells = mc) (hrs : rm.slots = ms)
    (hframes : rm.frames + 1 ≤ R.frames) (hlocals : W9 + (maxL + 11) + rm.locals ≤ R.locals)
    (hws : ∀ w ∈ ws, ∀ a' U, s.WarmedH U.vm → w.before a' U = true) (hcode : Cond.code y bytes maxL ret ∈ ws) (hinit : ∀ a' U, s.WarmedH U.vm → (Cond.initialized y.cls).before a' U = true) :
    vx_Back l R p e below s sargs y len W9 (PreOf R mc ms Pc) (PostOf Qc mc ms free) (vx_Post XC mc ms free) := by
  intro m meth c A g ig mk a X hg hsize hdg hW hn hp
  have h1 : (headSpec ws rm).pre.before a A.U = true := atoms_intro fun w hw => hws w hw _ _ X.warmed
  have h2 : (Cond.code y bytes maxL ret).before a A.U = true := hws _ hcode _ _ X.warmed
  have h3 : (Cond.initialized y.cls).before a A.U = true := hinit _ _ X.warmed
  have h4 : A.cells + (headSpec ws rm).room.cells ≤ R.cells := by rw [show (headSpec ws rm).room.cells = mc from hrc]; exact hp.1
  have h5 : A.slots + (headSpec ws rm).room.slots ≤ R.slots := by rw [show (headSpec ws rm).room.slots = ms from hrs]; exact hp.2.1
  have hPc : Pc a (A.U.calling g mk a) := hblind _ _ _ _ hp.2.2
  obtain ⟨U, Ls, c0, s0⟩ := A
  dsimp only [Pt.U, Pt.locs, Pt.cells, Pt.slots] at h1 h2 h3 h4 h5 X hn hPc ⊢
  obtain ⟨methY, cY, hmY, hcY, -, hlY, -, -, -, -⟩ := Cond.code_spec hn h2
  obtain ⟨kY, hkY, -⟩ := className_of_methodNamed hn
  have hinitY : kY.init = .initialized := Cond.initialized_spec (findClass_of_methodNamed hn) hkY h3
  have h : At U g.method c below := by rw [hg]; exact X.here
  have hlocals9 : W9 + (maxL + 11) + (headSpec ws rm).room.locals ≤ R.locals := hlocals
  have happ : (headSpec ws rm).appliesLoose y e.platform (U.calling g mk a) = true :=
    Spec.appliesLoose_calling (g := g) h hdg hn hkY hinitY
      (X.room_calling (g := g) (R' := (headSpec ws rm).room) hsize hmY hcY hframes (by rw [hlY]; omega) h4 h5) h1
  obtain ⟨mid, hmid⟩ := h.above
  have hfr : (U.setTop g).frames = (.java g :: mid) ++ below := by rw [State.frames_setTop' g h.top, hmid]; rfl
  obtain ⟨o, s₂, hsteps, -, hend, hq⟩ := Steps.callFree hM p X.admits X.cas X.clock (acts := []) hfr happ hPc trivial
  have hq' : vx_Q Qc XC mc ms free a (U.calling g mk a) o s₂ := hq
  rw [State.frames_setTop' g h.top] at hend
  obtain ⟨g₀, hg0⟩ := Option.isSome_iff_exists.mp h.top
  obtain ⟨r, hr⟩ := State.topJava?_eq_some.mp hg0
  have hr' : (({ U with heap := s₂.heap, slotsUsed := s₂.slotsUsed } : State).setVm s₂.vm).frames = .java g₀ :: r := hr
  rcases hq' with ⟨hqc, L, hfe, hL⟩ | ⟨q, rfl, E, ce, L, hx, hce, hcv, hcl, hW₂, hsm, hL⟩
  · obtain ⟨⟨v, rfl⟩, hW₂, e2, q2, q3, q4, q5, q6⟩ := id hfe
    have e3 : s₂ = ({ (U.calling g mk a).setFrames s₂.frames with heap := s₂.heap, slotsUsed := s₂.slotsUsed } : State).setVm s₂.vm := by
      have : s₂ = ({ s₂ with vm := (U.calling g mk a).vm } : State).setVm s₂.vm := rfl
      rw [e2] at this
      exact this
    obtain ⟨c₂, i₂, len₂, hc₂, hd₂, hf₂⟩ := hend
    have hW' : U.WarmedH s₂.vm := hW₂
    have hcc : c₂ = c := by
      have h1 : s₂.code? g.method = U.code? g.method := by
        rw [State.code?_eq, State.code?_eq, hW'.alike.method?]
      exact Option.some.inj (hc₂.symm.trans (h1.trans h.code))
    subst hcc
    have hlen : len₂ = len := by rw [hdg] at hd₂; cases hd₂; rfl
    subst hlen
    have hs₂ : s₂ = (({ U with heap := s₂.heap, slotsUsed := s₂.slotsUsed } : State).setVm s₂.vm).setTop { g with pc := g.pc + len₂, stack := v.toList ++ g.stack } := by
      refine e3.trans ?_
      rw [hf₂, State.calling_eq h.top, State.setFrames_setFrames, State.setTop_of_frames _ hr', hr]
      rfl
    have hsame : U.sameButNew ({ U with heap := s₂.heap, slotsUsed := s₂.slotsUsed } : State) L mc ms := by
      refine ⟨?_, q2, q3, q4, q5, q6⟩
      obtain ⟨t, ht, -⟩ := State.frames_cons hr
      show ({ U with heap := s₂.heap, slotsUsed := s₂.slotsUsed } : State) = { U.setFrames U.frames with heap := s₂.heap, slotsUsed := s₂.slotsUsed }
      rw [State.setFrames_self ht]
    subst hg
    refine Or.inl ⟨v, ⟨(({ U with heap := s₂.heap, slotsUsed := s₂.slotsUsed } : State).setVm s₂.vm), Ls ++ L, c0 + mc, s0 + ms⟩,
      ⟨X.admits, X.cas, X.clock, X.frames, X.room, X.hears, X.method, X.code, (X.here.setHeapUsed s₂.heap s₂.slotsUsed).setVm hW'.alike, X.tail, State.WarmedH.trans X.warmed hW', X.limits, X.bytes, X.same.trans (hsame.setVm s.vm)⟩,
      ⟨g, mk, s₂, L, rfl, rfl, hqc, rfl, hL, rfl, rfl⟩, ?_⟩
    show Steps p.tables e below _ ((({ U with heap := s₂.heap, slotsUsed := s₂.slotsUsed } : State).setVm s₂.vm).setTop { g with pc := g.pc + len₂, stack := v.toList ++ g.stack })
    rw [← hs₂]
    exact hsteps
  · obtain ⟨e2, q2, q3, q4, q5, q6⟩ := id hsm
    have e3 : s₂ = ({ (U.calling g mk a).setFrames s₂.frames with heap := s₂.heap, slotsUsed := s₂.slotsUsed } : State).setVm s₂.vm := by
      have : s₂ = ({ s₂ with vm := (U.calling g mk a).vm } : State).setVm s₂.vm := rfl
      rw [e2] at this
      exact this
    have hf₂ : s₂.frames = .throwing q :: .java g :: U.frames.tail := hend
    have hW' : U.WarmedH s₂.vm := hW₂
    have hs₂ : s₂ = ((({ U with heap := s₂.heap, slotsUsed := s₂.slotsUsed } : State).setVm s₂.vm).setTop g).pushFrame (.throwing q) := by
      refine e3.trans ?_
      rw [hf₂, State.calling_eq h.top, State.setFrames_setFrames, State.pushFrame, State.frames_setTop _ hr', State.setTop_of_frames _ hr', State.setFrames_setFrames, hr]
      rfl
    have hsame : U.sameButNew ({ U with heap := s₂.heap, slotsUsed := s₂.slotsUsed } : State) L mc ms := by
      refine ⟨?_, q2, q3, q4, q5, q6⟩
      obtain ⟨t, ht, -⟩ := State.frames_cons hr
      show ({ U with heap := s₂.heap, slotsUsed := s₂.slotsUsed } : State) = { U.setFrames U.frames with heap := s₂.heap, slotsUsed := s₂.slotsUsed }
      rw [State.setFrames_self ht]
    subst hg
    refine Or.inr ⟨q, ⟨(({ U with heap := s₂.heap, slotsUsed := s₂.slotsUsed } : State).setVm s₂.vm), Ls ++ L, c0 + mc, s0 + ms⟩,
      ⟨X.admits, X.cas, X.clock, X.frames, X.room, X.hears, X.method, X.code, (X.here.setHeapUsed s₂.heap s₂.slotsUsed).setVm hW'.alike, X.tail, State.WarmedH.trans X.warmed hW', X.limits, X.bytes, X.same.trans (hsame.setVm s.vm)⟩,
      ⟨g, mk, s₂, L, E, ce, rfl, rfl, hx, hce, hcv, hcl, rfl, hL, rfl, rfl⟩, ?_⟩
    show Steps p.tables e below _ (((({ U with heap := s₂.heap, slotsUsed := s₂.slotsUsed } : State).setVm s₂.vm).setTop g).pushFrame (.throwing q))
    rw [← hs₂]
    exact hsteps
end Payer
section Calls
variable {p : Program} {l : Launch} {e : Env} {R : Room} {s : State} {m : MethodId} {args : Array Value} {below : List Frame} {meth : Method} {c : Code} {T : State} {locs : List Loc} {cells slots : Nat}
theorem vx_callV (X : Stand p l e R s m args below meth c T locs cells slots) (hexec : p.tables.exec = Jvm.exec) {own C : String} {index : Nat} {y : MethodName} {bytes : ByteArray} {maxL : Nat} {ret : Option FieldType}
    (hown : s.vm.findClass own = some m.cls) (hlink : (Cond.methodLink own index y).before args s = true) (hinst : (Cond.instanceMethod y).before args s = true) (hsel : (Cond.selects C y y).before args s = true)
    (hcode : (Cond.code y bytes maxL ret).before args s = true) (hy : y.cls ≠ "java/lang/invoke/MethodHandle" ∧ y.cls ≠ "java/lang/invoke/VarHandle")
    {W9 : Nat} {Pre : Pt → Array Value → Prop} {Post : Pt → Array Value → Option Value → Pt → Prop} {PostX : Pt → Array Value → Addr → Pt → Prop} (hK : vx_Back l R p e below s args y 3 W9 Pre Post PostX)
    {b : Addr} {cellB : Cell} (hcell : T.heap[b]? = some cellB) (hobj : cellB.vm.isStatics = false) (hcls : s.vm.findClass C = some cellB.cls)
    {g : JFrame} (hg : g.method = m) (hsize : g.locals.size = c.maxLocals) {argsL rest : List Value} (hlen : ∀ sig, parseMethodDescriptor y.desc = some sig → argsL.length = sig.parameters.length)
    (hstack : g.stack = argsL.reverse ++ .ref b :: rest) (hW : 2 * g.monitorRoom + (rest.map fun v => v.category).sum ≤ W9) (hdg : decode c.code g.pc = .ok (.invokevirtual index, 3))
    (hpre : ∀ vm₁, s.WarmedH vm₁ → Pre ⟨T.setVm vm₁, locs, cells, slots⟩ (Value.ref b :: argsL).toArray) :
    (∃ (v : Option Value) (vm₁ : Vm) (B : Pt), s.WarmedH vm₁ ∧ Stand p l e R s m args below meth c B.U B.locs B.cells B.slots ∧ Post ⟨T.setVm vm₁, locs, cells, slots⟩ (Value.ref b :: argsL).toArray v B ∧
      ∀ target, Steps p.tables e below (B.U.setTop { g with pc := g.pc + 3, stack := v.toList ++ rest }) target → Steps p.tables e below (T.setTop g) target) ∨
    (∃ (q : Addr) (vm₁ : Vm) (B : Pt), s.WarmedH vm₁ ∧ Stand p l e R s m args below meth c B.U B.locs B.cells B.slots ∧ PostX ⟨T.setVm vm₁, locs, cells, slots⟩ (Value.ref b :: argsL).toArray q B ∧
      Steps p.tables e below (T.setTop g) ((B.U.setTop { g with stack := rest }).pushFrame (.throwing q))) := by
  obtain ⟨mk, methM, hnamed, hmethM, hstM, habM⟩ := Cond.instanceMethod_spec hinst
  obtain ⟨methM', cM, hmethM', -, -, -, -, -, -, hsigM⟩ := Cond.code_spec hnamed hcode
  cases hmethM.symm.trans hmethM'
  obtain ⟨c2, r2, m2, q1, q2, q3, q4, kP, hkP, hkPi⟩ := Cond.selects_spec hsel
  cases hcls.symm.trans q1
  cases (State.methodFound?_of_named hnamed hy).symm.trans q2
  cases hnamed.symm.trans q3
  have hselP : selectMethod e.platform s.vm cellB.cls mk = .method mk := by rw [Launch.admits_selectMethod X.admits]; exact q4
  obtain ⟨vm₁, X₁, hstep₁⟩ := X.invokevirtual hexec hown hlink hnamed hmethM hstM hkP hkPi hy (a := b) (cell := cellB) hcell
    (fun z h => by rw [h] at hobj; cases hobj) hselP hmethM habM hkP hkPi (g := g) hg (argsL := argsL) (rest := rest) (hlen _ hsigM) hstack hdg
  rcases hK m meth c ⟨T.setVm vm₁, locs, cells, slots⟩ { g with stack := rest } (.invokevirtual index) mk (Value.ref b :: argsL).toArray X₁ hg hsize hdg hW (X₁.named hnamed) (hpre vm₁ X₁.warmed) with ⟨v, B, X', hpost, hsteps⟩ | ⟨q, B, X', hpost, hsteps⟩
  · exact Or.inl ⟨v, vm₁, B, X₁.warmed, X', hpost, fun target h => hstep₁ _ fun acts => by rw [doInvoke_state]; exact hsteps.trans h⟩
  · exact Or.inr ⟨q, vm₁, B, X₁.warmed, X', hpost, hstep₁ _ fun acts => by rw [doInvoke_state]; exact hsteps⟩
theorem vx_callS (X : Stand p l e R s m args below meth c T locs cells slots) (hexec : p.tables.exec = Jvm.exec) {own : String} {index : Nat} {y : MethodName} {bytes : ByteArray} {maxL : Nat} {ret : Option FieldType}
    (hown : s.vm.findClass own = some m.cls) (hlink : (Cond.methodLink own index y).before args s = true) (hstat : (Cond.static y).before args s = true) (hinit : (Cond.initialized y.cls).before args s = true)
    (hcode : (Cond.code y bytes maxL ret).before args s = true) (hy : y.cls ≠ "java/lang/invoke/MethodHandle" ∧ y.cls ≠ "java/lang/invoke/VarHandle")
    {W9 : Nat} {Pre : Pt → Array Value → Prop} {Post : Pt → Array Value → Option Value → Pt → Prop} {PostX : Pt → Array Value → Addr → Pt → Prop} (hK : vx_Back l R p e below s args y 3 W9 Pre Post PostX)
    {g : JFrame} (hg : g.method = m) (hsize : g.locals.size = c.maxLocals) {argsL rest : List Value} (hlen : ∀ sig, parseMethodDescriptor y.desc = some sig → argsL.length = sig.parameters.length)
    (hstack : g.stack = argsL.reverse ++ rest) (hW : 2 * g.monitorRoom + (rest.map fun v => v.category).sum ≤ W9) (hdg : decode c.code g.pc = .ok (.invokestatic index, 3))
    (hpre : ∀ vm₁, s.WarmedH vm₁ → Pre ⟨T.setVm vm₁, locs, cells, slots⟩ argsL.toArray) :
    (∃ (v : Option Value) (vm₁ : Vm) (B : Pt), s.WarmedH vm₁ ∧ Stand p l e R s m args below meth c B.U B.locs B.cells B.slots ∧ Post ⟨T.setVm vm₁, locs, cells, slots⟩ argsL.toArray v B ∧
      ∀ target, Steps p.tables e below (B.U.setTop { g with pc := g.pc + 3, stack := v.toList ++ rest }) target → Steps p.tables e below (T.setTop g) target) ∨
    (∃ (q : Addr) (vm₁ : Vm) (B : Pt), s.WarmedH vm₁ ∧ Stand p l e R s m args below meth c B.U B.locs B.cells B.slots ∧ PostX ⟨T.setVm vm₁, locs, cells, slots⟩ argsL.toArray q B ∧
      Steps p.tables e below (T.setTop g) ((B.U.setTop { g with stack := rest }).pushFrame (.throwing q))) := by
  obtain ⟨mk, hnamed⟩ := Cond.code_named hcode
  obtain ⟨methM, cM, hmethM, -, -, -, -, -, -, hsigM⟩ := Cond.code_spec hnamed hcode
  have hstatic : methM.isStatic = true := Cond.static_spec hnamed hmethM hstat
  obtain ⟨kP, hkP, -⟩ := className_of_methodNamed hnamed
  have hinitP : kP.init = .initialized := Cond.initialized_spec (findClass_of_methodNamed hnamed) hkP hinit
  obtain ⟨vm₁, X₁, hstep₁⟩ := X.invokestatic hexec hown hlink hnamed hmethM hstatic hkP hinitP hy (g := g) hg (argsL := argsL) (rest := rest) (hlen _ hsigM) hstack hdg
  rcases hK m meth c ⟨T.setVm vm₁, locs, cells, slots⟩ { g with stack := rest } (.invokestatic index) mk argsL.toArray X₁ hg hsize hdg hW (X₁.named hnamed) (hpre vm₁ X₁.warmed) with ⟨v, B, X', hpost, hsteps⟩ | ⟨q, B, X', hpost, hsteps⟩
  · exact Or.inl ⟨v, vm₁, B, X₁.warmed, X', hpost, fun target h => hstep₁ _ fun acts => by rw [doInvoke_state]; exact hsteps.trans h⟩
  · exact Or.inr ⟨q, vm₁, B, X₁.warmed, X', hpost, hstep₁ _ fun acts => by rw [doInvoke_state]; exact hsteps⟩
end Calls
theorem vx_cls {s : State} {T : State} {vm₁ : Vm} {E : String} {k : ClassId} (hW : s.WarmedH vm₁) (h : (T.setVm vm₁).vm.findClass E = some k) : s.vm.findClass E = some k := by
  have h1 : vm₁.findClass E = some k := h
  rw [hW.alike.findClass] at h1
  exact h1
/-- the method's frame g, with q thrown over it -/
def vx_W (p : Program) (l : Launch) (e : Env) (R : Room) (s : State) (m : MethodId) (args : Array Value) (below : List Frame) (meth : Method) (c : Code) (H : Heap) (locs : List Loc) (cells slots : Nat) (Q : State → Prop) (g : JFrame) (q : Addr) : Prop :=
  ∀ T : State, T.heap = H → Stand p l e R s m args below meth c T locs cells slots → ∃ t, Steps p.tables e below ((T.setTop g).pushFrame (.throwing q)) t ∧ Q t
def vx_Run (p : Program) (l : Launch) (e : Env) (R : Room) (s : State) (m : MethodId) (args : Array Value) (below : List Frame) (meth : Method) (c : Code) (H : Heap) (locs : List Loc) (cells slots mc ms : Nat) (g : JFrame) (rest : List Value) (Qa : State → Outcome → State → Prop) (XC : String → State → State → Prop) (free : Addr → Prop) : Prop :=
  ∀ T : State, T.heap = H → Stand p l e R s m args below meth c T locs cells slots →
    (∃ (v : Option Value) (st₀ t T' : State) (L : List Loc), st₀.heap = H ∧ Stand p l e R s m args below meth c T' (locs ++ L) (cells + mc) (slots + ms) ∧ (∀ q ∈ L, free q.base) ∧ T'.heap = t.heap ∧ T'.vm = t.vm ∧ Qa st₀ (.returned v) t ∧
      Goes p e below T g T' { g with pc := g.pc + 3, stack := v.toList ++ rest }) ∨
    (∃ (q : Addr) (st₀ t T' : State) (L : List Loc) (E : String) (ce : Cell), st₀.heap = H ∧ Stand p l e R s m args below meth c T' (locs ++ L) (cells + mc) (slots + ms) ∧ (∀ z ∈ L, free z.base) ∧ T'.heap = t.heap ∧ T'.vm = t.vm ∧ XC E st₀ t ∧ t.heap[q]? = some ce ∧ ce.vm = .none ∧ s.vm.findClass E = some ce.cls ∧
      Steps p.tables e below (T.setTop g) ((T'.setTop { g with stack := rest }).pushFrame (.throwing q)))
def vx_X {S : Type} (px : S → Prop) (B : String → S → State → Prop) (A : Nat → Prop) : String → State → State → Prop := fun E st t => ∃ u : S, px u ∧ B E u t ∧ va_F A st t
section Runs
variable {p : Program} {l : Launch} {e : Env} {R : Room} {s : State} {m : MethodId} {args : Array Value} {below : List Frame} {meth : Method} {c : Code} {H : Heap} {locs : List Loc} {cells slots : Nat}
variable {y : MethodName} {bytes cc : ByteArray} {maxL nL mc ms n index : Nat} {ret : Option FieldType} {ws : List Cond} {rm : Room} {Pc : Array Value → State → Prop} {Qc : Array Value → State → Outcome → State → Prop} {XC : String → State → State → Prop} {free : Addr → Prop} {Ts : List Cond} {own C : String} {b : Addr} {As rest : List Value} {g : JFrame}
theorem vx_callBack (cb : CallB R s args own index y bytes maxL ret ws rm mc ms n) (hM : vx_Met l y ws rm Pc Qc XC mc ms free) (hbl : FrameBlind Pc) : vx_Back l R p e below s args y 3 8 (PreOf R mc ms Pc) (PostOf Qc mc ms free) (vx_Post XC mc ms free) := by
  obtain ⟨hrc, hrs, hfr, hlo, hws, hcw, -, hini, -⟩ := cb
  exact vx_back (bytes := bytes) (maxL := maxL) (ret := ret) hM hbl hrc hrs hfr hlo hws hcw (fun a' U hW => word_at hW (Or.inl (by first | rfl | simp [Cond.onTables, Cond.keeps, Cond.steady])) hini)
theorem vx_runV (S : CallFix p m c cc nL s args Ts own) (hM : vx_Met l y ws rm Pc Qc XC mc ms free) (cw : CallW R s args own C index y bytes maxL ret ws rm mc ms n) (hp : PreV s H C b Pc As)
    (hg : g.method = m) (hn : As.length = n) (hsize : g.locals.size = nL) (hstack : g.stack = As.reverse ++ .ref b :: rest) (hW : 2 * g.monitorRoom + (rest.map fun v => v.category).sum ≤ 8) (hdg : decode cc g.pc = .ok (.invokevirtual index, 3)) (hf : cells + mc ≤ R.cells ∧ slots + ms ≤ R.slots) :
    vx_Run p l e R s m args below meth c H locs cells slots mc ms g rest (Qc (Value.ref b :: As).toArray) XC free := by
  have hK : vx_Back l R p e below s args y 3 8 (PreOf R mc ms Pc) (PostOf Qc mc ms free) (vx_Post XC mc ms free) := vx_callBack cw.1 hM hp.1
  obtain ⟨⟨-, -, -, -, -, -, hcode, -, hy, hlen, hl⟩, hin, hse⟩ := cw
  obtain ⟨hx, hb, hml, ho, -⟩ := S
  obtain ⟨-, ⟨cellB, hcB, hoB, hclB⟩, hPc⟩ := hp
  intro T hT X
  rcases vx_callV X hx (C := C) (bytes := bytes) (maxL := maxL) (ret := ret) ho hl hin hse hcode hy hK (by rw [hT]; exact hcB) hoB hclB hg (hsize.trans hml.symm) (argsL := As) (rest := rest) (fun sig h => hn.trans (hlen sig h)) hstack hW (by rw [hb]; exact hdg)
    (fun vm₁ hW₁ => ⟨hf.1, hf.2, hPc (T.setVm vm₁) hT hW₁⟩) with ⟨v, vm₁, ⟨U', l2, c2, s2⟩, hW₁, X', ⟨g', mk, t, L, e1, e2, hq, h1, hL, h2, h3⟩, st⟩ | ⟨q, vm₁, ⟨U', l2, c2, s2⟩, hW₁, X', ⟨g', mk, t, L, E, ce, e1, e2, hq, hce, hcv, hcl, h1, hL, h2, h3⟩, st⟩
  · dsimp only [Pt.U, Pt.locs, Pt.cells, Pt.slots] at X' e1 e2 h1 h2 h3 st
    subst h1; subst h2; subst h3
    exact Or.inl ⟨v, (T.setVm vm₁).calling g' mk (Value.ref b :: As).toArray, t, U', L, hT, X', hL, e1, e2, hq, st⟩
  · dsimp only [Pt.U, Pt.locs, Pt.cells, Pt.slots] at X' e1 e2 h1 h2 h3 st hcl
    subst h1; subst h2; subst h3
    exact Or.inr ⟨q, (T.setVm vm₁).calling g' mk (Value.ref b :: As).toArray, t, U', L, E, ce, hT, X', hL, e1, e2, hq, hce, hcv, vx_cls hW₁ hcl, st⟩
theorem vx_runS (S : CallFix p m c cc nL s args Ts own) (hM : vx_Met l y ws rm Pc Qc XC mc ms free) (cw : CallB R s args own index y bytes maxL ret ws rm mc ms n ∧ (Cond.static y).before args s = true) (hp : PreS s H Pc As)
    (hg : g.method = m) (hn : As.length = n) (hsize : g.locals.size = nL) (hstack : g.stack = As.reverse ++ rest) (hW : 2 * g.monitorRoom + (rest.map fun v => v.category).sum ≤ 8) (hdg : decode cc g.pc = .ok (.invokestatic index, 3)) (hf : cells + mc ≤ R.cells ∧ slots + ms ≤ R.slots) :
    vx_Run p l e R s m args below meth c H locs cells slots mc ms g rest (Qc As.toArray) XC free := by
  have hK : vx_Back l R p e below s args y 3 8 (PreOf R mc ms Pc) (PostOf Qc mc ms free) (vx_Post XC mc ms free) := vx_callBack cw.1 hM hp.1
  obtain ⟨⟨-, -, -, -, -, -, hcode, hini, hy, hlen, hl⟩, hstt⟩ := cw
  obtain ⟨hx, hb, hml, ho, -⟩ := S
  intro T hT X
  rcases vx_callS X hx (bytes := bytes) (maxL := maxL) (ret := ret) ho hl hstt hini hcode hy hK hg (hsize.trans hml.symm) (argsL := As) (rest := rest) (fun sig h => hn.trans (hlen sig h)) hstack hW (by rw [hb]; exact hdg)
    (fun vm₁ hW₁ => ⟨hf.1, hf.2, hp.2 (T.setVm vm₁) hT hW₁⟩) with ⟨v, vm₁, ⟨U', l2, c2, s2⟩, hW₁, X', ⟨g', mk, t, L, e1, e2, hq, h1, hL, h2, h3⟩, st⟩ | ⟨q, vm₁, ⟨U', l2, c2, s2⟩, hW₁, X', ⟨g', mk, t, L, E, ce, e1, e2, hq, hce, hcv, hcl, h1, hL, h2, h3⟩, st⟩
  · dsimp only [Pt.U, Pt.locs, Pt.cells, Pt.slots] at X' e1 e2 h1 h2 h3 st
    subst h1; subst h2; subst h3
    exact Or.inl ⟨v, (T.setVm vm₁).calling g' mk As.toArray, t, U', L, hT, X', hL, e1, e2, hq, st⟩
  · dsimp only [Pt.U, Pt.locs, Pt.cells, Pt.slots] at X' e1 e2 h1 h2 h3 st hcl
    subst h1; subst h2; subst h3
    exact Or.inr ⟨q, (T.setVm vm₁).calling g' mk As.toArray, t, U', L, E, ce, hT, X', hL, e1, e2, hq, hce, hcv, vx_cls hW₁ hcl, st⟩
end Runs
section Rows
variable {p : Program} {l : Launch} {e : Env} {R : Room} {s : State} {m : MethodId} {args : Array Value} {below : List Frame} {meth : Method} {c : Code} {H : Heap} {locs : List Loc} {cells slots : Nat} {Q : State → Prop}
variable {mc ms : Nat} {free : Addr → Prop} {A0 A1 : Nat → Prop} {H0 : Heap} {a : Array Value} {pc : Nat} {ls : Array Slot} {st0 rest : List Value}
theorem vx_keep {st₀ t T' : State} {L : List Loc} (h0 : st₀.heap = H) (e1 : T'.heap = t.heap) (hS : va_S A0 H0 H locs) (hA : ∀ q, q < H.size → A1 q → A0 q) (hf : ∀ q, free q → A0 q) (hL : ∀ q ∈ L, free q.base) (hF : va_F A1 st₀ t) :
    H.size ≤ T'.heap.size ∧ (∀ q : Nat, q < H.size → ¬ A1 q → T'.heap[q]? = H[q]?) ∧ va_S A0 H0 T'.heap (locs ++ L) := by
  obtain ⟨hz, hk⟩ := hF
  rw [h0] at hz hk
  exact ⟨by rw [e1]; exact hz, fun q h1 h2 => by rw [e1]; exact hk q h1 h2,
    ⟨Nat.le_trans hS.1 (by rw [e1]; exact hz), fun q h1 h2 => by rw [e1, hk q (Nat.lt_of_lt_of_le h1 hS.1) (fun z => h2 (hA q (Nat.lt_of_lt_of_le h1 hS.1) z))]; exact hS.2.1 q h1 h2, fun q hq => by
      rcases List.mem_append.mp hq with h | h
      · exact hS.2.2 q h
      · exact hf _ (hL q h)⟩⟩
theorem vx_calli {S SX : Type} {post : Int32 → S → Prop} {px : SX → Prop} {B : S → State → Prop} {BX : String → SX → State → Prop} {AX : Nat → Prop} (hr : vx_Run p l e R s m args below meth c H locs cells slots mc ms (F0 m pc ls st0) rest (va_Qi post B A1 a) (vx_X px BX AX) free) (hS : va_S A0 H0 H locs) (hA : ∀ q, q < H.size → A1 q → A0 q) (hf : ∀ q, free q → A0 q) (hAX : ∀ q, q < H.size → AX q → A0 q)
    (kx : ∀ (E : String) (ce : Cell) (q9 : Addr) (u : SX) (t : State) (H1 : Heap) (locs1 : List Loc), t.heap = H1 → s.vm.Alike t.vm → px u → BX E u t → H.size ≤ H1.size → (∀ q : Nat, q < H.size → ¬ AX q → H1[q]? = H[q]?) → va_S A0 H0 H1 locs1 → H1[q9]? = some ce → ce.vm = .none → s.vm.findClass E = some ce.cls → vx_W p l e R s m args below meth c H1 locs1 (cells + mc) (slots + ms) Q (F0 m pc ls rest) q9)
    (kk : ∀ (r : Int32) (u : S) (t : State) (H1 : Heap) (locs1 : List Loc), t.heap = H1 → s.vm.Alike t.vm → post r u → B u t → H.size ≤ H1.size → (∀ q : Nat, q < H.size → ¬ A1 q → H1[q]? = H[q]?) → va_S A0 H0 H1 locs1 → W p l e R s m args below meth c H1 locs1 (cells + mc) (slots + ms) Q (F0 m (pc + 3) ls (.int r :: rest))) : W p l e R s m args below meth c H locs cells slots Q (F0 m pc ls st0) := by
  intro T hT X
  rcases hr T hT X with ⟨v, st₀, t, T', L, h0, X', hL, e1, e2, ⟨⟨r, u, hv, hp, hb⟩, hF⟩, st⟩ | ⟨q, st₀, t, T', L, E, ce, h0, X', hL, e1, e2, ⟨u, hp, hb, hF⟩, hce, hcv, hcl, st⟩
  · cases hv
    obtain ⟨k1, k2, k3⟩ := vx_keep h0 e1 hS hA hf hL hF
    obtain ⟨t2, a1, b1⟩ := kk r u t T'.heap (locs ++ L) e1.symm (by rw [← e2]; exact X'.warmed.alike) hp hb k1 k2 k3 T' rfl X'
    exact ⟨t2, st t2 a1, b1⟩
  · obtain ⟨k1, k2, k3⟩ := vx_keep h0 e1 hS hAX hf hL hF
    obtain ⟨t2, a1, b1⟩ := kx E ce q u t T'.heap (locs ++ L) e1.symm (by rw [← e2]; exact X'.warmed.alike) hp hb k1 k2 k3 (by rw [e1]; exact hce) hcv hcl T' rfl X'
    exact ⟨t2, st.trans a1, b1⟩
theorem vx_calll {S SX : Type} {post : Int64 → S → Prop} {px : SX → Prop} {B : S → State → Prop} {BX : String → SX → State → Prop} {AX : Nat → Prop} (hr : vx_Run p l e R s m args below meth c H locs cells slots mc ms (F0 m pc ls st0) rest (va_Ql post B A1 a) (vx_X px BX AX) free) (hS : va_S A0 H0 H locs) (hA : ∀ q, q < H.size → A1 q → A0 q) (hf : ∀ q, free q → A0 q) (hAX : ∀ q, q < H.size → AX q → A0 q)
    (kx : ∀ (E : String) (ce : Cell) (q9 : Addr) (u : SX) (t : State) (H1 : Heap) (locs1 : List Loc), t.heap = H1 → s.vm.Alike t.vm → px u → BX E u t → H.size ≤ H1.size → (∀ q : Nat, q < H.size → ¬ AX q → H1[q]? = H[q]?) → va_S A0 H0 H1 locs1 → H1[q9]? = some ce → ce.vm = .none → s.vm.findClass E = some ce.cls → vx_W p l e R s m args below meth c H1 locs1 (cells + mc) (slots + ms) Q (F0 m pc ls rest) q9)
    (kk : ∀ (r : Int64) (u : S) (t : State) (H1 : Heap) (locs1 : List Loc), t.heap = H1 → s.vm.Alike t.vm → post r u → B u t → H.size ≤ H1.size → (∀ q : Nat, q < H.size → ¬ A1 q → H1[q]? = H[q]?) → va_S A0 H0 H1 locs1 → W p l e R s m args below meth c H1 locs1 (cells + mc) (slots + ms) Q (F0 m (pc + 3) ls (.long r :: rest))) : W p l e R s m args below meth c H locs cells slots Q (F0 m pc ls st0) := by
  intro T hT X
  rcases hr T hT X with ⟨v, st₀, t, T', L, h0, X', hL, e1, e2, ⟨⟨r, u, hv, hp, hb⟩, hF⟩, st⟩ | ⟨q, st₀, t, T', L, E, ce, h0, X', hL, e1, e2, ⟨u, hp, hb, hF⟩, hce, hcv, hcl, st⟩
  · cases hv
    obtain ⟨k1, k2, k3⟩ := vx_keep h0 e1 hS hA hf hL hF
    obtain ⟨t2, a1, b1⟩ := kk r u t T'.heap (locs ++ L) e1.symm (by rw [← e2]; exact X'.warmed.alike) hp hb k1 k2 k3 T' rfl X'
    exact ⟨t2, st t2 a1, b1⟩
  · obtain ⟨k1, k2, k3⟩ := vx_keep h0 e1 hS hAX hf hL hF
    obtain ⟨t2, a1, b1⟩ := kx E ce q u t T'.heap (locs ++ L) e1.symm (by rw [← e2]; exact X'.warmed.alike) hp hb k1 k2 k3 (by rw [e1]; exact hce) hcv hcl T' rfl X'
    exact ⟨t2, st.trans a1, b1⟩
theorem vx_callf {S SX : Type} {post : UInt32 → S → Prop} {px : SX → Prop} {B : S → State → Prop} {BX : String → SX → State → Prop} {AX : Nat → Prop} (hr : vx_Run p l e R s m args below meth c H locs cells slots mc ms (F0 m pc ls st0) rest (va_Qf post B A1 a) (vx_X px BX AX) free) (hS : va_S A0 H0 H locs) (hA : ∀ q, q < H.size → A1 q → A0 q) (hf : ∀ q, free q → A0 q) (hAX : ∀ q, q < H.size → AX q → A0 q)
    (kx : ∀ (E : String) (ce : Cell) (q9 : Addr) (u : SX) (t : State) (H1 : Heap) (locs1 : List Loc), t.heap = H1 → s.vm.Alike t.vm → px u → BX E u t → H.size ≤ H1.size → (∀ q : Nat, q < H.size → ¬ AX q → H1[q]? = H[q]?) → va_S A0 H0 H1 locs1 → H1[q9]? = some ce → ce.vm = .none → s.vm.findClass E = some ce.cls → vx_W p l e R s m args below meth c H1 locs1 (cells + mc) (slots + ms) Q (F0 m pc ls rest) q9)
    (kk : ∀ (r : UInt32) (u : S) (t : State) (H1 : Heap) (locs1 : List Loc), t.heap = H1 → s.vm.Alike t.vm → post r u → B u t → H.size ≤ H1.size → (∀ q : Nat, q < H.size → ¬ A1 q → H1[q]? = H[q]?) → va_S A0 H0 H1 locs1 → W p l e R s m args below meth c H1 locs1 (cells + mc) (slots + ms) Q (F0 m (pc + 3) ls (.float r :: rest))) : W p l e R s m args below meth c H locs cells slots Q (F0 m pc ls st0) := by
  intro T hT X
  rcases hr T hT X with ⟨v, st₀, t, T', L, h0, X', hL, e1, e2, ⟨⟨r, u, hv, hp, hb⟩, hF⟩, st⟩ | ⟨q, st₀, t, T', L, E, ce, h0, X', hL, e1, e2, ⟨u, hp, hb, hF⟩, hce, hcv, hcl, st⟩
  · cases hv
    obtain ⟨k1, k2, k3⟩ := vx_keep h0 e1 hS hA hf hL hF
    obtain ⟨t2, a1, b1⟩ := kk r u t T'.heap (locs ++ L) e1.symm (by rw [← e2]; exact X'.warmed.alike) hp hb k1 k2 k3 T' rfl X'
    exact ⟨t2, st t2 a1, b1⟩
  · obtain ⟨k1, k2, k3⟩ := vx_keep h0 e1 hS hAX hf hL hF
    obtain ⟨t2, a1, b1⟩ := kx E ce q u t T'.heap (locs ++ L) e1.symm (by rw [← e2]; exact X'.warmed.alike) hp hb k1 k2 k3 (by rw [e1]; exact hce) hcv hcl T' rfl X'
    exact ⟨t2, st.trans a1, b1⟩
theorem vx_calld {S SX : Type} {post : UInt64 → S → Prop} {px : SX → Prop} {B : S → State → Prop} {BX : String → SX → State → Prop} {AX : Nat → Prop} (hr : vx_Run p l e R s m args below meth c H locs cells slots mc ms (F0 m pc ls st0) rest (va_Qd post B A1 a) (vx_X px BX AX) free) (hS : va_S A0 H0 H locs) (hA : ∀ q, q < H.size → A1 q → A0 q) (hf : ∀ q, free q → A0 q) (hAX : ∀ q, q < H.size → AX q → A0 q)
    (kx : ∀ (E : String) (ce : Cell) (q9 : Addr) (u : SX) (t : State) (H1 : Heap) (locs1 : List Loc), t.heap = H1 → s.vm.Alike t.vm → px u → BX E u t → H.size ≤ H1.size → (∀ q : Nat, q < H.size → ¬ AX q → H1[q]? = H[q]?) → va_S A0 H0 H1 locs1 → H1[q9]? = some ce → ce.vm = .none → s.vm.findClass E = some ce.cls → vx_W p l e R s m args below meth c H1 locs1 (cells + mc) (slots + ms) Q (F0 m pc ls rest) q9)
    (kk : ∀ (r : UInt64) (u : S) (t : State) (H1 : Heap) (locs1 : List Loc), t.heap = H1 → s.vm.Alike t.vm → post r u → B u t → H.size ≤ H1.size → (∀ q : Nat, q < H.size → ¬ A1 q → H1[q]? = H[q]?) → va_S A0 H0 H1 locs1 → W p l e R s m args below meth c H1 locs1 (cells + mc) (slots + ms) Q (F0 m (pc + 3) ls (.double r :: rest))) : W p l e R s m args below meth c H locs cells slots Q (F0 m pc ls st0) := by
  intro T hT X
  rcases hr T hT X with ⟨v, st₀, t, T', L, h0, X', hL, e1, e2, ⟨⟨r, u, hv, hp, hb⟩, hF⟩, st⟩ | ⟨q, st₀, t, T', L, E, ce, h0, X', hL, e1, e2, ⟨u, hp, hb, hF⟩, hce, hcv, hcl, st⟩
  · cases hv
    obtain ⟨k1, k2, k3⟩ := vx_keep h0 e1 hS hA hf hL hF
    obtain ⟨t2, a1, b1⟩ := kk r u t T'.heap (locs ++ L) e1.symm (by rw [← e2]; exact X'.warmed.alike) hp hb k1 k2 k3 T' rfl X'
    exact ⟨t2, st t2 a1, b1⟩
  · obtain ⟨k1, k2, k3⟩ := vx_keep h0 e1 hS hAX hf hL hF
    obtain ⟨t2, a1, b1⟩ := kx E ce q u t T'.heap (locs ++ L) e1.symm (by rw [← e2]; exact X'.warmed.alike) hp hb k1 k2 k3 (by rw [e1]; exact hce) hcv hcl T' rfl X'
    exact ⟨t2, st.trans a1, b1⟩
theorem vx_callv {S SX : Type} {post : S → Prop} {px : SX → Prop} {B : S → State → Prop} {BX : String → SX → State → Prop} {AX : Nat → Prop} (hr : vx_Run p l e R s m args below meth c H locs cells slots mc ms (F0 m pc ls st0) rest (va_Qv post B A1 a) (vx_X px BX AX) free) (hS : va_S A0 H0 H locs) (hA : ∀ q, q < H.size → A1 q → A0 q) (hf : ∀ q, free q → A0 q) (hAX : ∀ q, q < H.size → AX q → A0 q)
    (kx : ∀ (E : String) (ce : Cell) (q9 : Addr) (u : SX) (t : State) (H1 : Heap) (locs1 : List Loc), t.heap = H1 → s.vm.Alike t.vm → px u → BX E u t → H.size ≤ H1.size → (∀ q : Nat, q < H.size → ¬ AX q → H1[q]? = H[q]?) → va_S A0 H0 H1 locs1 → H1[q9]? = some ce → ce.vm = .none → s.vm.findClass E = some ce.cls → vx_W p l e R s m args below meth c H1 locs1 (cells + mc) (slots + ms) Q (F0 m pc ls rest) q9)
    (kk : ∀ (u : S) (t : State) (H1 : Heap) (locs1 : List Loc), t.heap = H1 → s.vm.Alike t.vm → post u → B u t → H.size ≤ H1.size → (∀ q : Nat, q < H.size → ¬ A1 q → H1[q]? = H[q]?) → va_S A0 H0 H1 locs1 → W p l e R s m args below meth c H1 locs1 (cells + mc) (slots + ms) Q (F0 m (pc + 3) ls (rest))) : W p l e R s m args below meth c H locs cells slots Q (F0 m pc ls st0) := by
  intro T hT X
  rcases hr T hT X with ⟨v, st₀, t, T', L, h0, X', hL, e1, e2, ⟨⟨u, hv, hp, hb⟩, hF⟩, st⟩ | ⟨q, st₀, t, T', L, E, ce, h0, X', hL, e1, e2, ⟨u, hp, hb, hF⟩, hce, hcv, hcl, st⟩
  · cases hv
    obtain ⟨k1, k2, k3⟩ := vx_keep h0 e1 hS hA hf hL hF
    obtain ⟨t2, a1, b1⟩ := kk u t T'.heap (locs ++ L) e1.symm (by rw [← e2]; exact X'.warmed.alike) hp hb k1 k2 k3 T' rfl X'
    exact ⟨t2, st t2 a1, b1⟩
  · obtain ⟨k1, k2, k3⟩ := vx_keep h0 e1 hS hAX hf hL hF
    obtain ⟨t2, a1, b1⟩ := kx E ce q u t T'.heap (locs ++ L) e1.symm (by rw [← e2]; exact X'.warmed.alike) hp hb k1 k2 k3 (by rw [e1]; exact hce) hcv hcl T' rfl X'
    exact ⟨t2, st.trans a1, b1⟩
/-- caught by the row x of this method's table; the rows ahead don't take it -/
theorem vx_catch {own name : String} {E : String} {ce : Cell} {q : Addr} (hown : s.vm.findClass own = some m.cls) (pre : List ExceptionTableEntry) (x : ExceptionTableEntry) (suf : List ExceptionTableEntry) (hsplit : c.exceptionTable.toList = pre ++ x :: suf)
    (hpass : ∀ z ∈ pre, covers z pc = false ∨ (z.catchType ≠ 0 ∧ ∃ nm : String, (Cond.classLink own z.catchType nm).before args s = true ∧ va_Nc E nm s)) (hx : covers x pc = true) (h0 : x.catchType ≠ 0)
    (hlink : (Cond.classLink own x.catchType name).before args s = true) (hcast : (Cond.castable E name).before args s = true) (hcell : H[q]? = some ce) (hv : ce.vm = .none) (hcl : s.vm.findClass E = some ce.cls)
    (kk : W p l e R s m args below meth c H locs cells slots Q (F0 m x.handlerPc ls [.ref q])) : vx_W p l e R s m args below meth c H locs cells slots Q (F0 m pc ls rest) q := by
  intro T hT X
  have hpl : e.platform.magicAccessors = ({} : Platform).magicAccessors := by rw [X.admits.platform]
  obtain ⟨c3, c4, hc3, hc4, hasg⟩ := Cond.castable_spec hcast
  cases Option.some.inj (hc3.symm.trans hcl)
  obtain ⟨c5, hc5, hcl5⟩ := Cond.classLink_spec hown hlink e.platform hpl
  cases Option.some.inj (hc4.symm.trans hc5)
  obtain ⟨vm', X', st⟩ := X.thenCaughtThrough q (g := F0 m pc ls rest) rfl (Steps.refl _) (by rw [hT]; exact hcell) (by rw [hv]; rfl) (by obtain ⟨k9, h9, -⟩ := Vm.findClass_spec hcl; exact ⟨k9, h9⟩) pre x suf hsplit
    (fun z hz => by
      rcases hpass z hz with h | ⟨hz0, nm, hl1, hn1⟩
      · exact Or.inl h
      · obtain ⟨c6, hc6, hcl6⟩ := Cond.classLink_spec hown hl1 e.platform hpl
        obtain ⟨a8, b8, h1, h2, h3⟩ := hn1
        cases Option.some.inj (h1.symm.trans hcl)
        cases Option.some.inj (h2.symm.trans hc6)
        exact Or.inr ⟨hz0, _, hcl6, h3⟩) hx (Or.inr ⟨h0, c4, hcl5, hasg⟩)
  obtain ⟨t, a1, b1⟩ := kk (T.setVm vm') hT X'
  exact ⟨t, st.trans a1, b1⟩
end Rows
section Ends
variable {p : Program} {l : Launch} {e : Env} {R : Room} {s : State} {m : MethodId} {args : Array Value} {below : List Frame} {meth : Method} {c : Code} {H : Heap} {locs : List Loc} {cells slots : Nat} {Q : State → Prop}
variable {mc ms : Nat} {free : Addr → Prop} {A0 A1 : Nat → Prop} {H0 : Heap} {a : Array Value} {ls : Array Slot} {st0 rest : List Value}
variable {Qc : Array Value → State → Outcome → State → Prop} {XC : String → State → State → Prop}
/-- what a body that may throw owes at its end -/
def vx_MQ (below : List Frame) (Qc : Array Value → State → Outcome → State → Prop) (XC : String → State → State → Prop) (a : Array Value) (s : State) (mc ms : Nat) (free : Addr → Prop) : State → Prop := fun t =>
  ∃ o, t.status = .running ∧ Ended t below o ∧ vx_Q Qc XC mc ms free a s o t
theorem vx_ret {g : JFrame} {mc ms : Nat} (k : W p l e R s m args below meth c H locs cells slots (MQ below Qc args s mc ms free) g) : W p l e R s m args below meth c H locs cells slots (vx_MQ below Qc XC args s mc ms free) g := by
  intro T hT X
  obtain ⟨t, a1, o, b1, b2, b3, b4⟩ := k T hT X
  exact ⟨t, a1, o, b1, b2, Or.inl ⟨b3, b4⟩⟩
/-- not caught here: it goes on to the caller -/
theorem vx_widen {g : JFrame} {q : Addr} {k n : Nat} (h1 : cells ≤ k) (h2 : slots ≤ n) (kk : vx_W p l e R s m args below meth c H locs k n Q g q) : vx_W p l e R s m args below meth c H locs cells slots Q g q := fun T hT X => kk T hT (stand_widen X h1 h2)
theorem vx_out {pc : Nat} {E : String} {ce : Cell} {q : Addr} {mc ms : Nat} (hout : ∀ x ∈ c.exceptionTable.toList, covers x pc = false) (hlocks : meth.locks = false) (hcell : H[q]? = some ce) (hv : ce.vm = .none) (hcl : s.vm.findClass E = some ce.cls)
    (hx : ∀ t : State, t.heap = H → s.vm.Alike t.vm → XC E s t) (hf : ∀ z ∈ locs, free z.base) (hc : cells ≤ mc) (hs : slots ≤ ms) :
    vx_W p l e R s m args below meth c H locs cells slots (vx_MQ below Qc XC args s mc ms free) (F0 m pc ls rest) q := by
  intro T hT X
  obtain ⟨st1, hrun, hend, hW, hsm⟩ := X.leaveThrown q (g := F0 m pc ls rest) rfl rfl rfl hout hlocks
  have hcell9 : (T.setFrames (.throwing q :: below)).heap[q]? = some ce := by
    show T.heap[q]? = some ce
    rw [hT]; exact hcell
  exact ⟨_, st1, .threw q, hrun, hend, Or.inr ⟨q, rfl, E, ce, locs, hx _ hT hW.alike, hcell9, hv, hcl, hW, hsm.mono hc hs, hf⟩⟩
theorem vx_frame {U : State} {k n : Nat} (h : s.sameButNew ({ U with vm := s.vm } : State) locs k n) : s.heap.size ≤ U.heap.size ∧ ∀ q : Nat, q < s.heap.size → (∀ z ∈ locs, z.base ≠ q) → U.heap[q]? = s.heap[q]? := by
  obtain ⟨-, h2, -, -, -, h6⟩ := h
  refine ⟨h2, fun q hq hz => ?_⟩
  obtain ⟨c9, e1, e2, e3, e4⟩ := h6 q _ (Array.getElem?_eq_getElem hq)
  have hs : c9.slots = (s.heap[q]).slots := Array.ext_getElem? fun i => e4 i fun hm => hz _ hm rfl
  have h9 : c9 = s.heap[q] := by
    rw [hs] at e2
    exact e2
  have e5 : U.heap[q]? = some c9 := e1
  rw [e5, h9, Array.getElem?_eq_getElem hq]
/-- the words of a throw but the four that speak of the heap -/
def vx_no (w : Cond) : Bool := decide (w ≠ .isRef (.static Bundle.tN "UNASSIGNED_STACK" Bundle.steD)) && decide (w ≠ .isRef (.static Bundle.tN "SUPPRESSED_SENTINEL" Bundle.listD)) && decide (w ≠ .laysStatic Bundle.tN "UNASSIGNED_STACK" Bundle.steD) && decide (w ≠ .laysStatic Bundle.tN "SUPPRESSED_SENTINEL" Bundle.listD)
def vx_at0 (own : String) (ic : Nat) (X : String) (names : List String) : List Cond := (Bundle.ownAtoms0 own ic X names).filter vx_no
def vx_atS (own : String) (ic : Nat) (X : String) (names : List String) : List Cond := (Bundle.ownAtoms own ic X names).filter vx_no
/-- a word that the tables alone decide, or a good one -/
def vx_ot (w : Cond) : Bool := w.onTables || goodWord w
theorem vx_ot_at {args a' : Array Value} {s U : State} {w : Cond} (hW : s.WarmedH U.vm) (hvm : s.vm = U.vm) (hg : vx_ot w = true) (h : w.before args s = true) : w.before a' U = true := by
  simp only [vx_ot, Bool.or_eq_true] at hg
  rcases hg with hg | hg
  · exact va_tabs hg hvm h
  · exact word_at hW (good_of_word hg) h
/-- a list's words: the good ones out of the method's own list, the others by premises of their own -/
theorem vx_hat {args : Array Value} {s : State} {L B : List Cond} (h1 : ∀ w ∈ L.filter goodWord, w.before args s = true) (h2 : ∀ w ∈ L.filter (fun w => !goodWord w), w ∈ B) (h3 : ∀ w ∈ B, w.before args s = true) : ∀ w ∈ L, w.before args s = true := by
  intro w hw
  by_cases g : goodWord w = true
  · exact h1 w (List.mem_filter.mpr ⟨hw, g⟩)
  · refine h3 w (h2 w (List.mem_filter.mpr ⟨hw, ?_⟩))
    show (!goodWord w) = true
    cases hgw : goodWord w
    · rfl
    · exact absurd hgw g
theorem vx_c {args : Array Value} {s : State} {w : Cond} {B : List Cond} (h : w.before args s = true) (t : ∀ w ∈ B, w.before args s = true) : ∀ w' ∈ w :: B, w'.before args s = true := fun w' h' => (List.mem_cons.mp h').elim (fun e => by rw [e]; exact h) (t w')
theorem vx_n {args : Array Value} {s : State} : ∀ w ∈ ([] : List Cond), w.before args s = true := fun _ h => nomatch h
theorem vx_own {args : Array Value} {s : State} {L : List Cond} (h1 : ∀ w ∈ L.filter vx_no, w.before args s = true)
    (hU : (Cond.isRef (.static Bundle.tN "UNASSIGNED_STACK" Bundle.steD)).before args s = true) (hN : (Cond.isRef (.static Bundle.tN "SUPPRESSED_SENTINEL" Bundle.listD)).before args s = true)
    (lU : (Cond.laysStatic Bundle.tN "UNASSIGNED_STACK" Bundle.steD).before args s = true) (lN : (Cond.laysStatic Bundle.tN "SUPPRESSED_SENTINEL" Bundle.listD).before args s = true) : ∀ w ∈ L, w.before args s = true := by
  intro w hw
  by_cases e1 : w = .isRef (.static Bundle.tN "UNASSIGNED_STACK" Bundle.steD)
  · rw [e1]; exact hU
  · by_cases e2 : w = .isRef (.static Bundle.tN "SUPPRESSED_SENTINEL" Bundle.listD)
    · rw [e2]; exact hN
    · by_cases e3 : w = .laysStatic Bundle.tN "UNASSIGNED_STACK" Bundle.steD
      · rw [e3]; exact lU
      · by_cases e4 : w = .laysStatic Bundle.tN "SUPPRESSED_SENTINEL" Bundle.listD
        · rw [e4]; exact lN
        · exact h1 w (List.mem_filter.mpr ⟨hw, by unfold vx_no; rw [decide_eq_true e1, decide_eq_true e2, decide_eq_true e3, decide_eq_true e4]; rfl⟩)
/-- where a static field lies, its class's statics cell in H -/
def vx_L (C n d : String) (A : Nat → Prop) (U : State) (H : Heap) : Prop := ∃ (c : ClassId) (k : Class) (i : Nat) (f : Field) (a : Nat) (cell : Cell), U.vm.findClass C = some c ∧ U.fieldFound? C n d = some (c, k, i, f) ∧ f.isStatic = true ∧ k.statics = some a ∧ H[a]? = some cell ∧ cell.vm.isStatics = true ∧ cell.cls = c ∧ f.slot < cell.slots.size ∧ k.staticTypes[f.slot]? = some f.type ∧ ¬ A a
theorem vx_L.moved {C n d : String} {A : Nat → Prop} {u U : State} {H : Heap} (hvm : u.vm.Alike U.vm) (h : vx_L C n d A u H) : vx_L C n d A U H := by
  obtain ⟨c, k, i, f, a, cell, h1, h2, h3, h4, h5, h6, h7, h8, h9, h10⟩ := h
  obtain ⟨k', hi', he⟩ := State.fieldFound?_setVm hvm h2
  exact ⟨c, k', i, f, a, cell, by rw [hvm.findClass]; exact h1, hi', h3, by rw [he]; exact h4, h5, h6, h7, h8, by rw [he]; exact h9, h10⟩
theorem vx_L.kept {C n d : String} {A : Nat → Prop} {U : State} {H H1 : Heap} (h : vx_L C n d A U H) (hq : ∀ a : Nat, a < H.size → ¬ A a → H1[a]? = H[a]?) : vx_L C n d A U H1 := by
  obtain ⟨c, k, i, f, a, cell, h1, h2, h3, h4, h5, h6, h7, h8, h9, h10⟩ := h
  exact ⟨c, k, i, f, a, cell, h1, h2, h3, h4, by rw [hq a (Array.getElem?_eq_some_iff.mp h5).1 h10]; exact h5, h6, h7, h8, h9, h10⟩
theorem vx_L.narrow {C n d : String} {A B : Nat → Prop} {U : State} {H : Heap} (h : vx_L C n d A U H) (hAB : ∀ q, B q → A q) : vx_L C n d B U H := by
  obtain ⟨c, k, i, f, a, cell, h1, h2, h3, h4, h5, h6, h7, h8, h9, h10⟩ := h
  exact ⟨c, k, i, f, a, cell, h1, h2, h3, h4, h5, h6, h7, h8, h9, fun z => h10 (hAB _ z)⟩
theorem vx_L.word {C n d : String} {A : Nat → Prop} {s : State} {args : Array Value} (h : vx_L C n d A s s.heap) : (Cond.laysStatic C n d).before args s = true := by
  obtain ⟨c, k, i, f, a, cell, h1, h2, h3, h4, h5, h6, h7, h8, h9, -⟩ := h
  show (Cond.laysStatic C n d).holds args s none s [] = true
  exact Cond.laysStatic_of h1 h2 h3 h4 h5 h6 h7 h8 h9
/-- .. and what it holds: null or some reference -/
def vx_Zq (C n d : String) (A : Nat → Prop) (U : State) (H : Heap) : Prop := va_Zq C n d A U H ∧ vx_L C n d A U H
theorem vx_Zq.moved {C n d : String} {A : Nat → Prop} {u U : State} {H : Heap} (hvm : u.vm.Alike U.vm) (h : vx_Zq C n d A u H) : vx_Zq C n d A U H := ⟨va_Zq.moved hvm h.1, vx_L.moved hvm h.2⟩
theorem vx_Zq.kept {C n d : String} {A : Nat → Prop} {U : State} {H H1 : Heap} (h : vx_Zq C n d A U H) (hq : ∀ a : Nat, a < H.size → ¬ A a → H1[a]? = H[a]?) : vx_Zq C n d A U H1 := ⟨va_Zq.kept h.1 hq, vx_L.kept h.2 hq⟩
theorem vx_Zq.narrow {C n d : String} {A B : Nat → Prop} {U : State} {H : Heap} (h : vx_Zq C n d A U H) (hAB : ∀ q, B q → A q) : vx_Zq C n d B U H := ⟨va_Zq.narrow h.1 hAB, vx_L.narrow h.2 hAB⟩
theorem vx_Zqof {args : Array Value} {s : State} {C n d : String} {A : Nat → Prop} (hl : (Cond.laysStatic C n d).before args s = true) (hini : (Cond.initialized C).before args s = true) (h : (Cond.isRef (.static C n d)).before args s = true) (hA : ∀ a : Nat, a < s.heap.size → ¬ A a) : vx_Zq C n d A s s.heap := by
  refine ⟨va_Zqof hl hini h hA, ?_⟩
  obtain ⟨c, k, i, f, a, cell, h1, h2, h3, h4, h5, h6, h7, h8, h9⟩ := Cond.laysStatic_spec hl
  exact ⟨c, k, i, f, a, cell, h1, h2, h3, h4, h5, h6, h7, h8, h9, hA a (Array.getElem?_eq_some_iff.mp h5).1⟩
theorem vx_isRef {C n d : String} {v : Value} {A : Nat → Prop} {s : State} {args : Array Value} (h : va_Z C n d v A s s.heap) (hv : v.isRef = true) : (Cond.isRef (.static C n d)).before args s = true := by
  obtain ⟨cf, kf, fi, f, a, cell, h1, h2, h3, h4, h5, h6, h7, -⟩ := h
  have he : (Term.static C n d).eval args s none [] s = some v := by
    simp [Term.eval, State.fieldNamed?, h1, h2, h4, h5, h6, h7]
  simp only [Cond.before, Cond.holds, Cond.value, he]
  cases v <;> simp_all [Value.isRef]
theorem vx_isRefq {C n d : String} {A : Nat → Prop} {s : State} {args : Array Value} (h : va_Zq C n d A s s.heap) : (Cond.isRef (.static C n d)).before args s = true := by
  rcases h with h | ⟨t, h⟩
  · exact vx_isRef h rfl
  · exact vx_isRef h rfl
/-- the same frame, seen from here: as if the method were called anew in this heap -/
theorem vx_rebase {T : State} (X : Stand p l e R s m args below meth c T locs cells slots) {R' : Room} (hf : R'.frames ≤ R.frames) (hl : R'.locals ≤ R.locals) (hc : cells + R'.cells ≤ R.cells) (hs : slots + R'.slots ≤ R.slots) :
    Stand p l e R' ((T.setVm s.vm).setFrames (.invoking m args :: below)) m args below meth c T [] 0 0 := by
  have htop : (T.setVm s.vm).topJava?.isSome := X.here.top
  have hF : ((T.setVm s.vm).setFrames (.invoking m args :: below)).frames = .invoking m args :: below := State.frames_setFrames _ (State.cur_lt_of_top htop)
  obtain ⟨g₀, hg0⟩ := Option.isSome_iff_exists.mp htop
  obtain ⟨r, hr⟩ := State.topJava?_eq_some.mp hg0
  have hl9 : e.platform.stackLimits (T.setVm s.vm).me = e.platform.stackLimits s.me := X.limits
  have hb9 : (T.setVm s.vm).me.stackBytes = s.me.stackBytes := X.bytes
  refine ⟨X.admits, X.cas, X.clock, hF, ?_, X.hears, X.method, X.code, X.here, X.tail, X.warmed, ?_, ?_, ?_⟩
  · have h := X.room
    have hU : ((T.setVm s.vm).setFrames (.invoking m args :: below)).localsInUse = s.localsInUse := by
      rw [State.localsInUse_invoking hF (meth := meth) (c := c) X.method X.code, State.localsInUse_invoking X.frames X.method X.code]
    simp only [State.hasRoom, Bool.and_eq_true, decide_eq_true_eq] at h ⊢
    obtain ⟨⟨⟨⟨h1, h2, h3, h4, h5, h6⟩, h7⟩, h8⟩, h9⟩ := h
    rw [X.frames, List.length_cons] at h2 h3
    have q1 := X.heapSize
    have q2 := X.used
    simp only [hF, hU, List.length_cons, State.stackLimits_setFrames, State.stackBytes_setFrames, hl9, hb9]
    refine ⟨⟨⟨⟨by omega, by omega, by omega, by omega, by omega, h6⟩, ?_⟩, ?_⟩, X.book⟩
    · show T.heap.size + R'.cells ≤ e.platform.maxCells
      omega
    · show T.slotsUsed + R'.slots ≤ e.platform.maxSlots
      omega
  · rw [State.stackLimits_setFrames]; rfl
  · rw [State.stackBytes_setFrames]; rfl
  · refine ⟨?_, Nat.le_refl _, Nat.le_refl _, ?_, ?_, fun a c9 h9 => ⟨c9, h9, rfl, rfl, fun _ _ => rfl⟩⟩
    · obtain ⟨t, ht, -⟩ := State.frames_cons hr
      show T.setVm s.vm = { ((T.setVm s.vm).setFrames (.invoking m args :: below)).setFrames (T.setVm s.vm).frames with heap := T.heap, slotsUsed := T.slotsUsed }
      rw [State.setFrames_setFrames, State.setFrames_self ht]
      rfl
    · show T.slotsUsed = T.slotsUsed + ((T.heap.toList.drop T.heap.size).map (·.slots.size)).sum
      rw [List.drop_eq_nil_of_le (Nat.le_of_eq Array.length_toList)]
      rfl
    · show ((T.heap.toList.drop T.heap.size).map (·.slots.size)).sum ≤ 0
      rw [List.drop_eq_nil_of_le (Nat.le_of_eq Array.length_toList)]
      exact Nat.le_refl _
/-- 'throw new E()': new; dup; invokespecial; athrow -/
theorem vx_throw0 {cc : ByteArray} {pc : Nat} (hexec : p.tables.exec = Jvm.exec) (hb : c.code = cc) (hl : l.stackTraces = false) {own cls : String} {names : List String} {ik ic mc ms : Nat} {A : Nat → Prop}
    (hown : s.vm.findClass own = some m.cls) (hcls : Bundle.fit cls = true) (hnames : ∀ n ∈ names, Bundle.fit n = true)
    (hk : (Cond.classLink own ik cls).before args s = true) (hini : (Cond.initialized cls).before args s = true) (hat : ∀ w ∈ vx_at0 own ic cls names, w.before args s = true)
    (hgood : ∀ w ∈ Cond.classLink own ik cls :: Cond.initialized cls :: vx_at0 own ic cls names, vx_ot w = true)
    (hU : vx_Zq Bundle.tN "UNASSIGNED_STACK" Bundle.steD A s s.heap) (hN : vx_Zq Bundle.tN "SUPPRESSED_SENTINEL" Bundle.listD A s s.heap) (hS : va_S A s.heap H locs) (hsize : ls.size = c.maxLocals)
    (d0 : decode cc pc = .ok (.new ik, 3)) (d3 : decode cc (pc + 3) = .ok (.dup, 1)) (d4 : decode cc (pc + 4) = .ok (.invokespecial ic, 3)) (d7 : decode cc (pc + 7) = .ok (.athrow, 1))
    (hout : ∀ x ∈ c.exceptionTable.toList, covers x (pc + 7) = false)
    (hRframes : names.length + 3 < R.frames) (hRlocals : (rest.map fun v => v.category).sum + (13 * (names.length + 1) + 42) ≤ R.locals) (hRcells : cells + 1 ≤ R.cells) (hRslots : slots + 6 ≤ R.slots) (hlocks : meth.locks = false)
    (hx : ∀ t : State, s.vm.Alike t.vm → H.size ≤ t.heap.size → (∀ q : Nat, q < H.size → t.heap[q]? = H[q]?) → XC cls s t)
    (hf : ∀ z ∈ locs, free z.base) (hc : cells + 1 ≤ mc) (hs : slots + 6 ≤ ms) :
    W p l e R s m args below meth c H locs cells slots (vx_MQ below Qc XC args s mc ms free) (F0 m pc ls rest) := by
  intro T hT X
  have htr : e.platform.stackTraces = false := (show e.platform.stackTraces = l.stackTraces by rw [X.admits.platform]).trans hl
  have Y := vx_rebase X (R' := { frames := R.frames, locals := R.locals, cells := 1, slots := 6 }) (Nat.le_refl _) (Nat.le_refl _) hRcells hRslots
  obtain ⟨s', hA⟩ : ∃ z, z = (T.setVm s.vm).setFrames (.invoking m args :: below) := ⟨_, rfl⟩
  rw [← hA] at Y
  have hvm : s'.vm = s.vm := by rw [hA]; rfl
  have hhp : s'.heap = H := by rw [hA]; exact hT
  have hW0 : s.WarmedH s'.vm := by rw [hvm]; exact State.WarmedH.refl s
  have hat' : ∀ w ∈ vx_at0 own ic cls names, w.before args s' = true := fun w hw => vx_ot_at hW0 hvm.symm (hgood w (List.mem_cons_of_mem _ (List.mem_cons_of_mem _ hw))) (hat w hw)
  have hk' : (Cond.classLink own ik cls).before args s' = true := vx_ot_at hW0 hvm.symm (hgood _ List.mem_cons_self) hk
  have hini' : (Cond.initialized cls).before args s' = true := vx_ot_at hW0 hvm.symm (hgood _ (List.mem_cons_of_mem _ List.mem_cons_self)) hini
  have hU' : vx_Zq Bundle.tN "UNASSIGNED_STACK" Bundle.steD A s' s'.heap := by rw [hhp]; exact vx_Zq.moved hW0.alike (hU.kept hS.2.1)
  have hN' : vx_Zq Bundle.tN "SUPPRESSED_SENTINEL" Bundle.listD A s' s'.heap := by rw [hhp]; exact vx_Zq.moved hW0.alike (hN.kept hS.2.1)
  have h : ∀ w ∈ Bundle.ownAtoms0 own ic cls names, w.before args s' = true := vx_own hat' (vx_isRefq hU'.1) (vx_isRefq hN'.1) hU'.2.word hN'.2.word
  have hown' : s'.vm.findClass own = some m.cls := by rw [hvm]; exact hown
  have hins : (Cond.instantiable cls 6).before args s' = true := h _ (by simp [Bundle.ownAtoms0])
  obtain ⟨vm₁, cX, kX, hfX, hkX, -, -, X₁, st1⟩ := Y.newCold hexec (own := own) (C := cls) (index := ik) (n := 6) hown' hk' hins hini'
    (g := F0 m pc ls rest) rfl (by rw [hb]; exact d0) (Nat.le_refl _) (Nat.le_refl _)
  generalize hT1 : (T.setVm vm₁).pushCell { cls := cX, slots := kX.instanceTypes.map defaultValue, vm := .none } = T1 at X₁ st1
  have hcat : (Value.ref T.heap.size).category = 1 := rfl
  have hcellA : T1.heap[T.heap.size]? = some (freshCell cX kX) := by rw [← hT1]; exact State.heap_pushCell_size _ _
  have d3' : decode c.code (pc + 3) = .ok (.dup, 1) := by rw [hb]; exact d3
  obtain ⟨U, hsteps, hrun, hend, hW, hsame, ce, hce, hO⟩ := X₁.ctorThrow0 hexec htr (own := own) (cls := cls) (names := names) (ic := ic) hown' hcls hnames h (fun x hx => nomatch hx) hfX hkX hcellA (by rw [hhp, hT]; exact Nat.le_refl _)
    (g := { method := m, pc := pc + 4, locals := ls, stack := .ref T.heap.size :: .ref T.heap.size :: rest, locked := none }) rfl hsize rfl rfl (rest := rest) rfl
    (by rw [hb]; exact d4) (by rw [hb]; exact d7) hout hRframes (by simp only [List.map_cons, List.sum_cons, hcat]; omega) hlocks
  obtain ⟨f1, f2⟩ := vx_frame hsame
  rw [hhp] at f1 f2
  have hWs : s.WarmedH U.vm := State.WarmedH.trans hW0 hW
  have hcl : s.vm.findClass cls = some ce.cls := by
    have h9 := hO.cls
    rw [hvm] at h9
    exact h9
  have hall : s.sameButNew ({ U with vm := s.vm } : State) locs mc ms := by
    subst hA
    obtain ⟨e1, e2⟩ := hsame
    rw [State.setFrames_setFrames] at e1
    have h2 : (T.setVm s.vm).sameButNew ({ U with vm := s.vm } : State) [] (0 + 1) (0 + 6) := ⟨e1, e2⟩
    have h3 := X.same.trans h2
    rw [List.append_nil] at h3
    exact h3.mono hc hs
  refine ⟨U, ?_, .threw T.heap.size, hrun, hend, Or.inr ⟨T.heap.size, rfl, cls, ce, locs, hx U hWs.alike f1 (fun q hq => f2 q hq (fun z hz => nomatch hz)), hce, hO.vm, hcl, hWs, hall, hf⟩⟩
  refine st1 _ ?_
  show Steps p.tables e below (T1.setTop { method := m, pc := pc + 3, locals := ls, stack := .ref T.heap.size :: rest, locked := none }) _
  jvm_step X₁.here [X₁.here.top, hexec, d3', Value.category]
  exact hsteps
/-- 'throw new E("text")': new; dup; ldc; invokespecial; athrow -/
theorem vx_throwS {cc : ByteArray} {pc : Nat} (hexec : p.tables.exec = Jvm.exec) (hb : c.code = cc) (hl : l.stackTraces = false) {own cls text : String} {names : List String} {ik is ic mc ms sa : Nat} {A : Nat → Prop}
    (hown : s.vm.findClass own = some m.cls) (hcls : Bundle.fit cls = true) (hnames : ∀ n ∈ names, Bundle.fit n = true)
    (hk : (Cond.classLink own ik cls).before args s = true) (hini : (Cond.initialized cls).before args s = true) (hstr : vk_R own is text sa s) (hat : ∀ w ∈ vx_atS own ic cls names, w.before args s = true)
    (hgood : ∀ w ∈ Cond.classLink own ik cls :: Cond.initialized cls :: vx_atS own ic cls names, vx_ot w = true)
    (hU : vx_Zq Bundle.tN "UNASSIGNED_STACK" Bundle.steD A s s.heap) (hN : vx_Zq Bundle.tN "SUPPRESSED_SENTINEL" Bundle.listD A s s.heap) (hS : va_S A s.heap H locs) (hsize : ls.size = c.maxLocals)
    (d0 : decode cc pc = .ok (.new ik, 3)) (d3 : decode cc (pc + 3) = .ok (.dup, 1)) (d4 : decode cc (pc + 4) = .ok (.ldc is, 2)) (d6 : decode cc (pc + 6) = .ok (.invokespecial ic, 3)) (d9 : decode cc (pc + 9) = .ok (.athrow, 1))
    (hout : ∀ x ∈ c.exceptionTable.toList, covers x (pc + 9) = false)
    (hRframes : names.length + 3 < R.frames) (hRlocals : (rest.map fun v => v.category).sum + (13 * (names.length + 1) + 43) ≤ R.locals) (hRcells : cells + 1 ≤ R.cells) (hRslots : slots + 6 ≤ R.slots) (hlocks : meth.locks = false)
    (hx : ∀ t : State, s.vm.Alike t.vm → H.size ≤ t.heap.size → (∀ q : Nat, q < H.size → t.heap[q]? = H[q]?) → XC cls s t)
    (hf : ∀ z ∈ locs, free z.base) (hc : cells + 1 ≤ mc) (hs : slots + 6 ≤ ms) :
    W p l e R s m args below meth c H locs cells slots (vx_MQ below Qc XC args s mc ms free) (F0 m pc ls rest) := by
  intro T hT X
  have htr : e.platform.stackTraces = false := (show e.platform.stackTraces = l.stackTraces by rw [X.admits.platform]).trans hl
  have Y := vx_rebase X (R' := { frames := R.frames, locals := R.locals, cells := 1, slots := 6 }) (Nat.le_refl _) (Nat.le_refl _) hRcells hRslots
  obtain ⟨s', hA⟩ : ∃ z, z = (T.setVm s.vm).setFrames (.invoking m args :: below) := ⟨_, rfl⟩
  rw [← hA] at Y
  have hvm : s'.vm = s.vm := by rw [hA]; rfl
  have hhp : s'.heap = H := by rw [hA]; exact hT
  have hW0 : s.WarmedH s'.vm := by rw [hvm]; exact State.WarmedH.refl s
  have hat' : ∀ w ∈ vx_atS own ic cls names, w.before args s' = true := fun w hw => vx_ot_at hW0 hvm.symm (hgood w (List.mem_cons_of_mem _ (List.mem_cons_of_mem _ hw))) (hat w hw)
  have hk' : (Cond.classLink own ik cls).before args s' = true := vx_ot_at hW0 hvm.symm (hgood _ List.mem_cons_self) hk
  have hini' : (Cond.initialized cls).before args s' = true := vx_ot_at hW0 hvm.symm (hgood _ (List.mem_cons_of_mem _ List.mem_cons_self)) hini
  have hU' : vx_Zq Bundle.tN "UNASSIGNED_STACK" Bundle.steD A s' s'.heap := by rw [hhp]; exact vx_Zq.moved hW0.alike (hU.kept hS.2.1)
  have hN' : vx_Zq Bundle.tN "SUPPRESSED_SENTINEL" Bundle.listD A s' s'.heap := by rw [hhp]; exact vx_Zq.moved hW0.alike (hN.kept hS.2.1)
  have h : ∀ w ∈ Bundle.ownAtoms own ic cls names, w.before args s' = true := vx_own hat' (vx_isRefq hU'.1) (vx_isRefq hN'.1) hU'.2.word hN'.2.word
  have hown' : s'.vm.findClass own = some m.cls := by rw [hvm]; exact hown
  have hins : (Cond.instantiable cls 6).before args s' = true := h _ (by simp [Bundle.ownAtoms])
  obtain ⟨vm₁, cX, kX, hfX, hkX, -, -, X₁, st1⟩ := Y.newCold hexec (own := own) (C := cls) (index := ik) (n := 6) hown' hk' hins hini'
    (g := F0 m pc ls rest) rfl (by rw [hb]; exact d0) (Nat.le_refl _) (Nat.le_refl _)
  generalize hT1 : (T.setVm vm₁).pushCell { cls := cX, slots := kX.instanceTypes.map defaultValue, vm := .none } = T1 at X₁ st1
  have hcat : (Value.ref T.heap.size).category = 1 := rfl
  have hcellA : T1.heap[T.heap.size]? = some (freshCell cX kX) := by rw [← hT1]; exact State.heap_pushCell_size _ _
  have d3' : decode c.code (pc + 3) = .ok (.dup, 1) := by rw [hb]; exact d3
  have d4' : decode c.code (pc + 4) = .ok (.ldc is, 2) := by rw [hb]; exact d4
  have hstr' : vk_R own is text sa s' := vk_R.warm hW0 hstr
  obtain ⟨U, hsteps, hrun, hend, hW, hsame, ce, hce, hO⟩ := X₁.ctorThrowS hexec htr (own := own) (cls := cls) (names := names) (ic := ic) hown' hcls hnames h (fun x hx => nomatch hx) hfX hkX hcellA (by rw [hhp, hT]; exact Nat.le_refl _) (msg := .ref sa) rfl
    (g := { method := m, pc := pc + 6, locals := ls, stack := .ref sa :: .ref T.heap.size :: .ref T.heap.size :: rest, locked := none }) rfl hsize rfl rfl (rest := rest) rfl
    (by rw [hb]; exact d6) (by rw [hb]; exact d9) hout hRframes (by simp only [List.map_cons, List.sum_cons, hcat]; omega) hlocks
  obtain ⟨f1, f2⟩ := vx_frame hsame
  rw [hhp] at f1 f2
  have hWs : s.WarmedH U.vm := State.WarmedH.trans hW0 hW
  have hcl : s.vm.findClass cls = some ce.cls := by
    have h9 := hO.cls
    rw [hvm] at h9
    exact h9
  have hall : s.sameButNew ({ U with vm := s.vm } : State) locs mc ms := by
    subst hA
    obtain ⟨e1, e2⟩ := hsame
    rw [State.setFrames_setFrames] at e1
    have h2 : (T.setVm s.vm).sameButNew ({ U with vm := s.vm } : State) [] (0 + 1) (0 + 6) := ⟨e1, e2⟩
    have h3 := X.same.trans h2
    rw [List.append_nil] at h3
    exact h3.mono hc hs
  refine ⟨U, ?_, .threw T.heap.size, hrun, hend, Or.inr ⟨T.heap.size, rfl, cls, ce, locs, hx U hWs.alike f1 (fun q hq => f2 q hq (fun z hz => nomatch hz)), hce, hO.vm, hcl, hWs, hall, hf⟩⟩
  refine st1 _ ?_
  show Steps p.tables e below (T1.setTop { method := m, pc := pc + 3, locals := ls, stack := .ref T.heap.size :: rest, locked := none }) _
  jvm_step X₁.here [X₁.here.top, hexec, d3', Value.category]
  exact X₁.ldcString hexec (own := own) (text := text) (index := is) (a := sa) hown' hstr'.1 hstr'.2
    (g := { method := m, pc := pc + 4, locals := ls, stack := .ref T.heap.size :: .ref T.heap.size :: rest, locked := none }) rfl d4' _ hsteps
/-- 'throw new E("text")', the text by a wide index -/
theorem vx_throwSW {cc : ByteArray} {pc : Nat} (hexec : p.tables.exec = Jvm.exec) (hb : c.code = cc) (hl : l.stackTraces = false) {own cls text : String} {names : List String} {ik is ic mc ms sa : Nat} {A : Nat → Prop}
    (hown : s.vm.findClass own = some m.cls) (hcls : Bundle.fit cls = true) (hnames : ∀ n ∈ names, Bundle.fit n = true)
    (hk : (Cond.classLink own ik cls).before args s = true) (hini : (Cond.initialized cls).before args s = true) (hstr : vk_R own is text sa s) (hat : ∀ w ∈ vx_atS own ic cls names, w.before args s = true)
    (hgood : ∀ w ∈ Cond.classLink own ik cls :: Cond.initialized cls :: vx_atS own ic cls names, vx_ot w = true)
    (hU : vx_Zq Bundle.tN "UNASSIGNED_STACK" Bundle.steD A s s.heap) (hN : vx_Zq Bundle.tN "SUPPRESSED_SENTINEL" Bundle.listD A s s.heap) (hS : va_S A s.heap H locs) (hsize : ls.size = c.maxLocals)
    (d0 : decode cc pc = .ok (.new ik, 3)) (d3 : decode cc (pc + 3) = .ok (.dup, 1)) (d4 : decode cc (pc + 4) = .ok (.ldc_w is, 3)) (d7 : decode cc (pc + 7) = .ok (.invokespecial ic, 3)) (d10 : decode cc (pc + 10) = .ok (.athrow, 1))
    (hout : ∀ x ∈ c.exceptionTable.toList, covers x (pc + 10) = false)
    (hRframes : names.length + 3 < R.frames) (hRlocals : (rest.map fun v => v.category).sum + (13 * (names.length + 1) + 43) ≤ R.locals) (hRcells : cells + 1 ≤ R.cells) (hRslots : slots + 6 ≤ R.slots) (hlocks : meth.locks = false)
    (hx : ∀ t : State, s.vm.Alike t.vm → H.size ≤ t.heap.size → (∀ q : Nat, q < H.size → t.heap[q]? = H[q]?) → XC cls s t)
    (hf : ∀ z ∈ locs, free z.base) (hc : cells + 1 ≤ mc) (hs : slots + 6 ≤ ms) :
    W p l e R s m args below meth c H locs cells slots (vx_MQ below Qc XC args s mc ms free) (F0 m pc ls rest) := by
  intro T hT X
  have htr : e.platform.stackTraces = false := (show e.platform.stackTraces = l.stackTraces by rw [X.admits.platform]).trans hl
  have Y := vx_rebase X (R' := { frames := R.frames, locals := R.locals, cells := 1, slots := 6 }) (Nat.le_refl _) (Nat.le_refl _) hRcells hRslots
  obtain ⟨s', hA⟩ : ∃ z, z = (T.setVm s.vm).setFrames (.invoking m args :: below) := ⟨_, rfl⟩
  rw [← hA] at Y
  have hvm : s'.vm = s.vm := by rw [hA]; rfl
  have hhp : s'.heap = H := by rw [hA]; exact hT
  have hW0 : s.WarmedH s'.vm := by rw [hvm]; exact State.WarmedH.refl s
  have hat' : ∀ w ∈ vx_atS own ic cls names, w.before args s' = true := fun w hw => vx_ot_at hW0 hvm.symm (hgood w (List.mem_cons_of_mem _ (List.mem_cons_of_mem _ hw))) (hat w hw)
  have hk' : (Cond.classLink own ik cls).before args s' = true := vx_ot_at hW0 hvm.symm (hgood _ List.mem_cons_self) hk
  have hini' : (Cond.initialized cls).before args s' = true := vx_ot_at hW0 hvm.symm (hgood _ (List.mem_cons_of_mem _ List.mem_cons_self)) hini
  have hU' : vx_Zq Bundle.tN "UNASSIGNED_STACK" Bundle.steD A s' s'.heap := by rw [hhp]; exact vx_Zq.moved hW0.alike (hU.kept hS.2.1)
  have hN' : vx_Zq Bundle.tN "SUPPRESSED_SENTINEL" Bundle.listD A s' s'.heap := by rw [hhp]; exact vx_Zq.moved hW0.alike (hN.kept hS.2.1)
  have h : ∀ w ∈ Bundle.ownAtoms own ic cls names, w.before args s' = true := vx_own hat' (vx_isRefq hU'.1) (vx_isRefq hN'.1) hU'.2.word hN'.2.word
  have hown' : s'.vm.findClass own = some m.cls := by rw [hvm]; exact hown
  have hins : (Cond.instantiable cls 6).before args s' = true := h _ (by simp [Bundle.ownAtoms])
  obtain ⟨vm₁, cX, kX, hfX, hkX, -, -, X₁, st1⟩ := Y.newCold hexec (own := own) (C := cls) (index := ik) (n := 6) hown' hk' hins hini'
    (g := F0 m pc ls rest) rfl (by rw [hb]; exact d0) (Nat.le_refl _) (Nat.le_refl _)
  generalize hT1 : (T.setVm vm₁).pushCell { cls := cX, slots := kX.instanceTypes.map defaultValue, vm := .none } = T1 at X₁ st1
  have hcat : (Value.ref T.heap.size).category = 1 := rfl
  have hcellA : T1.heap[T.heap.size]? = some (freshCell cX kX) := by rw [← hT1]; exact State.heap_pushCell_size _ _
  have d3' : decode c.code (pc + 3) = .ok (.dup, 1) := by rw [hb]; exact d3
  have d4' : decode c.code (pc + 4) = .ok (.ldc_w is, 3) := by rw [hb]; exact d4
  have hstr' : vk_R own is text sa s' := vk_R.warm hW0 hstr
  obtain ⟨U, hsteps, hrun, hend, hW, hsame, ce, hce, hO⟩ := X₁.ctorThrowS hexec htr (own := own) (cls := cls) (names := names) (ic := ic) hown' hcls hnames h (fun x hx => nomatch hx) hfX hkX hcellA (by rw [hhp, hT]; exact Nat.le_refl _) (msg := .ref sa) rfl
    (g := { method := m, pc := pc + 7, locals := ls, stack := .ref sa :: .ref T.heap.size :: .ref T.heap.size :: rest, locked := none }) rfl hsize rfl rfl (rest := rest) rfl
    (by rw [hb]; exact d7) (by rw [hb]; exact d10) hout hRframes (by simp only [List.map_cons, List.sum_cons, hcat]; omega) hlocks
  obtain ⟨f1, f2⟩ := vx_frame hsame
  rw [hhp] at f1 f2
  have hWs : s.WarmedH U.vm := State.WarmedH.trans hW0 hW
  have hcl : s.vm.findClass cls = some ce.cls := by
    have h9 := hO.cls
    rw [hvm] at h9
    exact h9
  have hall : s.sameButNew ({ U with vm := s.vm } : State) locs mc ms := by
    subst hA
    obtain ⟨e1, e2⟩ := hsame
    rw [State.setFrames_setFrames] at e1
    have h2 : (T.setVm s.vm).sameButNew ({ U with vm := s.vm } : State) [] (0 + 1) (0 + 6) := ⟨e1, e2⟩
    have h3 := X.same.trans h2
    rw [List.append_nil] at h3
    exact h3.mono hc hs
  refine ⟨U, ?_, .threw T.heap.size, hrun, hend, Or.inr ⟨T.heap.size, rfl, cls, ce, locs, hx U hWs.alike f1 (fun q hq => f2 q hq (fun z hz => nomatch hz)), hce, hO.vm, hcl, hWs, hall, hf⟩⟩
  refine st1 _ ?_
  show Steps p.tables e below (T1.setTop { method := m, pc := pc + 3, locals := ls, stack := .ref T.heap.size :: rest, locked := none }) _
  jvm_step X₁.here [X₁.here.top, hexec, d3', Value.category]
  exact X₁.ldcStringW hexec (own := own) (text := text) (index := is) (a := sa) hown' hstr'.1 hstr'.2
    (g := { method := m, pc := pc + 4, locals := ls, stack := .ref T.heap.size :: .ref T.heap.size :: rest, locked := none }) rfl d4' _ hsteps
end Ends
section Bodies
variable {l : Launch}
theorem vx_ofW {y : MethodName} {ws ws' : List Cond} {rm : Room} {Pc : Array Value → State → Prop} {Qc : Array Value → State → Outcome → State → Prop} {XC : String → State → State → Prop} {mc ms : Nat} {free : Addr → Prop} {cc : ByteArray} {maxL : Nat} {ret : Option FieldType}
    (hy : plainName y.cls = true) (hw : ws = Cond.code y cc maxL ret :: ws')
    (body : ∀ p e s m args below meth c s₁, BodyLoose p l y (headSpec ws rm) cc maxL ret e s m args below meth c s₁ → c.maxLocals = maxL → (∀ x ∈ c.exceptionTable.toList, False) → Pc args s →
      W p l e (headSpec ws rm).room s m args below meth c s.heap [] 0 0 (vx_MQ below Qc XC args s mc ms free) (entryFrame m args maxL)) : vx_Met l y ws rm Pc Qc XC mc ms free := by
  refine MetFree.of_bodyS (code := cc) (maxLocals := maxL) (ret := ret) hy ?_ ?_
  · intro args s m h hn
    obtain ⟨meth, c, h1, h2, h3, h4, h5, h6, -, -⟩ := Cond.code_spec hn (atoms_spec (ws := ws) h _ (by rw [hw]; exact List.mem_cons_self))
    exact ⟨meth, c, h1, h2, h3, h4, h5, h6⟩
  · intro p e s m args below meth c s₁ B hml hP _
    have hh0 : s₁.heap = s.heap := by rw [B.state]; rfl
    have ht : ∀ x ∈ c.exceptionTable.toList, False := by
      obtain ⟨meth9, c9, h1, h2, -, -, -, -, h7, -⟩ := Cond.code_spec B.named (atoms_spec (ws := ws) B.pre _ (by rw [hw]; exact List.mem_cons_self))
      cases Option.some.inj (h1.symm.trans B.method)
      cases Option.some.inj (h2.symm.trans (Stand.of_body B).code)
      intro x hx
      rw [Array.isEmpty_iff.mp h7] at hx
      cases hx
    obtain ⟨t, a1, o, b1, b2, b3⟩ := body p e s m args below meth c s₁ B hml ht hP s₁ hh0 (Stand.of_body B)
    exact ⟨t, o, a1, b1, b2, b3⟩
/-- the table of a body with handlers -/
theorem vx_table {p : Program} {x y : MethodName} {S : Spec} {cc bytes : ByteArray} {maxL maxL' : Nat} {ret ret' : Option FieldType} {e : Env} {s s₁ : State} {m : MethodId} {args : Array Value} {below : List Frame} {meth : Method} {c : Code} {hh : List (Nat × Nat × Nat × Nat)}
    (B : BodyLoose p l y S cc maxL ret e s m args below meth c s₁) (h : (Cond.codeWith y bytes maxL' ret' hh).before args s = true) : c.exceptionTable.toList = tableOf hh := by
  obtain ⟨m9, meth9, c9, hn9, h1, h2, -, -, h6, -⟩ := Cond.codeWith_spec h
  cases Option.some.inj (hn9.symm.trans B.named)
  cases Option.some.inj (h1.symm.trans B.method)
  cases Option.some.inj (h2.symm.trans (Stand.of_body B).code)
  rw [← h6, table_eq]
end Bodies
end VXA
/-! ===== END ===== -/
/-! ===== BEGIN a static call of a method with an exception table ===== -/
section VXS
variable {p : Program} {l : Launch} {e : Env} {R : Room} {s : State} {m : MethodId} {args : Array Value} {below : List Frame} {meth : Method} {c : Code} {T : State} {H : Heap} {locs : List Loc} {cells slots : Nat}
abbrev vx_CSW (R : Room) (s : State) (args : Array Value) (own : String) (index : Nat) (y : MethodName) (bytes : ByteArray) (maxL : Nat) (ret : Option FieldType) (hh : List (Nat × Nat × Nat × Nat)) (ws : List Cond) (rm : Room) (mc ms n : Nat) : Prop :=
  (rm.cells = mc ∧ rm.slots = ms ∧ rm.frames + 1 ≤ R.frames ∧ 8 + (maxL + 11) + rm.locals ≤ R.locals ∧ (∀ w ∈ ws, ∀ (a' : Array Value) (U : State), s.WarmedH U.vm → w.before a' U = true) ∧ Cond.codeWith y bytes maxL ret hh ∈ ws) ∧
  (Cond.codeWith y bytes maxL ret hh).before args s = true ∧ (Cond.initialized y.cls).before args s = true ∧ (y.cls ≠ "java/lang/invoke/MethodHandle" ∧ y.cls ≠ "java/lang/invoke/VarHandle") ∧
  (∀ sig, parseMethodDescriptor y.desc = some sig → n = sig.parameters.length) ∧ (Cond.methodLink own index y).before args s = true ∧ (Cond.static y).before args s = true
theorem vx_cwSW {own : String} {index maxL mc ms : Nat} {y : MethodName} {bytes : ByteArray} {ret : Option FieldType} {hh : List (Nat × Nat × Nat × Nat)} {Ts ws ws' : List Cond} {rm : Room} (n : Nat) (ht : ∀ w ∈ Ts, w.before args s = true) (hT : GoodIn Ts (va_wsS own index y ws)) (hw : ws = Cond.codeWith y bytes maxL ret hh :: ws') (hrc : rm.cells = mc) (hrs : rm.slots = ms)
    (hd : y.cls ≠ "java/lang/invoke/MethodHandle" ∧ y.cls ≠ "java/lang/invoke/VarHandle" ∧ (parseMethodDescriptor y.desc).map (fun d => d.parameters.length) = some n) (hR : rm.frames + 1 ≤ R.frames ∧ 8 + (maxL + 11) + rm.locals ≤ R.locals) :
    vx_CSW R s args own index y bytes maxL ret hh ws rm mc ms n := by
  have ok : ∀ w ∈ va_wsS own index y ws, w.before args s = true := fun w h => ht w (hT w h).1
  have hG : GoodIn Ts ws := fun w h => hT w (by unfold va_wsS; exact List.mem_append_right _ h)
  have hc : Cond.codeWith y bytes maxL ret hh ∈ ws := by rw [hw]; exact List.mem_cons_self
  refine ⟨⟨hrc, hrs, hR.1, hR.2, pay_in ht hG, hc⟩, ht _ (hG _ hc).1, ok _ (by simp [va_wsS]), ⟨hd.1, hd.2.1⟩, fun sig h => ?_, ok _ (by simp [va_wsS]), ok _ (by simp [va_wsS])⟩
  have h2 := hd.2.2
  rw [h] at h2
  exact (Option.some.inj h2).symm
theorem vx_callSW (X : Stand p l e R s m args below meth c T locs cells slots) (hexec : p.tables.exec = Jvm.exec) {own : String} {index : Nat} {y : MethodName} {bytes : ByteArray} {maxL : Nat} {ret : Option FieldType} {hh : List (Nat × Nat × Nat × Nat)}
    (hown : s.vm.findClass own = some m.cls) (hlink : (Cond.methodLink own index y).before args s = true) (hstat : (Cond.static y).before args s = true) (hinit : (Cond.initialized y.cls).before args s = true)
    (hcode : (Cond.codeWith y bytes maxL ret hh).before args s = true) (hy : y.cls ≠ "java/lang/invoke/MethodHandle" ∧ y.cls ≠ "java/lang/invoke/VarHandle")
    {W9 : Nat} {Pre : Pt → Array Value → Prop} {Post : Pt → Array Value → Option Value → Pt → Prop} (hK : Back l R p e below s args y 3 W9 Pre Post)
    {g : JFrame} (hg : g.method = m) (hsize : g.locals.size = c.maxLocals) {argsL rest : List Value} (hlen : ∀ sig, parseMethodDescriptor y.desc = some sig → argsL.length = sig.parameters.length)
    (hstack : g.stack = argsL.reverse ++ rest) (hW : 2 * g.monitorRoom + (rest.map fun v => v.category).sum ≤ W9) (hdg : decode c.code g.pc = .ok (.invokestatic index, 3))
    (hpre : ∀ vm₁, s.WarmedH vm₁ → Pre ⟨T.setVm vm₁, locs, cells, slots⟩ argsL.toArray) :
    ∃ (v : Option Value) (vm₁ : Vm) (B : Pt), s.WarmedH vm₁ ∧ Stand p l e R s m args below meth c B.U B.locs B.cells B.slots ∧ Post ⟨T.setVm vm₁, locs, cells, slots⟩ argsL.toArray v B ∧
      ∀ target, Steps p.tables e below (B.U.setTop { g with pc := g.pc + 3, stack := v.toList ++ rest }) target → Steps p.tables e below (T.setTop g) target := by
  obtain ⟨mk, methM, cM, hnamed, hmethM, -, -, -, -, -, -, hsigM⟩ := Cond.codeWith_spec hcode
  have hstatic : methM.isStatic = true := Cond.static_spec hnamed hmethM hstat
  obtain ⟨kP, hkP, -⟩ := className_of_methodNamed hnamed
  have hinitP : kP.init = .initialized := Cond.initialized_spec (findClass_of_methodNamed hnamed) hkP hinit
  obtain ⟨vm₁, X₁, hstep₁⟩ := X.invokestatic hexec hown hlink hnamed hmethM hstatic hkP hinitP hy (g := g) hg (argsL := argsL) (rest := rest) (hlen _ hsigM) hstack hdg
  obtain ⟨v, B, X', hpost, hsteps⟩ := hK m meth c ⟨T.setVm vm₁, locs, cells, slots⟩ { g with stack := rest } (.invokestatic index) mk argsL.toArray X₁ hg hsize hdg hW (X₁.named hnamed) (hpre vm₁ X₁.warmed)
  exact ⟨v, vm₁, B, X₁.warmed, X', hpost, fun target h => hstep₁ _ fun acts => by rw [doInvoke_state]; exact hsteps.trans h⟩
theorem vx_runSW {y : MethodName} {bytes cc : ByteArray} {maxL nL mc ms n index : Nat} {ret : Option FieldType} {hh : List (Nat × Nat × Nat × Nat)} {ws : List Cond} {rm : Room} {Pc : Array Value → State → Prop} {Qc : Array Value → State → Outcome → State → Prop} {free : Addr → Prop} {Ts : List Cond} {own : String} {As rest : List Value} {g : JFrame}
    (S : CallFix p m c cc nL s args Ts own) (hM : Met l y ws rm Pc Qc mc ms free) (cw : vx_CSW R s args own index y bytes maxL ret hh ws rm mc ms n) (hp : PreS s H Pc As)
    (hg : g.method = m) (hn : As.length = n) (hsize : g.locals.size = nL) (hstack : g.stack = As.reverse ++ rest) (hW : 2 * g.monitorRoom + (rest.map fun v => v.category).sum ≤ 8) (hdg : decode cc g.pc = .ok (.invokestatic index, 3)) (hf : cells + mc ≤ R.cells ∧ slots + ms ≤ R.slots) :
    va_Run p l e R s m args below meth c H locs cells slots mc ms g rest (Qc As.toArray) (free) := by
  obtain ⟨⟨hrc, hrs, hfr, hlo, hws, hcw⟩, hcode, hini, hy, hlen, hl, hstt⟩ := cw
  have hK : Back l R p e below s args y 3 8 (PreOf R mc ms Pc) (PostOf Qc mc ms free) := va_backW (hh := hh) (bytes := bytes) (maxL := maxL) (ret := ret) hM hp.1 hrc hrs hfr hlo hws hcw (fun a' U hW => word_at hW (Or.inl (by first | rfl | simp [Cond.onTables, Cond.keeps, Cond.steady])) hini)
  obtain ⟨hx, hb, hml, ho, -⟩ := S
  intro T hT X
  obtain ⟨v, vm₁, ⟨U', l2, c2, s2⟩, hW₁, X', ⟨g', mk, t, L, e1, e2, hq, h1, hL, h2, h3⟩, st⟩ := vx_callSW X hx (hh := hh) (bytes := bytes) (maxL := maxL) (ret := ret) ho hl hstt hini hcode hy hK hg (hsize.trans hml.symm) (argsL := As) (rest := rest) (fun sig h => hn.trans (hlen sig h)) hstack hW (by rw [hb]; exact hdg)
    (fun vm₁ hW₁ => ⟨hf.1, hf.2, hp.2 (T.setVm vm₁) hT hW₁⟩)
  dsimp only [Pt.U, Pt.locs, Pt.cells, Pt.slots] at X' e1 e2 h1 h2 h3 st
  subst h1; subst h2; subst h3
  exact ⟨v, (T.setVm vm₁).calling g' mk As.toArray, t, U', L, hT, X', hL, e1, e2, hq, st⟩
/-- not caught here, past rows that name other classes: it goes on to the caller -/
theorem vx_outP {p : Program} {l : Launch} {e : Env} {R : Room} {s : State} {m : MethodId} {args : Array Value} {below : List Frame} {meth : Method} {c : Code} {H : Heap} {locs : List Loc} {cells slots : Nat} {free : Addr → Prop} {ls : Array Slot} {rest : List Value} {Qc : Array Value → State → Outcome → State → Prop} {XC : String → State → State → Prop}
    {pc : Nat} {own E : String} {ce : Cell} {q : Addr} {mc ms : Nat} (hown : s.vm.findClass own = some m.cls) (hlocks : meth.locks = false)
    (hpass : ∀ z ∈ c.exceptionTable.toList, covers z pc = false ∨ (z.catchType ≠ 0 ∧ ∃ nm : String, (Cond.classLink own z.catchType nm).before args s = true ∧ va_Nc E nm s)) (hcell : H[q]? = some ce) (hv : ce.vm = .none) (hcl : s.vm.findClass E = some ce.cls)
    (hx : ∀ t : State, t.heap = H → s.vm.Alike t.vm → XC E s t) (hf : ∀ z ∈ locs, free z.base) (hc : cells ≤ mc) (hs : slots ≤ ms) :
    vx_W p l e R s m args below meth c H locs cells slots (vx_MQ below Qc XC args s mc ms free) (F0 m pc ls rest) q := by
  intro T hT X
  have hpl : e.platform.magicAccessors = ({} : Platform).magicAccessors := by rw [X.admits.platform]
  obtain ⟨vm', hW', X', st⟩ := X.outThrough hlocks q (g := F0 m pc ls rest) rfl rfl rfl (cell := ce) (by rw [hT]; exact hcell) (by rw [hv]; rfl)
    (by obtain ⟨k9, h9, -⟩ := Vm.findClass_spec hcl; exact ⟨k9, h9⟩) (fun z hz => by
      rcases hpass z hz with h | ⟨hz0, nm, hl1, hn1⟩
      · exact Or.inl h
      · obtain ⟨c6, hc6, hcl6⟩ := Cond.classLink_spec hown hl1 e.platform hpl
        obtain ⟨a8, b8, h1, h2, h3⟩ := hn1
        cases Option.some.inj (h1.symm.trans hcl)
        cases Option.some.inj (h2.symm.trans hc6)
        exact Or.inr ⟨hz0, _, hcl6, h3⟩)
  obtain ⟨g₀, hfr⟩ := X'.frames_eq
  have hcell9 : ((T.setVm vm').setFrames (.throwing q :: below)).heap[q]? = some ce := by
    show T.heap[q]? = some ce
    rw [hT]; exact hcell
  have hend : Ended ((T.setVm vm').setFrames (.throwing q :: below)) below (.threw q) := State.frames_setFrames _ (State.cur_lt_of_frames hfr)
  refine ⟨(T.setVm vm').setFrames (.throwing q :: below), ?_, .threw q, X'.here.running, hend, Or.inr ⟨q, rfl, E, ce, locs, hx _ hT (X'.ends _).1.alike, hcell9, hv, hcl, (X'.ends _).1, (X'.ends _).2.mono hc hs, hf⟩⟩
  rw [X.pushThrowing_eq]
  exact st
/-- a thing of a world lies in the heap -/
theorem vx_lt {D : va_G} {cl : List vw_C} {ws : va_W} {H1 : Heap} (h : va_P D cl ws H1) {k : Nat} {q : Nat × va_E} (hk : ws[k]? = some q) : q.1 < H1.size := (h k q hk).lt
end VXS
/-! ===== END ===== -/
/-! ===== BEGIN methods with a table of their own: called by a name, returning or throwing ===== -/
section VXH
/-! vx_backW, vx_callVX, vx_callSX, vx_callVW, vx_runVW, vx_runVX, vx_runSX, vx_ofWH follow the same proofs as their sisters above (Free/Laws.lean, Shelf42/LK1.lean); vx_outP calls Shelf42/NT130.lean (outThrough). -/
section
variable {l : Launch} {R : Room} {p : Program} {e : Env} {below : List Frame} {s : State} {sargs : Array Value} {y : MethodName} {len W9 : Nat}
theorem vx_backW {ws : List Cond} {rm : Room} {Pc : Array Value → State → Prop} {Qc : Array Value → State → Outcome → State → Prop} {XC : String → State → State → Prop} {mc ms : Nat} {free : Addr → Prop} {bytes : ByteArray} {maxL : Nat} {ret : Option FieldType} {hh : List (Nat × Nat × Nat × Nat)}
    (hM : vx_Met l y ws rm Pc Qc XC mc ms free) (hblind : FrameBlind Pc) (hrc : rm.cells = mc) (hrs : rm.slots = ms)
    (hframes : rm.frames + 1 ≤ R.frames) (hlocals : W9 + (maxL + 11) + rm.locals ≤ R.locals)
    (hws : ∀ w ∈ ws, ∀ a' U, s.WarmedH U.vm → w.before a' U = true) (hcode : Cond.codeWith y bytes maxL ret hh ∈ ws) (hinit : ∀ a' U, s.WarmedH U.vm → (Cond.initialized y.cls).before a' U = true) :
    vx_Back l R p e below s sargs y len W9 (PreOf R mc ms Pc) (PostOf Qc mc ms free) (vx_Post XC mc ms free) := by
  intro m meth c A g ig mk a X hg hsize hdg hW hn hp
  have h1 : (headSpec ws rm).pre.before a A.U = true := atoms_intro fun w hw => hws w hw _ _ X.warmed
  have h2 : (Cond.codeWith y bytes maxL ret hh).before a A.U = true := hws _ hcode _ _ X.warmed
  have h3 : (Cond.initialized y.cls).before a A.U = true := hinit _ _ X.warmed
  have h4 : A.cells + (headSpec ws rm).room.cells ≤ R.cells := by rw [show (headSpec ws rm).room.cells = mc from hrc]; exact hp.1
  have h5 : A.slots + (headSpec ws rm).room.slots ≤ R.slots := by rw [show (headSpec ws rm).room.slots = ms from hrs]; exact hp.2.1
  have hPc : Pc a (A.U.calling g mk a) := hblind _ _ _ _ hp.2.2
  obtain ⟨U, Ls, c0, s0⟩ := A
  dsimp only [Pt.U, Pt.locs, Pt.cells, Pt.slots] at h1 h2 h3 h4 h5 X hn hPc ⊢
  obtain ⟨m9, methY, cY, hn9, hmY, hcY, -, hlY, -⟩ := Cond.codeWith_spec h2
  cases Option.some.inj (hn9.symm.trans hn)
  obtain ⟨kY, hkY, -⟩ := className_of_methodNamed hn
  have hinitY : kY.init = .initialized := Cond.initialized_spec (findClass_of_methodNamed hn) hkY h3
  have h : At U g.method c below := by rw [hg]; exact X.here
  have hlocals9 : W9 + (maxL + 11) + (headSpec ws rm).room.locals ≤ R.locals := hlocals
  have happ : (headSpec ws rm).appliesLoose y e.platform (U.calling g mk a) = true :=
    Spec.appliesLoose_calling (g := g) h hdg hn hkY hinitY
      (X.room_calling (g := g) (R' := (headSpec ws rm).room) hsize hmY hcY hframes (by rw [hlY]; omega) h4 h5) h1
  obtain ⟨mid, hmid⟩ := h.above
  have hfr : (U.setTop g).frames = (.java g :: mid) ++ below := by rw [State.frames_setTop' g h.top, hmid]; rfl
  obtain ⟨o, s₂, hsteps, -, hend, hq⟩ := Steps.callFree hM p X.admits X.cas X.clock (acts := []) hfr happ hPc trivial
  have hq' : vx_Q Qc XC mc ms free a (U.calling g mk a) o s₂ := hq
  rw [State.frames_setTop' g h.top] at hend
  obtain ⟨g₀, hg0⟩ := Option.isSome_iff_exists.mp h.top
  obtain ⟨r, hr⟩ := State.topJava?_eq_some.mp hg0
  have hr' : (({ U with heap := s₂.heap, slotsUsed := s₂.slotsUsed } : State).setVm s₂.vm).frames = .java g₀ :: r := hr
  rcases hq' with ⟨hqc, L, hfe, hL⟩ | ⟨q, rfl, E, ce, L, hx, hce, hcv, hcl, hW₂, hsm, hL⟩
  · obtain ⟨⟨v, rfl⟩, hW₂, e2, q2, q3, q4, q5, q6⟩ := id hfe
    have e3 : s₂ = ({ (U.calling g mk a).setFrames s₂.frames with heap := s₂.heap, slotsUsed := s₂.slotsUsed } : State).setVm s₂.vm := by
      have : s₂ = ({ s₂ with vm := (U.calling g mk a).vm } : State).setVm s₂.vm := rfl
      rw [e2] at this
      exact this
    obtain ⟨c₂, i₂, len₂, hc₂, hd₂, hf₂⟩ := hend
    have hW' : U.WarmedH s₂.vm := hW₂
    have hcc : c₂ = c := by
      have h1 : s₂.code? g.method = U.code? g.method := by
        rw [State.code?_eq, State.code?_eq, hW'.alike.method?]
      exact Option.some.inj (hc₂.symm.trans (h1.trans h.code))
    subst hcc
    have hlen : len₂ = len := by rw [hdg] at hd₂; cases hd₂; rfl
    subst hlen
    have hs₂ : s₂ = (({ U with heap := s₂.heap, slotsUsed := s₂.slotsUsed } : State).setVm s₂.vm).setTop { g with pc := g.pc + len₂, stack := v.toList ++ g.stack } := by
      refine e3.trans ?_
      rw [hf₂, State.calling_eq h.top, State.setFrames_setFrames, State.setTop_of_frames _ hr', hr]
      rfl
    have hsame : U.sameButNew ({ U with heap := s₂.heap, slotsUsed := s₂.slotsUsed } : State) L mc ms := by
      refine ⟨?_, q2, q3, q4, q5, q6⟩
      obtain ⟨t, ht, -⟩ := State.frames_cons hr
      show ({ U with heap := s₂.heap, slotsUsed := s₂.slotsUsed } : State) = { U.setFrames U.frames with heap := s₂.heap, slotsUsed := s₂.slotsUsed }
      rw [State.setFrames_self ht]
    subst hg
    refine Or.inl ⟨v, ⟨(({ U with heap := s₂.heap, slotsUsed := s₂.slotsUsed } : State).setVm s₂.vm), Ls ++ L, c0 + mc, s0 + ms⟩,
      ⟨X.admits, X.cas, X.clock, X.frames, X.room, X.hears, X.method, X.code, (X.here.setHeapUsed s₂.heap s₂.slotsUsed).setVm hW'.alike, X.tail, State.WarmedH.trans X.warmed hW', X.limits, X.bytes, X.same.trans (hsame.setVm s.vm)⟩,
      ⟨g, mk, s₂, L, rfl, rfl, hqc, rfl, hL, rfl, rfl⟩, ?_⟩
    show Steps p.tables e below _ ((({ U with heap := s₂.heap, slotsUsed := s₂.slotsUsed } : State).setVm s₂.vm).setTop { g with pc := g.pc + len₂, stack := v.toList ++ g.stack })
    rw [← hs₂]
    exact hsteps
  · obtain ⟨e2, q2, q3, q4, q5, q6⟩ := id hsm
    have e3 : s₂ = ({ (U.calling g mk a).setFrames s₂.frames with heap := s₂.heap, slotsUsed := s₂.slotsUsed } : State).setVm s₂.vm := by
      have : s₂ = ({ s₂ with vm := (U.calling g mk a).vm } : State).setVm s₂.vm := rfl
      rw [e2] at this
      exact this
    have hf₂ : s₂.frames = .throwing q :: .java g :: U.frames.tail := hend
    have hW' : U.WarmedH s₂.vm := hW₂
    have hs₂ : s₂ = ((({ U with heap := s₂.heap, slotsUsed := s₂.slotsUsed } : State).setVm s₂.vm).setTop g).pushFrame (.throwing q) := by
      refine e3.trans ?_
      rw [hf₂, State.calling_eq h.top, State.setFrames_setFrames, State.pushFrame, State.frames_setTop _ hr', State.setTop_of_frames _ hr', State.setFrames_setFrames, hr]
      rfl
    have hsame : U.sameButNew ({ U with heap := s₂.heap, slotsUsed := s₂.slotsUsed } : State) L mc ms := by
      refine ⟨?_, q2, q3, q4, q5, q6⟩
      obtain ⟨t, ht, -⟩ := State.frames_cons hr
      show ({ U with heap := s₂.heap, slotsUsed := s₂.slotsUsed } : State) = { U.setFrames U.frames with heap := s₂.heap, slotsUsed := s₂.slotsUsed }
      rw [State.setFrames_self ht]
    subst hg
    refine Or.inr ⟨q, ⟨(({ U with heap := s₂.heap, slotsUsed := s₂.slotsUsed } : State).setVm s₂.vm), Ls ++ L, c0 + mc, s0 + ms⟩,
      ⟨X.admits, X.cas, X.clock, X.frames, X.room, X.hears, X.method, X.code, (X.here.setHeapUsed s₂.heap s₂.slotsUsed).setVm hW'.alike, X.tail, State.WarmedH.trans X.warmed hW', X.limits, X.bytes, X.same.trans (hsame.setVm s.vm)⟩,
      ⟨g, mk, s₂, L, E, ce, rfl, rfl, hx, hce, hcv, hcl, rfl, hL, rfl, rfl⟩, ?_⟩
    show Steps p.tables e below _ (((({ U with heap := s₂.heap, slotsUsed := s₂.slotsUsed } : State).setVm s₂.vm).setTop g).pushFrame (.throwing q))
    rw [← hs₂]
    exact hsteps
end
variable {p : Program} {l : Launch} {e : Env} {R : Room} {s : State} {m : MethodId} {args : Array Value} {below : List Frame} {meth : Method} {c : Code} {T : State} {H : Heap} {locs : List Loc} {cells slots : Nat}
theorem vx_callVX (X : Stand p l e R s m args below meth c T locs cells slots) (hexec : p.tables.exec = Jvm.exec) {own C : String} {index : Nat} {y : MethodName} {bytes : ByteArray} {maxL : Nat} {ret : Option FieldType} {hh : List (Nat × Nat × Nat × Nat)}
    (hown : s.vm.findClass own = some m.cls) (hlink : (Cond.methodLink own index y).before args s = true) (hinst : (Cond.instanceMethod y).before args s = true) (hsel : (Cond.selects C y y).before args s = true)
    (hcode : (Cond.codeWith y bytes maxL ret hh).before args s = true) (hy : y.cls ≠ "java/lang/invoke/MethodHandle" ∧ y.cls ≠ "java/lang/invoke/VarHandle")
    {W9 : Nat} {Pre : Pt → Array Value → Prop} {Post : Pt → Array Value → Option Value → Pt → Prop} {PostX : Pt → Array Value → Addr → Pt → Prop} (hK : vx_Back l R p e below s args y 3 W9 Pre Post PostX)
    {b : Addr} {cellB : Cell} (hcell : T.heap[b]? = some cellB) (hobj : cellB.vm.isStatics = false) (hcls : s.vm.findClass C = some cellB.cls)
    {g : JFrame} (hg : g.method = m) (hsize : g.locals.size = c.maxLocals) {argsL rest : List Value} (hlen : ∀ sig, parseMethodDescriptor y.desc = some sig → argsL.length = sig.parameters.length)
    (hstack : g.stack = argsL.reverse ++ .ref b :: rest) (hW : 2 * g.monitorRoom + (rest.map fun v => v.category).sum ≤ W9) (hdg : decode c.code g.pc = .ok (.invokevirtual index, 3))
    (hpre : ∀ vm₁, s.WarmedH vm₁ → Pre ⟨T.setVm vm₁, locs, cells, slots⟩ (Value.ref b :: argsL).toArray) :
    (∃ (v : Option Value) (vm₁ : Vm) (B : Pt), s.WarmedH vm₁ ∧ Stand p l e R s m args below meth c B.U B.locs B.cells B.slots ∧ Post ⟨T.setVm vm₁, locs, cells, slots⟩ (Value.ref b :: argsL).toArray v B ∧
      ∀ target, Steps p.tables e below (B.U.setTop { g with pc := g.pc + 3, stack := v.toList ++ rest }) target → Steps p.tables e below (T.setTop g) target) ∨
    (∃ (q : Addr) (vm₁ : Vm) (B : Pt), s.WarmedH vm₁ ∧ Stand p l e R s m args below meth c B.U B.locs B.cells B.slots ∧ PostX ⟨T.setVm vm₁, locs, cells, slots⟩ (Value.ref b :: argsL).toArray q B ∧
      Steps p.tables e below (T.setTop g) ((B.U.setTop { g with stack := rest }).pushFrame (.throwing q))) := by
  obtain ⟨mk, methM, hnamed, hmethM, hstM, habM⟩ := Cond.instanceMethod_spec hinst
  obtain ⟨m8, methM', cM, hn8, hmethM', -, -, -, -, -, -, hsigM⟩ := Cond.codeWith_spec hcode
  cases Option.some.inj (hn8.symm.trans hnamed)
  cases hmethM.symm.trans hmethM'
  obtain ⟨c2, r2, m2, q1, q2, q3, q4, kP, hkP, hkPi⟩ := Cond.selects_spec hsel
  cases hcls.symm.trans q1
  cases (State.methodFound?_of_named hnamed hy).symm.trans q2
  cases hnamed.symm.trans q3
  have hselP : selectMethod e.platform s.vm cellB.cls mk = .method mk := by rw [Launch.admits_selectMethod X.admits]; exact q4
  obtain ⟨vm₁, X₁, hstep₁⟩ := X.invokevirtual hexec hown hlink hnamed hmethM hstM hkP hkPi hy (a := b) (cell := cellB) hcell
    (fun z h => by rw [h] at hobj; cases hobj) hselP hmethM habM hkP hkPi (g := g) hg (argsL := argsL) (rest := rest) (hlen _ hsigM) hstack hdg
  rcases hK m meth c ⟨T.setVm vm₁, locs, cells, slots⟩ { g with stack := rest } (.invokevirtual index) mk (Value.ref b :: argsL).toArray X₁ hg hsize hdg hW (X₁.named hnamed) (hpre vm₁ X₁.warmed) with ⟨v, B, X', hpost, hsteps⟩ | ⟨q, B, X', hpost, hsteps⟩
  · exact Or.inl ⟨v, vm₁, B, X₁.warmed, X', hpost, fun target h => hstep₁ _ fun acts => by rw [doInvoke_state]; exact hsteps.trans h⟩
  · exact Or.inr ⟨q, vm₁, B, X₁.warmed, X', hpost, hstep₁ _ fun acts => by rw [doInvoke_state]; exact hsteps⟩
theorem vx_callSX (X : Stand p l e R s m args below meth c T locs cells slots) (hexec : p.tables.exec = Jvm.exec) {own : String} {index : Nat} {y : MethodName} {bytes : ByteArray} {maxL : Nat} {ret : Option FieldType} {hh : List (Nat × Nat × Nat × Nat)}
    (hown : s.vm.findClass own = some m.cls) (hlink : (Cond.methodLink own index y).before args s = true) (hstat : (Cond.static y).before args s = true) (hinit : (Cond.initialized y.cls).before args s = true)
    (hcode : (Cond.codeWith y bytes maxL ret hh).before args s = true) (hy : y.cls ≠ "java/lang/invoke/MethodHandle" ∧ y.cls ≠ "java/lang/invoke/VarHandle")
    {W9 : Nat} {Pre : Pt → Array Value → Prop} {Post : Pt → Array Value → Option Value → Pt → Prop} {PostX : Pt → Array Value → Addr → Pt → Prop} (hK : vx_Back l R p e below s args y 3 W9 Pre Post PostX)
    {g : JFrame} (hg : g.method = m) (hsize : g.locals.size = c.maxLocals) {argsL rest : List Value} (hlen : ∀ sig, parseMethodDescriptor y.desc = some sig → argsL.length = sig.parameters.length)
    (hstack : g.stack = argsL.reverse ++ rest) (hW : 2 * g.monitorRoom + (rest.map fun v => v.category).sum ≤ W9) (hdg : decode c.code g.pc = .ok (.invokestatic index, 3))
    (hpre : ∀ vm₁, s.WarmedH vm₁ → Pre ⟨T.setVm vm₁, locs, cells, slots⟩ argsL.toArray) :
    (∃ (v : Option Value) (vm₁ : Vm) (B : Pt), s.WarmedH vm₁ ∧ Stand p l e R s m args below meth c B.U B.locs B.cells B.slots ∧ Post ⟨T.setVm vm₁, locs, cells, slots⟩ argsL.toArray v B ∧
      ∀ target, Steps p.tables e below (B.U.setTop { g with pc := g.pc + 3, stack := v.toList ++ rest }) target → Steps p.tables e below (T.setTop g) target) ∨
    (∃ (q : Addr) (vm₁ : Vm) (B : Pt), s.WarmedH vm₁ ∧ Stand p l e R s m args below meth c B.U B.locs B.cells B.slots ∧ PostX ⟨T.setVm vm₁, locs, cells, slots⟩ argsL.toArray q B ∧
      Steps p.tables e below (T.setTop g) ((B.U.setTop { g with stack := rest }).pushFrame (.throwing q))) := by
  obtain ⟨mk, methM, cM, hnamed, hmethM, -, -, -, -, -, -, hsigM⟩ := Cond.codeWith_spec hcode
  have hstatic : methM.isStatic = true := Cond.static_spec hnamed hmethM hstat
  obtain ⟨kP, hkP, -⟩ := className_of_methodNamed hnamed
  have hinitP : kP.init = .initialized := Cond.initialized_spec (findClass_of_methodNamed hnamed) hkP hinit
  obtain ⟨vm₁, X₁, hstep₁⟩ := X.invokestatic hexec hown hlink hnamed hmethM hstatic hkP hinitP hy (g := g) hg (argsL := argsL) (rest := rest) (hlen _ hsigM) hstack hdg
  rcases hK m meth c ⟨T.setVm vm₁, locs, cells, slots⟩ { g with stack := rest } (.invokestatic index) mk argsL.toArray X₁ hg hsize hdg hW (X₁.named hnamed) (hpre vm₁ X₁.warmed) with ⟨v, B, X', hpost, hsteps⟩ | ⟨q, B, X', hpost, hsteps⟩
  · exact Or.inl ⟨v, vm₁, B, X₁.warmed, X', hpost, fun target h => hstep₁ _ fun acts => by rw [doInvoke_state]; exact hsteps.trans h⟩
  · exact Or.inr ⟨q, vm₁, B, X₁.warmed, X', hpost, hstep₁ _ fun acts => by rw [doInvoke_state]; exact hsteps⟩
theorem vx_callVW (X : Stand p l e R s m args below meth c T locs cells slots) (hexec : p.tables.exec = Jvm.exec) {own C : String} {index : Nat} {y : MethodName} {bytes : ByteArray} {maxL : Nat} {ret : Option FieldType} {hh : List (Nat × Nat × Nat × Nat)}
    (hown : s.vm.findClass own = some m.cls) (hlink : (Cond.methodLink own index y).before args s = true) (hinst : (Cond.instanceMethod y).before args s = true) (hsel : (Cond.selects C y y).before args s = true)
    (hcode : (Cond.codeWith y bytes maxL ret hh).before args s = true) (hy : y.cls ≠ "java/lang/invoke/MethodHandle" ∧ y.cls ≠ "java/lang/invoke/VarHandle")
    {W9 : Nat} {Pre : Pt → Array Value → Prop} {Post : Pt → Array Value → Option Value → Pt → Prop} (hK : Back l R p e below s args y 3 W9 Pre Post)
    {b : Addr} {cellB : Cell} (hcell : T.heap[b]? = some cellB) (hobj : cellB.vm.isStatics = false) (hcls : s.vm.findClass C = some cellB.cls)
    {g : JFrame} (hg : g.method = m) (hsize : g.locals.size = c.maxLocals) {argsL rest : List Value} (hlen : ∀ sig, parseMethodDescriptor y.desc = some sig → argsL.length = sig.parameters.length)
    (hstack : g.stack = argsL.reverse ++ .ref b :: rest) (hW : 2 * g.monitorRoom + (rest.map fun v => v.category).sum ≤ W9) (hdg : decode c.code g.pc = .ok (.invokevirtual index, 3))
    (hpre : ∀ vm₁, s.WarmedH vm₁ → Pre ⟨T.setVm vm₁, locs, cells, slots⟩ (Value.ref b :: argsL).toArray) :
    ∃ (v : Option Value) (vm₁ : Vm) (B : Pt), s.WarmedH vm₁ ∧ Stand p l e R s m args below meth c B.U B.locs B.cells B.slots ∧ Post ⟨T.setVm vm₁, locs, cells, slots⟩ (Value.ref b :: argsL).toArray v B ∧
      ∀ target, Steps p.tables e below (B.U.setTop { g with pc := g.pc + 3, stack := v.toList ++ rest }) target → Steps p.tables e below (T.setTop g) target := by
  obtain ⟨mk, methM, hnamed, hmethM, hstM, habM⟩ := Cond.instanceMethod_spec hinst
  obtain ⟨m8, methM', cM, hn8, hmethM', -, -, -, -, -, -, hsigM⟩ := Cond.codeWith_spec hcode
  cases Option.some.inj (hn8.symm.trans hnamed)
  cases hmethM.symm.trans hmethM'
  obtain ⟨c2, r2, m2, q1, q2, q3, q4, kP, hkP, hkPi⟩ := Cond.selects_spec hsel
  cases hcls.symm.trans q1
  cases (State.methodFound?_of_named hnamed hy).symm.trans q2
  cases hnamed.symm.trans q3
  have hselP : selectMethod e.platform s.vm cellB.cls mk = .method mk := by rw [Launch.admits_selectMethod X.admits]; exact q4
  obtain ⟨vm₁, X₁, hstep₁⟩ := X.invokevirtual hexec hown hlink hnamed hmethM hstM hkP hkPi hy (a := b) (cell := cellB) hcell
    (fun z h => by rw [h] at hobj; cases hobj) hselP hmethM habM hkP hkPi (g := g) hg (argsL := argsL) (rest := rest) (hlen _ hsigM) hstack hdg
  obtain ⟨v, B, X', hpost, hsteps⟩ := hK m meth c ⟨T.setVm vm₁, locs, cells, slots⟩ { g with stack := rest } (.invokevirtual index) mk (Value.ref b :: argsL).toArray X₁ hg hsize hdg hW (X₁.named hnamed) (hpre vm₁ X₁.warmed)
  exact ⟨v, vm₁, B, X₁.warmed, X', hpost, fun target h => hstep₁ _ fun acts => by rw [doInvoke_state]; exact hsteps.trans h⟩
abbrev vx_CVW (R : Room) (s : State) (args : Array Value) (own C : String) (index : Nat) (y : MethodName) (bytes : ByteArray) (maxL : Nat) (ret : Option FieldType) (hh : List (Nat × Nat × Nat × Nat)) (ws : List Cond) (rm : Room) (mc ms n : Nat) : Prop :=
  (rm.cells = mc ∧ rm.slots = ms ∧ rm.frames + 1 ≤ R.frames ∧ 8 + (maxL + 11) + rm.locals ≤ R.locals ∧ (∀ w ∈ ws, ∀ (a' : Array Value) (U : State), s.WarmedH U.vm → w.before a' U = true) ∧ Cond.codeWith y bytes maxL ret hh ∈ ws) ∧
  (Cond.codeWith y bytes maxL ret hh).before args s = true ∧ (Cond.initialized y.cls).before args s = true ∧ (y.cls ≠ "java/lang/invoke/MethodHandle" ∧ y.cls ≠ "java/lang/invoke/VarHandle") ∧
  (∀ sig, parseMethodDescriptor y.desc = some sig → n = sig.parameters.length) ∧ (Cond.methodLink own index y).before args s = true ∧ (Cond.instanceMethod y).before args s = true ∧ (Cond.selects C y y).before args s = true
theorem vx_cwVW {own C : String} {index maxL mc ms : Nat} {y : MethodName} {bytes : ByteArray} {ret : Option FieldType} {hh : List (Nat × Nat × Nat × Nat)} {Ts ws ws' : List Cond} {rm : Room} (n : Nat) (ht : ∀ w ∈ Ts, w.before args s = true) (hT : GoodIn Ts (wsV own index C y ws)) (hw : ws = Cond.codeWith y bytes maxL ret hh :: ws') (hrc : rm.cells = mc) (hrs : rm.slots = ms)
    (hd : y.cls = C ∧ y.cls ≠ "java/lang/invoke/MethodHandle" ∧ y.cls ≠ "java/lang/invoke/VarHandle" ∧ (parseMethodDescriptor y.desc).map (fun d => d.parameters.length) = some n) (hR : rm.frames + 1 ≤ R.frames ∧ 8 + (maxL + 11) + rm.locals ≤ R.locals) :
    vx_CVW R s args own C index y bytes maxL ret hh ws rm mc ms n := by
  obtain ⟨hC, hd⟩ := hd
  subst hC
  have ok : ∀ w ∈ wsV own index y.cls y ws, w.before args s = true := fun w h => ht w (hT w h).1
  have hG : GoodIn Ts ws := fun w h => hT w (by unfold wsV; exact List.mem_append_right _ h)
  have hc : Cond.codeWith y bytes maxL ret hh ∈ ws := by rw [hw]; exact List.mem_cons_self
  refine ⟨⟨hrc, hrs, hR.1, hR.2, pay_in ht hG, hc⟩, ht _ (hG _ hc).1, ok _ (by simp [wsV]), ⟨hd.1, hd.2.1⟩, fun sig h => ?_, ok _ (by simp [wsV]), ok _ (by simp [wsV]), ok _ (by simp [wsV])⟩
  have h2 := hd.2.2
  rw [h] at h2
  exact (Option.some.inj h2).symm
theorem vx_runVW {y : MethodName} {bytes cc : ByteArray} {maxL nL mc ms n index : Nat} {ret : Option FieldType} {hh : List (Nat × Nat × Nat × Nat)} {ws : List Cond} {rm : Room} {Pc : Array Value → State → Prop} {Qc : Array Value → State → Outcome → State → Prop} {free : Addr → Prop} {Ts : List Cond} {own C : String} {b : Addr} {As rest : List Value} {g : JFrame}
    (S : CallFix p m c cc nL s args Ts own) (hM : Met l y ws rm Pc Qc mc ms free) (cw : vx_CVW R s args own C index y bytes maxL ret hh ws rm mc ms n) (hp : PreV s H C b Pc As)
    (hg : g.method = m) (hn : As.length = n) (hsize : g.locals.size = nL) (hstack : g.stack = As.reverse ++ .ref b :: rest) (hW : 2 * g.monitorRoom + (rest.map fun v => v.category).sum ≤ 8) (hdg : decode cc g.pc = .ok (.invokevirtual index, 3)) (hf : cells + mc ≤ R.cells ∧ slots + ms ≤ R.slots) :
    va_Run p l e R s m args below meth c H locs cells slots mc ms g rest (Qc (Value.ref b :: As).toArray) free := by
  obtain ⟨⟨hrc, hrs, hfr, hlo, hws, hcw⟩, hcode, hini, hy, hlen, hl, hin, hse⟩ := cw
  have hK : Back l R p e below s args y 3 8 (PreOf R mc ms Pc) (PostOf Qc mc ms free) := va_backW (hh := hh) (bytes := bytes) (maxL := maxL) (ret := ret) hM hp.1 hrc hrs hfr hlo hws hcw (fun a' U hW => word_at hW (Or.inl (by first | rfl | simp [Cond.onTables, Cond.keeps, Cond.steady])) hini)
  obtain ⟨hx, hb, hml, ho, -⟩ := S
  obtain ⟨-, ⟨cellB, hcB, hoB, hclB⟩, hPc⟩ := hp
  intro T hT X
  obtain ⟨v, vm₁, ⟨U', l2, c2, s2⟩, hW₁, X', ⟨g', mk, t, L, e1, e2, hq, h1, hL, h2, h3⟩, st⟩ := vx_callVW X hx (C := C) (hh := hh) (bytes := bytes) (maxL := maxL) (ret := ret) ho hl hin hse hcode hy hK (by rw [hT]; exact hcB) hoB hclB hg (hsize.trans hml.symm) (argsL := As) (rest := rest) (fun sig h => hn.trans (hlen sig h)) hstack hW (by rw [hb]; exact hdg)
    (fun vm₁ hW₁ => ⟨hf.1, hf.2, hPc (T.setVm vm₁) hT hW₁⟩)
  dsimp only [Pt.U, Pt.locs, Pt.cells, Pt.slots] at X' e1 e2 h1 h2 h3 st
  subst h1; subst h2; subst h3
  exact ⟨v, (T.setVm vm₁).calling g' mk (Value.ref b :: As).toArray, t, U', L, hT, X', hL, e1, e2, hq, st⟩
section
variable {y : MethodName} {bytes cc : ByteArray} {maxL nL mc ms n index : Nat} {ret : Option FieldType} {ws : List Cond} {rm : Room} {Pc : Array Value → State → Prop} {Qc : Array Value → State → Outcome → State → Prop} {XC : String → State → State → Prop} {free : Addr → Prop} {Ts : List Cond} {own C : String} {b : Addr} {As rest : List Value} {g : JFrame}
theorem vx_runVX {hh : List (Nat × Nat × Nat × Nat)} (S : CallFix p m c cc nL s args Ts own) (hM : vx_Met l y ws rm Pc Qc XC mc ms free) (cw : vx_CVW R s args own C index y bytes maxL ret hh ws rm mc ms n) (hp : PreV s H C b Pc As)
    (hg : g.method = m) (hn : As.length = n) (hsize : g.locals.size = nL) (hstack : g.stack = As.reverse ++ .ref b :: rest) (hW : 2 * g.monitorRoom + (rest.map fun v => v.category).sum ≤ 8) (hdg : decode cc g.pc = .ok (.invokevirtual index, 3)) (hf : cells + mc ≤ R.cells ∧ slots + ms ≤ R.slots) :
    vx_Run p l e R s m args below meth c H locs cells slots mc ms g rest (Qc (Value.ref b :: As).toArray) XC free := by
  obtain ⟨⟨hrc, hrs, hfr, hlo, hws, hcw⟩, hcode, hini, hy, hlen, hl, hin, hse⟩ := cw
  have hK : vx_Back l R p e below s args y 3 8 (PreOf R mc ms Pc) (PostOf Qc mc ms free) (vx_Post XC mc ms free) := vx_backW (hh := hh) (bytes := bytes) (maxL := maxL) (ret := ret) hM hp.1 hrc hrs hfr hlo hws hcw (fun a' U hW => word_at hW (Or.inl (by first | rfl | simp [Cond.onTables, Cond.keeps, Cond.steady])) hini)
  obtain ⟨hx, hb, hml, ho, -⟩ := S
  obtain ⟨-, ⟨cellB, hcB, hoB, hclB⟩, hPc⟩ := hp
  intro T hT X
  rcases vx_callVX X hx (C := C) (hh := hh) (bytes := bytes) (maxL := maxL) (ret := ret) ho hl hin hse hcode hy hK (by rw [hT]; exact hcB) hoB hclB hg (hsize.trans hml.symm) (argsL := As) (rest := rest) (fun sig h => hn.trans (hlen sig h)) hstack hW (by rw [hb]; exact hdg)
    (fun vm₁ hW₁ => ⟨hf.1, hf.2, hPc (T.setVm vm₁) hT hW₁⟩) with ⟨v, vm₁, ⟨U', l2, c2, s2⟩, hW₁, X', ⟨g', mk, t, L, e1, e2, hq, h1, hL, h2, h3⟩, st⟩ | ⟨q, vm₁, ⟨U', l2, c2, s2⟩, hW₁, X', ⟨g', mk, t, L, E, ce, e1, e2, hq, hce, hcv, hcl, h1, hL, h2, h3⟩, st⟩
  · dsimp only [Pt.U, Pt.locs, Pt.cells, Pt.slots] at X' e1 e2 h1 h2 h3 st
    subst h1; subst h2; subst h3
    exact Or.inl ⟨v, (T.setVm vm₁).calling g' mk (Value.ref b :: As).toArray, t, U', L, hT, X', hL, e1, e2, hq, st⟩
  · dsimp only [Pt.U, Pt.locs, Pt.cells, Pt.slots] at X' e1 e2 h1 h2 h3 st hcl
    subst h1; subst h2; subst h3
    exact Or.inr ⟨q, (T.setVm vm₁).calling g' mk (Value.ref b :: As).toArray, t, U', L, E, ce, hT, X', hL, e1, e2, hq, hce, hcv, vx_cls hW₁ hcl, st⟩
theorem vx_runSX {hh : List (Nat × Nat × Nat × Nat)} (S : CallFix p m c cc nL s args Ts own) (hM : vx_Met l y ws rm Pc Qc XC mc ms free) (cw : vx_CSW R s args own index y bytes maxL ret hh ws rm mc ms n) (hp : PreS s H Pc As)
    (hg : g.method = m) (hn : As.length = n) (hsize : g.locals.size = nL) (hstack : g.stack = As.reverse ++ rest) (hW : 2 * g.monitorRoom + (rest.map fun v => v.category).sum ≤ 8) (hdg : decode cc g.pc = .ok (.invokestatic index, 3)) (hf : cells + mc ≤ R.cells ∧ slots + ms ≤ R.slots) :
    vx_Run p l e R s m args below meth c H locs cells slots mc ms g rest (Qc As.toArray) XC free := by
  obtain ⟨⟨hrc, hrs, hfr, hlo, hws, hcw⟩, hcode, hini, hy, hlen, hl, hstt⟩ := cw
  have hK : vx_Back l R p e below s args y 3 8 (PreOf R mc ms Pc) (PostOf Qc mc ms free) (vx_Post XC mc ms free) := vx_backW (hh := hh) (bytes := bytes) (maxL := maxL) (ret := ret) hM hp.1 hrc hrs hfr hlo hws hcw (fun a' U hW => word_at hW (Or.inl (by first | rfl | simp [Cond.onTables, Cond.keeps, Cond.steady])) hini)
  obtain ⟨hx, hb, hml, ho, -⟩ := S
  intro T hT X
  rcases vx_callSX X hx (hh := hh) (bytes := bytes) (maxL := maxL) (ret := ret) ho hl hstt hini hcode hy hK hg (hsize.trans hml.symm) (argsL := As) (rest := rest) (fun sig h => hn.trans (hlen sig h)) hstack hW (by rw [hb]; exact hdg)
    (fun vm₁ hW₁ => ⟨hf.1, hf.2, hp.2 (T.setVm vm₁) hT hW₁⟩) with ⟨v, vm₁, ⟨U', l2, c2, s2⟩, hW₁, X', ⟨g', mk, t, L, e1, e2, hq, h1, hL, h2, h3⟩, st⟩ | ⟨q, vm₁, ⟨U', l2, c2, s2⟩, hW₁, X', ⟨g', mk, t, L, E, ce, e1, e2, hq, hce, hcv, hcl, h1, hL, h2, h3⟩, st⟩
  · dsimp only [Pt.U, Pt.locs, Pt.cells, Pt.slots] at X' e1 e2 h1 h2 h3 st
    subst h1; subst h2; subst h3
    exact Or.inl ⟨v, (T.setVm vm₁).calling g' mk As.toArray, t, U', L, hT, X', hL, e1, e2, hq, st⟩
  · dsimp only [Pt.U, Pt.locs, Pt.cells, Pt.slots] at X' e1 e2 h1 h2 h3 st hcl
    subst h1; subst h2; subst h3
    exact Or.inr ⟨q, (T.setVm vm₁).calling g' mk As.toArray, t, U', L, E, ce, hT, X', hL, e1, e2, hq, hce, hcv, vx_cls hW₁ hcl, st⟩
end
end VXH
theorem vx_ofWH {l : Launch} {y : MethodName} {ws ws' : List Cond} {rm : Room} {Pc : Array Value → State → Prop} {Qc : Array Value → State → Outcome → State → Prop} {XC : String → State → State → Prop} {mc ms : Nat} {free : Addr → Prop} {cc : ByteArray} {maxL : Nat} {ret : Option FieldType} {hh : List (Nat × Nat × Nat × Nat)}
    (hy : plainName y.cls = true) (hw : ws = Cond.codeWith y cc maxL ret hh :: ws')
    (body : ∀ p e s m args below meth c s₁, BodyLoose p l y (headSpec ws rm) cc maxL ret e s m args below meth c s₁ → c.maxLocals = maxL → Pc args s →
      W p l e (headSpec ws rm).room s m args below meth c s.heap [] 0 0 (vx_MQ below Qc XC args s mc ms free) (entryFrame m args maxL)) : vx_Met l y ws rm Pc Qc XC mc ms free := by
  refine MetFree.of_bodyS (code := cc) (maxLocals := maxL) (ret := ret) hy ?_ ?_
  · intro args s m h hn
    obtain ⟨m9, meth, c, hn9, h1, h2, h3, h4, -, h5, h6, -⟩ := Cond.codeWith_spec (atoms_spec (ws := ws) h _ (by rw [hw]; exact List.mem_cons_self))
    cases hn.symm.trans hn9
    exact ⟨meth, c, h1, h2, h3, h4, h5, h6⟩
  · intro p e s m args below meth c s₁ B hml hP _
    have hh0 : s₁.heap = s.heap := by rw [B.state]; rfl
    obtain ⟨t, a1, o, b1, b2, b3⟩ := body p e s m args below meth c s₁ B hml hP s₁ hh0 (Stand.of_body B)
    exact ⟨t, o, a1, b1, b2, b3⟩
/-! ===== END ===== -/
end
section
def RX0 : String := "LawNumberer$Acts"
def TX0 : u_T := fun k => match k with
  | 0 => ("LawNumberer$Acts", "kinds", "[I", true)
  | 1 => ("LawNumberer$Acts", "actItems", "[I", true)
  | 2 => ("LawNumberer$Acts", "marks", "[I", true)
  | 3 => ("LawNumberer$Acts", "next", "I", false)
  | _ => ("LawNumberer$Acts", "size", "I", false)
def tyX0 : Nat → FieldType := fun k => match k with
  | 0 => .array .int
  | 1 => .array .int
  | 2 => .array .int
  | 3 => .int
  | _ => .int
abbrev wsX00 : List Cond := u_ws RX0 TX0 5
theorem nmX0 : ∀ a, a < 5 → ∀ b, b < 5 → a ≠ b → (TX0 a).2.1 ≠ (TX0 b).2.1 := by decide +kernel
theorem tyX0_ok : ∀ k, k < 5 → parseFieldDescriptor (TX0 k).2.2.1 = some (tyX0 k) := by decide +kernel
abbrev cX0_init : ByteArray := prog_2_method_1_code
def yX0_init : MethodName := ⟨RX0, "<init>", "()V"⟩
abbrev cX0_clear : ByteArray := prog_2_method_2_code
def yX0_clear : MethodName := ⟨RX0, "clear", "()V"⟩
abbrev cX0_open : ByteArray := prog_2_method_3_code
def yX0_open : MethodName := ⟨RX0, "open", "(III)V"⟩
abbrev cX0_latestSlot : ByteArray := prog_2_method_4_code
def yX0_latestSlot : MethodName := ⟨RX0, "latestSlot", "()I"⟩
abbrev cX0_latestKind : ByteArray := prog_2_method_5_code
def yX0_latestKind : MethodName := ⟨RX0, "latestKind", "()I"⟩
abbrev cX0_latestItem : ByteArray := prog_2_method_6_code
def yX0_latestItem : MethodName := ⟨RX0, "latestItem", "()I"⟩
abbrev cX0_latestMark : ByteArray := prog_2_method_7_code
def yX0_latestMark : MethodName := ⟨RX0, "latestMark", "()I"⟩
abbrev cX0_close : ByteArray := prog_2_method_8_code
def yX0_close : MethodName := ⟨RX0, "close", "()V"⟩
def RX1 : String := "LawNumberer$Forms"
def TX1 : u_T := fun k => match k with
  | _ => ("", "", "", false)
def tyX1 : Nat → FieldType := fun k => match k with
  | _ => .int
abbrev wsX10 : List Cond := u_ws RX1 TX1 0
theorem nmX1 : ∀ a, a < 0 → ∀ b, b < 0 → a ≠ b → (TX1 a).2.1 ≠ (TX1 b).2.1 := by decide +kernel
theorem tyX1_ok : ∀ k, k < 0 → parseFieldDescriptor (TX1 k).2.2.1 = some (tyX1 k) := by decide +kernel
abbrev cX1_writeLabel : ByteArray := prog_3_method_2_code
def yX1_writeLabel : MethodName := ⟨RX1, "writeLabel", "(LLawNumberer$Text;II)V"⟩
abbrev cX1_writeDigits : ByteArray := prog_3_method_3_code
def yX1_writeDigits : MethodName := ⟨RX1, "writeDigits", "(LLawNumberer$Text;I)V"⟩
abbrev cX1_writeRoman : ByteArray := prog_3_method_4_code
def yX1_writeRoman : MethodName := ⟨RX1, "writeRoman", "(LLawNumberer$Text;II)V"⟩
abbrev cX1_writeLetters : ByteArray := prog_3_method_5_code
def yX1_writeLetters : MethodName := ⟨RX1, "writeLetters", "(LLawNumberer$Text;I)V"⟩
abbrev cX1_isNumeral : ByteArray := prog_3_method_6_code
def yX1_isNumeral : MethodName := ⟨RX1, "isNumeral", "(II)Z"⟩
abbrev cX1_romanWorth : ByteArray := prog_3_method_7_code
def yX1_romanWorth : MethodName := ⟨RX1, "romanWorth", "(I)I"⟩
abbrev cX1_numberIn : ByteArray := prog_3_method_8_code
def yX1_numberIn : MethodName := ⟨RX1, "numberIn", "(LLawNumberer$Text;III)I"⟩
abbrev cX1_placesIn : ByteArray := prog_3_method_9_code
def yX1_placesIn : MethodName := ⟨RX1, "placesIn", "(LLawNumberer$Text;IIII)I"⟩
abbrev cX1_romanIn : ByteArray := prog_3_method_10_code
def yX1_romanIn : MethodName := ⟨RX1, "romanIn", "(LLawNumberer$Text;III)I"⟩
def RX2 : String := "LawNumberer$History"
def TX2 : u_T := fun k => match k with
  | 0 => ("LawNumberer$History", "givenTo", "[I", false)
  | 1 => ("LawNumberer$History", "days", "[I", false)
  | 2 => ("LawNumberer$History", "labels", "[I", false)
  | 3 => ("LawNumberer$History", "earlier", "[I", false)
  | 4 => ("LawNumberer$History", "last", "[I", true)
  | _ => ("LawNumberer$History", "size", "I", false)
def tyX2 : Nat → FieldType := fun k => match k with
  | 0 => .array .int
  | 1 => .array .int
  | 2 => .array .int
  | 3 => .array .int
  | 4 => .array .int
  | _ => .int
abbrev wsX20 : List Cond := u_ws RX2 TX2 6
theorem nmX2 : ∀ a, a < 6 → ∀ b, b < 6 → a ≠ b → (TX2 a).2.1 ≠ (TX2 b).2.1 := by decide +kernel
theorem tyX2_ok : ∀ k, k < 6 → parseFieldDescriptor (TX2 k).2.2.1 = some (tyX2 k) := by decide +kernel
abbrev cX2_init : ByteArray := prog_4_method_1_code
def yX2_init : MethodName := ⟨RX2, "<init>", "()V"⟩
abbrev cX2_clear : ByteArray := prog_4_method_2_code
def yX2_clear : MethodName := ⟨RX2, "clear", "()V"⟩
abbrev cX2_latest : ByteArray := prog_4_method_3_code
def yX2_latest : MethodName := ⟨RX2, "latest", "(I)I"⟩
abbrev cX2_asOf : ByteArray := prog_4_method_4_code
def yX2_asOf : MethodName := ⟨RX2, "asOf", "(II)I"⟩
abbrev cX2_give : ByteArray := prog_4_method_5_code
def yX2_give : MethodName := ⟨RX2, "give", "(III)V"⟩
abbrev cX2_cutTo : ByteArray := prog_4_method_6_code
def yX2_cutTo : MethodName := ⟨RX2, "cutTo", "(I)V"⟩
abbrev cX2_hasRoom : ByteArray := prog_4_method_7_code
def yX2_hasRoom : MethodName := ⟨RX2, "hasRoom", "()Z"⟩
def RX3 : String := "LawNumberer$Items"
def TX3 : u_T := fun k => match k with
  | 0 => ("LawNumberer$Items", "levels", "[I", true)
  | 1 => ("LawNumberer$Items", "under", "[I", true)
  | 2 => ("LawNumberer$Items", "came", "[I", true)
  | 3 => ("LawNumberer$Items", "struck", "[Z", true)
  | 4 => ("LawNumberer$Items", "order", "[I", true)
  | 5 => ("LawNumberer$Items", "size", "I", false)
  | _ => ("LawNumberer$Items", "struckSize", "I", false)
def tyX3 : Nat → FieldType := fun k => match k with
  | 0 => .array .int
  | 1 => .array .int
  | 2 => .array .int
  | 3 => .array .boolean
  | 4 => .array .int
  | 5 => .int
  | _ => .int
abbrev wsX30 : List Cond := u_ws RX3 TX3 7
theorem nmX3 : ∀ a, a < 7 → ∀ b, b < 7 → a ≠ b → (TX3 a).2.1 ≠ (TX3 b).2.1 := by decide +kernel
theorem tyX3_ok : ∀ k, k < 7 → parseFieldDescriptor (TX3 k).2.2.1 = some (tyX3 k) := by decide +kernel
abbrev cX3_init : ByteArray := prog_5_method_1_code
def yX3_init : MethodName := ⟨RX3, "<init>", "()V"⟩
abbrev cX3_clear : ByteArray := prog_5_method_2_code
def yX3_clear : MethodName := ⟨RX3, "clear", "()V"⟩
abbrev cX3_has : ByteArray := prog_5_method_3_code
def yX3_has : MethodName := ⟨RX3, "has", "(I)Z"⟩
abbrev cX3_isInRow : ByteArray := prog_5_method_4_code
def yX3_isInRow : MethodName := ⟨RX3, "isInRow", "(IIIZ)Z"⟩
abbrev cX3_placeOf : ByteArray := prog_5_method_5_code
def yX3_placeOf : MethodName := ⟨RX3, "placeOf", "(I)I"⟩
abbrev cX3_placeInRow : ByteArray := prog_5_method_6_code
def yX3_placeInRow : MethodName := ⟨RX3, "placeInRow", "(IZ)I"⟩
abbrev cX3_placeBehind : ByteArray := prog_5_method_7_code
def yX3_placeBehind : MethodName := ⟨RX3, "placeBehind", "(I)I"⟩
abbrev cX3_insert : ByteArray := prog_5_method_8_code
def yX3_insert : MethodName := ⟨RX3, "insert", "(IIII)V"⟩
abbrev cX3_dropLast : ByteArray := prog_5_method_9_code
def yX3_dropLast : MethodName := ⟨RX3, "dropLast", "()V"⟩
abbrev cX3_setStruck : ByteArray := prog_5_method_10_code
def yX3_setStruck : MethodName := ⟨RX3, "setStruck", "(IZ)V"⟩
def RX4 : String := "LawNumberer$LabelReader"
def TX4 : u_T := fun k => match k with
  | 0 => ("LawNumberer$LabelReader", "label", "I", false)
  | 1 => ("LawNumberer$LabelReader", "behind", "I", false)
  | 2 => ("LawNumberer$LabelReader", "fault", "I", false)
  | 3 => ("LawNumberer$LabelReader", "faultPlace", "I", false)
  | _ => ("LawNumberer$LabelReader", "written", "LLawNumberer$Text;", true)
def tyX4 : Nat → FieldType := fun k => match k with
  | 0 => .int
  | 1 => .int
  | 2 => .int
  | 3 => .int
  | _ => .object "LawNumberer$Text"
abbrev wsX40 : List Cond := u_ws RX4 TX4 5
theorem nmX4 : ∀ a, a < 5 → ∀ b, b < 5 → a ≠ b → (TX4 a).2.1 ≠ (TX4 b).2.1 := by decide +kernel
theorem tyX4_ok : ∀ k, k < 5 → parseFieldDescriptor (TX4 k).2.2.1 = some (tyX4 k) := by decide +kernel
abbrev cX4_init : ByteArray := prog_6_method_1_code
def yX4_init : MethodName := ⟨RX4, "<init>", "()V"⟩
abbrev cX4_readAt : ByteArray := prog_6_method_2_code
def yX4_readAt : MethodName := ⟨RX4, "readAt", "(LLawNumberer$Text;II)V"⟩
abbrev cX4_isAsWritten : ByteArray := prog_6_method_3_code
def yX4_isAsWritten : MethodName := ⟨RX4, "isAsWritten", "(LLawNumberer$Text;II)Z"⟩
abbrev cX4_failAt : ByteArray := prog_6_method_4_code
def yX4_failAt : MethodName := ⟨RX4, "failAt", "(II)V"⟩
abbrev cX4_meant : ByteArray := prog_6_method_5_code
def yX4_meant : MethodName := ⟨RX4, "meant", "(LLawNumberer$Text;II)I"⟩
abbrev cX4_numeralsEnd : ByteArray := prog_6_method_6_code
def yX4_numeralsEnd : MethodName := ⟨RX4, "numeralsEnd", "(LLawNumberer$Text;II)I"⟩
abbrev cX4_capitalsEnd : ByteArray := prog_6_method_7_code
def yX4_capitalsEnd : MethodName := ⟨RX4, "capitalsEnd", "(LLawNumberer$Text;I)I"⟩
def RX5 : String := "LawNumberer$Labels"
def TX5 : u_T := fun k => match k with
  | _ => ("", "", "", false)
def tyX5 : Nat → FieldType := fun k => match k with
  | _ => .int
abbrev wsX50 : List Cond := u_ws RX5 TX5 0
theorem nmX5 : ∀ a, a < 0 → ∀ b, b < 0 → a ≠ b → (TX5 a).2.1 ≠ (TX5 b).2.1 := by decide +kernel
theorem tyX5_ok : ∀ k, k < 0 → parseFieldDescriptor (TX5 k).2.2.1 = some (tyX5 k) := by decide +kernel
abbrev cX5_plain : ByteArray := prog_7_method_2_code
def yX5_plain : MethodName := ⟨RX5, "plain", "(I)I"⟩
abbrev cX5_numberOf : ByteArray := prog_7_method_3_code
def yX5_numberOf : MethodName := ⟨RX5, "numberOf", "(I)I"⟩
abbrev cX5_letterOf : ByteArray := prog_7_method_4_code
def yX5_letterOf : MethodName := ⟨RX5, "letterOf", "(II)I"⟩
abbrev cX5_setLetter : ByteArray := prog_7_method_5_code
def yX5_setLetter : MethodName := ⟨RX5, "setLetter", "(III)I"⟩
abbrev cX5_lettersIn : ByteArray := prog_7_method_6_code
def yX5_lettersIn : MethodName := ⟨RX5, "lettersIn", "(I)I"⟩
abbrev cX5_suffixOf : ByteArray := prog_7_method_7_code
def yX5_suffixOf : MethodName := ⟨RX5, "suffixOf", "(I)I"⟩
abbrev cX5_withSuffix : ByteArray := prog_7_method_8_code
def yX5_withSuffix : MethodName := ⟨RX5, "withSuffix", "(II)I"⟩
abbrev cX5_between : ByteArray := prog_7_method_9_code
def yX5_between : MethodName := ⟨RX5, "between", "(II)I"⟩
abbrev cX5_leastAbove : ByteArray := prog_7_method_10_code
def yX5_leastAbove : MethodName := ⟨RX5, "leastAbove", "(II)I"⟩
abbrev cX5_fillWithA : ByteArray := prog_7_method_11_code
def yX5_fillWithA : MethodName := ⟨RX5, "fillWithA", "(III)I"⟩
def RX6 : String := "LawNumberer$Levels"
def TX6 : u_T := fun k => match k with
  | 0 => ("LawNumberer$Levels", "forms", "[I", true)
  | 1 => ("LawNumberer$Levels", "through", "[Z", true)
  | _ => ("LawNumberer$Levels", "size", "I", false)
def tyX6 : Nat → FieldType := fun k => match k with
  | 0 => .array .int
  | 1 => .array .boolean
  | _ => .int
abbrev wsX60 : List Cond := u_ws RX6 TX6 3
theorem nmX6 : ∀ a, a < 3 → ∀ b, b < 3 → a ≠ b → (TX6 a).2.1 ≠ (TX6 b).2.1 := by decide +kernel
theorem tyX6_ok : ∀ k, k < 3 → parseFieldDescriptor (TX6 k).2.2.1 = some (tyX6 k) := by decide +kernel
abbrev cX6_init : ByteArray := prog_8_method_1_code
def yX6_init : MethodName := ⟨RX6, "<init>", "()V"⟩
abbrev cX6_formOf : ByteArray := prog_8_method_2_code
def yX6_formOf : MethodName := ⟨RX6, "formOf", "(I)I"⟩
abbrev cX6_isThrough : ByteArray := prog_8_method_3_code
def yX6_isThrough : MethodName := ⟨RX6, "isThrough", "(I)Z"⟩
abbrev cX6_become : ByteArray := prog_8_method_4_code
def yX6_become : MethodName := ⟨RX6, "become", "(LLawNumberer$Levels;)V"⟩
abbrev cX6_append : ByteArray := prog_8_method_5_code
def yX6_append : MethodName := ⟨RX6, "append", "(I)V"⟩
abbrev cX6_makeLastThrough : ByteArray := prog_8_method_6_code
def yX6_makeLastThrough : MethodName := ⟨RX6, "makeLastThrough", "()V"⟩
def RX7 : String := "LawNumberer$LevelsReader"
def TX7 : u_T := fun k => match k with
  | 0 => ("LawNumberer$LevelsReader", "fault", "I", false)
  | 1 => ("LawNumberer$LevelsReader", "faultPlace", "I", false)
  | _ => ("LawNumberer$LevelsReader", "due", "I", false)
def tyX7 : Nat → FieldType := fun k => match k with
  | 0 => .int
  | 1 => .int
  | _ => .int
abbrev wsX70 : List Cond := u_ws RX7 TX7 3
theorem nmX7 : ∀ a, a < 3 → ∀ b, b < 3 → a ≠ b → (TX7 a).2.1 ≠ (TX7 b).2.1 := by decide +kernel
theorem tyX7_ok : ∀ k, k < 3 → parseFieldDescriptor (TX7 k).2.2.1 = some (tyX7 k) := by decide +kernel
abbrev cX7_init : ByteArray := prog_9_method_1_code
def yX7_init : MethodName := ⟨RX7, "<init>", "()V"⟩
abbrev cX7_readInto : ByteArray := prog_9_method_2_code
def yX7_readInto : MethodName := ⟨RX7, "readInto", "(LLawNumberer$Levels;LLawNumberer$Text;)V"⟩
abbrev cX7_failAt : ByteArray := prog_9_method_3_code
def yX7_failAt : MethodName := ⟨RX7, "failAt", "(II)V"⟩
abbrev cX7_takeSemicolon : ByteArray := prog_9_method_4_code
def yX7_takeSemicolon : MethodName := ⟨RX7, "takeSemicolon", "(I)V"⟩
abbrev cX7_takeWord : ByteArray := prog_9_method_5_code
def yX7_takeWord : MethodName := ⟨RX7, "takeWord", "(LLawNumberer$Levels;LLawNumberer$Text;II)V"⟩
abbrev cX7_isSmallLetter : ByteArray := prog_9_method_6_code
def yX7_isSmallLetter : MethodName := ⟨RX7, "isSmallLetter", "(I)Z"⟩
abbrev cX7_wordEnd : ByteArray := prog_9_method_7_code
def yX7_wordEnd : MethodName := ⟨RX7, "wordEnd", "(LLawNumberer$Text;I)I"⟩
abbrev cX7_formNamed : ByteArray := prog_9_method_8_code
def yX7_formNamed : MethodName := ⟨RX7, "formNamed", "(LLawNumberer$Text;II)I"⟩
def RX8 : String := "LawNumberer$Text"
def TX8 : u_T := fun k => match k with
  | 0 => ("LawNumberer$Text", "bytes", "[I", true)
  | _ => ("LawNumberer$Text", "length", "I", false)
def tyX8 : Nat → FieldType := fun k => match k with
  | 0 => .array .int
  | _ => .int
abbrev wsX80 : List Cond := u_ws RX8 TX8 2
theorem nmX8 : ∀ a, a < 2 → ∀ b, b < 2 → a ≠ b → (TX8 a).2.1 ≠ (TX8 b).2.1 := by decide +kernel
theorem tyX8_ok : ∀ k, k < 2 → parseFieldDescriptor (TX8 k).2.2.1 = some (tyX8 k) := by decide +kernel
abbrev cX8_init : ByteArray := prog_10_method_1_code
def yX8_init : MethodName := ⟨RX8, "<init>", "()V"⟩
abbrev cX8_put : ByteArray := prog_10_method_2_code
def yX8_put : MethodName := ⟨RX8, "put", "(I)V"⟩
abbrev cX8_putFour : ByteArray := prog_10_method_3_code
def yX8_putFour : MethodName := ⟨RX8, "putFour", "(I)V"⟩
abbrev cX8_byteAt : ByteArray := prog_10_method_4_code
def yX8_byteAt : MethodName := ⟨RX8, "byteAt", "(I)I"⟩
abbrev cX8_isWord : ByteArray := prog_10_method_5_code
def yX8_isWord : MethodName := ⟨RX8, "isWord", "(IILjava/lang/String;)Z"⟩
abbrev cX8_isPart : ByteArray := prog_10_method_6_code
def yX8_isPart : MethodName := ⟨RX8, "isPart", "(IILLawNumberer$Text;)Z"⟩
def RX9 : String := "LawNumberer"
def TX9 : u_T := fun k => match k with
  | 0 => ("LawNumberer", "tape", "LLawNumberer$Text;", true)
  | 1 => ("LawNumberer", "out", "LLawNumberer$Text;", true)
  | 2 => ("LawNumberer", "scheme", "LLawNumberer$Levels;", true)
  | 3 => ("LawNumberer", "told", "LLawNumberer$Levels;", true)
  | 4 => ("LawNumberer", "levelsReader", "LLawNumberer$LevelsReader;", true)
  | 5 => ("LawNumberer", "labelReader", "LLawNumberer$LabelReader;", true)
  | 6 => ("LawNumberer", "items", "LLawNumberer$Items;", true)
  | 7 => ("LawNumberer", "history", "LLawNumberer$History;", true)
  | 8 => ("LawNumberer", "acts", "LLawNumberer$Acts;", true)
  | 9 => ("LawNumberer", "path", "[I", true)
  | 10 => ("LawNumberer", "today", "I", false)
  | 11 => ("LawNumberer", "faultKind", "I", false)
  | 12 => ("LawNumberer", "faultPlace", "I", false)
  | 13 => ("LawNumberer", "bearing", "I", false)
  | _ => ("LawNumberer", "readSuffix", "I", false)
def tyX9 : Nat → FieldType := fun k => match k with
  | 0 => .object "LawNumberer$Text"
  | 1 => .object "LawNumberer$Text"
  | 2 => .object "LawNumberer$Levels"
  | 3 => .object "LawNumberer$Levels"
  | 4 => .object "LawNumberer$LevelsReader"
  | 5 => .object "LawNumberer$LabelReader"
  | 6 => .object "LawNumberer$Items"
  | 7 => .object "LawNumberer$History"
  | 8 => .object "LawNumberer$Acts"
  | 9 => .array .int
  | 10 => .int
  | 11 => .int
  | 12 => .int
  | 13 => .int
  | _ => .int
abbrev wsX90 : List Cond := u_ws RX9 TX9 15
theorem nmX9 : ∀ a, a < 15 → ∀ b, b < 15 → a ≠ b → (TX9 a).2.1 ≠ (TX9 b).2.1 := by decide +kernel
theorem tyX9_ok : ∀ k, k < 15 → parseFieldDescriptor (TX9 k).2.2.1 = some (tyX9 k) := by decide +kernel
abbrev cX9_init : ByteArray := prog_1_method_1_code
def yX9_init : MethodName := ⟨RX9, "<init>", "()V"⟩
abbrev cX9_feed : ByteArray := prog_1_method_2_code
def yX9_feed : MethodName := ⟨RX9, "feed", "(IIIII)I"⟩
abbrev cX9_end : ByteArray := prog_1_method_3_code
def yX9_end : MethodName := ⟨RX9, "end", "(I)Z"⟩
abbrev cX9_levels : ByteArray := prog_1_method_4_code
def yX9_levels : MethodName := ⟨RX9, "levels", "()I"⟩
abbrev cX9_fault : ByteArray := prog_1_method_5_code
def yX9_fault : MethodName := ⟨RX9, "fault", "()I"⟩
abbrev cX9_add : ByteArray := prog_1_method_6_code
def yX9_add : MethodName := ⟨RX9, "add", "(II)I"⟩
abbrev cX9_strike : ByteArray := prog_1_method_7_code
def yX9_strike : MethodName := ⟨RX9, "strike", "(I)Z"⟩
abbrev cX9_renumber : ByteArray := prog_1_method_8_code
def yX9_renumber : MethodName := ⟨RX9, "renumber", "(I)Z"⟩
abbrev cX9_error : ByteArray := prog_1_method_9_code
def yX9_error : MethodName := ⟨RX9, "error", "(III)Z"⟩
abbrev cX9_undo : ByteArray := prog_1_method_10_code
def yX9_undo : MethodName := ⟨RX9, "undo", "()Z"⟩
abbrev cX9_wait : ByteArray := prog_1_method_11_code
def yX9_wait : MethodName := ⟨RX9, "wait", "(I)Z"⟩
abbrev cX9_about : ByteArray := prog_1_method_12_code
def yX9_about : MethodName := ⟨RX9, "about", "(II)I"⟩
abbrev cX9_label : ByteArray := prog_1_method_13_code
def yX9_label : MethodName := ⟨RX9, "label", "(II)I"⟩
abbrev cX9_cited : ByteArray := prog_1_method_14_code
def yX9_cited : MethodName := ⟨RX9, "cited", "(II)I"⟩
abbrev cX9_octet : ByteArray := prog_1_method_15_code
def yX9_octet : MethodName := ⟨RX9, "octet", "(I)I"⟩
abbrev cX9_cite : ByteArray := prog_1_method_16_code
def yX9_cite : MethodName := ⟨RX9, "cite", "(I)I"⟩
abbrev cX9_place : ByteArray := prog_1_method_17_code
def yX9_place : MethodName := ⟨RX9, "place", "()I"⟩
abbrev cX9_bearers : ByteArray := prog_1_method_18_code
def yX9_bearers : MethodName := ⟨RX9, "bearers", "()I"⟩
abbrev cX9_read : ByteArray := prog_1_method_19_code
def yX9_read : MethodName := ⟨RX9, "read", "(I)I"⟩
abbrev cX9_suffix : ByteArray := prog_1_method_20_code
def yX9_suffix : MethodName := ⟨RX9, "suffix", "()I"⟩
abbrev cX9_clash : ByteArray := prog_1_method_21_code
def yX9_clash : MethodName := ⟨RX9, "clash", "()I"⟩
abbrev cX9_at : ByteArray := prog_1_method_22_code
def yX9_at : MethodName := ⟨RX9, "at", "(I)I"⟩
abbrev cX9_count : ByteArray := prog_1_method_23_code
def yX9_count : MethodName := ⟨RX9, "count", "(I)I"⟩
abbrev cX9_isPlaceTold : ByteArray := prog_1_method_24_code
def yX9_isPlaceTold : MethodName := ⟨RX9, "isPlaceTold", "(II)Z"⟩
abbrev cX9_placeOfNew : ByteArray := prog_1_method_25_code
def yX9_placeOfNew : MethodName := ⟨RX9, "placeOfNew", "(II)I"⟩
abbrev cX9_labelAhead : ByteArray := prog_1_method_26_code
def yX9_labelAhead : MethodName := ⟨RX9, "labelAhead", "(IIIZ)I"⟩
abbrev cX9_labelFrom : ByteArray := prog_1_method_27_code
def yX9_labelFrom : MethodName := ⟨RX9, "labelFrom", "(IIIZ)I"⟩
abbrev cX9_readCitation : ByteArray := prog_1_method_28_code
def yX9_readCitation : MethodName := ⟨RX9, "readCitation", "()I"⟩
abbrev cX9_bearsPath : ByteArray := prog_1_method_29_code
def yX9_bearsPath : MethodName := ⟨RX9, "bearsPath", "(II)Z"⟩
def RX10 : String := "LawNumbererModel"
def TX10 : u_T := fun k => match k with
  | 0 => ("LawNumbererModel", "thrown", "I", false)
  | 1 => ("LawNumbererModel", "tape", "[B", true)
  | 2 => ("LawNumbererModel", "length", "I", false)
  | 3 => ("LawNumbererModel", "size", "I", false)
  | 4 => ("LawNumbererModel", "p", "I", false)
  | 5 => ("LawNumbererModel", "form", "[I", true)
  | 6 => ("LawNumbererModel", "newForm", "[I", true)
  | 7 => ("LawNumbererModel", "through", "[Z", true)
  | 8 => ("LawNumbererModel", "newThrough", "[Z", true)
  | 9 => ("LawNumbererModel", "levels", "I", false)
  | 10 => ("LawNumbererModel", "newLevels", "I", false)
  | 11 => ("LawNumbererModel", "day", "I", false)
  | 12 => ("LawNumbererModel", "fault", "I", false)
  | 13 => ("LawNumbererModel", "place", "I", false)
  | 14 => ("LawNumbererModel", "word", "J", false)
  | 15 => ("LawNumbererModel", "at", "I", false)
  | 16 => ("LawNumbererModel", "level", "[I", true)
  | 17 => ("LawNumbererModel", "up", "[I", true)
  | 18 => ("LawNumbererModel", "came", "[I", true)
  | 19 => ("LawNumbererModel", "order", "[I", true)
  | 20 => ("LawNumbererModel", "struck", "[Z", true)
  | 21 => ("LawNumbererModel", "items", "I", false)
  | 22 => ("LawNumbererModel", "changed", "[I", true)
  | 23 => ("LawNumbererModel", "changedOn", "[I", true)
  | 24 => ("LawNumbererModel", "changedTo", "[I", true)
  | 25 => ("LawNumbererModel", "changes", "I", false)
  | 26 => ("LawNumbererModel", "actKind", "[I", true)
  | 27 => ("LawNumbererModel", "actItem", "[I", true)
  | 28 => ("LawNumbererModel", "actFrom", "[I", true)
  | 29 => ("LawNumbererModel", "acts", "I", false)
  | 30 => ("LawNumbererModel", "hand", "[I", true)
  | 31 => ("LawNumbererModel", "out", "[B", true)
  | 32 => ("LawNumbererModel", "outMany", "I", false)
  | 33 => ("LawNumbererModel", "worth", "[I", true)
  | 34 => ("LawNumbererModel", "sign", "[I", true)
  | 35 => ("LawNumbererModel", "read", "I", false)
  | 36 => ("LawNumbererModel", "kind", "I", false)
  | 37 => ("LawNumbererModel", "where", "I", false)
  | 38 => ("LawNumbererModel", "again", "[B", true)
  | 39 => ("LawNumbererModel", "wanted", "[I", true)
  | 40 => ("LawNumbererModel", "bearers", "I", false)
  | _ => ("LawNumbererModel", "suffix", "I", false)
def tyX10 : Nat → FieldType := fun k => match k with
  | 0 => .int
  | 1 => .array .byte
  | 2 => .int
  | 3 => .int
  | 4 => .int
  | 5 => .array .int
  | 6 => .array .int
  | 7 => .array .boolean
  | 8 => .array .boolean
  | 9 => .int
  | 10 => .int
  | 11 => .int
  | 12 => .int
  | 13 => .int
  | 14 => .long
  | 15 => .int
  | 16 => .array .int
  | 17 => .array .int
  | 18 => .array .int
  | 19 => .array .int
  | 20 => .array .boolean
  | 21 => .int
  | 22 => .array .int
  | 23 => .array .int
  | 24 => .array .int
  | 25 => .int
  | 26 => .array .int
  | 27 => .array .int
  | 28 => .array .int
  | 29 => .int
  | 30 => .array .int
  | 31 => .array .byte
  | 32 => .int
  | 33 => .array .int
  | 34 => .array .int
  | 35 => .int
  | 36 => .int
  | 37 => .int
  | 38 => .array .byte
  | 39 => .array .int
  | 40 => .int
  | _ => .int
abbrev wsX100 : List Cond := u_ws RX10 TX10 42
theorem nmX10 : ∀ a, a < 42 → ∀ b, b < 42 → a ≠ b → (TX10 a).2.1 ≠ (TX10 b).2.1 := by decide +kernel
theorem tyX10_ok : ∀ k, k < 42 → parseFieldDescriptor (TX10 k).2.2.1 = some (tyX10 k) := by decide +kernel
abbrev cX10_init : ByteArray := prog_12_method_1_code
def yX10_init : MethodName := ⟨RX10, "<init>", "()V"⟩
abbrev cX10_thrown : ByteArray := prog_12_method_2_code
def yX10_thrown : MethodName := ⟨RX10, "thrown", "()I"⟩
abbrev cX10_throwsIf : ByteArray := prog_12_method_3_code
def yX10_throwsIf : MethodName := ⟨RX10, "throwsIf", "(Z)Z"⟩
abbrev cX10_feed : ByteArray := prog_12_method_4_code
def yX10_feed : MethodName := ⟨RX10, "feed", "(IIIII)I"⟩
abbrev cX10_four : ByteArray := prog_12_method_5_code
def yX10_four : MethodName := ⟨RX10, "four", "(I)V"⟩
abbrev cX10_end : ByteArray := prog_12_method_6_code
def yX10_end : MethodName := ⟨RX10, "end", "(I)Z"⟩
abbrev cX10_taken : ByteArray := prog_12_method_7_code
def yX10_taken : MethodName := ⟨RX10, "taken", "()V"⟩
abbrev cX10_peek : ByteArray := prog_12_method_8_code
def yX10_peek : MethodName := ⟨RX10, "peek", "()I"⟩
abbrev cX10_wrong : ByteArray := prog_12_method_9_code
def yX10_wrong : MethodName := ⟨RX10, "wrong", "(II)Z"⟩
abbrev cX10_isSmall : ByteArray := prog_12_method_10_code
def yX10_isSmall : MethodName := ⟨RX10, "isSmall", "(I)Z"⟩
abbrev cX10_isGreat : ByteArray := prog_12_method_11_code
def yX10_isGreat : MethodName := ⟨RX10, "isGreat", "(I)Z"⟩
abbrev cX10_isDigit : ByteArray := prog_12_method_12_code
def yX10_isDigit : MethodName := ⟨RX10, "isDigit", "(I)Z"⟩
abbrev cX10_next : ByteArray := prog_12_method_13_code
def yX10_next : MethodName := ⟨RX10, "next", "()V"⟩
abbrev cX10_cant : ByteArray := prog_12_method_14_code
def yX10_cant : MethodName := ⟨RX10, "cant", "()Z"⟩
abbrev cX10_formOf : ByteArray := prog_12_method_15_code
def yX10_formOf : MethodName := ⟨RX10, "formOf", "()I"⟩
abbrev cX10_readLevels : ByteArray := prog_12_method_16_code
def yX10_readLevels : MethodName := ⟨RX10, "readLevels", "()Z"⟩
abbrev cX10_levels : ByteArray := prog_12_method_17_code
def yX10_levels : MethodName := ⟨RX10, "levels", "()I"⟩
abbrev cX10_fault : ByteArray := prog_12_method_18_code
def yX10_fault : MethodName := ⟨RX10, "fault", "()I"⟩
abbrev cX10_place : ByteArray := prog_12_method_19_code
def yX10_place : MethodName := ⟨RX10, "place", "()I"⟩
abbrev cX10_isItem : ByteArray := prog_12_method_20_code
def yX10_isItem : MethodName := ⟨RX10, "isItem", "(I)Z"⟩
abbrev cX10_placeOf : ByteArray := prog_12_method_21_code
def yX10_placeOf : MethodName := ⟨RX10, "placeOf", "(I)I"⟩
abbrev cX10_isUnder : ByteArray := prog_12_method_22_code
def yX10_isUnder : MethodName := ⟨RX10, "isUnder", "(II)Z"⟩
abbrev cX10_isInRow : ByteArray := prog_12_method_23_code
def yX10_isInRow : MethodName := ⟨RX10, "isInRow", "(II)Z"⟩
abbrev cX10_change : ByteArray := prog_12_method_24_code
def yX10_change : MethodName := ⟨RX10, "change", "(II)V"⟩
abbrev cX10_labelOf : ByteArray := prog_12_method_25_code
def yX10_labelOf : MethodName := ⟨RX10, "labelOf", "(II)I"⟩
abbrev cX10_act : ByteArray := prog_12_method_26_code
def yX10_act : MethodName := ⟨RX10, "act", "(II)V"⟩
abbrev cX10_letterAt : ByteArray := prog_12_method_27_code
def yX10_letterAt : MethodName := ⟨RX10, "letterAt", "(II)I"⟩
abbrev cX10_lettersOf : ByteArray := prog_12_method_28_code
def yX10_lettersOf : MethodName := ⟨RX10, "lettersOf", "(I)I"⟩
abbrev cX10_suffixInHand : ByteArray := prog_12_method_29_code
def yX10_suffixInHand : MethodName := ⟨RX10, "suffixInHand", "()I"⟩
abbrev cX10_least : ByteArray := prog_12_method_30_code
def yX10_least : MethodName := ⟨RX10, "least", "(II)I"⟩
abbrev cX10_add : ByteArray := prog_12_method_31_code
def yX10_add : MethodName := ⟨RX10, "add", "(II)I"⟩
abbrev cX10_strike : ByteArray := prog_12_method_32_code
def yX10_strike : MethodName := ⟨RX10, "strike", "(I)Z"⟩
abbrev cX10_renumber : ByteArray := prog_12_method_33_code
def yX10_renumber : MethodName := ⟨RX10, "renumber", "(I)Z"⟩
abbrev cX10_error : ByteArray := prog_12_method_34_code
def yX10_error : MethodName := ⟨RX10, "error", "(III)Z"⟩
abbrev cX10_undo : ByteArray := prog_12_method_35_code
def yX10_undo : MethodName := ⟨RX10, "undo", "()Z"⟩
abbrev cX10_wait : ByteArray := prog_12_method_36_code
def yX10_wait : MethodName := ⟨RX10, "wait", "(I)Z"⟩
abbrev cX10_about : ByteArray := prog_12_method_37_code
def yX10_about : MethodName := ⟨RX10, "about", "(II)I"⟩
abbrev cX10_put : ByteArray := prog_12_method_38_code
def yX10_put : MethodName := ⟨RX10, "put", "(I)V"⟩
abbrev cX10_romanLetter : ByteArray := prog_12_method_39_code
def yX10_romanLetter : MethodName := ⟨RX10, "romanLetter", "(I)I"⟩
abbrev cX10_roman : ByteArray := prog_12_method_40_code
def yX10_roman : MethodName := ⟨RX10, "roman", "(II)V"⟩
abbrev cX10_decimal : ByteArray := prog_12_method_41_code
def yX10_decimal : MethodName := ⟨RX10, "decimal", "(I)V"⟩
abbrev cX10_letters : ByteArray := prog_12_method_42_code
def yX10_letters : MethodName := ⟨RX10, "letters", "(I)V"⟩
abbrev cX10_write : ByteArray := prog_12_method_43_code
def yX10_write : MethodName := ⟨RX10, "write", "(II)V"⟩
abbrev cX10_label : ByteArray := prog_12_method_44_code
def yX10_label : MethodName := ⟨RX10, "label", "(II)I"⟩
abbrev cX10_over : ByteArray := prog_12_method_45_code
def yX10_over : MethodName := ⟨RX10, "over", "(II)I"⟩
abbrev cX10_cited : ByteArray := prog_12_method_46_code
def yX10_cited : MethodName := ⟨RX10, "cited", "(II)I"⟩
abbrev cX10_octet : ByteArray := prog_12_method_47_code
def yX10_octet : MethodName := ⟨RX10, "octet", "(I)I"⟩
abbrev cX10_breaks : ByteArray := prog_12_method_48_code
def yX10_breaks : MethodName := ⟨RX10, "breaks", "(II)Z"⟩
abbrev cX10_fitsForm : ByteArray := prog_12_method_49_code
def yX10_fitsForm : MethodName := ⟨RX10, "fitsForm", "(II)Z"⟩
abbrev cX10_romanWorth : ByteArray := prog_12_method_50_code
def yX10_romanWorth : MethodName := ⟨RX10, "romanWorth", "(I)I"⟩
abbrev cX10_readLabel : ByteArray := prog_12_method_51_code
def yX10_readLabel : MethodName := ⟨RX10, "readLabel", "(I)Z"⟩
abbrev cX10_isWritten : ByteArray := prog_12_method_52_code
def yX10_isWritten : MethodName := ⟨RX10, "isWritten", "(II)Z"⟩
abbrev cX10_readCitation : ByteArray := prog_12_method_53_code
def yX10_readCitation : MethodName := ⟨RX10, "readCitation", "()I"⟩
abbrev cX10_cite : ByteArray := prog_12_method_54_code
def yX10_cite : MethodName := ⟨RX10, "cite", "(I)I"⟩
abbrev cX10_bearers : ByteArray := prog_12_method_55_code
def yX10_bearers : MethodName := ⟨RX10, "bearers", "()I"⟩
abbrev cX10_read : ByteArray := prog_12_method_56_code
def yX10_read : MethodName := ⟨RX10, "read", "(I)I"⟩
abbrev cX10_suffix : ByteArray := prog_12_method_57_code
def yX10_suffix : MethodName := ⟨RX10, "suffix", "()I"⟩
abbrev cX10_clash : ByteArray := prog_12_method_58_code
def yX10_clash : MethodName := ⟨RX10, "clash", "()I"⟩
abbrev cX10_at : ByteArray := prog_12_method_59_code
def yX10_at : MethodName := ⟨RX10, "at", "(I)I"⟩
abbrev cX10_count : ByteArray := prog_12_method_60_code
def yX10_count : MethodName := ⟨RX10, "count", "(I)I"⟩
def RJx145de : String := "java/io/Serializable"
def TJx145de : u_T := fun k => match k with
  | _ => ("", "", "", false)
def tyJx145de : Nat → FieldType := fun k => match k with
  | _ => .int
abbrev wsJx145de0 : List Cond := u_ws RJx145de TJx145de 0
theorem nmJx145de : ∀ a, a < 0 → ∀ b, b < 0 → a ≠ b → (TJx145de a).2.1 ≠ (TJx145de b).2.1 := by decide +kernel
theorem tyJx145de_ok : ∀ k, k < 0 → parseFieldDescriptor (TJx145de k).2.2.1 = some (tyJx145de k) := by decide +kernel
def RJx9f9b0 : String := "java/lang/CharSequence"
def TJx9f9b0 : u_T := fun k => match k with
  | _ => ("", "", "", false)
def tyJx9f9b0 : Nat → FieldType := fun k => match k with
  | _ => .int
abbrev wsJx9f9b00 : List Cond := u_ws RJx9f9b0 TJx9f9b0 0
theorem nmJx9f9b0 : ∀ a, a < 0 → ∀ b, b < 0 → a ≠ b → (TJx9f9b0 a).2.1 ≠ (TJx9f9b0 b).2.1 := by decide +kernel
theorem tyJx9f9b0_ok : ∀ k, k < 0 → parseFieldDescriptor (TJx9f9b0 k).2.2.1 = some (tyJx9f9b0 k) := by decide +kernel
def RJx8e188 : String := "java/lang/Cloneable"
def TJx8e188 : u_T := fun k => match k with
  | _ => ("", "", "", false)
def tyJx8e188 : Nat → FieldType := fun k => match k with
  | _ => .int
abbrev wsJx8e1880 : List Cond := u_ws RJx8e188 TJx8e188 0
theorem nmJx8e188 : ∀ a, a < 0 → ∀ b, b < 0 → a ≠ b → (TJx8e188 a).2.1 ≠ (TJx8e188 b).2.1 := by decide +kernel
theorem tyJx8e188_ok : ∀ k, k < 0 → parseFieldDescriptor (TJx8e188 k).2.2.1 = some (tyJx8e188 k) := by decide +kernel
def RJxb160c : String := "java/lang/Comparable"
def TJxb160c : u_T := fun k => match k with
  | _ => ("", "", "", false)
def tyJxb160c : Nat → FieldType := fun k => match k with
  | _ => .int
abbrev wsJxb160c0 : List Cond := u_ws RJxb160c TJxb160c 0
theorem nmJxb160c : ∀ a, a < 0 → ∀ b, b < 0 → a ≠ b → (TJxb160c a).2.1 ≠ (TJxb160c b).2.1 := by decide +kernel
theorem tyJxb160c_ok : ∀ k, k < 0 → parseFieldDescriptor (TJxb160c k).2.2.1 = some (tyJxb160c k) := by decide +kernel
def RJ9 : String := "java/lang/Math"
def TJ9 : u_T := fun k => match k with
  | _ => ("", "", "", false)
def tyJ9 : Nat → FieldType := fun k => match k with
  | _ => .int
abbrev wsJ90 : List Cond := u_ws RJ9 TJ9 0
theorem nmJ9 : ∀ a, a < 0 → ∀ b, b < 0 → a ≠ b → (TJ9 a).2.1 ≠ (TJ9 b).2.1 := by decide +kernel
theorem tyJ9_ok : ∀ k, k < 0 → parseFieldDescriptor (TJ9 k).2.2.1 = some (tyJ9 k) := by decide +kernel
abbrev cJ9_min_7cf53 : ByteArray := prog_18_method_69_code
def yJ9_min_7cf53 : MethodName := ⟨RJ9, "min", "(II)I"⟩
def RJ0 : String := "java/lang/String"
def TJ0 : u_T := fun k => match k with
  | _ => ("", "", "", false)
def tyJ0 : Nat → FieldType := fun k => match k with
  | _ => .int
abbrev wsJ00 : List Cond := u_ws RJ0 TJ0 0
theorem nmJ0 : ∀ a, a < 0 → ∀ b, b < 0 → a ≠ b → (TJ0 a).2.1 ≠ (TJ0 b).2.1 := by decide +kernel
theorem tyJ0_ok : ∀ k, k < 0 → parseFieldDescriptor (TJ0 k).2.2.1 = some (tyJ0 k) := by decide +kernel
abbrev cJ0_length_8abf5 : ByteArray := prog_20_method_54_code
def yJ0_length_8abf5 : MethodName := ⟨RJ0, "length", "()I"⟩
abbrev cJ0_charAt_5068e : ByteArray := prog_20_method_56_code
def yJ0_charAt_5068e : MethodName := ⟨RJ0, "charAt", "(I)C"⟩
abbrev cJ0_coder_7d493 : ByteArray := prog_20_method_152_code
def yJ0_coder_7d493 : MethodName := ⟨RJ0, "coder", "()B"⟩
abbrev cJ0_isLatin1_aae02 : ByteArray := prog_20_method_154_code
def yJ0_isLatin1_aae02 : MethodName := ⟨RJ0, "isLatin1", "()Z"⟩
abbrev cJ0_checkIndex_df160 : ByteArray := prog_20_method_155_code
def yJ0_checkIndex_df160 : MethodName := ⟨RJ0, "checkIndex", "(II)V"⟩
def RJ1 : String := "java/lang/StringLatin1"
def TJ1 : u_T := fun k => match k with
  | _ => ("", "", "", false)
def tyJ1 : Nat → FieldType := fun k => match k with
  | _ => .int
abbrev wsJ10 : List Cond := u_ws RJ1 TJ1 0
theorem nmJ1 : ∀ a, a < 0 → ∀ b, b < 0 → a ≠ b → (TJ1 a).2.1 ≠ (TJ1 b).2.1 := by decide +kernel
theorem tyJ1_ok : ∀ k, k < 0 → parseFieldDescriptor (TJ1 k).2.2.1 = some (tyJ1 k) := by decide +kernel
abbrev cJ1_charAt_3b067 : ByteArray := prog_21_method_2_code
def yJ1_charAt_3b067 : MethodName := ⟨RJ1, "charAt", "([BI)C"⟩
def RJ2 : String := "java/lang/StringUTF16"
def TJ2 : u_T := fun k => match k with
  | _ => ("", "", "", false)
def tyJ2 : Nat → FieldType := fun k => match k with
  | _ => .int
abbrev wsJ20 : List Cond := u_ws RJ2 TJ2 0
theorem nmJ2 : ∀ a, a < 0 → ∀ b, b < 0 → a ≠ b → (TJ2 a).2.1 ≠ (TJ2 b).2.1 := by decide +kernel
theorem tyJ2_ok : ∀ k, k < 0 → parseFieldDescriptor (TJ2 k).2.2.1 = some (tyJ2 k) := by decide +kernel
abbrev cJ2_getChar_3b067 : ByteArray := prog_22_method_5_code
def yJ2_getChar_3b067 : MethodName := ⟨RJ2, "getChar", "([BI)C"⟩
abbrev cJ2_length_9d52b : ByteArray := prog_22_method_6_code
def yJ2_length_9d52b : MethodName := ⟨RJ2, "length", "([B)I"⟩
abbrev cJ2_charAt_3b067 : ByteArray := prog_22_method_83_code
def yJ2_charAt_3b067 : MethodName := ⟨RJ2, "charAt", "([BI)C"⟩
abbrev cJ2_checkIndex_2214a : ByteArray := prog_22_method_91_code
def yJ2_checkIndex_2214a : MethodName := ⟨RJ2, "checkIndex", "(I[B)V"⟩
def RJ10 : String := "java/lang/System"
def TJ10 : u_T := fun k => match k with
  | _ => ("", "", "", false)
def tyJ10 : Nat → FieldType := fun k => match k with
  | _ => .int
abbrev wsJ100 : List Cond := u_ws RJ10 TJ10 0
theorem nmJ10 : ∀ a, a < 0 → ∀ b, b < 0 → a ≠ b → (TJ10 a).2.1 ≠ (TJ10 b).2.1 := by decide +kernel
theorem tyJ10_ok : ∀ k, k < 0 → parseFieldDescriptor (TJ10 k).2.2.1 = some (tyJ10 k) := by decide +kernel
def RJxfd54e : String := "java/lang/constant/Constable"
def TJxfd54e : u_T := fun k => match k with
  | _ => ("", "", "", false)
def tyJxfd54e : Nat → FieldType := fun k => match k with
  | _ => .int
abbrev wsJxfd54e0 : List Cond := u_ws RJxfd54e TJxfd54e 0
theorem nmJxfd54e : ∀ a, a < 0 → ∀ b, b < 0 → a ≠ b → (TJxfd54e a).2.1 ≠ (TJxfd54e b).2.1 := by decide +kernel
theorem tyJxfd54e_ok : ∀ k, k < 0 → parseFieldDescriptor (TJxfd54e k).2.2.1 = some (tyJxfd54e k) := by decide +kernel
def RJx3cf43 : String := "java/lang/constant/ConstantDesc"
def TJx3cf43 : u_T := fun k => match k with
  | _ => ("", "", "", false)
def tyJx3cf43 : Nat → FieldType := fun k => match k with
  | _ => .int
abbrev wsJx3cf430 : List Cond := u_ws RJx3cf43 TJx3cf43 0
theorem nmJx3cf43 : ∀ a, a < 0 → ∀ b, b < 0 → a ≠ b → (TJx3cf43 a).2.1 ≠ (TJx3cf43 b).2.1 := by decide +kernel
theorem tyJx3cf43_ok : ∀ k, k < 0 → parseFieldDescriptor (TJx3cf43 k).2.2.1 = some (tyJx3cf43 k) := by decide +kernel
def RJ7 : String := "java/util/Arrays"
def TJ7 : u_T := fun k => match k with
  | _ => ("", "", "", false)
def tyJ7 : Nat → FieldType := fun k => match k with
  | _ => .int
abbrev wsJ70 : List Cond := u_ws RJ7 TJ7 0
theorem nmJ7 : ∀ a, a < 0 → ∀ b, b < 0 → a ≠ b → (TJ7 a).2.1 ≠ (TJ7 b).2.1 := by decide +kernel
theorem tyJ7_ok : ∀ k, k < 0 → parseFieldDescriptor (TJ7 k).2.2.1 = some (tyJ7 k) := by decide +kernel
abbrev cJ7_fill_53178 : ByteArray := prog_27_method_103_code
def yJ7_fill_53178 : MethodName := ⟨RJ7, "fill", "([II)V"⟩
abbrev cJ7_copyOf_59c91 : ByteArray := prog_27_method_123_code
def yJ7_copyOf_59c91 : MethodName := ⟨RJ7, "copyOf", "([II)[I"⟩
def RJ3 : String := "jdk/internal/util/Preconditions"
def TJ3 : u_T := fun k => match k with
  | _ => ("", "", "", false)
def tyJ3 : Nat → FieldType := fun k => match k with
  | _ => .int
abbrev wsJ30 : List Cond := u_ws RJ3 TJ3 0
theorem nmJ3 : ∀ a, a < 0 → ∀ b, b < 0 → a ≠ b → (TJ3 a).2.1 ≠ (TJ3 b).2.1 := by decide +kernel
theorem tyJ3_ok : ∀ k, k < 0 → parseFieldDescriptor (TJ3 k).2.2.1 = some (tyJ3 k) := by decide +kernel
abbrev cJ3_checkIndex_8e157 : ByteArray := prog_29_method_11_code
def yJ3_checkIndex_8e157 : MethodName := ⟨RJ3, "checkIndex", "(IILjava/util/function/BiFunction;)I"⟩
def RL : String := "LawNumbererLaw"
abbrev cL_about : ByteArray := method_3_code
def yL_about : MethodName := ⟨RL, "about", "(LLawNumberer;II[J)I"⟩
abbrev cL_octet : ByteArray := method_4_code
def yL_octet : MethodName := ⟨RL, "octet", "(LLawNumberer;I[J)I"⟩
abbrev cL_law : ByteArray := code
def yL_law : MethodName := ⟨RL, "law", "([I)Z"⟩
def wsX0_init : List Cond := .code yX0_init cX0_init 1 none :: ([.methodLink RX0 3 objectInit, .instanceMethod objectInit, .code objectInit ⟨#[0xb1]⟩ 1 none, .arrayClass .int, .fieldLink RX0 9 "LawNumberer$Acts" "kinds" "[I", .fieldLink RX0 15 "LawNumberer$Acts" "actItems" "[I", .fieldLink RX0 18 "LawNumberer$Acts" "marks" "[I"] ++ wsX00)
def wsX0_clear : List Cond := .code yX0_clear cX0_clear 1 none :: ([.fieldLink RX0 21 "LawNumberer$Acts" "next" "I", .fieldLink RX0 25 "LawNumberer$Acts" "size" "I"] ++ wsX00)
def wsX0_open : List Cond := .code yX0_open cX0_open 4 none :: ([.fieldLink RX0 9 "LawNumberer$Acts" "kinds" "[I", .fieldLink RX0 21 "LawNumberer$Acts" "next" "I", .fieldLink RX0 15 "LawNumberer$Acts" "actItems" "[I", .fieldLink RX0 18 "LawNumberer$Acts" "marks" "[I", .fieldLink RX0 25 "LawNumberer$Acts" "size" "I", .methodLink RX0 28 Lib.Math.min.name, .static Lib.Math.min.name, .initialized "java/lang/Math", .code Lib.Math.min.name Lib.Math.min.code 2 (some .int)] ++ wsX00)
def wsX0_latestSlot : List Cond := .code yX0_latestSlot cX0_latestSlot 1 (some .int) :: ([.fieldLink RX0 21 "LawNumberer$Acts" "next" "I"] ++ wsX00)
def wsX0_latestKind : List Cond := .code yX0_latestKind cX0_latestKind 1 (some .int) :: ([.fieldLink RX0 25 "LawNumberer$Acts" "size" "I", .fieldLink RX0 9 "LawNumberer$Acts" "kinds" "[I", .methodLink RX0 34 yX0_latestSlot, .instanceMethod yX0_latestSlot, .selects RX0 yX0_latestSlot yX0_latestSlot, .initialized RX0, .code yX0_latestSlot cX0_latestSlot 1 (some .int), .fieldLink RX0 21 "LawNumberer$Acts" "next" "I"] ++ wsX00)
def wsX0_latestItem : List Cond := .code yX0_latestItem cX0_latestItem 1 (some .int) :: ([.fieldLink RX0 15 "LawNumberer$Acts" "actItems" "[I", .methodLink RX0 34 yX0_latestSlot, .instanceMethod yX0_latestSlot, .selects RX0 yX0_latestSlot yX0_latestSlot, .initialized RX0, .code yX0_latestSlot cX0_latestSlot 1 (some .int), .fieldLink RX0 21 "LawNumberer$Acts" "next" "I"] ++ wsX00)
def wsX0_latestMark : List Cond := .code yX0_latestMark cX0_latestMark 1 (some .int) :: ([.fieldLink RX0 18 "LawNumberer$Acts" "marks" "[I", .methodLink RX0 34 yX0_latestSlot, .instanceMethod yX0_latestSlot, .selects RX0 yX0_latestSlot yX0_latestSlot, .initialized RX0, .code yX0_latestSlot cX0_latestSlot 1 (some .int), .fieldLink RX0 21 "LawNumberer$Acts" "next" "I"] ++ wsX00)
def wsX0_close : List Cond := .code yX0_close cX0_close 1 none :: ([.fieldLink RX0 25 "LawNumberer$Acts" "size" "I", .fieldLink RX0 21 "LawNumberer$Acts" "next" "I", .methodLink RX0 34 yX0_latestSlot, .instanceMethod yX0_latestSlot, .selects RX0 yX0_latestSlot yX0_latestSlot, .initialized RX0, .code yX0_latestSlot cX0_latestSlot 1 (some .int)] ++ wsX00)
def wsX5_numberOf : List Cond := .code yX5_numberOf cX5_numberOf 1 (some .int) :: ([])
def wsX8_put : List Cond := .code yX8_put cX8_put 2 none :: ([.fieldLink RX8 15 "LawNumberer$Text" "length" "I", .fieldLink RX8 9 "LawNumberer$Text" "bytes" "[I"] ++ wsX80)
def wsX1_writeRoman : List Cond := .code yX1_writeRoman cX1_writeRoman 5 none :: ([.fieldLink RX1 41 "LawNumberer$Forms" "STEPS" "[I", .fieldLink RX1 45 "LawNumberer$Forms" "FIRST_SIGNS" "[C", .fieldLink RX1 49 "LawNumberer$Forms" "SECOND_SIGNS" "[C", .methodLink RX1 31 yX8_put, .instanceMethod yX8_put, .selects RX8 yX8_put yX8_put, .initialized RX8, .code yX8_put cX8_put 2 none, .fieldLink RX8 15 "LawNumberer$Text" "length" "I", .fieldLink RX8 9 "LawNumberer$Text" "bytes" "[I"] ++ wsX80)
def wsX1_writeLetters : List Cond := .code yX1_writeLetters cX1_writeLetters 3 none :: ([.methodLink RX1 31 yX8_put, .instanceMethod yX8_put, .selects RX8 yX8_put yX8_put, .initialized RX8, .code yX8_put cX8_put 2 none, .fieldLink RX8 15 "LawNumberer$Text" "length" "I", .fieldLink RX8 9 "LawNumberer$Text" "bytes" "[I"] ++ wsX80)
def wsX1_writeDigits : List Cond := .code yX1_writeDigits cX1_writeDigits 2 none :: ([.methodLink RX1 31 yX8_put, .instanceMethod yX8_put, .selects RX8 yX8_put yX8_put, .initialized RX8, .code yX8_put cX8_put 2 none, .fieldLink RX8 15 "LawNumberer$Text" "length" "I", .fieldLink RX8 9 "LawNumberer$Text" "bytes" "[I"] ++ wsX80)
def wsX5_letterOf : List Cond := .code yX5_letterOf cX5_letterOf 2 (some .int) :: ([])
def wsX5_lettersIn : List Cond := .code yX5_lettersIn cX5_lettersIn 2 (some .int) :: ([.methodLink RX5 11 yX5_letterOf, .static yX5_letterOf, .initialized RX5, .code yX5_letterOf cX5_letterOf 2 (some .int)])
def wsX1_writeLabel_r1 : List Cond := [Cond.methodLink RX1 9 yX5_numberOf, Cond.static yX5_numberOf, Cond.initialized RX5, Cond.code yX5_numberOf cX5_numberOf 1 (some .int), Cond.methodLink RX1 15 yX1_writeRoman, Cond.static yX1_writeRoman, Cond.initialized RX1, Cond.code yX1_writeRoman cX1_writeRoman 5 none, Cond.fieldLink RX1 41 "LawNumberer$Forms" "STEPS" "[I", Cond.fieldLink RX1 45 "LawNumberer$Forms" "FIRST_SIGNS" "[C", Cond.fieldLink RX1 49 "LawNumberer$Forms" "SECOND_SIGNS" "[C", Cond.methodLink RX1 31 yX8_put, Cond.instanceMethod yX8_put, Cond.selects RX8 yX8_put yX8_put, Cond.initialized RX8, Cond.code yX8_put cX8_put 2 none, Cond.fieldLink RX8 15 "LawNumberer$Text" "length" "I", Cond.fieldLink RX8 9 "LawNumberer$Text" "bytes" "[I", Cond.methodLink RX1 21 yX1_writeLetters, Cond.static yX1_writeLetters, Cond.code yX1_writeLetters cX1_writeLetters 3 none, Cond.methodLink RX1 25 yX1_writeDigits, Cond.static yX1_writeDigits, Cond.code yX1_writeDigits cX1_writeDigits 2 none]
def wsX1_writeLabel_r2 : List Cond := [Cond.methodLink RX1 28 yX5_lettersIn, Cond.static yX5_lettersIn, Cond.code yX5_lettersIn cX5_lettersIn 2 (some .int), Cond.methodLink RX5 11 yX5_letterOf, Cond.static yX5_letterOf, Cond.code yX5_letterOf cX5_letterOf 2 (some .int), Cond.methodLink RX1 37 yX5_letterOf]
def wsX1_writeLabel : List Cond := .code yX1_writeLabel cX1_writeLabel 6 none :: ((wsX1_writeLabel_r1 ++ wsX1_writeLabel_r2) ++ wsX80)
def wsX1_romanWorth : List Cond := .code yX1_romanWorth cX1_romanWorth 1 (some .int) :: ([])
def wsX1_isNumeral : List Cond := .code yX1_isNumeral cX1_isNumeral 2 (some .boolean) :: ([.methodLink RX1 52 yX1_romanWorth, .static yX1_romanWorth, .initialized RX1, .code yX1_romanWorth cX1_romanWorth 1 (some .int)])
def wsX8_byteAt : List Cond := .code yX8_byteAt cX8_byteAt 2 (some .int) :: ([.fieldLink RX8 15 "LawNumberer$Text" "length" "I", .fieldLink RX8 9 "LawNumberer$Text" "bytes" "[I"] ++ wsX80)
def wsX1_romanIn : List Cond := .code yX1_romanIn cX1_romanIn 8 (some .int) :: ([.methodLink RX1 63 yX8_byteAt, .instanceMethod yX8_byteAt, .selects RX8 yX8_byteAt yX8_byteAt, .initialized RX8, .code yX8_byteAt cX8_byteAt 2 (some .int), .fieldLink RX8 15 "LawNumberer$Text" "length" "I", .fieldLink RX8 9 "LawNumberer$Text" "bytes" "[I", .methodLink RX1 52 yX1_romanWorth, .static yX1_romanWorth, .initialized RX1, .code yX1_romanWorth cX1_romanWorth 1 (some .int)] ++ wsX80)
def wsX1_placesIn : List Cond := .code yX1_placesIn cX1_placesIn 7 (some .int) :: ([.methodLink RX1 63 yX8_byteAt, .instanceMethod yX8_byteAt, .selects RX8 yX8_byteAt yX8_byteAt, .initialized RX8, .code yX8_byteAt cX8_byteAt 2 (some .int), .fieldLink RX8 15 "LawNumberer$Text" "length" "I", .fieldLink RX8 9 "LawNumberer$Text" "bytes" "[I"] ++ wsX80)
def wsX1_numberIn : List Cond := .code yX1_numberIn cX1_numberIn 4 (some .int) :: ([.methodLink RX1 55 yX1_romanIn, .static yX1_romanIn, .initialized RX1, .code yX1_romanIn cX1_romanIn 8 (some .int), .methodLink RX1 63 yX8_byteAt, .instanceMethod yX8_byteAt, .selects RX8 yX8_byteAt yX8_byteAt, .initialized RX8, .code yX8_byteAt cX8_byteAt 2 (some .int), .fieldLink RX8 15 "LawNumberer$Text" "length" "I", .fieldLink RX8 9 "LawNumberer$Text" "bytes" "[I", .methodLink RX1 52 yX1_romanWorth, .static yX1_romanWorth, .code yX1_romanWorth cX1_romanWorth 1 (some .int), .methodLink RX1 59 yX1_placesIn, .static yX1_placesIn, .code yX1_placesIn cX1_placesIn 7 (some .int)] ++ wsX80)
def wsJ7_fill_53178 : List Cond := .code yJ7_fill_53178 cJ7_fill_53178 4 none :: ([])
def wsX2_init : List Cond := .code yX2_init cX2_init 1 none :: ([.methodLink RX2 3 objectInit, .instanceMethod objectInit, .code objectInit ⟨#[0xb1]⟩ 1 none, .arrayClass .int, .fieldLink RX2 11 "LawNumberer$History" "givenTo" "[I", .fieldLink RX2 15 "LawNumberer$History" "days" "[I", .fieldLink RX2 18 "LawNumberer$History" "labels" "[I", .fieldLink RX2 21 "LawNumberer$History" "earlier" "[I", .fieldLink RX2 24 "LawNumberer$History" "last" "[I", .methodLink RX2 27 yJ7_fill_53178, .static yJ7_fill_53178, .initialized RJ7, .code yJ7_fill_53178 cJ7_fill_53178 4 none] ++ wsX20)
def wsX2_clear : List Cond := .code yX2_clear cX2_clear 1 none :: ([.fieldLink RX2 24 "LawNumberer$History" "last" "[I", .fieldLink RX2 33 "LawNumberer$History" "size" "I", .methodLink RX2 27 yJ7_fill_53178, .static yJ7_fill_53178, .initialized RJ7, .code yJ7_fill_53178 cJ7_fill_53178 4 none] ++ wsX20)
def wsX2_latest : List Cond := .code yX2_latest cX2_latest 2 (some .int) :: ([.fieldLink RX2 24 "LawNumberer$History" "last" "[I", .fieldLink RX2 18 "LawNumberer$History" "labels" "[I"] ++ wsX20)
def wsX2_asOf : List Cond := .code yX2_asOf cX2_asOf 4 (some .int) :: ([.fieldLink RX2 24 "LawNumberer$History" "last" "[I", .fieldLink RX2 15 "LawNumberer$History" "days" "[I", .fieldLink RX2 21 "LawNumberer$History" "earlier" "[I", .fieldLink RX2 18 "LawNumberer$History" "labels" "[I"] ++ wsX20)
def wsJ7_copyOf_59c91 : List Cond := .code yJ7_copyOf_59c91 cJ7_copyOf_59c91 3 (some (.array .int)) :: ([.methodLink RJ7 316 ⟨"[I", "clone", "()Ljava/lang/Object;"⟩, .sameMethod "[I" "java/lang/Object" "clone" "()Ljava/lang/Object;", .native ⟨"java/lang/Object", "clone", "()Ljava/lang/Object;"⟩, .instanceMethod ⟨"java/lang/Object", "clone", "()Ljava/lang/Object;"⟩, .selects "[I" ⟨"[I", "clone", "()Ljava/lang/Object;"⟩ ⟨"java/lang/Object", "clone", "()Ljava/lang/Object;"⟩, .classLink RJ7 317 "[I", .arrayClass .int, .methodLink RJ7 304 Lib.Math.min.name, .static Lib.Math.min.name, .initialized "java/lang/Math", .code Lib.Math.min.name Lib.Math.min.code 2 (some .int), .methodLink RJ7 150 arraycopyName, .native arraycopyName, .static arraycopyName, .initialized "java/lang/System"])
def wsX2_hasRoom_r1 : List Cond := [Cond.fieldLink RX2 33 "LawNumberer$History" "size" "I", Cond.fieldLink RX2 15 "LawNumberer$History" "days" "[I", Cond.constant RX2 47 (40960), Cond.methodLink RX2 48 Lib.Math.min.name, Cond.static Lib.Math.min.name, Cond.initialized "java/lang/Math", Cond.code Lib.Math.min.name Lib.Math.min.code 2 (some .int), Cond.fieldLink RX2 11 "LawNumberer$History" "givenTo" "[I", Cond.fieldLink RX2 18 "LawNumberer$History" "labels" "[I", Cond.fieldLink RX2 21 "LawNumberer$History" "earlier" "[I", Cond.methodLink RX2 54 yJ7_copyOf_59c91, Cond.static yJ7_copyOf_59c91, Cond.initialized RJ7, Cond.code yJ7_copyOf_59c91 cJ7_copyOf_59c91 3 (some (.array .int)), Cond.methodLink RJ7 316 ⟨"[I", "clone", "()Ljava/lang/Object;"⟩, Cond.sameMethod "[I" "java/lang/Object" "clone" "()Ljava/lang/Object;", Cond.native ⟨"java/lang/Object", "clone", "()Ljava/lang/Object;"⟩, Cond.instanceMethod ⟨"java/lang/Object", "clone", "()Ljava/lang/Object;"⟩, Cond.selects "[I" ⟨"[I", "clone", "()Ljava/lang/Object;"⟩ ⟨"java/lang/Object", "clone", "()Ljava/lang/Object;"⟩, Cond.classLink RJ7 317 "[I", Cond.arrayClass .int, Cond.methodLink RJ7 304 Lib.Math.min.name, Cond.methodLink RJ7 150 arraycopyName, Cond.native arraycopyName]
def wsX2_hasRoom_r2 : List Cond := [Cond.static arraycopyName, Cond.initialized "java/lang/System"]
def wsX2_hasRoom : List Cond := .code yX2_hasRoom cX2_hasRoom 2 (some .boolean) :: ((wsX2_hasRoom_r1 ++ wsX2_hasRoom_r2) ++ wsX20)
def wsX2_give_r1 : List Cond := [Cond.fieldLink RX2 11 "LawNumberer$History" "givenTo" "[I", Cond.fieldLink RX2 33 "LawNumberer$History" "size" "I", Cond.fieldLink RX2 15 "LawNumberer$History" "days" "[I", Cond.fieldLink RX2 18 "LawNumberer$History" "labels" "[I", Cond.fieldLink RX2 21 "LawNumberer$History" "earlier" "[I", Cond.fieldLink RX2 24 "LawNumberer$History" "last" "[I", Cond.methodLink RX2 39 yX2_latest, Cond.instanceMethod yX2_latest, Cond.selects RX2 yX2_latest yX2_latest, Cond.initialized RX2, Cond.code yX2_latest cX2_latest 2 (some .int), Cond.methodLink RX2 43 yX2_hasRoom, Cond.instanceMethod yX2_hasRoom, Cond.selects RX2 yX2_hasRoom yX2_hasRoom, Cond.code yX2_hasRoom cX2_hasRoom 2 (some .boolean), Cond.constant RX2 47 (40960), Cond.methodLink RX2 48 Lib.Math.min.name, Cond.static Lib.Math.min.name, Cond.initialized "java/lang/Math", Cond.code Lib.Math.min.name Lib.Math.min.code 2 (some .int), Cond.methodLink RX2 54 yJ7_copyOf_59c91, Cond.static yJ7_copyOf_59c91, Cond.initialized RJ7, Cond.code yJ7_copyOf_59c91 cJ7_copyOf_59c91 3 (some (.array .int))]
def wsX2_give_r2 : List Cond := [Cond.methodLink RJ7 316 ⟨"[I", "clone", "()Ljava/lang/Object;"⟩, Cond.sameMethod "[I" "java/lang/Object" "clone" "()Ljava/lang/Object;", Cond.native ⟨"java/lang/Object", "clone", "()Ljava/lang/Object;"⟩, Cond.instanceMethod ⟨"java/lang/Object", "clone", "()Ljava/lang/Object;"⟩, Cond.selects "[I" ⟨"[I", "clone", "()Ljava/lang/Object;"⟩ ⟨"java/lang/Object", "clone", "()Ljava/lang/Object;"⟩, Cond.classLink RJ7 317 "[I", Cond.arrayClass .int, Cond.methodLink RJ7 304 Lib.Math.min.name, Cond.methodLink RJ7 150 arraycopyName, Cond.native arraycopyName, Cond.static arraycopyName, Cond.initialized "java/lang/System"]
def wsX2_give : List Cond := .code yX2_give cX2_give 4 none :: ((wsX2_give_r1 ++ wsX2_give_r2) ++ wsX20)
def wsX2_cutTo : List Cond := .code yX2_cutTo cX2_cutTo 2 none :: ([.fieldLink RX2 33 "LawNumberer$History" "size" "I", .fieldLink RX2 24 "LawNumberer$History" "last" "[I", .fieldLink RX2 11 "LawNumberer$History" "givenTo" "[I", .fieldLink RX2 21 "LawNumberer$History" "earlier" "[I"] ++ wsX20)
def wsX3_init : List Cond := .code yX3_init cX3_init 1 none :: ([.methodLink RX3 3 objectInit, .instanceMethod objectInit, .code objectInit ⟨#[0xb1]⟩ 1 none, .arrayClass .int, .fieldLink RX3 9 "LawNumberer$Items" "levels" "[I", .fieldLink RX3 15 "LawNumberer$Items" "under" "[I", .fieldLink RX3 18 "LawNumberer$Items" "came" "[I", .arrayClass .boolean, .fieldLink RX3 21 "LawNumberer$Items" "struck" "[Z", .fieldLink RX3 25 "LawNumberer$Items" "order" "[I"] ++ wsX30)
def wsX3_clear : List Cond := .code yX3_clear cX3_clear 1 none :: ([.fieldLink RX3 28 "LawNumberer$Items" "size" "I", .fieldLink RX3 32 "LawNumberer$Items" "struckSize" "I"] ++ wsX30)
def wsX3_has : List Cond := .code yX3_has cX3_has 2 (some .boolean) :: ([.fieldLink RX3 28 "LawNumberer$Items" "size" "I"] ++ wsX30)
def wsX3_isInRow : List Cond := .code yX3_isInRow cX3_isInRow 5 (some .boolean) :: ([.fieldLink RX3 9 "LawNumberer$Items" "levels" "[I", .fieldLink RX3 15 "LawNumberer$Items" "under" "[I", .methodLink RX3 35 yX3_has, .instanceMethod yX3_has, .selects RX3 yX3_has yX3_has, .initialized RX3, .code yX3_has cX3_has 2 (some .boolean), .fieldLink RX3 28 "LawNumberer$Items" "size" "I"] ++ wsX30)
def wsX3_placeOf : List Cond := .code yX3_placeOf cX3_placeOf 3 (some .int) :: ([.fieldLink RX3 28 "LawNumberer$Items" "size" "I", .fieldLink RX3 25 "LawNumberer$Items" "order" "[I"] ++ wsX30)
def wsX3_placeInRow : List Cond := .code yX3_placeInRow cX3_placeInRow 6 (some .int) :: ([.fieldLink RX3 25 "LawNumberer$Items" "order" "[I", .fieldLink RX3 9 "LawNumberer$Items" "levels" "[I", .fieldLink RX3 15 "LawNumberer$Items" "under" "[I", .methodLink RX3 39 yX3_placeOf, .instanceMethod yX3_placeOf, .selects RX3 yX3_placeOf yX3_placeOf, .initialized RX3, .code yX3_placeOf cX3_placeOf 3 (some .int), .fieldLink RX3 28 "LawNumberer$Items" "size" "I", .methodLink RX3 43 yX3_isInRow, .instanceMethod yX3_isInRow, .selects RX3 yX3_isInRow yX3_isInRow, .code yX3_isInRow cX3_isInRow 5 (some .boolean), .methodLink RX3 35 yX3_has, .instanceMethod yX3_has, .selects RX3 yX3_has yX3_has, .code yX3_has cX3_has 2 (some .boolean)] ++ wsX30)
def wsX3_placeBehind : List Cond := .code yX3_placeBehind cX3_placeBehind 3 (some .int) :: ([.fieldLink RX3 28 "LawNumberer$Items" "size" "I", .fieldLink RX3 9 "LawNumberer$Items" "levels" "[I", .fieldLink RX3 25 "LawNumberer$Items" "order" "[I", .methodLink RX3 39 yX3_placeOf, .instanceMethod yX3_placeOf, .selects RX3 yX3_placeOf yX3_placeOf, .initialized RX3, .code yX3_placeOf cX3_placeOf 3 (some .int)] ++ wsX30)
def wsX3_insert : List Cond := .code yX3_insert cX3_insert 5 none :: ([.fieldLink RX3 28 "LawNumberer$Items" "size" "I", .fieldLink RX3 25 "LawNumberer$Items" "order" "[I", .methodLink RX3 47 arraycopyName, .native arraycopyName, .static arraycopyName, .initialized "java/lang/System", .fieldLink RX3 9 "LawNumberer$Items" "levels" "[I", .fieldLink RX3 15 "LawNumberer$Items" "under" "[I", .fieldLink RX3 18 "LawNumberer$Items" "came" "[I", .fieldLink RX3 21 "LawNumberer$Items" "struck" "[Z"] ++ wsX30)
def wsX3_dropLast : List Cond := .code yX3_dropLast cX3_dropLast 2 none :: ([.fieldLink RX3 28 "LawNumberer$Items" "size" "I", .fieldLink RX3 25 "LawNumberer$Items" "order" "[I", .methodLink RX3 47 arraycopyName, .native arraycopyName, .static arraycopyName, .initialized "java/lang/System", .methodLink RX3 39 yX3_placeOf, .instanceMethod yX3_placeOf, .selects RX3 yX3_placeOf yX3_placeOf, .initialized RX3, .code yX3_placeOf cX3_placeOf 3 (some .int)] ++ wsX30)
def wsX3_setStruck : List Cond := .code yX3_setStruck cX3_setStruck 3 none :: ([.fieldLink RX3 21 "LawNumberer$Items" "struck" "[Z", .fieldLink RX3 32 "LawNumberer$Items" "struckSize" "I", .methodLink RX3 35 yX3_has, .instanceMethod yX3_has, .selects RX3 yX3_has yX3_has, .initialized RX3, .code yX3_has cX3_has 2 (some .boolean), .fieldLink RX3 28 "LawNumberer$Items" "size" "I"] ++ wsX30)
def wsX8_init : List Cond := .code yX8_init cX8_init 1 none :: ([.methodLink RX8 3 objectInit, .instanceMethod objectInit, .code objectInit ⟨#[0xb1]⟩ 1 none, .arrayClass .int, .fieldLink RX8 9 "LawNumberer$Text" "bytes" "[I"] ++ wsX80)
def wsX4_init : List Cond := .code yX4_init cX4_init 1 none :: ([.methodLink RX4 3 objectInit, .instanceMethod objectInit, .code objectInit ⟨#[0xb1]⟩ 1 none, .classLink RX4 9 RX8, .instantiable RX8 2, .initialized RX8, .fieldLink RX4 12 "LawNumberer$LabelReader" "written" "LLawNumberer$Text;", .instanceMethod yX8_init, .code yX8_init cX8_init 1 none, .methodLink RX8 3 objectInit, .arrayClass .int, .fieldLink RX8 9 "LawNumberer$Text" "bytes" "[I"] ++ wsX80 ++ wsX40)
def wsX4_numeralsEnd : List Cond := .code yX4_numeralsEnd cX4_numeralsEnd 4 (some .int) :: ([.fieldLink RX4 62 "LawNumberer$Text" "length" "I", .methodLink RX4 38 yX8_byteAt, .instanceMethod yX8_byteAt, .selects RX8 yX8_byteAt yX8_byteAt, .initialized RX8, .code yX8_byteAt cX8_byteAt 2 (some .int), .fieldLink RX8 15 "LawNumberer$Text" "length" "I", .fieldLink RX8 9 "LawNumberer$Text" "bytes" "[I", .methodLink RX4 80 yX1_isNumeral, .static yX1_isNumeral, .initialized RX1, .code yX1_isNumeral cX1_isNumeral 2 (some .boolean), .methodLink RX1 52 yX1_romanWorth, .static yX1_romanWorth, .code yX1_romanWorth cX1_romanWorth 1 (some .int)] ++ wsX80)
def wsX4_failAt : List Cond := .code yX4_failAt cX4_failAt 3 none :: ([.fieldLink RX4 18 "LawNumberer$LabelReader" "fault" "I", .fieldLink RX4 22 "LawNumberer$LabelReader" "faultPlace" "I"] ++ wsX40)
def wsX4_capitalsEnd : List Cond := .code yX4_capitalsEnd cX4_capitalsEnd 3 (some .int) :: ([.fieldLink RX4 62 "LawNumberer$Text" "length" "I", .methodLink RX4 38 yX8_byteAt, .instanceMethod yX8_byteAt, .selects RX8 yX8_byteAt yX8_byteAt, .initialized RX8, .code yX8_byteAt cX8_byteAt 2 (some .int), .fieldLink RX8 15 "LawNumberer$Text" "length" "I", .fieldLink RX8 9 "LawNumberer$Text" "bytes" "[I"] ++ wsX80)
def wsX5_plain : List Cond := .code yX5_plain cX5_plain 1 (some .int) :: ([])
def wsX5_setLetter : List Cond := .code yX5_setLetter cX5_setLetter 4 (some .int) :: ([])
def wsX5_withSuffix : List Cond := .code yX5_withSuffix cX5_withSuffix 6 (some .int) :: ([.methodLink RX5 19 yX5_setLetter, .static yX5_setLetter, .initialized RX5, .code yX5_setLetter cX5_setLetter 4 (some .int)])
def wsX4_meant : List Cond := .code yX4_meant cX4_meant 6 (some .int) :: ([.fieldLink RX4 42 "LawNumberer$LabelReader" "behind" "I", .methodLink RX4 38 yX8_byteAt, .instanceMethod yX8_byteAt, .selects RX8 yX8_byteAt yX8_byteAt, .initialized RX8, .code yX8_byteAt cX8_byteAt 2 (some .int), .fieldLink RX8 15 "LawNumberer$Text" "length" "I", .fieldLink RX8 9 "LawNumberer$Text" "bytes" "[I", .methodLink RX4 73 yX5_plain, .static yX5_plain, .initialized RX5, .code yX5_plain cX5_plain 1 (some .int), .methodLink RX4 76 yX5_withSuffix, .static yX5_withSuffix, .code yX5_withSuffix cX5_withSuffix 6 (some .int), .methodLink RX5 19 yX5_setLetter, .static yX5_setLetter, .code yX5_setLetter cX5_setLetter 4 (some .int)] ++ wsX40 ++ wsX80)
def wsX8_isPart : List Cond := .code yX8_isPart cX8_isPart 5 (some .boolean) :: ([.fieldLink RX8 15 "LawNumberer$Text" "length" "I", .methodLink RX8 28 yX8_byteAt, .instanceMethod yX8_byteAt, .selects RX8 yX8_byteAt yX8_byteAt, .initialized RX8, .code yX8_byteAt cX8_byteAt 2 (some .int), .fieldLink RX8 9 "LawNumberer$Text" "bytes" "[I"] ++ wsX80)
def wsX4_isAsWritten_r1 : List Cond := [Cond.fieldLink RX4 12 "LawNumberer$LabelReader" "written" "LLawNumberer$Text;", Cond.fieldLink RX4 62 "LawNumberer$Text" "length" "I", Cond.fieldLink RX4 27 "LawNumberer$LabelReader" "label" "I", Cond.fieldLink RX4 42 "LawNumberer$LabelReader" "behind" "I", Cond.methodLink RX4 65 yX1_writeLabel, Cond.static yX1_writeLabel, Cond.initialized RX1, Cond.code yX1_writeLabel cX1_writeLabel 6 none, Cond.methodLink RX1 9 yX5_numberOf, Cond.static yX5_numberOf, Cond.initialized RX5, Cond.code yX5_numberOf cX5_numberOf 1 (some .int), Cond.methodLink RX1 15 yX1_writeRoman, Cond.static yX1_writeRoman, Cond.code yX1_writeRoman cX1_writeRoman 5 none, Cond.fieldLink RX1 41 "LawNumberer$Forms" "STEPS" "[I", Cond.fieldLink RX1 45 "LawNumberer$Forms" "FIRST_SIGNS" "[C", Cond.fieldLink RX1 49 "LawNumberer$Forms" "SECOND_SIGNS" "[C", Cond.methodLink RX1 31 yX8_put, Cond.instanceMethod yX8_put, Cond.selects RX8 yX8_put yX8_put, Cond.initialized RX8, Cond.code yX8_put cX8_put 2 none, Cond.fieldLink RX8 15 "LawNumberer$Text" "length" "I"]
def wsX4_isAsWritten_r2 : List Cond := [Cond.fieldLink RX8 9 "LawNumberer$Text" "bytes" "[I", Cond.methodLink RX1 21 yX1_writeLetters, Cond.static yX1_writeLetters, Cond.code yX1_writeLetters cX1_writeLetters 3 none, Cond.methodLink RX1 25 yX1_writeDigits, Cond.static yX1_writeDigits, Cond.code yX1_writeDigits cX1_writeDigits 2 none, Cond.methodLink RX1 28 yX5_lettersIn, Cond.static yX5_lettersIn, Cond.code yX5_lettersIn cX5_lettersIn 2 (some .int), Cond.methodLink RX5 11 yX5_letterOf, Cond.static yX5_letterOf, Cond.code yX5_letterOf cX5_letterOf 2 (some .int), Cond.methodLink RX1 37 yX5_letterOf, Cond.methodLink RX4 69 yX8_isPart, Cond.instanceMethod yX8_isPart, Cond.selects RX8 yX8_isPart yX8_isPart, Cond.code yX8_isPart cX8_isPart 5 (some .boolean), Cond.methodLink RX8 28 yX8_byteAt, Cond.instanceMethod yX8_byteAt, Cond.selects RX8 yX8_byteAt yX8_byteAt, Cond.code yX8_byteAt cX8_byteAt 2 (some .int)]
def wsX4_isAsWritten : List Cond := .code yX4_isAsWritten cX4_isAsWritten 4 (some .boolean) :: ((wsX4_isAsWritten_r1 ++ wsX4_isAsWritten_r2) ++ wsX40 ++ wsX80)
def wsX4_readAt_r1 : List Cond := [Cond.fieldLink RX4 18 "LawNumberer$LabelReader" "fault" "I", Cond.fieldLink RX4 22 "LawNumberer$LabelReader" "faultPlace" "I", Cond.fieldLink RX4 27 "LawNumberer$LabelReader" "label" "I", Cond.fieldLink RX4 42 "LawNumberer$LabelReader" "behind" "I", Cond.methodLink RX4 30 yX4_numeralsEnd, Cond.static yX4_numeralsEnd, Cond.initialized RX4, Cond.code yX4_numeralsEnd cX4_numeralsEnd 4 (some .int), Cond.fieldLink RX4 62 "LawNumberer$Text" "length" "I", Cond.methodLink RX4 38 yX8_byteAt, Cond.instanceMethod yX8_byteAt, Cond.selects RX8 yX8_byteAt yX8_byteAt, Cond.initialized RX8, Cond.code yX8_byteAt cX8_byteAt 2 (some .int), Cond.fieldLink RX8 15 "LawNumberer$Text" "length" "I", Cond.fieldLink RX8 9 "LawNumberer$Text" "bytes" "[I", Cond.methodLink RX4 80 yX1_isNumeral, Cond.static yX1_isNumeral, Cond.initialized RX1, Cond.code yX1_isNumeral cX1_isNumeral 2 (some .boolean), Cond.methodLink RX1 52 yX1_romanWorth, Cond.static yX1_romanWorth, Cond.code yX1_romanWorth cX1_romanWorth 1 (some .int), Cond.methodLink RX4 34 yX4_failAt]
def wsX4_readAt_r2 : List Cond := [Cond.instanceMethod yX4_failAt, Cond.selects RX4 yX4_failAt yX4_failAt, Cond.code yX4_failAt cX4_failAt 3 none, Cond.methodLink RX4 45 yX4_capitalsEnd, Cond.static yX4_capitalsEnd, Cond.code yX4_capitalsEnd cX4_capitalsEnd 3 (some .int), Cond.methodLink RX4 49 yX1_numberIn, Cond.static yX1_numberIn, Cond.code yX1_numberIn cX1_numberIn 4 (some .int), Cond.methodLink RX1 55 yX1_romanIn, Cond.static yX1_romanIn, Cond.code yX1_romanIn cX1_romanIn 8 (some .int), Cond.methodLink RX1 63 yX8_byteAt, Cond.methodLink RX1 59 yX1_placesIn, Cond.static yX1_placesIn, Cond.code yX1_placesIn cX1_placesIn 7 (some .int), Cond.methodLink RX4 55 yX4_meant, Cond.instanceMethod yX4_meant, Cond.selects RX4 yX4_meant yX4_meant, Cond.code yX4_meant cX4_meant 6 (some .int), Cond.methodLink RX4 73 yX5_plain, Cond.static yX5_plain, Cond.initialized RX5, Cond.code yX5_plain cX5_plain 1 (some .int)]
def wsX4_readAt_r3 : List Cond := [Cond.methodLink RX4 76 yX5_withSuffix, Cond.static yX5_withSuffix, Cond.code yX5_withSuffix cX5_withSuffix 6 (some .int), Cond.methodLink RX5 19 yX5_setLetter, Cond.static yX5_setLetter, Cond.code yX5_setLetter cX5_setLetter 4 (some .int), Cond.methodLink RX4 58 yX4_isAsWritten, Cond.instanceMethod yX4_isAsWritten, Cond.selects RX4 yX4_isAsWritten yX4_isAsWritten, Cond.code yX4_isAsWritten cX4_isAsWritten 4 (some .boolean), Cond.fieldLink RX4 12 "LawNumberer$LabelReader" "written" "LLawNumberer$Text;", Cond.methodLink RX4 65 yX1_writeLabel, Cond.static yX1_writeLabel, Cond.code yX1_writeLabel cX1_writeLabel 6 none, Cond.methodLink RX1 9 yX5_numberOf, Cond.static yX5_numberOf, Cond.code yX5_numberOf cX5_numberOf 1 (some .int), Cond.methodLink RX1 15 yX1_writeRoman, Cond.static yX1_writeRoman, Cond.code yX1_writeRoman cX1_writeRoman 5 none, Cond.fieldLink RX1 41 "LawNumberer$Forms" "STEPS" "[I", Cond.fieldLink RX1 45 "LawNumberer$Forms" "FIRST_SIGNS" "[C", Cond.fieldLink RX1 49 "LawNumberer$Forms" "SECOND_SIGNS" "[C", Cond.methodLink RX1 31 yX8_put]
def wsX4_readAt_r4 : List Cond := [Cond.instanceMethod yX8_put, Cond.selects RX8 yX8_put yX8_put, Cond.code yX8_put cX8_put 2 none, Cond.methodLink RX1 21 yX1_writeLetters, Cond.static yX1_writeLetters, Cond.code yX1_writeLetters cX1_writeLetters 3 none, Cond.methodLink RX1 25 yX1_writeDigits, Cond.static yX1_writeDigits, Cond.code yX1_writeDigits cX1_writeDigits 2 none, Cond.methodLink RX1 28 yX5_lettersIn, Cond.static yX5_lettersIn, Cond.code yX5_lettersIn cX5_lettersIn 2 (some .int), Cond.methodLink RX5 11 yX5_letterOf, Cond.static yX5_letterOf, Cond.code yX5_letterOf cX5_letterOf 2 (some .int), Cond.methodLink RX1 37 yX5_letterOf, Cond.methodLink RX4 69 yX8_isPart, Cond.instanceMethod yX8_isPart, Cond.selects RX8 yX8_isPart yX8_isPart, Cond.code yX8_isPart cX8_isPart 5 (some .boolean), Cond.methodLink RX8 28 yX8_byteAt]
def wsX4_readAt : List Cond := .code yX4_readAt cX4_readAt 7 none :: ((wsX4_readAt_r1 ++ (wsX4_readAt_r2 ++ (wsX4_readAt_r3 ++ wsX4_readAt_r4))) ++ wsX40 ++ wsX80)
def wsX5_suffixOf : List Cond := .code yX5_suffixOf cX5_suffixOf 3 (some .int) :: ([.methodLink RX5 15 yX5_lettersIn, .static yX5_lettersIn, .initialized RX5, .code yX5_lettersIn cX5_lettersIn 2 (some .int), .methodLink RX5 11 yX5_letterOf, .static yX5_letterOf, .code yX5_letterOf cX5_letterOf 2 (some .int)])
def wsX5_fillWithA : List Cond := .code yX5_fillWithA cX5_fillWithA 5 (some .int) :: ([.methodLink RX5 19 yX5_setLetter, .static yX5_setLetter, .initialized RX5, .code yX5_setLetter cX5_setLetter 4 (some .int)])
def wsX5_leastAbove : List Cond := .code yX5_leastAbove cX5_leastAbove 6 (some .int) :: ([.methodLink RX5 15 yX5_lettersIn, .static yX5_lettersIn, .initialized RX5, .code yX5_lettersIn cX5_lettersIn 2 (some .int), .methodLink RX5 11 yX5_letterOf, .static yX5_letterOf, .code yX5_letterOf cX5_letterOf 2 (some .int), .methodLink RX5 26 yX5_plain, .static yX5_plain, .code yX5_plain cX5_plain 1 (some .int), .methodLink RX5 32 yX5_fillWithA, .static yX5_fillWithA, .code yX5_fillWithA cX5_fillWithA 5 (some .int), .methodLink RX5 19 yX5_setLetter, .static yX5_setLetter, .code yX5_setLetter cX5_setLetter 4 (some .int), .methodLink RX5 23 yX5_numberOf, .static yX5_numberOf, .code yX5_numberOf cX5_numberOf 1 (some .int)])
def wsX5_between : List Cond := .code yX5_between cX5_between 4 (some .int) :: ([.methodLink RX5 23 yX5_numberOf, .static yX5_numberOf, .initialized RX5, .code yX5_numberOf cX5_numberOf 1 (some .int), .methodLink RX5 26 yX5_plain, .static yX5_plain, .code yX5_plain cX5_plain 1 (some .int), .methodLink RX5 29 yX5_leastAbove, .static yX5_leastAbove, .code yX5_leastAbove cX5_leastAbove 6 (some .int), .methodLink RX5 15 yX5_lettersIn, .static yX5_lettersIn, .code yX5_lettersIn cX5_lettersIn 2 (some .int), .methodLink RX5 11 yX5_letterOf, .static yX5_letterOf, .code yX5_letterOf cX5_letterOf 2 (some .int), .methodLink RX5 32 yX5_fillWithA, .static yX5_fillWithA, .code yX5_fillWithA cX5_fillWithA 5 (some .int), .methodLink RX5 19 yX5_setLetter, .static yX5_setLetter, .code yX5_setLetter cX5_setLetter 4 (some .int)])
def wsX6_init : List Cond := .code yX6_init cX6_init 1 none :: ([.methodLink RX6 3 objectInit, .instanceMethod objectInit, .code objectInit ⟨#[0xb1]⟩ 1 none, .arrayClass .int, .fieldLink RX6 9 "LawNumberer$Levels" "forms" "[I", .arrayClass .boolean, .fieldLink RX6 15 "LawNumberer$Levels" "through" "[Z"] ++ wsX60)
def wsX6_formOf : List Cond := .code yX6_formOf cX6_formOf 2 (some .int) :: ([.fieldLink RX6 19 "LawNumberer$Levels" "size" "I", .fieldLink RX6 9 "LawNumberer$Levels" "forms" "[I"] ++ wsX60)
def wsX6_isThrough : List Cond := .code yX6_isThrough cX6_isThrough 2 (some .boolean) :: ([.fieldLink RX6 19 "LawNumberer$Levels" "size" "I", .fieldLink RX6 15 "LawNumberer$Levels" "through" "[Z"] ++ wsX60)
def wsX6_become : List Cond := .code yX6_become cX6_become 3 none :: ([.fieldLink RX6 9 "LawNumberer$Levels" "forms" "[I", .fieldLink RX6 15 "LawNumberer$Levels" "through" "[Z", .fieldLink RX6 19 "LawNumberer$Levels" "size" "I"] ++ wsX60)
def wsX6_append : List Cond := .code yX6_append cX6_append 2 none :: ([.fieldLink RX6 19 "LawNumberer$Levels" "size" "I", .fieldLink RX6 9 "LawNumberer$Levels" "forms" "[I", .fieldLink RX6 15 "LawNumberer$Levels" "through" "[Z"] ++ wsX60)
def wsX6_makeLastThrough : List Cond := .code yX6_makeLastThrough cX6_makeLastThrough 1 none :: ([.fieldLink RX6 19 "LawNumberer$Levels" "size" "I", .fieldLink RX6 15 "LawNumberer$Levels" "through" "[Z"] ++ wsX60)
def wsX7_init : List Cond := .code yX7_init cX7_init 1 none :: ([.methodLink RX7 3 objectInit, .instanceMethod objectInit, .code objectInit ⟨#[0xb1]⟩ 1 none])
def wsX7_failAt : List Cond := .code yX7_failAt cX7_failAt 3 none :: ([.fieldLink RX7 15 "LawNumberer$LevelsReader" "fault" "I", .fieldLink RX7 20 "LawNumberer$LevelsReader" "faultPlace" "I"] ++ wsX70)
def wsX7_takeSemicolon : List Cond := .code yX7_takeSemicolon cX7_takeSemicolon 2 none :: ([.fieldLink RX7 23 "LawNumberer$LevelsReader" "due" "I", .methodLink RX7 51 yX7_failAt, .instanceMethod yX7_failAt, .selects RX7 yX7_failAt yX7_failAt, .initialized RX7, .code yX7_failAt cX7_failAt 3 none, .fieldLink RX7 15 "LawNumberer$LevelsReader" "fault" "I", .fieldLink RX7 20 "LawNumberer$LevelsReader" "faultPlace" "I"] ++ wsX70)
def wsX7_isSmallLetter : List Cond := .code yX7_isSmallLetter cX7_isSmallLetter 1 (some .boolean) :: ([])
def wsX7_wordEnd : List Cond := .code yX7_wordEnd cX7_wordEnd 3 (some .int) :: ([.fieldLink RX7 26 "LawNumberer$Text" "length" "I", .methodLink RX7 31 yX8_byteAt, .instanceMethod yX8_byteAt, .selects RX8 yX8_byteAt yX8_byteAt, .initialized RX8, .code yX8_byteAt cX8_byteAt 2 (some .int), .fieldLink RX8 15 "LawNumberer$Text" "length" "I", .fieldLink RX8 9 "LawNumberer$Text" "bytes" "[I", .methodLink RX7 39 yX7_isSmallLetter, .static yX7_isSmallLetter, .initialized RX7, .code yX7_isSmallLetter cX7_isSmallLetter 1 (some .boolean)] ++ wsX80)
def wsJ0_coder_7d493 : List Cond := .code yJ0_coder_7d493 cJ0_coder_7d493 1 (some .byte) :: ([.fieldLink RJ0 38 "java/lang/String" "COMPACT_STRINGS" "Z", .fieldLink RJ0 15 "java/lang/String" "coder" "B"])
def wsJ0_length_8abf5 : List Cond := .code yJ0_length_8abf5 cJ0_length_8abf5 1 (some .int) :: ([.fieldLink RJ0 9 "java/lang/String" "value" "[B", .methodLink RJ0 335 yJ0_coder_7d493, .instanceMethod yJ0_coder_7d493, .selects RJ0 yJ0_coder_7d493 yJ0_coder_7d493, .initialized RJ0, .code yJ0_coder_7d493 cJ0_coder_7d493 1 (some .byte), .fieldLink RJ0 38 "java/lang/String" "COMPACT_STRINGS" "Z", .fieldLink RJ0 15 "java/lang/String" "coder" "B"])
def wsJ0_isLatin1_aae02 : List Cond := .code yJ0_isLatin1_aae02 cJ0_isLatin1_aae02 1 (some .boolean) :: ([.fieldLink RJ0 38 "java/lang/String" "COMPACT_STRINGS" "Z", .fieldLink RJ0 15 "java/lang/String" "coder" "B"])
def wsJ3_checkIndex_8e157 : List Cond := .code yJ3_checkIndex_8e157 cJ3_checkIndex_8e157 3 (some .int) :: ([])
def wsJ0_checkIndex_df160 : List Cond := .code yJ0_checkIndex_df160 cJ0_checkIndex_df160 2 none :: ([.fieldLink RJ0 1053 "jdk/internal/util/Preconditions" "SIOOBE_FORMATTER" "Ljava/util/function/BiFunction;", .methodLink RJ0 1059 yJ3_checkIndex_8e157, .static yJ3_checkIndex_8e157, .initialized RJ3, .code yJ3_checkIndex_8e157 cJ3_checkIndex_8e157 3 (some .int)])
def wsJ1_charAt_3b067 : List Cond := .code yJ1_charAt_3b067 cJ1_charAt_3b067 2 (some .char) :: ([.methodLink RJ1 9 yJ0_checkIndex_df160, .static yJ0_checkIndex_df160, .initialized RJ0, .code yJ0_checkIndex_df160 cJ0_checkIndex_df160 2 none, .fieldLink RJ0 1053 "jdk/internal/util/Preconditions" "SIOOBE_FORMATTER" "Ljava/util/function/BiFunction;", .methodLink RJ0 1059 yJ3_checkIndex_8e157, .static yJ3_checkIndex_8e157, .initialized RJ3, .code yJ3_checkIndex_8e157 cJ3_checkIndex_8e157 3 (some .int)])
def wsJ2_length_9d52b : List Cond := .code yJ2_length_9d52b cJ2_length_9d52b 1 (some .int) :: ([])
def wsJ2_checkIndex_2214a : List Cond := .code yJ2_checkIndex_2214a cJ2_checkIndex_2214a 2 none :: ([.methodLink RJ2 48 yJ2_length_9d52b, .static yJ2_length_9d52b, .initialized RJ2, .code yJ2_length_9d52b cJ2_length_9d52b 1 (some .int), .methodLink RJ2 414 yJ0_checkIndex_df160, .static yJ0_checkIndex_df160, .initialized RJ0, .code yJ0_checkIndex_df160 cJ0_checkIndex_df160 2 none, .fieldLink RJ0 1053 "jdk/internal/util/Preconditions" "SIOOBE_FORMATTER" "Ljava/util/function/BiFunction;", .methodLink RJ0 1059 yJ3_checkIndex_8e157, .static yJ3_checkIndex_8e157, .initialized RJ3, .code yJ3_checkIndex_8e157 cJ3_checkIndex_8e157 3 (some .int)])
def wsJ2_getChar_3b067 : List Cond := .code yJ2_getChar_3b067 cJ2_getChar_3b067 2 (some .char) :: ([.fieldLink RJ2 44 "java/lang/StringUTF16" "$assertionsDisabled" "Z", .fieldLink RJ2 59 "java/lang/StringUTF16" "HI_BYTE_SHIFT" "I", .fieldLink RJ2 63 "java/lang/StringUTF16" "LO_BYTE_SHIFT" "I", .methodLink RJ2 48 yJ2_length_9d52b, .static yJ2_length_9d52b, .initialized RJ2, .code yJ2_length_9d52b cJ2_length_9d52b 1 (some .int)])
def wsJ2_charAt_3b067 : List Cond := .code yJ2_charAt_3b067 cJ2_charAt_3b067 2 (some .char) :: ([.methodLink RJ2 67 yJ2_checkIndex_2214a, .static yJ2_checkIndex_2214a, .initialized RJ2, .code yJ2_checkIndex_2214a cJ2_checkIndex_2214a 2 none, .methodLink RJ2 48 yJ2_length_9d52b, .static yJ2_length_9d52b, .code yJ2_length_9d52b cJ2_length_9d52b 1 (some .int), .methodLink RJ2 414 yJ0_checkIndex_df160, .static yJ0_checkIndex_df160, .initialized RJ0, .code yJ0_checkIndex_df160 cJ0_checkIndex_df160 2 none, .fieldLink RJ0 1053 "jdk/internal/util/Preconditions" "SIOOBE_FORMATTER" "Ljava/util/function/BiFunction;", .methodLink RJ0 1059 yJ3_checkIndex_8e157, .static yJ3_checkIndex_8e157, .initialized RJ3, .code yJ3_checkIndex_8e157 cJ3_checkIndex_8e157 3 (some .int), .methodLink RJ2 71 yJ2_getChar_3b067, .static yJ2_getChar_3b067, .code yJ2_getChar_3b067 cJ2_getChar_3b067 2 (some .char), .fieldLink RJ2 44 "java/lang/StringUTF16" "$assertionsDisabled" "Z", .fieldLink RJ2 59 "java/lang/StringUTF16" "HI_BYTE_SHIFT" "I", .fieldLink RJ2 63 "java/lang/StringUTF16" "LO_BYTE_SHIFT" "I"])
def wsJ0_charAt_5068e_r1 : List Cond := [Cond.fieldLink RJ0 9 "java/lang/String" "value" "[B", Cond.methodLink RJ0 492 yJ0_isLatin1_aae02, Cond.instanceMethod yJ0_isLatin1_aae02, Cond.selects RJ0 yJ0_isLatin1_aae02 yJ0_isLatin1_aae02, Cond.initialized RJ0, Cond.code yJ0_isLatin1_aae02 cJ0_isLatin1_aae02 1 (some .boolean), Cond.fieldLink RJ0 38 "java/lang/String" "COMPACT_STRINGS" "Z", Cond.fieldLink RJ0 15 "java/lang/String" "coder" "B", Cond.methodLink RJ0 495 yJ1_charAt_3b067, Cond.static yJ1_charAt_3b067, Cond.initialized RJ1, Cond.code yJ1_charAt_3b067 cJ1_charAt_3b067 2 (some .char), Cond.methodLink RJ1 9 yJ0_checkIndex_df160, Cond.static yJ0_checkIndex_df160, Cond.code yJ0_checkIndex_df160 cJ0_checkIndex_df160 2 none, Cond.fieldLink RJ0 1053 "jdk/internal/util/Preconditions" "SIOOBE_FORMATTER" "Ljava/util/function/BiFunction;", Cond.methodLink RJ0 1059 yJ3_checkIndex_8e157, Cond.static yJ3_checkIndex_8e157, Cond.initialized RJ3, Cond.code yJ3_checkIndex_8e157 cJ3_checkIndex_8e157 3 (some .int), Cond.methodLink RJ0 498 yJ2_charAt_3b067, Cond.static yJ2_charAt_3b067, Cond.initialized RJ2, Cond.code yJ2_charAt_3b067 cJ2_charAt_3b067 2 (some .char)]
def wsJ0_charAt_5068e_r2 : List Cond := [Cond.methodLink RJ2 67 yJ2_checkIndex_2214a, Cond.static yJ2_checkIndex_2214a, Cond.code yJ2_checkIndex_2214a cJ2_checkIndex_2214a 2 none, Cond.methodLink RJ2 48 yJ2_length_9d52b, Cond.static yJ2_length_9d52b, Cond.code yJ2_length_9d52b cJ2_length_9d52b 1 (some .int), Cond.methodLink RJ2 414 yJ0_checkIndex_df160, Cond.methodLink RJ2 71 yJ2_getChar_3b067, Cond.static yJ2_getChar_3b067, Cond.code yJ2_getChar_3b067 cJ2_getChar_3b067 2 (some .char), Cond.fieldLink RJ2 44 "java/lang/StringUTF16" "$assertionsDisabled" "Z", Cond.fieldLink RJ2 59 "java/lang/StringUTF16" "HI_BYTE_SHIFT" "I", Cond.fieldLink RJ2 63 "java/lang/StringUTF16" "LO_BYTE_SHIFT" "I"]
def wsJ0_charAt_5068e : List Cond := .code yJ0_charAt_5068e cJ0_charAt_5068e 2 (some .char) :: ((wsJ0_charAt_5068e_r1 ++ wsJ0_charAt_5068e_r2))
def wsX8_isWord_r1 : List Cond := [Cond.methodLink RX8 23 yJ0_length_8abf5, Cond.instanceMethod yJ0_length_8abf5, Cond.selects RJ0 yJ0_length_8abf5 yJ0_length_8abf5, Cond.initialized RJ0, Cond.code yJ0_length_8abf5 cJ0_length_8abf5 1 (some .int), Cond.fieldLink RJ0 9 "java/lang/String" "value" "[B", Cond.methodLink RJ0 335 yJ0_coder_7d493, Cond.instanceMethod yJ0_coder_7d493, Cond.selects RJ0 yJ0_coder_7d493 yJ0_coder_7d493, Cond.code yJ0_coder_7d493 cJ0_coder_7d493 1 (some .byte), Cond.fieldLink RJ0 38 "java/lang/String" "COMPACT_STRINGS" "Z", Cond.fieldLink RJ0 15 "java/lang/String" "coder" "B", Cond.methodLink RX8 28 yX8_byteAt, Cond.instanceMethod yX8_byteAt, Cond.selects RX8 yX8_byteAt yX8_byteAt, Cond.initialized RX8, Cond.code yX8_byteAt cX8_byteAt 2 (some .int), Cond.fieldLink RX8 15 "LawNumberer$Text" "length" "I", Cond.fieldLink RX8 9 "LawNumberer$Text" "bytes" "[I", Cond.methodLink RX8 32 yJ0_charAt_5068e, Cond.instanceMethod yJ0_charAt_5068e, Cond.selects RJ0 yJ0_charAt_5068e yJ0_charAt_5068e, Cond.code yJ0_charAt_5068e cJ0_charAt_5068e 2 (some .char), Cond.methodLink RJ0 492 yJ0_isLatin1_aae02]
def wsX8_isWord_r2 : List Cond := [Cond.instanceMethod yJ0_isLatin1_aae02, Cond.selects RJ0 yJ0_isLatin1_aae02 yJ0_isLatin1_aae02, Cond.code yJ0_isLatin1_aae02 cJ0_isLatin1_aae02 1 (some .boolean), Cond.methodLink RJ0 495 yJ1_charAt_3b067, Cond.static yJ1_charAt_3b067, Cond.initialized RJ1, Cond.code yJ1_charAt_3b067 cJ1_charAt_3b067 2 (some .char), Cond.methodLink RJ1 9 yJ0_checkIndex_df160, Cond.static yJ0_checkIndex_df160, Cond.code yJ0_checkIndex_df160 cJ0_checkIndex_df160 2 none, Cond.fieldLink RJ0 1053 "jdk/internal/util/Preconditions" "SIOOBE_FORMATTER" "Ljava/util/function/BiFunction;", Cond.methodLink RJ0 1059 yJ3_checkIndex_8e157, Cond.static yJ3_checkIndex_8e157, Cond.initialized RJ3, Cond.code yJ3_checkIndex_8e157 cJ3_checkIndex_8e157 3 (some .int), Cond.methodLink RJ0 498 yJ2_charAt_3b067, Cond.static yJ2_charAt_3b067, Cond.initialized RJ2, Cond.code yJ2_charAt_3b067 cJ2_charAt_3b067 2 (some .char), Cond.methodLink RJ2 67 yJ2_checkIndex_2214a, Cond.static yJ2_checkIndex_2214a, Cond.code yJ2_checkIndex_2214a cJ2_checkIndex_2214a 2 none, Cond.methodLink RJ2 48 yJ2_length_9d52b, Cond.static yJ2_length_9d52b]
def wsX8_isWord_r3 : List Cond := [Cond.code yJ2_length_9d52b cJ2_length_9d52b 1 (some .int), Cond.methodLink RJ2 414 yJ0_checkIndex_df160, Cond.methodLink RJ2 71 yJ2_getChar_3b067, Cond.static yJ2_getChar_3b067, Cond.code yJ2_getChar_3b067 cJ2_getChar_3b067 2 (some .char), Cond.fieldLink RJ2 44 "java/lang/StringUTF16" "$assertionsDisabled" "Z", Cond.fieldLink RJ2 59 "java/lang/StringUTF16" "HI_BYTE_SHIFT" "I", Cond.fieldLink RJ2 63 "java/lang/StringUTF16" "LO_BYTE_SHIFT" "I"]
def wsX8_isWord : List Cond := .code yX8_isWord cX8_isWord 5 (some .boolean) :: ((wsX8_isWord_r1 ++ (wsX8_isWord_r2 ++ wsX8_isWord_r3)) ++ wsX80)
def wsX7_formNamed_r1 : List Cond := [Cond.methodLink RX7 57 yX8_isWord, Cond.instanceMethod yX8_isWord, Cond.selects RX8 yX8_isWord yX8_isWord, Cond.initialized RX8, Cond.code yX8_isWord cX8_isWord 5 (some .boolean), Cond.methodLink RX8 23 yJ0_length_8abf5, Cond.instanceMethod yJ0_length_8abf5, Cond.selects RJ0 yJ0_length_8abf5 yJ0_length_8abf5, Cond.initialized RJ0, Cond.code yJ0_length_8abf5 cJ0_length_8abf5 1 (some .int), Cond.fieldLink RJ0 9 "java/lang/String" "value" "[B", Cond.methodLink RJ0 335 yJ0_coder_7d493, Cond.instanceMethod yJ0_coder_7d493, Cond.selects RJ0 yJ0_coder_7d493 yJ0_coder_7d493, Cond.code yJ0_coder_7d493 cJ0_coder_7d493 1 (some .byte), Cond.fieldLink RJ0 38 "java/lang/String" "COMPACT_STRINGS" "Z", Cond.fieldLink RJ0 15 "java/lang/String" "coder" "B", Cond.methodLink RX8 28 yX8_byteAt, Cond.instanceMethod yX8_byteAt, Cond.selects RX8 yX8_byteAt yX8_byteAt, Cond.code yX8_byteAt cX8_byteAt 2 (some .int), Cond.fieldLink RX8 15 "LawNumberer$Text" "length" "I", Cond.fieldLink RX8 9 "LawNumberer$Text" "bytes" "[I", Cond.methodLink RX8 32 yJ0_charAt_5068e]
def wsX7_formNamed_r2 : List Cond := [Cond.instanceMethod yJ0_charAt_5068e, Cond.selects RJ0 yJ0_charAt_5068e yJ0_charAt_5068e, Cond.code yJ0_charAt_5068e cJ0_charAt_5068e 2 (some .char), Cond.methodLink RJ0 492 yJ0_isLatin1_aae02, Cond.instanceMethod yJ0_isLatin1_aae02, Cond.selects RJ0 yJ0_isLatin1_aae02 yJ0_isLatin1_aae02, Cond.code yJ0_isLatin1_aae02 cJ0_isLatin1_aae02 1 (some .boolean), Cond.methodLink RJ0 495 yJ1_charAt_3b067, Cond.static yJ1_charAt_3b067, Cond.initialized RJ1, Cond.code yJ1_charAt_3b067 cJ1_charAt_3b067 2 (some .char), Cond.methodLink RJ1 9 yJ0_checkIndex_df160, Cond.static yJ0_checkIndex_df160, Cond.code yJ0_checkIndex_df160 cJ0_checkIndex_df160 2 none, Cond.fieldLink RJ0 1053 "jdk/internal/util/Preconditions" "SIOOBE_FORMATTER" "Ljava/util/function/BiFunction;", Cond.methodLink RJ0 1059 yJ3_checkIndex_8e157, Cond.static yJ3_checkIndex_8e157, Cond.initialized RJ3, Cond.code yJ3_checkIndex_8e157 cJ3_checkIndex_8e157 3 (some .int), Cond.methodLink RJ0 498 yJ2_charAt_3b067, Cond.static yJ2_charAt_3b067, Cond.initialized RJ2, Cond.code yJ2_charAt_3b067 cJ2_charAt_3b067 2 (some .char), Cond.methodLink RJ2 67 yJ2_checkIndex_2214a]
def wsX7_formNamed_r3 : List Cond := [Cond.static yJ2_checkIndex_2214a, Cond.code yJ2_checkIndex_2214a cJ2_checkIndex_2214a 2 none, Cond.methodLink RJ2 48 yJ2_length_9d52b, Cond.static yJ2_length_9d52b, Cond.code yJ2_length_9d52b cJ2_length_9d52b 1 (some .int), Cond.methodLink RJ2 414 yJ0_checkIndex_df160, Cond.methodLink RJ2 71 yJ2_getChar_3b067, Cond.static yJ2_getChar_3b067, Cond.code yJ2_getChar_3b067 cJ2_getChar_3b067 2 (some .char), Cond.fieldLink RJ2 44 "java/lang/StringUTF16" "$assertionsDisabled" "Z", Cond.fieldLink RJ2 59 "java/lang/StringUTF16" "HI_BYTE_SHIFT" "I", Cond.fieldLink RJ2 63 "java/lang/StringUTF16" "LO_BYTE_SHIFT" "I"]
def wsX7_formNamed : List Cond := .code yX7_formNamed cX7_formNamed 3 (some .int) :: ((wsX7_formNamed_r1 ++ (wsX7_formNamed_r2 ++ wsX7_formNamed_r3)) ++ wsX80)
def wsX7_takeWord_r1 : List Cond := [Cond.fieldLink RX7 23 "LawNumberer$LevelsReader" "due" "I", Cond.fieldLink RX7 9 "LawNumberer$Levels" "size" "I", Cond.methodLink RX7 57 yX8_isWord, Cond.instanceMethod yX8_isWord, Cond.selects RX8 yX8_isWord yX8_isWord, Cond.initialized RX8, Cond.code yX8_isWord cX8_isWord 5 (some .boolean), Cond.methodLink RX8 23 yJ0_length_8abf5, Cond.instanceMethod yJ0_length_8abf5, Cond.selects RJ0 yJ0_length_8abf5 yJ0_length_8abf5, Cond.initialized RJ0, Cond.code yJ0_length_8abf5 cJ0_length_8abf5 1 (some .int), Cond.fieldLink RJ0 9 "java/lang/String" "value" "[B", Cond.methodLink RJ0 335 yJ0_coder_7d493, Cond.instanceMethod yJ0_coder_7d493, Cond.selects RJ0 yJ0_coder_7d493 yJ0_coder_7d493, Cond.code yJ0_coder_7d493 cJ0_coder_7d493 1 (some .byte), Cond.fieldLink RJ0 38 "java/lang/String" "COMPACT_STRINGS" "Z", Cond.fieldLink RJ0 15 "java/lang/String" "coder" "B", Cond.methodLink RX8 28 yX8_byteAt, Cond.instanceMethod yX8_byteAt, Cond.selects RX8 yX8_byteAt yX8_byteAt, Cond.code yX8_byteAt cX8_byteAt 2 (some .int), Cond.fieldLink RX8 15 "LawNumberer$Text" "length" "I"]
def wsX7_takeWord_r2 : List Cond := [Cond.fieldLink RX8 9 "LawNumberer$Text" "bytes" "[I", Cond.methodLink RX8 32 yJ0_charAt_5068e, Cond.instanceMethod yJ0_charAt_5068e, Cond.selects RJ0 yJ0_charAt_5068e yJ0_charAt_5068e, Cond.code yJ0_charAt_5068e cJ0_charAt_5068e 2 (some .char), Cond.methodLink RJ0 492 yJ0_isLatin1_aae02, Cond.instanceMethod yJ0_isLatin1_aae02, Cond.selects RJ0 yJ0_isLatin1_aae02 yJ0_isLatin1_aae02, Cond.code yJ0_isLatin1_aae02 cJ0_isLatin1_aae02 1 (some .boolean), Cond.methodLink RJ0 495 yJ1_charAt_3b067, Cond.static yJ1_charAt_3b067, Cond.initialized RJ1, Cond.code yJ1_charAt_3b067 cJ1_charAt_3b067 2 (some .char), Cond.methodLink RJ1 9 yJ0_checkIndex_df160, Cond.static yJ0_checkIndex_df160, Cond.code yJ0_checkIndex_df160 cJ0_checkIndex_df160 2 none, Cond.fieldLink RJ0 1053 "jdk/internal/util/Preconditions" "SIOOBE_FORMATTER" "Ljava/util/function/BiFunction;", Cond.methodLink RJ0 1059 yJ3_checkIndex_8e157, Cond.static yJ3_checkIndex_8e157, Cond.initialized RJ3, Cond.code yJ3_checkIndex_8e157 cJ3_checkIndex_8e157 3 (some .int), Cond.methodLink RJ0 498 yJ2_charAt_3b067, Cond.static yJ2_charAt_3b067, Cond.initialized RJ2]
def wsX7_takeWord_r3 : List Cond := [Cond.code yJ2_charAt_3b067 cJ2_charAt_3b067 2 (some .char), Cond.methodLink RJ2 67 yJ2_checkIndex_2214a, Cond.static yJ2_checkIndex_2214a, Cond.code yJ2_checkIndex_2214a cJ2_checkIndex_2214a 2 none, Cond.methodLink RJ2 48 yJ2_length_9d52b, Cond.static yJ2_length_9d52b, Cond.code yJ2_length_9d52b cJ2_length_9d52b 1 (some .int), Cond.methodLink RJ2 414 yJ0_checkIndex_df160, Cond.methodLink RJ2 71 yJ2_getChar_3b067, Cond.static yJ2_getChar_3b067, Cond.code yJ2_getChar_3b067 cJ2_getChar_3b067 2 (some .char), Cond.fieldLink RJ2 44 "java/lang/StringUTF16" "$assertionsDisabled" "Z", Cond.fieldLink RJ2 59 "java/lang/StringUTF16" "HI_BYTE_SHIFT" "I", Cond.fieldLink RJ2 63 "java/lang/StringUTF16" "LO_BYTE_SHIFT" "I", Cond.methodLink RX7 61 yX6_makeLastThrough, Cond.instanceMethod yX6_makeLastThrough, Cond.selects RX6 yX6_makeLastThrough yX6_makeLastThrough, Cond.initialized RX6, Cond.code yX6_makeLastThrough cX6_makeLastThrough 1 none, Cond.fieldLink RX6 19 "LawNumberer$Levels" "size" "I", Cond.fieldLink RX6 15 "LawNumberer$Levels" "through" "[Z", Cond.methodLink RX7 64 yX7_formNamed, Cond.static yX7_formNamed, Cond.initialized RX7]
def wsX7_takeWord_r4 : List Cond := [Cond.code yX7_formNamed cX7_formNamed 3 (some .int), Cond.methodLink RX7 51 yX7_failAt, Cond.instanceMethod yX7_failAt, Cond.selects RX7 yX7_failAt yX7_failAt, Cond.code yX7_failAt cX7_failAt 3 none, Cond.fieldLink RX7 15 "LawNumberer$LevelsReader" "fault" "I", Cond.fieldLink RX7 20 "LawNumberer$LevelsReader" "faultPlace" "I", Cond.methodLink RX7 68 yX6_append, Cond.instanceMethod yX6_append, Cond.selects RX6 yX6_append yX6_append, Cond.code yX6_append cX6_append 2 none, Cond.fieldLink RX6 9 "LawNumberer$Levels" "forms" "[I"]
def wsX7_takeWord : List Cond := .code yX7_takeWord cX7_takeWord 6 none :: ((wsX7_takeWord_r1 ++ (wsX7_takeWord_r2 ++ (wsX7_takeWord_r3 ++ wsX7_takeWord_r4))) ++ wsX70 ++ wsX60 ++ wsX80)
def wsX7_readInto_r1 : List Cond := [Cond.fieldLink RX7 9 "LawNumberer$Levels" "size" "I", Cond.fieldLink RX7 15 "LawNumberer$LevelsReader" "fault" "I", Cond.fieldLink RX7 20 "LawNumberer$LevelsReader" "faultPlace" "I", Cond.fieldLink RX7 23 "LawNumberer$LevelsReader" "due" "I", Cond.fieldLink RX7 26 "LawNumberer$Text" "length" "I", Cond.methodLink RX7 31 yX8_byteAt, Cond.instanceMethod yX8_byteAt, Cond.selects RX8 yX8_byteAt yX8_byteAt, Cond.initialized RX8, Cond.code yX8_byteAt cX8_byteAt 2 (some .int), Cond.fieldLink RX8 15 "LawNumberer$Text" "length" "I", Cond.fieldLink RX8 9 "LawNumberer$Text" "bytes" "[I", Cond.methodLink RX7 35 yX7_takeSemicolon, Cond.instanceMethod yX7_takeSemicolon, Cond.selects RX7 yX7_takeSemicolon yX7_takeSemicolon, Cond.initialized RX7, Cond.code yX7_takeSemicolon cX7_takeSemicolon 2 none, Cond.methodLink RX7 51 yX7_failAt, Cond.instanceMethod yX7_failAt, Cond.selects RX7 yX7_failAt yX7_failAt, Cond.code yX7_failAt cX7_failAt 3 none, Cond.methodLink RX7 39 yX7_isSmallLetter, Cond.static yX7_isSmallLetter, Cond.code yX7_isSmallLetter cX7_isSmallLetter 1 (some .boolean)]
def wsX7_readInto_r2 : List Cond := [Cond.methodLink RX7 43 yX7_wordEnd, Cond.static yX7_wordEnd, Cond.code yX7_wordEnd cX7_wordEnd 3 (some .int), Cond.methodLink RX7 47 yX7_takeWord, Cond.instanceMethod yX7_takeWord, Cond.selects RX7 yX7_takeWord yX7_takeWord, Cond.code yX7_takeWord cX7_takeWord 6 none, Cond.methodLink RX7 57 yX8_isWord, Cond.instanceMethod yX8_isWord, Cond.selects RX8 yX8_isWord yX8_isWord, Cond.code yX8_isWord cX8_isWord 5 (some .boolean), Cond.methodLink RX8 23 yJ0_length_8abf5, Cond.instanceMethod yJ0_length_8abf5, Cond.selects RJ0 yJ0_length_8abf5 yJ0_length_8abf5, Cond.initialized RJ0, Cond.code yJ0_length_8abf5 cJ0_length_8abf5 1 (some .int), Cond.fieldLink RJ0 9 "java/lang/String" "value" "[B", Cond.methodLink RJ0 335 yJ0_coder_7d493, Cond.instanceMethod yJ0_coder_7d493, Cond.selects RJ0 yJ0_coder_7d493 yJ0_coder_7d493, Cond.code yJ0_coder_7d493 cJ0_coder_7d493 1 (some .byte), Cond.fieldLink RJ0 38 "java/lang/String" "COMPACT_STRINGS" "Z", Cond.fieldLink RJ0 15 "java/lang/String" "coder" "B", Cond.methodLink RX8 28 yX8_byteAt]
def wsX7_readInto_r3 : List Cond := [Cond.methodLink RX8 32 yJ0_charAt_5068e, Cond.instanceMethod yJ0_charAt_5068e, Cond.selects RJ0 yJ0_charAt_5068e yJ0_charAt_5068e, Cond.code yJ0_charAt_5068e cJ0_charAt_5068e 2 (some .char), Cond.methodLink RJ0 492 yJ0_isLatin1_aae02, Cond.instanceMethod yJ0_isLatin1_aae02, Cond.selects RJ0 yJ0_isLatin1_aae02 yJ0_isLatin1_aae02, Cond.code yJ0_isLatin1_aae02 cJ0_isLatin1_aae02 1 (some .boolean), Cond.methodLink RJ0 495 yJ1_charAt_3b067, Cond.static yJ1_charAt_3b067, Cond.initialized RJ1, Cond.code yJ1_charAt_3b067 cJ1_charAt_3b067 2 (some .char), Cond.methodLink RJ1 9 yJ0_checkIndex_df160, Cond.static yJ0_checkIndex_df160, Cond.code yJ0_checkIndex_df160 cJ0_checkIndex_df160 2 none, Cond.fieldLink RJ0 1053 "jdk/internal/util/Preconditions" "SIOOBE_FORMATTER" "Ljava/util/function/BiFunction;", Cond.methodLink RJ0 1059 yJ3_checkIndex_8e157, Cond.static yJ3_checkIndex_8e157, Cond.initialized RJ3, Cond.code yJ3_checkIndex_8e157 cJ3_checkIndex_8e157 3 (some .int), Cond.methodLink RJ0 498 yJ2_charAt_3b067, Cond.static yJ2_charAt_3b067, Cond.initialized RJ2, Cond.code yJ2_charAt_3b067 cJ2_charAt_3b067 2 (some .char)]
def wsX7_readInto_r4 : List Cond := [Cond.methodLink RJ2 67 yJ2_checkIndex_2214a, Cond.static yJ2_checkIndex_2214a, Cond.code yJ2_checkIndex_2214a cJ2_checkIndex_2214a 2 none, Cond.methodLink RJ2 48 yJ2_length_9d52b, Cond.static yJ2_length_9d52b, Cond.code yJ2_length_9d52b cJ2_length_9d52b 1 (some .int), Cond.methodLink RJ2 414 yJ0_checkIndex_df160, Cond.methodLink RJ2 71 yJ2_getChar_3b067, Cond.static yJ2_getChar_3b067, Cond.code yJ2_getChar_3b067 cJ2_getChar_3b067 2 (some .char), Cond.fieldLink RJ2 44 "java/lang/StringUTF16" "$assertionsDisabled" "Z", Cond.fieldLink RJ2 59 "java/lang/StringUTF16" "HI_BYTE_SHIFT" "I", Cond.fieldLink RJ2 63 "java/lang/StringUTF16" "LO_BYTE_SHIFT" "I", Cond.methodLink RX7 61 yX6_makeLastThrough, Cond.instanceMethod yX6_makeLastThrough, Cond.selects RX6 yX6_makeLastThrough yX6_makeLastThrough, Cond.initialized RX6, Cond.code yX6_makeLastThrough cX6_makeLastThrough 1 none, Cond.fieldLink RX6 19 "LawNumberer$Levels" "size" "I", Cond.fieldLink RX6 15 "LawNumberer$Levels" "through" "[Z", Cond.methodLink RX7 64 yX7_formNamed, Cond.static yX7_formNamed, Cond.code yX7_formNamed cX7_formNamed 3 (some .int), Cond.methodLink RX7 68 yX6_append]
def wsX7_readInto_r5 : List Cond := [Cond.instanceMethod yX6_append, Cond.selects RX6 yX6_append yX6_append, Cond.code yX6_append cX6_append 2 none, Cond.fieldLink RX6 9 "LawNumberer$Levels" "forms" "[I"]
def wsX7_readInto : List Cond := .code yX7_readInto cX7_readInto 6 none :: ((wsX7_readInto_r1 ++ (wsX7_readInto_r2 ++ (wsX7_readInto_r3 ++ (wsX7_readInto_r4 ++ wsX7_readInto_r5)))) ++ wsX60 ++ wsX70 ++ wsX80)
def wsX8_putFour : List Cond := .code yX8_putFour cX8_putFour 2 none :: ([.methodLink RX8 19 yX8_put, .instanceMethod yX8_put, .selects RX8 yX8_put yX8_put, .initialized RX8, .code yX8_put cX8_put 2 none, .fieldLink RX8 15 "LawNumberer$Text" "length" "I", .fieldLink RX8 9 "LawNumberer$Text" "bytes" "[I"] ++ wsX80)
def wsX9_init_r1 : List Cond := [Cond.methodLink RX9 1 objectInit, Cond.instanceMethod objectInit, Cond.code objectInit ⟨#[0xb1]⟩ 1 none, Cond.classLink RX9 7 RX8, Cond.instantiable RX8 2, Cond.initialized RX8, Cond.fieldLink RX9 10 "LawNumberer" "tape" "LLawNumberer$Text;", Cond.fieldLink RX9 16 "LawNumberer" "out" "LLawNumberer$Text;", Cond.classLink RX9 19 RX6, Cond.instantiable RX6 3, Cond.initialized RX6, Cond.fieldLink RX9 22 "LawNumberer" "scheme" "LLawNumberer$Levels;", Cond.fieldLink RX9 26 "LawNumberer" "told" "LLawNumberer$Levels;", Cond.classLink RX9 29 RX7, Cond.instantiable RX7 3, Cond.initialized RX7, Cond.fieldLink RX9 32 "LawNumberer" "levelsReader" "LLawNumberer$LevelsReader;", Cond.classLink RX9 36 RX4, Cond.instantiable RX4 5, Cond.initialized RX4, Cond.fieldLink RX9 39 "LawNumberer" "labelReader" "LLawNumberer$LabelReader;", Cond.classLink RX9 43 RX3, Cond.instantiable RX3 7, Cond.initialized RX3]
def wsX9_init_r2 : List Cond := [Cond.fieldLink RX9 46 "LawNumberer" "items" "LLawNumberer$Items;", Cond.classLink RX9 50 RX2, Cond.instantiable RX2 6, Cond.initialized RX2, Cond.fieldLink RX9 53 "LawNumberer" "history" "LLawNumberer$History;", Cond.classLink RX9 57 RX0, Cond.instantiable RX0 5, Cond.initialized RX0, Cond.fieldLink RX9 60 "LawNumberer" "acts" "LLawNumberer$Acts;", Cond.arrayClass .int, Cond.fieldLink RX9 64 "LawNumberer" "path" "[I", Cond.fieldLink RX9 68 "LawNumberer$Levels" "forms" "[I", Cond.fieldLink RX9 71 "LawNumberer$Levels" "size" "I", Cond.fieldLink RX9 75 "LawNumberer" "faultPlace" "I", Cond.instanceMethod yX8_init, Cond.code yX8_init cX8_init 1 none, Cond.methodLink RX8 3 objectInit, Cond.fieldLink RX8 9 "LawNumberer$Text" "bytes" "[I", Cond.instanceMethod yX6_init, Cond.code yX6_init cX6_init 1 none, Cond.methodLink RX6 3 objectInit, Cond.fieldLink RX6 9 "LawNumberer$Levels" "forms" "[I", Cond.arrayClass .boolean, Cond.fieldLink RX6 15 "LawNumberer$Levels" "through" "[Z"]
def wsX9_init_r3 : List Cond := [Cond.instanceMethod yX7_init, Cond.code yX7_init cX7_init 1 none, Cond.methodLink RX7 3 objectInit, Cond.instanceMethod yX4_init, Cond.code yX4_init cX4_init 1 none, Cond.methodLink RX4 3 objectInit, Cond.classLink RX4 9 RX8, Cond.fieldLink RX4 12 "LawNumberer$LabelReader" "written" "LLawNumberer$Text;", Cond.instanceMethod yX3_init, Cond.code yX3_init cX3_init 1 none, Cond.methodLink RX3 3 objectInit, Cond.fieldLink RX3 9 "LawNumberer$Items" "levels" "[I", Cond.fieldLink RX3 15 "LawNumberer$Items" "under" "[I", Cond.fieldLink RX3 18 "LawNumberer$Items" "came" "[I", Cond.fieldLink RX3 21 "LawNumberer$Items" "struck" "[Z", Cond.fieldLink RX3 25 "LawNumberer$Items" "order" "[I", Cond.methodLink RX9 52 yX2_init, Cond.instanceMethod yX2_init, Cond.code yX2_init cX2_init 1 none, Cond.methodLink RX2 3 objectInit, Cond.fieldLink RX2 11 "LawNumberer$History" "givenTo" "[I", Cond.fieldLink RX2 15 "LawNumberer$History" "days" "[I", Cond.fieldLink RX2 18 "LawNumberer$History" "labels" "[I", Cond.fieldLink RX2 21 "LawNumberer$History" "earlier" "[I"]
def wsX9_init_r4 : List Cond := [Cond.fieldLink RX2 24 "LawNumberer$History" "last" "[I", Cond.methodLink RX2 27 yJ7_fill_53178, Cond.static yJ7_fill_53178, Cond.initialized RJ7, Cond.code yJ7_fill_53178 cJ7_fill_53178 4 none, Cond.instanceMethod yX0_init, Cond.code yX0_init cX0_init 1 none, Cond.methodLink RX0 3 objectInit, Cond.fieldLink RX0 9 "LawNumberer$Acts" "kinds" "[I", Cond.fieldLink RX0 15 "LawNumberer$Acts" "actItems" "[I", Cond.fieldLink RX0 18 "LawNumberer$Acts" "marks" "[I"]
def wsX9_init : List Cond := .code yX9_init cX9_init 1 none :: ((wsX9_init_r1 ++ (wsX9_init_r2 ++ (wsX9_init_r3 ++ wsX9_init_r4))) ++ wsX80 ++ wsX90 ++ wsX60 ++ wsX70 ++ wsX40 ++ wsX30 ++ wsX20 ++ wsX00)
def wsX9_feed : List Cond := .code yX9_feed cX9_feed 6 (some .int) :: ([.fieldLink RX9 10 "LawNumberer" "tape" "LLawNumberer$Text;", .fieldLink RX9 78 "LawNumberer$Text" "length" "I", .methodLink RX9 81 yX8_putFour, .instanceMethod yX8_putFour, .selects RX8 yX8_putFour yX8_putFour, .initialized RX8, .code yX8_putFour cX8_putFour 2 none, .methodLink RX8 19 yX8_put, .instanceMethod yX8_put, .selects RX8 yX8_put yX8_put, .code yX8_put cX8_put 2 none, .fieldLink RX8 15 "LawNumberer$Text" "length" "I", .fieldLink RX8 9 "LawNumberer$Text" "bytes" "[I"] ++ wsX90 ++ wsX80)
def wsX9_end : List Cond := .code yX9_end cX9_end 2 (some .boolean) :: ([.fieldLink RX9 10 "LawNumberer" "tape" "LLawNumberer$Text;", .fieldLink RX9 78 "LawNumberer$Text" "length" "I"] ++ wsX90 ++ wsX80)
def wsX9_levels_r1 : List Cond := [Cond.fieldLink RX9 32 "LawNumberer" "levelsReader" "LLawNumberer$LevelsReader;", Cond.fieldLink RX9 26 "LawNumberer" "told" "LLawNumberer$Levels;", Cond.fieldLink RX9 10 "LawNumberer" "tape" "LLawNumberer$Text;", Cond.fieldLink RX9 78 "LawNumberer$Text" "length" "I", Cond.fieldLink RX9 89 "LawNumberer$LevelsReader" "fault" "I", Cond.fieldLink RX9 92 "LawNumberer" "faultKind" "I", Cond.fieldLink RX9 95 "LawNumberer$LevelsReader" "faultPlace" "I", Cond.fieldLink RX9 75 "LawNumberer" "faultPlace" "I", Cond.fieldLink RX9 22 "LawNumberer" "scheme" "LLawNumberer$Levels;", Cond.fieldLink RX9 46 "LawNumberer" "items" "LLawNumberer$Items;", Cond.fieldLink RX9 53 "LawNumberer" "history" "LLawNumberer$History;", Cond.fieldLink RX9 60 "LawNumberer" "acts" "LLawNumberer$Acts;", Cond.fieldLink RX9 105 "LawNumberer" "today" "I", Cond.fieldLink RX9 71 "LawNumberer$Levels" "size" "I", Cond.methodLink RX9 85 yX7_readInto, Cond.instanceMethod yX7_readInto, Cond.selects RX7 yX7_readInto yX7_readInto, Cond.initialized RX7, Cond.code yX7_readInto cX7_readInto 6 none, Cond.fieldLink RX7 9 "LawNumberer$Levels" "size" "I", Cond.fieldLink RX7 15 "LawNumberer$LevelsReader" "fault" "I", Cond.fieldLink RX7 20 "LawNumberer$LevelsReader" "faultPlace" "I", Cond.fieldLink RX7 23 "LawNumberer$LevelsReader" "due" "I", Cond.fieldLink RX7 26 "LawNumberer$Text" "length" "I"]
def wsX9_levels_r2 : List Cond := [Cond.methodLink RX7 31 yX8_byteAt, Cond.instanceMethod yX8_byteAt, Cond.selects RX8 yX8_byteAt yX8_byteAt, Cond.initialized RX8, Cond.code yX8_byteAt cX8_byteAt 2 (some .int), Cond.fieldLink RX8 15 "LawNumberer$Text" "length" "I", Cond.fieldLink RX8 9 "LawNumberer$Text" "bytes" "[I", Cond.methodLink RX7 35 yX7_takeSemicolon, Cond.instanceMethod yX7_takeSemicolon, Cond.selects RX7 yX7_takeSemicolon yX7_takeSemicolon, Cond.code yX7_takeSemicolon cX7_takeSemicolon 2 none, Cond.methodLink RX7 51 yX7_failAt, Cond.instanceMethod yX7_failAt, Cond.selects RX7 yX7_failAt yX7_failAt, Cond.code yX7_failAt cX7_failAt 3 none, Cond.methodLink RX7 39 yX7_isSmallLetter, Cond.static yX7_isSmallLetter, Cond.code yX7_isSmallLetter cX7_isSmallLetter 1 (some .boolean), Cond.methodLink RX7 43 yX7_wordEnd, Cond.static yX7_wordEnd, Cond.code yX7_wordEnd cX7_wordEnd 3 (some .int), Cond.methodLink RX7 47 yX7_takeWord, Cond.instanceMethod yX7_takeWord, Cond.selects RX7 yX7_takeWord yX7_takeWord]
def wsX9_levels_r3 : List Cond := [Cond.code yX7_takeWord cX7_takeWord 6 none, Cond.methodLink RX7 57 yX8_isWord, Cond.instanceMethod yX8_isWord, Cond.selects RX8 yX8_isWord yX8_isWord, Cond.code yX8_isWord cX8_isWord 5 (some .boolean), Cond.methodLink RX8 23 yJ0_length_8abf5, Cond.instanceMethod yJ0_length_8abf5, Cond.selects RJ0 yJ0_length_8abf5 yJ0_length_8abf5, Cond.initialized RJ0, Cond.code yJ0_length_8abf5 cJ0_length_8abf5 1 (some .int), Cond.fieldLink RJ0 9 "java/lang/String" "value" "[B", Cond.methodLink RJ0 335 yJ0_coder_7d493, Cond.instanceMethod yJ0_coder_7d493, Cond.selects RJ0 yJ0_coder_7d493 yJ0_coder_7d493, Cond.code yJ0_coder_7d493 cJ0_coder_7d493 1 (some .byte), Cond.fieldLink RJ0 38 "java/lang/String" "COMPACT_STRINGS" "Z", Cond.fieldLink RJ0 15 "java/lang/String" "coder" "B", Cond.methodLink RX8 28 yX8_byteAt, Cond.methodLink RX8 32 yJ0_charAt_5068e, Cond.instanceMethod yJ0_charAt_5068e, Cond.selects RJ0 yJ0_charAt_5068e yJ0_charAt_5068e, Cond.code yJ0_charAt_5068e cJ0_charAt_5068e 2 (some .char), Cond.methodLink RJ0 492 yJ0_isLatin1_aae02, Cond.instanceMethod yJ0_isLatin1_aae02]
def wsX9_levels_r4 : List Cond := [Cond.selects RJ0 yJ0_isLatin1_aae02 yJ0_isLatin1_aae02, Cond.code yJ0_isLatin1_aae02 cJ0_isLatin1_aae02 1 (some .boolean), Cond.methodLink RJ0 495 yJ1_charAt_3b067, Cond.static yJ1_charAt_3b067, Cond.initialized RJ1, Cond.code yJ1_charAt_3b067 cJ1_charAt_3b067 2 (some .char), Cond.methodLink RJ1 9 yJ0_checkIndex_df160, Cond.static yJ0_checkIndex_df160, Cond.code yJ0_checkIndex_df160 cJ0_checkIndex_df160 2 none, Cond.fieldLink RJ0 1053 "jdk/internal/util/Preconditions" "SIOOBE_FORMATTER" "Ljava/util/function/BiFunction;", Cond.methodLink RJ0 1059 yJ3_checkIndex_8e157, Cond.static yJ3_checkIndex_8e157, Cond.initialized RJ3, Cond.code yJ3_checkIndex_8e157 cJ3_checkIndex_8e157 3 (some .int), Cond.methodLink RJ0 498 yJ2_charAt_3b067, Cond.static yJ2_charAt_3b067, Cond.initialized RJ2, Cond.code yJ2_charAt_3b067 cJ2_charAt_3b067 2 (some .char), Cond.methodLink RJ2 67 yJ2_checkIndex_2214a, Cond.static yJ2_checkIndex_2214a, Cond.code yJ2_checkIndex_2214a cJ2_checkIndex_2214a 2 none, Cond.methodLink RJ2 48 yJ2_length_9d52b, Cond.static yJ2_length_9d52b, Cond.code yJ2_length_9d52b cJ2_length_9d52b 1 (some .int)]
def wsX9_levels_r5 : List Cond := [Cond.methodLink RJ2 414 yJ0_checkIndex_df160, Cond.methodLink RJ2 71 yJ2_getChar_3b067, Cond.static yJ2_getChar_3b067, Cond.code yJ2_getChar_3b067 cJ2_getChar_3b067 2 (some .char), Cond.fieldLink RJ2 44 "java/lang/StringUTF16" "$assertionsDisabled" "Z", Cond.fieldLink RJ2 59 "java/lang/StringUTF16" "HI_BYTE_SHIFT" "I", Cond.fieldLink RJ2 63 "java/lang/StringUTF16" "LO_BYTE_SHIFT" "I", Cond.methodLink RX7 61 yX6_makeLastThrough, Cond.instanceMethod yX6_makeLastThrough, Cond.selects RX6 yX6_makeLastThrough yX6_makeLastThrough, Cond.initialized RX6, Cond.code yX6_makeLastThrough cX6_makeLastThrough 1 none, Cond.fieldLink RX6 19 "LawNumberer$Levels" "size" "I", Cond.fieldLink RX6 15 "LawNumberer$Levels" "through" "[Z", Cond.methodLink RX7 64 yX7_formNamed, Cond.static yX7_formNamed, Cond.code yX7_formNamed cX7_formNamed 3 (some .int), Cond.methodLink RX7 68 yX6_append, Cond.instanceMethod yX6_append, Cond.selects RX6 yX6_append yX6_append, Cond.code yX6_append cX6_append 2 none, Cond.fieldLink RX6 9 "LawNumberer$Levels" "forms" "[I", Cond.methodLink RX9 96 yX6_become, Cond.instanceMethod yX6_become]
def wsX9_levels_r6 : List Cond := [Cond.selects RX6 yX6_become yX6_become, Cond.code yX6_become cX6_become 3 none, Cond.methodLink RX9 100 yX3_clear, Cond.instanceMethod yX3_clear, Cond.selects RX3 yX3_clear yX3_clear, Cond.initialized RX3, Cond.code yX3_clear cX3_clear 1 none, Cond.fieldLink RX3 28 "LawNumberer$Items" "size" "I", Cond.fieldLink RX3 32 "LawNumberer$Items" "struckSize" "I", Cond.methodLink RX9 103 yX2_clear, Cond.instanceMethod yX2_clear, Cond.selects RX2 yX2_clear yX2_clear, Cond.initialized RX2, Cond.code yX2_clear cX2_clear 1 none, Cond.fieldLink RX2 24 "LawNumberer$History" "last" "[I", Cond.fieldLink RX2 33 "LawNumberer$History" "size" "I", Cond.methodLink RX2 27 yJ7_fill_53178, Cond.static yJ7_fill_53178, Cond.initialized RJ7, Cond.code yJ7_fill_53178 cJ7_fill_53178 4 none, Cond.methodLink RX9 104 yX0_clear, Cond.instanceMethod yX0_clear, Cond.selects RX0 yX0_clear yX0_clear, Cond.initialized RX0]
def wsX9_levels_r7 : List Cond := [Cond.code yX0_clear cX0_clear 1 none, Cond.fieldLink RX0 21 "LawNumberer$Acts" "next" "I", Cond.fieldLink RX0 25 "LawNumberer$Acts" "size" "I"]
def wsX9_levels : List Cond := .code yX9_levels cX9_levels 1 (some .int) :: ((wsX9_levels_r1 ++ (wsX9_levels_r2 ++ (wsX9_levels_r3 ++ (wsX9_levels_r4 ++ (wsX9_levels_r5 ++ (wsX9_levels_r6 ++ wsX9_levels_r7)))))) ++ wsX90 ++ wsX80 ++ wsX70 ++ wsX60 ++ wsX30 ++ wsX20 ++ wsX00)
def wsX9_fault : List Cond := .code yX9_fault cX9_fault 1 (some .int) :: ([.fieldLink RX9 92 "LawNumberer" "faultKind" "I"] ++ wsX90)
def wsX9_isPlaceTold : List Cond := .code yX9_isPlaceTold cX9_isPlaceTold 3 (some .boolean) :: ([.fieldLink RX9 46 "LawNumberer" "items" "LLawNumberer$Items;", .fieldLink RX9 113 "LawNumberer$Items" "levels" "[I", .fieldLink RX9 22 "LawNumberer" "scheme" "LLawNumberer$Levels;", .fieldLink RX9 71 "LawNumberer$Levels" "size" "I", .fieldLink RX9 162 "LawNumberer$Items" "under" "[I", .methodLink RX9 148 yX3_has, .instanceMethod yX3_has, .selects RX3 yX3_has yX3_has, .initialized RX3, .code yX3_has cX3_has 2 (some .boolean), .fieldLink RX3 28 "LawNumberer$Items" "size" "I"] ++ wsX90 ++ wsX30 ++ wsX60)
def wsX9_placeOfNew : List Cond := .code yX9_placeOfNew cX9_placeOfNew 3 (some .int) :: ([.fieldLink RX9 46 "LawNumberer" "items" "LLawNumberer$Items;", .methodLink RX9 269 yX3_placeBehind, .instanceMethod yX3_placeBehind, .selects RX3 yX3_placeBehind yX3_placeBehind, .initialized RX3, .code yX3_placeBehind cX3_placeBehind 3 (some .int), .fieldLink RX3 28 "LawNumberer$Items" "size" "I", .fieldLink RX3 9 "LawNumberer$Items" "levels" "[I", .fieldLink RX3 25 "LawNumberer$Items" "order" "[I", .methodLink RX3 39 yX3_placeOf, .instanceMethod yX3_placeOf, .selects RX3 yX3_placeOf yX3_placeOf, .code yX3_placeOf cX3_placeOf 3 (some .int), .methodLink RX9 206 yX3_placeOf] ++ wsX90 ++ wsX30)
def wsX9_labelAhead : List Cond := .code yX9_labelAhead cX9_labelAhead 7 (some .int) :: ([.fieldLink RX9 46 "LawNumberer" "items" "LLawNumberer$Items;", .fieldLink RX9 159 "LawNumberer$Items" "order" "[I", .fieldLink RX9 53 "LawNumberer" "history" "LLawNumberer$History;", .methodLink RX9 165 yX3_isInRow, .instanceMethod yX3_isInRow, .selects RX3 yX3_isInRow yX3_isInRow, .initialized RX3, .code yX3_isInRow cX3_isInRow 5 (some .boolean), .fieldLink RX3 9 "LawNumberer$Items" "levels" "[I", .fieldLink RX3 15 "LawNumberer$Items" "under" "[I", .methodLink RX3 35 yX3_has, .instanceMethod yX3_has, .selects RX3 yX3_has yX3_has, .code yX3_has cX3_has 2 (some .boolean), .fieldLink RX3 28 "LawNumberer$Items" "size" "I", .methodLink RX9 262 yX2_latest, .instanceMethod yX2_latest, .selects RX2 yX2_latest yX2_latest, .initialized RX2, .code yX2_latest cX2_latest 2 (some .int), .fieldLink RX2 24 "LawNumberer$History" "last" "[I", .fieldLink RX2 18 "LawNumberer$History" "labels" "[I"] ++ wsX90 ++ wsX30 ++ wsX20)
def wsX9_labelFrom : List Cond := .code yX9_labelFrom cX9_labelFrom 7 (some .int) :: ([.fieldLink RX9 46 "LawNumberer" "items" "LLawNumberer$Items;", .fieldLink RX9 108 "LawNumberer$Items" "size" "I", .fieldLink RX9 159 "LawNumberer$Items" "order" "[I", .fieldLink RX9 53 "LawNumberer" "history" "LLawNumberer$History;", .methodLink RX9 165 yX3_isInRow, .instanceMethod yX3_isInRow, .selects RX3 yX3_isInRow yX3_isInRow, .initialized RX3, .code yX3_isInRow cX3_isInRow 5 (some .boolean), .fieldLink RX3 9 "LawNumberer$Items" "levels" "[I", .fieldLink RX3 15 "LawNumberer$Items" "under" "[I", .methodLink RX3 35 yX3_has, .instanceMethod yX3_has, .selects RX3 yX3_has yX3_has, .code yX3_has cX3_has 2 (some .boolean), .fieldLink RX3 28 "LawNumberer$Items" "size" "I", .methodLink RX9 262 yX2_latest, .instanceMethod yX2_latest, .selects RX2 yX2_latest yX2_latest, .initialized RX2, .code yX2_latest cX2_latest 2 (some .int), .fieldLink RX2 24 "LawNumberer$History" "last" "[I", .fieldLink RX2 18 "LawNumberer$History" "labels" "[I"] ++ wsX90 ++ wsX30 ++ wsX20)
def wsX9_add_r1 : List Cond := [Cond.fieldLink RX9 46 "LawNumberer" "items" "LLawNumberer$Items;", Cond.fieldLink RX9 108 "LawNumberer$Items" "size" "I", Cond.fieldLink RX9 113 "LawNumberer$Items" "levels" "[I", Cond.fieldLink RX9 22 "LawNumberer" "scheme" "LLawNumberer$Levels;", Cond.fieldLink RX9 60 "LawNumberer" "acts" "LLawNumberer$Acts;", Cond.fieldLink RX9 53 "LawNumberer" "history" "LLawNumberer$History;", Cond.fieldLink RX9 136 "LawNumberer$History" "size" "I", Cond.fieldLink RX9 105 "LawNumberer" "today" "I", Cond.methodLink RX9 109 yX9_isPlaceTold, Cond.instanceMethod yX9_isPlaceTold, Cond.selects RX9 yX9_isPlaceTold yX9_isPlaceTold, Cond.initialized RX9, Cond.code yX9_isPlaceTold cX9_isPlaceTold 3 (some .boolean), Cond.fieldLink RX9 71 "LawNumberer$Levels" "size" "I", Cond.fieldLink RX9 162 "LawNumberer$Items" "under" "[I", Cond.methodLink RX9 148 yX3_has, Cond.instanceMethod yX3_has, Cond.selects RX3 yX3_has yX3_has, Cond.initialized RX3, Cond.code yX3_has cX3_has 2 (some .boolean), Cond.fieldLink RX3 28 "LawNumberer$Items" "size" "I", Cond.methodLink RX9 116 yX9_placeOfNew, Cond.instanceMethod yX9_placeOfNew, Cond.selects RX9 yX9_placeOfNew yX9_placeOfNew]
def wsX9_add_r2 : List Cond := [Cond.code yX9_placeOfNew cX9_placeOfNew 3 (some .int), Cond.methodLink RX9 269 yX3_placeBehind, Cond.instanceMethod yX3_placeBehind, Cond.selects RX3 yX3_placeBehind yX3_placeBehind, Cond.code yX3_placeBehind cX3_placeBehind 3 (some .int), Cond.fieldLink RX3 9 "LawNumberer$Items" "levels" "[I", Cond.fieldLink RX3 25 "LawNumberer$Items" "order" "[I", Cond.methodLink RX3 39 yX3_placeOf, Cond.instanceMethod yX3_placeOf, Cond.selects RX3 yX3_placeOf yX3_placeOf, Cond.code yX3_placeOf cX3_placeOf 3 (some .int), Cond.methodLink RX9 206 yX3_placeOf, Cond.methodLink RX9 120 yX6_isThrough, Cond.instanceMethod yX6_isThrough, Cond.selects RX6 yX6_isThrough yX6_isThrough, Cond.initialized RX6, Cond.code yX6_isThrough cX6_isThrough 2 (some .boolean), Cond.fieldLink RX6 19 "LawNumberer$Levels" "size" "I", Cond.fieldLink RX6 15 "LawNumberer$Levels" "through" "[Z", Cond.methodLink RX9 124 yX9_labelAhead, Cond.instanceMethod yX9_labelAhead, Cond.selects RX9 yX9_labelAhead yX9_labelAhead, Cond.code yX9_labelAhead cX9_labelAhead 7 (some .int), Cond.fieldLink RX9 159 "LawNumberer$Items" "order" "[I"]
def wsX9_add_r3 : List Cond := [Cond.methodLink RX9 165 yX3_isInRow, Cond.instanceMethod yX3_isInRow, Cond.selects RX3 yX3_isInRow yX3_isInRow, Cond.code yX3_isInRow cX3_isInRow 5 (some .boolean), Cond.fieldLink RX3 15 "LawNumberer$Items" "under" "[I", Cond.methodLink RX3 35 yX3_has, Cond.methodLink RX9 262 yX2_latest, Cond.instanceMethod yX2_latest, Cond.selects RX2 yX2_latest yX2_latest, Cond.initialized RX2, Cond.code yX2_latest cX2_latest 2 (some .int), Cond.fieldLink RX2 24 "LawNumberer$History" "last" "[I", Cond.fieldLink RX2 18 "LawNumberer$History" "labels" "[I", Cond.methodLink RX9 128 yX9_labelFrom, Cond.instanceMethod yX9_labelFrom, Cond.selects RX9 yX9_labelFrom yX9_labelFrom, Cond.code yX9_labelFrom cX9_labelFrom 7 (some .int), Cond.methodLink RX9 131 yX5_between, Cond.static yX5_between, Cond.initialized RX5, Cond.code yX5_between cX5_between 4 (some .int), Cond.methodLink RX5 23 yX5_numberOf, Cond.static yX5_numberOf, Cond.code yX5_numberOf cX5_numberOf 1 (some .int)]
def wsX9_add_r4 : List Cond := [Cond.methodLink RX5 26 yX5_plain, Cond.static yX5_plain, Cond.code yX5_plain cX5_plain 1 (some .int), Cond.methodLink RX5 29 yX5_leastAbove, Cond.static yX5_leastAbove, Cond.code yX5_leastAbove cX5_leastAbove 6 (some .int), Cond.methodLink RX5 15 yX5_lettersIn, Cond.static yX5_lettersIn, Cond.code yX5_lettersIn cX5_lettersIn 2 (some .int), Cond.methodLink RX5 11 yX5_letterOf, Cond.static yX5_letterOf, Cond.code yX5_letterOf cX5_letterOf 2 (some .int), Cond.methodLink RX5 32 yX5_fillWithA, Cond.static yX5_fillWithA, Cond.code yX5_fillWithA cX5_fillWithA 5 (some .int), Cond.methodLink RX5 19 yX5_setLetter, Cond.static yX5_setLetter, Cond.code yX5_setLetter cX5_setLetter 4 (some .int), Cond.methodLink RX9 137 yX0_open, Cond.instanceMethod yX0_open, Cond.selects RX0 yX0_open yX0_open, Cond.initialized RX0, Cond.code yX0_open cX0_open 4 none, Cond.fieldLink RX0 9 "LawNumberer$Acts" "kinds" "[I"]
def wsX9_add_r5 : List Cond := [Cond.fieldLink RX0 21 "LawNumberer$Acts" "next" "I", Cond.fieldLink RX0 15 "LawNumberer$Acts" "actItems" "[I", Cond.fieldLink RX0 18 "LawNumberer$Acts" "marks" "[I", Cond.fieldLink RX0 25 "LawNumberer$Acts" "size" "I", Cond.methodLink RX0 28 Lib.Math.min.name, Cond.static Lib.Math.min.name, Cond.initialized "java/lang/Math", Cond.code Lib.Math.min.name Lib.Math.min.code 2 (some .int), Cond.methodLink RX9 141 yX3_insert, Cond.instanceMethod yX3_insert, Cond.selects RX3 yX3_insert yX3_insert, Cond.code yX3_insert cX3_insert 5 none, Cond.methodLink RX3 47 arraycopyName, Cond.native arraycopyName, Cond.static arraycopyName, Cond.initialized "java/lang/System", Cond.fieldLink RX3 18 "LawNumberer$Items" "came" "[I", Cond.fieldLink RX3 21 "LawNumberer$Items" "struck" "[Z", Cond.methodLink RX9 145 yX2_give, Cond.instanceMethod yX2_give, Cond.selects RX2 yX2_give yX2_give, Cond.code yX2_give cX2_give 4 none, Cond.fieldLink RX2 11 "LawNumberer$History" "givenTo" "[I", Cond.fieldLink RX2 33 "LawNumberer$History" "size" "I"]
def wsX9_add_r6 : List Cond := [Cond.fieldLink RX2 15 "LawNumberer$History" "days" "[I", Cond.fieldLink RX2 21 "LawNumberer$History" "earlier" "[I", Cond.methodLink RX2 39 yX2_latest, Cond.methodLink RX2 43 yX2_hasRoom, Cond.instanceMethod yX2_hasRoom, Cond.selects RX2 yX2_hasRoom yX2_hasRoom, Cond.code yX2_hasRoom cX2_hasRoom 2 (some .boolean), Cond.constant RX2 47 (40960), Cond.methodLink RX2 48 Lib.Math.min.name, Cond.methodLink RX2 54 yJ7_copyOf_59c91, Cond.static yJ7_copyOf_59c91, Cond.initialized RJ7, Cond.code yJ7_copyOf_59c91 cJ7_copyOf_59c91 3 (some (.array .int)), Cond.methodLink RJ7 316 ⟨"[I", "clone", "()Ljava/lang/Object;"⟩, Cond.sameMethod "[I" "java/lang/Object" "clone" "()Ljava/lang/Object;", Cond.native ⟨"java/lang/Object", "clone", "()Ljava/lang/Object;"⟩, Cond.instanceMethod ⟨"java/lang/Object", "clone", "()Ljava/lang/Object;"⟩, Cond.selects "[I" ⟨"[I", "clone", "()Ljava/lang/Object;"⟩ ⟨"java/lang/Object", "clone", "()Ljava/lang/Object;"⟩, Cond.classLink RJ7 317 "[I", Cond.arrayClass .int, Cond.methodLink RJ7 304 Lib.Math.min.name, Cond.methodLink RJ7 150 arraycopyName]
def wsX9_add : List Cond := .code yX9_add cX9_add 10 (some .int) :: ((wsX9_add_r1 ++ (wsX9_add_r2 ++ (wsX9_add_r3 ++ (wsX9_add_r4 ++ (wsX9_add_r5 ++ wsX9_add_r6))))) ++ wsX90 ++ wsX30 ++ wsX20 ++ wsX60 ++ wsX00)
def wsX9_strike_r1 : List Cond := [Cond.fieldLink RX9 46 "LawNumberer" "items" "LLawNumberer$Items;", Cond.fieldLink RX9 151 "LawNumberer$Items" "struck" "[Z", Cond.fieldLink RX9 60 "LawNumberer" "acts" "LLawNumberer$Acts;", Cond.fieldLink RX9 53 "LawNumberer" "history" "LLawNumberer$History;", Cond.fieldLink RX9 136 "LawNumberer$History" "size" "I", Cond.methodLink RX9 148 yX3_has, Cond.instanceMethod yX3_has, Cond.selects RX3 yX3_has yX3_has, Cond.initialized RX3, Cond.code yX3_has cX3_has 2 (some .boolean), Cond.fieldLink RX3 28 "LawNumberer$Items" "size" "I", Cond.methodLink RX9 137 yX0_open, Cond.instanceMethod yX0_open, Cond.selects RX0 yX0_open yX0_open, Cond.initialized RX0, Cond.code yX0_open cX0_open 4 none, Cond.fieldLink RX0 9 "LawNumberer$Acts" "kinds" "[I", Cond.fieldLink RX0 21 "LawNumberer$Acts" "next" "I", Cond.fieldLink RX0 15 "LawNumberer$Acts" "actItems" "[I", Cond.fieldLink RX0 18 "LawNumberer$Acts" "marks" "[I", Cond.fieldLink RX0 25 "LawNumberer$Acts" "size" "I", Cond.methodLink RX0 28 Lib.Math.min.name, Cond.static Lib.Math.min.name, Cond.initialized "java/lang/Math"]
def wsX9_strike_r2 : List Cond := [Cond.code Lib.Math.min.name Lib.Math.min.code 2 (some .int), Cond.methodLink RX9 155 yX3_setStruck, Cond.instanceMethod yX3_setStruck, Cond.selects RX3 yX3_setStruck yX3_setStruck, Cond.code yX3_setStruck cX3_setStruck 3 none, Cond.fieldLink RX3 21 "LawNumberer$Items" "struck" "[Z", Cond.fieldLink RX3 32 "LawNumberer$Items" "struckSize" "I", Cond.methodLink RX3 35 yX3_has]
def wsX9_strike : List Cond := .code yX9_strike cX9_strike 2 (some .boolean) :: ((wsX9_strike_r1 ++ wsX9_strike_r2) ++ wsX90 ++ wsX30 ++ wsX20 ++ wsX00)
def wsX9_renumber_r1 : List Cond := [Cond.fieldLink RX9 46 "LawNumberer" "items" "LLawNumberer$Items;", Cond.fieldLink RX9 60 "LawNumberer" "acts" "LLawNumberer$Acts;", Cond.fieldLink RX9 53 "LawNumberer" "history" "LLawNumberer$History;", Cond.fieldLink RX9 136 "LawNumberer$History" "size" "I", Cond.fieldLink RX9 22 "LawNumberer" "scheme" "LLawNumberer$Levels;", Cond.fieldLink RX9 113 "LawNumberer$Items" "levels" "[I", Cond.fieldLink RX9 108 "LawNumberer$Items" "size" "I", Cond.fieldLink RX9 159 "LawNumberer$Items" "order" "[I", Cond.fieldLink RX9 162 "LawNumberer$Items" "under" "[I", Cond.fieldLink RX9 151 "LawNumberer$Items" "struck" "[Z", Cond.fieldLink RX9 105 "LawNumberer" "today" "I", Cond.methodLink RX9 148 yX3_has, Cond.instanceMethod yX3_has, Cond.selects RX3 yX3_has yX3_has, Cond.initialized RX3, Cond.code yX3_has cX3_has 2 (some .boolean), Cond.fieldLink RX3 28 "LawNumberer$Items" "size" "I", Cond.methodLink RX9 137 yX0_open, Cond.instanceMethod yX0_open, Cond.selects RX0 yX0_open yX0_open, Cond.initialized RX0, Cond.code yX0_open cX0_open 4 none, Cond.fieldLink RX0 9 "LawNumberer$Acts" "kinds" "[I", Cond.fieldLink RX0 21 "LawNumberer$Acts" "next" "I"]
def wsX9_renumber_r2 : List Cond := [Cond.fieldLink RX0 15 "LawNumberer$Acts" "actItems" "[I", Cond.fieldLink RX0 18 "LawNumberer$Acts" "marks" "[I", Cond.fieldLink RX0 25 "LawNumberer$Acts" "size" "I", Cond.methodLink RX0 28 Lib.Math.min.name, Cond.static Lib.Math.min.name, Cond.initialized "java/lang/Math", Cond.code Lib.Math.min.name Lib.Math.min.code 2 (some .int), Cond.methodLink RX9 120 yX6_isThrough, Cond.instanceMethod yX6_isThrough, Cond.selects RX6 yX6_isThrough yX6_isThrough, Cond.initialized RX6, Cond.code yX6_isThrough cX6_isThrough 2 (some .boolean), Cond.fieldLink RX6 19 "LawNumberer$Levels" "size" "I", Cond.fieldLink RX6 15 "LawNumberer$Levels" "through" "[Z", Cond.methodLink RX9 165 yX3_isInRow, Cond.instanceMethod yX3_isInRow, Cond.selects RX3 yX3_isInRow yX3_isInRow, Cond.code yX3_isInRow cX3_isInRow 5 (some .boolean), Cond.fieldLink RX3 9 "LawNumberer$Items" "levels" "[I", Cond.fieldLink RX3 15 "LawNumberer$Items" "under" "[I", Cond.methodLink RX3 35 yX3_has, Cond.methodLink RX9 145 yX2_give, Cond.instanceMethod yX2_give, Cond.selects RX2 yX2_give yX2_give]
def wsX9_renumber_r3 : List Cond := [Cond.initialized RX2, Cond.code yX2_give cX2_give 4 none, Cond.fieldLink RX2 11 "LawNumberer$History" "givenTo" "[I", Cond.fieldLink RX2 33 "LawNumberer$History" "size" "I", Cond.fieldLink RX2 15 "LawNumberer$History" "days" "[I", Cond.fieldLink RX2 18 "LawNumberer$History" "labels" "[I", Cond.fieldLink RX2 21 "LawNumberer$History" "earlier" "[I", Cond.fieldLink RX2 24 "LawNumberer$History" "last" "[I", Cond.methodLink RX2 39 yX2_latest, Cond.instanceMethod yX2_latest, Cond.selects RX2 yX2_latest yX2_latest, Cond.code yX2_latest cX2_latest 2 (some .int), Cond.methodLink RX2 43 yX2_hasRoom, Cond.instanceMethod yX2_hasRoom, Cond.selects RX2 yX2_hasRoom yX2_hasRoom, Cond.code yX2_hasRoom cX2_hasRoom 2 (some .boolean), Cond.constant RX2 47 (40960), Cond.methodLink RX2 48 Lib.Math.min.name, Cond.methodLink RX2 54 yJ7_copyOf_59c91, Cond.static yJ7_copyOf_59c91, Cond.initialized RJ7, Cond.code yJ7_copyOf_59c91 cJ7_copyOf_59c91 3 (some (.array .int)), Cond.methodLink RJ7 316 ⟨"[I", "clone", "()Ljava/lang/Object;"⟩, Cond.sameMethod "[I" "java/lang/Object" "clone" "()Ljava/lang/Object;"]
def wsX9_renumber_r4 : List Cond := [Cond.native ⟨"java/lang/Object", "clone", "()Ljava/lang/Object;"⟩, Cond.instanceMethod ⟨"java/lang/Object", "clone", "()Ljava/lang/Object;"⟩, Cond.selects "[I" ⟨"[I", "clone", "()Ljava/lang/Object;"⟩ ⟨"java/lang/Object", "clone", "()Ljava/lang/Object;"⟩, Cond.classLink RJ7 317 "[I", Cond.arrayClass .int, Cond.methodLink RJ7 304 Lib.Math.min.name, Cond.methodLink RJ7 150 arraycopyName, Cond.native arraycopyName, Cond.static arraycopyName, Cond.initialized "java/lang/System", Cond.methodLink RX9 169 yX5_plain, Cond.static yX5_plain, Cond.initialized RX5, Cond.code yX5_plain cX5_plain 1 (some .int)]
def wsX9_renumber : List Cond := .code yX9_renumber cX9_renumber 6 (some .boolean) :: ((wsX9_renumber_r1 ++ (wsX9_renumber_r2 ++ (wsX9_renumber_r3 ++ wsX9_renumber_r4))) ++ wsX90 ++ wsX20 ++ wsX30 ++ wsX00 ++ wsX60)
def wsX9_error_r1 : List Cond := [Cond.fieldLink RX9 46 "LawNumberer" "items" "LLawNumberer$Items;", Cond.fieldLink RX9 60 "LawNumberer" "acts" "LLawNumberer$Acts;", Cond.fieldLink RX9 53 "LawNumberer" "history" "LLawNumberer$History;", Cond.fieldLink RX9 136 "LawNumberer$History" "size" "I", Cond.fieldLink RX9 105 "LawNumberer" "today" "I", Cond.methodLink RX9 169 yX5_plain, Cond.static yX5_plain, Cond.initialized RX5, Cond.code yX5_plain cX5_plain 1 (some .int), Cond.methodLink RX9 173 yX5_withSuffix, Cond.static yX5_withSuffix, Cond.code yX5_withSuffix cX5_withSuffix 6 (some .int), Cond.methodLink RX5 19 yX5_setLetter, Cond.static yX5_setLetter, Cond.code yX5_setLetter cX5_setLetter 4 (some .int), Cond.methodLink RX9 148 yX3_has, Cond.instanceMethod yX3_has, Cond.selects RX3 yX3_has yX3_has, Cond.initialized RX3, Cond.code yX3_has cX3_has 2 (some .boolean), Cond.fieldLink RX3 28 "LawNumberer$Items" "size" "I", Cond.methodLink RX9 137 yX0_open, Cond.instanceMethod yX0_open, Cond.selects RX0 yX0_open yX0_open]
def wsX9_error_r2 : List Cond := [Cond.initialized RX0, Cond.code yX0_open cX0_open 4 none, Cond.fieldLink RX0 9 "LawNumberer$Acts" "kinds" "[I", Cond.fieldLink RX0 21 "LawNumberer$Acts" "next" "I", Cond.fieldLink RX0 15 "LawNumberer$Acts" "actItems" "[I", Cond.fieldLink RX0 18 "LawNumberer$Acts" "marks" "[I", Cond.fieldLink RX0 25 "LawNumberer$Acts" "size" "I", Cond.methodLink RX0 28 Lib.Math.min.name, Cond.static Lib.Math.min.name, Cond.initialized "java/lang/Math", Cond.code Lib.Math.min.name Lib.Math.min.code 2 (some .int), Cond.methodLink RX9 145 yX2_give, Cond.instanceMethod yX2_give, Cond.selects RX2 yX2_give yX2_give, Cond.initialized RX2, Cond.code yX2_give cX2_give 4 none, Cond.fieldLink RX2 11 "LawNumberer$History" "givenTo" "[I", Cond.fieldLink RX2 33 "LawNumberer$History" "size" "I", Cond.fieldLink RX2 15 "LawNumberer$History" "days" "[I", Cond.fieldLink RX2 18 "LawNumberer$History" "labels" "[I", Cond.fieldLink RX2 21 "LawNumberer$History" "earlier" "[I", Cond.fieldLink RX2 24 "LawNumberer$History" "last" "[I", Cond.methodLink RX2 39 yX2_latest, Cond.instanceMethod yX2_latest]
def wsX9_error_r3 : List Cond := [Cond.selects RX2 yX2_latest yX2_latest, Cond.code yX2_latest cX2_latest 2 (some .int), Cond.methodLink RX2 43 yX2_hasRoom, Cond.instanceMethod yX2_hasRoom, Cond.selects RX2 yX2_hasRoom yX2_hasRoom, Cond.code yX2_hasRoom cX2_hasRoom 2 (some .boolean), Cond.constant RX2 47 (40960), Cond.methodLink RX2 48 Lib.Math.min.name, Cond.methodLink RX2 54 yJ7_copyOf_59c91, Cond.static yJ7_copyOf_59c91, Cond.initialized RJ7, Cond.code yJ7_copyOf_59c91 cJ7_copyOf_59c91 3 (some (.array .int)), Cond.methodLink RJ7 316 ⟨"[I", "clone", "()Ljava/lang/Object;"⟩, Cond.sameMethod "[I" "java/lang/Object" "clone" "()Ljava/lang/Object;", Cond.native ⟨"java/lang/Object", "clone", "()Ljava/lang/Object;"⟩, Cond.instanceMethod ⟨"java/lang/Object", "clone", "()Ljava/lang/Object;"⟩, Cond.selects "[I" ⟨"[I", "clone", "()Ljava/lang/Object;"⟩ ⟨"java/lang/Object", "clone", "()Ljava/lang/Object;"⟩, Cond.classLink RJ7 317 "[I", Cond.arrayClass .int, Cond.methodLink RJ7 304 Lib.Math.min.name, Cond.methodLink RJ7 150 arraycopyName, Cond.native arraycopyName, Cond.static arraycopyName, Cond.initialized "java/lang/System"]
def wsX9_error : List Cond := .code yX9_error cX9_error 5 (some .boolean) :: ((wsX9_error_r1 ++ (wsX9_error_r2 ++ wsX9_error_r3)) ++ wsX90 ++ wsX20 ++ wsX30 ++ wsX00)
def wsX9_undo_r1 : List Cond := [Cond.fieldLink RX9 60 "LawNumberer" "acts" "LLawNumberer$Acts;", Cond.fieldLink RX9 53 "LawNumberer" "history" "LLawNumberer$History;", Cond.fieldLink RX9 46 "LawNumberer" "items" "LLawNumberer$Items;", Cond.methodLink RX9 176 yX0_latestKind, Cond.instanceMethod yX0_latestKind, Cond.selects RX0 yX0_latestKind yX0_latestKind, Cond.initialized RX0, Cond.code yX0_latestKind cX0_latestKind 1 (some .int), Cond.fieldLink RX0 25 "LawNumberer$Acts" "size" "I", Cond.fieldLink RX0 9 "LawNumberer$Acts" "kinds" "[I", Cond.methodLink RX0 34 yX0_latestSlot, Cond.instanceMethod yX0_latestSlot, Cond.selects RX0 yX0_latestSlot yX0_latestSlot, Cond.code yX0_latestSlot cX0_latestSlot 1 (some .int), Cond.fieldLink RX0 21 "LawNumberer$Acts" "next" "I", Cond.methodLink RX9 180 yX0_latestMark, Cond.instanceMethod yX0_latestMark, Cond.selects RX0 yX0_latestMark yX0_latestMark, Cond.code yX0_latestMark cX0_latestMark 1 (some .int), Cond.fieldLink RX0 18 "LawNumberer$Acts" "marks" "[I", Cond.methodLink RX9 183 yX2_cutTo, Cond.instanceMethod yX2_cutTo, Cond.selects RX2 yX2_cutTo yX2_cutTo, Cond.initialized RX2]
def wsX9_undo_r2 : List Cond := [Cond.code yX2_cutTo cX2_cutTo 2 none, Cond.fieldLink RX2 33 "LawNumberer$History" "size" "I", Cond.fieldLink RX2 24 "LawNumberer$History" "last" "[I", Cond.fieldLink RX2 11 "LawNumberer$History" "givenTo" "[I", Cond.fieldLink RX2 21 "LawNumberer$History" "earlier" "[I", Cond.methodLink RX9 186 yX3_dropLast, Cond.instanceMethod yX3_dropLast, Cond.selects RX3 yX3_dropLast yX3_dropLast, Cond.initialized RX3, Cond.code yX3_dropLast cX3_dropLast 2 none, Cond.fieldLink RX3 28 "LawNumberer$Items" "size" "I", Cond.fieldLink RX3 25 "LawNumberer$Items" "order" "[I", Cond.methodLink RX3 47 arraycopyName, Cond.native arraycopyName, Cond.static arraycopyName, Cond.initialized "java/lang/System", Cond.methodLink RX3 39 yX3_placeOf, Cond.instanceMethod yX3_placeOf, Cond.selects RX3 yX3_placeOf yX3_placeOf, Cond.code yX3_placeOf cX3_placeOf 3 (some .int), Cond.methodLink RX9 189 yX0_latestItem, Cond.instanceMethod yX0_latestItem, Cond.selects RX0 yX0_latestItem yX0_latestItem, Cond.code yX0_latestItem cX0_latestItem 1 (some .int)]
def wsX9_undo_r3 : List Cond := [Cond.fieldLink RX0 15 "LawNumberer$Acts" "actItems" "[I", Cond.methodLink RX9 155 yX3_setStruck, Cond.instanceMethod yX3_setStruck, Cond.selects RX3 yX3_setStruck yX3_setStruck, Cond.code yX3_setStruck cX3_setStruck 3 none, Cond.fieldLink RX3 21 "LawNumberer$Items" "struck" "[Z", Cond.fieldLink RX3 32 "LawNumberer$Items" "struckSize" "I", Cond.methodLink RX3 35 yX3_has, Cond.instanceMethod yX3_has, Cond.selects RX3 yX3_has yX3_has, Cond.code yX3_has cX3_has 2 (some .boolean), Cond.methodLink RX9 192 yX0_close, Cond.instanceMethod yX0_close, Cond.selects RX0 yX0_close yX0_close, Cond.code yX0_close cX0_close 1 none]
def wsX9_undo : List Cond := .code yX9_undo cX9_undo 2 (some .boolean) :: ((wsX9_undo_r1 ++ (wsX9_undo_r2 ++ wsX9_undo_r3)) ++ wsX90 ++ wsX00 ++ wsX20 ++ wsX30)
def wsX9_wait : List Cond := .code yX9_wait cX9_wait 2 (some .boolean) :: ([.fieldLink RX9 105 "LawNumberer" "today" "I"] ++ wsX90)
def wsX9_about_r1 : List Cond := [Cond.classLink RX9 195 "java/util/NoSuchElementException", Cond.initialized "java/util/NoSuchElementException", Cond.fieldLink RX9 46 "LawNumberer" "items" "LLawNumberer$Items;", Cond.fieldLink RX9 113 "LawNumberer$Items" "levels" "[I", Cond.fieldLink RX9 162 "LawNumberer$Items" "under" "[I", Cond.fieldLink RX9 151 "LawNumberer$Items" "struck" "[Z", Cond.fieldLink RX9 22 "LawNumberer" "scheme" "LLawNumberer$Levels;", Cond.fieldLink RX9 209 "LawNumberer$Items" "came" "[I", Cond.methodLink RX9 148 yX3_has, Cond.instanceMethod yX3_has, Cond.selects RX3 yX3_has yX3_has, Cond.initialized RX3, Cond.code yX3_has cX3_has 2 (some .boolean), Cond.fieldLink RX3 28 "LawNumberer$Items" "size" "I", Cond.methodLink RX9 120 yX6_isThrough, Cond.instanceMethod yX6_isThrough, Cond.selects RX6 yX6_isThrough yX6_isThrough, Cond.initialized RX6, Cond.code yX6_isThrough cX6_isThrough 2 (some .boolean), Cond.fieldLink RX6 19 "LawNumberer$Levels" "size" "I", Cond.fieldLink RX6 15 "LawNumberer$Levels" "through" "[Z", Cond.methodLink RX9 202 yX3_placeInRow, Cond.instanceMethod yX3_placeInRow, Cond.selects RX3 yX3_placeInRow yX3_placeInRow]
def wsX9_about_r2 : List Cond := [Cond.code yX3_placeInRow cX3_placeInRow 6 (some .int), Cond.fieldLink RX3 25 "LawNumberer$Items" "order" "[I", Cond.fieldLink RX3 9 "LawNumberer$Items" "levels" "[I", Cond.fieldLink RX3 15 "LawNumberer$Items" "under" "[I", Cond.methodLink RX3 39 yX3_placeOf, Cond.instanceMethod yX3_placeOf, Cond.selects RX3 yX3_placeOf yX3_placeOf, Cond.code yX3_placeOf cX3_placeOf 3 (some .int), Cond.methodLink RX3 43 yX3_isInRow, Cond.instanceMethod yX3_isInRow, Cond.selects RX3 yX3_isInRow yX3_isInRow, Cond.code yX3_isInRow cX3_isInRow 5 (some .boolean), Cond.methodLink RX3 35 yX3_has, Cond.methodLink RX9 206 yX3_placeOf]
def wsX9_about : List Cond := .code yX9_about cX9_about 3 (some .int) :: ((wsX9_about_r1 ++ wsX9_about_r2) ++ wsX90 ++ wsX30 ++ wsX60 ++ (vx_atS RX9 199 "java/util/NoSuchElementException" ["java/lang/RuntimeException", "java/lang/Exception"]).filter goodWord)
def wsX9_label_r1 : List Cond := [Cond.fieldLink RX9 53 "LawNumberer" "history" "LLawNumberer$History;", Cond.fieldLink RX9 46 "LawNumberer" "items" "LLawNumberer$Items;", Cond.fieldLink RX9 16 "LawNumberer" "out" "LLawNumberer$Text;", Cond.fieldLink RX9 78 "LawNumberer$Text" "length" "I", Cond.fieldLink RX9 22 "LawNumberer" "scheme" "LLawNumberer$Levels;", Cond.fieldLink RX9 113 "LawNumberer$Items" "levels" "[I", Cond.methodLink RX9 214 yX2_asOf, Cond.instanceMethod yX2_asOf, Cond.selects RX2 yX2_asOf yX2_asOf, Cond.initialized RX2, Cond.code yX2_asOf cX2_asOf 4 (some .int), Cond.fieldLink RX2 24 "LawNumberer$History" "last" "[I", Cond.fieldLink RX2 15 "LawNumberer$History" "days" "[I", Cond.fieldLink RX2 21 "LawNumberer$History" "earlier" "[I", Cond.fieldLink RX2 18 "LawNumberer$History" "labels" "[I", Cond.methodLink RX9 148 yX3_has, Cond.instanceMethod yX3_has, Cond.selects RX3 yX3_has yX3_has, Cond.initialized RX3, Cond.code yX3_has cX3_has 2 (some .boolean), Cond.fieldLink RX3 28 "LawNumberer$Items" "size" "I", Cond.methodLink RX9 217 yX6_formOf, Cond.instanceMethod yX6_formOf, Cond.selects RX6 yX6_formOf yX6_formOf]
def wsX9_label_r2 : List Cond := [Cond.initialized RX6, Cond.code yX6_formOf cX6_formOf 2 (some .int), Cond.fieldLink RX6 19 "LawNumberer$Levels" "size" "I", Cond.fieldLink RX6 9 "LawNumberer$Levels" "forms" "[I", Cond.methodLink RX9 220 yX1_writeLabel, Cond.static yX1_writeLabel, Cond.initialized RX1, Cond.code yX1_writeLabel cX1_writeLabel 6 none, Cond.methodLink RX1 9 yX5_numberOf, Cond.static yX5_numberOf, Cond.initialized RX5, Cond.code yX5_numberOf cX5_numberOf 1 (some .int), Cond.methodLink RX1 15 yX1_writeRoman, Cond.static yX1_writeRoman, Cond.code yX1_writeRoman cX1_writeRoman 5 none, Cond.fieldLink RX1 41 "LawNumberer$Forms" "STEPS" "[I", Cond.fieldLink RX1 45 "LawNumberer$Forms" "FIRST_SIGNS" "[C", Cond.fieldLink RX1 49 "LawNumberer$Forms" "SECOND_SIGNS" "[C", Cond.methodLink RX1 31 yX8_put, Cond.instanceMethod yX8_put, Cond.selects RX8 yX8_put yX8_put, Cond.initialized RX8, Cond.code yX8_put cX8_put 2 none, Cond.fieldLink RX8 15 "LawNumberer$Text" "length" "I"]
def wsX9_label_r3 : List Cond := [Cond.fieldLink RX8 9 "LawNumberer$Text" "bytes" "[I", Cond.methodLink RX1 21 yX1_writeLetters, Cond.static yX1_writeLetters, Cond.code yX1_writeLetters cX1_writeLetters 3 none, Cond.methodLink RX1 25 yX1_writeDigits, Cond.static yX1_writeDigits, Cond.code yX1_writeDigits cX1_writeDigits 2 none, Cond.methodLink RX1 28 yX5_lettersIn, Cond.static yX5_lettersIn, Cond.code yX5_lettersIn cX5_lettersIn 2 (some .int), Cond.methodLink RX5 11 yX5_letterOf, Cond.static yX5_letterOf, Cond.code yX5_letterOf cX5_letterOf 2 (some .int), Cond.methodLink RX1 37 yX5_letterOf]
def wsX9_label : List Cond := .code yX9_label cX9_label 4 (some .int) :: ((wsX9_label_r1 ++ (wsX9_label_r2 ++ wsX9_label_r3)) ++ wsX90 ++ wsX80 ++ wsX30 ++ wsX20 ++ wsX60)
def wsX9_cited_r1 : List Cond := [Cond.fieldLink RX9 46 "LawNumberer" "items" "LLawNumberer$Items;", Cond.fieldLink RX9 113 "LawNumberer$Items" "levels" "[I", Cond.fieldLink RX9 64 "LawNumberer" "path" "[I", Cond.fieldLink RX9 53 "LawNumberer" "history" "LLawNumberer$History;", Cond.fieldLink RX9 162 "LawNumberer$Items" "under" "[I", Cond.fieldLink RX9 16 "LawNumberer" "out" "LLawNumberer$Text;", Cond.fieldLink RX9 78 "LawNumberer$Text" "length" "I", Cond.fieldLink RX9 22 "LawNumberer" "scheme" "LLawNumberer$Levels;", Cond.methodLink RX9 148 yX3_has, Cond.instanceMethod yX3_has, Cond.selects RX3 yX3_has yX3_has, Cond.initialized RX3, Cond.code yX3_has cX3_has 2 (some .boolean), Cond.fieldLink RX3 28 "LawNumberer$Items" "size" "I", Cond.methodLink RX9 214 yX2_asOf, Cond.instanceMethod yX2_asOf, Cond.selects RX2 yX2_asOf yX2_asOf, Cond.initialized RX2, Cond.code yX2_asOf cX2_asOf 4 (some .int), Cond.fieldLink RX2 24 "LawNumberer$History" "last" "[I", Cond.fieldLink RX2 15 "LawNumberer$History" "days" "[I", Cond.fieldLink RX2 21 "LawNumberer$History" "earlier" "[I", Cond.fieldLink RX2 18 "LawNumberer$History" "labels" "[I", Cond.methodLink RX9 226 yX8_put]
def wsX9_cited_r2 : List Cond := [Cond.instanceMethod yX8_put, Cond.selects RX8 yX8_put yX8_put, Cond.initialized RX8, Cond.code yX8_put cX8_put 2 none, Cond.fieldLink RX8 15 "LawNumberer$Text" "length" "I", Cond.fieldLink RX8 9 "LawNumberer$Text" "bytes" "[I", Cond.methodLink RX9 217 yX6_formOf, Cond.instanceMethod yX6_formOf, Cond.selects RX6 yX6_formOf yX6_formOf, Cond.initialized RX6, Cond.code yX6_formOf cX6_formOf 2 (some .int), Cond.fieldLink RX6 19 "LawNumberer$Levels" "size" "I", Cond.fieldLink RX6 9 "LawNumberer$Levels" "forms" "[I", Cond.methodLink RX9 220 yX1_writeLabel, Cond.static yX1_writeLabel, Cond.initialized RX1, Cond.code yX1_writeLabel cX1_writeLabel 6 none, Cond.methodLink RX1 9 yX5_numberOf, Cond.static yX5_numberOf, Cond.initialized RX5, Cond.code yX5_numberOf cX5_numberOf 1 (some .int), Cond.methodLink RX1 15 yX1_writeRoman, Cond.static yX1_writeRoman, Cond.code yX1_writeRoman cX1_writeRoman 5 none]
def wsX9_cited_r3 : List Cond := [Cond.fieldLink RX1 41 "LawNumberer$Forms" "STEPS" "[I", Cond.fieldLink RX1 45 "LawNumberer$Forms" "FIRST_SIGNS" "[C", Cond.fieldLink RX1 49 "LawNumberer$Forms" "SECOND_SIGNS" "[C", Cond.methodLink RX1 31 yX8_put, Cond.methodLink RX1 21 yX1_writeLetters, Cond.static yX1_writeLetters, Cond.code yX1_writeLetters cX1_writeLetters 3 none, Cond.methodLink RX1 25 yX1_writeDigits, Cond.static yX1_writeDigits, Cond.code yX1_writeDigits cX1_writeDigits 2 none, Cond.methodLink RX1 28 yX5_lettersIn, Cond.static yX5_lettersIn, Cond.code yX5_lettersIn cX5_lettersIn 2 (some .int), Cond.methodLink RX5 11 yX5_letterOf, Cond.static yX5_letterOf, Cond.code yX5_letterOf cX5_letterOf 2 (some .int), Cond.methodLink RX1 37 yX5_letterOf]
def wsX9_cited : List Cond := .code yX9_cited cX9_cited 5 (some .int) :: ((wsX9_cited_r1 ++ (wsX9_cited_r2 ++ wsX9_cited_r3)) ++ wsX90 ++ wsX30 ++ wsX80 ++ wsX20 ++ wsX60)
def wsX9_octet : List Cond := .code yX9_octet cX9_octet 2 (some .int) :: ([.classLink RX9 195 "java/util/NoSuchElementException", .initialized "java/util/NoSuchElementException", .fieldLink RX9 16 "LawNumberer" "out" "LLawNumberer$Text;", .fieldLink RX9 78 "LawNumberer$Text" "length" "I", .methodLink RX9 231 yX8_byteAt, .instanceMethod yX8_byteAt, .selects RX8 yX8_byteAt yX8_byteAt, .initialized RX8, .code yX8_byteAt cX8_byteAt 2 (some .int), .fieldLink RX8 15 "LawNumberer$Text" "length" "I", .fieldLink RX8 9 "LawNumberer$Text" "bytes" "[I"] ++ wsX90 ++ wsX80 ++ (vx_atS RX9 199 "java/util/NoSuchElementException" ["java/lang/RuntimeException", "java/lang/Exception"]).filter goodWord)
def wsX9_readCitation_r1 : List Cond := [Cond.fieldLink RX9 22 "LawNumberer" "scheme" "LLawNumberer$Levels;", Cond.fieldLink RX9 71 "LawNumberer$Levels" "size" "I", Cond.fieldLink RX9 39 "LawNumberer" "labelReader" "LLawNumberer$LabelReader;", Cond.fieldLink RX9 10 "LawNumberer" "tape" "LLawNumberer$Text;", Cond.fieldLink RX9 246 "LawNumberer$LabelReader" "fault" "I", Cond.fieldLink RX9 92 "LawNumberer" "faultKind" "I", Cond.fieldLink RX9 272 "LawNumberer$LabelReader" "faultPlace" "I", Cond.fieldLink RX9 75 "LawNumberer" "faultPlace" "I", Cond.fieldLink RX9 64 "LawNumberer" "path" "[I", Cond.fieldLink RX9 250 "LawNumberer$LabelReader" "label" "I", Cond.fieldLink RX9 247 "LawNumberer$LabelReader" "behind" "I", Cond.fieldLink RX9 78 "LawNumberer$Text" "length" "I", Cond.methodLink RX9 217 yX6_formOf, Cond.instanceMethod yX6_formOf, Cond.selects RX6 yX6_formOf yX6_formOf, Cond.initialized RX6, Cond.code yX6_formOf cX6_formOf 2 (some .int), Cond.fieldLink RX6 19 "LawNumberer$Levels" "size" "I", Cond.fieldLink RX6 9 "LawNumberer$Levels" "forms" "[I", Cond.methodLink RX9 243 yX4_readAt, Cond.instanceMethod yX4_readAt, Cond.selects RX4 yX4_readAt yX4_readAt, Cond.initialized RX4, Cond.code yX4_readAt cX4_readAt 7 none]
def wsX9_readCitation_r2 : List Cond := [Cond.fieldLink RX4 18 "LawNumberer$LabelReader" "fault" "I", Cond.fieldLink RX4 22 "LawNumberer$LabelReader" "faultPlace" "I", Cond.fieldLink RX4 27 "LawNumberer$LabelReader" "label" "I", Cond.fieldLink RX4 42 "LawNumberer$LabelReader" "behind" "I", Cond.methodLink RX4 30 yX4_numeralsEnd, Cond.static yX4_numeralsEnd, Cond.code yX4_numeralsEnd cX4_numeralsEnd 4 (some .int), Cond.fieldLink RX4 62 "LawNumberer$Text" "length" "I", Cond.methodLink RX4 38 yX8_byteAt, Cond.instanceMethod yX8_byteAt, Cond.selects RX8 yX8_byteAt yX8_byteAt, Cond.initialized RX8, Cond.code yX8_byteAt cX8_byteAt 2 (some .int), Cond.fieldLink RX8 15 "LawNumberer$Text" "length" "I", Cond.fieldLink RX8 9 "LawNumberer$Text" "bytes" "[I", Cond.methodLink RX4 80 yX1_isNumeral, Cond.static yX1_isNumeral, Cond.initialized RX1, Cond.code yX1_isNumeral cX1_isNumeral 2 (some .boolean), Cond.methodLink RX1 52 yX1_romanWorth, Cond.static yX1_romanWorth, Cond.code yX1_romanWorth cX1_romanWorth 1 (some .int), Cond.methodLink RX4 34 yX4_failAt, Cond.instanceMethod yX4_failAt]
def wsX9_readCitation_r3 : List Cond := [Cond.selects RX4 yX4_failAt yX4_failAt, Cond.code yX4_failAt cX4_failAt 3 none, Cond.methodLink RX4 45 yX4_capitalsEnd, Cond.static yX4_capitalsEnd, Cond.code yX4_capitalsEnd cX4_capitalsEnd 3 (some .int), Cond.methodLink RX4 49 yX1_numberIn, Cond.static yX1_numberIn, Cond.code yX1_numberIn cX1_numberIn 4 (some .int), Cond.methodLink RX1 55 yX1_romanIn, Cond.static yX1_romanIn, Cond.code yX1_romanIn cX1_romanIn 8 (some .int), Cond.methodLink RX1 63 yX8_byteAt, Cond.methodLink RX1 59 yX1_placesIn, Cond.static yX1_placesIn, Cond.code yX1_placesIn cX1_placesIn 7 (some .int), Cond.methodLink RX4 55 yX4_meant, Cond.instanceMethod yX4_meant, Cond.selects RX4 yX4_meant yX4_meant, Cond.code yX4_meant cX4_meant 6 (some .int), Cond.methodLink RX4 73 yX5_plain, Cond.static yX5_plain, Cond.initialized RX5, Cond.code yX5_plain cX5_plain 1 (some .int), Cond.methodLink RX4 76 yX5_withSuffix]
def wsX9_readCitation_r4 : List Cond := [Cond.static yX5_withSuffix, Cond.code yX5_withSuffix cX5_withSuffix 6 (some .int), Cond.methodLink RX5 19 yX5_setLetter, Cond.static yX5_setLetter, Cond.code yX5_setLetter cX5_setLetter 4 (some .int), Cond.methodLink RX4 58 yX4_isAsWritten, Cond.instanceMethod yX4_isAsWritten, Cond.selects RX4 yX4_isAsWritten yX4_isAsWritten, Cond.code yX4_isAsWritten cX4_isAsWritten 4 (some .boolean), Cond.fieldLink RX4 12 "LawNumberer$LabelReader" "written" "LLawNumberer$Text;", Cond.methodLink RX4 65 yX1_writeLabel, Cond.static yX1_writeLabel, Cond.code yX1_writeLabel cX1_writeLabel 6 none, Cond.methodLink RX1 9 yX5_numberOf, Cond.static yX5_numberOf, Cond.code yX5_numberOf cX5_numberOf 1 (some .int), Cond.methodLink RX1 15 yX1_writeRoman, Cond.static yX1_writeRoman, Cond.code yX1_writeRoman cX1_writeRoman 5 none, Cond.fieldLink RX1 41 "LawNumberer$Forms" "STEPS" "[I", Cond.fieldLink RX1 45 "LawNumberer$Forms" "FIRST_SIGNS" "[C", Cond.fieldLink RX1 49 "LawNumberer$Forms" "SECOND_SIGNS" "[C", Cond.methodLink RX1 31 yX8_put, Cond.instanceMethod yX8_put]
def wsX9_readCitation_r5 : List Cond := [Cond.selects RX8 yX8_put yX8_put, Cond.code yX8_put cX8_put 2 none, Cond.methodLink RX1 21 yX1_writeLetters, Cond.static yX1_writeLetters, Cond.code yX1_writeLetters cX1_writeLetters 3 none, Cond.methodLink RX1 25 yX1_writeDigits, Cond.static yX1_writeDigits, Cond.code yX1_writeDigits cX1_writeDigits 2 none, Cond.methodLink RX1 28 yX5_lettersIn, Cond.static yX5_lettersIn, Cond.code yX5_lettersIn cX5_lettersIn 2 (some .int), Cond.methodLink RX5 11 yX5_letterOf, Cond.static yX5_letterOf, Cond.code yX5_letterOf cX5_letterOf 2 (some .int), Cond.methodLink RX1 37 yX5_letterOf, Cond.methodLink RX4 69 yX8_isPart, Cond.instanceMethod yX8_isPart, Cond.selects RX8 yX8_isPart yX8_isPart, Cond.code yX8_isPart cX8_isPart 5 (some .boolean), Cond.methodLink RX8 28 yX8_byteAt, Cond.methodLink RX9 231 yX8_byteAt]
def wsX9_readCitation : List Cond := .code yX9_readCitation cX9_readCitation 3 (some .int) :: ((wsX9_readCitation_r1 ++ (wsX9_readCitation_r2 ++ (wsX9_readCitation_r3 ++ (wsX9_readCitation_r4 ++ wsX9_readCitation_r5)))) ++ wsX90 ++ wsX60 ++ wsX40 ++ wsX80)
def wsX9_bearsPath : List Cond := .code yX9_bearsPath cX9_bearsPath 5 (some .boolean) :: ([.fieldLink RX9 46 "LawNumberer" "items" "LLawNumberer$Items;", .fieldLink RX9 113 "LawNumberer$Items" "levels" "[I", .fieldLink RX9 53 "LawNumberer" "history" "LLawNumberer$History;", .fieldLink RX9 64 "LawNumberer" "path" "[I", .fieldLink RX9 162 "LawNumberer$Items" "under" "[I", .methodLink RX9 148 yX3_has, .instanceMethod yX3_has, .selects RX3 yX3_has yX3_has, .initialized RX3, .code yX3_has cX3_has 2 (some .boolean), .fieldLink RX3 28 "LawNumberer$Items" "size" "I", .methodLink RX9 214 yX2_asOf, .instanceMethod yX2_asOf, .selects RX2 yX2_asOf yX2_asOf, .initialized RX2, .code yX2_asOf cX2_asOf 4 (some .int), .fieldLink RX2 24 "LawNumberer$History" "last" "[I", .fieldLink RX2 15 "LawNumberer$History" "days" "[I", .fieldLink RX2 21 "LawNumberer$History" "earlier" "[I", .fieldLink RX2 18 "LawNumberer$History" "labels" "[I"] ++ wsX90 ++ wsX30 ++ wsX20)
def wsX9_cite_r1 : List Cond := [Cond.fieldLink RX9 92 "LawNumberer" "faultKind" "I", Cond.fieldLink RX9 75 "LawNumberer" "faultPlace" "I", Cond.fieldLink RX9 10 "LawNumberer" "tape" "LLawNumberer$Text;", Cond.fieldLink RX9 78 "LawNumberer$Text" "length" "I", Cond.fieldLink RX9 237 "LawNumberer" "bearing" "I", Cond.fieldLink RX9 46 "LawNumberer" "items" "LLawNumberer$Items;", Cond.fieldLink RX9 108 "LawNumberer$Items" "size" "I", Cond.fieldLink RX9 159 "LawNumberer$Items" "order" "[I", Cond.fieldLink RX9 113 "LawNumberer$Items" "levels" "[I", Cond.methodLink RX9 234 yX9_readCitation, Cond.instanceMethod yX9_readCitation, Cond.selects RX9 yX9_readCitation yX9_readCitation, Cond.initialized RX9, Cond.code yX9_readCitation cX9_readCitation 3 (some .int), Cond.fieldLink RX9 22 "LawNumberer" "scheme" "LLawNumberer$Levels;", Cond.fieldLink RX9 71 "LawNumberer$Levels" "size" "I", Cond.fieldLink RX9 39 "LawNumberer" "labelReader" "LLawNumberer$LabelReader;", Cond.fieldLink RX9 246 "LawNumberer$LabelReader" "fault" "I", Cond.fieldLink RX9 272 "LawNumberer$LabelReader" "faultPlace" "I", Cond.fieldLink RX9 64 "LawNumberer" "path" "[I", Cond.fieldLink RX9 250 "LawNumberer$LabelReader" "label" "I", Cond.fieldLink RX9 247 "LawNumberer$LabelReader" "behind" "I", Cond.methodLink RX9 217 yX6_formOf, Cond.instanceMethod yX6_formOf]
def wsX9_cite_r2 : List Cond := [Cond.selects RX6 yX6_formOf yX6_formOf, Cond.initialized RX6, Cond.code yX6_formOf cX6_formOf 2 (some .int), Cond.fieldLink RX6 19 "LawNumberer$Levels" "size" "I", Cond.fieldLink RX6 9 "LawNumberer$Levels" "forms" "[I", Cond.methodLink RX9 243 yX4_readAt, Cond.instanceMethod yX4_readAt, Cond.selects RX4 yX4_readAt yX4_readAt, Cond.initialized RX4, Cond.code yX4_readAt cX4_readAt 7 none, Cond.fieldLink RX4 18 "LawNumberer$LabelReader" "fault" "I", Cond.fieldLink RX4 22 "LawNumberer$LabelReader" "faultPlace" "I", Cond.fieldLink RX4 27 "LawNumberer$LabelReader" "label" "I", Cond.fieldLink RX4 42 "LawNumberer$LabelReader" "behind" "I", Cond.methodLink RX4 30 yX4_numeralsEnd, Cond.static yX4_numeralsEnd, Cond.code yX4_numeralsEnd cX4_numeralsEnd 4 (some .int), Cond.fieldLink RX4 62 "LawNumberer$Text" "length" "I", Cond.methodLink RX4 38 yX8_byteAt, Cond.instanceMethod yX8_byteAt, Cond.selects RX8 yX8_byteAt yX8_byteAt, Cond.initialized RX8, Cond.code yX8_byteAt cX8_byteAt 2 (some .int), Cond.fieldLink RX8 15 "LawNumberer$Text" "length" "I"]
def wsX9_cite_r3 : List Cond := [Cond.fieldLink RX8 9 "LawNumberer$Text" "bytes" "[I", Cond.methodLink RX4 80 yX1_isNumeral, Cond.static yX1_isNumeral, Cond.initialized RX1, Cond.code yX1_isNumeral cX1_isNumeral 2 (some .boolean), Cond.methodLink RX1 52 yX1_romanWorth, Cond.static yX1_romanWorth, Cond.code yX1_romanWorth cX1_romanWorth 1 (some .int), Cond.methodLink RX4 34 yX4_failAt, Cond.instanceMethod yX4_failAt, Cond.selects RX4 yX4_failAt yX4_failAt, Cond.code yX4_failAt cX4_failAt 3 none, Cond.methodLink RX4 45 yX4_capitalsEnd, Cond.static yX4_capitalsEnd, Cond.code yX4_capitalsEnd cX4_capitalsEnd 3 (some .int), Cond.methodLink RX4 49 yX1_numberIn, Cond.static yX1_numberIn, Cond.code yX1_numberIn cX1_numberIn 4 (some .int), Cond.methodLink RX1 55 yX1_romanIn, Cond.static yX1_romanIn, Cond.code yX1_romanIn cX1_romanIn 8 (some .int), Cond.methodLink RX1 63 yX8_byteAt, Cond.methodLink RX1 59 yX1_placesIn, Cond.static yX1_placesIn]
def wsX9_cite_r4 : List Cond := [Cond.code yX1_placesIn cX1_placesIn 7 (some .int), Cond.methodLink RX4 55 yX4_meant, Cond.instanceMethod yX4_meant, Cond.selects RX4 yX4_meant yX4_meant, Cond.code yX4_meant cX4_meant 6 (some .int), Cond.methodLink RX4 73 yX5_plain, Cond.static yX5_plain, Cond.initialized RX5, Cond.code yX5_plain cX5_plain 1 (some .int), Cond.methodLink RX4 76 yX5_withSuffix, Cond.static yX5_withSuffix, Cond.code yX5_withSuffix cX5_withSuffix 6 (some .int), Cond.methodLink RX5 19 yX5_setLetter, Cond.static yX5_setLetter, Cond.code yX5_setLetter cX5_setLetter 4 (some .int), Cond.methodLink RX4 58 yX4_isAsWritten, Cond.instanceMethod yX4_isAsWritten, Cond.selects RX4 yX4_isAsWritten yX4_isAsWritten, Cond.code yX4_isAsWritten cX4_isAsWritten 4 (some .boolean), Cond.fieldLink RX4 12 "LawNumberer$LabelReader" "written" "LLawNumberer$Text;", Cond.methodLink RX4 65 yX1_writeLabel, Cond.static yX1_writeLabel, Cond.code yX1_writeLabel cX1_writeLabel 6 none, Cond.methodLink RX1 9 yX5_numberOf]
def wsX9_cite_r5 : List Cond := [Cond.static yX5_numberOf, Cond.code yX5_numberOf cX5_numberOf 1 (some .int), Cond.methodLink RX1 15 yX1_writeRoman, Cond.static yX1_writeRoman, Cond.code yX1_writeRoman cX1_writeRoman 5 none, Cond.fieldLink RX1 41 "LawNumberer$Forms" "STEPS" "[I", Cond.fieldLink RX1 45 "LawNumberer$Forms" "FIRST_SIGNS" "[C", Cond.fieldLink RX1 49 "LawNumberer$Forms" "SECOND_SIGNS" "[C", Cond.methodLink RX1 31 yX8_put, Cond.instanceMethod yX8_put, Cond.selects RX8 yX8_put yX8_put, Cond.code yX8_put cX8_put 2 none, Cond.methodLink RX1 21 yX1_writeLetters, Cond.static yX1_writeLetters, Cond.code yX1_writeLetters cX1_writeLetters 3 none, Cond.methodLink RX1 25 yX1_writeDigits, Cond.static yX1_writeDigits, Cond.code yX1_writeDigits cX1_writeDigits 2 none, Cond.methodLink RX1 28 yX5_lettersIn, Cond.static yX5_lettersIn, Cond.code yX5_lettersIn cX5_lettersIn 2 (some .int), Cond.methodLink RX5 11 yX5_letterOf, Cond.static yX5_letterOf, Cond.code yX5_letterOf cX5_letterOf 2 (some .int)]
def wsX9_cite_r6 : List Cond := [Cond.methodLink RX1 37 yX5_letterOf, Cond.methodLink RX4 69 yX8_isPart, Cond.instanceMethod yX8_isPart, Cond.selects RX8 yX8_isPart yX8_isPart, Cond.code yX8_isPart cX8_isPart 5 (some .boolean), Cond.methodLink RX8 28 yX8_byteAt, Cond.methodLink RX9 231 yX8_byteAt, Cond.methodLink RX9 240 yX9_bearsPath, Cond.instanceMethod yX9_bearsPath, Cond.selects RX9 yX9_bearsPath yX9_bearsPath, Cond.code yX9_bearsPath cX9_bearsPath 5 (some .boolean), Cond.fieldLink RX9 53 "LawNumberer" "history" "LLawNumberer$History;", Cond.fieldLink RX9 162 "LawNumberer$Items" "under" "[I", Cond.methodLink RX9 148 yX3_has, Cond.instanceMethod yX3_has, Cond.selects RX3 yX3_has yX3_has, Cond.initialized RX3, Cond.code yX3_has cX3_has 2 (some .boolean), Cond.fieldLink RX3 28 "LawNumberer$Items" "size" "I", Cond.methodLink RX9 214 yX2_asOf, Cond.instanceMethod yX2_asOf, Cond.selects RX2 yX2_asOf yX2_asOf, Cond.initialized RX2, Cond.code yX2_asOf cX2_asOf 4 (some .int)]
def wsX9_cite_r7 : List Cond := [Cond.fieldLink RX2 24 "LawNumberer$History" "last" "[I", Cond.fieldLink RX2 15 "LawNumberer$History" "days" "[I", Cond.fieldLink RX2 21 "LawNumberer$History" "earlier" "[I", Cond.fieldLink RX2 18 "LawNumberer$History" "labels" "[I"]
def wsX9_cite : List Cond := .code yX9_cite cX9_cite 6 (some .int) :: ((wsX9_cite_r1 ++ (wsX9_cite_r2 ++ (wsX9_cite_r3 ++ (wsX9_cite_r4 ++ (wsX9_cite_r5 ++ (wsX9_cite_r6 ++ wsX9_cite_r7)))))) ++ wsX90 ++ wsX80 ++ wsX30 ++ wsX60 ++ wsX40 ++ wsX20)
def wsX9_place : List Cond := .code yX9_place cX9_place 1 (some .int) :: ([.fieldLink RX9 75 "LawNumberer" "faultPlace" "I"] ++ wsX90)
def wsX9_bearers : List Cond := .code yX9_bearers cX9_bearers 1 (some .int) :: ([.fieldLink RX9 237 "LawNumberer" "bearing" "I"] ++ wsX90)
def wsX9_read_r1 : List Cond := [Cond.fieldLink RX9 39 "LawNumberer" "labelReader" "LLawNumberer$LabelReader;", Cond.fieldLink RX9 10 "LawNumberer" "tape" "LLawNumberer$Text;", Cond.fieldLink RX9 246 "LawNumberer$LabelReader" "fault" "I", Cond.fieldLink RX9 247 "LawNumberer$LabelReader" "behind" "I", Cond.fieldLink RX9 78 "LawNumberer$Text" "length" "I", Cond.fieldLink RX9 250 "LawNumberer$LabelReader" "label" "I", Cond.fieldLink RX9 259 "LawNumberer" "readSuffix" "I", Cond.methodLink RX9 243 yX4_readAt, Cond.instanceMethod yX4_readAt, Cond.selects RX4 yX4_readAt yX4_readAt, Cond.initialized RX4, Cond.code yX4_readAt cX4_readAt 7 none, Cond.fieldLink RX4 18 "LawNumberer$LabelReader" "fault" "I", Cond.fieldLink RX4 22 "LawNumberer$LabelReader" "faultPlace" "I", Cond.fieldLink RX4 27 "LawNumberer$LabelReader" "label" "I", Cond.fieldLink RX4 42 "LawNumberer$LabelReader" "behind" "I", Cond.methodLink RX4 30 yX4_numeralsEnd, Cond.static yX4_numeralsEnd, Cond.code yX4_numeralsEnd cX4_numeralsEnd 4 (some .int), Cond.fieldLink RX4 62 "LawNumberer$Text" "length" "I", Cond.methodLink RX4 38 yX8_byteAt, Cond.instanceMethod yX8_byteAt, Cond.selects RX8 yX8_byteAt yX8_byteAt, Cond.initialized RX8]
def wsX9_read_r2 : List Cond := [Cond.code yX8_byteAt cX8_byteAt 2 (some .int), Cond.fieldLink RX8 15 "LawNumberer$Text" "length" "I", Cond.fieldLink RX8 9 "LawNumberer$Text" "bytes" "[I", Cond.methodLink RX4 80 yX1_isNumeral, Cond.static yX1_isNumeral, Cond.initialized RX1, Cond.code yX1_isNumeral cX1_isNumeral 2 (some .boolean), Cond.methodLink RX1 52 yX1_romanWorth, Cond.static yX1_romanWorth, Cond.code yX1_romanWorth cX1_romanWorth 1 (some .int), Cond.methodLink RX4 34 yX4_failAt, Cond.instanceMethod yX4_failAt, Cond.selects RX4 yX4_failAt yX4_failAt, Cond.code yX4_failAt cX4_failAt 3 none, Cond.methodLink RX4 45 yX4_capitalsEnd, Cond.static yX4_capitalsEnd, Cond.code yX4_capitalsEnd cX4_capitalsEnd 3 (some .int), Cond.methodLink RX4 49 yX1_numberIn, Cond.static yX1_numberIn, Cond.code yX1_numberIn cX1_numberIn 4 (some .int), Cond.methodLink RX1 55 yX1_romanIn, Cond.static yX1_romanIn, Cond.code yX1_romanIn cX1_romanIn 8 (some .int), Cond.methodLink RX1 63 yX8_byteAt]
def wsX9_read_r3 : List Cond := [Cond.methodLink RX1 59 yX1_placesIn, Cond.static yX1_placesIn, Cond.code yX1_placesIn cX1_placesIn 7 (some .int), Cond.methodLink RX4 55 yX4_meant, Cond.instanceMethod yX4_meant, Cond.selects RX4 yX4_meant yX4_meant, Cond.code yX4_meant cX4_meant 6 (some .int), Cond.methodLink RX4 73 yX5_plain, Cond.static yX5_plain, Cond.initialized RX5, Cond.code yX5_plain cX5_plain 1 (some .int), Cond.methodLink RX4 76 yX5_withSuffix, Cond.static yX5_withSuffix, Cond.code yX5_withSuffix cX5_withSuffix 6 (some .int), Cond.methodLink RX5 19 yX5_setLetter, Cond.static yX5_setLetter, Cond.code yX5_setLetter cX5_setLetter 4 (some .int), Cond.methodLink RX4 58 yX4_isAsWritten, Cond.instanceMethod yX4_isAsWritten, Cond.selects RX4 yX4_isAsWritten yX4_isAsWritten, Cond.code yX4_isAsWritten cX4_isAsWritten 4 (some .boolean), Cond.fieldLink RX4 12 "LawNumberer$LabelReader" "written" "LLawNumberer$Text;", Cond.methodLink RX4 65 yX1_writeLabel, Cond.static yX1_writeLabel]
def wsX9_read_r4 : List Cond := [Cond.code yX1_writeLabel cX1_writeLabel 6 none, Cond.methodLink RX1 9 yX5_numberOf, Cond.static yX5_numberOf, Cond.code yX5_numberOf cX5_numberOf 1 (some .int), Cond.methodLink RX1 15 yX1_writeRoman, Cond.static yX1_writeRoman, Cond.code yX1_writeRoman cX1_writeRoman 5 none, Cond.fieldLink RX1 41 "LawNumberer$Forms" "STEPS" "[I", Cond.fieldLink RX1 45 "LawNumberer$Forms" "FIRST_SIGNS" "[C", Cond.fieldLink RX1 49 "LawNumberer$Forms" "SECOND_SIGNS" "[C", Cond.methodLink RX1 31 yX8_put, Cond.instanceMethod yX8_put, Cond.selects RX8 yX8_put yX8_put, Cond.code yX8_put cX8_put 2 none, Cond.methodLink RX1 21 yX1_writeLetters, Cond.static yX1_writeLetters, Cond.code yX1_writeLetters cX1_writeLetters 3 none, Cond.methodLink RX1 25 yX1_writeDigits, Cond.static yX1_writeDigits, Cond.code yX1_writeDigits cX1_writeDigits 2 none, Cond.methodLink RX1 28 yX5_lettersIn, Cond.static yX5_lettersIn, Cond.code yX5_lettersIn cX5_lettersIn 2 (some .int), Cond.methodLink RX5 11 yX5_letterOf]
def wsX9_read_r5 : List Cond := [Cond.static yX5_letterOf, Cond.code yX5_letterOf cX5_letterOf 2 (some .int), Cond.methodLink RX1 37 yX5_letterOf, Cond.methodLink RX4 69 yX8_isPart, Cond.instanceMethod yX8_isPart, Cond.selects RX8 yX8_isPart yX8_isPart, Cond.code yX8_isPart cX8_isPart 5 (some .boolean), Cond.methodLink RX8 28 yX8_byteAt, Cond.methodLink RX9 253 yX5_numberOf, Cond.methodLink RX9 256 yX5_suffixOf, Cond.static yX5_suffixOf, Cond.code yX5_suffixOf cX5_suffixOf 3 (some .int), Cond.methodLink RX5 15 yX5_lettersIn]
def wsX9_read : List Cond := .code yX9_read cX9_read 3 (some .int) :: ((wsX9_read_r1 ++ (wsX9_read_r2 ++ (wsX9_read_r3 ++ (wsX9_read_r4 ++ wsX9_read_r5)))) ++ wsX90 ++ wsX40 ++ wsX80)
def wsX9_suffix : List Cond := .code yX9_suffix cX9_suffix 1 (some .int) :: ([.fieldLink RX9 259 "LawNumberer" "readSuffix" "I"] ++ wsX90)
def wsX9_clash_r1 : List Cond := [Cond.fieldLink RX9 46 "LawNumberer" "items" "LLawNumberer$Items;", Cond.fieldLink RX9 108 "LawNumberer$Items" "size" "I", Cond.fieldLink RX9 159 "LawNumberer$Items" "order" "[I", Cond.fieldLink RX9 113 "LawNumberer$Items" "levels" "[I", Cond.fieldLink RX9 53 "LawNumberer" "history" "LLawNumberer$History;", Cond.fieldLink RX9 162 "LawNumberer$Items" "under" "[I", Cond.fieldLink RX9 22 "LawNumberer" "scheme" "LLawNumberer$Levels;", Cond.methodLink RX9 262 yX2_latest, Cond.instanceMethod yX2_latest, Cond.selects RX2 yX2_latest yX2_latest, Cond.initialized RX2, Cond.code yX2_latest cX2_latest 2 (some .int), Cond.fieldLink RX2 24 "LawNumberer$History" "last" "[I", Cond.fieldLink RX2 18 "LawNumberer$History" "labels" "[I", Cond.methodLink RX9 120 yX6_isThrough, Cond.instanceMethod yX6_isThrough, Cond.selects RX6 yX6_isThrough yX6_isThrough, Cond.initialized RX6, Cond.code yX6_isThrough cX6_isThrough 2 (some .boolean), Cond.fieldLink RX6 19 "LawNumberer$Levels" "size" "I", Cond.fieldLink RX6 15 "LawNumberer$Levels" "through" "[Z", Cond.methodLink RX9 124 yX9_labelAhead, Cond.instanceMethod yX9_labelAhead, Cond.selects RX9 yX9_labelAhead yX9_labelAhead]
def wsX9_clash_r2 : List Cond := [Cond.initialized RX9, Cond.code yX9_labelAhead cX9_labelAhead 7 (some .int), Cond.methodLink RX9 165 yX3_isInRow, Cond.instanceMethod yX3_isInRow, Cond.selects RX3 yX3_isInRow yX3_isInRow, Cond.initialized RX3, Cond.code yX3_isInRow cX3_isInRow 5 (some .boolean), Cond.fieldLink RX3 9 "LawNumberer$Items" "levels" "[I", Cond.fieldLink RX3 15 "LawNumberer$Items" "under" "[I", Cond.methodLink RX3 35 yX3_has, Cond.instanceMethod yX3_has, Cond.selects RX3 yX3_has yX3_has, Cond.code yX3_has cX3_has 2 (some .boolean), Cond.fieldLink RX3 28 "LawNumberer$Items" "size" "I"]
def wsX9_clash : List Cond := .code yX9_clash cX9_clash 5 (some .int) :: ((wsX9_clash_r1 ++ wsX9_clash_r2) ++ wsX90 ++ wsX30 ++ wsX20 ++ wsX60)
def wsX9_at : List Cond := .code yX9_at cX9_at 2 (some .int) :: ([.fieldLink RX9 46 "LawNumberer" "items" "LLawNumberer$Items;", .fieldLink RX9 108 "LawNumberer$Items" "size" "I", .fieldLink RX9 159 "LawNumberer$Items" "order" "[I"] ++ wsX90 ++ wsX30)
def wsX9_count : List Cond := .code yX9_count cX9_count 2 (some .int) :: ([.fieldLink RX9 22 "LawNumberer" "scheme" "LLawNumberer$Levels;", .fieldLink RX9 71 "LawNumberer$Levels" "size" "I", .fieldLink RX9 46 "LawNumberer" "items" "LLawNumberer$Items;", .fieldLink RX9 108 "LawNumberer$Items" "size" "I", .fieldLink RX9 265 "LawNumberer$Items" "struckSize" "I", .fieldLink RX9 105 "LawNumberer" "today" "I", .fieldLink RX9 60 "LawNumberer" "acts" "LLawNumberer$Acts;", .fieldLink RX9 268 "LawNumberer$Acts" "size" "I", .fieldLink RX9 16 "LawNumberer" "out" "LLawNumberer$Text;", .fieldLink RX9 78 "LawNumberer$Text" "length" "I", .fieldLink RX9 10 "LawNumberer" "tape" "LLawNumberer$Text;"] ++ wsX90 ++ wsX60 ++ wsX30 ++ wsX00 ++ wsX80)
def wsX10_init_r1 : List Cond := [Cond.methodLink RX10 1 objectInit, Cond.instanceMethod objectInit, Cond.code objectInit ⟨#[0xb1]⟩ 1 none, Cond.arrayClass .byte, Cond.fieldLink RX10 7 "LawNumbererModel" "tape" "[B", Cond.arrayClass .int, Cond.fieldLink RX10 13 "LawNumbererModel" "form" "[I", Cond.fieldLink RX10 17 "LawNumbererModel" "newForm" "[I", Cond.arrayClass .boolean, Cond.fieldLink RX10 20 "LawNumbererModel" "through" "[Z", Cond.fieldLink RX10 24 "LawNumbererModel" "newThrough" "[Z", Cond.fieldLink RX10 27 "LawNumbererModel" "levels" "I", Cond.fieldLink RX10 31 "LawNumbererModel" "place" "I", Cond.fieldLink RX10 34 "LawNumbererModel" "level" "[I", Cond.fieldLink RX10 37 "LawNumbererModel" "up" "[I", Cond.fieldLink RX10 40 "LawNumbererModel" "came" "[I", Cond.fieldLink RX10 43 "LawNumbererModel" "order" "[I", Cond.fieldLink RX10 46 "LawNumbererModel" "struck" "[Z", Cond.constant RX10 49 (165000), Cond.fieldLink RX10 50 "LawNumbererModel" "changed" "[I", Cond.fieldLink RX10 53 "LawNumbererModel" "changedOn" "[I", Cond.fieldLink RX10 56 "LawNumbererModel" "changedTo" "[I", Cond.fieldLink RX10 59 "LawNumbererModel" "actKind" "[I", Cond.fieldLink RX10 62 "LawNumbererModel" "actItem" "[I"]
def wsX10_init_r2 : List Cond := [Cond.fieldLink RX10 65 "LawNumbererModel" "actFrom" "[I", Cond.fieldLink RX10 68 "LawNumbererModel" "hand" "[I", Cond.fieldLink RX10 71 "LawNumbererModel" "out" "[B", Cond.fieldLink RX10 74 "LawNumbererModel" "worth" "[I", Cond.fieldLink RX10 77 "LawNumbererModel" "sign" "[I", Cond.fieldLink RX10 80 "LawNumbererModel" "again" "[B", Cond.fieldLink RX10 83 "LawNumbererModel" "wanted" "[I"]
def wsX10_init : List Cond := .code yX10_init cX10_init 1 none :: ((wsX10_init_r1 ++ wsX10_init_r2) ++ wsX100)
def wsX10_thrown : List Cond := .code yX10_thrown cX10_thrown 1 (some .int) :: ([.fieldLink RX10 86 "LawNumbererModel" "thrown" "I"] ++ wsX100)
def wsX10_throwsIf : List Cond := .code yX10_throwsIf cX10_throwsIf 2 (some .boolean) :: ([.fieldLink RX10 86 "LawNumbererModel" "thrown" "I"] ++ wsX100)
def wsX10_four : List Cond := .code yX10_four cX10_four 3 none :: ([.fieldLink RX10 7 "LawNumbererModel" "tape" "[B", .fieldLink RX10 89 "LawNumbererModel" "length" "I"] ++ wsX100)
def wsX10_feed : List Cond := .code yX10_feed cX10_feed 6 (some .int) :: ([.fieldLink RX10 86 "LawNumbererModel" "thrown" "I", .fieldLink RX10 89 "LawNumbererModel" "length" "I", .methodLink RX10 92 yX10_four, .instanceMethod yX10_four, .selects RX10 yX10_four yX10_four, .initialized RX10, .code yX10_four cX10_four 3 none, .fieldLink RX10 7 "LawNumbererModel" "tape" "[B"] ++ wsX100)
def wsX10_end : List Cond := .code yX10_end cX10_end 2 (some .boolean) :: ([.fieldLink RX10 86 "LawNumbererModel" "thrown" "I", .fieldLink RX10 89 "LawNumbererModel" "length" "I"] ++ wsX100)
def wsX10_taken : List Cond := .code yX10_taken cX10_taken 1 none :: ([.fieldLink RX10 89 "LawNumbererModel" "length" "I", .fieldLink RX10 96 "LawNumbererModel" "size" "I", .fieldLink RX10 99 "LawNumbererModel" "p" "I"] ++ wsX100)
def wsX10_peek : List Cond := .code yX10_peek cX10_peek 1 (some .int) :: ([.fieldLink RX10 99 "LawNumbererModel" "p" "I", .fieldLink RX10 96 "LawNumbererModel" "size" "I", .fieldLink RX10 7 "LawNumbererModel" "tape" "[B"] ++ wsX100)
def wsX10_wrong : List Cond := .code yX10_wrong cX10_wrong 3 (some .boolean) :: ([.fieldLink RX10 102 "LawNumbererModel" "fault" "I", .fieldLink RX10 31 "LawNumbererModel" "place" "I"] ++ wsX100)
def wsX10_isSmall : List Cond := .code yX10_isSmall cX10_isSmall 1 (some .boolean) :: ([])
def wsX10_isGreat : List Cond := .code yX10_isGreat cX10_isGreat 1 (some .boolean) :: ([])
def wsX10_isDigit : List Cond := .code yX10_isDigit cX10_isDigit 1 (some .boolean) :: ([])
def wsX10_next : List Cond := .code yX10_next cX10_next 3 none :: ([.fieldLink RX10 99 "LawNumbererModel" "p" "I", .fieldLink RX10 109 "LawNumbererModel" "at" "I", .fieldLink RX10 112 "LawNumbererModel" "word" "J", .constantLong RX10 120 (59), .constantLong RX10 122 (-1), .methodLink RX10 105 yX10_peek, .instanceMethod yX10_peek, .selects RX10 yX10_peek yX10_peek, .initialized RX10, .code yX10_peek cX10_peek 1 (some .int), .fieldLink RX10 96 "LawNumbererModel" "size" "I", .fieldLink RX10 7 "LawNumbererModel" "tape" "[B", .methodLink RX10 116 yX10_isSmall, .static yX10_isSmall, .code yX10_isSmall cX10_isSmall 1 (some .boolean)] ++ wsX100)
def wsX10_cant : List Cond := .code yX10_cant cX10_cant 1 (some .boolean) :: ([.fieldLink RX10 112 "LawNumbererModel" "word" "J", .constantLong RX10 122 (-1), .fieldLink RX10 109 "LawNumbererModel" "at" "I", .methodLink RX10 124 yX10_wrong, .instanceMethod yX10_wrong, .selects RX10 yX10_wrong yX10_wrong, .initialized RX10, .code yX10_wrong cX10_wrong 3 (some .boolean), .fieldLink RX10 102 "LawNumbererModel" "fault" "I", .fieldLink RX10 31 "LawNumbererModel" "place" "I"] ++ wsX100)
def wsX10_formOf : List Cond := .code yX10_formOf cX10_formOf 1 (some .int) :: ([.fieldLink RX10 112 "LawNumbererModel" "word" "J", .constantLong RX10 128 (121450625394034), .constantLong RX10 130 (491495711086), .constantLong RX10 132 (119183001281906), .constantLong RX10 134 (495756340332)] ++ wsX100)
def wsX10_readLevels_r1 : List Cond := [Cond.fieldLink RX10 136 "LawNumbererModel" "newLevels" "I", Cond.fieldLink RX10 112 "LawNumbererModel" "word" "J", Cond.fieldLink RX10 109 "LawNumbererModel" "at" "I", Cond.fieldLink RX10 17 "LawNumbererModel" "newForm" "[I", Cond.fieldLink RX10 24 "LawNumbererModel" "newThrough" "[Z", Cond.constantLong RX10 149 (32765938003961704), Cond.constantLong RX10 120 (59), Cond.methodLink RX10 139 yX10_next, Cond.instanceMethod yX10_next, Cond.selects RX10 yX10_next yX10_next, Cond.initialized RX10, Cond.code yX10_next cX10_next 3 none, Cond.fieldLink RX10 99 "LawNumbererModel" "p" "I", Cond.constantLong RX10 122 (-1), Cond.methodLink RX10 105 yX10_peek, Cond.instanceMethod yX10_peek, Cond.selects RX10 yX10_peek yX10_peek, Cond.code yX10_peek cX10_peek 1 (some .int), Cond.fieldLink RX10 96 "LawNumbererModel" "size" "I", Cond.fieldLink RX10 7 "LawNumbererModel" "tape" "[B", Cond.methodLink RX10 116 yX10_isSmall, Cond.static yX10_isSmall, Cond.code yX10_isSmall cX10_isSmall 1 (some .boolean), Cond.methodLink RX10 142 yX10_formOf]
def wsX10_readLevels_r2 : List Cond := [Cond.instanceMethod yX10_formOf, Cond.selects RX10 yX10_formOf yX10_formOf, Cond.code yX10_formOf cX10_formOf 1 (some .int), Cond.constantLong RX10 128 (121450625394034), Cond.constantLong RX10 130 (491495711086), Cond.constantLong RX10 132 (119183001281906), Cond.constantLong RX10 134 (495756340332), Cond.methodLink RX10 145 yX10_cant, Cond.instanceMethod yX10_cant, Cond.selects RX10 yX10_cant yX10_cant, Cond.code yX10_cant cX10_cant 1 (some .boolean), Cond.methodLink RX10 124 yX10_wrong, Cond.instanceMethod yX10_wrong, Cond.selects RX10 yX10_wrong yX10_wrong, Cond.code yX10_wrong cX10_wrong 3 (some .boolean), Cond.fieldLink RX10 102 "LawNumbererModel" "fault" "I", Cond.fieldLink RX10 31 "LawNumbererModel" "place" "I"]
def wsX10_readLevels : List Cond := .code yX10_readLevels cX10_readLevels 2 (some .boolean) :: ((wsX10_readLevels_r1 ++ wsX10_readLevels_r2) ++ wsX100)
def wsX10_levels_r1 : List Cond := [Cond.fieldLink RX10 86 "LawNumbererModel" "thrown" "I", Cond.fieldLink RX10 102 "LawNumbererModel" "fault" "I", Cond.fieldLink RX10 31 "LawNumbererModel" "place" "I", Cond.fieldLink RX10 136 "LawNumbererModel" "newLevels" "I", Cond.fieldLink RX10 27 "LawNumbererModel" "levels" "I", Cond.fieldLink RX10 13 "LawNumbererModel" "form" "[I", Cond.fieldLink RX10 17 "LawNumbererModel" "newForm" "[I", Cond.fieldLink RX10 20 "LawNumbererModel" "through" "[Z", Cond.fieldLink RX10 24 "LawNumbererModel" "newThrough" "[Z", Cond.fieldLink RX10 157 "LawNumbererModel" "items" "I", Cond.fieldLink RX10 160 "LawNumbererModel" "changes" "I", Cond.fieldLink RX10 163 "LawNumbererModel" "acts" "I", Cond.fieldLink RX10 166 "LawNumbererModel" "day" "I", Cond.methodLink RX10 151 yX10_taken, Cond.instanceMethod yX10_taken, Cond.selects RX10 yX10_taken yX10_taken, Cond.initialized RX10, Cond.code yX10_taken cX10_taken 1 none, Cond.fieldLink RX10 89 "LawNumbererModel" "length" "I", Cond.fieldLink RX10 96 "LawNumbererModel" "size" "I", Cond.fieldLink RX10 99 "LawNumbererModel" "p" "I", Cond.methodLink RX10 154 yX10_readLevels, Cond.instanceMethod yX10_readLevels, Cond.selects RX10 yX10_readLevels yX10_readLevels]
def wsX10_levels_r2 : List Cond := [Cond.code yX10_readLevels cX10_readLevels 2 (some .boolean), Cond.fieldLink RX10 112 "LawNumbererModel" "word" "J", Cond.fieldLink RX10 109 "LawNumbererModel" "at" "I", Cond.constantLong RX10 149 (32765938003961704), Cond.constantLong RX10 120 (59), Cond.methodLink RX10 139 yX10_next, Cond.instanceMethod yX10_next, Cond.selects RX10 yX10_next yX10_next, Cond.code yX10_next cX10_next 3 none, Cond.constantLong RX10 122 (-1), Cond.methodLink RX10 105 yX10_peek, Cond.instanceMethod yX10_peek, Cond.selects RX10 yX10_peek yX10_peek, Cond.code yX10_peek cX10_peek 1 (some .int), Cond.fieldLink RX10 7 "LawNumbererModel" "tape" "[B", Cond.methodLink RX10 116 yX10_isSmall, Cond.static yX10_isSmall, Cond.code yX10_isSmall cX10_isSmall 1 (some .boolean), Cond.methodLink RX10 142 yX10_formOf, Cond.instanceMethod yX10_formOf, Cond.selects RX10 yX10_formOf yX10_formOf, Cond.code yX10_formOf cX10_formOf 1 (some .int), Cond.constantLong RX10 128 (121450625394034), Cond.constantLong RX10 130 (491495711086)]
def wsX10_levels_r3 : List Cond := [Cond.constantLong RX10 132 (119183001281906), Cond.constantLong RX10 134 (495756340332), Cond.methodLink RX10 145 yX10_cant, Cond.instanceMethod yX10_cant, Cond.selects RX10 yX10_cant yX10_cant, Cond.code yX10_cant cX10_cant 1 (some .boolean), Cond.methodLink RX10 124 yX10_wrong, Cond.instanceMethod yX10_wrong, Cond.selects RX10 yX10_wrong yX10_wrong, Cond.code yX10_wrong cX10_wrong 3 (some .boolean)]
def wsX10_levels : List Cond := .code yX10_levels cX10_levels 2 (some .int) :: ((wsX10_levels_r1 ++ (wsX10_levels_r2 ++ wsX10_levels_r3)) ++ wsX100)
def wsX10_fault : List Cond := .code yX10_fault cX10_fault 1 (some .int) :: ([.fieldLink RX10 86 "LawNumbererModel" "thrown" "I", .fieldLink RX10 102 "LawNumbererModel" "fault" "I"] ++ wsX100)
def wsX10_place : List Cond := .code yX10_place cX10_place 1 (some .int) :: ([.fieldLink RX10 86 "LawNumbererModel" "thrown" "I", .fieldLink RX10 31 "LawNumbererModel" "place" "I"] ++ wsX100)
def wsX10_isItem : List Cond := .code yX10_isItem cX10_isItem 2 (some .boolean) :: ([.fieldLink RX10 157 "LawNumbererModel" "items" "I"] ++ wsX100)
def wsX10_placeOf : List Cond := .code yX10_placeOf cX10_placeOf 3 (some .int) :: ([.fieldLink RX10 43 "LawNumbererModel" "order" "[I"] ++ wsX100)
def wsX10_isUnder : List Cond := .code yX10_isUnder cX10_isUnder 4 (some .boolean) :: ([.fieldLink RX10 37 "LawNumbererModel" "up" "[I"] ++ wsX100)
def wsX10_isInRow : List Cond := .code yX10_isInRow cX10_isInRow 3 (some .boolean) :: ([.fieldLink RX10 34 "LawNumbererModel" "level" "[I", .fieldLink RX10 20 "LawNumbererModel" "through" "[Z", .fieldLink RX10 37 "LawNumbererModel" "up" "[I"] ++ wsX100)
def wsX10_change : List Cond := .code yX10_change cX10_change 3 none :: ([.fieldLink RX10 50 "LawNumbererModel" "changed" "[I", .fieldLink RX10 160 "LawNumbererModel" "changes" "I", .fieldLink RX10 53 "LawNumbererModel" "changedOn" "[I", .fieldLink RX10 166 "LawNumbererModel" "day" "I", .fieldLink RX10 56 "LawNumbererModel" "changedTo" "[I"] ++ wsX100)
def wsX10_labelOf : List Cond := .code yX10_labelOf cX10_labelOf 4 (some .int) :: ([.fieldLink RX10 160 "LawNumbererModel" "changes" "I", .fieldLink RX10 50 "LawNumbererModel" "changed" "[I", .fieldLink RX10 53 "LawNumbererModel" "changedOn" "[I", .fieldLink RX10 56 "LawNumbererModel" "changedTo" "[I"] ++ wsX100)
def wsX10_act : List Cond := .code yX10_act cX10_act 4 none :: ([.fieldLink RX10 163 "LawNumbererModel" "acts" "I", .fieldLink RX10 59 "LawNumbererModel" "actKind" "[I", .fieldLink RX10 62 "LawNumbererModel" "actItem" "[I", .fieldLink RX10 65 "LawNumbererModel" "actFrom" "[I", .fieldLink RX10 160 "LawNumbererModel" "changes" "I"] ++ wsX100)
def wsX10_letterAt : List Cond := .code yX10_letterAt cX10_letterAt 4 (some .int) :: ([])
def wsX10_lettersOf : List Cond := .code yX10_lettersOf cX10_lettersOf 2 (some .int) :: ([.methodLink RX10 169 yX10_letterAt, .static yX10_letterAt, .initialized RX10, .code yX10_letterAt cX10_letterAt 4 (some .int)])
def wsX10_suffixInHand : List Cond := .code yX10_suffixInHand cX10_suffixInHand 1 (some .int) :: ([.fieldLink RX10 68 "LawNumbererModel" "hand" "[I"] ++ wsX100)
def wsX10_least : List Cond := .code yX10_least cX10_least 7 (some .int) :: ([.constant RX10 173 (531441), .fieldLink RX10 68 "LawNumbererModel" "hand" "[I", .methodLink RX10 174 yX10_lettersOf, .static yX10_lettersOf, .initialized RX10, .code yX10_lettersOf cX10_lettersOf 2 (some .int), .methodLink RX10 169 yX10_letterAt, .static yX10_letterAt, .code yX10_letterAt cX10_letterAt 4 (some .int), .methodLink RX10 178 yX10_suffixInHand, .instanceMethod yX10_suffixInHand, .selects RX10 yX10_suffixInHand yX10_suffixInHand, .code yX10_suffixInHand cX10_suffixInHand 1 (some .int)] ++ wsX100)
def wsX10_add_r1 : List Cond := [Cond.fieldLink RX10 86 "LawNumbererModel" "thrown" "I", Cond.fieldLink RX10 157 "LawNumbererModel" "items" "I", Cond.fieldLink RX10 34 "LawNumbererModel" "level" "[I", Cond.fieldLink RX10 27 "LawNumbererModel" "levels" "I", Cond.fieldLink RX10 37 "LawNumbererModel" "up" "[I", Cond.fieldLink RX10 43 "LawNumbererModel" "order" "[I", Cond.fieldLink RX10 166 "LawNumbererModel" "day" "I", Cond.constant RX10 173 (531441), Cond.fieldLink RX10 46 "LawNumbererModel" "struck" "[Z", Cond.fieldLink RX10 40 "LawNumbererModel" "came" "[I", Cond.methodLink RX10 181 yX10_isItem, Cond.instanceMethod yX10_isItem, Cond.selects RX10 yX10_isItem yX10_isItem, Cond.initialized RX10, Cond.code yX10_isItem cX10_isItem 2 (some .boolean), Cond.methodLink RX10 184 yX10_placeOf, Cond.instanceMethod yX10_placeOf, Cond.selects RX10 yX10_placeOf yX10_placeOf, Cond.code yX10_placeOf cX10_placeOf 3 (some .int), Cond.methodLink RX10 187 yX10_isUnder, Cond.instanceMethod yX10_isUnder, Cond.selects RX10 yX10_isUnder yX10_isUnder, Cond.code yX10_isUnder cX10_isUnder 4 (some .boolean), Cond.methodLink RX10 190 yX10_isInRow]
def wsX10_add_r2 : List Cond := [Cond.instanceMethod yX10_isInRow, Cond.selects RX10 yX10_isInRow yX10_isInRow, Cond.code yX10_isInRow cX10_isInRow 3 (some .boolean), Cond.fieldLink RX10 20 "LawNumbererModel" "through" "[Z", Cond.methodLink RX10 193 yX10_labelOf, Cond.instanceMethod yX10_labelOf, Cond.selects RX10 yX10_labelOf yX10_labelOf, Cond.code yX10_labelOf cX10_labelOf 4 (some .int), Cond.fieldLink RX10 160 "LawNumbererModel" "changes" "I", Cond.fieldLink RX10 50 "LawNumbererModel" "changed" "[I", Cond.fieldLink RX10 53 "LawNumbererModel" "changedOn" "[I", Cond.fieldLink RX10 56 "LawNumbererModel" "changedTo" "[I", Cond.methodLink RX10 196 yX10_least, Cond.instanceMethod yX10_least, Cond.selects RX10 yX10_least yX10_least, Cond.code yX10_least cX10_least 7 (some .int), Cond.fieldLink RX10 68 "LawNumbererModel" "hand" "[I", Cond.methodLink RX10 174 yX10_lettersOf, Cond.static yX10_lettersOf, Cond.code yX10_lettersOf cX10_lettersOf 2 (some .int), Cond.methodLink RX10 169 yX10_letterAt, Cond.static yX10_letterAt, Cond.code yX10_letterAt cX10_letterAt 4 (some .int), Cond.methodLink RX10 178 yX10_suffixInHand]
def wsX10_add_r3 : List Cond := [Cond.instanceMethod yX10_suffixInHand, Cond.selects RX10 yX10_suffixInHand yX10_suffixInHand, Cond.code yX10_suffixInHand cX10_suffixInHand 1 (some .int), Cond.methodLink RX10 199 yX10_act, Cond.instanceMethod yX10_act, Cond.selects RX10 yX10_act yX10_act, Cond.code yX10_act cX10_act 4 none, Cond.fieldLink RX10 163 "LawNumbererModel" "acts" "I", Cond.fieldLink RX10 59 "LawNumbererModel" "actKind" "[I", Cond.fieldLink RX10 62 "LawNumbererModel" "actItem" "[I", Cond.fieldLink RX10 65 "LawNumbererModel" "actFrom" "[I", Cond.methodLink RX10 203 yX10_change, Cond.instanceMethod yX10_change, Cond.selects RX10 yX10_change yX10_change, Cond.code yX10_change cX10_change 3 none]
def wsX10_add : List Cond := .code yX10_add cX10_add 9 (some .int) :: ((wsX10_add_r1 ++ (wsX10_add_r2 ++ wsX10_add_r3)) ++ wsX100)
def wsX10_strike : List Cond := .code yX10_strike cX10_strike 2 (some .boolean) :: ([.fieldLink RX10 86 "LawNumbererModel" "thrown" "I", .fieldLink RX10 46 "LawNumbererModel" "struck" "[Z", .methodLink RX10 181 yX10_isItem, .instanceMethod yX10_isItem, .selects RX10 yX10_isItem yX10_isItem, .initialized RX10, .code yX10_isItem cX10_isItem 2 (some .boolean), .fieldLink RX10 157 "LawNumbererModel" "items" "I", .methodLink RX10 199 yX10_act, .instanceMethod yX10_act, .selects RX10 yX10_act yX10_act, .code yX10_act cX10_act 4 none, .fieldLink RX10 163 "LawNumbererModel" "acts" "I", .fieldLink RX10 59 "LawNumbererModel" "actKind" "[I", .fieldLink RX10 62 "LawNumbererModel" "actItem" "[I", .fieldLink RX10 65 "LawNumbererModel" "actFrom" "[I", .fieldLink RX10 160 "LawNumbererModel" "changes" "I"] ++ wsX100)
def wsX10_renumber_r1 : List Cond := [Cond.fieldLink RX10 86 "LawNumbererModel" "thrown" "I", Cond.fieldLink RX10 157 "LawNumbererModel" "items" "I", Cond.fieldLink RX10 43 "LawNumbererModel" "order" "[I", Cond.fieldLink RX10 46 "LawNumbererModel" "struck" "[Z", Cond.constant RX10 173 (531441), Cond.methodLink RX10 181 yX10_isItem, Cond.instanceMethod yX10_isItem, Cond.selects RX10 yX10_isItem yX10_isItem, Cond.initialized RX10, Cond.code yX10_isItem cX10_isItem 2 (some .boolean), Cond.methodLink RX10 199 yX10_act, Cond.instanceMethod yX10_act, Cond.selects RX10 yX10_act yX10_act, Cond.code yX10_act cX10_act 4 none, Cond.fieldLink RX10 163 "LawNumbererModel" "acts" "I", Cond.fieldLink RX10 59 "LawNumbererModel" "actKind" "[I", Cond.fieldLink RX10 62 "LawNumbererModel" "actItem" "[I", Cond.fieldLink RX10 65 "LawNumbererModel" "actFrom" "[I", Cond.fieldLink RX10 160 "LawNumbererModel" "changes" "I", Cond.methodLink RX10 190 yX10_isInRow, Cond.instanceMethod yX10_isInRow, Cond.selects RX10 yX10_isInRow yX10_isInRow, Cond.code yX10_isInRow cX10_isInRow 3 (some .boolean), Cond.fieldLink RX10 34 "LawNumbererModel" "level" "[I"]
def wsX10_renumber_r2 : List Cond := [Cond.fieldLink RX10 20 "LawNumbererModel" "through" "[Z", Cond.fieldLink RX10 37 "LawNumbererModel" "up" "[I", Cond.methodLink RX10 203 yX10_change, Cond.instanceMethod yX10_change, Cond.selects RX10 yX10_change yX10_change, Cond.code yX10_change cX10_change 3 none, Cond.fieldLink RX10 50 "LawNumbererModel" "changed" "[I", Cond.fieldLink RX10 53 "LawNumbererModel" "changedOn" "[I", Cond.fieldLink RX10 166 "LawNumbererModel" "day" "I", Cond.fieldLink RX10 56 "LawNumbererModel" "changedTo" "[I"]
def wsX10_renumber : List Cond := .code yX10_renumber cX10_renumber 5 (some .boolean) :: ((wsX10_renumber_r1 ++ wsX10_renumber_r2) ++ wsX100)
def wsX10_error_r1 : List Cond := [Cond.fieldLink RX10 86 "LawNumbererModel" "thrown" "I", Cond.fieldLink RX10 68 "LawNumbererModel" "hand" "[I", Cond.constant RX10 173 (531441), Cond.methodLink RX10 181 yX10_isItem, Cond.instanceMethod yX10_isItem, Cond.selects RX10 yX10_isItem yX10_isItem, Cond.initialized RX10, Cond.code yX10_isItem cX10_isItem 2 (some .boolean), Cond.fieldLink RX10 157 "LawNumbererModel" "items" "I", Cond.methodLink RX10 206 yX10_isGreat, Cond.static yX10_isGreat, Cond.code yX10_isGreat cX10_isGreat 1 (some .boolean), Cond.methodLink RX10 199 yX10_act, Cond.instanceMethod yX10_act, Cond.selects RX10 yX10_act yX10_act, Cond.code yX10_act cX10_act 4 none, Cond.fieldLink RX10 163 "LawNumbererModel" "acts" "I", Cond.fieldLink RX10 59 "LawNumbererModel" "actKind" "[I", Cond.fieldLink RX10 62 "LawNumbererModel" "actItem" "[I", Cond.fieldLink RX10 65 "LawNumbererModel" "actFrom" "[I", Cond.fieldLink RX10 160 "LawNumbererModel" "changes" "I", Cond.methodLink RX10 178 yX10_suffixInHand, Cond.instanceMethod yX10_suffixInHand, Cond.selects RX10 yX10_suffixInHand yX10_suffixInHand]
def wsX10_error_r2 : List Cond := [Cond.code yX10_suffixInHand cX10_suffixInHand 1 (some .int), Cond.methodLink RX10 203 yX10_change, Cond.instanceMethod yX10_change, Cond.selects RX10 yX10_change yX10_change, Cond.code yX10_change cX10_change 3 none, Cond.fieldLink RX10 50 "LawNumbererModel" "changed" "[I", Cond.fieldLink RX10 53 "LawNumbererModel" "changedOn" "[I", Cond.fieldLink RX10 166 "LawNumbererModel" "day" "I", Cond.fieldLink RX10 56 "LawNumbererModel" "changedTo" "[I"]
def wsX10_error : List Cond := .code yX10_error cX10_error 7 (some .boolean) :: ((wsX10_error_r1 ++ wsX10_error_r2) ++ wsX100)
def wsX10_undo : List Cond := .code yX10_undo cX10_undo 4 (some .boolean) :: ([.fieldLink RX10 86 "LawNumbererModel" "thrown" "I", .fieldLink RX10 163 "LawNumbererModel" "acts" "I", .fieldLink RX10 65 "LawNumbererModel" "actFrom" "[I", .fieldLink RX10 160 "LawNumbererModel" "changes" "I", .fieldLink RX10 62 "LawNumbererModel" "actItem" "[I", .fieldLink RX10 59 "LawNumbererModel" "actKind" "[I", .fieldLink RX10 46 "LawNumbererModel" "struck" "[Z", .fieldLink RX10 157 "LawNumbererModel" "items" "I", .fieldLink RX10 43 "LawNumbererModel" "order" "[I", .methodLink RX10 184 yX10_placeOf, .instanceMethod yX10_placeOf, .selects RX10 yX10_placeOf yX10_placeOf, .initialized RX10, .code yX10_placeOf cX10_placeOf 3 (some .int)] ++ wsX100)
def wsX10_wait : List Cond := .code yX10_wait cX10_wait 2 (some .boolean) :: ([.fieldLink RX10 86 "LawNumbererModel" "thrown" "I", .fieldLink RX10 166 "LawNumbererModel" "day" "I"] ++ wsX100)
def wsX10_about_r1 : List Cond := [Cond.fieldLink RX10 34 "LawNumbererModel" "level" "[I", Cond.fieldLink RX10 37 "LawNumbererModel" "up" "[I", Cond.fieldLink RX10 46 "LawNumbererModel" "struck" "[Z", Cond.fieldLink RX10 43 "LawNumbererModel" "order" "[I", Cond.fieldLink RX10 40 "LawNumbererModel" "came" "[I", Cond.methodLink RX10 181 yX10_isItem, Cond.instanceMethod yX10_isItem, Cond.selects RX10 yX10_isItem yX10_isItem, Cond.initialized RX10, Cond.code yX10_isItem cX10_isItem 2 (some .boolean), Cond.fieldLink RX10 157 "LawNumbererModel" "items" "I", Cond.methodLink RX10 209 yX10_throwsIf, Cond.instanceMethod yX10_throwsIf, Cond.selects RX10 yX10_throwsIf yX10_throwsIf, Cond.code yX10_throwsIf cX10_throwsIf 2 (some .boolean), Cond.fieldLink RX10 86 "LawNumbererModel" "thrown" "I", Cond.methodLink RX10 184 yX10_placeOf, Cond.instanceMethod yX10_placeOf, Cond.selects RX10 yX10_placeOf yX10_placeOf, Cond.code yX10_placeOf cX10_placeOf 3 (some .int), Cond.methodLink RX10 190 yX10_isInRow, Cond.instanceMethod yX10_isInRow, Cond.selects RX10 yX10_isInRow yX10_isInRow, Cond.code yX10_isInRow cX10_isInRow 3 (some .boolean)]
def wsX10_about_r2 : List Cond := [Cond.fieldLink RX10 20 "LawNumbererModel" "through" "[Z"]
def wsX10_about : List Cond := .code yX10_about cX10_about 5 (some .int) :: ((wsX10_about_r1 ++ wsX10_about_r2) ++ wsX100)
def wsX10_put : List Cond := .code yX10_put cX10_put 2 none :: ([.fieldLink RX10 71 "LawNumbererModel" "out" "[B", .fieldLink RX10 213 "LawNumbererModel" "outMany" "I"] ++ wsX100)
def wsX10_romanLetter : List Cond := .code yX10_romanLetter cX10_romanLetter 1 (some .int) :: ([])
def wsX10_roman : List Cond := .code yX10_roman cX10_roman 5 none :: ([.fieldLink RX10 74 "LawNumbererModel" "worth" "[I", .fieldLink RX10 77 "LawNumbererModel" "sign" "[I", .methodLink RX10 216 yX10_romanLetter, .static yX10_romanLetter, .initialized RX10, .code yX10_romanLetter cX10_romanLetter 1 (some .int), .methodLink RX10 219 yX10_put, .instanceMethod yX10_put, .selects RX10 yX10_put yX10_put, .code yX10_put cX10_put 2 none, .fieldLink RX10 71 "LawNumbererModel" "out" "[B", .fieldLink RX10 213 "LawNumbererModel" "outMany" "I"] ++ wsX100)
def wsX10_decimal : List Cond := .code yX10_decimal cX10_decimal 2 none :: ([.methodLink RX10 219 yX10_put, .instanceMethod yX10_put, .selects RX10 yX10_put yX10_put, .initialized RX10, .code yX10_put cX10_put 2 none, .fieldLink RX10 71 "LawNumbererModel" "out" "[B", .fieldLink RX10 213 "LawNumbererModel" "outMany" "I"] ++ wsX100)
def wsX10_letters : List Cond := .code yX10_letters cX10_letters 4 none :: ([.methodLink RX10 219 yX10_put, .instanceMethod yX10_put, .selects RX10 yX10_put yX10_put, .initialized RX10, .code yX10_put cX10_put 2 none, .fieldLink RX10 71 "LawNumbererModel" "out" "[B", .fieldLink RX10 213 "LawNumbererModel" "outMany" "I"] ++ wsX100)
def wsX10_write_r1 : List Cond := [Cond.constant RX10 173 (531441), Cond.methodLink RX10 222 yX10_decimal, Cond.instanceMethod yX10_decimal, Cond.selects RX10 yX10_decimal yX10_decimal, Cond.initialized RX10, Cond.code yX10_decimal cX10_decimal 2 none, Cond.methodLink RX10 219 yX10_put, Cond.instanceMethod yX10_put, Cond.selects RX10 yX10_put yX10_put, Cond.code yX10_put cX10_put 2 none, Cond.fieldLink RX10 71 "LawNumbererModel" "out" "[B", Cond.fieldLink RX10 213 "LawNumbererModel" "outMany" "I", Cond.methodLink RX10 225 yX10_letters, Cond.instanceMethod yX10_letters, Cond.selects RX10 yX10_letters yX10_letters, Cond.code yX10_letters cX10_letters 4 none, Cond.methodLink RX10 228 yX10_roman, Cond.instanceMethod yX10_roman, Cond.selects RX10 yX10_roman yX10_roman, Cond.code yX10_roman cX10_roman 5 none, Cond.fieldLink RX10 74 "LawNumbererModel" "worth" "[I", Cond.fieldLink RX10 77 "LawNumbererModel" "sign" "[I", Cond.methodLink RX10 216 yX10_romanLetter, Cond.static yX10_romanLetter]
def wsX10_write_r2 : List Cond := [Cond.code yX10_romanLetter cX10_romanLetter 1 (some .int), Cond.methodLink RX10 174 yX10_lettersOf, Cond.static yX10_lettersOf, Cond.code yX10_lettersOf cX10_lettersOf 2 (some .int), Cond.methodLink RX10 169 yX10_letterAt, Cond.static yX10_letterAt, Cond.code yX10_letterAt cX10_letterAt 4 (some .int)]
def wsX10_write : List Cond := .code yX10_write cX10_write 6 none :: ((wsX10_write_r1 ++ wsX10_write_r2) ++ wsX100)
def wsX10_label_r1 : List Cond := [Cond.fieldLink RX10 86 "LawNumbererModel" "thrown" "I", Cond.fieldLink RX10 213 "LawNumbererModel" "outMany" "I", Cond.fieldLink RX10 13 "LawNumbererModel" "form" "[I", Cond.fieldLink RX10 34 "LawNumbererModel" "level" "[I", Cond.methodLink RX10 181 yX10_isItem, Cond.instanceMethod yX10_isItem, Cond.selects RX10 yX10_isItem yX10_isItem, Cond.initialized RX10, Cond.code yX10_isItem cX10_isItem 2 (some .boolean), Cond.fieldLink RX10 157 "LawNumbererModel" "items" "I", Cond.methodLink RX10 193 yX10_labelOf, Cond.instanceMethod yX10_labelOf, Cond.selects RX10 yX10_labelOf yX10_labelOf, Cond.code yX10_labelOf cX10_labelOf 4 (some .int), Cond.fieldLink RX10 160 "LawNumbererModel" "changes" "I", Cond.fieldLink RX10 50 "LawNumbererModel" "changed" "[I", Cond.fieldLink RX10 53 "LawNumbererModel" "changedOn" "[I", Cond.fieldLink RX10 56 "LawNumbererModel" "changedTo" "[I", Cond.methodLink RX10 231 yX10_write, Cond.instanceMethod yX10_write, Cond.selects RX10 yX10_write yX10_write, Cond.code yX10_write cX10_write 6 none, Cond.constant RX10 173 (531441), Cond.methodLink RX10 222 yX10_decimal]
def wsX10_label_r2 : List Cond := [Cond.instanceMethod yX10_decimal, Cond.selects RX10 yX10_decimal yX10_decimal, Cond.code yX10_decimal cX10_decimal 2 none, Cond.methodLink RX10 219 yX10_put, Cond.instanceMethod yX10_put, Cond.selects RX10 yX10_put yX10_put, Cond.code yX10_put cX10_put 2 none, Cond.fieldLink RX10 71 "LawNumbererModel" "out" "[B", Cond.methodLink RX10 225 yX10_letters, Cond.instanceMethod yX10_letters, Cond.selects RX10 yX10_letters yX10_letters, Cond.code yX10_letters cX10_letters 4 none, Cond.methodLink RX10 228 yX10_roman, Cond.instanceMethod yX10_roman, Cond.selects RX10 yX10_roman yX10_roman, Cond.code yX10_roman cX10_roman 5 none, Cond.fieldLink RX10 74 "LawNumbererModel" "worth" "[I", Cond.fieldLink RX10 77 "LawNumbererModel" "sign" "[I", Cond.methodLink RX10 216 yX10_romanLetter, Cond.static yX10_romanLetter, Cond.code yX10_romanLetter cX10_romanLetter 1 (some .int), Cond.methodLink RX10 174 yX10_lettersOf, Cond.static yX10_lettersOf, Cond.code yX10_lettersOf cX10_lettersOf 2 (some .int)]
def wsX10_label_r3 : List Cond := [Cond.methodLink RX10 169 yX10_letterAt, Cond.static yX10_letterAt, Cond.code yX10_letterAt cX10_letterAt 4 (some .int)]
def wsX10_label : List Cond := .code yX10_label cX10_label 4 (some .int) :: ((wsX10_label_r1 ++ (wsX10_label_r2 ++ wsX10_label_r3)) ++ wsX100)
def wsX10_over : List Cond := .code yX10_over cX10_over 4 (some .int) :: ([.fieldLink RX10 34 "LawNumbererModel" "level" "[I", .fieldLink RX10 37 "LawNumbererModel" "up" "[I"] ++ wsX100)
def wsX10_cited_r1 : List Cond := [Cond.fieldLink RX10 86 "LawNumbererModel" "thrown" "I", Cond.fieldLink RX10 34 "LawNumbererModel" "level" "[I", Cond.fieldLink RX10 213 "LawNumbererModel" "outMany" "I", Cond.fieldLink RX10 13 "LawNumbererModel" "form" "[I", Cond.methodLink RX10 181 yX10_isItem, Cond.instanceMethod yX10_isItem, Cond.selects RX10 yX10_isItem yX10_isItem, Cond.initialized RX10, Cond.code yX10_isItem cX10_isItem 2 (some .boolean), Cond.fieldLink RX10 157 "LawNumbererModel" "items" "I", Cond.methodLink RX10 234 yX10_over, Cond.instanceMethod yX10_over, Cond.selects RX10 yX10_over yX10_over, Cond.code yX10_over cX10_over 4 (some .int), Cond.fieldLink RX10 37 "LawNumbererModel" "up" "[I", Cond.methodLink RX10 193 yX10_labelOf, Cond.instanceMethod yX10_labelOf, Cond.selects RX10 yX10_labelOf yX10_labelOf, Cond.code yX10_labelOf cX10_labelOf 4 (some .int), Cond.fieldLink RX10 160 "LawNumbererModel" "changes" "I", Cond.fieldLink RX10 50 "LawNumbererModel" "changed" "[I", Cond.fieldLink RX10 53 "LawNumbererModel" "changedOn" "[I", Cond.fieldLink RX10 56 "LawNumbererModel" "changedTo" "[I", Cond.methodLink RX10 219 yX10_put]
def wsX10_cited_r2 : List Cond := [Cond.instanceMethod yX10_put, Cond.selects RX10 yX10_put yX10_put, Cond.code yX10_put cX10_put 2 none, Cond.fieldLink RX10 71 "LawNumbererModel" "out" "[B", Cond.methodLink RX10 231 yX10_write, Cond.instanceMethod yX10_write, Cond.selects RX10 yX10_write yX10_write, Cond.code yX10_write cX10_write 6 none, Cond.constant RX10 173 (531441), Cond.methodLink RX10 222 yX10_decimal, Cond.instanceMethod yX10_decimal, Cond.selects RX10 yX10_decimal yX10_decimal, Cond.code yX10_decimal cX10_decimal 2 none, Cond.methodLink RX10 225 yX10_letters, Cond.instanceMethod yX10_letters, Cond.selects RX10 yX10_letters yX10_letters, Cond.code yX10_letters cX10_letters 4 none, Cond.methodLink RX10 228 yX10_roman, Cond.instanceMethod yX10_roman, Cond.selects RX10 yX10_roman yX10_roman, Cond.code yX10_roman cX10_roman 5 none, Cond.fieldLink RX10 74 "LawNumbererModel" "worth" "[I", Cond.fieldLink RX10 77 "LawNumbererModel" "sign" "[I", Cond.methodLink RX10 216 yX10_romanLetter]
def wsX10_cited_r3 : List Cond := [Cond.static yX10_romanLetter, Cond.code yX10_romanLetter cX10_romanLetter 1 (some .int), Cond.methodLink RX10 174 yX10_lettersOf, Cond.static yX10_lettersOf, Cond.code yX10_lettersOf cX10_lettersOf 2 (some .int), Cond.methodLink RX10 169 yX10_letterAt, Cond.static yX10_letterAt, Cond.code yX10_letterAt cX10_letterAt 4 (some .int)]
def wsX10_cited : List Cond := .code yX10_cited cX10_cited 4 (some .int) :: ((wsX10_cited_r1 ++ (wsX10_cited_r2 ++ wsX10_cited_r3)) ++ wsX100)
def wsX10_octet : List Cond := .code yX10_octet cX10_octet 2 (some .int) :: ([.fieldLink RX10 213 "LawNumbererModel" "outMany" "I", .fieldLink RX10 71 "LawNumbererModel" "out" "[B", .methodLink RX10 209 yX10_throwsIf, .instanceMethod yX10_throwsIf, .selects RX10 yX10_throwsIf yX10_throwsIf, .initialized RX10, .code yX10_throwsIf cX10_throwsIf 2 (some .boolean), .fieldLink RX10 86 "LawNumbererModel" "thrown" "I"] ++ wsX100)
def wsX10_breaks : List Cond := .code yX10_breaks cX10_breaks 3 (some .boolean) :: ([.fieldLink RX10 237 "LawNumbererModel" "kind" "I", .fieldLink RX10 240 "LawNumbererModel" "where" "I"] ++ wsX100)
def wsX10_fitsForm : List Cond := .code yX10_fitsForm cX10_fitsForm 4 (some .boolean) :: ([.methodLink RX10 243 yX10_isDigit, .static yX10_isDigit, .initialized RX10, .code yX10_isDigit cX10_isDigit 1 (some .boolean), .methodLink RX10 116 yX10_isSmall, .static yX10_isSmall, .code yX10_isSmall cX10_isSmall 1 (some .boolean), .methodLink RX10 216 yX10_romanLetter, .static yX10_romanLetter, .code yX10_romanLetter cX10_romanLetter 1 (some .int)])
def wsX10_romanWorth : List Cond := .code yX10_romanWorth cX10_romanWorth 1 (some .int) :: ([])
def wsX10_isWritten_r1 : List Cond := [Cond.fieldLink RX10 213 "LawNumbererModel" "outMany" "I", Cond.fieldLink RX10 80 "LawNumbererModel" "again" "[B", Cond.fieldLink RX10 71 "LawNumbererModel" "out" "[B", Cond.fieldLink RX10 256 "LawNumbererModel" "read" "I", Cond.fieldLink RX10 99 "LawNumbererModel" "p" "I", Cond.fieldLink RX10 7 "LawNumbererModel" "tape" "[B", Cond.methodLink RX10 231 yX10_write, Cond.instanceMethod yX10_write, Cond.selects RX10 yX10_write yX10_write, Cond.initialized RX10, Cond.code yX10_write cX10_write 6 none, Cond.constant RX10 173 (531441), Cond.methodLink RX10 222 yX10_decimal, Cond.instanceMethod yX10_decimal, Cond.selects RX10 yX10_decimal yX10_decimal, Cond.code yX10_decimal cX10_decimal 2 none, Cond.methodLink RX10 219 yX10_put, Cond.instanceMethod yX10_put, Cond.selects RX10 yX10_put yX10_put, Cond.code yX10_put cX10_put 2 none, Cond.methodLink RX10 225 yX10_letters, Cond.instanceMethod yX10_letters, Cond.selects RX10 yX10_letters yX10_letters, Cond.code yX10_letters cX10_letters 4 none]
def wsX10_isWritten_r2 : List Cond := [Cond.methodLink RX10 228 yX10_roman, Cond.instanceMethod yX10_roman, Cond.selects RX10 yX10_roman yX10_roman, Cond.code yX10_roman cX10_roman 5 none, Cond.fieldLink RX10 74 "LawNumbererModel" "worth" "[I", Cond.fieldLink RX10 77 "LawNumbererModel" "sign" "[I", Cond.methodLink RX10 216 yX10_romanLetter, Cond.static yX10_romanLetter, Cond.code yX10_romanLetter cX10_romanLetter 1 (some .int), Cond.methodLink RX10 174 yX10_lettersOf, Cond.static yX10_lettersOf, Cond.code yX10_lettersOf cX10_lettersOf 2 (some .int), Cond.methodLink RX10 169 yX10_letterAt, Cond.static yX10_letterAt, Cond.code yX10_letterAt cX10_letterAt 4 (some .int)]
def wsX10_isWritten : List Cond := .code yX10_isWritten cX10_isWritten 6 (some .boolean) :: ((wsX10_isWritten_r1 ++ wsX10_isWritten_r2) ++ wsX100)
def wsX10_readLabel_r1 : List Cond := [Cond.fieldLink RX10 99 "LawNumbererModel" "p" "I", Cond.constant RX10 255 (100000), Cond.fieldLink RX10 68 "LawNumbererModel" "hand" "[I", Cond.fieldLink RX10 7 "LawNumbererModel" "tape" "[B", Cond.constant RX10 173 (531441), Cond.fieldLink RX10 256 "LawNumbererModel" "read" "I", Cond.methodLink RX10 105 yX10_peek, Cond.instanceMethod yX10_peek, Cond.selects RX10 yX10_peek yX10_peek, Cond.initialized RX10, Cond.code yX10_peek cX10_peek 1 (some .int), Cond.fieldLink RX10 96 "LawNumbererModel" "size" "I", Cond.methodLink RX10 246 yX10_fitsForm, Cond.static yX10_fitsForm, Cond.code yX10_fitsForm cX10_fitsForm 4 (some .boolean), Cond.methodLink RX10 243 yX10_isDigit, Cond.static yX10_isDigit, Cond.code yX10_isDigit cX10_isDigit 1 (some .boolean), Cond.methodLink RX10 116 yX10_isSmall, Cond.static yX10_isSmall, Cond.code yX10_isSmall cX10_isSmall 1 (some .boolean), Cond.methodLink RX10 216 yX10_romanLetter, Cond.static yX10_romanLetter, Cond.code yX10_romanLetter cX10_romanLetter 1 (some .int)]
def wsX10_readLabel_r2 : List Cond := [Cond.methodLink RX10 249 yX10_breaks, Cond.instanceMethod yX10_breaks, Cond.selects RX10 yX10_breaks yX10_breaks, Cond.code yX10_breaks cX10_breaks 3 (some .boolean), Cond.fieldLink RX10 237 "LawNumbererModel" "kind" "I", Cond.fieldLink RX10 240 "LawNumbererModel" "where" "I", Cond.methodLink RX10 252 yX10_romanWorth, Cond.static yX10_romanWorth, Cond.code yX10_romanWorth cX10_romanWorth 1 (some .int), Cond.methodLink RX10 206 yX10_isGreat, Cond.static yX10_isGreat, Cond.code yX10_isGreat cX10_isGreat 1 (some .boolean), Cond.methodLink RX10 178 yX10_suffixInHand, Cond.instanceMethod yX10_suffixInHand, Cond.selects RX10 yX10_suffixInHand yX10_suffixInHand, Cond.code yX10_suffixInHand cX10_suffixInHand 1 (some .int), Cond.methodLink RX10 259 yX10_isWritten, Cond.instanceMethod yX10_isWritten, Cond.selects RX10 yX10_isWritten yX10_isWritten, Cond.code yX10_isWritten cX10_isWritten 6 (some .boolean), Cond.fieldLink RX10 213 "LawNumbererModel" "outMany" "I", Cond.fieldLink RX10 80 "LawNumbererModel" "again" "[B", Cond.fieldLink RX10 71 "LawNumbererModel" "out" "[B", Cond.methodLink RX10 231 yX10_write]
def wsX10_readLabel_r3 : List Cond := [Cond.instanceMethod yX10_write, Cond.selects RX10 yX10_write yX10_write, Cond.code yX10_write cX10_write 6 none, Cond.methodLink RX10 222 yX10_decimal, Cond.instanceMethod yX10_decimal, Cond.selects RX10 yX10_decimal yX10_decimal, Cond.code yX10_decimal cX10_decimal 2 none, Cond.methodLink RX10 219 yX10_put, Cond.instanceMethod yX10_put, Cond.selects RX10 yX10_put yX10_put, Cond.code yX10_put cX10_put 2 none, Cond.methodLink RX10 225 yX10_letters, Cond.instanceMethod yX10_letters, Cond.selects RX10 yX10_letters yX10_letters, Cond.code yX10_letters cX10_letters 4 none, Cond.methodLink RX10 228 yX10_roman, Cond.instanceMethod yX10_roman, Cond.selects RX10 yX10_roman yX10_roman, Cond.code yX10_roman cX10_roman 5 none, Cond.fieldLink RX10 74 "LawNumbererModel" "worth" "[I", Cond.fieldLink RX10 77 "LawNumbererModel" "sign" "[I", Cond.methodLink RX10 174 yX10_lettersOf, Cond.static yX10_lettersOf, Cond.code yX10_lettersOf cX10_lettersOf 2 (some .int)]
def wsX10_readLabel_r4 : List Cond := [Cond.methodLink RX10 169 yX10_letterAt, Cond.static yX10_letterAt, Cond.code yX10_letterAt cX10_letterAt 4 (some .int)]
def wsX10_readLabel : List Cond := .code yX10_readLabel cX10_readLabel 7 (some .boolean) :: ((wsX10_readLabel_r1 ++ (wsX10_readLabel_r2 ++ (wsX10_readLabel_r3 ++ wsX10_readLabel_r4))) ++ wsX100)
def wsX10_readCitation_r1 : List Cond := [Cond.fieldLink RX10 13 "LawNumbererModel" "form" "[I", Cond.fieldLink RX10 83 "LawNumbererModel" "wanted" "[I", Cond.fieldLink RX10 256 "LawNumbererModel" "read" "I", Cond.fieldLink RX10 99 "LawNumbererModel" "p" "I", Cond.fieldLink RX10 96 "LawNumbererModel" "size" "I", Cond.fieldLink RX10 27 "LawNumbererModel" "levels" "I", Cond.methodLink RX10 262 yX10_readLabel, Cond.instanceMethod yX10_readLabel, Cond.selects RX10 yX10_readLabel yX10_readLabel, Cond.initialized RX10, Cond.code yX10_readLabel cX10_readLabel 7 (some .boolean), Cond.constant RX10 255 (100000), Cond.fieldLink RX10 68 "LawNumbererModel" "hand" "[I", Cond.fieldLink RX10 7 "LawNumbererModel" "tape" "[B", Cond.constant RX10 173 (531441), Cond.methodLink RX10 105 yX10_peek, Cond.instanceMethod yX10_peek, Cond.selects RX10 yX10_peek yX10_peek, Cond.code yX10_peek cX10_peek 1 (some .int), Cond.methodLink RX10 246 yX10_fitsForm, Cond.static yX10_fitsForm, Cond.code yX10_fitsForm cX10_fitsForm 4 (some .boolean), Cond.methodLink RX10 243 yX10_isDigit, Cond.static yX10_isDigit]
def wsX10_readCitation_r2 : List Cond := [Cond.code yX10_isDigit cX10_isDigit 1 (some .boolean), Cond.methodLink RX10 116 yX10_isSmall, Cond.static yX10_isSmall, Cond.code yX10_isSmall cX10_isSmall 1 (some .boolean), Cond.methodLink RX10 216 yX10_romanLetter, Cond.static yX10_romanLetter, Cond.code yX10_romanLetter cX10_romanLetter 1 (some .int), Cond.methodLink RX10 249 yX10_breaks, Cond.instanceMethod yX10_breaks, Cond.selects RX10 yX10_breaks yX10_breaks, Cond.code yX10_breaks cX10_breaks 3 (some .boolean), Cond.fieldLink RX10 237 "LawNumbererModel" "kind" "I", Cond.fieldLink RX10 240 "LawNumbererModel" "where" "I", Cond.methodLink RX10 252 yX10_romanWorth, Cond.static yX10_romanWorth, Cond.code yX10_romanWorth cX10_romanWorth 1 (some .int), Cond.methodLink RX10 206 yX10_isGreat, Cond.static yX10_isGreat, Cond.code yX10_isGreat cX10_isGreat 1 (some .boolean), Cond.methodLink RX10 178 yX10_suffixInHand, Cond.instanceMethod yX10_suffixInHand, Cond.selects RX10 yX10_suffixInHand yX10_suffixInHand, Cond.code yX10_suffixInHand cX10_suffixInHand 1 (some .int), Cond.methodLink RX10 259 yX10_isWritten]
def wsX10_readCitation_r3 : List Cond := [Cond.instanceMethod yX10_isWritten, Cond.selects RX10 yX10_isWritten yX10_isWritten, Cond.code yX10_isWritten cX10_isWritten 6 (some .boolean), Cond.fieldLink RX10 213 "LawNumbererModel" "outMany" "I", Cond.fieldLink RX10 80 "LawNumbererModel" "again" "[B", Cond.fieldLink RX10 71 "LawNumbererModel" "out" "[B", Cond.methodLink RX10 231 yX10_write, Cond.instanceMethod yX10_write, Cond.selects RX10 yX10_write yX10_write, Cond.code yX10_write cX10_write 6 none, Cond.methodLink RX10 222 yX10_decimal, Cond.instanceMethod yX10_decimal, Cond.selects RX10 yX10_decimal yX10_decimal, Cond.code yX10_decimal cX10_decimal 2 none, Cond.methodLink RX10 219 yX10_put, Cond.instanceMethod yX10_put, Cond.selects RX10 yX10_put yX10_put, Cond.code yX10_put cX10_put 2 none, Cond.methodLink RX10 225 yX10_letters, Cond.instanceMethod yX10_letters, Cond.selects RX10 yX10_letters yX10_letters, Cond.code yX10_letters cX10_letters 4 none, Cond.methodLink RX10 228 yX10_roman, Cond.instanceMethod yX10_roman]
def wsX10_readCitation_r4 : List Cond := [Cond.selects RX10 yX10_roman yX10_roman, Cond.code yX10_roman cX10_roman 5 none, Cond.fieldLink RX10 74 "LawNumbererModel" "worth" "[I", Cond.fieldLink RX10 77 "LawNumbererModel" "sign" "[I", Cond.methodLink RX10 174 yX10_lettersOf, Cond.static yX10_lettersOf, Cond.code yX10_lettersOf cX10_lettersOf 2 (some .int), Cond.methodLink RX10 169 yX10_letterAt, Cond.static yX10_letterAt, Cond.code yX10_letterAt cX10_letterAt 4 (some .int)]
def wsX10_readCitation : List Cond := .code yX10_readCitation cX10_readCitation 2 (some .int) :: ((wsX10_readCitation_r1 ++ (wsX10_readCitation_r2 ++ (wsX10_readCitation_r3 ++ wsX10_readCitation_r4))) ++ wsX100)
def wsX10_cite_r1 : List Cond := [Cond.fieldLink RX10 86 "LawNumbererModel" "thrown" "I", Cond.fieldLink RX10 102 "LawNumbererModel" "fault" "I", Cond.fieldLink RX10 31 "LawNumbererModel" "place" "I", Cond.fieldLink RX10 237 "LawNumbererModel" "kind" "I", Cond.fieldLink RX10 240 "LawNumbererModel" "where" "I", Cond.fieldLink RX10 268 "LawNumbererModel" "bearers" "I", Cond.fieldLink RX10 157 "LawNumbererModel" "items" "I", Cond.fieldLink RX10 43 "LawNumbererModel" "order" "[I", Cond.fieldLink RX10 34 "LawNumbererModel" "level" "[I", Cond.fieldLink RX10 83 "LawNumbererModel" "wanted" "[I", Cond.methodLink RX10 151 yX10_taken, Cond.instanceMethod yX10_taken, Cond.selects RX10 yX10_taken yX10_taken, Cond.initialized RX10, Cond.code yX10_taken cX10_taken 1 none, Cond.fieldLink RX10 89 "LawNumbererModel" "length" "I", Cond.fieldLink RX10 96 "LawNumbererModel" "size" "I", Cond.fieldLink RX10 99 "LawNumbererModel" "p" "I", Cond.methodLink RX10 265 yX10_readCitation, Cond.instanceMethod yX10_readCitation, Cond.selects RX10 yX10_readCitation yX10_readCitation, Cond.code yX10_readCitation cX10_readCitation 2 (some .int), Cond.fieldLink RX10 13 "LawNumbererModel" "form" "[I", Cond.fieldLink RX10 256 "LawNumbererModel" "read" "I"]
def wsX10_cite_r2 : List Cond := [Cond.fieldLink RX10 27 "LawNumbererModel" "levels" "I", Cond.methodLink RX10 262 yX10_readLabel, Cond.instanceMethod yX10_readLabel, Cond.selects RX10 yX10_readLabel yX10_readLabel, Cond.code yX10_readLabel cX10_readLabel 7 (some .boolean), Cond.constant RX10 255 (100000), Cond.fieldLink RX10 68 "LawNumbererModel" "hand" "[I", Cond.fieldLink RX10 7 "LawNumbererModel" "tape" "[B", Cond.constant RX10 173 (531441), Cond.methodLink RX10 105 yX10_peek, Cond.instanceMethod yX10_peek, Cond.selects RX10 yX10_peek yX10_peek, Cond.code yX10_peek cX10_peek 1 (some .int), Cond.methodLink RX10 246 yX10_fitsForm, Cond.static yX10_fitsForm, Cond.code yX10_fitsForm cX10_fitsForm 4 (some .boolean), Cond.methodLink RX10 243 yX10_isDigit, Cond.static yX10_isDigit, Cond.code yX10_isDigit cX10_isDigit 1 (some .boolean), Cond.methodLink RX10 116 yX10_isSmall, Cond.static yX10_isSmall, Cond.code yX10_isSmall cX10_isSmall 1 (some .boolean), Cond.methodLink RX10 216 yX10_romanLetter, Cond.static yX10_romanLetter]
def wsX10_cite_r3 : List Cond := [Cond.code yX10_romanLetter cX10_romanLetter 1 (some .int), Cond.methodLink RX10 249 yX10_breaks, Cond.instanceMethod yX10_breaks, Cond.selects RX10 yX10_breaks yX10_breaks, Cond.code yX10_breaks cX10_breaks 3 (some .boolean), Cond.methodLink RX10 252 yX10_romanWorth, Cond.static yX10_romanWorth, Cond.code yX10_romanWorth cX10_romanWorth 1 (some .int), Cond.methodLink RX10 206 yX10_isGreat, Cond.static yX10_isGreat, Cond.code yX10_isGreat cX10_isGreat 1 (some .boolean), Cond.methodLink RX10 178 yX10_suffixInHand, Cond.instanceMethod yX10_suffixInHand, Cond.selects RX10 yX10_suffixInHand yX10_suffixInHand, Cond.code yX10_suffixInHand cX10_suffixInHand 1 (some .int), Cond.methodLink RX10 259 yX10_isWritten, Cond.instanceMethod yX10_isWritten, Cond.selects RX10 yX10_isWritten yX10_isWritten, Cond.code yX10_isWritten cX10_isWritten 6 (some .boolean), Cond.fieldLink RX10 213 "LawNumbererModel" "outMany" "I", Cond.fieldLink RX10 80 "LawNumbererModel" "again" "[B", Cond.fieldLink RX10 71 "LawNumbererModel" "out" "[B", Cond.methodLink RX10 231 yX10_write, Cond.instanceMethod yX10_write]
def wsX10_cite_r4 : List Cond := [Cond.selects RX10 yX10_write yX10_write, Cond.code yX10_write cX10_write 6 none, Cond.methodLink RX10 222 yX10_decimal, Cond.instanceMethod yX10_decimal, Cond.selects RX10 yX10_decimal yX10_decimal, Cond.code yX10_decimal cX10_decimal 2 none, Cond.methodLink RX10 219 yX10_put, Cond.instanceMethod yX10_put, Cond.selects RX10 yX10_put yX10_put, Cond.code yX10_put cX10_put 2 none, Cond.methodLink RX10 225 yX10_letters, Cond.instanceMethod yX10_letters, Cond.selects RX10 yX10_letters yX10_letters, Cond.code yX10_letters cX10_letters 4 none, Cond.methodLink RX10 228 yX10_roman, Cond.instanceMethod yX10_roman, Cond.selects RX10 yX10_roman yX10_roman, Cond.code yX10_roman cX10_roman 5 none, Cond.fieldLink RX10 74 "LawNumbererModel" "worth" "[I", Cond.fieldLink RX10 77 "LawNumbererModel" "sign" "[I", Cond.methodLink RX10 174 yX10_lettersOf, Cond.static yX10_lettersOf, Cond.code yX10_lettersOf cX10_lettersOf 2 (some .int), Cond.methodLink RX10 169 yX10_letterAt]
def wsX10_cite_r5 : List Cond := [Cond.static yX10_letterAt, Cond.code yX10_letterAt cX10_letterAt 4 (some .int), Cond.methodLink RX10 234 yX10_over, Cond.instanceMethod yX10_over, Cond.selects RX10 yX10_over yX10_over, Cond.code yX10_over cX10_over 4 (some .int), Cond.fieldLink RX10 37 "LawNumbererModel" "up" "[I", Cond.methodLink RX10 193 yX10_labelOf, Cond.instanceMethod yX10_labelOf, Cond.selects RX10 yX10_labelOf yX10_labelOf, Cond.code yX10_labelOf cX10_labelOf 4 (some .int), Cond.fieldLink RX10 160 "LawNumbererModel" "changes" "I", Cond.fieldLink RX10 50 "LawNumbererModel" "changed" "[I", Cond.fieldLink RX10 53 "LawNumbererModel" "changedOn" "[I", Cond.fieldLink RX10 56 "LawNumbererModel" "changedTo" "[I"]
def wsX10_cite : List Cond := .code yX10_cite cX10_cite 8 (some .int) :: ((wsX10_cite_r1 ++ (wsX10_cite_r2 ++ (wsX10_cite_r3 ++ (wsX10_cite_r4 ++ wsX10_cite_r5)))) ++ wsX100)
def wsX10_bearers : List Cond := .code yX10_bearers cX10_bearers 1 (some .int) :: ([.fieldLink RX10 86 "LawNumbererModel" "thrown" "I", .fieldLink RX10 268 "LawNumbererModel" "bearers" "I"] ++ wsX100)
def wsX10_read_r1 : List Cond := [Cond.fieldLink RX10 86 "LawNumbererModel" "thrown" "I", Cond.fieldLink RX10 99 "LawNumbererModel" "p" "I", Cond.fieldLink RX10 96 "LawNumbererModel" "size" "I", Cond.fieldLink RX10 271 "LawNumbererModel" "suffix" "I", Cond.fieldLink RX10 256 "LawNumbererModel" "read" "I", Cond.constant RX10 173 (531441), Cond.methodLink RX10 151 yX10_taken, Cond.instanceMethod yX10_taken, Cond.selects RX10 yX10_taken yX10_taken, Cond.initialized RX10, Cond.code yX10_taken cX10_taken 1 none, Cond.fieldLink RX10 89 "LawNumbererModel" "length" "I", Cond.methodLink RX10 262 yX10_readLabel, Cond.instanceMethod yX10_readLabel, Cond.selects RX10 yX10_readLabel yX10_readLabel, Cond.code yX10_readLabel cX10_readLabel 7 (some .boolean), Cond.constant RX10 255 (100000), Cond.fieldLink RX10 68 "LawNumbererModel" "hand" "[I", Cond.fieldLink RX10 7 "LawNumbererModel" "tape" "[B", Cond.methodLink RX10 105 yX10_peek, Cond.instanceMethod yX10_peek, Cond.selects RX10 yX10_peek yX10_peek, Cond.code yX10_peek cX10_peek 1 (some .int), Cond.methodLink RX10 246 yX10_fitsForm]
def wsX10_read_r2 : List Cond := [Cond.static yX10_fitsForm, Cond.code yX10_fitsForm cX10_fitsForm 4 (some .boolean), Cond.methodLink RX10 243 yX10_isDigit, Cond.static yX10_isDigit, Cond.code yX10_isDigit cX10_isDigit 1 (some .boolean), Cond.methodLink RX10 116 yX10_isSmall, Cond.static yX10_isSmall, Cond.code yX10_isSmall cX10_isSmall 1 (some .boolean), Cond.methodLink RX10 216 yX10_romanLetter, Cond.static yX10_romanLetter, Cond.code yX10_romanLetter cX10_romanLetter 1 (some .int), Cond.methodLink RX10 249 yX10_breaks, Cond.instanceMethod yX10_breaks, Cond.selects RX10 yX10_breaks yX10_breaks, Cond.code yX10_breaks cX10_breaks 3 (some .boolean), Cond.fieldLink RX10 237 "LawNumbererModel" "kind" "I", Cond.fieldLink RX10 240 "LawNumbererModel" "where" "I", Cond.methodLink RX10 252 yX10_romanWorth, Cond.static yX10_romanWorth, Cond.code yX10_romanWorth cX10_romanWorth 1 (some .int), Cond.methodLink RX10 206 yX10_isGreat, Cond.static yX10_isGreat, Cond.code yX10_isGreat cX10_isGreat 1 (some .boolean), Cond.methodLink RX10 178 yX10_suffixInHand]
def wsX10_read_r3 : List Cond := [Cond.instanceMethod yX10_suffixInHand, Cond.selects RX10 yX10_suffixInHand yX10_suffixInHand, Cond.code yX10_suffixInHand cX10_suffixInHand 1 (some .int), Cond.methodLink RX10 259 yX10_isWritten, Cond.instanceMethod yX10_isWritten, Cond.selects RX10 yX10_isWritten yX10_isWritten, Cond.code yX10_isWritten cX10_isWritten 6 (some .boolean), Cond.fieldLink RX10 213 "LawNumbererModel" "outMany" "I", Cond.fieldLink RX10 80 "LawNumbererModel" "again" "[B", Cond.fieldLink RX10 71 "LawNumbererModel" "out" "[B", Cond.methodLink RX10 231 yX10_write, Cond.instanceMethod yX10_write, Cond.selects RX10 yX10_write yX10_write, Cond.code yX10_write cX10_write 6 none, Cond.methodLink RX10 222 yX10_decimal, Cond.instanceMethod yX10_decimal, Cond.selects RX10 yX10_decimal yX10_decimal, Cond.code yX10_decimal cX10_decimal 2 none, Cond.methodLink RX10 219 yX10_put, Cond.instanceMethod yX10_put, Cond.selects RX10 yX10_put yX10_put, Cond.code yX10_put cX10_put 2 none, Cond.methodLink RX10 225 yX10_letters, Cond.instanceMethod yX10_letters]
def wsX10_read_r4 : List Cond := [Cond.selects RX10 yX10_letters yX10_letters, Cond.code yX10_letters cX10_letters 4 none, Cond.methodLink RX10 228 yX10_roman, Cond.instanceMethod yX10_roman, Cond.selects RX10 yX10_roman yX10_roman, Cond.code yX10_roman cX10_roman 5 none, Cond.fieldLink RX10 74 "LawNumbererModel" "worth" "[I", Cond.fieldLink RX10 77 "LawNumbererModel" "sign" "[I", Cond.methodLink RX10 174 yX10_lettersOf, Cond.static yX10_lettersOf, Cond.code yX10_lettersOf cX10_lettersOf 2 (some .int), Cond.methodLink RX10 169 yX10_letterAt, Cond.static yX10_letterAt, Cond.code yX10_letterAt cX10_letterAt 4 (some .int)]
def wsX10_read : List Cond := .code yX10_read cX10_read 3 (some .int) :: ((wsX10_read_r1 ++ (wsX10_read_r2 ++ (wsX10_read_r3 ++ wsX10_read_r4))) ++ wsX100)
def wsX10_suffix : List Cond := .code yX10_suffix cX10_suffix 1 (some .int) :: ([.fieldLink RX10 86 "LawNumbererModel" "thrown" "I", .fieldLink RX10 271 "LawNumbererModel" "suffix" "I"] ++ wsX100)
def wsX10_clash : List Cond := .code yX10_clash cX10_clash 6 (some .int) :: ([.fieldLink RX10 86 "LawNumbererModel" "thrown" "I", .fieldLink RX10 157 "LawNumbererModel" "items" "I", .fieldLink RX10 43 "LawNumbererModel" "order" "[I", .fieldLink RX10 166 "LawNumbererModel" "day" "I", .methodLink RX10 193 yX10_labelOf, .instanceMethod yX10_labelOf, .selects RX10 yX10_labelOf yX10_labelOf, .initialized RX10, .code yX10_labelOf cX10_labelOf 4 (some .int), .fieldLink RX10 160 "LawNumbererModel" "changes" "I", .fieldLink RX10 50 "LawNumbererModel" "changed" "[I", .fieldLink RX10 53 "LawNumbererModel" "changedOn" "[I", .fieldLink RX10 56 "LawNumbererModel" "changedTo" "[I", .methodLink RX10 190 yX10_isInRow, .instanceMethod yX10_isInRow, .selects RX10 yX10_isInRow yX10_isInRow, .code yX10_isInRow cX10_isInRow 3 (some .boolean), .fieldLink RX10 34 "LawNumbererModel" "level" "[I", .fieldLink RX10 20 "LawNumbererModel" "through" "[Z", .fieldLink RX10 37 "LawNumbererModel" "up" "[I"] ++ wsX100)
def wsX10_at : List Cond := .code yX10_at cX10_at 2 (some .int) :: ([.fieldLink RX10 86 "LawNumbererModel" "thrown" "I", .fieldLink RX10 157 "LawNumbererModel" "items" "I", .fieldLink RX10 43 "LawNumbererModel" "order" "[I"] ++ wsX100)
def wsX10_count : List Cond := .code yX10_count cX10_count 4 (some .int) :: ([.fieldLink RX10 86 "LawNumbererModel" "thrown" "I", .fieldLink RX10 27 "LawNumbererModel" "levels" "I", .fieldLink RX10 157 "LawNumbererModel" "items" "I", .fieldLink RX10 46 "LawNumbererModel" "struck" "[Z", .fieldLink RX10 166 "LawNumbererModel" "day" "I", .fieldLink RX10 163 "LawNumbererModel" "acts" "I", .fieldLink RX10 213 "LawNumbererModel" "outMany" "I", .fieldLink RX10 89 "LawNumbererModel" "length" "I"] ++ wsX100)
def wsJ9_min_7cf53 : List Cond := .code yJ9_min_7cf53 cJ9_min_7cf53 2 (some .int) :: ([])
end
section
theorem dX0_init_0 : decode cX0_init 0 = .ok (.aload_n 0, 1) := by decide +kernel
theorem dX0_init_1 : decode cX0_init 1 = .ok (.invokespecial 3, 3) := by decide +kernel
theorem dX0_init_4 : decode cX0_init 4 = .ok (.aload_n 0, 1) := by decide +kernel
theorem dX0_init_5 : decode cX0_init 5 = .ok (.bipush 100, 2) := by decide +kernel
theorem dX0_init_7 : decode cX0_init 7 = .ok (.newarray .int, 2) := by decide +kernel
theorem dX0_init_9 : decode cX0_init 9 = .ok (.putfield 9, 3) := by decide +kernel
theorem dX0_init_12 : decode cX0_init 12 = .ok (.aload_n 0, 1) := by decide +kernel
theorem dX0_init_13 : decode cX0_init 13 = .ok (.bipush 100, 2) := by decide +kernel
theorem dX0_init_15 : decode cX0_init 15 = .ok (.newarray .int, 2) := by decide +kernel
theorem dX0_init_17 : decode cX0_init 17 = .ok (.putfield 15, 3) := by decide +kernel
theorem dX0_init_20 : decode cX0_init 20 = .ok (.aload_n 0, 1) := by decide +kernel
theorem dX0_init_21 : decode cX0_init 21 = .ok (.bipush 100, 2) := by decide +kernel
theorem dX0_init_23 : decode cX0_init 23 = .ok (.newarray .int, 2) := by decide +kernel
theorem dX0_init_25 : decode cX0_init 25 = .ok (.putfield 18, 3) := by decide +kernel
theorem dX0_init_28 : decode cX0_init 28 = .ok (.return_, 1) := by decide +kernel
theorem dX0_clear_0 : decode cX0_clear 0 = .ok (.aload_n 0, 1) := by decide +kernel
theorem dX0_clear_1 : decode cX0_clear 1 = .ok (.iconst 0, 1) := by decide +kernel
theorem dX0_clear_2 : decode cX0_clear 2 = .ok (.putfield 21, 3) := by decide +kernel
theorem dX0_clear_5 : decode cX0_clear 5 = .ok (.aload_n 0, 1) := by decide +kernel
theorem dX0_clear_6 : decode cX0_clear 6 = .ok (.iconst 0, 1) := by decide +kernel
theorem dX0_clear_7 : decode cX0_clear 7 = .ok (.putfield 25, 3) := by decide +kernel
theorem dX0_clear_10 : decode cX0_clear 10 = .ok (.return_, 1) := by decide +kernel
theorem dX0_open_0 : decode cX0_open 0 = .ok (.aload_n 0, 1) := by decide +kernel
theorem dX0_open_1 : decode cX0_open 1 = .ok (.getfield 9, 3) := by decide +kernel
theorem dX0_open_4 : decode cX0_open 4 = .ok (.aload_n 0, 1) := by decide +kernel
theorem dX0_open_5 : decode cX0_open 5 = .ok (.getfield 21, 3) := by decide +kernel
theorem dX0_open_8 : decode cX0_open 8 = .ok (.iload_n 1, 1) := by decide +kernel
theorem dX0_open_9 : decode cX0_open 9 = .ok (.iastore, 1) := by decide +kernel
theorem dX0_open_10 : decode cX0_open 10 = .ok (.aload_n 0, 1) := by decide +kernel
theorem dX0_open_11 : decode cX0_open 11 = .ok (.getfield 15, 3) := by decide +kernel
theorem dX0_open_14 : decode cX0_open 14 = .ok (.aload_n 0, 1) := by decide +kernel
theorem dX0_open_15 : decode cX0_open 15 = .ok (.getfield 21, 3) := by decide +kernel
theorem dX0_open_18 : decode cX0_open 18 = .ok (.iload_n 2, 1) := by decide +kernel
theorem dX0_open_19 : decode cX0_open 19 = .ok (.iastore, 1) := by decide +kernel
theorem dX0_open_20 : decode cX0_open 20 = .ok (.aload_n 0, 1) := by decide +kernel
theorem dX0_open_21 : decode cX0_open 21 = .ok (.getfield 18, 3) := by decide +kernel
theorem dX0_open_24 : decode cX0_open 24 = .ok (.aload_n 0, 1) := by decide +kernel
theorem dX0_open_25 : decode cX0_open 25 = .ok (.getfield 21, 3) := by decide +kernel
theorem dX0_open_28 : decode cX0_open 28 = .ok (.iload_n 3, 1) := by decide +kernel
theorem dX0_open_29 : decode cX0_open 29 = .ok (.iastore, 1) := by decide +kernel
theorem dX0_open_30 : decode cX0_open 30 = .ok (.aload_n 0, 1) := by decide +kernel
theorem dX0_open_31 : decode cX0_open 31 = .ok (.aload_n 0, 1) := by decide +kernel
theorem dX0_open_32 : decode cX0_open 32 = .ok (.getfield 21, 3) := by decide +kernel
theorem dX0_open_35 : decode cX0_open 35 = .ok (.iconst 1, 1) := by decide +kernel
theorem dX0_open_36 : decode cX0_open 36 = .ok (.iadd, 1) := by decide +kernel
theorem dX0_open_37 : decode cX0_open 37 = .ok (.bipush 100, 2) := by decide +kernel
theorem dX0_open_39 : decode cX0_open 39 = .ok (.if_icmp .ge 12, 3) := by decide +kernel
theorem dX0_open_42 : decode cX0_open 42 = .ok (.aload_n 0, 1) := by decide +kernel
theorem dX0_open_43 : decode cX0_open 43 = .ok (.getfield 21, 3) := by decide +kernel
theorem dX0_open_46 : decode cX0_open 46 = .ok (.iconst 1, 1) := by decide +kernel
theorem dX0_open_47 : decode cX0_open 47 = .ok (.iadd, 1) := by decide +kernel
theorem dX0_open_48 : decode cX0_open 48 = .ok (.goto 4, 3) := by decide +kernel
theorem dX0_open_51 : decode cX0_open 51 = .ok (.iconst 0, 1) := by decide +kernel
theorem dX0_open_52 : decode cX0_open 52 = .ok (.putfield 21, 3) := by decide +kernel
theorem dX0_open_55 : decode cX0_open 55 = .ok (.aload_n 0, 1) := by decide +kernel
theorem dX0_open_56 : decode cX0_open 56 = .ok (.aload_n 0, 1) := by decide +kernel
theorem dX0_open_57 : decode cX0_open 57 = .ok (.getfield 25, 3) := by decide +kernel
theorem dX0_open_60 : decode cX0_open 60 = .ok (.iconst 1, 1) := by decide +kernel
theorem dX0_open_61 : decode cX0_open 61 = .ok (.iadd, 1) := by decide +kernel
theorem dX0_open_62 : decode cX0_open 62 = .ok (.bipush 100, 2) := by decide +kernel
theorem dX0_open_64 : decode cX0_open 64 = .ok (.invokestatic 28, 3) := by decide +kernel
theorem dX0_open_67 : decode cX0_open 67 = .ok (.putfield 25, 3) := by decide +kernel
theorem dX0_open_70 : decode cX0_open 70 = .ok (.return_, 1) := by decide +kernel
theorem dX0_latestSlot_0 : decode cX0_latestSlot 0 = .ok (.aload_n 0, 1) := by decide +kernel
theorem dX0_latestSlot_1 : decode cX0_latestSlot 1 = .ok (.getfield 21, 3) := by decide +kernel
theorem dX0_latestSlot_4 : decode cX0_latestSlot 4 = .ok (.ifCond .le 12, 3) := by decide +kernel
theorem dX0_latestSlot_7 : decode cX0_latestSlot 7 = .ok (.aload_n 0, 1) := by decide +kernel
theorem dX0_latestSlot_8 : decode cX0_latestSlot 8 = .ok (.getfield 21, 3) := by decide +kernel
theorem dX0_latestSlot_11 : decode cX0_latestSlot 11 = .ok (.iconst 1, 1) := by decide +kernel
theorem dX0_latestSlot_12 : decode cX0_latestSlot 12 = .ok (.isub, 1) := by decide +kernel
theorem dX0_latestSlot_13 : decode cX0_latestSlot 13 = .ok (.goto 5, 3) := by decide +kernel
theorem dX0_latestSlot_16 : decode cX0_latestSlot 16 = .ok (.bipush 99, 2) := by decide +kernel
theorem dX0_latestSlot_18 : decode cX0_latestSlot 18 = .ok (.ireturn, 1) := by decide +kernel
set_option maxRecDepth 20000 in
theorem ggX0_latestKind_X0_latestSlot : GoodIn wsX0_latestKind wsX0_latestSlot := goodIn_r _ [7, 8, 9, 10, 11, 12, 13] (by decide +kernel) (by decide +kernel)
set_option maxRecDepth 20000 in
theorem gX0_latestKind_X0_latestSlot : GoodIn wsX0_latestKind (wsV RX0 34 RX0 yX0_latestSlot wsX0_latestSlot) := goodIn_app (goodIn_of _ (by decide +kernel)) ggX0_latestKind_X0_latestSlot
theorem dX0_latestKind_0 : decode cX0_latestKind 0 = .ok (.aload_n 0, 1) := by decide +kernel
theorem dX0_latestKind_1 : decode cX0_latestKind 1 = .ok (.getfield 25, 3) := by decide +kernel
theorem dX0_latestKind_4 : decode cX0_latestKind 4 = .ok (.ifCond .le 15, 3) := by decide +kernel
theorem dX0_latestKind_7 : decode cX0_latestKind 7 = .ok (.aload_n 0, 1) := by decide +kernel
theorem dX0_latestKind_8 : decode cX0_latestKind 8 = .ok (.getfield 9, 3) := by decide +kernel
theorem dX0_latestKind_11 : decode cX0_latestKind 11 = .ok (.aload_n 0, 1) := by decide +kernel
theorem dX0_latestKind_12 : decode cX0_latestKind 12 = .ok (.invokevirtual 34, 3) := by decide +kernel
theorem dX0_latestKind_15 : decode cX0_latestKind 15 = .ok (.iaload, 1) := by decide +kernel
theorem dX0_latestKind_16 : decode cX0_latestKind 16 = .ok (.goto 4, 3) := by decide +kernel
theorem dX0_latestKind_19 : decode cX0_latestKind 19 = .ok (.iconst (-1), 1) := by decide +kernel
theorem dX0_latestKind_20 : decode cX0_latestKind 20 = .ok (.ireturn, 1) := by decide +kernel
set_option maxRecDepth 20000 in
theorem ggX0_latestItem_X0_latestSlot : GoodIn wsX0_latestItem wsX0_latestSlot := goodIn_r _ [6, 7, 8, 9, 10, 11, 12] (by decide +kernel) (by decide +kernel)
set_option maxRecDepth 20000 in
theorem gX0_latestItem_X0_latestSlot : GoodIn wsX0_latestItem (wsV RX0 34 RX0 yX0_latestSlot wsX0_latestSlot) := goodIn_app (goodIn_of _ (by decide +kernel)) ggX0_latestItem_X0_latestSlot
theorem dX0_latestItem_0 : decode cX0_latestItem 0 = .ok (.aload_n 0, 1) := by decide +kernel
theorem dX0_latestItem_1 : decode cX0_latestItem 1 = .ok (.getfield 15, 3) := by decide +kernel
theorem dX0_latestItem_4 : decode cX0_latestItem 4 = .ok (.aload_n 0, 1) := by decide +kernel
theorem dX0_latestItem_5 : decode cX0_latestItem 5 = .ok (.invokevirtual 34, 3) := by decide +kernel
theorem dX0_latestItem_8 : decode cX0_latestItem 8 = .ok (.iaload, 1) := by decide +kernel
theorem dX0_latestItem_9 : decode cX0_latestItem 9 = .ok (.ireturn, 1) := by decide +kernel
set_option maxRecDepth 20000 in
theorem ggX0_latestMark_X0_latestSlot : GoodIn wsX0_latestMark wsX0_latestSlot := goodIn_r _ [6, 7, 8, 9, 10, 11, 12] (by decide +kernel) (by decide +kernel)
set_option maxRecDepth 20000 in
theorem gX0_latestMark_X0_latestSlot : GoodIn wsX0_latestMark (wsV RX0 34 RX0 yX0_latestSlot wsX0_latestSlot) := goodIn_app (goodIn_of _ (by decide +kernel)) ggX0_latestMark_X0_latestSlot
theorem dX0_latestMark_0 : decode cX0_latestMark 0 = .ok (.aload_n 0, 1) := by decide +kernel
theorem dX0_latestMark_1 : decode cX0_latestMark 1 = .ok (.getfield 18, 3) := by decide +kernel
theorem dX0_latestMark_4 : decode cX0_latestMark 4 = .ok (.aload_n 0, 1) := by decide +kernel
theorem dX0_latestMark_5 : decode cX0_latestMark 5 = .ok (.invokevirtual 34, 3) := by decide +kernel
theorem dX0_latestMark_8 : decode cX0_latestMark 8 = .ok (.iaload, 1) := by decide +kernel
theorem dX0_latestMark_9 : decode cX0_latestMark 9 = .ok (.ireturn, 1) := by decide +kernel
set_option maxRecDepth 20000 in
theorem ggX0_close_X0_latestSlot : GoodIn wsX0_close wsX0_latestSlot := goodIn_r _ [7, 2, 8, 9, 10, 11, 12] (by decide +kernel) (by decide +kernel)
set_option maxRecDepth 20000 in
theorem gX0_close_X0_latestSlot : GoodIn wsX0_close (wsV RX0 34 RX0 yX0_latestSlot wsX0_latestSlot) := goodIn_app (goodIn_of _ (by decide +kernel)) ggX0_close_X0_latestSlot
theorem dX0_close_0 : decode cX0_close 0 = .ok (.aload_n 0, 1) := by decide +kernel
theorem dX0_close_1 : decode cX0_close 1 = .ok (.getfield 25, 3) := by decide +kernel
theorem dX0_close_4 : decode cX0_close 4 = .ok (.ifCond .le 21, 3) := by decide +kernel
theorem dX0_close_7 : decode cX0_close 7 = .ok (.aload_n 0, 1) := by decide +kernel
theorem dX0_close_8 : decode cX0_close 8 = .ok (.aload_n 0, 1) := by decide +kernel
theorem dX0_close_9 : decode cX0_close 9 = .ok (.invokevirtual 34, 3) := by decide +kernel
theorem dX0_close_12 : decode cX0_close 12 = .ok (.putfield 21, 3) := by decide +kernel
theorem dX0_close_15 : decode cX0_close 15 = .ok (.aload_n 0, 1) := by decide +kernel
theorem dX0_close_16 : decode cX0_close 16 = .ok (.dup, 1) := by decide +kernel
theorem dX0_close_17 : decode cX0_close 17 = .ok (.getfield 25, 3) := by decide +kernel
theorem dX0_close_20 : decode cX0_close 20 = .ok (.iconst 1, 1) := by decide +kernel
theorem dX0_close_21 : decode cX0_close 21 = .ok (.isub, 1) := by decide +kernel
theorem dX0_close_22 : decode cX0_close 22 = .ok (.putfield 25, 3) := by decide +kernel
theorem dX0_close_25 : decode cX0_close 25 = .ok (.return_, 1) := by decide +kernel
set_option maxRecDepth 20000 in
theorem ggX1_writeLabel_X5_numberOf : GoodIn wsX1_writeLabel wsX5_numberOf := goodIn_r _ [4] (by decide +kernel) (by decide +kernel)
set_option maxRecDepth 20000 in
theorem gX1_writeLabel_X5_numberOf : GoodIn wsX1_writeLabel (va_wsS RX1 9 yX5_numberOf wsX5_numberOf) := goodIn_app (goodIn_of _ (by decide +kernel)) ggX1_writeLabel_X5_numberOf
set_option maxRecDepth 20000 in
theorem ggX1_writeLabel_X1_writeRoman : GoodIn wsX1_writeLabel wsX1_writeRoman := goodIn_r _ [8, 9, 10, 11, 12, 13, 14, 15, 16, 17, 18, 32, 33] (by decide +kernel) (by decide +kernel)
set_option maxRecDepth 20000 in
theorem gX1_writeLabel_X1_writeRoman : GoodIn wsX1_writeLabel (va_wsS RX1 15 yX1_writeRoman wsX1_writeRoman) := goodIn_app (goodIn_of _ (by decide +kernel)) ggX1_writeLabel_X1_writeRoman
set_option maxRecDepth 20000 in
theorem ggX1_writeLabel_X1_writeLetters : GoodIn wsX1_writeLabel wsX1_writeLetters := goodIn_r _ [21, 12, 13, 14, 15, 16, 17, 18, 32, 33] (by decide +kernel) (by decide +kernel)
set_option maxRecDepth 20000 in
theorem gX1_writeLabel_X1_writeLetters : GoodIn wsX1_writeLabel (va_wsS RX1 21 yX1_writeLetters wsX1_writeLetters) := goodIn_app (goodIn_of _ (by decide +kernel)) ggX1_writeLabel_X1_writeLetters
set_option maxRecDepth 20000 in
theorem ggX1_writeLabel_X1_writeDigits : GoodIn wsX1_writeLabel wsX1_writeDigits := goodIn_r _ [24, 12, 13, 14, 15, 16, 17, 18, 32, 33] (by decide +kernel) (by decide +kernel)
set_option maxRecDepth 20000 in
theorem gX1_writeLabel_X1_writeDigits : GoodIn wsX1_writeLabel (va_wsS RX1 25 yX1_writeDigits wsX1_writeDigits) := goodIn_app (goodIn_of _ (by decide +kernel)) ggX1_writeLabel_X1_writeDigits
set_option maxRecDepth 20000 in
theorem ggX1_writeLabel_X5_lettersIn : GoodIn wsX1_writeLabel wsX5_lettersIn := goodIn_r _ [27, 28, 29, 3, 30] (by decide +kernel) (by decide +kernel)
set_option maxRecDepth 20000 in
theorem gX1_writeLabel_X5_lettersIn : GoodIn wsX1_writeLabel (va_wsS RX1 28 yX5_lettersIn wsX5_lettersIn) := goodIn_app (goodIn_of _ (by decide +kernel)) ggX1_writeLabel_X5_lettersIn
set_option maxRecDepth 20000 in
theorem ggX1_writeLabel_X8_put : GoodIn wsX1_writeLabel wsX8_put := goodIn_r _ [16, 17, 18, 32, 33] (by decide +kernel) (by decide +kernel)
set_option maxRecDepth 20000 in
theorem gX1_writeLabel_X8_put : GoodIn wsX1_writeLabel (wsV RX1 31 RX8 yX8_put wsX8_put) := goodIn_app (goodIn_of _ (by decide +kernel)) ggX1_writeLabel_X8_put
set_option maxRecDepth 20000 in
theorem ggX1_writeLabel_X5_letterOf : GoodIn wsX1_writeLabel wsX5_letterOf := goodIn_r _ [30] (by decide +kernel) (by decide +kernel)
set_option maxRecDepth 20000 in
theorem gX1_writeLabel_X5_letterOf : GoodIn wsX1_writeLabel (va_wsS RX1 37 yX5_letterOf wsX5_letterOf) := goodIn_app (goodIn_of _ (by decide +kernel)) ggX1_writeLabel_X5_letterOf
theorem dX1_writeLabel_0 : decode cX1_writeLabel 0 = .ok (.iload_n 2, 1) := by decide +kernel
theorem dX1_writeLabel_1 : decode cX1_writeLabel 1 = .ok (.invokestatic 9, 3) := by decide +kernel
theorem dX1_writeLabel_4 : decode cX1_writeLabel 4 = .ok (.istore_n 3, 1) := by decide +kernel
theorem dX1_writeLabel_5 : decode cX1_writeLabel 5 = .ok (.iload_n 1, 1) := by decide +kernel
theorem dX1_writeLabel_6 : decode cX1_writeLabel 6 = .ok (.tableswitch 53 1 3 #[26, 35, 43], 26) := by decide +kernel
theorem dX1_writeLabel_32 : decode cX1_writeLabel 32 = .ok (.aload_n 0, 1) := by decide +kernel
theorem dX1_writeLabel_33 : decode cX1_writeLabel 33 = .ok (.iload_n 3, 1) := by decide +kernel
theorem dX1_writeLabel_34 : decode cX1_writeLabel 34 = .ok (.iconst 0, 1) := by decide +kernel
theorem dX1_writeLabel_35 : decode cX1_writeLabel 35 = .ok (.invokestatic 15, 3) := by decide +kernel
theorem dX1_writeLabel_38 : decode cX1_writeLabel 38 = .ok (.goto 26, 3) := by decide +kernel
theorem dX1_writeLabel_41 : decode cX1_writeLabel 41 = .ok (.aload_n 0, 1) := by decide +kernel
theorem dX1_writeLabel_42 : decode cX1_writeLabel 42 = .ok (.iload_n 3, 1) := by decide +kernel
theorem dX1_writeLabel_43 : decode cX1_writeLabel 43 = .ok (.invokestatic 21, 3) := by decide +kernel
theorem dX1_writeLabel_46 : decode cX1_writeLabel 46 = .ok (.goto 18, 3) := by decide +kernel
theorem dX1_writeLabel_49 : decode cX1_writeLabel 49 = .ok (.aload_n 0, 1) := by decide +kernel
theorem dX1_writeLabel_50 : decode cX1_writeLabel 50 = .ok (.iload_n 3, 1) := by decide +kernel
theorem dX1_writeLabel_51 : decode cX1_writeLabel 51 = .ok (.bipush 32, 2) := by decide +kernel
theorem dX1_writeLabel_53 : decode cX1_writeLabel 53 = .ok (.invokestatic 15, 3) := by decide +kernel
theorem dX1_writeLabel_56 : decode cX1_writeLabel 56 = .ok (.goto 8, 3) := by decide +kernel
theorem dX1_writeLabel_59 : decode cX1_writeLabel 59 = .ok (.aload_n 0, 1) := by decide +kernel
theorem dX1_writeLabel_60 : decode cX1_writeLabel 60 = .ok (.iload_n 3, 1) := by decide +kernel
theorem dX1_writeLabel_61 : decode cX1_writeLabel 61 = .ok (.invokestatic 25, 3) := by decide +kernel
theorem dX1_writeLabel_64 : decode cX1_writeLabel 64 = .ok (.iload_n 2, 1) := by decide +kernel
theorem dX1_writeLabel_65 : decode cX1_writeLabel 65 = .ok (.invokestatic 28, 3) := by decide +kernel
theorem dX1_writeLabel_68 : decode cX1_writeLabel 68 = .ok (.istore 4, 2) := by decide +kernel
theorem dX1_writeLabel_70 : decode cX1_writeLabel 70 = .ok (.iload 4, 2) := by decide +kernel
theorem dX1_writeLabel_72 : decode cX1_writeLabel 72 = .ok (.ifCond .le 13, 3) := by decide +kernel
theorem dX1_writeLabel_75 : decode cX1_writeLabel 75 = .ok (.iload_n 1, 1) := by decide +kernel
theorem dX1_writeLabel_76 : decode cX1_writeLabel 76 = .ok (.ifCond .eq 9, 3) := by decide +kernel
theorem dX1_writeLabel_79 : decode cX1_writeLabel 79 = .ok (.aload_n 0, 1) := by decide +kernel
theorem dX1_writeLabel_80 : decode cX1_writeLabel 80 = .ok (.bipush 45, 2) := by decide +kernel
theorem dX1_writeLabel_82 : decode cX1_writeLabel 82 = .ok (.invokevirtual 31, 3) := by decide +kernel
theorem dX1_writeLabel_85 : decode cX1_writeLabel 85 = .ok (.iconst 0, 1) := by decide +kernel
theorem dX1_writeLabel_86 : decode cX1_writeLabel 86 = .ok (.istore 5, 2) := by decide +kernel
theorem dX1_writeLabel_88 : decode cX1_writeLabel 88 = .ok (.iload 5, 2) := by decide +kernel
theorem dX1_writeLabel_90 : decode cX1_writeLabel 90 = .ok (.iload 4, 2) := by decide +kernel
theorem dX1_writeLabel_92 : decode cX1_writeLabel 92 = .ok (.if_icmp .ge 22, 3) := by decide +kernel
theorem dX1_writeLabel_95 : decode cX1_writeLabel 95 = .ok (.aload_n 0, 1) := by decide +kernel
theorem dX1_writeLabel_96 : decode cX1_writeLabel 96 = .ok (.bipush 64, 2) := by decide +kernel
theorem dX1_writeLabel_98 : decode cX1_writeLabel 98 = .ok (.iload_n 2, 1) := by decide +kernel
theorem dX1_writeLabel_99 : decode cX1_writeLabel 99 = .ok (.iload 5, 2) := by decide +kernel
theorem dX1_writeLabel_101 : decode cX1_writeLabel 101 = .ok (.invokestatic 37, 3) := by decide +kernel
theorem dX1_writeLabel_104 : decode cX1_writeLabel 104 = .ok (.iadd, 1) := by decide +kernel
theorem dX1_writeLabel_105 : decode cX1_writeLabel 105 = .ok (.invokevirtual 31, 3) := by decide +kernel
theorem dX1_writeLabel_108 : decode cX1_writeLabel 108 = .ok (.iinc 5 1, 3) := by decide +kernel
theorem dX1_writeLabel_111 : decode cX1_writeLabel 111 = .ok (.goto (-23), 3) := by decide +kernel
theorem dX1_writeLabel_114 : decode cX1_writeLabel 114 = .ok (.return_, 1) := by decide +kernel
set_option maxRecDepth 20000 in
theorem ggX1_writeDigits_X8_put : GoodIn wsX1_writeDigits wsX8_put := goodIn_r _ [5, 6, 7, 8, 9] (by decide +kernel) (by decide +kernel)
set_option maxRecDepth 20000 in
theorem gX1_writeDigits_X8_put : GoodIn wsX1_writeDigits (wsV RX1 31 RX8 yX8_put wsX8_put) := goodIn_app (goodIn_of _ (by decide +kernel)) ggX1_writeDigits_X8_put
theorem dX1_writeDigits_0 : decode cX1_writeDigits 0 = .ok (.iload_n 1, 1) := by decide +kernel
theorem dX1_writeDigits_1 : decode cX1_writeDigits 1 = .ok (.bipush 100, 2) := by decide +kernel
theorem dX1_writeDigits_3 : decode cX1_writeDigits 3 = .ok (.if_icmp .lt 14, 3) := by decide +kernel
theorem dX1_writeDigits_6 : decode cX1_writeDigits 6 = .ok (.aload_n 0, 1) := by decide +kernel
theorem dX1_writeDigits_7 : decode cX1_writeDigits 7 = .ok (.bipush 48, 2) := by decide +kernel
theorem dX1_writeDigits_9 : decode cX1_writeDigits 9 = .ok (.iload_n 1, 1) := by decide +kernel
theorem dX1_writeDigits_10 : decode cX1_writeDigits 10 = .ok (.bipush 100, 2) := by decide +kernel
theorem dX1_writeDigits_12 : decode cX1_writeDigits 12 = .ok (.idiv, 1) := by decide +kernel
theorem dX1_writeDigits_13 : decode cX1_writeDigits 13 = .ok (.iadd, 1) := by decide +kernel
theorem dX1_writeDigits_14 : decode cX1_writeDigits 14 = .ok (.invokevirtual 31, 3) := by decide +kernel
theorem dX1_writeDigits_17 : decode cX1_writeDigits 17 = .ok (.iload_n 1, 1) := by decide +kernel
theorem dX1_writeDigits_18 : decode cX1_writeDigits 18 = .ok (.bipush 10, 2) := by decide +kernel
theorem dX1_writeDigits_20 : decode cX1_writeDigits 20 = .ok (.if_icmp .lt 17, 3) := by decide +kernel
theorem dX1_writeDigits_23 : decode cX1_writeDigits 23 = .ok (.aload_n 0, 1) := by decide +kernel
theorem dX1_writeDigits_24 : decode cX1_writeDigits 24 = .ok (.bipush 48, 2) := by decide +kernel
theorem dX1_writeDigits_26 : decode cX1_writeDigits 26 = .ok (.iload_n 1, 1) := by decide +kernel
theorem dX1_writeDigits_27 : decode cX1_writeDigits 27 = .ok (.bipush 10, 2) := by decide +kernel
theorem dX1_writeDigits_29 : decode cX1_writeDigits 29 = .ok (.idiv, 1) := by decide +kernel
theorem dX1_writeDigits_30 : decode cX1_writeDigits 30 = .ok (.bipush 10, 2) := by decide +kernel
theorem dX1_writeDigits_32 : decode cX1_writeDigits 32 = .ok (.irem, 1) := by decide +kernel
theorem dX1_writeDigits_33 : decode cX1_writeDigits 33 = .ok (.iadd, 1) := by decide +kernel
theorem dX1_writeDigits_34 : decode cX1_writeDigits 34 = .ok (.invokevirtual 31, 3) := by decide +kernel
theorem dX1_writeDigits_37 : decode cX1_writeDigits 37 = .ok (.aload_n 0, 1) := by decide +kernel
theorem dX1_writeDigits_38 : decode cX1_writeDigits 38 = .ok (.bipush 48, 2) := by decide +kernel
theorem dX1_writeDigits_40 : decode cX1_writeDigits 40 = .ok (.iload_n 1, 1) := by decide +kernel
theorem dX1_writeDigits_41 : decode cX1_writeDigits 41 = .ok (.bipush 10, 2) := by decide +kernel
theorem dX1_writeDigits_43 : decode cX1_writeDigits 43 = .ok (.irem, 1) := by decide +kernel
theorem dX1_writeDigits_44 : decode cX1_writeDigits 44 = .ok (.iadd, 1) := by decide +kernel
theorem dX1_writeDigits_45 : decode cX1_writeDigits 45 = .ok (.invokevirtual 31, 3) := by decide +kernel
theorem dX1_writeDigits_48 : decode cX1_writeDigits 48 = .ok (.return_, 1) := by decide +kernel
set_option maxRecDepth 20000 in
theorem ggX1_writeRoman_X8_put : GoodIn wsX1_writeRoman wsX8_put := goodIn_r _ [8, 9, 10, 11, 12] (by decide +kernel) (by decide +kernel)
set_option maxRecDepth 20000 in
theorem gX1_writeRoman_X8_put : GoodIn wsX1_writeRoman (wsV RX1 31 RX8 yX8_put wsX8_put) := goodIn_app (goodIn_of _ (by decide +kernel)) ggX1_writeRoman_X8_put
theorem dX1_writeRoman_0 : decode cX1_writeRoman 0 = .ok (.iload_n 1, 1) := by decide +kernel
theorem dX1_writeRoman_1 : decode cX1_writeRoman 1 = .ok (.istore_n 3, 1) := by decide +kernel
theorem dX1_writeRoman_2 : decode cX1_writeRoman 2 = .ok (.iconst 0, 1) := by decide +kernel
theorem dX1_writeRoman_3 : decode cX1_writeRoman 3 = .ok (.istore 4, 2) := by decide +kernel
theorem dX1_writeRoman_5 : decode cX1_writeRoman 5 = .ok (.iload 4, 2) := by decide +kernel
theorem dX1_writeRoman_7 : decode cX1_writeRoman 7 = .ok (.getstatic 41, 3) := by decide +kernel
theorem dX1_writeRoman_10 : decode cX1_writeRoman 10 = .ok (.arraylength, 1) := by decide +kernel
theorem dX1_writeRoman_11 : decode cX1_writeRoman 11 = .ok (.if_icmp .ge 64, 3) := by decide +kernel
theorem dX1_writeRoman_14 : decode cX1_writeRoman 14 = .ok (.iload_n 3, 1) := by decide +kernel
theorem dX1_writeRoman_15 : decode cX1_writeRoman 15 = .ok (.getstatic 41, 3) := by decide +kernel
theorem dX1_writeRoman_18 : decode cX1_writeRoman 18 = .ok (.iload 4, 2) := by decide +kernel
theorem dX1_writeRoman_20 : decode cX1_writeRoman 20 = .ok (.iaload, 1) := by decide +kernel
theorem dX1_writeRoman_21 : decode cX1_writeRoman 21 = .ok (.if_icmp .lt 48, 3) := by decide +kernel
theorem dX1_writeRoman_24 : decode cX1_writeRoman 24 = .ok (.iload_n 3, 1) := by decide +kernel
theorem dX1_writeRoman_25 : decode cX1_writeRoman 25 = .ok (.getstatic 41, 3) := by decide +kernel
theorem dX1_writeRoman_28 : decode cX1_writeRoman 28 = .ok (.iload 4, 2) := by decide +kernel
theorem dX1_writeRoman_30 : decode cX1_writeRoman 30 = .ok (.iaload, 1) := by decide +kernel
theorem dX1_writeRoman_31 : decode cX1_writeRoman 31 = .ok (.isub, 1) := by decide +kernel
theorem dX1_writeRoman_32 : decode cX1_writeRoman 32 = .ok (.istore_n 3, 1) := by decide +kernel
theorem dX1_writeRoman_33 : decode cX1_writeRoman 33 = .ok (.aload_n 0, 1) := by decide +kernel
theorem dX1_writeRoman_34 : decode cX1_writeRoman 34 = .ok (.getstatic 45, 3) := by decide +kernel
theorem dX1_writeRoman_37 : decode cX1_writeRoman 37 = .ok (.iload 4, 2) := by decide +kernel
theorem dX1_writeRoman_39 : decode cX1_writeRoman 39 = .ok (.caload, 1) := by decide +kernel
theorem dX1_writeRoman_40 : decode cX1_writeRoman 40 = .ok (.iload_n 2, 1) := by decide +kernel
theorem dX1_writeRoman_41 : decode cX1_writeRoman 41 = .ok (.iadd, 1) := by decide +kernel
theorem dX1_writeRoman_42 : decode cX1_writeRoman 42 = .ok (.invokevirtual 31, 3) := by decide +kernel
theorem dX1_writeRoman_45 : decode cX1_writeRoman 45 = .ok (.getstatic 49, 3) := by decide +kernel
theorem dX1_writeRoman_48 : decode cX1_writeRoman 48 = .ok (.iload 4, 2) := by decide +kernel
theorem dX1_writeRoman_50 : decode cX1_writeRoman 50 = .ok (.caload, 1) := by decide +kernel
theorem dX1_writeRoman_51 : decode cX1_writeRoman 51 = .ok (.ifCond .eq (-37), 3) := by decide +kernel
theorem dX1_writeRoman_54 : decode cX1_writeRoman 54 = .ok (.aload_n 0, 1) := by decide +kernel
theorem dX1_writeRoman_55 : decode cX1_writeRoman 55 = .ok (.getstatic 49, 3) := by decide +kernel
theorem dX1_writeRoman_58 : decode cX1_writeRoman 58 = .ok (.iload 4, 2) := by decide +kernel
theorem dX1_writeRoman_60 : decode cX1_writeRoman 60 = .ok (.caload, 1) := by decide +kernel
theorem dX1_writeRoman_61 : decode cX1_writeRoman 61 = .ok (.iload_n 2, 1) := by decide +kernel
theorem dX1_writeRoman_62 : decode cX1_writeRoman 62 = .ok (.iadd, 1) := by decide +kernel
theorem dX1_writeRoman_63 : decode cX1_writeRoman 63 = .ok (.invokevirtual 31, 3) := by decide +kernel
theorem dX1_writeRoman_66 : decode cX1_writeRoman 66 = .ok (.goto (-52), 3) := by decide +kernel
theorem dX1_writeRoman_69 : decode cX1_writeRoman 69 = .ok (.iinc 4 1, 3) := by decide +kernel
theorem dX1_writeRoman_72 : decode cX1_writeRoman 72 = .ok (.goto (-67), 3) := by decide +kernel
theorem dX1_writeRoman_75 : decode cX1_writeRoman 75 = .ok (.return_, 1) := by decide +kernel
set_option maxRecDepth 20000 in
theorem ggX1_writeLetters_X8_put : GoodIn wsX1_writeLetters wsX8_put := goodIn_r _ [5, 6, 7, 8, 9] (by decide +kernel) (by decide +kernel)
set_option maxRecDepth 20000 in
theorem gX1_writeLetters_X8_put : GoodIn wsX1_writeLetters (wsV RX1 31 RX8 yX8_put wsX8_put) := goodIn_app (goodIn_of _ (by decide +kernel)) ggX1_writeLetters_X8_put
theorem dX1_writeLetters_0 : decode cX1_writeLetters 0 = .ok (.iload_n 1, 1) := by decide +kernel
theorem dX1_writeLetters_1 : decode cX1_writeLetters 1 = .ok (.iconst 1, 1) := by decide +kernel
theorem dX1_writeLetters_2 : decode cX1_writeLetters 2 = .ok (.isub, 1) := by decide +kernel
theorem dX1_writeLetters_3 : decode cX1_writeLetters 3 = .ok (.bipush 26, 2) := by decide +kernel
theorem dX1_writeLetters_5 : decode cX1_writeLetters 5 = .ok (.idiv, 1) := by decide +kernel
theorem dX1_writeLetters_6 : decode cX1_writeLetters 6 = .ok (.istore_n 2, 1) := by decide +kernel
theorem dX1_writeLetters_7 : decode cX1_writeLetters 7 = .ok (.iload_n 2, 1) := by decide +kernel
theorem dX1_writeLetters_8 : decode cX1_writeLetters 8 = .ok (.bipush 26, 2) := by decide +kernel
theorem dX1_writeLetters_10 : decode cX1_writeLetters 10 = .ok (.if_icmp .le 16, 3) := by decide +kernel
theorem dX1_writeLetters_13 : decode cX1_writeLetters 13 = .ok (.aload_n 0, 1) := by decide +kernel
theorem dX1_writeLetters_14 : decode cX1_writeLetters 14 = .ok (.bipush 96, 2) := by decide +kernel
theorem dX1_writeLetters_16 : decode cX1_writeLetters 16 = .ok (.iload_n 2, 1) := by decide +kernel
theorem dX1_writeLetters_17 : decode cX1_writeLetters 17 = .ok (.iconst 1, 1) := by decide +kernel
theorem dX1_writeLetters_18 : decode cX1_writeLetters 18 = .ok (.isub, 1) := by decide +kernel
theorem dX1_writeLetters_19 : decode cX1_writeLetters 19 = .ok (.bipush 26, 2) := by decide +kernel
theorem dX1_writeLetters_21 : decode cX1_writeLetters 21 = .ok (.idiv, 1) := by decide +kernel
theorem dX1_writeLetters_22 : decode cX1_writeLetters 22 = .ok (.iadd, 1) := by decide +kernel
theorem dX1_writeLetters_23 : decode cX1_writeLetters 23 = .ok (.invokevirtual 31, 3) := by decide +kernel
theorem dX1_writeLetters_26 : decode cX1_writeLetters 26 = .ok (.iload_n 2, 1) := by decide +kernel
theorem dX1_writeLetters_27 : decode cX1_writeLetters 27 = .ok (.ifCond .le 16, 3) := by decide +kernel
theorem dX1_writeLetters_30 : decode cX1_writeLetters 30 = .ok (.aload_n 0, 1) := by decide +kernel
theorem dX1_writeLetters_31 : decode cX1_writeLetters 31 = .ok (.bipush 97, 2) := by decide +kernel
theorem dX1_writeLetters_33 : decode cX1_writeLetters 33 = .ok (.iload_n 2, 1) := by decide +kernel
theorem dX1_writeLetters_34 : decode cX1_writeLetters 34 = .ok (.iconst 1, 1) := by decide +kernel
theorem dX1_writeLetters_35 : decode cX1_writeLetters 35 = .ok (.isub, 1) := by decide +kernel
theorem dX1_writeLetters_36 : decode cX1_writeLetters 36 = .ok (.bipush 26, 2) := by decide +kernel
theorem dX1_writeLetters_38 : decode cX1_writeLetters 38 = .ok (.irem, 1) := by decide +kernel
theorem dX1_writeLetters_39 : decode cX1_writeLetters 39 = .ok (.iadd, 1) := by decide +kernel
theorem dX1_writeLetters_40 : decode cX1_writeLetters 40 = .ok (.invokevirtual 31, 3) := by decide +kernel
theorem dX1_writeLetters_43 : decode cX1_writeLetters 43 = .ok (.aload_n 0, 1) := by decide +kernel
theorem dX1_writeLetters_44 : decode cX1_writeLetters 44 = .ok (.bipush 97, 2) := by decide +kernel
theorem dX1_writeLetters_46 : decode cX1_writeLetters 46 = .ok (.iload_n 1, 1) := by decide +kernel
theorem dX1_writeLetters_47 : decode cX1_writeLetters 47 = .ok (.iconst 1, 1) := by decide +kernel
theorem dX1_writeLetters_48 : decode cX1_writeLetters 48 = .ok (.isub, 1) := by decide +kernel
theorem dX1_writeLetters_49 : decode cX1_writeLetters 49 = .ok (.bipush 26, 2) := by decide +kernel
theorem dX1_writeLetters_51 : decode cX1_writeLetters 51 = .ok (.irem, 1) := by decide +kernel
theorem dX1_writeLetters_52 : decode cX1_writeLetters 52 = .ok (.iadd, 1) := by decide +kernel
theorem dX1_writeLetters_53 : decode cX1_writeLetters 53 = .ok (.invokevirtual 31, 3) := by decide +kernel
theorem dX1_writeLetters_56 : decode cX1_writeLetters 56 = .ok (.return_, 1) := by decide +kernel
set_option maxRecDepth 20000 in
theorem ggX1_isNumeral_X1_romanWorth : GoodIn wsX1_isNumeral wsX1_romanWorth := goodIn_r _ [4] (by decide +kernel) (by decide +kernel)
set_option maxRecDepth 20000 in
theorem gX1_isNumeral_X1_romanWorth : GoodIn wsX1_isNumeral (va_wsS RX1 52 yX1_romanWorth wsX1_romanWorth) := goodIn_app (goodIn_of _ (by decide +kernel)) ggX1_isNumeral_X1_romanWorth
theorem dX1_isNumeral_0 : decode cX1_isNumeral 0 = .ok (.iload_n 0, 1) := by decide +kernel
theorem dX1_isNumeral_1 : decode cX1_isNumeral 1 = .ok (.tableswitch 74 1 3 #[27, 40, 58], 27) := by decide +kernel
theorem dX1_isNumeral_28 : decode cX1_isNumeral 28 = .ok (.iload_n 1, 1) := by decide +kernel
theorem dX1_isNumeral_29 : decode cX1_isNumeral 29 = .ok (.invokestatic 52, 3) := by decide +kernel
theorem dX1_isNumeral_32 : decode cX1_isNumeral 32 = .ok (.ifCond .le 7, 3) := by decide +kernel
theorem dX1_isNumeral_35 : decode cX1_isNumeral 35 = .ok (.iconst 1, 1) := by decide +kernel
theorem dX1_isNumeral_36 : decode cX1_isNumeral 36 = .ok (.goto 4, 3) := by decide +kernel
theorem dX1_isNumeral_39 : decode cX1_isNumeral 39 = .ok (.iconst 0, 1) := by decide +kernel
theorem dX1_isNumeral_40 : decode cX1_isNumeral 40 = .ok (.ireturn, 1) := by decide +kernel
theorem dX1_isNumeral_41 : decode cX1_isNumeral 41 = .ok (.iload_n 1, 1) := by decide +kernel
theorem dX1_isNumeral_42 : decode cX1_isNumeral 42 = .ok (.bipush 97, 2) := by decide +kernel
theorem dX1_isNumeral_44 : decode cX1_isNumeral 44 = .ok (.if_icmp .lt 13, 3) := by decide +kernel
theorem dX1_isNumeral_47 : decode cX1_isNumeral 47 = .ok (.iload_n 1, 1) := by decide +kernel
theorem dX1_isNumeral_48 : decode cX1_isNumeral 48 = .ok (.bipush 122, 2) := by decide +kernel
theorem dX1_isNumeral_50 : decode cX1_isNumeral 50 = .ok (.if_icmp .gt 7, 3) := by decide +kernel
theorem dX1_isNumeral_53 : decode cX1_isNumeral 53 = .ok (.iconst 1, 1) := by decide +kernel
theorem dX1_isNumeral_54 : decode cX1_isNumeral 54 = .ok (.goto 4, 3) := by decide +kernel
theorem dX1_isNumeral_57 : decode cX1_isNumeral 57 = .ok (.iconst 0, 1) := by decide +kernel
theorem dX1_isNumeral_58 : decode cX1_isNumeral 58 = .ok (.ireturn, 1) := by decide +kernel
theorem dX1_isNumeral_59 : decode cX1_isNumeral 59 = .ok (.iload_n 1, 1) := by decide +kernel
theorem dX1_isNumeral_60 : decode cX1_isNumeral 60 = .ok (.bipush 32, 2) := by decide +kernel
theorem dX1_isNumeral_62 : decode cX1_isNumeral 62 = .ok (.isub, 1) := by decide +kernel
theorem dX1_isNumeral_63 : decode cX1_isNumeral 63 = .ok (.invokestatic 52, 3) := by decide +kernel
theorem dX1_isNumeral_66 : decode cX1_isNumeral 66 = .ok (.ifCond .le 7, 3) := by decide +kernel
theorem dX1_isNumeral_69 : decode cX1_isNumeral 69 = .ok (.iconst 1, 1) := by decide +kernel
theorem dX1_isNumeral_70 : decode cX1_isNumeral 70 = .ok (.goto 4, 3) := by decide +kernel
theorem dX1_isNumeral_73 : decode cX1_isNumeral 73 = .ok (.iconst 0, 1) := by decide +kernel
theorem dX1_isNumeral_74 : decode cX1_isNumeral 74 = .ok (.ireturn, 1) := by decide +kernel
theorem dX1_isNumeral_75 : decode cX1_isNumeral 75 = .ok (.iload_n 1, 1) := by decide +kernel
theorem dX1_isNumeral_76 : decode cX1_isNumeral 76 = .ok (.bipush 48, 2) := by decide +kernel
theorem dX1_isNumeral_78 : decode cX1_isNumeral 78 = .ok (.if_icmp .lt 13, 3) := by decide +kernel
theorem dX1_isNumeral_81 : decode cX1_isNumeral 81 = .ok (.iload_n 1, 1) := by decide +kernel
theorem dX1_isNumeral_82 : decode cX1_isNumeral 82 = .ok (.bipush 57, 2) := by decide +kernel
theorem dX1_isNumeral_84 : decode cX1_isNumeral 84 = .ok (.if_icmp .gt 7, 3) := by decide +kernel
theorem dX1_isNumeral_87 : decode cX1_isNumeral 87 = .ok (.iconst 1, 1) := by decide +kernel
theorem dX1_isNumeral_88 : decode cX1_isNumeral 88 = .ok (.goto 4, 3) := by decide +kernel
theorem dX1_isNumeral_91 : decode cX1_isNumeral 91 = .ok (.iconst 0, 1) := by decide +kernel
theorem dX1_isNumeral_92 : decode cX1_isNumeral 92 = .ok (.ireturn, 1) := by decide +kernel
theorem dX1_romanWorth_0 : decode cX1_romanWorth 0 = .ok (.iload_n 0, 1) := by decide +kernel
theorem dX1_romanWorth_1 : decode cX1_romanWorth 1 = .ok (.tableswitch 124 67 88 #[113, 116, 124, 124, 124, 124, 103, 124, 124, 110, 120, 124, 124, 124, 124, 124, 124, 124, 124, 105, 124, 107], 103) := by decide +kernel
theorem dX1_romanWorth_104 : decode cX1_romanWorth 104 = .ok (.iconst 1, 1) := by decide +kernel
theorem dX1_romanWorth_105 : decode cX1_romanWorth 105 = .ok (.ireturn, 1) := by decide +kernel
theorem dX1_romanWorth_106 : decode cX1_romanWorth 106 = .ok (.iconst 5, 1) := by decide +kernel
theorem dX1_romanWorth_107 : decode cX1_romanWorth 107 = .ok (.ireturn, 1) := by decide +kernel
theorem dX1_romanWorth_108 : decode cX1_romanWorth 108 = .ok (.bipush 10, 2) := by decide +kernel
theorem dX1_romanWorth_110 : decode cX1_romanWorth 110 = .ok (.ireturn, 1) := by decide +kernel
theorem dX1_romanWorth_111 : decode cX1_romanWorth 111 = .ok (.bipush 50, 2) := by decide +kernel
theorem dX1_romanWorth_113 : decode cX1_romanWorth 113 = .ok (.ireturn, 1) := by decide +kernel
theorem dX1_romanWorth_114 : decode cX1_romanWorth 114 = .ok (.bipush 100, 2) := by decide +kernel
theorem dX1_romanWorth_116 : decode cX1_romanWorth 116 = .ok (.ireturn, 1) := by decide +kernel
theorem dX1_romanWorth_117 : decode cX1_romanWorth 117 = .ok (.sipush 500, 3) := by decide +kernel
theorem dX1_romanWorth_120 : decode cX1_romanWorth 120 = .ok (.ireturn, 1) := by decide +kernel
theorem dX1_romanWorth_121 : decode cX1_romanWorth 121 = .ok (.sipush 1000, 3) := by decide +kernel
theorem dX1_romanWorth_124 : decode cX1_romanWorth 124 = .ok (.ireturn, 1) := by decide +kernel
theorem dX1_romanWorth_125 : decode cX1_romanWorth 125 = .ok (.iconst 0, 1) := by decide +kernel
theorem dX1_romanWorth_126 : decode cX1_romanWorth 126 = .ok (.ireturn, 1) := by decide +kernel
set_option maxRecDepth 20000 in
theorem ggX1_numberIn_X1_romanIn : GoodIn wsX1_numberIn wsX1_romanIn := goodIn_r _ [4, 5, 6, 7, 8, 9, 10, 11, 12, 13, 3, 14, 18, 19] (by decide +kernel) (by decide +kernel)
set_option maxRecDepth 20000 in
theorem gX1_numberIn_X1_romanIn : GoodIn wsX1_numberIn (va_wsS RX1 55 yX1_romanIn wsX1_romanIn) := goodIn_app (goodIn_of _ (by decide +kernel)) ggX1_numberIn_X1_romanIn
set_option maxRecDepth 20000 in
theorem ggX1_numberIn_X1_placesIn : GoodIn wsX1_numberIn wsX1_placesIn := goodIn_r _ [17, 5, 6, 7, 8, 9, 10, 11, 18, 19] (by decide +kernel) (by decide +kernel)
set_option maxRecDepth 20000 in
theorem gX1_numberIn_X1_placesIn : GoodIn wsX1_numberIn (va_wsS RX1 59 yX1_placesIn wsX1_placesIn) := goodIn_app (goodIn_of _ (by decide +kernel)) ggX1_numberIn_X1_placesIn
theorem dX1_numberIn_0 : decode cX1_numberIn 0 = .ok (.iload_n 3, 1) := by decide +kernel
theorem dX1_numberIn_1 : decode cX1_numberIn 1 = .ok (.tableswitch 55 1 3 #[27, 35, 46], 27) := by decide +kernel
theorem dX1_numberIn_28 : decode cX1_numberIn 28 = .ok (.aload_n 0, 1) := by decide +kernel
theorem dX1_numberIn_29 : decode cX1_numberIn 29 = .ok (.iload_n 1, 1) := by decide +kernel
theorem dX1_numberIn_30 : decode cX1_numberIn 30 = .ok (.iload_n 2, 1) := by decide +kernel
theorem dX1_numberIn_31 : decode cX1_numberIn 31 = .ok (.iconst 0, 1) := by decide +kernel
theorem dX1_numberIn_32 : decode cX1_numberIn 32 = .ok (.invokestatic 55, 3) := by decide +kernel
theorem dX1_numberIn_35 : decode cX1_numberIn 35 = .ok (.ireturn, 1) := by decide +kernel
theorem dX1_numberIn_36 : decode cX1_numberIn 36 = .ok (.aload_n 0, 1) := by decide +kernel
theorem dX1_numberIn_37 : decode cX1_numberIn 37 = .ok (.iload_n 1, 1) := by decide +kernel
theorem dX1_numberIn_38 : decode cX1_numberIn 38 = .ok (.iload_n 2, 1) := by decide +kernel
theorem dX1_numberIn_39 : decode cX1_numberIn 39 = .ok (.bipush 26, 2) := by decide +kernel
theorem dX1_numberIn_41 : decode cX1_numberIn 41 = .ok (.bipush 96, 2) := by decide +kernel
theorem dX1_numberIn_43 : decode cX1_numberIn 43 = .ok (.invokestatic 59, 3) := by decide +kernel
theorem dX1_numberIn_46 : decode cX1_numberIn 46 = .ok (.ireturn, 1) := by decide +kernel
theorem dX1_numberIn_47 : decode cX1_numberIn 47 = .ok (.aload_n 0, 1) := by decide +kernel
theorem dX1_numberIn_48 : decode cX1_numberIn 48 = .ok (.iload_n 1, 1) := by decide +kernel
theorem dX1_numberIn_49 : decode cX1_numberIn 49 = .ok (.iload_n 2, 1) := by decide +kernel
theorem dX1_numberIn_50 : decode cX1_numberIn 50 = .ok (.bipush 32, 2) := by decide +kernel
theorem dX1_numberIn_52 : decode cX1_numberIn 52 = .ok (.invokestatic 55, 3) := by decide +kernel
theorem dX1_numberIn_55 : decode cX1_numberIn 55 = .ok (.ireturn, 1) := by decide +kernel
theorem dX1_numberIn_56 : decode cX1_numberIn 56 = .ok (.aload_n 0, 1) := by decide +kernel
theorem dX1_numberIn_57 : decode cX1_numberIn 57 = .ok (.iload_n 1, 1) := by decide +kernel
theorem dX1_numberIn_58 : decode cX1_numberIn 58 = .ok (.iload_n 2, 1) := by decide +kernel
theorem dX1_numberIn_59 : decode cX1_numberIn 59 = .ok (.bipush 10, 2) := by decide +kernel
theorem dX1_numberIn_61 : decode cX1_numberIn 61 = .ok (.bipush 48, 2) := by decide +kernel
theorem dX1_numberIn_63 : decode cX1_numberIn 63 = .ok (.invokestatic 59, 3) := by decide +kernel
theorem dX1_numberIn_66 : decode cX1_numberIn 66 = .ok (.ireturn, 1) := by decide +kernel
set_option maxRecDepth 20000 in
theorem ggX1_placesIn_X8_byteAt : GoodIn wsX1_placesIn wsX8_byteAt := goodIn_r _ [5, 6, 7, 8, 9] (by decide +kernel) (by decide +kernel)
set_option maxRecDepth 20000 in
theorem gX1_placesIn_X8_byteAt : GoodIn wsX1_placesIn (wsV RX1 63 RX8 yX8_byteAt wsX8_byteAt) := goodIn_app (goodIn_of _ (by decide +kernel)) ggX1_placesIn_X8_byteAt
theorem dX1_placesIn_0 : decode cX1_placesIn 0 = .ok (.iconst 0, 1) := by decide +kernel
theorem dX1_placesIn_1 : decode cX1_placesIn 1 = .ok (.istore 5, 2) := by decide +kernel
theorem dX1_placesIn_3 : decode cX1_placesIn 3 = .ok (.iload_n 1, 1) := by decide +kernel
theorem dX1_placesIn_4 : decode cX1_placesIn 4 = .ok (.istore 6, 2) := by decide +kernel
theorem dX1_placesIn_6 : decode cX1_placesIn 6 = .ok (.iload 6, 2) := by decide +kernel
theorem dX1_placesIn_8 : decode cX1_placesIn 8 = .ok (.iload_n 2, 1) := by decide +kernel
theorem dX1_placesIn_9 : decode cX1_placesIn 9 = .ok (.if_icmp .ge 33, 3) := by decide +kernel
theorem dX1_placesIn_12 : decode cX1_placesIn 12 = .ok (.iload 5, 2) := by decide +kernel
theorem dX1_placesIn_14 : decode cX1_placesIn 14 = .ok (.sipush 999, 3) := by decide +kernel
theorem dX1_placesIn_17 : decode cX1_placesIn 17 = .ok (.if_icmp .gt 25, 3) := by decide +kernel
theorem dX1_placesIn_20 : decode cX1_placesIn 20 = .ok (.iload 5, 2) := by decide +kernel
theorem dX1_placesIn_22 : decode cX1_placesIn 22 = .ok (.iload_n 3, 1) := by decide +kernel
theorem dX1_placesIn_23 : decode cX1_placesIn 23 = .ok (.imul, 1) := by decide +kernel
theorem dX1_placesIn_24 : decode cX1_placesIn 24 = .ok (.aload_n 0, 1) := by decide +kernel
theorem dX1_placesIn_25 : decode cX1_placesIn 25 = .ok (.iload 6, 2) := by decide +kernel
theorem dX1_placesIn_27 : decode cX1_placesIn 27 = .ok (.invokevirtual 63, 3) := by decide +kernel
theorem dX1_placesIn_30 : decode cX1_placesIn 30 = .ok (.iadd, 1) := by decide +kernel
theorem dX1_placesIn_31 : decode cX1_placesIn 31 = .ok (.iload 4, 2) := by decide +kernel
theorem dX1_placesIn_33 : decode cX1_placesIn 33 = .ok (.isub, 1) := by decide +kernel
theorem dX1_placesIn_34 : decode cX1_placesIn 34 = .ok (.istore 5, 2) := by decide +kernel
theorem dX1_placesIn_36 : decode cX1_placesIn 36 = .ok (.iinc 6 1, 3) := by decide +kernel
theorem dX1_placesIn_39 : decode cX1_placesIn 39 = .ok (.goto (-33), 3) := by decide +kernel
theorem dX1_placesIn_42 : decode cX1_placesIn 42 = .ok (.iload 5, 2) := by decide +kernel
theorem dX1_placesIn_44 : decode cX1_placesIn 44 = .ok (.ireturn, 1) := by decide +kernel
set_option maxRecDepth 20000 in
theorem ggX1_romanIn_X8_byteAt : GoodIn wsX1_romanIn wsX8_byteAt := goodIn_r _ [5, 6, 7, 12, 13] (by decide +kernel) (by decide +kernel)
set_option maxRecDepth 20000 in
theorem gX1_romanIn_X8_byteAt : GoodIn wsX1_romanIn (wsV RX1 63 RX8 yX8_byteAt wsX8_byteAt) := goodIn_app (goodIn_of _ (by decide +kernel)) ggX1_romanIn_X8_byteAt
set_option maxRecDepth 20000 in
theorem ggX1_romanIn_X1_romanWorth : GoodIn wsX1_romanIn wsX1_romanWorth := goodIn_r _ [11] (by decide +kernel) (by decide +kernel)
set_option maxRecDepth 20000 in
theorem gX1_romanIn_X1_romanWorth : GoodIn wsX1_romanIn (va_wsS RX1 52 yX1_romanWorth wsX1_romanWorth) := goodIn_app (goodIn_of _ (by decide +kernel)) ggX1_romanIn_X1_romanWorth
theorem dX1_romanIn_0 : decode cX1_romanIn 0 = .ok (.iconst 0, 1) := by decide +kernel
theorem dX1_romanIn_1 : decode cX1_romanIn 1 = .ok (.istore 4, 2) := by decide +kernel
theorem dX1_romanIn_3 : decode cX1_romanIn 3 = .ok (.iload_n 1, 1) := by decide +kernel
theorem dX1_romanIn_4 : decode cX1_romanIn 4 = .ok (.istore 5, 2) := by decide +kernel
theorem dX1_romanIn_6 : decode cX1_romanIn 6 = .ok (.iload 5, 2) := by decide +kernel
theorem dX1_romanIn_8 : decode cX1_romanIn 8 = .ok (.iload_n 2, 1) := by decide +kernel
theorem dX1_romanIn_9 : decode cX1_romanIn 9 = .ok (.if_icmp .ge 69, 3) := by decide +kernel
theorem dX1_romanIn_12 : decode cX1_romanIn 12 = .ok (.aload_n 0, 1) := by decide +kernel
theorem dX1_romanIn_13 : decode cX1_romanIn 13 = .ok (.iload 5, 2) := by decide +kernel
theorem dX1_romanIn_15 : decode cX1_romanIn 15 = .ok (.invokevirtual 63, 3) := by decide +kernel
theorem dX1_romanIn_18 : decode cX1_romanIn 18 = .ok (.iload_n 3, 1) := by decide +kernel
theorem dX1_romanIn_19 : decode cX1_romanIn 19 = .ok (.isub, 1) := by decide +kernel
theorem dX1_romanIn_20 : decode cX1_romanIn 20 = .ok (.invokestatic 52, 3) := by decide +kernel
theorem dX1_romanIn_23 : decode cX1_romanIn 23 = .ok (.istore 6, 2) := by decide +kernel
theorem dX1_romanIn_25 : decode cX1_romanIn 25 = .ok (.iload 5, 2) := by decide +kernel
theorem dX1_romanIn_27 : decode cX1_romanIn 27 = .ok (.iconst 1, 1) := by decide +kernel
theorem dX1_romanIn_28 : decode cX1_romanIn 28 = .ok (.iadd, 1) := by decide +kernel
theorem dX1_romanIn_29 : decode cX1_romanIn 29 = .ok (.iload_n 2, 1) := by decide +kernel
theorem dX1_romanIn_30 : decode cX1_romanIn 30 = .ok (.if_icmp .ge 19, 3) := by decide +kernel
theorem dX1_romanIn_33 : decode cX1_romanIn 33 = .ok (.aload_n 0, 1) := by decide +kernel
theorem dX1_romanIn_34 : decode cX1_romanIn 34 = .ok (.iload 5, 2) := by decide +kernel
theorem dX1_romanIn_36 : decode cX1_romanIn 36 = .ok (.iconst 1, 1) := by decide +kernel
theorem dX1_romanIn_37 : decode cX1_romanIn 37 = .ok (.iadd, 1) := by decide +kernel
theorem dX1_romanIn_38 : decode cX1_romanIn 38 = .ok (.invokevirtual 63, 3) := by decide +kernel
theorem dX1_romanIn_41 : decode cX1_romanIn 41 = .ok (.iload_n 3, 1) := by decide +kernel
theorem dX1_romanIn_42 : decode cX1_romanIn 42 = .ok (.isub, 1) := by decide +kernel
theorem dX1_romanIn_43 : decode cX1_romanIn 43 = .ok (.invokestatic 52, 3) := by decide +kernel
theorem dX1_romanIn_46 : decode cX1_romanIn 46 = .ok (.goto 4, 3) := by decide +kernel
theorem dX1_romanIn_49 : decode cX1_romanIn 49 = .ok (.iconst 0, 1) := by decide +kernel
theorem dX1_romanIn_50 : decode cX1_romanIn 50 = .ok (.istore 7, 2) := by decide +kernel
theorem dX1_romanIn_52 : decode cX1_romanIn 52 = .ok (.iload 4, 2) := by decide +kernel
theorem dX1_romanIn_54 : decode cX1_romanIn 54 = .ok (.iload 6, 2) := by decide +kernel
theorem dX1_romanIn_56 : decode cX1_romanIn 56 = .ok (.iload 7, 2) := by decide +kernel
theorem dX1_romanIn_58 : decode cX1_romanIn 58 = .ok (.if_icmp .ge 9, 3) := by decide +kernel
theorem dX1_romanIn_61 : decode cX1_romanIn 61 = .ok (.iload 6, 2) := by decide +kernel
theorem dX1_romanIn_63 : decode cX1_romanIn 63 = .ok (.ineg, 1) := by decide +kernel
theorem dX1_romanIn_64 : decode cX1_romanIn 64 = .ok (.goto 5, 3) := by decide +kernel
theorem dX1_romanIn_67 : decode cX1_romanIn 67 = .ok (.iload 6, 2) := by decide +kernel
theorem dX1_romanIn_69 : decode cX1_romanIn 69 = .ok (.iadd, 1) := by decide +kernel
theorem dX1_romanIn_70 : decode cX1_romanIn 70 = .ok (.istore 4, 2) := by decide +kernel
theorem dX1_romanIn_72 : decode cX1_romanIn 72 = .ok (.iinc 5 1, 3) := by decide +kernel
theorem dX1_romanIn_75 : decode cX1_romanIn 75 = .ok (.goto (-69), 3) := by decide +kernel
theorem dX1_romanIn_78 : decode cX1_romanIn 78 = .ok (.iload 4, 2) := by decide +kernel
theorem dX1_romanIn_80 : decode cX1_romanIn 80 = .ok (.ireturn, 1) := by decide +kernel
set_option maxRecDepth 20000 in
theorem ggX2_init_J7_fill_53178 : GoodIn wsX2_init wsJ7_fill_53178 := goodIn_r _ [13] (by decide +kernel) (by decide +kernel)
set_option maxRecDepth 20000 in
theorem gX2_init_J7_fill_53178 : GoodIn wsX2_init (va_wsS RX2 27 yJ7_fill_53178 wsJ7_fill_53178) := goodIn_app (goodIn_of _ (by decide +kernel)) ggX2_init_J7_fill_53178
theorem dX2_init_0 : decode cX2_init 0 = .ok (.aload_n 0, 1) := by decide +kernel
theorem dX2_init_1 : decode cX2_init 1 = .ok (.invokespecial 3, 3) := by decide +kernel
theorem dX2_init_4 : decode cX2_init 4 = .ok (.aload_n 0, 1) := by decide +kernel
theorem dX2_init_5 : decode cX2_init 5 = .ok (.sipush 256, 3) := by decide +kernel
theorem dX2_init_8 : decode cX2_init 8 = .ok (.newarray .int, 2) := by decide +kernel
theorem dX2_init_10 : decode cX2_init 10 = .ok (.putfield 11, 3) := by decide +kernel
theorem dX2_init_13 : decode cX2_init 13 = .ok (.aload_n 0, 1) := by decide +kernel
theorem dX2_init_14 : decode cX2_init 14 = .ok (.sipush 256, 3) := by decide +kernel
theorem dX2_init_17 : decode cX2_init 17 = .ok (.newarray .int, 2) := by decide +kernel
theorem dX2_init_19 : decode cX2_init 19 = .ok (.putfield 15, 3) := by decide +kernel
theorem dX2_init_22 : decode cX2_init 22 = .ok (.aload_n 0, 1) := by decide +kernel
theorem dX2_init_23 : decode cX2_init 23 = .ok (.sipush 256, 3) := by decide +kernel
theorem dX2_init_26 : decode cX2_init 26 = .ok (.newarray .int, 2) := by decide +kernel
theorem dX2_init_28 : decode cX2_init 28 = .ok (.putfield 18, 3) := by decide +kernel
theorem dX2_init_31 : decode cX2_init 31 = .ok (.aload_n 0, 1) := by decide +kernel
theorem dX2_init_32 : decode cX2_init 32 = .ok (.sipush 256, 3) := by decide +kernel
theorem dX2_init_35 : decode cX2_init 35 = .ok (.newarray .int, 2) := by decide +kernel
theorem dX2_init_37 : decode cX2_init 37 = .ok (.putfield 21, 3) := by decide +kernel
theorem dX2_init_40 : decode cX2_init 40 = .ok (.aload_n 0, 1) := by decide +kernel
theorem dX2_init_41 : decode cX2_init 41 = .ok (.bipush 80, 2) := by decide +kernel
theorem dX2_init_43 : decode cX2_init 43 = .ok (.newarray .int, 2) := by decide +kernel
theorem dX2_init_45 : decode cX2_init 45 = .ok (.putfield 24, 3) := by decide +kernel
theorem dX2_init_48 : decode cX2_init 48 = .ok (.aload_n 0, 1) := by decide +kernel
theorem dX2_init_49 : decode cX2_init 49 = .ok (.getfield 24, 3) := by decide +kernel
theorem dX2_init_52 : decode cX2_init 52 = .ok (.iconst (-1), 1) := by decide +kernel
theorem dX2_init_53 : decode cX2_init 53 = .ok (.invokestatic 27, 3) := by decide +kernel
theorem dX2_init_56 : decode cX2_init 56 = .ok (.return_, 1) := by decide +kernel
set_option maxRecDepth 20000 in
theorem ggX2_clear_J7_fill_53178 : GoodIn wsX2_clear wsJ7_fill_53178 := goodIn_r _ [6] (by decide +kernel) (by decide +kernel)
set_option maxRecDepth 20000 in
theorem gX2_clear_J7_fill_53178 : GoodIn wsX2_clear (va_wsS RX2 27 yJ7_fill_53178 wsJ7_fill_53178) := goodIn_app (goodIn_of _ (by decide +kernel)) ggX2_clear_J7_fill_53178
theorem dX2_clear_0 : decode cX2_clear 0 = .ok (.aload_n 0, 1) := by decide +kernel
theorem dX2_clear_1 : decode cX2_clear 1 = .ok (.getfield 24, 3) := by decide +kernel
theorem dX2_clear_4 : decode cX2_clear 4 = .ok (.iconst (-1), 1) := by decide +kernel
theorem dX2_clear_5 : decode cX2_clear 5 = .ok (.invokestatic 27, 3) := by decide +kernel
theorem dX2_clear_8 : decode cX2_clear 8 = .ok (.aload_n 0, 1) := by decide +kernel
theorem dX2_clear_9 : decode cX2_clear 9 = .ok (.iconst 0, 1) := by decide +kernel
theorem dX2_clear_10 : decode cX2_clear 10 = .ok (.putfield 33, 3) := by decide +kernel
theorem dX2_clear_13 : decode cX2_clear 13 = .ok (.return_, 1) := by decide +kernel
theorem dX2_latest_0 : decode cX2_latest 0 = .ok (.iload_n 1, 1) := by decide +kernel
theorem dX2_latest_1 : decode cX2_latest 1 = .ok (.ifCond .lt 32, 3) := by decide +kernel
theorem dX2_latest_4 : decode cX2_latest 4 = .ok (.iload_n 1, 1) := by decide +kernel
theorem dX2_latest_5 : decode cX2_latest 5 = .ok (.bipush 80, 2) := by decide +kernel
theorem dX2_latest_7 : decode cX2_latest 7 = .ok (.if_icmp .ge 26, 3) := by decide +kernel
theorem dX2_latest_10 : decode cX2_latest 10 = .ok (.aload_n 0, 1) := by decide +kernel
theorem dX2_latest_11 : decode cX2_latest 11 = .ok (.getfield 24, 3) := by decide +kernel
theorem dX2_latest_14 : decode cX2_latest 14 = .ok (.iload_n 1, 1) := by decide +kernel
theorem dX2_latest_15 : decode cX2_latest 15 = .ok (.iaload, 1) := by decide +kernel
theorem dX2_latest_16 : decode cX2_latest 16 = .ok (.ifCond .lt 17, 3) := by decide +kernel
theorem dX2_latest_19 : decode cX2_latest 19 = .ok (.aload_n 0, 1) := by decide +kernel
theorem dX2_latest_20 : decode cX2_latest 20 = .ok (.getfield 18, 3) := by decide +kernel
theorem dX2_latest_23 : decode cX2_latest 23 = .ok (.aload_n 0, 1) := by decide +kernel
theorem dX2_latest_24 : decode cX2_latest 24 = .ok (.getfield 24, 3) := by decide +kernel
theorem dX2_latest_27 : decode cX2_latest 27 = .ok (.iload_n 1, 1) := by decide +kernel
theorem dX2_latest_28 : decode cX2_latest 28 = .ok (.iaload, 1) := by decide +kernel
theorem dX2_latest_29 : decode cX2_latest 29 = .ok (.iaload, 1) := by decide +kernel
theorem dX2_latest_30 : decode cX2_latest 30 = .ok (.goto 4, 3) := by decide +kernel
theorem dX2_latest_33 : decode cX2_latest 33 = .ok (.iconst 0, 1) := by decide +kernel
theorem dX2_latest_34 : decode cX2_latest 34 = .ok (.ireturn, 1) := by decide +kernel
theorem dX2_asOf_0 : decode cX2_asOf 0 = .ok (.iload_n 1, 1) := by decide +kernel
theorem dX2_asOf_1 : decode cX2_asOf 1 = .ok (.ifCond .lt 18, 3) := by decide +kernel
theorem dX2_asOf_4 : decode cX2_asOf 4 = .ok (.iload_n 1, 1) := by decide +kernel
theorem dX2_asOf_5 : decode cX2_asOf 5 = .ok (.bipush 80, 2) := by decide +kernel
theorem dX2_asOf_7 : decode cX2_asOf 7 = .ok (.if_icmp .ge 12, 3) := by decide +kernel
theorem dX2_asOf_10 : decode cX2_asOf 10 = .ok (.aload_n 0, 1) := by decide +kernel
theorem dX2_asOf_11 : decode cX2_asOf 11 = .ok (.getfield 24, 3) := by decide +kernel
theorem dX2_asOf_14 : decode cX2_asOf 14 = .ok (.iload_n 1, 1) := by decide +kernel
theorem dX2_asOf_15 : decode cX2_asOf 15 = .ok (.iaload, 1) := by decide +kernel
theorem dX2_asOf_16 : decode cX2_asOf 16 = .ok (.goto 4, 3) := by decide +kernel
theorem dX2_asOf_19 : decode cX2_asOf 19 = .ok (.iconst (-1), 1) := by decide +kernel
theorem dX2_asOf_20 : decode cX2_asOf 20 = .ok (.istore_n 3, 1) := by decide +kernel
theorem dX2_asOf_21 : decode cX2_asOf 21 = .ok (.iload_n 3, 1) := by decide +kernel
theorem dX2_asOf_22 : decode cX2_asOf 22 = .ok (.ifCond .lt 37, 3) := by decide +kernel
theorem dX2_asOf_25 : decode cX2_asOf 25 = .ok (.aload_n 0, 1) := by decide +kernel
theorem dX2_asOf_26 : decode cX2_asOf 26 = .ok (.getfield 15, 3) := by decide +kernel
theorem dX2_asOf_29 : decode cX2_asOf 29 = .ok (.iload_n 3, 1) := by decide +kernel
theorem dX2_asOf_30 : decode cX2_asOf 30 = .ok (.iaload, 1) := by decide +kernel
theorem dX2_asOf_31 : decode cX2_asOf 31 = .ok (.iload_n 2, 1) := by decide +kernel
theorem dX2_asOf_32 : decode cX2_asOf 32 = .ok (.if_icmp .le 27, 3) := by decide +kernel
theorem dX2_asOf_35 : decode cX2_asOf 35 = .ok (.aload_n 0, 1) := by decide +kernel
theorem dX2_asOf_36 : decode cX2_asOf 36 = .ok (.getfield 21, 3) := by decide +kernel
theorem dX2_asOf_39 : decode cX2_asOf 39 = .ok (.iload_n 3, 1) := by decide +kernel
theorem dX2_asOf_40 : decode cX2_asOf 40 = .ok (.iaload, 1) := by decide +kernel
theorem dX2_asOf_41 : decode cX2_asOf 41 = .ok (.iload_n 3, 1) := by decide +kernel
theorem dX2_asOf_42 : decode cX2_asOf 42 = .ok (.if_icmp .ge 12, 3) := by decide +kernel
theorem dX2_asOf_45 : decode cX2_asOf 45 = .ok (.aload_n 0, 1) := by decide +kernel
theorem dX2_asOf_46 : decode cX2_asOf 46 = .ok (.getfield 21, 3) := by decide +kernel
theorem dX2_asOf_49 : decode cX2_asOf 49 = .ok (.iload_n 3, 1) := by decide +kernel
theorem dX2_asOf_50 : decode cX2_asOf 50 = .ok (.iaload, 1) := by decide +kernel
theorem dX2_asOf_51 : decode cX2_asOf 51 = .ok (.goto 4, 3) := by decide +kernel
theorem dX2_asOf_54 : decode cX2_asOf 54 = .ok (.iconst (-1), 1) := by decide +kernel
theorem dX2_asOf_55 : decode cX2_asOf 55 = .ok (.istore_n 3, 1) := by decide +kernel
theorem dX2_asOf_56 : decode cX2_asOf 56 = .ok (.goto (-35), 3) := by decide +kernel
theorem dX2_asOf_59 : decode cX2_asOf 59 = .ok (.iload_n 3, 1) := by decide +kernel
theorem dX2_asOf_60 : decode cX2_asOf 60 = .ok (.ifCond .lt 12, 3) := by decide +kernel
theorem dX2_asOf_63 : decode cX2_asOf 63 = .ok (.aload_n 0, 1) := by decide +kernel
theorem dX2_asOf_64 : decode cX2_asOf 64 = .ok (.getfield 18, 3) := by decide +kernel
theorem dX2_asOf_67 : decode cX2_asOf 67 = .ok (.iload_n 3, 1) := by decide +kernel
theorem dX2_asOf_68 : decode cX2_asOf 68 = .ok (.iaload, 1) := by decide +kernel
theorem dX2_asOf_69 : decode cX2_asOf 69 = .ok (.goto 4, 3) := by decide +kernel
theorem dX2_asOf_72 : decode cX2_asOf 72 = .ok (.iconst 0, 1) := by decide +kernel
theorem dX2_asOf_73 : decode cX2_asOf 73 = .ok (.ireturn, 1) := by decide +kernel
set_option maxRecDepth 20000 in
theorem ggX2_give_X2_latest : GoodIn wsX2_give wsX2_latest := goodIn_r _ [11, 6, 4, 37, 38, 39, 40, 41, 42] (by decide +kernel) (by decide +kernel)
set_option maxRecDepth 20000 in
theorem gX2_give_X2_latest : GoodIn wsX2_give (wsV RX2 39 RX2 yX2_latest wsX2_latest) := goodIn_app (goodIn_of _ (by decide +kernel)) ggX2_give_X2_latest
set_option maxRecDepth 20000 in
theorem ggX2_give_X2_hasRoom : GoodIn wsX2_give wsX2_hasRoom := goodIn_r _ [15, 2, 3, 16, 17, 18, 19, 20, 1, 4, 5, 21, 22, 23, 24, 25, 26, 27, 28, 29, 30, 31, 32, 33, 34, 35, 36, 37, 38, 39, 40, 41, 42] (by decide +kernel) (by decide +kernel)
set_option maxRecDepth 20000 in
theorem gX2_give_X2_hasRoom : GoodIn wsX2_give (wsV RX2 43 RX2 yX2_hasRoom wsX2_hasRoom) := goodIn_app (goodIn_of _ (by decide +kernel)) ggX2_give_X2_hasRoom
theorem dX2_give_0 : decode cX2_give 0 = .ok (.iload_n 1, 1) := by decide +kernel
theorem dX2_give_1 : decode cX2_give 1 = .ok (.ifCond .lt 25, 3) := by decide +kernel
theorem dX2_give_4 : decode cX2_give 4 = .ok (.iload_n 1, 1) := by decide +kernel
theorem dX2_give_5 : decode cX2_give 5 = .ok (.bipush 80, 2) := by decide +kernel
theorem dX2_give_7 : decode cX2_give 7 = .ok (.if_icmp .ge 19, 3) := by decide +kernel
theorem dX2_give_10 : decode cX2_give 10 = .ok (.aload_n 0, 1) := by decide +kernel
theorem dX2_give_11 : decode cX2_give 11 = .ok (.iload_n 1, 1) := by decide +kernel
theorem dX2_give_12 : decode cX2_give 12 = .ok (.invokevirtual 39, 3) := by decide +kernel
theorem dX2_give_15 : decode cX2_give 15 = .ok (.iload_n 3, 1) := by decide +kernel
theorem dX2_give_16 : decode cX2_give 16 = .ok (.if_icmp .eq 10, 3) := by decide +kernel
theorem dX2_give_19 : decode cX2_give 19 = .ok (.aload_n 0, 1) := by decide +kernel
theorem dX2_give_20 : decode cX2_give 20 = .ok (.invokevirtual 43, 3) := by decide +kernel
theorem dX2_give_23 : decode cX2_give 23 = .ok (.ifCond .ne 4, 3) := by decide +kernel
theorem dX2_give_26 : decode cX2_give 26 = .ok (.return_, 1) := by decide +kernel
theorem dX2_give_27 : decode cX2_give 27 = .ok (.aload_n 0, 1) := by decide +kernel
theorem dX2_give_28 : decode cX2_give 28 = .ok (.getfield 11, 3) := by decide +kernel
theorem dX2_give_31 : decode cX2_give 31 = .ok (.aload_n 0, 1) := by decide +kernel
theorem dX2_give_32 : decode cX2_give 32 = .ok (.getfield 33, 3) := by decide +kernel
theorem dX2_give_35 : decode cX2_give 35 = .ok (.iload_n 1, 1) := by decide +kernel
theorem dX2_give_36 : decode cX2_give 36 = .ok (.iastore, 1) := by decide +kernel
theorem dX2_give_37 : decode cX2_give 37 = .ok (.aload_n 0, 1) := by decide +kernel
theorem dX2_give_38 : decode cX2_give 38 = .ok (.getfield 15, 3) := by decide +kernel
theorem dX2_give_41 : decode cX2_give 41 = .ok (.aload_n 0, 1) := by decide +kernel
theorem dX2_give_42 : decode cX2_give 42 = .ok (.getfield 33, 3) := by decide +kernel
theorem dX2_give_45 : decode cX2_give 45 = .ok (.iload_n 2, 1) := by decide +kernel
theorem dX2_give_46 : decode cX2_give 46 = .ok (.iastore, 1) := by decide +kernel
theorem dX2_give_47 : decode cX2_give 47 = .ok (.aload_n 0, 1) := by decide +kernel
theorem dX2_give_48 : decode cX2_give 48 = .ok (.getfield 18, 3) := by decide +kernel
theorem dX2_give_51 : decode cX2_give 51 = .ok (.aload_n 0, 1) := by decide +kernel
theorem dX2_give_52 : decode cX2_give 52 = .ok (.getfield 33, 3) := by decide +kernel
theorem dX2_give_55 : decode cX2_give 55 = .ok (.iload_n 3, 1) := by decide +kernel
theorem dX2_give_56 : decode cX2_give 56 = .ok (.iastore, 1) := by decide +kernel
theorem dX2_give_57 : decode cX2_give 57 = .ok (.aload_n 0, 1) := by decide +kernel
theorem dX2_give_58 : decode cX2_give 58 = .ok (.getfield 21, 3) := by decide +kernel
theorem dX2_give_61 : decode cX2_give 61 = .ok (.aload_n 0, 1) := by decide +kernel
theorem dX2_give_62 : decode cX2_give 62 = .ok (.getfield 33, 3) := by decide +kernel
theorem dX2_give_65 : decode cX2_give 65 = .ok (.aload_n 0, 1) := by decide +kernel
theorem dX2_give_66 : decode cX2_give 66 = .ok (.getfield 24, 3) := by decide +kernel
theorem dX2_give_69 : decode cX2_give 69 = .ok (.iload_n 1, 1) := by decide +kernel
theorem dX2_give_70 : decode cX2_give 70 = .ok (.iaload, 1) := by decide +kernel
theorem dX2_give_71 : decode cX2_give 71 = .ok (.iastore, 1) := by decide +kernel
theorem dX2_give_72 : decode cX2_give 72 = .ok (.aload_n 0, 1) := by decide +kernel
theorem dX2_give_73 : decode cX2_give 73 = .ok (.getfield 24, 3) := by decide +kernel
theorem dX2_give_76 : decode cX2_give 76 = .ok (.iload_n 1, 1) := by decide +kernel
theorem dX2_give_77 : decode cX2_give 77 = .ok (.aload_n 0, 1) := by decide +kernel
theorem dX2_give_78 : decode cX2_give 78 = .ok (.getfield 33, 3) := by decide +kernel
theorem dX2_give_81 : decode cX2_give 81 = .ok (.iastore, 1) := by decide +kernel
theorem dX2_give_82 : decode cX2_give 82 = .ok (.aload_n 0, 1) := by decide +kernel
theorem dX2_give_83 : decode cX2_give 83 = .ok (.dup, 1) := by decide +kernel
theorem dX2_give_84 : decode cX2_give 84 = .ok (.getfield 33, 3) := by decide +kernel
theorem dX2_give_87 : decode cX2_give 87 = .ok (.iconst 1, 1) := by decide +kernel
theorem dX2_give_88 : decode cX2_give 88 = .ok (.iadd, 1) := by decide +kernel
theorem dX2_give_89 : decode cX2_give 89 = .ok (.putfield 33, 3) := by decide +kernel
theorem dX2_give_92 : decode cX2_give 92 = .ok (.return_, 1) := by decide +kernel
theorem dX2_cutTo_0 : decode cX2_cutTo 0 = .ok (.aload_n 0, 1) := by decide +kernel
theorem dX2_cutTo_1 : decode cX2_cutTo 1 = .ok (.getfield 33, 3) := by decide +kernel
theorem dX2_cutTo_4 : decode cX2_cutTo 4 = .ok (.iload_n 1, 1) := by decide +kernel
theorem dX2_cutTo_5 : decode cX2_cutTo 5 = .ok (.if_icmp .le 46, 3) := by decide +kernel
theorem dX2_cutTo_8 : decode cX2_cutTo 8 = .ok (.aload_n 0, 1) := by decide +kernel
theorem dX2_cutTo_9 : decode cX2_cutTo 9 = .ok (.getfield 33, 3) := by decide +kernel
theorem dX2_cutTo_12 : decode cX2_cutTo 12 = .ok (.ifCond .le 39, 3) := by decide +kernel
theorem dX2_cutTo_15 : decode cX2_cutTo 15 = .ok (.aload_n 0, 1) := by decide +kernel
theorem dX2_cutTo_16 : decode cX2_cutTo 16 = .ok (.dup, 1) := by decide +kernel
theorem dX2_cutTo_17 : decode cX2_cutTo 17 = .ok (.getfield 33, 3) := by decide +kernel
theorem dX2_cutTo_20 : decode cX2_cutTo 20 = .ok (.iconst 1, 1) := by decide +kernel
theorem dX2_cutTo_21 : decode cX2_cutTo 21 = .ok (.isub, 1) := by decide +kernel
theorem dX2_cutTo_22 : decode cX2_cutTo 22 = .ok (.putfield 33, 3) := by decide +kernel
theorem dX2_cutTo_25 : decode cX2_cutTo 25 = .ok (.aload_n 0, 1) := by decide +kernel
theorem dX2_cutTo_26 : decode cX2_cutTo 26 = .ok (.getfield 24, 3) := by decide +kernel
theorem dX2_cutTo_29 : decode cX2_cutTo 29 = .ok (.aload_n 0, 1) := by decide +kernel
theorem dX2_cutTo_30 : decode cX2_cutTo 30 = .ok (.getfield 11, 3) := by decide +kernel
theorem dX2_cutTo_33 : decode cX2_cutTo 33 = .ok (.aload_n 0, 1) := by decide +kernel
theorem dX2_cutTo_34 : decode cX2_cutTo 34 = .ok (.getfield 33, 3) := by decide +kernel
theorem dX2_cutTo_37 : decode cX2_cutTo 37 = .ok (.iaload, 1) := by decide +kernel
theorem dX2_cutTo_38 : decode cX2_cutTo 38 = .ok (.aload_n 0, 1) := by decide +kernel
theorem dX2_cutTo_39 : decode cX2_cutTo 39 = .ok (.getfield 21, 3) := by decide +kernel
theorem dX2_cutTo_42 : decode cX2_cutTo 42 = .ok (.aload_n 0, 1) := by decide +kernel
theorem dX2_cutTo_43 : decode cX2_cutTo 43 = .ok (.getfield 33, 3) := by decide +kernel
theorem dX2_cutTo_46 : decode cX2_cutTo 46 = .ok (.iaload, 1) := by decide +kernel
theorem dX2_cutTo_47 : decode cX2_cutTo 47 = .ok (.iastore, 1) := by decide +kernel
theorem dX2_cutTo_48 : decode cX2_cutTo 48 = .ok (.goto (-48), 3) := by decide +kernel
theorem dX2_cutTo_51 : decode cX2_cutTo 51 = .ok (.return_, 1) := by decide +kernel
set_option maxRecDepth 20000 in
theorem ggX2_hasRoom_J7_copyOf_59c91 : GoodIn wsX2_hasRoom wsJ7_copyOf_59c91 := goodIn_r _ [14, 15, 16, 17, 18, 19, 20, 21, 22, 5, 6, 7, 23, 24, 25, 26] (by decide +kernel) (by decide +kernel)
set_option maxRecDepth 20000 in
theorem gX2_hasRoom_J7_copyOf_59c91 : GoodIn wsX2_hasRoom (va_wsS RX2 54 yJ7_copyOf_59c91 wsJ7_copyOf_59c91) := goodIn_app (goodIn_of _ (by decide +kernel)) ggX2_hasRoom_J7_copyOf_59c91
theorem dX2_hasRoom_0 : decode cX2_hasRoom 0 = .ok (.aload_n 0, 1) := by decide +kernel
theorem dX2_hasRoom_1 : decode cX2_hasRoom 1 = .ok (.getfield 33, 3) := by decide +kernel
theorem dX2_hasRoom_4 : decode cX2_hasRoom 4 = .ok (.aload_n 0, 1) := by decide +kernel
theorem dX2_hasRoom_5 : decode cX2_hasRoom 5 = .ok (.getfield 15, 3) := by decide +kernel
theorem dX2_hasRoom_8 : decode cX2_hasRoom 8 = .ok (.arraylength, 1) := by decide +kernel
theorem dX2_hasRoom_9 : decode cX2_hasRoom 9 = .ok (.if_icmp .ge 5, 3) := by decide +kernel
theorem dX2_hasRoom_12 : decode cX2_hasRoom 12 = .ok (.iconst 1, 1) := by decide +kernel
theorem dX2_hasRoom_13 : decode cX2_hasRoom 13 = .ok (.ireturn, 1) := by decide +kernel
theorem dX2_hasRoom_14 : decode cX2_hasRoom 14 = .ok (.aload_n 0, 1) := by decide +kernel
theorem dX2_hasRoom_15 : decode cX2_hasRoom 15 = .ok (.getfield 33, 3) := by decide +kernel
theorem dX2_hasRoom_18 : decode cX2_hasRoom 18 = .ok (.ldc 47, 2) := by decide +kernel
theorem dX2_hasRoom_20 : decode cX2_hasRoom 20 = .ok (.if_icmp .lt 5, 3) := by decide +kernel
theorem dX2_hasRoom_23 : decode cX2_hasRoom 23 = .ok (.iconst 0, 1) := by decide +kernel
theorem dX2_hasRoom_24 : decode cX2_hasRoom 24 = .ok (.ireturn, 1) := by decide +kernel
theorem dX2_hasRoom_25 : decode cX2_hasRoom 25 = .ok (.aload_n 0, 1) := by decide +kernel
theorem dX2_hasRoom_26 : decode cX2_hasRoom 26 = .ok (.getfield 33, 3) := by decide +kernel
theorem dX2_hasRoom_29 : decode cX2_hasRoom 29 = .ok (.iconst 2, 1) := by decide +kernel
theorem dX2_hasRoom_30 : decode cX2_hasRoom 30 = .ok (.imul, 1) := by decide +kernel
theorem dX2_hasRoom_31 : decode cX2_hasRoom 31 = .ok (.ldc 47, 2) := by decide +kernel
theorem dX2_hasRoom_33 : decode cX2_hasRoom 33 = .ok (.invokestatic 48, 3) := by decide +kernel
theorem dX2_hasRoom_36 : decode cX2_hasRoom 36 = .ok (.istore_n 1, 1) := by decide +kernel
theorem dX2_hasRoom_37 : decode cX2_hasRoom 37 = .ok (.aload_n 0, 1) := by decide +kernel
theorem dX2_hasRoom_38 : decode cX2_hasRoom 38 = .ok (.aload_n 0, 1) := by decide +kernel
theorem dX2_hasRoom_39 : decode cX2_hasRoom 39 = .ok (.getfield 11, 3) := by decide +kernel
theorem dX2_hasRoom_42 : decode cX2_hasRoom 42 = .ok (.iload_n 1, 1) := by decide +kernel
theorem dX2_hasRoom_43 : decode cX2_hasRoom 43 = .ok (.invokestatic 54, 3) := by decide +kernel
theorem dX2_hasRoom_46 : decode cX2_hasRoom 46 = .ok (.putfield 11, 3) := by decide +kernel
theorem dX2_hasRoom_49 : decode cX2_hasRoom 49 = .ok (.aload_n 0, 1) := by decide +kernel
theorem dX2_hasRoom_50 : decode cX2_hasRoom 50 = .ok (.aload_n 0, 1) := by decide +kernel
theorem dX2_hasRoom_51 : decode cX2_hasRoom 51 = .ok (.getfield 15, 3) := by decide +kernel
theorem dX2_hasRoom_54 : decode cX2_hasRoom 54 = .ok (.iload_n 1, 1) := by decide +kernel
theorem dX2_hasRoom_55 : decode cX2_hasRoom 55 = .ok (.invokestatic 54, 3) := by decide +kernel
theorem dX2_hasRoom_58 : decode cX2_hasRoom 58 = .ok (.putfield 15, 3) := by decide +kernel
theorem dX2_hasRoom_61 : decode cX2_hasRoom 61 = .ok (.aload_n 0, 1) := by decide +kernel
theorem dX2_hasRoom_62 : decode cX2_hasRoom 62 = .ok (.aload_n 0, 1) := by decide +kernel
theorem dX2_hasRoom_63 : decode cX2_hasRoom 63 = .ok (.getfield 18, 3) := by decide +kernel
theorem dX2_hasRoom_66 : decode cX2_hasRoom 66 = .ok (.iload_n 1, 1) := by decide +kernel
theorem dX2_hasRoom_67 : decode cX2_hasRoom 67 = .ok (.invokestatic 54, 3) := by decide +kernel
theorem dX2_hasRoom_70 : decode cX2_hasRoom 70 = .ok (.putfield 18, 3) := by decide +kernel
theorem dX2_hasRoom_73 : decode cX2_hasRoom 73 = .ok (.aload_n 0, 1) := by decide +kernel
theorem dX2_hasRoom_74 : decode cX2_hasRoom 74 = .ok (.aload_n 0, 1) := by decide +kernel
theorem dX2_hasRoom_75 : decode cX2_hasRoom 75 = .ok (.getfield 21, 3) := by decide +kernel
theorem dX2_hasRoom_78 : decode cX2_hasRoom 78 = .ok (.iload_n 1, 1) := by decide +kernel
theorem dX2_hasRoom_79 : decode cX2_hasRoom 79 = .ok (.invokestatic 54, 3) := by decide +kernel
theorem dX2_hasRoom_82 : decode cX2_hasRoom 82 = .ok (.putfield 21, 3) := by decide +kernel
theorem dX2_hasRoom_85 : decode cX2_hasRoom 85 = .ok (.iconst 1, 1) := by decide +kernel
theorem dX2_hasRoom_86 : decode cX2_hasRoom 86 = .ok (.ireturn, 1) := by decide +kernel
theorem dX3_init_0 : decode cX3_init 0 = .ok (.aload_n 0, 1) := by decide +kernel
theorem dX3_init_1 : decode cX3_init 1 = .ok (.invokespecial 3, 3) := by decide +kernel
theorem dX3_init_4 : decode cX3_init 4 = .ok (.aload_n 0, 1) := by decide +kernel
theorem dX3_init_5 : decode cX3_init 5 = .ok (.bipush 80, 2) := by decide +kernel
theorem dX3_init_7 : decode cX3_init 7 = .ok (.newarray .int, 2) := by decide +kernel
theorem dX3_init_9 : decode cX3_init 9 = .ok (.putfield 9, 3) := by decide +kernel
theorem dX3_init_12 : decode cX3_init 12 = .ok (.aload_n 0, 1) := by decide +kernel
theorem dX3_init_13 : decode cX3_init 13 = .ok (.bipush 80, 2) := by decide +kernel
theorem dX3_init_15 : decode cX3_init 15 = .ok (.newarray .int, 2) := by decide +kernel
theorem dX3_init_17 : decode cX3_init 17 = .ok (.putfield 15, 3) := by decide +kernel
theorem dX3_init_20 : decode cX3_init 20 = .ok (.aload_n 0, 1) := by decide +kernel
theorem dX3_init_21 : decode cX3_init 21 = .ok (.bipush 80, 2) := by decide +kernel
theorem dX3_init_23 : decode cX3_init 23 = .ok (.newarray .int, 2) := by decide +kernel
theorem dX3_init_25 : decode cX3_init 25 = .ok (.putfield 18, 3) := by decide +kernel
theorem dX3_init_28 : decode cX3_init 28 = .ok (.aload_n 0, 1) := by decide +kernel
theorem dX3_init_29 : decode cX3_init 29 = .ok (.bipush 80, 2) := by decide +kernel
theorem dX3_init_31 : decode cX3_init 31 = .ok (.newarray .boolean, 2) := by decide +kernel
theorem dX3_init_33 : decode cX3_init 33 = .ok (.putfield 21, 3) := by decide +kernel
theorem dX3_init_36 : decode cX3_init 36 = .ok (.aload_n 0, 1) := by decide +kernel
theorem dX3_init_37 : decode cX3_init 37 = .ok (.bipush 80, 2) := by decide +kernel
theorem dX3_init_39 : decode cX3_init 39 = .ok (.newarray .int, 2) := by decide +kernel
theorem dX3_init_41 : decode cX3_init 41 = .ok (.putfield 25, 3) := by decide +kernel
theorem dX3_init_44 : decode cX3_init 44 = .ok (.return_, 1) := by decide +kernel
theorem dX3_clear_0 : decode cX3_clear 0 = .ok (.aload_n 0, 1) := by decide +kernel
theorem dX3_clear_1 : decode cX3_clear 1 = .ok (.iconst 0, 1) := by decide +kernel
theorem dX3_clear_2 : decode cX3_clear 2 = .ok (.putfield 28, 3) := by decide +kernel
theorem dX3_clear_5 : decode cX3_clear 5 = .ok (.aload_n 0, 1) := by decide +kernel
theorem dX3_clear_6 : decode cX3_clear 6 = .ok (.iconst 0, 1) := by decide +kernel
theorem dX3_clear_7 : decode cX3_clear 7 = .ok (.putfield 32, 3) := by decide +kernel
theorem dX3_clear_10 : decode cX3_clear 10 = .ok (.return_, 1) := by decide +kernel
theorem dX3_has_0 : decode cX3_has 0 = .ok (.iload_n 1, 1) := by decide +kernel
theorem dX3_has_1 : decode cX3_has 1 = .ok (.ifCond .lt 15, 3) := by decide +kernel
theorem dX3_has_4 : decode cX3_has 4 = .ok (.iload_n 1, 1) := by decide +kernel
theorem dX3_has_5 : decode cX3_has 5 = .ok (.aload_n 0, 1) := by decide +kernel
theorem dX3_has_6 : decode cX3_has 6 = .ok (.getfield 28, 3) := by decide +kernel
theorem dX3_has_9 : decode cX3_has 9 = .ok (.if_icmp .ge 7, 3) := by decide +kernel
theorem dX3_has_12 : decode cX3_has 12 = .ok (.iconst 1, 1) := by decide +kernel
theorem dX3_has_13 : decode cX3_has 13 = .ok (.goto 4, 3) := by decide +kernel
theorem dX3_has_16 : decode cX3_has 16 = .ok (.iconst 0, 1) := by decide +kernel
theorem dX3_has_17 : decode cX3_has 17 = .ok (.ireturn, 1) := by decide +kernel
set_option maxRecDepth 20000 in
theorem ggX3_isInRow_X3_has : GoodIn wsX3_isInRow wsX3_has := goodIn_r _ [7, 8, 9, 10, 11, 12, 13, 14, 15] (by decide +kernel) (by decide +kernel)
set_option maxRecDepth 20000 in
theorem gX3_isInRow_X3_has : GoodIn wsX3_isInRow (wsV RX3 35 RX3 yX3_has wsX3_has) := goodIn_app (goodIn_of _ (by decide +kernel)) ggX3_isInRow_X3_has
theorem dX3_isInRow_0 : decode cX3_isInRow 0 = .ok (.aload_n 0, 1) := by decide +kernel
theorem dX3_isInRow_1 : decode cX3_isInRow 1 = .ok (.iload_n 1, 1) := by decide +kernel
theorem dX3_isInRow_2 : decode cX3_isInRow 2 = .ok (.invokevirtual 35, 3) := by decide +kernel
theorem dX3_isInRow_5 : decode cX3_isInRow 5 = .ok (.ifCond .eq 32, 3) := by decide +kernel
theorem dX3_isInRow_8 : decode cX3_isInRow 8 = .ok (.aload_n 0, 1) := by decide +kernel
theorem dX3_isInRow_9 : decode cX3_isInRow 9 = .ok (.getfield 9, 3) := by decide +kernel
theorem dX3_isInRow_12 : decode cX3_isInRow 12 = .ok (.iload_n 1, 1) := by decide +kernel
theorem dX3_isInRow_13 : decode cX3_isInRow 13 = .ok (.iaload, 1) := by decide +kernel
theorem dX3_isInRow_14 : decode cX3_isInRow 14 = .ok (.iload_n 2, 1) := by decide +kernel
theorem dX3_isInRow_15 : decode cX3_isInRow 15 = .ok (.if_icmp .ne 22, 3) := by decide +kernel
theorem dX3_isInRow_18 : decode cX3_isInRow 18 = .ok (.iload 4, 2) := by decide +kernel
theorem dX3_isInRow_20 : decode cX3_isInRow 20 = .ok (.ifCond .ne 13, 3) := by decide +kernel
theorem dX3_isInRow_23 : decode cX3_isInRow 23 = .ok (.aload_n 0, 1) := by decide +kernel
theorem dX3_isInRow_24 : decode cX3_isInRow 24 = .ok (.getfield 15, 3) := by decide +kernel
theorem dX3_isInRow_27 : decode cX3_isInRow 27 = .ok (.iload_n 1, 1) := by decide +kernel
theorem dX3_isInRow_28 : decode cX3_isInRow 28 = .ok (.iaload, 1) := by decide +kernel
theorem dX3_isInRow_29 : decode cX3_isInRow 29 = .ok (.iload_n 3, 1) := by decide +kernel
theorem dX3_isInRow_30 : decode cX3_isInRow 30 = .ok (.if_icmp .ne 7, 3) := by decide +kernel
theorem dX3_isInRow_33 : decode cX3_isInRow 33 = .ok (.iconst 1, 1) := by decide +kernel
theorem dX3_isInRow_34 : decode cX3_isInRow 34 = .ok (.goto 4, 3) := by decide +kernel
theorem dX3_isInRow_37 : decode cX3_isInRow 37 = .ok (.iconst 0, 1) := by decide +kernel
theorem dX3_isInRow_38 : decode cX3_isInRow 38 = .ok (.ireturn, 1) := by decide +kernel
theorem dX3_placeOf_0 : decode cX3_placeOf 0 = .ok (.iconst 0, 1) := by decide +kernel
theorem dX3_placeOf_1 : decode cX3_placeOf 1 = .ok (.istore_n 2, 1) := by decide +kernel
theorem dX3_placeOf_2 : decode cX3_placeOf 2 = .ok (.iload_n 2, 1) := by decide +kernel
theorem dX3_placeOf_3 : decode cX3_placeOf 3 = .ok (.aload_n 0, 1) := by decide +kernel
theorem dX3_placeOf_4 : decode cX3_placeOf 4 = .ok (.getfield 28, 3) := by decide +kernel
theorem dX3_placeOf_7 : decode cX3_placeOf 7 = .ok (.if_icmp .ge 21, 3) := by decide +kernel
theorem dX3_placeOf_10 : decode cX3_placeOf 10 = .ok (.aload_n 0, 1) := by decide +kernel
theorem dX3_placeOf_11 : decode cX3_placeOf 11 = .ok (.getfield 25, 3) := by decide +kernel
theorem dX3_placeOf_14 : decode cX3_placeOf 14 = .ok (.iload_n 2, 1) := by decide +kernel
theorem dX3_placeOf_15 : decode cX3_placeOf 15 = .ok (.iaload, 1) := by decide +kernel
theorem dX3_placeOf_16 : decode cX3_placeOf 16 = .ok (.iload_n 1, 1) := by decide +kernel
theorem dX3_placeOf_17 : decode cX3_placeOf 17 = .ok (.if_icmp .ne 5, 3) := by decide +kernel
theorem dX3_placeOf_20 : decode cX3_placeOf 20 = .ok (.iload_n 2, 1) := by decide +kernel
theorem dX3_placeOf_21 : decode cX3_placeOf 21 = .ok (.ireturn, 1) := by decide +kernel
theorem dX3_placeOf_22 : decode cX3_placeOf 22 = .ok (.iinc 2 1, 3) := by decide +kernel
theorem dX3_placeOf_25 : decode cX3_placeOf 25 = .ok (.goto (-23), 3) := by decide +kernel
theorem dX3_placeOf_28 : decode cX3_placeOf 28 = .ok (.iconst (-1), 1) := by decide +kernel
theorem dX3_placeOf_29 : decode cX3_placeOf 29 = .ok (.ireturn, 1) := by decide +kernel
set_option maxRecDepth 20000 in
theorem ggX3_placeInRow_X3_placeOf : GoodIn wsX3_placeInRow wsX3_placeOf := goodIn_r _ [8, 9, 1, 18, 19, 20, 21, 22, 23, 24] (by decide +kernel) (by decide +kernel)
set_option maxRecDepth 20000 in
theorem gX3_placeInRow_X3_placeOf : GoodIn wsX3_placeInRow (wsV RX3 39 RX3 yX3_placeOf wsX3_placeOf) := goodIn_app (goodIn_of _ (by decide +kernel)) ggX3_placeInRow_X3_placeOf
set_option maxRecDepth 20000 in
theorem ggX3_placeInRow_X3_isInRow : GoodIn wsX3_placeInRow wsX3_isInRow := goodIn_r _ [13, 2, 3, 14, 15, 16, 7, 17, 9, 18, 19, 20, 21, 22, 23, 24] (by decide +kernel) (by decide +kernel)
set_option maxRecDepth 20000 in
theorem gX3_placeInRow_X3_isInRow : GoodIn wsX3_placeInRow (wsV RX3 43 RX3 yX3_isInRow wsX3_isInRow) := goodIn_app (goodIn_of _ (by decide +kernel)) ggX3_placeInRow_X3_isInRow
theorem dX3_placeInRow_0 : decode cX3_placeInRow 0 = .ok (.iconst 0, 1) := by decide +kernel
theorem dX3_placeInRow_1 : decode cX3_placeInRow 1 = .ok (.istore_n 3, 1) := by decide +kernel
theorem dX3_placeInRow_2 : decode cX3_placeInRow 2 = .ok (.aload_n 0, 1) := by decide +kernel
theorem dX3_placeInRow_3 : decode cX3_placeInRow 3 = .ok (.iload_n 1, 1) := by decide +kernel
theorem dX3_placeInRow_4 : decode cX3_placeInRow 4 = .ok (.invokevirtual 39, 3) := by decide +kernel
theorem dX3_placeInRow_7 : decode cX3_placeInRow 7 = .ok (.istore 4, 2) := by decide +kernel
theorem dX3_placeInRow_9 : decode cX3_placeInRow 9 = .ok (.iconst 0, 1) := by decide +kernel
theorem dX3_placeInRow_10 : decode cX3_placeInRow 10 = .ok (.istore 5, 2) := by decide +kernel
theorem dX3_placeInRow_12 : decode cX3_placeInRow 12 = .ok (.iload 5, 2) := by decide +kernel
theorem dX3_placeInRow_14 : decode cX3_placeInRow 14 = .ok (.iload 4, 2) := by decide +kernel
theorem dX3_placeInRow_16 : decode cX3_placeInRow 16 = .ok (.if_icmp .ge 39, 3) := by decide +kernel
theorem dX3_placeInRow_19 : decode cX3_placeInRow 19 = .ok (.aload_n 0, 1) := by decide +kernel
theorem dX3_placeInRow_20 : decode cX3_placeInRow 20 = .ok (.aload_n 0, 1) := by decide +kernel
theorem dX3_placeInRow_21 : decode cX3_placeInRow 21 = .ok (.getfield 25, 3) := by decide +kernel
theorem dX3_placeInRow_24 : decode cX3_placeInRow 24 = .ok (.iload 5, 2) := by decide +kernel
theorem dX3_placeInRow_26 : decode cX3_placeInRow 26 = .ok (.iaload, 1) := by decide +kernel
theorem dX3_placeInRow_27 : decode cX3_placeInRow 27 = .ok (.aload_n 0, 1) := by decide +kernel
theorem dX3_placeInRow_28 : decode cX3_placeInRow 28 = .ok (.getfield 9, 3) := by decide +kernel
theorem dX3_placeInRow_31 : decode cX3_placeInRow 31 = .ok (.iload_n 1, 1) := by decide +kernel
theorem dX3_placeInRow_32 : decode cX3_placeInRow 32 = .ok (.iaload, 1) := by decide +kernel
theorem dX3_placeInRow_33 : decode cX3_placeInRow 33 = .ok (.aload_n 0, 1) := by decide +kernel
theorem dX3_placeInRow_34 : decode cX3_placeInRow 34 = .ok (.getfield 15, 3) := by decide +kernel
theorem dX3_placeInRow_37 : decode cX3_placeInRow 37 = .ok (.iload_n 1, 1) := by decide +kernel
theorem dX3_placeInRow_38 : decode cX3_placeInRow 38 = .ok (.iaload, 1) := by decide +kernel
theorem dX3_placeInRow_39 : decode cX3_placeInRow 39 = .ok (.iload_n 2, 1) := by decide +kernel
theorem dX3_placeInRow_40 : decode cX3_placeInRow 40 = .ok (.invokevirtual 43, 3) := by decide +kernel
theorem dX3_placeInRow_43 : decode cX3_placeInRow 43 = .ok (.ifCond .eq 6, 3) := by decide +kernel
theorem dX3_placeInRow_46 : decode cX3_placeInRow 46 = .ok (.iinc 3 1, 3) := by decide +kernel
theorem dX3_placeInRow_49 : decode cX3_placeInRow 49 = .ok (.iinc 5 1, 3) := by decide +kernel
theorem dX3_placeInRow_52 : decode cX3_placeInRow 52 = .ok (.goto (-40), 3) := by decide +kernel
theorem dX3_placeInRow_55 : decode cX3_placeInRow 55 = .ok (.iload_n 3, 1) := by decide +kernel
theorem dX3_placeInRow_56 : decode cX3_placeInRow 56 = .ok (.ireturn, 1) := by decide +kernel
set_option maxRecDepth 20000 in
theorem ggX3_placeBehind_X3_placeOf : GoodIn wsX3_placeBehind wsX3_placeOf := goodIn_r _ [8, 1, 3, 9, 10, 11, 12, 13, 14, 15] (by decide +kernel) (by decide +kernel)
set_option maxRecDepth 20000 in
theorem gX3_placeBehind_X3_placeOf : GoodIn wsX3_placeBehind (wsV RX3 39 RX3 yX3_placeOf wsX3_placeOf) := goodIn_app (goodIn_of _ (by decide +kernel)) ggX3_placeBehind_X3_placeOf
theorem dX3_placeBehind_0 : decode cX3_placeBehind 0 = .ok (.aload_n 0, 1) := by decide +kernel
theorem dX3_placeBehind_1 : decode cX3_placeBehind 1 = .ok (.iload_n 1, 1) := by decide +kernel
theorem dX3_placeBehind_2 : decode cX3_placeBehind 2 = .ok (.invokevirtual 39, 3) := by decide +kernel
theorem dX3_placeBehind_5 : decode cX3_placeBehind 5 = .ok (.iconst 1, 1) := by decide +kernel
theorem dX3_placeBehind_6 : decode cX3_placeBehind 6 = .ok (.iadd, 1) := by decide +kernel
theorem dX3_placeBehind_7 : decode cX3_placeBehind 7 = .ok (.istore_n 2, 1) := by decide +kernel
theorem dX3_placeBehind_8 : decode cX3_placeBehind 8 = .ok (.iload_n 2, 1) := by decide +kernel
theorem dX3_placeBehind_9 : decode cX3_placeBehind 9 = .ok (.aload_n 0, 1) := by decide +kernel
theorem dX3_placeBehind_10 : decode cX3_placeBehind 10 = .ok (.getfield 28, 3) := by decide +kernel
theorem dX3_placeBehind_13 : decode cX3_placeBehind 13 = .ok (.if_icmp .ge 29, 3) := by decide +kernel
theorem dX3_placeBehind_16 : decode cX3_placeBehind 16 = .ok (.aload_n 0, 1) := by decide +kernel
theorem dX3_placeBehind_17 : decode cX3_placeBehind 17 = .ok (.getfield 9, 3) := by decide +kernel
theorem dX3_placeBehind_20 : decode cX3_placeBehind 20 = .ok (.aload_n 0, 1) := by decide +kernel
theorem dX3_placeBehind_21 : decode cX3_placeBehind 21 = .ok (.getfield 25, 3) := by decide +kernel
theorem dX3_placeBehind_24 : decode cX3_placeBehind 24 = .ok (.iload_n 2, 1) := by decide +kernel
theorem dX3_placeBehind_25 : decode cX3_placeBehind 25 = .ok (.iaload, 1) := by decide +kernel
theorem dX3_placeBehind_26 : decode cX3_placeBehind 26 = .ok (.iaload, 1) := by decide +kernel
theorem dX3_placeBehind_27 : decode cX3_placeBehind 27 = .ok (.aload_n 0, 1) := by decide +kernel
theorem dX3_placeBehind_28 : decode cX3_placeBehind 28 = .ok (.getfield 9, 3) := by decide +kernel
theorem dX3_placeBehind_31 : decode cX3_placeBehind 31 = .ok (.iload_n 1, 1) := by decide +kernel
theorem dX3_placeBehind_32 : decode cX3_placeBehind 32 = .ok (.iaload, 1) := by decide +kernel
theorem dX3_placeBehind_33 : decode cX3_placeBehind 33 = .ok (.if_icmp .le 9, 3) := by decide +kernel
theorem dX3_placeBehind_36 : decode cX3_placeBehind 36 = .ok (.iinc 2 1, 3) := by decide +kernel
theorem dX3_placeBehind_39 : decode cX3_placeBehind 39 = .ok (.goto (-31), 3) := by decide +kernel
theorem dX3_placeBehind_42 : decode cX3_placeBehind 42 = .ok (.iload_n 2, 1) := by decide +kernel
theorem dX3_placeBehind_43 : decode cX3_placeBehind 43 = .ok (.ireturn, 1) := by decide +kernel
theorem dX3_insert_0 : decode cX3_insert 0 = .ok (.aload_n 0, 1) := by decide +kernel
theorem dX3_insert_1 : decode cX3_insert 1 = .ok (.getfield 28, 3) := by decide +kernel
theorem dX3_insert_4 : decode cX3_insert 4 = .ok (.bipush 80, 2) := by decide +kernel
theorem dX3_insert_6 : decode cX3_insert 6 = .ok (.if_icmp .ge 15, 3) := by decide +kernel
theorem dX3_insert_9 : decode cX3_insert 9 = .ok (.iload_n 1, 1) := by decide +kernel
theorem dX3_insert_10 : decode cX3_insert 10 = .ok (.ifCond .lt 11, 3) := by decide +kernel
theorem dX3_insert_13 : decode cX3_insert 13 = .ok (.iload_n 1, 1) := by decide +kernel
theorem dX3_insert_14 : decode cX3_insert 14 = .ok (.aload_n 0, 1) := by decide +kernel
theorem dX3_insert_15 : decode cX3_insert 15 = .ok (.getfield 28, 3) := by decide +kernel
theorem dX3_insert_18 : decode cX3_insert 18 = .ok (.if_icmp .le 4, 3) := by decide +kernel
theorem dX3_insert_21 : decode cX3_insert 21 = .ok (.return_, 1) := by decide +kernel
theorem dX3_insert_22 : decode cX3_insert 22 = .ok (.aload_n 0, 1) := by decide +kernel
theorem dX3_insert_23 : decode cX3_insert 23 = .ok (.getfield 25, 3) := by decide +kernel
theorem dX3_insert_26 : decode cX3_insert 26 = .ok (.iload_n 1, 1) := by decide +kernel
theorem dX3_insert_27 : decode cX3_insert 27 = .ok (.aload_n 0, 1) := by decide +kernel
theorem dX3_insert_28 : decode cX3_insert 28 = .ok (.getfield 25, 3) := by decide +kernel
theorem dX3_insert_31 : decode cX3_insert 31 = .ok (.iload_n 1, 1) := by decide +kernel
theorem dX3_insert_32 : decode cX3_insert 32 = .ok (.iconst 1, 1) := by decide +kernel
theorem dX3_insert_33 : decode cX3_insert 33 = .ok (.iadd, 1) := by decide +kernel
theorem dX3_insert_34 : decode cX3_insert 34 = .ok (.aload_n 0, 1) := by decide +kernel
theorem dX3_insert_35 : decode cX3_insert 35 = .ok (.getfield 28, 3) := by decide +kernel
theorem dX3_insert_38 : decode cX3_insert 38 = .ok (.iload_n 1, 1) := by decide +kernel
theorem dX3_insert_39 : decode cX3_insert 39 = .ok (.isub, 1) := by decide +kernel
theorem dX3_insert_40 : decode cX3_insert 40 = .ok (.invokestatic 47, 3) := by decide +kernel
theorem dX3_insert_43 : decode cX3_insert 43 = .ok (.aload_n 0, 1) := by decide +kernel
theorem dX3_insert_44 : decode cX3_insert 44 = .ok (.getfield 25, 3) := by decide +kernel
theorem dX3_insert_47 : decode cX3_insert 47 = .ok (.iload_n 1, 1) := by decide +kernel
theorem dX3_insert_48 : decode cX3_insert 48 = .ok (.aload_n 0, 1) := by decide +kernel
theorem dX3_insert_49 : decode cX3_insert 49 = .ok (.getfield 28, 3) := by decide +kernel
theorem dX3_insert_52 : decode cX3_insert 52 = .ok (.iastore, 1) := by decide +kernel
theorem dX3_insert_53 : decode cX3_insert 53 = .ok (.aload_n 0, 1) := by decide +kernel
theorem dX3_insert_54 : decode cX3_insert 54 = .ok (.getfield 9, 3) := by decide +kernel
theorem dX3_insert_57 : decode cX3_insert 57 = .ok (.aload_n 0, 1) := by decide +kernel
theorem dX3_insert_58 : decode cX3_insert 58 = .ok (.getfield 28, 3) := by decide +kernel
theorem dX3_insert_61 : decode cX3_insert 61 = .ok (.iload_n 2, 1) := by decide +kernel
theorem dX3_insert_62 : decode cX3_insert 62 = .ok (.iastore, 1) := by decide +kernel
theorem dX3_insert_63 : decode cX3_insert 63 = .ok (.aload_n 0, 1) := by decide +kernel
theorem dX3_insert_64 : decode cX3_insert 64 = .ok (.getfield 15, 3) := by decide +kernel
theorem dX3_insert_67 : decode cX3_insert 67 = .ok (.aload_n 0, 1) := by decide +kernel
theorem dX3_insert_68 : decode cX3_insert 68 = .ok (.getfield 28, 3) := by decide +kernel
theorem dX3_insert_71 : decode cX3_insert 71 = .ok (.iload_n 3, 1) := by decide +kernel
theorem dX3_insert_72 : decode cX3_insert 72 = .ok (.iastore, 1) := by decide +kernel
theorem dX3_insert_73 : decode cX3_insert 73 = .ok (.aload_n 0, 1) := by decide +kernel
theorem dX3_insert_74 : decode cX3_insert 74 = .ok (.getfield 18, 3) := by decide +kernel
theorem dX3_insert_77 : decode cX3_insert 77 = .ok (.aload_n 0, 1) := by decide +kernel
theorem dX3_insert_78 : decode cX3_insert 78 = .ok (.getfield 28, 3) := by decide +kernel
theorem dX3_insert_81 : decode cX3_insert 81 = .ok (.iload 4, 2) := by decide +kernel
theorem dX3_insert_83 : decode cX3_insert 83 = .ok (.iastore, 1) := by decide +kernel
theorem dX3_insert_84 : decode cX3_insert 84 = .ok (.aload_n 0, 1) := by decide +kernel
theorem dX3_insert_85 : decode cX3_insert 85 = .ok (.getfield 21, 3) := by decide +kernel
theorem dX3_insert_88 : decode cX3_insert 88 = .ok (.aload_n 0, 1) := by decide +kernel
theorem dX3_insert_89 : decode cX3_insert 89 = .ok (.getfield 28, 3) := by decide +kernel
theorem dX3_insert_92 : decode cX3_insert 92 = .ok (.iconst 0, 1) := by decide +kernel
theorem dX3_insert_93 : decode cX3_insert 93 = .ok (.bastore, 1) := by decide +kernel
theorem dX3_insert_94 : decode cX3_insert 94 = .ok (.aload_n 0, 1) := by decide +kernel
theorem dX3_insert_95 : decode cX3_insert 95 = .ok (.dup, 1) := by decide +kernel
theorem dX3_insert_96 : decode cX3_insert 96 = .ok (.getfield 28, 3) := by decide +kernel
theorem dX3_insert_99 : decode cX3_insert 99 = .ok (.iconst 1, 1) := by decide +kernel
theorem dX3_insert_100 : decode cX3_insert 100 = .ok (.iadd, 1) := by decide +kernel
theorem dX3_insert_101 : decode cX3_insert 101 = .ok (.putfield 28, 3) := by decide +kernel
theorem dX3_insert_104 : decode cX3_insert 104 = .ok (.return_, 1) := by decide +kernel
set_option maxRecDepth 20000 in
theorem ggX3_dropLast_X3_placeOf : GoodIn wsX3_dropLast wsX3_placeOf := goodIn_r _ [11, 1, 2, 12, 13, 14, 15, 16, 17, 18] (by decide +kernel) (by decide +kernel)
set_option maxRecDepth 20000 in
theorem gX3_dropLast_X3_placeOf : GoodIn wsX3_dropLast (wsV RX3 39 RX3 yX3_placeOf wsX3_placeOf) := goodIn_app (goodIn_of _ (by decide +kernel)) ggX3_dropLast_X3_placeOf
theorem dX3_dropLast_0 : decode cX3_dropLast 0 = .ok (.aload_n 0, 1) := by decide +kernel
theorem dX3_dropLast_1 : decode cX3_dropLast 1 = .ok (.aload_n 0, 1) := by decide +kernel
theorem dX3_dropLast_2 : decode cX3_dropLast 2 = .ok (.getfield 28, 3) := by decide +kernel
theorem dX3_dropLast_5 : decode cX3_dropLast 5 = .ok (.iconst 1, 1) := by decide +kernel
theorem dX3_dropLast_6 : decode cX3_dropLast 6 = .ok (.isub, 1) := by decide +kernel
theorem dX3_dropLast_7 : decode cX3_dropLast 7 = .ok (.invokevirtual 39, 3) := by decide +kernel
theorem dX3_dropLast_10 : decode cX3_dropLast 10 = .ok (.istore_n 1, 1) := by decide +kernel
theorem dX3_dropLast_11 : decode cX3_dropLast 11 = .ok (.iload_n 1, 1) := by decide +kernel
theorem dX3_dropLast_12 : decode cX3_dropLast 12 = .ok (.iconst (-1), 1) := by decide +kernel
theorem dX3_dropLast_13 : decode cX3_dropLast 13 = .ok (.if_icmp .ne 4, 3) := by decide +kernel
theorem dX3_dropLast_16 : decode cX3_dropLast 16 = .ok (.return_, 1) := by decide +kernel
theorem dX3_dropLast_17 : decode cX3_dropLast 17 = .ok (.aload_n 0, 1) := by decide +kernel
theorem dX3_dropLast_18 : decode cX3_dropLast 18 = .ok (.getfield 25, 3) := by decide +kernel
theorem dX3_dropLast_21 : decode cX3_dropLast 21 = .ok (.iload_n 1, 1) := by decide +kernel
theorem dX3_dropLast_22 : decode cX3_dropLast 22 = .ok (.iconst 1, 1) := by decide +kernel
theorem dX3_dropLast_23 : decode cX3_dropLast 23 = .ok (.iadd, 1) := by decide +kernel
theorem dX3_dropLast_24 : decode cX3_dropLast 24 = .ok (.aload_n 0, 1) := by decide +kernel
theorem dX3_dropLast_25 : decode cX3_dropLast 25 = .ok (.getfield 25, 3) := by decide +kernel
theorem dX3_dropLast_28 : decode cX3_dropLast 28 = .ok (.iload_n 1, 1) := by decide +kernel
theorem dX3_dropLast_29 : decode cX3_dropLast 29 = .ok (.aload_n 0, 1) := by decide +kernel
theorem dX3_dropLast_30 : decode cX3_dropLast 30 = .ok (.getfield 28, 3) := by decide +kernel
theorem dX3_dropLast_33 : decode cX3_dropLast 33 = .ok (.iload_n 1, 1) := by decide +kernel
theorem dX3_dropLast_34 : decode cX3_dropLast 34 = .ok (.isub, 1) := by decide +kernel
theorem dX3_dropLast_35 : decode cX3_dropLast 35 = .ok (.iconst 1, 1) := by decide +kernel
theorem dX3_dropLast_36 : decode cX3_dropLast 36 = .ok (.isub, 1) := by decide +kernel
theorem dX3_dropLast_37 : decode cX3_dropLast 37 = .ok (.invokestatic 47, 3) := by decide +kernel
theorem dX3_dropLast_40 : decode cX3_dropLast 40 = .ok (.aload_n 0, 1) := by decide +kernel
theorem dX3_dropLast_41 : decode cX3_dropLast 41 = .ok (.dup, 1) := by decide +kernel
theorem dX3_dropLast_42 : decode cX3_dropLast 42 = .ok (.getfield 28, 3) := by decide +kernel
theorem dX3_dropLast_45 : decode cX3_dropLast 45 = .ok (.iconst 1, 1) := by decide +kernel
theorem dX3_dropLast_46 : decode cX3_dropLast 46 = .ok (.isub, 1) := by decide +kernel
theorem dX3_dropLast_47 : decode cX3_dropLast 47 = .ok (.putfield 28, 3) := by decide +kernel
theorem dX3_dropLast_50 : decode cX3_dropLast 50 = .ok (.return_, 1) := by decide +kernel
set_option maxRecDepth 20000 in
theorem ggX3_setStruck_X3_has : GoodIn wsX3_setStruck wsX3_has := goodIn_r _ [7, 8, 9, 10, 11, 12, 13, 14, 15] (by decide +kernel) (by decide +kernel)
set_option maxRecDepth 20000 in
theorem gX3_setStruck_X3_has : GoodIn wsX3_setStruck (wsV RX3 35 RX3 yX3_has wsX3_has) := goodIn_app (goodIn_of _ (by decide +kernel)) ggX3_setStruck_X3_has
theorem dX3_setStruck_0 : decode cX3_setStruck 0 = .ok (.aload_n 0, 1) := by decide +kernel
theorem dX3_setStruck_1 : decode cX3_setStruck 1 = .ok (.iload_n 1, 1) := by decide +kernel
theorem dX3_setStruck_2 : decode cX3_setStruck 2 = .ok (.invokevirtual 35, 3) := by decide +kernel
theorem dX3_setStruck_5 : decode cX3_setStruck 5 = .ok (.ifCond .eq 38, 3) := by decide +kernel
theorem dX3_setStruck_8 : decode cX3_setStruck 8 = .ok (.aload_n 0, 1) := by decide +kernel
theorem dX3_setStruck_9 : decode cX3_setStruck 9 = .ok (.getfield 21, 3) := by decide +kernel
theorem dX3_setStruck_12 : decode cX3_setStruck 12 = .ok (.iload_n 1, 1) := by decide +kernel
theorem dX3_setStruck_13 : decode cX3_setStruck 13 = .ok (.baload, 1) := by decide +kernel
theorem dX3_setStruck_14 : decode cX3_setStruck 14 = .ok (.iload_n 2, 1) := by decide +kernel
theorem dX3_setStruck_15 : decode cX3_setStruck 15 = .ok (.if_icmp .eq 28, 3) := by decide +kernel
theorem dX3_setStruck_18 : decode cX3_setStruck 18 = .ok (.aload_n 0, 1) := by decide +kernel
theorem dX3_setStruck_19 : decode cX3_setStruck 19 = .ok (.getfield 21, 3) := by decide +kernel
theorem dX3_setStruck_22 : decode cX3_setStruck 22 = .ok (.iload_n 1, 1) := by decide +kernel
theorem dX3_setStruck_23 : decode cX3_setStruck 23 = .ok (.iload_n 2, 1) := by decide +kernel
theorem dX3_setStruck_24 : decode cX3_setStruck 24 = .ok (.bastore, 1) := by decide +kernel
theorem dX3_setStruck_25 : decode cX3_setStruck 25 = .ok (.aload_n 0, 1) := by decide +kernel
theorem dX3_setStruck_26 : decode cX3_setStruck 26 = .ok (.dup, 1) := by decide +kernel
theorem dX3_setStruck_27 : decode cX3_setStruck 27 = .ok (.getfield 32, 3) := by decide +kernel
theorem dX3_setStruck_30 : decode cX3_setStruck 30 = .ok (.iload_n 2, 1) := by decide +kernel
theorem dX3_setStruck_31 : decode cX3_setStruck 31 = .ok (.ifCond .eq 7, 3) := by decide +kernel
theorem dX3_setStruck_34 : decode cX3_setStruck 34 = .ok (.iconst 1, 1) := by decide +kernel
theorem dX3_setStruck_35 : decode cX3_setStruck 35 = .ok (.goto 4, 3) := by decide +kernel
theorem dX3_setStruck_38 : decode cX3_setStruck 38 = .ok (.iconst (-1), 1) := by decide +kernel
theorem dX3_setStruck_39 : decode cX3_setStruck 39 = .ok (.iadd, 1) := by decide +kernel
theorem dX3_setStruck_40 : decode cX3_setStruck 40 = .ok (.putfield 32, 3) := by decide +kernel
theorem dX3_setStruck_43 : decode cX3_setStruck 43 = .ok (.return_, 1) := by decide +kernel
set_option maxRecDepth 20000 in
theorem ggX4_init_X8_init : GoodIn wsX4_init wsX8_init := goodIn_r _ [9, 10, 2, 3, 11, 12, 13, 14] (by decide +kernel) (by decide +kernel)
set_option maxRecDepth 20000 in
theorem gX4_init_X8_init_n11 : GoodIn wsX4_init (wsX8_init) := ggX4_init_X8_init
theorem dX4_init_0 : decode cX4_init 0 = .ok (.aload_n 0, 1) := by decide +kernel
theorem dX4_init_1 : decode cX4_init 1 = .ok (.invokespecial 3, 3) := by decide +kernel
theorem dX4_init_4 : decode cX4_init 4 = .ok (.aload_n 0, 1) := by decide +kernel
theorem dX4_init_5 : decode cX4_init 5 = .ok (.new 9, 3) := by decide +kernel
theorem dX4_init_8 : decode cX4_init 8 = .ok (.dup, 1) := by decide +kernel
theorem dX4_init_9 : decode cX4_init 9 = .ok (.invokespecial 11, 3) := by decide +kernel
theorem dX4_init_12 : decode cX4_init 12 = .ok (.putfield 12, 3) := by decide +kernel
theorem dX4_init_15 : decode cX4_init 15 = .ok (.return_, 1) := by decide +kernel
set_option maxRecDepth 20000 in
theorem ggX4_readAt_X4_numeralsEnd : GoodIn wsX4_readAt wsX4_numeralsEnd := goodIn_r _ [8, 9, 10, 11, 12, 13, 14, 15, 16, 17, 18, 19, 20, 21, 22, 23, 99, 100] (by decide +kernel) (by decide +kernel)
set_option maxRecDepth 20000 in
theorem gX4_readAt_X4_numeralsEnd : GoodIn wsX4_readAt (va_wsS RX4 30 yX4_numeralsEnd wsX4_numeralsEnd) := goodIn_app (goodIn_of _ (by decide +kernel)) ggX4_readAt_X4_numeralsEnd
set_option maxRecDepth 20000 in
theorem ggX4_readAt_X4_failAt : GoodIn wsX4_readAt wsX4_failAt := goodIn_r _ [27, 1, 2, 94, 95, 96, 97, 98] (by decide +kernel) (by decide +kernel)
set_option maxRecDepth 20000 in
theorem gX4_readAt_X4_failAt : GoodIn wsX4_readAt (wsV RX4 34 RX4 yX4_failAt wsX4_failAt) := goodIn_app (goodIn_of _ (by decide +kernel)) ggX4_readAt_X4_failAt
set_option maxRecDepth 20000 in
theorem ggX4_readAt_X8_byteAt : GoodIn wsX4_readAt wsX8_byteAt := goodIn_r _ [14, 15, 16, 99, 100] (by decide +kernel) (by decide +kernel)
set_option maxRecDepth 20000 in
theorem gX4_readAt_X8_byteAt : GoodIn wsX4_readAt (wsV RX4 38 RX8 yX8_byteAt wsX8_byteAt) := goodIn_app (goodIn_of _ (by decide +kernel)) ggX4_readAt_X8_byteAt
set_option maxRecDepth 20000 in
theorem ggX4_readAt_X4_capitalsEnd : GoodIn wsX4_readAt wsX4_capitalsEnd := goodIn_r _ [30, 9, 10, 11, 12, 13, 14, 15, 16, 99, 100] (by decide +kernel) (by decide +kernel)
set_option maxRecDepth 20000 in
theorem gX4_readAt_X4_capitalsEnd : GoodIn wsX4_readAt (va_wsS RX4 45 yX4_capitalsEnd wsX4_capitalsEnd) := goodIn_app (goodIn_of _ (by decide +kernel)) ggX4_readAt_X4_capitalsEnd
set_option maxRecDepth 20000 in
theorem ggX4_readAt_X1_numberIn : GoodIn wsX4_readAt wsX1_numberIn := goodIn_r _ [33, 34, 35, 19, 36, 37, 11, 12, 13, 14, 15, 16, 21, 22, 23, 38, 39, 40, 99, 100] (by decide +kernel) (by decide +kernel)
set_option maxRecDepth 20000 in
theorem gX4_readAt_X1_numberIn : GoodIn wsX4_readAt (va_wsS RX4 49 yX1_numberIn wsX1_numberIn) := goodIn_app (goodIn_of _ (by decide +kernel)) ggX4_readAt_X1_numberIn
set_option maxRecDepth 20000 in
theorem ggX4_readAt_X4_meant : GoodIn wsX4_readAt wsX4_meant := goodIn_r _ [44, 4, 10, 11, 12, 13, 14, 15, 16, 45, 46, 47, 48, 49, 50, 51, 52, 53, 54, 94, 95, 96, 97, 98, 99, 100] (by decide +kernel) (by decide +kernel)
set_option maxRecDepth 20000 in
theorem gX4_readAt_X4_meant : GoodIn wsX4_readAt (wsV RX4 55 RX4 yX4_meant wsX4_meant) := goodIn_app (goodIn_of _ (by decide +kernel)) ggX4_readAt_X4_meant
set_option maxRecDepth 20000 in
theorem ggX4_readAt_X4_isAsWritten : GoodIn wsX4_readAt wsX4_isAsWritten := goodIn_r _ [58, 59, 9, 3, 4, 60, 61, 19, 62, 63, 64, 47, 65, 66, 67, 68, 69, 70, 71, 72, 73, 74, 13, 75, 15, 16, 76, 77, 78, 79, 80, 81, 82, 83, 84, 85, 86, 87, 88, 89, 90, 91, 92, 93, 11, 12, 14, 94, 95, 96, 97, 98, 99, 100] (by decide +kernel) (by decide +kernel)
set_option maxRecDepth 20000 in
theorem gX4_readAt_X4_isAsWritten : GoodIn wsX4_readAt (wsV RX4 58 RX4 yX4_isAsWritten wsX4_isAsWritten) := goodIn_app (goodIn_of _ (by decide +kernel)) ggX4_readAt_X4_isAsWritten
theorem dX4_readAt_0 : decode cX4_readAt 0 = .ok (.aload_n 0, 1) := by decide +kernel
theorem dX4_readAt_1 : decode cX4_readAt 1 = .ok (.iconst 0, 1) := by decide +kernel
theorem dX4_readAt_2 : decode cX4_readAt 2 = .ok (.putfield 18, 3) := by decide +kernel
theorem dX4_readAt_5 : decode cX4_readAt 5 = .ok (.aload_n 0, 1) := by decide +kernel
theorem dX4_readAt_6 : decode cX4_readAt 6 = .ok (.iconst (-1), 1) := by decide +kernel
theorem dX4_readAt_7 : decode cX4_readAt 7 = .ok (.putfield 22, 3) := by decide +kernel
theorem dX4_readAt_10 : decode cX4_readAt 10 = .ok (.aload_n 0, 1) := by decide +kernel
theorem dX4_readAt_11 : decode cX4_readAt 11 = .ok (.iconst 0, 1) := by decide +kernel
theorem dX4_readAt_12 : decode cX4_readAt 12 = .ok (.putfield 27, 3) := by decide +kernel
theorem dX4_readAt_15 : decode cX4_readAt 15 = .ok (.aload_n 1, 1) := by decide +kernel
theorem dX4_readAt_16 : decode cX4_readAt 16 = .ok (.iload_n 2, 1) := by decide +kernel
theorem dX4_readAt_17 : decode cX4_readAt 17 = .ok (.iload_n 3, 1) := by decide +kernel
theorem dX4_readAt_18 : decode cX4_readAt 18 = .ok (.invokestatic 30, 3) := by decide +kernel
theorem dX4_readAt_21 : decode cX4_readAt 21 = .ok (.istore 4, 2) := by decide +kernel
theorem dX4_readAt_23 : decode cX4_readAt 23 = .ok (.iload 4, 2) := by decide +kernel
theorem dX4_readAt_25 : decode cX4_readAt 25 = .ok (.iload_n 2, 1) := by decide +kernel
theorem dX4_readAt_26 : decode cX4_readAt 26 = .ok (.if_icmp .ne 10, 3) := by decide +kernel
theorem dX4_readAt_29 : decode cX4_readAt 29 = .ok (.aload_n 0, 1) := by decide +kernel
theorem dX4_readAt_30 : decode cX4_readAt 30 = .ok (.iload_n 2, 1) := by decide +kernel
theorem dX4_readAt_31 : decode cX4_readAt 31 = .ok (.iconst 1, 1) := by decide +kernel
theorem dX4_readAt_32 : decode cX4_readAt 32 = .ok (.invokevirtual 34, 3) := by decide +kernel
theorem dX4_readAt_35 : decode cX4_readAt 35 = .ok (.return_, 1) := by decide +kernel
theorem dX4_readAt_36 : decode cX4_readAt 36 = .ok (.iload_n 3, 1) := by decide +kernel
theorem dX4_readAt_37 : decode cX4_readAt 37 = .ok (.ifCond .eq 18, 3) := by decide +kernel
theorem dX4_readAt_40 : decode cX4_readAt 40 = .ok (.aload_n 1, 1) := by decide +kernel
theorem dX4_readAt_41 : decode cX4_readAt 41 = .ok (.iload 4, 2) := by decide +kernel
theorem dX4_readAt_43 : decode cX4_readAt 43 = .ok (.invokevirtual 38, 3) := by decide +kernel
theorem dX4_readAt_46 : decode cX4_readAt 46 = .ok (.bipush 45, 2) := by decide +kernel
theorem dX4_readAt_48 : decode cX4_readAt 48 = .ok (.if_icmp .ne 7, 3) := by decide +kernel
theorem dX4_readAt_51 : decode cX4_readAt 51 = .ok (.iconst 1, 1) := by decide +kernel
theorem dX4_readAt_52 : decode cX4_readAt 52 = .ok (.goto 4, 3) := by decide +kernel
theorem dX4_readAt_55 : decode cX4_readAt 55 = .ok (.iconst 0, 1) := by decide +kernel
theorem dX4_readAt_56 : decode cX4_readAt 56 = .ok (.istore 5, 2) := by decide +kernel
theorem dX4_readAt_58 : decode cX4_readAt 58 = .ok (.iload 5, 2) := by decide +kernel
theorem dX4_readAt_60 : decode cX4_readAt 60 = .ok (.ifCond .eq 10, 3) := by decide +kernel
theorem dX4_readAt_63 : decode cX4_readAt 63 = .ok (.iload 4, 2) := by decide +kernel
theorem dX4_readAt_65 : decode cX4_readAt 65 = .ok (.iconst 1, 1) := by decide +kernel
theorem dX4_readAt_66 : decode cX4_readAt 66 = .ok (.iadd, 1) := by decide +kernel
theorem dX4_readAt_67 : decode cX4_readAt 67 = .ok (.goto 5, 3) := by decide +kernel
theorem dX4_readAt_70 : decode cX4_readAt 70 = .ok (.iload 4, 2) := by decide +kernel
theorem dX4_readAt_72 : decode cX4_readAt 72 = .ok (.istore 6, 2) := by decide +kernel
theorem dX4_readAt_74 : decode cX4_readAt 74 = .ok (.aload_n 0, 1) := by decide +kernel
theorem dX4_readAt_75 : decode cX4_readAt 75 = .ok (.iload 6, 2) := by decide +kernel
theorem dX4_readAt_77 : decode cX4_readAt 77 = .ok (.putfield 42, 3) := by decide +kernel
theorem dX4_readAt_80 : decode cX4_readAt 80 = .ok (.iload 5, 2) := by decide +kernel
theorem dX4_readAt_82 : decode cX4_readAt 82 = .ok (.ifCond .ne 7, 3) := by decide +kernel
theorem dX4_readAt_85 : decode cX4_readAt 85 = .ok (.iload_n 3, 1) := by decide +kernel
theorem dX4_readAt_86 : decode cX4_readAt 86 = .ok (.ifCond .ne 13, 3) := by decide +kernel
theorem dX4_readAt_89 : decode cX4_readAt 89 = .ok (.aload_n 0, 1) := by decide +kernel
theorem dX4_readAt_90 : decode cX4_readAt 90 = .ok (.aload_n 1, 1) := by decide +kernel
theorem dX4_readAt_91 : decode cX4_readAt 91 = .ok (.iload 6, 2) := by decide +kernel
theorem dX4_readAt_93 : decode cX4_readAt 93 = .ok (.invokestatic 45, 3) := by decide +kernel
theorem dX4_readAt_96 : decode cX4_readAt 96 = .ok (.putfield 42, 3) := by decide +kernel
theorem dX4_readAt_99 : decode cX4_readAt 99 = .ok (.iload 5, 2) := by decide +kernel
theorem dX4_readAt_101 : decode cX4_readAt 101 = .ok (.ifCond .eq 20, 3) := by decide +kernel
theorem dX4_readAt_104 : decode cX4_readAt 104 = .ok (.aload_n 0, 1) := by decide +kernel
theorem dX4_readAt_105 : decode cX4_readAt 105 = .ok (.getfield 42, 3) := by decide +kernel
theorem dX4_readAt_108 : decode cX4_readAt 108 = .ok (.iload 6, 2) := by decide +kernel
theorem dX4_readAt_110 : decode cX4_readAt 110 = .ok (.if_icmp .ne 11, 3) := by decide +kernel
theorem dX4_readAt_113 : decode cX4_readAt 113 = .ok (.aload_n 0, 1) := by decide +kernel
theorem dX4_readAt_114 : decode cX4_readAt 114 = .ok (.iload 6, 2) := by decide +kernel
theorem dX4_readAt_116 : decode cX4_readAt 116 = .ok (.iconst 1, 1) := by decide +kernel
theorem dX4_readAt_117 : decode cX4_readAt 117 = .ok (.invokevirtual 34, 3) := by decide +kernel
theorem dX4_readAt_120 : decode cX4_readAt 120 = .ok (.return_, 1) := by decide +kernel
theorem dX4_readAt_121 : decode cX4_readAt 121 = .ok (.aload_n 0, 1) := by decide +kernel
theorem dX4_readAt_122 : decode cX4_readAt 122 = .ok (.aload_n 0, 1) := by decide +kernel
theorem dX4_readAt_123 : decode cX4_readAt 123 = .ok (.aload_n 1, 1) := by decide +kernel
theorem dX4_readAt_124 : decode cX4_readAt 124 = .ok (.iload 6, 2) := by decide +kernel
theorem dX4_readAt_126 : decode cX4_readAt 126 = .ok (.aload_n 1, 1) := by decide +kernel
theorem dX4_readAt_127 : decode cX4_readAt 127 = .ok (.iload_n 2, 1) := by decide +kernel
theorem dX4_readAt_128 : decode cX4_readAt 128 = .ok (.iload 4, 2) := by decide +kernel
theorem dX4_readAt_130 : decode cX4_readAt 130 = .ok (.iload_n 3, 1) := by decide +kernel
theorem dX4_readAt_131 : decode cX4_readAt 131 = .ok (.invokestatic 49, 3) := by decide +kernel
theorem dX4_readAt_134 : decode cX4_readAt 134 = .ok (.invokevirtual 55, 3) := by decide +kernel
theorem dX4_readAt_137 : decode cX4_readAt 137 = .ok (.putfield 27, 3) := by decide +kernel
theorem dX4_readAt_140 : decode cX4_readAt 140 = .ok (.aload_n 0, 1) := by decide +kernel
theorem dX4_readAt_141 : decode cX4_readAt 141 = .ok (.getfield 27, 3) := by decide +kernel
theorem dX4_readAt_144 : decode cX4_readAt 144 = .ok (.ifCond .eq 13, 3) := by decide +kernel
theorem dX4_readAt_147 : decode cX4_readAt 147 = .ok (.aload_n 0, 1) := by decide +kernel
theorem dX4_readAt_148 : decode cX4_readAt 148 = .ok (.aload_n 1, 1) := by decide +kernel
theorem dX4_readAt_149 : decode cX4_readAt 149 = .ok (.iload_n 2, 1) := by decide +kernel
theorem dX4_readAt_150 : decode cX4_readAt 150 = .ok (.iload_n 3, 1) := by decide +kernel
theorem dX4_readAt_151 : decode cX4_readAt 151 = .ok (.invokevirtual 58, 3) := by decide +kernel
theorem dX4_readAt_154 : decode cX4_readAt 154 = .ok (.ifCond .ne 9, 3) := by decide +kernel
theorem dX4_readAt_157 : decode cX4_readAt 157 = .ok (.aload_n 0, 1) := by decide +kernel
theorem dX4_readAt_158 : decode cX4_readAt 158 = .ok (.iload_n 2, 1) := by decide +kernel
theorem dX4_readAt_159 : decode cX4_readAt 159 = .ok (.iconst 2, 1) := by decide +kernel
theorem dX4_readAt_160 : decode cX4_readAt 160 = .ok (.invokevirtual 34, 3) := by decide +kernel
theorem dX4_readAt_163 : decode cX4_readAt 163 = .ok (.return_, 1) := by decide +kernel
set_option maxRecDepth 20000 in
theorem ggX4_isAsWritten_X1_writeLabel : GoodIn wsX4_isAsWritten wsX1_writeLabel := goodIn_r _ [8, 9, 10, 11, 12, 13, 14, 7, 15, 16, 17, 18, 19, 20, 21, 22, 23, 24, 25, 26, 27, 28, 29, 30, 31, 32, 33, 34, 35, 36, 37, 38, 52, 53] (by decide +kernel) (by decide +kernel)
set_option maxRecDepth 20000 in
theorem gX4_isAsWritten_X1_writeLabel : GoodIn wsX4_isAsWritten (va_wsS RX4 65 yX1_writeLabel wsX1_writeLabel) := goodIn_app (goodIn_of _ (by decide +kernel)) ggX4_isAsWritten_X1_writeLabel
set_option maxRecDepth 20000 in
theorem ggX4_isAsWritten_X8_isPart : GoodIn wsX4_isAsWritten wsX8_isPart := goodIn_r _ [42, 24, 43, 44, 45, 22, 46, 25, 52, 53] (by decide +kernel) (by decide +kernel)
set_option maxRecDepth 20000 in
theorem gX4_isAsWritten_X8_isPart : GoodIn wsX4_isAsWritten (wsV RX4 69 RX8 yX8_isPart wsX8_isPart) := goodIn_app (goodIn_of _ (by decide +kernel)) ggX4_isAsWritten_X8_isPart
theorem dX4_isAsWritten_0 : decode cX4_isAsWritten 0 = .ok (.aload_n 0, 1) := by decide +kernel
theorem dX4_isAsWritten_1 : decode cX4_isAsWritten 1 = .ok (.getfield 12, 3) := by decide +kernel
theorem dX4_isAsWritten_4 : decode cX4_isAsWritten 4 = .ok (.iconst 0, 1) := by decide +kernel
theorem dX4_isAsWritten_5 : decode cX4_isAsWritten 5 = .ok (.putfield 62, 3) := by decide +kernel
theorem dX4_isAsWritten_8 : decode cX4_isAsWritten 8 = .ok (.aload_n 0, 1) := by decide +kernel
theorem dX4_isAsWritten_9 : decode cX4_isAsWritten 9 = .ok (.getfield 12, 3) := by decide +kernel
theorem dX4_isAsWritten_12 : decode cX4_isAsWritten 12 = .ok (.iload_n 3, 1) := by decide +kernel
theorem dX4_isAsWritten_13 : decode cX4_isAsWritten 13 = .ok (.aload_n 0, 1) := by decide +kernel
theorem dX4_isAsWritten_14 : decode cX4_isAsWritten 14 = .ok (.getfield 27, 3) := by decide +kernel
theorem dX4_isAsWritten_17 : decode cX4_isAsWritten 17 = .ok (.invokestatic 65, 3) := by decide +kernel
theorem dX4_isAsWritten_20 : decode cX4_isAsWritten 20 = .ok (.aload_n 1, 1) := by decide +kernel
theorem dX4_isAsWritten_21 : decode cX4_isAsWritten 21 = .ok (.iload_n 2, 1) := by decide +kernel
theorem dX4_isAsWritten_22 : decode cX4_isAsWritten 22 = .ok (.aload_n 0, 1) := by decide +kernel
theorem dX4_isAsWritten_23 : decode cX4_isAsWritten 23 = .ok (.getfield 42, 3) := by decide +kernel
theorem dX4_isAsWritten_26 : decode cX4_isAsWritten 26 = .ok (.aload_n 0, 1) := by decide +kernel
theorem dX4_isAsWritten_27 : decode cX4_isAsWritten 27 = .ok (.getfield 12, 3) := by decide +kernel
theorem dX4_isAsWritten_30 : decode cX4_isAsWritten 30 = .ok (.invokevirtual 69, 3) := by decide +kernel
theorem dX4_isAsWritten_33 : decode cX4_isAsWritten 33 = .ok (.ireturn, 1) := by decide +kernel
theorem dX4_failAt_0 : decode cX4_failAt 0 = .ok (.aload_n 0, 1) := by decide +kernel
theorem dX4_failAt_1 : decode cX4_failAt 1 = .ok (.iload_n 2, 1) := by decide +kernel
theorem dX4_failAt_2 : decode cX4_failAt 2 = .ok (.putfield 18, 3) := by decide +kernel
theorem dX4_failAt_5 : decode cX4_failAt 5 = .ok (.aload_n 0, 1) := by decide +kernel
theorem dX4_failAt_6 : decode cX4_failAt 6 = .ok (.iload_n 1, 1) := by decide +kernel
theorem dX4_failAt_7 : decode cX4_failAt 7 = .ok (.putfield 22, 3) := by decide +kernel
theorem dX4_failAt_10 : decode cX4_failAt 10 = .ok (.return_, 1) := by decide +kernel
set_option maxRecDepth 20000 in
theorem ggX4_meant_X8_byteAt : GoodIn wsX4_meant wsX8_byteAt := goodIn_r _ [6, 7, 8, 24, 25] (by decide +kernel) (by decide +kernel)
set_option maxRecDepth 20000 in
theorem gX4_meant_X8_byteAt : GoodIn wsX4_meant (wsV RX4 38 RX8 yX8_byteAt wsX8_byteAt) := goodIn_app (goodIn_of _ (by decide +kernel)) ggX4_meant_X8_byteAt
set_option maxRecDepth 20000 in
theorem ggX4_meant_X5_plain : GoodIn wsX4_meant wsX5_plain := goodIn_r _ [12] (by decide +kernel) (by decide +kernel)
set_option maxRecDepth 20000 in
theorem gX4_meant_X5_plain : GoodIn wsX4_meant (va_wsS RX4 73 yX5_plain wsX5_plain) := goodIn_app (goodIn_of _ (by decide +kernel)) ggX4_meant_X5_plain
set_option maxRecDepth 20000 in
theorem ggX4_meant_X5_withSuffix : GoodIn wsX4_meant wsX5_withSuffix := goodIn_r _ [15, 16, 17, 11, 18] (by decide +kernel) (by decide +kernel)
set_option maxRecDepth 20000 in
theorem gX4_meant_X5_withSuffix : GoodIn wsX4_meant (va_wsS RX4 76 yX5_withSuffix wsX5_withSuffix) := goodIn_app (goodIn_of _ (by decide +kernel)) ggX4_meant_X5_withSuffix
theorem dX4_meant_0 : decode cX4_meant 0 = .ok (.aload_n 0, 1) := by decide +kernel
theorem dX4_meant_1 : decode cX4_meant 1 = .ok (.getfield 42, 3) := by decide +kernel
theorem dX4_meant_4 : decode cX4_meant 4 = .ok (.iload_n 2, 1) := by decide +kernel
theorem dX4_meant_5 : decode cX4_meant 5 = .ok (.isub, 1) := by decide +kernel
theorem dX4_meant_6 : decode cX4_meant 6 = .ok (.iconst 4, 1) := by decide +kernel
theorem dX4_meant_7 : decode cX4_meant 7 = .ok (.if_icmp .le 5, 3) := by decide +kernel
theorem dX4_meant_10 : decode cX4_meant 10 = .ok (.iconst 0, 1) := by decide +kernel
theorem dX4_meant_11 : decode cX4_meant 11 = .ok (.ireturn, 1) := by decide +kernel
theorem dX4_meant_12 : decode cX4_meant 12 = .ok (.iconst 0, 1) := by decide +kernel
theorem dX4_meant_13 : decode cX4_meant 13 = .ok (.istore 4, 2) := by decide +kernel
theorem dX4_meant_15 : decode cX4_meant 15 = .ok (.iload_n 2, 1) := by decide +kernel
theorem dX4_meant_16 : decode cX4_meant 16 = .ok (.istore 5, 2) := by decide +kernel
theorem dX4_meant_18 : decode cX4_meant 18 = .ok (.iload 5, 2) := by decide +kernel
theorem dX4_meant_20 : decode cX4_meant 20 = .ok (.aload_n 0, 1) := by decide +kernel
theorem dX4_meant_21 : decode cX4_meant 21 = .ok (.getfield 42, 3) := by decide +kernel
theorem dX4_meant_24 : decode cX4_meant 24 = .ok (.if_icmp .ge 23, 3) := by decide +kernel
theorem dX4_meant_27 : decode cX4_meant 27 = .ok (.iload 4, 2) := by decide +kernel
theorem dX4_meant_29 : decode cX4_meant 29 = .ok (.bipush 8, 2) := by decide +kernel
theorem dX4_meant_31 : decode cX4_meant 31 = .ok (.ishl, 1) := by decide +kernel
theorem dX4_meant_32 : decode cX4_meant 32 = .ok (.aload_n 1, 1) := by decide +kernel
theorem dX4_meant_33 : decode cX4_meant 33 = .ok (.iload 5, 2) := by decide +kernel
theorem dX4_meant_35 : decode cX4_meant 35 = .ok (.invokevirtual 38, 3) := by decide +kernel
theorem dX4_meant_38 : decode cX4_meant 38 = .ok (.ior, 1) := by decide +kernel
theorem dX4_meant_39 : decode cX4_meant 39 = .ok (.istore 4, 2) := by decide +kernel
theorem dX4_meant_41 : decode cX4_meant 41 = .ok (.iinc 5 1, 3) := by decide +kernel
theorem dX4_meant_44 : decode cX4_meant 44 = .ok (.goto (-26), 3) := by decide +kernel
theorem dX4_meant_47 : decode cX4_meant 47 = .ok (.iload_n 3, 1) := by decide +kernel
theorem dX4_meant_48 : decode cX4_meant 48 = .ok (.invokestatic 73, 3) := by decide +kernel
theorem dX4_meant_51 : decode cX4_meant 51 = .ok (.iload 4, 2) := by decide +kernel
theorem dX4_meant_53 : decode cX4_meant 53 = .ok (.invokestatic 76, 3) := by decide +kernel
theorem dX4_meant_56 : decode cX4_meant 56 = .ok (.ireturn, 1) := by decide +kernel
set_option maxRecDepth 20000 in
theorem ggX4_numeralsEnd_X8_byteAt : GoodIn wsX4_numeralsEnd wsX8_byteAt := goodIn_r _ [6, 7, 8, 16, 17] (by decide +kernel) (by decide +kernel)
set_option maxRecDepth 20000 in
theorem gX4_numeralsEnd_X8_byteAt : GoodIn wsX4_numeralsEnd (wsV RX4 38 RX8 yX8_byteAt wsX8_byteAt) := goodIn_app (goodIn_of _ (by decide +kernel)) ggX4_numeralsEnd_X8_byteAt
set_option maxRecDepth 20000 in
theorem ggX4_numeralsEnd_X1_isNumeral : GoodIn wsX4_numeralsEnd wsX1_isNumeral := goodIn_r _ [12, 13, 14, 11, 15] (by decide +kernel) (by decide +kernel)
set_option maxRecDepth 20000 in
theorem gX4_numeralsEnd_X1_isNumeral : GoodIn wsX4_numeralsEnd (va_wsS RX4 80 yX1_isNumeral wsX1_isNumeral) := goodIn_app (goodIn_of _ (by decide +kernel)) ggX4_numeralsEnd_X1_isNumeral
theorem dX4_numeralsEnd_0 : decode cX4_numeralsEnd 0 = .ok (.iload_n 1, 1) := by decide +kernel
theorem dX4_numeralsEnd_1 : decode cX4_numeralsEnd 1 = .ok (.istore_n 3, 1) := by decide +kernel
theorem dX4_numeralsEnd_2 : decode cX4_numeralsEnd 2 = .ok (.iload_n 3, 1) := by decide +kernel
theorem dX4_numeralsEnd_3 : decode cX4_numeralsEnd 3 = .ok (.aload_n 0, 1) := by decide +kernel
theorem dX4_numeralsEnd_4 : decode cX4_numeralsEnd 4 = .ok (.getfield 62, 3) := by decide +kernel
theorem dX4_numeralsEnd_7 : decode cX4_numeralsEnd 7 = .ok (.if_icmp .ge 21, 3) := by decide +kernel
theorem dX4_numeralsEnd_10 : decode cX4_numeralsEnd 10 = .ok (.iload_n 2, 1) := by decide +kernel
theorem dX4_numeralsEnd_11 : decode cX4_numeralsEnd 11 = .ok (.aload_n 0, 1) := by decide +kernel
theorem dX4_numeralsEnd_12 : decode cX4_numeralsEnd 12 = .ok (.iload_n 3, 1) := by decide +kernel
theorem dX4_numeralsEnd_13 : decode cX4_numeralsEnd 13 = .ok (.invokevirtual 38, 3) := by decide +kernel
theorem dX4_numeralsEnd_16 : decode cX4_numeralsEnd 16 = .ok (.invokestatic 80, 3) := by decide +kernel
theorem dX4_numeralsEnd_19 : decode cX4_numeralsEnd 19 = .ok (.ifCond .eq 9, 3) := by decide +kernel
theorem dX4_numeralsEnd_22 : decode cX4_numeralsEnd 22 = .ok (.iinc 3 1, 3) := by decide +kernel
theorem dX4_numeralsEnd_25 : decode cX4_numeralsEnd 25 = .ok (.goto (-23), 3) := by decide +kernel
theorem dX4_numeralsEnd_28 : decode cX4_numeralsEnd 28 = .ok (.iload_n 3, 1) := by decide +kernel
theorem dX4_numeralsEnd_29 : decode cX4_numeralsEnd 29 = .ok (.ireturn, 1) := by decide +kernel
set_option maxRecDepth 20000 in
theorem ggX4_capitalsEnd_X8_byteAt : GoodIn wsX4_capitalsEnd wsX8_byteAt := goodIn_r _ [6, 7, 8, 9, 10] (by decide +kernel) (by decide +kernel)
set_option maxRecDepth 20000 in
theorem gX4_capitalsEnd_X8_byteAt : GoodIn wsX4_capitalsEnd (wsV RX4 38 RX8 yX8_byteAt wsX8_byteAt) := goodIn_app (goodIn_of _ (by decide +kernel)) ggX4_capitalsEnd_X8_byteAt
theorem dX4_capitalsEnd_0 : decode cX4_capitalsEnd 0 = .ok (.iload_n 1, 1) := by decide +kernel
theorem dX4_capitalsEnd_1 : decode cX4_capitalsEnd 1 = .ok (.istore_n 2, 1) := by decide +kernel
theorem dX4_capitalsEnd_2 : decode cX4_capitalsEnd 2 = .ok (.iload_n 2, 1) := by decide +kernel
theorem dX4_capitalsEnd_3 : decode cX4_capitalsEnd 3 = .ok (.aload_n 0, 1) := by decide +kernel
theorem dX4_capitalsEnd_4 : decode cX4_capitalsEnd 4 = .ok (.getfield 62, 3) := by decide +kernel
theorem dX4_capitalsEnd_7 : decode cX4_capitalsEnd 7 = .ok (.if_icmp .ge 29, 3) := by decide +kernel
theorem dX4_capitalsEnd_10 : decode cX4_capitalsEnd 10 = .ok (.aload_n 0, 1) := by decide +kernel
theorem dX4_capitalsEnd_11 : decode cX4_capitalsEnd 11 = .ok (.iload_n 2, 1) := by decide +kernel
theorem dX4_capitalsEnd_12 : decode cX4_capitalsEnd 12 = .ok (.invokevirtual 38, 3) := by decide +kernel
theorem dX4_capitalsEnd_15 : decode cX4_capitalsEnd 15 = .ok (.bipush 65, 2) := by decide +kernel
theorem dX4_capitalsEnd_17 : decode cX4_capitalsEnd 17 = .ok (.if_icmp .lt 19, 3) := by decide +kernel
theorem dX4_capitalsEnd_20 : decode cX4_capitalsEnd 20 = .ok (.aload_n 0, 1) := by decide +kernel
theorem dX4_capitalsEnd_21 : decode cX4_capitalsEnd 21 = .ok (.iload_n 2, 1) := by decide +kernel
theorem dX4_capitalsEnd_22 : decode cX4_capitalsEnd 22 = .ok (.invokevirtual 38, 3) := by decide +kernel
theorem dX4_capitalsEnd_25 : decode cX4_capitalsEnd 25 = .ok (.bipush 90, 2) := by decide +kernel
theorem dX4_capitalsEnd_27 : decode cX4_capitalsEnd 27 = .ok (.if_icmp .gt 9, 3) := by decide +kernel
theorem dX4_capitalsEnd_30 : decode cX4_capitalsEnd 30 = .ok (.iinc 2 1, 3) := by decide +kernel
theorem dX4_capitalsEnd_33 : decode cX4_capitalsEnd 33 = .ok (.goto (-31), 3) := by decide +kernel
theorem dX4_capitalsEnd_36 : decode cX4_capitalsEnd 36 = .ok (.iload_n 2, 1) := by decide +kernel
theorem dX4_capitalsEnd_37 : decode cX4_capitalsEnd 37 = .ok (.ireturn, 1) := by decide +kernel
theorem dX5_plain_0 : decode cX5_plain 0 = .ok (.iload_n 0, 1) := by decide +kernel
theorem dX5_plain_1 : decode cX5_plain 1 = .ok (.iconst 1, 1) := by decide +kernel
theorem dX5_plain_2 : decode cX5_plain 2 = .ok (.if_icmp .lt 10, 3) := by decide +kernel
theorem dX5_plain_5 : decode cX5_plain 5 = .ok (.iload_n 0, 1) := by decide +kernel
theorem dX5_plain_6 : decode cX5_plain 6 = .ok (.sipush 999, 3) := by decide +kernel
theorem dX5_plain_9 : decode cX5_plain 9 = .ok (.if_icmp .le 7, 3) := by decide +kernel
theorem dX5_plain_12 : decode cX5_plain 12 = .ok (.iconst 0, 1) := by decide +kernel
theorem dX5_plain_13 : decode cX5_plain 13 = .ok (.goto 7, 3) := by decide +kernel
theorem dX5_plain_16 : decode cX5_plain 16 = .ok (.iload_n 0, 1) := by decide +kernel
theorem dX5_plain_17 : decode cX5_plain 17 = .ok (.bipush 20, 2) := by decide +kernel
theorem dX5_plain_19 : decode cX5_plain 19 = .ok (.ishl, 1) := by decide +kernel
theorem dX5_plain_20 : decode cX5_plain 20 = .ok (.ireturn, 1) := by decide +kernel
theorem dX5_numberOf_0 : decode cX5_numberOf 0 = .ok (.iload_n 0, 1) := by decide +kernel
theorem dX5_numberOf_1 : decode cX5_numberOf 1 = .ok (.bipush 20, 2) := by decide +kernel
theorem dX5_numberOf_3 : decode cX5_numberOf 3 = .ok (.ishr, 1) := by decide +kernel
theorem dX5_numberOf_4 : decode cX5_numberOf 4 = .ok (.ireturn, 1) := by decide +kernel
theorem dX5_letterOf_0 : decode cX5_letterOf 0 = .ok (.iload_n 0, 1) := by decide +kernel
theorem dX5_letterOf_1 : decode cX5_letterOf 1 = .ok (.bipush 20, 2) := by decide +kernel
theorem dX5_letterOf_3 : decode cX5_letterOf 3 = .ok (.iconst 5, 1) := by decide +kernel
theorem dX5_letterOf_4 : decode cX5_letterOf 4 = .ok (.iload_n 1, 1) := by decide +kernel
theorem dX5_letterOf_5 : decode cX5_letterOf 5 = .ok (.iconst 1, 1) := by decide +kernel
theorem dX5_letterOf_6 : decode cX5_letterOf 6 = .ok (.iadd, 1) := by decide +kernel
theorem dX5_letterOf_7 : decode cX5_letterOf 7 = .ok (.imul, 1) := by decide +kernel
theorem dX5_letterOf_8 : decode cX5_letterOf 8 = .ok (.isub, 1) := by decide +kernel
theorem dX5_letterOf_9 : decode cX5_letterOf 9 = .ok (.ishr, 1) := by decide +kernel
theorem dX5_letterOf_10 : decode cX5_letterOf 10 = .ok (.bipush 31, 2) := by decide +kernel
theorem dX5_letterOf_12 : decode cX5_letterOf 12 = .ok (.iand, 1) := by decide +kernel
theorem dX5_letterOf_13 : decode cX5_letterOf 13 = .ok (.ireturn, 1) := by decide +kernel
theorem dX5_setLetter_0 : decode cX5_setLetter 0 = .ok (.bipush 20, 2) := by decide +kernel
theorem dX5_setLetter_2 : decode cX5_setLetter 2 = .ok (.iconst 5, 1) := by decide +kernel
theorem dX5_setLetter_3 : decode cX5_setLetter 3 = .ok (.iload_n 1, 1) := by decide +kernel
theorem dX5_setLetter_4 : decode cX5_setLetter 4 = .ok (.iconst 1, 1) := by decide +kernel
theorem dX5_setLetter_5 : decode cX5_setLetter 5 = .ok (.iadd, 1) := by decide +kernel
theorem dX5_setLetter_6 : decode cX5_setLetter 6 = .ok (.imul, 1) := by decide +kernel
theorem dX5_setLetter_7 : decode cX5_setLetter 7 = .ok (.isub, 1) := by decide +kernel
theorem dX5_setLetter_8 : decode cX5_setLetter 8 = .ok (.istore_n 3, 1) := by decide +kernel
theorem dX5_setLetter_9 : decode cX5_setLetter 9 = .ok (.iload_n 0, 1) := by decide +kernel
theorem dX5_setLetter_10 : decode cX5_setLetter 10 = .ok (.bipush 31, 2) := by decide +kernel
theorem dX5_setLetter_12 : decode cX5_setLetter 12 = .ok (.iload_n 3, 1) := by decide +kernel
theorem dX5_setLetter_13 : decode cX5_setLetter 13 = .ok (.ishl, 1) := by decide +kernel
theorem dX5_setLetter_14 : decode cX5_setLetter 14 = .ok (.iconst (-1), 1) := by decide +kernel
theorem dX5_setLetter_15 : decode cX5_setLetter 15 = .ok (.ixor, 1) := by decide +kernel
theorem dX5_setLetter_16 : decode cX5_setLetter 16 = .ok (.iand, 1) := by decide +kernel
theorem dX5_setLetter_17 : decode cX5_setLetter 17 = .ok (.iload_n 2, 1) := by decide +kernel
theorem dX5_setLetter_18 : decode cX5_setLetter 18 = .ok (.iload_n 3, 1) := by decide +kernel
theorem dX5_setLetter_19 : decode cX5_setLetter 19 = .ok (.ishl, 1) := by decide +kernel
theorem dX5_setLetter_20 : decode cX5_setLetter 20 = .ok (.ior, 1) := by decide +kernel
theorem dX5_setLetter_21 : decode cX5_setLetter 21 = .ok (.ireturn, 1) := by decide +kernel
set_option maxRecDepth 20000 in
theorem ggX5_lettersIn_X5_letterOf : GoodIn wsX5_lettersIn wsX5_letterOf := goodIn_r _ [4] (by decide +kernel) (by decide +kernel)
set_option maxRecDepth 20000 in
theorem gX5_lettersIn_X5_letterOf : GoodIn wsX5_lettersIn (va_wsS RX5 11 yX5_letterOf wsX5_letterOf) := goodIn_app (goodIn_of _ (by decide +kernel)) ggX5_lettersIn_X5_letterOf
theorem dX5_lettersIn_0 : decode cX5_lettersIn 0 = .ok (.iconst 0, 1) := by decide +kernel
theorem dX5_lettersIn_1 : decode cX5_lettersIn 1 = .ok (.istore_n 1, 1) := by decide +kernel
theorem dX5_lettersIn_2 : decode cX5_lettersIn 2 = .ok (.iload_n 1, 1) := by decide +kernel
theorem dX5_lettersIn_3 : decode cX5_lettersIn 3 = .ok (.iconst 4, 1) := by decide +kernel
theorem dX5_lettersIn_4 : decode cX5_lettersIn 4 = .ok (.if_icmp .ge 17, 3) := by decide +kernel
theorem dX5_lettersIn_7 : decode cX5_lettersIn 7 = .ok (.iload_n 0, 1) := by decide +kernel
theorem dX5_lettersIn_8 : decode cX5_lettersIn 8 = .ok (.iload_n 1, 1) := by decide +kernel
theorem dX5_lettersIn_9 : decode cX5_lettersIn 9 = .ok (.invokestatic 11, 3) := by decide +kernel
theorem dX5_lettersIn_12 : decode cX5_lettersIn 12 = .ok (.ifCond .eq 9, 3) := by decide +kernel
theorem dX5_lettersIn_15 : decode cX5_lettersIn 15 = .ok (.iinc 1 1, 3) := by decide +kernel
theorem dX5_lettersIn_18 : decode cX5_lettersIn 18 = .ok (.goto (-16), 3) := by decide +kernel
theorem dX5_lettersIn_21 : decode cX5_lettersIn 21 = .ok (.iload_n 1, 1) := by decide +kernel
theorem dX5_lettersIn_22 : decode cX5_lettersIn 22 = .ok (.ireturn, 1) := by decide +kernel
set_option maxRecDepth 20000 in
theorem ggX5_suffixOf_X5_lettersIn : GoodIn wsX5_suffixOf wsX5_lettersIn := goodIn_r _ [4, 5, 6, 3, 7] (by decide +kernel) (by decide +kernel)
set_option maxRecDepth 20000 in
theorem gX5_suffixOf_X5_lettersIn : GoodIn wsX5_suffixOf (va_wsS RX5 15 yX5_lettersIn wsX5_lettersIn) := goodIn_app (goodIn_of _ (by decide +kernel)) ggX5_suffixOf_X5_lettersIn
set_option maxRecDepth 20000 in
theorem ggX5_suffixOf_X5_letterOf : GoodIn wsX5_suffixOf wsX5_letterOf := goodIn_r _ [7] (by decide +kernel) (by decide +kernel)
set_option maxRecDepth 20000 in
theorem gX5_suffixOf_X5_letterOf : GoodIn wsX5_suffixOf (va_wsS RX5 11 yX5_letterOf wsX5_letterOf) := goodIn_app (goodIn_of _ (by decide +kernel)) ggX5_suffixOf_X5_letterOf
theorem dX5_suffixOf_0 : decode cX5_suffixOf 0 = .ok (.iconst 0, 1) := by decide +kernel
theorem dX5_suffixOf_1 : decode cX5_suffixOf 1 = .ok (.istore_n 1, 1) := by decide +kernel
theorem dX5_suffixOf_2 : decode cX5_suffixOf 2 = .ok (.iconst 0, 1) := by decide +kernel
theorem dX5_suffixOf_3 : decode cX5_suffixOf 3 = .ok (.istore_n 2, 1) := by decide +kernel
theorem dX5_suffixOf_4 : decode cX5_suffixOf 4 = .ok (.iload_n 2, 1) := by decide +kernel
theorem dX5_suffixOf_5 : decode cX5_suffixOf 5 = .ok (.iload_n 0, 1) := by decide +kernel
theorem dX5_suffixOf_6 : decode cX5_suffixOf 6 = .ok (.invokestatic 15, 3) := by decide +kernel
theorem dX5_suffixOf_9 : decode cX5_suffixOf 9 = .ok (.if_icmp .ge 23, 3) := by decide +kernel
theorem dX5_suffixOf_12 : decode cX5_suffixOf 12 = .ok (.iload_n 1, 1) := by decide +kernel
theorem dX5_suffixOf_13 : decode cX5_suffixOf 13 = .ok (.bipush 8, 2) := by decide +kernel
theorem dX5_suffixOf_15 : decode cX5_suffixOf 15 = .ok (.ishl, 1) := by decide +kernel
theorem dX5_suffixOf_16 : decode cX5_suffixOf 16 = .ok (.bipush 64, 2) := by decide +kernel
theorem dX5_suffixOf_18 : decode cX5_suffixOf 18 = .ok (.iload_n 0, 1) := by decide +kernel
theorem dX5_suffixOf_19 : decode cX5_suffixOf 19 = .ok (.iload_n 2, 1) := by decide +kernel
theorem dX5_suffixOf_20 : decode cX5_suffixOf 20 = .ok (.invokestatic 11, 3) := by decide +kernel
theorem dX5_suffixOf_23 : decode cX5_suffixOf 23 = .ok (.iadd, 1) := by decide +kernel
theorem dX5_suffixOf_24 : decode cX5_suffixOf 24 = .ok (.ior, 1) := by decide +kernel
theorem dX5_suffixOf_25 : decode cX5_suffixOf 25 = .ok (.istore_n 1, 1) := by decide +kernel
theorem dX5_suffixOf_26 : decode cX5_suffixOf 26 = .ok (.iinc 2 1, 3) := by decide +kernel
theorem dX5_suffixOf_29 : decode cX5_suffixOf 29 = .ok (.goto (-25), 3) := by decide +kernel
theorem dX5_suffixOf_32 : decode cX5_suffixOf 32 = .ok (.iload_n 1, 1) := by decide +kernel
theorem dX5_suffixOf_33 : decode cX5_suffixOf 33 = .ok (.ireturn, 1) := by decide +kernel
set_option maxRecDepth 20000 in
theorem ggX5_withSuffix_X5_setLetter : GoodIn wsX5_withSuffix wsX5_setLetter := goodIn_r _ [4] (by decide +kernel) (by decide +kernel)
set_option maxRecDepth 20000 in
theorem gX5_withSuffix_X5_setLetter : GoodIn wsX5_withSuffix (va_wsS RX5 19 yX5_setLetter wsX5_setLetter) := goodIn_app (goodIn_of _ (by decide +kernel)) ggX5_withSuffix_X5_setLetter
theorem dX5_withSuffix_0 : decode cX5_withSuffix 0 = .ok (.iload_n 0, 1) := by decide +kernel
theorem dX5_withSuffix_1 : decode cX5_withSuffix 1 = .ok (.ifCond .ne 5, 3) := by decide +kernel
theorem dX5_withSuffix_4 : decode cX5_withSuffix 4 = .ok (.iconst 0, 1) := by decide +kernel
theorem dX5_withSuffix_5 : decode cX5_withSuffix 5 = .ok (.ireturn, 1) := by decide +kernel
theorem dX5_withSuffix_6 : decode cX5_withSuffix 6 = .ok (.iload_n 0, 1) := by decide +kernel
theorem dX5_withSuffix_7 : decode cX5_withSuffix 7 = .ok (.istore_n 2, 1) := by decide +kernel
theorem dX5_withSuffix_8 : decode cX5_withSuffix 8 = .ok (.iconst 0, 1) := by decide +kernel
theorem dX5_withSuffix_9 : decode cX5_withSuffix 9 = .ok (.istore_n 3, 1) := by decide +kernel
theorem dX5_withSuffix_10 : decode cX5_withSuffix 10 = .ok (.bipush 24, 2) := by decide +kernel
theorem dX5_withSuffix_12 : decode cX5_withSuffix 12 = .ok (.istore 4, 2) := by decide +kernel
theorem dX5_withSuffix_14 : decode cX5_withSuffix 14 = .ok (.iload 4, 2) := by decide +kernel
theorem dX5_withSuffix_16 : decode cX5_withSuffix 16 = .ok (.ifCond .lt 61, 3) := by decide +kernel
theorem dX5_withSuffix_19 : decode cX5_withSuffix 19 = .ok (.iload_n 1, 1) := by decide +kernel
theorem dX5_withSuffix_20 : decode cX5_withSuffix 20 = .ok (.iload 4, 2) := by decide +kernel
theorem dX5_withSuffix_22 : decode cX5_withSuffix 22 = .ok (.iushr, 1) := by decide +kernel
theorem dX5_withSuffix_23 : decode cX5_withSuffix 23 = .ok (.sipush 255, 3) := by decide +kernel
theorem dX5_withSuffix_26 : decode cX5_withSuffix 26 = .ok (.iand, 1) := by decide +kernel
theorem dX5_withSuffix_27 : decode cX5_withSuffix 27 = .ok (.istore 5, 2) := by decide +kernel
theorem dX5_withSuffix_29 : decode cX5_withSuffix 29 = .ok (.iload 5, 2) := by decide +kernel
theorem dX5_withSuffix_31 : decode cX5_withSuffix 31 = .ok (.ifCond .ne 10, 3) := by decide +kernel
theorem dX5_withSuffix_34 : decode cX5_withSuffix 34 = .ok (.iload_n 3, 1) := by decide +kernel
theorem dX5_withSuffix_35 : decode cX5_withSuffix 35 = .ok (.ifCond .ne 6, 3) := by decide +kernel
theorem dX5_withSuffix_38 : decode cX5_withSuffix 38 = .ok (.goto 33, 3) := by decide +kernel
theorem dX5_withSuffix_41 : decode cX5_withSuffix 41 = .ok (.iload 5, 2) := by decide +kernel
theorem dX5_withSuffix_43 : decode cX5_withSuffix 43 = .ok (.bipush 65, 2) := by decide +kernel
theorem dX5_withSuffix_45 : decode cX5_withSuffix 45 = .ok (.if_icmp .lt 10, 3) := by decide +kernel
theorem dX5_withSuffix_48 : decode cX5_withSuffix 48 = .ok (.iload 5, 2) := by decide +kernel
theorem dX5_withSuffix_50 : decode cX5_withSuffix 50 = .ok (.bipush 90, 2) := by decide +kernel
theorem dX5_withSuffix_52 : decode cX5_withSuffix 52 = .ok (.if_icmp .le 5, 3) := by decide +kernel
theorem dX5_withSuffix_55 : decode cX5_withSuffix 55 = .ok (.iconst 0, 1) := by decide +kernel
theorem dX5_withSuffix_56 : decode cX5_withSuffix 56 = .ok (.ireturn, 1) := by decide +kernel
theorem dX5_withSuffix_57 : decode cX5_withSuffix 57 = .ok (.iload_n 2, 1) := by decide +kernel
theorem dX5_withSuffix_58 : decode cX5_withSuffix 58 = .ok (.iload_n 3, 1) := by decide +kernel
theorem dX5_withSuffix_59 : decode cX5_withSuffix 59 = .ok (.iload 5, 2) := by decide +kernel
theorem dX5_withSuffix_61 : decode cX5_withSuffix 61 = .ok (.bipush 64, 2) := by decide +kernel
theorem dX5_withSuffix_63 : decode cX5_withSuffix 63 = .ok (.isub, 1) := by decide +kernel
theorem dX5_withSuffix_64 : decode cX5_withSuffix 64 = .ok (.invokestatic 19, 3) := by decide +kernel
theorem dX5_withSuffix_67 : decode cX5_withSuffix 67 = .ok (.istore_n 2, 1) := by decide +kernel
theorem dX5_withSuffix_68 : decode cX5_withSuffix 68 = .ok (.iinc 3 1, 3) := by decide +kernel
theorem dX5_withSuffix_71 : decode cX5_withSuffix 71 = .ok (.iinc 4 (-8), 3) := by decide +kernel
theorem dX5_withSuffix_74 : decode cX5_withSuffix 74 = .ok (.goto (-60), 3) := by decide +kernel
theorem dX5_withSuffix_77 : decode cX5_withSuffix 77 = .ok (.iload_n 2, 1) := by decide +kernel
theorem dX5_withSuffix_78 : decode cX5_withSuffix 78 = .ok (.ireturn, 1) := by decide +kernel
set_option maxRecDepth 20000 in
theorem ggX5_between_X5_numberOf : GoodIn wsX5_between wsX5_numberOf := goodIn_r _ [4] (by decide +kernel) (by decide +kernel)
set_option maxRecDepth 20000 in
theorem gX5_between_X5_numberOf : GoodIn wsX5_between (va_wsS RX5 23 yX5_numberOf wsX5_numberOf) := goodIn_app (goodIn_of _ (by decide +kernel)) ggX5_between_X5_numberOf
set_option maxRecDepth 20000 in
theorem ggX5_between_X5_plain : GoodIn wsX5_between wsX5_plain := goodIn_r _ [7] (by decide +kernel) (by decide +kernel)
set_option maxRecDepth 20000 in
theorem gX5_between_X5_plain : GoodIn wsX5_between (va_wsS RX5 26 yX5_plain wsX5_plain) := goodIn_app (goodIn_of _ (by decide +kernel)) ggX5_between_X5_plain
set_option maxRecDepth 20000 in
theorem ggX5_between_X5_leastAbove : GoodIn wsX5_between wsX5_leastAbove := goodIn_r _ [10, 11, 12, 3, 13, 14, 15, 16, 5, 6, 7, 17, 18, 19, 20, 21, 22, 1, 2, 4] (by decide +kernel) (by decide +kernel)
set_option maxRecDepth 20000 in
theorem gX5_between_X5_leastAbove : GoodIn wsX5_between (va_wsS RX5 29 yX5_leastAbove wsX5_leastAbove) := goodIn_app (goodIn_of _ (by decide +kernel)) ggX5_between_X5_leastAbove
theorem dX5_between_0 : decode cX5_between 0 = .ok (.iload_n 1, 1) := by decide +kernel
theorem dX5_between_1 : decode cX5_between 1 = .ok (.ifCond .ne 13, 3) := by decide +kernel
theorem dX5_between_4 : decode cX5_between 4 = .ok (.iload_n 0, 1) := by decide +kernel
theorem dX5_between_5 : decode cX5_between 5 = .ok (.invokestatic 23, 3) := by decide +kernel
theorem dX5_between_8 : decode cX5_between 8 = .ok (.iconst 1, 1) := by decide +kernel
theorem dX5_between_9 : decode cX5_between 9 = .ok (.iadd, 1) := by decide +kernel
theorem dX5_between_10 : decode cX5_between 10 = .ok (.invokestatic 26, 3) := by decide +kernel
theorem dX5_between_13 : decode cX5_between 13 = .ok (.ireturn, 1) := by decide +kernel
theorem dX5_between_14 : decode cX5_between 14 = .ok (.iconst 0, 1) := by decide +kernel
theorem dX5_between_15 : decode cX5_between 15 = .ok (.istore_n 2, 1) := by decide +kernel
theorem dX5_between_16 : decode cX5_between 16 = .ok (.iload_n 2, 1) := by decide +kernel
theorem dX5_between_17 : decode cX5_between 17 = .ok (.iconst 4, 1) := by decide +kernel
theorem dX5_between_18 : decode cX5_between 18 = .ok (.if_icmp .gt 26, 3) := by decide +kernel
theorem dX5_between_21 : decode cX5_between 21 = .ok (.iload_n 0, 1) := by decide +kernel
theorem dX5_between_22 : decode cX5_between 22 = .ok (.iload_n 2, 1) := by decide +kernel
theorem dX5_between_23 : decode cX5_between 23 = .ok (.invokestatic 29, 3) := by decide +kernel
theorem dX5_between_26 : decode cX5_between 26 = .ok (.istore_n 3, 1) := by decide +kernel
theorem dX5_between_27 : decode cX5_between 27 = .ok (.iload_n 3, 1) := by decide +kernel
theorem dX5_between_28 : decode cX5_between 28 = .ok (.ifCond .eq 10, 3) := by decide +kernel
theorem dX5_between_31 : decode cX5_between 31 = .ok (.iload_n 3, 1) := by decide +kernel
theorem dX5_between_32 : decode cX5_between 32 = .ok (.iload_n 1, 1) := by decide +kernel
theorem dX5_between_33 : decode cX5_between 33 = .ok (.if_icmp .ge 5, 3) := by decide +kernel
theorem dX5_between_36 : decode cX5_between 36 = .ok (.iload_n 3, 1) := by decide +kernel
theorem dX5_between_37 : decode cX5_between 37 = .ok (.ireturn, 1) := by decide +kernel
theorem dX5_between_38 : decode cX5_between 38 = .ok (.iinc 2 1, 3) := by decide +kernel
theorem dX5_between_41 : decode cX5_between 41 = .ok (.goto (-25), 3) := by decide +kernel
theorem dX5_between_44 : decode cX5_between 44 = .ok (.iconst 0, 1) := by decide +kernel
theorem dX5_between_45 : decode cX5_between 45 = .ok (.ireturn, 1) := by decide +kernel
set_option maxRecDepth 20000 in
theorem ggX5_leastAbove_X5_lettersIn : GoodIn wsX5_leastAbove wsX5_lettersIn := goodIn_r _ [4, 5, 6, 3, 7] (by decide +kernel) (by decide +kernel)
set_option maxRecDepth 20000 in
theorem gX5_leastAbove_X5_lettersIn : GoodIn wsX5_leastAbove (va_wsS RX5 15 yX5_lettersIn wsX5_lettersIn) := goodIn_app (goodIn_of _ (by decide +kernel)) ggX5_leastAbove_X5_lettersIn
set_option maxRecDepth 20000 in
theorem ggX5_leastAbove_X5_plain : GoodIn wsX5_leastAbove wsX5_plain := goodIn_r _ [10] (by decide +kernel) (by decide +kernel)
set_option maxRecDepth 20000 in
theorem gX5_leastAbove_X5_plain : GoodIn wsX5_leastAbove (va_wsS RX5 26 yX5_plain wsX5_plain) := goodIn_app (goodIn_of _ (by decide +kernel)) ggX5_leastAbove_X5_plain
set_option maxRecDepth 20000 in
theorem ggX5_leastAbove_X5_fillWithA : GoodIn wsX5_leastAbove wsX5_fillWithA := goodIn_r _ [13, 14, 15, 3, 16] (by decide +kernel) (by decide +kernel)
set_option maxRecDepth 20000 in
theorem gX5_leastAbove_X5_fillWithA : GoodIn wsX5_leastAbove (va_wsS RX5 32 yX5_fillWithA wsX5_fillWithA) := goodIn_app (goodIn_of _ (by decide +kernel)) ggX5_leastAbove_X5_fillWithA
set_option maxRecDepth 20000 in
theorem ggX5_leastAbove_X5_setLetter : GoodIn wsX5_leastAbove wsX5_setLetter := goodIn_r _ [16] (by decide +kernel) (by decide +kernel)
set_option maxRecDepth 20000 in
theorem gX5_leastAbove_X5_setLetter : GoodIn wsX5_leastAbove (va_wsS RX5 19 yX5_setLetter wsX5_setLetter) := goodIn_app (goodIn_of _ (by decide +kernel)) ggX5_leastAbove_X5_setLetter
set_option maxRecDepth 20000 in
theorem ggX5_leastAbove_X5_letterOf : GoodIn wsX5_leastAbove wsX5_letterOf := goodIn_r _ [7] (by decide +kernel) (by decide +kernel)
set_option maxRecDepth 20000 in
theorem gX5_leastAbove_X5_letterOf : GoodIn wsX5_leastAbove (va_wsS RX5 11 yX5_letterOf wsX5_letterOf) := goodIn_app (goodIn_of _ (by decide +kernel)) ggX5_leastAbove_X5_letterOf
set_option maxRecDepth 20000 in
theorem ggX5_leastAbove_X5_numberOf : GoodIn wsX5_leastAbove wsX5_numberOf := goodIn_r _ [19] (by decide +kernel) (by decide +kernel)
set_option maxRecDepth 20000 in
theorem gX5_leastAbove_X5_numberOf : GoodIn wsX5_leastAbove (va_wsS RX5 23 yX5_numberOf wsX5_numberOf) := goodIn_app (goodIn_of _ (by decide +kernel)) ggX5_leastAbove_X5_numberOf
theorem dX5_leastAbove_0 : decode cX5_leastAbove 0 = .ok (.iload_n 0, 1) := by decide +kernel
theorem dX5_leastAbove_1 : decode cX5_leastAbove 1 = .ok (.invokestatic 15, 3) := by decide +kernel
theorem dX5_leastAbove_4 : decode cX5_leastAbove 4 = .ok (.istore_n 2, 1) := by decide +kernel
theorem dX5_leastAbove_5 : decode cX5_leastAbove 5 = .ok (.iload_n 0, 1) := by decide +kernel
theorem dX5_leastAbove_6 : decode cX5_leastAbove 6 = .ok (.ifCond .ne 13, 3) := by decide +kernel
theorem dX5_leastAbove_9 : decode cX5_leastAbove 9 = .ok (.iconst 1, 1) := by decide +kernel
theorem dX5_leastAbove_10 : decode cX5_leastAbove 10 = .ok (.invokestatic 26, 3) := by decide +kernel
theorem dX5_leastAbove_13 : decode cX5_leastAbove 13 = .ok (.iconst 0, 1) := by decide +kernel
theorem dX5_leastAbove_14 : decode cX5_leastAbove 14 = .ok (.iload_n 1, 1) := by decide +kernel
theorem dX5_leastAbove_15 : decode cX5_leastAbove 15 = .ok (.invokestatic 32, 3) := by decide +kernel
theorem dX5_leastAbove_18 : decode cX5_leastAbove 18 = .ok (.ireturn, 1) := by decide +kernel
theorem dX5_leastAbove_19 : decode cX5_leastAbove 19 = .ok (.iload_n 2, 1) := by decide +kernel
theorem dX5_leastAbove_20 : decode cX5_leastAbove 20 = .ok (.iload_n 1, 1) := by decide +kernel
theorem dX5_leastAbove_21 : decode cX5_leastAbove 21 = .ok (.if_icmp .ge 10, 3) := by decide +kernel
theorem dX5_leastAbove_24 : decode cX5_leastAbove 24 = .ok (.iload_n 0, 1) := by decide +kernel
theorem dX5_leastAbove_25 : decode cX5_leastAbove 25 = .ok (.iload_n 2, 1) := by decide +kernel
theorem dX5_leastAbove_26 : decode cX5_leastAbove 26 = .ok (.iload_n 1, 1) := by decide +kernel
theorem dX5_leastAbove_27 : decode cX5_leastAbove 27 = .ok (.invokestatic 32, 3) := by decide +kernel
theorem dX5_leastAbove_30 : decode cX5_leastAbove 30 = .ok (.ireturn, 1) := by decide +kernel
theorem dX5_leastAbove_31 : decode cX5_leastAbove 31 = .ok (.iload_n 0, 1) := by decide +kernel
theorem dX5_leastAbove_32 : decode cX5_leastAbove 32 = .ok (.istore_n 3, 1) := by decide +kernel
theorem dX5_leastAbove_33 : decode cX5_leastAbove 33 = .ok (.iload_n 1, 1) := by decide +kernel
theorem dX5_leastAbove_34 : decode cX5_leastAbove 34 = .ok (.istore 4, 2) := by decide +kernel
theorem dX5_leastAbove_36 : decode cX5_leastAbove 36 = .ok (.iload 4, 2) := by decide +kernel
theorem dX5_leastAbove_38 : decode cX5_leastAbove 38 = .ok (.iconst 4, 1) := by decide +kernel
theorem dX5_leastAbove_39 : decode cX5_leastAbove 39 = .ok (.if_icmp .ge 17, 3) := by decide +kernel
theorem dX5_leastAbove_42 : decode cX5_leastAbove 42 = .ok (.iload_n 3, 1) := by decide +kernel
theorem dX5_leastAbove_43 : decode cX5_leastAbove 43 = .ok (.iload 4, 2) := by decide +kernel
theorem dX5_leastAbove_45 : decode cX5_leastAbove 45 = .ok (.iconst 0, 1) := by decide +kernel
theorem dX5_leastAbove_46 : decode cX5_leastAbove 46 = .ok (.invokestatic 19, 3) := by decide +kernel
theorem dX5_leastAbove_49 : decode cX5_leastAbove 49 = .ok (.istore_n 3, 1) := by decide +kernel
theorem dX5_leastAbove_50 : decode cX5_leastAbove 50 = .ok (.iinc 4 1, 3) := by decide +kernel
theorem dX5_leastAbove_53 : decode cX5_leastAbove 53 = .ok (.goto (-17), 3) := by decide +kernel
theorem dX5_leastAbove_56 : decode cX5_leastAbove 56 = .ok (.iload_n 1, 1) := by decide +kernel
theorem dX5_leastAbove_57 : decode cX5_leastAbove 57 = .ok (.iconst 1, 1) := by decide +kernel
theorem dX5_leastAbove_58 : decode cX5_leastAbove 58 = .ok (.isub, 1) := by decide +kernel
theorem dX5_leastAbove_59 : decode cX5_leastAbove 59 = .ok (.istore 4, 2) := by decide +kernel
theorem dX5_leastAbove_61 : decode cX5_leastAbove 61 = .ok (.iload 4, 2) := by decide +kernel
theorem dX5_leastAbove_63 : decode cX5_leastAbove 63 = .ok (.ifCond .lt 43, 3) := by decide +kernel
theorem dX5_leastAbove_66 : decode cX5_leastAbove 66 = .ok (.iload_n 3, 1) := by decide +kernel
theorem dX5_leastAbove_67 : decode cX5_leastAbove 67 = .ok (.iload 4, 2) := by decide +kernel
theorem dX5_leastAbove_69 : decode cX5_leastAbove 69 = .ok (.invokestatic 11, 3) := by decide +kernel
theorem dX5_leastAbove_72 : decode cX5_leastAbove 72 = .ok (.istore 5, 2) := by decide +kernel
theorem dX5_leastAbove_74 : decode cX5_leastAbove 74 = .ok (.iload 5, 2) := by decide +kernel
theorem dX5_leastAbove_76 : decode cX5_leastAbove 76 = .ok (.bipush 26, 2) := by decide +kernel
theorem dX5_leastAbove_78 : decode cX5_leastAbove 78 = .ok (.if_icmp .ge 22, 3) := by decide +kernel
theorem dX5_leastAbove_81 : decode cX5_leastAbove 81 = .ok (.iload_n 3, 1) := by decide +kernel
theorem dX5_leastAbove_82 : decode cX5_leastAbove 82 = .ok (.iload 4, 2) := by decide +kernel
theorem dX5_leastAbove_84 : decode cX5_leastAbove 84 = .ok (.iload 5, 2) := by decide +kernel
theorem dX5_leastAbove_86 : decode cX5_leastAbove 86 = .ok (.iconst 1, 1) := by decide +kernel
theorem dX5_leastAbove_87 : decode cX5_leastAbove 87 = .ok (.iadd, 1) := by decide +kernel
theorem dX5_leastAbove_88 : decode cX5_leastAbove 88 = .ok (.invokestatic 19, 3) := by decide +kernel
theorem dX5_leastAbove_91 : decode cX5_leastAbove 91 = .ok (.iload 4, 2) := by decide +kernel
theorem dX5_leastAbove_93 : decode cX5_leastAbove 93 = .ok (.iconst 1, 1) := by decide +kernel
theorem dX5_leastAbove_94 : decode cX5_leastAbove 94 = .ok (.iadd, 1) := by decide +kernel
theorem dX5_leastAbove_95 : decode cX5_leastAbove 95 = .ok (.iload_n 1, 1) := by decide +kernel
theorem dX5_leastAbove_96 : decode cX5_leastAbove 96 = .ok (.invokestatic 32, 3) := by decide +kernel
theorem dX5_leastAbove_99 : decode cX5_leastAbove 99 = .ok (.ireturn, 1) := by decide +kernel
theorem dX5_leastAbove_100 : decode cX5_leastAbove 100 = .ok (.iinc 4 (-1), 3) := by decide +kernel
theorem dX5_leastAbove_103 : decode cX5_leastAbove 103 = .ok (.goto (-42), 3) := by decide +kernel
theorem dX5_leastAbove_106 : decode cX5_leastAbove 106 = .ok (.iload_n 0, 1) := by decide +kernel
theorem dX5_leastAbove_107 : decode cX5_leastAbove 107 = .ok (.invokestatic 23, 3) := by decide +kernel
theorem dX5_leastAbove_110 : decode cX5_leastAbove 110 = .ok (.iconst 1, 1) := by decide +kernel
theorem dX5_leastAbove_111 : decode cX5_leastAbove 111 = .ok (.iadd, 1) := by decide +kernel
theorem dX5_leastAbove_112 : decode cX5_leastAbove 112 = .ok (.invokestatic 26, 3) := by decide +kernel
theorem dX5_leastAbove_115 : decode cX5_leastAbove 115 = .ok (.istore 4, 2) := by decide +kernel
theorem dX5_leastAbove_117 : decode cX5_leastAbove 117 = .ok (.iload 4, 2) := by decide +kernel
theorem dX5_leastAbove_119 : decode cX5_leastAbove 119 = .ok (.ifCond .ne 7, 3) := by decide +kernel
theorem dX5_leastAbove_122 : decode cX5_leastAbove 122 = .ok (.iconst 0, 1) := by decide +kernel
theorem dX5_leastAbove_123 : decode cX5_leastAbove 123 = .ok (.goto 10, 3) := by decide +kernel
theorem dX5_leastAbove_126 : decode cX5_leastAbove 126 = .ok (.iload 4, 2) := by decide +kernel
theorem dX5_leastAbove_128 : decode cX5_leastAbove 128 = .ok (.iconst 0, 1) := by decide +kernel
theorem dX5_leastAbove_129 : decode cX5_leastAbove 129 = .ok (.iload_n 1, 1) := by decide +kernel
theorem dX5_leastAbove_130 : decode cX5_leastAbove 130 = .ok (.invokestatic 32, 3) := by decide +kernel
theorem dX5_leastAbove_133 : decode cX5_leastAbove 133 = .ok (.ireturn, 1) := by decide +kernel
set_option maxRecDepth 20000 in
theorem ggX5_fillWithA_X5_setLetter : GoodIn wsX5_fillWithA wsX5_setLetter := goodIn_r _ [4] (by decide +kernel) (by decide +kernel)
set_option maxRecDepth 20000 in
theorem gX5_fillWithA_X5_setLetter : GoodIn wsX5_fillWithA (va_wsS RX5 19 yX5_setLetter wsX5_setLetter) := goodIn_app (goodIn_of _ (by decide +kernel)) ggX5_fillWithA_X5_setLetter
theorem dX5_fillWithA_0 : decode cX5_fillWithA 0 = .ok (.iload_n 0, 1) := by decide +kernel
theorem dX5_fillWithA_1 : decode cX5_fillWithA 1 = .ok (.istore_n 3, 1) := by decide +kernel
theorem dX5_fillWithA_2 : decode cX5_fillWithA 2 = .ok (.iload_n 1, 1) := by decide +kernel
theorem dX5_fillWithA_3 : decode cX5_fillWithA 3 = .ok (.istore 4, 2) := by decide +kernel
theorem dX5_fillWithA_5 : decode cX5_fillWithA 5 = .ok (.iload 4, 2) := by decide +kernel
theorem dX5_fillWithA_7 : decode cX5_fillWithA 7 = .ok (.iload_n 2, 1) := by decide +kernel
theorem dX5_fillWithA_8 : decode cX5_fillWithA 8 = .ok (.if_icmp .ge 17, 3) := by decide +kernel
theorem dX5_fillWithA_11 : decode cX5_fillWithA 11 = .ok (.iload_n 3, 1) := by decide +kernel
theorem dX5_fillWithA_12 : decode cX5_fillWithA 12 = .ok (.iload 4, 2) := by decide +kernel
theorem dX5_fillWithA_14 : decode cX5_fillWithA 14 = .ok (.iconst 1, 1) := by decide +kernel
theorem dX5_fillWithA_15 : decode cX5_fillWithA 15 = .ok (.invokestatic 19, 3) := by decide +kernel
theorem dX5_fillWithA_18 : decode cX5_fillWithA 18 = .ok (.istore_n 3, 1) := by decide +kernel
theorem dX5_fillWithA_19 : decode cX5_fillWithA 19 = .ok (.iinc 4 1, 3) := by decide +kernel
theorem dX5_fillWithA_22 : decode cX5_fillWithA 22 = .ok (.goto (-17), 3) := by decide +kernel
theorem dX5_fillWithA_25 : decode cX5_fillWithA 25 = .ok (.iload_n 3, 1) := by decide +kernel
theorem dX5_fillWithA_26 : decode cX5_fillWithA 26 = .ok (.ireturn, 1) := by decide +kernel
theorem dX6_init_0 : decode cX6_init 0 = .ok (.aload_n 0, 1) := by decide +kernel
theorem dX6_init_1 : decode cX6_init 1 = .ok (.invokespecial 3, 3) := by decide +kernel
theorem dX6_init_4 : decode cX6_init 4 = .ok (.aload_n 0, 1) := by decide +kernel
theorem dX6_init_5 : decode cX6_init 5 = .ok (.iconst 4, 1) := by decide +kernel
theorem dX6_init_6 : decode cX6_init 6 = .ok (.newarray .int, 2) := by decide +kernel
theorem dX6_init_8 : decode cX6_init 8 = .ok (.putfield 9, 3) := by decide +kernel
theorem dX6_init_11 : decode cX6_init 11 = .ok (.aload_n 0, 1) := by decide +kernel
theorem dX6_init_12 : decode cX6_init 12 = .ok (.iconst 4, 1) := by decide +kernel
theorem dX6_init_13 : decode cX6_init 13 = .ok (.newarray .boolean, 2) := by decide +kernel
theorem dX6_init_15 : decode cX6_init 15 = .ok (.putfield 15, 3) := by decide +kernel
theorem dX6_init_18 : decode cX6_init 18 = .ok (.return_, 1) := by decide +kernel
theorem dX6_formOf_0 : decode cX6_formOf 0 = .ok (.iload_n 1, 1) := by decide +kernel
theorem dX6_formOf_1 : decode cX6_formOf 1 = .ok (.ifCond .lt 20, 3) := by decide +kernel
theorem dX6_formOf_4 : decode cX6_formOf 4 = .ok (.iload_n 1, 1) := by decide +kernel
theorem dX6_formOf_5 : decode cX6_formOf 5 = .ok (.aload_n 0, 1) := by decide +kernel
theorem dX6_formOf_6 : decode cX6_formOf 6 = .ok (.getfield 19, 3) := by decide +kernel
theorem dX6_formOf_9 : decode cX6_formOf 9 = .ok (.if_icmp .ge 12, 3) := by decide +kernel
theorem dX6_formOf_12 : decode cX6_formOf 12 = .ok (.aload_n 0, 1) := by decide +kernel
theorem dX6_formOf_13 : decode cX6_formOf 13 = .ok (.getfield 9, 3) := by decide +kernel
theorem dX6_formOf_16 : decode cX6_formOf 16 = .ok (.iload_n 1, 1) := by decide +kernel
theorem dX6_formOf_17 : decode cX6_formOf 17 = .ok (.iaload, 1) := by decide +kernel
theorem dX6_formOf_18 : decode cX6_formOf 18 = .ok (.goto 4, 3) := by decide +kernel
theorem dX6_formOf_21 : decode cX6_formOf 21 = .ok (.iconst 0, 1) := by decide +kernel
theorem dX6_formOf_22 : decode cX6_formOf 22 = .ok (.ireturn, 1) := by decide +kernel
theorem dX6_isThrough_0 : decode cX6_isThrough 0 = .ok (.iload_n 1, 1) := by decide +kernel
theorem dX6_isThrough_1 : decode cX6_isThrough 1 = .ok (.ifCond .lt 24, 3) := by decide +kernel
theorem dX6_isThrough_4 : decode cX6_isThrough 4 = .ok (.iload_n 1, 1) := by decide +kernel
theorem dX6_isThrough_5 : decode cX6_isThrough 5 = .ok (.aload_n 0, 1) := by decide +kernel
theorem dX6_isThrough_6 : decode cX6_isThrough 6 = .ok (.getfield 19, 3) := by decide +kernel
theorem dX6_isThrough_9 : decode cX6_isThrough 9 = .ok (.if_icmp .ge 16, 3) := by decide +kernel
theorem dX6_isThrough_12 : decode cX6_isThrough 12 = .ok (.aload_n 0, 1) := by decide +kernel
theorem dX6_isThrough_13 : decode cX6_isThrough 13 = .ok (.getfield 15, 3) := by decide +kernel
theorem dX6_isThrough_16 : decode cX6_isThrough 16 = .ok (.iload_n 1, 1) := by decide +kernel
theorem dX6_isThrough_17 : decode cX6_isThrough 17 = .ok (.baload, 1) := by decide +kernel
theorem dX6_isThrough_18 : decode cX6_isThrough 18 = .ok (.ifCond .eq 7, 3) := by decide +kernel
theorem dX6_isThrough_21 : decode cX6_isThrough 21 = .ok (.iconst 1, 1) := by decide +kernel
theorem dX6_isThrough_22 : decode cX6_isThrough 22 = .ok (.goto 4, 3) := by decide +kernel
theorem dX6_isThrough_25 : decode cX6_isThrough 25 = .ok (.iconst 0, 1) := by decide +kernel
theorem dX6_isThrough_26 : decode cX6_isThrough 26 = .ok (.ireturn, 1) := by decide +kernel
theorem dX6_become_0 : decode cX6_become 0 = .ok (.iconst 0, 1) := by decide +kernel
theorem dX6_become_1 : decode cX6_become 1 = .ok (.istore_n 2, 1) := by decide +kernel
theorem dX6_become_2 : decode cX6_become 2 = .ok (.iload_n 2, 1) := by decide +kernel
theorem dX6_become_3 : decode cX6_become 3 = .ok (.iconst 4, 1) := by decide +kernel
theorem dX6_become_4 : decode cX6_become 4 = .ok (.if_icmp .ge 33, 3) := by decide +kernel
theorem dX6_become_7 : decode cX6_become 7 = .ok (.aload_n 0, 1) := by decide +kernel
theorem dX6_become_8 : decode cX6_become 8 = .ok (.getfield 9, 3) := by decide +kernel
theorem dX6_become_11 : decode cX6_become 11 = .ok (.iload_n 2, 1) := by decide +kernel
theorem dX6_become_12 : decode cX6_become 12 = .ok (.aload_n 1, 1) := by decide +kernel
theorem dX6_become_13 : decode cX6_become 13 = .ok (.getfield 9, 3) := by decide +kernel
theorem dX6_become_16 : decode cX6_become 16 = .ok (.iload_n 2, 1) := by decide +kernel
theorem dX6_become_17 : decode cX6_become 17 = .ok (.iaload, 1) := by decide +kernel
theorem dX6_become_18 : decode cX6_become 18 = .ok (.iastore, 1) := by decide +kernel
theorem dX6_become_19 : decode cX6_become 19 = .ok (.aload_n 0, 1) := by decide +kernel
theorem dX6_become_20 : decode cX6_become 20 = .ok (.getfield 15, 3) := by decide +kernel
theorem dX6_become_23 : decode cX6_become 23 = .ok (.iload_n 2, 1) := by decide +kernel
theorem dX6_become_24 : decode cX6_become 24 = .ok (.aload_n 1, 1) := by decide +kernel
theorem dX6_become_25 : decode cX6_become 25 = .ok (.getfield 15, 3) := by decide +kernel
theorem dX6_become_28 : decode cX6_become 28 = .ok (.iload_n 2, 1) := by decide +kernel
theorem dX6_become_29 : decode cX6_become 29 = .ok (.baload, 1) := by decide +kernel
theorem dX6_become_30 : decode cX6_become 30 = .ok (.bastore, 1) := by decide +kernel
theorem dX6_become_31 : decode cX6_become 31 = .ok (.iinc 2 1, 3) := by decide +kernel
theorem dX6_become_34 : decode cX6_become 34 = .ok (.goto (-32), 3) := by decide +kernel
theorem dX6_become_37 : decode cX6_become 37 = .ok (.aload_n 0, 1) := by decide +kernel
theorem dX6_become_38 : decode cX6_become 38 = .ok (.aload_n 1, 1) := by decide +kernel
theorem dX6_become_39 : decode cX6_become 39 = .ok (.getfield 19, 3) := by decide +kernel
theorem dX6_become_42 : decode cX6_become 42 = .ok (.putfield 19, 3) := by decide +kernel
theorem dX6_become_45 : decode cX6_become 45 = .ok (.return_, 1) := by decide +kernel
theorem dX6_append_0 : decode cX6_append 0 = .ok (.aload_n 0, 1) := by decide +kernel
theorem dX6_append_1 : decode cX6_append 1 = .ok (.getfield 19, 3) := by decide +kernel
theorem dX6_append_4 : decode cX6_append 4 = .ok (.iconst 4, 1) := by decide +kernel
theorem dX6_append_5 : decode cX6_append 5 = .ok (.if_icmp .ge 33, 3) := by decide +kernel
theorem dX6_append_8 : decode cX6_append 8 = .ok (.aload_n 0, 1) := by decide +kernel
theorem dX6_append_9 : decode cX6_append 9 = .ok (.getfield 9, 3) := by decide +kernel
theorem dX6_append_12 : decode cX6_append 12 = .ok (.aload_n 0, 1) := by decide +kernel
theorem dX6_append_13 : decode cX6_append 13 = .ok (.getfield 19, 3) := by decide +kernel
theorem dX6_append_16 : decode cX6_append 16 = .ok (.iload_n 1, 1) := by decide +kernel
theorem dX6_append_17 : decode cX6_append 17 = .ok (.iastore, 1) := by decide +kernel
theorem dX6_append_18 : decode cX6_append 18 = .ok (.aload_n 0, 1) := by decide +kernel
theorem dX6_append_19 : decode cX6_append 19 = .ok (.getfield 15, 3) := by decide +kernel
theorem dX6_append_22 : decode cX6_append 22 = .ok (.aload_n 0, 1) := by decide +kernel
theorem dX6_append_23 : decode cX6_append 23 = .ok (.getfield 19, 3) := by decide +kernel
theorem dX6_append_26 : decode cX6_append 26 = .ok (.iconst 0, 1) := by decide +kernel
theorem dX6_append_27 : decode cX6_append 27 = .ok (.bastore, 1) := by decide +kernel
theorem dX6_append_28 : decode cX6_append 28 = .ok (.aload_n 0, 1) := by decide +kernel
theorem dX6_append_29 : decode cX6_append 29 = .ok (.dup, 1) := by decide +kernel
theorem dX6_append_30 : decode cX6_append 30 = .ok (.getfield 19, 3) := by decide +kernel
theorem dX6_append_33 : decode cX6_append 33 = .ok (.iconst 1, 1) := by decide +kernel
theorem dX6_append_34 : decode cX6_append 34 = .ok (.iadd, 1) := by decide +kernel
theorem dX6_append_35 : decode cX6_append 35 = .ok (.putfield 19, 3) := by decide +kernel
end
section
theorem dX6_append_38 : decode cX6_append 38 = .ok (.return_, 1) := by decide +kernel
theorem dX6_makeLastThrough_0 : decode cX6_makeLastThrough 0 = .ok (.aload_n 0, 1) := by decide +kernel
theorem dX6_makeLastThrough_1 : decode cX6_makeLastThrough 1 = .ok (.getfield 19, 3) := by decide +kernel
theorem dX6_makeLastThrough_4 : decode cX6_makeLastThrough 4 = .ok (.ifCond .le 15, 3) := by decide +kernel
theorem dX6_makeLastThrough_7 : decode cX6_makeLastThrough 7 = .ok (.aload_n 0, 1) := by decide +kernel
theorem dX6_makeLastThrough_8 : decode cX6_makeLastThrough 8 = .ok (.getfield 15, 3) := by decide +kernel
theorem dX6_makeLastThrough_11 : decode cX6_makeLastThrough 11 = .ok (.aload_n 0, 1) := by decide +kernel
theorem dX6_makeLastThrough_12 : decode cX6_makeLastThrough 12 = .ok (.getfield 19, 3) := by decide +kernel
theorem dX6_makeLastThrough_15 : decode cX6_makeLastThrough 15 = .ok (.iconst 1, 1) := by decide +kernel
theorem dX6_makeLastThrough_16 : decode cX6_makeLastThrough 16 = .ok (.isub, 1) := by decide +kernel
theorem dX6_makeLastThrough_17 : decode cX6_makeLastThrough 17 = .ok (.iconst 1, 1) := by decide +kernel
theorem dX6_makeLastThrough_18 : decode cX6_makeLastThrough 18 = .ok (.bastore, 1) := by decide +kernel
theorem dX6_makeLastThrough_19 : decode cX6_makeLastThrough 19 = .ok (.return_, 1) := by decide +kernel
theorem dX7_init_0 : decode cX7_init 0 = .ok (.aload_n 0, 1) := by decide +kernel
theorem dX7_init_1 : decode cX7_init 1 = .ok (.invokespecial 3, 3) := by decide +kernel
theorem dX7_init_4 : decode cX7_init 4 = .ok (.return_, 1) := by decide +kernel
set_option maxRecDepth 20000 in
theorem ggX7_readInto_X8_byteAt : GoodIn wsX7_readInto wsX8_byteAt := goodIn_r _ [10, 11, 12, 107, 108] (by decide +kernel) (by decide +kernel)
set_option maxRecDepth 20000 in
theorem gX7_readInto_X8_byteAt : GoodIn wsX7_readInto (wsV RX7 31 RX8 yX8_byteAt wsX8_byteAt) := goodIn_app (goodIn_of _ (by decide +kernel)) ggX7_readInto_X8_byteAt
set_option maxRecDepth 20000 in
theorem ggX7_readInto_X7_takeSemicolon : GoodIn wsX7_readInto wsX7_takeSemicolon := goodIn_r _ [17, 4, 18, 19, 20, 16, 21, 2, 3, 104, 105, 106] (by decide +kernel) (by decide +kernel)
set_option maxRecDepth 20000 in
theorem gX7_readInto_X7_takeSemicolon : GoodIn wsX7_readInto (wsV RX7 35 RX7 yX7_takeSemicolon wsX7_takeSemicolon) := goodIn_app (goodIn_of _ (by decide +kernel)) ggX7_readInto_X7_takeSemicolon
set_option maxRecDepth 20000 in
theorem ggX7_readInto_X7_isSmallLetter : GoodIn wsX7_readInto wsX7_isSmallLetter := goodIn_r _ [24] (by decide +kernel) (by decide +kernel)
set_option maxRecDepth 20000 in
theorem gX7_readInto_X7_isSmallLetter : GoodIn wsX7_readInto (va_wsS RX7 39 yX7_isSmallLetter wsX7_isSmallLetter) := goodIn_app (goodIn_of _ (by decide +kernel)) ggX7_readInto_X7_isSmallLetter
set_option maxRecDepth 20000 in
theorem ggX7_readInto_X7_wordEnd : GoodIn wsX7_readInto wsX7_wordEnd := goodIn_r _ [27, 5, 6, 7, 8, 9, 10, 11, 12, 22, 23, 16, 24, 107, 108] (by decide +kernel) (by decide +kernel)
set_option maxRecDepth 20000 in
theorem gX7_readInto_X7_wordEnd : GoodIn wsX7_readInto (va_wsS RX7 43 yX7_wordEnd wsX7_wordEnd) := goodIn_app (goodIn_of _ (by decide +kernel)) ggX7_readInto_X7_wordEnd
set_option maxRecDepth 20000 in
theorem ggX7_readInto_X7_takeWord : GoodIn wsX7_readInto wsX7_takeWord := goodIn_r _ [31, 4, 1, 32, 33, 34, 9, 35, 36, 37, 38, 39, 40, 41, 42, 43, 44, 45, 46, 47, 48, 7, 8, 10, 11, 12, 49, 50, 51, 52, 53, 54, 55, 56, 57, 58, 59, 60, 61, 62, 63, 64, 65, 66, 67, 68, 69, 70, 71, 72, 73, 74, 75, 76, 77, 78, 79, 80, 81, 82, 83, 84, 85, 86, 87, 88, 89, 90, 91, 92, 93, 94, 16, 95, 18, 19, 20, 21, 2, 3, 96, 97, 98, 99, 100, 104, 105, 106, 101, 102, 103, 107, 108] (by decide +kernel) (by decide +kernel)
set_option maxRecDepth 20000 in
theorem gX7_readInto_X7_takeWord : GoodIn wsX7_readInto (wsV RX7 47 RX7 yX7_takeWord wsX7_takeWord) := goodIn_app (goodIn_of _ (by decide +kernel)) ggX7_readInto_X7_takeWord
set_option maxRecDepth 20000 in
theorem ggX7_readInto_X7_failAt : GoodIn wsX7_readInto wsX7_failAt := goodIn_r _ [21, 2, 3, 104, 105, 106] (by decide +kernel) (by decide +kernel)
set_option maxRecDepth 20000 in
theorem gX7_readInto_X7_failAt : GoodIn wsX7_readInto (wsV RX7 51 RX7 yX7_failAt wsX7_failAt) := goodIn_app (goodIn_of _ (by decide +kernel)) ggX7_readInto_X7_failAt
theorem dX7_readInto_0 : decode cX7_readInto 0 = .ok (.aload_n 1, 1) := by decide +kernel
theorem dX7_readInto_1 : decode cX7_readInto 1 = .ok (.iconst 0, 1) := by decide +kernel
theorem dX7_readInto_2 : decode cX7_readInto 2 = .ok (.putfield 9, 3) := by decide +kernel
theorem dX7_readInto_5 : decode cX7_readInto 5 = .ok (.aload_n 0, 1) := by decide +kernel
theorem dX7_readInto_6 : decode cX7_readInto 6 = .ok (.iconst 0, 1) := by decide +kernel
theorem dX7_readInto_7 : decode cX7_readInto 7 = .ok (.putfield 15, 3) := by decide +kernel
theorem dX7_readInto_10 : decode cX7_readInto 10 = .ok (.aload_n 0, 1) := by decide +kernel
theorem dX7_readInto_11 : decode cX7_readInto 11 = .ok (.iconst (-1), 1) := by decide +kernel
theorem dX7_readInto_12 : decode cX7_readInto 12 = .ok (.putfield 20, 3) := by decide +kernel
theorem dX7_readInto_15 : decode cX7_readInto 15 = .ok (.aload_n 0, 1) := by decide +kernel
theorem dX7_readInto_16 : decode cX7_readInto 16 = .ok (.iconst 0, 1) := by decide +kernel
theorem dX7_readInto_17 : decode cX7_readInto 17 = .ok (.putfield 23, 3) := by decide +kernel
theorem dX7_readInto_20 : decode cX7_readInto 20 = .ok (.iconst 0, 1) := by decide +kernel
theorem dX7_readInto_21 : decode cX7_readInto 21 = .ok (.istore_n 3, 1) := by decide +kernel
theorem dX7_readInto_22 : decode cX7_readInto 22 = .ok (.iload_n 3, 1) := by decide +kernel
theorem dX7_readInto_23 : decode cX7_readInto 23 = .ok (.aload_n 2, 1) := by decide +kernel
theorem dX7_readInto_24 : decode cX7_readInto 24 = .ok (.getfield 26, 3) := by decide +kernel
theorem dX7_readInto_27 : decode cX7_readInto 27 = .ok (.if_icmp .ge 94, 3) := by decide +kernel
theorem dX7_readInto_30 : decode cX7_readInto 30 = .ok (.aload_n 0, 1) := by decide +kernel
theorem dX7_readInto_31 : decode cX7_readInto 31 = .ok (.getfield 15, 3) := by decide +kernel
theorem dX7_readInto_34 : decode cX7_readInto 34 = .ok (.ifCond .ne 87, 3) := by decide +kernel
theorem dX7_readInto_37 : decode cX7_readInto 37 = .ok (.aload_n 2, 1) := by decide +kernel
theorem dX7_readInto_38 : decode cX7_readInto 38 = .ok (.iload_n 3, 1) := by decide +kernel
theorem dX7_readInto_39 : decode cX7_readInto 39 = .ok (.invokevirtual 31, 3) := by decide +kernel
theorem dX7_readInto_42 : decode cX7_readInto 42 = .ok (.istore 4, 2) := by decide +kernel
theorem dX7_readInto_44 : decode cX7_readInto 44 = .ok (.iload 4, 2) := by decide +kernel
theorem dX7_readInto_46 : decode cX7_readInto 46 = .ok (.bipush 32, 2) := by decide +kernel
theorem dX7_readInto_48 : decode cX7_readInto 48 = .ok (.if_icmp .eq 10, 3) := by decide +kernel
theorem dX7_readInto_51 : decode cX7_readInto 51 = .ok (.iload 4, 2) := by decide +kernel
theorem dX7_readInto_53 : decode cX7_readInto 53 = .ok (.bipush 10, 2) := by decide +kernel
theorem dX7_readInto_55 : decode cX7_readInto 55 = .ok (.if_icmp .ne 9, 3) := by decide +kernel
theorem dX7_readInto_58 : decode cX7_readInto 58 = .ok (.iinc 3 1, 3) := by decide +kernel
theorem dX7_readInto_61 : decode cX7_readInto 61 = .ok (.goto 57, 3) := by decide +kernel
theorem dX7_readInto_64 : decode cX7_readInto 64 = .ok (.iload 4, 2) := by decide +kernel
theorem dX7_readInto_66 : decode cX7_readInto 66 = .ok (.bipush 59, 2) := by decide +kernel
theorem dX7_readInto_68 : decode cX7_readInto 68 = .ok (.if_icmp .ne 14, 3) := by decide +kernel
theorem dX7_readInto_71 : decode cX7_readInto 71 = .ok (.aload_n 0, 1) := by decide +kernel
theorem dX7_readInto_72 : decode cX7_readInto 72 = .ok (.iload_n 3, 1) := by decide +kernel
theorem dX7_readInto_73 : decode cX7_readInto 73 = .ok (.invokevirtual 35, 3) := by decide +kernel
theorem dX7_readInto_76 : decode cX7_readInto 76 = .ok (.iinc 3 1, 3) := by decide +kernel
theorem dX7_readInto_79 : decode cX7_readInto 79 = .ok (.goto 39, 3) := by decide +kernel
theorem dX7_readInto_82 : decode cX7_readInto 82 = .ok (.iload 4, 2) := by decide +kernel
theorem dX7_readInto_84 : decode cX7_readInto 84 = .ok (.invokestatic 39, 3) := by decide +kernel
theorem dX7_readInto_87 : decode cX7_readInto 87 = .ok (.ifCond .eq 25, 3) := by decide +kernel
theorem dX7_readInto_90 : decode cX7_readInto 90 = .ok (.aload_n 2, 1) := by decide +kernel
theorem dX7_readInto_91 : decode cX7_readInto 91 = .ok (.iload_n 3, 1) := by decide +kernel
theorem dX7_readInto_92 : decode cX7_readInto 92 = .ok (.invokestatic 43, 3) := by decide +kernel
theorem dX7_readInto_95 : decode cX7_readInto 95 = .ok (.istore 5, 2) := by decide +kernel
theorem dX7_readInto_97 : decode cX7_readInto 97 = .ok (.aload_n 0, 1) := by decide +kernel
theorem dX7_readInto_98 : decode cX7_readInto 98 = .ok (.aload_n 1, 1) := by decide +kernel
theorem dX7_readInto_99 : decode cX7_readInto 99 = .ok (.aload_n 2, 1) := by decide +kernel
theorem dX7_readInto_100 : decode cX7_readInto 100 = .ok (.iload_n 3, 1) := by decide +kernel
theorem dX7_readInto_101 : decode cX7_readInto 101 = .ok (.iload 5, 2) := by decide +kernel
theorem dX7_readInto_103 : decode cX7_readInto 103 = .ok (.invokevirtual 47, 3) := by decide +kernel
theorem dX7_readInto_106 : decode cX7_readInto 106 = .ok (.iload 5, 2) := by decide +kernel
theorem dX7_readInto_108 : decode cX7_readInto 108 = .ok (.istore_n 3, 1) := by decide +kernel
theorem dX7_readInto_109 : decode cX7_readInto 109 = .ok (.goto 9, 3) := by decide +kernel
theorem dX7_readInto_112 : decode cX7_readInto 112 = .ok (.aload_n 0, 1) := by decide +kernel
theorem dX7_readInto_113 : decode cX7_readInto 113 = .ok (.iload_n 3, 1) := by decide +kernel
theorem dX7_readInto_114 : decode cX7_readInto 114 = .ok (.iconst 1, 1) := by decide +kernel
theorem dX7_readInto_115 : decode cX7_readInto 115 = .ok (.invokevirtual 51, 3) := by decide +kernel
theorem dX7_readInto_118 : decode cX7_readInto 118 = .ok (.goto (-96), 3) := by decide +kernel
theorem dX7_readInto_121 : decode cX7_readInto 121 = .ok (.aload_n 0, 1) := by decide +kernel
theorem dX7_readInto_122 : decode cX7_readInto 122 = .ok (.getfield 15, 3) := by decide +kernel
theorem dX7_readInto_125 : decode cX7_readInto 125 = .ok (.ifCond .ne 26, 3) := by decide +kernel
theorem dX7_readInto_128 : decode cX7_readInto 128 = .ok (.aload_n 0, 1) := by decide +kernel
theorem dX7_readInto_129 : decode cX7_readInto 129 = .ok (.getfield 23, 3) := by decide +kernel
theorem dX7_readInto_132 : decode cX7_readInto 132 = .ok (.ifCond .ne 10, 3) := by decide +kernel
theorem dX7_readInto_135 : decode cX7_readInto 135 = .ok (.aload_n 1, 1) := by decide +kernel
theorem dX7_readInto_136 : decode cX7_readInto 136 = .ok (.getfield 9, 3) := by decide +kernel
theorem dX7_readInto_139 : decode cX7_readInto 139 = .ok (.ifCond .ne 12, 3) := by decide +kernel
theorem dX7_readInto_142 : decode cX7_readInto 142 = .ok (.aload_n 0, 1) := by decide +kernel
theorem dX7_readInto_143 : decode cX7_readInto 143 = .ok (.aload_n 2, 1) := by decide +kernel
theorem dX7_readInto_144 : decode cX7_readInto 144 = .ok (.getfield 26, 3) := by decide +kernel
theorem dX7_readInto_147 : decode cX7_readInto 147 = .ok (.iconst 2, 1) := by decide +kernel
theorem dX7_readInto_148 : decode cX7_readInto 148 = .ok (.invokevirtual 51, 3) := by decide +kernel
theorem dX7_readInto_151 : decode cX7_readInto 151 = .ok (.return_, 1) := by decide +kernel
theorem dX7_failAt_0 : decode cX7_failAt 0 = .ok (.aload_n 0, 1) := by decide +kernel
theorem dX7_failAt_1 : decode cX7_failAt 1 = .ok (.iload_n 2, 1) := by decide +kernel
theorem dX7_failAt_2 : decode cX7_failAt 2 = .ok (.putfield 15, 3) := by decide +kernel
theorem dX7_failAt_5 : decode cX7_failAt 5 = .ok (.aload_n 0, 1) := by decide +kernel
theorem dX7_failAt_6 : decode cX7_failAt 6 = .ok (.iload_n 1, 1) := by decide +kernel
theorem dX7_failAt_7 : decode cX7_failAt 7 = .ok (.putfield 20, 3) := by decide +kernel
theorem dX7_failAt_10 : decode cX7_failAt 10 = .ok (.return_, 1) := by decide +kernel
set_option maxRecDepth 20000 in
theorem ggX7_takeSemicolon_X7_failAt : GoodIn wsX7_takeSemicolon wsX7_failAt := goodIn_r _ [6, 7, 8, 9, 10, 11] (by decide +kernel) (by decide +kernel)
set_option maxRecDepth 20000 in
theorem gX7_takeSemicolon_X7_failAt : GoodIn wsX7_takeSemicolon (wsV RX7 51 RX7 yX7_failAt wsX7_failAt) := goodIn_app (goodIn_of _ (by decide +kernel)) ggX7_takeSemicolon_X7_failAt
theorem dX7_takeSemicolon_0 : decode cX7_takeSemicolon 0 = .ok (.aload_n 0, 1) := by decide +kernel
theorem dX7_takeSemicolon_1 : decode cX7_takeSemicolon 1 = .ok (.getfield 23, 3) := by decide +kernel
theorem dX7_takeSemicolon_4 : decode cX7_takeSemicolon 4 = .ok (.ifCond .ne 9, 3) := by decide +kernel
theorem dX7_takeSemicolon_7 : decode cX7_takeSemicolon 7 = .ok (.aload_n 0, 1) := by decide +kernel
theorem dX7_takeSemicolon_8 : decode cX7_takeSemicolon 8 = .ok (.iload_n 1, 1) := by decide +kernel
theorem dX7_takeSemicolon_9 : decode cX7_takeSemicolon 9 = .ok (.iconst 2, 1) := by decide +kernel
theorem dX7_takeSemicolon_10 : decode cX7_takeSemicolon 10 = .ok (.invokevirtual 51, 3) := by decide +kernel
theorem dX7_takeSemicolon_13 : decode cX7_takeSemicolon 13 = .ok (.aload_n 0, 1) := by decide +kernel
theorem dX7_takeSemicolon_14 : decode cX7_takeSemicolon 14 = .ok (.iconst 0, 1) := by decide +kernel
theorem dX7_takeSemicolon_15 : decode cX7_takeSemicolon 15 = .ok (.putfield 23, 3) := by decide +kernel
theorem dX7_takeSemicolon_18 : decode cX7_takeSemicolon 18 = .ok (.return_, 1) := by decide +kernel
set_option maxRecDepth 20000 in
theorem ggX7_takeWord_X8_isWord : GoodIn wsX7_takeWord wsX8_isWord := goodIn_r _ [7, 8, 9, 10, 11, 12, 13, 14, 15, 16, 17, 18, 19, 20, 21, 22, 6, 23, 24, 25, 26, 27, 28, 29, 30, 31, 32, 33, 34, 35, 36, 37, 38, 39, 40, 41, 42, 43, 44, 45, 46, 47, 48, 49, 50, 51, 52, 53, 54, 55, 56, 57, 58, 59, 60, 61, 62, 91, 92] (by decide +kernel) (by decide +kernel)
set_option maxRecDepth 20000 in
theorem gX7_takeWord_X8_isWord : GoodIn wsX7_takeWord (wsV RX7 57 RX8 yX8_isWord wsX8_isWord) := goodIn_app (goodIn_of _ (by decide +kernel)) ggX7_takeWord_X8_isWord
set_option maxRecDepth 20000 in
theorem ggX7_takeWord_X6_makeLastThrough : GoodIn wsX7_takeWord wsX6_makeLastThrough := goodIn_r _ [67, 68, 69, 88, 89, 90] (by decide +kernel) (by decide +kernel)
set_option maxRecDepth 20000 in
theorem gX7_takeWord_X6_makeLastThrough : GoodIn wsX7_takeWord (wsV RX7 61 RX6 yX6_makeLastThrough wsX6_makeLastThrough) := goodIn_app (goodIn_of _ (by decide +kernel)) ggX7_takeWord_X6_makeLastThrough
set_option maxRecDepth 20000 in
theorem ggX7_takeWord_X7_formNamed : GoodIn wsX7_takeWord wsX7_formNamed := goodIn_r _ [73, 3, 4, 5, 6, 7, 8, 9, 10, 11, 12, 13, 14, 15, 16, 17, 18, 19, 20, 21, 22, 23, 24, 25, 26, 27, 28, 29, 30, 31, 32, 33, 34, 35, 36, 37, 38, 39, 40, 41, 42, 43, 44, 45, 46, 47, 48, 49, 50, 51, 52, 53, 54, 55, 56, 57, 58, 59, 60, 61, 62, 91, 92] (by decide +kernel) (by decide +kernel)
set_option maxRecDepth 20000 in
theorem gX7_takeWord_X7_formNamed : GoodIn wsX7_takeWord (va_wsS RX7 64 yX7_formNamed wsX7_formNamed) := goodIn_app (goodIn_of _ (by decide +kernel)) ggX7_takeWord_X7_formNamed
set_option maxRecDepth 20000 in
theorem ggX7_takeWord_X7_failAt : GoodIn wsX7_takeWord wsX7_failAt := goodIn_r _ [77, 78, 79, 85, 86, 87] (by decide +kernel) (by decide +kernel)
set_option maxRecDepth 20000 in
theorem gX7_takeWord_X7_failAt : GoodIn wsX7_takeWord (wsV RX7 51 RX7 yX7_failAt wsX7_failAt) := goodIn_app (goodIn_of _ (by decide +kernel)) ggX7_takeWord_X7_failAt
set_option maxRecDepth 20000 in
theorem ggX7_takeWord_X6_append : GoodIn wsX7_takeWord wsX6_append := goodIn_r _ [83, 68, 84, 69, 88, 89, 90] (by decide +kernel) (by decide +kernel)
set_option maxRecDepth 20000 in
theorem gX7_takeWord_X6_append : GoodIn wsX7_takeWord (wsV RX7 68 RX6 yX6_append wsX6_append) := goodIn_app (goodIn_of _ (by decide +kernel)) ggX7_takeWord_X6_append
theorem dX7_takeWord_0 : decode cX7_takeWord 0 = .ok (.aload_n 0, 1) := by decide +kernel
theorem dX7_takeWord_1 : decode cX7_takeWord 1 = .ok (.getfield 23, 3) := by decide +kernel
theorem dX7_takeWord_4 : decode cX7_takeWord 4 = .ok (.iconst 1, 1) := by decide +kernel
theorem dX7_takeWord_5 : decode cX7_takeWord 5 = .ok (.if_icmp .ne 25, 3) := by decide +kernel
theorem dX7_takeWord_8 : decode cX7_takeWord 8 = .ok (.aload_n 2, 1) := by decide +kernel
theorem dX7_takeWord_9 : decode cX7_takeWord 9 = .ok (.iload_n 3, 1) := by decide +kernel
theorem dX7_takeWord_10 : decode cX7_takeWord 10 = .ok (.iload 4, 2) := by decide +kernel
theorem dX7_takeWord_12 : decode cX7_takeWord 12 = .ok (.ldc 55, 2) := by decide +kernel
theorem dX7_takeWord_14 : decode cX7_takeWord 14 = .ok (.invokevirtual 57, 3) := by decide +kernel
theorem dX7_takeWord_17 : decode cX7_takeWord 17 = .ok (.ifCond .eq 13, 3) := by decide +kernel
theorem dX7_takeWord_20 : decode cX7_takeWord 20 = .ok (.aload_n 1, 1) := by decide +kernel
theorem dX7_takeWord_21 : decode cX7_takeWord 21 = .ok (.invokevirtual 61, 3) := by decide +kernel
theorem dX7_takeWord_24 : decode cX7_takeWord 24 = .ok (.aload_n 0, 1) := by decide +kernel
theorem dX7_takeWord_25 : decode cX7_takeWord 25 = .ok (.iconst 2, 1) := by decide +kernel
theorem dX7_takeWord_26 : decode cX7_takeWord 26 = .ok (.putfield 23, 3) := by decide +kernel
theorem dX7_takeWord_29 : decode cX7_takeWord 29 = .ok (.return_, 1) := by decide +kernel
theorem dX7_takeWord_30 : decode cX7_takeWord 30 = .ok (.aload_n 2, 1) := by decide +kernel
theorem dX7_takeWord_31 : decode cX7_takeWord 31 = .ok (.iload_n 3, 1) := by decide +kernel
theorem dX7_takeWord_32 : decode cX7_takeWord 32 = .ok (.iload 4, 2) := by decide +kernel
theorem dX7_takeWord_34 : decode cX7_takeWord 34 = .ok (.invokestatic 64, 3) := by decide +kernel
theorem dX7_takeWord_37 : decode cX7_takeWord 37 = .ok (.istore 5, 2) := by decide +kernel
theorem dX7_takeWord_39 : decode cX7_takeWord 39 = .ok (.aload_n 0, 1) := by decide +kernel
theorem dX7_takeWord_40 : decode cX7_takeWord 40 = .ok (.getfield 23, 3) := by decide +kernel
theorem dX7_takeWord_43 : decode cX7_takeWord 43 = .ok (.ifCond .ne 9, 3) := by decide +kernel
theorem dX7_takeWord_46 : decode cX7_takeWord 46 = .ok (.iload 5, 2) := by decide +kernel
theorem dX7_takeWord_48 : decode cX7_takeWord 48 = .ok (.iconst (-1), 1) := by decide +kernel
theorem dX7_takeWord_49 : decode cX7_takeWord 49 = .ok (.if_icmp .ne 12, 3) := by decide +kernel
theorem dX7_takeWord_52 : decode cX7_takeWord 52 = .ok (.aload_n 0, 1) := by decide +kernel
theorem dX7_takeWord_53 : decode cX7_takeWord 53 = .ok (.iload_n 3, 1) := by decide +kernel
theorem dX7_takeWord_54 : decode cX7_takeWord 54 = .ok (.iconst 2, 1) := by decide +kernel
theorem dX7_takeWord_55 : decode cX7_takeWord 55 = .ok (.invokevirtual 51, 3) := by decide +kernel
theorem dX7_takeWord_58 : decode cX7_takeWord 58 = .ok (.goto 31, 3) := by decide +kernel
theorem dX7_takeWord_61 : decode cX7_takeWord 61 = .ok (.aload_n 1, 1) := by decide +kernel
theorem dX7_takeWord_62 : decode cX7_takeWord 62 = .ok (.getfield 9, 3) := by decide +kernel
theorem dX7_takeWord_65 : decode cX7_takeWord 65 = .ok (.iconst 4, 1) := by decide +kernel
theorem dX7_takeWord_66 : decode cX7_takeWord 66 = .ok (.if_icmp .ne 12, 3) := by decide +kernel
theorem dX7_takeWord_69 : decode cX7_takeWord 69 = .ok (.aload_n 0, 1) := by decide +kernel
theorem dX7_takeWord_70 : decode cX7_takeWord 70 = .ok (.iload_n 3, 1) := by decide +kernel
theorem dX7_takeWord_71 : decode cX7_takeWord 71 = .ok (.iconst 3, 1) := by decide +kernel
theorem dX7_takeWord_72 : decode cX7_takeWord 72 = .ok (.invokevirtual 51, 3) := by decide +kernel
theorem dX7_takeWord_75 : decode cX7_takeWord 75 = .ok (.goto 14, 3) := by decide +kernel
theorem dX7_takeWord_78 : decode cX7_takeWord 78 = .ok (.aload_n 1, 1) := by decide +kernel
theorem dX7_takeWord_79 : decode cX7_takeWord 79 = .ok (.iload 5, 2) := by decide +kernel
theorem dX7_takeWord_81 : decode cX7_takeWord 81 = .ok (.invokevirtual 68, 3) := by decide +kernel
theorem dX7_takeWord_84 : decode cX7_takeWord 84 = .ok (.aload_n 0, 1) := by decide +kernel
theorem dX7_takeWord_85 : decode cX7_takeWord 85 = .ok (.iconst 1, 1) := by decide +kernel
theorem dX7_takeWord_86 : decode cX7_takeWord 86 = .ok (.putfield 23, 3) := by decide +kernel
theorem dX7_takeWord_89 : decode cX7_takeWord 89 = .ok (.return_, 1) := by decide +kernel
theorem dX7_isSmallLetter_0 : decode cX7_isSmallLetter 0 = .ok (.iload_n 0, 1) := by decide +kernel
theorem dX7_isSmallLetter_1 : decode cX7_isSmallLetter 1 = .ok (.bipush 97, 2) := by decide +kernel
theorem dX7_isSmallLetter_3 : decode cX7_isSmallLetter 3 = .ok (.if_icmp .lt 13, 3) := by decide +kernel
theorem dX7_isSmallLetter_6 : decode cX7_isSmallLetter 6 = .ok (.iload_n 0, 1) := by decide +kernel
theorem dX7_isSmallLetter_7 : decode cX7_isSmallLetter 7 = .ok (.bipush 122, 2) := by decide +kernel
theorem dX7_isSmallLetter_9 : decode cX7_isSmallLetter 9 = .ok (.if_icmp .gt 7, 3) := by decide +kernel
theorem dX7_isSmallLetter_12 : decode cX7_isSmallLetter 12 = .ok (.iconst 1, 1) := by decide +kernel
theorem dX7_isSmallLetter_13 : decode cX7_isSmallLetter 13 = .ok (.goto 4, 3) := by decide +kernel
theorem dX7_isSmallLetter_16 : decode cX7_isSmallLetter 16 = .ok (.iconst 0, 1) := by decide +kernel
theorem dX7_isSmallLetter_17 : decode cX7_isSmallLetter 17 = .ok (.ireturn, 1) := by decide +kernel
set_option maxRecDepth 20000 in
theorem ggX7_wordEnd_X8_byteAt : GoodIn wsX7_wordEnd wsX8_byteAt := goodIn_r _ [6, 7, 8, 13, 14] (by decide +kernel) (by decide +kernel)
set_option maxRecDepth 20000 in
theorem gX7_wordEnd_X8_byteAt : GoodIn wsX7_wordEnd (wsV RX7 31 RX8 yX8_byteAt wsX8_byteAt) := goodIn_app (goodIn_of _ (by decide +kernel)) ggX7_wordEnd_X8_byteAt
set_option maxRecDepth 20000 in
theorem ggX7_wordEnd_X7_isSmallLetter : GoodIn wsX7_wordEnd wsX7_isSmallLetter := goodIn_r _ [12] (by decide +kernel) (by decide +kernel)
set_option maxRecDepth 20000 in
theorem gX7_wordEnd_X7_isSmallLetter : GoodIn wsX7_wordEnd (va_wsS RX7 39 yX7_isSmallLetter wsX7_isSmallLetter) := goodIn_app (goodIn_of _ (by decide +kernel)) ggX7_wordEnd_X7_isSmallLetter
theorem dX7_wordEnd_0 : decode cX7_wordEnd 0 = .ok (.iload_n 1, 1) := by decide +kernel
theorem dX7_wordEnd_1 : decode cX7_wordEnd 1 = .ok (.iconst 1, 1) := by decide +kernel
theorem dX7_wordEnd_2 : decode cX7_wordEnd 2 = .ok (.iadd, 1) := by decide +kernel
theorem dX7_wordEnd_3 : decode cX7_wordEnd 3 = .ok (.istore_n 2, 1) := by decide +kernel
theorem dX7_wordEnd_4 : decode cX7_wordEnd 4 = .ok (.iload_n 2, 1) := by decide +kernel
theorem dX7_wordEnd_5 : decode cX7_wordEnd 5 = .ok (.aload_n 0, 1) := by decide +kernel
theorem dX7_wordEnd_6 : decode cX7_wordEnd 6 = .ok (.getfield 26, 3) := by decide +kernel
theorem dX7_wordEnd_9 : decode cX7_wordEnd 9 = .ok (.if_icmp .ge 20, 3) := by decide +kernel
theorem dX7_wordEnd_12 : decode cX7_wordEnd 12 = .ok (.aload_n 0, 1) := by decide +kernel
theorem dX7_wordEnd_13 : decode cX7_wordEnd 13 = .ok (.iload_n 2, 1) := by decide +kernel
theorem dX7_wordEnd_14 : decode cX7_wordEnd 14 = .ok (.invokevirtual 31, 3) := by decide +kernel
theorem dX7_wordEnd_17 : decode cX7_wordEnd 17 = .ok (.invokestatic 39, 3) := by decide +kernel
theorem dX7_wordEnd_20 : decode cX7_wordEnd 20 = .ok (.ifCond .eq 9, 3) := by decide +kernel
theorem dX7_wordEnd_23 : decode cX7_wordEnd 23 = .ok (.iinc 2 1, 3) := by decide +kernel
theorem dX7_wordEnd_26 : decode cX7_wordEnd 26 = .ok (.goto (-22), 3) := by decide +kernel
theorem dX7_wordEnd_29 : decode cX7_wordEnd 29 = .ok (.iload_n 2, 1) := by decide +kernel
theorem dX7_wordEnd_30 : decode cX7_wordEnd 30 = .ok (.ireturn, 1) := by decide +kernel
set_option maxRecDepth 20000 in
theorem ggX7_formNamed_X8_isWord : GoodIn wsX7_formNamed wsX8_isWord := goodIn_r _ [5, 6, 7, 8, 9, 10, 11, 12, 13, 14, 15, 16, 17, 18, 19, 20, 4, 21, 22, 23, 24, 25, 26, 27, 28, 29, 30, 31, 32, 33, 34, 35, 36, 37, 38, 39, 40, 41, 42, 43, 44, 45, 46, 47, 48, 49, 50, 51, 52, 53, 54, 55, 56, 57, 58, 59, 60, 61, 62] (by decide +kernel) (by decide +kernel)
set_option maxRecDepth 20000 in
theorem gX7_formNamed_X8_isWord : GoodIn wsX7_formNamed (wsV RX7 57 RX8 yX8_isWord wsX8_isWord) := goodIn_app (goodIn_of _ (by decide +kernel)) ggX7_formNamed_X8_isWord
theorem dX7_formNamed_0 : decode cX7_formNamed 0 = .ok (.aload_n 0, 1) := by decide +kernel
theorem dX7_formNamed_1 : decode cX7_formNamed 1 = .ok (.iload_n 1, 1) := by decide +kernel
theorem dX7_formNamed_2 : decode cX7_formNamed 2 = .ok (.iload_n 2, 1) := by decide +kernel
theorem dX7_formNamed_3 : decode cX7_formNamed 3 = .ok (.ldc 71, 2) := by decide +kernel
theorem dX7_formNamed_5 : decode cX7_formNamed 5 = .ok (.invokevirtual 57, 3) := by decide +kernel
theorem dX7_formNamed_8 : decode cX7_formNamed 8 = .ok (.ifCond .eq 5, 3) := by decide +kernel
theorem dX7_formNamed_11 : decode cX7_formNamed 11 = .ok (.iconst 0, 1) := by decide +kernel
theorem dX7_formNamed_12 : decode cX7_formNamed 12 = .ok (.ireturn, 1) := by decide +kernel
theorem dX7_formNamed_13 : decode cX7_formNamed 13 = .ok (.aload_n 0, 1) := by decide +kernel
theorem dX7_formNamed_14 : decode cX7_formNamed 14 = .ok (.iload_n 1, 1) := by decide +kernel
theorem dX7_formNamed_15 : decode cX7_formNamed 15 = .ok (.iload_n 2, 1) := by decide +kernel
theorem dX7_formNamed_16 : decode cX7_formNamed 16 = .ok (.ldc 73, 2) := by decide +kernel
theorem dX7_formNamed_18 : decode cX7_formNamed 18 = .ok (.invokevirtual 57, 3) := by decide +kernel
theorem dX7_formNamed_21 : decode cX7_formNamed 21 = .ok (.ifCond .eq 5, 3) := by decide +kernel
theorem dX7_formNamed_24 : decode cX7_formNamed 24 = .ok (.iconst 1, 1) := by decide +kernel
theorem dX7_formNamed_25 : decode cX7_formNamed 25 = .ok (.ireturn, 1) := by decide +kernel
theorem dX7_formNamed_26 : decode cX7_formNamed 26 = .ok (.aload_n 0, 1) := by decide +kernel
theorem dX7_formNamed_27 : decode cX7_formNamed 27 = .ok (.iload_n 1, 1) := by decide +kernel
theorem dX7_formNamed_28 : decode cX7_formNamed 28 = .ok (.iload_n 2, 1) := by decide +kernel
theorem dX7_formNamed_29 : decode cX7_formNamed 29 = .ok (.ldc 75, 2) := by decide +kernel
theorem dX7_formNamed_31 : decode cX7_formNamed 31 = .ok (.invokevirtual 57, 3) := by decide +kernel
theorem dX7_formNamed_34 : decode cX7_formNamed 34 = .ok (.ifCond .eq 5, 3) := by decide +kernel
theorem dX7_formNamed_37 : decode cX7_formNamed 37 = .ok (.iconst 2, 1) := by decide +kernel
theorem dX7_formNamed_38 : decode cX7_formNamed 38 = .ok (.ireturn, 1) := by decide +kernel
theorem dX7_formNamed_39 : decode cX7_formNamed 39 = .ok (.aload_n 0, 1) := by decide +kernel
theorem dX7_formNamed_40 : decode cX7_formNamed 40 = .ok (.iload_n 1, 1) := by decide +kernel
theorem dX7_formNamed_41 : decode cX7_formNamed 41 = .ok (.iload_n 2, 1) := by decide +kernel
theorem dX7_formNamed_42 : decode cX7_formNamed 42 = .ok (.ldc 77, 2) := by decide +kernel
theorem dX7_formNamed_44 : decode cX7_formNamed 44 = .ok (.invokevirtual 57, 3) := by decide +kernel
theorem dX7_formNamed_47 : decode cX7_formNamed 47 = .ok (.ifCond .eq 7, 3) := by decide +kernel
theorem dX7_formNamed_50 : decode cX7_formNamed 50 = .ok (.iconst 3, 1) := by decide +kernel
theorem dX7_formNamed_51 : decode cX7_formNamed 51 = .ok (.goto 4, 3) := by decide +kernel
theorem dX7_formNamed_54 : decode cX7_formNamed 54 = .ok (.iconst (-1), 1) := by decide +kernel
theorem dX7_formNamed_55 : decode cX7_formNamed 55 = .ok (.ireturn, 1) := by decide +kernel
theorem dX8_init_0 : decode cX8_init 0 = .ok (.aload_n 0, 1) := by decide +kernel
theorem dX8_init_1 : decode cX8_init 1 = .ok (.invokespecial 3, 3) := by decide +kernel
theorem dX8_init_4 : decode cX8_init 4 = .ok (.aload_n 0, 1) := by decide +kernel
theorem dX8_init_5 : decode cX8_init 5 = .ok (.sipush 200, 3) := by decide +kernel
theorem dX8_init_8 : decode cX8_init 8 = .ok (.newarray .int, 2) := by decide +kernel
theorem dX8_init_10 : decode cX8_init 10 = .ok (.putfield 9, 3) := by decide +kernel
theorem dX8_init_13 : decode cX8_init 13 = .ok (.return_, 1) := by decide +kernel
theorem dX8_put_0 : decode cX8_put 0 = .ok (.aload_n 0, 1) := by decide +kernel
theorem dX8_put_1 : decode cX8_put 1 = .ok (.getfield 15, 3) := by decide +kernel
theorem dX8_put_4 : decode cX8_put 4 = .ok (.aload_n 0, 1) := by decide +kernel
theorem dX8_put_5 : decode cX8_put 5 = .ok (.getfield 9, 3) := by decide +kernel
theorem dX8_put_8 : decode cX8_put 8 = .ok (.arraylength, 1) := by decide +kernel
theorem dX8_put_9 : decode cX8_put 9 = .ok (.if_icmp .ge 23, 3) := by decide +kernel
theorem dX8_put_12 : decode cX8_put 12 = .ok (.aload_n 0, 1) := by decide +kernel
theorem dX8_put_13 : decode cX8_put 13 = .ok (.getfield 9, 3) := by decide +kernel
theorem dX8_put_16 : decode cX8_put 16 = .ok (.aload_n 0, 1) := by decide +kernel
theorem dX8_put_17 : decode cX8_put 17 = .ok (.getfield 15, 3) := by decide +kernel
theorem dX8_put_20 : decode cX8_put 20 = .ok (.iload_n 1, 1) := by decide +kernel
theorem dX8_put_21 : decode cX8_put 21 = .ok (.iastore, 1) := by decide +kernel
theorem dX8_put_22 : decode cX8_put 22 = .ok (.aload_n 0, 1) := by decide +kernel
theorem dX8_put_23 : decode cX8_put 23 = .ok (.dup, 1) := by decide +kernel
theorem dX8_put_24 : decode cX8_put 24 = .ok (.getfield 15, 3) := by decide +kernel
theorem dX8_put_27 : decode cX8_put 27 = .ok (.iconst 1, 1) := by decide +kernel
theorem dX8_put_28 : decode cX8_put 28 = .ok (.iadd, 1) := by decide +kernel
theorem dX8_put_29 : decode cX8_put 29 = .ok (.putfield 15, 3) := by decide +kernel
theorem dX8_put_32 : decode cX8_put 32 = .ok (.return_, 1) := by decide +kernel
set_option maxRecDepth 20000 in
theorem ggX8_putFour_X8_put : GoodIn wsX8_putFour wsX8_put := goodIn_r _ [5, 6, 7, 8, 9] (by decide +kernel) (by decide +kernel)
set_option maxRecDepth 20000 in
theorem gX8_putFour_X8_put : GoodIn wsX8_putFour (wsV RX8 19 RX8 yX8_put wsX8_put) := goodIn_app (goodIn_of _ (by decide +kernel)) ggX8_putFour_X8_put
theorem dX8_putFour_0 : decode cX8_putFour 0 = .ok (.aload_n 0, 1) := by decide +kernel
theorem dX8_putFour_1 : decode cX8_putFour 1 = .ok (.iload_n 1, 1) := by decide +kernel
theorem dX8_putFour_2 : decode cX8_putFour 2 = .ok (.bipush 24, 2) := by decide +kernel
theorem dX8_putFour_4 : decode cX8_putFour 4 = .ok (.iushr, 1) := by decide +kernel
theorem dX8_putFour_5 : decode cX8_putFour 5 = .ok (.invokevirtual 19, 3) := by decide +kernel
theorem dX8_putFour_8 : decode cX8_putFour 8 = .ok (.aload_n 0, 1) := by decide +kernel
theorem dX8_putFour_9 : decode cX8_putFour 9 = .ok (.iload_n 1, 1) := by decide +kernel
theorem dX8_putFour_10 : decode cX8_putFour 10 = .ok (.bipush 16, 2) := by decide +kernel
theorem dX8_putFour_12 : decode cX8_putFour 12 = .ok (.iushr, 1) := by decide +kernel
theorem dX8_putFour_13 : decode cX8_putFour 13 = .ok (.sipush 255, 3) := by decide +kernel
theorem dX8_putFour_16 : decode cX8_putFour 16 = .ok (.iand, 1) := by decide +kernel
theorem dX8_putFour_17 : decode cX8_putFour 17 = .ok (.invokevirtual 19, 3) := by decide +kernel
theorem dX8_putFour_20 : decode cX8_putFour 20 = .ok (.aload_n 0, 1) := by decide +kernel
theorem dX8_putFour_21 : decode cX8_putFour 21 = .ok (.iload_n 1, 1) := by decide +kernel
theorem dX8_putFour_22 : decode cX8_putFour 22 = .ok (.bipush 8, 2) := by decide +kernel
theorem dX8_putFour_24 : decode cX8_putFour 24 = .ok (.iushr, 1) := by decide +kernel
theorem dX8_putFour_25 : decode cX8_putFour 25 = .ok (.sipush 255, 3) := by decide +kernel
theorem dX8_putFour_28 : decode cX8_putFour 28 = .ok (.iand, 1) := by decide +kernel
theorem dX8_putFour_29 : decode cX8_putFour 29 = .ok (.invokevirtual 19, 3) := by decide +kernel
theorem dX8_putFour_32 : decode cX8_putFour 32 = .ok (.aload_n 0, 1) := by decide +kernel
theorem dX8_putFour_33 : decode cX8_putFour 33 = .ok (.iload_n 1, 1) := by decide +kernel
theorem dX8_putFour_34 : decode cX8_putFour 34 = .ok (.sipush 255, 3) := by decide +kernel
theorem dX8_putFour_37 : decode cX8_putFour 37 = .ok (.iand, 1) := by decide +kernel
theorem dX8_putFour_38 : decode cX8_putFour 38 = .ok (.invokevirtual 19, 3) := by decide +kernel
theorem dX8_putFour_41 : decode cX8_putFour 41 = .ok (.return_, 1) := by decide +kernel
theorem dX8_byteAt_0 : decode cX8_byteAt 0 = .ok (.iload_n 1, 1) := by decide +kernel
theorem dX8_byteAt_1 : decode cX8_byteAt 1 = .ok (.ifCond .lt 29, 3) := by decide +kernel
theorem dX8_byteAt_4 : decode cX8_byteAt 4 = .ok (.iload_n 1, 1) := by decide +kernel
theorem dX8_byteAt_5 : decode cX8_byteAt 5 = .ok (.aload_n 0, 1) := by decide +kernel
theorem dX8_byteAt_6 : decode cX8_byteAt 6 = .ok (.getfield 15, 3) := by decide +kernel
theorem dX8_byteAt_9 : decode cX8_byteAt 9 = .ok (.if_icmp .ge 21, 3) := by decide +kernel
theorem dX8_byteAt_12 : decode cX8_byteAt 12 = .ok (.iload_n 1, 1) := by decide +kernel
theorem dX8_byteAt_13 : decode cX8_byteAt 13 = .ok (.aload_n 0, 1) := by decide +kernel
theorem dX8_byteAt_14 : decode cX8_byteAt 14 = .ok (.getfield 9, 3) := by decide +kernel
theorem dX8_byteAt_17 : decode cX8_byteAt 17 = .ok (.arraylength, 1) := by decide +kernel
theorem dX8_byteAt_18 : decode cX8_byteAt 18 = .ok (.if_icmp .ge 12, 3) := by decide +kernel
theorem dX8_byteAt_21 : decode cX8_byteAt 21 = .ok (.aload_n 0, 1) := by decide +kernel
theorem dX8_byteAt_22 : decode cX8_byteAt 22 = .ok (.getfield 9, 3) := by decide +kernel
theorem dX8_byteAt_25 : decode cX8_byteAt 25 = .ok (.iload_n 1, 1) := by decide +kernel
theorem dX8_byteAt_26 : decode cX8_byteAt 26 = .ok (.iaload, 1) := by decide +kernel
theorem dX8_byteAt_27 : decode cX8_byteAt 27 = .ok (.goto 4, 3) := by decide +kernel
theorem dX8_byteAt_30 : decode cX8_byteAt 30 = .ok (.iconst (-1), 1) := by decide +kernel
theorem dX8_byteAt_31 : decode cX8_byteAt 31 = .ok (.ireturn, 1) := by decide +kernel
set_option maxRecDepth 20000 in
theorem ggX8_isWord_J0_length_8abf5 : GoodIn wsX8_isWord wsJ0_length_8abf5 := goodIn_r _ [5, 6, 7, 8, 9, 4, 10, 11, 12] (by decide +kernel) (by decide +kernel)
set_option maxRecDepth 20000 in
theorem gX8_isWord_J0_length_8abf5 : GoodIn wsX8_isWord (wsV RX8 23 RJ0 yJ0_length_8abf5 wsJ0_length_8abf5) := goodIn_app (goodIn_of _ (by decide +kernel)) ggX8_isWord_J0_length_8abf5
set_option maxRecDepth 20000 in
theorem ggX8_isWord_X8_byteAt : GoodIn wsX8_isWord wsX8_byteAt := goodIn_r _ [17, 18, 19, 57, 58] (by decide +kernel) (by decide +kernel)
set_option maxRecDepth 20000 in
theorem gX8_isWord_X8_byteAt : GoodIn wsX8_isWord (wsV RX8 28 RX8 yX8_byteAt wsX8_byteAt) := goodIn_app (goodIn_of _ (by decide +kernel)) ggX8_isWord_X8_byteAt
set_option maxRecDepth 20000 in
theorem ggX8_isWord_J0_charAt_5068e : GoodIn wsX8_isWord wsJ0_charAt_5068e := goodIn_r _ [23, 6, 24, 25, 26, 4, 27, 11, 12, 28, 29, 30, 31, 32, 33, 34, 35, 36, 37, 38, 39, 40, 41, 42, 43, 44, 45, 46, 47, 48, 49, 50, 51, 52, 53, 54, 55, 56] (by decide +kernel) (by decide +kernel)
set_option maxRecDepth 20000 in
theorem gX8_isWord_J0_charAt_5068e : GoodIn wsX8_isWord (wsV RX8 32 RJ0 yJ0_charAt_5068e wsJ0_charAt_5068e) := goodIn_app (goodIn_of _ (by decide +kernel)) ggX8_isWord_J0_charAt_5068e
theorem dX8_isWord_0 : decode cX8_isWord 0 = .ok (.iload_n 2, 1) := by decide +kernel
theorem dX8_isWord_1 : decode cX8_isWord 1 = .ok (.iload_n 1, 1) := by decide +kernel
theorem dX8_isWord_2 : decode cX8_isWord 2 = .ok (.isub, 1) := by decide +kernel
theorem dX8_isWord_3 : decode cX8_isWord 3 = .ok (.aload_n 3, 1) := by decide +kernel
theorem dX8_isWord_4 : decode cX8_isWord 4 = .ok (.invokevirtual 23, 3) := by decide +kernel
theorem dX8_isWord_7 : decode cX8_isWord 7 = .ok (.if_icmp .eq 5, 3) := by decide +kernel
theorem dX8_isWord_10 : decode cX8_isWord 10 = .ok (.iconst 0, 1) := by decide +kernel
theorem dX8_isWord_11 : decode cX8_isWord 11 = .ok (.ireturn, 1) := by decide +kernel
theorem dX8_isWord_12 : decode cX8_isWord 12 = .ok (.iconst 0, 1) := by decide +kernel
theorem dX8_isWord_13 : decode cX8_isWord 13 = .ok (.istore 4, 2) := by decide +kernel
theorem dX8_isWord_15 : decode cX8_isWord 15 = .ok (.iload 4, 2) := by decide +kernel
theorem dX8_isWord_17 : decode cX8_isWord 17 = .ok (.aload_n 3, 1) := by decide +kernel
theorem dX8_isWord_18 : decode cX8_isWord 18 = .ok (.invokevirtual 23, 3) := by decide +kernel
theorem dX8_isWord_21 : decode cX8_isWord 21 = .ok (.if_icmp .ge 28, 3) := by decide +kernel
theorem dX8_isWord_24 : decode cX8_isWord 24 = .ok (.aload_n 0, 1) := by decide +kernel
theorem dX8_isWord_25 : decode cX8_isWord 25 = .ok (.iload_n 1, 1) := by decide +kernel
theorem dX8_isWord_26 : decode cX8_isWord 26 = .ok (.iload 4, 2) := by decide +kernel
theorem dX8_isWord_28 : decode cX8_isWord 28 = .ok (.iadd, 1) := by decide +kernel
theorem dX8_isWord_29 : decode cX8_isWord 29 = .ok (.invokevirtual 28, 3) := by decide +kernel
theorem dX8_isWord_32 : decode cX8_isWord 32 = .ok (.aload_n 3, 1) := by decide +kernel
theorem dX8_isWord_33 : decode cX8_isWord 33 = .ok (.iload 4, 2) := by decide +kernel
theorem dX8_isWord_35 : decode cX8_isWord 35 = .ok (.invokevirtual 32, 3) := by decide +kernel
theorem dX8_isWord_38 : decode cX8_isWord 38 = .ok (.if_icmp .eq 5, 3) := by decide +kernel
theorem dX8_isWord_41 : decode cX8_isWord 41 = .ok (.iconst 0, 1) := by decide +kernel
theorem dX8_isWord_42 : decode cX8_isWord 42 = .ok (.ireturn, 1) := by decide +kernel
theorem dX8_isWord_43 : decode cX8_isWord 43 = .ok (.iinc 4 1, 3) := by decide +kernel
theorem dX8_isWord_46 : decode cX8_isWord 46 = .ok (.goto (-31), 3) := by decide +kernel
theorem dX8_isWord_49 : decode cX8_isWord 49 = .ok (.iconst 1, 1) := by decide +kernel
theorem dX8_isWord_50 : decode cX8_isWord 50 = .ok (.ireturn, 1) := by decide +kernel
set_option maxRecDepth 20000 in
theorem ggX8_isPart_X8_byteAt : GoodIn wsX8_isPart wsX8_byteAt := goodIn_r _ [6, 1, 7, 8, 9] (by decide +kernel) (by decide +kernel)
set_option maxRecDepth 20000 in
theorem gX8_isPart_X8_byteAt : GoodIn wsX8_isPart (wsV RX8 28 RX8 yX8_byteAt wsX8_byteAt) := goodIn_app (goodIn_of _ (by decide +kernel)) ggX8_isPart_X8_byteAt
theorem dX8_isPart_0 : decode cX8_isPart 0 = .ok (.iload_n 2, 1) := by decide +kernel
theorem dX8_isPart_1 : decode cX8_isPart 1 = .ok (.iload_n 1, 1) := by decide +kernel
theorem dX8_isPart_2 : decode cX8_isPart 2 = .ok (.isub, 1) := by decide +kernel
theorem dX8_isPart_3 : decode cX8_isPart 3 = .ok (.aload_n 3, 1) := by decide +kernel
theorem dX8_isPart_4 : decode cX8_isPart 4 = .ok (.getfield 15, 3) := by decide +kernel
theorem dX8_isPart_7 : decode cX8_isPart 7 = .ok (.if_icmp .eq 5, 3) := by decide +kernel
theorem dX8_isPart_10 : decode cX8_isPart 10 = .ok (.iconst 0, 1) := by decide +kernel
theorem dX8_isPart_11 : decode cX8_isPart 11 = .ok (.ireturn, 1) := by decide +kernel
theorem dX8_isPart_12 : decode cX8_isPart 12 = .ok (.iconst 0, 1) := by decide +kernel
theorem dX8_isPart_13 : decode cX8_isPart 13 = .ok (.istore 4, 2) := by decide +kernel
theorem dX8_isPart_15 : decode cX8_isPart 15 = .ok (.iload 4, 2) := by decide +kernel
theorem dX8_isPart_17 : decode cX8_isPart 17 = .ok (.aload_n 3, 1) := by decide +kernel
theorem dX8_isPart_18 : decode cX8_isPart 18 = .ok (.getfield 15, 3) := by decide +kernel
theorem dX8_isPart_21 : decode cX8_isPart 21 = .ok (.if_icmp .ge 28, 3) := by decide +kernel
theorem dX8_isPart_24 : decode cX8_isPart 24 = .ok (.aload_n 0, 1) := by decide +kernel
theorem dX8_isPart_25 : decode cX8_isPart 25 = .ok (.iload_n 1, 1) := by decide +kernel
theorem dX8_isPart_26 : decode cX8_isPart 26 = .ok (.iload 4, 2) := by decide +kernel
theorem dX8_isPart_28 : decode cX8_isPart 28 = .ok (.iadd, 1) := by decide +kernel
theorem dX8_isPart_29 : decode cX8_isPart 29 = .ok (.invokevirtual 28, 3) := by decide +kernel
theorem dX8_isPart_32 : decode cX8_isPart 32 = .ok (.aload_n 3, 1) := by decide +kernel
theorem dX8_isPart_33 : decode cX8_isPart 33 = .ok (.iload 4, 2) := by decide +kernel
theorem dX8_isPart_35 : decode cX8_isPart 35 = .ok (.invokevirtual 28, 3) := by decide +kernel
theorem dX8_isPart_38 : decode cX8_isPart 38 = .ok (.if_icmp .eq 5, 3) := by decide +kernel
theorem dX8_isPart_41 : decode cX8_isPart 41 = .ok (.iconst 0, 1) := by decide +kernel
theorem dX8_isPart_42 : decode cX8_isPart 42 = .ok (.ireturn, 1) := by decide +kernel
theorem dX8_isPart_43 : decode cX8_isPart 43 = .ok (.iinc 4 1, 3) := by decide +kernel
theorem dX8_isPart_46 : decode cX8_isPart 46 = .ok (.goto (-31), 3) := by decide +kernel
theorem dX8_isPart_49 : decode cX8_isPart 49 = .ok (.iconst 1, 1) := by decide +kernel
theorem dX8_isPart_50 : decode cX8_isPart 50 = .ok (.ireturn, 1) := by decide +kernel
set_option maxRecDepth 20000 in
theorem ggX9_init_X8_init : GoodIn wsX9_init wsX8_init := goodIn_r _ [40, 41, 2, 3, 34, 42, 84, 85] (by decide +kernel) (by decide +kernel)
set_option maxRecDepth 20000 in
theorem gX9_init_X8_init_n9 : GoodIn wsX9_init (wsX8_init) := ggX9_init_X8_init
set_option maxRecDepth 20000 in
theorem ggX9_init_X6_init : GoodIn wsX9_init wsX6_init := goodIn_r _ [44, 45, 2, 3, 34, 46, 47, 48, 101, 102, 103] (by decide +kernel) (by decide +kernel)
set_option maxRecDepth 20000 in
theorem gX9_init_X6_init_n21 : GoodIn wsX9_init (wsX6_init) := ggX9_init_X6_init
set_option maxRecDepth 20000 in
theorem ggX9_init_X7_init : GoodIn wsX9_init wsX7_init := goodIn_r _ [50, 51, 2, 3] (by decide +kernel) (by decide +kernel)
set_option maxRecDepth 20000 in
theorem gX9_init_X7_init_n31 : GoodIn wsX9_init (wsX7_init) := ggX9_init_X7_init
set_option maxRecDepth 20000 in
theorem ggX9_init_X4_init : GoodIn wsX9_init wsX4_init := goodIn_r _ [53, 54, 2, 3, 55, 5, 6, 56, 39, 40, 41, 34, 42, 84, 85, 107, 108, 109, 110, 111] (by decide +kernel) (by decide +kernel)
set_option maxRecDepth 20000 in
theorem gX9_init_X4_init_n38 : GoodIn wsX9_init (wsX4_init) := ggX9_init_X4_init
set_option maxRecDepth 20000 in
theorem ggX9_init_X3_init : GoodIn wsX9_init wsX3_init := goodIn_r _ [58, 59, 2, 3, 34, 60, 61, 62, 47, 63, 64, 112, 113, 114, 115, 116, 117, 118] (by decide +kernel) (by decide +kernel)
set_option maxRecDepth 20000 in
theorem gX9_init_X3_init_n45 : GoodIn wsX9_init (wsX3_init) := ggX9_init_X3_init
set_option maxRecDepth 20000 in
theorem ggX9_init_X2_init : GoodIn wsX9_init wsX2_init := goodIn_r _ [67, 68, 2, 3, 34, 69, 70, 71, 72, 73, 74, 75, 76, 77, 119, 120, 121, 122, 123, 124] (by decide +kernel) (by decide +kernel)
set_option maxRecDepth 20000 in
theorem gX9_init_X2_init : GoodIn wsX9_init (wsX2_init) := ggX9_init_X2_init
set_option maxRecDepth 20000 in
theorem ggX9_init_X0_init : GoodIn wsX9_init wsX0_init := goodIn_r _ [79, 80, 2, 3, 34, 81, 82, 83, 125, 126, 127, 128, 129] (by decide +kernel) (by decide +kernel)
set_option maxRecDepth 20000 in
theorem gX9_init_X0_init_n59 : GoodIn wsX9_init (wsX0_init) := ggX9_init_X0_init
theorem dX9_init_0 : decode cX9_init 0 = .ok (.aload_n 0, 1) := by decide +kernel
theorem dX9_init_1 : decode cX9_init 1 = .ok (.invokespecial 1, 3) := by decide +kernel
theorem dX9_init_4 : decode cX9_init 4 = .ok (.aload_n 0, 1) := by decide +kernel
theorem dX9_init_5 : decode cX9_init 5 = .ok (.new 7, 3) := by decide +kernel
theorem dX9_init_8 : decode cX9_init 8 = .ok (.dup, 1) := by decide +kernel
theorem dX9_init_9 : decode cX9_init 9 = .ok (.invokespecial 9, 3) := by decide +kernel
theorem dX9_init_12 : decode cX9_init 12 = .ok (.putfield 10, 3) := by decide +kernel
theorem dX9_init_15 : decode cX9_init 15 = .ok (.aload_n 0, 1) := by decide +kernel
theorem dX9_init_16 : decode cX9_init 16 = .ok (.new 7, 3) := by decide +kernel
theorem dX9_init_19 : decode cX9_init 19 = .ok (.dup, 1) := by decide +kernel
theorem dX9_init_20 : decode cX9_init 20 = .ok (.invokespecial 9, 3) := by decide +kernel
theorem dX9_init_23 : decode cX9_init 23 = .ok (.putfield 16, 3) := by decide +kernel
theorem dX9_init_26 : decode cX9_init 26 = .ok (.aload_n 0, 1) := by decide +kernel
theorem dX9_init_27 : decode cX9_init 27 = .ok (.new 19, 3) := by decide +kernel
theorem dX9_init_30 : decode cX9_init 30 = .ok (.dup, 1) := by decide +kernel
theorem dX9_init_31 : decode cX9_init 31 = .ok (.invokespecial 21, 3) := by decide +kernel
theorem dX9_init_34 : decode cX9_init 34 = .ok (.putfield 22, 3) := by decide +kernel
theorem dX9_init_37 : decode cX9_init 37 = .ok (.aload_n 0, 1) := by decide +kernel
theorem dX9_init_38 : decode cX9_init 38 = .ok (.new 19, 3) := by decide +kernel
theorem dX9_init_41 : decode cX9_init 41 = .ok (.dup, 1) := by decide +kernel
theorem dX9_init_42 : decode cX9_init 42 = .ok (.invokespecial 21, 3) := by decide +kernel
theorem dX9_init_45 : decode cX9_init 45 = .ok (.putfield 26, 3) := by decide +kernel
theorem dX9_init_48 : decode cX9_init 48 = .ok (.aload_n 0, 1) := by decide +kernel
theorem dX9_init_49 : decode cX9_init 49 = .ok (.new 29, 3) := by decide +kernel
theorem dX9_init_52 : decode cX9_init 52 = .ok (.dup, 1) := by decide +kernel
theorem dX9_init_53 : decode cX9_init 53 = .ok (.invokespecial 31, 3) := by decide +kernel
theorem dX9_init_56 : decode cX9_init 56 = .ok (.putfield 32, 3) := by decide +kernel
theorem dX9_init_59 : decode cX9_init 59 = .ok (.aload_n 0, 1) := by decide +kernel
theorem dX9_init_60 : decode cX9_init 60 = .ok (.new 36, 3) := by decide +kernel
theorem dX9_init_63 : decode cX9_init 63 = .ok (.dup, 1) := by decide +kernel
theorem dX9_init_64 : decode cX9_init 64 = .ok (.invokespecial 38, 3) := by decide +kernel
theorem dX9_init_67 : decode cX9_init 67 = .ok (.putfield 39, 3) := by decide +kernel
theorem dX9_init_70 : decode cX9_init 70 = .ok (.aload_n 0, 1) := by decide +kernel
theorem dX9_init_71 : decode cX9_init 71 = .ok (.new 43, 3) := by decide +kernel
theorem dX9_init_74 : decode cX9_init 74 = .ok (.dup, 1) := by decide +kernel
theorem dX9_init_75 : decode cX9_init 75 = .ok (.invokespecial 45, 3) := by decide +kernel
theorem dX9_init_78 : decode cX9_init 78 = .ok (.putfield 46, 3) := by decide +kernel
theorem dX9_init_81 : decode cX9_init 81 = .ok (.aload_n 0, 1) := by decide +kernel
theorem dX9_init_82 : decode cX9_init 82 = .ok (.new 50, 3) := by decide +kernel
theorem dX9_init_85 : decode cX9_init 85 = .ok (.dup, 1) := by decide +kernel
theorem dX9_init_86 : decode cX9_init 86 = .ok (.invokespecial 52, 3) := by decide +kernel
theorem dX9_init_89 : decode cX9_init 89 = .ok (.putfield 53, 3) := by decide +kernel
theorem dX9_init_92 : decode cX9_init 92 = .ok (.aload_n 0, 1) := by decide +kernel
theorem dX9_init_93 : decode cX9_init 93 = .ok (.new 57, 3) := by decide +kernel
theorem dX9_init_96 : decode cX9_init 96 = .ok (.dup, 1) := by decide +kernel
theorem dX9_init_97 : decode cX9_init 97 = .ok (.invokespecial 59, 3) := by decide +kernel
theorem dX9_init_100 : decode cX9_init 100 = .ok (.putfield 60, 3) := by decide +kernel
theorem dX9_init_103 : decode cX9_init 103 = .ok (.aload_n 0, 1) := by decide +kernel
theorem dX9_init_104 : decode cX9_init 104 = .ok (.iconst 4, 1) := by decide +kernel
theorem dX9_init_105 : decode cX9_init 105 = .ok (.newarray .int, 2) := by decide +kernel
theorem dX9_init_107 : decode cX9_init 107 = .ok (.putfield 64, 3) := by decide +kernel
theorem dX9_init_110 : decode cX9_init 110 = .ok (.aload_n 0, 1) := by decide +kernel
theorem dX9_init_111 : decode cX9_init 111 = .ok (.getfield 22, 3) := by decide +kernel
theorem dX9_init_114 : decode cX9_init 114 = .ok (.getfield 68, 3) := by decide +kernel
theorem dX9_init_117 : decode cX9_init 117 = .ok (.iconst 0, 1) := by decide +kernel
theorem dX9_init_118 : decode cX9_init 118 = .ok (.iconst 0, 1) := by decide +kernel
theorem dX9_init_119 : decode cX9_init 119 = .ok (.iastore, 1) := by decide +kernel
theorem dX9_init_120 : decode cX9_init 120 = .ok (.aload_n 0, 1) := by decide +kernel
theorem dX9_init_121 : decode cX9_init 121 = .ok (.getfield 22, 3) := by decide +kernel
theorem dX9_init_124 : decode cX9_init 124 = .ok (.getfield 68, 3) := by decide +kernel
theorem dX9_init_127 : decode cX9_init 127 = .ok (.iconst 1, 1) := by decide +kernel
theorem dX9_init_128 : decode cX9_init 128 = .ok (.iconst 2, 1) := by decide +kernel
theorem dX9_init_129 : decode cX9_init 129 = .ok (.iastore, 1) := by decide +kernel
theorem dX9_init_130 : decode cX9_init 130 = .ok (.aload_n 0, 1) := by decide +kernel
theorem dX9_init_131 : decode cX9_init 131 = .ok (.getfield 22, 3) := by decide +kernel
theorem dX9_init_134 : decode cX9_init 134 = .ok (.iconst 2, 1) := by decide +kernel
theorem dX9_init_135 : decode cX9_init 135 = .ok (.putfield 71, 3) := by decide +kernel
theorem dX9_init_138 : decode cX9_init 138 = .ok (.aload_n 0, 1) := by decide +kernel
theorem dX9_init_139 : decode cX9_init 139 = .ok (.iconst (-1), 1) := by decide +kernel
theorem dX9_init_140 : decode cX9_init 140 = .ok (.putfield 75, 3) := by decide +kernel
theorem dX9_init_143 : decode cX9_init 143 = .ok (.return_, 1) := by decide +kernel
set_option maxRecDepth 20000 in
theorem ggX9_feed_X8_putFour : GoodIn wsX9_feed wsX8_putFour := goodIn_r _ [7, 8, 9, 10, 6, 11, 12, 13, 29, 30] (by decide +kernel) (by decide +kernel)
set_option maxRecDepth 20000 in
theorem gX9_feed_X8_putFour : GoodIn wsX9_feed (wsV RX9 81 RX8 yX8_putFour wsX8_putFour) := goodIn_app (goodIn_of _ (by decide +kernel)) ggX9_feed_X8_putFour
theorem dX9_feed_0 : decode cX9_feed 0 = .ok (.aload_n 0, 1) := by decide +kernel
theorem dX9_feed_1 : decode cX9_feed 1 = .ok (.getfield 10, 3) := by decide +kernel
theorem dX9_feed_4 : decode cX9_feed 4 = .ok (.getfield 78, 3) := by decide +kernel
theorem dX9_feed_7 : decode cX9_feed 7 = .ok (.bipush 20, 2) := by decide +kernel
theorem dX9_feed_9 : decode cX9_feed 9 = .ok (.iadd, 1) := by decide +kernel
theorem dX9_feed_10 : decode cX9_feed 10 = .ok (.sipush 200, 3) := by decide +kernel
theorem dX9_feed_13 : decode cX9_feed 13 = .ok (.if_icmp .le 5, 3) := by decide +kernel
theorem dX9_feed_16 : decode cX9_feed 16 = .ok (.iconst (-1), 1) := by decide +kernel
theorem dX9_feed_17 : decode cX9_feed 17 = .ok (.ireturn, 1) := by decide +kernel
theorem dX9_feed_18 : decode cX9_feed 18 = .ok (.aload_n 0, 1) := by decide +kernel
theorem dX9_feed_19 : decode cX9_feed 19 = .ok (.getfield 10, 3) := by decide +kernel
theorem dX9_feed_22 : decode cX9_feed 22 = .ok (.iload_n 1, 1) := by decide +kernel
theorem dX9_feed_23 : decode cX9_feed 23 = .ok (.invokevirtual 81, 3) := by decide +kernel
theorem dX9_feed_26 : decode cX9_feed 26 = .ok (.aload_n 0, 1) := by decide +kernel
theorem dX9_feed_27 : decode cX9_feed 27 = .ok (.getfield 10, 3) := by decide +kernel
theorem dX9_feed_30 : decode cX9_feed 30 = .ok (.iload_n 2, 1) := by decide +kernel
theorem dX9_feed_31 : decode cX9_feed 31 = .ok (.invokevirtual 81, 3) := by decide +kernel
theorem dX9_feed_34 : decode cX9_feed 34 = .ok (.aload_n 0, 1) := by decide +kernel
theorem dX9_feed_35 : decode cX9_feed 35 = .ok (.getfield 10, 3) := by decide +kernel
theorem dX9_feed_38 : decode cX9_feed 38 = .ok (.iload_n 3, 1) := by decide +kernel
theorem dX9_feed_39 : decode cX9_feed 39 = .ok (.invokevirtual 81, 3) := by decide +kernel
theorem dX9_feed_42 : decode cX9_feed 42 = .ok (.aload_n 0, 1) := by decide +kernel
theorem dX9_feed_43 : decode cX9_feed 43 = .ok (.getfield 10, 3) := by decide +kernel
theorem dX9_feed_46 : decode cX9_feed 46 = .ok (.iload 4, 2) := by decide +kernel
theorem dX9_feed_48 : decode cX9_feed 48 = .ok (.invokevirtual 81, 3) := by decide +kernel
theorem dX9_feed_51 : decode cX9_feed 51 = .ok (.aload_n 0, 1) := by decide +kernel
theorem dX9_feed_52 : decode cX9_feed 52 = .ok (.getfield 10, 3) := by decide +kernel
theorem dX9_feed_55 : decode cX9_feed 55 = .ok (.iload 5, 2) := by decide +kernel
theorem dX9_feed_57 : decode cX9_feed 57 = .ok (.invokevirtual 81, 3) := by decide +kernel
theorem dX9_feed_60 : decode cX9_feed 60 = .ok (.aload_n 0, 1) := by decide +kernel
theorem dX9_feed_61 : decode cX9_feed 61 = .ok (.getfield 10, 3) := by decide +kernel
theorem dX9_feed_64 : decode cX9_feed 64 = .ok (.getfield 78, 3) := by decide +kernel
theorem dX9_feed_67 : decode cX9_feed 67 = .ok (.ireturn, 1) := by decide +kernel
theorem dX9_end_0 : decode cX9_end 0 = .ok (.iload_n 1, 1) := by decide +kernel
theorem dX9_end_1 : decode cX9_end 1 = .ok (.ifCond .lt 14, 3) := by decide +kernel
theorem dX9_end_4 : decode cX9_end 4 = .ok (.iload_n 1, 1) := by decide +kernel
theorem dX9_end_5 : decode cX9_end 5 = .ok (.aload_n 0, 1) := by decide +kernel
theorem dX9_end_6 : decode cX9_end 6 = .ok (.getfield 10, 3) := by decide +kernel
theorem dX9_end_9 : decode cX9_end 9 = .ok (.getfield 78, 3) := by decide +kernel
theorem dX9_end_12 : decode cX9_end 12 = .ok (.if_icmp .le 5, 3) := by decide +kernel
theorem dX9_end_15 : decode cX9_end 15 = .ok (.iconst 0, 1) := by decide +kernel
theorem dX9_end_16 : decode cX9_end 16 = .ok (.ireturn, 1) := by decide +kernel
theorem dX9_end_17 : decode cX9_end 17 = .ok (.aload_n 0, 1) := by decide +kernel
theorem dX9_end_18 : decode cX9_end 18 = .ok (.getfield 10, 3) := by decide +kernel
theorem dX9_end_21 : decode cX9_end 21 = .ok (.iload_n 1, 1) := by decide +kernel
theorem dX9_end_22 : decode cX9_end 22 = .ok (.putfield 78, 3) := by decide +kernel
theorem dX9_end_25 : decode cX9_end 25 = .ok (.iconst 1, 1) := by decide +kernel
theorem dX9_end_26 : decode cX9_end 26 = .ok (.ireturn, 1) := by decide +kernel
set_option maxRecDepth 20000 in
theorem ggX9_levels_X7_readInto : GoodIn wsX9_levels wsX7_readInto := goodIn_r _ [19, 20, 21, 22, 23, 24, 25, 26, 27, 28, 29, 30, 31, 32, 33, 34, 18, 35, 36, 37, 38, 39, 40, 41, 42, 43, 44, 45, 46, 47, 48, 49, 50, 51, 52, 53, 54, 55, 56, 57, 58, 59, 60, 61, 62, 63, 64, 65, 66, 67, 68, 69, 70, 71, 72, 73, 74, 75, 76, 77, 78, 79, 80, 81, 82, 83, 84, 85, 86, 87, 88, 89, 90, 91, 92, 93, 94, 95, 96, 97, 98, 99, 100, 101, 102, 103, 104, 105, 106, 107, 108, 109, 110, 111, 112, 113, 114, 115, 116, 117, 118, 168, 169, 170, 165, 166, 167, 163, 164] (by decide +kernel) (by decide +kernel)
set_option maxRecDepth 20000 in
theorem gX9_levels_X7_readInto : GoodIn wsX9_levels (wsV RX9 85 RX7 yX7_readInto wsX7_readInto) := goodIn_app (goodIn_of _ (by decide +kernel)) ggX9_levels_X7_readInto
set_option maxRecDepth 20000 in
theorem ggX9_levels_X6_become : GoodIn wsX9_levels wsX6_become := goodIn_r _ [122, 118, 110, 109, 168, 169, 170] (by decide +kernel) (by decide +kernel)
set_option maxRecDepth 20000 in
theorem gX9_levels_X6_become : GoodIn wsX9_levels (wsV RX9 96 RX6 yX6_become wsX6_become) := goodIn_app (goodIn_of _ (by decide +kernel)) ggX9_levels_X6_become
set_option maxRecDepth 20000 in
theorem ggX9_levels_X3_clear : GoodIn wsX9_levels wsX3_clear := goodIn_r _ [127, 128, 129, 171, 172, 173, 174, 175, 176, 177] (by decide +kernel) (by decide +kernel)
set_option maxRecDepth 20000 in
theorem gX9_levels_X3_clear : GoodIn wsX9_levels (wsV RX9 100 RX3 yX3_clear wsX3_clear) := goodIn_app (goodIn_of _ (by decide +kernel)) ggX9_levels_X3_clear
set_option maxRecDepth 20000 in
theorem ggX9_levels_X2_clear : GoodIn wsX9_levels wsX2_clear := goodIn_r _ [134, 135, 136, 137, 138, 139, 140, 178, 179, 180, 181, 182, 183] (by decide +kernel) (by decide +kernel)
set_option maxRecDepth 20000 in
theorem gX9_levels_X2_clear : GoodIn wsX9_levels (wsV RX9 103 RX2 yX2_clear wsX2_clear) := goodIn_app (goodIn_of _ (by decide +kernel)) ggX9_levels_X2_clear
set_option maxRecDepth 20000 in
theorem ggX9_levels_X0_clear : GoodIn wsX9_levels wsX0_clear := goodIn_r _ [145, 146, 147, 184, 185, 186, 187, 188] (by decide +kernel) (by decide +kernel)
set_option maxRecDepth 20000 in
theorem gX9_levels_X0_clear : GoodIn wsX9_levels (wsV RX9 104 RX0 yX0_clear wsX0_clear) := goodIn_app (goodIn_of _ (by decide +kernel)) ggX9_levels_X0_clear
theorem dX9_levels_0 : decode cX9_levels 0 = .ok (.aload_n 0, 1) := by decide +kernel
theorem dX9_levels_1 : decode cX9_levels 1 = .ok (.getfield 32, 3) := by decide +kernel
theorem dX9_levels_4 : decode cX9_levels 4 = .ok (.aload_n 0, 1) := by decide +kernel
theorem dX9_levels_5 : decode cX9_levels 5 = .ok (.getfield 26, 3) := by decide +kernel
theorem dX9_levels_8 : decode cX9_levels 8 = .ok (.aload_n 0, 1) := by decide +kernel
theorem dX9_levels_9 : decode cX9_levels 9 = .ok (.getfield 10, 3) := by decide +kernel
theorem dX9_levels_12 : decode cX9_levels 12 = .ok (.invokevirtual 85, 3) := by decide +kernel
theorem dX9_levels_15 : decode cX9_levels 15 = .ok (.aload_n 0, 1) := by decide +kernel
theorem dX9_levels_16 : decode cX9_levels 16 = .ok (.getfield 10, 3) := by decide +kernel
theorem dX9_levels_19 : decode cX9_levels 19 = .ok (.iconst 0, 1) := by decide +kernel
theorem dX9_levels_20 : decode cX9_levels 20 = .ok (.putfield 78, 3) := by decide +kernel
theorem dX9_levels_23 : decode cX9_levels 23 = .ok (.aload_n 0, 1) := by decide +kernel
theorem dX9_levels_24 : decode cX9_levels 24 = .ok (.aload_n 0, 1) := by decide +kernel
theorem dX9_levels_25 : decode cX9_levels 25 = .ok (.getfield 32, 3) := by decide +kernel
theorem dX9_levels_28 : decode cX9_levels 28 = .ok (.getfield 89, 3) := by decide +kernel
theorem dX9_levels_31 : decode cX9_levels 31 = .ok (.putfield 92, 3) := by decide +kernel
theorem dX9_levels_34 : decode cX9_levels 34 = .ok (.aload_n 0, 1) := by decide +kernel
theorem dX9_levels_35 : decode cX9_levels 35 = .ok (.aload_n 0, 1) := by decide +kernel
theorem dX9_levels_36 : decode cX9_levels 36 = .ok (.getfield 32, 3) := by decide +kernel
theorem dX9_levels_39 : decode cX9_levels 39 = .ok (.getfield 95, 3) := by decide +kernel
theorem dX9_levels_42 : decode cX9_levels 42 = .ok (.putfield 75, 3) := by decide +kernel
theorem dX9_levels_45 : decode cX9_levels 45 = .ok (.aload_n 0, 1) := by decide +kernel
theorem dX9_levels_46 : decode cX9_levels 46 = .ok (.getfield 92, 3) := by decide +kernel
theorem dX9_levels_49 : decode cX9_levels 49 = .ok (.ifCond .eq 10, 3) := by decide +kernel
theorem dX9_levels_52 : decode cX9_levels 52 = .ok (.iconst (-1), 1) := by decide +kernel
theorem dX9_levels_53 : decode cX9_levels 53 = .ok (.aload_n 0, 1) := by decide +kernel
theorem dX9_levels_54 : decode cX9_levels 54 = .ok (.getfield 75, 3) := by decide +kernel
theorem dX9_levels_57 : decode cX9_levels 57 = .ok (.isub, 1) := by decide +kernel
theorem dX9_levels_58 : decode cX9_levels 58 = .ok (.ireturn, 1) := by decide +kernel
theorem dX9_levels_59 : decode cX9_levels 59 = .ok (.aload_n 0, 1) := by decide +kernel
theorem dX9_levels_60 : decode cX9_levels 60 = .ok (.getfield 22, 3) := by decide +kernel
theorem dX9_levels_63 : decode cX9_levels 63 = .ok (.aload_n 0, 1) := by decide +kernel
theorem dX9_levels_64 : decode cX9_levels 64 = .ok (.getfield 26, 3) := by decide +kernel
theorem dX9_levels_67 : decode cX9_levels 67 = .ok (.invokevirtual 96, 3) := by decide +kernel
theorem dX9_levels_70 : decode cX9_levels 70 = .ok (.aload_n 0, 1) := by decide +kernel
theorem dX9_levels_71 : decode cX9_levels 71 = .ok (.getfield 46, 3) := by decide +kernel
theorem dX9_levels_74 : decode cX9_levels 74 = .ok (.invokevirtual 100, 3) := by decide +kernel
theorem dX9_levels_77 : decode cX9_levels 77 = .ok (.aload_n 0, 1) := by decide +kernel
theorem dX9_levels_78 : decode cX9_levels 78 = .ok (.getfield 53, 3) := by decide +kernel
theorem dX9_levels_81 : decode cX9_levels 81 = .ok (.invokevirtual 103, 3) := by decide +kernel
theorem dX9_levels_84 : decode cX9_levels 84 = .ok (.aload_n 0, 1) := by decide +kernel
theorem dX9_levels_85 : decode cX9_levels 85 = .ok (.getfield 60, 3) := by decide +kernel
theorem dX9_levels_88 : decode cX9_levels 88 = .ok (.invokevirtual 104, 3) := by decide +kernel
theorem dX9_levels_91 : decode cX9_levels 91 = .ok (.aload_n 0, 1) := by decide +kernel
theorem dX9_levels_92 : decode cX9_levels 92 = .ok (.iconst 0, 1) := by decide +kernel
theorem dX9_levels_93 : decode cX9_levels 93 = .ok (.putfield 105, 3) := by decide +kernel
theorem dX9_levels_96 : decode cX9_levels 96 = .ok (.aload_n 0, 1) := by decide +kernel
theorem dX9_levels_97 : decode cX9_levels 97 = .ok (.getfield 22, 3) := by decide +kernel
theorem dX9_levels_100 : decode cX9_levels 100 = .ok (.getfield 71, 3) := by decide +kernel
theorem dX9_levels_103 : decode cX9_levels 103 = .ok (.ireturn, 1) := by decide +kernel
theorem dX9_fault_0 : decode cX9_fault 0 = .ok (.aload_n 0, 1) := by decide +kernel
theorem dX9_fault_1 : decode cX9_fault 1 = .ok (.getfield 92, 3) := by decide +kernel
theorem dX9_fault_4 : decode cX9_fault 4 = .ok (.ireturn, 1) := by decide +kernel
set_option maxRecDepth 20000 in
theorem ggX9_add_X9_isPlaceTold : GoodIn wsX9_add wsX9_isPlaceTold := goodIn_r _ [13, 1, 3, 4, 14, 15, 16, 17, 18, 19, 20, 21, 143, 144, 145, 146, 147, 148, 149, 150, 151, 152, 153, 154, 155, 156, 157, 158, 159, 160, 161, 162, 163, 164, 171, 172, 173] (by decide +kernel) (by decide +kernel)
set_option maxRecDepth 20000 in
theorem gX9_add_X9_isPlaceTold : GoodIn wsX9_add (wsV RX9 109 RX9 yX9_isPlaceTold wsX9_isPlaceTold) := goodIn_app (goodIn_of _ (by decide +kernel)) ggX9_add_X9_isPlaceTold
set_option maxRecDepth 20000 in
theorem ggX9_add_X9_placeOfNew : GoodIn wsX9_add wsX9_placeOfNew := goodIn_r _ [25, 1, 26, 27, 28, 19, 29, 21, 30, 31, 32, 33, 34, 35, 36, 143, 144, 145, 146, 147, 148, 149, 150, 151, 152, 153, 154, 155, 156, 157, 158, 159, 160, 161, 162, 163, 164] (by decide +kernel) (by decide +kernel)
set_option maxRecDepth 20000 in
theorem gX9_add_X9_placeOfNew : GoodIn wsX9_add (wsV RX9 116 RX9 yX9_placeOfNew wsX9_placeOfNew) := goodIn_app (goodIn_of _ (by decide +kernel)) ggX9_add_X9_placeOfNew
set_option maxRecDepth 20000 in
theorem ggX9_add_X6_isThrough : GoodIn wsX9_add wsX6_isThrough := goodIn_r _ [41, 42, 43, 171, 172, 173] (by decide +kernel) (by decide +kernel)
set_option maxRecDepth 20000 in
theorem gX9_add_X6_isThrough : GoodIn wsX9_add (wsV RX9 120 RX6 yX6_isThrough wsX6_isThrough) := goodIn_app (goodIn_of _ (by decide +kernel)) ggX9_add_X6_isThrough
set_option maxRecDepth 20000 in
theorem ggX9_add_X9_labelAhead : GoodIn wsX9_add wsX9_labelAhead := goodIn_r _ [47, 1, 48, 6, 49, 50, 51, 19, 52, 30, 53, 54, 17, 18, 20, 21, 55, 56, 57, 58, 59, 60, 61, 143, 144, 145, 146, 147, 148, 149, 150, 151, 152, 153, 154, 155, 156, 157, 158, 159, 160, 161, 162, 163, 164, 165, 166, 167, 168, 169, 170] (by decide +kernel) (by decide +kernel)
set_option maxRecDepth 20000 in
theorem gX9_add_X9_labelAhead : GoodIn wsX9_add (wsV RX9 124 RX9 yX9_labelAhead wsX9_labelAhead) := goodIn_app (goodIn_of _ (by decide +kernel)) ggX9_add_X9_labelAhead
set_option maxRecDepth 20000 in
theorem ggX9_add_X9_labelFrom : GoodIn wsX9_add wsX9_labelFrom := goodIn_r _ [65, 1, 2, 48, 6, 49, 50, 51, 19, 52, 30, 53, 54, 17, 18, 20, 21, 55, 56, 57, 58, 59, 60, 61, 143, 144, 145, 146, 147, 148, 149, 150, 151, 152, 153, 154, 155, 156, 157, 158, 159, 160, 161, 162, 163, 164, 165, 166, 167, 168, 169, 170] (by decide +kernel) (by decide +kernel)
set_option maxRecDepth 20000 in
theorem gX9_add_X9_labelFrom : GoodIn wsX9_add (wsV RX9 128 RX9 yX9_labelFrom wsX9_labelFrom) := goodIn_app (goodIn_of _ (by decide +kernel)) ggX9_add_X9_labelFrom
set_option maxRecDepth 20000 in
theorem ggX9_add_X5_between : GoodIn wsX9_add wsX5_between := goodIn_r _ [69, 70, 71, 68, 72, 73, 74, 75, 76, 77, 78, 79, 80, 81, 82, 83, 84, 85, 86, 87, 88, 89, 90] (by decide +kernel) (by decide +kernel)
set_option maxRecDepth 20000 in
theorem gX9_add_X5_between : GoodIn wsX9_add (va_wsS RX9 131 yX5_between wsX5_between) := goodIn_app (goodIn_of _ (by decide +kernel)) ggX9_add_X5_between
set_option maxRecDepth 20000 in
theorem ggX9_add_X0_open : GoodIn wsX9_add wsX0_open := goodIn_r _ [95, 96, 97, 98, 99, 100, 101, 102, 103, 104, 174, 175, 176, 177, 178] (by decide +kernel) (by decide +kernel)
set_option maxRecDepth 20000 in
theorem gX9_add_X0_open : GoodIn wsX9_add (wsV RX9 137 RX0 yX0_open wsX0_open) := goodIn_app (goodIn_of _ (by decide +kernel)) ggX9_add_X0_open
set_option maxRecDepth 20000 in
theorem ggX9_add_X3_insert : GoodIn wsX9_add wsX3_insert := goodIn_r _ [108, 21, 31, 109, 110, 111, 112, 30, 53, 113, 114, 158, 159, 160, 161, 162, 163, 164] (by decide +kernel) (by decide +kernel)
set_option maxRecDepth 20000 in
theorem gX9_add_X3_insert : GoodIn wsX9_add (wsV RX9 141 RX3 yX3_insert wsX3_insert) := goodIn_app (goodIn_of _ (by decide +kernel)) ggX9_add_X3_insert
set_option maxRecDepth 20000 in
theorem ggX9_add_X2_give : GoodIn wsX9_add wsX2_give := goodIn_r _ [118, 119, 120, 121, 61, 122, 60, 123, 56, 57, 58, 59, 124, 125, 126, 127, 128, 129, 102, 103, 104, 130, 131, 132, 133, 134, 135, 136, 137, 138, 139, 140, 141, 142, 110, 111, 112, 165, 166, 167, 168, 169, 170] (by decide +kernel) (by decide +kernel)
set_option maxRecDepth 20000 in
theorem gX9_add_X2_give : GoodIn wsX9_add (wsV RX9 145 RX2 yX2_give wsX2_give) := goodIn_app (goodIn_of _ (by decide +kernel)) ggX9_add_X2_give
theorem dX9_add_0 : decode cX9_add 0 = .ok (.aload_n 0, 1) := by decide +kernel
theorem dX9_add_1 : decode cX9_add 1 = .ok (.getfield 46, 3) := by decide +kernel
theorem dX9_add_4 : decode cX9_add 4 = .ok (.getfield 108, 3) := by decide +kernel
theorem dX9_add_7 : decode cX9_add 7 = .ok (.bipush 80, 2) := by decide +kernel
theorem dX9_add_9 : decode cX9_add 9 = .ok (.if_icmp .ge 12, 3) := by decide +kernel
theorem dX9_add_12 : decode cX9_add 12 = .ok (.aload_n 0, 1) := by decide +kernel
theorem dX9_add_13 : decode cX9_add 13 = .ok (.iload_n 1, 1) := by decide +kernel
theorem dX9_add_14 : decode cX9_add 14 = .ok (.iload_n 2, 1) := by decide +kernel
theorem dX9_add_15 : decode cX9_add 15 = .ok (.invokevirtual 109, 3) := by decide +kernel
theorem dX9_add_18 : decode cX9_add 18 = .ok (.ifCond .ne 5, 3) := by decide +kernel
theorem dX9_add_21 : decode cX9_add 21 = .ok (.iconst (-1), 1) := by decide +kernel
theorem dX9_add_22 : decode cX9_add 22 = .ok (.ireturn, 1) := by decide +kernel
theorem dX9_add_23 : decode cX9_add 23 = .ok (.iload_n 1, 1) := by decide +kernel
theorem dX9_add_24 : decode cX9_add 24 = .ok (.iconst (-1), 1) := by decide +kernel
theorem dX9_add_25 : decode cX9_add 25 = .ok (.if_icmp .ne 7, 3) := by decide +kernel
theorem dX9_add_28 : decode cX9_add 28 = .ok (.iconst 0, 1) := by decide +kernel
theorem dX9_add_29 : decode cX9_add 29 = .ok (.goto 14, 3) := by decide +kernel
theorem dX9_add_32 : decode cX9_add 32 = .ok (.aload_n 0, 1) := by decide +kernel
theorem dX9_add_33 : decode cX9_add 33 = .ok (.getfield 46, 3) := by decide +kernel
theorem dX9_add_36 : decode cX9_add 36 = .ok (.getfield 113, 3) := by decide +kernel
theorem dX9_add_39 : decode cX9_add 39 = .ok (.iload_n 1, 1) := by decide +kernel
theorem dX9_add_40 : decode cX9_add 40 = .ok (.iaload, 1) := by decide +kernel
theorem dX9_add_41 : decode cX9_add 41 = .ok (.iconst 1, 1) := by decide +kernel
theorem dX9_add_42 : decode cX9_add 42 = .ok (.iadd, 1) := by decide +kernel
theorem dX9_add_43 : decode cX9_add 43 = .ok (.istore_n 3, 1) := by decide +kernel
theorem dX9_add_44 : decode cX9_add 44 = .ok (.aload_n 0, 1) := by decide +kernel
theorem dX9_add_45 : decode cX9_add 45 = .ok (.iload_n 1, 1) := by decide +kernel
theorem dX9_add_46 : decode cX9_add 46 = .ok (.iload_n 2, 1) := by decide +kernel
theorem dX9_add_47 : decode cX9_add 47 = .ok (.invokevirtual 116, 3) := by decide +kernel
theorem dX9_add_50 : decode cX9_add 50 = .ok (.istore 4, 2) := by decide +kernel
theorem dX9_add_52 : decode cX9_add 52 = .ok (.aload_n 0, 1) := by decide +kernel
theorem dX9_add_53 : decode cX9_add 53 = .ok (.getfield 22, 3) := by decide +kernel
theorem dX9_add_56 : decode cX9_add 56 = .ok (.iload_n 3, 1) := by decide +kernel
theorem dX9_add_57 : decode cX9_add 57 = .ok (.invokevirtual 120, 3) := by decide +kernel
theorem dX9_add_60 : decode cX9_add 60 = .ok (.istore 5, 2) := by decide +kernel
theorem dX9_add_62 : decode cX9_add 62 = .ok (.aload_n 0, 1) := by decide +kernel
theorem dX9_add_63 : decode cX9_add 63 = .ok (.iload 4, 2) := by decide +kernel
theorem dX9_add_65 : decode cX9_add 65 = .ok (.iload_n 3, 1) := by decide +kernel
theorem dX9_add_66 : decode cX9_add 66 = .ok (.iload_n 1, 1) := by decide +kernel
theorem dX9_add_67 : decode cX9_add 67 = .ok (.iload 5, 2) := by decide +kernel
theorem dX9_add_69 : decode cX9_add 69 = .ok (.invokevirtual 124, 3) := by decide +kernel
theorem dX9_add_72 : decode cX9_add 72 = .ok (.istore 6, 2) := by decide +kernel
theorem dX9_add_74 : decode cX9_add 74 = .ok (.aload_n 0, 1) := by decide +kernel
theorem dX9_add_75 : decode cX9_add 75 = .ok (.iload 4, 2) := by decide +kernel
theorem dX9_add_77 : decode cX9_add 77 = .ok (.iload_n 3, 1) := by decide +kernel
theorem dX9_add_78 : decode cX9_add 78 = .ok (.iload_n 1, 1) := by decide +kernel
theorem dX9_add_79 : decode cX9_add 79 = .ok (.iload 5, 2) := by decide +kernel
theorem dX9_add_81 : decode cX9_add 81 = .ok (.invokevirtual 128, 3) := by decide +kernel
theorem dX9_add_84 : decode cX9_add 84 = .ok (.istore 7, 2) := by decide +kernel
theorem dX9_add_86 : decode cX9_add 86 = .ok (.iload 6, 2) := by decide +kernel
theorem dX9_add_88 : decode cX9_add 88 = .ok (.iload 7, 2) := by decide +kernel
theorem dX9_add_90 : decode cX9_add 90 = .ok (.invokestatic 131, 3) := by decide +kernel
theorem dX9_add_93 : decode cX9_add 93 = .ok (.istore 8, 2) := by decide +kernel
theorem dX9_add_95 : decode cX9_add 95 = .ok (.iload 8, 2) := by decide +kernel
theorem dX9_add_97 : decode cX9_add 97 = .ok (.ifCond .ne 6, 3) := by decide +kernel
theorem dX9_add_100 : decode cX9_add 100 = .ok (.bipush (-2), 2) := by decide +kernel
theorem dX9_add_102 : decode cX9_add 102 = .ok (.ireturn, 1) := by decide +kernel
theorem dX9_add_103 : decode cX9_add 103 = .ok (.aload_n 0, 1) := by decide +kernel
theorem dX9_add_104 : decode cX9_add 104 = .ok (.getfield 46, 3) := by decide +kernel
theorem dX9_add_107 : decode cX9_add 107 = .ok (.getfield 108, 3) := by decide +kernel
theorem dX9_add_110 : decode cX9_add 110 = .ok (.istore 9, 2) := by decide +kernel
theorem dX9_add_112 : decode cX9_add 112 = .ok (.aload_n 0, 1) := by decide +kernel
theorem dX9_add_113 : decode cX9_add 113 = .ok (.getfield 60, 3) := by decide +kernel
theorem dX9_add_116 : decode cX9_add 116 = .ok (.iconst 1, 1) := by decide +kernel
theorem dX9_add_117 : decode cX9_add 117 = .ok (.iload 9, 2) := by decide +kernel
theorem dX9_add_119 : decode cX9_add 119 = .ok (.aload_n 0, 1) := by decide +kernel
theorem dX9_add_120 : decode cX9_add 120 = .ok (.getfield 53, 3) := by decide +kernel
theorem dX9_add_123 : decode cX9_add 123 = .ok (.getfield 136, 3) := by decide +kernel
theorem dX9_add_126 : decode cX9_add 126 = .ok (.invokevirtual 137, 3) := by decide +kernel
theorem dX9_add_129 : decode cX9_add 129 = .ok (.aload_n 0, 1) := by decide +kernel
theorem dX9_add_130 : decode cX9_add 130 = .ok (.getfield 46, 3) := by decide +kernel
theorem dX9_add_133 : decode cX9_add 133 = .ok (.iload 4, 2) := by decide +kernel
theorem dX9_add_135 : decode cX9_add 135 = .ok (.iload_n 3, 1) := by decide +kernel
theorem dX9_add_136 : decode cX9_add 136 = .ok (.iload_n 1, 1) := by decide +kernel
theorem dX9_add_137 : decode cX9_add 137 = .ok (.aload_n 0, 1) := by decide +kernel
theorem dX9_add_138 : decode cX9_add 138 = .ok (.getfield 105, 3) := by decide +kernel
theorem dX9_add_141 : decode cX9_add 141 = .ok (.invokevirtual 141, 3) := by decide +kernel
theorem dX9_add_144 : decode cX9_add 144 = .ok (.aload_n 0, 1) := by decide +kernel
theorem dX9_add_145 : decode cX9_add 145 = .ok (.getfield 53, 3) := by decide +kernel
theorem dX9_add_148 : decode cX9_add 148 = .ok (.iload 9, 2) := by decide +kernel
theorem dX9_add_150 : decode cX9_add 150 = .ok (.aload_n 0, 1) := by decide +kernel
theorem dX9_add_151 : decode cX9_add 151 = .ok (.getfield 105, 3) := by decide +kernel
theorem dX9_add_154 : decode cX9_add 154 = .ok (.iload 8, 2) := by decide +kernel
theorem dX9_add_156 : decode cX9_add 156 = .ok (.invokevirtual 145, 3) := by decide +kernel
theorem dX9_add_159 : decode cX9_add 159 = .ok (.iload 9, 2) := by decide +kernel
theorem dX9_add_161 : decode cX9_add 161 = .ok (.ireturn, 1) := by decide +kernel
set_option maxRecDepth 20000 in
theorem ggX9_strike_X3_has : GoodIn wsX9_strike wsX3_has := goodIn_r _ [10, 11, 48, 49, 50, 51, 52, 53, 54] (by decide +kernel) (by decide +kernel)
set_option maxRecDepth 20000 in
theorem gX9_strike_X3_has : GoodIn wsX9_strike (wsV RX9 148 RX3 yX3_has wsX3_has) := goodIn_app (goodIn_of _ (by decide +kernel)) ggX9_strike_X3_has
set_option maxRecDepth 20000 in
theorem ggX9_strike_X0_open : GoodIn wsX9_strike wsX0_open := goodIn_r _ [16, 17, 18, 19, 20, 21, 22, 23, 24, 25, 61, 62, 63, 64, 65] (by decide +kernel) (by decide +kernel)
set_option maxRecDepth 20000 in
theorem gX9_strike_X0_open : GoodIn wsX9_strike (wsV RX9 137 RX0 yX0_open wsX0_open) := goodIn_app (goodIn_of _ (by decide +kernel)) ggX9_strike_X0_open
set_option maxRecDepth 20000 in
theorem ggX9_strike_X3_setStruck : GoodIn wsX9_strike wsX3_setStruck := goodIn_r _ [29, 30, 31, 32, 7, 8, 9, 10, 11, 48, 49, 50, 51, 52, 53, 54] (by decide +kernel) (by decide +kernel)
set_option maxRecDepth 20000 in
theorem gX9_strike_X3_setStruck : GoodIn wsX9_strike (wsV RX9 155 RX3 yX3_setStruck wsX3_setStruck) := goodIn_app (goodIn_of _ (by decide +kernel)) ggX9_strike_X3_setStruck
theorem dX9_strike_0 : decode cX9_strike 0 = .ok (.aload_n 0, 1) := by decide +kernel
theorem dX9_strike_1 : decode cX9_strike 1 = .ok (.getfield 46, 3) := by decide +kernel
theorem dX9_strike_4 : decode cX9_strike 4 = .ok (.iload_n 1, 1) := by decide +kernel
theorem dX9_strike_5 : decode cX9_strike 5 = .ok (.invokevirtual 148, 3) := by decide +kernel
theorem dX9_strike_8 : decode cX9_strike 8 = .ok (.ifCond .eq 15, 3) := by decide +kernel
theorem dX9_strike_11 : decode cX9_strike 11 = .ok (.aload_n 0, 1) := by decide +kernel
theorem dX9_strike_12 : decode cX9_strike 12 = .ok (.getfield 46, 3) := by decide +kernel
theorem dX9_strike_15 : decode cX9_strike 15 = .ok (.getfield 151, 3) := by decide +kernel
theorem dX9_strike_18 : decode cX9_strike 18 = .ok (.iload_n 1, 1) := by decide +kernel
theorem dX9_strike_19 : decode cX9_strike 19 = .ok (.baload, 1) := by decide +kernel
theorem dX9_strike_20 : decode cX9_strike 20 = .ok (.ifCond .eq 5, 3) := by decide +kernel
theorem dX9_strike_23 : decode cX9_strike 23 = .ok (.iconst 0, 1) := by decide +kernel
theorem dX9_strike_24 : decode cX9_strike 24 = .ok (.ireturn, 1) := by decide +kernel
theorem dX9_strike_25 : decode cX9_strike 25 = .ok (.aload_n 0, 1) := by decide +kernel
theorem dX9_strike_26 : decode cX9_strike 26 = .ok (.getfield 60, 3) := by decide +kernel
theorem dX9_strike_29 : decode cX9_strike 29 = .ok (.iconst 2, 1) := by decide +kernel
theorem dX9_strike_30 : decode cX9_strike 30 = .ok (.iload_n 1, 1) := by decide +kernel
theorem dX9_strike_31 : decode cX9_strike 31 = .ok (.aload_n 0, 1) := by decide +kernel
theorem dX9_strike_32 : decode cX9_strike 32 = .ok (.getfield 53, 3) := by decide +kernel
theorem dX9_strike_35 : decode cX9_strike 35 = .ok (.getfield 136, 3) := by decide +kernel
theorem dX9_strike_38 : decode cX9_strike 38 = .ok (.invokevirtual 137, 3) := by decide +kernel
theorem dX9_strike_41 : decode cX9_strike 41 = .ok (.aload_n 0, 1) := by decide +kernel
theorem dX9_strike_42 : decode cX9_strike 42 = .ok (.getfield 46, 3) := by decide +kernel
theorem dX9_strike_45 : decode cX9_strike 45 = .ok (.iload_n 1, 1) := by decide +kernel
theorem dX9_strike_46 : decode cX9_strike 46 = .ok (.iconst 1, 1) := by decide +kernel
theorem dX9_strike_47 : decode cX9_strike 47 = .ok (.invokevirtual 155, 3) := by decide +kernel
theorem dX9_strike_50 : decode cX9_strike 50 = .ok (.iconst 1, 1) := by decide +kernel
theorem dX9_strike_51 : decode cX9_strike 51 = .ok (.ireturn, 1) := by decide +kernel
set_option maxRecDepth 20000 in
theorem ggX9_renumber_X3_has : GoodIn wsX9_renumber wsX3_has := goodIn_r _ [16, 17, 108, 109, 110, 111, 112, 113, 114] (by decide +kernel) (by decide +kernel)
set_option maxRecDepth 20000 in
theorem gX9_renumber_X3_has : GoodIn wsX9_renumber (wsV RX9 148 RX3 yX3_has wsX3_has) := goodIn_app (goodIn_of _ (by decide +kernel)) ggX9_renumber_X3_has
set_option maxRecDepth 20000 in
theorem ggX9_renumber_X0_open : GoodIn wsX9_renumber wsX0_open := goodIn_r _ [22, 23, 24, 25, 26, 27, 28, 29, 30, 31, 115, 116, 117, 118, 119] (by decide +kernel) (by decide +kernel)
set_option maxRecDepth 20000 in
theorem gX9_renumber_X0_open : GoodIn wsX9_renumber (wsV RX9 137 RX0 yX0_open wsX0_open) := goodIn_app (goodIn_of _ (by decide +kernel)) ggX9_renumber_X0_open
set_option maxRecDepth 20000 in
theorem ggX9_renumber_X6_isThrough : GoodIn wsX9_renumber wsX6_isThrough := goodIn_r _ [36, 37, 38, 120, 121, 122] (by decide +kernel) (by decide +kernel)
set_option maxRecDepth 20000 in
theorem gX9_renumber_X6_isThrough : GoodIn wsX9_renumber (wsV RX9 120 RX6 yX6_isThrough wsX6_isThrough) := goodIn_app (goodIn_of _ (by decide +kernel)) ggX9_renumber_X6_isThrough
set_option maxRecDepth 20000 in
theorem ggX9_renumber_X3_isInRow : GoodIn wsX9_renumber wsX3_isInRow := goodIn_r _ [42, 43, 44, 45, 13, 14, 15, 16, 17, 108, 109, 110, 111, 112, 113, 114] (by decide +kernel) (by decide +kernel)
set_option maxRecDepth 20000 in
theorem gX9_renumber_X3_isInRow : GoodIn wsX9_renumber (wsV RX9 165 RX3 yX3_isInRow wsX3_isInRow) := goodIn_app (goodIn_of _ (by decide +kernel)) ggX9_renumber_X3_isInRow
set_option maxRecDepth 20000 in
theorem ggX9_renumber_X2_give : GoodIn wsX9_renumber wsX2_give := goodIn_r _ [50, 51, 52, 53, 54, 55, 56, 57, 58, 59, 49, 60, 61, 62, 63, 64, 65, 66, 29, 30, 31, 67, 68, 69, 70, 71, 72, 73, 74, 75, 76, 77, 78, 79, 80, 81, 82, 102, 103, 104, 105, 106, 107] (by decide +kernel) (by decide +kernel)
set_option maxRecDepth 20000 in
theorem gX9_renumber_X2_give : GoodIn wsX9_renumber (wsV RX9 145 RX2 yX2_give wsX2_give) := goodIn_app (goodIn_of _ (by decide +kernel)) ggX9_renumber_X2_give
set_option maxRecDepth 20000 in
theorem ggX9_renumber_X5_plain : GoodIn wsX9_renumber wsX5_plain := goodIn_r _ [86] (by decide +kernel) (by decide +kernel)
set_option maxRecDepth 20000 in
theorem gX9_renumber_X5_plain : GoodIn wsX9_renumber (va_wsS RX9 169 yX5_plain wsX5_plain) := goodIn_app (goodIn_of _ (by decide +kernel)) ggX9_renumber_X5_plain
theorem dX9_renumber_0 : decode cX9_renumber 0 = .ok (.aload_n 0, 1) := by decide +kernel
theorem dX9_renumber_1 : decode cX9_renumber 1 = .ok (.getfield 46, 3) := by decide +kernel
theorem dX9_renumber_4 : decode cX9_renumber 4 = .ok (.iload_n 1, 1) := by decide +kernel
theorem dX9_renumber_5 : decode cX9_renumber 5 = .ok (.invokevirtual 148, 3) := by decide +kernel
theorem dX9_renumber_8 : decode cX9_renumber 8 = .ok (.ifCond .ne 5, 3) := by decide +kernel
theorem dX9_renumber_11 : decode cX9_renumber 11 = .ok (.iconst 0, 1) := by decide +kernel
theorem dX9_renumber_12 : decode cX9_renumber 12 = .ok (.ireturn, 1) := by decide +kernel
theorem dX9_renumber_13 : decode cX9_renumber 13 = .ok (.aload_n 0, 1) := by decide +kernel
theorem dX9_renumber_14 : decode cX9_renumber 14 = .ok (.getfield 60, 3) := by decide +kernel
theorem dX9_renumber_17 : decode cX9_renumber 17 = .ok (.iconst 3, 1) := by decide +kernel
theorem dX9_renumber_18 : decode cX9_renumber 18 = .ok (.iload_n 1, 1) := by decide +kernel
theorem dX9_renumber_19 : decode cX9_renumber 19 = .ok (.aload_n 0, 1) := by decide +kernel
theorem dX9_renumber_20 : decode cX9_renumber 20 = .ok (.getfield 53, 3) := by decide +kernel
theorem dX9_renumber_23 : decode cX9_renumber 23 = .ok (.getfield 136, 3) := by decide +kernel
theorem dX9_renumber_26 : decode cX9_renumber 26 = .ok (.invokevirtual 137, 3) := by decide +kernel
theorem dX9_renumber_29 : decode cX9_renumber 29 = .ok (.aload_n 0, 1) := by decide +kernel
theorem dX9_renumber_30 : decode cX9_renumber 30 = .ok (.getfield 22, 3) := by decide +kernel
theorem dX9_renumber_33 : decode cX9_renumber 33 = .ok (.aload_n 0, 1) := by decide +kernel
theorem dX9_renumber_34 : decode cX9_renumber 34 = .ok (.getfield 46, 3) := by decide +kernel
theorem dX9_renumber_37 : decode cX9_renumber 37 = .ok (.getfield 113, 3) := by decide +kernel
theorem dX9_renumber_40 : decode cX9_renumber 40 = .ok (.iload_n 1, 1) := by decide +kernel
theorem dX9_renumber_41 : decode cX9_renumber 41 = .ok (.iaload, 1) := by decide +kernel
theorem dX9_renumber_42 : decode cX9_renumber 42 = .ok (.invokevirtual 120, 3) := by decide +kernel
theorem dX9_renumber_45 : decode cX9_renumber 45 = .ok (.istore_n 2, 1) := by decide +kernel
theorem dX9_renumber_46 : decode cX9_renumber 46 = .ok (.iconst 0, 1) := by decide +kernel
theorem dX9_renumber_47 : decode cX9_renumber 47 = .ok (.istore_n 3, 1) := by decide +kernel
theorem dX9_renumber_48 : decode cX9_renumber 48 = .ok (.iconst 0, 1) := by decide +kernel
theorem dX9_renumber_49 : decode cX9_renumber 49 = .ok (.istore 4, 2) := by decide +kernel
theorem dX9_renumber_51 : decode cX9_renumber 51 = .ok (.iload 4, 2) := by decide +kernel
theorem dX9_renumber_53 : decode cX9_renumber 53 = .ok (.aload_n 0, 1) := by decide +kernel
theorem dX9_renumber_54 : decode cX9_renumber 54 = .ok (.getfield 46, 3) := by decide +kernel
theorem dX9_renumber_57 : decode cX9_renumber 57 = .ok (.getfield 108, 3) := by decide +kernel
theorem dX9_renumber_60 : decode cX9_renumber 60 = .ok (.if_icmp .ge 105, 3) := by decide +kernel
theorem dX9_renumber_63 : decode cX9_renumber 63 = .ok (.aload_n 0, 1) := by decide +kernel
theorem dX9_renumber_64 : decode cX9_renumber 64 = .ok (.getfield 46, 3) := by decide +kernel
theorem dX9_renumber_67 : decode cX9_renumber 67 = .ok (.getfield 159, 3) := by decide +kernel
theorem dX9_renumber_70 : decode cX9_renumber 70 = .ok (.iload 4, 2) := by decide +kernel
theorem dX9_renumber_72 : decode cX9_renumber 72 = .ok (.iaload, 1) := by decide +kernel
theorem dX9_renumber_73 : decode cX9_renumber 73 = .ok (.istore 5, 2) := by decide +kernel
theorem dX9_renumber_75 : decode cX9_renumber 75 = .ok (.aload_n 0, 1) := by decide +kernel
theorem dX9_renumber_76 : decode cX9_renumber 76 = .ok (.getfield 46, 3) := by decide +kernel
theorem dX9_renumber_79 : decode cX9_renumber 79 = .ok (.iload 5, 2) := by decide +kernel
theorem dX9_renumber_81 : decode cX9_renumber 81 = .ok (.aload_n 0, 1) := by decide +kernel
theorem dX9_renumber_82 : decode cX9_renumber 82 = .ok (.getfield 46, 3) := by decide +kernel
theorem dX9_renumber_85 : decode cX9_renumber 85 = .ok (.getfield 113, 3) := by decide +kernel
theorem dX9_renumber_88 : decode cX9_renumber 88 = .ok (.iload_n 1, 1) := by decide +kernel
theorem dX9_renumber_89 : decode cX9_renumber 89 = .ok (.iaload, 1) := by decide +kernel
theorem dX9_renumber_90 : decode cX9_renumber 90 = .ok (.aload_n 0, 1) := by decide +kernel
theorem dX9_renumber_91 : decode cX9_renumber 91 = .ok (.getfield 46, 3) := by decide +kernel
theorem dX9_renumber_94 : decode cX9_renumber 94 = .ok (.getfield 162, 3) := by decide +kernel
theorem dX9_renumber_97 : decode cX9_renumber 97 = .ok (.iload_n 1, 1) := by decide +kernel
theorem dX9_renumber_98 : decode cX9_renumber 98 = .ok (.iaload, 1) := by decide +kernel
theorem dX9_renumber_99 : decode cX9_renumber 99 = .ok (.iload_n 2, 1) := by decide +kernel
theorem dX9_renumber_100 : decode cX9_renumber 100 = .ok (.invokevirtual 165, 3) := by decide +kernel
theorem dX9_renumber_103 : decode cX9_renumber 103 = .ok (.ifCond .ne 6, 3) := by decide +kernel
theorem dX9_renumber_106 : decode cX9_renumber 106 = .ok (.goto 53, 3) := by decide +kernel
theorem dX9_renumber_109 : decode cX9_renumber 109 = .ok (.aload_n 0, 1) := by decide +kernel
theorem dX9_renumber_110 : decode cX9_renumber 110 = .ok (.getfield 46, 3) := by decide +kernel
theorem dX9_renumber_113 : decode cX9_renumber 113 = .ok (.getfield 151, 3) := by decide +kernel
theorem dX9_renumber_116 : decode cX9_renumber 116 = .ok (.iload 5, 2) := by decide +kernel
theorem dX9_renumber_118 : decode cX9_renumber 118 = .ok (.baload, 1) := by decide +kernel
theorem dX9_renumber_119 : decode cX9_renumber 119 = .ok (.ifCond .eq 20, 3) := by decide +kernel
theorem dX9_renumber_122 : decode cX9_renumber 122 = .ok (.aload_n 0, 1) := by decide +kernel
theorem dX9_renumber_123 : decode cX9_renumber 123 = .ok (.getfield 53, 3) := by decide +kernel
theorem dX9_renumber_126 : decode cX9_renumber 126 = .ok (.iload 5, 2) := by decide +kernel
theorem dX9_renumber_128 : decode cX9_renumber 128 = .ok (.aload_n 0, 1) := by decide +kernel
theorem dX9_renumber_129 : decode cX9_renumber 129 = .ok (.getfield 105, 3) := by decide +kernel
theorem dX9_renumber_132 : decode cX9_renumber 132 = .ok (.iconst 0, 1) := by decide +kernel
theorem dX9_renumber_133 : decode cX9_renumber 133 = .ok (.invokevirtual 145, 3) := by decide +kernel
theorem dX9_renumber_136 : decode cX9_renumber 136 = .ok (.goto 23, 3) := by decide +kernel
theorem dX9_renumber_139 : decode cX9_renumber 139 = .ok (.iinc 3 1, 3) := by decide +kernel
theorem dX9_renumber_142 : decode cX9_renumber 142 = .ok (.aload_n 0, 1) := by decide +kernel
theorem dX9_renumber_143 : decode cX9_renumber 143 = .ok (.getfield 53, 3) := by decide +kernel
theorem dX9_renumber_146 : decode cX9_renumber 146 = .ok (.iload 5, 2) := by decide +kernel
theorem dX9_renumber_148 : decode cX9_renumber 148 = .ok (.aload_n 0, 1) := by decide +kernel
theorem dX9_renumber_149 : decode cX9_renumber 149 = .ok (.getfield 105, 3) := by decide +kernel
theorem dX9_renumber_152 : decode cX9_renumber 152 = .ok (.iload_n 3, 1) := by decide +kernel
theorem dX9_renumber_153 : decode cX9_renumber 153 = .ok (.invokestatic 169, 3) := by decide +kernel
theorem dX9_renumber_156 : decode cX9_renumber 156 = .ok (.invokevirtual 145, 3) := by decide +kernel
theorem dX9_renumber_159 : decode cX9_renumber 159 = .ok (.iinc 4 1, 3) := by decide +kernel
theorem dX9_renumber_162 : decode cX9_renumber 162 = .ok (.goto (-111), 3) := by decide +kernel
theorem dX9_renumber_165 : decode cX9_renumber 165 = .ok (.iconst 1, 1) := by decide +kernel
theorem dX9_renumber_166 : decode cX9_renumber 166 = .ok (.ireturn, 1) := by decide +kernel
set_option maxRecDepth 20000 in
theorem ggX9_error_X5_plain : GoodIn wsX9_error wsX5_plain := goodIn_r _ [9] (by decide +kernel) (by decide +kernel)
set_option maxRecDepth 20000 in
theorem gX9_error_X5_plain : GoodIn wsX9_error (va_wsS RX9 169 yX5_plain wsX5_plain) := goodIn_app (goodIn_of _ (by decide +kernel)) ggX9_error_X5_plain
set_option maxRecDepth 20000 in
theorem ggX9_error_X5_withSuffix : GoodIn wsX9_error wsX5_withSuffix := goodIn_r _ [12, 13, 14, 8, 15] (by decide +kernel) (by decide +kernel)
set_option maxRecDepth 20000 in
theorem gX9_error_X5_withSuffix : GoodIn wsX9_error (va_wsS RX9 173 yX5_withSuffix wsX5_withSuffix) := goodIn_app (goodIn_of _ (by decide +kernel)) ggX9_error_X5_withSuffix
set_option maxRecDepth 20000 in
theorem ggX9_error_X3_has : GoodIn wsX9_error wsX3_has := goodIn_r _ [20, 21, 94, 95, 96, 97, 98, 99, 100] (by decide +kernel) (by decide +kernel)
set_option maxRecDepth 20000 in
theorem gX9_error_X3_has : GoodIn wsX9_error (wsV RX9 148 RX3 yX3_has wsX3_has) := goodIn_app (goodIn_of _ (by decide +kernel)) ggX9_error_X3_has
set_option maxRecDepth 20000 in
theorem ggX9_error_X0_open : GoodIn wsX9_error wsX0_open := goodIn_r _ [26, 27, 28, 29, 30, 31, 32, 33, 34, 35, 101, 102, 103, 104, 105] (by decide +kernel) (by decide +kernel)
set_option maxRecDepth 20000 in
theorem gX9_error_X0_open : GoodIn wsX9_error (wsV RX9 137 RX0 yX0_open wsX0_open) := goodIn_app (goodIn_of _ (by decide +kernel)) ggX9_error_X0_open
set_option maxRecDepth 20000 in
theorem ggX9_error_X2_give : GoodIn wsX9_error wsX2_give := goodIn_r _ [40, 41, 42, 43, 44, 45, 46, 47, 48, 49, 39, 50, 51, 52, 53, 54, 55, 56, 33, 34, 35, 57, 58, 59, 60, 61, 62, 63, 64, 65, 66, 67, 68, 69, 70, 71, 72, 88, 89, 90, 91, 92, 93] (by decide +kernel) (by decide +kernel)
set_option maxRecDepth 20000 in
theorem gX9_error_X2_give : GoodIn wsX9_error (wsV RX9 145 RX2 yX2_give wsX2_give) := goodIn_app (goodIn_of _ (by decide +kernel)) ggX9_error_X2_give
theorem dX9_error_0 : decode cX9_error 0 = .ok (.iload_n 2, 1) := by decide +kernel
theorem dX9_error_1 : decode cX9_error 1 = .ok (.invokestatic 169, 3) := by decide +kernel
theorem dX9_error_4 : decode cX9_error 4 = .ok (.iload_n 3, 1) := by decide +kernel
theorem dX9_error_5 : decode cX9_error 5 = .ok (.invokestatic 173, 3) := by decide +kernel
theorem dX9_error_8 : decode cX9_error 8 = .ok (.istore 4, 2) := by decide +kernel
theorem dX9_error_10 : decode cX9_error 10 = .ok (.aload_n 0, 1) := by decide +kernel
theorem dX9_error_11 : decode cX9_error 11 = .ok (.getfield 46, 3) := by decide +kernel
theorem dX9_error_14 : decode cX9_error 14 = .ok (.iload_n 1, 1) := by decide +kernel
theorem dX9_error_15 : decode cX9_error 15 = .ok (.invokevirtual 148, 3) := by decide +kernel
theorem dX9_error_18 : decode cX9_error 18 = .ok (.ifCond .eq 8, 3) := by decide +kernel
theorem dX9_error_21 : decode cX9_error 21 = .ok (.iload 4, 2) := by decide +kernel
theorem dX9_error_23 : decode cX9_error 23 = .ok (.ifCond .ne 5, 3) := by decide +kernel
theorem dX9_error_26 : decode cX9_error 26 = .ok (.iconst 0, 1) := by decide +kernel
theorem dX9_error_27 : decode cX9_error 27 = .ok (.ireturn, 1) := by decide +kernel
theorem dX9_error_28 : decode cX9_error 28 = .ok (.aload_n 0, 1) := by decide +kernel
theorem dX9_error_29 : decode cX9_error 29 = .ok (.getfield 60, 3) := by decide +kernel
theorem dX9_error_32 : decode cX9_error 32 = .ok (.iconst 3, 1) := by decide +kernel
theorem dX9_error_33 : decode cX9_error 33 = .ok (.iload_n 1, 1) := by decide +kernel
theorem dX9_error_34 : decode cX9_error 34 = .ok (.aload_n 0, 1) := by decide +kernel
theorem dX9_error_35 : decode cX9_error 35 = .ok (.getfield 53, 3) := by decide +kernel
theorem dX9_error_38 : decode cX9_error 38 = .ok (.getfield 136, 3) := by decide +kernel
theorem dX9_error_41 : decode cX9_error 41 = .ok (.invokevirtual 137, 3) := by decide +kernel
theorem dX9_error_44 : decode cX9_error 44 = .ok (.aload_n 0, 1) := by decide +kernel
theorem dX9_error_45 : decode cX9_error 45 = .ok (.getfield 53, 3) := by decide +kernel
theorem dX9_error_48 : decode cX9_error 48 = .ok (.iload_n 1, 1) := by decide +kernel
theorem dX9_error_49 : decode cX9_error 49 = .ok (.aload_n 0, 1) := by decide +kernel
theorem dX9_error_50 : decode cX9_error 50 = .ok (.getfield 105, 3) := by decide +kernel
theorem dX9_error_53 : decode cX9_error 53 = .ok (.iload 4, 2) := by decide +kernel
theorem dX9_error_55 : decode cX9_error 55 = .ok (.invokevirtual 145, 3) := by decide +kernel
theorem dX9_error_58 : decode cX9_error 58 = .ok (.iconst 1, 1) := by decide +kernel
theorem dX9_error_59 : decode cX9_error 59 = .ok (.ireturn, 1) := by decide +kernel
set_option maxRecDepth 20000 in
theorem ggX9_undo_X0_latestKind : GoodIn wsX9_undo wsX0_latestKind := goodIn_r _ [8, 9, 10, 11, 12, 13, 7, 14, 15, 79, 80, 81, 82, 83] (by decide +kernel) (by decide +kernel)
set_option maxRecDepth 20000 in
theorem gX9_undo_X0_latestKind : GoodIn wsX9_undo (wsV RX9 176 RX0 yX0_latestKind wsX0_latestKind) := goodIn_app (goodIn_of _ (by decide +kernel)) ggX9_undo_X0_latestKind
set_option maxRecDepth 20000 in
theorem ggX9_undo_X0_latestMark : GoodIn wsX9_undo wsX0_latestMark := goodIn_r _ [19, 20, 11, 12, 13, 7, 14, 15, 79, 80, 81, 82, 83] (by decide +kernel) (by decide +kernel)
set_option maxRecDepth 20000 in
theorem gX9_undo_X0_latestMark : GoodIn wsX9_undo (wsV RX9 180 RX0 yX0_latestMark wsX0_latestMark) := goodIn_app (goodIn_of _ (by decide +kernel)) ggX9_undo_X0_latestMark
set_option maxRecDepth 20000 in
theorem ggX9_undo_X2_cutTo : GoodIn wsX9_undo wsX2_cutTo := goodIn_r _ [25, 26, 27, 28, 29, 84, 85, 86, 87, 88, 89] (by decide +kernel) (by decide +kernel)
set_option maxRecDepth 20000 in
theorem gX9_undo_X2_cutTo : GoodIn wsX9_undo (wsV RX9 183 RX2 yX2_cutTo wsX2_cutTo) := goodIn_app (goodIn_of _ (by decide +kernel)) ggX9_undo_X2_cutTo
set_option maxRecDepth 20000 in
theorem ggX9_undo_X3_dropLast : GoodIn wsX9_undo wsX3_dropLast := goodIn_r _ [34, 35, 36, 37, 38, 39, 40, 41, 42, 43, 33, 44, 90, 91, 92, 93, 94, 95, 96] (by decide +kernel) (by decide +kernel)
set_option maxRecDepth 20000 in
theorem gX9_undo_X3_dropLast : GoodIn wsX9_undo (wsV RX9 186 RX3 yX3_dropLast wsX3_dropLast) := goodIn_app (goodIn_of _ (by decide +kernel)) ggX9_undo_X3_dropLast
set_option maxRecDepth 20000 in
theorem ggX9_undo_X0_latestItem : GoodIn wsX9_undo wsX0_latestItem := goodIn_r _ [48, 49, 11, 12, 13, 7, 14, 15, 79, 80, 81, 82, 83] (by decide +kernel) (by decide +kernel)
set_option maxRecDepth 20000 in
theorem gX9_undo_X0_latestItem : GoodIn wsX9_undo (wsV RX9 189 RX0 yX0_latestItem wsX0_latestItem) := goodIn_app (goodIn_of _ (by decide +kernel)) ggX9_undo_X0_latestItem
set_option maxRecDepth 20000 in
theorem ggX9_undo_X3_setStruck : GoodIn wsX9_undo wsX3_setStruck := goodIn_r _ [53, 54, 55, 56, 57, 58, 33, 59, 35, 90, 91, 92, 93, 94, 95, 96] (by decide +kernel) (by decide +kernel)
set_option maxRecDepth 20000 in
theorem gX9_undo_X3_setStruck : GoodIn wsX9_undo (wsV RX9 155 RX3 yX3_setStruck wsX3_setStruck) := goodIn_app (goodIn_of _ (by decide +kernel)) ggX9_undo_X3_setStruck
set_option maxRecDepth 20000 in
theorem ggX9_undo_X0_close : GoodIn wsX9_undo wsX0_close := goodIn_r _ [63, 9, 15, 11, 12, 13, 7, 14, 79, 80, 81, 82, 83] (by decide +kernel) (by decide +kernel)
set_option maxRecDepth 20000 in
theorem gX9_undo_X0_close : GoodIn wsX9_undo (wsV RX9 192 RX0 yX0_close wsX0_close) := goodIn_app (goodIn_of _ (by decide +kernel)) ggX9_undo_X0_close
theorem dX9_undo_0 : decode cX9_undo 0 = .ok (.aload_n 0, 1) := by decide +kernel
theorem dX9_undo_1 : decode cX9_undo 1 = .ok (.getfield 60, 3) := by decide +kernel
theorem dX9_undo_4 : decode cX9_undo 4 = .ok (.invokevirtual 176, 3) := by decide +kernel
theorem dX9_undo_7 : decode cX9_undo 7 = .ok (.istore_n 1, 1) := by decide +kernel
theorem dX9_undo_8 : decode cX9_undo 8 = .ok (.iload_n 1, 1) := by decide +kernel
theorem dX9_undo_9 : decode cX9_undo 9 = .ok (.iconst (-1), 1) := by decide +kernel
theorem dX9_undo_10 : decode cX9_undo 10 = .ok (.if_icmp .ne 5, 3) := by decide +kernel
theorem dX9_undo_13 : decode cX9_undo 13 = .ok (.iconst 0, 1) := by decide +kernel
theorem dX9_undo_14 : decode cX9_undo 14 = .ok (.ireturn, 1) := by decide +kernel
theorem dX9_undo_15 : decode cX9_undo 15 = .ok (.aload_n 0, 1) := by decide +kernel
theorem dX9_undo_16 : decode cX9_undo 16 = .ok (.getfield 53, 3) := by decide +kernel
theorem dX9_undo_19 : decode cX9_undo 19 = .ok (.aload_n 0, 1) := by decide +kernel
theorem dX9_undo_20 : decode cX9_undo 20 = .ok (.getfield 60, 3) := by decide +kernel
theorem dX9_undo_23 : decode cX9_undo 23 = .ok (.invokevirtual 180, 3) := by decide +kernel
theorem dX9_undo_26 : decode cX9_undo 26 = .ok (.invokevirtual 183, 3) := by decide +kernel
theorem dX9_undo_29 : decode cX9_undo 29 = .ok (.iload_n 1, 1) := by decide +kernel
theorem dX9_undo_30 : decode cX9_undo 30 = .ok (.iconst 1, 1) := by decide +kernel
theorem dX9_undo_31 : decode cX9_undo 31 = .ok (.if_icmp .ne 13, 3) := by decide +kernel
theorem dX9_undo_34 : decode cX9_undo 34 = .ok (.aload_n 0, 1) := by decide +kernel
theorem dX9_undo_35 : decode cX9_undo 35 = .ok (.getfield 46, 3) := by decide +kernel
theorem dX9_undo_38 : decode cX9_undo 38 = .ok (.invokevirtual 186, 3) := by decide +kernel
theorem dX9_undo_41 : decode cX9_undo 41 = .ok (.goto 23, 3) := by decide +kernel
theorem dX9_undo_44 : decode cX9_undo 44 = .ok (.iload_n 1, 1) := by decide +kernel
theorem dX9_undo_45 : decode cX9_undo 45 = .ok (.iconst 2, 1) := by decide +kernel
theorem dX9_undo_46 : decode cX9_undo 46 = .ok (.if_icmp .ne 18, 3) := by decide +kernel
theorem dX9_undo_49 : decode cX9_undo 49 = .ok (.aload_n 0, 1) := by decide +kernel
theorem dX9_undo_50 : decode cX9_undo 50 = .ok (.getfield 46, 3) := by decide +kernel
theorem dX9_undo_53 : decode cX9_undo 53 = .ok (.aload_n 0, 1) := by decide +kernel
theorem dX9_undo_54 : decode cX9_undo 54 = .ok (.getfield 60, 3) := by decide +kernel
theorem dX9_undo_57 : decode cX9_undo 57 = .ok (.invokevirtual 189, 3) := by decide +kernel
theorem dX9_undo_60 : decode cX9_undo 60 = .ok (.iconst 0, 1) := by decide +kernel
theorem dX9_undo_61 : decode cX9_undo 61 = .ok (.invokevirtual 155, 3) := by decide +kernel
theorem dX9_undo_64 : decode cX9_undo 64 = .ok (.aload_n 0, 1) := by decide +kernel
theorem dX9_undo_65 : decode cX9_undo 65 = .ok (.getfield 60, 3) := by decide +kernel
theorem dX9_undo_68 : decode cX9_undo 68 = .ok (.invokevirtual 192, 3) := by decide +kernel
theorem dX9_undo_71 : decode cX9_undo 71 = .ok (.iconst 1, 1) := by decide +kernel
theorem dX9_undo_72 : decode cX9_undo 72 = .ok (.ireturn, 1) := by decide +kernel
theorem dX9_wait_0 : decode cX9_wait 0 = .ok (.iload_n 1, 1) := by decide +kernel
theorem dX9_wait_1 : decode cX9_wait 1 = .ok (.ifCond .lt 22, 3) := by decide +kernel
theorem dX9_wait_4 : decode cX9_wait 4 = .ok (.iload_n 1, 1) := by decide +kernel
theorem dX9_wait_5 : decode cX9_wait 5 = .ok (.sipush 1000, 3) := by decide +kernel
theorem dX9_wait_8 : decode cX9_wait 8 = .ok (.if_icmp .gt 15, 3) := by decide +kernel
theorem dX9_wait_11 : decode cX9_wait 11 = .ok (.aload_n 0, 1) := by decide +kernel
theorem dX9_wait_12 : decode cX9_wait 12 = .ok (.getfield 105, 3) := by decide +kernel
theorem dX9_wait_15 : decode cX9_wait 15 = .ok (.iload_n 1, 1) := by decide +kernel
theorem dX9_wait_16 : decode cX9_wait 16 = .ok (.iadd, 1) := by decide +kernel
theorem dX9_wait_17 : decode cX9_wait 17 = .ok (.sipush 9999, 3) := by decide +kernel
theorem dX9_wait_20 : decode cX9_wait 20 = .ok (.if_icmp .le 5, 3) := by decide +kernel
theorem dX9_wait_23 : decode cX9_wait 23 = .ok (.iconst 0, 1) := by decide +kernel
theorem dX9_wait_24 : decode cX9_wait 24 = .ok (.ireturn, 1) := by decide +kernel
theorem dX9_wait_25 : decode cX9_wait 25 = .ok (.aload_n 0, 1) := by decide +kernel
theorem dX9_wait_26 : decode cX9_wait 26 = .ok (.dup, 1) := by decide +kernel
theorem dX9_wait_27 : decode cX9_wait 27 = .ok (.getfield 105, 3) := by decide +kernel
theorem dX9_wait_30 : decode cX9_wait 30 = .ok (.iload_n 1, 1) := by decide +kernel
theorem dX9_wait_31 : decode cX9_wait 31 = .ok (.iadd, 1) := by decide +kernel
theorem dX9_wait_32 : decode cX9_wait 32 = .ok (.putfield 105, 3) := by decide +kernel
theorem dX9_wait_35 : decode cX9_wait 35 = .ok (.iconst 1, 1) := by decide +kernel
theorem dX9_wait_36 : decode cX9_wait 36 = .ok (.ireturn, 1) := by decide +kernel
set_option maxRecDepth 20000 in
theorem ggX9_about_X3_has : GoodIn wsX9_about wsX3_has := goodIn_r _ [13, 14, 54, 55, 56, 57, 58, 59, 60] (by decide +kernel) (by decide +kernel)
set_option maxRecDepth 20000 in
theorem gX9_about_X3_has : GoodIn wsX9_about (wsV RX9 148 RX3 yX3_has wsX3_has) := goodIn_app (goodIn_of _ (by decide +kernel)) ggX9_about_X3_has
set_option maxRecDepth 20000 in
theorem ggX9_about_X6_isThrough : GoodIn wsX9_about wsX6_isThrough := goodIn_r _ [19, 20, 21, 61, 62, 63] (by decide +kernel) (by decide +kernel)
set_option maxRecDepth 20000 in
theorem gX9_about_X6_isThrough : GoodIn wsX9_about (wsV RX9 120 RX6 yX6_isThrough wsX6_isThrough) := goodIn_app (goodIn_of _ (by decide +kernel)) ggX9_about_X6_isThrough
set_option maxRecDepth 20000 in
theorem ggX9_about_X3_placeInRow : GoodIn wsX9_about wsX3_placeInRow := goodIn_r _ [25, 26, 27, 28, 29, 30, 31, 12, 32, 14, 33, 34, 35, 36, 37, 10, 11, 13, 54, 55, 56, 57, 58, 59, 60] (by decide +kernel) (by decide +kernel)
set_option maxRecDepth 20000 in
theorem gX9_about_X3_placeInRow : GoodIn wsX9_about (wsV RX9 202 RX3 yX3_placeInRow wsX3_placeInRow) := goodIn_app (goodIn_of _ (by decide +kernel)) ggX9_about_X3_placeInRow
set_option maxRecDepth 20000 in
theorem ggX9_about_X3_placeOf : GoodIn wsX9_about wsX3_placeOf := goodIn_r _ [32, 14, 26, 54, 55, 56, 57, 58, 59, 60] (by decide +kernel) (by decide +kernel)
set_option maxRecDepth 20000 in
theorem gX9_about_X3_placeOf : GoodIn wsX9_about (wsV RX9 206 RX3 yX3_placeOf wsX3_placeOf) := goodIn_app (goodIn_of _ (by decide +kernel)) ggX9_about_X3_placeOf
theorem dX9_about_0 : decode cX9_about 0 = .ok (.aload_n 0, 1) := by decide +kernel
theorem dX9_about_1 : decode cX9_about 1 = .ok (.getfield 46, 3) := by decide +kernel
theorem dX9_about_4 : decode cX9_about 4 = .ok (.iload_n 1, 1) := by decide +kernel
theorem dX9_about_5 : decode cX9_about 5 = .ok (.invokevirtual 148, 3) := by decide +kernel
theorem dX9_about_8 : decode cX9_about 8 = .ok (.ifCond .ne 13, 3) := by decide +kernel
theorem dX9_about_11 : decode cX9_about 11 = .ok (.new 195, 3) := by decide +kernel
theorem dX9_about_14 : decode cX9_about 14 = .ok (.dup, 1) := by decide +kernel
theorem dX9_about_15 : decode cX9_about 15 = .ok (.ldc 197, 2) := by decide +kernel
theorem dX9_about_17 : decode cX9_about 17 = .ok (.invokespecial 199, 3) := by decide +kernel
theorem dX9_about_20 : decode cX9_about 20 = .ok (.athrow, 1) := by decide +kernel
theorem dX9_about_21 : decode cX9_about 21 = .ok (.iload_n 2, 1) := by decide +kernel
theorem dX9_about_22 : decode cX9_about 22 = .ok (.tableswitch 120 0 5 #[38, 48, 58, 76, 101, 110], 38) := by decide +kernel
theorem dX9_about_60 : decode cX9_about 60 = .ok (.aload_n 0, 1) := by decide +kernel
theorem dX9_about_61 : decode cX9_about 61 = .ok (.getfield 46, 3) := by decide +kernel
theorem dX9_about_64 : decode cX9_about 64 = .ok (.getfield 113, 3) := by decide +kernel
theorem dX9_about_67 : decode cX9_about 67 = .ok (.iload_n 1, 1) := by decide +kernel
theorem dX9_about_68 : decode cX9_about 68 = .ok (.iaload, 1) := by decide +kernel
theorem dX9_about_69 : decode cX9_about 69 = .ok (.ireturn, 1) := by decide +kernel
theorem dX9_about_70 : decode cX9_about 70 = .ok (.aload_n 0, 1) := by decide +kernel
theorem dX9_about_71 : decode cX9_about 71 = .ok (.getfield 46, 3) := by decide +kernel
theorem dX9_about_74 : decode cX9_about 74 = .ok (.getfield 162, 3) := by decide +kernel
theorem dX9_about_77 : decode cX9_about 77 = .ok (.iload_n 1, 1) := by decide +kernel
theorem dX9_about_78 : decode cX9_about 78 = .ok (.iaload, 1) := by decide +kernel
theorem dX9_about_79 : decode cX9_about 79 = .ok (.ireturn, 1) := by decide +kernel
theorem dX9_about_80 : decode cX9_about 80 = .ok (.aload_n 0, 1) := by decide +kernel
theorem dX9_about_81 : decode cX9_about 81 = .ok (.getfield 46, 3) := by decide +kernel
theorem dX9_about_84 : decode cX9_about 84 = .ok (.getfield 151, 3) := by decide +kernel
theorem dX9_about_87 : decode cX9_about 87 = .ok (.iload_n 1, 1) := by decide +kernel
theorem dX9_about_88 : decode cX9_about 88 = .ok (.baload, 1) := by decide +kernel
theorem dX9_about_89 : decode cX9_about 89 = .ok (.ifCond .eq 7, 3) := by decide +kernel
theorem dX9_about_92 : decode cX9_about 92 = .ok (.iconst 1, 1) := by decide +kernel
theorem dX9_about_93 : decode cX9_about 93 = .ok (.goto 4, 3) := by decide +kernel
theorem dX9_about_96 : decode cX9_about 96 = .ok (.iconst 0, 1) := by decide +kernel
theorem dX9_about_97 : decode cX9_about 97 = .ok (.ireturn, 1) := by decide +kernel
theorem dX9_about_98 : decode cX9_about 98 = .ok (.aload_n 0, 1) := by decide +kernel
theorem dX9_about_99 : decode cX9_about 99 = .ok (.getfield 46, 3) := by decide +kernel
theorem dX9_about_102 : decode cX9_about 102 = .ok (.iload_n 1, 1) := by decide +kernel
theorem dX9_about_103 : decode cX9_about 103 = .ok (.aload_n 0, 1) := by decide +kernel
theorem dX9_about_104 : decode cX9_about 104 = .ok (.getfield 22, 3) := by decide +kernel
theorem dX9_about_107 : decode cX9_about 107 = .ok (.aload_n 0, 1) := by decide +kernel
theorem dX9_about_108 : decode cX9_about 108 = .ok (.getfield 46, 3) := by decide +kernel
theorem dX9_about_111 : decode cX9_about 111 = .ok (.getfield 113, 3) := by decide +kernel
theorem dX9_about_114 : decode cX9_about 114 = .ok (.iload_n 1, 1) := by decide +kernel
theorem dX9_about_115 : decode cX9_about 115 = .ok (.iaload, 1) := by decide +kernel
theorem dX9_about_116 : decode cX9_about 116 = .ok (.invokevirtual 120, 3) := by decide +kernel
theorem dX9_about_119 : decode cX9_about 119 = .ok (.invokevirtual 202, 3) := by decide +kernel
theorem dX9_about_122 : decode cX9_about 122 = .ok (.ireturn, 1) := by decide +kernel
theorem dX9_about_123 : decode cX9_about 123 = .ok (.aload_n 0, 1) := by decide +kernel
theorem dX9_about_124 : decode cX9_about 124 = .ok (.getfield 46, 3) := by decide +kernel
theorem dX9_about_127 : decode cX9_about 127 = .ok (.iload_n 1, 1) := by decide +kernel
theorem dX9_about_128 : decode cX9_about 128 = .ok (.invokevirtual 206, 3) := by decide +kernel
theorem dX9_about_131 : decode cX9_about 131 = .ok (.ireturn, 1) := by decide +kernel
theorem dX9_about_132 : decode cX9_about 132 = .ok (.aload_n 0, 1) := by decide +kernel
theorem dX9_about_133 : decode cX9_about 133 = .ok (.getfield 46, 3) := by decide +kernel
theorem dX9_about_136 : decode cX9_about 136 = .ok (.getfield 209, 3) := by decide +kernel
theorem dX9_about_139 : decode cX9_about 139 = .ok (.iload_n 1, 1) := by decide +kernel
theorem dX9_about_140 : decode cX9_about 140 = .ok (.iaload, 1) := by decide +kernel
theorem dX9_about_141 : decode cX9_about 141 = .ok (.ireturn, 1) := by decide +kernel
theorem dX9_about_142 : decode cX9_about 142 = .ok (.new 195, 3) := by decide +kernel
theorem dX9_about_145 : decode cX9_about 145 = .ok (.dup, 1) := by decide +kernel
theorem dX9_about_146 : decode cX9_about 146 = .ok (.ldc 212, 2) := by decide +kernel
theorem dX9_about_148 : decode cX9_about 148 = .ok (.invokespecial 199, 3) := by decide +kernel
theorem dX9_about_151 : decode cX9_about 151 = .ok (.athrow, 1) := by decide +kernel
set_option maxRecDepth 20000 in
theorem ggX9_label_X2_asOf : GoodIn wsX9_label wsX2_asOf := goodIn_r _ [11, 12, 13, 14, 15, 87, 88, 89, 90, 91, 92] (by decide +kernel) (by decide +kernel)
set_option maxRecDepth 20000 in
theorem gX9_label_X2_asOf : GoodIn wsX9_label (wsV RX9 214 RX2 yX2_asOf wsX2_asOf) := goodIn_app (goodIn_of _ (by decide +kernel)) ggX9_label_X2_asOf
set_option maxRecDepth 20000 in
theorem ggX9_label_X3_has : GoodIn wsX9_label wsX3_has := goodIn_r _ [20, 21, 80, 81, 82, 83, 84, 85, 86] (by decide +kernel) (by decide +kernel)
set_option maxRecDepth 20000 in
theorem gX9_label_X3_has : GoodIn wsX9_label (wsV RX9 148 RX3 yX3_has wsX3_has) := goodIn_app (goodIn_of _ (by decide +kernel)) ggX9_label_X3_has
set_option maxRecDepth 20000 in
theorem ggX9_label_X6_formOf : GoodIn wsX9_label wsX6_formOf := goodIn_r _ [26, 27, 28, 93, 94, 95] (by decide +kernel) (by decide +kernel)
set_option maxRecDepth 20000 in
theorem gX9_label_X6_formOf : GoodIn wsX9_label (wsV RX9 217 RX6 yX6_formOf wsX6_formOf) := goodIn_app (goodIn_of _ (by decide +kernel)) ggX9_label_X6_formOf
set_option maxRecDepth 20000 in
theorem ggX9_label_X1_writeLabel : GoodIn wsX9_label wsX1_writeLabel := goodIn_r _ [32, 33, 34, 35, 36, 37, 38, 31, 39, 40, 41, 42, 43, 44, 45, 46, 47, 48, 49, 50, 51, 52, 53, 54, 55, 56, 57, 58, 59, 60, 61, 62, 78, 79] (by decide +kernel) (by decide +kernel)
set_option maxRecDepth 20000 in
theorem gX9_label_X1_writeLabel : GoodIn wsX9_label (va_wsS RX9 220 yX1_writeLabel wsX1_writeLabel) := goodIn_app (goodIn_of _ (by decide +kernel)) ggX9_label_X1_writeLabel
theorem dX9_label_0 : decode cX9_label 0 = .ok (.aload_n 0, 1) := by decide +kernel
theorem dX9_label_1 : decode cX9_label 1 = .ok (.getfield 53, 3) := by decide +kernel
theorem dX9_label_4 : decode cX9_label 4 = .ok (.iload_n 1, 1) := by decide +kernel
theorem dX9_label_5 : decode cX9_label 5 = .ok (.iload_n 2, 1) := by decide +kernel
theorem dX9_label_6 : decode cX9_label 6 = .ok (.invokevirtual 214, 3) := by decide +kernel
theorem dX9_label_9 : decode cX9_label 9 = .ok (.istore_n 3, 1) := by decide +kernel
theorem dX9_label_10 : decode cX9_label 10 = .ok (.aload_n 0, 1) := by decide +kernel
theorem dX9_label_11 : decode cX9_label 11 = .ok (.getfield 46, 3) := by decide +kernel
theorem dX9_label_14 : decode cX9_label 14 = .ok (.iload_n 1, 1) := by decide +kernel
theorem dX9_label_15 : decode cX9_label 15 = .ok (.invokevirtual 148, 3) := by decide +kernel
theorem dX9_label_18 : decode cX9_label 18 = .ok (.ifCond .eq 7, 3) := by decide +kernel
theorem dX9_label_21 : decode cX9_label 21 = .ok (.iload_n 3, 1) := by decide +kernel
theorem dX9_label_22 : decode cX9_label 22 = .ok (.ifCond .ne 5, 3) := by decide +kernel
theorem dX9_label_25 : decode cX9_label 25 = .ok (.iconst (-1), 1) := by decide +kernel
theorem dX9_label_26 : decode cX9_label 26 = .ok (.ireturn, 1) := by decide +kernel
theorem dX9_label_27 : decode cX9_label 27 = .ok (.aload_n 0, 1) := by decide +kernel
theorem dX9_label_28 : decode cX9_label 28 = .ok (.getfield 16, 3) := by decide +kernel
theorem dX9_label_31 : decode cX9_label 31 = .ok (.iconst 0, 1) := by decide +kernel
theorem dX9_label_32 : decode cX9_label 32 = .ok (.putfield 78, 3) := by decide +kernel
theorem dX9_label_35 : decode cX9_label 35 = .ok (.aload_n 0, 1) := by decide +kernel
theorem dX9_label_36 : decode cX9_label 36 = .ok (.getfield 16, 3) := by decide +kernel
theorem dX9_label_39 : decode cX9_label 39 = .ok (.aload_n 0, 1) := by decide +kernel
theorem dX9_label_40 : decode cX9_label 40 = .ok (.getfield 22, 3) := by decide +kernel
theorem dX9_label_43 : decode cX9_label 43 = .ok (.aload_n 0, 1) := by decide +kernel
theorem dX9_label_44 : decode cX9_label 44 = .ok (.getfield 46, 3) := by decide +kernel
theorem dX9_label_47 : decode cX9_label 47 = .ok (.getfield 113, 3) := by decide +kernel
theorem dX9_label_50 : decode cX9_label 50 = .ok (.iload_n 1, 1) := by decide +kernel
theorem dX9_label_51 : decode cX9_label 51 = .ok (.iaload, 1) := by decide +kernel
theorem dX9_label_52 : decode cX9_label 52 = .ok (.invokevirtual 217, 3) := by decide +kernel
theorem dX9_label_55 : decode cX9_label 55 = .ok (.iload_n 3, 1) := by decide +kernel
theorem dX9_label_56 : decode cX9_label 56 = .ok (.invokestatic 220, 3) := by decide +kernel
theorem dX9_label_59 : decode cX9_label 59 = .ok (.aload_n 0, 1) := by decide +kernel
theorem dX9_label_60 : decode cX9_label 60 = .ok (.getfield 16, 3) := by decide +kernel
theorem dX9_label_63 : decode cX9_label 63 = .ok (.getfield 78, 3) := by decide +kernel
theorem dX9_label_66 : decode cX9_label 66 = .ok (.ireturn, 1) := by decide +kernel
set_option maxRecDepth 20000 in
theorem ggX9_cited_X3_has : GoodIn wsX9_cited wsX3_has := goodIn_r _ [13, 14, 81, 82, 83, 84, 85, 86, 87] (by decide +kernel) (by decide +kernel)
set_option maxRecDepth 20000 in
theorem gX9_cited_X3_has : GoodIn wsX9_cited (wsV RX9 148 RX3 yX3_has wsX3_has) := goodIn_app (goodIn_of _ (by decide +kernel)) ggX9_cited_X3_has
set_option maxRecDepth 20000 in
theorem ggX9_cited_X2_asOf : GoodIn wsX9_cited wsX2_asOf := goodIn_r _ [19, 20, 21, 22, 23, 90, 91, 92, 93, 94, 95] (by decide +kernel) (by decide +kernel)
set_option maxRecDepth 20000 in
theorem gX9_cited_X2_asOf : GoodIn wsX9_cited (wsV RX9 214 RX2 yX2_asOf wsX2_asOf) := goodIn_app (goodIn_of _ (by decide +kernel)) ggX9_cited_X2_asOf
set_option maxRecDepth 20000 in
theorem ggX9_cited_X8_put : GoodIn wsX9_cited wsX8_put := goodIn_r _ [28, 29, 30, 88, 89] (by decide +kernel) (by decide +kernel)
set_option maxRecDepth 20000 in
theorem gX9_cited_X8_put : GoodIn wsX9_cited (wsV RX9 226 RX8 yX8_put wsX8_put) := goodIn_app (goodIn_of _ (by decide +kernel)) ggX9_cited_X8_put
set_option maxRecDepth 20000 in
theorem ggX9_cited_X6_formOf : GoodIn wsX9_cited wsX6_formOf := goodIn_r _ [35, 36, 37, 96, 97, 98] (by decide +kernel) (by decide +kernel)
set_option maxRecDepth 20000 in
theorem gX9_cited_X6_formOf : GoodIn wsX9_cited (wsV RX9 217 RX6 yX6_formOf wsX6_formOf) := goodIn_app (goodIn_of _ (by decide +kernel)) ggX9_cited_X6_formOf
set_option maxRecDepth 20000 in
theorem ggX9_cited_X1_writeLabel : GoodIn wsX9_cited wsX1_writeLabel := goodIn_r _ [41, 42, 43, 44, 45, 46, 47, 40, 48, 49, 50, 51, 52, 25, 26, 27, 28, 29, 30, 53, 54, 55, 56, 57, 58, 59, 60, 61, 62, 63, 64, 65, 88, 89] (by decide +kernel) (by decide +kernel)
set_option maxRecDepth 20000 in
theorem gX9_cited_X1_writeLabel : GoodIn wsX9_cited (va_wsS RX9 220 yX1_writeLabel wsX1_writeLabel) := goodIn_app (goodIn_of _ (by decide +kernel)) ggX9_cited_X1_writeLabel
theorem dX9_cited_0 : decode cX9_cited 0 = .ok (.aload_n 0, 1) := by decide +kernel
theorem dX9_cited_1 : decode cX9_cited 1 = .ok (.getfield 46, 3) := by decide +kernel
theorem dX9_cited_4 : decode cX9_cited 4 = .ok (.iload_n 1, 1) := by decide +kernel
theorem dX9_cited_5 : decode cX9_cited 5 = .ok (.invokevirtual 148, 3) := by decide +kernel
theorem dX9_cited_8 : decode cX9_cited 8 = .ok (.ifCond .ne 5, 3) := by decide +kernel
theorem dX9_cited_11 : decode cX9_cited 11 = .ok (.iconst (-1), 1) := by decide +kernel
theorem dX9_cited_12 : decode cX9_cited 12 = .ok (.ireturn, 1) := by decide +kernel
theorem dX9_cited_13 : decode cX9_cited 13 = .ok (.iload_n 1, 1) := by decide +kernel
theorem dX9_cited_14 : decode cX9_cited 14 = .ok (.istore_n 3, 1) := by decide +kernel
theorem dX9_cited_15 : decode cX9_cited 15 = .ok (.aload_n 0, 1) := by decide +kernel
theorem dX9_cited_16 : decode cX9_cited 16 = .ok (.getfield 46, 3) := by decide +kernel
theorem dX9_cited_19 : decode cX9_cited 19 = .ok (.getfield 113, 3) := by decide +kernel
theorem dX9_cited_22 : decode cX9_cited 22 = .ok (.iload_n 1, 1) := by decide +kernel
theorem dX9_cited_23 : decode cX9_cited 23 = .ok (.iaload, 1) := by decide +kernel
theorem dX9_cited_24 : decode cX9_cited 24 = .ok (.istore 4, 2) := by decide +kernel
theorem dX9_cited_26 : decode cX9_cited 26 = .ok (.iload 4, 2) := by decide +kernel
theorem dX9_cited_28 : decode cX9_cited 28 = .ok (.ifCond .lt 58, 3) := by decide +kernel
theorem dX9_cited_31 : decode cX9_cited 31 = .ok (.aload_n 0, 1) := by decide +kernel
theorem dX9_cited_32 : decode cX9_cited 32 = .ok (.getfield 46, 3) := by decide +kernel
theorem dX9_cited_35 : decode cX9_cited 35 = .ok (.iload_n 3, 1) := by decide +kernel
theorem dX9_cited_36 : decode cX9_cited 36 = .ok (.invokevirtual 148, 3) := by decide +kernel
theorem dX9_cited_39 : decode cX9_cited 39 = .ok (.ifCond .eq 47, 3) := by decide +kernel
theorem dX9_cited_42 : decode cX9_cited 42 = .ok (.aload_n 0, 1) := by decide +kernel
theorem dX9_cited_43 : decode cX9_cited 43 = .ok (.getfield 64, 3) := by decide +kernel
theorem dX9_cited_46 : decode cX9_cited 46 = .ok (.iload 4, 2) := by decide +kernel
theorem dX9_cited_48 : decode cX9_cited 48 = .ok (.aload_n 0, 1) := by decide +kernel
theorem dX9_cited_49 : decode cX9_cited 49 = .ok (.getfield 53, 3) := by decide +kernel
theorem dX9_cited_52 : decode cX9_cited 52 = .ok (.iload_n 3, 1) := by decide +kernel
theorem dX9_cited_53 : decode cX9_cited 53 = .ok (.iload_n 2, 1) := by decide +kernel
theorem dX9_cited_54 : decode cX9_cited 54 = .ok (.invokevirtual 214, 3) := by decide +kernel
theorem dX9_cited_57 : decode cX9_cited 57 = .ok (.iastore, 1) := by decide +kernel
theorem dX9_cited_58 : decode cX9_cited 58 = .ok (.aload_n 0, 1) := by decide +kernel
theorem dX9_cited_59 : decode cX9_cited 59 = .ok (.getfield 64, 3) := by decide +kernel
theorem dX9_cited_62 : decode cX9_cited 62 = .ok (.iload 4, 2) := by decide +kernel
theorem dX9_cited_64 : decode cX9_cited 64 = .ok (.iaload, 1) := by decide +kernel
theorem dX9_cited_65 : decode cX9_cited 65 = .ok (.ifCond .ne 5, 3) := by decide +kernel
theorem dX9_cited_68 : decode cX9_cited 68 = .ok (.iconst (-1), 1) := by decide +kernel
theorem dX9_cited_69 : decode cX9_cited 69 = .ok (.ireturn, 1) := by decide +kernel
theorem dX9_cited_70 : decode cX9_cited 70 = .ok (.aload_n 0, 1) := by decide +kernel
theorem dX9_cited_71 : decode cX9_cited 71 = .ok (.getfield 46, 3) := by decide +kernel
theorem dX9_cited_74 : decode cX9_cited 74 = .ok (.getfield 162, 3) := by decide +kernel
theorem dX9_cited_77 : decode cX9_cited 77 = .ok (.iload_n 3, 1) := by decide +kernel
theorem dX9_cited_78 : decode cX9_cited 78 = .ok (.iaload, 1) := by decide +kernel
theorem dX9_cited_79 : decode cX9_cited 79 = .ok (.istore_n 3, 1) := by decide +kernel
theorem dX9_cited_80 : decode cX9_cited 80 = .ok (.iinc 4 (-1), 3) := by decide +kernel
theorem dX9_cited_83 : decode cX9_cited 83 = .ok (.goto (-57), 3) := by decide +kernel
theorem dX9_cited_86 : decode cX9_cited 86 = .ok (.aload_n 0, 1) := by decide +kernel
theorem dX9_cited_87 : decode cX9_cited 87 = .ok (.getfield 16, 3) := by decide +kernel
theorem dX9_cited_90 : decode cX9_cited 90 = .ok (.iconst 0, 1) := by decide +kernel
theorem dX9_cited_91 : decode cX9_cited 91 = .ok (.putfield 78, 3) := by decide +kernel
theorem dX9_cited_94 : decode cX9_cited 94 = .ok (.iconst 0, 1) := by decide +kernel
theorem dX9_cited_95 : decode cX9_cited 95 = .ok (.istore 4, 2) := by decide +kernel
theorem dX9_cited_97 : decode cX9_cited 97 = .ok (.iload 4, 2) := by decide +kernel
theorem dX9_cited_99 : decode cX9_cited 99 = .ok (.aload_n 0, 1) := by decide +kernel
theorem dX9_cited_100 : decode cX9_cited 100 = .ok (.getfield 46, 3) := by decide +kernel
theorem dX9_cited_103 : decode cX9_cited 103 = .ok (.getfield 113, 3) := by decide +kernel
theorem dX9_cited_106 : decode cX9_cited 106 = .ok (.iload_n 1, 1) := by decide +kernel
theorem dX9_cited_107 : decode cX9_cited 107 = .ok (.iaload, 1) := by decide +kernel
theorem dX9_cited_108 : decode cX9_cited 108 = .ok (.if_icmp .gt 46, 3) := by decide +kernel
theorem dX9_cited_111 : decode cX9_cited 111 = .ok (.iload 4, 2) := by decide +kernel
theorem dX9_cited_113 : decode cX9_cited 113 = .ok (.ifCond .le 12, 3) := by decide +kernel
theorem dX9_cited_116 : decode cX9_cited 116 = .ok (.aload_n 0, 1) := by decide +kernel
theorem dX9_cited_117 : decode cX9_cited 117 = .ok (.getfield 16, 3) := by decide +kernel
theorem dX9_cited_120 : decode cX9_cited 120 = .ok (.bipush 46, 2) := by decide +kernel
theorem dX9_cited_122 : decode cX9_cited 122 = .ok (.invokevirtual 226, 3) := by decide +kernel
theorem dX9_cited_125 : decode cX9_cited 125 = .ok (.aload_n 0, 1) := by decide +kernel
theorem dX9_cited_126 : decode cX9_cited 126 = .ok (.getfield 16, 3) := by decide +kernel
theorem dX9_cited_129 : decode cX9_cited 129 = .ok (.aload_n 0, 1) := by decide +kernel
theorem dX9_cited_130 : decode cX9_cited 130 = .ok (.getfield 22, 3) := by decide +kernel
theorem dX9_cited_133 : decode cX9_cited 133 = .ok (.iload 4, 2) := by decide +kernel
theorem dX9_cited_135 : decode cX9_cited 135 = .ok (.invokevirtual 217, 3) := by decide +kernel
theorem dX9_cited_138 : decode cX9_cited 138 = .ok (.aload_n 0, 1) := by decide +kernel
theorem dX9_cited_139 : decode cX9_cited 139 = .ok (.getfield 64, 3) := by decide +kernel
theorem dX9_cited_142 : decode cX9_cited 142 = .ok (.iload 4, 2) := by decide +kernel
theorem dX9_cited_144 : decode cX9_cited 144 = .ok (.iaload, 1) := by decide +kernel
theorem dX9_cited_145 : decode cX9_cited 145 = .ok (.invokestatic 220, 3) := by decide +kernel
theorem dX9_cited_148 : decode cX9_cited 148 = .ok (.iinc 4 1, 3) := by decide +kernel
theorem dX9_cited_151 : decode cX9_cited 151 = .ok (.goto (-54), 3) := by decide +kernel
theorem dX9_cited_154 : decode cX9_cited 154 = .ok (.aload_n 0, 1) := by decide +kernel
theorem dX9_cited_155 : decode cX9_cited 155 = .ok (.getfield 16, 3) := by decide +kernel
theorem dX9_cited_158 : decode cX9_cited 158 = .ok (.getfield 78, 3) := by decide +kernel
theorem dX9_cited_161 : decode cX9_cited 161 = .ok (.ireturn, 1) := by decide +kernel
set_option maxRecDepth 20000 in
theorem ggX9_octet_X8_byteAt : GoodIn wsX9_octet wsX8_byteAt := goodIn_r _ [9, 10, 11, 27, 28] (by decide +kernel) (by decide +kernel)
set_option maxRecDepth 20000 in
theorem gX9_octet_X8_byteAt : GoodIn wsX9_octet (wsV RX9 231 RX8 yX8_byteAt wsX8_byteAt) := goodIn_app (goodIn_of _ (by decide +kernel)) ggX9_octet_X8_byteAt
theorem dX9_octet_0 : decode cX9_octet 0 = .ok (.iload_n 1, 1) := by decide +kernel
theorem dX9_octet_1 : decode cX9_octet 1 = .ok (.ifCond .lt 14, 3) := by decide +kernel
theorem dX9_octet_4 : decode cX9_octet 4 = .ok (.iload_n 1, 1) := by decide +kernel
theorem dX9_octet_5 : decode cX9_octet 5 = .ok (.aload_n 0, 1) := by decide +kernel
theorem dX9_octet_6 : decode cX9_octet 6 = .ok (.getfield 16, 3) := by decide +kernel
theorem dX9_octet_9 : decode cX9_octet 9 = .ok (.getfield 78, 3) := by decide +kernel
theorem dX9_octet_12 : decode cX9_octet 12 = .ok (.if_icmp .lt 13, 3) := by decide +kernel
theorem dX9_octet_15 : decode cX9_octet 15 = .ok (.new 195, 3) := by decide +kernel
theorem dX9_octet_18 : decode cX9_octet 18 = .ok (.dup, 1) := by decide +kernel
theorem dX9_octet_19 : decode cX9_octet 19 = .ok (.ldc 229, 2) := by decide +kernel
theorem dX9_octet_21 : decode cX9_octet 21 = .ok (.invokespecial 199, 3) := by decide +kernel
theorem dX9_octet_24 : decode cX9_octet 24 = .ok (.athrow, 1) := by decide +kernel
theorem dX9_octet_25 : decode cX9_octet 25 = .ok (.aload_n 0, 1) := by decide +kernel
theorem dX9_octet_26 : decode cX9_octet 26 = .ok (.getfield 16, 3) := by decide +kernel
theorem dX9_octet_29 : decode cX9_octet 29 = .ok (.iload_n 1, 1) := by decide +kernel
theorem dX9_octet_30 : decode cX9_octet 30 = .ok (.invokevirtual 231, 3) := by decide +kernel
theorem dX9_octet_33 : decode cX9_octet 33 = .ok (.ireturn, 1) := by decide +kernel
set_option maxRecDepth 20000 in
theorem ggX9_cite_X9_readCitation : GoodIn wsX9_cite wsX9_readCitation := goodIn_r _ [14, 15, 16, 17, 3, 18, 1, 19, 2, 20, 21, 22, 4, 23, 24, 25, 26, 27, 28, 29, 30, 31, 32, 33, 34, 35, 36, 37, 38, 39, 40, 41, 42, 43, 44, 45, 46, 47, 48, 49, 50, 51, 52, 53, 54, 55, 56, 57, 58, 59, 60, 61, 62, 63, 64, 65, 66, 67, 68, 69, 70, 71, 72, 73, 74, 75, 76, 77, 78, 79, 80, 81, 82, 83, 84, 85, 86, 87, 88, 89, 90, 91, 92, 93, 94, 95, 96, 97, 98, 99, 100, 101, 102, 103, 104, 105, 106, 107, 108, 109, 110, 111, 112, 113, 114, 115, 116, 117, 118, 119, 120, 121, 122, 123, 124, 125, 126, 127, 149, 150, 151, 152, 153, 154, 155, 156, 157, 158, 159, 160, 161, 162, 163, 173, 174, 175, 176, 177, 178, 179, 180, 164, 165] (by decide +kernel) (by decide +kernel)
set_option maxRecDepth 20000 in
theorem gX9_cite_X9_readCitation : GoodIn wsX9_cite (wsV RX9 234 RX9 yX9_readCitation wsX9_readCitation) := goodIn_app (goodIn_of _ (by decide +kernel)) ggX9_cite_X9_readCitation
set_option maxRecDepth 20000 in
theorem ggX9_cite_X9_bearsPath : GoodIn wsX9_cite wsX9_bearsPath := goodIn_r _ [131, 6, 9, 132, 20, 133, 134, 135, 136, 137, 138, 139, 140, 141, 142, 143, 144, 145, 146, 147, 148, 149, 150, 151, 152, 153, 154, 155, 156, 157, 158, 159, 160, 161, 162, 163, 166, 167, 168, 169, 170, 171, 172, 181, 182, 183, 184, 185, 186] (by decide +kernel) (by decide +kernel)
set_option maxRecDepth 20000 in
theorem gX9_cite_X9_bearsPath : GoodIn wsX9_cite (wsV RX9 240 RX9 yX9_bearsPath wsX9_bearsPath) := goodIn_app (goodIn_of _ (by decide +kernel)) ggX9_cite_X9_bearsPath
theorem dX9_cite_0 : decode cX9_cite 0 = .ok (.aload_n 0, 1) := by decide +kernel
theorem dX9_cite_1 : decode cX9_cite 1 = .ok (.iconst 0, 1) := by decide +kernel
theorem dX9_cite_2 : decode cX9_cite 2 = .ok (.putfield 92, 3) := by decide +kernel
theorem dX9_cite_5 : decode cX9_cite 5 = .ok (.aload_n 0, 1) := by decide +kernel
theorem dX9_cite_6 : decode cX9_cite 6 = .ok (.iconst (-1), 1) := by decide +kernel
theorem dX9_cite_7 : decode cX9_cite 7 = .ok (.putfield 75, 3) := by decide +kernel
theorem dX9_cite_10 : decode cX9_cite 10 = .ok (.iload_n 1, 1) := by decide +kernel
theorem dX9_cite_11 : decode cX9_cite 11 = .ok (.ifCond .ge 14, 3) := by decide +kernel
theorem dX9_cite_14 : decode cX9_cite 14 = .ok (.aload_n 0, 1) := by decide +kernel
theorem dX9_cite_15 : decode cX9_cite 15 = .ok (.getfield 10, 3) := by decide +kernel
theorem dX9_cite_18 : decode cX9_cite 18 = .ok (.iconst 0, 1) := by decide +kernel
theorem dX9_cite_19 : decode cX9_cite 19 = .ok (.putfield 78, 3) := by decide +kernel
theorem dX9_cite_22 : decode cX9_cite 22 = .ok (.bipush (-3), 2) := by decide +kernel
theorem dX9_cite_24 : decode cX9_cite 24 = .ok (.ireturn, 1) := by decide +kernel
theorem dX9_cite_25 : decode cX9_cite 25 = .ok (.aload_n 0, 1) := by decide +kernel
theorem dX9_cite_26 : decode cX9_cite 26 = .ok (.invokevirtual 234, 3) := by decide +kernel
theorem dX9_cite_29 : decode cX9_cite 29 = .ok (.istore_n 2, 1) := by decide +kernel
theorem dX9_cite_30 : decode cX9_cite 30 = .ok (.aload_n 0, 1) := by decide +kernel
theorem dX9_cite_31 : decode cX9_cite 31 = .ok (.getfield 10, 3) := by decide +kernel
theorem dX9_cite_34 : decode cX9_cite 34 = .ok (.iconst 0, 1) := by decide +kernel
theorem dX9_cite_35 : decode cX9_cite 35 = .ok (.putfield 78, 3) := by decide +kernel
theorem dX9_cite_38 : decode cX9_cite 38 = .ok (.aload_n 0, 1) := by decide +kernel
theorem dX9_cite_39 : decode cX9_cite 39 = .ok (.getfield 92, 3) := by decide +kernel
theorem dX9_cite_42 : decode cX9_cite 42 = .ok (.ifCond .eq 6, 3) := by decide +kernel
theorem dX9_cite_45 : decode cX9_cite 45 = .ok (.bipush (-2), 2) := by decide +kernel
theorem dX9_cite_47 : decode cX9_cite 47 = .ok (.ireturn, 1) := by decide +kernel
theorem dX9_cite_48 : decode cX9_cite 48 = .ok (.aload_n 0, 1) := by decide +kernel
theorem dX9_cite_49 : decode cX9_cite 49 = .ok (.iconst 0, 1) := by decide +kernel
theorem dX9_cite_50 : decode cX9_cite 50 = .ok (.putfield 237, 3) := by decide +kernel
theorem dX9_cite_53 : decode cX9_cite 53 = .ok (.iconst (-1), 1) := by decide +kernel
theorem dX9_cite_54 : decode cX9_cite 54 = .ok (.istore_n 3, 1) := by decide +kernel
theorem dX9_cite_55 : decode cX9_cite 55 = .ok (.iconst 0, 1) := by decide +kernel
theorem dX9_cite_56 : decode cX9_cite 56 = .ok (.istore 4, 2) := by decide +kernel
theorem dX9_cite_58 : decode cX9_cite 58 = .ok (.iload 4, 2) := by decide +kernel
theorem dX9_cite_60 : decode cX9_cite 60 = .ok (.aload_n 0, 1) := by decide +kernel
theorem dX9_cite_61 : decode cX9_cite 61 = .ok (.getfield 46, 3) := by decide +kernel
theorem dX9_cite_64 : decode cX9_cite 64 = .ok (.getfield 108, 3) := by decide +kernel
theorem dX9_cite_67 : decode cX9_cite 67 = .ok (.if_icmp .ge 69, 3) := by decide +kernel
theorem dX9_cite_70 : decode cX9_cite 70 = .ok (.aload_n 0, 1) := by decide +kernel
theorem dX9_cite_71 : decode cX9_cite 71 = .ok (.getfield 46, 3) := by decide +kernel
theorem dX9_cite_74 : decode cX9_cite 74 = .ok (.getfield 159, 3) := by decide +kernel
theorem dX9_cite_77 : decode cX9_cite 77 = .ok (.iload 4, 2) := by decide +kernel
theorem dX9_cite_79 : decode cX9_cite 79 = .ok (.iaload, 1) := by decide +kernel
theorem dX9_cite_80 : decode cX9_cite 80 = .ok (.istore 5, 2) := by decide +kernel
theorem dX9_cite_82 : decode cX9_cite 82 = .ok (.aload_n 0, 1) := by decide +kernel
theorem dX9_cite_83 : decode cX9_cite 83 = .ok (.getfield 46, 3) := by decide +kernel
theorem dX9_cite_86 : decode cX9_cite 86 = .ok (.getfield 113, 3) := by decide +kernel
theorem dX9_cite_89 : decode cX9_cite 89 = .ok (.iload 5, 2) := by decide +kernel
theorem dX9_cite_91 : decode cX9_cite 91 = .ok (.iaload, 1) := by decide +kernel
theorem dX9_cite_92 : decode cX9_cite 92 = .ok (.iload_n 2, 1) := by decide +kernel
theorem dX9_cite_93 : decode cX9_cite 93 = .ok (.iconst 1, 1) := by decide +kernel
theorem dX9_cite_94 : decode cX9_cite 94 = .ok (.isub, 1) := by decide +kernel
theorem dX9_cite_95 : decode cX9_cite 95 = .ok (.if_icmp .ne 35, 3) := by decide +kernel
theorem dX9_cite_98 : decode cX9_cite 98 = .ok (.aload_n 0, 1) := by decide +kernel
theorem dX9_cite_99 : decode cX9_cite 99 = .ok (.iload 5, 2) := by decide +kernel
theorem dX9_cite_101 : decode cX9_cite 101 = .ok (.iload_n 1, 1) := by decide +kernel
theorem dX9_cite_102 : decode cX9_cite 102 = .ok (.invokevirtual 240, 3) := by decide +kernel
theorem dX9_cite_105 : decode cX9_cite 105 = .ok (.ifCond .eq 25, 3) := by decide +kernel
theorem dX9_cite_108 : decode cX9_cite 108 = .ok (.aload_n 0, 1) := by decide +kernel
theorem dX9_cite_109 : decode cX9_cite 109 = .ok (.dup, 1) := by decide +kernel
theorem dX9_cite_110 : decode cX9_cite 110 = .ok (.getfield 237, 3) := by decide +kernel
theorem dX9_cite_113 : decode cX9_cite 113 = .ok (.iconst 1, 1) := by decide +kernel
theorem dX9_cite_114 : decode cX9_cite 114 = .ok (.iadd, 1) := by decide +kernel
theorem dX9_cite_115 : decode cX9_cite 115 = .ok (.putfield 237, 3) := by decide +kernel
theorem dX9_cite_118 : decode cX9_cite 118 = .ok (.iload_n 3, 1) := by decide +kernel
theorem dX9_cite_119 : decode cX9_cite 119 = .ok (.iconst (-1), 1) := by decide +kernel
theorem dX9_cite_120 : decode cX9_cite 120 = .ok (.if_icmp .ne 8, 3) := by decide +kernel
theorem dX9_cite_123 : decode cX9_cite 123 = .ok (.iload 5, 2) := by decide +kernel
theorem dX9_cite_125 : decode cX9_cite 125 = .ok (.goto 4, 3) := by decide +kernel
theorem dX9_cite_128 : decode cX9_cite 128 = .ok (.iload_n 3, 1) := by decide +kernel
theorem dX9_cite_129 : decode cX9_cite 129 = .ok (.istore_n 3, 1) := by decide +kernel
theorem dX9_cite_130 : decode cX9_cite 130 = .ok (.iinc 4 1, 3) := by decide +kernel
theorem dX9_cite_133 : decode cX9_cite 133 = .ok (.goto (-75), 3) := by decide +kernel
theorem dX9_cite_136 : decode cX9_cite 136 = .ok (.iload_n 3, 1) := by decide +kernel
theorem dX9_cite_137 : decode cX9_cite 137 = .ok (.ireturn, 1) := by decide +kernel
theorem dX9_place_0 : decode cX9_place 0 = .ok (.aload_n 0, 1) := by decide +kernel
theorem dX9_place_1 : decode cX9_place 1 = .ok (.getfield 75, 3) := by decide +kernel
theorem dX9_place_4 : decode cX9_place 4 = .ok (.ireturn, 1) := by decide +kernel
theorem dX9_bearers_0 : decode cX9_bearers 0 = .ok (.aload_n 0, 1) := by decide +kernel
theorem dX9_bearers_1 : decode cX9_bearers 1 = .ok (.getfield 237, 3) := by decide +kernel
theorem dX9_bearers_4 : decode cX9_bearers 4 = .ok (.ireturn, 1) := by decide +kernel
set_option maxRecDepth 20000 in
theorem ggX9_read_X4_readAt : GoodIn wsX9_read wsX4_readAt := goodIn_r _ [12, 13, 14, 15, 16, 17, 18, 11, 19, 20, 21, 22, 23, 24, 25, 26, 27, 28, 29, 30, 31, 32, 33, 34, 35, 36, 37, 38, 39, 40, 41, 42, 43, 44, 45, 46, 47, 48, 49, 50, 51, 52, 53, 54, 55, 56, 57, 58, 59, 60, 61, 62, 63, 64, 65, 66, 67, 68, 69, 70, 71, 72, 73, 74, 75, 76, 77, 78, 79, 80, 81, 82, 83, 84, 85, 86, 87, 88, 89, 90, 91, 92, 93, 94, 95, 96, 97, 98, 99, 100, 101, 102, 103, 104, 125, 126, 127, 128, 129, 130, 131] (by decide +kernel) (by decide +kernel)
set_option maxRecDepth 20000 in
theorem gX9_read_X4_readAt : GoodIn wsX9_read (wsV RX9 243 RX4 yX4_readAt wsX4_readAt) := goodIn_app (goodIn_of _ (by decide +kernel)) ggX9_read_X4_readAt
set_option maxRecDepth 20000 in
theorem ggX9_read_X5_numberOf : GoodIn wsX9_read wsX5_numberOf := goodIn_r _ [76] (by decide +kernel) (by decide +kernel)
set_option maxRecDepth 20000 in
theorem gX9_read_X5_numberOf : GoodIn wsX9_read (va_wsS RX9 253 yX5_numberOf wsX5_numberOf) := goodIn_app (goodIn_of _ (by decide +kernel)) ggX9_read_X5_numberOf
set_option maxRecDepth 20000 in
theorem ggX9_read_X5_suffixOf : GoodIn wsX9_read wsX5_suffixOf := goodIn_r _ [108, 109, 94, 58, 95, 96, 97, 98] (by decide +kernel) (by decide +kernel)
set_option maxRecDepth 20000 in
theorem gX9_read_X5_suffixOf : GoodIn wsX9_read (va_wsS RX9 256 yX5_suffixOf wsX5_suffixOf) := goodIn_app (goodIn_of _ (by decide +kernel)) ggX9_read_X5_suffixOf
theorem dX9_read_0 : decode cX9_read 0 = .ok (.iconst (-1), 1) := by decide +kernel
theorem dX9_read_1 : decode cX9_read 1 = .ok (.istore_n 2, 1) := by decide +kernel
theorem dX9_read_2 : decode cX9_read 2 = .ok (.iload_n 1, 1) := by decide +kernel
theorem dX9_read_3 : decode cX9_read 3 = .ok (.ifCond .lt 73, 3) := by decide +kernel
theorem dX9_read_6 : decode cX9_read 6 = .ok (.iload_n 1, 1) := by decide +kernel
theorem dX9_read_7 : decode cX9_read 7 = .ok (.iconst 4, 1) := by decide +kernel
theorem dX9_read_8 : decode cX9_read 8 = .ok (.if_icmp .ge 68, 3) := by decide +kernel
theorem dX9_read_11 : decode cX9_read 11 = .ok (.aload_n 0, 1) := by decide +kernel
theorem dX9_read_12 : decode cX9_read 12 = .ok (.getfield 39, 3) := by decide +kernel
theorem dX9_read_15 : decode cX9_read 15 = .ok (.aload_n 0, 1) := by decide +kernel
theorem dX9_read_16 : decode cX9_read 16 = .ok (.getfield 10, 3) := by decide +kernel
theorem dX9_read_19 : decode cX9_read 19 = .ok (.iconst 0, 1) := by decide +kernel
theorem dX9_read_20 : decode cX9_read 20 = .ok (.iload_n 1, 1) := by decide +kernel
theorem dX9_read_21 : decode cX9_read 21 = .ok (.invokevirtual 243, 3) := by decide +kernel
theorem dX9_read_24 : decode cX9_read 24 = .ok (.aload_n 0, 1) := by decide +kernel
theorem dX9_read_25 : decode cX9_read 25 = .ok (.getfield 39, 3) := by decide +kernel
theorem dX9_read_28 : decode cX9_read 28 = .ok (.getfield 246, 3) := by decide +kernel
theorem dX9_read_31 : decode cX9_read 31 = .ok (.ifCond .ne 45, 3) := by decide +kernel
theorem dX9_read_34 : decode cX9_read 34 = .ok (.aload_n 0, 1) := by decide +kernel
theorem dX9_read_35 : decode cX9_read 35 = .ok (.getfield 39, 3) := by decide +kernel
theorem dX9_read_38 : decode cX9_read 38 = .ok (.getfield 247, 3) := by decide +kernel
theorem dX9_read_41 : decode cX9_read 41 = .ok (.aload_n 0, 1) := by decide +kernel
theorem dX9_read_42 : decode cX9_read 42 = .ok (.getfield 10, 3) := by decide +kernel
theorem dX9_read_45 : decode cX9_read 45 = .ok (.getfield 78, 3) := by decide +kernel
theorem dX9_read_48 : decode cX9_read 48 = .ok (.if_icmp .ne 28, 3) := by decide +kernel
theorem dX9_read_51 : decode cX9_read 51 = .ok (.aload_n 0, 1) := by decide +kernel
theorem dX9_read_52 : decode cX9_read 52 = .ok (.getfield 39, 3) := by decide +kernel
theorem dX9_read_55 : decode cX9_read 55 = .ok (.getfield 250, 3) := by decide +kernel
theorem dX9_read_58 : decode cX9_read 58 = .ok (.invokestatic 253, 3) := by decide +kernel
theorem dX9_read_61 : decode cX9_read 61 = .ok (.istore_n 2, 1) := by decide +kernel
theorem dX9_read_62 : decode cX9_read 62 = .ok (.aload_n 0, 1) := by decide +kernel
theorem dX9_read_63 : decode cX9_read 63 = .ok (.aload_n 0, 1) := by decide +kernel
theorem dX9_read_64 : decode cX9_read 64 = .ok (.getfield 39, 3) := by decide +kernel
theorem dX9_read_67 : decode cX9_read 67 = .ok (.getfield 250, 3) := by decide +kernel
theorem dX9_read_70 : decode cX9_read 70 = .ok (.invokestatic 256, 3) := by decide +kernel
theorem dX9_read_73 : decode cX9_read 73 = .ok (.putfield 259, 3) := by decide +kernel
theorem dX9_read_76 : decode cX9_read 76 = .ok (.aload_n 0, 1) := by decide +kernel
theorem dX9_read_77 : decode cX9_read 77 = .ok (.getfield 10, 3) := by decide +kernel
theorem dX9_read_80 : decode cX9_read 80 = .ok (.iconst 0, 1) := by decide +kernel
theorem dX9_read_81 : decode cX9_read 81 = .ok (.putfield 78, 3) := by decide +kernel
theorem dX9_read_84 : decode cX9_read 84 = .ok (.iload_n 2, 1) := by decide +kernel
theorem dX9_read_85 : decode cX9_read 85 = .ok (.ireturn, 1) := by decide +kernel
theorem dX9_suffix_0 : decode cX9_suffix 0 = .ok (.aload_n 0, 1) := by decide +kernel
theorem dX9_suffix_1 : decode cX9_suffix 1 = .ok (.getfield 259, 3) := by decide +kernel
theorem dX9_suffix_4 : decode cX9_suffix 4 = .ok (.ireturn, 1) := by decide +kernel
set_option maxRecDepth 20000 in
theorem ggX9_clash_X2_latest : GoodIn wsX9_clash wsX2_latest := goodIn_r _ [12, 13, 14, 61, 62, 63, 64, 65, 66] (by decide +kernel) (by decide +kernel)
set_option maxRecDepth 20000 in
theorem gX9_clash_X2_latest : GoodIn wsX9_clash (wsV RX9 262 RX2 yX2_latest wsX2_latest) := goodIn_app (goodIn_of _ (by decide +kernel)) ggX9_clash_X2_latest
set_option maxRecDepth 20000 in
theorem ggX9_clash_X6_isThrough : GoodIn wsX9_clash wsX6_isThrough := goodIn_r _ [19, 20, 21, 67, 68, 69] (by decide +kernel) (by decide +kernel)
set_option maxRecDepth 20000 in
theorem gX9_clash_X6_isThrough : GoodIn wsX9_clash (wsV RX9 120 RX6 yX6_isThrough wsX6_isThrough) := goodIn_app (goodIn_of _ (by decide +kernel)) ggX9_clash_X6_isThrough
set_option maxRecDepth 20000 in
theorem ggX9_clash_X9_labelAhead : GoodIn wsX9_clash wsX9_labelAhead := goodIn_r _ [26, 1, 3, 5, 27, 28, 29, 30, 31, 32, 33, 34, 35, 36, 37, 38, 8, 9, 10, 11, 12, 13, 14, 39, 40, 41, 42, 43, 44, 45, 46, 47, 48, 49, 50, 51, 52, 53, 54, 55, 56, 57, 58, 59, 60, 61, 62, 63, 64, 65, 66] (by decide +kernel) (by decide +kernel)
set_option maxRecDepth 20000 in
theorem gX9_clash_X9_labelAhead : GoodIn wsX9_clash (wsV RX9 124 RX9 yX9_labelAhead wsX9_labelAhead) := goodIn_app (goodIn_of _ (by decide +kernel)) ggX9_clash_X9_labelAhead
theorem dX9_clash_0 : decode cX9_clash 0 = .ok (.iconst 0, 1) := by decide +kernel
theorem dX9_clash_1 : decode cX9_clash 1 = .ok (.istore_n 1, 1) := by decide +kernel
theorem dX9_clash_2 : decode cX9_clash 2 = .ok (.iload_n 1, 1) := by decide +kernel
theorem dX9_clash_3 : decode cX9_clash 3 = .ok (.aload_n 0, 1) := by decide +kernel
theorem dX9_clash_4 : decode cX9_clash 4 = .ok (.getfield 46, 3) := by decide +kernel
theorem dX9_clash_7 : decode cX9_clash 7 = .ok (.getfield 108, 3) := by decide +kernel
theorem dX9_clash_10 : decode cX9_clash 10 = .ok (.if_icmp .ge 77, 3) := by decide +kernel
theorem dX9_clash_13 : decode cX9_clash 13 = .ok (.aload_n 0, 1) := by decide +kernel
theorem dX9_clash_14 : decode cX9_clash 14 = .ok (.getfield 46, 3) := by decide +kernel
theorem dX9_clash_17 : decode cX9_clash 17 = .ok (.getfield 159, 3) := by decide +kernel
theorem dX9_clash_20 : decode cX9_clash 20 = .ok (.iload_n 1, 1) := by decide +kernel
theorem dX9_clash_21 : decode cX9_clash 21 = .ok (.iaload, 1) := by decide +kernel
theorem dX9_clash_22 : decode cX9_clash 22 = .ok (.istore_n 2, 1) := by decide +kernel
theorem dX9_clash_23 : decode cX9_clash 23 = .ok (.aload_n 0, 1) := by decide +kernel
theorem dX9_clash_24 : decode cX9_clash 24 = .ok (.getfield 46, 3) := by decide +kernel
theorem dX9_clash_27 : decode cX9_clash 27 = .ok (.getfield 113, 3) := by decide +kernel
theorem dX9_clash_30 : decode cX9_clash 30 = .ok (.iload_n 2, 1) := by decide +kernel
theorem dX9_clash_31 : decode cX9_clash 31 = .ok (.iaload, 1) := by decide +kernel
theorem dX9_clash_32 : decode cX9_clash 32 = .ok (.istore_n 3, 1) := by decide +kernel
theorem dX9_clash_33 : decode cX9_clash 33 = .ok (.aload_n 0, 1) := by decide +kernel
theorem dX9_clash_34 : decode cX9_clash 34 = .ok (.getfield 53, 3) := by decide +kernel
theorem dX9_clash_37 : decode cX9_clash 37 = .ok (.iload_n 2, 1) := by decide +kernel
theorem dX9_clash_38 : decode cX9_clash 38 = .ok (.invokevirtual 262, 3) := by decide +kernel
theorem dX9_clash_41 : decode cX9_clash 41 = .ok (.istore 4, 2) := by decide +kernel
theorem dX9_clash_43 : decode cX9_clash 43 = .ok (.iload 4, 2) := by decide +kernel
theorem dX9_clash_45 : decode cX9_clash 45 = .ok (.ifCond .ne 6, 3) := by decide +kernel
theorem dX9_clash_48 : decode cX9_clash 48 = .ok (.goto 33, 3) := by decide +kernel
theorem dX9_clash_51 : decode cX9_clash 51 = .ok (.iload 4, 2) := by decide +kernel
theorem dX9_clash_53 : decode cX9_clash 53 = .ok (.aload_n 0, 1) := by decide +kernel
theorem dX9_clash_54 : decode cX9_clash 54 = .ok (.iload_n 1, 1) := by decide +kernel
theorem dX9_clash_55 : decode cX9_clash 55 = .ok (.iload_n 3, 1) := by decide +kernel
theorem dX9_clash_56 : decode cX9_clash 56 = .ok (.aload_n 0, 1) := by decide +kernel
theorem dX9_clash_57 : decode cX9_clash 57 = .ok (.getfield 46, 3) := by decide +kernel
theorem dX9_clash_60 : decode cX9_clash 60 = .ok (.getfield 162, 3) := by decide +kernel
theorem dX9_clash_63 : decode cX9_clash 63 = .ok (.iload_n 2, 1) := by decide +kernel
theorem dX9_clash_64 : decode cX9_clash 64 = .ok (.iaload, 1) := by decide +kernel
theorem dX9_clash_65 : decode cX9_clash 65 = .ok (.aload_n 0, 1) := by decide +kernel
theorem dX9_clash_66 : decode cX9_clash 66 = .ok (.getfield 22, 3) := by decide +kernel
theorem dX9_clash_69 : decode cX9_clash 69 = .ok (.iload_n 3, 1) := by decide +kernel
theorem dX9_clash_70 : decode cX9_clash 70 = .ok (.invokevirtual 120, 3) := by decide +kernel
theorem dX9_clash_73 : decode cX9_clash 73 = .ok (.invokevirtual 124, 3) := by decide +kernel
theorem dX9_clash_76 : decode cX9_clash 76 = .ok (.if_icmp .gt 5, 3) := by decide +kernel
theorem dX9_clash_79 : decode cX9_clash 79 = .ok (.iload_n 2, 1) := by decide +kernel
theorem dX9_clash_80 : decode cX9_clash 80 = .ok (.ireturn, 1) := by decide +kernel
theorem dX9_clash_81 : decode cX9_clash 81 = .ok (.iinc 1 1, 3) := by decide +kernel
theorem dX9_clash_84 : decode cX9_clash 84 = .ok (.goto (-82), 3) := by decide +kernel
theorem dX9_clash_87 : decode cX9_clash 87 = .ok (.iconst (-1), 1) := by decide +kernel
theorem dX9_clash_88 : decode cX9_clash 88 = .ok (.ireturn, 1) := by decide +kernel
theorem dX9_at_0 : decode cX9_at 0 = .ok (.iload_n 1, 1) := by decide +kernel
theorem dX9_at_1 : decode cX9_at 1 = .ok (.ifCond .lt 14, 3) := by decide +kernel
theorem dX9_at_4 : decode cX9_at 4 = .ok (.iload_n 1, 1) := by decide +kernel
theorem dX9_at_5 : decode cX9_at 5 = .ok (.aload_n 0, 1) := by decide +kernel
theorem dX9_at_6 : decode cX9_at 6 = .ok (.getfield 46, 3) := by decide +kernel
theorem dX9_at_9 : decode cX9_at 9 = .ok (.getfield 108, 3) := by decide +kernel
theorem dX9_at_12 : decode cX9_at 12 = .ok (.if_icmp .lt 7, 3) := by decide +kernel
theorem dX9_at_15 : decode cX9_at 15 = .ok (.iconst (-1), 1) := by decide +kernel
theorem dX9_at_16 : decode cX9_at 16 = .ok (.goto 12, 3) := by decide +kernel
theorem dX9_at_19 : decode cX9_at 19 = .ok (.aload_n 0, 1) := by decide +kernel
theorem dX9_at_20 : decode cX9_at 20 = .ok (.getfield 46, 3) := by decide +kernel
theorem dX9_at_23 : decode cX9_at 23 = .ok (.getfield 159, 3) := by decide +kernel
theorem dX9_at_26 : decode cX9_at 26 = .ok (.iload_n 1, 1) := by decide +kernel
theorem dX9_at_27 : decode cX9_at 27 = .ok (.iaload, 1) := by decide +kernel
theorem dX9_at_28 : decode cX9_at 28 = .ok (.ireturn, 1) := by decide +kernel
theorem dX9_count_0 : decode cX9_count 0 = .ok (.iload_n 1, 1) := by decide +kernel
theorem dX9_count_1 : decode cX9_count 1 = .ok (.tableswitch 96 0 6 #[43, 51, 59, 67, 72, 80, 88], 43) := by decide +kernel
theorem dX9_count_44 : decode cX9_count 44 = .ok (.aload_n 0, 1) := by decide +kernel
theorem dX9_count_45 : decode cX9_count 45 = .ok (.getfield 22, 3) := by decide +kernel
theorem dX9_count_48 : decode cX9_count 48 = .ok (.getfield 71, 3) := by decide +kernel
theorem dX9_count_51 : decode cX9_count 51 = .ok (.ireturn, 1) := by decide +kernel
theorem dX9_count_52 : decode cX9_count 52 = .ok (.aload_n 0, 1) := by decide +kernel
theorem dX9_count_53 : decode cX9_count 53 = .ok (.getfield 46, 3) := by decide +kernel
theorem dX9_count_56 : decode cX9_count 56 = .ok (.getfield 108, 3) := by decide +kernel
theorem dX9_count_59 : decode cX9_count 59 = .ok (.ireturn, 1) := by decide +kernel
theorem dX9_count_60 : decode cX9_count 60 = .ok (.aload_n 0, 1) := by decide +kernel
theorem dX9_count_61 : decode cX9_count 61 = .ok (.getfield 46, 3) := by decide +kernel
theorem dX9_count_64 : decode cX9_count 64 = .ok (.getfield 265, 3) := by decide +kernel
theorem dX9_count_67 : decode cX9_count 67 = .ok (.ireturn, 1) := by decide +kernel
theorem dX9_count_68 : decode cX9_count 68 = .ok (.aload_n 0, 1) := by decide +kernel
theorem dX9_count_69 : decode cX9_count 69 = .ok (.getfield 105, 3) := by decide +kernel
theorem dX9_count_72 : decode cX9_count 72 = .ok (.ireturn, 1) := by decide +kernel
theorem dX9_count_73 : decode cX9_count 73 = .ok (.aload_n 0, 1) := by decide +kernel
theorem dX9_count_74 : decode cX9_count 74 = .ok (.getfield 60, 3) := by decide +kernel
theorem dX9_count_77 : decode cX9_count 77 = .ok (.getfield 268, 3) := by decide +kernel
theorem dX9_count_80 : decode cX9_count 80 = .ok (.ireturn, 1) := by decide +kernel
theorem dX9_count_81 : decode cX9_count 81 = .ok (.aload_n 0, 1) := by decide +kernel
theorem dX9_count_82 : decode cX9_count 82 = .ok (.getfield 16, 3) := by decide +kernel
theorem dX9_count_85 : decode cX9_count 85 = .ok (.getfield 78, 3) := by decide +kernel
theorem dX9_count_88 : decode cX9_count 88 = .ok (.ireturn, 1) := by decide +kernel
theorem dX9_count_89 : decode cX9_count 89 = .ok (.aload_n 0, 1) := by decide +kernel
theorem dX9_count_90 : decode cX9_count 90 = .ok (.getfield 10, 3) := by decide +kernel
theorem dX9_count_93 : decode cX9_count 93 = .ok (.getfield 78, 3) := by decide +kernel
theorem dX9_count_96 : decode cX9_count 96 = .ok (.ireturn, 1) := by decide +kernel
theorem dX9_count_97 : decode cX9_count 97 = .ok (.iconst (-1), 1) := by decide +kernel
theorem dX9_count_98 : decode cX9_count 98 = .ok (.ireturn, 1) := by decide +kernel
set_option maxRecDepth 20000 in
theorem ggX9_isPlaceTold_X3_has : GoodIn wsX9_isPlaceTold wsX3_has := goodIn_r _ [10, 11, 27, 28, 29, 30, 31, 32, 33] (by decide +kernel) (by decide +kernel)
set_option maxRecDepth 20000 in
theorem gX9_isPlaceTold_X3_has : GoodIn wsX9_isPlaceTold (wsV RX9 148 RX3 yX3_has wsX3_has) := goodIn_app (goodIn_of _ (by decide +kernel)) ggX9_isPlaceTold_X3_has
theorem dX9_isPlaceTold_0 : decode cX9_isPlaceTold 0 = .ok (.iload_n 1, 1) := by decide +kernel
theorem dX9_isPlaceTold_1 : decode cX9_isPlaceTold 1 = .ok (.iconst (-1), 1) := by decide +kernel
theorem dX9_isPlaceTold_2 : decode cX9_isPlaceTold 2 = .ok (.if_icmp .eq 37, 3) := by decide +kernel
theorem dX9_isPlaceTold_5 : decode cX9_isPlaceTold 5 = .ok (.aload_n 0, 1) := by decide +kernel
theorem dX9_isPlaceTold_6 : decode cX9_isPlaceTold 6 = .ok (.getfield 46, 3) := by decide +kernel
theorem dX9_isPlaceTold_9 : decode cX9_isPlaceTold 9 = .ok (.iload_n 1, 1) := by decide +kernel
theorem dX9_isPlaceTold_10 : decode cX9_isPlaceTold 10 = .ok (.invokevirtual 148, 3) := by decide +kernel
theorem dX9_isPlaceTold_13 : decode cX9_isPlaceTold 13 = .ok (.ifCond .eq 24, 3) := by decide +kernel
theorem dX9_isPlaceTold_16 : decode cX9_isPlaceTold 16 = .ok (.aload_n 0, 1) := by decide +kernel
theorem dX9_isPlaceTold_17 : decode cX9_isPlaceTold 17 = .ok (.getfield 46, 3) := by decide +kernel
theorem dX9_isPlaceTold_20 : decode cX9_isPlaceTold 20 = .ok (.getfield 113, 3) := by decide +kernel
theorem dX9_isPlaceTold_23 : decode cX9_isPlaceTold 23 = .ok (.iload_n 1, 1) := by decide +kernel
theorem dX9_isPlaceTold_24 : decode cX9_isPlaceTold 24 = .ok (.iaload, 1) := by decide +kernel
theorem dX9_isPlaceTold_25 : decode cX9_isPlaceTold 25 = .ok (.iconst 1, 1) := by decide +kernel
theorem dX9_isPlaceTold_26 : decode cX9_isPlaceTold 26 = .ok (.iadd, 1) := by decide +kernel
theorem dX9_isPlaceTold_27 : decode cX9_isPlaceTold 27 = .ok (.aload_n 0, 1) := by decide +kernel
theorem dX9_isPlaceTold_28 : decode cX9_isPlaceTold 28 = .ok (.getfield 22, 3) := by decide +kernel
theorem dX9_isPlaceTold_31 : decode cX9_isPlaceTold 31 = .ok (.getfield 71, 3) := by decide +kernel
theorem dX9_isPlaceTold_34 : decode cX9_isPlaceTold 34 = .ok (.if_icmp .lt 5, 3) := by decide +kernel
theorem dX9_isPlaceTold_37 : decode cX9_isPlaceTold 37 = .ok (.iconst 0, 1) := by decide +kernel
theorem dX9_isPlaceTold_38 : decode cX9_isPlaceTold 38 = .ok (.ireturn, 1) := by decide +kernel
theorem dX9_isPlaceTold_39 : decode cX9_isPlaceTold 39 = .ok (.iload_n 2, 1) := by decide +kernel
theorem dX9_isPlaceTold_40 : decode cX9_isPlaceTold 40 = .ok (.iconst (-1), 1) := by decide +kernel
theorem dX9_isPlaceTold_41 : decode cX9_isPlaceTold 41 = .ok (.if_icmp .eq 27, 3) := by decide +kernel
theorem dX9_isPlaceTold_44 : decode cX9_isPlaceTold 44 = .ok (.aload_n 0, 1) := by decide +kernel
theorem dX9_isPlaceTold_45 : decode cX9_isPlaceTold 45 = .ok (.getfield 46, 3) := by decide +kernel
theorem dX9_isPlaceTold_48 : decode cX9_isPlaceTold 48 = .ok (.iload_n 2, 1) := by decide +kernel
theorem dX9_isPlaceTold_49 : decode cX9_isPlaceTold 49 = .ok (.invokevirtual 148, 3) := by decide +kernel
theorem dX9_isPlaceTold_52 : decode cX9_isPlaceTold 52 = .ok (.ifCond .eq 20, 3) := by decide +kernel
theorem dX9_isPlaceTold_55 : decode cX9_isPlaceTold 55 = .ok (.aload_n 0, 1) := by decide +kernel
theorem dX9_isPlaceTold_56 : decode cX9_isPlaceTold 56 = .ok (.getfield 46, 3) := by decide +kernel
theorem dX9_isPlaceTold_59 : decode cX9_isPlaceTold 59 = .ok (.getfield 162, 3) := by decide +kernel
theorem dX9_isPlaceTold_62 : decode cX9_isPlaceTold 62 = .ok (.iload_n 2, 1) := by decide +kernel
theorem dX9_isPlaceTold_63 : decode cX9_isPlaceTold 63 = .ok (.iaload, 1) := by decide +kernel
theorem dX9_isPlaceTold_64 : decode cX9_isPlaceTold 64 = .ok (.iload_n 1, 1) := by decide +kernel
theorem dX9_isPlaceTold_65 : decode cX9_isPlaceTold 65 = .ok (.if_icmp .ne 7, 3) := by decide +kernel
theorem dX9_isPlaceTold_68 : decode cX9_isPlaceTold 68 = .ok (.iconst 1, 1) := by decide +kernel
theorem dX9_isPlaceTold_69 : decode cX9_isPlaceTold 69 = .ok (.goto 4, 3) := by decide +kernel
theorem dX9_isPlaceTold_72 : decode cX9_isPlaceTold 72 = .ok (.iconst 0, 1) := by decide +kernel
theorem dX9_isPlaceTold_73 : decode cX9_isPlaceTold 73 = .ok (.ireturn, 1) := by decide +kernel
set_option maxRecDepth 20000 in
theorem ggX9_placeOfNew_X3_placeBehind : GoodIn wsX9_placeOfNew wsX3_placeBehind := goodIn_r _ [6, 7, 8, 9, 10, 11, 12, 5, 13, 30, 31, 32, 33, 34, 35, 36] (by decide +kernel) (by decide +kernel)
set_option maxRecDepth 20000 in
theorem gX9_placeOfNew_X3_placeBehind : GoodIn wsX9_placeOfNew (wsV RX9 269 RX3 yX3_placeBehind wsX3_placeBehind) := goodIn_app (goodIn_of _ (by decide +kernel)) ggX9_placeOfNew_X3_placeBehind
set_option maxRecDepth 20000 in
theorem ggX9_placeOfNew_X3_placeOf : GoodIn wsX9_placeOfNew wsX3_placeOf := goodIn_r _ [13, 7, 9, 30, 31, 32, 33, 34, 35, 36] (by decide +kernel) (by decide +kernel)
set_option maxRecDepth 20000 in
theorem gX9_placeOfNew_X3_placeOf : GoodIn wsX9_placeOfNew (wsV RX9 206 RX3 yX3_placeOf wsX3_placeOf) := goodIn_app (goodIn_of _ (by decide +kernel)) ggX9_placeOfNew_X3_placeOf
theorem dX9_placeOfNew_0 : decode cX9_placeOfNew 0 = .ok (.iload_n 2, 1) := by decide +kernel
theorem dX9_placeOfNew_1 : decode cX9_placeOfNew 1 = .ok (.iconst (-1), 1) := by decide +kernel
theorem dX9_placeOfNew_2 : decode cX9_placeOfNew 2 = .ok (.if_icmp .eq 12, 3) := by decide +kernel
theorem dX9_placeOfNew_5 : decode cX9_placeOfNew 5 = .ok (.aload_n 0, 1) := by decide +kernel
theorem dX9_placeOfNew_6 : decode cX9_placeOfNew 6 = .ok (.getfield 46, 3) := by decide +kernel
theorem dX9_placeOfNew_9 : decode cX9_placeOfNew 9 = .ok (.iload_n 2, 1) := by decide +kernel
theorem dX9_placeOfNew_10 : decode cX9_placeOfNew 10 = .ok (.invokevirtual 269, 3) := by decide +kernel
theorem dX9_placeOfNew_13 : decode cX9_placeOfNew 13 = .ok (.ireturn, 1) := by decide +kernel
theorem dX9_placeOfNew_14 : decode cX9_placeOfNew 14 = .ok (.iload_n 1, 1) := by decide +kernel
theorem dX9_placeOfNew_15 : decode cX9_placeOfNew 15 = .ok (.iconst (-1), 1) := by decide +kernel
theorem dX9_placeOfNew_16 : decode cX9_placeOfNew 16 = .ok (.if_icmp .ne 7, 3) := by decide +kernel
theorem dX9_placeOfNew_19 : decode cX9_placeOfNew 19 = .ok (.iconst 0, 1) := by decide +kernel
theorem dX9_placeOfNew_20 : decode cX9_placeOfNew 20 = .ok (.goto 13, 3) := by decide +kernel
theorem dX9_placeOfNew_23 : decode cX9_placeOfNew 23 = .ok (.aload_n 0, 1) := by decide +kernel
theorem dX9_placeOfNew_24 : decode cX9_placeOfNew 24 = .ok (.getfield 46, 3) := by decide +kernel
theorem dX9_placeOfNew_27 : decode cX9_placeOfNew 27 = .ok (.iload_n 1, 1) := by decide +kernel
theorem dX9_placeOfNew_28 : decode cX9_placeOfNew 28 = .ok (.invokevirtual 206, 3) := by decide +kernel
theorem dX9_placeOfNew_31 : decode cX9_placeOfNew 31 = .ok (.iconst 1, 1) := by decide +kernel
theorem dX9_placeOfNew_32 : decode cX9_placeOfNew 32 = .ok (.iadd, 1) := by decide +kernel
theorem dX9_placeOfNew_33 : decode cX9_placeOfNew 33 = .ok (.ireturn, 1) := by decide +kernel
set_option maxRecDepth 20000 in
theorem ggX9_labelAhead_X3_isInRow : GoodIn wsX9_labelAhead wsX3_isInRow := goodIn_r _ [8, 9, 10, 11, 12, 13, 7, 14, 15, 38, 39, 40, 41, 42, 43, 44] (by decide +kernel) (by decide +kernel)
set_option maxRecDepth 20000 in
theorem gX9_labelAhead_X3_isInRow : GoodIn wsX9_labelAhead (wsV RX9 165 RX3 yX3_isInRow wsX3_isInRow) := goodIn_app (goodIn_of _ (by decide +kernel)) ggX9_labelAhead_X3_isInRow
set_option maxRecDepth 20000 in
theorem ggX9_labelAhead_X2_latest : GoodIn wsX9_labelAhead wsX2_latest := goodIn_r _ [20, 21, 22, 45, 46, 47, 48, 49, 50] (by decide +kernel) (by decide +kernel)
set_option maxRecDepth 20000 in
theorem gX9_labelAhead_X2_latest : GoodIn wsX9_labelAhead (wsV RX9 262 RX2 yX2_latest wsX2_latest) := goodIn_app (goodIn_of _ (by decide +kernel)) ggX9_labelAhead_X2_latest
theorem dX9_labelAhead_0 : decode cX9_labelAhead 0 = .ok (.iload_n 1, 1) := by decide +kernel
theorem dX9_labelAhead_1 : decode cX9_labelAhead 1 = .ok (.iconst 1, 1) := by decide +kernel
theorem dX9_labelAhead_2 : decode cX9_labelAhead 2 = .ok (.isub, 1) := by decide +kernel
theorem dX9_labelAhead_3 : decode cX9_labelAhead 3 = .ok (.istore 5, 2) := by decide +kernel
theorem dX9_labelAhead_5 : decode cX9_labelAhead 5 = .ok (.iload 5, 2) := by decide +kernel
theorem dX9_labelAhead_7 : decode cX9_labelAhead 7 = .ok (.ifCond .lt 59, 3) := by decide +kernel
theorem dX9_labelAhead_10 : decode cX9_labelAhead 10 = .ok (.aload_n 0, 1) := by decide +kernel
theorem dX9_labelAhead_11 : decode cX9_labelAhead 11 = .ok (.getfield 46, 3) := by decide +kernel
theorem dX9_labelAhead_14 : decode cX9_labelAhead 14 = .ok (.getfield 159, 3) := by decide +kernel
theorem dX9_labelAhead_17 : decode cX9_labelAhead 17 = .ok (.iload 5, 2) := by decide +kernel
theorem dX9_labelAhead_19 : decode cX9_labelAhead 19 = .ok (.iaload, 1) := by decide +kernel
theorem dX9_labelAhead_20 : decode cX9_labelAhead 20 = .ok (.istore 6, 2) := by decide +kernel
theorem dX9_labelAhead_22 : decode cX9_labelAhead 22 = .ok (.aload_n 0, 1) := by decide +kernel
theorem dX9_labelAhead_23 : decode cX9_labelAhead 23 = .ok (.getfield 46, 3) := by decide +kernel
theorem dX9_labelAhead_26 : decode cX9_labelAhead 26 = .ok (.iload 6, 2) := by decide +kernel
theorem dX9_labelAhead_28 : decode cX9_labelAhead 28 = .ok (.iload_n 2, 1) := by decide +kernel
theorem dX9_labelAhead_29 : decode cX9_labelAhead 29 = .ok (.iload_n 3, 1) := by decide +kernel
theorem dX9_labelAhead_30 : decode cX9_labelAhead 30 = .ok (.iload 4, 2) := by decide +kernel
theorem dX9_labelAhead_32 : decode cX9_labelAhead 32 = .ok (.invokevirtual 165, 3) := by decide +kernel
theorem dX9_labelAhead_35 : decode cX9_labelAhead 35 = .ok (.ifCond .eq 25, 3) := by decide +kernel
theorem dX9_labelAhead_38 : decode cX9_labelAhead 38 = .ok (.aload_n 0, 1) := by decide +kernel
theorem dX9_labelAhead_39 : decode cX9_labelAhead 39 = .ok (.getfield 53, 3) := by decide +kernel
theorem dX9_labelAhead_42 : decode cX9_labelAhead 42 = .ok (.iload 6, 2) := by decide +kernel
theorem dX9_labelAhead_44 : decode cX9_labelAhead 44 = .ok (.invokevirtual 262, 3) := by decide +kernel
theorem dX9_labelAhead_47 : decode cX9_labelAhead 47 = .ok (.ifCond .eq 13, 3) := by decide +kernel
theorem dX9_labelAhead_50 : decode cX9_labelAhead 50 = .ok (.aload_n 0, 1) := by decide +kernel
theorem dX9_labelAhead_51 : decode cX9_labelAhead 51 = .ok (.getfield 53, 3) := by decide +kernel
theorem dX9_labelAhead_54 : decode cX9_labelAhead 54 = .ok (.iload 6, 2) := by decide +kernel
theorem dX9_labelAhead_56 : decode cX9_labelAhead 56 = .ok (.invokevirtual 262, 3) := by decide +kernel
theorem dX9_labelAhead_59 : decode cX9_labelAhead 59 = .ok (.ireturn, 1) := by decide +kernel
theorem dX9_labelAhead_60 : decode cX9_labelAhead 60 = .ok (.iinc 5 (-1), 3) := by decide +kernel
theorem dX9_labelAhead_63 : decode cX9_labelAhead 63 = .ok (.goto (-58), 3) := by decide +kernel
theorem dX9_labelAhead_66 : decode cX9_labelAhead 66 = .ok (.iconst 0, 1) := by decide +kernel
theorem dX9_labelAhead_67 : decode cX9_labelAhead 67 = .ok (.ireturn, 1) := by decide +kernel
set_option maxRecDepth 20000 in
theorem ggX9_labelFrom_X3_isInRow : GoodIn wsX9_labelFrom wsX3_isInRow := goodIn_r _ [9, 10, 11, 12, 13, 14, 8, 15, 16, 39, 40, 41, 42, 43, 44, 45] (by decide +kernel) (by decide +kernel)
set_option maxRecDepth 20000 in
theorem gX9_labelFrom_X3_isInRow : GoodIn wsX9_labelFrom (wsV RX9 165 RX3 yX3_isInRow wsX3_isInRow) := goodIn_app (goodIn_of _ (by decide +kernel)) ggX9_labelFrom_X3_isInRow
set_option maxRecDepth 20000 in
theorem ggX9_labelFrom_X2_latest : GoodIn wsX9_labelFrom wsX2_latest := goodIn_r _ [21, 22, 23, 46, 47, 48, 49, 50, 51] (by decide +kernel) (by decide +kernel)
set_option maxRecDepth 20000 in
theorem gX9_labelFrom_X2_latest : GoodIn wsX9_labelFrom (wsV RX9 262 RX2 yX2_latest wsX2_latest) := goodIn_app (goodIn_of _ (by decide +kernel)) ggX9_labelFrom_X2_latest
theorem dX9_labelFrom_0 : decode cX9_labelFrom 0 = .ok (.iload_n 1, 1) := by decide +kernel
theorem dX9_labelFrom_1 : decode cX9_labelFrom 1 = .ok (.istore 5, 2) := by decide +kernel
theorem dX9_labelFrom_3 : decode cX9_labelFrom 3 = .ok (.iload 5, 2) := by decide +kernel
theorem dX9_labelFrom_5 : decode cX9_labelFrom 5 = .ok (.aload_n 0, 1) := by decide +kernel
theorem dX9_labelFrom_6 : decode cX9_labelFrom 6 = .ok (.getfield 46, 3) := by decide +kernel
theorem dX9_labelFrom_9 : decode cX9_labelFrom 9 = .ok (.getfield 108, 3) := by decide +kernel
theorem dX9_labelFrom_12 : decode cX9_labelFrom 12 = .ok (.if_icmp .ge 59, 3) := by decide +kernel
theorem dX9_labelFrom_15 : decode cX9_labelFrom 15 = .ok (.aload_n 0, 1) := by decide +kernel
theorem dX9_labelFrom_16 : decode cX9_labelFrom 16 = .ok (.getfield 46, 3) := by decide +kernel
theorem dX9_labelFrom_19 : decode cX9_labelFrom 19 = .ok (.getfield 159, 3) := by decide +kernel
theorem dX9_labelFrom_22 : decode cX9_labelFrom 22 = .ok (.iload 5, 2) := by decide +kernel
theorem dX9_labelFrom_24 : decode cX9_labelFrom 24 = .ok (.iaload, 1) := by decide +kernel
theorem dX9_labelFrom_25 : decode cX9_labelFrom 25 = .ok (.istore 6, 2) := by decide +kernel
theorem dX9_labelFrom_27 : decode cX9_labelFrom 27 = .ok (.aload_n 0, 1) := by decide +kernel
theorem dX9_labelFrom_28 : decode cX9_labelFrom 28 = .ok (.getfield 46, 3) := by decide +kernel
theorem dX9_labelFrom_31 : decode cX9_labelFrom 31 = .ok (.iload 6, 2) := by decide +kernel
theorem dX9_labelFrom_33 : decode cX9_labelFrom 33 = .ok (.iload_n 2, 1) := by decide +kernel
theorem dX9_labelFrom_34 : decode cX9_labelFrom 34 = .ok (.iload_n 3, 1) := by decide +kernel
theorem dX9_labelFrom_35 : decode cX9_labelFrom 35 = .ok (.iload 4, 2) := by decide +kernel
theorem dX9_labelFrom_37 : decode cX9_labelFrom 37 = .ok (.invokevirtual 165, 3) := by decide +kernel
theorem dX9_labelFrom_40 : decode cX9_labelFrom 40 = .ok (.ifCond .eq 25, 3) := by decide +kernel
theorem dX9_labelFrom_43 : decode cX9_labelFrom 43 = .ok (.aload_n 0, 1) := by decide +kernel
theorem dX9_labelFrom_44 : decode cX9_labelFrom 44 = .ok (.getfield 53, 3) := by decide +kernel
theorem dX9_labelFrom_47 : decode cX9_labelFrom 47 = .ok (.iload 6, 2) := by decide +kernel
theorem dX9_labelFrom_49 : decode cX9_labelFrom 49 = .ok (.invokevirtual 262, 3) := by decide +kernel
theorem dX9_labelFrom_52 : decode cX9_labelFrom 52 = .ok (.ifCond .eq 13, 3) := by decide +kernel
theorem dX9_labelFrom_55 : decode cX9_labelFrom 55 = .ok (.aload_n 0, 1) := by decide +kernel
theorem dX9_labelFrom_56 : decode cX9_labelFrom 56 = .ok (.getfield 53, 3) := by decide +kernel
theorem dX9_labelFrom_59 : decode cX9_labelFrom 59 = .ok (.iload 6, 2) := by decide +kernel
theorem dX9_labelFrom_61 : decode cX9_labelFrom 61 = .ok (.invokevirtual 262, 3) := by decide +kernel
theorem dX9_labelFrom_64 : decode cX9_labelFrom 64 = .ok (.ireturn, 1) := by decide +kernel
theorem dX9_labelFrom_65 : decode cX9_labelFrom 65 = .ok (.iinc 5 1, 3) := by decide +kernel
theorem dX9_labelFrom_68 : decode cX9_labelFrom 68 = .ok (.goto (-65), 3) := by decide +kernel
theorem dX9_labelFrom_71 : decode cX9_labelFrom 71 = .ok (.iconst 0, 1) := by decide +kernel
theorem dX9_labelFrom_72 : decode cX9_labelFrom 72 = .ok (.ireturn, 1) := by decide +kernel
set_option maxRecDepth 20000 in
theorem ggX9_readCitation_X6_formOf : GoodIn wsX9_readCitation wsX6_formOf := goodIn_r _ [17, 18, 19, 133, 134, 135] (by decide +kernel) (by decide +kernel)
set_option maxRecDepth 20000 in
theorem gX9_readCitation_X6_formOf : GoodIn wsX9_readCitation (wsV RX9 217 RX6 yX6_formOf wsX6_formOf) := goodIn_app (goodIn_of _ (by decide +kernel)) ggX9_readCitation_X6_formOf
set_option maxRecDepth 20000 in
theorem ggX9_readCitation_X4_readAt : GoodIn wsX9_readCitation wsX4_readAt := goodIn_r _ [24, 25, 26, 27, 28, 29, 30, 23, 31, 32, 33, 34, 35, 36, 37, 38, 39, 40, 41, 42, 43, 44, 45, 46, 47, 48, 49, 50, 51, 52, 53, 54, 55, 56, 57, 58, 59, 60, 61, 62, 63, 64, 65, 66, 67, 68, 69, 70, 71, 72, 73, 74, 75, 76, 77, 78, 79, 80, 81, 82, 83, 84, 85, 86, 87, 88, 89, 90, 91, 92, 93, 94, 95, 96, 97, 98, 99, 100, 101, 102, 103, 104, 105, 106, 107, 108, 109, 110, 111, 112, 113, 114, 115, 116, 136, 137, 138, 139, 140, 141, 142] (by decide +kernel) (by decide +kernel)
set_option maxRecDepth 20000 in
theorem gX9_readCitation_X4_readAt : GoodIn wsX9_readCitation (wsV RX9 243 RX4 yX4_readAt wsX4_readAt) := goodIn_app (goodIn_of _ (by decide +kernel)) ggX9_readCitation_X4_readAt
set_option maxRecDepth 20000 in
theorem ggX9_readCitation_X8_byteAt : GoodIn wsX9_readCitation wsX8_byteAt := goodIn_r _ [37, 38, 39, 141, 142] (by decide +kernel) (by decide +kernel)
set_option maxRecDepth 20000 in
theorem gX9_readCitation_X8_byteAt : GoodIn wsX9_readCitation (wsV RX9 231 RX8 yX8_byteAt wsX8_byteAt) := goodIn_app (goodIn_of _ (by decide +kernel)) ggX9_readCitation_X8_byteAt
theorem dX9_readCitation_0 : decode cX9_readCitation 0 = .ok (.iconst 0, 1) := by decide +kernel
theorem dX9_readCitation_1 : decode cX9_readCitation 1 = .ok (.istore_n 1, 1) := by decide +kernel
theorem dX9_readCitation_2 : decode cX9_readCitation 2 = .ok (.iconst 0, 1) := by decide +kernel
theorem dX9_readCitation_3 : decode cX9_readCitation 3 = .ok (.istore_n 2, 1) := by decide +kernel
theorem dX9_readCitation_4 : decode cX9_readCitation 4 = .ok (.iload_n 2, 1) := by decide +kernel
theorem dX9_readCitation_5 : decode cX9_readCitation 5 = .ok (.aload_n 0, 1) := by decide +kernel
theorem dX9_readCitation_6 : decode cX9_readCitation 6 = .ok (.getfield 22, 3) := by decide +kernel
theorem dX9_readCitation_9 : decode cX9_readCitation 9 = .ok (.getfield 71, 3) := by decide +kernel
end
section
theorem dX9_readCitation_12 : decode cX9_readCitation 12 = .ok (.if_icmp .ge 140, 3) := by decide +kernel
theorem dX9_readCitation_15 : decode cX9_readCitation 15 = .ok (.aload_n 0, 1) := by decide +kernel
theorem dX9_readCitation_16 : decode cX9_readCitation 16 = .ok (.getfield 39, 3) := by decide +kernel
theorem dX9_readCitation_19 : decode cX9_readCitation 19 = .ok (.aload_n 0, 1) := by decide +kernel
theorem dX9_readCitation_20 : decode cX9_readCitation 20 = .ok (.getfield 10, 3) := by decide +kernel
theorem dX9_readCitation_23 : decode cX9_readCitation 23 = .ok (.iload_n 1, 1) := by decide +kernel
theorem dX9_readCitation_24 : decode cX9_readCitation 24 = .ok (.aload_n 0, 1) := by decide +kernel
theorem dX9_readCitation_25 : decode cX9_readCitation 25 = .ok (.getfield 22, 3) := by decide +kernel
theorem dX9_readCitation_28 : decode cX9_readCitation 28 = .ok (.iload_n 2, 1) := by decide +kernel
theorem dX9_readCitation_29 : decode cX9_readCitation 29 = .ok (.invokevirtual 217, 3) := by decide +kernel
theorem dX9_readCitation_32 : decode cX9_readCitation 32 = .ok (.invokevirtual 243, 3) := by decide +kernel
theorem dX9_readCitation_35 : decode cX9_readCitation 35 = .ok (.aload_n 0, 1) := by decide +kernel
theorem dX9_readCitation_36 : decode cX9_readCitation 36 = .ok (.getfield 39, 3) := by decide +kernel
theorem dX9_readCitation_39 : decode cX9_readCitation 39 = .ok (.getfield 246, 3) := by decide +kernel
theorem dX9_readCitation_42 : decode cX9_readCitation 42 = .ok (.ifCond .eq 27, 3) := by decide +kernel
theorem dX9_readCitation_45 : decode cX9_readCitation 45 = .ok (.aload_n 0, 1) := by decide +kernel
theorem dX9_readCitation_46 : decode cX9_readCitation 46 = .ok (.aload_n 0, 1) := by decide +kernel
theorem dX9_readCitation_47 : decode cX9_readCitation 47 = .ok (.getfield 39, 3) := by decide +kernel
theorem dX9_readCitation_50 : decode cX9_readCitation 50 = .ok (.getfield 246, 3) := by decide +kernel
theorem dX9_readCitation_53 : decode cX9_readCitation 53 = .ok (.putfield 92, 3) := by decide +kernel
theorem dX9_readCitation_56 : decode cX9_readCitation 56 = .ok (.aload_n 0, 1) := by decide +kernel
theorem dX9_readCitation_57 : decode cX9_readCitation 57 = .ok (.aload_n 0, 1) := by decide +kernel
theorem dX9_readCitation_58 : decode cX9_readCitation 58 = .ok (.getfield 39, 3) := by decide +kernel
theorem dX9_readCitation_61 : decode cX9_readCitation 61 = .ok (.getfield 272, 3) := by decide +kernel
theorem dX9_readCitation_64 : decode cX9_readCitation 64 = .ok (.putfield 75, 3) := by decide +kernel
theorem dX9_readCitation_67 : decode cX9_readCitation 67 = .ok (.iconst 0, 1) := by decide +kernel
theorem dX9_readCitation_68 : decode cX9_readCitation 68 = .ok (.ireturn, 1) := by decide +kernel
theorem dX9_readCitation_69 : decode cX9_readCitation 69 = .ok (.aload_n 0, 1) := by decide +kernel
theorem dX9_readCitation_70 : decode cX9_readCitation 70 = .ok (.getfield 64, 3) := by decide +kernel
theorem dX9_readCitation_73 : decode cX9_readCitation 73 = .ok (.iload_n 2, 1) := by decide +kernel
theorem dX9_readCitation_74 : decode cX9_readCitation 74 = .ok (.aload_n 0, 1) := by decide +kernel
theorem dX9_readCitation_75 : decode cX9_readCitation 75 = .ok (.getfield 39, 3) := by decide +kernel
theorem dX9_readCitation_78 : decode cX9_readCitation 78 = .ok (.getfield 250, 3) := by decide +kernel
theorem dX9_readCitation_81 : decode cX9_readCitation 81 = .ok (.iastore, 1) := by decide +kernel
theorem dX9_readCitation_82 : decode cX9_readCitation 82 = .ok (.aload_n 0, 1) := by decide +kernel
theorem dX9_readCitation_83 : decode cX9_readCitation 83 = .ok (.getfield 39, 3) := by decide +kernel
theorem dX9_readCitation_86 : decode cX9_readCitation 86 = .ok (.getfield 247, 3) := by decide +kernel
theorem dX9_readCitation_89 : decode cX9_readCitation 89 = .ok (.istore_n 1, 1) := by decide +kernel
theorem dX9_readCitation_90 : decode cX9_readCitation 90 = .ok (.iload_n 1, 1) := by decide +kernel
theorem dX9_readCitation_91 : decode cX9_readCitation 91 = .ok (.aload_n 0, 1) := by decide +kernel
theorem dX9_readCitation_92 : decode cX9_readCitation 92 = .ok (.getfield 10, 3) := by decide +kernel
theorem dX9_readCitation_95 : decode cX9_readCitation 95 = .ok (.getfield 78, 3) := by decide +kernel
theorem dX9_readCitation_98 : decode cX9_readCitation 98 = .ok (.if_icmp .ne 7, 3) := by decide +kernel
theorem dX9_readCitation_101 : decode cX9_readCitation 101 = .ok (.iload_n 2, 1) := by decide +kernel
theorem dX9_readCitation_102 : decode cX9_readCitation 102 = .ok (.iconst 1, 1) := by decide +kernel
theorem dX9_readCitation_103 : decode cX9_readCitation 103 = .ok (.iadd, 1) := by decide +kernel
theorem dX9_readCitation_104 : decode cX9_readCitation 104 = .ok (.ireturn, 1) := by decide +kernel
theorem dX9_readCitation_105 : decode cX9_readCitation 105 = .ok (.aload_n 0, 1) := by decide +kernel
theorem dX9_readCitation_106 : decode cX9_readCitation 106 = .ok (.getfield 10, 3) := by decide +kernel
theorem dX9_readCitation_109 : decode cX9_readCitation 109 = .ok (.iload_n 1, 1) := by decide +kernel
theorem dX9_readCitation_110 : decode cX9_readCitation 110 = .ok (.invokevirtual 231, 3) := by decide +kernel
theorem dX9_readCitation_113 : decode cX9_readCitation 113 = .ok (.bipush 46, 2) := by decide +kernel
theorem dX9_readCitation_115 : decode cX9_readCitation 115 = .ok (.if_icmp .ne 16, 3) := by decide +kernel
theorem dX9_readCitation_118 : decode cX9_readCitation 118 = .ok (.iload_n 2, 1) := by decide +kernel
theorem dX9_readCitation_119 : decode cX9_readCitation 119 = .ok (.iconst 1, 1) := by decide +kernel
theorem dX9_readCitation_120 : decode cX9_readCitation 120 = .ok (.iadd, 1) := by decide +kernel
theorem dX9_readCitation_121 : decode cX9_readCitation 121 = .ok (.aload_n 0, 1) := by decide +kernel
theorem dX9_readCitation_122 : decode cX9_readCitation 122 = .ok (.getfield 22, 3) := by decide +kernel
theorem dX9_readCitation_125 : decode cX9_readCitation 125 = .ok (.getfield 71, 3) := by decide +kernel
theorem dX9_readCitation_128 : decode cX9_readCitation 128 = .ok (.if_icmp .ne 15, 3) := by decide +kernel
theorem dX9_readCitation_131 : decode cX9_readCitation 131 = .ok (.aload_n 0, 1) := by decide +kernel
theorem dX9_readCitation_132 : decode cX9_readCitation 132 = .ok (.iconst 1, 1) := by decide +kernel
theorem dX9_readCitation_133 : decode cX9_readCitation 133 = .ok (.putfield 92, 3) := by decide +kernel
theorem dX9_readCitation_136 : decode cX9_readCitation 136 = .ok (.aload_n 0, 1) := by decide +kernel
theorem dX9_readCitation_137 : decode cX9_readCitation 137 = .ok (.iload_n 1, 1) := by decide +kernel
theorem dX9_readCitation_138 : decode cX9_readCitation 138 = .ok (.putfield 75, 3) := by decide +kernel
theorem dX9_readCitation_141 : decode cX9_readCitation 141 = .ok (.iconst 0, 1) := by decide +kernel
theorem dX9_readCitation_142 : decode cX9_readCitation 142 = .ok (.ireturn, 1) := by decide +kernel
theorem dX9_readCitation_143 : decode cX9_readCitation 143 = .ok (.iinc 1 1, 3) := by decide +kernel
theorem dX9_readCitation_146 : decode cX9_readCitation 146 = .ok (.iinc 2 1, 3) := by decide +kernel
theorem dX9_readCitation_149 : decode cX9_readCitation 149 = .ok (.goto (-145), 3) := by decide +kernel
theorem dX9_readCitation_152 : decode cX9_readCitation 152 = .ok (.iconst 0, 1) := by decide +kernel
theorem dX9_readCitation_153 : decode cX9_readCitation 153 = .ok (.ireturn, 1) := by decide +kernel
set_option maxRecDepth 20000 in
theorem ggX9_bearsPath_X3_has : GoodIn wsX9_bearsPath wsX3_has := goodIn_r _ [10, 11, 36, 37, 38, 39, 40, 41, 42] (by decide +kernel) (by decide +kernel)
set_option maxRecDepth 20000 in
theorem gX9_bearsPath_X3_has : GoodIn wsX9_bearsPath (wsV RX9 148 RX3 yX3_has wsX3_has) := goodIn_app (goodIn_of _ (by decide +kernel)) ggX9_bearsPath_X3_has
set_option maxRecDepth 20000 in
theorem ggX9_bearsPath_X2_asOf : GoodIn wsX9_bearsPath wsX2_asOf := goodIn_r _ [16, 17, 18, 19, 20, 43, 44, 45, 46, 47, 48] (by decide +kernel) (by decide +kernel)
set_option maxRecDepth 20000 in
theorem gX9_bearsPath_X2_asOf : GoodIn wsX9_bearsPath (wsV RX9 214 RX2 yX2_asOf wsX2_asOf) := goodIn_app (goodIn_of _ (by decide +kernel)) ggX9_bearsPath_X2_asOf
theorem dX9_bearsPath_0 : decode cX9_bearsPath 0 = .ok (.iload_n 1, 1) := by decide +kernel
theorem dX9_bearsPath_1 : decode cX9_bearsPath 1 = .ok (.istore_n 3, 1) := by decide +kernel
theorem dX9_bearsPath_2 : decode cX9_bearsPath 2 = .ok (.aload_n 0, 1) := by decide +kernel
theorem dX9_bearsPath_3 : decode cX9_bearsPath 3 = .ok (.getfield 46, 3) := by decide +kernel
theorem dX9_bearsPath_6 : decode cX9_bearsPath 6 = .ok (.getfield 113, 3) := by decide +kernel
theorem dX9_bearsPath_9 : decode cX9_bearsPath 9 = .ok (.iload_n 1, 1) := by decide +kernel
theorem dX9_bearsPath_10 : decode cX9_bearsPath 10 = .ok (.iaload, 1) := by decide +kernel
theorem dX9_bearsPath_11 : decode cX9_bearsPath 11 = .ok (.istore 4, 2) := by decide +kernel
theorem dX9_bearsPath_13 : decode cX9_bearsPath 13 = .ok (.iload 4, 2) := by decide +kernel
theorem dX9_bearsPath_15 : decode cX9_bearsPath 15 = .ok (.ifCond .lt 51, 3) := by decide +kernel
theorem dX9_bearsPath_18 : decode cX9_bearsPath 18 = .ok (.aload_n 0, 1) := by decide +kernel
theorem dX9_bearsPath_19 : decode cX9_bearsPath 19 = .ok (.getfield 46, 3) := by decide +kernel
theorem dX9_bearsPath_22 : decode cX9_bearsPath 22 = .ok (.iload_n 3, 1) := by decide +kernel
theorem dX9_bearsPath_23 : decode cX9_bearsPath 23 = .ok (.invokevirtual 148, 3) := by decide +kernel
theorem dX9_bearsPath_26 : decode cX9_bearsPath 26 = .ok (.ifCond .eq 40, 3) := by decide +kernel
theorem dX9_bearsPath_29 : decode cX9_bearsPath 29 = .ok (.aload_n 0, 1) := by decide +kernel
theorem dX9_bearsPath_30 : decode cX9_bearsPath 30 = .ok (.getfield 53, 3) := by decide +kernel
theorem dX9_bearsPath_33 : decode cX9_bearsPath 33 = .ok (.iload_n 3, 1) := by decide +kernel
theorem dX9_bearsPath_34 : decode cX9_bearsPath 34 = .ok (.iload_n 2, 1) := by decide +kernel
theorem dX9_bearsPath_35 : decode cX9_bearsPath 35 = .ok (.invokevirtual 214, 3) := by decide +kernel
theorem dX9_bearsPath_38 : decode cX9_bearsPath 38 = .ok (.aload_n 0, 1) := by decide +kernel
theorem dX9_bearsPath_39 : decode cX9_bearsPath 39 = .ok (.getfield 64, 3) := by decide +kernel
theorem dX9_bearsPath_42 : decode cX9_bearsPath 42 = .ok (.iload 4, 2) := by decide +kernel
theorem dX9_bearsPath_44 : decode cX9_bearsPath 44 = .ok (.iaload, 1) := by decide +kernel
theorem dX9_bearsPath_45 : decode cX9_bearsPath 45 = .ok (.if_icmp .eq 5, 3) := by decide +kernel
theorem dX9_bearsPath_48 : decode cX9_bearsPath 48 = .ok (.iconst 0, 1) := by decide +kernel
theorem dX9_bearsPath_49 : decode cX9_bearsPath 49 = .ok (.ireturn, 1) := by decide +kernel
theorem dX9_bearsPath_50 : decode cX9_bearsPath 50 = .ok (.aload_n 0, 1) := by decide +kernel
theorem dX9_bearsPath_51 : decode cX9_bearsPath 51 = .ok (.getfield 46, 3) := by decide +kernel
theorem dX9_bearsPath_54 : decode cX9_bearsPath 54 = .ok (.getfield 162, 3) := by decide +kernel
theorem dX9_bearsPath_57 : decode cX9_bearsPath 57 = .ok (.iload_n 3, 1) := by decide +kernel
theorem dX9_bearsPath_58 : decode cX9_bearsPath 58 = .ok (.iaload, 1) := by decide +kernel
theorem dX9_bearsPath_59 : decode cX9_bearsPath 59 = .ok (.istore_n 3, 1) := by decide +kernel
theorem dX9_bearsPath_60 : decode cX9_bearsPath 60 = .ok (.iinc 4 (-1), 3) := by decide +kernel
theorem dX9_bearsPath_63 : decode cX9_bearsPath 63 = .ok (.goto (-50), 3) := by decide +kernel
theorem dX9_bearsPath_66 : decode cX9_bearsPath 66 = .ok (.iconst 1, 1) := by decide +kernel
theorem dX9_bearsPath_67 : decode cX9_bearsPath 67 = .ok (.ireturn, 1) := by decide +kernel
theorem dX10_init_0 : decode cX10_init 0 = .ok (.aload_n 0, 1) := by decide +kernel
theorem dX10_init_1 : decode cX10_init 1 = .ok (.invokespecial 1, 3) := by decide +kernel
theorem dX10_init_4 : decode cX10_init 4 = .ok (.aload_n 0, 1) := by decide +kernel
theorem dX10_init_5 : decode cX10_init 5 = .ok (.sipush 200, 3) := by decide +kernel
theorem dX10_init_8 : decode cX10_init 8 = .ok (.newarray .byte, 2) := by decide +kernel
theorem dX10_init_10 : decode cX10_init 10 = .ok (.putfield 7, 3) := by decide +kernel
theorem dX10_init_13 : decode cX10_init 13 = .ok (.aload_n 0, 1) := by decide +kernel
theorem dX10_init_14 : decode cX10_init 14 = .ok (.iconst 4, 1) := by decide +kernel
theorem dX10_init_15 : decode cX10_init 15 = .ok (.newarray .int, 2) := by decide +kernel
theorem dX10_init_17 : decode cX10_init 17 = .ok (.dup, 1) := by decide +kernel
theorem dX10_init_18 : decode cX10_init 18 = .ok (.iconst 0, 1) := by decide +kernel
theorem dX10_init_19 : decode cX10_init 19 = .ok (.iconst 0, 1) := by decide +kernel
theorem dX10_init_20 : decode cX10_init 20 = .ok (.iastore, 1) := by decide +kernel
theorem dX10_init_21 : decode cX10_init 21 = .ok (.dup, 1) := by decide +kernel
theorem dX10_init_22 : decode cX10_init 22 = .ok (.iconst 1, 1) := by decide +kernel
theorem dX10_init_23 : decode cX10_init 23 = .ok (.iconst 2, 1) := by decide +kernel
theorem dX10_init_24 : decode cX10_init 24 = .ok (.iastore, 1) := by decide +kernel
theorem dX10_init_25 : decode cX10_init 25 = .ok (.dup, 1) := by decide +kernel
theorem dX10_init_26 : decode cX10_init 26 = .ok (.iconst 2, 1) := by decide +kernel
theorem dX10_init_27 : decode cX10_init 27 = .ok (.iconst 0, 1) := by decide +kernel
theorem dX10_init_28 : decode cX10_init 28 = .ok (.iastore, 1) := by decide +kernel
theorem dX10_init_29 : decode cX10_init 29 = .ok (.dup, 1) := by decide +kernel
theorem dX10_init_30 : decode cX10_init 30 = .ok (.iconst 3, 1) := by decide +kernel
theorem dX10_init_31 : decode cX10_init 31 = .ok (.iconst 0, 1) := by decide +kernel
theorem dX10_init_32 : decode cX10_init 32 = .ok (.iastore, 1) := by decide +kernel
theorem dX10_init_33 : decode cX10_init 33 = .ok (.putfield 13, 3) := by decide +kernel
theorem dX10_init_36 : decode cX10_init 36 = .ok (.aload_n 0, 1) := by decide +kernel
theorem dX10_init_37 : decode cX10_init 37 = .ok (.iconst 4, 1) := by decide +kernel
theorem dX10_init_38 : decode cX10_init 38 = .ok (.newarray .int, 2) := by decide +kernel
theorem dX10_init_40 : decode cX10_init 40 = .ok (.putfield 17, 3) := by decide +kernel
theorem dX10_init_43 : decode cX10_init 43 = .ok (.aload_n 0, 1) := by decide +kernel
theorem dX10_init_44 : decode cX10_init 44 = .ok (.iconst 4, 1) := by decide +kernel
theorem dX10_init_45 : decode cX10_init 45 = .ok (.newarray .boolean, 2) := by decide +kernel
theorem dX10_init_47 : decode cX10_init 47 = .ok (.putfield 20, 3) := by decide +kernel
theorem dX10_init_50 : decode cX10_init 50 = .ok (.aload_n 0, 1) := by decide +kernel
theorem dX10_init_51 : decode cX10_init 51 = .ok (.iconst 4, 1) := by decide +kernel
theorem dX10_init_52 : decode cX10_init 52 = .ok (.newarray .boolean, 2) := by decide +kernel
theorem dX10_init_54 : decode cX10_init 54 = .ok (.putfield 24, 3) := by decide +kernel
theorem dX10_init_57 : decode cX10_init 57 = .ok (.aload_n 0, 1) := by decide +kernel
theorem dX10_init_58 : decode cX10_init 58 = .ok (.iconst 2, 1) := by decide +kernel
theorem dX10_init_59 : decode cX10_init 59 = .ok (.putfield 27, 3) := by decide +kernel
theorem dX10_init_62 : decode cX10_init 62 = .ok (.aload_n 0, 1) := by decide +kernel
theorem dX10_init_63 : decode cX10_init 63 = .ok (.iconst (-1), 1) := by decide +kernel
theorem dX10_init_64 : decode cX10_init 64 = .ok (.putfield 31, 3) := by decide +kernel
theorem dX10_init_67 : decode cX10_init 67 = .ok (.aload_n 0, 1) := by decide +kernel
theorem dX10_init_68 : decode cX10_init 68 = .ok (.bipush 80, 2) := by decide +kernel
theorem dX10_init_70 : decode cX10_init 70 = .ok (.newarray .int, 2) := by decide +kernel
theorem dX10_init_72 : decode cX10_init 72 = .ok (.putfield 34, 3) := by decide +kernel
theorem dX10_init_75 : decode cX10_init 75 = .ok (.aload_n 0, 1) := by decide +kernel
theorem dX10_init_76 : decode cX10_init 76 = .ok (.bipush 80, 2) := by decide +kernel
theorem dX10_init_78 : decode cX10_init 78 = .ok (.newarray .int, 2) := by decide +kernel
theorem dX10_init_80 : decode cX10_init 80 = .ok (.putfield 37, 3) := by decide +kernel
theorem dX10_init_83 : decode cX10_init 83 = .ok (.aload_n 0, 1) := by decide +kernel
theorem dX10_init_84 : decode cX10_init 84 = .ok (.bipush 80, 2) := by decide +kernel
theorem dX10_init_86 : decode cX10_init 86 = .ok (.newarray .int, 2) := by decide +kernel
theorem dX10_init_88 : decode cX10_init 88 = .ok (.putfield 40, 3) := by decide +kernel
theorem dX10_init_91 : decode cX10_init 91 = .ok (.aload_n 0, 1) := by decide +kernel
theorem dX10_init_92 : decode cX10_init 92 = .ok (.bipush 80, 2) := by decide +kernel
theorem dX10_init_94 : decode cX10_init 94 = .ok (.newarray .int, 2) := by decide +kernel
theorem dX10_init_96 : decode cX10_init 96 = .ok (.putfield 43, 3) := by decide +kernel
theorem dX10_init_99 : decode cX10_init 99 = .ok (.aload_n 0, 1) := by decide +kernel
theorem dX10_init_100 : decode cX10_init 100 = .ok (.bipush 80, 2) := by decide +kernel
theorem dX10_init_102 : decode cX10_init 102 = .ok (.newarray .boolean, 2) := by decide +kernel
theorem dX10_init_104 : decode cX10_init 104 = .ok (.putfield 46, 3) := by decide +kernel
theorem dX10_init_107 : decode cX10_init 107 = .ok (.aload_n 0, 1) := by decide +kernel
theorem dX10_init_108 : decode cX10_init 108 = .ok (.ldc 49, 2) := by decide +kernel
theorem dX10_init_110 : decode cX10_init 110 = .ok (.newarray .int, 2) := by decide +kernel
theorem dX10_init_112 : decode cX10_init 112 = .ok (.putfield 50, 3) := by decide +kernel
theorem dX10_init_115 : decode cX10_init 115 = .ok (.aload_n 0, 1) := by decide +kernel
theorem dX10_init_116 : decode cX10_init 116 = .ok (.ldc 49, 2) := by decide +kernel
theorem dX10_init_118 : decode cX10_init 118 = .ok (.newarray .int, 2) := by decide +kernel
theorem dX10_init_120 : decode cX10_init 120 = .ok (.putfield 53, 3) := by decide +kernel
theorem dX10_init_123 : decode cX10_init 123 = .ok (.aload_n 0, 1) := by decide +kernel
theorem dX10_init_124 : decode cX10_init 124 = .ok (.ldc 49, 2) := by decide +kernel
theorem dX10_init_126 : decode cX10_init 126 = .ok (.newarray .int, 2) := by decide +kernel
theorem dX10_init_128 : decode cX10_init 128 = .ok (.putfield 56, 3) := by decide +kernel
theorem dX10_init_131 : decode cX10_init 131 = .ok (.aload_n 0, 1) := by decide +kernel
theorem dX10_init_132 : decode cX10_init 132 = .ok (.bipush 100, 2) := by decide +kernel
theorem dX10_init_134 : decode cX10_init 134 = .ok (.newarray .int, 2) := by decide +kernel
theorem dX10_init_136 : decode cX10_init 136 = .ok (.putfield 59, 3) := by decide +kernel
theorem dX10_init_139 : decode cX10_init 139 = .ok (.aload_n 0, 1) := by decide +kernel
theorem dX10_init_140 : decode cX10_init 140 = .ok (.bipush 100, 2) := by decide +kernel
theorem dX10_init_142 : decode cX10_init 142 = .ok (.newarray .int, 2) := by decide +kernel
theorem dX10_init_144 : decode cX10_init 144 = .ok (.putfield 62, 3) := by decide +kernel
theorem dX10_init_147 : decode cX10_init 147 = .ok (.aload_n 0, 1) := by decide +kernel
theorem dX10_init_148 : decode cX10_init 148 = .ok (.bipush 100, 2) := by decide +kernel
theorem dX10_init_150 : decode cX10_init 150 = .ok (.newarray .int, 2) := by decide +kernel
theorem dX10_init_152 : decode cX10_init 152 = .ok (.putfield 65, 3) := by decide +kernel
theorem dX10_init_155 : decode cX10_init 155 = .ok (.aload_n 0, 1) := by decide +kernel
theorem dX10_init_156 : decode cX10_init 156 = .ok (.iconst 4, 1) := by decide +kernel
theorem dX10_init_157 : decode cX10_init 157 = .ok (.newarray .int, 2) := by decide +kernel
theorem dX10_init_159 : decode cX10_init 159 = .ok (.putfield 68, 3) := by decide +kernel
theorem dX10_init_162 : decode cX10_init 162 = .ok (.aload_n 0, 1) := by decide +kernel
theorem dX10_init_163 : decode cX10_init 163 = .ok (.bipush 100, 2) := by decide +kernel
theorem dX10_init_165 : decode cX10_init 165 = .ok (.newarray .byte, 2) := by decide +kernel
theorem dX10_init_167 : decode cX10_init 167 = .ok (.putfield 71, 3) := by decide +kernel
theorem dX10_init_170 : decode cX10_init 170 = .ok (.aload_n 0, 1) := by decide +kernel
theorem dX10_init_171 : decode cX10_init 171 = .ok (.bipush 12, 2) := by decide +kernel
theorem dX10_init_173 : decode cX10_init 173 = .ok (.newarray .int, 2) := by decide +kernel
theorem dX10_init_175 : decode cX10_init 175 = .ok (.dup, 1) := by decide +kernel
theorem dX10_init_176 : decode cX10_init 176 = .ok (.iconst 0, 1) := by decide +kernel
theorem dX10_init_177 : decode cX10_init 177 = .ok (.sipush 900, 3) := by decide +kernel
theorem dX10_init_180 : decode cX10_init 180 = .ok (.iastore, 1) := by decide +kernel
theorem dX10_init_181 : decode cX10_init 181 = .ok (.dup, 1) := by decide +kernel
theorem dX10_init_182 : decode cX10_init 182 = .ok (.iconst 1, 1) := by decide +kernel
theorem dX10_init_183 : decode cX10_init 183 = .ok (.sipush 500, 3) := by decide +kernel
theorem dX10_init_186 : decode cX10_init 186 = .ok (.iastore, 1) := by decide +kernel
theorem dX10_init_187 : decode cX10_init 187 = .ok (.dup, 1) := by decide +kernel
theorem dX10_init_188 : decode cX10_init 188 = .ok (.iconst 2, 1) := by decide +kernel
theorem dX10_init_189 : decode cX10_init 189 = .ok (.sipush 400, 3) := by decide +kernel
theorem dX10_init_192 : decode cX10_init 192 = .ok (.iastore, 1) := by decide +kernel
theorem dX10_init_193 : decode cX10_init 193 = .ok (.dup, 1) := by decide +kernel
theorem dX10_init_194 : decode cX10_init 194 = .ok (.iconst 3, 1) := by decide +kernel
theorem dX10_init_195 : decode cX10_init 195 = .ok (.bipush 100, 2) := by decide +kernel
theorem dX10_init_197 : decode cX10_init 197 = .ok (.iastore, 1) := by decide +kernel
theorem dX10_init_198 : decode cX10_init 198 = .ok (.dup, 1) := by decide +kernel
theorem dX10_init_199 : decode cX10_init 199 = .ok (.iconst 4, 1) := by decide +kernel
theorem dX10_init_200 : decode cX10_init 200 = .ok (.bipush 90, 2) := by decide +kernel
theorem dX10_init_202 : decode cX10_init 202 = .ok (.iastore, 1) := by decide +kernel
theorem dX10_init_203 : decode cX10_init 203 = .ok (.dup, 1) := by decide +kernel
theorem dX10_init_204 : decode cX10_init 204 = .ok (.iconst 5, 1) := by decide +kernel
theorem dX10_init_205 : decode cX10_init 205 = .ok (.bipush 50, 2) := by decide +kernel
theorem dX10_init_207 : decode cX10_init 207 = .ok (.iastore, 1) := by decide +kernel
theorem dX10_init_208 : decode cX10_init 208 = .ok (.dup, 1) := by decide +kernel
theorem dX10_init_209 : decode cX10_init 209 = .ok (.bipush 6, 2) := by decide +kernel
theorem dX10_init_211 : decode cX10_init 211 = .ok (.bipush 40, 2) := by decide +kernel
theorem dX10_init_213 : decode cX10_init 213 = .ok (.iastore, 1) := by decide +kernel
theorem dX10_init_214 : decode cX10_init 214 = .ok (.dup, 1) := by decide +kernel
theorem dX10_init_215 : decode cX10_init 215 = .ok (.bipush 7, 2) := by decide +kernel
theorem dX10_init_217 : decode cX10_init 217 = .ok (.bipush 10, 2) := by decide +kernel
theorem dX10_init_219 : decode cX10_init 219 = .ok (.iastore, 1) := by decide +kernel
theorem dX10_init_220 : decode cX10_init 220 = .ok (.dup, 1) := by decide +kernel
theorem dX10_init_221 : decode cX10_init 221 = .ok (.bipush 8, 2) := by decide +kernel
theorem dX10_init_223 : decode cX10_init 223 = .ok (.bipush 9, 2) := by decide +kernel
theorem dX10_init_225 : decode cX10_init 225 = .ok (.iastore, 1) := by decide +kernel
theorem dX10_init_226 : decode cX10_init 226 = .ok (.dup, 1) := by decide +kernel
theorem dX10_init_227 : decode cX10_init 227 = .ok (.bipush 9, 2) := by decide +kernel
theorem dX10_init_229 : decode cX10_init 229 = .ok (.iconst 5, 1) := by decide +kernel
theorem dX10_init_230 : decode cX10_init 230 = .ok (.iastore, 1) := by decide +kernel
theorem dX10_init_231 : decode cX10_init 231 = .ok (.dup, 1) := by decide +kernel
theorem dX10_init_232 : decode cX10_init 232 = .ok (.bipush 10, 2) := by decide +kernel
theorem dX10_init_234 : decode cX10_init 234 = .ok (.iconst 4, 1) := by decide +kernel
theorem dX10_init_235 : decode cX10_init 235 = .ok (.iastore, 1) := by decide +kernel
theorem dX10_init_236 : decode cX10_init 236 = .ok (.dup, 1) := by decide +kernel
theorem dX10_init_237 : decode cX10_init 237 = .ok (.bipush 11, 2) := by decide +kernel
theorem dX10_init_239 : decode cX10_init 239 = .ok (.iconst 1, 1) := by decide +kernel
theorem dX10_init_240 : decode cX10_init 240 = .ok (.iastore, 1) := by decide +kernel
theorem dX10_init_241 : decode cX10_init 241 = .ok (.putfield 74, 3) := by decide +kernel
theorem dX10_init_244 : decode cX10_init 244 = .ok (.aload_n 0, 1) := by decide +kernel
theorem dX10_init_245 : decode cX10_init 245 = .ok (.bipush 12, 2) := by decide +kernel
theorem dX10_init_247 : decode cX10_init 247 = .ok (.newarray .int, 2) := by decide +kernel
theorem dX10_init_249 : decode cX10_init 249 = .ok (.dup, 1) := by decide +kernel
theorem dX10_init_250 : decode cX10_init 250 = .ok (.iconst 0, 1) := by decide +kernel
theorem dX10_init_251 : decode cX10_init 251 = .ok (.bipush 57, 2) := by decide +kernel
theorem dX10_init_253 : decode cX10_init 253 = .ok (.iastore, 1) := by decide +kernel
theorem dX10_init_254 : decode cX10_init 254 = .ok (.dup, 1) := by decide +kernel
theorem dX10_init_255 : decode cX10_init 255 = .ok (.iconst 1, 1) := by decide +kernel
theorem dX10_init_256 : decode cX10_init 256 = .ok (.bipush 6, 2) := by decide +kernel
theorem dX10_init_258 : decode cX10_init 258 = .ok (.iastore, 1) := by decide +kernel
theorem dX10_init_259 : decode cX10_init 259 = .ok (.dup, 1) := by decide +kernel
theorem dX10_init_260 : decode cX10_init 260 = .ok (.iconst 2, 1) := by decide +kernel
theorem dX10_init_261 : decode cX10_init 261 = .ok (.bipush 56, 2) := by decide +kernel
theorem dX10_init_263 : decode cX10_init 263 = .ok (.iastore, 1) := by decide +kernel
theorem dX10_init_264 : decode cX10_init 264 = .ok (.dup, 1) := by decide +kernel
theorem dX10_init_265 : decode cX10_init 265 = .ok (.iconst 3, 1) := by decide +kernel
theorem dX10_init_266 : decode cX10_init 266 = .ok (.iconst 5, 1) := by decide +kernel
theorem dX10_init_267 : decode cX10_init 267 = .ok (.iastore, 1) := by decide +kernel
theorem dX10_init_268 : decode cX10_init 268 = .ok (.dup, 1) := by decide +kernel
theorem dX10_init_269 : decode cX10_init 269 = .ok (.iconst 4, 1) := by decide +kernel
theorem dX10_init_270 : decode cX10_init 270 = .ok (.bipush 35, 2) := by decide +kernel
theorem dX10_init_272 : decode cX10_init 272 = .ok (.iastore, 1) := by decide +kernel
theorem dX10_init_273 : decode cX10_init 273 = .ok (.dup, 1) := by decide +kernel
theorem dX10_init_274 : decode cX10_init 274 = .ok (.iconst 5, 1) := by decide +kernel
theorem dX10_init_275 : decode cX10_init 275 = .ok (.iconst 4, 1) := by decide +kernel
theorem dX10_init_276 : decode cX10_init 276 = .ok (.iastore, 1) := by decide +kernel
theorem dX10_init_277 : decode cX10_init 277 = .ok (.dup, 1) := by decide +kernel
theorem dX10_init_278 : decode cX10_init 278 = .ok (.bipush 6, 2) := by decide +kernel
theorem dX10_init_280 : decode cX10_init 280 = .ok (.bipush 34, 2) := by decide +kernel
theorem dX10_init_282 : decode cX10_init 282 = .ok (.iastore, 1) := by decide +kernel
theorem dX10_init_283 : decode cX10_init 283 = .ok (.dup, 1) := by decide +kernel
theorem dX10_init_284 : decode cX10_init 284 = .ok (.bipush 7, 2) := by decide +kernel
theorem dX10_init_286 : decode cX10_init 286 = .ok (.iconst 3, 1) := by decide +kernel
theorem dX10_init_287 : decode cX10_init 287 = .ok (.iastore, 1) := by decide +kernel
theorem dX10_init_288 : decode cX10_init 288 = .ok (.dup, 1) := by decide +kernel
theorem dX10_init_289 : decode cX10_init 289 = .ok (.bipush 8, 2) := by decide +kernel
theorem dX10_init_291 : decode cX10_init 291 = .ok (.bipush 13, 2) := by decide +kernel
theorem dX10_init_293 : decode cX10_init 293 = .ok (.iastore, 1) := by decide +kernel
theorem dX10_init_294 : decode cX10_init 294 = .ok (.dup, 1) := by decide +kernel
theorem dX10_init_295 : decode cX10_init 295 = .ok (.bipush 9, 2) := by decide +kernel
theorem dX10_init_297 : decode cX10_init 297 = .ok (.iconst 2, 1) := by decide +kernel
theorem dX10_init_298 : decode cX10_init 298 = .ok (.iastore, 1) := by decide +kernel
theorem dX10_init_299 : decode cX10_init 299 = .ok (.dup, 1) := by decide +kernel
theorem dX10_init_300 : decode cX10_init 300 = .ok (.bipush 10, 2) := by decide +kernel
theorem dX10_init_302 : decode cX10_init 302 = .ok (.bipush 12, 2) := by decide +kernel
theorem dX10_init_304 : decode cX10_init 304 = .ok (.iastore, 1) := by decide +kernel
theorem dX10_init_305 : decode cX10_init 305 = .ok (.dup, 1) := by decide +kernel
theorem dX10_init_306 : decode cX10_init 306 = .ok (.bipush 11, 2) := by decide +kernel
theorem dX10_init_308 : decode cX10_init 308 = .ok (.iconst 1, 1) := by decide +kernel
theorem dX10_init_309 : decode cX10_init 309 = .ok (.iastore, 1) := by decide +kernel
theorem dX10_init_310 : decode cX10_init 310 = .ok (.putfield 77, 3) := by decide +kernel
theorem dX10_init_313 : decode cX10_init 313 = .ok (.aload_n 0, 1) := by decide +kernel
theorem dX10_init_314 : decode cX10_init 314 = .ok (.bipush 100, 2) := by decide +kernel
theorem dX10_init_316 : decode cX10_init 316 = .ok (.newarray .byte, 2) := by decide +kernel
theorem dX10_init_318 : decode cX10_init 318 = .ok (.putfield 80, 3) := by decide +kernel
theorem dX10_init_321 : decode cX10_init 321 = .ok (.aload_n 0, 1) := by decide +kernel
theorem dX10_init_322 : decode cX10_init 322 = .ok (.iconst 4, 1) := by decide +kernel
theorem dX10_init_323 : decode cX10_init 323 = .ok (.newarray .int, 2) := by decide +kernel
theorem dX10_init_325 : decode cX10_init 325 = .ok (.putfield 83, 3) := by decide +kernel
theorem dX10_init_328 : decode cX10_init 328 = .ok (.return_, 1) := by decide +kernel
theorem dX10_thrown_0 : decode cX10_thrown 0 = .ok (.aload_n 0, 1) := by decide +kernel
theorem dX10_thrown_1 : decode cX10_thrown 1 = .ok (.getfield 86, 3) := by decide +kernel
theorem dX10_thrown_4 : decode cX10_thrown 4 = .ok (.ireturn, 1) := by decide +kernel
theorem dX10_throwsIf_0 : decode cX10_throwsIf 0 = .ok (.aload_n 0, 1) := by decide +kernel
theorem dX10_throwsIf_1 : decode cX10_throwsIf 1 = .ok (.iload_n 1, 1) := by decide +kernel
theorem dX10_throwsIf_2 : decode cX10_throwsIf 2 = .ok (.ifCond .eq 7, 3) := by decide +kernel
theorem dX10_throwsIf_5 : decode cX10_throwsIf 5 = .ok (.iconst 1, 1) := by decide +kernel
theorem dX10_throwsIf_6 : decode cX10_throwsIf 6 = .ok (.goto 4, 3) := by decide +kernel
theorem dX10_throwsIf_9 : decode cX10_throwsIf 9 = .ok (.iconst 0, 1) := by decide +kernel
theorem dX10_throwsIf_10 : decode cX10_throwsIf 10 = .ok (.putfield 86, 3) := by decide +kernel
theorem dX10_throwsIf_13 : decode cX10_throwsIf 13 = .ok (.iload_n 1, 1) := by decide +kernel
theorem dX10_throwsIf_14 : decode cX10_throwsIf 14 = .ok (.ireturn, 1) := by decide +kernel
set_option maxRecDepth 20000 in
theorem ggX10_feed_X10_four : GoodIn wsX10_feed wsX10_four := goodIn_r _ [7, 8, 2, 9, 10, 11, 12, 13, 14, 15, 16, 17, 18, 19, 20, 21, 22, 23, 24, 25, 26, 27, 28, 29, 30, 31, 32, 33, 34, 35, 36, 37, 38, 39, 40, 41, 42, 43, 44, 45, 46, 47, 48, 49, 50] (by decide +kernel) (by decide +kernel)
set_option maxRecDepth 20000 in
theorem gX10_feed_X10_four : GoodIn wsX10_feed (wsV RX10 92 RX10 yX10_four wsX10_four) := goodIn_app (goodIn_of _ (by decide +kernel)) ggX10_feed_X10_four
theorem dX10_feed_0 : decode cX10_feed 0 = .ok (.aload_n 0, 1) := by decide +kernel
theorem dX10_feed_1 : decode cX10_feed 1 = .ok (.iconst 0, 1) := by decide +kernel
theorem dX10_feed_2 : decode cX10_feed 2 = .ok (.putfield 86, 3) := by decide +kernel
theorem dX10_feed_5 : decode cX10_feed 5 = .ok (.aload_n 0, 1) := by decide +kernel
theorem dX10_feed_6 : decode cX10_feed 6 = .ok (.getfield 89, 3) := by decide +kernel
theorem dX10_feed_9 : decode cX10_feed 9 = .ok (.bipush 20, 2) := by decide +kernel
theorem dX10_feed_11 : decode cX10_feed 11 = .ok (.iadd, 1) := by decide +kernel
theorem dX10_feed_12 : decode cX10_feed 12 = .ok (.sipush 200, 3) := by decide +kernel
theorem dX10_feed_15 : decode cX10_feed 15 = .ok (.if_icmp .le 5, 3) := by decide +kernel
theorem dX10_feed_18 : decode cX10_feed 18 = .ok (.iconst (-1), 1) := by decide +kernel
theorem dX10_feed_19 : decode cX10_feed 19 = .ok (.ireturn, 1) := by decide +kernel
theorem dX10_feed_20 : decode cX10_feed 20 = .ok (.aload_n 0, 1) := by decide +kernel
theorem dX10_feed_21 : decode cX10_feed 21 = .ok (.iload_n 1, 1) := by decide +kernel
theorem dX10_feed_22 : decode cX10_feed 22 = .ok (.invokevirtual 92, 3) := by decide +kernel
theorem dX10_feed_25 : decode cX10_feed 25 = .ok (.aload_n 0, 1) := by decide +kernel
theorem dX10_feed_26 : decode cX10_feed 26 = .ok (.iload_n 2, 1) := by decide +kernel
theorem dX10_feed_27 : decode cX10_feed 27 = .ok (.invokevirtual 92, 3) := by decide +kernel
theorem dX10_feed_30 : decode cX10_feed 30 = .ok (.aload_n 0, 1) := by decide +kernel
theorem dX10_feed_31 : decode cX10_feed 31 = .ok (.iload_n 3, 1) := by decide +kernel
theorem dX10_feed_32 : decode cX10_feed 32 = .ok (.invokevirtual 92, 3) := by decide +kernel
theorem dX10_feed_35 : decode cX10_feed 35 = .ok (.aload_n 0, 1) := by decide +kernel
theorem dX10_feed_36 : decode cX10_feed 36 = .ok (.iload 4, 2) := by decide +kernel
theorem dX10_feed_38 : decode cX10_feed 38 = .ok (.invokevirtual 92, 3) := by decide +kernel
theorem dX10_feed_41 : decode cX10_feed 41 = .ok (.aload_n 0, 1) := by decide +kernel
theorem dX10_feed_42 : decode cX10_feed 42 = .ok (.iload 5, 2) := by decide +kernel
theorem dX10_feed_44 : decode cX10_feed 44 = .ok (.invokevirtual 92, 3) := by decide +kernel
theorem dX10_feed_47 : decode cX10_feed 47 = .ok (.aload_n 0, 1) := by decide +kernel
theorem dX10_feed_48 : decode cX10_feed 48 = .ok (.getfield 89, 3) := by decide +kernel
theorem dX10_feed_51 : decode cX10_feed 51 = .ok (.ireturn, 1) := by decide +kernel
theorem dX10_four_0 : decode cX10_four 0 = .ok (.bipush 24, 2) := by decide +kernel
theorem dX10_four_2 : decode cX10_four 2 = .ok (.istore_n 2, 1) := by decide +kernel
theorem dX10_four_3 : decode cX10_four 3 = .ok (.iload_n 2, 1) := by decide +kernel
theorem dX10_four_4 : decode cX10_four 4 = .ok (.ifCond .lt 32, 3) := by decide +kernel
theorem dX10_four_7 : decode cX10_four 7 = .ok (.aload_n 0, 1) := by decide +kernel
theorem dX10_four_8 : decode cX10_four 8 = .ok (.getfield 7, 3) := by decide +kernel
theorem dX10_four_11 : decode cX10_four 11 = .ok (.aload_n 0, 1) := by decide +kernel
theorem dX10_four_12 : decode cX10_four 12 = .ok (.getfield 89, 3) := by decide +kernel
theorem dX10_four_15 : decode cX10_four 15 = .ok (.iload_n 1, 1) := by decide +kernel
theorem dX10_four_16 : decode cX10_four 16 = .ok (.iload_n 2, 1) := by decide +kernel
theorem dX10_four_17 : decode cX10_four 17 = .ok (.ishr, 1) := by decide +kernel
theorem dX10_four_18 : decode cX10_four 18 = .ok (.i2b, 1) := by decide +kernel
theorem dX10_four_19 : decode cX10_four 19 = .ok (.bastore, 1) := by decide +kernel
theorem dX10_four_20 : decode cX10_four 20 = .ok (.aload_n 0, 1) := by decide +kernel
theorem dX10_four_21 : decode cX10_four 21 = .ok (.dup, 1) := by decide +kernel
theorem dX10_four_22 : decode cX10_four 22 = .ok (.getfield 89, 3) := by decide +kernel
theorem dX10_four_25 : decode cX10_four 25 = .ok (.iconst 1, 1) := by decide +kernel
theorem dX10_four_26 : decode cX10_four 26 = .ok (.iadd, 1) := by decide +kernel
theorem dX10_four_27 : decode cX10_four 27 = .ok (.putfield 89, 3) := by decide +kernel
theorem dX10_four_30 : decode cX10_four 30 = .ok (.iinc 2 (-8), 3) := by decide +kernel
theorem dX10_four_33 : decode cX10_four 33 = .ok (.goto (-30), 3) := by decide +kernel
theorem dX10_four_36 : decode cX10_four 36 = .ok (.return_, 1) := by decide +kernel
theorem dX10_end_0 : decode cX10_end 0 = .ok (.aload_n 0, 1) := by decide +kernel
theorem dX10_end_1 : decode cX10_end 1 = .ok (.iconst 0, 1) := by decide +kernel
theorem dX10_end_2 : decode cX10_end 2 = .ok (.putfield 86, 3) := by decide +kernel
theorem dX10_end_5 : decode cX10_end 5 = .ok (.iload_n 1, 1) := by decide +kernel
theorem dX10_end_6 : decode cX10_end 6 = .ok (.ifCond .lt 11, 3) := by decide +kernel
theorem dX10_end_9 : decode cX10_end 9 = .ok (.iload_n 1, 1) := by decide +kernel
theorem dX10_end_10 : decode cX10_end 10 = .ok (.aload_n 0, 1) := by decide +kernel
theorem dX10_end_11 : decode cX10_end 11 = .ok (.getfield 89, 3) := by decide +kernel
theorem dX10_end_14 : decode cX10_end 14 = .ok (.if_icmp .le 5, 3) := by decide +kernel
theorem dX10_end_17 : decode cX10_end 17 = .ok (.iconst 0, 1) := by decide +kernel
theorem dX10_end_18 : decode cX10_end 18 = .ok (.ireturn, 1) := by decide +kernel
theorem dX10_end_19 : decode cX10_end 19 = .ok (.aload_n 0, 1) := by decide +kernel
theorem dX10_end_20 : decode cX10_end 20 = .ok (.iload_n 1, 1) := by decide +kernel
theorem dX10_end_21 : decode cX10_end 21 = .ok (.putfield 89, 3) := by decide +kernel
theorem dX10_end_24 : decode cX10_end 24 = .ok (.iconst 1, 1) := by decide +kernel
theorem dX10_end_25 : decode cX10_end 25 = .ok (.ireturn, 1) := by decide +kernel
theorem dX10_taken_0 : decode cX10_taken 0 = .ok (.aload_n 0, 1) := by decide +kernel
theorem dX10_taken_1 : decode cX10_taken 1 = .ok (.aload_n 0, 1) := by decide +kernel
theorem dX10_taken_2 : decode cX10_taken 2 = .ok (.getfield 89, 3) := by decide +kernel
theorem dX10_taken_5 : decode cX10_taken 5 = .ok (.putfield 96, 3) := by decide +kernel
theorem dX10_taken_8 : decode cX10_taken 8 = .ok (.aload_n 0, 1) := by decide +kernel
theorem dX10_taken_9 : decode cX10_taken 9 = .ok (.iconst 0, 1) := by decide +kernel
theorem dX10_taken_10 : decode cX10_taken 10 = .ok (.putfield 89, 3) := by decide +kernel
theorem dX10_taken_13 : decode cX10_taken 13 = .ok (.aload_n 0, 1) := by decide +kernel
theorem dX10_taken_14 : decode cX10_taken 14 = .ok (.iconst 0, 1) := by decide +kernel
theorem dX10_taken_15 : decode cX10_taken 15 = .ok (.putfield 99, 3) := by decide +kernel
theorem dX10_taken_18 : decode cX10_taken 18 = .ok (.return_, 1) := by decide +kernel
theorem dX10_peek_0 : decode cX10_peek 0 = .ok (.aload_n 0, 1) := by decide +kernel
theorem dX10_peek_1 : decode cX10_peek 1 = .ok (.getfield 99, 3) := by decide +kernel
theorem dX10_peek_4 : decode cX10_peek 4 = .ok (.aload_n 0, 1) := by decide +kernel
theorem dX10_peek_5 : decode cX10_peek 5 = .ok (.getfield 96, 3) := by decide +kernel
theorem dX10_peek_8 : decode cX10_peek 8 = .ok (.if_icmp .ge 19, 3) := by decide +kernel
theorem dX10_peek_11 : decode cX10_peek 11 = .ok (.aload_n 0, 1) := by decide +kernel
theorem dX10_peek_12 : decode cX10_peek 12 = .ok (.getfield 7, 3) := by decide +kernel
theorem dX10_peek_15 : decode cX10_peek 15 = .ok (.aload_n 0, 1) := by decide +kernel
theorem dX10_peek_16 : decode cX10_peek 16 = .ok (.getfield 99, 3) := by decide +kernel
theorem dX10_peek_19 : decode cX10_peek 19 = .ok (.baload, 1) := by decide +kernel
theorem dX10_peek_20 : decode cX10_peek 20 = .ok (.sipush 255, 3) := by decide +kernel
theorem dX10_peek_23 : decode cX10_peek 23 = .ok (.iand, 1) := by decide +kernel
theorem dX10_peek_24 : decode cX10_peek 24 = .ok (.goto 4, 3) := by decide +kernel
theorem dX10_peek_27 : decode cX10_peek 27 = .ok (.iconst (-1), 1) := by decide +kernel
theorem dX10_peek_28 : decode cX10_peek 28 = .ok (.ireturn, 1) := by decide +kernel
theorem dX10_wrong_0 : decode cX10_wrong 0 = .ok (.aload_n 0, 1) := by decide +kernel
theorem dX10_wrong_1 : decode cX10_wrong 1 = .ok (.iload_n 1, 1) := by decide +kernel
theorem dX10_wrong_2 : decode cX10_wrong 2 = .ok (.putfield 102, 3) := by decide +kernel
theorem dX10_wrong_5 : decode cX10_wrong 5 = .ok (.aload_n 0, 1) := by decide +kernel
theorem dX10_wrong_6 : decode cX10_wrong 6 = .ok (.iload_n 2, 1) := by decide +kernel
theorem dX10_wrong_7 : decode cX10_wrong 7 = .ok (.putfield 31, 3) := by decide +kernel
theorem dX10_wrong_10 : decode cX10_wrong 10 = .ok (.iconst 0, 1) := by decide +kernel
theorem dX10_wrong_11 : decode cX10_wrong 11 = .ok (.ireturn, 1) := by decide +kernel
theorem dX10_isSmall_0 : decode cX10_isSmall 0 = .ok (.iload_n 0, 1) := by decide +kernel
theorem dX10_isSmall_1 : decode cX10_isSmall 1 = .ok (.bipush 97, 2) := by decide +kernel
theorem dX10_isSmall_3 : decode cX10_isSmall 3 = .ok (.if_icmp .lt 13, 3) := by decide +kernel
theorem dX10_isSmall_6 : decode cX10_isSmall 6 = .ok (.iload_n 0, 1) := by decide +kernel
theorem dX10_isSmall_7 : decode cX10_isSmall 7 = .ok (.bipush 122, 2) := by decide +kernel
theorem dX10_isSmall_9 : decode cX10_isSmall 9 = .ok (.if_icmp .gt 7, 3) := by decide +kernel
theorem dX10_isSmall_12 : decode cX10_isSmall 12 = .ok (.iconst 1, 1) := by decide +kernel
theorem dX10_isSmall_13 : decode cX10_isSmall 13 = .ok (.goto 4, 3) := by decide +kernel
theorem dX10_isSmall_16 : decode cX10_isSmall 16 = .ok (.iconst 0, 1) := by decide +kernel
theorem dX10_isSmall_17 : decode cX10_isSmall 17 = .ok (.ireturn, 1) := by decide +kernel
theorem dX10_isGreat_0 : decode cX10_isGreat 0 = .ok (.iload_n 0, 1) := by decide +kernel
theorem dX10_isGreat_1 : decode cX10_isGreat 1 = .ok (.bipush 65, 2) := by decide +kernel
theorem dX10_isGreat_3 : decode cX10_isGreat 3 = .ok (.if_icmp .lt 13, 3) := by decide +kernel
theorem dX10_isGreat_6 : decode cX10_isGreat 6 = .ok (.iload_n 0, 1) := by decide +kernel
theorem dX10_isGreat_7 : decode cX10_isGreat 7 = .ok (.bipush 90, 2) := by decide +kernel
theorem dX10_isGreat_9 : decode cX10_isGreat 9 = .ok (.if_icmp .gt 7, 3) := by decide +kernel
theorem dX10_isGreat_12 : decode cX10_isGreat 12 = .ok (.iconst 1, 1) := by decide +kernel
theorem dX10_isGreat_13 : decode cX10_isGreat 13 = .ok (.goto 4, 3) := by decide +kernel
theorem dX10_isGreat_16 : decode cX10_isGreat 16 = .ok (.iconst 0, 1) := by decide +kernel
theorem dX10_isGreat_17 : decode cX10_isGreat 17 = .ok (.ireturn, 1) := by decide +kernel
theorem dX10_isDigit_0 : decode cX10_isDigit 0 = .ok (.iload_n 0, 1) := by decide +kernel
theorem dX10_isDigit_1 : decode cX10_isDigit 1 = .ok (.bipush 48, 2) := by decide +kernel
theorem dX10_isDigit_3 : decode cX10_isDigit 3 = .ok (.if_icmp .lt 13, 3) := by decide +kernel
theorem dX10_isDigit_6 : decode cX10_isDigit 6 = .ok (.iload_n 0, 1) := by decide +kernel
theorem dX10_isDigit_7 : decode cX10_isDigit 7 = .ok (.bipush 57, 2) := by decide +kernel
theorem dX10_isDigit_9 : decode cX10_isDigit 9 = .ok (.if_icmp .gt 7, 3) := by decide +kernel
theorem dX10_isDigit_12 : decode cX10_isDigit 12 = .ok (.iconst 1, 1) := by decide +kernel
theorem dX10_isDigit_13 : decode cX10_isDigit 13 = .ok (.goto 4, 3) := by decide +kernel
theorem dX10_isDigit_16 : decode cX10_isDigit 16 = .ok (.iconst 0, 1) := by decide +kernel
theorem dX10_isDigit_17 : decode cX10_isDigit 17 = .ok (.ireturn, 1) := by decide +kernel
set_option maxRecDepth 20000 in
theorem ggX10_next_X10_peek : GoodIn wsX10_next wsX10_peek := goodIn_r _ [10, 1, 11, 12, 16, 17, 18, 19, 20, 21, 22, 23, 24, 25, 26, 27, 28, 29, 30, 31, 32, 33, 34, 35, 36, 37, 38, 39, 40, 41, 42, 43, 44, 45, 46, 47, 48, 49, 50, 51, 52, 53, 54, 55, 56, 57] (by decide +kernel) (by decide +kernel)
set_option maxRecDepth 20000 in
theorem gX10_next_X10_peek : GoodIn wsX10_next (wsV RX10 105 RX10 yX10_peek wsX10_peek) := goodIn_app (goodIn_of _ (by decide +kernel)) ggX10_next_X10_peek
set_option maxRecDepth 20000 in
theorem ggX10_next_X10_isSmall : GoodIn wsX10_next wsX10_isSmall := goodIn_r _ [15] (by decide +kernel) (by decide +kernel)
set_option maxRecDepth 20000 in
theorem gX10_next_X10_isSmall : GoodIn wsX10_next (va_wsS RX10 116 yX10_isSmall wsX10_isSmall) := goodIn_app (goodIn_of _ (by decide +kernel)) ggX10_next_X10_isSmall
theorem dX10_next_0 : decode cX10_next 0 = .ok (.aload_n 0, 1) := by decide +kernel
theorem dX10_next_1 : decode cX10_next 1 = .ok (.invokevirtual 105, 3) := by decide +kernel
theorem dX10_next_4 : decode cX10_next 4 = .ok (.bipush 32, 2) := by decide +kernel
theorem dX10_next_6 : decode cX10_next 6 = .ok (.if_icmp .eq 12, 3) := by decide +kernel
theorem dX10_next_9 : decode cX10_next 9 = .ok (.aload_n 0, 1) := by decide +kernel
theorem dX10_next_10 : decode cX10_next 10 = .ok (.invokevirtual 105, 3) := by decide +kernel
theorem dX10_next_13 : decode cX10_next 13 = .ok (.bipush 10, 2) := by decide +kernel
theorem dX10_next_15 : decode cX10_next 15 = .ok (.if_icmp .ne 16, 3) := by decide +kernel
theorem dX10_next_18 : decode cX10_next 18 = .ok (.aload_n 0, 1) := by decide +kernel
theorem dX10_next_19 : decode cX10_next 19 = .ok (.dup, 1) := by decide +kernel
theorem dX10_next_20 : decode cX10_next 20 = .ok (.getfield 99, 3) := by decide +kernel
theorem dX10_next_23 : decode cX10_next 23 = .ok (.iconst 1, 1) := by decide +kernel
theorem dX10_next_24 : decode cX10_next 24 = .ok (.iadd, 1) := by decide +kernel
theorem dX10_next_25 : decode cX10_next 25 = .ok (.putfield 99, 3) := by decide +kernel
theorem dX10_next_28 : decode cX10_next 28 = .ok (.goto (-28), 3) := by decide +kernel
theorem dX10_next_31 : decode cX10_next 31 = .ok (.aload_n 0, 1) := by decide +kernel
theorem dX10_next_32 : decode cX10_next 32 = .ok (.aload_n 0, 1) := by decide +kernel
theorem dX10_next_33 : decode cX10_next 33 = .ok (.getfield 99, 3) := by decide +kernel
theorem dX10_next_36 : decode cX10_next 36 = .ok (.putfield 109, 3) := by decide +kernel
theorem dX10_next_39 : decode cX10_next 39 = .ok (.aload_n 0, 1) := by decide +kernel
theorem dX10_next_40 : decode cX10_next 40 = .ok (.lconst 0, 1) := by decide +kernel
theorem dX10_next_41 : decode cX10_next 41 = .ok (.putfield 112, 3) := by decide +kernel
theorem dX10_next_44 : decode cX10_next 44 = .ok (.aload_n 0, 1) := by decide +kernel
theorem dX10_next_45 : decode cX10_next 45 = .ok (.invokevirtual 105, 3) := by decide +kernel
theorem dX10_next_48 : decode cX10_next 48 = .ok (.istore_n 1, 1) := by decide +kernel
theorem dX10_next_49 : decode cX10_next 49 = .ok (.iload_n 1, 1) := by decide +kernel
theorem dX10_next_50 : decode cX10_next 50 = .ok (.ifCond .ge 4, 3) := by decide +kernel
theorem dX10_next_53 : decode cX10_next 53 = .ok (.return_, 1) := by decide +kernel
theorem dX10_next_54 : decode cX10_next 54 = .ok (.iload_n 1, 1) := by decide +kernel
theorem dX10_next_55 : decode cX10_next 55 = .ok (.invokestatic 116, 3) := by decide +kernel
theorem dX10_next_58 : decode cX10_next 58 = .ok (.ifCond .ne 33, 3) := by decide +kernel
theorem dX10_next_61 : decode cX10_next 61 = .ok (.aload_n 0, 1) := by decide +kernel
theorem dX10_next_62 : decode cX10_next 62 = .ok (.iload_n 1, 1) := by decide +kernel
theorem dX10_next_63 : decode cX10_next 63 = .ok (.bipush 59, 2) := by decide +kernel
theorem dX10_next_65 : decode cX10_next 65 = .ok (.if_icmp .ne 9, 3) := by decide +kernel
theorem dX10_next_68 : decode cX10_next 68 = .ok (.ldc2_w 120, 3) := by decide +kernel
theorem dX10_next_71 : decode cX10_next 71 = .ok (.goto 6, 3) := by decide +kernel
theorem dX10_next_74 : decode cX10_next 74 = .ok (.ldc2_w 122, 3) := by decide +kernel
theorem dX10_next_77 : decode cX10_next 77 = .ok (.putfield 112, 3) := by decide +kernel
theorem dX10_next_80 : decode cX10_next 80 = .ok (.aload_n 0, 1) := by decide +kernel
theorem dX10_next_81 : decode cX10_next 81 = .ok (.dup, 1) := by decide +kernel
theorem dX10_next_82 : decode cX10_next 82 = .ok (.getfield 99, 3) := by decide +kernel
theorem dX10_next_85 : decode cX10_next 85 = .ok (.iconst 1, 1) := by decide +kernel
theorem dX10_next_86 : decode cX10_next 86 = .ok (.iadd, 1) := by decide +kernel
theorem dX10_next_87 : decode cX10_next 87 = .ok (.putfield 99, 3) := by decide +kernel
theorem dX10_next_90 : decode cX10_next 90 = .ok (.return_, 1) := by decide +kernel
theorem dX10_next_91 : decode cX10_next 91 = .ok (.iconst 0, 1) := by decide +kernel
theorem dX10_next_92 : decode cX10_next 92 = .ok (.istore_n 2, 1) := by decide +kernel
theorem dX10_next_93 : decode cX10_next 93 = .ok (.aload_n 0, 1) := by decide +kernel
theorem dX10_next_94 : decode cX10_next 94 = .ok (.invokevirtual 105, 3) := by decide +kernel
theorem dX10_next_97 : decode cX10_next 97 = .ok (.invokestatic 116, 3) := by decide +kernel
theorem dX10_next_100 : decode cX10_next 100 = .ok (.ifCond .eq 42, 3) := by decide +kernel
theorem dX10_next_103 : decode cX10_next 103 = .ok (.iload_n 2, 1) := by decide +kernel
theorem dX10_next_104 : decode cX10_next 104 = .ok (.bipush 7, 2) := by decide +kernel
theorem dX10_next_106 : decode cX10_next 106 = .ok (.if_icmp .ge 20, 3) := by decide +kernel
theorem dX10_next_109 : decode cX10_next 109 = .ok (.aload_n 0, 1) := by decide +kernel
theorem dX10_next_110 : decode cX10_next 110 = .ok (.aload_n 0, 1) := by decide +kernel
theorem dX10_next_111 : decode cX10_next 111 = .ok (.getfield 112, 3) := by decide +kernel
theorem dX10_next_114 : decode cX10_next 114 = .ok (.bipush 8, 2) := by decide +kernel
theorem dX10_next_116 : decode cX10_next 116 = .ok (.lshl, 1) := by decide +kernel
theorem dX10_next_117 : decode cX10_next 117 = .ok (.aload_n 0, 1) := by decide +kernel
theorem dX10_next_118 : decode cX10_next 118 = .ok (.invokevirtual 105, 3) := by decide +kernel
theorem dX10_next_121 : decode cX10_next 121 = .ok (.i2l, 1) := by decide +kernel
theorem dX10_next_122 : decode cX10_next 122 = .ok (.lor, 1) := by decide +kernel
theorem dX10_next_123 : decode cX10_next 123 = .ok (.putfield 112, 3) := by decide +kernel
theorem dX10_next_126 : decode cX10_next 126 = .ok (.iinc 2 1, 3) := by decide +kernel
theorem dX10_next_129 : decode cX10_next 129 = .ok (.aload_n 0, 1) := by decide +kernel
theorem dX10_next_130 : decode cX10_next 130 = .ok (.dup, 1) := by decide +kernel
theorem dX10_next_131 : decode cX10_next 131 = .ok (.getfield 99, 3) := by decide +kernel
theorem dX10_next_134 : decode cX10_next 134 = .ok (.iconst 1, 1) := by decide +kernel
theorem dX10_next_135 : decode cX10_next 135 = .ok (.iadd, 1) := by decide +kernel
theorem dX10_next_136 : decode cX10_next 136 = .ok (.putfield 99, 3) := by decide +kernel
theorem dX10_next_139 : decode cX10_next 139 = .ok (.goto (-46), 3) := by decide +kernel
theorem dX10_next_142 : decode cX10_next 142 = .ok (.iload_n 2, 1) := by decide +kernel
theorem dX10_next_143 : decode cX10_next 143 = .ok (.bipush 7, 2) := by decide +kernel
theorem dX10_next_145 : decode cX10_next 145 = .ok (.if_icmp .gt 8, 3) := by decide +kernel
theorem dX10_next_148 : decode cX10_next 148 = .ok (.iload_n 2, 1) := by decide +kernel
theorem dX10_next_149 : decode cX10_next 149 = .ok (.iconst 2, 1) := by decide +kernel
theorem dX10_next_150 : decode cX10_next 150 = .ok (.if_icmp .ge 8, 3) := by decide +kernel
theorem dX10_next_153 : decode cX10_next 153 = .ok (.aload_n 0, 1) := by decide +kernel
theorem dX10_next_154 : decode cX10_next 154 = .ok (.lconst 1, 1) := by decide +kernel
theorem dX10_next_155 : decode cX10_next 155 = .ok (.putfield 112, 3) := by decide +kernel
theorem dX10_next_158 : decode cX10_next 158 = .ok (.return_, 1) := by decide +kernel
set_option maxRecDepth 20000 in
theorem ggX10_cant_X10_wrong : GoodIn wsX10_cant wsX10_wrong := goodIn_r _ [8, 9, 10, 11, 12, 13, 14, 15, 16, 17, 18, 19, 20, 21, 22, 23, 24, 25, 26, 27, 28, 29, 30, 31, 32, 33, 34, 35, 36, 37, 38, 39, 40, 41, 42, 43, 44, 45, 46, 47, 48, 49, 50, 51, 52] (by decide +kernel) (by decide +kernel)
set_option maxRecDepth 20000 in
theorem gX10_cant_X10_wrong : GoodIn wsX10_cant (wsV RX10 124 RX10 yX10_wrong wsX10_wrong) := goodIn_app (goodIn_of _ (by decide +kernel)) ggX10_cant_X10_wrong
theorem dX10_cant_0 : decode cX10_cant 0 = .ok (.aload_n 0, 1) := by decide +kernel
theorem dX10_cant_1 : decode cX10_cant 1 = .ok (.aload_n 0, 1) := by decide +kernel
theorem dX10_cant_2 : decode cX10_cant 2 = .ok (.getfield 112, 3) := by decide +kernel
theorem dX10_cant_5 : decode cX10_cant 5 = .ok (.ldc2_w 122, 3) := by decide +kernel
theorem dX10_cant_8 : decode cX10_cant 8 = .ok (.lcmp, 1) := by decide +kernel
theorem dX10_cant_9 : decode cX10_cant 9 = .ok (.ifCond .ne 7, 3) := by decide +kernel
theorem dX10_cant_12 : decode cX10_cant 12 = .ok (.iconst 1, 1) := by decide +kernel
theorem dX10_cant_13 : decode cX10_cant 13 = .ok (.goto 4, 3) := by decide +kernel
theorem dX10_cant_16 : decode cX10_cant 16 = .ok (.iconst 2, 1) := by decide +kernel
theorem dX10_cant_17 : decode cX10_cant 17 = .ok (.aload_n 0, 1) := by decide +kernel
theorem dX10_cant_18 : decode cX10_cant 18 = .ok (.getfield 109, 3) := by decide +kernel
theorem dX10_cant_21 : decode cX10_cant 21 = .ok (.invokevirtual 124, 3) := by decide +kernel
theorem dX10_cant_24 : decode cX10_cant 24 = .ok (.ireturn, 1) := by decide +kernel
theorem dX10_formOf_0 : decode cX10_formOf 0 = .ok (.aload_n 0, 1) := by decide +kernel
theorem dX10_formOf_1 : decode cX10_formOf 1 = .ok (.getfield 112, 3) := by decide +kernel
theorem dX10_formOf_4 : decode cX10_formOf 4 = .ok (.ldc2_w 128, 3) := by decide +kernel
theorem dX10_formOf_7 : decode cX10_formOf 7 = .ok (.lcmp, 1) := by decide +kernel
theorem dX10_formOf_8 : decode cX10_formOf 8 = .ok (.ifCond .ne 7, 3) := by decide +kernel
theorem dX10_formOf_11 : decode cX10_formOf 11 = .ok (.iconst 0, 1) := by decide +kernel
theorem dX10_formOf_12 : decode cX10_formOf 12 = .ok (.goto 49, 3) := by decide +kernel
theorem dX10_formOf_15 : decode cX10_formOf 15 = .ok (.aload_n 0, 1) := by decide +kernel
theorem dX10_formOf_16 : decode cX10_formOf 16 = .ok (.getfield 112, 3) := by decide +kernel
theorem dX10_formOf_19 : decode cX10_formOf 19 = .ok (.ldc2_w 130, 3) := by decide +kernel
theorem dX10_formOf_22 : decode cX10_formOf 22 = .ok (.lcmp, 1) := by decide +kernel
theorem dX10_formOf_23 : decode cX10_formOf 23 = .ok (.ifCond .ne 7, 3) := by decide +kernel
theorem dX10_formOf_26 : decode cX10_formOf 26 = .ok (.iconst 1, 1) := by decide +kernel
theorem dX10_formOf_27 : decode cX10_formOf 27 = .ok (.goto 34, 3) := by decide +kernel
theorem dX10_formOf_30 : decode cX10_formOf 30 = .ok (.aload_n 0, 1) := by decide +kernel
theorem dX10_formOf_31 : decode cX10_formOf 31 = .ok (.getfield 112, 3) := by decide +kernel
theorem dX10_formOf_34 : decode cX10_formOf 34 = .ok (.ldc2_w 132, 3) := by decide +kernel
theorem dX10_formOf_37 : decode cX10_formOf 37 = .ok (.lcmp, 1) := by decide +kernel
theorem dX10_formOf_38 : decode cX10_formOf 38 = .ok (.ifCond .ne 7, 3) := by decide +kernel
theorem dX10_formOf_41 : decode cX10_formOf 41 = .ok (.iconst 2, 1) := by decide +kernel
theorem dX10_formOf_42 : decode cX10_formOf 42 = .ok (.goto 19, 3) := by decide +kernel
theorem dX10_formOf_45 : decode cX10_formOf 45 = .ok (.aload_n 0, 1) := by decide +kernel
theorem dX10_formOf_46 : decode cX10_formOf 46 = .ok (.getfield 112, 3) := by decide +kernel
theorem dX10_formOf_49 : decode cX10_formOf 49 = .ok (.ldc2_w 134, 3) := by decide +kernel
theorem dX10_formOf_52 : decode cX10_formOf 52 = .ok (.lcmp, 1) := by decide +kernel
theorem dX10_formOf_53 : decode cX10_formOf 53 = .ok (.ifCond .ne 7, 3) := by decide +kernel
theorem dX10_formOf_56 : decode cX10_formOf 56 = .ok (.iconst 3, 1) := by decide +kernel
theorem dX10_formOf_57 : decode cX10_formOf 57 = .ok (.goto 4, 3) := by decide +kernel
theorem dX10_formOf_60 : decode cX10_formOf 60 = .ok (.iconst (-1), 1) := by decide +kernel
theorem dX10_formOf_61 : decode cX10_formOf 61 = .ok (.ireturn, 1) := by decide +kernel
set_option maxRecDepth 20000 in
theorem ggX10_readLevels_X10_next : GoodIn wsX10_readLevels wsX10_next := goodIn_r _ [12, 13, 3, 2, 7, 14, 15, 16, 17, 11, 18, 19, 20, 21, 22, 23, 42, 43, 44, 45, 46, 47, 48, 49, 50, 51, 52, 53, 54, 55, 56, 57, 58, 59, 60, 61, 62, 63, 64, 65, 66, 67, 68, 69, 70, 71, 72, 73, 74, 75, 76, 77, 78, 79, 80, 81, 82, 83] (by decide +kernel) (by decide +kernel)
set_option maxRecDepth 20000 in
theorem gX10_readLevels_X10_next : GoodIn wsX10_readLevels (wsV RX10 139 RX10 yX10_next wsX10_next) := goodIn_app (goodIn_of _ (by decide +kernel)) ggX10_readLevels_X10_next
set_option maxRecDepth 20000 in
theorem ggX10_readLevels_X10_formOf : GoodIn wsX10_readLevels wsX10_formOf := goodIn_r _ [27, 2, 28, 29, 30, 31, 42, 43, 44, 45, 46, 47, 48, 49, 50, 51, 52, 53, 54, 55, 56, 57, 58, 59, 60, 61, 62, 63, 64, 65, 66, 67, 68, 69, 70, 71, 72, 73, 74, 75, 76, 77, 78, 79, 80, 81, 82, 83] (by decide +kernel) (by decide +kernel)
set_option maxRecDepth 20000 in
theorem gX10_readLevels_X10_formOf : GoodIn wsX10_readLevels (wsV RX10 142 RX10 yX10_formOf wsX10_formOf) := goodIn_app (goodIn_of _ (by decide +kernel)) ggX10_readLevels_X10_formOf
set_option maxRecDepth 20000 in
theorem ggX10_readLevels_X10_cant : GoodIn wsX10_readLevels wsX10_cant := goodIn_r _ [35, 2, 14, 3, 36, 37, 38, 11, 39, 40, 41, 42, 43, 44, 45, 46, 47, 48, 49, 50, 51, 52, 53, 54, 55, 56, 57, 58, 59, 60, 61, 62, 63, 64, 65, 66, 67, 68, 69, 70, 71, 72, 73, 74, 75, 76, 77, 78, 79, 80, 81, 82, 83] (by decide +kernel) (by decide +kernel)
set_option maxRecDepth 20000 in
theorem gX10_readLevels_X10_cant : GoodIn wsX10_readLevels (wsV RX10 145 RX10 yX10_cant wsX10_cant) := goodIn_app (goodIn_of _ (by decide +kernel)) ggX10_readLevels_X10_cant
set_option maxRecDepth 20000 in
theorem ggX10_readLevels_X10_wrong : GoodIn wsX10_readLevels wsX10_wrong := goodIn_r _ [39, 40, 41, 42, 43, 44, 45, 46, 47, 48, 49, 50, 51, 52, 53, 54, 55, 56, 57, 58, 59, 60, 61, 62, 63, 64, 65, 66, 67, 68, 69, 70, 71, 72, 73, 74, 75, 76, 77, 78, 79, 80, 81, 82, 83] (by decide +kernel) (by decide +kernel)
set_option maxRecDepth 20000 in
theorem gX10_readLevels_X10_wrong : GoodIn wsX10_readLevels (wsV RX10 124 RX10 yX10_wrong wsX10_wrong) := goodIn_app (goodIn_of _ (by decide +kernel)) ggX10_readLevels_X10_wrong
theorem dX10_readLevels_0 : decode cX10_readLevels 0 = .ok (.aload_n 0, 1) := by decide +kernel
theorem dX10_readLevels_1 : decode cX10_readLevels 1 = .ok (.iconst 0, 1) := by decide +kernel
theorem dX10_readLevels_2 : decode cX10_readLevels 2 = .ok (.putfield 136, 3) := by decide +kernel
theorem dX10_readLevels_5 : decode cX10_readLevels 5 = .ok (.aload_n 0, 1) := by decide +kernel
theorem dX10_readLevels_6 : decode cX10_readLevels 6 = .ok (.invokevirtual 139, 3) := by decide +kernel
theorem dX10_readLevels_9 : decode cX10_readLevels 9 = .ok (.aload_n 0, 1) := by decide +kernel
theorem dX10_readLevels_10 : decode cX10_readLevels 10 = .ok (.getfield 112, 3) := by decide +kernel
theorem dX10_readLevels_13 : decode cX10_readLevels 13 = .ok (.lconst 0, 1) := by decide +kernel
theorem dX10_readLevels_14 : decode cX10_readLevels 14 = .ok (.lcmp, 1) := by decide +kernel
theorem dX10_readLevels_15 : decode cX10_readLevels 15 = .ok (.ifCond .ne 10, 3) := by decide +kernel
theorem dX10_readLevels_18 : decode cX10_readLevels 18 = .ok (.aload_n 0, 1) := by decide +kernel
theorem dX10_readLevels_19 : decode cX10_readLevels 19 = .ok (.getfield 136, 3) := by decide +kernel
theorem dX10_readLevels_22 : decode cX10_readLevels 22 = .ok (.ifCond .ne 123, 3) := by decide +kernel
theorem dX10_readLevels_25 : decode cX10_readLevels 25 = .ok (.aload_n 0, 1) := by decide +kernel
theorem dX10_readLevels_26 : decode cX10_readLevels 26 = .ok (.invokevirtual 142, 3) := by decide +kernel
theorem dX10_readLevels_29 : decode cX10_readLevels 29 = .ok (.istore_n 1, 1) := by decide +kernel
theorem dX10_readLevels_30 : decode cX10_readLevels 30 = .ok (.iload_n 1, 1) := by decide +kernel
theorem dX10_readLevels_31 : decode cX10_readLevels 31 = .ok (.ifCond .ge 8, 3) := by decide +kernel
theorem dX10_readLevels_34 : decode cX10_readLevels 34 = .ok (.aload_n 0, 1) := by decide +kernel
theorem dX10_readLevels_35 : decode cX10_readLevels 35 = .ok (.invokevirtual 145, 3) := by decide +kernel
theorem dX10_readLevels_38 : decode cX10_readLevels 38 = .ok (.ireturn, 1) := by decide +kernel
theorem dX10_readLevels_39 : decode cX10_readLevels 39 = .ok (.aload_n 0, 1) := by decide +kernel
theorem dX10_readLevels_40 : decode cX10_readLevels 40 = .ok (.getfield 136, 3) := by decide +kernel
theorem dX10_readLevels_43 : decode cX10_readLevels 43 = .ok (.iconst 4, 1) := by decide +kernel
theorem dX10_readLevels_44 : decode cX10_readLevels 44 = .ok (.if_icmp .ne 13, 3) := by decide +kernel
theorem dX10_readLevels_47 : decode cX10_readLevels 47 = .ok (.aload_n 0, 1) := by decide +kernel
theorem dX10_readLevels_48 : decode cX10_readLevels 48 = .ok (.iconst 3, 1) := by decide +kernel
theorem dX10_readLevels_49 : decode cX10_readLevels 49 = .ok (.aload_n 0, 1) := by decide +kernel
theorem dX10_readLevels_50 : decode cX10_readLevels 50 = .ok (.getfield 109, 3) := by decide +kernel
theorem dX10_readLevels_53 : decode cX10_readLevels 53 = .ok (.invokevirtual 124, 3) := by decide +kernel
theorem dX10_readLevels_56 : decode cX10_readLevels 56 = .ok (.ireturn, 1) := by decide +kernel
theorem dX10_readLevels_57 : decode cX10_readLevels 57 = .ok (.aload_n 0, 1) := by decide +kernel
theorem dX10_readLevels_58 : decode cX10_readLevels 58 = .ok (.invokevirtual 139, 3) := by decide +kernel
theorem dX10_readLevels_61 : decode cX10_readLevels 61 = .ok (.aload_n 0, 1) := by decide +kernel
theorem dX10_readLevels_62 : decode cX10_readLevels 62 = .ok (.getfield 17, 3) := by decide +kernel
theorem dX10_readLevels_65 : decode cX10_readLevels 65 = .ok (.aload_n 0, 1) := by decide +kernel
theorem dX10_readLevels_66 : decode cX10_readLevels 66 = .ok (.getfield 136, 3) := by decide +kernel
theorem dX10_readLevels_69 : decode cX10_readLevels 69 = .ok (.iload_n 1, 1) := by decide +kernel
theorem dX10_readLevels_70 : decode cX10_readLevels 70 = .ok (.iastore, 1) := by decide +kernel
theorem dX10_readLevels_71 : decode cX10_readLevels 71 = .ok (.aload_n 0, 1) := by decide +kernel
theorem dX10_readLevels_72 : decode cX10_readLevels 72 = .ok (.getfield 24, 3) := by decide +kernel
theorem dX10_readLevels_75 : decode cX10_readLevels 75 = .ok (.aload_n 0, 1) := by decide +kernel
theorem dX10_readLevels_76 : decode cX10_readLevels 76 = .ok (.getfield 136, 3) := by decide +kernel
theorem dX10_readLevels_79 : decode cX10_readLevels 79 = .ok (.aload_n 0, 1) := by decide +kernel
theorem dX10_readLevels_80 : decode cX10_readLevels 80 = .ok (.getfield 112, 3) := by decide +kernel
theorem dX10_readLevels_83 : decode cX10_readLevels 83 = .ok (.ldc2_w 149, 3) := by decide +kernel
theorem dX10_readLevels_86 : decode cX10_readLevels 86 = .ok (.lcmp, 1) := by decide +kernel
theorem dX10_readLevels_87 : decode cX10_readLevels 87 = .ok (.ifCond .ne 7, 3) := by decide +kernel
theorem dX10_readLevels_90 : decode cX10_readLevels 90 = .ok (.iconst 1, 1) := by decide +kernel
theorem dX10_readLevels_91 : decode cX10_readLevels 91 = .ok (.goto 4, 3) := by decide +kernel
theorem dX10_readLevels_94 : decode cX10_readLevels 94 = .ok (.iconst 0, 1) := by decide +kernel
theorem dX10_readLevels_95 : decode cX10_readLevels 95 = .ok (.bastore, 1) := by decide +kernel
theorem dX10_readLevels_96 : decode cX10_readLevels 96 = .ok (.aload_n 0, 1) := by decide +kernel
theorem dX10_readLevels_97 : decode cX10_readLevels 97 = .ok (.getfield 24, 3) := by decide +kernel
theorem dX10_readLevels_100 : decode cX10_readLevels 100 = .ok (.aload_n 0, 1) := by decide +kernel
theorem dX10_readLevels_101 : decode cX10_readLevels 101 = .ok (.getfield 136, 3) := by decide +kernel
theorem dX10_readLevels_104 : decode cX10_readLevels 104 = .ok (.baload, 1) := by decide +kernel
theorem dX10_readLevels_105 : decode cX10_readLevels 105 = .ok (.ifCond .eq 7, 3) := by decide +kernel
theorem dX10_readLevels_108 : decode cX10_readLevels 108 = .ok (.aload_n 0, 1) := by decide +kernel
theorem dX10_readLevels_109 : decode cX10_readLevels 109 = .ok (.invokevirtual 139, 3) := by decide +kernel
theorem dX10_readLevels_112 : decode cX10_readLevels 112 = .ok (.aload_n 0, 1) := by decide +kernel
theorem dX10_readLevels_113 : decode cX10_readLevels 113 = .ok (.getfield 112, 3) := by decide +kernel
theorem dX10_readLevels_116 : decode cX10_readLevels 116 = .ok (.ldc2_w 120, 3) := by decide +kernel
theorem dX10_readLevels_119 : decode cX10_readLevels 119 = .ok (.lcmp, 1) := by decide +kernel
theorem dX10_readLevels_120 : decode cX10_readLevels 120 = .ok (.ifCond .eq 8, 3) := by decide +kernel
theorem dX10_readLevels_123 : decode cX10_readLevels 123 = .ok (.aload_n 0, 1) := by decide +kernel
theorem dX10_readLevels_124 : decode cX10_readLevels 124 = .ok (.invokevirtual 145, 3) := by decide +kernel
theorem dX10_readLevels_127 : decode cX10_readLevels 127 = .ok (.ireturn, 1) := by decide +kernel
theorem dX10_readLevels_128 : decode cX10_readLevels 128 = .ok (.aload_n 0, 1) := by decide +kernel
theorem dX10_readLevels_129 : decode cX10_readLevels 129 = .ok (.dup, 1) := by decide +kernel
theorem dX10_readLevels_130 : decode cX10_readLevels 130 = .ok (.getfield 136, 3) := by decide +kernel
theorem dX10_readLevels_133 : decode cX10_readLevels 133 = .ok (.iconst 1, 1) := by decide +kernel
theorem dX10_readLevels_134 : decode cX10_readLevels 134 = .ok (.iadd, 1) := by decide +kernel
theorem dX10_readLevels_135 : decode cX10_readLevels 135 = .ok (.putfield 136, 3) := by decide +kernel
theorem dX10_readLevels_138 : decode cX10_readLevels 138 = .ok (.aload_n 0, 1) := by decide +kernel
theorem dX10_readLevels_139 : decode cX10_readLevels 139 = .ok (.invokevirtual 139, 3) := by decide +kernel
theorem dX10_readLevels_142 : decode cX10_readLevels 142 = .ok (.goto (-133), 3) := by decide +kernel
theorem dX10_readLevels_145 : decode cX10_readLevels 145 = .ok (.iconst 1, 1) := by decide +kernel
theorem dX10_readLevels_146 : decode cX10_readLevels 146 = .ok (.ireturn, 1) := by decide +kernel
set_option maxRecDepth 20000 in
theorem ggX10_levels_X10_taken : GoodIn wsX10_levels wsX10_taken := goodIn_r _ [18, 19, 20, 21, 59, 60, 61, 62, 63, 64, 65, 66, 67, 68, 69, 70, 71, 72, 73, 74, 75, 76, 77, 78, 79, 80, 81, 82, 83, 84, 85, 86, 87, 88, 89, 90, 91, 92, 93, 94, 95, 96, 97, 98, 99, 100] (by decide +kernel) (by decide +kernel)
set_option maxRecDepth 20000 in
theorem gX10_levels_X10_taken : GoodIn wsX10_levels (wsV RX10 151 RX10 yX10_taken wsX10_taken) := goodIn_app (goodIn_of _ (by decide +kernel)) ggX10_levels_X10_taken
set_option maxRecDepth 20000 in
theorem ggX10_levels_X10_readLevels : GoodIn wsX10_levels wsX10_readLevels := goodIn_r _ [25, 4, 26, 27, 7, 9, 28, 29, 30, 31, 32, 17, 33, 21, 34, 35, 36, 37, 38, 20, 39, 40, 41, 42, 43, 44, 45, 46, 47, 48, 49, 50, 51, 52, 53, 54, 55, 56, 57, 58, 2, 3, 59, 60, 61, 62, 63, 64, 65, 66, 67, 68, 69, 70, 71, 72, 73, 74, 75, 76, 77, 78, 79, 80, 81, 82, 83, 84, 85, 86, 87, 88, 89, 90, 91, 92, 93, 94, 95, 96, 97, 98, 99, 100] (by decide +kernel) (by decide +kernel)
set_option maxRecDepth 20000 in
theorem gX10_levels_X10_readLevels : GoodIn wsX10_levels (wsV RX10 154 RX10 yX10_readLevels wsX10_readLevels) := goodIn_app (goodIn_of _ (by decide +kernel)) ggX10_levels_X10_readLevels
theorem dX10_levels_0 : decode cX10_levels 0 = .ok (.aload_n 0, 1) := by decide +kernel
theorem dX10_levels_1 : decode cX10_levels 1 = .ok (.iconst 0, 1) := by decide +kernel
theorem dX10_levels_2 : decode cX10_levels 2 = .ok (.putfield 86, 3) := by decide +kernel
theorem dX10_levels_5 : decode cX10_levels 5 = .ok (.aload_n 0, 1) := by decide +kernel
theorem dX10_levels_6 : decode cX10_levels 6 = .ok (.invokevirtual 151, 3) := by decide +kernel
theorem dX10_levels_9 : decode cX10_levels 9 = .ok (.aload_n 0, 1) := by decide +kernel
theorem dX10_levels_10 : decode cX10_levels 10 = .ok (.iconst 0, 1) := by decide +kernel
theorem dX10_levels_11 : decode cX10_levels 11 = .ok (.putfield 102, 3) := by decide +kernel
theorem dX10_levels_14 : decode cX10_levels 14 = .ok (.aload_n 0, 1) := by decide +kernel
theorem dX10_levels_15 : decode cX10_levels 15 = .ok (.iconst (-1), 1) := by decide +kernel
theorem dX10_levels_16 : decode cX10_levels 16 = .ok (.putfield 31, 3) := by decide +kernel
theorem dX10_levels_19 : decode cX10_levels 19 = .ok (.aload_n 0, 1) := by decide +kernel
theorem dX10_levels_20 : decode cX10_levels 20 = .ok (.invokevirtual 154, 3) := by decide +kernel
theorem dX10_levels_23 : decode cX10_levels 23 = .ok (.ifCond .ne 10, 3) := by decide +kernel
theorem dX10_levels_26 : decode cX10_levels 26 = .ok (.iconst (-1), 1) := by decide +kernel
theorem dX10_levels_27 : decode cX10_levels 27 = .ok (.aload_n 0, 1) := by decide +kernel
theorem dX10_levels_28 : decode cX10_levels 28 = .ok (.getfield 31, 3) := by decide +kernel
theorem dX10_levels_31 : decode cX10_levels 31 = .ok (.isub, 1) := by decide +kernel
theorem dX10_levels_32 : decode cX10_levels 32 = .ok (.ireturn, 1) := by decide +kernel
theorem dX10_levels_33 : decode cX10_levels 33 = .ok (.aload_n 0, 1) := by decide +kernel
theorem dX10_levels_34 : decode cX10_levels 34 = .ok (.aload_n 0, 1) := by decide +kernel
theorem dX10_levels_35 : decode cX10_levels 35 = .ok (.getfield 136, 3) := by decide +kernel
theorem dX10_levels_38 : decode cX10_levels 38 = .ok (.putfield 27, 3) := by decide +kernel
theorem dX10_levels_41 : decode cX10_levels 41 = .ok (.iconst 0, 1) := by decide +kernel
theorem dX10_levels_42 : decode cX10_levels 42 = .ok (.istore_n 1, 1) := by decide +kernel
theorem dX10_levels_43 : decode cX10_levels 43 = .ok (.iload_n 1, 1) := by decide +kernel
theorem dX10_levels_44 : decode cX10_levels 44 = .ok (.aload_n 0, 1) := by decide +kernel
theorem dX10_levels_45 : decode cX10_levels 45 = .ok (.getfield 27, 3) := by decide +kernel
theorem dX10_levels_48 : decode cX10_levels 48 = .ok (.if_icmp .ge 33, 3) := by decide +kernel
theorem dX10_levels_51 : decode cX10_levels 51 = .ok (.aload_n 0, 1) := by decide +kernel
theorem dX10_levels_52 : decode cX10_levels 52 = .ok (.getfield 13, 3) := by decide +kernel
theorem dX10_levels_55 : decode cX10_levels 55 = .ok (.iload_n 1, 1) := by decide +kernel
theorem dX10_levels_56 : decode cX10_levels 56 = .ok (.aload_n 0, 1) := by decide +kernel
theorem dX10_levels_57 : decode cX10_levels 57 = .ok (.getfield 17, 3) := by decide +kernel
theorem dX10_levels_60 : decode cX10_levels 60 = .ok (.iload_n 1, 1) := by decide +kernel
theorem dX10_levels_61 : decode cX10_levels 61 = .ok (.iaload, 1) := by decide +kernel
theorem dX10_levels_62 : decode cX10_levels 62 = .ok (.iastore, 1) := by decide +kernel
theorem dX10_levels_63 : decode cX10_levels 63 = .ok (.aload_n 0, 1) := by decide +kernel
theorem dX10_levels_64 : decode cX10_levels 64 = .ok (.getfield 20, 3) := by decide +kernel
theorem dX10_levels_67 : decode cX10_levels 67 = .ok (.iload_n 1, 1) := by decide +kernel
theorem dX10_levels_68 : decode cX10_levels 68 = .ok (.aload_n 0, 1) := by decide +kernel
theorem dX10_levels_69 : decode cX10_levels 69 = .ok (.getfield 24, 3) := by decide +kernel
theorem dX10_levels_72 : decode cX10_levels 72 = .ok (.iload_n 1, 1) := by decide +kernel
theorem dX10_levels_73 : decode cX10_levels 73 = .ok (.baload, 1) := by decide +kernel
theorem dX10_levels_74 : decode cX10_levels 74 = .ok (.bastore, 1) := by decide +kernel
theorem dX10_levels_75 : decode cX10_levels 75 = .ok (.iinc 1 1, 3) := by decide +kernel
theorem dX10_levels_78 : decode cX10_levels 78 = .ok (.goto (-35), 3) := by decide +kernel
theorem dX10_levels_81 : decode cX10_levels 81 = .ok (.aload_n 0, 1) := by decide +kernel
theorem dX10_levels_82 : decode cX10_levels 82 = .ok (.iconst 0, 1) := by decide +kernel
theorem dX10_levels_83 : decode cX10_levels 83 = .ok (.putfield 157, 3) := by decide +kernel
theorem dX10_levels_86 : decode cX10_levels 86 = .ok (.aload_n 0, 1) := by decide +kernel
theorem dX10_levels_87 : decode cX10_levels 87 = .ok (.iconst 0, 1) := by decide +kernel
theorem dX10_levels_88 : decode cX10_levels 88 = .ok (.putfield 160, 3) := by decide +kernel
theorem dX10_levels_91 : decode cX10_levels 91 = .ok (.aload_n 0, 1) := by decide +kernel
theorem dX10_levels_92 : decode cX10_levels 92 = .ok (.iconst 0, 1) := by decide +kernel
theorem dX10_levels_93 : decode cX10_levels 93 = .ok (.putfield 163, 3) := by decide +kernel
theorem dX10_levels_96 : decode cX10_levels 96 = .ok (.aload_n 0, 1) := by decide +kernel
theorem dX10_levels_97 : decode cX10_levels 97 = .ok (.iconst 0, 1) := by decide +kernel
theorem dX10_levels_98 : decode cX10_levels 98 = .ok (.putfield 166, 3) := by decide +kernel
theorem dX10_levels_101 : decode cX10_levels 101 = .ok (.aload_n 0, 1) := by decide +kernel
theorem dX10_levels_102 : decode cX10_levels 102 = .ok (.getfield 27, 3) := by decide +kernel
theorem dX10_levels_105 : decode cX10_levels 105 = .ok (.ireturn, 1) := by decide +kernel
theorem dX10_fault_0 : decode cX10_fault 0 = .ok (.aload_n 0, 1) := by decide +kernel
theorem dX10_fault_1 : decode cX10_fault 1 = .ok (.iconst 0, 1) := by decide +kernel
theorem dX10_fault_2 : decode cX10_fault 2 = .ok (.putfield 86, 3) := by decide +kernel
theorem dX10_fault_5 : decode cX10_fault 5 = .ok (.aload_n 0, 1) := by decide +kernel
theorem dX10_fault_6 : decode cX10_fault 6 = .ok (.getfield 102, 3) := by decide +kernel
theorem dX10_fault_9 : decode cX10_fault 9 = .ok (.ireturn, 1) := by decide +kernel
theorem dX10_place_0 : decode cX10_place 0 = .ok (.aload_n 0, 1) := by decide +kernel
theorem dX10_place_1 : decode cX10_place 1 = .ok (.iconst 0, 1) := by decide +kernel
theorem dX10_place_2 : decode cX10_place 2 = .ok (.putfield 86, 3) := by decide +kernel
theorem dX10_place_5 : decode cX10_place 5 = .ok (.aload_n 0, 1) := by decide +kernel
theorem dX10_place_6 : decode cX10_place 6 = .ok (.getfield 31, 3) := by decide +kernel
theorem dX10_place_9 : decode cX10_place 9 = .ok (.ireturn, 1) := by decide +kernel
theorem dX10_isItem_0 : decode cX10_isItem 0 = .ok (.iload_n 1, 1) := by decide +kernel
theorem dX10_isItem_1 : decode cX10_isItem 1 = .ok (.ifCond .lt 15, 3) := by decide +kernel
theorem dX10_isItem_4 : decode cX10_isItem 4 = .ok (.iload_n 1, 1) := by decide +kernel
theorem dX10_isItem_5 : decode cX10_isItem 5 = .ok (.aload_n 0, 1) := by decide +kernel
theorem dX10_isItem_6 : decode cX10_isItem 6 = .ok (.getfield 157, 3) := by decide +kernel
theorem dX10_isItem_9 : decode cX10_isItem 9 = .ok (.if_icmp .ge 7, 3) := by decide +kernel
theorem dX10_isItem_12 : decode cX10_isItem 12 = .ok (.iconst 1, 1) := by decide +kernel
theorem dX10_isItem_13 : decode cX10_isItem 13 = .ok (.goto 4, 3) := by decide +kernel
theorem dX10_isItem_16 : decode cX10_isItem 16 = .ok (.iconst 0, 1) := by decide +kernel
theorem dX10_isItem_17 : decode cX10_isItem 17 = .ok (.ireturn, 1) := by decide +kernel
theorem dX10_placeOf_0 : decode cX10_placeOf 0 = .ok (.iconst 0, 1) := by decide +kernel
theorem dX10_placeOf_1 : decode cX10_placeOf 1 = .ok (.istore_n 2, 1) := by decide +kernel
theorem dX10_placeOf_2 : decode cX10_placeOf 2 = .ok (.aload_n 0, 1) := by decide +kernel
theorem dX10_placeOf_3 : decode cX10_placeOf 3 = .ok (.getfield 43, 3) := by decide +kernel
theorem dX10_placeOf_6 : decode cX10_placeOf 6 = .ok (.iload_n 2, 1) := by decide +kernel
theorem dX10_placeOf_7 : decode cX10_placeOf 7 = .ok (.iaload, 1) := by decide +kernel
theorem dX10_placeOf_8 : decode cX10_placeOf 8 = .ok (.iload_n 1, 1) := by decide +kernel
theorem dX10_placeOf_9 : decode cX10_placeOf 9 = .ok (.if_icmp .eq 9, 3) := by decide +kernel
theorem dX10_placeOf_12 : decode cX10_placeOf 12 = .ok (.iinc 2 1, 3) := by decide +kernel
theorem dX10_placeOf_15 : decode cX10_placeOf 15 = .ok (.goto (-13), 3) := by decide +kernel
theorem dX10_placeOf_18 : decode cX10_placeOf 18 = .ok (.iload_n 2, 1) := by decide +kernel
theorem dX10_placeOf_19 : decode cX10_placeOf 19 = .ok (.ireturn, 1) := by decide +kernel
theorem dX10_isUnder_0 : decode cX10_isUnder 0 = .ok (.aload_n 0, 1) := by decide +kernel
theorem dX10_isUnder_1 : decode cX10_isUnder 1 = .ok (.getfield 37, 3) := by decide +kernel
theorem dX10_isUnder_4 : decode cX10_isUnder 4 = .ok (.iload_n 1, 1) := by decide +kernel
theorem dX10_isUnder_5 : decode cX10_isUnder 5 = .ok (.iaload, 1) := by decide +kernel
theorem dX10_isUnder_6 : decode cX10_isUnder 6 = .ok (.istore_n 3, 1) := by decide +kernel
theorem dX10_isUnder_7 : decode cX10_isUnder 7 = .ok (.iload_n 3, 1) := by decide +kernel
theorem dX10_isUnder_8 : decode cX10_isUnder 8 = .ok (.ifCond .lt 18, 3) := by decide +kernel
theorem dX10_isUnder_11 : decode cX10_isUnder 11 = .ok (.iload_n 3, 1) := by decide +kernel
theorem dX10_isUnder_12 : decode cX10_isUnder 12 = .ok (.iload_n 2, 1) := by decide +kernel
theorem dX10_isUnder_13 : decode cX10_isUnder 13 = .ok (.if_icmp .eq 13, 3) := by decide +kernel
theorem dX10_isUnder_16 : decode cX10_isUnder 16 = .ok (.aload_n 0, 1) := by decide +kernel
theorem dX10_isUnder_17 : decode cX10_isUnder 17 = .ok (.getfield 37, 3) := by decide +kernel
theorem dX10_isUnder_20 : decode cX10_isUnder 20 = .ok (.iload_n 3, 1) := by decide +kernel
theorem dX10_isUnder_21 : decode cX10_isUnder 21 = .ok (.iaload, 1) := by decide +kernel
theorem dX10_isUnder_22 : decode cX10_isUnder 22 = .ok (.istore_n 3, 1) := by decide +kernel
theorem dX10_isUnder_23 : decode cX10_isUnder 23 = .ok (.goto (-16), 3) := by decide +kernel
theorem dX10_isUnder_26 : decode cX10_isUnder 26 = .ok (.iload_n 3, 1) := by decide +kernel
theorem dX10_isUnder_27 : decode cX10_isUnder 27 = .ok (.iload_n 2, 1) := by decide +kernel
theorem dX10_isUnder_28 : decode cX10_isUnder 28 = .ok (.if_icmp .ne 7, 3) := by decide +kernel
theorem dX10_isUnder_31 : decode cX10_isUnder 31 = .ok (.iconst 1, 1) := by decide +kernel
theorem dX10_isUnder_32 : decode cX10_isUnder 32 = .ok (.goto 4, 3) := by decide +kernel
theorem dX10_isUnder_35 : decode cX10_isUnder 35 = .ok (.iconst 0, 1) := by decide +kernel
theorem dX10_isUnder_36 : decode cX10_isUnder 36 = .ok (.ireturn, 1) := by decide +kernel
theorem dX10_isInRow_0 : decode cX10_isInRow 0 = .ok (.aload_n 0, 1) := by decide +kernel
theorem dX10_isInRow_1 : decode cX10_isInRow 1 = .ok (.getfield 34, 3) := by decide +kernel
theorem dX10_isInRow_4 : decode cX10_isInRow 4 = .ok (.iload_n 1, 1) := by decide +kernel
theorem dX10_isInRow_5 : decode cX10_isInRow 5 = .ok (.iaload, 1) := by decide +kernel
theorem dX10_isInRow_6 : decode cX10_isInRow 6 = .ok (.aload_n 0, 1) := by decide +kernel
theorem dX10_isInRow_7 : decode cX10_isInRow 7 = .ok (.getfield 34, 3) := by decide +kernel
theorem dX10_isInRow_10 : decode cX10_isInRow 10 = .ok (.iload_n 2, 1) := by decide +kernel
theorem dX10_isInRow_11 : decode cX10_isInRow 11 = .ok (.iaload, 1) := by decide +kernel
theorem dX10_isInRow_12 : decode cX10_isInRow 12 = .ok (.if_icmp .ne 36, 3) := by decide +kernel
theorem dX10_isInRow_15 : decode cX10_isInRow 15 = .ok (.aload_n 0, 1) := by decide +kernel
theorem dX10_isInRow_16 : decode cX10_isInRow 16 = .ok (.getfield 20, 3) := by decide +kernel
theorem dX10_isInRow_19 : decode cX10_isInRow 19 = .ok (.aload_n 0, 1) := by decide +kernel
theorem dX10_isInRow_20 : decode cX10_isInRow 20 = .ok (.getfield 34, 3) := by decide +kernel
theorem dX10_isInRow_23 : decode cX10_isInRow 23 = .ok (.iload_n 2, 1) := by decide +kernel
theorem dX10_isInRow_24 : decode cX10_isInRow 24 = .ok (.iaload, 1) := by decide +kernel
theorem dX10_isInRow_25 : decode cX10_isInRow 25 = .ok (.baload, 1) := by decide +kernel
theorem dX10_isInRow_26 : decode cX10_isInRow 26 = .ok (.ifCond .ne 18, 3) := by decide +kernel
theorem dX10_isInRow_29 : decode cX10_isInRow 29 = .ok (.aload_n 0, 1) := by decide +kernel
theorem dX10_isInRow_30 : decode cX10_isInRow 30 = .ok (.getfield 37, 3) := by decide +kernel
theorem dX10_isInRow_33 : decode cX10_isInRow 33 = .ok (.iload_n 1, 1) := by decide +kernel
theorem dX10_isInRow_34 : decode cX10_isInRow 34 = .ok (.iaload, 1) := by decide +kernel
theorem dX10_isInRow_35 : decode cX10_isInRow 35 = .ok (.aload_n 0, 1) := by decide +kernel
theorem dX10_isInRow_36 : decode cX10_isInRow 36 = .ok (.getfield 37, 3) := by decide +kernel
theorem dX10_isInRow_39 : decode cX10_isInRow 39 = .ok (.iload_n 2, 1) := by decide +kernel
theorem dX10_isInRow_40 : decode cX10_isInRow 40 = .ok (.iaload, 1) := by decide +kernel
theorem dX10_isInRow_41 : decode cX10_isInRow 41 = .ok (.if_icmp .ne 7, 3) := by decide +kernel
theorem dX10_isInRow_44 : decode cX10_isInRow 44 = .ok (.iconst 1, 1) := by decide +kernel
theorem dX10_isInRow_45 : decode cX10_isInRow 45 = .ok (.goto 4, 3) := by decide +kernel
theorem dX10_isInRow_48 : decode cX10_isInRow 48 = .ok (.iconst 0, 1) := by decide +kernel
theorem dX10_isInRow_49 : decode cX10_isInRow 49 = .ok (.ireturn, 1) := by decide +kernel
theorem dX10_change_0 : decode cX10_change 0 = .ok (.aload_n 0, 1) := by decide +kernel
theorem dX10_change_1 : decode cX10_change 1 = .ok (.getfield 50, 3) := by decide +kernel
theorem dX10_change_4 : decode cX10_change 4 = .ok (.aload_n 0, 1) := by decide +kernel
theorem dX10_change_5 : decode cX10_change 5 = .ok (.getfield 160, 3) := by decide +kernel
theorem dX10_change_8 : decode cX10_change 8 = .ok (.iload_n 1, 1) := by decide +kernel
theorem dX10_change_9 : decode cX10_change 9 = .ok (.iastore, 1) := by decide +kernel
theorem dX10_change_10 : decode cX10_change 10 = .ok (.aload_n 0, 1) := by decide +kernel
theorem dX10_change_11 : decode cX10_change 11 = .ok (.getfield 53, 3) := by decide +kernel
theorem dX10_change_14 : decode cX10_change 14 = .ok (.aload_n 0, 1) := by decide +kernel
theorem dX10_change_15 : decode cX10_change 15 = .ok (.getfield 160, 3) := by decide +kernel
theorem dX10_change_18 : decode cX10_change 18 = .ok (.aload_n 0, 1) := by decide +kernel
theorem dX10_change_19 : decode cX10_change 19 = .ok (.getfield 166, 3) := by decide +kernel
theorem dX10_change_22 : decode cX10_change 22 = .ok (.iastore, 1) := by decide +kernel
theorem dX10_change_23 : decode cX10_change 23 = .ok (.aload_n 0, 1) := by decide +kernel
theorem dX10_change_24 : decode cX10_change 24 = .ok (.getfield 56, 3) := by decide +kernel
theorem dX10_change_27 : decode cX10_change 27 = .ok (.aload_n 0, 1) := by decide +kernel
theorem dX10_change_28 : decode cX10_change 28 = .ok (.getfield 160, 3) := by decide +kernel
theorem dX10_change_31 : decode cX10_change 31 = .ok (.iload_n 2, 1) := by decide +kernel
theorem dX10_change_32 : decode cX10_change 32 = .ok (.iastore, 1) := by decide +kernel
theorem dX10_change_33 : decode cX10_change 33 = .ok (.aload_n 0, 1) := by decide +kernel
theorem dX10_change_34 : decode cX10_change 34 = .ok (.dup, 1) := by decide +kernel
theorem dX10_change_35 : decode cX10_change 35 = .ok (.getfield 160, 3) := by decide +kernel
theorem dX10_change_38 : decode cX10_change 38 = .ok (.iconst 1, 1) := by decide +kernel
theorem dX10_change_39 : decode cX10_change 39 = .ok (.iadd, 1) := by decide +kernel
theorem dX10_change_40 : decode cX10_change 40 = .ok (.putfield 160, 3) := by decide +kernel
theorem dX10_change_43 : decode cX10_change 43 = .ok (.return_, 1) := by decide +kernel
theorem dX10_labelOf_0 : decode cX10_labelOf 0 = .ok (.aload_n 0, 1) := by decide +kernel
theorem dX10_labelOf_1 : decode cX10_labelOf 1 = .ok (.getfield 160, 3) := by decide +kernel
theorem dX10_labelOf_4 : decode cX10_labelOf 4 = .ok (.iconst 1, 1) := by decide +kernel
theorem dX10_labelOf_5 : decode cX10_labelOf 5 = .ok (.isub, 1) := by decide +kernel
theorem dX10_labelOf_6 : decode cX10_labelOf 6 = .ok (.istore_n 3, 1) := by decide +kernel
theorem dX10_labelOf_7 : decode cX10_labelOf 7 = .ok (.iload_n 3, 1) := by decide +kernel
theorem dX10_labelOf_8 : decode cX10_labelOf 8 = .ok (.ifCond .lt 36, 3) := by decide +kernel
theorem dX10_labelOf_11 : decode cX10_labelOf 11 = .ok (.aload_n 0, 1) := by decide +kernel
theorem dX10_labelOf_12 : decode cX10_labelOf 12 = .ok (.getfield 50, 3) := by decide +kernel
theorem dX10_labelOf_15 : decode cX10_labelOf 15 = .ok (.iload_n 3, 1) := by decide +kernel
theorem dX10_labelOf_16 : decode cX10_labelOf 16 = .ok (.iaload, 1) := by decide +kernel
theorem dX10_labelOf_17 : decode cX10_labelOf 17 = .ok (.iload_n 1, 1) := by decide +kernel
theorem dX10_labelOf_18 : decode cX10_labelOf 18 = .ok (.if_icmp .ne 20, 3) := by decide +kernel
theorem dX10_labelOf_21 : decode cX10_labelOf 21 = .ok (.aload_n 0, 1) := by decide +kernel
theorem dX10_labelOf_22 : decode cX10_labelOf 22 = .ok (.getfield 53, 3) := by decide +kernel
theorem dX10_labelOf_25 : decode cX10_labelOf 25 = .ok (.iload_n 3, 1) := by decide +kernel
theorem dX10_labelOf_26 : decode cX10_labelOf 26 = .ok (.iaload, 1) := by decide +kernel
theorem dX10_labelOf_27 : decode cX10_labelOf 27 = .ok (.iload_n 2, 1) := by decide +kernel
theorem dX10_labelOf_28 : decode cX10_labelOf 28 = .ok (.if_icmp .gt 10, 3) := by decide +kernel
theorem dX10_labelOf_31 : decode cX10_labelOf 31 = .ok (.aload_n 0, 1) := by decide +kernel
theorem dX10_labelOf_32 : decode cX10_labelOf 32 = .ok (.getfield 56, 3) := by decide +kernel
theorem dX10_labelOf_35 : decode cX10_labelOf 35 = .ok (.iload_n 3, 1) := by decide +kernel
theorem dX10_labelOf_36 : decode cX10_labelOf 36 = .ok (.iaload, 1) := by decide +kernel
theorem dX10_labelOf_37 : decode cX10_labelOf 37 = .ok (.ireturn, 1) := by decide +kernel
theorem dX10_labelOf_38 : decode cX10_labelOf 38 = .ok (.iinc 3 (-1), 3) := by decide +kernel
theorem dX10_labelOf_41 : decode cX10_labelOf 41 = .ok (.goto (-34), 3) := by decide +kernel
theorem dX10_labelOf_44 : decode cX10_labelOf 44 = .ok (.iconst 0, 1) := by decide +kernel
theorem dX10_labelOf_45 : decode cX10_labelOf 45 = .ok (.ireturn, 1) := by decide +kernel
theorem dX10_act_0 : decode cX10_act 0 = .ok (.aload_n 0, 1) := by decide +kernel
theorem dX10_act_1 : decode cX10_act 1 = .ok (.getfield 163, 3) := by decide +kernel
theorem dX10_act_4 : decode cX10_act 4 = .ok (.bipush 100, 2) := by decide +kernel
theorem dX10_act_6 : decode cX10_act 6 = .ok (.if_icmp .ne 69, 3) := by decide +kernel
theorem dX10_act_9 : decode cX10_act 9 = .ok (.iconst 1, 1) := by decide +kernel
theorem dX10_act_10 : decode cX10_act 10 = .ok (.istore_n 3, 1) := by decide +kernel
theorem dX10_act_11 : decode cX10_act 11 = .ok (.iload_n 3, 1) := by decide +kernel
theorem dX10_act_12 : decode cX10_act 12 = .ok (.bipush 100, 2) := by decide +kernel
theorem dX10_act_14 : decode cX10_act 14 = .ok (.if_icmp .ge 51, 3) := by decide +kernel
theorem dX10_act_17 : decode cX10_act 17 = .ok (.aload_n 0, 1) := by decide +kernel
theorem dX10_act_18 : decode cX10_act 18 = .ok (.getfield 59, 3) := by decide +kernel
theorem dX10_act_21 : decode cX10_act 21 = .ok (.iload_n 3, 1) := by decide +kernel
theorem dX10_act_22 : decode cX10_act 22 = .ok (.iconst 1, 1) := by decide +kernel
theorem dX10_act_23 : decode cX10_act 23 = .ok (.isub, 1) := by decide +kernel
theorem dX10_act_24 : decode cX10_act 24 = .ok (.aload_n 0, 1) := by decide +kernel
theorem dX10_act_25 : decode cX10_act 25 = .ok (.getfield 59, 3) := by decide +kernel
theorem dX10_act_28 : decode cX10_act 28 = .ok (.iload_n 3, 1) := by decide +kernel
theorem dX10_act_29 : decode cX10_act 29 = .ok (.iaload, 1) := by decide +kernel
theorem dX10_act_30 : decode cX10_act 30 = .ok (.iastore, 1) := by decide +kernel
theorem dX10_act_31 : decode cX10_act 31 = .ok (.aload_n 0, 1) := by decide +kernel
theorem dX10_act_32 : decode cX10_act 32 = .ok (.getfield 62, 3) := by decide +kernel
theorem dX10_act_35 : decode cX10_act 35 = .ok (.iload_n 3, 1) := by decide +kernel
theorem dX10_act_36 : decode cX10_act 36 = .ok (.iconst 1, 1) := by decide +kernel
theorem dX10_act_37 : decode cX10_act 37 = .ok (.isub, 1) := by decide +kernel
theorem dX10_act_38 : decode cX10_act 38 = .ok (.aload_n 0, 1) := by decide +kernel
theorem dX10_act_39 : decode cX10_act 39 = .ok (.getfield 62, 3) := by decide +kernel
theorem dX10_act_42 : decode cX10_act 42 = .ok (.iload_n 3, 1) := by decide +kernel
theorem dX10_act_43 : decode cX10_act 43 = .ok (.iaload, 1) := by decide +kernel
theorem dX10_act_44 : decode cX10_act 44 = .ok (.iastore, 1) := by decide +kernel
theorem dX10_act_45 : decode cX10_act 45 = .ok (.aload_n 0, 1) := by decide +kernel
theorem dX10_act_46 : decode cX10_act 46 = .ok (.getfield 65, 3) := by decide +kernel
theorem dX10_act_49 : decode cX10_act 49 = .ok (.iload_n 3, 1) := by decide +kernel
theorem dX10_act_50 : decode cX10_act 50 = .ok (.iconst 1, 1) := by decide +kernel
theorem dX10_act_51 : decode cX10_act 51 = .ok (.isub, 1) := by decide +kernel
theorem dX10_act_52 : decode cX10_act 52 = .ok (.aload_n 0, 1) := by decide +kernel
theorem dX10_act_53 : decode cX10_act 53 = .ok (.getfield 65, 3) := by decide +kernel
theorem dX10_act_56 : decode cX10_act 56 = .ok (.iload_n 3, 1) := by decide +kernel
theorem dX10_act_57 : decode cX10_act 57 = .ok (.iaload, 1) := by decide +kernel
theorem dX10_act_58 : decode cX10_act 58 = .ok (.iastore, 1) := by decide +kernel
theorem dX10_act_59 : decode cX10_act 59 = .ok (.iinc 3 1, 3) := by decide +kernel
theorem dX10_act_62 : decode cX10_act 62 = .ok (.goto (-51), 3) := by decide +kernel
theorem dX10_act_65 : decode cX10_act 65 = .ok (.aload_n 0, 1) := by decide +kernel
theorem dX10_act_66 : decode cX10_act 66 = .ok (.dup, 1) := by decide +kernel
theorem dX10_act_67 : decode cX10_act 67 = .ok (.getfield 163, 3) := by decide +kernel
theorem dX10_act_70 : decode cX10_act 70 = .ok (.iconst 1, 1) := by decide +kernel
theorem dX10_act_71 : decode cX10_act 71 = .ok (.isub, 1) := by decide +kernel
theorem dX10_act_72 : decode cX10_act 72 = .ok (.putfield 163, 3) := by decide +kernel
theorem dX10_act_75 : decode cX10_act 75 = .ok (.aload_n 0, 1) := by decide +kernel
theorem dX10_act_76 : decode cX10_act 76 = .ok (.getfield 59, 3) := by decide +kernel
theorem dX10_act_79 : decode cX10_act 79 = .ok (.aload_n 0, 1) := by decide +kernel
theorem dX10_act_80 : decode cX10_act 80 = .ok (.getfield 163, 3) := by decide +kernel
theorem dX10_act_83 : decode cX10_act 83 = .ok (.iload_n 1, 1) := by decide +kernel
theorem dX10_act_84 : decode cX10_act 84 = .ok (.iastore, 1) := by decide +kernel
theorem dX10_act_85 : decode cX10_act 85 = .ok (.aload_n 0, 1) := by decide +kernel
theorem dX10_act_86 : decode cX10_act 86 = .ok (.getfield 62, 3) := by decide +kernel
theorem dX10_act_89 : decode cX10_act 89 = .ok (.aload_n 0, 1) := by decide +kernel
theorem dX10_act_90 : decode cX10_act 90 = .ok (.getfield 163, 3) := by decide +kernel
theorem dX10_act_93 : decode cX10_act 93 = .ok (.iload_n 2, 1) := by decide +kernel
theorem dX10_act_94 : decode cX10_act 94 = .ok (.iastore, 1) := by decide +kernel
theorem dX10_act_95 : decode cX10_act 95 = .ok (.aload_n 0, 1) := by decide +kernel
theorem dX10_act_96 : decode cX10_act 96 = .ok (.getfield 65, 3) := by decide +kernel
theorem dX10_act_99 : decode cX10_act 99 = .ok (.aload_n 0, 1) := by decide +kernel
theorem dX10_act_100 : decode cX10_act 100 = .ok (.getfield 163, 3) := by decide +kernel
theorem dX10_act_103 : decode cX10_act 103 = .ok (.aload_n 0, 1) := by decide +kernel
theorem dX10_act_104 : decode cX10_act 104 = .ok (.getfield 160, 3) := by decide +kernel
theorem dX10_act_107 : decode cX10_act 107 = .ok (.iastore, 1) := by decide +kernel
theorem dX10_act_108 : decode cX10_act 108 = .ok (.aload_n 0, 1) := by decide +kernel
theorem dX10_act_109 : decode cX10_act 109 = .ok (.dup, 1) := by decide +kernel
theorem dX10_act_110 : decode cX10_act 110 = .ok (.getfield 163, 3) := by decide +kernel
theorem dX10_act_113 : decode cX10_act 113 = .ok (.iconst 1, 1) := by decide +kernel
theorem dX10_act_114 : decode cX10_act 114 = .ok (.iadd, 1) := by decide +kernel
theorem dX10_act_115 : decode cX10_act 115 = .ok (.putfield 163, 3) := by decide +kernel
theorem dX10_act_118 : decode cX10_act 118 = .ok (.return_, 1) := by decide +kernel
theorem dX10_letterAt_0 : decode cX10_letterAt 0 = .ok (.iload_n 0, 1) := by decide +kernel
theorem dX10_letterAt_1 : decode cX10_letterAt 1 = .ok (.istore_n 2, 1) := by decide +kernel
theorem dX10_letterAt_2 : decode cX10_letterAt 2 = .ok (.iload_n 1, 1) := by decide +kernel
theorem dX10_letterAt_3 : decode cX10_letterAt 3 = .ok (.istore_n 3, 1) := by decide +kernel
theorem dX10_letterAt_4 : decode cX10_letterAt 4 = .ok (.iload_n 3, 1) := by decide +kernel
theorem dX10_letterAt_5 : decode cX10_letterAt 5 = .ok (.iconst 3, 1) := by decide +kernel
theorem dX10_letterAt_6 : decode cX10_letterAt 6 = .ok (.if_icmp .ge 14, 3) := by decide +kernel
theorem dX10_letterAt_9 : decode cX10_letterAt 9 = .ok (.iload_n 2, 1) := by decide +kernel
theorem dX10_letterAt_10 : decode cX10_letterAt 10 = .ok (.bipush 27, 2) := by decide +kernel
theorem dX10_letterAt_12 : decode cX10_letterAt 12 = .ok (.idiv, 1) := by decide +kernel
theorem dX10_letterAt_13 : decode cX10_letterAt 13 = .ok (.istore_n 2, 1) := by decide +kernel
theorem dX10_letterAt_14 : decode cX10_letterAt 14 = .ok (.iinc 3 1, 3) := by decide +kernel
theorem dX10_letterAt_17 : decode cX10_letterAt 17 = .ok (.goto (-13), 3) := by decide +kernel
theorem dX10_letterAt_20 : decode cX10_letterAt 20 = .ok (.iload_n 2, 1) := by decide +kernel
theorem dX10_letterAt_21 : decode cX10_letterAt 21 = .ok (.bipush 27, 2) := by decide +kernel
theorem dX10_letterAt_23 : decode cX10_letterAt 23 = .ok (.irem, 1) := by decide +kernel
theorem dX10_letterAt_24 : decode cX10_letterAt 24 = .ok (.ireturn, 1) := by decide +kernel
set_option maxRecDepth 20000 in
theorem ggX10_lettersOf_X10_letterAt : GoodIn wsX10_lettersOf wsX10_letterAt := goodIn_r _ [4] (by decide +kernel) (by decide +kernel)
set_option maxRecDepth 20000 in
theorem gX10_lettersOf_X10_letterAt : GoodIn wsX10_lettersOf (va_wsS RX10 169 yX10_letterAt wsX10_letterAt) := goodIn_app (goodIn_of _ (by decide +kernel)) ggX10_lettersOf_X10_letterAt
theorem dX10_lettersOf_0 : decode cX10_lettersOf 0 = .ok (.iconst 0, 1) := by decide +kernel
theorem dX10_lettersOf_1 : decode cX10_lettersOf 1 = .ok (.istore_n 1, 1) := by decide +kernel
theorem dX10_lettersOf_2 : decode cX10_lettersOf 2 = .ok (.iload_n 1, 1) := by decide +kernel
theorem dX10_lettersOf_3 : decode cX10_lettersOf 3 = .ok (.iconst 4, 1) := by decide +kernel
theorem dX10_lettersOf_4 : decode cX10_lettersOf 4 = .ok (.if_icmp .ge 17, 3) := by decide +kernel
theorem dX10_lettersOf_7 : decode cX10_lettersOf 7 = .ok (.iload_n 0, 1) := by decide +kernel
theorem dX10_lettersOf_8 : decode cX10_lettersOf 8 = .ok (.iload_n 1, 1) := by decide +kernel
theorem dX10_lettersOf_9 : decode cX10_lettersOf 9 = .ok (.invokestatic 169, 3) := by decide +kernel
theorem dX10_lettersOf_12 : decode cX10_lettersOf 12 = .ok (.ifCond .le 9, 3) := by decide +kernel
theorem dX10_lettersOf_15 : decode cX10_lettersOf 15 = .ok (.iinc 1 1, 3) := by decide +kernel
theorem dX10_lettersOf_18 : decode cX10_lettersOf 18 = .ok (.goto (-16), 3) := by decide +kernel
theorem dX10_lettersOf_21 : decode cX10_lettersOf 21 = .ok (.iload_n 1, 1) := by decide +kernel
theorem dX10_lettersOf_22 : decode cX10_lettersOf 22 = .ok (.ireturn, 1) := by decide +kernel
theorem dX10_suffixInHand_0 : decode cX10_suffixInHand 0 = .ok (.aload_n 0, 1) := by decide +kernel
theorem dX10_suffixInHand_1 : decode cX10_suffixInHand 1 = .ok (.getfield 68, 3) := by decide +kernel
theorem dX10_suffixInHand_4 : decode cX10_suffixInHand 4 = .ok (.iconst 0, 1) := by decide +kernel
theorem dX10_suffixInHand_5 : decode cX10_suffixInHand 5 = .ok (.iaload, 1) := by decide +kernel
theorem dX10_suffixInHand_6 : decode cX10_suffixInHand 6 = .ok (.bipush 27, 2) := by decide +kernel
theorem dX10_suffixInHand_8 : decode cX10_suffixInHand 8 = .ok (.imul, 1) := by decide +kernel
theorem dX10_suffixInHand_9 : decode cX10_suffixInHand 9 = .ok (.aload_n 0, 1) := by decide +kernel
theorem dX10_suffixInHand_10 : decode cX10_suffixInHand 10 = .ok (.getfield 68, 3) := by decide +kernel
theorem dX10_suffixInHand_13 : decode cX10_suffixInHand 13 = .ok (.iconst 1, 1) := by decide +kernel
theorem dX10_suffixInHand_14 : decode cX10_suffixInHand 14 = .ok (.iaload, 1) := by decide +kernel
theorem dX10_suffixInHand_15 : decode cX10_suffixInHand 15 = .ok (.iadd, 1) := by decide +kernel
theorem dX10_suffixInHand_16 : decode cX10_suffixInHand 16 = .ok (.bipush 27, 2) := by decide +kernel
theorem dX10_suffixInHand_18 : decode cX10_suffixInHand 18 = .ok (.imul, 1) := by decide +kernel
theorem dX10_suffixInHand_19 : decode cX10_suffixInHand 19 = .ok (.aload_n 0, 1) := by decide +kernel
theorem dX10_suffixInHand_20 : decode cX10_suffixInHand 20 = .ok (.getfield 68, 3) := by decide +kernel
theorem dX10_suffixInHand_23 : decode cX10_suffixInHand 23 = .ok (.iconst 2, 1) := by decide +kernel
theorem dX10_suffixInHand_24 : decode cX10_suffixInHand 24 = .ok (.iaload, 1) := by decide +kernel
theorem dX10_suffixInHand_25 : decode cX10_suffixInHand 25 = .ok (.iadd, 1) := by decide +kernel
theorem dX10_suffixInHand_26 : decode cX10_suffixInHand 26 = .ok (.bipush 27, 2) := by decide +kernel
theorem dX10_suffixInHand_28 : decode cX10_suffixInHand 28 = .ok (.imul, 1) := by decide +kernel
theorem dX10_suffixInHand_29 : decode cX10_suffixInHand 29 = .ok (.aload_n 0, 1) := by decide +kernel
theorem dX10_suffixInHand_30 : decode cX10_suffixInHand 30 = .ok (.getfield 68, 3) := by decide +kernel
theorem dX10_suffixInHand_33 : decode cX10_suffixInHand 33 = .ok (.iconst 3, 1) := by decide +kernel
theorem dX10_suffixInHand_34 : decode cX10_suffixInHand 34 = .ok (.iaload, 1) := by decide +kernel
theorem dX10_suffixInHand_35 : decode cX10_suffixInHand 35 = .ok (.iadd, 1) := by decide +kernel
theorem dX10_suffixInHand_36 : decode cX10_suffixInHand 36 = .ok (.ireturn, 1) := by decide +kernel
set_option maxRecDepth 20000 in
theorem ggX10_least_X10_lettersOf : GoodIn wsX10_least wsX10_lettersOf := goodIn_r _ [6, 7, 8, 5, 9] (by decide +kernel) (by decide +kernel)
set_option maxRecDepth 20000 in
theorem gX10_least_X10_lettersOf : GoodIn wsX10_least (va_wsS RX10 174 yX10_lettersOf wsX10_lettersOf) := goodIn_app (goodIn_of _ (by decide +kernel)) ggX10_least_X10_lettersOf
set_option maxRecDepth 20000 in
theorem ggX10_least_X10_suffixInHand : GoodIn wsX10_least wsX10_suffixInHand := goodIn_r _ [13, 2, 14, 15, 16, 17, 18, 19, 20, 21, 22, 23, 24, 25, 26, 27, 28, 29, 30, 31, 32, 33, 34, 35, 36, 37, 38, 39, 40, 41, 42, 43, 44, 45, 46, 47, 48, 49, 50, 51, 52, 53, 54, 55] (by decide +kernel) (by decide +kernel)
set_option maxRecDepth 20000 in
theorem gX10_least_X10_suffixInHand : GoodIn wsX10_least (wsV RX10 178 RX10 yX10_suffixInHand wsX10_suffixInHand) := goodIn_app (goodIn_of _ (by decide +kernel)) ggX10_least_X10_suffixInHand
set_option maxRecDepth 20000 in
theorem ggX10_least_X10_letterAt : GoodIn wsX10_least wsX10_letterAt := goodIn_r _ [9] (by decide +kernel) (by decide +kernel)
set_option maxRecDepth 20000 in
theorem gX10_least_X10_letterAt : GoodIn wsX10_least (va_wsS RX10 169 yX10_letterAt wsX10_letterAt) := goodIn_app (goodIn_of _ (by decide +kernel)) ggX10_least_X10_letterAt
theorem dX10_least_0 : decode cX10_least 0 = .ok (.iload_n 1, 1) := by decide +kernel
theorem dX10_least_1 : decode cX10_least 1 = .ok (.ldc 173, 2) := by decide +kernel
theorem dX10_least_3 : decode cX10_least 3 = .ok (.idiv, 1) := by decide +kernel
theorem dX10_least_4 : decode cX10_least 4 = .ok (.istore_n 3, 1) := by decide +kernel
theorem dX10_least_5 : decode cX10_least 5 = .ok (.iload_n 1, 1) := by decide +kernel
theorem dX10_least_6 : decode cX10_least 6 = .ok (.ldc 173, 2) := by decide +kernel
theorem dX10_least_8 : decode cX10_least 8 = .ok (.irem, 1) := by decide +kernel
theorem dX10_least_9 : decode cX10_least 9 = .ok (.invokestatic 174, 3) := by decide +kernel
theorem dX10_least_12 : decode cX10_least 12 = .ok (.istore 4, 2) := by decide +kernel
theorem dX10_least_14 : decode cX10_least 14 = .ok (.iconst 0, 1) := by decide +kernel
theorem dX10_least_15 : decode cX10_least 15 = .ok (.istore 5, 2) := by decide +kernel
theorem dX10_least_17 : decode cX10_least 17 = .ok (.iload 5, 2) := by decide +kernel
theorem dX10_least_19 : decode cX10_least 19 = .ok (.iconst 4, 1) := by decide +kernel
theorem dX10_least_20 : decode cX10_least 20 = .ok (.if_icmp .ge 27, 3) := by decide +kernel
theorem dX10_least_23 : decode cX10_least 23 = .ok (.aload_n 0, 1) := by decide +kernel
theorem dX10_least_24 : decode cX10_least 24 = .ok (.getfield 68, 3) := by decide +kernel
theorem dX10_least_27 : decode cX10_least 27 = .ok (.iload 5, 2) := by decide +kernel
theorem dX10_least_29 : decode cX10_least 29 = .ok (.iload 5, 2) := by decide +kernel
theorem dX10_least_31 : decode cX10_least 31 = .ok (.iload_n 2, 1) := by decide +kernel
theorem dX10_least_32 : decode cX10_least 32 = .ok (.if_icmp .ge 7, 3) := by decide +kernel
theorem dX10_least_35 : decode cX10_least 35 = .ok (.iconst 1, 1) := by decide +kernel
theorem dX10_least_36 : decode cX10_least 36 = .ok (.goto 4, 3) := by decide +kernel
theorem dX10_least_39 : decode cX10_least 39 = .ok (.iconst 0, 1) := by decide +kernel
theorem dX10_least_40 : decode cX10_least 40 = .ok (.iastore, 1) := by decide +kernel
theorem dX10_least_41 : decode cX10_least 41 = .ok (.iinc 5 1, 3) := by decide +kernel
theorem dX10_least_44 : decode cX10_least 44 = .ok (.goto (-27), 3) := by decide +kernel
theorem dX10_least_47 : decode cX10_least 47 = .ok (.iload_n 1, 1) := by decide +kernel
theorem dX10_least_48 : decode cX10_least 48 = .ok (.ifCond .ne 11, 3) := by decide +kernel
theorem dX10_least_51 : decode cX10_least 51 = .ok (.ldc 173, 2) := by decide +kernel
theorem dX10_least_53 : decode cX10_least 53 = .ok (.aload_n 0, 1) := by decide +kernel
theorem dX10_least_54 : decode cX10_least 54 = .ok (.invokevirtual 178, 3) := by decide +kernel
theorem dX10_least_57 : decode cX10_least 57 = .ok (.iadd, 1) := by decide +kernel
theorem dX10_least_58 : decode cX10_least 58 = .ok (.ireturn, 1) := by decide +kernel
theorem dX10_least_59 : decode cX10_least 59 = .ok (.iconst (-1), 1) := by decide +kernel
theorem dX10_least_60 : decode cX10_least 60 = .ok (.istore 5, 2) := by decide +kernel
theorem dX10_least_62 : decode cX10_least 62 = .ok (.iload_n 2, 1) := by decide +kernel
theorem dX10_least_63 : decode cX10_least 63 = .ok (.iload 4, 2) := by decide +kernel
theorem dX10_least_65 : decode cX10_least 65 = .ok (.if_icmp .gt 41, 3) := by decide +kernel
theorem dX10_least_68 : decode cX10_least 68 = .ok (.iconst 0, 1) := by decide +kernel
theorem dX10_least_69 : decode cX10_least 69 = .ok (.istore 6, 2) := by decide +kernel
theorem dX10_least_71 : decode cX10_least 71 = .ok (.iload 6, 2) := by decide +kernel
theorem dX10_least_73 : decode cX10_least 73 = .ok (.iload_n 2, 1) := by decide +kernel
theorem dX10_least_74 : decode cX10_least 74 = .ok (.if_icmp .ge 32, 3) := by decide +kernel
theorem dX10_least_77 : decode cX10_least 77 = .ok (.iload_n 1, 1) := by decide +kernel
theorem dX10_least_78 : decode cX10_least 78 = .ok (.ldc 173, 2) := by decide +kernel
theorem dX10_least_80 : decode cX10_least 80 = .ok (.irem, 1) := by decide +kernel
theorem dX10_least_81 : decode cX10_least 81 = .ok (.iload 6, 2) := by decide +kernel
theorem dX10_least_83 : decode cX10_least 83 = .ok (.invokestatic 169, 3) := by decide +kernel
theorem dX10_least_86 : decode cX10_least 86 = .ok (.bipush 26, 2) := by decide +kernel
theorem dX10_least_88 : decode cX10_least 88 = .ok (.if_icmp .ge 8, 3) := by decide +kernel
theorem dX10_least_91 : decode cX10_least 91 = .ok (.iload 6, 2) := by decide +kernel
theorem dX10_least_93 : decode cX10_least 93 = .ok (.goto 5, 3) := by decide +kernel
theorem dX10_least_96 : decode cX10_least 96 = .ok (.iload 5, 2) := by decide +kernel
theorem dX10_least_98 : decode cX10_least 98 = .ok (.istore 5, 2) := by decide +kernel
theorem dX10_least_100 : decode cX10_least 100 = .ok (.iinc 6 1, 3) := by decide +kernel
theorem dX10_least_103 : decode cX10_least 103 = .ok (.goto (-32), 3) := by decide +kernel
theorem dX10_least_106 : decode cX10_least 106 = .ok (.iload_n 2, 1) := by decide +kernel
theorem dX10_least_107 : decode cX10_least 107 = .ok (.iload 4, 2) := by decide +kernel
theorem dX10_least_109 : decode cX10_least 109 = .ok (.if_icmp .le 7, 3) := by decide +kernel
theorem dX10_least_112 : decode cX10_least 112 = .ok (.iload 4, 2) := by decide +kernel
theorem dX10_least_114 : decode cX10_least 114 = .ok (.istore 5, 2) := by decide +kernel
theorem dX10_least_116 : decode cX10_least 116 = .ok (.iload 5, 2) := by decide +kernel
theorem dX10_least_118 : decode cX10_least 118 = .ok (.ifCond .lt 73, 3) := by decide +kernel
theorem dX10_least_121 : decode cX10_least 121 = .ok (.iconst 0, 1) := by decide +kernel
theorem dX10_least_122 : decode cX10_least 122 = .ok (.istore 6, 2) := by decide +kernel
theorem dX10_least_124 : decode cX10_least 124 = .ok (.iload 6, 2) := by decide +kernel
theorem dX10_least_126 : decode cX10_least 126 = .ok (.iload 5, 2) := by decide +kernel
theorem dX10_least_128 : decode cX10_least 128 = .ok (.if_icmp .ge 25, 3) := by decide +kernel
theorem dX10_least_131 : decode cX10_least 131 = .ok (.aload_n 0, 1) := by decide +kernel
theorem dX10_least_132 : decode cX10_least 132 = .ok (.getfield 68, 3) := by decide +kernel
theorem dX10_least_135 : decode cX10_least 135 = .ok (.iload 6, 2) := by decide +kernel
theorem dX10_least_137 : decode cX10_least 137 = .ok (.iload_n 1, 1) := by decide +kernel
theorem dX10_least_138 : decode cX10_least 138 = .ok (.ldc 173, 2) := by decide +kernel
theorem dX10_least_140 : decode cX10_least 140 = .ok (.irem, 1) := by decide +kernel
theorem dX10_least_141 : decode cX10_least 141 = .ok (.iload 6, 2) := by decide +kernel
theorem dX10_least_143 : decode cX10_least 143 = .ok (.invokestatic 169, 3) := by decide +kernel
theorem dX10_least_146 : decode cX10_least 146 = .ok (.iastore, 1) := by decide +kernel
theorem dX10_least_147 : decode cX10_least 147 = .ok (.iinc 6 1, 3) := by decide +kernel
theorem dX10_least_150 : decode cX10_least 150 = .ok (.goto (-26), 3) := by decide +kernel
theorem dX10_least_153 : decode cX10_least 153 = .ok (.aload_n 0, 1) := by decide +kernel
theorem dX10_least_154 : decode cX10_least 154 = .ok (.getfield 68, 3) := by decide +kernel
theorem dX10_least_157 : decode cX10_least 157 = .ok (.iload 5, 2) := by decide +kernel
theorem dX10_least_159 : decode cX10_least 159 = .ok (.iload_n 2, 1) := by decide +kernel
theorem dX10_least_160 : decode cX10_least 160 = .ok (.iload 4, 2) := by decide +kernel
theorem dX10_least_162 : decode cX10_least 162 = .ok (.if_icmp .le 7, 3) := by decide +kernel
theorem dX10_least_165 : decode cX10_least 165 = .ok (.iconst 1, 1) := by decide +kernel
theorem dX10_least_166 : decode cX10_least 166 = .ok (.goto 14, 3) := by decide +kernel
theorem dX10_least_169 : decode cX10_least 169 = .ok (.iload_n 1, 1) := by decide +kernel
theorem dX10_least_170 : decode cX10_least 170 = .ok (.ldc 173, 2) := by decide +kernel
theorem dX10_least_172 : decode cX10_least 172 = .ok (.irem, 1) := by decide +kernel
theorem dX10_least_173 : decode cX10_least 173 = .ok (.iload 5, 2) := by decide +kernel
theorem dX10_least_175 : decode cX10_least 175 = .ok (.invokestatic 169, 3) := by decide +kernel
theorem dX10_least_178 : decode cX10_least 178 = .ok (.iconst 1, 1) := by decide +kernel
theorem dX10_least_179 : decode cX10_least 179 = .ok (.iadd, 1) := by decide +kernel
theorem dX10_least_180 : decode cX10_least 180 = .ok (.iastore, 1) := by decide +kernel
theorem dX10_least_181 : decode cX10_least 181 = .ok (.iload_n 3, 1) := by decide +kernel
theorem dX10_least_182 : decode cX10_least 182 = .ok (.ldc 173, 2) := by decide +kernel
theorem dX10_least_184 : decode cX10_least 184 = .ok (.imul, 1) := by decide +kernel
theorem dX10_least_185 : decode cX10_least 185 = .ok (.aload_n 0, 1) := by decide +kernel
theorem dX10_least_186 : decode cX10_least 186 = .ok (.invokevirtual 178, 3) := by decide +kernel
theorem dX10_least_189 : decode cX10_least 189 = .ok (.iadd, 1) := by decide +kernel
theorem dX10_least_190 : decode cX10_least 190 = .ok (.ireturn, 1) := by decide +kernel
theorem dX10_least_191 : decode cX10_least 191 = .ok (.iload_n 3, 1) := by decide +kernel
theorem dX10_least_192 : decode cX10_least 192 = .ok (.sipush 999, 3) := by decide +kernel
theorem dX10_least_195 : decode cX10_least 195 = .ok (.if_icmp .ne 7, 3) := by decide +kernel
theorem dX10_least_198 : decode cX10_least 198 = .ok (.iconst 0, 1) := by decide +kernel
theorem dX10_least_199 : decode cX10_least 199 = .ok (.goto 14, 3) := by decide +kernel
theorem dX10_least_202 : decode cX10_least 202 = .ok (.iload_n 3, 1) := by decide +kernel
theorem dX10_least_203 : decode cX10_least 203 = .ok (.iconst 1, 1) := by decide +kernel
theorem dX10_least_204 : decode cX10_least 204 = .ok (.iadd, 1) := by decide +kernel
theorem dX10_least_205 : decode cX10_least 205 = .ok (.ldc 173, 2) := by decide +kernel
theorem dX10_least_207 : decode cX10_least 207 = .ok (.imul, 1) := by decide +kernel
theorem dX10_least_208 : decode cX10_least 208 = .ok (.aload_n 0, 1) := by decide +kernel
theorem dX10_least_209 : decode cX10_least 209 = .ok (.invokevirtual 178, 3) := by decide +kernel
theorem dX10_least_212 : decode cX10_least 212 = .ok (.iadd, 1) := by decide +kernel
theorem dX10_least_213 : decode cX10_least 213 = .ok (.ireturn, 1) := by decide +kernel
set_option maxRecDepth 20000 in
theorem ggX10_add_X10_isItem : GoodIn wsX10_add wsX10_isItem := goodIn_r _ [15, 2, 64, 65, 66, 67, 68, 69, 70, 71, 72, 73, 74, 75, 76, 77, 78, 79, 80, 81, 82, 83, 84, 85, 86, 87, 88, 89, 90, 91, 92, 93, 94, 95, 96, 97, 98, 99, 100, 101, 102, 103, 104, 105] (by decide +kernel) (by decide +kernel)
set_option maxRecDepth 20000 in
theorem gX10_add_X10_isItem : GoodIn wsX10_add (wsV RX10 181 RX10 yX10_isItem wsX10_isItem) := goodIn_app (goodIn_of _ (by decide +kernel)) ggX10_add_X10_isItem
set_option maxRecDepth 20000 in
theorem ggX10_add_X10_placeOf : GoodIn wsX10_add wsX10_placeOf := goodIn_r _ [19, 6, 64, 65, 66, 67, 68, 69, 70, 71, 72, 73, 74, 75, 76, 77, 78, 79, 80, 81, 82, 83, 84, 85, 86, 87, 88, 89, 90, 91, 92, 93, 94, 95, 96, 97, 98, 99, 100, 101, 102, 103, 104, 105] (by decide +kernel) (by decide +kernel)
set_option maxRecDepth 20000 in
theorem gX10_add_X10_placeOf : GoodIn wsX10_add (wsV RX10 184 RX10 yX10_placeOf wsX10_placeOf) := goodIn_app (goodIn_of _ (by decide +kernel)) ggX10_add_X10_placeOf
set_option maxRecDepth 20000 in
theorem ggX10_add_X10_isUnder : GoodIn wsX10_add wsX10_isUnder := goodIn_r _ [23, 5, 64, 65, 66, 67, 68, 69, 70, 71, 72, 73, 74, 75, 76, 77, 78, 79, 80, 81, 82, 83, 84, 85, 86, 87, 88, 89, 90, 91, 92, 93, 94, 95, 96, 97, 98, 99, 100, 101, 102, 103, 104, 105] (by decide +kernel) (by decide +kernel)
set_option maxRecDepth 20000 in
theorem gX10_add_X10_isUnder : GoodIn wsX10_add (wsV RX10 187 RX10 yX10_isUnder wsX10_isUnder) := goodIn_app (goodIn_of _ (by decide +kernel)) ggX10_add_X10_isUnder
set_option maxRecDepth 20000 in
theorem ggX10_add_X10_isInRow : GoodIn wsX10_add wsX10_isInRow := goodIn_r _ [27, 3, 28, 5, 64, 65, 66, 67, 68, 69, 70, 71, 72, 73, 74, 75, 76, 77, 78, 79, 80, 81, 82, 83, 84, 85, 86, 87, 88, 89, 90, 91, 92, 93, 94, 95, 96, 97, 98, 99, 100, 101, 102, 103, 104, 105] (by decide +kernel) (by decide +kernel)
set_option maxRecDepth 20000 in
theorem gX10_add_X10_isInRow : GoodIn wsX10_add (wsV RX10 190 RX10 yX10_isInRow wsX10_isInRow) := goodIn_app (goodIn_of _ (by decide +kernel)) ggX10_add_X10_isInRow
set_option maxRecDepth 20000 in
theorem ggX10_add_X10_labelOf : GoodIn wsX10_add wsX10_labelOf := goodIn_r _ [32, 33, 34, 35, 36, 64, 65, 66, 67, 68, 69, 70, 71, 72, 73, 74, 75, 76, 77, 78, 79, 80, 81, 82, 83, 84, 85, 86, 87, 88, 89, 90, 91, 92, 93, 94, 95, 96, 97, 98, 99, 100, 101, 102, 103, 104, 105] (by decide +kernel) (by decide +kernel)
set_option maxRecDepth 20000 in
theorem gX10_add_X10_labelOf : GoodIn wsX10_add (wsV RX10 193 RX10 yX10_labelOf wsX10_labelOf) := goodIn_app (goodIn_of _ (by decide +kernel)) ggX10_add_X10_labelOf
set_option maxRecDepth 20000 in
theorem ggX10_add_X10_least : GoodIn wsX10_add wsX10_least := goodIn_r _ [40, 8, 41, 42, 43, 14, 44, 45, 46, 47, 48, 49, 50, 51, 64, 65, 66, 67, 68, 69, 70, 71, 72, 73, 74, 75, 76, 77, 78, 79, 80, 81, 82, 83, 84, 85, 86, 87, 88, 89, 90, 91, 92, 93, 94, 95, 96, 97, 98, 99, 100, 101, 102, 103, 104, 105] (by decide +kernel) (by decide +kernel)
set_option maxRecDepth 20000 in
theorem gX10_add_X10_least : GoodIn wsX10_add (wsV RX10 196 RX10 yX10_least wsX10_least) := goodIn_app (goodIn_of _ (by decide +kernel)) ggX10_add_X10_least
set_option maxRecDepth 20000 in
theorem ggX10_add_X10_act : GoodIn wsX10_add wsX10_act := goodIn_r _ [55, 56, 57, 58, 59, 33, 64, 65, 66, 67, 68, 69, 70, 71, 72, 73, 74, 75, 76, 77, 78, 79, 80, 81, 82, 83, 84, 85, 86, 87, 88, 89, 90, 91, 92, 93, 94, 95, 96, 97, 98, 99, 100, 101, 102, 103, 104, 105] (by decide +kernel) (by decide +kernel)
set_option maxRecDepth 20000 in
theorem gX10_add_X10_act : GoodIn wsX10_add (wsV RX10 199 RX10 yX10_act wsX10_act) := goodIn_app (goodIn_of _ (by decide +kernel)) ggX10_add_X10_act
set_option maxRecDepth 20000 in
theorem ggX10_add_X10_change : GoodIn wsX10_add wsX10_change := goodIn_r _ [63, 34, 33, 35, 7, 36, 64, 65, 66, 67, 68, 69, 70, 71, 72, 73, 74, 75, 76, 77, 78, 79, 80, 81, 82, 83, 84, 85, 86, 87, 88, 89, 90, 91, 92, 93, 94, 95, 96, 97, 98, 99, 100, 101, 102, 103, 104, 105] (by decide +kernel) (by decide +kernel)
set_option maxRecDepth 20000 in
theorem gX10_add_X10_change : GoodIn wsX10_add (wsV RX10 203 RX10 yX10_change wsX10_change) := goodIn_app (goodIn_of _ (by decide +kernel)) ggX10_add_X10_change
theorem dX10_add_0 : decode cX10_add 0 = .ok (.aload_n 0, 1) := by decide +kernel
theorem dX10_add_1 : decode cX10_add 1 = .ok (.iconst 0, 1) := by decide +kernel
theorem dX10_add_2 : decode cX10_add 2 = .ok (.putfield 86, 3) := by decide +kernel
theorem dX10_add_5 : decode cX10_add 5 = .ok (.aload_n 0, 1) := by decide +kernel
theorem dX10_add_6 : decode cX10_add 6 = .ok (.getfield 157, 3) := by decide +kernel
theorem dX10_add_9 : decode cX10_add 9 = .ok (.bipush 80, 2) := by decide +kernel
theorem dX10_add_11 : decode cX10_add 11 = .ok (.if_icmp .eq 54, 3) := by decide +kernel
theorem dX10_add_14 : decode cX10_add 14 = .ok (.iload_n 1, 1) := by decide +kernel
theorem dX10_add_15 : decode cX10_add 15 = .ok (.iconst (-1), 1) := by decide +kernel
theorem dX10_add_16 : decode cX10_add 16 = .ok (.if_icmp .eq 26, 3) := by decide +kernel
theorem dX10_add_19 : decode cX10_add 19 = .ok (.aload_n 0, 1) := by decide +kernel
theorem dX10_add_20 : decode cX10_add 20 = .ok (.iload_n 1, 1) := by decide +kernel
theorem dX10_add_21 : decode cX10_add 21 = .ok (.invokevirtual 181, 3) := by decide +kernel
theorem dX10_add_24 : decode cX10_add 24 = .ok (.ifCond .eq 41, 3) := by decide +kernel
theorem dX10_add_27 : decode cX10_add 27 = .ok (.aload_n 0, 1) := by decide +kernel
theorem dX10_add_28 : decode cX10_add 28 = .ok (.getfield 34, 3) := by decide +kernel
theorem dX10_add_31 : decode cX10_add 31 = .ok (.iload_n 1, 1) := by decide +kernel
theorem dX10_add_32 : decode cX10_add 32 = .ok (.iaload, 1) := by decide +kernel
theorem dX10_add_33 : decode cX10_add 33 = .ok (.aload_n 0, 1) := by decide +kernel
theorem dX10_add_34 : decode cX10_add 34 = .ok (.getfield 27, 3) := by decide +kernel
theorem dX10_add_37 : decode cX10_add 37 = .ok (.iconst 1, 1) := by decide +kernel
theorem dX10_add_38 : decode cX10_add 38 = .ok (.isub, 1) := by decide +kernel
theorem dX10_add_39 : decode cX10_add 39 = .ok (.if_icmp .eq 26, 3) := by decide +kernel
theorem dX10_add_42 : decode cX10_add 42 = .ok (.iload_n 2, 1) := by decide +kernel
theorem dX10_add_43 : decode cX10_add 43 = .ok (.iconst (-1), 1) := by decide +kernel
theorem dX10_add_44 : decode cX10_add 44 = .ok (.if_icmp .eq 23, 3) := by decide +kernel
theorem dX10_add_47 : decode cX10_add 47 = .ok (.aload_n 0, 1) := by decide +kernel
theorem dX10_add_48 : decode cX10_add 48 = .ok (.iload_n 2, 1) := by decide +kernel
theorem dX10_add_49 : decode cX10_add 49 = .ok (.invokevirtual 181, 3) := by decide +kernel
theorem dX10_add_52 : decode cX10_add 52 = .ok (.ifCond .eq 13, 3) := by decide +kernel
theorem dX10_add_55 : decode cX10_add 55 = .ok (.aload_n 0, 1) := by decide +kernel
theorem dX10_add_56 : decode cX10_add 56 = .ok (.getfield 37, 3) := by decide +kernel
theorem dX10_add_59 : decode cX10_add 59 = .ok (.iload_n 2, 1) := by decide +kernel
theorem dX10_add_60 : decode cX10_add 60 = .ok (.iaload, 1) := by decide +kernel
theorem dX10_add_61 : decode cX10_add 61 = .ok (.iload_n 1, 1) := by decide +kernel
theorem dX10_add_62 : decode cX10_add 62 = .ok (.if_icmp .eq 5, 3) := by decide +kernel
theorem dX10_add_65 : decode cX10_add 65 = .ok (.iconst (-1), 1) := by decide +kernel
theorem dX10_add_66 : decode cX10_add 66 = .ok (.ireturn, 1) := by decide +kernel
theorem dX10_add_67 : decode cX10_add 67 = .ok (.aload_n 0, 1) := by decide +kernel
theorem dX10_add_68 : decode cX10_add 68 = .ok (.getfield 157, 3) := by decide +kernel
theorem dX10_add_71 : decode cX10_add 71 = .ok (.istore_n 3, 1) := by decide +kernel
theorem dX10_add_72 : decode cX10_add 72 = .ok (.aload_n 0, 1) := by decide +kernel
theorem dX10_add_73 : decode cX10_add 73 = .ok (.getfield 34, 3) := by decide +kernel
theorem dX10_add_76 : decode cX10_add 76 = .ok (.iload_n 3, 1) := by decide +kernel
theorem dX10_add_77 : decode cX10_add 77 = .ok (.iload_n 1, 1) := by decide +kernel
theorem dX10_add_78 : decode cX10_add 78 = .ok (.iconst (-1), 1) := by decide +kernel
theorem dX10_add_79 : decode cX10_add 79 = .ok (.if_icmp .ne 7, 3) := by decide +kernel
theorem dX10_add_82 : decode cX10_add 82 = .ok (.iconst 0, 1) := by decide +kernel
theorem dX10_add_83 : decode cX10_add 83 = .ok (.goto 11, 3) := by decide +kernel
theorem dX10_add_86 : decode cX10_add 86 = .ok (.aload_n 0, 1) := by decide +kernel
theorem dX10_add_87 : decode cX10_add 87 = .ok (.getfield 34, 3) := by decide +kernel
theorem dX10_add_90 : decode cX10_add 90 = .ok (.iload_n 1, 1) := by decide +kernel
theorem dX10_add_91 : decode cX10_add 91 = .ok (.iaload, 1) := by decide +kernel
theorem dX10_add_92 : decode cX10_add 92 = .ok (.iconst 1, 1) := by decide +kernel
theorem dX10_add_93 : decode cX10_add 93 = .ok (.iadd, 1) := by decide +kernel
theorem dX10_add_94 : decode cX10_add 94 = .ok (.iastore, 1) := by decide +kernel
theorem dX10_add_95 : decode cX10_add 95 = .ok (.aload_n 0, 1) := by decide +kernel
theorem dX10_add_96 : decode cX10_add 96 = .ok (.getfield 37, 3) := by decide +kernel
theorem dX10_add_99 : decode cX10_add 99 = .ok (.iload_n 3, 1) := by decide +kernel
theorem dX10_add_100 : decode cX10_add 100 = .ok (.iload_n 1, 1) := by decide +kernel
theorem dX10_add_101 : decode cX10_add 101 = .ok (.iastore, 1) := by decide +kernel
theorem dX10_add_102 : decode cX10_add 102 = .ok (.iload_n 1, 1) := by decide +kernel
theorem dX10_add_103 : decode cX10_add 103 = .ok (.iconst (-1), 1) := by decide +kernel
theorem dX10_add_104 : decode cX10_add 104 = .ok (.if_icmp .ne 7, 3) := by decide +kernel
theorem dX10_add_107 : decode cX10_add 107 = .ok (.iconst 0, 1) := by decide +kernel
theorem dX10_add_108 : decode cX10_add 108 = .ok (.goto 10, 3) := by decide +kernel
theorem dX10_add_111 : decode cX10_add 111 = .ok (.aload_n 0, 1) := by decide +kernel
theorem dX10_add_112 : decode cX10_add 112 = .ok (.iload_n 1, 1) := by decide +kernel
theorem dX10_add_113 : decode cX10_add 113 = .ok (.invokevirtual 184, 3) := by decide +kernel
theorem dX10_add_116 : decode cX10_add 116 = .ok (.iconst 1, 1) := by decide +kernel
theorem dX10_add_117 : decode cX10_add 117 = .ok (.iadd, 1) := by decide +kernel
theorem dX10_add_118 : decode cX10_add 118 = .ok (.istore 4, 2) := by decide +kernel
theorem dX10_add_120 : decode cX10_add 120 = .ok (.iload_n 2, 1) := by decide +kernel
theorem dX10_add_121 : decode cX10_add 121 = .ok (.iconst (-1), 1) := by decide +kernel
theorem dX10_add_122 : decode cX10_add 122 = .ok (.if_icmp .eq 42, 3) := by decide +kernel
theorem dX10_add_125 : decode cX10_add 125 = .ok (.aload_n 0, 1) := by decide +kernel
theorem dX10_add_126 : decode cX10_add 126 = .ok (.iload_n 2, 1) := by decide +kernel
theorem dX10_add_127 : decode cX10_add 127 = .ok (.invokevirtual 184, 3) := by decide +kernel
theorem dX10_add_130 : decode cX10_add 130 = .ok (.iconst 1, 1) := by decide +kernel
theorem dX10_add_131 : decode cX10_add 131 = .ok (.iadd, 1) := by decide +kernel
theorem dX10_add_132 : decode cX10_add 132 = .ok (.istore 4, 2) := by decide +kernel
theorem dX10_add_134 : decode cX10_add 134 = .ok (.iload 4, 2) := by decide +kernel
theorem dX10_add_136 : decode cX10_add 136 = .ok (.aload_n 0, 1) := by decide +kernel
theorem dX10_add_137 : decode cX10_add 137 = .ok (.getfield 157, 3) := by decide +kernel
theorem dX10_add_140 : decode cX10_add 140 = .ok (.if_icmp .ge 24, 3) := by decide +kernel
theorem dX10_add_143 : decode cX10_add 143 = .ok (.aload_n 0, 1) := by decide +kernel
theorem dX10_add_144 : decode cX10_add 144 = .ok (.aload_n 0, 1) := by decide +kernel
theorem dX10_add_145 : decode cX10_add 145 = .ok (.getfield 43, 3) := by decide +kernel
theorem dX10_add_148 : decode cX10_add 148 = .ok (.iload 4, 2) := by decide +kernel
theorem dX10_add_150 : decode cX10_add 150 = .ok (.iaload, 1) := by decide +kernel
theorem dX10_add_151 : decode cX10_add 151 = .ok (.iload_n 2, 1) := by decide +kernel
theorem dX10_add_152 : decode cX10_add 152 = .ok (.invokevirtual 187, 3) := by decide +kernel
theorem dX10_add_155 : decode cX10_add 155 = .ok (.ifCond .eq 9, 3) := by decide +kernel
theorem dX10_add_158 : decode cX10_add 158 = .ok (.iinc 4 1, 3) := by decide +kernel
theorem dX10_add_161 : decode cX10_add 161 = .ok (.goto (-27), 3) := by decide +kernel
theorem dX10_add_164 : decode cX10_add 164 = .ok (.iconst 0, 1) := by decide +kernel
theorem dX10_add_165 : decode cX10_add 165 = .ok (.istore 5, 2) := by decide +kernel
theorem dX10_add_167 : decode cX10_add 167 = .ok (.iconst 0, 1) := by decide +kernel
theorem dX10_add_168 : decode cX10_add 168 = .ok (.istore 6, 2) := by decide +kernel
theorem dX10_add_170 : decode cX10_add 170 = .ok (.iconst 0, 1) := by decide +kernel
theorem dX10_add_171 : decode cX10_add 171 = .ok (.istore 7, 2) := by decide +kernel
theorem dX10_add_173 : decode cX10_add 173 = .ok (.iload 7, 2) := by decide +kernel
theorem dX10_add_175 : decode cX10_add 175 = .ok (.aload_n 0, 1) := by decide +kernel
theorem dX10_add_176 : decode cX10_add 176 = .ok (.getfield 157, 3) := by decide +kernel
theorem dX10_add_179 : decode cX10_add 179 = .ok (.if_icmp .ge 75, 3) := by decide +kernel
theorem dX10_add_182 : decode cX10_add 182 = .ok (.aload_n 0, 1) := by decide +kernel
theorem dX10_add_183 : decode cX10_add 183 = .ok (.aload_n 0, 1) := by decide +kernel
theorem dX10_add_184 : decode cX10_add 184 = .ok (.getfield 43, 3) := by decide +kernel
theorem dX10_add_187 : decode cX10_add 187 = .ok (.iload 7, 2) := by decide +kernel
theorem dX10_add_189 : decode cX10_add 189 = .ok (.iaload, 1) := by decide +kernel
theorem dX10_add_190 : decode cX10_add 190 = .ok (.iload_n 3, 1) := by decide +kernel
theorem dX10_add_191 : decode cX10_add 191 = .ok (.invokevirtual 190, 3) := by decide +kernel
theorem dX10_add_194 : decode cX10_add 194 = .ok (.ifCond .ne 6, 3) := by decide +kernel
theorem dX10_add_197 : decode cX10_add 197 = .ok (.goto 51, 3) := by decide +kernel
theorem dX10_add_200 : decode cX10_add 200 = .ok (.aload_n 0, 1) := by decide +kernel
theorem dX10_add_201 : decode cX10_add 201 = .ok (.aload_n 0, 1) := by decide +kernel
theorem dX10_add_202 : decode cX10_add 202 = .ok (.getfield 43, 3) := by decide +kernel
theorem dX10_add_205 : decode cX10_add 205 = .ok (.iload 7, 2) := by decide +kernel
theorem dX10_add_207 : decode cX10_add 207 = .ok (.iaload, 1) := by decide +kernel
theorem dX10_add_208 : decode cX10_add 208 = .ok (.aload_n 0, 1) := by decide +kernel
theorem dX10_add_209 : decode cX10_add 209 = .ok (.getfield 166, 3) := by decide +kernel
theorem dX10_add_212 : decode cX10_add 212 = .ok (.invokevirtual 193, 3) := by decide +kernel
theorem dX10_add_215 : decode cX10_add 215 = .ok (.istore 8, 2) := by decide +kernel
theorem dX10_add_217 : decode cX10_add 217 = .ok (.iload 8, 2) := by decide +kernel
theorem dX10_add_219 : decode cX10_add 219 = .ok (.ifCond .ne 6, 3) := by decide +kernel
theorem dX10_add_222 : decode cX10_add 222 = .ok (.goto 26, 3) := by decide +kernel
theorem dX10_add_225 : decode cX10_add 225 = .ok (.iload 7, 2) := by decide +kernel
theorem dX10_add_227 : decode cX10_add 227 = .ok (.iload 4, 2) := by decide +kernel
theorem dX10_add_229 : decode cX10_add 229 = .ok (.if_icmp .ge 10, 3) := by decide +kernel
theorem dX10_add_232 : decode cX10_add 232 = .ok (.iload 8, 2) := by decide +kernel
theorem dX10_add_234 : decode cX10_add 234 = .ok (.istore 5, 2) := by decide +kernel
theorem dX10_add_236 : decode cX10_add 236 = .ok (.goto 12, 3) := by decide +kernel
theorem dX10_add_239 : decode cX10_add 239 = .ok (.iload 6, 2) := by decide +kernel
theorem dX10_add_241 : decode cX10_add 241 = .ok (.ifCond .ne 7, 3) := by decide +kernel
theorem dX10_add_244 : decode cX10_add 244 = .ok (.iload 8, 2) := by decide +kernel
theorem dX10_add_246 : decode cX10_add 246 = .ok (.istore 6, 2) := by decide +kernel
theorem dX10_add_248 : decode cX10_add 248 = .ok (.iinc 7 1, 3) := by decide +kernel
theorem dX10_add_251 : decode cX10_add 251 = .ok (.goto (-78), 3) := by decide +kernel
theorem dX10_add_254 : decode cX10_add 254 = .ok (.iconst 0, 1) := by decide +kernel
theorem dX10_add_255 : decode cX10_add 255 = .ok (.istore 7, 2) := by decide +kernel
theorem dX10_add_257 : decode cX10_add 257 = .ok (.iload 6, 2) := by decide +kernel
theorem dX10_add_259 : decode cX10_add 259 = .ok (.ifCond .ne 33, 3) := by decide +kernel
theorem dX10_add_262 : decode cX10_add 262 = .ok (.iload 5, 2) := by decide +kernel
theorem dX10_add_264 : decode cX10_add 264 = .ok (.ldc 173, 2) := by decide +kernel
theorem dX10_add_266 : decode cX10_add 266 = .ok (.idiv, 1) := by decide +kernel
theorem dX10_add_267 : decode cX10_add 267 = .ok (.sipush 999, 3) := by decide +kernel
theorem dX10_add_270 : decode cX10_add 270 = .ok (.if_icmp .ne 7, 3) := by decide +kernel
theorem dX10_add_273 : decode cX10_add 273 = .ok (.iconst 0, 1) := by decide +kernel
theorem dX10_add_274 : decode cX10_add 274 = .ok (.goto 13, 3) := by decide +kernel
theorem dX10_add_277 : decode cX10_add 277 = .ok (.iload 5, 2) := by decide +kernel
theorem dX10_add_279 : decode cX10_add 279 = .ok (.ldc 173, 2) := by decide +kernel
theorem dX10_add_281 : decode cX10_add 281 = .ok (.idiv, 1) := by decide +kernel
theorem dX10_add_282 : decode cX10_add 282 = .ok (.iconst 1, 1) := by decide +kernel
theorem dX10_add_283 : decode cX10_add 283 = .ok (.iadd, 1) := by decide +kernel
theorem dX10_add_284 : decode cX10_add 284 = .ok (.ldc 173, 2) := by decide +kernel
theorem dX10_add_286 : decode cX10_add 286 = .ok (.imul, 1) := by decide +kernel
theorem dX10_add_287 : decode cX10_add 287 = .ok (.istore 7, 2) := by decide +kernel
theorem dX10_add_289 : decode cX10_add 289 = .ok (.goto 43, 3) := by decide +kernel
theorem dX10_add_292 : decode cX10_add 292 = .ok (.iconst 0, 1) := by decide +kernel
theorem dX10_add_293 : decode cX10_add 293 = .ok (.istore 8, 2) := by decide +kernel
theorem dX10_add_295 : decode cX10_add 295 = .ok (.iload 8, 2) := by decide +kernel
theorem dX10_add_297 : decode cX10_add 297 = .ok (.iconst 5, 1) := by decide +kernel
theorem dX10_add_298 : decode cX10_add 298 = .ok (.if_icmp .ge 34, 3) := by decide +kernel
theorem dX10_add_301 : decode cX10_add 301 = .ok (.iload 7, 2) := by decide +kernel
theorem dX10_add_303 : decode cX10_add 303 = .ok (.ifCond .ne 29, 3) := by decide +kernel
theorem dX10_add_306 : decode cX10_add 306 = .ok (.aload_n 0, 1) := by decide +kernel
theorem dX10_add_307 : decode cX10_add 307 = .ok (.iload 5, 2) := by decide +kernel
theorem dX10_add_309 : decode cX10_add 309 = .ok (.iload 8, 2) := by decide +kernel
theorem dX10_add_311 : decode cX10_add 311 = .ok (.invokevirtual 196, 3) := by decide +kernel
theorem dX10_add_314 : decode cX10_add 314 = .ok (.istore 7, 2) := by decide +kernel
theorem dX10_add_316 : decode cX10_add 316 = .ok (.iload 7, 2) := by decide +kernel
theorem dX10_add_318 : decode cX10_add 318 = .ok (.iload 6, 2) := by decide +kernel
theorem dX10_add_320 : decode cX10_add 320 = .ok (.if_icmp .lt 6, 3) := by decide +kernel
theorem dX10_add_323 : decode cX10_add 323 = .ok (.iconst 0, 1) := by decide +kernel
theorem dX10_add_324 : decode cX10_add 324 = .ok (.istore 7, 2) := by decide +kernel
theorem dX10_add_326 : decode cX10_add 326 = .ok (.iinc 8 1, 3) := by decide +kernel
theorem dX10_add_329 : decode cX10_add 329 = .ok (.goto (-34), 3) := by decide +kernel
theorem dX10_add_332 : decode cX10_add 332 = .ok (.iload 7, 2) := by decide +kernel
theorem dX10_add_334 : decode cX10_add 334 = .ok (.ifCond .ne 6, 3) := by decide +kernel
theorem dX10_add_337 : decode cX10_add 337 = .ok (.bipush (-2), 2) := by decide +kernel
theorem dX10_add_339 : decode cX10_add 339 = .ok (.ireturn, 1) := by decide +kernel
theorem dX10_add_340 : decode cX10_add 340 = .ok (.aload_n 0, 1) := by decide +kernel
theorem dX10_add_341 : decode cX10_add 341 = .ok (.iconst 0, 1) := by decide +kernel
theorem dX10_add_342 : decode cX10_add 342 = .ok (.iload_n 3, 1) := by decide +kernel
theorem dX10_add_343 : decode cX10_add 343 = .ok (.invokevirtual 199, 3) := by decide +kernel
theorem dX10_add_346 : decode cX10_add 346 = .ok (.aload_n 0, 1) := by decide +kernel
theorem dX10_add_347 : decode cX10_add 347 = .ok (.getfield 157, 3) := by decide +kernel
theorem dX10_add_350 : decode cX10_add 350 = .ok (.istore 8, 2) := by decide +kernel
theorem dX10_add_352 : decode cX10_add 352 = .ok (.iload 8, 2) := by decide +kernel
theorem dX10_add_354 : decode cX10_add 354 = .ok (.iload 4, 2) := by decide +kernel
theorem dX10_add_356 : decode cX10_add 356 = .ok (.if_icmp .le 25, 3) := by decide +kernel
theorem dX10_add_359 : decode cX10_add 359 = .ok (.aload_n 0, 1) := by decide +kernel
theorem dX10_add_360 : decode cX10_add 360 = .ok (.getfield 43, 3) := by decide +kernel
theorem dX10_add_363 : decode cX10_add 363 = .ok (.iload 8, 2) := by decide +kernel
theorem dX10_add_365 : decode cX10_add 365 = .ok (.aload_n 0, 1) := by decide +kernel
theorem dX10_add_366 : decode cX10_add 366 = .ok (.getfield 43, 3) := by decide +kernel
theorem dX10_add_369 : decode cX10_add 369 = .ok (.iload 8, 2) := by decide +kernel
theorem dX10_add_371 : decode cX10_add 371 = .ok (.iconst 1, 1) := by decide +kernel
theorem dX10_add_372 : decode cX10_add 372 = .ok (.isub, 1) := by decide +kernel
theorem dX10_add_373 : decode cX10_add 373 = .ok (.iaload, 1) := by decide +kernel
theorem dX10_add_374 : decode cX10_add 374 = .ok (.iastore, 1) := by decide +kernel
theorem dX10_add_375 : decode cX10_add 375 = .ok (.iinc 8 (-1), 3) := by decide +kernel
theorem dX10_add_378 : decode cX10_add 378 = .ok (.goto (-26), 3) := by decide +kernel
theorem dX10_add_381 : decode cX10_add 381 = .ok (.aload_n 0, 1) := by decide +kernel
theorem dX10_add_382 : decode cX10_add 382 = .ok (.getfield 43, 3) := by decide +kernel
theorem dX10_add_385 : decode cX10_add 385 = .ok (.iload 4, 2) := by decide +kernel
theorem dX10_add_387 : decode cX10_add 387 = .ok (.iload_n 3, 1) := by decide +kernel
theorem dX10_add_388 : decode cX10_add 388 = .ok (.iastore, 1) := by decide +kernel
theorem dX10_add_389 : decode cX10_add 389 = .ok (.aload_n 0, 1) := by decide +kernel
theorem dX10_add_390 : decode cX10_add 390 = .ok (.getfield 46, 3) := by decide +kernel
theorem dX10_add_393 : decode cX10_add 393 = .ok (.iload_n 3, 1) := by decide +kernel
theorem dX10_add_394 : decode cX10_add 394 = .ok (.iconst 0, 1) := by decide +kernel
theorem dX10_add_395 : decode cX10_add 395 = .ok (.bastore, 1) := by decide +kernel
theorem dX10_add_396 : decode cX10_add 396 = .ok (.aload_n 0, 1) := by decide +kernel
theorem dX10_add_397 : decode cX10_add 397 = .ok (.getfield 40, 3) := by decide +kernel
theorem dX10_add_400 : decode cX10_add 400 = .ok (.iload_n 3, 1) := by decide +kernel
theorem dX10_add_401 : decode cX10_add 401 = .ok (.aload_n 0, 1) := by decide +kernel
theorem dX10_add_402 : decode cX10_add 402 = .ok (.getfield 166, 3) := by decide +kernel
theorem dX10_add_405 : decode cX10_add 405 = .ok (.iastore, 1) := by decide +kernel
theorem dX10_add_406 : decode cX10_add 406 = .ok (.aload_n 0, 1) := by decide +kernel
theorem dX10_add_407 : decode cX10_add 407 = .ok (.dup, 1) := by decide +kernel
theorem dX10_add_408 : decode cX10_add 408 = .ok (.getfield 157, 3) := by decide +kernel
theorem dX10_add_411 : decode cX10_add 411 = .ok (.iconst 1, 1) := by decide +kernel
theorem dX10_add_412 : decode cX10_add 412 = .ok (.iadd, 1) := by decide +kernel
theorem dX10_add_413 : decode cX10_add 413 = .ok (.putfield 157, 3) := by decide +kernel
theorem dX10_add_416 : decode cX10_add 416 = .ok (.aload_n 0, 1) := by decide +kernel
theorem dX10_add_417 : decode cX10_add 417 = .ok (.iload_n 3, 1) := by decide +kernel
theorem dX10_add_418 : decode cX10_add 418 = .ok (.iload 7, 2) := by decide +kernel
theorem dX10_add_420 : decode cX10_add 420 = .ok (.invokevirtual 203, 3) := by decide +kernel
theorem dX10_add_423 : decode cX10_add 423 = .ok (.iload_n 3, 1) := by decide +kernel
theorem dX10_add_424 : decode cX10_add 424 = .ok (.ireturn, 1) := by decide +kernel
set_option maxRecDepth 20000 in
theorem ggX10_strike_X10_isItem : GoodIn wsX10_strike wsX10_isItem := goodIn_r _ [7, 8, 18, 19, 20, 21, 22, 23, 24, 25, 26, 27, 28, 29, 30, 31, 32, 33, 34, 35, 36, 37, 38, 39, 40, 41, 42, 43, 44, 45, 46, 47, 48, 49, 50, 51, 52, 53, 54, 55, 56, 57, 58, 59] (by decide +kernel) (by decide +kernel)
set_option maxRecDepth 20000 in
theorem gX10_strike_X10_isItem : GoodIn wsX10_strike (wsV RX10 181 RX10 yX10_isItem wsX10_isItem) := goodIn_app (goodIn_of _ (by decide +kernel)) ggX10_strike_X10_isItem
set_option maxRecDepth 20000 in
theorem ggX10_strike_X10_act : GoodIn wsX10_strike wsX10_act := goodIn_r _ [12, 13, 14, 15, 16, 17, 18, 19, 20, 21, 22, 23, 24, 25, 26, 27, 28, 29, 30, 31, 32, 33, 34, 35, 36, 37, 38, 39, 40, 41, 42, 43, 44, 45, 46, 47, 48, 49, 50, 51, 52, 53, 54, 55, 56, 57, 58, 59] (by decide +kernel) (by decide +kernel)
set_option maxRecDepth 20000 in
theorem gX10_strike_X10_act : GoodIn wsX10_strike (wsV RX10 199 RX10 yX10_act wsX10_act) := goodIn_app (goodIn_of _ (by decide +kernel)) ggX10_strike_X10_act
theorem dX10_strike_0 : decode cX10_strike 0 = .ok (.aload_n 0, 1) := by decide +kernel
theorem dX10_strike_1 : decode cX10_strike 1 = .ok (.iconst 0, 1) := by decide +kernel
theorem dX10_strike_2 : decode cX10_strike 2 = .ok (.putfield 86, 3) := by decide +kernel
theorem dX10_strike_5 : decode cX10_strike 5 = .ok (.aload_n 0, 1) := by decide +kernel
theorem dX10_strike_6 : decode cX10_strike 6 = .ok (.iload_n 1, 1) := by decide +kernel
theorem dX10_strike_7 : decode cX10_strike 7 = .ok (.invokevirtual 181, 3) := by decide +kernel
theorem dX10_strike_10 : decode cX10_strike 10 = .ok (.ifCond .eq 12, 3) := by decide +kernel
theorem dX10_strike_13 : decode cX10_strike 13 = .ok (.aload_n 0, 1) := by decide +kernel
theorem dX10_strike_14 : decode cX10_strike 14 = .ok (.getfield 46, 3) := by decide +kernel
theorem dX10_strike_17 : decode cX10_strike 17 = .ok (.iload_n 1, 1) := by decide +kernel
theorem dX10_strike_18 : decode cX10_strike 18 = .ok (.baload, 1) := by decide +kernel
theorem dX10_strike_19 : decode cX10_strike 19 = .ok (.ifCond .eq 5, 3) := by decide +kernel
theorem dX10_strike_22 : decode cX10_strike 22 = .ok (.iconst 0, 1) := by decide +kernel
theorem dX10_strike_23 : decode cX10_strike 23 = .ok (.ireturn, 1) := by decide +kernel
theorem dX10_strike_24 : decode cX10_strike 24 = .ok (.aload_n 0, 1) := by decide +kernel
theorem dX10_strike_25 : decode cX10_strike 25 = .ok (.iconst 1, 1) := by decide +kernel
theorem dX10_strike_26 : decode cX10_strike 26 = .ok (.iload_n 1, 1) := by decide +kernel
theorem dX10_strike_27 : decode cX10_strike 27 = .ok (.invokevirtual 199, 3) := by decide +kernel
theorem dX10_strike_30 : decode cX10_strike 30 = .ok (.aload_n 0, 1) := by decide +kernel
theorem dX10_strike_31 : decode cX10_strike 31 = .ok (.getfield 46, 3) := by decide +kernel
theorem dX10_strike_34 : decode cX10_strike 34 = .ok (.iload_n 1, 1) := by decide +kernel
theorem dX10_strike_35 : decode cX10_strike 35 = .ok (.iconst 1, 1) := by decide +kernel
theorem dX10_strike_36 : decode cX10_strike 36 = .ok (.bastore, 1) := by decide +kernel
theorem dX10_strike_37 : decode cX10_strike 37 = .ok (.iconst 1, 1) := by decide +kernel
theorem dX10_strike_38 : decode cX10_strike 38 = .ok (.ireturn, 1) := by decide +kernel
set_option maxRecDepth 20000 in
theorem ggX10_renumber_X10_isItem : GoodIn wsX10_renumber wsX10_isItem := goodIn_r _ [10, 2, 35, 36, 37, 38, 39, 40, 41, 42, 43, 44, 45, 46, 47, 48, 49, 50, 51, 52, 53, 54, 55, 56, 57, 58, 59, 60, 61, 62, 63, 64, 65, 66, 67, 68, 69, 70, 71, 72, 73, 74, 75, 76] (by decide +kernel) (by decide +kernel)
set_option maxRecDepth 20000 in
theorem gX10_renumber_X10_isItem : GoodIn wsX10_renumber (wsV RX10 181 RX10 yX10_isItem wsX10_isItem) := goodIn_app (goodIn_of _ (by decide +kernel)) ggX10_renumber_X10_isItem
set_option maxRecDepth 20000 in
theorem ggX10_renumber_X10_act : GoodIn wsX10_renumber wsX10_act := goodIn_r _ [14, 15, 16, 17, 18, 19, 35, 36, 37, 38, 39, 40, 41, 42, 43, 44, 45, 46, 47, 48, 49, 50, 51, 52, 53, 54, 55, 56, 57, 58, 59, 60, 61, 62, 63, 64, 65, 66, 67, 68, 69, 70, 71, 72, 73, 74, 75, 76] (by decide +kernel) (by decide +kernel)
set_option maxRecDepth 20000 in
theorem gX10_renumber_X10_act : GoodIn wsX10_renumber (wsV RX10 199 RX10 yX10_act wsX10_act) := goodIn_app (goodIn_of _ (by decide +kernel)) ggX10_renumber_X10_act
set_option maxRecDepth 20000 in
theorem ggX10_renumber_X10_isInRow : GoodIn wsX10_renumber wsX10_isInRow := goodIn_r _ [23, 24, 25, 26, 35, 36, 37, 38, 39, 40, 41, 42, 43, 44, 45, 46, 47, 48, 49, 50, 51, 52, 53, 54, 55, 56, 57, 58, 59, 60, 61, 62, 63, 64, 65, 66, 67, 68, 69, 70, 71, 72, 73, 74, 75, 76] (by decide +kernel) (by decide +kernel)
set_option maxRecDepth 20000 in
theorem gX10_renumber_X10_isInRow : GoodIn wsX10_renumber (wsV RX10 190 RX10 yX10_isInRow wsX10_isInRow) := goodIn_app (goodIn_of _ (by decide +kernel)) ggX10_renumber_X10_isInRow
set_option maxRecDepth 20000 in
theorem ggX10_renumber_X10_change : GoodIn wsX10_renumber wsX10_change := goodIn_r _ [30, 31, 19, 32, 33, 34, 35, 36, 37, 38, 39, 40, 41, 42, 43, 44, 45, 46, 47, 48, 49, 50, 51, 52, 53, 54, 55, 56, 57, 58, 59, 60, 61, 62, 63, 64, 65, 66, 67, 68, 69, 70, 71, 72, 73, 74, 75, 76] (by decide +kernel) (by decide +kernel)
set_option maxRecDepth 20000 in
theorem gX10_renumber_X10_change : GoodIn wsX10_renumber (wsV RX10 203 RX10 yX10_change wsX10_change) := goodIn_app (goodIn_of _ (by decide +kernel)) ggX10_renumber_X10_change
theorem dX10_renumber_0 : decode cX10_renumber 0 = .ok (.aload_n 0, 1) := by decide +kernel
theorem dX10_renumber_1 : decode cX10_renumber 1 = .ok (.iconst 0, 1) := by decide +kernel
theorem dX10_renumber_2 : decode cX10_renumber 2 = .ok (.putfield 86, 3) := by decide +kernel
theorem dX10_renumber_5 : decode cX10_renumber 5 = .ok (.aload_n 0, 1) := by decide +kernel
theorem dX10_renumber_6 : decode cX10_renumber 6 = .ok (.iload_n 1, 1) := by decide +kernel
theorem dX10_renumber_7 : decode cX10_renumber 7 = .ok (.invokevirtual 181, 3) := by decide +kernel
theorem dX10_renumber_10 : decode cX10_renumber 10 = .ok (.ifCond .ne 5, 3) := by decide +kernel
theorem dX10_renumber_13 : decode cX10_renumber 13 = .ok (.iconst 0, 1) := by decide +kernel
theorem dX10_renumber_14 : decode cX10_renumber 14 = .ok (.ireturn, 1) := by decide +kernel
theorem dX10_renumber_15 : decode cX10_renumber 15 = .ok (.aload_n 0, 1) := by decide +kernel
theorem dX10_renumber_16 : decode cX10_renumber 16 = .ok (.iconst 2, 1) := by decide +kernel
theorem dX10_renumber_17 : decode cX10_renumber 17 = .ok (.iload_n 1, 1) := by decide +kernel
theorem dX10_renumber_18 : decode cX10_renumber 18 = .ok (.invokevirtual 199, 3) := by decide +kernel
theorem dX10_renumber_21 : decode cX10_renumber 21 = .ok (.iconst 0, 1) := by decide +kernel
theorem dX10_renumber_22 : decode cX10_renumber 22 = .ok (.istore_n 2, 1) := by decide +kernel
theorem dX10_renumber_23 : decode cX10_renumber 23 = .ok (.iconst 0, 1) := by decide +kernel
theorem dX10_renumber_24 : decode cX10_renumber 24 = .ok (.istore_n 3, 1) := by decide +kernel
theorem dX10_renumber_25 : decode cX10_renumber 25 = .ok (.iload_n 3, 1) := by decide +kernel
theorem dX10_renumber_26 : decode cX10_renumber 26 = .ok (.aload_n 0, 1) := by decide +kernel
theorem dX10_renumber_27 : decode cX10_renumber 27 = .ok (.getfield 157, 3) := by decide +kernel
theorem dX10_renumber_30 : decode cX10_renumber 30 = .ok (.if_icmp .ge 67, 3) := by decide +kernel
theorem dX10_renumber_33 : decode cX10_renumber 33 = .ok (.aload_n 0, 1) := by decide +kernel
theorem dX10_renumber_34 : decode cX10_renumber 34 = .ok (.getfield 43, 3) := by decide +kernel
theorem dX10_renumber_37 : decode cX10_renumber 37 = .ok (.iload_n 3, 1) := by decide +kernel
theorem dX10_renumber_38 : decode cX10_renumber 38 = .ok (.iaload, 1) := by decide +kernel
theorem dX10_renumber_39 : decode cX10_renumber 39 = .ok (.istore 4, 2) := by decide +kernel
theorem dX10_renumber_41 : decode cX10_renumber 41 = .ok (.aload_n 0, 1) := by decide +kernel
theorem dX10_renumber_42 : decode cX10_renumber 42 = .ok (.iload 4, 2) := by decide +kernel
theorem dX10_renumber_44 : decode cX10_renumber 44 = .ok (.iload_n 1, 1) := by decide +kernel
theorem dX10_renumber_45 : decode cX10_renumber 45 = .ok (.invokevirtual 190, 3) := by decide +kernel
theorem dX10_renumber_48 : decode cX10_renumber 48 = .ok (.ifCond .ne 6, 3) := by decide +kernel
theorem dX10_renumber_51 : decode cX10_renumber 51 = .ok (.goto 40, 3) := by decide +kernel
theorem dX10_renumber_54 : decode cX10_renumber 54 = .ok (.aload_n 0, 1) := by decide +kernel
theorem dX10_renumber_55 : decode cX10_renumber 55 = .ok (.getfield 46, 3) := by decide +kernel
theorem dX10_renumber_58 : decode cX10_renumber 58 = .ok (.iload 4, 2) := by decide +kernel
theorem dX10_renumber_60 : decode cX10_renumber 60 = .ok (.baload, 1) := by decide +kernel
theorem dX10_renumber_61 : decode cX10_renumber 61 = .ok (.ifCond .ne 6, 3) := by decide +kernel
theorem dX10_renumber_64 : decode cX10_renumber 64 = .ok (.iinc 2 1, 3) := by decide +kernel
theorem dX10_renumber_67 : decode cX10_renumber 67 = .ok (.aload_n 0, 1) := by decide +kernel
theorem dX10_renumber_68 : decode cX10_renumber 68 = .ok (.iload 4, 2) := by decide +kernel
theorem dX10_renumber_70 : decode cX10_renumber 70 = .ok (.aload_n 0, 1) := by decide +kernel
theorem dX10_renumber_71 : decode cX10_renumber 71 = .ok (.getfield 46, 3) := by decide +kernel
theorem dX10_renumber_74 : decode cX10_renumber 74 = .ok (.iload 4, 2) := by decide +kernel
theorem dX10_renumber_76 : decode cX10_renumber 76 = .ok (.baload, 1) := by decide +kernel
theorem dX10_renumber_77 : decode cX10_renumber 77 = .ok (.ifCond .eq 7, 3) := by decide +kernel
theorem dX10_renumber_80 : decode cX10_renumber 80 = .ok (.iconst 0, 1) := by decide +kernel
theorem dX10_renumber_81 : decode cX10_renumber 81 = .ok (.goto 7, 3) := by decide +kernel
theorem dX10_renumber_84 : decode cX10_renumber 84 = .ok (.iload_n 2, 1) := by decide +kernel
theorem dX10_renumber_85 : decode cX10_renumber 85 = .ok (.ldc 173, 2) := by decide +kernel
theorem dX10_renumber_87 : decode cX10_renumber 87 = .ok (.imul, 1) := by decide +kernel
theorem dX10_renumber_88 : decode cX10_renumber 88 = .ok (.invokevirtual 203, 3) := by decide +kernel
theorem dX10_renumber_91 : decode cX10_renumber 91 = .ok (.iinc 3 1, 3) := by decide +kernel
theorem dX10_renumber_94 : decode cX10_renumber 94 = .ok (.goto (-69), 3) := by decide +kernel
theorem dX10_renumber_97 : decode cX10_renumber 97 = .ok (.iconst 1, 1) := by decide +kernel
theorem dX10_renumber_98 : decode cX10_renumber 98 = .ok (.ireturn, 1) := by decide +kernel
set_option maxRecDepth 20000 in
theorem ggX10_error_X10_isItem : GoodIn wsX10_error wsX10_isItem := goodIn_r _ [8, 9, 34, 35, 36, 37, 38, 39, 40, 41, 42, 43, 44, 45, 46, 47, 48, 49, 50, 51, 52, 53, 54, 55, 56, 57, 58, 59, 60, 61, 62, 63, 64, 65, 66, 67, 68, 69, 70, 71, 72, 73, 74, 75] (by decide +kernel) (by decide +kernel)
set_option maxRecDepth 20000 in
theorem gX10_error_X10_isItem : GoodIn wsX10_error (wsV RX10 181 RX10 yX10_isItem wsX10_isItem) := goodIn_app (goodIn_of _ (by decide +kernel)) ggX10_error_X10_isItem
set_option maxRecDepth 20000 in
theorem ggX10_error_X10_isGreat : GoodIn wsX10_error wsX10_isGreat := goodIn_r _ [12] (by decide +kernel) (by decide +kernel)
set_option maxRecDepth 20000 in
theorem gX10_error_X10_isGreat : GoodIn wsX10_error (va_wsS RX10 206 yX10_isGreat wsX10_isGreat) := goodIn_app (goodIn_of _ (by decide +kernel)) ggX10_error_X10_isGreat
set_option maxRecDepth 20000 in
theorem ggX10_error_X10_act : GoodIn wsX10_error wsX10_act := goodIn_r _ [16, 17, 18, 19, 20, 21, 34, 35, 36, 37, 38, 39, 40, 41, 42, 43, 44, 45, 46, 47, 48, 49, 50, 51, 52, 53, 54, 55, 56, 57, 58, 59, 60, 61, 62, 63, 64, 65, 66, 67, 68, 69, 70, 71, 72, 73, 74, 75] (by decide +kernel) (by decide +kernel)
set_option maxRecDepth 20000 in
theorem gX10_error_X10_act : GoodIn wsX10_error (wsV RX10 199 RX10 yX10_act wsX10_act) := goodIn_app (goodIn_of _ (by decide +kernel)) ggX10_error_X10_act
set_option maxRecDepth 20000 in
theorem ggX10_error_X10_suffixInHand : GoodIn wsX10_error wsX10_suffixInHand := goodIn_r _ [25, 2, 34, 35, 36, 37, 38, 39, 40, 41, 42, 43, 44, 45, 46, 47, 48, 49, 50, 51, 52, 53, 54, 55, 56, 57, 58, 59, 60, 61, 62, 63, 64, 65, 66, 67, 68, 69, 70, 71, 72, 73, 74, 75] (by decide +kernel) (by decide +kernel)
set_option maxRecDepth 20000 in
theorem gX10_error_X10_suffixInHand : GoodIn wsX10_error (wsV RX10 178 RX10 yX10_suffixInHand wsX10_suffixInHand) := goodIn_app (goodIn_of _ (by decide +kernel)) ggX10_error_X10_suffixInHand
set_option maxRecDepth 20000 in
theorem ggX10_error_X10_change : GoodIn wsX10_error wsX10_change := goodIn_r _ [29, 30, 21, 31, 32, 33, 34, 35, 36, 37, 38, 39, 40, 41, 42, 43, 44, 45, 46, 47, 48, 49, 50, 51, 52, 53, 54, 55, 56, 57, 58, 59, 60, 61, 62, 63, 64, 65, 66, 67, 68, 69, 70, 71, 72, 73, 74, 75] (by decide +kernel) (by decide +kernel)
set_option maxRecDepth 20000 in
theorem gX10_error_X10_change : GoodIn wsX10_error (wsV RX10 203 RX10 yX10_change wsX10_change) := goodIn_app (goodIn_of _ (by decide +kernel)) ggX10_error_X10_change
theorem dX10_error_0 : decode cX10_error 0 = .ok (.aload_n 0, 1) := by decide +kernel
theorem dX10_error_1 : decode cX10_error 1 = .ok (.iconst 0, 1) := by decide +kernel
theorem dX10_error_2 : decode cX10_error 2 = .ok (.putfield 86, 3) := by decide +kernel
theorem dX10_error_5 : decode cX10_error 5 = .ok (.aload_n 0, 1) := by decide +kernel
theorem dX10_error_6 : decode cX10_error 6 = .ok (.iload_n 1, 1) := by decide +kernel
theorem dX10_error_7 : decode cX10_error 7 = .ok (.invokevirtual 181, 3) := by decide +kernel
theorem dX10_error_10 : decode cX10_error 10 = .ok (.ifCond .eq 15, 3) := by decide +kernel
theorem dX10_error_13 : decode cX10_error 13 = .ok (.iload_n 2, 1) := by decide +kernel
theorem dX10_error_14 : decode cX10_error 14 = .ok (.iconst 1, 1) := by decide +kernel
theorem dX10_error_15 : decode cX10_error 15 = .ok (.if_icmp .lt 10, 3) := by decide +kernel
theorem dX10_error_18 : decode cX10_error 18 = .ok (.iload_n 2, 1) := by decide +kernel
theorem dX10_error_19 : decode cX10_error 19 = .ok (.sipush 999, 3) := by decide +kernel
theorem dX10_error_22 : decode cX10_error 22 = .ok (.if_icmp .le 5, 3) := by decide +kernel
theorem dX10_error_25 : decode cX10_error 25 = .ok (.iconst 0, 1) := by decide +kernel
theorem dX10_error_26 : decode cX10_error 26 = .ok (.ireturn, 1) := by decide +kernel
theorem dX10_error_27 : decode cX10_error 27 = .ok (.iconst 0, 1) := by decide +kernel
theorem dX10_error_28 : decode cX10_error 28 = .ok (.istore 4, 2) := by decide +kernel
theorem dX10_error_30 : decode cX10_error 30 = .ok (.iconst 0, 1) := by decide +kernel
theorem dX10_error_31 : decode cX10_error 31 = .ok (.istore 5, 2) := by decide +kernel
theorem dX10_error_33 : decode cX10_error 33 = .ok (.iload 5, 2) := by decide +kernel
theorem dX10_error_35 : decode cX10_error 35 = .ok (.iconst 4, 1) := by decide +kernel
theorem dX10_error_36 : decode cX10_error 36 = .ok (.if_icmp .ge 17, 3) := by decide +kernel
theorem dX10_error_39 : decode cX10_error 39 = .ok (.aload_n 0, 1) := by decide +kernel
theorem dX10_error_40 : decode cX10_error 40 = .ok (.getfield 68, 3) := by decide +kernel
theorem dX10_error_43 : decode cX10_error 43 = .ok (.iload 5, 2) := by decide +kernel
theorem dX10_error_45 : decode cX10_error 45 = .ok (.iconst 0, 1) := by decide +kernel
theorem dX10_error_46 : decode cX10_error 46 = .ok (.iastore, 1) := by decide +kernel
theorem dX10_error_47 : decode cX10_error 47 = .ok (.iinc 5 1, 3) := by decide +kernel
theorem dX10_error_50 : decode cX10_error 50 = .ok (.goto (-17), 3) := by decide +kernel
theorem dX10_error_53 : decode cX10_error 53 = .ok (.bipush 24, 2) := by decide +kernel
theorem dX10_error_55 : decode cX10_error 55 = .ok (.istore 5, 2) := by decide +kernel
theorem dX10_error_57 : decode cX10_error 57 = .ok (.iload 5, 2) := by decide +kernel
theorem dX10_error_59 : decode cX10_error 59 = .ok (.ifCond .lt 57, 3) := by decide +kernel
theorem dX10_error_62 : decode cX10_error 62 = .ok (.iload_n 3, 1) := by decide +kernel
theorem dX10_error_63 : decode cX10_error 63 = .ok (.iload 5, 2) := by decide +kernel
theorem dX10_error_65 : decode cX10_error 65 = .ok (.ishr, 1) := by decide +kernel
theorem dX10_error_66 : decode cX10_error 66 = .ok (.sipush 255, 3) := by decide +kernel
theorem dX10_error_69 : decode cX10_error 69 = .ok (.iand, 1) := by decide +kernel
theorem dX10_error_70 : decode cX10_error 70 = .ok (.istore 6, 2) := by decide +kernel
theorem dX10_error_72 : decode cX10_error 72 = .ok (.iload 6, 2) := by decide +kernel
theorem dX10_error_74 : decode cX10_error 74 = .ok (.ifCond .ne 11, 3) := by decide +kernel
theorem dX10_error_77 : decode cX10_error 77 = .ok (.iload 4, 2) := by decide +kernel
theorem dX10_error_79 : decode cX10_error 79 = .ok (.ifCond .ne 6, 3) := by decide +kernel
theorem dX10_error_82 : decode cX10_error 82 = .ok (.goto 28, 3) := by decide +kernel
theorem dX10_error_85 : decode cX10_error 85 = .ok (.iload 6, 2) := by decide +kernel
theorem dX10_error_87 : decode cX10_error 87 = .ok (.invokestatic 206, 3) := by decide +kernel
theorem dX10_error_90 : decode cX10_error 90 = .ok (.ifCond .ne 5, 3) := by decide +kernel
theorem dX10_error_93 : decode cX10_error 93 = .ok (.iconst 0, 1) := by decide +kernel
theorem dX10_error_94 : decode cX10_error 94 = .ok (.ireturn, 1) := by decide +kernel
theorem dX10_error_95 : decode cX10_error 95 = .ok (.aload_n 0, 1) := by decide +kernel
theorem dX10_error_96 : decode cX10_error 96 = .ok (.getfield 68, 3) := by decide +kernel
theorem dX10_error_99 : decode cX10_error 99 = .ok (.iload 4, 2) := by decide +kernel
theorem dX10_error_101 : decode cX10_error 101 = .ok (.iload 6, 2) := by decide +kernel
end
section
theorem dX10_error_103 : decode cX10_error 103 = .ok (.bipush 64, 2) := by decide +kernel
theorem dX10_error_105 : decode cX10_error 105 = .ok (.isub, 1) := by decide +kernel
theorem dX10_error_106 : decode cX10_error 106 = .ok (.iastore, 1) := by decide +kernel
theorem dX10_error_107 : decode cX10_error 107 = .ok (.iinc 4 1, 3) := by decide +kernel
theorem dX10_error_110 : decode cX10_error 110 = .ok (.iinc 5 (-8), 3) := by decide +kernel
theorem dX10_error_113 : decode cX10_error 113 = .ok (.goto (-56), 3) := by decide +kernel
theorem dX10_error_116 : decode cX10_error 116 = .ok (.aload_n 0, 1) := by decide +kernel
theorem dX10_error_117 : decode cX10_error 117 = .ok (.iconst 3, 1) := by decide +kernel
theorem dX10_error_118 : decode cX10_error 118 = .ok (.iload_n 1, 1) := by decide +kernel
theorem dX10_error_119 : decode cX10_error 119 = .ok (.invokevirtual 199, 3) := by decide +kernel
theorem dX10_error_122 : decode cX10_error 122 = .ok (.aload_n 0, 1) := by decide +kernel
theorem dX10_error_123 : decode cX10_error 123 = .ok (.iload_n 1, 1) := by decide +kernel
theorem dX10_error_124 : decode cX10_error 124 = .ok (.iload_n 2, 1) := by decide +kernel
theorem dX10_error_125 : decode cX10_error 125 = .ok (.ldc 173, 2) := by decide +kernel
theorem dX10_error_127 : decode cX10_error 127 = .ok (.imul, 1) := by decide +kernel
theorem dX10_error_128 : decode cX10_error 128 = .ok (.aload_n 0, 1) := by decide +kernel
theorem dX10_error_129 : decode cX10_error 129 = .ok (.invokevirtual 178, 3) := by decide +kernel
theorem dX10_error_132 : decode cX10_error 132 = .ok (.iadd, 1) := by decide +kernel
theorem dX10_error_133 : decode cX10_error 133 = .ok (.invokevirtual 203, 3) := by decide +kernel
theorem dX10_error_136 : decode cX10_error 136 = .ok (.iconst 1, 1) := by decide +kernel
theorem dX10_error_137 : decode cX10_error 137 = .ok (.ireturn, 1) := by decide +kernel
set_option maxRecDepth 20000 in
theorem ggX10_undo_X10_placeOf : GoodIn wsX10_undo wsX10_placeOf := goodIn_r _ [14, 9, 15, 16, 17, 18, 19, 20, 21, 22, 23, 24, 25, 26, 27, 28, 29, 30, 31, 32, 33, 34, 35, 36, 37, 38, 39, 40, 41, 42, 43, 44, 45, 46, 47, 48, 49, 50, 51, 52, 53, 54, 55, 56] (by decide +kernel) (by decide +kernel)
set_option maxRecDepth 20000 in
theorem gX10_undo_X10_placeOf : GoodIn wsX10_undo (wsV RX10 184 RX10 yX10_placeOf wsX10_placeOf) := goodIn_app (goodIn_of _ (by decide +kernel)) ggX10_undo_X10_placeOf
theorem dX10_undo_0 : decode cX10_undo 0 = .ok (.aload_n 0, 1) := by decide +kernel
theorem dX10_undo_1 : decode cX10_undo 1 = .ok (.iconst 0, 1) := by decide +kernel
theorem dX10_undo_2 : decode cX10_undo 2 = .ok (.putfield 86, 3) := by decide +kernel
theorem dX10_undo_5 : decode cX10_undo 5 = .ok (.aload_n 0, 1) := by decide +kernel
theorem dX10_undo_6 : decode cX10_undo 6 = .ok (.getfield 163, 3) := by decide +kernel
theorem dX10_undo_9 : decode cX10_undo 9 = .ok (.ifCond .ne 5, 3) := by decide +kernel
theorem dX10_undo_12 : decode cX10_undo 12 = .ok (.iconst 0, 1) := by decide +kernel
theorem dX10_undo_13 : decode cX10_undo 13 = .ok (.ireturn, 1) := by decide +kernel
theorem dX10_undo_14 : decode cX10_undo 14 = .ok (.aload_n 0, 1) := by decide +kernel
theorem dX10_undo_15 : decode cX10_undo 15 = .ok (.dup, 1) := by decide +kernel
theorem dX10_undo_16 : decode cX10_undo 16 = .ok (.getfield 163, 3) := by decide +kernel
theorem dX10_undo_19 : decode cX10_undo 19 = .ok (.iconst 1, 1) := by decide +kernel
theorem dX10_undo_20 : decode cX10_undo 20 = .ok (.isub, 1) := by decide +kernel
theorem dX10_undo_21 : decode cX10_undo 21 = .ok (.putfield 163, 3) := by decide +kernel
theorem dX10_undo_24 : decode cX10_undo 24 = .ok (.aload_n 0, 1) := by decide +kernel
theorem dX10_undo_25 : decode cX10_undo 25 = .ok (.aload_n 0, 1) := by decide +kernel
theorem dX10_undo_26 : decode cX10_undo 26 = .ok (.getfield 65, 3) := by decide +kernel
theorem dX10_undo_29 : decode cX10_undo 29 = .ok (.aload_n 0, 1) := by decide +kernel
theorem dX10_undo_30 : decode cX10_undo 30 = .ok (.getfield 163, 3) := by decide +kernel
theorem dX10_undo_33 : decode cX10_undo 33 = .ok (.iaload, 1) := by decide +kernel
theorem dX10_undo_34 : decode cX10_undo 34 = .ok (.putfield 160, 3) := by decide +kernel
theorem dX10_undo_37 : decode cX10_undo 37 = .ok (.aload_n 0, 1) := by decide +kernel
theorem dX10_undo_38 : decode cX10_undo 38 = .ok (.getfield 62, 3) := by decide +kernel
theorem dX10_undo_41 : decode cX10_undo 41 = .ok (.aload_n 0, 1) := by decide +kernel
theorem dX10_undo_42 : decode cX10_undo 42 = .ok (.getfield 163, 3) := by decide +kernel
theorem dX10_undo_45 : decode cX10_undo 45 = .ok (.iaload, 1) := by decide +kernel
theorem dX10_undo_46 : decode cX10_undo 46 = .ok (.istore_n 1, 1) := by decide +kernel
theorem dX10_undo_47 : decode cX10_undo 47 = .ok (.aload_n 0, 1) := by decide +kernel
theorem dX10_undo_48 : decode cX10_undo 48 = .ok (.getfield 59, 3) := by decide +kernel
theorem dX10_undo_51 : decode cX10_undo 51 = .ok (.aload_n 0, 1) := by decide +kernel
theorem dX10_undo_52 : decode cX10_undo 52 = .ok (.getfield 163, 3) := by decide +kernel
theorem dX10_undo_55 : decode cX10_undo 55 = .ok (.iaload, 1) := by decide +kernel
theorem dX10_undo_56 : decode cX10_undo 56 = .ok (.iconst 1, 1) := by decide +kernel
theorem dX10_undo_57 : decode cX10_undo 57 = .ok (.if_icmp .ne 10, 3) := by decide +kernel
theorem dX10_undo_60 : decode cX10_undo 60 = .ok (.aload_n 0, 1) := by decide +kernel
theorem dX10_undo_61 : decode cX10_undo 61 = .ok (.getfield 46, 3) := by decide +kernel
theorem dX10_undo_64 : decode cX10_undo 64 = .ok (.iload_n 1, 1) := by decide +kernel
theorem dX10_undo_65 : decode cX10_undo 65 = .ok (.iconst 0, 1) := by decide +kernel
theorem dX10_undo_66 : decode cX10_undo 66 = .ok (.bastore, 1) := by decide +kernel
theorem dX10_undo_67 : decode cX10_undo 67 = .ok (.aload_n 0, 1) := by decide +kernel
theorem dX10_undo_68 : decode cX10_undo 68 = .ok (.getfield 59, 3) := by decide +kernel
theorem dX10_undo_71 : decode cX10_undo 71 = .ok (.aload_n 0, 1) := by decide +kernel
theorem dX10_undo_72 : decode cX10_undo 72 = .ok (.getfield 163, 3) := by decide +kernel
theorem dX10_undo_75 : decode cX10_undo 75 = .ok (.iaload, 1) := by decide +kernel
theorem dX10_undo_76 : decode cX10_undo 76 = .ok (.ifCond .eq 5, 3) := by decide +kernel
theorem dX10_undo_79 : decode cX10_undo 79 = .ok (.iconst 1, 1) := by decide +kernel
theorem dX10_undo_80 : decode cX10_undo 80 = .ok (.ireturn, 1) := by decide +kernel
theorem dX10_undo_81 : decode cX10_undo 81 = .ok (.aload_n 0, 1) := by decide +kernel
theorem dX10_undo_82 : decode cX10_undo 82 = .ok (.iload_n 1, 1) := by decide +kernel
theorem dX10_undo_83 : decode cX10_undo 83 = .ok (.invokevirtual 184, 3) := by decide +kernel
theorem dX10_undo_86 : decode cX10_undo 86 = .ok (.istore_n 2, 1) := by decide +kernel
theorem dX10_undo_87 : decode cX10_undo 87 = .ok (.aload_n 0, 1) := by decide +kernel
theorem dX10_undo_88 : decode cX10_undo 88 = .ok (.dup, 1) := by decide +kernel
theorem dX10_undo_89 : decode cX10_undo 89 = .ok (.getfield 157, 3) := by decide +kernel
theorem dX10_undo_92 : decode cX10_undo 92 = .ok (.iconst 1, 1) := by decide +kernel
theorem dX10_undo_93 : decode cX10_undo 93 = .ok (.isub, 1) := by decide +kernel
theorem dX10_undo_94 : decode cX10_undo 94 = .ok (.putfield 157, 3) := by decide +kernel
theorem dX10_undo_97 : decode cX10_undo 97 = .ok (.iload_n 2, 1) := by decide +kernel
theorem dX10_undo_98 : decode cX10_undo 98 = .ok (.istore_n 3, 1) := by decide +kernel
theorem dX10_undo_99 : decode cX10_undo 99 = .ok (.iload_n 3, 1) := by decide +kernel
theorem dX10_undo_100 : decode cX10_undo 100 = .ok (.aload_n 0, 1) := by decide +kernel
theorem dX10_undo_101 : decode cX10_undo 101 = .ok (.getfield 157, 3) := by decide +kernel
theorem dX10_undo_104 : decode cX10_undo 104 = .ok (.if_icmp .ge 23, 3) := by decide +kernel
theorem dX10_undo_107 : decode cX10_undo 107 = .ok (.aload_n 0, 1) := by decide +kernel
theorem dX10_undo_108 : decode cX10_undo 108 = .ok (.getfield 43, 3) := by decide +kernel
theorem dX10_undo_111 : decode cX10_undo 111 = .ok (.iload_n 3, 1) := by decide +kernel
theorem dX10_undo_112 : decode cX10_undo 112 = .ok (.aload_n 0, 1) := by decide +kernel
theorem dX10_undo_113 : decode cX10_undo 113 = .ok (.getfield 43, 3) := by decide +kernel
theorem dX10_undo_116 : decode cX10_undo 116 = .ok (.iload_n 3, 1) := by decide +kernel
theorem dX10_undo_117 : decode cX10_undo 117 = .ok (.iconst 1, 1) := by decide +kernel
theorem dX10_undo_118 : decode cX10_undo 118 = .ok (.iadd, 1) := by decide +kernel
theorem dX10_undo_119 : decode cX10_undo 119 = .ok (.iaload, 1) := by decide +kernel
theorem dX10_undo_120 : decode cX10_undo 120 = .ok (.iastore, 1) := by decide +kernel
theorem dX10_undo_121 : decode cX10_undo 121 = .ok (.iinc 3 1, 3) := by decide +kernel
theorem dX10_undo_124 : decode cX10_undo 124 = .ok (.goto (-25), 3) := by decide +kernel
theorem dX10_undo_127 : decode cX10_undo 127 = .ok (.iconst 1, 1) := by decide +kernel
theorem dX10_undo_128 : decode cX10_undo 128 = .ok (.ireturn, 1) := by decide +kernel
theorem dX10_wait_0 : decode cX10_wait 0 = .ok (.aload_n 0, 1) := by decide +kernel
theorem dX10_wait_1 : decode cX10_wait 1 = .ok (.iconst 0, 1) := by decide +kernel
theorem dX10_wait_2 : decode cX10_wait 2 = .ok (.putfield 86, 3) := by decide +kernel
theorem dX10_wait_5 : decode cX10_wait 5 = .ok (.iload_n 1, 1) := by decide +kernel
theorem dX10_wait_6 : decode cX10_wait 6 = .ok (.ifCond .lt 22, 3) := by decide +kernel
theorem dX10_wait_9 : decode cX10_wait 9 = .ok (.iload_n 1, 1) := by decide +kernel
theorem dX10_wait_10 : decode cX10_wait 10 = .ok (.sipush 1000, 3) := by decide +kernel
theorem dX10_wait_13 : decode cX10_wait 13 = .ok (.if_icmp .gt 15, 3) := by decide +kernel
theorem dX10_wait_16 : decode cX10_wait 16 = .ok (.aload_n 0, 1) := by decide +kernel
theorem dX10_wait_17 : decode cX10_wait 17 = .ok (.getfield 166, 3) := by decide +kernel
theorem dX10_wait_20 : decode cX10_wait 20 = .ok (.iload_n 1, 1) := by decide +kernel
theorem dX10_wait_21 : decode cX10_wait 21 = .ok (.iadd, 1) := by decide +kernel
theorem dX10_wait_22 : decode cX10_wait 22 = .ok (.sipush 9999, 3) := by decide +kernel
theorem dX10_wait_25 : decode cX10_wait 25 = .ok (.if_icmp .le 5, 3) := by decide +kernel
theorem dX10_wait_28 : decode cX10_wait 28 = .ok (.iconst 0, 1) := by decide +kernel
theorem dX10_wait_29 : decode cX10_wait 29 = .ok (.ireturn, 1) := by decide +kernel
theorem dX10_wait_30 : decode cX10_wait 30 = .ok (.aload_n 0, 1) := by decide +kernel
theorem dX10_wait_31 : decode cX10_wait 31 = .ok (.dup, 1) := by decide +kernel
theorem dX10_wait_32 : decode cX10_wait 32 = .ok (.getfield 166, 3) := by decide +kernel
theorem dX10_wait_35 : decode cX10_wait 35 = .ok (.iload_n 1, 1) := by decide +kernel
theorem dX10_wait_36 : decode cX10_wait 36 = .ok (.iadd, 1) := by decide +kernel
theorem dX10_wait_37 : decode cX10_wait 37 = .ok (.putfield 166, 3) := by decide +kernel
theorem dX10_wait_40 : decode cX10_wait 40 = .ok (.iconst 1, 1) := by decide +kernel
theorem dX10_wait_41 : decode cX10_wait 41 = .ok (.ireturn, 1) := by decide +kernel
set_option maxRecDepth 20000 in
theorem ggX10_about_X10_isItem : GoodIn wsX10_about wsX10_isItem := goodIn_r _ [10, 11, 26, 27, 28, 29, 30, 31, 32, 33, 34, 35, 36, 37, 38, 39, 40, 41, 42, 43, 44, 45, 46, 47, 48, 49, 50, 51, 52, 53, 54, 55, 56, 57, 58, 59, 60, 61, 62, 63, 64, 65, 66, 67] (by decide +kernel) (by decide +kernel)
set_option maxRecDepth 20000 in
theorem gX10_about_X10_isItem : GoodIn wsX10_about (wsV RX10 181 RX10 yX10_isItem wsX10_isItem) := goodIn_app (goodIn_of _ (by decide +kernel)) ggX10_about_X10_isItem
set_option maxRecDepth 20000 in
theorem ggX10_about_X10_throwsIf : GoodIn wsX10_about wsX10_throwsIf := goodIn_r _ [15, 16, 26, 27, 28, 29, 30, 31, 32, 33, 34, 35, 36, 37, 38, 39, 40, 41, 42, 43, 44, 45, 46, 47, 48, 49, 50, 51, 52, 53, 54, 55, 56, 57, 58, 59, 60, 61, 62, 63, 64, 65, 66, 67] (by decide +kernel) (by decide +kernel)
set_option maxRecDepth 20000 in
theorem gX10_about_X10_throwsIf : GoodIn wsX10_about (wsV RX10 209 RX10 yX10_throwsIf wsX10_throwsIf) := goodIn_app (goodIn_of _ (by decide +kernel)) ggX10_about_X10_throwsIf
set_option maxRecDepth 20000 in
theorem ggX10_about_X10_placeOf : GoodIn wsX10_about wsX10_placeOf := goodIn_r _ [20, 4, 26, 27, 28, 29, 30, 31, 32, 33, 34, 35, 36, 37, 38, 39, 40, 41, 42, 43, 44, 45, 46, 47, 48, 49, 50, 51, 52, 53, 54, 55, 56, 57, 58, 59, 60, 61, 62, 63, 64, 65, 66, 67] (by decide +kernel) (by decide +kernel)
set_option maxRecDepth 20000 in
theorem gX10_about_X10_placeOf : GoodIn wsX10_about (wsV RX10 184 RX10 yX10_placeOf wsX10_placeOf) := goodIn_app (goodIn_of _ (by decide +kernel)) ggX10_about_X10_placeOf
set_option maxRecDepth 20000 in
theorem ggX10_about_X10_isInRow : GoodIn wsX10_about wsX10_isInRow := goodIn_r _ [24, 1, 25, 2, 26, 27, 28, 29, 30, 31, 32, 33, 34, 35, 36, 37, 38, 39, 40, 41, 42, 43, 44, 45, 46, 47, 48, 49, 50, 51, 52, 53, 54, 55, 56, 57, 58, 59, 60, 61, 62, 63, 64, 65, 66, 67] (by decide +kernel) (by decide +kernel)
set_option maxRecDepth 20000 in
theorem gX10_about_X10_isInRow : GoodIn wsX10_about (wsV RX10 190 RX10 yX10_isInRow wsX10_isInRow) := goodIn_app (goodIn_of _ (by decide +kernel)) ggX10_about_X10_isInRow
theorem dX10_about_0 : decode cX10_about 0 = .ok (.aload_n 0, 1) := by decide +kernel
theorem dX10_about_1 : decode cX10_about 1 = .ok (.aload_n 0, 1) := by decide +kernel
theorem dX10_about_2 : decode cX10_about 2 = .ok (.iload_n 1, 1) := by decide +kernel
theorem dX10_about_3 : decode cX10_about 3 = .ok (.invokevirtual 181, 3) := by decide +kernel
theorem dX10_about_6 : decode cX10_about 6 = .ok (.ifCond .eq 12, 3) := by decide +kernel
theorem dX10_about_9 : decode cX10_about 9 = .ok (.iload_n 2, 1) := by decide +kernel
theorem dX10_about_10 : decode cX10_about 10 = .ok (.ifCond .lt 8, 3) := by decide +kernel
theorem dX10_about_13 : decode cX10_about 13 = .ok (.iload_n 2, 1) := by decide +kernel
theorem dX10_about_14 : decode cX10_about 14 = .ok (.iconst 5, 1) := by decide +kernel
theorem dX10_about_15 : decode cX10_about 15 = .ok (.if_icmp .le 7, 3) := by decide +kernel
theorem dX10_about_18 : decode cX10_about 18 = .ok (.iconst 1, 1) := by decide +kernel
theorem dX10_about_19 : decode cX10_about 19 = .ok (.goto 4, 3) := by decide +kernel
theorem dX10_about_22 : decode cX10_about 22 = .ok (.iconst 0, 1) := by decide +kernel
theorem dX10_about_23 : decode cX10_about 23 = .ok (.invokevirtual 209, 3) := by decide +kernel
theorem dX10_about_26 : decode cX10_about 26 = .ok (.ifCond .eq 5, 3) := by decide +kernel
theorem dX10_about_29 : decode cX10_about 29 = .ok (.iconst 0, 1) := by decide +kernel
theorem dX10_about_30 : decode cX10_about 30 = .ok (.ireturn, 1) := by decide +kernel
theorem dX10_about_31 : decode cX10_about 31 = .ok (.iconst 0, 1) := by decide +kernel
theorem dX10_about_32 : decode cX10_about 32 = .ok (.istore_n 3, 1) := by decide +kernel
theorem dX10_about_33 : decode cX10_about 33 = .ok (.iload_n 2, 1) := by decide +kernel
theorem dX10_about_34 : decode cX10_about 34 = .ok (.tableswitch 113 0 4 #[34, 41, 48, 63, 107], 34) := by decide +kernel
theorem dX10_about_68 : decode cX10_about 68 = .ok (.aload_n 0, 1) := by decide +kernel
theorem dX10_about_69 : decode cX10_about 69 = .ok (.getfield 34, 3) := by decide +kernel
theorem dX10_about_72 : decode cX10_about 72 = .ok (.iload_n 1, 1) := by decide +kernel
theorem dX10_about_73 : decode cX10_about 73 = .ok (.iaload, 1) := by decide +kernel
theorem dX10_about_74 : decode cX10_about 74 = .ok (.ireturn, 1) := by decide +kernel
theorem dX10_about_75 : decode cX10_about 75 = .ok (.aload_n 0, 1) := by decide +kernel
theorem dX10_about_76 : decode cX10_about 76 = .ok (.getfield 37, 3) := by decide +kernel
theorem dX10_about_79 : decode cX10_about 79 = .ok (.iload_n 1, 1) := by decide +kernel
theorem dX10_about_80 : decode cX10_about 80 = .ok (.iaload, 1) := by decide +kernel
theorem dX10_about_81 : decode cX10_about 81 = .ok (.ireturn, 1) := by decide +kernel
theorem dX10_about_82 : decode cX10_about 82 = .ok (.aload_n 0, 1) := by decide +kernel
theorem dX10_about_83 : decode cX10_about 83 = .ok (.getfield 46, 3) := by decide +kernel
theorem dX10_about_86 : decode cX10_about 86 = .ok (.iload_n 1, 1) := by decide +kernel
theorem dX10_about_87 : decode cX10_about 87 = .ok (.baload, 1) := by decide +kernel
theorem dX10_about_88 : decode cX10_about 88 = .ok (.ifCond .eq 7, 3) := by decide +kernel
theorem dX10_about_91 : decode cX10_about 91 = .ok (.iconst 1, 1) := by decide +kernel
theorem dX10_about_92 : decode cX10_about 92 = .ok (.goto 4, 3) := by decide +kernel
theorem dX10_about_95 : decode cX10_about 95 = .ok (.iconst 0, 1) := by decide +kernel
theorem dX10_about_96 : decode cX10_about 96 = .ok (.ireturn, 1) := by decide +kernel
theorem dX10_about_97 : decode cX10_about 97 = .ok (.iconst 0, 1) := by decide +kernel
theorem dX10_about_98 : decode cX10_about 98 = .ok (.istore 4, 2) := by decide +kernel
theorem dX10_about_100 : decode cX10_about 100 = .ok (.iload 4, 2) := by decide +kernel
theorem dX10_about_102 : decode cX10_about 102 = .ok (.aload_n 0, 1) := by decide +kernel
theorem dX10_about_103 : decode cX10_about 103 = .ok (.iload_n 1, 1) := by decide +kernel
theorem dX10_about_104 : decode cX10_about 104 = .ok (.invokevirtual 184, 3) := by decide +kernel
theorem dX10_about_107 : decode cX10_about 107 = .ok (.if_icmp .ge 32, 3) := by decide +kernel
theorem dX10_about_110 : decode cX10_about 110 = .ok (.iload_n 3, 1) := by decide +kernel
theorem dX10_about_111 : decode cX10_about 111 = .ok (.aload_n 0, 1) := by decide +kernel
theorem dX10_about_112 : decode cX10_about 112 = .ok (.aload_n 0, 1) := by decide +kernel
theorem dX10_about_113 : decode cX10_about 113 = .ok (.getfield 43, 3) := by decide +kernel
theorem dX10_about_116 : decode cX10_about 116 = .ok (.iload 4, 2) := by decide +kernel
theorem dX10_about_118 : decode cX10_about 118 = .ok (.iaload, 1) := by decide +kernel
theorem dX10_about_119 : decode cX10_about 119 = .ok (.iload_n 1, 1) := by decide +kernel
theorem dX10_about_120 : decode cX10_about 120 = .ok (.invokevirtual 190, 3) := by decide +kernel
theorem dX10_about_123 : decode cX10_about 123 = .ok (.ifCond .eq 7, 3) := by decide +kernel
theorem dX10_about_126 : decode cX10_about 126 = .ok (.iconst 1, 1) := by decide +kernel
theorem dX10_about_127 : decode cX10_about 127 = .ok (.goto 4, 3) := by decide +kernel
theorem dX10_about_130 : decode cX10_about 130 = .ok (.iconst 0, 1) := by decide +kernel
theorem dX10_about_131 : decode cX10_about 131 = .ok (.iadd, 1) := by decide +kernel
theorem dX10_about_132 : decode cX10_about 132 = .ok (.istore_n 3, 1) := by decide +kernel
theorem dX10_about_133 : decode cX10_about 133 = .ok (.iinc 4 1, 3) := by decide +kernel
theorem dX10_about_136 : decode cX10_about 136 = .ok (.goto (-36), 3) := by decide +kernel
theorem dX10_about_139 : decode cX10_about 139 = .ok (.iload_n 3, 1) := by decide +kernel
theorem dX10_about_140 : decode cX10_about 140 = .ok (.ireturn, 1) := by decide +kernel
theorem dX10_about_141 : decode cX10_about 141 = .ok (.aload_n 0, 1) := by decide +kernel
theorem dX10_about_142 : decode cX10_about 142 = .ok (.iload_n 1, 1) := by decide +kernel
theorem dX10_about_143 : decode cX10_about 143 = .ok (.invokevirtual 184, 3) := by decide +kernel
theorem dX10_about_146 : decode cX10_about 146 = .ok (.ireturn, 1) := by decide +kernel
theorem dX10_about_147 : decode cX10_about 147 = .ok (.aload_n 0, 1) := by decide +kernel
theorem dX10_about_148 : decode cX10_about 148 = .ok (.getfield 40, 3) := by decide +kernel
theorem dX10_about_151 : decode cX10_about 151 = .ok (.iload_n 1, 1) := by decide +kernel
theorem dX10_about_152 : decode cX10_about 152 = .ok (.iaload, 1) := by decide +kernel
theorem dX10_about_153 : decode cX10_about 153 = .ok (.ireturn, 1) := by decide +kernel
theorem dX10_put_0 : decode cX10_put 0 = .ok (.aload_n 0, 1) := by decide +kernel
theorem dX10_put_1 : decode cX10_put 1 = .ok (.getfield 71, 3) := by decide +kernel
theorem dX10_put_4 : decode cX10_put 4 = .ok (.aload_n 0, 1) := by decide +kernel
theorem dX10_put_5 : decode cX10_put 5 = .ok (.getfield 213, 3) := by decide +kernel
theorem dX10_put_8 : decode cX10_put 8 = .ok (.iload_n 1, 1) := by decide +kernel
theorem dX10_put_9 : decode cX10_put 9 = .ok (.i2b, 1) := by decide +kernel
theorem dX10_put_10 : decode cX10_put 10 = .ok (.bastore, 1) := by decide +kernel
theorem dX10_put_11 : decode cX10_put 11 = .ok (.aload_n 0, 1) := by decide +kernel
theorem dX10_put_12 : decode cX10_put 12 = .ok (.dup, 1) := by decide +kernel
theorem dX10_put_13 : decode cX10_put 13 = .ok (.getfield 213, 3) := by decide +kernel
theorem dX10_put_16 : decode cX10_put 16 = .ok (.iconst 1, 1) := by decide +kernel
theorem dX10_put_17 : decode cX10_put 17 = .ok (.iadd, 1) := by decide +kernel
theorem dX10_put_18 : decode cX10_put 18 = .ok (.putfield 213, 3) := by decide +kernel
theorem dX10_put_21 : decode cX10_put 21 = .ok (.return_, 1) := by decide +kernel
theorem dX10_romanLetter_0 : decode cX10_romanLetter 0 = .ok (.iload_n 0, 1) := by decide +kernel
theorem dX10_romanLetter_1 : decode cX10_romanLetter 1 = .ok (.iconst 1, 1) := by decide +kernel
theorem dX10_romanLetter_2 : decode cX10_romanLetter 2 = .ok (.if_icmp .ne 8, 3) := by decide +kernel
theorem dX10_romanLetter_5 : decode cX10_romanLetter 5 = .ok (.bipush 73, 2) := by decide +kernel
theorem dX10_romanLetter_7 : decode cX10_romanLetter 7 = .ok (.goto 56, 3) := by decide +kernel
theorem dX10_romanLetter_10 : decode cX10_romanLetter 10 = .ok (.iload_n 0, 1) := by decide +kernel
theorem dX10_romanLetter_11 : decode cX10_romanLetter 11 = .ok (.iconst 2, 1) := by decide +kernel
theorem dX10_romanLetter_12 : decode cX10_romanLetter 12 = .ok (.if_icmp .ne 8, 3) := by decide +kernel
theorem dX10_romanLetter_15 : decode cX10_romanLetter 15 = .ok (.bipush 86, 2) := by decide +kernel
theorem dX10_romanLetter_17 : decode cX10_romanLetter 17 = .ok (.goto 46, 3) := by decide +kernel
theorem dX10_romanLetter_20 : decode cX10_romanLetter 20 = .ok (.iload_n 0, 1) := by decide +kernel
theorem dX10_romanLetter_21 : decode cX10_romanLetter 21 = .ok (.iconst 3, 1) := by decide +kernel
theorem dX10_romanLetter_22 : decode cX10_romanLetter 22 = .ok (.if_icmp .ne 8, 3) := by decide +kernel
theorem dX10_romanLetter_25 : decode cX10_romanLetter 25 = .ok (.bipush 88, 2) := by decide +kernel
theorem dX10_romanLetter_27 : decode cX10_romanLetter 27 = .ok (.goto 36, 3) := by decide +kernel
theorem dX10_romanLetter_30 : decode cX10_romanLetter 30 = .ok (.iload_n 0, 1) := by decide +kernel
theorem dX10_romanLetter_31 : decode cX10_romanLetter 31 = .ok (.iconst 4, 1) := by decide +kernel
theorem dX10_romanLetter_32 : decode cX10_romanLetter 32 = .ok (.if_icmp .ne 8, 3) := by decide +kernel
theorem dX10_romanLetter_35 : decode cX10_romanLetter 35 = .ok (.bipush 76, 2) := by decide +kernel
theorem dX10_romanLetter_37 : decode cX10_romanLetter 37 = .ok (.goto 26, 3) := by decide +kernel
theorem dX10_romanLetter_40 : decode cX10_romanLetter 40 = .ok (.iload_n 0, 1) := by decide +kernel
theorem dX10_romanLetter_41 : decode cX10_romanLetter 41 = .ok (.iconst 5, 1) := by decide +kernel
theorem dX10_romanLetter_42 : decode cX10_romanLetter 42 = .ok (.if_icmp .ne 8, 3) := by decide +kernel
theorem dX10_romanLetter_45 : decode cX10_romanLetter 45 = .ok (.bipush 67, 2) := by decide +kernel
theorem dX10_romanLetter_47 : decode cX10_romanLetter 47 = .ok (.goto 16, 3) := by decide +kernel
theorem dX10_romanLetter_50 : decode cX10_romanLetter 50 = .ok (.iload_n 0, 1) := by decide +kernel
theorem dX10_romanLetter_51 : decode cX10_romanLetter 51 = .ok (.bipush 6, 2) := by decide +kernel
theorem dX10_romanLetter_53 : decode cX10_romanLetter 53 = .ok (.if_icmp .ne 8, 3) := by decide +kernel
theorem dX10_romanLetter_56 : decode cX10_romanLetter 56 = .ok (.bipush 68, 2) := by decide +kernel
theorem dX10_romanLetter_58 : decode cX10_romanLetter 58 = .ok (.goto 5, 3) := by decide +kernel
theorem dX10_romanLetter_61 : decode cX10_romanLetter 61 = .ok (.bipush 77, 2) := by decide +kernel
theorem dX10_romanLetter_63 : decode cX10_romanLetter 63 = .ok (.ireturn, 1) := by decide +kernel
set_option maxRecDepth 20000 in
theorem ggX10_roman_X10_romanLetter : GoodIn wsX10_roman wsX10_romanLetter := goodIn_r _ [6] (by decide +kernel) (by decide +kernel)
set_option maxRecDepth 20000 in
theorem gX10_roman_X10_romanLetter : GoodIn wsX10_roman (va_wsS RX10 216 yX10_romanLetter wsX10_romanLetter) := goodIn_app (goodIn_of _ (by decide +kernel)) ggX10_roman_X10_romanLetter
set_option maxRecDepth 20000 in
theorem ggX10_roman_X10_put : GoodIn wsX10_roman wsX10_put := goodIn_r _ [10, 11, 12, 13, 14, 15, 16, 17, 18, 19, 20, 21, 22, 23, 24, 25, 26, 27, 28, 29, 30, 31, 32, 33, 34, 35, 36, 37, 38, 39, 40, 41, 42, 43, 44, 45, 46, 47, 48, 49, 50, 51, 52, 53, 54] (by decide +kernel) (by decide +kernel)
set_option maxRecDepth 20000 in
theorem gX10_roman_X10_put : GoodIn wsX10_roman (wsV RX10 219 RX10 yX10_put wsX10_put) := goodIn_app (goodIn_of _ (by decide +kernel)) ggX10_roman_X10_put
theorem dX10_roman_0 : decode cX10_roman 0 = .ok (.iload_n 1, 1) := by decide +kernel
theorem dX10_roman_1 : decode cX10_roman 1 = .ok (.istore_n 3, 1) := by decide +kernel
theorem dX10_roman_2 : decode cX10_roman 2 = .ok (.iconst 0, 1) := by decide +kernel
theorem dX10_roman_3 : decode cX10_roman 3 = .ok (.istore 4, 2) := by decide +kernel
theorem dX10_roman_5 : decode cX10_roman 5 = .ok (.iload 4, 2) := by decide +kernel
theorem dX10_roman_7 : decode cX10_roman 7 = .ok (.bipush 12, 2) := by decide +kernel
theorem dX10_roman_9 : decode cX10_roman 9 = .ok (.if_icmp .ge 83, 3) := by decide +kernel
theorem dX10_roman_12 : decode cX10_roman 12 = .ok (.iload_n 3, 1) := by decide +kernel
theorem dX10_roman_13 : decode cX10_roman 13 = .ok (.aload_n 0, 1) := by decide +kernel
theorem dX10_roman_14 : decode cX10_roman 14 = .ok (.getfield 74, 3) := by decide +kernel
theorem dX10_roman_17 : decode cX10_roman 17 = .ok (.iload 4, 2) := by decide +kernel
theorem dX10_roman_19 : decode cX10_roman 19 = .ok (.iaload, 1) := by decide +kernel
theorem dX10_roman_20 : decode cX10_roman 20 = .ok (.if_icmp .lt 66, 3) := by decide +kernel
theorem dX10_roman_23 : decode cX10_roman 23 = .ok (.iload_n 3, 1) := by decide +kernel
theorem dX10_roman_24 : decode cX10_roman 24 = .ok (.aload_n 0, 1) := by decide +kernel
theorem dX10_roman_25 : decode cX10_roman 25 = .ok (.getfield 74, 3) := by decide +kernel
theorem dX10_roman_28 : decode cX10_roman 28 = .ok (.iload 4, 2) := by decide +kernel
theorem dX10_roman_30 : decode cX10_roman 30 = .ok (.iaload, 1) := by decide +kernel
theorem dX10_roman_31 : decode cX10_roman 31 = .ok (.isub, 1) := by decide +kernel
theorem dX10_roman_32 : decode cX10_roman 32 = .ok (.istore_n 3, 1) := by decide +kernel
theorem dX10_roman_33 : decode cX10_roman 33 = .ok (.aload_n 0, 1) := by decide +kernel
theorem dX10_roman_34 : decode cX10_roman 34 = .ok (.getfield 77, 3) := by decide +kernel
theorem dX10_roman_37 : decode cX10_roman 37 = .ok (.iload 4, 2) := by decide +kernel
theorem dX10_roman_39 : decode cX10_roman 39 = .ok (.iaload, 1) := by decide +kernel
theorem dX10_roman_40 : decode cX10_roman 40 = .ok (.bipush 9, 2) := by decide +kernel
theorem dX10_roman_42 : decode cX10_roman 42 = .ok (.if_icmp .le 22, 3) := by decide +kernel
theorem dX10_roman_45 : decode cX10_roman 45 = .ok (.aload_n 0, 1) := by decide +kernel
theorem dX10_roman_46 : decode cX10_roman 46 = .ok (.aload_n 0, 1) := by decide +kernel
theorem dX10_roman_47 : decode cX10_roman 47 = .ok (.getfield 77, 3) := by decide +kernel
theorem dX10_roman_50 : decode cX10_roman 50 = .ok (.iload 4, 2) := by decide +kernel
theorem dX10_roman_52 : decode cX10_roman 52 = .ok (.iaload, 1) := by decide +kernel
theorem dX10_roman_53 : decode cX10_roman 53 = .ok (.bipush 10, 2) := by decide +kernel
theorem dX10_roman_55 : decode cX10_roman 55 = .ok (.idiv, 1) := by decide +kernel
theorem dX10_roman_56 : decode cX10_roman 56 = .ok (.invokestatic 216, 3) := by decide +kernel
theorem dX10_roman_59 : decode cX10_roman 59 = .ok (.iload_n 2, 1) := by decide +kernel
theorem dX10_roman_60 : decode cX10_roman 60 = .ok (.iadd, 1) := by decide +kernel
theorem dX10_roman_61 : decode cX10_roman 61 = .ok (.invokevirtual 219, 3) := by decide +kernel
theorem dX10_roman_64 : decode cX10_roman 64 = .ok (.aload_n 0, 1) := by decide +kernel
theorem dX10_roman_65 : decode cX10_roman 65 = .ok (.aload_n 0, 1) := by decide +kernel
theorem dX10_roman_66 : decode cX10_roman 66 = .ok (.getfield 77, 3) := by decide +kernel
theorem dX10_roman_69 : decode cX10_roman 69 = .ok (.iload 4, 2) := by decide +kernel
theorem dX10_roman_71 : decode cX10_roman 71 = .ok (.iaload, 1) := by decide +kernel
theorem dX10_roman_72 : decode cX10_roman 72 = .ok (.bipush 10, 2) := by decide +kernel
theorem dX10_roman_74 : decode cX10_roman 74 = .ok (.irem, 1) := by decide +kernel
theorem dX10_roman_75 : decode cX10_roman 75 = .ok (.invokestatic 216, 3) := by decide +kernel
theorem dX10_roman_78 : decode cX10_roman 78 = .ok (.iload_n 2, 1) := by decide +kernel
theorem dX10_roman_79 : decode cX10_roman 79 = .ok (.iadd, 1) := by decide +kernel
theorem dX10_roman_80 : decode cX10_roman 80 = .ok (.invokevirtual 219, 3) := by decide +kernel
theorem dX10_roman_83 : decode cX10_roman 83 = .ok (.goto (-71), 3) := by decide +kernel
theorem dX10_roman_86 : decode cX10_roman 86 = .ok (.iinc 4 1, 3) := by decide +kernel
theorem dX10_roman_89 : decode cX10_roman 89 = .ok (.goto (-84), 3) := by decide +kernel
theorem dX10_roman_92 : decode cX10_roman 92 = .ok (.return_, 1) := by decide +kernel
set_option maxRecDepth 20000 in
theorem ggX10_decimal_X10_put : GoodIn wsX10_decimal wsX10_put := goodIn_r _ [5, 6, 7, 8, 9, 10, 11, 12, 13, 14, 15, 16, 17, 18, 19, 20, 21, 22, 23, 24, 25, 26, 27, 28, 29, 30, 31, 32, 33, 34, 35, 36, 37, 38, 39, 40, 41, 42, 43, 44, 45, 46, 47, 48, 49] (by decide +kernel) (by decide +kernel)
set_option maxRecDepth 20000 in
theorem gX10_decimal_X10_put : GoodIn wsX10_decimal (wsV RX10 219 RX10 yX10_put wsX10_put) := goodIn_app (goodIn_of _ (by decide +kernel)) ggX10_decimal_X10_put
theorem dX10_decimal_0 : decode cX10_decimal 0 = .ok (.iload_n 1, 1) := by decide +kernel
theorem dX10_decimal_1 : decode cX10_decimal 1 = .ok (.bipush 99, 2) := by decide +kernel
theorem dX10_decimal_3 : decode cX10_decimal 3 = .ok (.if_icmp .le 14, 3) := by decide +kernel
theorem dX10_decimal_6 : decode cX10_decimal 6 = .ok (.aload_n 0, 1) := by decide +kernel
theorem dX10_decimal_7 : decode cX10_decimal 7 = .ok (.bipush 48, 2) := by decide +kernel
theorem dX10_decimal_9 : decode cX10_decimal 9 = .ok (.iload_n 1, 1) := by decide +kernel
theorem dX10_decimal_10 : decode cX10_decimal 10 = .ok (.bipush 100, 2) := by decide +kernel
theorem dX10_decimal_12 : decode cX10_decimal 12 = .ok (.idiv, 1) := by decide +kernel
theorem dX10_decimal_13 : decode cX10_decimal 13 = .ok (.iadd, 1) := by decide +kernel
theorem dX10_decimal_14 : decode cX10_decimal 14 = .ok (.invokevirtual 219, 3) := by decide +kernel
theorem dX10_decimal_17 : decode cX10_decimal 17 = .ok (.iload_n 1, 1) := by decide +kernel
theorem dX10_decimal_18 : decode cX10_decimal 18 = .ok (.bipush 9, 2) := by decide +kernel
theorem dX10_decimal_20 : decode cX10_decimal 20 = .ok (.if_icmp .le 17, 3) := by decide +kernel
theorem dX10_decimal_23 : decode cX10_decimal 23 = .ok (.aload_n 0, 1) := by decide +kernel
theorem dX10_decimal_24 : decode cX10_decimal 24 = .ok (.bipush 48, 2) := by decide +kernel
theorem dX10_decimal_26 : decode cX10_decimal 26 = .ok (.iload_n 1, 1) := by decide +kernel
theorem dX10_decimal_27 : decode cX10_decimal 27 = .ok (.bipush 10, 2) := by decide +kernel
theorem dX10_decimal_29 : decode cX10_decimal 29 = .ok (.idiv, 1) := by decide +kernel
theorem dX10_decimal_30 : decode cX10_decimal 30 = .ok (.bipush 10, 2) := by decide +kernel
theorem dX10_decimal_32 : decode cX10_decimal 32 = .ok (.irem, 1) := by decide +kernel
theorem dX10_decimal_33 : decode cX10_decimal 33 = .ok (.iadd, 1) := by decide +kernel
theorem dX10_decimal_34 : decode cX10_decimal 34 = .ok (.invokevirtual 219, 3) := by decide +kernel
theorem dX10_decimal_37 : decode cX10_decimal 37 = .ok (.aload_n 0, 1) := by decide +kernel
theorem dX10_decimal_38 : decode cX10_decimal 38 = .ok (.bipush 48, 2) := by decide +kernel
theorem dX10_decimal_40 : decode cX10_decimal 40 = .ok (.iload_n 1, 1) := by decide +kernel
theorem dX10_decimal_41 : decode cX10_decimal 41 = .ok (.bipush 10, 2) := by decide +kernel
theorem dX10_decimal_43 : decode cX10_decimal 43 = .ok (.irem, 1) := by decide +kernel
theorem dX10_decimal_44 : decode cX10_decimal 44 = .ok (.iadd, 1) := by decide +kernel
theorem dX10_decimal_45 : decode cX10_decimal 45 = .ok (.invokevirtual 219, 3) := by decide +kernel
theorem dX10_decimal_48 : decode cX10_decimal 48 = .ok (.return_, 1) := by decide +kernel
set_option maxRecDepth 20000 in
theorem ggX10_letters_X10_put : GoodIn wsX10_letters wsX10_put := goodIn_r _ [5, 6, 7, 8, 9, 10, 11, 12, 13, 14, 15, 16, 17, 18, 19, 20, 21, 22, 23, 24, 25, 26, 27, 28, 29, 30, 31, 32, 33, 34, 35, 36, 37, 38, 39, 40, 41, 42, 43, 44, 45, 46, 47, 48, 49] (by decide +kernel) (by decide +kernel)
set_option maxRecDepth 20000 in
theorem gX10_letters_X10_put : GoodIn wsX10_letters (wsV RX10 219 RX10 yX10_put wsX10_put) := goodIn_app (goodIn_of _ (by decide +kernel)) ggX10_letters_X10_put
theorem dX10_letters_0 : decode cX10_letters 0 = .ok (.iload_n 1, 1) := by decide +kernel
theorem dX10_letters_1 : decode cX10_letters 1 = .ok (.sipush 703, 3) := by decide +kernel
theorem dX10_letters_4 : decode cX10_letters 4 = .ok (.isub, 1) := by decide +kernel
theorem dX10_letters_5 : decode cX10_letters 5 = .ok (.sipush 676, 3) := by decide +kernel
theorem dX10_letters_8 : decode cX10_letters 8 = .ok (.idiv, 1) := by decide +kernel
theorem dX10_letters_9 : decode cX10_letters 9 = .ok (.istore_n 2, 1) := by decide +kernel
theorem dX10_letters_10 : decode cX10_letters 10 = .ok (.iload_n 1, 1) := by decide +kernel
theorem dX10_letters_11 : decode cX10_letters 11 = .ok (.bipush 27, 2) := by decide +kernel
theorem dX10_letters_13 : decode cX10_letters 13 = .ok (.isub, 1) := by decide +kernel
theorem dX10_letters_14 : decode cX10_letters 14 = .ok (.bipush 26, 2) := by decide +kernel
theorem dX10_letters_16 : decode cX10_letters 16 = .ok (.idiv, 1) := by decide +kernel
theorem dX10_letters_17 : decode cX10_letters 17 = .ok (.istore_n 3, 1) := by decide +kernel
theorem dX10_letters_18 : decode cX10_letters 18 = .ok (.iload_n 1, 1) := by decide +kernel
theorem dX10_letters_19 : decode cX10_letters 19 = .ok (.sipush 702, 3) := by decide +kernel
theorem dX10_letters_22 : decode cX10_letters 22 = .ok (.if_icmp .le 11, 3) := by decide +kernel
theorem dX10_letters_25 : decode cX10_letters 25 = .ok (.aload_n 0, 1) := by decide +kernel
theorem dX10_letters_26 : decode cX10_letters 26 = .ok (.bipush 97, 2) := by decide +kernel
theorem dX10_letters_28 : decode cX10_letters 28 = .ok (.iload_n 2, 1) := by decide +kernel
theorem dX10_letters_29 : decode cX10_letters 29 = .ok (.iadd, 1) := by decide +kernel
theorem dX10_letters_30 : decode cX10_letters 30 = .ok (.invokevirtual 219, 3) := by decide +kernel
theorem dX10_letters_33 : decode cX10_letters 33 = .ok (.iload_n 1, 1) := by decide +kernel
theorem dX10_letters_34 : decode cX10_letters 34 = .ok (.bipush 26, 2) := by decide +kernel
theorem dX10_letters_36 : decode cX10_letters 36 = .ok (.if_icmp .le 14, 3) := by decide +kernel
theorem dX10_letters_39 : decode cX10_letters 39 = .ok (.aload_n 0, 1) := by decide +kernel
theorem dX10_letters_40 : decode cX10_letters 40 = .ok (.bipush 97, 2) := by decide +kernel
theorem dX10_letters_42 : decode cX10_letters 42 = .ok (.iload_n 3, 1) := by decide +kernel
theorem dX10_letters_43 : decode cX10_letters 43 = .ok (.bipush 26, 2) := by decide +kernel
theorem dX10_letters_45 : decode cX10_letters 45 = .ok (.irem, 1) := by decide +kernel
theorem dX10_letters_46 : decode cX10_letters 46 = .ok (.iadd, 1) := by decide +kernel
theorem dX10_letters_47 : decode cX10_letters 47 = .ok (.invokevirtual 219, 3) := by decide +kernel
theorem dX10_letters_50 : decode cX10_letters 50 = .ok (.aload_n 0, 1) := by decide +kernel
theorem dX10_letters_51 : decode cX10_letters 51 = .ok (.bipush 97, 2) := by decide +kernel
theorem dX10_letters_53 : decode cX10_letters 53 = .ok (.iload_n 1, 1) := by decide +kernel
theorem dX10_letters_54 : decode cX10_letters 54 = .ok (.iconst 1, 1) := by decide +kernel
theorem dX10_letters_55 : decode cX10_letters 55 = .ok (.isub, 1) := by decide +kernel
theorem dX10_letters_56 : decode cX10_letters 56 = .ok (.bipush 26, 2) := by decide +kernel
theorem dX10_letters_58 : decode cX10_letters 58 = .ok (.irem, 1) := by decide +kernel
theorem dX10_letters_59 : decode cX10_letters 59 = .ok (.iadd, 1) := by decide +kernel
theorem dX10_letters_60 : decode cX10_letters 60 = .ok (.invokevirtual 219, 3) := by decide +kernel
theorem dX10_letters_63 : decode cX10_letters 63 = .ok (.return_, 1) := by decide +kernel
set_option maxRecDepth 20000 in
theorem ggX10_write_X10_decimal : GoodIn wsX10_write wsX10_decimal := goodIn_r _ [6, 7, 8, 9, 5, 10, 11, 12, 32, 33, 34, 35, 36, 37, 38, 39, 40, 41, 42, 43, 44, 45, 46, 47, 48, 49, 50, 51, 52, 53, 54, 55, 56, 57, 58, 59, 60, 61, 62, 63, 64, 65, 66, 67, 68, 69, 70, 71, 72, 73] (by decide +kernel) (by decide +kernel)
set_option maxRecDepth 20000 in
theorem gX10_write_X10_decimal : GoodIn wsX10_write (wsV RX10 222 RX10 yX10_decimal wsX10_decimal) := goodIn_app (goodIn_of _ (by decide +kernel)) ggX10_write_X10_decimal
set_option maxRecDepth 20000 in
theorem ggX10_write_X10_letters : GoodIn wsX10_write wsX10_letters := goodIn_r _ [16, 7, 8, 9, 5, 10, 11, 12, 32, 33, 34, 35, 36, 37, 38, 39, 40, 41, 42, 43, 44, 45, 46, 47, 48, 49, 50, 51, 52, 53, 54, 55, 56, 57, 58, 59, 60, 61, 62, 63, 64, 65, 66, 67, 68, 69, 70, 71, 72, 73] (by decide +kernel) (by decide +kernel)
set_option maxRecDepth 20000 in
theorem gX10_write_X10_letters : GoodIn wsX10_write (wsV RX10 225 RX10 yX10_letters wsX10_letters) := goodIn_app (goodIn_of _ (by decide +kernel)) ggX10_write_X10_letters
set_option maxRecDepth 20000 in
theorem ggX10_write_X10_roman : GoodIn wsX10_write wsX10_roman := goodIn_r _ [20, 21, 22, 23, 24, 5, 25, 7, 8, 9, 10, 11, 12, 32, 33, 34, 35, 36, 37, 38, 39, 40, 41, 42, 43, 44, 45, 46, 47, 48, 49, 50, 51, 52, 53, 54, 55, 56, 57, 58, 59, 60, 61, 62, 63, 64, 65, 66, 67, 68, 69, 70, 71, 72, 73] (by decide +kernel) (by decide +kernel)
set_option maxRecDepth 20000 in
theorem gX10_write_X10_roman : GoodIn wsX10_write (wsV RX10 228 RX10 yX10_roman wsX10_roman) := goodIn_app (goodIn_of _ (by decide +kernel)) ggX10_write_X10_roman
set_option maxRecDepth 20000 in
theorem ggX10_write_X10_put : GoodIn wsX10_write wsX10_put := goodIn_r _ [10, 11, 12, 32, 33, 34, 35, 36, 37, 38, 39, 40, 41, 42, 43, 44, 45, 46, 47, 48, 49, 50, 51, 52, 53, 54, 55, 56, 57, 58, 59, 60, 61, 62, 63, 64, 65, 66, 67, 68, 69, 70, 71, 72, 73] (by decide +kernel) (by decide +kernel)
set_option maxRecDepth 20000 in
theorem gX10_write_X10_put : GoodIn wsX10_write (wsV RX10 219 RX10 yX10_put wsX10_put) := goodIn_app (goodIn_of _ (by decide +kernel)) ggX10_write_X10_put
set_option maxRecDepth 20000 in
theorem ggX10_write_X10_lettersOf : GoodIn wsX10_write wsX10_lettersOf := goodIn_r _ [28, 29, 30, 5, 31] (by decide +kernel) (by decide +kernel)
set_option maxRecDepth 20000 in
theorem gX10_write_X10_lettersOf : GoodIn wsX10_write (va_wsS RX10 174 yX10_lettersOf wsX10_lettersOf) := goodIn_app (goodIn_of _ (by decide +kernel)) ggX10_write_X10_lettersOf
set_option maxRecDepth 20000 in
theorem ggX10_write_X10_letterAt : GoodIn wsX10_write wsX10_letterAt := goodIn_r _ [31] (by decide +kernel) (by decide +kernel)
set_option maxRecDepth 20000 in
theorem gX10_write_X10_letterAt : GoodIn wsX10_write (va_wsS RX10 169 yX10_letterAt wsX10_letterAt) := goodIn_app (goodIn_of _ (by decide +kernel)) ggX10_write_X10_letterAt
theorem dX10_write_0 : decode cX10_write 0 = .ok (.iload_n 1, 1) := by decide +kernel
theorem dX10_write_1 : decode cX10_write 1 = .ok (.ldc 173, 2) := by decide +kernel
theorem dX10_write_3 : decode cX10_write 3 = .ok (.idiv, 1) := by decide +kernel
theorem dX10_write_4 : decode cX10_write 4 = .ok (.istore_n 3, 1) := by decide +kernel
theorem dX10_write_5 : decode cX10_write 5 = .ok (.iload_n 2, 1) := by decide +kernel
theorem dX10_write_6 : decode cX10_write 6 = .ok (.ifCond .ne 11, 3) := by decide +kernel
theorem dX10_write_9 : decode cX10_write 9 = .ok (.aload_n 0, 1) := by decide +kernel
theorem dX10_write_10 : decode cX10_write 10 = .ok (.iload_n 3, 1) := by decide +kernel
theorem dX10_write_11 : decode cX10_write 11 = .ok (.invokevirtual 222, 3) := by decide +kernel
theorem dX10_write_14 : decode cX10_write 14 = .ok (.goto 32, 3) := by decide +kernel
theorem dX10_write_17 : decode cX10_write 17 = .ok (.iload_n 2, 1) := by decide +kernel
theorem dX10_write_18 : decode cX10_write 18 = .ok (.iconst 2, 1) := by decide +kernel
theorem dX10_write_19 : decode cX10_write 19 = .ok (.if_icmp .ne 11, 3) := by decide +kernel
theorem dX10_write_22 : decode cX10_write 22 = .ok (.aload_n 0, 1) := by decide +kernel
theorem dX10_write_23 : decode cX10_write 23 = .ok (.iload_n 3, 1) := by decide +kernel
theorem dX10_write_24 : decode cX10_write 24 = .ok (.invokevirtual 225, 3) := by decide +kernel
theorem dX10_write_27 : decode cX10_write 27 = .ok (.goto 19, 3) := by decide +kernel
theorem dX10_write_30 : decode cX10_write 30 = .ok (.aload_n 0, 1) := by decide +kernel
theorem dX10_write_31 : decode cX10_write 31 = .ok (.iload_n 3, 1) := by decide +kernel
theorem dX10_write_32 : decode cX10_write 32 = .ok (.iload_n 2, 1) := by decide +kernel
theorem dX10_write_33 : decode cX10_write 33 = .ok (.iconst 3, 1) := by decide +kernel
theorem dX10_write_34 : decode cX10_write 34 = .ok (.if_icmp .ne 8, 3) := by decide +kernel
theorem dX10_write_37 : decode cX10_write 37 = .ok (.bipush 32, 2) := by decide +kernel
theorem dX10_write_39 : decode cX10_write 39 = .ok (.goto 4, 3) := by decide +kernel
theorem dX10_write_42 : decode cX10_write 42 = .ok (.iconst 0, 1) := by decide +kernel
theorem dX10_write_43 : decode cX10_write 43 = .ok (.invokevirtual 228, 3) := by decide +kernel
theorem dX10_write_46 : decode cX10_write 46 = .ok (.iload_n 1, 1) := by decide +kernel
theorem dX10_write_47 : decode cX10_write 47 = .ok (.ldc 173, 2) := by decide +kernel
theorem dX10_write_49 : decode cX10_write 49 = .ok (.irem, 1) := by decide +kernel
theorem dX10_write_50 : decode cX10_write 50 = .ok (.istore 4, 2) := by decide +kernel
theorem dX10_write_52 : decode cX10_write 52 = .ok (.iload 4, 2) := by decide +kernel
theorem dX10_write_54 : decode cX10_write 54 = .ok (.ifCond .le 13, 3) := by decide +kernel
theorem dX10_write_57 : decode cX10_write 57 = .ok (.iload_n 2, 1) := by decide +kernel
theorem dX10_write_58 : decode cX10_write 58 = .ok (.ifCond .eq 9, 3) := by decide +kernel
theorem dX10_write_61 : decode cX10_write 61 = .ok (.aload_n 0, 1) := by decide +kernel
theorem dX10_write_62 : decode cX10_write 62 = .ok (.bipush 45, 2) := by decide +kernel
theorem dX10_write_64 : decode cX10_write 64 = .ok (.invokevirtual 219, 3) := by decide +kernel
theorem dX10_write_67 : decode cX10_write 67 = .ok (.iconst 0, 1) := by decide +kernel
theorem dX10_write_68 : decode cX10_write 68 = .ok (.istore 5, 2) := by decide +kernel
theorem dX10_write_70 : decode cX10_write 70 = .ok (.iload 5, 2) := by decide +kernel
theorem dX10_write_72 : decode cX10_write 72 = .ok (.iload 4, 2) := by decide +kernel
theorem dX10_write_74 : decode cX10_write 74 = .ok (.invokestatic 174, 3) := by decide +kernel
theorem dX10_write_77 : decode cX10_write 77 = .ok (.if_icmp .ge 23, 3) := by decide +kernel
theorem dX10_write_80 : decode cX10_write 80 = .ok (.aload_n 0, 1) := by decide +kernel
theorem dX10_write_81 : decode cX10_write 81 = .ok (.bipush 64, 2) := by decide +kernel
theorem dX10_write_83 : decode cX10_write 83 = .ok (.iload 4, 2) := by decide +kernel
theorem dX10_write_85 : decode cX10_write 85 = .ok (.iload 5, 2) := by decide +kernel
theorem dX10_write_87 : decode cX10_write 87 = .ok (.invokestatic 169, 3) := by decide +kernel
theorem dX10_write_90 : decode cX10_write 90 = .ok (.iadd, 1) := by decide +kernel
theorem dX10_write_91 : decode cX10_write 91 = .ok (.invokevirtual 219, 3) := by decide +kernel
theorem dX10_write_94 : decode cX10_write 94 = .ok (.iinc 5 1, 3) := by decide +kernel
theorem dX10_write_97 : decode cX10_write 97 = .ok (.goto (-27), 3) := by decide +kernel
theorem dX10_write_100 : decode cX10_write 100 = .ok (.return_, 1) := by decide +kernel
set_option maxRecDepth 20000 in
theorem ggX10_label_X10_isItem : GoodIn wsX10_label wsX10_isItem := goodIn_r _ [9, 10, 52, 53, 54, 55, 56, 57, 58, 59, 60, 61, 62, 63, 64, 65, 66, 67, 68, 69, 70, 71, 72, 73, 74, 75, 76, 77, 78, 79, 80, 81, 82, 83, 84, 85, 86, 87, 88, 89, 90, 91, 92, 93] (by decide +kernel) (by decide +kernel)
set_option maxRecDepth 20000 in
theorem gX10_label_X10_isItem : GoodIn wsX10_label (wsV RX10 181 RX10 yX10_isItem wsX10_isItem) := goodIn_app (goodIn_of _ (by decide +kernel)) ggX10_label_X10_isItem
set_option maxRecDepth 20000 in
theorem ggX10_label_X10_labelOf : GoodIn wsX10_label wsX10_labelOf := goodIn_r _ [14, 15, 16, 17, 18, 52, 53, 54, 55, 56, 57, 58, 59, 60, 61, 62, 63, 64, 65, 66, 67, 68, 69, 70, 71, 72, 73, 74, 75, 76, 77, 78, 79, 80, 81, 82, 83, 84, 85, 86, 87, 88, 89, 90, 91, 92, 93] (by decide +kernel) (by decide +kernel)
set_option maxRecDepth 20000 in
theorem gX10_label_X10_labelOf : GoodIn wsX10_label (wsV RX10 193 RX10 yX10_labelOf wsX10_labelOf) := goodIn_app (goodIn_of _ (by decide +kernel)) ggX10_label_X10_labelOf
set_option maxRecDepth 20000 in
theorem ggX10_label_X10_write : GoodIn wsX10_label wsX10_write := goodIn_r _ [22, 23, 24, 25, 26, 8, 27, 28, 29, 30, 31, 32, 2, 33, 34, 35, 36, 37, 38, 39, 40, 41, 42, 43, 44, 45, 46, 47, 48, 49, 50, 51, 52, 53, 54, 55, 56, 57, 58, 59, 60, 61, 62, 63, 64, 65, 66, 67, 68, 69, 70, 71, 72, 73, 74, 75, 76, 77, 78, 79, 80, 81, 82, 83, 84, 85, 86, 87, 88, 89, 90, 91, 92, 93] (by decide +kernel) (by decide +kernel)
set_option maxRecDepth 20000 in
theorem gX10_label_X10_write : GoodIn wsX10_label (wsV RX10 231 RX10 yX10_write wsX10_write) := goodIn_app (goodIn_of _ (by decide +kernel)) ggX10_label_X10_write
theorem dX10_label_0 : decode cX10_label 0 = .ok (.aload_n 0, 1) := by decide +kernel
theorem dX10_label_1 : decode cX10_label 1 = .ok (.iconst 0, 1) := by decide +kernel
theorem dX10_label_2 : decode cX10_label 2 = .ok (.putfield 86, 3) := by decide +kernel
theorem dX10_label_5 : decode cX10_label 5 = .ok (.aload_n 0, 1) := by decide +kernel
theorem dX10_label_6 : decode cX10_label 6 = .ok (.iload_n 1, 1) := by decide +kernel
theorem dX10_label_7 : decode cX10_label 7 = .ok (.invokevirtual 181, 3) := by decide +kernel
theorem dX10_label_10 : decode cX10_label 10 = .ok (.ifCond .eq 16, 3) := by decide +kernel
theorem dX10_label_13 : decode cX10_label 13 = .ok (.iload_n 2, 1) := by decide +kernel
theorem dX10_label_14 : decode cX10_label 14 = .ok (.ifCond .lt 12, 3) := by decide +kernel
theorem dX10_label_17 : decode cX10_label 17 = .ok (.aload_n 0, 1) := by decide +kernel
theorem dX10_label_18 : decode cX10_label 18 = .ok (.iload_n 1, 1) := by decide +kernel
theorem dX10_label_19 : decode cX10_label 19 = .ok (.iload_n 2, 1) := by decide +kernel
theorem dX10_label_20 : decode cX10_label 20 = .ok (.invokevirtual 193, 3) := by decide +kernel
theorem dX10_label_23 : decode cX10_label 23 = .ok (.goto 4, 3) := by decide +kernel
theorem dX10_label_26 : decode cX10_label 26 = .ok (.iconst 0, 1) := by decide +kernel
theorem dX10_label_27 : decode cX10_label 27 = .ok (.istore_n 3, 1) := by decide +kernel
theorem dX10_label_28 : decode cX10_label 28 = .ok (.iload_n 3, 1) := by decide +kernel
theorem dX10_label_29 : decode cX10_label 29 = .ok (.ifCond .ne 5, 3) := by decide +kernel
theorem dX10_label_32 : decode cX10_label 32 = .ok (.iconst (-1), 1) := by decide +kernel
theorem dX10_label_33 : decode cX10_label 33 = .ok (.ireturn, 1) := by decide +kernel
theorem dX10_label_34 : decode cX10_label 34 = .ok (.aload_n 0, 1) := by decide +kernel
theorem dX10_label_35 : decode cX10_label 35 = .ok (.iconst 0, 1) := by decide +kernel
theorem dX10_label_36 : decode cX10_label 36 = .ok (.putfield 213, 3) := by decide +kernel
theorem dX10_label_39 : decode cX10_label 39 = .ok (.aload_n 0, 1) := by decide +kernel
theorem dX10_label_40 : decode cX10_label 40 = .ok (.iload_n 3, 1) := by decide +kernel
theorem dX10_label_41 : decode cX10_label 41 = .ok (.aload_n 0, 1) := by decide +kernel
theorem dX10_label_42 : decode cX10_label 42 = .ok (.getfield 13, 3) := by decide +kernel
theorem dX10_label_45 : decode cX10_label 45 = .ok (.aload_n 0, 1) := by decide +kernel
theorem dX10_label_46 : decode cX10_label 46 = .ok (.getfield 34, 3) := by decide +kernel
theorem dX10_label_49 : decode cX10_label 49 = .ok (.iload_n 1, 1) := by decide +kernel
theorem dX10_label_50 : decode cX10_label 50 = .ok (.iaload, 1) := by decide +kernel
theorem dX10_label_51 : decode cX10_label 51 = .ok (.iaload, 1) := by decide +kernel
theorem dX10_label_52 : decode cX10_label 52 = .ok (.invokevirtual 231, 3) := by decide +kernel
theorem dX10_label_55 : decode cX10_label 55 = .ok (.aload_n 0, 1) := by decide +kernel
theorem dX10_label_56 : decode cX10_label 56 = .ok (.getfield 213, 3) := by decide +kernel
theorem dX10_label_59 : decode cX10_label 59 = .ok (.ireturn, 1) := by decide +kernel
theorem dX10_over_0 : decode cX10_over 0 = .ok (.iload_n 1, 1) := by decide +kernel
theorem dX10_over_1 : decode cX10_over 1 = .ok (.istore_n 3, 1) := by decide +kernel
theorem dX10_over_2 : decode cX10_over 2 = .ok (.aload_n 0, 1) := by decide +kernel
theorem dX10_over_3 : decode cX10_over 3 = .ok (.getfield 34, 3) := by decide +kernel
theorem dX10_over_6 : decode cX10_over 6 = .ok (.iload_n 3, 1) := by decide +kernel
theorem dX10_over_7 : decode cX10_over 7 = .ok (.iaload, 1) := by decide +kernel
theorem dX10_over_8 : decode cX10_over 8 = .ok (.iload_n 2, 1) := by decide +kernel
theorem dX10_over_9 : decode cX10_over 9 = .ok (.if_icmp .le 13, 3) := by decide +kernel
theorem dX10_over_12 : decode cX10_over 12 = .ok (.aload_n 0, 1) := by decide +kernel
theorem dX10_over_13 : decode cX10_over 13 = .ok (.getfield 37, 3) := by decide +kernel
theorem dX10_over_16 : decode cX10_over 16 = .ok (.iload_n 3, 1) := by decide +kernel
theorem dX10_over_17 : decode cX10_over 17 = .ok (.iaload, 1) := by decide +kernel
theorem dX10_over_18 : decode cX10_over 18 = .ok (.istore_n 3, 1) := by decide +kernel
theorem dX10_over_19 : decode cX10_over 19 = .ok (.goto (-17), 3) := by decide +kernel
theorem dX10_over_22 : decode cX10_over 22 = .ok (.iload_n 3, 1) := by decide +kernel
theorem dX10_over_23 : decode cX10_over 23 = .ok (.ireturn, 1) := by decide +kernel
set_option maxRecDepth 20000 in
theorem ggX10_cited_X10_isItem : GoodIn wsX10_cited wsX10_isItem := goodIn_r _ [9, 10, 57, 58, 59, 60, 61, 62, 63, 64, 65, 66, 67, 68, 69, 70, 71, 72, 73, 74, 75, 76, 77, 78, 79, 80, 81, 82, 83, 84, 85, 86, 87, 88, 89, 90, 91, 92, 93, 94, 95, 96, 97, 98] (by decide +kernel) (by decide +kernel)
set_option maxRecDepth 20000 in
theorem gX10_cited_X10_isItem : GoodIn wsX10_cited (wsV RX10 181 RX10 yX10_isItem wsX10_isItem) := goodIn_app (goodIn_of _ (by decide +kernel)) ggX10_cited_X10_isItem
set_option maxRecDepth 20000 in
theorem ggX10_cited_X10_over : GoodIn wsX10_cited wsX10_over := goodIn_r _ [14, 2, 15, 57, 58, 59, 60, 61, 62, 63, 64, 65, 66, 67, 68, 69, 70, 71, 72, 73, 74, 75, 76, 77, 78, 79, 80, 81, 82, 83, 84, 85, 86, 87, 88, 89, 90, 91, 92, 93, 94, 95, 96, 97, 98] (by decide +kernel) (by decide +kernel)
set_option maxRecDepth 20000 in
theorem gX10_cited_X10_over : GoodIn wsX10_cited (wsV RX10 234 RX10 yX10_over wsX10_over) := goodIn_app (goodIn_of _ (by decide +kernel)) ggX10_cited_X10_over
set_option maxRecDepth 20000 in
theorem ggX10_cited_X10_labelOf : GoodIn wsX10_cited wsX10_labelOf := goodIn_r _ [19, 20, 21, 22, 23, 57, 58, 59, 60, 61, 62, 63, 64, 65, 66, 67, 68, 69, 70, 71, 72, 73, 74, 75, 76, 77, 78, 79, 80, 81, 82, 83, 84, 85, 86, 87, 88, 89, 90, 91, 92, 93, 94, 95, 96, 97, 98] (by decide +kernel) (by decide +kernel)
set_option maxRecDepth 20000 in
theorem gX10_cited_X10_labelOf : GoodIn wsX10_cited (wsV RX10 193 RX10 yX10_labelOf wsX10_labelOf) := goodIn_app (goodIn_of _ (by decide +kernel)) ggX10_cited_X10_labelOf
set_option maxRecDepth 20000 in
theorem ggX10_cited_X10_put : GoodIn wsX10_cited wsX10_put := goodIn_r _ [27, 28, 3, 57, 58, 59, 60, 61, 62, 63, 64, 65, 66, 67, 68, 69, 70, 71, 72, 73, 74, 75, 76, 77, 78, 79, 80, 81, 82, 83, 84, 85, 86, 87, 88, 89, 90, 91, 92, 93, 94, 95, 96, 97, 98] (by decide +kernel) (by decide +kernel)
set_option maxRecDepth 20000 in
theorem gX10_cited_X10_put : GoodIn wsX10_cited (wsV RX10 219 RX10 yX10_put wsX10_put) := goodIn_app (goodIn_of _ (by decide +kernel)) ggX10_cited_X10_put
set_option maxRecDepth 20000 in
theorem ggX10_cited_X10_write : GoodIn wsX10_cited wsX10_write := goodIn_r _ [32, 33, 34, 35, 36, 8, 37, 24, 25, 26, 27, 28, 3, 38, 39, 40, 41, 42, 43, 44, 45, 46, 47, 48, 49, 50, 51, 52, 53, 54, 55, 56, 57, 58, 59, 60, 61, 62, 63, 64, 65, 66, 67, 68, 69, 70, 71, 72, 73, 74, 75, 76, 77, 78, 79, 80, 81, 82, 83, 84, 85, 86, 87, 88, 89, 90, 91, 92, 93, 94, 95, 96, 97, 98] (by decide +kernel) (by decide +kernel)
set_option maxRecDepth 20000 in
theorem gX10_cited_X10_write : GoodIn wsX10_cited (wsV RX10 231 RX10 yX10_write wsX10_write) := goodIn_app (goodIn_of _ (by decide +kernel)) ggX10_cited_X10_write
theorem dX10_cited_0 : decode cX10_cited 0 = .ok (.aload_n 0, 1) := by decide +kernel
theorem dX10_cited_1 : decode cX10_cited 1 = .ok (.iconst 0, 1) := by decide +kernel
theorem dX10_cited_2 : decode cX10_cited 2 = .ok (.putfield 86, 3) := by decide +kernel
theorem dX10_cited_5 : decode cX10_cited 5 = .ok (.aload_n 0, 1) := by decide +kernel
theorem dX10_cited_6 : decode cX10_cited 6 = .ok (.iload_n 1, 1) := by decide +kernel
theorem dX10_cited_7 : decode cX10_cited 7 = .ok (.invokevirtual 181, 3) := by decide +kernel
theorem dX10_cited_10 : decode cX10_cited 10 = .ok (.ifCond .eq 7, 3) := by decide +kernel
theorem dX10_cited_13 : decode cX10_cited 13 = .ok (.iload_n 2, 1) := by decide +kernel
theorem dX10_cited_14 : decode cX10_cited 14 = .ok (.ifCond .ge 5, 3) := by decide +kernel
theorem dX10_cited_17 : decode cX10_cited 17 = .ok (.iconst (-1), 1) := by decide +kernel
theorem dX10_cited_18 : decode cX10_cited 18 = .ok (.ireturn, 1) := by decide +kernel
theorem dX10_cited_19 : decode cX10_cited 19 = .ok (.iconst 0, 1) := by decide +kernel
theorem dX10_cited_20 : decode cX10_cited 20 = .ok (.istore_n 3, 1) := by decide +kernel
theorem dX10_cited_21 : decode cX10_cited 21 = .ok (.iload_n 3, 1) := by decide +kernel
theorem dX10_cited_22 : decode cX10_cited 22 = .ok (.aload_n 0, 1) := by decide +kernel
theorem dX10_cited_23 : decode cX10_cited 23 = .ok (.getfield 34, 3) := by decide +kernel
theorem dX10_cited_26 : decode cX10_cited 26 = .ok (.iload_n 1, 1) := by decide +kernel
theorem dX10_cited_27 : decode cX10_cited 27 = .ok (.iaload, 1) := by decide +kernel
theorem dX10_cited_28 : decode cX10_cited 28 = .ok (.if_icmp .gt 25, 3) := by decide +kernel
theorem dX10_cited_31 : decode cX10_cited 31 = .ok (.aload_n 0, 1) := by decide +kernel
theorem dX10_cited_32 : decode cX10_cited 32 = .ok (.aload_n 0, 1) := by decide +kernel
theorem dX10_cited_33 : decode cX10_cited 33 = .ok (.iload_n 1, 1) := by decide +kernel
theorem dX10_cited_34 : decode cX10_cited 34 = .ok (.iload_n 3, 1) := by decide +kernel
theorem dX10_cited_35 : decode cX10_cited 35 = .ok (.invokevirtual 234, 3) := by decide +kernel
theorem dX10_cited_38 : decode cX10_cited 38 = .ok (.iload_n 2, 1) := by decide +kernel
theorem dX10_cited_39 : decode cX10_cited 39 = .ok (.invokevirtual 193, 3) := by decide +kernel
theorem dX10_cited_42 : decode cX10_cited 42 = .ok (.ifCond .ne 5, 3) := by decide +kernel
theorem dX10_cited_45 : decode cX10_cited 45 = .ok (.iconst (-1), 1) := by decide +kernel
theorem dX10_cited_46 : decode cX10_cited 46 = .ok (.ireturn, 1) := by decide +kernel
theorem dX10_cited_47 : decode cX10_cited 47 = .ok (.iinc 3 1, 3) := by decide +kernel
theorem dX10_cited_50 : decode cX10_cited 50 = .ok (.goto (-29), 3) := by decide +kernel
theorem dX10_cited_53 : decode cX10_cited 53 = .ok (.aload_n 0, 1) := by decide +kernel
theorem dX10_cited_54 : decode cX10_cited 54 = .ok (.iconst 0, 1) := by decide +kernel
theorem dX10_cited_55 : decode cX10_cited 55 = .ok (.putfield 213, 3) := by decide +kernel
theorem dX10_cited_58 : decode cX10_cited 58 = .ok (.iconst 0, 1) := by decide +kernel
theorem dX10_cited_59 : decode cX10_cited 59 = .ok (.istore_n 3, 1) := by decide +kernel
theorem dX10_cited_60 : decode cX10_cited 60 = .ok (.iload_n 3, 1) := by decide +kernel
theorem dX10_cited_61 : decode cX10_cited 61 = .ok (.aload_n 0, 1) := by decide +kernel
theorem dX10_cited_62 : decode cX10_cited 62 = .ok (.getfield 34, 3) := by decide +kernel
theorem dX10_cited_65 : decode cX10_cited 65 = .ok (.iload_n 1, 1) := by decide +kernel
theorem dX10_cited_66 : decode cX10_cited 66 = .ok (.iaload, 1) := by decide +kernel
theorem dX10_cited_67 : decode cX10_cited 67 = .ok (.if_icmp .gt 40, 3) := by decide +kernel
theorem dX10_cited_70 : decode cX10_cited 70 = .ok (.iload_n 3, 1) := by decide +kernel
theorem dX10_cited_71 : decode cX10_cited 71 = .ok (.ifCond .le 9, 3) := by decide +kernel
theorem dX10_cited_74 : decode cX10_cited 74 = .ok (.aload_n 0, 1) := by decide +kernel
theorem dX10_cited_75 : decode cX10_cited 75 = .ok (.bipush 46, 2) := by decide +kernel
theorem dX10_cited_77 : decode cX10_cited 77 = .ok (.invokevirtual 219, 3) := by decide +kernel
theorem dX10_cited_80 : decode cX10_cited 80 = .ok (.aload_n 0, 1) := by decide +kernel
theorem dX10_cited_81 : decode cX10_cited 81 = .ok (.aload_n 0, 1) := by decide +kernel
theorem dX10_cited_82 : decode cX10_cited 82 = .ok (.aload_n 0, 1) := by decide +kernel
theorem dX10_cited_83 : decode cX10_cited 83 = .ok (.iload_n 1, 1) := by decide +kernel
theorem dX10_cited_84 : decode cX10_cited 84 = .ok (.iload_n 3, 1) := by decide +kernel
theorem dX10_cited_85 : decode cX10_cited 85 = .ok (.invokevirtual 234, 3) := by decide +kernel
theorem dX10_cited_88 : decode cX10_cited 88 = .ok (.iload_n 2, 1) := by decide +kernel
theorem dX10_cited_89 : decode cX10_cited 89 = .ok (.invokevirtual 193, 3) := by decide +kernel
theorem dX10_cited_92 : decode cX10_cited 92 = .ok (.aload_n 0, 1) := by decide +kernel
theorem dX10_cited_93 : decode cX10_cited 93 = .ok (.getfield 13, 3) := by decide +kernel
theorem dX10_cited_96 : decode cX10_cited 96 = .ok (.iload_n 3, 1) := by decide +kernel
theorem dX10_cited_97 : decode cX10_cited 97 = .ok (.iaload, 1) := by decide +kernel
theorem dX10_cited_98 : decode cX10_cited 98 = .ok (.invokevirtual 231, 3) := by decide +kernel
theorem dX10_cited_101 : decode cX10_cited 101 = .ok (.iinc 3 1, 3) := by decide +kernel
theorem dX10_cited_104 : decode cX10_cited 104 = .ok (.goto (-44), 3) := by decide +kernel
theorem dX10_cited_107 : decode cX10_cited 107 = .ok (.aload_n 0, 1) := by decide +kernel
theorem dX10_cited_108 : decode cX10_cited 108 = .ok (.getfield 213, 3) := by decide +kernel
theorem dX10_cited_111 : decode cX10_cited 111 = .ok (.ireturn, 1) := by decide +kernel
set_option maxRecDepth 20000 in
theorem ggX10_octet_X10_throwsIf : GoodIn wsX10_octet wsX10_throwsIf := goodIn_r _ [7, 8, 9, 10, 11, 12, 13, 14, 15, 16, 17, 18, 19, 20, 21, 22, 23, 24, 25, 26, 27, 28, 29, 30, 31, 32, 33, 34, 35, 36, 37, 38, 39, 40, 41, 42, 43, 44, 45, 46, 47, 48, 49, 50] (by decide +kernel) (by decide +kernel)
set_option maxRecDepth 20000 in
theorem gX10_octet_X10_throwsIf : GoodIn wsX10_octet (wsV RX10 209 RX10 yX10_throwsIf wsX10_throwsIf) := goodIn_app (goodIn_of _ (by decide +kernel)) ggX10_octet_X10_throwsIf
theorem dX10_octet_0 : decode cX10_octet 0 = .ok (.aload_n 0, 1) := by decide +kernel
theorem dX10_octet_1 : decode cX10_octet 1 = .ok (.iload_n 1, 1) := by decide +kernel
theorem dX10_octet_2 : decode cX10_octet 2 = .ok (.ifCond .lt 11, 3) := by decide +kernel
theorem dX10_octet_5 : decode cX10_octet 5 = .ok (.iload_n 1, 1) := by decide +kernel
theorem dX10_octet_6 : decode cX10_octet 6 = .ok (.aload_n 0, 1) := by decide +kernel
theorem dX10_octet_7 : decode cX10_octet 7 = .ok (.getfield 213, 3) := by decide +kernel
theorem dX10_octet_10 : decode cX10_octet 10 = .ok (.if_icmp .lt 7, 3) := by decide +kernel
theorem dX10_octet_13 : decode cX10_octet 13 = .ok (.iconst 1, 1) := by decide +kernel
theorem dX10_octet_14 : decode cX10_octet 14 = .ok (.goto 4, 3) := by decide +kernel
theorem dX10_octet_17 : decode cX10_octet 17 = .ok (.iconst 0, 1) := by decide +kernel
theorem dX10_octet_18 : decode cX10_octet 18 = .ok (.invokevirtual 209, 3) := by decide +kernel
theorem dX10_octet_21 : decode cX10_octet 21 = .ok (.ifCond .eq 7, 3) := by decide +kernel
theorem dX10_octet_24 : decode cX10_octet 24 = .ok (.iconst 0, 1) := by decide +kernel
theorem dX10_octet_25 : decode cX10_octet 25 = .ok (.goto 9, 3) := by decide +kernel
theorem dX10_octet_28 : decode cX10_octet 28 = .ok (.aload_n 0, 1) := by decide +kernel
theorem dX10_octet_29 : decode cX10_octet 29 = .ok (.getfield 71, 3) := by decide +kernel
theorem dX10_octet_32 : decode cX10_octet 32 = .ok (.iload_n 1, 1) := by decide +kernel
theorem dX10_octet_33 : decode cX10_octet 33 = .ok (.baload, 1) := by decide +kernel
theorem dX10_octet_34 : decode cX10_octet 34 = .ok (.ireturn, 1) := by decide +kernel
theorem dX10_breaks_0 : decode cX10_breaks 0 = .ok (.aload_n 0, 1) := by decide +kernel
theorem dX10_breaks_1 : decode cX10_breaks 1 = .ok (.iload_n 1, 1) := by decide +kernel
theorem dX10_breaks_2 : decode cX10_breaks 2 = .ok (.putfield 237, 3) := by decide +kernel
theorem dX10_breaks_5 : decode cX10_breaks 5 = .ok (.aload_n 0, 1) := by decide +kernel
theorem dX10_breaks_6 : decode cX10_breaks 6 = .ok (.iload_n 2, 1) := by decide +kernel
theorem dX10_breaks_7 : decode cX10_breaks 7 = .ok (.putfield 240, 3) := by decide +kernel
theorem dX10_breaks_10 : decode cX10_breaks 10 = .ok (.iconst 0, 1) := by decide +kernel
theorem dX10_breaks_11 : decode cX10_breaks 11 = .ok (.ireturn, 1) := by decide +kernel
set_option maxRecDepth 20000 in
theorem ggX10_fitsForm_X10_isDigit : GoodIn wsX10_fitsForm wsX10_isDigit := goodIn_r _ [4] (by decide +kernel) (by decide +kernel)
set_option maxRecDepth 20000 in
theorem gX10_fitsForm_X10_isDigit : GoodIn wsX10_fitsForm (va_wsS RX10 243 yX10_isDigit wsX10_isDigit) := goodIn_app (goodIn_of _ (by decide +kernel)) ggX10_fitsForm_X10_isDigit
set_option maxRecDepth 20000 in
theorem ggX10_fitsForm_X10_isSmall : GoodIn wsX10_fitsForm wsX10_isSmall := goodIn_r _ [7] (by decide +kernel) (by decide +kernel)
set_option maxRecDepth 20000 in
theorem gX10_fitsForm_X10_isSmall : GoodIn wsX10_fitsForm (va_wsS RX10 116 yX10_isSmall wsX10_isSmall) := goodIn_app (goodIn_of _ (by decide +kernel)) ggX10_fitsForm_X10_isSmall
set_option maxRecDepth 20000 in
theorem ggX10_fitsForm_X10_romanLetter : GoodIn wsX10_fitsForm wsX10_romanLetter := goodIn_r _ [10] (by decide +kernel) (by decide +kernel)
set_option maxRecDepth 20000 in
theorem gX10_fitsForm_X10_romanLetter : GoodIn wsX10_fitsForm (va_wsS RX10 216 yX10_romanLetter wsX10_romanLetter) := goodIn_app (goodIn_of _ (by decide +kernel)) ggX10_fitsForm_X10_romanLetter
theorem dX10_fitsForm_0 : decode cX10_fitsForm 0 = .ok (.iload_n 1, 1) := by decide +kernel
theorem dX10_fitsForm_1 : decode cX10_fitsForm 1 = .ok (.ifCond .ne 8, 3) := by decide +kernel
theorem dX10_fitsForm_4 : decode cX10_fitsForm 4 = .ok (.iload_n 0, 1) := by decide +kernel
theorem dX10_fitsForm_5 : decode cX10_fitsForm 5 = .ok (.invokestatic 243, 3) := by decide +kernel
theorem dX10_fitsForm_8 : decode cX10_fitsForm 8 = .ok (.ireturn, 1) := by decide +kernel
theorem dX10_fitsForm_9 : decode cX10_fitsForm 9 = .ok (.iload_n 1, 1) := by decide +kernel
theorem dX10_fitsForm_10 : decode cX10_fitsForm 10 = .ok (.iconst 2, 1) := by decide +kernel
theorem dX10_fitsForm_11 : decode cX10_fitsForm 11 = .ok (.if_icmp .ne 8, 3) := by decide +kernel
theorem dX10_fitsForm_14 : decode cX10_fitsForm 14 = .ok (.iload_n 0, 1) := by decide +kernel
theorem dX10_fitsForm_15 : decode cX10_fitsForm 15 = .ok (.invokestatic 116, 3) := by decide +kernel
theorem dX10_fitsForm_18 : decode cX10_fitsForm 18 = .ok (.ireturn, 1) := by decide +kernel
theorem dX10_fitsForm_19 : decode cX10_fitsForm 19 = .ok (.iload_n 1, 1) := by decide +kernel
theorem dX10_fitsForm_20 : decode cX10_fitsForm 20 = .ok (.iconst 3, 1) := by decide +kernel
theorem dX10_fitsForm_21 : decode cX10_fitsForm 21 = .ok (.if_icmp .ne 10, 3) := by decide +kernel
theorem dX10_fitsForm_24 : decode cX10_fitsForm 24 = .ok (.iload_n 0, 1) := by decide +kernel
theorem dX10_fitsForm_25 : decode cX10_fitsForm 25 = .ok (.bipush 32, 2) := by decide +kernel
theorem dX10_fitsForm_27 : decode cX10_fitsForm 27 = .ok (.isub, 1) := by decide +kernel
theorem dX10_fitsForm_28 : decode cX10_fitsForm 28 = .ok (.goto 4, 3) := by decide +kernel
theorem dX10_fitsForm_31 : decode cX10_fitsForm 31 = .ok (.iload_n 0, 1) := by decide +kernel
theorem dX10_fitsForm_32 : decode cX10_fitsForm 32 = .ok (.istore_n 2, 1) := by decide +kernel
theorem dX10_fitsForm_33 : decode cX10_fitsForm 33 = .ok (.iload_n 1, 1) := by decide +kernel
theorem dX10_fitsForm_34 : decode cX10_fitsForm 34 = .ok (.iconst 3, 1) := by decide +kernel
theorem dX10_fitsForm_35 : decode cX10_fitsForm 35 = .ok (.if_icmp .ne 12, 3) := by decide +kernel
theorem dX10_fitsForm_38 : decode cX10_fitsForm 38 = .ok (.iload_n 0, 1) := by decide +kernel
theorem dX10_fitsForm_39 : decode cX10_fitsForm 39 = .ok (.invokestatic 116, 3) := by decide +kernel
theorem dX10_fitsForm_42 : decode cX10_fitsForm 42 = .ok (.ifCond .ne 5, 3) := by decide +kernel
theorem dX10_fitsForm_45 : decode cX10_fitsForm 45 = .ok (.iconst 0, 1) := by decide +kernel
theorem dX10_fitsForm_46 : decode cX10_fitsForm 46 = .ok (.ireturn, 1) := by decide +kernel
theorem dX10_fitsForm_47 : decode cX10_fitsForm 47 = .ok (.iconst 1, 1) := by decide +kernel
theorem dX10_fitsForm_48 : decode cX10_fitsForm 48 = .ok (.istore_n 3, 1) := by decide +kernel
theorem dX10_fitsForm_49 : decode cX10_fitsForm 49 = .ok (.iload_n 3, 1) := by decide +kernel
theorem dX10_fitsForm_50 : decode cX10_fitsForm 50 = .ok (.bipush 8, 2) := by decide +kernel
theorem dX10_fitsForm_52 : decode cX10_fitsForm 52 = .ok (.if_icmp .ge 19, 3) := by decide +kernel
theorem dX10_fitsForm_55 : decode cX10_fitsForm 55 = .ok (.iload_n 3, 1) := by decide +kernel
theorem dX10_fitsForm_56 : decode cX10_fitsForm 56 = .ok (.invokestatic 216, 3) := by decide +kernel
theorem dX10_fitsForm_59 : decode cX10_fitsForm 59 = .ok (.iload_n 2, 1) := by decide +kernel
theorem dX10_fitsForm_60 : decode cX10_fitsForm 60 = .ok (.if_icmp .ne 5, 3) := by decide +kernel
theorem dX10_fitsForm_63 : decode cX10_fitsForm 63 = .ok (.iconst 1, 1) := by decide +kernel
theorem dX10_fitsForm_64 : decode cX10_fitsForm 64 = .ok (.ireturn, 1) := by decide +kernel
theorem dX10_fitsForm_65 : decode cX10_fitsForm 65 = .ok (.iinc 3 1, 3) := by decide +kernel
theorem dX10_fitsForm_68 : decode cX10_fitsForm 68 = .ok (.goto (-19), 3) := by decide +kernel
theorem dX10_fitsForm_71 : decode cX10_fitsForm 71 = .ok (.iconst 0, 1) := by decide +kernel
theorem dX10_fitsForm_72 : decode cX10_fitsForm 72 = .ok (.ireturn, 1) := by decide +kernel
theorem dX10_romanWorth_0 : decode cX10_romanWorth 0 = .ok (.iload_n 0, 1) := by decide +kernel
theorem dX10_romanWorth_1 : decode cX10_romanWorth 1 = .ok (.bipush 73, 2) := by decide +kernel
theorem dX10_romanWorth_3 : decode cX10_romanWorth 3 = .ok (.if_icmp .ne 7, 3) := by decide +kernel
theorem dX10_romanWorth_6 : decode cX10_romanWorth 6 = .ok (.iconst 1, 1) := by decide +kernel
theorem dX10_romanWorth_7 : decode cX10_romanWorth 7 = .ok (.goto 61, 3) := by decide +kernel
theorem dX10_romanWorth_10 : decode cX10_romanWorth 10 = .ok (.iload_n 0, 1) := by decide +kernel
theorem dX10_romanWorth_11 : decode cX10_romanWorth 11 = .ok (.bipush 86, 2) := by decide +kernel
theorem dX10_romanWorth_13 : decode cX10_romanWorth 13 = .ok (.if_icmp .ne 7, 3) := by decide +kernel
theorem dX10_romanWorth_16 : decode cX10_romanWorth 16 = .ok (.iconst 5, 1) := by decide +kernel
theorem dX10_romanWorth_17 : decode cX10_romanWorth 17 = .ok (.goto 51, 3) := by decide +kernel
theorem dX10_romanWorth_20 : decode cX10_romanWorth 20 = .ok (.iload_n 0, 1) := by decide +kernel
theorem dX10_romanWorth_21 : decode cX10_romanWorth 21 = .ok (.bipush 88, 2) := by decide +kernel
theorem dX10_romanWorth_23 : decode cX10_romanWorth 23 = .ok (.if_icmp .ne 8, 3) := by decide +kernel
theorem dX10_romanWorth_26 : decode cX10_romanWorth 26 = .ok (.bipush 10, 2) := by decide +kernel
theorem dX10_romanWorth_28 : decode cX10_romanWorth 28 = .ok (.goto 40, 3) := by decide +kernel
theorem dX10_romanWorth_31 : decode cX10_romanWorth 31 = .ok (.iload_n 0, 1) := by decide +kernel
theorem dX10_romanWorth_32 : decode cX10_romanWorth 32 = .ok (.bipush 76, 2) := by decide +kernel
theorem dX10_romanWorth_34 : decode cX10_romanWorth 34 = .ok (.if_icmp .ne 8, 3) := by decide +kernel
theorem dX10_romanWorth_37 : decode cX10_romanWorth 37 = .ok (.bipush 50, 2) := by decide +kernel
theorem dX10_romanWorth_39 : decode cX10_romanWorth 39 = .ok (.goto 29, 3) := by decide +kernel
theorem dX10_romanWorth_42 : decode cX10_romanWorth 42 = .ok (.iload_n 0, 1) := by decide +kernel
theorem dX10_romanWorth_43 : decode cX10_romanWorth 43 = .ok (.bipush 67, 2) := by decide +kernel
theorem dX10_romanWorth_45 : decode cX10_romanWorth 45 = .ok (.if_icmp .ne 8, 3) := by decide +kernel
theorem dX10_romanWorth_48 : decode cX10_romanWorth 48 = .ok (.bipush 100, 2) := by decide +kernel
theorem dX10_romanWorth_50 : decode cX10_romanWorth 50 = .ok (.goto 18, 3) := by decide +kernel
theorem dX10_romanWorth_53 : decode cX10_romanWorth 53 = .ok (.iload_n 0, 1) := by decide +kernel
theorem dX10_romanWorth_54 : decode cX10_romanWorth 54 = .ok (.bipush 68, 2) := by decide +kernel
theorem dX10_romanWorth_56 : decode cX10_romanWorth 56 = .ok (.if_icmp .ne 9, 3) := by decide +kernel
theorem dX10_romanWorth_59 : decode cX10_romanWorth 59 = .ok (.sipush 500, 3) := by decide +kernel
theorem dX10_romanWorth_62 : decode cX10_romanWorth 62 = .ok (.goto 6, 3) := by decide +kernel
theorem dX10_romanWorth_65 : decode cX10_romanWorth 65 = .ok (.sipush 1000, 3) := by decide +kernel
theorem dX10_romanWorth_68 : decode cX10_romanWorth 68 = .ok (.ireturn, 1) := by decide +kernel
set_option maxRecDepth 20000 in
theorem ggX10_readLabel_X10_peek : GoodIn wsX10_readLabel wsX10_peek := goodIn_r _ [11, 1, 12, 4, 76, 77, 78, 79, 80, 81, 82, 83, 84, 85, 86, 87, 88, 89, 90, 91, 92, 93, 94, 95, 96, 97, 98, 99, 100, 101, 102, 103, 104, 105, 106, 107, 108, 109, 110, 111, 112, 113, 114, 115, 116, 117] (by decide +kernel) (by decide +kernel)
set_option maxRecDepth 20000 in
theorem gX10_readLabel_X10_peek : GoodIn wsX10_readLabel (wsV RX10 105 RX10 yX10_peek wsX10_peek) := goodIn_app (goodIn_of _ (by decide +kernel)) ggX10_readLabel_X10_peek
set_option maxRecDepth 20000 in
theorem ggX10_readLabel_X10_fitsForm : GoodIn wsX10_readLabel wsX10_fitsForm := goodIn_r _ [15, 16, 17, 10, 18, 19, 20, 21, 22, 23, 24] (by decide +kernel) (by decide +kernel)
set_option maxRecDepth 20000 in
theorem gX10_readLabel_X10_fitsForm : GoodIn wsX10_readLabel (va_wsS RX10 246 yX10_fitsForm wsX10_fitsForm) := goodIn_app (goodIn_of _ (by decide +kernel)) ggX10_readLabel_X10_fitsForm
set_option maxRecDepth 20000 in
theorem ggX10_readLabel_X10_breaks : GoodIn wsX10_readLabel wsX10_breaks := goodIn_r _ [28, 29, 30, 76, 77, 78, 79, 80, 81, 82, 83, 84, 85, 86, 87, 88, 89, 90, 91, 92, 93, 94, 95, 96, 97, 98, 99, 100, 101, 102, 103, 104, 105, 106, 107, 108, 109, 110, 111, 112, 113, 114, 115, 116, 117] (by decide +kernel) (by decide +kernel)
set_option maxRecDepth 20000 in
theorem gX10_readLabel_X10_breaks : GoodIn wsX10_readLabel (wsV RX10 249 RX10 yX10_breaks wsX10_breaks) := goodIn_app (goodIn_of _ (by decide +kernel)) ggX10_readLabel_X10_breaks
set_option maxRecDepth 20000 in
theorem ggX10_readLabel_X10_romanWorth : GoodIn wsX10_readLabel wsX10_romanWorth := goodIn_r _ [33] (by decide +kernel) (by decide +kernel)
set_option maxRecDepth 20000 in
theorem gX10_readLabel_X10_romanWorth : GoodIn wsX10_readLabel (va_wsS RX10 252 yX10_romanWorth wsX10_romanWorth) := goodIn_app (goodIn_of _ (by decide +kernel)) ggX10_readLabel_X10_romanWorth
set_option maxRecDepth 20000 in
theorem ggX10_readLabel_X10_isGreat : GoodIn wsX10_readLabel wsX10_isGreat := goodIn_r _ [36] (by decide +kernel) (by decide +kernel)
set_option maxRecDepth 20000 in
theorem gX10_readLabel_X10_isGreat : GoodIn wsX10_readLabel (va_wsS RX10 206 yX10_isGreat wsX10_isGreat) := goodIn_app (goodIn_of _ (by decide +kernel)) ggX10_readLabel_X10_isGreat
set_option maxRecDepth 20000 in
theorem ggX10_readLabel_X10_suffixInHand : GoodIn wsX10_readLabel wsX10_suffixInHand := goodIn_r _ [40, 3, 76, 77, 78, 79, 80, 81, 82, 83, 84, 85, 86, 87, 88, 89, 90, 91, 92, 93, 94, 95, 96, 97, 98, 99, 100, 101, 102, 103, 104, 105, 106, 107, 108, 109, 110, 111, 112, 113, 114, 115, 116, 117] (by decide +kernel) (by decide +kernel)
set_option maxRecDepth 20000 in
theorem gX10_readLabel_X10_suffixInHand : GoodIn wsX10_readLabel (wsV RX10 178 RX10 yX10_suffixInHand wsX10_suffixInHand) := goodIn_app (goodIn_of _ (by decide +kernel)) ggX10_readLabel_X10_suffixInHand
set_option maxRecDepth 20000 in
theorem ggX10_readLabel_X10_isWritten : GoodIn wsX10_readLabel wsX10_isWritten := goodIn_r _ [44, 45, 46, 47, 6, 1, 4, 48, 49, 50, 10, 51, 5, 52, 53, 54, 55, 56, 57, 58, 59, 60, 61, 62, 63, 64, 65, 66, 67, 68, 69, 22, 23, 24, 70, 71, 72, 73, 74, 75, 76, 77, 78, 79, 80, 81, 82, 83, 84, 85, 86, 87, 88, 89, 90, 91, 92, 93, 94, 95, 96, 97, 98, 99, 100, 101, 102, 103, 104, 105, 106, 107, 108, 109, 110, 111, 112, 113, 114, 115, 116, 117] (by decide +kernel) (by decide +kernel)
set_option maxRecDepth 20000 in
theorem gX10_readLabel_X10_isWritten : GoodIn wsX10_readLabel (wsV RX10 259 RX10 yX10_isWritten wsX10_isWritten) := goodIn_app (goodIn_of _ (by decide +kernel)) ggX10_readLabel_X10_isWritten
theorem dX10_readLabel_0 : decode cX10_readLabel 0 = .ok (.aload_n 0, 1) := by decide +kernel
theorem dX10_readLabel_1 : decode cX10_readLabel 1 = .ok (.getfield 99, 3) := by decide +kernel
theorem dX10_readLabel_4 : decode cX10_readLabel 4 = .ok (.istore_n 2, 1) := by decide +kernel
theorem dX10_readLabel_5 : decode cX10_readLabel 5 = .ok (.aload_n 0, 1) := by decide +kernel
theorem dX10_readLabel_6 : decode cX10_readLabel 6 = .ok (.invokevirtual 105, 3) := by decide +kernel
theorem dX10_readLabel_9 : decode cX10_readLabel 9 = .ok (.iload_n 1, 1) := by decide +kernel
theorem dX10_readLabel_10 : decode cX10_readLabel 10 = .ok (.invokestatic 246, 3) := by decide +kernel
theorem dX10_readLabel_13 : decode cX10_readLabel 13 = .ok (.ifCond .ne 13, 3) := by decide +kernel
theorem dX10_readLabel_16 : decode cX10_readLabel 16 = .ok (.aload_n 0, 1) := by decide +kernel
theorem dX10_readLabel_17 : decode cX10_readLabel 17 = .ok (.iconst 1, 1) := by decide +kernel
theorem dX10_readLabel_18 : decode cX10_readLabel 18 = .ok (.aload_n 0, 1) := by decide +kernel
theorem dX10_readLabel_19 : decode cX10_readLabel 19 = .ok (.getfield 99, 3) := by decide +kernel
theorem dX10_readLabel_22 : decode cX10_readLabel 22 = .ok (.invokevirtual 249, 3) := by decide +kernel
theorem dX10_readLabel_25 : decode cX10_readLabel 25 = .ok (.ireturn, 1) := by decide +kernel
theorem dX10_readLabel_26 : decode cX10_readLabel 26 = .ok (.iconst 0, 1) := by decide +kernel
theorem dX10_readLabel_27 : decode cX10_readLabel 27 = .ok (.istore_n 3, 1) := by decide +kernel
theorem dX10_readLabel_28 : decode cX10_readLabel 28 = .ok (.iconst 0, 1) := by decide +kernel
theorem dX10_readLabel_29 : decode cX10_readLabel 29 = .ok (.istore 4, 2) := by decide +kernel
theorem dX10_readLabel_31 : decode cX10_readLabel 31 = .ok (.aload_n 0, 1) := by decide +kernel
theorem dX10_readLabel_32 : decode cX10_readLabel 32 = .ok (.invokevirtual 105, 3) := by decide +kernel
theorem dX10_readLabel_35 : decode cX10_readLabel 35 = .ok (.iload_n 1, 1) := by decide +kernel
theorem dX10_readLabel_36 : decode cX10_readLabel 36 = .ok (.invokestatic 246, 3) := by decide +kernel
theorem dX10_readLabel_39 : decode cX10_readLabel 39 = .ok (.ifCond .eq 118, 3) := by decide +kernel
theorem dX10_readLabel_42 : decode cX10_readLabel 42 = .ok (.aload_n 0, 1) := by decide +kernel
theorem dX10_readLabel_43 : decode cX10_readLabel 43 = .ok (.invokevirtual 105, 3) := by decide +kernel
theorem dX10_readLabel_46 : decode cX10_readLabel 46 = .ok (.istore 5, 2) := by decide +kernel
theorem dX10_readLabel_48 : decode cX10_readLabel 48 = .ok (.iload_n 1, 1) := by decide +kernel
theorem dX10_readLabel_49 : decode cX10_readLabel 49 = .ok (.ifCond .ne 17, 3) := by decide +kernel
theorem dX10_readLabel_52 : decode cX10_readLabel 52 = .ok (.bipush 10, 2) := by decide +kernel
theorem dX10_readLabel_54 : decode cX10_readLabel 54 = .ok (.iload_n 3, 1) := by decide +kernel
theorem dX10_readLabel_55 : decode cX10_readLabel 55 = .ok (.imul, 1) := by decide +kernel
theorem dX10_readLabel_56 : decode cX10_readLabel 56 = .ok (.iload 5, 2) := by decide +kernel
theorem dX10_readLabel_58 : decode cX10_readLabel 58 = .ok (.iadd, 1) := by decide +kernel
theorem dX10_readLabel_59 : decode cX10_readLabel 59 = .ok (.bipush 48, 2) := by decide +kernel
theorem dX10_readLabel_61 : decode cX10_readLabel 61 = .ok (.isub, 1) := by decide +kernel
theorem dX10_readLabel_62 : decode cX10_readLabel 62 = .ok (.istore_n 3, 1) := by decide +kernel
theorem dX10_readLabel_63 : decode cX10_readLabel 63 = .ok (.goto 68, 3) := by decide +kernel
theorem dX10_readLabel_66 : decode cX10_readLabel 66 = .ok (.iload_n 1, 1) := by decide +kernel
theorem dX10_readLabel_67 : decode cX10_readLabel 67 = .ok (.iconst 2, 1) := by decide +kernel
theorem dX10_readLabel_68 : decode cX10_readLabel 68 = .ok (.if_icmp .ne 17, 3) := by decide +kernel
theorem dX10_readLabel_71 : decode cX10_readLabel 71 = .ok (.bipush 26, 2) := by decide +kernel
theorem dX10_readLabel_73 : decode cX10_readLabel 73 = .ok (.iload_n 3, 1) := by decide +kernel
theorem dX10_readLabel_74 : decode cX10_readLabel 74 = .ok (.imul, 1) := by decide +kernel
theorem dX10_readLabel_75 : decode cX10_readLabel 75 = .ok (.iload 5, 2) := by decide +kernel
theorem dX10_readLabel_77 : decode cX10_readLabel 77 = .ok (.iadd, 1) := by decide +kernel
theorem dX10_readLabel_78 : decode cX10_readLabel 78 = .ok (.bipush 96, 2) := by decide +kernel
theorem dX10_readLabel_80 : decode cX10_readLabel 80 = .ok (.isub, 1) := by decide +kernel
theorem dX10_readLabel_81 : decode cX10_readLabel 81 = .ok (.istore_n 3, 1) := by decide +kernel
theorem dX10_readLabel_82 : decode cX10_readLabel 82 = .ok (.goto 49, 3) := by decide +kernel
theorem dX10_readLabel_85 : decode cX10_readLabel 85 = .ok (.iload_n 1, 1) := by decide +kernel
theorem dX10_readLabel_86 : decode cX10_readLabel 86 = .ok (.iconst 3, 1) := by decide +kernel
theorem dX10_readLabel_87 : decode cX10_readLabel 87 = .ok (.if_icmp .ne 11, 3) := by decide +kernel
theorem dX10_readLabel_90 : decode cX10_readLabel 90 = .ok (.iload 5, 2) := by decide +kernel
theorem dX10_readLabel_92 : decode cX10_readLabel 92 = .ok (.bipush 32, 2) := by decide +kernel
theorem dX10_readLabel_94 : decode cX10_readLabel 94 = .ok (.isub, 1) := by decide +kernel
theorem dX10_readLabel_95 : decode cX10_readLabel 95 = .ok (.goto 5, 3) := by decide +kernel
theorem dX10_readLabel_98 : decode cX10_readLabel 98 = .ok (.iload 5, 2) := by decide +kernel
theorem dX10_readLabel_100 : decode cX10_readLabel 100 = .ok (.invokestatic 252, 3) := by decide +kernel
theorem dX10_readLabel_103 : decode cX10_readLabel 103 = .ok (.istore 6, 2) := by decide +kernel
theorem dX10_readLabel_105 : decode cX10_readLabel 105 = .ok (.iload_n 3, 1) := by decide +kernel
theorem dX10_readLabel_106 : decode cX10_readLabel 106 = .ok (.iload 4, 2) := by decide +kernel
theorem dX10_readLabel_108 : decode cX10_readLabel 108 = .ok (.iload 6, 2) := by decide +kernel
theorem dX10_readLabel_110 : decode cX10_readLabel 110 = .ok (.if_icmp .ge 13, 3) := by decide +kernel
theorem dX10_readLabel_113 : decode cX10_readLabel 113 = .ok (.iload 6, 2) := by decide +kernel
theorem dX10_readLabel_115 : decode cX10_readLabel 115 = .ok (.iconst 2, 1) := by decide +kernel
theorem dX10_readLabel_116 : decode cX10_readLabel 116 = .ok (.iload 4, 2) := by decide +kernel
theorem dX10_readLabel_118 : decode cX10_readLabel 118 = .ok (.imul, 1) := by decide +kernel
theorem dX10_readLabel_119 : decode cX10_readLabel 119 = .ok (.isub, 1) := by decide +kernel
theorem dX10_readLabel_120 : decode cX10_readLabel 120 = .ok (.goto 5, 3) := by decide +kernel
theorem dX10_readLabel_123 : decode cX10_readLabel 123 = .ok (.iload 6, 2) := by decide +kernel
theorem dX10_readLabel_125 : decode cX10_readLabel 125 = .ok (.iadd, 1) := by decide +kernel
theorem dX10_readLabel_126 : decode cX10_readLabel 126 = .ok (.istore_n 3, 1) := by decide +kernel
theorem dX10_readLabel_127 : decode cX10_readLabel 127 = .ok (.iload 6, 2) := by decide +kernel
theorem dX10_readLabel_129 : decode cX10_readLabel 129 = .ok (.istore 4, 2) := by decide +kernel
theorem dX10_readLabel_131 : decode cX10_readLabel 131 = .ok (.iload_n 3, 1) := by decide +kernel
theorem dX10_readLabel_132 : decode cX10_readLabel 132 = .ok (.ldc 255, 2) := by decide +kernel
theorem dX10_readLabel_134 : decode cX10_readLabel 134 = .ok (.if_icmp .le 8, 3) := by decide +kernel
theorem dX10_readLabel_137 : decode cX10_readLabel 137 = .ok (.ldc 255, 2) := by decide +kernel
theorem dX10_readLabel_139 : decode cX10_readLabel 139 = .ok (.goto 4, 3) := by decide +kernel
theorem dX10_readLabel_142 : decode cX10_readLabel 142 = .ok (.iload_n 3, 1) := by decide +kernel
theorem dX10_readLabel_143 : decode cX10_readLabel 143 = .ok (.istore_n 3, 1) := by decide +kernel
theorem dX10_readLabel_144 : decode cX10_readLabel 144 = .ok (.aload_n 0, 1) := by decide +kernel
theorem dX10_readLabel_145 : decode cX10_readLabel 145 = .ok (.dup, 1) := by decide +kernel
theorem dX10_readLabel_146 : decode cX10_readLabel 146 = .ok (.getfield 99, 3) := by decide +kernel
theorem dX10_readLabel_149 : decode cX10_readLabel 149 = .ok (.iconst 1, 1) := by decide +kernel
theorem dX10_readLabel_150 : decode cX10_readLabel 150 = .ok (.iadd, 1) := by decide +kernel
theorem dX10_readLabel_151 : decode cX10_readLabel 151 = .ok (.putfield 99, 3) := by decide +kernel
theorem dX10_readLabel_154 : decode cX10_readLabel 154 = .ok (.goto (-123), 3) := by decide +kernel
theorem dX10_readLabel_157 : decode cX10_readLabel 157 = .ok (.iconst 0, 1) := by decide +kernel
theorem dX10_readLabel_158 : decode cX10_readLabel 158 = .ok (.istore 5, 2) := by decide +kernel
theorem dX10_readLabel_160 : decode cX10_readLabel 160 = .ok (.iload 5, 2) := by decide +kernel
theorem dX10_readLabel_162 : decode cX10_readLabel 162 = .ok (.iconst 4, 1) := by decide +kernel
theorem dX10_readLabel_163 : decode cX10_readLabel 163 = .ok (.if_icmp .ge 17, 3) := by decide +kernel
theorem dX10_readLabel_166 : decode cX10_readLabel 166 = .ok (.aload_n 0, 1) := by decide +kernel
theorem dX10_readLabel_167 : decode cX10_readLabel 167 = .ok (.getfield 68, 3) := by decide +kernel
theorem dX10_readLabel_170 : decode cX10_readLabel 170 = .ok (.iload 5, 2) := by decide +kernel
theorem dX10_readLabel_172 : decode cX10_readLabel 172 = .ok (.iconst 0, 1) := by decide +kernel
theorem dX10_readLabel_173 : decode cX10_readLabel 173 = .ok (.iastore, 1) := by decide +kernel
theorem dX10_readLabel_174 : decode cX10_readLabel 174 = .ok (.iinc 5 1, 3) := by decide +kernel
theorem dX10_readLabel_177 : decode cX10_readLabel 177 = .ok (.goto (-17), 3) := by decide +kernel
theorem dX10_readLabel_180 : decode cX10_readLabel 180 = .ok (.iconst 0, 1) := by decide +kernel
theorem dX10_readLabel_181 : decode cX10_readLabel 181 = .ok (.istore 5, 2) := by decide +kernel
theorem dX10_readLabel_183 : decode cX10_readLabel 183 = .ok (.iload_n 1, 1) := by decide +kernel
theorem dX10_readLabel_184 : decode cX10_readLabel 184 = .ok (.ifCond .eq 42, 3) := by decide +kernel
theorem dX10_readLabel_187 : decode cX10_readLabel 187 = .ok (.aload_n 0, 1) := by decide +kernel
theorem dX10_readLabel_188 : decode cX10_readLabel 188 = .ok (.invokevirtual 105, 3) := by decide +kernel
theorem dX10_readLabel_191 : decode cX10_readLabel 191 = .ok (.bipush 45, 2) := by decide +kernel
theorem dX10_readLabel_193 : decode cX10_readLabel 193 = .ok (.if_icmp .ne 33, 3) := by decide +kernel
theorem dX10_readLabel_196 : decode cX10_readLabel 196 = .ok (.aload_n 0, 1) := by decide +kernel
theorem dX10_readLabel_197 : decode cX10_readLabel 197 = .ok (.dup, 1) := by decide +kernel
theorem dX10_readLabel_198 : decode cX10_readLabel 198 = .ok (.getfield 99, 3) := by decide +kernel
theorem dX10_readLabel_201 : decode cX10_readLabel 201 = .ok (.iconst 1, 1) := by decide +kernel
theorem dX10_readLabel_202 : decode cX10_readLabel 202 = .ok (.iadd, 1) := by decide +kernel
theorem dX10_readLabel_203 : decode cX10_readLabel 203 = .ok (.putfield 99, 3) := by decide +kernel
theorem dX10_readLabel_206 : decode cX10_readLabel 206 = .ok (.aload_n 0, 1) := by decide +kernel
theorem dX10_readLabel_207 : decode cX10_readLabel 207 = .ok (.invokevirtual 105, 3) := by decide +kernel
theorem dX10_readLabel_210 : decode cX10_readLabel 210 = .ok (.invokestatic 206, 3) := by decide +kernel
theorem dX10_readLabel_213 : decode cX10_readLabel 213 = .ok (.ifCond .ne 13, 3) := by decide +kernel
theorem dX10_readLabel_216 : decode cX10_readLabel 216 = .ok (.aload_n 0, 1) := by decide +kernel
theorem dX10_readLabel_217 : decode cX10_readLabel 217 = .ok (.iconst 1, 1) := by decide +kernel
theorem dX10_readLabel_218 : decode cX10_readLabel 218 = .ok (.aload_n 0, 1) := by decide +kernel
theorem dX10_readLabel_219 : decode cX10_readLabel 219 = .ok (.getfield 99, 3) := by decide +kernel
theorem dX10_readLabel_222 : decode cX10_readLabel 222 = .ok (.invokevirtual 249, 3) := by decide +kernel
theorem dX10_readLabel_225 : decode cX10_readLabel 225 = .ok (.ireturn, 1) := by decide +kernel
theorem dX10_readLabel_226 : decode cX10_readLabel 226 = .ok (.iload_n 1, 1) := by decide +kernel
theorem dX10_readLabel_227 : decode cX10_readLabel 227 = .ok (.ifCond .eq 27, 3) := by decide +kernel
theorem dX10_readLabel_230 : decode cX10_readLabel 230 = .ok (.aload_n 0, 1) := by decide +kernel
theorem dX10_readLabel_231 : decode cX10_readLabel 231 = .ok (.getfield 99, 3) := by decide +kernel
theorem dX10_readLabel_234 : decode cX10_readLabel 234 = .ok (.iload_n 2, 1) := by decide +kernel
theorem dX10_readLabel_235 : decode cX10_readLabel 235 = .ok (.if_icmp .le 65, 3) := by decide +kernel
theorem dX10_readLabel_238 : decode cX10_readLabel 238 = .ok (.aload_n 0, 1) := by decide +kernel
theorem dX10_readLabel_239 : decode cX10_readLabel 239 = .ok (.getfield 7, 3) := by decide +kernel
theorem dX10_readLabel_242 : decode cX10_readLabel 242 = .ok (.aload_n 0, 1) := by decide +kernel
theorem dX10_readLabel_243 : decode cX10_readLabel 243 = .ok (.getfield 99, 3) := by decide +kernel
theorem dX10_readLabel_246 : decode cX10_readLabel 246 = .ok (.iconst 1, 1) := by decide +kernel
theorem dX10_readLabel_247 : decode cX10_readLabel 247 = .ok (.isub, 1) := by decide +kernel
theorem dX10_readLabel_248 : decode cX10_readLabel 248 = .ok (.baload, 1) := by decide +kernel
theorem dX10_readLabel_249 : decode cX10_readLabel 249 = .ok (.bipush 45, 2) := by decide +kernel
theorem dX10_readLabel_251 : decode cX10_readLabel 251 = .ok (.if_icmp .ne 49, 3) := by decide +kernel
theorem dX10_readLabel_254 : decode cX10_readLabel 254 = .ok (.aload_n 0, 1) := by decide +kernel
theorem dX10_readLabel_255 : decode cX10_readLabel 255 = .ok (.invokevirtual 105, 3) := by decide +kernel
theorem dX10_readLabel_258 : decode cX10_readLabel 258 = .ok (.invokestatic 206, 3) := by decide +kernel
theorem dX10_readLabel_261 : decode cX10_readLabel 261 = .ok (.ifCond .eq 39, 3) := by decide +kernel
theorem dX10_readLabel_264 : decode cX10_readLabel 264 = .ok (.iload 5, 2) := by decide +kernel
theorem dX10_readLabel_266 : decode cX10_readLabel 266 = .ok (.iconst 4, 1) := by decide +kernel
theorem dX10_readLabel_267 : decode cX10_readLabel 267 = .ok (.if_icmp .ge 17, 3) := by decide +kernel
theorem dX10_readLabel_270 : decode cX10_readLabel 270 = .ok (.aload_n 0, 1) := by decide +kernel
theorem dX10_readLabel_271 : decode cX10_readLabel 271 = .ok (.getfield 68, 3) := by decide +kernel
theorem dX10_readLabel_274 : decode cX10_readLabel 274 = .ok (.iload 5, 2) := by decide +kernel
theorem dX10_readLabel_276 : decode cX10_readLabel 276 = .ok (.aload_n 0, 1) := by decide +kernel
theorem dX10_readLabel_277 : decode cX10_readLabel 277 = .ok (.invokevirtual 105, 3) := by decide +kernel
theorem dX10_readLabel_280 : decode cX10_readLabel 280 = .ok (.bipush 64, 2) := by decide +kernel
theorem dX10_readLabel_282 : decode cX10_readLabel 282 = .ok (.isub, 1) := by decide +kernel
theorem dX10_readLabel_283 : decode cX10_readLabel 283 = .ok (.iastore, 1) := by decide +kernel
theorem dX10_readLabel_284 : decode cX10_readLabel 284 = .ok (.iinc 5 1, 3) := by decide +kernel
theorem dX10_readLabel_287 : decode cX10_readLabel 287 = .ok (.aload_n 0, 1) := by decide +kernel
theorem dX10_readLabel_288 : decode cX10_readLabel 288 = .ok (.dup, 1) := by decide +kernel
theorem dX10_readLabel_289 : decode cX10_readLabel 289 = .ok (.getfield 99, 3) := by decide +kernel
theorem dX10_readLabel_292 : decode cX10_readLabel 292 = .ok (.iconst 1, 1) := by decide +kernel
theorem dX10_readLabel_293 : decode cX10_readLabel 293 = .ok (.iadd, 1) := by decide +kernel
theorem dX10_readLabel_294 : decode cX10_readLabel 294 = .ok (.putfield 99, 3) := by decide +kernel
theorem dX10_readLabel_297 : decode cX10_readLabel 297 = .ok (.goto (-43), 3) := by decide +kernel
theorem dX10_readLabel_300 : decode cX10_readLabel 300 = .ok (.iload_n 3, 1) := by decide +kernel
theorem dX10_readLabel_301 : decode cX10_readLabel 301 = .ok (.iconst 1, 1) := by decide +kernel
theorem dX10_readLabel_302 : decode cX10_readLabel 302 = .ok (.if_icmp .lt 16, 3) := by decide +kernel
theorem dX10_readLabel_305 : decode cX10_readLabel 305 = .ok (.iload_n 3, 1) := by decide +kernel
theorem dX10_readLabel_306 : decode cX10_readLabel 306 = .ok (.sipush 999, 3) := by decide +kernel
theorem dX10_readLabel_309 : decode cX10_readLabel 309 = .ok (.if_icmp .gt 9, 3) := by decide +kernel
theorem dX10_readLabel_312 : decode cX10_readLabel 312 = .ok (.iload 5, 2) := by decide +kernel
theorem dX10_readLabel_314 : decode cX10_readLabel 314 = .ok (.iconst 4, 1) := by decide +kernel
theorem dX10_readLabel_315 : decode cX10_readLabel 315 = .ok (.if_icmp .le 10, 3) := by decide +kernel
theorem dX10_readLabel_318 : decode cX10_readLabel 318 = .ok (.aload_n 0, 1) := by decide +kernel
theorem dX10_readLabel_319 : decode cX10_readLabel 319 = .ok (.iconst 2, 1) := by decide +kernel
theorem dX10_readLabel_320 : decode cX10_readLabel 320 = .ok (.iload_n 2, 1) := by decide +kernel
theorem dX10_readLabel_321 : decode cX10_readLabel 321 = .ok (.invokevirtual 249, 3) := by decide +kernel
theorem dX10_readLabel_324 : decode cX10_readLabel 324 = .ok (.ireturn, 1) := by decide +kernel
theorem dX10_readLabel_325 : decode cX10_readLabel 325 = .ok (.aload_n 0, 1) := by decide +kernel
theorem dX10_readLabel_326 : decode cX10_readLabel 326 = .ok (.iload_n 3, 1) := by decide +kernel
theorem dX10_readLabel_327 : decode cX10_readLabel 327 = .ok (.ldc 173, 2) := by decide +kernel
theorem dX10_readLabel_329 : decode cX10_readLabel 329 = .ok (.imul, 1) := by decide +kernel
theorem dX10_readLabel_330 : decode cX10_readLabel 330 = .ok (.aload_n 0, 1) := by decide +kernel
theorem dX10_readLabel_331 : decode cX10_readLabel 331 = .ok (.invokevirtual 178, 3) := by decide +kernel
theorem dX10_readLabel_334 : decode cX10_readLabel 334 = .ok (.iadd, 1) := by decide +kernel
theorem dX10_readLabel_335 : decode cX10_readLabel 335 = .ok (.putfield 256, 3) := by decide +kernel
theorem dX10_readLabel_338 : decode cX10_readLabel 338 = .ok (.aload_n 0, 1) := by decide +kernel
theorem dX10_readLabel_339 : decode cX10_readLabel 339 = .ok (.iload_n 2, 1) := by decide +kernel
theorem dX10_readLabel_340 : decode cX10_readLabel 340 = .ok (.iload_n 1, 1) := by decide +kernel
theorem dX10_readLabel_341 : decode cX10_readLabel 341 = .ok (.invokevirtual 259, 3) := by decide +kernel
theorem dX10_readLabel_344 : decode cX10_readLabel 344 = .ok (.ifCond .ne 12, 3) := by decide +kernel
theorem dX10_readLabel_347 : decode cX10_readLabel 347 = .ok (.aload_n 0, 1) := by decide +kernel
theorem dX10_readLabel_348 : decode cX10_readLabel 348 = .ok (.iconst 2, 1) := by decide +kernel
theorem dX10_readLabel_349 : decode cX10_readLabel 349 = .ok (.iload_n 2, 1) := by decide +kernel
theorem dX10_readLabel_350 : decode cX10_readLabel 350 = .ok (.invokevirtual 249, 3) := by decide +kernel
theorem dX10_readLabel_353 : decode cX10_readLabel 353 = .ok (.ifCond .eq 7, 3) := by decide +kernel
theorem dX10_readLabel_356 : decode cX10_readLabel 356 = .ok (.iconst 1, 1) := by decide +kernel
theorem dX10_readLabel_357 : decode cX10_readLabel 357 = .ok (.goto 4, 3) := by decide +kernel
theorem dX10_readLabel_360 : decode cX10_readLabel 360 = .ok (.iconst 0, 1) := by decide +kernel
theorem dX10_readLabel_361 : decode cX10_readLabel 361 = .ok (.ireturn, 1) := by decide +kernel
set_option maxRecDepth 20000 in
theorem ggX10_isWritten_X10_write : GoodIn wsX10_isWritten wsX10_write := goodIn_r _ [11, 12, 13, 14, 15, 10, 16, 17, 18, 19, 20, 3, 1, 21, 22, 23, 24, 25, 26, 27, 28, 29, 30, 31, 32, 33, 34, 35, 36, 37, 38, 39, 40, 41, 42, 43, 44, 45, 46, 47, 48, 49, 50, 51, 52, 53, 54, 55, 56, 57, 58, 59, 60, 61, 62, 63, 64, 65, 66, 67, 68, 69, 70, 71, 72, 73, 74, 75, 76, 77, 78, 79, 80, 81] (by decide +kernel) (by decide +kernel)
set_option maxRecDepth 20000 in
theorem gX10_isWritten_X10_write : GoodIn wsX10_isWritten (wsV RX10 231 RX10 yX10_write wsX10_write) := goodIn_app (goodIn_of _ (by decide +kernel)) ggX10_isWritten_X10_write
theorem dX10_isWritten_0 : decode cX10_isWritten 0 = .ok (.aload_n 0, 1) := by decide +kernel
theorem dX10_isWritten_1 : decode cX10_isWritten 1 = .ok (.getfield 213, 3) := by decide +kernel
theorem dX10_isWritten_4 : decode cX10_isWritten 4 = .ok (.istore_n 3, 1) := by decide +kernel
theorem dX10_isWritten_5 : decode cX10_isWritten 5 = .ok (.iconst 0, 1) := by decide +kernel
theorem dX10_isWritten_6 : decode cX10_isWritten 6 = .ok (.istore 4, 2) := by decide +kernel
theorem dX10_isWritten_8 : decode cX10_isWritten 8 = .ok (.iload 4, 2) := by decide +kernel
theorem dX10_isWritten_10 : decode cX10_isWritten 10 = .ok (.iload_n 3, 1) := by decide +kernel
theorem dX10_isWritten_11 : decode cX10_isWritten 11 = .ok (.if_icmp .ge 23, 3) := by decide +kernel
theorem dX10_isWritten_14 : decode cX10_isWritten 14 = .ok (.aload_n 0, 1) := by decide +kernel
theorem dX10_isWritten_15 : decode cX10_isWritten 15 = .ok (.getfield 80, 3) := by decide +kernel
theorem dX10_isWritten_18 : decode cX10_isWritten 18 = .ok (.iload 4, 2) := by decide +kernel
theorem dX10_isWritten_20 : decode cX10_isWritten 20 = .ok (.aload_n 0, 1) := by decide +kernel
theorem dX10_isWritten_21 : decode cX10_isWritten 21 = .ok (.getfield 71, 3) := by decide +kernel
theorem dX10_isWritten_24 : decode cX10_isWritten 24 = .ok (.iload 4, 2) := by decide +kernel
theorem dX10_isWritten_26 : decode cX10_isWritten 26 = .ok (.baload, 1) := by decide +kernel
theorem dX10_isWritten_27 : decode cX10_isWritten 27 = .ok (.bastore, 1) := by decide +kernel
theorem dX10_isWritten_28 : decode cX10_isWritten 28 = .ok (.iinc 4 1, 3) := by decide +kernel
theorem dX10_isWritten_31 : decode cX10_isWritten 31 = .ok (.goto (-23), 3) := by decide +kernel
theorem dX10_isWritten_34 : decode cX10_isWritten 34 = .ok (.aload_n 0, 1) := by decide +kernel
theorem dX10_isWritten_35 : decode cX10_isWritten 35 = .ok (.iconst 0, 1) := by decide +kernel
theorem dX10_isWritten_36 : decode cX10_isWritten 36 = .ok (.putfield 213, 3) := by decide +kernel
theorem dX10_isWritten_39 : decode cX10_isWritten 39 = .ok (.aload_n 0, 1) := by decide +kernel
theorem dX10_isWritten_40 : decode cX10_isWritten 40 = .ok (.aload_n 0, 1) := by decide +kernel
theorem dX10_isWritten_41 : decode cX10_isWritten 41 = .ok (.getfield 256, 3) := by decide +kernel
theorem dX10_isWritten_44 : decode cX10_isWritten 44 = .ok (.iload_n 2, 1) := by decide +kernel
theorem dX10_isWritten_45 : decode cX10_isWritten 45 = .ok (.invokevirtual 231, 3) := by decide +kernel
theorem dX10_isWritten_48 : decode cX10_isWritten 48 = .ok (.aload_n 0, 1) := by decide +kernel
theorem dX10_isWritten_49 : decode cX10_isWritten 49 = .ok (.getfield 213, 3) := by decide +kernel
theorem dX10_isWritten_52 : decode cX10_isWritten 52 = .ok (.aload_n 0, 1) := by decide +kernel
theorem dX10_isWritten_53 : decode cX10_isWritten 53 = .ok (.getfield 99, 3) := by decide +kernel
theorem dX10_isWritten_56 : decode cX10_isWritten 56 = .ok (.iload_n 1, 1) := by decide +kernel
theorem dX10_isWritten_57 : decode cX10_isWritten 57 = .ok (.isub, 1) := by decide +kernel
theorem dX10_isWritten_58 : decode cX10_isWritten 58 = .ok (.if_icmp .ne 7, 3) := by decide +kernel
theorem dX10_isWritten_61 : decode cX10_isWritten 61 = .ok (.iconst 1, 1) := by decide +kernel
theorem dX10_isWritten_62 : decode cX10_isWritten 62 = .ok (.goto 4, 3) := by decide +kernel
theorem dX10_isWritten_65 : decode cX10_isWritten 65 = .ok (.iconst 0, 1) := by decide +kernel
theorem dX10_isWritten_66 : decode cX10_isWritten 66 = .ok (.istore 4, 2) := by decide +kernel
theorem dX10_isWritten_68 : decode cX10_isWritten 68 = .ok (.iconst 0, 1) := by decide +kernel
theorem dX10_isWritten_69 : decode cX10_isWritten 69 = .ok (.istore 5, 2) := by decide +kernel
theorem dX10_isWritten_71 : decode cX10_isWritten 71 = .ok (.iload 5, 2) := by decide +kernel
theorem dX10_isWritten_73 : decode cX10_isWritten 73 = .ok (.aload_n 0, 1) := by decide +kernel
theorem dX10_isWritten_74 : decode cX10_isWritten 74 = .ok (.getfield 213, 3) := by decide +kernel
theorem dX10_isWritten_77 : decode cX10_isWritten 77 = .ok (.if_icmp .ge 40, 3) := by decide +kernel
theorem dX10_isWritten_80 : decode cX10_isWritten 80 = .ok (.iload 4, 2) := by decide +kernel
theorem dX10_isWritten_82 : decode cX10_isWritten 82 = .ok (.ifCond .eq 35, 3) := by decide +kernel
theorem dX10_isWritten_85 : decode cX10_isWritten 85 = .ok (.aload_n 0, 1) := by decide +kernel
theorem dX10_isWritten_86 : decode cX10_isWritten 86 = .ok (.getfield 71, 3) := by decide +kernel
theorem dX10_isWritten_89 : decode cX10_isWritten 89 = .ok (.iload 5, 2) := by decide +kernel
theorem dX10_isWritten_91 : decode cX10_isWritten 91 = .ok (.baload, 1) := by decide +kernel
theorem dX10_isWritten_92 : decode cX10_isWritten 92 = .ok (.aload_n 0, 1) := by decide +kernel
theorem dX10_isWritten_93 : decode cX10_isWritten 93 = .ok (.getfield 7, 3) := by decide +kernel
theorem dX10_isWritten_96 : decode cX10_isWritten 96 = .ok (.iload_n 1, 1) := by decide +kernel
theorem dX10_isWritten_97 : decode cX10_isWritten 97 = .ok (.iload 5, 2) := by decide +kernel
theorem dX10_isWritten_99 : decode cX10_isWritten 99 = .ok (.iadd, 1) := by decide +kernel
theorem dX10_isWritten_100 : decode cX10_isWritten 100 = .ok (.baload, 1) := by decide +kernel
theorem dX10_isWritten_101 : decode cX10_isWritten 101 = .ok (.if_icmp .ne 7, 3) := by decide +kernel
theorem dX10_isWritten_104 : decode cX10_isWritten 104 = .ok (.iconst 1, 1) := by decide +kernel
theorem dX10_isWritten_105 : decode cX10_isWritten 105 = .ok (.goto 4, 3) := by decide +kernel
theorem dX10_isWritten_108 : decode cX10_isWritten 108 = .ok (.iconst 0, 1) := by decide +kernel
theorem dX10_isWritten_109 : decode cX10_isWritten 109 = .ok (.istore 4, 2) := by decide +kernel
theorem dX10_isWritten_111 : decode cX10_isWritten 111 = .ok (.iinc 5 1, 3) := by decide +kernel
theorem dX10_isWritten_114 : decode cX10_isWritten 114 = .ok (.goto (-43), 3) := by decide +kernel
theorem dX10_isWritten_117 : decode cX10_isWritten 117 = .ok (.iconst 0, 1) := by decide +kernel
theorem dX10_isWritten_118 : decode cX10_isWritten 118 = .ok (.istore 5, 2) := by decide +kernel
theorem dX10_isWritten_120 : decode cX10_isWritten 120 = .ok (.iload 5, 2) := by decide +kernel
theorem dX10_isWritten_122 : decode cX10_isWritten 122 = .ok (.iload_n 3, 1) := by decide +kernel
theorem dX10_isWritten_123 : decode cX10_isWritten 123 = .ok (.if_icmp .ge 23, 3) := by decide +kernel
theorem dX10_isWritten_126 : decode cX10_isWritten 126 = .ok (.aload_n 0, 1) := by decide +kernel
theorem dX10_isWritten_127 : decode cX10_isWritten 127 = .ok (.getfield 71, 3) := by decide +kernel
theorem dX10_isWritten_130 : decode cX10_isWritten 130 = .ok (.iload 5, 2) := by decide +kernel
theorem dX10_isWritten_132 : decode cX10_isWritten 132 = .ok (.aload_n 0, 1) := by decide +kernel
theorem dX10_isWritten_133 : decode cX10_isWritten 133 = .ok (.getfield 80, 3) := by decide +kernel
theorem dX10_isWritten_136 : decode cX10_isWritten 136 = .ok (.iload 5, 2) := by decide +kernel
theorem dX10_isWritten_138 : decode cX10_isWritten 138 = .ok (.baload, 1) := by decide +kernel
theorem dX10_isWritten_139 : decode cX10_isWritten 139 = .ok (.bastore, 1) := by decide +kernel
theorem dX10_isWritten_140 : decode cX10_isWritten 140 = .ok (.iinc 5 1, 3) := by decide +kernel
theorem dX10_isWritten_143 : decode cX10_isWritten 143 = .ok (.goto (-23), 3) := by decide +kernel
theorem dX10_isWritten_146 : decode cX10_isWritten 146 = .ok (.aload_n 0, 1) := by decide +kernel
theorem dX10_isWritten_147 : decode cX10_isWritten 147 = .ok (.iload_n 3, 1) := by decide +kernel
theorem dX10_isWritten_148 : decode cX10_isWritten 148 = .ok (.putfield 213, 3) := by decide +kernel
theorem dX10_isWritten_151 : decode cX10_isWritten 151 = .ok (.iload 4, 2) := by decide +kernel
theorem dX10_isWritten_153 : decode cX10_isWritten 153 = .ok (.ireturn, 1) := by decide +kernel
set_option maxRecDepth 20000 in
theorem ggX10_readCitation_X10_readLabel : GoodIn wsX10_readCitation wsX10_readLabel := goodIn_r _ [11, 4, 12, 13, 14, 15, 3, 16, 17, 18, 10, 19, 5, 20, 21, 22, 23, 24, 25, 26, 27, 28, 29, 30, 31, 32, 33, 34, 35, 36, 37, 38, 39, 40, 41, 42, 43, 44, 45, 46, 47, 48, 49, 50, 51, 52, 53, 54, 55, 56, 57, 58, 59, 60, 61, 62, 63, 64, 65, 66, 67, 68, 69, 70, 71, 72, 73, 74, 75, 76, 77, 78, 79, 80, 81, 82, 83, 84, 85, 86, 87, 88, 89, 90, 91, 92, 93, 94, 95, 96, 97, 98, 99, 100, 101, 102, 103, 104, 105, 106, 107, 108, 109, 110, 111, 112, 113, 114, 115, 116, 117, 118, 119, 120, 121, 122, 123, 124] (by decide +kernel) (by decide +kernel)
set_option maxRecDepth 20000 in
theorem gX10_readCitation_X10_readLabel : GoodIn wsX10_readCitation (wsV RX10 262 RX10 yX10_readLabel wsX10_readLabel) := goodIn_app (goodIn_of _ (by decide +kernel)) ggX10_readCitation_X10_readLabel
set_option maxRecDepth 20000 in
theorem ggX10_readCitation_X10_peek : GoodIn wsX10_readCitation wsX10_peek := goodIn_r _ [19, 4, 5, 14, 83, 84, 85, 86, 87, 88, 89, 90, 91, 92, 93, 94, 95, 96, 97, 98, 99, 100, 101, 102, 103, 104, 105, 106, 107, 108, 109, 110, 111, 112, 113, 114, 115, 116, 117, 118, 119, 120, 121, 122, 123, 124] (by decide +kernel) (by decide +kernel)
set_option maxRecDepth 20000 in
theorem gX10_readCitation_X10_peek : GoodIn wsX10_readCitation (wsV RX10 105 RX10 yX10_peek wsX10_peek) := goodIn_app (goodIn_of _ (by decide +kernel)) ggX10_readCitation_X10_peek
set_option maxRecDepth 20000 in
theorem ggX10_readCitation_X10_breaks : GoodIn wsX10_readCitation wsX10_breaks := goodIn_r _ [35, 36, 37, 83, 84, 85, 86, 87, 88, 89, 90, 91, 92, 93, 94, 95, 96, 97, 98, 99, 100, 101, 102, 103, 104, 105, 106, 107, 108, 109, 110, 111, 112, 113, 114, 115, 116, 117, 118, 119, 120, 121, 122, 123, 124] (by decide +kernel) (by decide +kernel)
set_option maxRecDepth 20000 in
theorem gX10_readCitation_X10_breaks : GoodIn wsX10_readCitation (wsV RX10 249 RX10 yX10_breaks wsX10_breaks) := goodIn_app (goodIn_of _ (by decide +kernel)) ggX10_readCitation_X10_breaks
theorem dX10_readCitation_0 : decode cX10_readCitation 0 = .ok (.iconst 0, 1) := by decide +kernel
theorem dX10_readCitation_1 : decode cX10_readCitation 1 = .ok (.istore_n 1, 1) := by decide +kernel
theorem dX10_readCitation_2 : decode cX10_readCitation 2 = .ok (.aload_n 0, 1) := by decide +kernel
theorem dX10_readCitation_3 : decode cX10_readCitation 3 = .ok (.aload_n 0, 1) := by decide +kernel
theorem dX10_readCitation_4 : decode cX10_readCitation 4 = .ok (.getfield 13, 3) := by decide +kernel
theorem dX10_readCitation_7 : decode cX10_readCitation 7 = .ok (.iload_n 1, 1) := by decide +kernel
theorem dX10_readCitation_8 : decode cX10_readCitation 8 = .ok (.iaload, 1) := by decide +kernel
theorem dX10_readCitation_9 : decode cX10_readCitation 9 = .ok (.invokevirtual 262, 3) := by decide +kernel
theorem dX10_readCitation_12 : decode cX10_readCitation 12 = .ok (.ifCond .ne 5, 3) := by decide +kernel
theorem dX10_readCitation_15 : decode cX10_readCitation 15 = .ok (.iconst (-1), 1) := by decide +kernel
theorem dX10_readCitation_16 : decode cX10_readCitation 16 = .ok (.ireturn, 1) := by decide +kernel
theorem dX10_readCitation_17 : decode cX10_readCitation 17 = .ok (.aload_n 0, 1) := by decide +kernel
theorem dX10_readCitation_18 : decode cX10_readCitation 18 = .ok (.getfield 83, 3) := by decide +kernel
theorem dX10_readCitation_21 : decode cX10_readCitation 21 = .ok (.iload_n 1, 1) := by decide +kernel
theorem dX10_readCitation_22 : decode cX10_readCitation 22 = .ok (.aload_n 0, 1) := by decide +kernel
theorem dX10_readCitation_23 : decode cX10_readCitation 23 = .ok (.getfield 256, 3) := by decide +kernel
theorem dX10_readCitation_26 : decode cX10_readCitation 26 = .ok (.iastore, 1) := by decide +kernel
theorem dX10_readCitation_27 : decode cX10_readCitation 27 = .ok (.iinc 1 1, 3) := by decide +kernel
theorem dX10_readCitation_30 : decode cX10_readCitation 30 = .ok (.aload_n 0, 1) := by decide +kernel
theorem dX10_readCitation_31 : decode cX10_readCitation 31 = .ok (.getfield 99, 3) := by decide +kernel
theorem dX10_readCitation_34 : decode cX10_readCitation 34 = .ok (.aload_n 0, 1) := by decide +kernel
theorem dX10_readCitation_35 : decode cX10_readCitation 35 = .ok (.getfield 96, 3) := by decide +kernel
theorem dX10_readCitation_38 : decode cX10_readCitation 38 = .ok (.if_icmp .ne 5, 3) := by decide +kernel
theorem dX10_readCitation_41 : decode cX10_readCitation 41 = .ok (.iload_n 1, 1) := by decide +kernel
theorem dX10_readCitation_42 : decode cX10_readCitation 42 = .ok (.ireturn, 1) := by decide +kernel
theorem dX10_readCitation_43 : decode cX10_readCitation 43 = .ok (.aload_n 0, 1) := by decide +kernel
theorem dX10_readCitation_44 : decode cX10_readCitation 44 = .ok (.invokevirtual 105, 3) := by decide +kernel
theorem dX10_readCitation_47 : decode cX10_readCitation 47 = .ok (.bipush 46, 2) := by decide +kernel
theorem dX10_readCitation_49 : decode cX10_readCitation 49 = .ok (.if_icmp .ne 11, 3) := by decide +kernel
theorem dX10_readCitation_52 : decode cX10_readCitation 52 = .ok (.iload_n 1, 1) := by decide +kernel
theorem dX10_readCitation_53 : decode cX10_readCitation 53 = .ok (.aload_n 0, 1) := by decide +kernel
theorem dX10_readCitation_54 : decode cX10_readCitation 54 = .ok (.getfield 27, 3) := by decide +kernel
theorem dX10_readCitation_57 : decode cX10_readCitation 57 = .ok (.if_icmp .ne 15, 3) := by decide +kernel
theorem dX10_readCitation_60 : decode cX10_readCitation 60 = .ok (.aload_n 0, 1) := by decide +kernel
theorem dX10_readCitation_61 : decode cX10_readCitation 61 = .ok (.iconst 1, 1) := by decide +kernel
theorem dX10_readCitation_62 : decode cX10_readCitation 62 = .ok (.aload_n 0, 1) := by decide +kernel
theorem dX10_readCitation_63 : decode cX10_readCitation 63 = .ok (.getfield 99, 3) := by decide +kernel
theorem dX10_readCitation_66 : decode cX10_readCitation 66 = .ok (.invokevirtual 249, 3) := by decide +kernel
theorem dX10_readCitation_69 : decode cX10_readCitation 69 = .ok (.pop, 1) := by decide +kernel
theorem dX10_readCitation_70 : decode cX10_readCitation 70 = .ok (.iconst (-1), 1) := by decide +kernel
theorem dX10_readCitation_71 : decode cX10_readCitation 71 = .ok (.ireturn, 1) := by decide +kernel
theorem dX10_readCitation_72 : decode cX10_readCitation 72 = .ok (.aload_n 0, 1) := by decide +kernel
theorem dX10_readCitation_73 : decode cX10_readCitation 73 = .ok (.dup, 1) := by decide +kernel
theorem dX10_readCitation_74 : decode cX10_readCitation 74 = .ok (.getfield 99, 3) := by decide +kernel
theorem dX10_readCitation_77 : decode cX10_readCitation 77 = .ok (.iconst 1, 1) := by decide +kernel
theorem dX10_readCitation_78 : decode cX10_readCitation 78 = .ok (.iadd, 1) := by decide +kernel
theorem dX10_readCitation_79 : decode cX10_readCitation 79 = .ok (.putfield 99, 3) := by decide +kernel
theorem dX10_readCitation_82 : decode cX10_readCitation 82 = .ok (.goto (-80), 3) := by decide +kernel
set_option maxRecDepth 20000 in
theorem ggX10_cite_X10_taken : GoodIn wsX10_cite wsX10_taken := goodIn_r _ [15, 16, 17, 18, 112, 113, 114, 115, 116, 117, 118, 119, 120, 121, 122, 123, 124, 125, 126, 127, 128, 129, 130, 131, 132, 133, 134, 135, 136, 137, 138, 139, 140, 141, 142, 143, 144, 145, 146, 147, 148, 149, 150, 151, 152, 153] (by decide +kernel) (by decide +kernel)
set_option maxRecDepth 20000 in
theorem gX10_cite_X10_taken : GoodIn wsX10_cite (wsV RX10 151 RX10 yX10_taken wsX10_taken) := goodIn_app (goodIn_of _ (by decide +kernel)) ggX10_cite_X10_taken
set_option maxRecDepth 20000 in
theorem ggX10_cite_X10_readCitation : GoodIn wsX10_cite wsX10_readCitation := goodIn_r _ [22, 23, 10, 24, 18, 17, 25, 26, 27, 28, 14, 29, 30, 31, 32, 33, 34, 35, 36, 37, 38, 39, 40, 41, 42, 43, 44, 45, 46, 47, 48, 49, 50, 51, 52, 53, 4, 5, 54, 55, 56, 57, 58, 59, 60, 61, 62, 63, 64, 65, 66, 67, 68, 69, 70, 71, 72, 73, 74, 75, 76, 77, 78, 79, 80, 81, 82, 83, 84, 85, 86, 87, 88, 89, 90, 91, 92, 93, 94, 95, 96, 97, 98, 112, 113, 114, 115, 116, 117, 118, 119, 120, 121, 122, 123, 124, 125, 126, 127, 128, 129, 130, 131, 132, 133, 134, 135, 136, 137, 138, 139, 140, 141, 142, 143, 144, 145, 146, 147, 148, 149, 150, 151, 152, 153] (by decide +kernel) (by decide +kernel)
set_option maxRecDepth 20000 in
theorem gX10_cite_X10_readCitation : GoodIn wsX10_cite (wsV RX10 265 RX10 yX10_readCitation wsX10_readCitation) := goodIn_app (goodIn_of _ (by decide +kernel)) ggX10_cite_X10_readCitation
set_option maxRecDepth 20000 in
theorem ggX10_cite_X10_over : GoodIn wsX10_cite wsX10_over := goodIn_r _ [102, 9, 103, 112, 113, 114, 115, 116, 117, 118, 119, 120, 121, 122, 123, 124, 125, 126, 127, 128, 129, 130, 131, 132, 133, 134, 135, 136, 137, 138, 139, 140, 141, 142, 143, 144, 145, 146, 147, 148, 149, 150, 151, 152, 153] (by decide +kernel) (by decide +kernel)
set_option maxRecDepth 20000 in
theorem gX10_cite_X10_over : GoodIn wsX10_cite (wsV RX10 234 RX10 yX10_over wsX10_over) := goodIn_app (goodIn_of _ (by decide +kernel)) ggX10_cite_X10_over
set_option maxRecDepth 20000 in
theorem ggX10_cite_X10_labelOf : GoodIn wsX10_cite wsX10_labelOf := goodIn_r _ [107, 108, 109, 110, 111, 112, 113, 114, 115, 116, 117, 118, 119, 120, 121, 122, 123, 124, 125, 126, 127, 128, 129, 130, 131, 132, 133, 134, 135, 136, 137, 138, 139, 140, 141, 142, 143, 144, 145, 146, 147, 148, 149, 150, 151, 152, 153] (by decide +kernel) (by decide +kernel)
set_option maxRecDepth 20000 in
theorem gX10_cite_X10_labelOf : GoodIn wsX10_cite (wsV RX10 193 RX10 yX10_labelOf wsX10_labelOf) := goodIn_app (goodIn_of _ (by decide +kernel)) ggX10_cite_X10_labelOf
theorem dX10_cite_0 : decode cX10_cite 0 = .ok (.aload_n 0, 1) := by decide +kernel
theorem dX10_cite_1 : decode cX10_cite 1 = .ok (.iconst 0, 1) := by decide +kernel
theorem dX10_cite_2 : decode cX10_cite 2 = .ok (.putfield 86, 3) := by decide +kernel
theorem dX10_cite_5 : decode cX10_cite 5 = .ok (.aload_n 0, 1) := by decide +kernel
theorem dX10_cite_6 : decode cX10_cite 6 = .ok (.invokevirtual 151, 3) := by decide +kernel
theorem dX10_cite_9 : decode cX10_cite 9 = .ok (.aload_n 0, 1) := by decide +kernel
theorem dX10_cite_10 : decode cX10_cite 10 = .ok (.iconst 0, 1) := by decide +kernel
theorem dX10_cite_11 : decode cX10_cite 11 = .ok (.putfield 102, 3) := by decide +kernel
theorem dX10_cite_14 : decode cX10_cite 14 = .ok (.aload_n 0, 1) := by decide +kernel
theorem dX10_cite_15 : decode cX10_cite 15 = .ok (.iconst (-1), 1) := by decide +kernel
theorem dX10_cite_16 : decode cX10_cite 16 = .ok (.putfield 31, 3) := by decide +kernel
theorem dX10_cite_19 : decode cX10_cite 19 = .ok (.iload_n 1, 1) := by decide +kernel
theorem dX10_cite_20 : decode cX10_cite 20 = .ok (.ifCond .ge 6, 3) := by decide +kernel
theorem dX10_cite_23 : decode cX10_cite 23 = .ok (.bipush (-3), 2) := by decide +kernel
theorem dX10_cite_25 : decode cX10_cite 25 = .ok (.ireturn, 1) := by decide +kernel
theorem dX10_cite_26 : decode cX10_cite 26 = .ok (.aload_n 0, 1) := by decide +kernel
theorem dX10_cite_27 : decode cX10_cite 27 = .ok (.invokevirtual 265, 3) := by decide +kernel
theorem dX10_cite_30 : decode cX10_cite 30 = .ok (.istore_n 2, 1) := by decide +kernel
theorem dX10_cite_31 : decode cX10_cite 31 = .ok (.iload_n 2, 1) := by decide +kernel
theorem dX10_cite_32 : decode cX10_cite 32 = .ok (.ifCond .ge 22, 3) := by decide +kernel
theorem dX10_cite_35 : decode cX10_cite 35 = .ok (.aload_n 0, 1) := by decide +kernel
theorem dX10_cite_36 : decode cX10_cite 36 = .ok (.aload_n 0, 1) := by decide +kernel
theorem dX10_cite_37 : decode cX10_cite 37 = .ok (.getfield 237, 3) := by decide +kernel
theorem dX10_cite_40 : decode cX10_cite 40 = .ok (.putfield 102, 3) := by decide +kernel
theorem dX10_cite_43 : decode cX10_cite 43 = .ok (.aload_n 0, 1) := by decide +kernel
theorem dX10_cite_44 : decode cX10_cite 44 = .ok (.aload_n 0, 1) := by decide +kernel
theorem dX10_cite_45 : decode cX10_cite 45 = .ok (.getfield 240, 3) := by decide +kernel
theorem dX10_cite_48 : decode cX10_cite 48 = .ok (.putfield 31, 3) := by decide +kernel
theorem dX10_cite_51 : decode cX10_cite 51 = .ok (.bipush (-2), 2) := by decide +kernel
theorem dX10_cite_53 : decode cX10_cite 53 = .ok (.ireturn, 1) := by decide +kernel
theorem dX10_cite_54 : decode cX10_cite 54 = .ok (.aload_n 0, 1) := by decide +kernel
theorem dX10_cite_55 : decode cX10_cite 55 = .ok (.iconst 0, 1) := by decide +kernel
theorem dX10_cite_56 : decode cX10_cite 56 = .ok (.putfield 268, 3) := by decide +kernel
theorem dX10_cite_59 : decode cX10_cite 59 = .ok (.iconst (-1), 1) := by decide +kernel
theorem dX10_cite_60 : decode cX10_cite 60 = .ok (.istore_n 3, 1) := by decide +kernel
theorem dX10_cite_61 : decode cX10_cite 61 = .ok (.iconst 0, 1) := by decide +kernel
theorem dX10_cite_62 : decode cX10_cite 62 = .ok (.istore 4, 2) := by decide +kernel
theorem dX10_cite_64 : decode cX10_cite 64 = .ok (.iload 4, 2) := by decide +kernel
theorem dX10_cite_66 : decode cX10_cite 66 = .ok (.aload_n 0, 1) := by decide +kernel
theorem dX10_cite_67 : decode cX10_cite 67 = .ok (.getfield 157, 3) := by decide +kernel
theorem dX10_cite_70 : decode cX10_cite 70 = .ok (.if_icmp .ge 117, 3) := by decide +kernel
theorem dX10_cite_73 : decode cX10_cite 73 = .ok (.aload_n 0, 1) := by decide +kernel
theorem dX10_cite_74 : decode cX10_cite 74 = .ok (.getfield 43, 3) := by decide +kernel
theorem dX10_cite_77 : decode cX10_cite 77 = .ok (.iload 4, 2) := by decide +kernel
theorem dX10_cite_79 : decode cX10_cite 79 = .ok (.iaload, 1) := by decide +kernel
theorem dX10_cite_80 : decode cX10_cite 80 = .ok (.istore 5, 2) := by decide +kernel
theorem dX10_cite_82 : decode cX10_cite 82 = .ok (.aload_n 0, 1) := by decide +kernel
theorem dX10_cite_83 : decode cX10_cite 83 = .ok (.getfield 34, 3) := by decide +kernel
theorem dX10_cite_86 : decode cX10_cite 86 = .ok (.iload 5, 2) := by decide +kernel
theorem dX10_cite_88 : decode cX10_cite 88 = .ok (.iaload, 1) := by decide +kernel
theorem dX10_cite_89 : decode cX10_cite 89 = .ok (.iload_n 2, 1) := by decide +kernel
theorem dX10_cite_90 : decode cX10_cite 90 = .ok (.iconst 1, 1) := by decide +kernel
theorem dX10_cite_91 : decode cX10_cite 91 = .ok (.isub, 1) := by decide +kernel
theorem dX10_cite_92 : decode cX10_cite 92 = .ok (.if_icmp .ne 7, 3) := by decide +kernel
theorem dX10_cite_95 : decode cX10_cite 95 = .ok (.iconst 1, 1) := by decide +kernel
theorem dX10_cite_96 : decode cX10_cite 96 = .ok (.goto 4, 3) := by decide +kernel
theorem dX10_cite_99 : decode cX10_cite 99 = .ok (.iconst 0, 1) := by decide +kernel
theorem dX10_cite_100 : decode cX10_cite 100 = .ok (.istore 6, 2) := by decide +kernel
theorem dX10_cite_102 : decode cX10_cite 102 = .ok (.iconst 0, 1) := by decide +kernel
theorem dX10_cite_103 : decode cX10_cite 103 = .ok (.istore 7, 2) := by decide +kernel
theorem dX10_cite_105 : decode cX10_cite 105 = .ok (.iload 7, 2) := by decide +kernel
theorem dX10_cite_107 : decode cX10_cite 107 = .ok (.iload_n 2, 1) := by decide +kernel
theorem dX10_cite_108 : decode cX10_cite 108 = .ok (.if_icmp .ge 44, 3) := by decide +kernel
theorem dX10_cite_111 : decode cX10_cite 111 = .ok (.iload 6, 2) := by decide +kernel
theorem dX10_cite_113 : decode cX10_cite 113 = .ok (.ifCond .eq 39, 3) := by decide +kernel
theorem dX10_cite_116 : decode cX10_cite 116 = .ok (.aload_n 0, 1) := by decide +kernel
theorem dX10_cite_117 : decode cX10_cite 117 = .ok (.aload_n 0, 1) := by decide +kernel
theorem dX10_cite_118 : decode cX10_cite 118 = .ok (.iload 5, 2) := by decide +kernel
theorem dX10_cite_120 : decode cX10_cite 120 = .ok (.iload 7, 2) := by decide +kernel
theorem dX10_cite_122 : decode cX10_cite 122 = .ok (.invokevirtual 234, 3) := by decide +kernel
theorem dX10_cite_125 : decode cX10_cite 125 = .ok (.iload_n 1, 1) := by decide +kernel
theorem dX10_cite_126 : decode cX10_cite 126 = .ok (.invokevirtual 193, 3) := by decide +kernel
theorem dX10_cite_129 : decode cX10_cite 129 = .ok (.aload_n 0, 1) := by decide +kernel
theorem dX10_cite_130 : decode cX10_cite 130 = .ok (.getfield 83, 3) := by decide +kernel
theorem dX10_cite_133 : decode cX10_cite 133 = .ok (.iload 7, 2) := by decide +kernel
theorem dX10_cite_135 : decode cX10_cite 135 = .ok (.iaload, 1) := by decide +kernel
theorem dX10_cite_136 : decode cX10_cite 136 = .ok (.if_icmp .ne 7, 3) := by decide +kernel
theorem dX10_cite_139 : decode cX10_cite 139 = .ok (.iconst 1, 1) := by decide +kernel
theorem dX10_cite_140 : decode cX10_cite 140 = .ok (.goto 4, 3) := by decide +kernel
theorem dX10_cite_143 : decode cX10_cite 143 = .ok (.iconst 0, 1) := by decide +kernel
theorem dX10_cite_144 : decode cX10_cite 144 = .ok (.istore 6, 2) := by decide +kernel
theorem dX10_cite_146 : decode cX10_cite 146 = .ok (.iinc 7 1, 3) := by decide +kernel
theorem dX10_cite_149 : decode cX10_cite 149 = .ok (.goto (-44), 3) := by decide +kernel
theorem dX10_cite_152 : decode cX10_cite 152 = .ok (.iload 6, 2) := by decide +kernel
theorem dX10_cite_154 : decode cX10_cite 154 = .ok (.ifCond .ne 6, 3) := by decide +kernel
theorem dX10_cite_157 : decode cX10_cite 157 = .ok (.goto 24, 3) := by decide +kernel
theorem dX10_cite_160 : decode cX10_cite 160 = .ok (.aload_n 0, 1) := by decide +kernel
theorem dX10_cite_161 : decode cX10_cite 161 = .ok (.dup, 1) := by decide +kernel
theorem dX10_cite_162 : decode cX10_cite 162 = .ok (.getfield 268, 3) := by decide +kernel
theorem dX10_cite_165 : decode cX10_cite 165 = .ok (.iconst 1, 1) := by decide +kernel
theorem dX10_cite_166 : decode cX10_cite 166 = .ok (.iadd, 1) := by decide +kernel
theorem dX10_cite_167 : decode cX10_cite 167 = .ok (.putfield 268, 3) := by decide +kernel
theorem dX10_cite_170 : decode cX10_cite 170 = .ok (.iload_n 3, 1) := by decide +kernel
theorem dX10_cite_171 : decode cX10_cite 171 = .ok (.ifCond .ge 8, 3) := by decide +kernel
theorem dX10_cite_174 : decode cX10_cite 174 = .ok (.iload 5, 2) := by decide +kernel
theorem dX10_cite_176 : decode cX10_cite 176 = .ok (.goto 4, 3) := by decide +kernel
theorem dX10_cite_179 : decode cX10_cite 179 = .ok (.iload_n 3, 1) := by decide +kernel
theorem dX10_cite_180 : decode cX10_cite 180 = .ok (.istore_n 3, 1) := by decide +kernel
theorem dX10_cite_181 : decode cX10_cite 181 = .ok (.iinc 4 1, 3) := by decide +kernel
theorem dX10_cite_184 : decode cX10_cite 184 = .ok (.goto (-120), 3) := by decide +kernel
theorem dX10_cite_187 : decode cX10_cite 187 = .ok (.iload_n 3, 1) := by decide +kernel
theorem dX10_cite_188 : decode cX10_cite 188 = .ok (.ireturn, 1) := by decide +kernel
theorem dX10_bearers_0 : decode cX10_bearers 0 = .ok (.aload_n 0, 1) := by decide +kernel
theorem dX10_bearers_1 : decode cX10_bearers 1 = .ok (.iconst 0, 1) := by decide +kernel
theorem dX10_bearers_2 : decode cX10_bearers 2 = .ok (.putfield 86, 3) := by decide +kernel
theorem dX10_bearers_5 : decode cX10_bearers 5 = .ok (.aload_n 0, 1) := by decide +kernel
theorem dX10_bearers_6 : decode cX10_bearers 6 = .ok (.getfield 268, 3) := by decide +kernel
theorem dX10_bearers_9 : decode cX10_bearers 9 = .ok (.ireturn, 1) := by decide +kernel
set_option maxRecDepth 20000 in
theorem ggX10_read_X10_taken : GoodIn wsX10_read wsX10_taken := goodIn_r _ [11, 12, 3, 2, 87, 88, 89, 90, 91, 92, 93, 94, 95, 96, 97, 98, 99, 100, 101, 102, 103, 104, 105, 106, 107, 108, 109, 110, 111, 112, 113, 114, 115, 116, 117, 118, 119, 120, 121, 122, 123, 124, 125, 126, 127, 128] (by decide +kernel) (by decide +kernel)
set_option maxRecDepth 20000 in
theorem gX10_read_X10_taken : GoodIn wsX10_read (wsV RX10 151 RX10 yX10_taken wsX10_taken) := goodIn_app (goodIn_of _ (by decide +kernel)) ggX10_read_X10_taken
set_option maxRecDepth 20000 in
theorem ggX10_read_X10_readLabel : GoodIn wsX10_read wsX10_readLabel := goodIn_r _ [16, 2, 17, 18, 19, 6, 5, 20, 21, 22, 10, 23, 3, 24, 25, 26, 27, 28, 29, 30, 31, 32, 33, 34, 35, 36, 37, 38, 39, 40, 41, 42, 43, 44, 45, 46, 47, 48, 49, 50, 51, 52, 53, 54, 55, 56, 57, 58, 59, 60, 61, 62, 63, 64, 65, 66, 67, 68, 69, 70, 71, 72, 73, 74, 75, 76, 77, 78, 79, 80, 81, 82, 83, 84, 85, 86, 87, 88, 89, 90, 91, 92, 93, 94, 95, 96, 97, 98, 99, 100, 101, 102, 103, 104, 105, 106, 107, 108, 109, 110, 111, 112, 113, 114, 115, 116, 117, 118, 119, 120, 121, 122, 123, 124, 125, 126, 127, 128] (by decide +kernel) (by decide +kernel)
set_option maxRecDepth 20000 in
theorem gX10_read_X10_readLabel : GoodIn wsX10_read (wsV RX10 262 RX10 yX10_readLabel wsX10_readLabel) := goodIn_app (goodIn_of _ (by decide +kernel)) ggX10_read_X10_readLabel
set_option maxRecDepth 20000 in
theorem ggX10_read_X10_lettersOf : GoodIn wsX10_read wsX10_lettersOf := goodIn_r _ [83, 84, 85, 10, 86] (by decide +kernel) (by decide +kernel)
set_option maxRecDepth 20000 in
theorem gX10_read_X10_lettersOf : GoodIn wsX10_read (va_wsS RX10 174 yX10_lettersOf wsX10_lettersOf) := goodIn_app (goodIn_of _ (by decide +kernel)) ggX10_read_X10_lettersOf
set_option maxRecDepth 20000 in
theorem ggX10_read_X10_letterAt : GoodIn wsX10_read wsX10_letterAt := goodIn_r _ [86] (by decide +kernel) (by decide +kernel)
set_option maxRecDepth 20000 in
theorem gX10_read_X10_letterAt : GoodIn wsX10_read (va_wsS RX10 169 yX10_letterAt wsX10_letterAt) := goodIn_app (goodIn_of _ (by decide +kernel)) ggX10_read_X10_letterAt
theorem dX10_read_0 : decode cX10_read 0 = .ok (.aload_n 0, 1) := by decide +kernel
theorem dX10_read_1 : decode cX10_read 1 = .ok (.iconst 0, 1) := by decide +kernel
theorem dX10_read_2 : decode cX10_read 2 = .ok (.putfield 86, 3) := by decide +kernel
theorem dX10_read_5 : decode cX10_read 5 = .ok (.aload_n 0, 1) := by decide +kernel
theorem dX10_read_6 : decode cX10_read 6 = .ok (.invokevirtual 151, 3) := by decide +kernel
theorem dX10_read_9 : decode cX10_read 9 = .ok (.iload_n 1, 1) := by decide +kernel
theorem dX10_read_10 : decode cX10_read 10 = .ok (.ifCond .lt 27, 3) := by decide +kernel
theorem dX10_read_13 : decode cX10_read 13 = .ok (.iload_n 1, 1) := by decide +kernel
theorem dX10_read_14 : decode cX10_read 14 = .ok (.iconst 3, 1) := by decide +kernel
theorem dX10_read_15 : decode cX10_read 15 = .ok (.if_icmp .gt 22, 3) := by decide +kernel
theorem dX10_read_18 : decode cX10_read 18 = .ok (.aload_n 0, 1) := by decide +kernel
theorem dX10_read_19 : decode cX10_read 19 = .ok (.iload_n 1, 1) := by decide +kernel
theorem dX10_read_20 : decode cX10_read 20 = .ok (.invokevirtual 262, 3) := by decide +kernel
theorem dX10_read_23 : decode cX10_read 23 = .ok (.ifCond .eq 14, 3) := by decide +kernel
theorem dX10_read_26 : decode cX10_read 26 = .ok (.aload_n 0, 1) := by decide +kernel
theorem dX10_read_27 : decode cX10_read 27 = .ok (.getfield 99, 3) := by decide +kernel
theorem dX10_read_30 : decode cX10_read 30 = .ok (.aload_n 0, 1) := by decide +kernel
theorem dX10_read_31 : decode cX10_read 31 = .ok (.getfield 96, 3) := by decide +kernel
theorem dX10_read_34 : decode cX10_read 34 = .ok (.if_icmp .eq 5, 3) := by decide +kernel
theorem dX10_read_37 : decode cX10_read 37 = .ok (.iconst (-1), 1) := by decide +kernel
theorem dX10_read_38 : decode cX10_read 38 = .ok (.ireturn, 1) := by decide +kernel
theorem dX10_read_39 : decode cX10_read 39 = .ok (.aload_n 0, 1) := by decide +kernel
theorem dX10_read_40 : decode cX10_read 40 = .ok (.iconst 0, 1) := by decide +kernel
theorem dX10_read_41 : decode cX10_read 41 = .ok (.putfield 271, 3) := by decide +kernel
theorem dX10_read_44 : decode cX10_read 44 = .ok (.iconst 0, 1) := by decide +kernel
theorem dX10_read_45 : decode cX10_read 45 = .ok (.istore_n 2, 1) := by decide +kernel
theorem dX10_read_46 : decode cX10_read 46 = .ok (.iload_n 2, 1) := by decide +kernel
theorem dX10_read_47 : decode cX10_read 47 = .ok (.aload_n 0, 1) := by decide +kernel
theorem dX10_read_48 : decode cX10_read 48 = .ok (.getfield 256, 3) := by decide +kernel
theorem dX10_read_51 : decode cX10_read 51 = .ok (.ldc 173, 2) := by decide +kernel
theorem dX10_read_53 : decode cX10_read 53 = .ok (.irem, 1) := by decide +kernel
theorem dX10_read_54 : decode cX10_read 54 = .ok (.invokestatic 174, 3) := by decide +kernel
theorem dX10_read_57 : decode cX10_read 57 = .ok (.if_icmp .ge 35, 3) := by decide +kernel
theorem dX10_read_60 : decode cX10_read 60 = .ok (.aload_n 0, 1) := by decide +kernel
theorem dX10_read_61 : decode cX10_read 61 = .ok (.aload_n 0, 1) := by decide +kernel
theorem dX10_read_62 : decode cX10_read 62 = .ok (.getfield 271, 3) := by decide +kernel
theorem dX10_read_65 : decode cX10_read 65 = .ok (.bipush 8, 2) := by decide +kernel
theorem dX10_read_67 : decode cX10_read 67 = .ok (.ishl, 1) := by decide +kernel
theorem dX10_read_68 : decode cX10_read 68 = .ok (.bipush 64, 2) := by decide +kernel
theorem dX10_read_70 : decode cX10_read 70 = .ok (.aload_n 0, 1) := by decide +kernel
theorem dX10_read_71 : decode cX10_read 71 = .ok (.getfield 256, 3) := by decide +kernel
theorem dX10_read_74 : decode cX10_read 74 = .ok (.ldc 173, 2) := by decide +kernel
theorem dX10_read_76 : decode cX10_read 76 = .ok (.irem, 1) := by decide +kernel
theorem dX10_read_77 : decode cX10_read 77 = .ok (.iload_n 2, 1) := by decide +kernel
theorem dX10_read_78 : decode cX10_read 78 = .ok (.invokestatic 169, 3) := by decide +kernel
theorem dX10_read_81 : decode cX10_read 81 = .ok (.iadd, 1) := by decide +kernel
theorem dX10_read_82 : decode cX10_read 82 = .ok (.ior, 1) := by decide +kernel
theorem dX10_read_83 : decode cX10_read 83 = .ok (.putfield 271, 3) := by decide +kernel
theorem dX10_read_86 : decode cX10_read 86 = .ok (.iinc 2 1, 3) := by decide +kernel
theorem dX10_read_89 : decode cX10_read 89 = .ok (.goto (-43), 3) := by decide +kernel
theorem dX10_read_92 : decode cX10_read 92 = .ok (.aload_n 0, 1) := by decide +kernel
theorem dX10_read_93 : decode cX10_read 93 = .ok (.getfield 256, 3) := by decide +kernel
theorem dX10_read_96 : decode cX10_read 96 = .ok (.ldc 173, 2) := by decide +kernel
theorem dX10_read_98 : decode cX10_read 98 = .ok (.idiv, 1) := by decide +kernel
theorem dX10_read_99 : decode cX10_read 99 = .ok (.ireturn, 1) := by decide +kernel
theorem dX10_suffix_0 : decode cX10_suffix 0 = .ok (.aload_n 0, 1) := by decide +kernel
theorem dX10_suffix_1 : decode cX10_suffix 1 = .ok (.iconst 0, 1) := by decide +kernel
theorem dX10_suffix_2 : decode cX10_suffix 2 = .ok (.putfield 86, 3) := by decide +kernel
theorem dX10_suffix_5 : decode cX10_suffix 5 = .ok (.aload_n 0, 1) := by decide +kernel
theorem dX10_suffix_6 : decode cX10_suffix 6 = .ok (.getfield 271, 3) := by decide +kernel
theorem dX10_suffix_9 : decode cX10_suffix 9 = .ok (.ireturn, 1) := by decide +kernel
set_option maxRecDepth 20000 in
theorem ggX10_clash_X10_labelOf : GoodIn wsX10_clash wsX10_labelOf := goodIn_r _ [9, 10, 11, 12, 13, 21, 22, 23, 24, 25, 26, 27, 28, 29, 30, 31, 32, 33, 34, 35, 36, 37, 38, 39, 40, 41, 42, 43, 44, 45, 46, 47, 48, 49, 50, 51, 52, 53, 54, 55, 56, 57, 58, 59, 60, 61, 62] (by decide +kernel) (by decide +kernel)
set_option maxRecDepth 20000 in
theorem gX10_clash_X10_labelOf : GoodIn wsX10_clash (wsV RX10 193 RX10 yX10_labelOf wsX10_labelOf) := goodIn_app (goodIn_of _ (by decide +kernel)) ggX10_clash_X10_labelOf
set_option maxRecDepth 20000 in
theorem ggX10_clash_X10_isInRow : GoodIn wsX10_clash wsX10_isInRow := goodIn_r _ [17, 18, 19, 20, 21, 22, 23, 24, 25, 26, 27, 28, 29, 30, 31, 32, 33, 34, 35, 36, 37, 38, 39, 40, 41, 42, 43, 44, 45, 46, 47, 48, 49, 50, 51, 52, 53, 54, 55, 56, 57, 58, 59, 60, 61, 62] (by decide +kernel) (by decide +kernel)
set_option maxRecDepth 20000 in
theorem gX10_clash_X10_isInRow : GoodIn wsX10_clash (wsV RX10 190 RX10 yX10_isInRow wsX10_isInRow) := goodIn_app (goodIn_of _ (by decide +kernel)) ggX10_clash_X10_isInRow
theorem dX10_clash_0 : decode cX10_clash 0 = .ok (.aload_n 0, 1) := by decide +kernel
theorem dX10_clash_1 : decode cX10_clash 1 = .ok (.iconst 0, 1) := by decide +kernel
theorem dX10_clash_2 : decode cX10_clash 2 = .ok (.putfield 86, 3) := by decide +kernel
theorem dX10_clash_5 : decode cX10_clash 5 = .ok (.iconst 0, 1) := by decide +kernel
theorem dX10_clash_6 : decode cX10_clash 6 = .ok (.istore_n 1, 1) := by decide +kernel
theorem dX10_clash_7 : decode cX10_clash 7 = .ok (.iload_n 1, 1) := by decide +kernel
theorem dX10_clash_8 : decode cX10_clash 8 = .ok (.aload_n 0, 1) := by decide +kernel
theorem dX10_clash_9 : decode cX10_clash 9 = .ok (.getfield 157, 3) := by decide +kernel
theorem dX10_clash_12 : decode cX10_clash 12 = .ok (.if_icmp .ge 114, 3) := by decide +kernel
theorem dX10_clash_15 : decode cX10_clash 15 = .ok (.aload_n 0, 1) := by decide +kernel
theorem dX10_clash_16 : decode cX10_clash 16 = .ok (.aload_n 0, 1) := by decide +kernel
theorem dX10_clash_17 : decode cX10_clash 17 = .ok (.getfield 43, 3) := by decide +kernel
theorem dX10_clash_20 : decode cX10_clash 20 = .ok (.iload_n 1, 1) := by decide +kernel
theorem dX10_clash_21 : decode cX10_clash 21 = .ok (.iaload, 1) := by decide +kernel
theorem dX10_clash_22 : decode cX10_clash 22 = .ok (.aload_n 0, 1) := by decide +kernel
theorem dX10_clash_23 : decode cX10_clash 23 = .ok (.getfield 166, 3) := by decide +kernel
theorem dX10_clash_26 : decode cX10_clash 26 = .ok (.invokevirtual 193, 3) := by decide +kernel
theorem dX10_clash_29 : decode cX10_clash 29 = .ok (.istore_n 2, 1) := by decide +kernel
theorem dX10_clash_30 : decode cX10_clash 30 = .ok (.iconst 0, 1) := by decide +kernel
theorem dX10_clash_31 : decode cX10_clash 31 = .ok (.istore_n 3, 1) := by decide +kernel
theorem dX10_clash_32 : decode cX10_clash 32 = .ok (.iconst 0, 1) := by decide +kernel
theorem dX10_clash_33 : decode cX10_clash 33 = .ok (.istore 4, 2) := by decide +kernel
theorem dX10_clash_35 : decode cX10_clash 35 = .ok (.iload 4, 2) := by decide +kernel
theorem dX10_clash_37 : decode cX10_clash 37 = .ok (.iload_n 1, 1) := by decide +kernel
theorem dX10_clash_38 : decode cX10_clash 38 = .ok (.if_icmp .ge 66, 3) := by decide +kernel
theorem dX10_clash_41 : decode cX10_clash 41 = .ok (.iload_n 2, 1) := by decide +kernel
theorem dX10_clash_42 : decode cX10_clash 42 = .ok (.ifCond .le 62, 3) := by decide +kernel
theorem dX10_clash_45 : decode cX10_clash 45 = .ok (.aload_n 0, 1) := by decide +kernel
theorem dX10_clash_46 : decode cX10_clash 46 = .ok (.aload_n 0, 1) := by decide +kernel
theorem dX10_clash_47 : decode cX10_clash 47 = .ok (.getfield 43, 3) := by decide +kernel
theorem dX10_clash_50 : decode cX10_clash 50 = .ok (.iload 4, 2) := by decide +kernel
theorem dX10_clash_52 : decode cX10_clash 52 = .ok (.iaload, 1) := by decide +kernel
theorem dX10_clash_53 : decode cX10_clash 53 = .ok (.aload_n 0, 1) := by decide +kernel
theorem dX10_clash_54 : decode cX10_clash 54 = .ok (.getfield 43, 3) := by decide +kernel
theorem dX10_clash_57 : decode cX10_clash 57 = .ok (.iload_n 1, 1) := by decide +kernel
theorem dX10_clash_58 : decode cX10_clash 58 = .ok (.iaload, 1) := by decide +kernel
theorem dX10_clash_59 : decode cX10_clash 59 = .ok (.invokevirtual 190, 3) := by decide +kernel
theorem dX10_clash_62 : decode cX10_clash 62 = .ok (.ifCond .eq 21, 3) := by decide +kernel
theorem dX10_clash_65 : decode cX10_clash 65 = .ok (.aload_n 0, 1) := by decide +kernel
theorem dX10_clash_66 : decode cX10_clash 66 = .ok (.aload_n 0, 1) := by decide +kernel
theorem dX10_clash_67 : decode cX10_clash 67 = .ok (.getfield 43, 3) := by decide +kernel
theorem dX10_clash_70 : decode cX10_clash 70 = .ok (.iload 4, 2) := by decide +kernel
theorem dX10_clash_72 : decode cX10_clash 72 = .ok (.iaload, 1) := by decide +kernel
theorem dX10_clash_73 : decode cX10_clash 73 = .ok (.aload_n 0, 1) := by decide +kernel
theorem dX10_clash_74 : decode cX10_clash 74 = .ok (.getfield 166, 3) := by decide +kernel
theorem dX10_clash_77 : decode cX10_clash 77 = .ok (.invokevirtual 193, 3) := by decide +kernel
theorem dX10_clash_80 : decode cX10_clash 80 = .ok (.goto 4, 3) := by decide +kernel
theorem dX10_clash_83 : decode cX10_clash 83 = .ok (.iconst 0, 1) := by decide +kernel
theorem dX10_clash_84 : decode cX10_clash 84 = .ok (.istore 5, 2) := by decide +kernel
theorem dX10_clash_86 : decode cX10_clash 86 = .ok (.iload 5, 2) := by decide +kernel
theorem dX10_clash_88 : decode cX10_clash 88 = .ok (.ifCond .le 8, 3) := by decide +kernel
theorem dX10_clash_91 : decode cX10_clash 91 = .ok (.iload 5, 2) := by decide +kernel
theorem dX10_clash_93 : decode cX10_clash 93 = .ok (.goto 4, 3) := by decide +kernel
theorem dX10_clash_96 : decode cX10_clash 96 = .ok (.iload_n 3, 1) := by decide +kernel
theorem dX10_clash_97 : decode cX10_clash 97 = .ok (.istore_n 3, 1) := by decide +kernel
theorem dX10_clash_98 : decode cX10_clash 98 = .ok (.iinc 4 1, 3) := by decide +kernel
theorem dX10_clash_101 : decode cX10_clash 101 = .ok (.goto (-66), 3) := by decide +kernel
theorem dX10_clash_104 : decode cX10_clash 104 = .ok (.iload_n 2, 1) := by decide +kernel
theorem dX10_clash_105 : decode cX10_clash 105 = .ok (.ifCond .le 15, 3) := by decide +kernel
theorem dX10_clash_108 : decode cX10_clash 108 = .ok (.iload_n 2, 1) := by decide +kernel
theorem dX10_clash_109 : decode cX10_clash 109 = .ok (.iload_n 3, 1) := by decide +kernel
theorem dX10_clash_110 : decode cX10_clash 110 = .ok (.if_icmp .gt 10, 3) := by decide +kernel
theorem dX10_clash_113 : decode cX10_clash 113 = .ok (.aload_n 0, 1) := by decide +kernel
theorem dX10_clash_114 : decode cX10_clash 114 = .ok (.getfield 43, 3) := by decide +kernel
theorem dX10_clash_117 : decode cX10_clash 117 = .ok (.iload_n 1, 1) := by decide +kernel
theorem dX10_clash_118 : decode cX10_clash 118 = .ok (.iaload, 1) := by decide +kernel
theorem dX10_clash_119 : decode cX10_clash 119 = .ok (.ireturn, 1) := by decide +kernel
theorem dX10_clash_120 : decode cX10_clash 120 = .ok (.iinc 1 1, 3) := by decide +kernel
theorem dX10_clash_123 : decode cX10_clash 123 = .ok (.goto (-116), 3) := by decide +kernel
theorem dX10_clash_126 : decode cX10_clash 126 = .ok (.iconst (-1), 1) := by decide +kernel
theorem dX10_clash_127 : decode cX10_clash 127 = .ok (.ireturn, 1) := by decide +kernel
theorem dX10_at_0 : decode cX10_at 0 = .ok (.aload_n 0, 1) := by decide +kernel
theorem dX10_at_1 : decode cX10_at 1 = .ok (.iconst 0, 1) := by decide +kernel
theorem dX10_at_2 : decode cX10_at 2 = .ok (.putfield 86, 3) := by decide +kernel
theorem dX10_at_5 : decode cX10_at 5 = .ok (.iload_n 1, 1) := by decide +kernel
theorem dX10_at_6 : decode cX10_at 6 = .ok (.ifCond .lt 11, 3) := by decide +kernel
theorem dX10_at_9 : decode cX10_at 9 = .ok (.iload_n 1, 1) := by decide +kernel
theorem dX10_at_10 : decode cX10_at 10 = .ok (.aload_n 0, 1) := by decide +kernel
theorem dX10_at_11 : decode cX10_at 11 = .ok (.getfield 157, 3) := by decide +kernel
theorem dX10_at_14 : decode cX10_at 14 = .ok (.if_icmp .lt 7, 3) := by decide +kernel
theorem dX10_at_17 : decode cX10_at 17 = .ok (.iconst (-1), 1) := by decide +kernel
theorem dX10_at_18 : decode cX10_at 18 = .ok (.goto 9, 3) := by decide +kernel
theorem dX10_at_21 : decode cX10_at 21 = .ok (.aload_n 0, 1) := by decide +kernel
theorem dX10_at_22 : decode cX10_at 22 = .ok (.getfield 43, 3) := by decide +kernel
theorem dX10_at_25 : decode cX10_at 25 = .ok (.iload_n 1, 1) := by decide +kernel
theorem dX10_at_26 : decode cX10_at 26 = .ok (.iaload, 1) := by decide +kernel
theorem dX10_at_27 : decode cX10_at 27 = .ok (.ireturn, 1) := by decide +kernel
theorem dX10_count_0 : decode cX10_count 0 = .ok (.aload_n 0, 1) := by decide +kernel
theorem dX10_count_1 : decode cX10_count 1 = .ok (.iconst 0, 1) := by decide +kernel
theorem dX10_count_2 : decode cX10_count 2 = .ok (.putfield 86, 3) := by decide +kernel
theorem dX10_count_5 : decode cX10_count 5 = .ok (.iconst 0, 1) := by decide +kernel
theorem dX10_count_6 : decode cX10_count 6 = .ok (.istore_n 2, 1) := by decide +kernel
theorem dX10_count_7 : decode cX10_count 7 = .ok (.iload_n 1, 1) := by decide +kernel
theorem dX10_count_8 : decode cX10_count 8 = .ok (.tableswitch 109 0 6 #[44, 49, 54, 89, 94, 99, 104], 44) := by decide +kernel
theorem dX10_count_52 : decode cX10_count 52 = .ok (.aload_n 0, 1) := by decide +kernel
theorem dX10_count_53 : decode cX10_count 53 = .ok (.getfield 27, 3) := by decide +kernel
theorem dX10_count_56 : decode cX10_count 56 = .ok (.ireturn, 1) := by decide +kernel
theorem dX10_count_57 : decode cX10_count 57 = .ok (.aload_n 0, 1) := by decide +kernel
theorem dX10_count_58 : decode cX10_count 58 = .ok (.getfield 157, 3) := by decide +kernel
theorem dX10_count_61 : decode cX10_count 61 = .ok (.ireturn, 1) := by decide +kernel
theorem dX10_count_62 : decode cX10_count 62 = .ok (.iconst 0, 1) := by decide +kernel
theorem dX10_count_63 : decode cX10_count 63 = .ok (.istore_n 3, 1) := by decide +kernel
theorem dX10_count_64 : decode cX10_count 64 = .ok (.iload_n 3, 1) := by decide +kernel
theorem dX10_count_65 : decode cX10_count 65 = .ok (.aload_n 0, 1) := by decide +kernel
theorem dX10_count_66 : decode cX10_count 66 = .ok (.getfield 157, 3) := by decide +kernel
theorem dX10_count_69 : decode cX10_count 69 = .ok (.if_icmp .ge 26, 3) := by decide +kernel
theorem dX10_count_72 : decode cX10_count 72 = .ok (.iload_n 2, 1) := by decide +kernel
theorem dX10_count_73 : decode cX10_count 73 = .ok (.aload_n 0, 1) := by decide +kernel
theorem dX10_count_74 : decode cX10_count 74 = .ok (.getfield 46, 3) := by decide +kernel
theorem dX10_count_77 : decode cX10_count 77 = .ok (.iload_n 3, 1) := by decide +kernel
theorem dX10_count_78 : decode cX10_count 78 = .ok (.baload, 1) := by decide +kernel
theorem dX10_count_79 : decode cX10_count 79 = .ok (.ifCond .eq 7, 3) := by decide +kernel
theorem dX10_count_82 : decode cX10_count 82 = .ok (.iconst 1, 1) := by decide +kernel
theorem dX10_count_83 : decode cX10_count 83 = .ok (.goto 4, 3) := by decide +kernel
theorem dX10_count_86 : decode cX10_count 86 = .ok (.iconst 0, 1) := by decide +kernel
theorem dX10_count_87 : decode cX10_count 87 = .ok (.iadd, 1) := by decide +kernel
theorem dX10_count_88 : decode cX10_count 88 = .ok (.istore_n 2, 1) := by decide +kernel
theorem dX10_count_89 : decode cX10_count 89 = .ok (.iinc 3 1, 3) := by decide +kernel
theorem dX10_count_92 : decode cX10_count 92 = .ok (.goto (-28), 3) := by decide +kernel
theorem dX10_count_95 : decode cX10_count 95 = .ok (.iload_n 2, 1) := by decide +kernel
theorem dX10_count_96 : decode cX10_count 96 = .ok (.ireturn, 1) := by decide +kernel
theorem dX10_count_97 : decode cX10_count 97 = .ok (.aload_n 0, 1) := by decide +kernel
theorem dX10_count_98 : decode cX10_count 98 = .ok (.getfield 166, 3) := by decide +kernel
theorem dX10_count_101 : decode cX10_count 101 = .ok (.ireturn, 1) := by decide +kernel
theorem dX10_count_102 : decode cX10_count 102 = .ok (.aload_n 0, 1) := by decide +kernel
theorem dX10_count_103 : decode cX10_count 103 = .ok (.getfield 163, 3) := by decide +kernel
theorem dX10_count_106 : decode cX10_count 106 = .ok (.ireturn, 1) := by decide +kernel
theorem dX10_count_107 : decode cX10_count 107 = .ok (.aload_n 0, 1) := by decide +kernel
theorem dX10_count_108 : decode cX10_count 108 = .ok (.getfield 213, 3) := by decide +kernel
theorem dX10_count_111 : decode cX10_count 111 = .ok (.ireturn, 1) := by decide +kernel
theorem dX10_count_112 : decode cX10_count 112 = .ok (.aload_n 0, 1) := by decide +kernel
theorem dX10_count_113 : decode cX10_count 113 = .ok (.getfield 89, 3) := by decide +kernel
theorem dX10_count_116 : decode cX10_count 116 = .ok (.ireturn, 1) := by decide +kernel
theorem dX10_count_117 : decode cX10_count 117 = .ok (.iconst (-1), 1) := by decide +kernel
theorem dX10_count_118 : decode cX10_count 118 = .ok (.ireturn, 1) := by decide +kernel
theorem dJ9_min_7cf53_0 : decode cJ9_min_7cf53 0 = .ok (.iload_n 0, 1) := by decide +kernel
theorem dJ9_min_7cf53_1 : decode cJ9_min_7cf53 1 = .ok (.iload_n 1, 1) := by decide +kernel
theorem dJ9_min_7cf53_2 : decode cJ9_min_7cf53 2 = .ok (.if_icmp .gt 7, 3) := by decide +kernel
theorem dJ9_min_7cf53_5 : decode cJ9_min_7cf53 5 = .ok (.iload_n 0, 1) := by decide +kernel
theorem dJ9_min_7cf53_6 : decode cJ9_min_7cf53 6 = .ok (.goto 4, 3) := by decide +kernel
theorem dJ9_min_7cf53_9 : decode cJ9_min_7cf53 9 = .ok (.iload_n 1, 1) := by decide +kernel
theorem dJ9_min_7cf53_10 : decode cJ9_min_7cf53 10 = .ok (.ireturn, 1) := by decide +kernel
set_option maxRecDepth 20000 in
theorem ggJ0_length_8abf5_J0_coder_7d493 : GoodIn wsJ0_length_8abf5 wsJ0_coder_7d493 := goodIn_r _ [6, 7, 8] (by decide +kernel) (by decide +kernel)
set_option maxRecDepth 20000 in
theorem gJ0_length_8abf5_J0_coder_7d493 : GoodIn wsJ0_length_8abf5 (wsV RJ0 335 RJ0 yJ0_coder_7d493 wsJ0_coder_7d493) := goodIn_app (goodIn_of _ (by decide +kernel)) ggJ0_length_8abf5_J0_coder_7d493
theorem dJ0_length_8abf5_0 : decode cJ0_length_8abf5 0 = .ok (.aload_n 0, 1) := by decide +kernel
theorem dJ0_length_8abf5_1 : decode cJ0_length_8abf5 1 = .ok (.getfield 9, 3) := by decide +kernel
theorem dJ0_length_8abf5_4 : decode cJ0_length_8abf5 4 = .ok (.arraylength, 1) := by decide +kernel
theorem dJ0_length_8abf5_5 : decode cJ0_length_8abf5 5 = .ok (.aload_n 0, 1) := by decide +kernel
theorem dJ0_length_8abf5_6 : decode cJ0_length_8abf5 6 = .ok (.invokevirtual 335, 3) := by decide +kernel
theorem dJ0_length_8abf5_9 : decode cJ0_length_8abf5 9 = .ok (.ishr, 1) := by decide +kernel
theorem dJ0_length_8abf5_10 : decode cJ0_length_8abf5 10 = .ok (.ireturn, 1) := by decide +kernel
set_option maxRecDepth 20000 in
theorem ggJ0_charAt_5068e_J0_isLatin1_aae02 : GoodIn wsJ0_charAt_5068e wsJ0_isLatin1_aae02 := goodIn_r _ [6, 7, 8] (by decide +kernel) (by decide +kernel)
set_option maxRecDepth 20000 in
theorem gJ0_charAt_5068e_J0_isLatin1_aae02 : GoodIn wsJ0_charAt_5068e (wsV RJ0 492 RJ0 yJ0_isLatin1_aae02 wsJ0_isLatin1_aae02) := goodIn_app (goodIn_of _ (by decide +kernel)) ggJ0_charAt_5068e_J0_isLatin1_aae02
set_option maxRecDepth 20000 in
theorem ggJ0_charAt_5068e_J1_charAt_3b067 : GoodIn wsJ0_charAt_5068e wsJ1_charAt_3b067 := goodIn_r _ [12, 13, 14, 5, 15, 16, 17, 18, 19, 20] (by decide +kernel) (by decide +kernel)
set_option maxRecDepth 20000 in
theorem gJ0_charAt_5068e_J1_charAt_3b067 : GoodIn wsJ0_charAt_5068e (va_wsS RJ0 495 yJ1_charAt_3b067 wsJ1_charAt_3b067) := goodIn_app (goodIn_of _ (by decide +kernel)) ggJ0_charAt_5068e_J1_charAt_3b067
set_option maxRecDepth 20000 in
theorem ggJ0_charAt_5068e_J2_charAt_3b067 : GoodIn wsJ0_charAt_5068e wsJ2_charAt_3b067 := goodIn_r _ [24, 25, 26, 23, 27, 28, 29, 30, 31, 14, 5, 15, 16, 17, 18, 19, 20, 32, 33, 34, 35, 36, 37] (by decide +kernel) (by decide +kernel)
set_option maxRecDepth 20000 in
theorem gJ0_charAt_5068e_J2_charAt_3b067 : GoodIn wsJ0_charAt_5068e (va_wsS RJ0 498 yJ2_charAt_3b067 wsJ2_charAt_3b067) := goodIn_app (goodIn_of _ (by decide +kernel)) ggJ0_charAt_5068e_J2_charAt_3b067
theorem dJ0_charAt_5068e_0 : decode cJ0_charAt_5068e 0 = .ok (.aload_n 0, 1) := by decide +kernel
theorem dJ0_charAt_5068e_1 : decode cJ0_charAt_5068e 1 = .ok (.invokevirtual 492, 3) := by decide +kernel
theorem dJ0_charAt_5068e_4 : decode cJ0_charAt_5068e 4 = .ok (.ifCond .eq 12, 3) := by decide +kernel
theorem dJ0_charAt_5068e_7 : decode cJ0_charAt_5068e 7 = .ok (.aload_n 0, 1) := by decide +kernel
theorem dJ0_charAt_5068e_8 : decode cJ0_charAt_5068e 8 = .ok (.getfield 9, 3) := by decide +kernel
theorem dJ0_charAt_5068e_11 : decode cJ0_charAt_5068e 11 = .ok (.iload_n 1, 1) := by decide +kernel
theorem dJ0_charAt_5068e_12 : decode cJ0_charAt_5068e 12 = .ok (.invokestatic 495, 3) := by decide +kernel
theorem dJ0_charAt_5068e_15 : decode cJ0_charAt_5068e 15 = .ok (.ireturn, 1) := by decide +kernel
theorem dJ0_charAt_5068e_16 : decode cJ0_charAt_5068e 16 = .ok (.aload_n 0, 1) := by decide +kernel
theorem dJ0_charAt_5068e_17 : decode cJ0_charAt_5068e 17 = .ok (.getfield 9, 3) := by decide +kernel
theorem dJ0_charAt_5068e_20 : decode cJ0_charAt_5068e 20 = .ok (.iload_n 1, 1) := by decide +kernel
theorem dJ0_charAt_5068e_21 : decode cJ0_charAt_5068e 21 = .ok (.invokestatic 498, 3) := by decide +kernel
theorem dJ0_charAt_5068e_24 : decode cJ0_charAt_5068e 24 = .ok (.ireturn, 1) := by decide +kernel
theorem dJ0_coder_7d493_0 : decode cJ0_coder_7d493 0 = .ok (.getstatic 38, 3) := by decide +kernel
theorem dJ0_coder_7d493_3 : decode cJ0_coder_7d493 3 = .ok (.ifCond .eq 10, 3) := by decide +kernel
theorem dJ0_coder_7d493_6 : decode cJ0_coder_7d493 6 = .ok (.aload_n 0, 1) := by decide +kernel
theorem dJ0_coder_7d493_7 : decode cJ0_coder_7d493 7 = .ok (.getfield 15, 3) := by decide +kernel
theorem dJ0_coder_7d493_10 : decode cJ0_coder_7d493 10 = .ok (.goto 4, 3) := by decide +kernel
theorem dJ0_coder_7d493_13 : decode cJ0_coder_7d493 13 = .ok (.iconst 1, 1) := by decide +kernel
theorem dJ0_coder_7d493_14 : decode cJ0_coder_7d493 14 = .ok (.ireturn, 1) := by decide +kernel
theorem dJ0_isLatin1_aae02_0 : decode cJ0_isLatin1_aae02 0 = .ok (.getstatic 38, 3) := by decide +kernel
theorem dJ0_isLatin1_aae02_3 : decode cJ0_isLatin1_aae02 3 = .ok (.ifCond .eq 14, 3) := by decide +kernel
theorem dJ0_isLatin1_aae02_6 : decode cJ0_isLatin1_aae02 6 = .ok (.aload_n 0, 1) := by decide +kernel
theorem dJ0_isLatin1_aae02_7 : decode cJ0_isLatin1_aae02 7 = .ok (.getfield 15, 3) := by decide +kernel
theorem dJ0_isLatin1_aae02_10 : decode cJ0_isLatin1_aae02 10 = .ok (.ifCond .ne 7, 3) := by decide +kernel
theorem dJ0_isLatin1_aae02_13 : decode cJ0_isLatin1_aae02 13 = .ok (.iconst 1, 1) := by decide +kernel
theorem dJ0_isLatin1_aae02_14 : decode cJ0_isLatin1_aae02 14 = .ok (.goto 4, 3) := by decide +kernel
theorem dJ0_isLatin1_aae02_17 : decode cJ0_isLatin1_aae02 17 = .ok (.iconst 0, 1) := by decide +kernel
theorem dJ0_isLatin1_aae02_18 : decode cJ0_isLatin1_aae02 18 = .ok (.ireturn, 1) := by decide +kernel
set_option maxRecDepth 20000 in
theorem ggJ0_checkIndex_df160_J3_checkIndex_8e157 : GoodIn wsJ0_checkIndex_df160 wsJ3_checkIndex_8e157 := goodIn_r _ [5] (by decide +kernel) (by decide +kernel)
set_option maxRecDepth 20000 in
theorem gJ0_checkIndex_df160_J3_checkIndex_8e157 : GoodIn wsJ0_checkIndex_df160 (va_wsS RJ0 1059 yJ3_checkIndex_8e157 wsJ3_checkIndex_8e157) := goodIn_app (goodIn_of _ (by decide +kernel)) ggJ0_checkIndex_df160_J3_checkIndex_8e157
theorem dJ0_checkIndex_df160_0 : decode cJ0_checkIndex_df160 0 = .ok (.iload_n 0, 1) := by decide +kernel
theorem dJ0_checkIndex_df160_1 : decode cJ0_checkIndex_df160 1 = .ok (.iload_n 1, 1) := by decide +kernel
theorem dJ0_checkIndex_df160_2 : decode cJ0_checkIndex_df160 2 = .ok (.getstatic 1053, 3) := by decide +kernel
theorem dJ0_checkIndex_df160_5 : decode cJ0_checkIndex_df160 5 = .ok (.invokestatic 1059, 3) := by decide +kernel
theorem dJ0_checkIndex_df160_8 : decode cJ0_checkIndex_df160 8 = .ok (.pop, 1) := by decide +kernel
theorem dJ0_checkIndex_df160_9 : decode cJ0_checkIndex_df160 9 = .ok (.return_, 1) := by decide +kernel
set_option maxRecDepth 20000 in
theorem ggJ1_charAt_3b067_J0_checkIndex_df160 : GoodIn wsJ1_charAt_3b067 wsJ0_checkIndex_df160 := goodIn_r _ [4, 5, 6, 7, 8, 9] (by decide +kernel) (by decide +kernel)
set_option maxRecDepth 20000 in
theorem gJ1_charAt_3b067_J0_checkIndex_df160 : GoodIn wsJ1_charAt_3b067 (va_wsS RJ1 9 yJ0_checkIndex_df160 wsJ0_checkIndex_df160) := goodIn_app (goodIn_of _ (by decide +kernel)) ggJ1_charAt_3b067_J0_checkIndex_df160
theorem dJ1_charAt_3b067_0 : decode cJ1_charAt_3b067 0 = .ok (.iload_n 1, 1) := by decide +kernel
theorem dJ1_charAt_3b067_1 : decode cJ1_charAt_3b067 1 = .ok (.aload_n 0, 1) := by decide +kernel
theorem dJ1_charAt_3b067_2 : decode cJ1_charAt_3b067 2 = .ok (.arraylength, 1) := by decide +kernel
theorem dJ1_charAt_3b067_3 : decode cJ1_charAt_3b067 3 = .ok (.invokestatic 9, 3) := by decide +kernel
theorem dJ1_charAt_3b067_6 : decode cJ1_charAt_3b067 6 = .ok (.aload_n 0, 1) := by decide +kernel
theorem dJ1_charAt_3b067_7 : decode cJ1_charAt_3b067 7 = .ok (.iload_n 1, 1) := by decide +kernel
theorem dJ1_charAt_3b067_8 : decode cJ1_charAt_3b067 8 = .ok (.baload, 1) := by decide +kernel
theorem dJ1_charAt_3b067_9 : decode cJ1_charAt_3b067 9 = .ok (.sipush 255, 3) := by decide +kernel
theorem dJ1_charAt_3b067_12 : decode cJ1_charAt_3b067 12 = .ok (.iand, 1) := by decide +kernel
theorem dJ1_charAt_3b067_13 : decode cJ1_charAt_3b067 13 = .ok (.i2c, 1) := by decide +kernel
theorem dJ1_charAt_3b067_14 : decode cJ1_charAt_3b067 14 = .ok (.ireturn, 1) := by decide +kernel
set_option maxRecDepth 20000 in
theorem ggJ2_getChar_3b067_J2_length_9d52b : GoodIn wsJ2_getChar_3b067 wsJ2_length_9d52b := goodIn_r _ [7] (by decide +kernel) (by decide +kernel)
set_option maxRecDepth 20000 in
theorem gJ2_getChar_3b067_J2_length_9d52b : GoodIn wsJ2_getChar_3b067 (va_wsS RJ2 48 yJ2_length_9d52b wsJ2_length_9d52b) := goodIn_app (goodIn_of _ (by decide +kernel)) ggJ2_getChar_3b067_J2_length_9d52b
theorem dJ2_getChar_3b067_0 : decode cJ2_getChar_3b067 0 = .ok (.getstatic 44, 3) := by decide +kernel
theorem dJ2_getChar_3b067_3 : decode cJ2_getChar_3b067 3 = .ok (.ifCond .ne 25, 3) := by decide +kernel
theorem dJ2_getChar_3b067_6 : decode cJ2_getChar_3b067 6 = .ok (.iload_n 1, 1) := by decide +kernel
theorem dJ2_getChar_3b067_7 : decode cJ2_getChar_3b067 7 = .ok (.ifCond .lt 11, 3) := by decide +kernel
theorem dJ2_getChar_3b067_10 : decode cJ2_getChar_3b067 10 = .ok (.iload_n 1, 1) := by decide +kernel
theorem dJ2_getChar_3b067_11 : decode cJ2_getChar_3b067 11 = .ok (.aload_n 0, 1) := by decide +kernel
theorem dJ2_getChar_3b067_12 : decode cJ2_getChar_3b067 12 = .ok (.invokestatic 48, 3) := by decide +kernel
theorem dJ2_getChar_3b067_15 : decode cJ2_getChar_3b067 15 = .ok (.if_icmp .lt 13, 3) := by decide +kernel
theorem dJ2_getChar_3b067_18 : decode cJ2_getChar_3b067 18 = .ok (.new 52, 3) := by decide +kernel
theorem dJ2_getChar_3b067_21 : decode cJ2_getChar_3b067 21 = .ok (.dup, 1) := by decide +kernel
theorem dJ2_getChar_3b067_22 : decode cJ2_getChar_3b067 22 = .ok (.ldc 54, 2) := by decide +kernel
theorem dJ2_getChar_3b067_24 : decode cJ2_getChar_3b067 24 = .ok (.invokespecial 56, 3) := by decide +kernel
theorem dJ2_getChar_3b067_27 : decode cJ2_getChar_3b067 27 = .ok (.athrow, 1) := by decide +kernel
theorem dJ2_getChar_3b067_28 : decode cJ2_getChar_3b067 28 = .ok (.iload_n 1, 1) := by decide +kernel
theorem dJ2_getChar_3b067_29 : decode cJ2_getChar_3b067 29 = .ok (.iconst 1, 1) := by decide +kernel
theorem dJ2_getChar_3b067_30 : decode cJ2_getChar_3b067 30 = .ok (.ishl, 1) := by decide +kernel
theorem dJ2_getChar_3b067_31 : decode cJ2_getChar_3b067 31 = .ok (.istore_n 1, 1) := by decide +kernel
theorem dJ2_getChar_3b067_32 : decode cJ2_getChar_3b067 32 = .ok (.aload_n 0, 1) := by decide +kernel
theorem dJ2_getChar_3b067_33 : decode cJ2_getChar_3b067 33 = .ok (.iload_n 1, 1) := by decide +kernel
theorem dJ2_getChar_3b067_34 : decode cJ2_getChar_3b067 34 = .ok (.iinc 1 1, 3) := by decide +kernel
theorem dJ2_getChar_3b067_37 : decode cJ2_getChar_3b067 37 = .ok (.baload, 1) := by decide +kernel
theorem dJ2_getChar_3b067_38 : decode cJ2_getChar_3b067 38 = .ok (.sipush 255, 3) := by decide +kernel
theorem dJ2_getChar_3b067_41 : decode cJ2_getChar_3b067 41 = .ok (.iand, 1) := by decide +kernel
theorem dJ2_getChar_3b067_42 : decode cJ2_getChar_3b067 42 = .ok (.getstatic 59, 3) := by decide +kernel
theorem dJ2_getChar_3b067_45 : decode cJ2_getChar_3b067 45 = .ok (.ishl, 1) := by decide +kernel
theorem dJ2_getChar_3b067_46 : decode cJ2_getChar_3b067 46 = .ok (.aload_n 0, 1) := by decide +kernel
theorem dJ2_getChar_3b067_47 : decode cJ2_getChar_3b067 47 = .ok (.iload_n 1, 1) := by decide +kernel
theorem dJ2_getChar_3b067_48 : decode cJ2_getChar_3b067 48 = .ok (.baload, 1) := by decide +kernel
theorem dJ2_getChar_3b067_49 : decode cJ2_getChar_3b067 49 = .ok (.sipush 255, 3) := by decide +kernel
theorem dJ2_getChar_3b067_52 : decode cJ2_getChar_3b067 52 = .ok (.iand, 1) := by decide +kernel
theorem dJ2_getChar_3b067_53 : decode cJ2_getChar_3b067 53 = .ok (.getstatic 63, 3) := by decide +kernel
theorem dJ2_getChar_3b067_56 : decode cJ2_getChar_3b067 56 = .ok (.ishl, 1) := by decide +kernel
theorem dJ2_getChar_3b067_57 : decode cJ2_getChar_3b067 57 = .ok (.ior, 1) := by decide +kernel
theorem dJ2_getChar_3b067_58 : decode cJ2_getChar_3b067 58 = .ok (.i2c, 1) := by decide +kernel
theorem dJ2_getChar_3b067_59 : decode cJ2_getChar_3b067 59 = .ok (.ireturn, 1) := by decide +kernel
theorem dJ2_length_9d52b_0 : decode cJ2_length_9d52b 0 = .ok (.aload_n 0, 1) := by decide +kernel
theorem dJ2_length_9d52b_1 : decode cJ2_length_9d52b 1 = .ok (.arraylength, 1) := by decide +kernel
theorem dJ2_length_9d52b_2 : decode cJ2_length_9d52b 2 = .ok (.iconst 1, 1) := by decide +kernel
theorem dJ2_length_9d52b_3 : decode cJ2_length_9d52b 3 = .ok (.ishr, 1) := by decide +kernel
theorem dJ2_length_9d52b_4 : decode cJ2_length_9d52b 4 = .ok (.ireturn, 1) := by decide +kernel
set_option maxRecDepth 20000 in
theorem ggJ2_charAt_3b067_J2_checkIndex_2214a : GoodIn wsJ2_charAt_3b067 wsJ2_checkIndex_2214a := goodIn_r _ [4, 5, 6, 3, 7, 8, 9, 10, 11, 12, 13, 14, 15, 16] (by decide +kernel) (by decide +kernel)
set_option maxRecDepth 20000 in
theorem gJ2_charAt_3b067_J2_checkIndex_2214a : GoodIn wsJ2_charAt_3b067 (va_wsS RJ2 67 yJ2_checkIndex_2214a wsJ2_checkIndex_2214a) := goodIn_app (goodIn_of _ (by decide +kernel)) ggJ2_charAt_3b067_J2_checkIndex_2214a
set_option maxRecDepth 20000 in
theorem ggJ2_charAt_3b067_J2_getChar_3b067 : GoodIn wsJ2_charAt_3b067 wsJ2_getChar_3b067 := goodIn_r _ [19, 20, 21, 22, 5, 6, 3, 7] (by decide +kernel) (by decide +kernel)
set_option maxRecDepth 20000 in
theorem gJ2_charAt_3b067_J2_getChar_3b067 : GoodIn wsJ2_charAt_3b067 (va_wsS RJ2 71 yJ2_getChar_3b067 wsJ2_getChar_3b067) := goodIn_app (goodIn_of _ (by decide +kernel)) ggJ2_charAt_3b067_J2_getChar_3b067
theorem dJ2_charAt_3b067_0 : decode cJ2_charAt_3b067 0 = .ok (.iload_n 1, 1) := by decide +kernel
theorem dJ2_charAt_3b067_1 : decode cJ2_charAt_3b067 1 = .ok (.aload_n 0, 1) := by decide +kernel
theorem dJ2_charAt_3b067_2 : decode cJ2_charAt_3b067 2 = .ok (.invokestatic 67, 3) := by decide +kernel
theorem dJ2_charAt_3b067_5 : decode cJ2_charAt_3b067 5 = .ok (.aload_n 0, 1) := by decide +kernel
theorem dJ2_charAt_3b067_6 : decode cJ2_charAt_3b067 6 = .ok (.iload_n 1, 1) := by decide +kernel
theorem dJ2_charAt_3b067_7 : decode cJ2_charAt_3b067 7 = .ok (.invokestatic 71, 3) := by decide +kernel
theorem dJ2_charAt_3b067_10 : decode cJ2_charAt_3b067 10 = .ok (.ireturn, 1) := by decide +kernel
set_option maxRecDepth 20000 in
theorem ggJ2_checkIndex_2214a_J2_length_9d52b : GoodIn wsJ2_checkIndex_2214a wsJ2_length_9d52b := goodIn_r _ [4] (by decide +kernel) (by decide +kernel)
set_option maxRecDepth 20000 in
theorem gJ2_checkIndex_2214a_J2_length_9d52b : GoodIn wsJ2_checkIndex_2214a (va_wsS RJ2 48 yJ2_length_9d52b wsJ2_length_9d52b) := goodIn_app (goodIn_of _ (by decide +kernel)) ggJ2_checkIndex_2214a_J2_length_9d52b
set_option maxRecDepth 20000 in
theorem ggJ2_checkIndex_2214a_J0_checkIndex_df160 : GoodIn wsJ2_checkIndex_2214a wsJ0_checkIndex_df160 := goodIn_r _ [8, 9, 10, 11, 12, 13] (by decide +kernel) (by decide +kernel)
set_option maxRecDepth 20000 in
theorem gJ2_checkIndex_2214a_J0_checkIndex_df160 : GoodIn wsJ2_checkIndex_2214a (va_wsS RJ2 414 yJ0_checkIndex_df160 wsJ0_checkIndex_df160) := goodIn_app (goodIn_of _ (by decide +kernel)) ggJ2_checkIndex_2214a_J0_checkIndex_df160
theorem dJ2_checkIndex_2214a_0 : decode cJ2_checkIndex_2214a 0 = .ok (.iload_n 0, 1) := by decide +kernel
theorem dJ2_checkIndex_2214a_1 : decode cJ2_checkIndex_2214a 1 = .ok (.aload_n 1, 1) := by decide +kernel
theorem dJ2_checkIndex_2214a_2 : decode cJ2_checkIndex_2214a 2 = .ok (.invokestatic 48, 3) := by decide +kernel
theorem dJ2_checkIndex_2214a_5 : decode cJ2_checkIndex_2214a 5 = .ok (.invokestatic 414, 3) := by decide +kernel
theorem dJ2_checkIndex_2214a_8 : decode cJ2_checkIndex_2214a 8 = .ok (.return_, 1) := by decide +kernel
theorem dJ7_fill_53178_0 : decode cJ7_fill_53178 0 = .ok (.iconst 0, 1) := by decide +kernel
theorem dJ7_fill_53178_1 : decode cJ7_fill_53178 1 = .ok (.istore_n 2, 1) := by decide +kernel
theorem dJ7_fill_53178_2 : decode cJ7_fill_53178 2 = .ok (.aload_n 0, 1) := by decide +kernel
theorem dJ7_fill_53178_3 : decode cJ7_fill_53178 3 = .ok (.arraylength, 1) := by decide +kernel
theorem dJ7_fill_53178_4 : decode cJ7_fill_53178 4 = .ok (.istore_n 3, 1) := by decide +kernel
theorem dJ7_fill_53178_5 : decode cJ7_fill_53178 5 = .ok (.iload_n 2, 1) := by decide +kernel
theorem dJ7_fill_53178_6 : decode cJ7_fill_53178 6 = .ok (.iload_n 3, 1) := by decide +kernel
theorem dJ7_fill_53178_7 : decode cJ7_fill_53178 7 = .ok (.if_icmp .ge 13, 3) := by decide +kernel
theorem dJ7_fill_53178_10 : decode cJ7_fill_53178 10 = .ok (.aload_n 0, 1) := by decide +kernel
theorem dJ7_fill_53178_11 : decode cJ7_fill_53178 11 = .ok (.iload_n 2, 1) := by decide +kernel
theorem dJ7_fill_53178_12 : decode cJ7_fill_53178 12 = .ok (.iload_n 1, 1) := by decide +kernel
theorem dJ7_fill_53178_13 : decode cJ7_fill_53178 13 = .ok (.iastore, 1) := by decide +kernel
theorem dJ7_fill_53178_14 : decode cJ7_fill_53178 14 = .ok (.iinc 2 1, 3) := by decide +kernel
theorem dJ7_fill_53178_17 : decode cJ7_fill_53178 17 = .ok (.goto (-12), 3) := by decide +kernel
theorem dJ7_fill_53178_20 : decode cJ7_fill_53178 20 = .ok (.return_, 1) := by decide +kernel
theorem dJ7_copyOf_59c91_0 : decode cJ7_copyOf_59c91 0 = .ok (.iload_n 1, 1) := by decide +kernel
theorem dJ7_copyOf_59c91_1 : decode cJ7_copyOf_59c91 1 = .ok (.aload_n 0, 1) := by decide +kernel
theorem dJ7_copyOf_59c91_2 : decode cJ7_copyOf_59c91 2 = .ok (.arraylength, 1) := by decide +kernel
theorem dJ7_copyOf_59c91_3 : decode cJ7_copyOf_59c91 3 = .ok (.if_icmp .ne 11, 3) := by decide +kernel
theorem dJ7_copyOf_59c91_6 : decode cJ7_copyOf_59c91 6 = .ok (.aload_n 0, 1) := by decide +kernel
theorem dJ7_copyOf_59c91_7 : decode cJ7_copyOf_59c91 7 = .ok (.invokevirtual 316, 3) := by decide +kernel
theorem dJ7_copyOf_59c91_10 : decode cJ7_copyOf_59c91 10 = .ok (.checkcast 317, 3) := by decide +kernel
theorem dJ7_copyOf_59c91_13 : decode cJ7_copyOf_59c91 13 = .ok (.areturn, 1) := by decide +kernel
theorem dJ7_copyOf_59c91_14 : decode cJ7_copyOf_59c91 14 = .ok (.iload_n 1, 1) := by decide +kernel
theorem dJ7_copyOf_59c91_15 : decode cJ7_copyOf_59c91 15 = .ok (.newarray .int, 2) := by decide +kernel
theorem dJ7_copyOf_59c91_17 : decode cJ7_copyOf_59c91 17 = .ok (.astore_n 2, 1) := by decide +kernel
theorem dJ7_copyOf_59c91_18 : decode cJ7_copyOf_59c91 18 = .ok (.aload_n 0, 1) := by decide +kernel
theorem dJ7_copyOf_59c91_19 : decode cJ7_copyOf_59c91 19 = .ok (.iconst 0, 1) := by decide +kernel
theorem dJ7_copyOf_59c91_20 : decode cJ7_copyOf_59c91 20 = .ok (.aload_n 2, 1) := by decide +kernel
theorem dJ7_copyOf_59c91_21 : decode cJ7_copyOf_59c91 21 = .ok (.iconst 0, 1) := by decide +kernel
theorem dJ7_copyOf_59c91_22 : decode cJ7_copyOf_59c91 22 = .ok (.aload_n 0, 1) := by decide +kernel
theorem dJ7_copyOf_59c91_23 : decode cJ7_copyOf_59c91 23 = .ok (.arraylength, 1) := by decide +kernel
theorem dJ7_copyOf_59c91_24 : decode cJ7_copyOf_59c91 24 = .ok (.iload_n 1, 1) := by decide +kernel
theorem dJ7_copyOf_59c91_25 : decode cJ7_copyOf_59c91 25 = .ok (.invokestatic 304, 3) := by decide +kernel
theorem dJ7_copyOf_59c91_28 : decode cJ7_copyOf_59c91 28 = .ok (.invokestatic 150, 3) := by decide +kernel
theorem dJ7_copyOf_59c91_31 : decode cJ7_copyOf_59c91 31 = .ok (.aload_n 2, 1) := by decide +kernel
theorem dJ7_copyOf_59c91_32 : decode cJ7_copyOf_59c91 32 = .ok (.areturn, 1) := by decide +kernel
theorem dJ3_checkIndex_8e157_0 : decode cJ3_checkIndex_8e157 0 = .ok (.iload_n 0, 1) := by decide +kernel
theorem dJ3_checkIndex_8e157_1 : decode cJ3_checkIndex_8e157 1 = .ok (.ifCond .lt 8, 3) := by decide +kernel
theorem dJ3_checkIndex_8e157_4 : decode cJ3_checkIndex_8e157 4 = .ok (.iload_n 0, 1) := by decide +kernel
theorem dJ3_checkIndex_8e157_5 : decode cJ3_checkIndex_8e157 5 = .ok (.iload_n 1, 1) := by decide +kernel
theorem dJ3_checkIndex_8e157_6 : decode cJ3_checkIndex_8e157 6 = .ok (.if_icmp .lt 10, 3) := by decide +kernel
theorem dJ3_checkIndex_8e157_9 : decode cJ3_checkIndex_8e157 9 = .ok (.aload_n 2, 1) := by decide +kernel
theorem dJ3_checkIndex_8e157_10 : decode cJ3_checkIndex_8e157 10 = .ok (.iload_n 0, 1) := by decide +kernel
theorem dJ3_checkIndex_8e157_11 : decode cJ3_checkIndex_8e157 11 = .ok (.iload_n 1, 1) := by decide +kernel
theorem dJ3_checkIndex_8e157_12 : decode cJ3_checkIndex_8e157 12 = .ok (.invokestatic 95, 3) := by decide +kernel
theorem dJ3_checkIndex_8e157_15 : decode cJ3_checkIndex_8e157 15 = .ok (.athrow, 1) := by decide +kernel
theorem dJ3_checkIndex_8e157_16 : decode cJ3_checkIndex_8e157 16 = .ok (.iload_n 0, 1) := by decide +kernel
theorem dJ3_checkIndex_8e157_17 : decode cJ3_checkIndex_8e157 17 = .ok (.ireturn, 1) := by decide +kernel
abbrev vwCl : List vw_C := [(RX0, TX0, 5), (RX2, TX2, 6), (RX3, TX3, 7), (RX4, TX4, 5), (RX6, TX6, 3), (RX7, TX7, 3), (RX8, TX8, 2), (RX9, TX9, 15), (RX10, TX10, 42)]
end
section
/-! own words: 'throw new NoSuchElementException(text)' as this build links it (the first link at entry 13); after the library's ctorThrowS and the printed vx_throwS -/
abbrev NSE : String := "java/util/NoSuchElementException"
abbrev RTE : String := "java/lang/RuntimeException"
abbrev EXC : String := "java/lang/Exception"
def z13 : ByteArray := prog_28_method_4_code
theorem z13_0 : decode z13 0 = .ok (.aload_n 0, 1) := by decide +kernel
theorem z13_1 : decode z13 1 = .ok (.aload_n 1, 1) := by decide +kernel
theorem z13_2 : decode z13 2 = .ok (.invokespecial 13, 3) := by decide +kernel
theorem z13_5 : decode z13 5 = .ok (.return_, 1) := by decide +kernel
def zLast : List Cond := [.methodLink RX9 199 (Bundle.initS NSE), .instantiable NSE 6, .castable NSE NSE, .selects NSE Bundle.tFill0 Bundle.tFill0, .selects NSE Bundle.tFill Bundle.tFill,
   .lays NSE Bundle.tN "cause" "Ljava/lang/Throwable;", .lays NSE Bundle.tN "stackTrace" Bundle.steD, .lays NSE Bundle.tN "suppressedExceptions" Bundle.listD, .lays NSE Bundle.tN "detailMessage" "Ljava/lang/String;",
   .isRef (.static Bundle.tN "UNASSIGNED_STACK" Bundle.steD), .isRef (.static Bundle.tN "SUPPRESSED_SENTINEL" Bundle.listD),
   .fieldLink Bundle.tN 198 Bundle.tN "backtrace" "Ljava/lang/Object;", .lays Bundle.tN Bundle.tN "backtrace" "Ljava/lang/Object;", .lays NSE Bundle.tN "backtrace" "Ljava/lang/Object;"]
def zFirst : List Cond := Bundle.passSAtoms NSE RTE 13 z13
def zChain : List Cond := Bundle.chainSAtoms RTE [EXC]
def zAtoms : List Cond := Bundle.throwableAtoms ++ (Bundle.throwableSAtoms ++ (zFirst ++ (zChain ++ zLast)))
theorem zIn1 {w : Cond} (h : w ∈ Bundle.throwableAtoms) : w ∈ zAtoms := List.mem_append_left _ h
theorem zIn2 {w : Cond} (h : w ∈ Bundle.throwableSAtoms) : w ∈ zAtoms := List.mem_append_right _ (List.mem_append_left _ h)
theorem zIn3 {w : Cond} (h : w ∈ zFirst) : w ∈ zAtoms := List.mem_append_right _ (List.mem_append_right _ (List.mem_append_left _ h))
theorem zIn4 {w : Cond} (h : w ∈ zChain) : w ∈ zAtoms := List.mem_append_right _ (List.mem_append_right _ (List.mem_append_right _ (List.mem_append_left _ h)))
theorem zIn5 (k : Nat) {w : Cond} (h : zLast[k]? = some w) : w ∈ zAtoms := List.mem_append_right _ (List.mem_append_right _ (List.mem_append_right _ (List.mem_append_right _ (List.mem_of_getElem? h))))
section ZC
variable {p : Program} {l : Launch} {e : Env} {R : Room} {s : State} {m₀ : MethodId} {args : Array Value} {below : List Frame} {meth : Method} {c : Code} {W : State} {locs : List Loc} {cells slots : Nat}
set_option maxHeartbeats 1000000 in
theorem z_ctor (X : Stand p l e R s m₀ args below meth c W locs cells slots) (hexec : p.tables.exec = Jvm.exec) (htr : e.platform.stackTraces = false)
    (hown : s.vm.findClass RX9 = some m₀.cls) (h : ∀ a ∈ zAtoms, a.before args s = true)
    (hlocs : ∀ x ∈ locs, ∀ cell, s.heap[x.base]? = some cell → cell.vm.isStatics = false)
    {a : Addr} {cX : ClassId} {kX : Class} (hfoundX : s.vm.findClass NSE = some cX) (hkX : s.vm.classes[cX]? = some kX) (hcell : W.heap[a]? = some (freshCell cX kX)) (hnew : s.heap.size ≤ a)
    {msg : Value} (hmsg : msg.isRef = true)
    {g : JFrame} (hg : g.method = m₀) (hsize : g.locals.size = c.maxLocals) (hlocked : g.locked = none) (hentered : g.entered = []) {rest : List Value} (hstack : g.stack = msg :: .ref a :: .ref a :: rest)
    (hd6 : decode c.code g.pc = .ok (.invokespecial 199, 3)) (hd9 : decode c.code (g.pc + 3) = .ok (.athrow, 1)) (hout : ∀ x ∈ c.exceptionTable.toList, covers x (g.pc + 3) = false)
    (hRframes : 5 < R.frames) (hRlocals : 2 * g.monitorRoom + ((Value.ref a :: rest).map fun v => v.category).sum + (13 * 3 + 42) ≤ R.locals) (hlocks : meth.locks = false) :
    ∃ U : State, Steps p.tables e below (W.setTop g) U ∧ U.status = .running ∧ Ended U below (.threw a) ∧ s.WarmedH U.vm ∧ s.sameButNew ({ U with vm := s.vm } : State) locs cells slots ∧
      ∃ ce, U.heap[a]? = some ce ∧ s.vm.findClass NSE = some ce.cls ∧ ce.vm = .none := by
  have howns : e.platform.frameOwnsMonitors = true := by rw [X.admits.platform]
  have hfin : e.platform.finalization = false := by rw [X.admits.platform]
  have hpl : e.platform.magicAccessors = ({} : Platform).magicAccessors := by rw [X.admits.platform]
  have a' : ∀ x, x ∈ zAtoms → x.holds args s none s [] = true := fun x hx => h x hx
  obtain ⟨T, Z0, L, -, Y⟩ := ThrowableC.of_atoms (args := args) howns hfin hpl (fun x hx => h x (zIn1 hx))
  obtain ⟨Z, M, LZ, LM, hnZ⟩ := Init0T.ofS_atoms (args := args) hpl L Y (fun x hx => h x (zIn2 hx))
  obtain ⟨P1, L1, hP1m, hs1⟩ := PassC.ofS_atoms (args := args) (s := s) hpl (X := NSE) (Y := RTE) (by decide +kernel) (by decide +kernel) z13_0 z13_1 z13_2 z13_5 (fun x hx => h x (zIn3 hx))
  obtain ⟨P2, Ps, hlen, L2, hL, hP2m, hlink1, hlink⟩ := Bundle.chainS (args := args) hpl hnZ [EXC] RTE (by decide +kernel) (by decide +kernel) (fun x hx => h x (zIn4 hx))
  have hsup1 : P1.sup = P2.m := Option.some.inj (hs1.symm.trans hP2m)
  have hfound : s.vm.findClass NSE = some P1.m.cls := findClass_of_methodNamed hP1m
  cases Option.some.inj (hfoundX.symm.trans hfound)
  obtain ⟨c1, kX', hc1, hk, hord, -, -, hn6⟩ := Cond.instantiable_spec (a' (.instantiable NSE 6) (zIn5 1 rfl))
  cases Option.some.inj (hc1.symm.trans hfound)
  cases Option.some.inj (hkX.symm.trans hk)
  have hsel0 : selectMethod e.platform s.vm P1.m.cls T.fill0 = .method T.fill0 := by
    obtain ⟨c2, r2, m2, q1, q2, q3, q4, -⟩ := Cond.selects_spec (a' (.selects NSE Bundle.tFill0 Bundle.tFill0) (zIn5 3 rfl))
    cases Option.some.inj (q1.symm.trans hfound)
    cases Option.some.inj (q2.symm.trans (State.methodFound?_of_named Y.fill0 (by decide)))
    cases Option.some.inj (q3.symm.trans Y.fill0)
    rw [Launch.admits_selectMethod X.admits]; exact q4
  have hselF : selectMethod e.platform s.vm P1.m.cls T.fill = .method T.fill := by
    obtain ⟨c2, r2, m2, q1, q2, q3, q4, -⟩ := Cond.selects_spec (a' (.selects NSE Bundle.tFill Bundle.tFill) (zIn5 4 rfl))
    cases Option.some.inj (q1.symm.trans hfound)
    cases Option.some.inj (q2.symm.trans (State.methodFound?_of_named Y.fill (by decide)))
    cases Option.some.inj (q3.symm.trans Y.fill)
    rw [Launch.admits_selectMethod X.admits]; exact q4
  obtain ⟨cellS0, hcS0, hiss⟩ := Y.statics
  obtain ⟨u0, hu0⟩ := Cond.staticRefV Y.unassigned L.unassignedStatic L.statics hcS0 hiss (a' (.isRef (.static Bundle.tN "UNASSIGNED_STACK" Bundle.steD)) (zIn5 9 rfl))
  obtain ⟨sen, hsen⟩ := Cond.staticRefV Y.sentinel L.sentinelStatic L.statics hcS0 hiss (a' (.isRef (.static Bundle.tN "SUPPRESSED_SENTINEL" Bundle.listD)) (zIn5 10 rfl))
  obtain ⟨ci198, i198, fB, hk198, hg198, ha198, hsB, -, hnB, htB, hffB⟩ := Cond.ownField (t := .object "java/lang/Object") Y.found L.cls (by decide +kernel) (a' (.fieldLink Bundle.tN 198 Bundle.tN "backtrace" "Ljava/lang/Object;") (zIn5 11 rfl)) (a' (.lays Bundle.tN Bundle.tN "backtrace" "Ljava/lang/Object;") (zIn5 12 rfl)) e.platform hpl
  obtain ⟨cellS, hcS', heS, -, hkeep⟩ := X.same.2.2.2.2.2 T.aS cellS0 hcS0
  have hcellS : W.heap[T.aS]? = some cellS := hcS'
  have hout' : ∀ i, (⟨T.aS, i⟩ : Loc) ∉ locs := fun i hmem => by
    have h9 := hlocs _ hmem cellS0 hcS0
    rw [hiss] at h9; cases h9
  have hknownS : cellS.vm ≠ .unknown := by
    rw [heS]; intro hu
    rw [show cellS0.vm = .unknown from hu] at hiss
    cases hiss
  have hneS : T.aS ≠ a := Nat.ne_of_lt (Nat.lt_of_lt_of_le (Array.getElem?_eq_some_iff.mp hcS0).1 hnew)
  obtain ⟨iM, hffM⟩ := Y.msg
  obtain ⟨tyC, dC, hdC, hdnC⟩ := Cond.laysAt hfound hk Y.cause (a' (.lays NSE Bundle.tN "cause" "Ljava/lang/Throwable;") (zIn5 5 rfl))
  obtain ⟨tyS, dS, hdS, hdnS⟩ := Cond.laysAt hfound hk Y.stack (a' (.lays NSE Bundle.tN "stackTrace" Bundle.steD) (zIn5 6 rfl))
  obtain ⟨tyP, dP, hdP, hdnP⟩ := Cond.laysAt hfound hk Y.supp (a' (.lays NSE Bundle.tN "suppressedExceptions" Bundle.listD) (zIn5 7 rfl))
  obtain ⟨tyM, dM, hdM, hdnM⟩ := Cond.laysAt hfound hk hffM (a' (.lays NSE Bundle.tN "detailMessage" "Ljava/lang/String;") (zIn5 8 rfl))
  obtain ⟨tyB, dB, hdB, hdnB⟩ := Cond.laysAt hfound hk hffB (a' (.lays NSE Bundle.tN "backtrace" "Ljava/lang/Object;") (zIn5 13 rfl))
  have bC := Cond.laysApart hdB hdC hdnB hdnC (by rw [hnB, Y.causeName]; decide)
  have bS := Cond.laysApart hdB hdS hdnB hdnS (by rw [hnB, Y.stackName]; decide)
  have bP := Cond.laysApart hdB hdP hdnB hdnP (by rw [hnB, Y.suppName]; decide)
  have hskip : SkipFacts T e.platform s (fun u => u) u0 ((preparedCellV T.toThrowableT (freshCell P1.m.cls kX) a u0 sen).withEntry W.cur) :=
    ⟨{ ci198 := ci198, i198 := i198, fBack := fB }, ⟨hk198, hg198, ha198, hsB⟩, by
      have h9 := fresh_default (c := P1.m.cls) tyB
      rw [htB] at h9
      simpa [preparedCellV, Cell.setSlot, Cell.withEntry, Array.getElem?_setIfInBounds, bC, bS, bP, bC.symm, bS.symm, bP.symm, defaultValue] using h9, fun _ _ => rfl⟩
  have hInst : (Cond.instanceMethod (Bundle.initS NSE)).before args s = true := h _ (zIn3 (by simp [zFirst, Bundle.passSAtoms]))
  have hCode : (Cond.code (Bundle.initS NSE) z13 2 none).before args s = true := h _ (zIn3 (by simp [zFirst, Bundle.passSAtoms]))
  obtain ⟨tm, methC, cdC, kC, vm₁, hnC, -, -, -, -, -, -, -, hW₁, st1⟩ := Steps.initColdS (tb := p.tables) (e := e) (below := below) (s := s) (U := W) X.here hexec X.warmed hpl hown (t := Bundle.initS NSE) rfl rfl (by decide +kernel)
    (a' (.methodLink RX9 199 (Bundle.initS NSE)) (zIn5 0 rfl)) hInst (bytes := z13) (maxL := 2) hCode
    (f := g) hg (a := a) (msg := msg) (rest := .ref a :: rest) hstack hd6
  cases Option.some.inj (hnC.symm.trans hP1m)
  have X₁ := X.noted hW₁
  have hlenP : Ps.length = 1 := hlen
  obtain ⟨vm₂, X₂, st2⟩ := X₁.ctorMessageOffV hexec (g := { g with stack := .ref a :: rest }) hg hsize T L Z LZ M LM (P1 :: P2 :: Ps)
    (fun P hP => by
      rcases List.mem_cons.mp hP with rfl | hP
      · exact L1
      · rcases List.mem_cons.mp hP with rfl | hP
        · exact L2
        · exact hL P hP) ⟨hsup1, hlink1, hlink⟩ (u0 := u0) (sen := sen) (self := a) hmsg (cell := freshCell P1.m.cls kX) (cellS := cellS)
    hcell (fun _ => by simp) (by simp) rfl rfl hsel0 hselF hcellS hneS hknownS (by rw [hkeep _ (hout' _)]; exact hu0) (by rw [hkeep _ (hout' _)]; exact hsen)
    (Takes.of_laid hk hord tyC (by rw [Y.causeType]; rfl)) (Takes.of_laid hk hord tyS (by rw [Y.stackType]; exact fits_refV_array _ u0)) (Takes.of_laid hk hord tyP (by rw [Y.suppType]; exact fits_refV_object _ sen))
    (Takes.of_laid hk hord tyM (by rw [Y.msgType]; exact fits_refV_object _ ⟨msg, hmsg⟩)) Y.objLocals hskip htr [] hd6
    (by simp only [List.length_cons, hlenP]; omega) (by simp only [List.length_cons, hlenP]; exact hRlocals)
  obtain ⟨hwalk, hrun, hended, hWU, hsame⟩ := X₂.athrowLeaves hexec (g := { g with stack := .ref a :: rest, pc := g.pc + 3 }) hg hlocked hentered hout (a := a) (rest := rest) rfl hd9
  have hlt : a < ((W.setVm vm₁).setVm vm₂).heap.size := (Array.getElem?_eq_some_iff.mp hcell).1
  have hU := heapAt_setCell_self (s := (W.setVm vm₁).setVm vm₂) (plainBareV T.toThrowableT (freshCell P1.m.cls kX) a u0 sen msg) hlt
  refine ⟨_, st1 _ (fun acts => ?_), hrun, hended, hWU, hsame.weaken (fun y hy hlt' => ?_) (Nat.le_refl _) (Nat.le_refl _), _, hU, hfound, rfl⟩
  · rw [doInvoke_state]
    exact st2 _ hwalk
  · rcases List.mem_append.mp hy with h1 | h1
    · exact h1
    · exfalso
      have hb : y.base = a := by
        simp only [List.mem_cons, List.not_mem_nil, or_false] at h1
        rcases h1 with rfl | rfl | rfl | rfl | rfl <;> rfl
      rw [hb] at hlt'
      exact Nat.not_lt.mpr hnew hlt'
end ZC
end
